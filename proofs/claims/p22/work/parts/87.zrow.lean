/-! rows over a list of cells, and what stands to be read beside it -/
theorem STR.moved {a v : Nat} {L : List Int32} {A : Nat → Prop} {u U : State} {H : Heap} (hvm : u.vm.Alike U.vm) (h : STR a v L A u H) : STR a v L A U H := ⟨h.1.moved hvm, h.2.1.moved hvm, h.2.2.1.moved hvm, h.2.2.2.moved hvm⟩
theorem STR.kept {a v : Nat} {L : List Int32} {A : Nat → Prop} {U : State} {H H1 : Heap} (h : STR a v L A U H) (hq : ∀ a : Nat, a < H.size → ¬ A a → H1[a]? = H[a]?) : STR a v L A U H1 := ⟨h.1.kept hq, h.2.1.kept hq, h.2.2.1.kept hq, h.2.2.2.kept hq⟩
theorem STR.narrow {a v : Nat} {L : List Int32} {A B : Nat → Prop} {U : State} {H : Heap} (h : STR a v L A U H) (hq : ∀ a, B a → A a) : STR a v L B U H := ⟨h.1.narrow hq, h.2.1.narrow hq, h.2.2.1.narrow hq, h.2.2.2.narrow hq⟩
/-- rows of bytes may be cloned -/
def CAB (U : State) : Prop := ∃ c t : ClassId, U.vm.findClass "[B" = some c ∧ U.vm.findClass "java/lang/Cloneable" = some t ∧ U.vm.assignable c t = true
theorem CAB.moved {u U : State} (hvm : u.vm.Alike U.vm) (h : CAB u) : CAB U := by
  obtain ⟨c, t, h1, h2, h3⟩ := h
  exact ⟨c, t, by rw [hvm.findClass]; exact h1, by rw [hvm.findClass]; exact h2, by rw [hvm.assignable]; exact h3⟩
/-- what stands to be read: the JDK's own, texts, rows of whole numbers, the law's resolved texts -/
abbrev EF : Type := List (Nat × Nat × List Int32) × List (Nat × Nat × (Nat → Int32)) × List (Nat × String × Nat) × (Nat → Nat)
def GT (ta : Nat → Nat) : GG := ((fun _ => 0, fun _ _ => 0), ta, fun _ => 0, ([], []))
theorem TKP.congr {G G' : GG} {A : Nat → Prop} {U : State} {H : Heap} (h : TKP G A U H) (e : ∀ i, 1000 ≤ i → G'.2.1 i = G.2.1 i) : TKP G' A U H := by
  obtain ⟨h1, h2, h3, h4, h5, h6, -, -, h9, h10⟩ := h
  refine ⟨fun i hi => ?_, fun i hi => ?_, ?_, ?_, ?_, ?_, trivial, trivial, h9, h10⟩
  · rw [e (1000 + i) (by omega), e (2000 + tkT i) (by omega)]; exact h1 i hi
  · rw [e (2000 + i) (by omega), e (3000 + i) (by omega)]; exact h2 i hi
  · rw [e 1900 (by omega)]; exact h3
  · rw [e 1900 (by omega), show (fun j => Value.ref (G'.2.1 (1000 + j))) = fun j => Value.ref (G.2.1 (1000 + j)) from funext fun j => by rw [e (1000 + j) (by omega)]]; exact h4
  · rw [e 1901 (by omega)]; exact h5
  · rw [e 1901 (by omega)]; exact h6
def ENV (F : EF) (A : Nat → Prop) (U : State) (H : Heap) : Prop :=
  va_Z "java/lang/String" "COMPACT_STRINGS" "Z" (.int 1) A U H ∧ va_Zq "jdk/internal/util/Preconditions" "SIOOBE_FORMATTER" "Ljava/util/function/BiFunction;" A U H ∧
  (∃ t : Nat, va_Z "java/lang/Integer" "DigitOnes" "[B" (.ref t) A U H ∧ va_T .byte t 100 (fun j => .int (nI (48 + j % 10))) A U H) ∧
  (∃ t : Nat, va_Z "java/lang/Integer" "DigitTens" "[B" (.ref t) A U H ∧ va_T .byte t 100 (fun j => .int (nI (48 + j / 10))) A U H) ∧
  (∀ q ∈ F.1, STR q.1 q.2.1 q.2.2 A U H) ∧ (∀ q ∈ F.2.1, ROW q.1 q.2.1 q.2.2 A U H) ∧ (∀ q ∈ F.2.2.1, vk_R "PeatBogLaw" q.1 q.2.1 q.2.2 U) ∧ CAB U ∧ TKP (GT F.2.2.2) A U H
theorem ENV.kept {F : EF} {A : Nat → Prop} {U : State} {H H1 : Heap} (h : ENV F A U H) (hq : ∀ a : Nat, a < H.size → ¬ A a → H1[a]? = H[a]?) : ENV F A U H1 := by
  obtain ⟨h1, h2, ⟨t3, h3, k3⟩, ⟨t4, h4, k4⟩, h5, h6, h7, h8, h9⟩ := h
  exact ⟨h1.kept hq, h2.kept hq, ⟨t3, h3.kept hq, k3.kept hq⟩, ⟨t4, h4.kept hq, k4.kept hq⟩, fun q m => (h5 q m).kept hq, fun q m => va_T.kept (h6 q m) hq, h7, h8, h9.kept hq⟩
theorem ENV.narrow {F : EF} {A B : Nat → Prop} {U : State} {H : Heap} (h : ENV F A U H) (hq : ∀ a, B a → A a) : ENV F B U H := by
  obtain ⟨h1, h2, ⟨t3, h3, k3⟩, ⟨t4, h4, k4⟩, h5, h6, h7, h8, h9⟩ := h
  exact ⟨h1.narrow hq, h2.narrow hq, ⟨t3, h3.narrow hq, k3.narrow hq⟩, ⟨t4, h4.narrow hq, k4.narrow hq⟩, fun q m => (h5 q m).narrow hq, fun q m => va_T.narrow (h6 q m) hq, h7, h8, h9.narrow hq⟩
theorem ENV.step {F : EF} {A : Nat → Prop} {s U : State} {H : Heap} (hW : s.WarmedH U.vm) (h : ENV F A s H) : ENV F A U H := by
  obtain ⟨h1, h2, ⟨t3, h3, k3⟩, ⟨t4, h4, k4⟩, h5, h6, h7, h8, h9⟩ := h
  exact ⟨h1.moved hW.alike, va_Zq.moved hW.alike h2, ⟨t3, h3.moved hW.alike, k3.moved hW.alike⟩, ⟨t4, h4.moved hW.alike, k4.moved hW.alike⟩, fun q m => (h5 q m).moved hW.alike, fun q m => va_T.moved hW.alike (h6 q m), fun q m => (h7 q m).warm hW, h8.moved hW.alike, h9.moved hW.alike⟩
theorem ENV.calling {F : EF} {A : Nat → Prop} {U : State} {H : Heap} {g : JFrame} {mk : MethodId} {a : Array Value} (h : ENV F A U H) : ENV F A (U.calling g mk a) H := by
  obtain ⟨h1, h2, ⟨t3, h3, k3⟩, ⟨t4, h4, k4⟩, h5, h6, h7, h8, h9⟩ := h
  have hv : U.vm.Alike (U.calling g mk a).vm := Vm.Alike.refl U.vm
  exact ⟨h1.moved hv, va_Zq.moved hv h2, ⟨t3, h3.moved hv, k3.moved hv⟩, ⟨t4, h4.moved hv, k4.moved hv⟩, fun q m => (h5 q m).moved hv, fun q m => va_T.moved hv (h6 q m), fun q m => (h7 q m).same rfl, h8.moved hv, h9.moved hv⟩
theorem ENV.add {F : EF} {A : Nat → Prop} {U : State} {H : Heap} {a v : Nat} {L : List Int32} (h : ENV F A U H) (k : STR a v L A U H) : ENV ((a, v, L) :: F.1, F.2) A U H := by
  obtain ⟨h1, h2, h3, h4, h5, h6, h7, h8, h9⟩ := h
  refine ⟨h1, h2, h3, h4, fun q m => ?_, h6, h7, h8, h9⟩
  rcases List.mem_cons.mp m with rfl | m
  · exact k
  · exact h5 q m
theorem ENV.less {F F' : EF} {A : Nat → Prop} {U : State} {H : Heap} (h : ENV F A U H) (h1 : ∀ q ∈ F'.1, q ∈ F.1) (h2 : ∀ q ∈ F'.2.1, q ∈ F.2.1) (h3 : ∀ q ∈ F'.2.2.1, q ∈ F.2.2.1) (h4 : F'.2.2.2 = F.2.2.2) : ENV F' A U H := by
  obtain ⟨a1, a2, a3, a4, h5, h6, h7, h8, h9⟩ := h
  exact ⟨a1, a2, a3, a4, fun q m => h5 q (h1 q m), fun q m => h6 q (h2 q m), fun q m => h7 q (h3 q m), h8, by rw [h4]; exact h9⟩
theorem ENV.row {F : EF} {A : Nat → Prop} {U : State} {H : Heap} {a N : Nat} {f : Nat → Int32} (h : ENV F A U H) (k : ROW a N f A U H) : ENV (F.1, (a, N, f) :: F.2.1, F.2.2) A U H := by
  obtain ⟨h1, h2, h3, h4, h5, h6, h7, h8, h9⟩ := h
  refine ⟨h1, h2, h3, h4, h5, fun q m => ?_, h7, h8, h9⟩
  rcases List.mem_cons.mp m with rfl | m
  · exact k
  · exact h6 q m
/-- a method beside a list of cells and what stands -/
def YQ (D : DG) (w0 : va_W) (P : Option Value → va_W → Prop) (sz : Nat) : Array Value → State → Outcome → State → Prop := fun _ st oc t => (∃ o w1, oc = .returned o ∧ P o w1 ∧ va_P D.1 CLS w1 t.heap ∧ va_D (va_A w0 sz) w1) ∧ va_F (va_A w0 sz) st t
def Yo (l : Launch) (y : MethodName) (wd : List Cond) (rm : Room) (mc ms : Nat) (vs : List Value) (D : DG) (F : EF) (w0 : va_W) (P : Option Value → va_W → Prop) : Prop :=
  ∀ sz, Met l y wd rm (va_Pc vs (fun U => U.heap.size = sz ∧ va_P D.1 CLS w0 U.heap ∧ KG D U ∧ va_D (fun _ => True) w0 ∧ ENV F (va_A w0 sz) U U.heap)) (YQ D w0 P sz) mc ms (va_A w0 sz)
theorem yo_blind {D : DG} {F : EF} {vs : List Value} {sz : Nat} {w0 : va_W} : FrameBlind (va_Pc vs (fun U => U.heap.size = sz ∧ va_P D.1 CLS w0 U.heap ∧ KG D U ∧ va_D (fun _ => True) w0 ∧ ENV F (va_A w0 sz) U U.heap)) := fun a U g mk h => ⟨h.1, h.2.1, h.2.2.1, h.2.2.2.1.calling, h.2.2.2.2.1, h.2.2.2.2.2.calling⟩
set_option maxRecDepth 20000 in
theorem fw_4 : ∀ w ∈ u_ws RJ0 TJ0 4, w ∈ TBL := by
  intro w hw
  obtain ⟨a, ha, rfl⟩ := List.mem_map.mp hw
  have ha := List.mem_range.mp ha
  match a, ha with
  | 0, _ => exact tb_26 (List.mem_of_getElem? (i := 38) rfl)
  | 1, _ => exact tb_27 (List.mem_of_getElem? (i := 0) rfl)
  | 2, _ => exact tb_27 (List.mem_of_getElem? (i := 2) rfl)
  | 3, _ => exact tb_27 (List.mem_of_getElem? (i := 4) rfl)
  | a + 4, ha => exact absurd ha (by omega)
set_option maxRecDepth 20000 in
theorem fw_5 : ∀ w ∈ u_ws RJ4 TJ4 4, w ∈ TBL := by
  intro w hw
  obtain ⟨a, ha, rfl⟩ := List.mem_map.mp hw
  have ha := List.mem_range.mp ha
  match a, ha with
  | 0, _ => exact tb_22 (List.mem_of_getElem? (i := 30) rfl)
  | 1, _ => exact tb_22 (List.mem_of_getElem? (i := 32) rfl)
  | 2, _ => exact tb_22 (List.mem_of_getElem? (i := 34) rfl)
  | 3, _ => exact tb_22 (List.mem_of_getElem? (i := 36) rfl)
  | a + 4, ha => exact absurd ha (by omega)
theorem kcl_same : Cond.sameMethod "[B" "java/lang/Object" "clone" "()Ljava/lang/Object;" ∈ TBL := tb_23 (List.mem_of_getElem? (i := 28) rfl)
theorem kcl_nat : Cond.native (⟨"java/lang/Object", "clone", "()Ljava/lang/Object;"⟩ : MethodName) ∈ TBL := tb_23 (List.mem_of_getElem? (i := 29) rfl)
theorem kcl_inst : Cond.instanceMethod (⟨"java/lang/Object", "clone", "()Ljava/lang/Object;"⟩ : MethodName) ∈ TBL := tb_23 (List.mem_of_getElem? (i := 30) rfl)
theorem kcl_sel : Cond.selects "[B" (⟨"[B", "clone", "()Ljava/lang/Object;"⟩ : MethodName) (⟨"java/lang/Object", "clone", "()Ljava/lang/Object;"⟩ : MethodName) ∈ TBL := tb_23 (List.mem_of_getElem? (i := 31) rfl)
/-- a text in cells of one's own stands, for whom does not touch them -/
theorem STR.cell {D : DG} {A : Nat → Prop} {s : State} {args : Array Value} {H : Heap} {ws : va_W} {a v N i j : Nat} {hs hz : Value} {f : Nat → Int32} {L : List Int32} (hK : va_K D.1 CLS (CT D) s) (hts : ∀ w ∈ TBL, w.before args s = true) (hP : va_P D.1 CLS ws H) (hi : ws[i]? = some (a, .inr (4, [.ref v, .int 0, hs, hz]))) (hj : ws[j]? = some (v, .inl (D.2 1, N, .inl f))) (hN : N = L.length) (hf : ∀ k, k < N → f k = L.getD k 0) (ha : ¬ A a) (hv : ¬ A v) : STR a v L A s H := by
  obtain ⟨r, h1, cell, q1, q2, q3, q4⟩ := hP i _ hi
  have hr : r = (RJ0, TJ0, 4) := Option.some.inj (h1.symm.trans rfl)
  subst hr
  obtain ⟨hS, hfc, kC, hkC, hkind⟩ := hK.1 4 _ rfl
  have fld : ∀ k w, k < 4 → vp_V [Value.ref v, .int 0, hs, hz] k = w → va_OF (TJ0 k).1 (TJ0 k).2.1 (TJ0 k).2.2.1 w a A s H := by
    intro k w hk hw
    obtain ⟨cf, kf, fi, fl, hi', hsl⟩ := hS k hk
    exact ⟨cf, kf, fi, fl, cell, hi', (u_facts hfc hkC (u_lays hts fw_4 hk) hi').1, q1, by rw [q3]; exact (fun h => by cases h), by rw [hsl, q4 k hk, hw], ha⟩
  obtain ⟨c1, c2, c3, c4⟩ := va_recv hK hP (q := (RJ0, TJ0, 4)) rfl hi
  refine ⟨⟨c1, c2, c3, c4, ha⟩, fld 1 _ (by decide) rfl, fld 0 _ (by decide) rfl, ?_⟩
  have hc : H[v]? = some (vp_cell (D.2 1) (N, .inl f)) := hP j _ hj
  refine ⟨_, hc, ((hK.2 1 _ rfl).1 N (fun j => .int (f j))), (fun h => by cases h), ?_, ?_, fun k hk => ?_, hv⟩
  · rw [vp_cell_i, arrV_size, hN]; exact Nat.le_refl _
  · rw [vp_cell_i, arrV_size, hN]
  · rw [vp_cell_i]
    show _ = some (Value.int (L.getD k 0))
    rw [← hf k (by omega)]; exact arrV_read _ _ (by omega)
theorem ROW.cell {D : DG} {A : Nat → Prop} {s : State} {H : Heap} {ws : va_W} {v N j : Nat} {f : Nat → Int32} (hK : va_K D.1 CLS (CT D) s) (hP : va_P D.1 CLS ws H) (hj : ws[j]? = some (v, .inl (D.2 0, N, .inl f))) (hv : ¬ A v) : ROW v N f A s H := by
  have hc : H[v]? = some (vp_cell (D.2 0) (N, .inl f)) := hP j _ hj
  refine ⟨_, hc, ((hK.2 0 _ rfl).1 N (fun j => .int (f j))), (fun h => by cases h), ?_, ?_, fun k hk => ?_, hv⟩
  · rw [vp_cell_i, arrV_size]; exact Nat.le_refl _
  · rw [vp_cell_i, arrV_size]
  · rw [vp_cell_i]; exact arrV_read _ _ hk
section ZR
variable {p : Program} {l : Launch} {e : Env} {R : Room} {s : State} {m : MethodId} {args : Array Value} {below : List Frame} {meth : Method} {c : Code} {cc : ByteArray} {nL : Nat} {own : String} {D : DG} {A : Nat → Prop} {Q : State → Prop} {k n : Nat} {ws : va_W} {pc : Nat} {lv lv' : List (Nat × Value)} {st : List Value} {ret : Option FieldType}
theorem cx_iadd (hC : CY p s m args meth c cc nL own ret D A) {x y : Int32} (hd : decode cc pc = .ok (.iadd, 1)) (K : XC p l e R s m args below meth c D A nL Q k n ws (pc + 1) lv (.int (x + y) :: st)) : XC p l e R s m args below meth c D A nL Q k n ws pc lv (.int y :: .int x :: st) := by
  obtain ⟨hx, hb, -⟩ := hC
  exact fun H locs ls hP hD hS hl => lv_iadd hx hb hd (K H locs ls hP hD hS hl)
theorem cx_isub (hC : CY p s m args meth c cc nL own ret D A) {x y : Int32} (hd : decode cc pc = .ok (.isub, 1)) (K : XC p l e R s m args below meth c D A nL Q k n ws (pc + 1) lv (.int (x - y) :: st)) : XC p l e R s m args below meth c D A nL Q k n ws pc lv (.int y :: .int x :: st) := by
  obtain ⟨hx, hb, -⟩ := hC
  exact fun H locs ls hP hD hS hl => lv_isub hx hb hd (K H locs ls hP hD hS hl)
theorem cx_imul (hC : CY p s m args meth c cc nL own ret D A) {x y : Int32} (hd : decode cc pc = .ok (.imul, 1)) (K : XC p l e R s m args below meth c D A nL Q k n ws (pc + 1) lv (.int (x * y) :: st)) : XC p l e R s m args below meth c D A nL Q k n ws pc lv (.int y :: .int x :: st) := by
  obtain ⟨hx, hb, -⟩ := hC
  exact fun H locs ls hP hD hS hl => lv_imul hx hb hd (K H locs ls hP hD hS hl)
theorem cx_iand (hC : CY p s m args meth c cc nL own ret D A) {x y : Int32} (hd : decode cc pc = .ok (.iand, 1)) (K : XC p l e R s m args below meth c D A nL Q k n ws (pc + 1) lv (.int (x &&& y) :: st)) : XC p l e R s m args below meth c D A nL Q k n ws pc lv (.int y :: .int x :: st) := by
  obtain ⟨hx, hb, -⟩ := hC
  exact fun H locs ls hP hD hS hl => lv_iand hx hb hd (K H locs ls hP hD hS hl)
theorem cx_ior (hC : CY p s m args meth c cc nL own ret D A) {x y : Int32} (hd : decode cc pc = .ok (.ior, 1)) (K : XC p l e R s m args below meth c D A nL Q k n ws (pc + 1) lv (.int (x ||| y) :: st)) : XC p l e R s m args below meth c D A nL Q k n ws pc lv (.int y :: .int x :: st) := by
  obtain ⟨hx, hb, -⟩ := hC
  exact fun H locs ls hP hD hS hl => lv_ior hx hb hd (K H locs ls hP hD hS hl)
theorem cx_ishr (hC : CY p s m args meth c cc nL own ret D A) {x y : Int32} (hd : decode cc pc = .ok (.ishr, 1)) (K : XC p l e R s m args below meth c D A nL Q k n ws (pc + 1) lv (.int (x >>> (y &&& 31)) :: st)) : XC p l e R s m args below meth c D A nL Q k n ws pc lv (.int y :: .int x :: st) := by
  obtain ⟨hx, hb, -⟩ := hC
  exact fun H locs ls hP hD hS hl => lv_ishr hx hb hd (K H locs ls hP hD hS hl)
theorem cx_ineg (hC : CY p s m args meth c cc nL own ret D A) {x : Int32} (hd : decode cc pc = .ok (.ineg, 1)) (K : XC p l e R s m args below meth c D A nL Q k n ws (pc + 1) lv (.int (-x) :: st)) : XC p l e R s m args below meth c D A nL Q k n ws pc lv (.int x :: st) := by
  obtain ⟨hx, hb, -⟩ := hC
  exact fun H locs ls hP hD hS hl => lv_ineg hx hb hd (K H locs ls hP hD hS hl)
theorem cx_idiv (hC : CY p s m args meth c cc nL own ret D A) {x y : Int32} (hd : decode cc pc = .ok (.idiv, 1)) (hne : ¬ y = 0) (K : XC p l e R s m args below meth c D A nL Q k n ws (pc + 1) lv (.int (x / y) :: st)) : XC p l e R s m args below meth c D A nL Q k n ws pc lv (.int y :: .int x :: st) := by
  obtain ⟨hx, hb, -⟩ := hC
  exact fun H locs ls hP hD hS hl => lv_idiv hx hb hd hne (K H locs ls hP hD hS hl)
theorem cx_irem (hC : CY p s m args meth c cc nL own ret D A) {x y : Int32} (hd : decode cc pc = .ok (.irem, 1)) (hne : ¬ y = 0) (K : XC p l e R s m args below meth c D A nL Q k n ws (pc + 1) lv (.int (x - x / y * y) :: st)) : XC p l e R s m args below meth c D A nL Q k n ws pc lv (.int y :: .int x :: st) := by
  obtain ⟨hx, hb, -⟩ := hC
  exact fun H locs ls hP hD hS hl => lv_irem hx hb hd hne (K H locs ls hP hD hS hl)
theorem cx_pop (hC : CY p s m args meth c cc nL own ret D A) {va : Value} (hd : decode cc pc = .ok (.pop, 1)) (hva : va.category = 1) (K : XC p l e R s m args below meth c D A nL Q k n ws (pc + 1) lv st) : XC p l e R s m args below meth c D A nL Q k n ws pc lv (va :: st) := by
  obtain ⟨hx, hb, -⟩ := hC
  exact fun H locs ls hP hD hS hl => lv_pop hx hb hd hva (K H locs ls hP hD hS hl)
theorem cx_dup2 (hC : CY p s m args meth c cc nL own ret D A) {va vb : Value} (hd : decode cc pc = .ok (.dup2, 1)) (hva : va.category = 1) (hvb : vb.category = 1) (K : XC p l e R s m args below meth c D A nL Q k n ws (pc + 1) lv (va :: vb :: va :: vb :: st)) : XC p l e R s m args below meth c D A nL Q k n ws pc lv (va :: vb :: st) := by
  obtain ⟨hx, hb, -⟩ := hC
  exact fun H locs ls hP hD hS hl => lv_dup2_11 hx hb hd hva hvb (K H locs ls hP hD hS hl)
theorem cx_if_eq (hC : CY p s m args meth c cc nL own ret D A) {x : Int32} {off : Int} (tgt : Nat) (hd : decode cc pc = .ok (.ifCond .eq off, 3)) (ht : (pc : Int) + off = (tgt : Int)) (kt : x = 0 → XC p l e R s m args below meth c D A nL Q k n ws tgt lv st) (kf : ¬ x = 0 → XC p l e R s m args below meth c D A nL Q k n ws (pc + 3) lv st) : XC p l e R s m args below meth c D A nL Q k n ws pc lv (.int x :: st) := by
  obtain ⟨hx, hb, -⟩ := hC
  exact fun H locs ls hP hD hS hl => lv_if_eq hx hb hd ht (fun h => kt h H locs ls hP hD hS hl) (fun h => kf h H locs ls hP hD hS hl)
theorem cx_if_lt (hC : CY p s m args meth c cc nL own ret D A) {x : Int32} {off : Int} (tgt : Nat) (hd : decode cc pc = .ok (.ifCond .lt off, 3)) (ht : (pc : Int) + off = (tgt : Int)) (kt : x < 0 → XC p l e R s m args below meth c D A nL Q k n ws tgt lv st) (kf : ¬ x < 0 → XC p l e R s m args below meth c D A nL Q k n ws (pc + 3) lv st) : XC p l e R s m args below meth c D A nL Q k n ws pc lv (.int x :: st) := by
  obtain ⟨hx, hb, -⟩ := hC
  exact fun H locs ls hP hD hS hl => lv_if_lt hx hb hd ht (fun h => kt h H locs ls hP hD hS hl) (fun h => kf h H locs ls hP hD hS hl)
theorem cx_if_ge (hC : CY p s m args meth c cc nL own ret D A) {x : Int32} {off : Int} (tgt : Nat) (hd : decode cc pc = .ok (.ifCond .ge off, 3)) (ht : (pc : Int) + off = (tgt : Int)) (kt : 0 ≤ x → XC p l e R s m args below meth c D A nL Q k n ws tgt lv st) (kf : ¬ 0 ≤ x → XC p l e R s m args below meth c D A nL Q k n ws (pc + 3) lv st) : XC p l e R s m args below meth c D A nL Q k n ws pc lv (.int x :: st) := by
  obtain ⟨hx, hb, -⟩ := hC
  exact fun H locs ls hP hD hS hl => lv_if_ge hx hb hd ht (fun h => kt h H locs ls hP hD hS hl) (fun h => kf h H locs ls hP hD hS hl)
theorem cx_if_gt (hC : CY p s m args meth c cc nL own ret D A) {x : Int32} {off : Int} (tgt : Nat) (hd : decode cc pc = .ok (.ifCond .gt off, 3)) (ht : (pc : Int) + off = (tgt : Int)) (kt : 0 < x → XC p l e R s m args below meth c D A nL Q k n ws tgt lv st) (kf : ¬ 0 < x → XC p l e R s m args below meth c D A nL Q k n ws (pc + 3) lv st) : XC p l e R s m args below meth c D A nL Q k n ws pc lv (.int x :: st) := by
  obtain ⟨hx, hb, -⟩ := hC
  exact fun H locs ls hP hD hS hl => lv_if_gt hx hb hd ht (fun h => kt h H locs ls hP hD hS hl) (fun h => kf h H locs ls hP hD hS hl)
theorem cx_if_le (hC : CY p s m args meth c cc nL own ret D A) {x : Int32} {off : Int} (tgt : Nat) (hd : decode cc pc = .ok (.ifCond .le off, 3)) (ht : (pc : Int) + off = (tgt : Int)) (kt : x ≤ 0 → XC p l e R s m args below meth c D A nL Q k n ws tgt lv st) (kf : ¬ x ≤ 0 → XC p l e R s m args below meth c D A nL Q k n ws (pc + 3) lv st) : XC p l e R s m args below meth c D A nL Q k n ws pc lv (.int x :: st) := by
  obtain ⟨hx, hb, -⟩ := hC
  exact fun H locs ls hP hD hS hl => lv_if_le hx hb hd ht (fun h => kt h H locs ls hP hD hS hl) (fun h => kf h H locs ls hP hD hS hl)
theorem cx_icmp_eq (hC : CY p s m args meth c cc nL own ret D A) {x y : Int32} {off : Int} (tgt : Nat) (hd : decode cc pc = .ok (.if_icmp .eq off, 3)) (ht : (pc : Int) + off = (tgt : Int)) (kt : x = y → XC p l e R s m args below meth c D A nL Q k n ws tgt lv st) (kf : ¬ x = y → XC p l e R s m args below meth c D A nL Q k n ws (pc + 3) lv st) : XC p l e R s m args below meth c D A nL Q k n ws pc lv (.int y :: .int x :: st) := by
  obtain ⟨hx, hb, -⟩ := hC
  exact fun H locs ls hP hD hS hl => lv_icmp_eq hx hb hd ht (fun h => kt h H locs ls hP hD hS hl) (fun h => kf h H locs ls hP hD hS hl)
theorem cx_icmp_ne (hC : CY p s m args meth c cc nL own ret D A) {x y : Int32} {off : Int} (tgt : Nat) (hd : decode cc pc = .ok (.if_icmp .ne off, 3)) (ht : (pc : Int) + off = (tgt : Int)) (kt : ¬ x = y → XC p l e R s m args below meth c D A nL Q k n ws tgt lv st) (kf : x = y → XC p l e R s m args below meth c D A nL Q k n ws (pc + 3) lv st) : XC p l e R s m args below meth c D A nL Q k n ws pc lv (.int y :: .int x :: st) := by
  obtain ⟨hx, hb, -⟩ := hC
  exact fun H locs ls hP hD hS hl => lv_icmp_ne hx hb hd ht (fun h => kt h H locs ls hP hD hS hl) (fun h => kf h H locs ls hP hD hS hl)
theorem cx_icmp_lt (hC : CY p s m args meth c cc nL own ret D A) {x y : Int32} {off : Int} (tgt : Nat) (hd : decode cc pc = .ok (.if_icmp .lt off, 3)) (ht : (pc : Int) + off = (tgt : Int)) (kt : x < y → XC p l e R s m args below meth c D A nL Q k n ws tgt lv st) (kf : ¬ x < y → XC p l e R s m args below meth c D A nL Q k n ws (pc + 3) lv st) : XC p l e R s m args below meth c D A nL Q k n ws pc lv (.int y :: .int x :: st) := by
  obtain ⟨hx, hb, -⟩ := hC
  exact fun H locs ls hP hD hS hl => lv_icmp_lt hx hb hd ht (fun h => kt h H locs ls hP hD hS hl) (fun h => kf h H locs ls hP hD hS hl)
theorem cx_icmp_gt (hC : CY p s m args meth c cc nL own ret D A) {x y : Int32} {off : Int} (tgt : Nat) (hd : decode cc pc = .ok (.if_icmp .gt off, 3)) (ht : (pc : Int) + off = (tgt : Int)) (kt : y < x → XC p l e R s m args below meth c D A nL Q k n ws tgt lv st) (kf : ¬ y < x → XC p l e R s m args below meth c D A nL Q k n ws (pc + 3) lv st) : XC p l e R s m args below meth c D A nL Q k n ws pc lv (.int y :: .int x :: st) := by
  obtain ⟨hx, hb, -⟩ := hC
  exact fun H locs ls hP hD hS hl => lv_icmp_gt hx hb hd ht (fun h => kt h H locs ls hP hD hS hl) (fun h => kf h H locs ls hP hD hS hl)
theorem cx_icmp_le (hC : CY p s m args meth c cc nL own ret D A) {x y : Int32} {off : Int} (tgt : Nat) (hd : decode cc pc = .ok (.if_icmp .le off, 3)) (ht : (pc : Int) + off = (tgt : Int)) (kt : x ≤ y → XC p l e R s m args below meth c D A nL Q k n ws tgt lv st) (kf : ¬ x ≤ y → XC p l e R s m args below meth c D A nL Q k n ws (pc + 3) lv st) : XC p l e R s m args below meth c D A nL Q k n ws pc lv (.int y :: .int x :: st) := by
  obtain ⟨hx, hb, -⟩ := hC
  exact fun H locs ls hP hD hS hl => lv_icmp_le hx hb hd ht (fun h => kt h H locs ls hP hD hS hl) (fun h => kf h H locs ls hP hD hS hl)
theorem cx_mmin (hC : CY p s m args meth c cc nL own ret D A) {index : Nat} {x y : Int32} (hlink : Cond.methodLink own index Lib.Math.min.name ∈ TBL) (hstat : Cond.static Lib.Math.min.name ∈ TBL) (hini : Cond.initialized "java/lang/Math" ∈ TBL) (hcode : Cond.code Lib.Math.min.name Lib.Math.min.code 2 (some .int) ∈ TBL) (hf : 1 ≤ R.frames) (hlo : (st.map fun v => v.category).sum + 13 ≤ R.locals) (hcs : k ≤ R.cells ∧ n ≤ R.slots) (hd : decode cc pc = .ok (.invokestatic index, 3)) (K : XC p l e R s m args below meth c D A nL Q k n ws (pc + 3) lv (.int (imin x y) :: st)) : XC p l e R s m args below meth c D A nL Q k n ws pc lv (.int y :: .int x :: st) := by
  obtain ⟨hx, hb, hml, hown, hts, hlk, hrt, hG, hA⟩ := hC
  exact fun H locs ls hP hD hS hl => va_mmin hx hb (hml.trans hl.1.symm) hown (hts _ hlink) (hts _ hstat) (hts _ hini) (hts _ hcode) hf hlo hcs.1 hcs.2 hd (K H locs ls hP hD hS hl)
theorem cx_mmax (hC : CY p s m args meth c cc nL own ret D A) {index : Nat} {x y : Int32} (hlink : Cond.methodLink own index Lib.Math.max.name ∈ TBL) (hstat : Cond.static Lib.Math.max.name ∈ TBL) (hini : Cond.initialized "java/lang/Math" ∈ TBL) (hcode : Cond.code Lib.Math.max.name Lib.Math.max.code 2 (some .int) ∈ TBL) (hf : 1 ≤ R.frames) (hlo : (st.map fun v => v.category).sum + 13 ≤ R.locals) (hcs : k ≤ R.cells ∧ n ≤ R.slots) (hd : decode cc pc = .ok (.invokestatic index, 3)) (K : XC p l e R s m args below meth c D A nL Q k n ws (pc + 3) lv (.int (imax x y) :: st)) : XC p l e R s m args below meth c D A nL Q k n ws pc lv (.int y :: .int x :: st) := by
  obtain ⟨hx, hb, hml, hown, hts, hlk, hrt, hG, hA⟩ := hC
  exact fun H locs ls hP hD hS hl => va_mmax hx hb (hml.trans hl.1.symm) hown (hts _ hlink) (hts _ hstat) (hts _ hini) (hts _ hcode) hf hlo hcs.1 hcs.2 hd (K H locs ls hP hD hS hl)
theorem cx_i2b (hC : CY p s m args meth c cc nL own ret D A) {x : Int32} (hd : decode cc pc = .ok (.i2b, 1)) (K : XC p l e R s m args below meth c D A nL Q k n ws (pc + 1) lv (.int (x.toInt8.toInt32) :: st)) : XC p l e R s m args below meth c D A nL Q k n ws pc lv (.int x :: st) := by
  obtain ⟨hx, hb, -⟩ := hC
  exact fun H locs ls hP hD hS hl => lv_i2b hx hb hd rfl (K H locs ls hP hD hS hl)
theorem cx_i2c (hC : CY p s m args meth c cc nL own ret D A) {x : Int32} (hd : decode cc pc = .ok (.i2c, 1)) (K : XC p l e R s m args below meth c D A nL Q k n ws (pc + 1) lv (.int ((x.toUInt32 % 65536).toInt32) :: st)) : XC p l e R s m args below meth c D A nL Q k n ws pc lv (.int x :: st) := by
  obtain ⟨hx, hb, -⟩ := hC
  exact fun H locs ls hP hD hS hl => lv_i2c hx hb hd rfl (K H locs ls hP hD hS hl)
theorem cx_iushr (hC : CY p s m args meth c cc nL own ret D A) {x y : Int32} (hd : decode cc pc = .ok (.iushr, 1)) (K : XC p l e R s m args below meth c D A nL Q k n ws (pc + 1) lv (.int (iushr x y) :: st)) : XC p l e R s m args below meth c D A nL Q k n ws pc lv (.int y :: .int x :: st) := by
  obtain ⟨hx, hb, -⟩ := hC
  exact fun H locs ls hP hD hS hl => lv_iushr hx hb hd rfl (K H locs ls hP hD hS hl)
theorem cx_ldc (hC : CY p s m args meth c cc nL own ret D A) {index : Nat} (v : Int32) (hw : Cond.constant own index v ∈ TBL) (hd : decode cc pc = .ok (.ldc index, 2)) (K : XC p l e R s m args below meth c D A nL Q k n ws (pc + 2) lv (.int v :: st)) : XC p l e R s m args below meth c D A nL Q k n ws pc lv st := by
  obtain ⟨hx, hb, hml, hown, hts, hlk, hrt, hG, hA⟩ := hC
  exact fun H locs ls hP hD hS hl => lv_ldc hx hb hown (hts _ hw) hd (K H locs ls hP hD hS hl)
theorem cx_topi {x y : Int32} (h : y = x) (K : XC p l e R s m args below meth c D A nL Q k n ws pc lv (.int y :: st)) : XC p l e R s m args below meth c D A nL Q k n ws pc lv (.int x :: st) := h ▸ K
theorem cx_topl {x y : Int64} (h : y = x) (K : XC p l e R s m args below meth c D A nL Q k n ws pc lv (.long y :: st)) : XC p l e R s m args below meth c D A nL Q k n ws pc lv (.long x :: st) := h ▸ K
theorem cx_lload_n (hC : CY p s m args meth c cc nL own ret D A) {kk : Fin 4} {i : Nat} {x : Int64} (hd : decode cc pc = .ok (.lload_n kk, 1)) (hi : (kk : Nat) = i) (j : Nat) (hj : lv[j]? = some (i, .long x)) (K : XC p l e R s m args below meth c D A nL Q k n ws (pc + 1) lv (.long x :: st)) : XC p l e R s m args below meth c D A nL Q k n ws pc lv st := by
  obtain ⟨hx, hb, -⟩ := hC
  exact fun H locs ls hP hD hS hl => lv_lload_n hx hb hd hi (lv_at hl j hj) (K H locs ls hP hD hS hl)
theorem cx_lload (hC : CY p s m args meth c cc nL own ret D A) {i : Nat} {x : Int64} (hd : decode cc pc = .ok (.lload i, 2)) (j : Nat) (hj : lv[j]? = some (i, .long x)) (K : XC p l e R s m args below meth c D A nL Q k n ws (pc + 2) lv (.long x :: st)) : XC p l e R s m args below meth c D A nL Q k n ws pc lv st := by
  obtain ⟨hx, hb, -⟩ := hC
  exact fun H locs ls hP hD hS hl => lv_lload hx hb hd (lv_at hl j hj) (K H locs ls hP hD hS hl)
theorem cx_lstore_n (hC : CY p s m args meth c cc nL own ret D A) {kk : Fin 4} {i : Nat} {x : Int64} (lv' : List (Nat × Value)) (hd : decode cc pc = .ok (.lstore_n kk, 1)) (hi : (kk : Nat) = i) (hn : i + 1 < nL) (hl' : (i, Value.long x) :: lv.filter (fun q => !(q.1 == i) && (!(q.1 == i + 1) && !(q.1 + 1 == i && q.2.category == 2))) = lv') (K : XC p l e R s m args below meth c D A nL Q k n ws (pc + 1) lv' st) : XC p l e R s m args below meth c D A nL Q k n ws pc lv (.long x :: st) := by
  obtain ⟨hx, hb, -⟩ := hC
  exact fun H locs ls hP hD hS hl => lv_lstore_n hx hb hd hi hl hn hl' (fun ls' hl2 => K H locs ls' hP hD hS hl2)
theorem cx_lstore (hC : CY p s m args meth c cc nL own ret D A) {i : Nat} {x : Int64} (lv' : List (Nat × Value)) (hd : decode cc pc = .ok (.lstore i, 2)) (hn : i + 1 < nL) (hl' : (i, Value.long x) :: lv.filter (fun q => !(q.1 == i) && (!(q.1 == i + 1) && !(q.1 + 1 == i && q.2.category == 2))) = lv') (K : XC p l e R s m args below meth c D A nL Q k n ws (pc + 2) lv' st) : XC p l e R s m args below meth c D A nL Q k n ws pc lv (.long x :: st) := by
  obtain ⟨hx, hb, -⟩ := hC
  exact fun H locs ls hP hD hS hl => lv_lstore hx hb hd hl hn hl' (fun ls' hl2 => K H locs ls' hP hD hS hl2)
theorem Yo.of {F : EF} {y : MethodName} {rm : Room} {mc ms : Nat} {vs : List Value} {w0 : va_W} {P : Option Value → va_W → Prop} {maxL : Nat} (hy : plainName y.cls = true) (hlen : (lg_sl vs).length ≤ maxL)
    (body : ∀ (p : Program) (e : Env) (s : State) (m : MethodId) (args : Array Value) (below : List Frame) (meth : Method) (c : Code), CY p s m args meth c cc maxL y.cls ret D (va_A w0 s.heap.size) → ENV F (va_A w0 s.heap.size) s s.heap → meth.name = y.name → XC p l e rm s m args below meth c D (va_A w0 s.heap.size) maxL (MQ below (YQ D w0 P s.heap.size) args s mc ms (va_A w0 s.heap.size)) 0 0 w0 0 (lv_args 0 vs) []) : Yo l y (WS y cc maxL ret) rm mc ms vs D F w0 P := by
  intro sz
  refine Met.ofW (cc := cc) (maxL := maxL) (ret := ret) hy rfl ?_
  intro p e s m args below meth c s₁ B hml hv
  obtain ⟨rfl, hsz, hP, hG, hD, hE⟩ := hv
  have hts := atoms_spec (ws := WS y cc maxL ret) B.pre
  subst hsz
  have hC : CY p s m vs.toArray meth c cc maxL y.cls ret D (va_A w0 s.heap.size) := ⟨B.exec, B.bytes, hml, findClass_of_methodNamed B.named, fun w h => hts w (List.mem_cons_of_mem _ h), B.notSynchronized, B.returns, hG, fun q h => Or.inr h⟩
  have hl := lv_entry vs (n := maxL) hlen
  rw [lg_entry_eq]
  exact body p e s m vs.toArray below meth c hC hE (name_of_methodNamed B.named B.method).1 s.heap [] _ hP hD.self va_S.rf hl
theorem cy_iret {P : Option Value → va_W → Prop} {w0 : va_W} (hC : CY p s m args meth c cc nL own ret D (va_A w0 s.heap.size)) {v : Int32} (hPw : P (some (.int v)) ws) (hret : ret = some .int) (hd : decode cc pc = .ok (.ireturn, 1)) : XC p l e R s m args below meth c D (va_A w0 s.heap.size) nL (MQ below (YQ D w0 P s.heap.size) args s k n (va_A w0 s.heap.size)) k n ws pc lv [.int v] := by
  obtain ⟨hx, hb, hml, hown, hts, hlk, hrt, hG, hA⟩ := hC
  exact fun H locs ls hP hD hS hl => W.iret hx hb (hrt.trans hret) (fun t ht hW => ⟨⟨_, ws, rfl, hPw, by rw [ht]; exact hP, hD⟩, hS.F ht⟩) hS.2.2 hd hlk
theorem cy_cret {P : Option Value → va_W → Prop} {w0 : va_W} (hC : CY p s m args meth c cc nL own ret D (va_A w0 s.heap.size)) {v : Int32} {ty : FieldType} (hPw : P (some (.int v)) ws) (hret : ret = some ty) (hn : narrow ty (.int v) = .int v) (hd : decode cc pc = .ok (.ireturn, 1)) : XC p l e R s m args below meth c D (va_A w0 s.heap.size) nL (MQ below (YQ D w0 P s.heap.size) args s k n (va_A w0 s.heap.size)) k n ws pc lv [.int v] := by
  obtain ⟨hx, hb, hml, hown, hts, hlk, hrt, hG, hA⟩ := hC
  exact fun H locs ls hP hD hS hl => W.zret hx hb (hrt.trans hret) hn (fun t ht hW => ⟨⟨_, ws, rfl, hPw, by rw [ht]; exact hP, hD⟩, hS.F ht⟩) hS.2.2 hd hlk
theorem cy_aret {P : Option Value → va_W → Prop} {w0 : va_W} (hC : CY p s m args meth c cc nL own ret D (va_A w0 s.heap.size)) {a : Nat} {ty : FieldType} (hPw : P (some (.ref a)) ws) (hret : ret = some ty) (hty : (∃ cn, ty = .object cn) ∨ ∃ t, ty = .array t) (hd : decode cc pc = .ok (.areturn, 1)) : XC p l e R s m args below meth c D (va_A w0 s.heap.size) nL (MQ below (YQ D w0 P s.heap.size) args s k n (va_A w0 s.heap.size)) k n ws pc lv [.ref a] := by
  obtain ⟨hx, hb, hml, hown, hts, hlk, hrt, hG, hA⟩ := hC
  exact fun H locs ls hP hD hS hl => W.aret hx hb (hrt.trans hret) hty (Or.inr ⟨a, rfl⟩) (fun t ht hW => ⟨⟨_, ws, rfl, hPw, by rw [ht]; exact hP, hD⟩, hS.F ht⟩) hS.2.2 hd hlk
theorem cy_vret {P : Option Value → va_W → Prop} {w0 : va_W} (hC : CY p s m args meth c cc nL own ret D (va_A w0 s.heap.size)) (hPw : P none ws) (hret : ret = none) (hd : decode cc pc = .ok (.return_, 1)) : XC p l e R s m args below meth c D (va_A w0 s.heap.size) nL (MQ below (YQ D w0 P s.heap.size) args s k n (va_A w0 s.heap.size)) k n ws pc lv [] := by
  obtain ⟨hx, hb, hml, hown, hts, hlk, hrt, hG, hA⟩ := hC
  exact fun H locs ls hP hD hS hl => W.vret hx hb (hrt.trans hret) (fun t ht hW => ⟨⟨_, ws, rfl, hPw, by rw [ht]; exact hP, hD⟩, hS.F ht⟩) hS.2.2 hd hlk
theorem cx_widen {k' n' : Nat} (h1 : k ≤ k') (h2 : n ≤ n') (K : XC p l e R s m args below meth c D A nL Q k' n' ws pc lv st) : XC p l e R s m args below meth c D A nL Q k n ws pc lv st := fun H locs ls hP hD hS hl => W.widen h1 h2 (K H locs ls hP hD hS hl)
/-- what stands, read in the heap of now -/
theorem cx_gets (hC : CY p s m args meth c cc nL own ret D A) {C nn d : String} {v : Value} {index : Nat} (hZ : va_Z C nn d v A s s.heap) (hlink : Cond.fieldLink own index C nn d ∈ TBL) (hd : decode cc pc = .ok (.getstatic index, 3)) (K : XC p l e R s m args below meth c D A nL Q k n ws (pc + 3) lv (v :: st)) : XC p l e R s m args below meth c D A nL Q k n ws pc lv st := by
  obtain ⟨hx, hb, hml, hown, hts, hlk, hrt, hG, hA⟩ := hC
  exact fun H locs ls hP hD hS hl => va_gets hx hb hZ hS hown (hts _ hlink) (fun _ h => h) hd (K H locs ls hP hD hS hl)
theorem cx_getO (hC : CY p s m args meth c cc nL own ret D A) {o nn d : String} {v : Value} {q index : Nat} (hE : va_OF o nn d v q A s s.heap) (hlink : Cond.fieldLink own index o nn d ∈ TBL) (hd : decode cc pc = .ok (.getfield index, 3)) (K : XC p l e R s m args below meth c D A nL Q k n ws (pc + 3) lv (v :: st)) : XC p l e R s m args below meth c D A nL Q k n ws pc lv (.ref q :: st) := by
  obtain ⟨hx, hb, hml, hown, hts, hlk, hrt, hG, hA⟩ := hC
  exact fun H locs ls hP hD hS hl => vk_getf hx hb hE hS hown (hts _ hlink) (fun _ h => h) hd (K H locs ls hP hD hS hl)
theorem cx_tlen (hC : CY p s m args meth c cc nL own ret D A) {ty : FieldType} {t N : Nat} {f : Nat → Value} (hT : va_T ty t N f A s s.heap) (v : Int32) (hv : Int32.ofNat N = v) (hd : decode cc pc = .ok (.arraylength, 1)) (K : XC p l e R s m args below meth c D A nL Q k n ws (pc + 1) lv (.int v :: st)) : XC p l e R s m args below meth c D A nL Q k n ws pc lv (.ref t :: st) := by
  obtain ⟨hx, hb, hml, hown, hts, hlk, hrt, hG, hA⟩ := hC
  exact fun H locs ls hP hD hS hl => va_tlen hx hb hT hS (v := v) hv hd (K H locs ls hP hD hS hl)
theorem cx_tb (hC : CY p s m args meth c cc nL own ret D A) {t N : Nat} {f : Nat → Int32} {j : Int32} (hT : va_T .byte t N (fun j => .int (f j)) A s s.heap) (hj : 0 ≤ j.toInt ∧ j.toInt < (N : Int)) (hd : decode cc pc = .ok (.baload, 1)) (K : XC p l e R s m args below meth c D A nL Q k n ws (pc + 1) lv (.int (f (ix j)) :: st)) : XC p l e R s m args below meth c D A nL Q k n ws pc lv (.int j :: .ref t :: st) := by
  obtain ⟨hx, hb, hml, hown, hts, hlk, hrt, hG, hA⟩ := hC
  exact fun H locs ls hP hD hS hl => va_tb (f := fun j => .int (f j)) hx hb hT hS (inx hj) rfl hd (K H locs ls hP hD hS hl)
theorem cx_ti (hC : CY p s m args meth c cc nL own ret D A) {t N : Nat} {f : Nat → Int32} {j : Int32} (hT : ROW t N f A s s.heap) (hj : 0 ≤ j.toInt ∧ j.toInt < (N : Int)) (hd : decode cc pc = .ok (.iaload, 1)) (K : XC p l e R s m args below meth c D A nL Q k n ws (pc + 1) lv (.int (f (ix j)) :: st)) : XC p l e R s m args below meth c D A nL Q k n ws pc lv (.int j :: .ref t :: st) := by
  obtain ⟨hx, hb, hml, hown, hts, hlk, hrt, hG, hA⟩ := hC
  exact fun H locs ls hP hD hS hl => va_ti (f := fun j => .int (f j)) hx hb hT hS (inx hj) rfl hd (K H locs ls hP hD hS hl)
theorem cx_ldcS (hC : CY p s m args meth c cc nL "PeatBogLaw" ret D A) {tx : String} {index q : Nat} (hZ : vk_R "PeatBogLaw" index tx q s) (hd : decode cc pc = .ok (.ldc index, 2)) (K : XC p l e R s m args below meth c D A nL Q k n ws (pc + 2) lv (.ref q :: st)) : XC p l e R s m args below meth c D A nL Q k n ws pc lv st := by
  obtain ⟨hx, hb, hml, hown, hts, hlk, hrt, hG, hA⟩ := hC
  exact fun H locs ls hP hD hS hl => va_ldcS hx hb hown hZ hd (K H locs ls hP hD hS hl)
theorem cx_null (hC : CY p s m args meth c cc nL own ret D A) (hd : decode cc pc = .ok (.aconst_null, 1)) (K : XC p l e R s m args below meth c D A nL Q k n ws (pc + 1) lv (.null :: st)) : XC p l e R s m args below meth c D A nL Q k n ws pc lv st := by
  obtain ⟨hx, hb, -⟩ := hC
  exact fun H locs ls hP hD hS hl => lv_null hx hb hd (K H locs ls hP hD hS hl)
theorem cx_ishl (hC : CY p s m args meth c cc nL own ret D A) {x y : Int32} (hd : decode cc pc = .ok (.ishl, 1)) (K : XC p l e R s m args below meth c D A nL Q k n ws (pc + 1) lv (.int (x <<< (y &&& 31)) :: st)) : XC p l e R s m args below meth c D A nL Q k n ws pc lv (.int y :: .int x :: st) := by
  obtain ⟨hx, hb, -⟩ := hC
  exact fun H locs ls hP hD hS hl => lv_ishl hx hb hd (K H locs ls hP hD hS hl)
theorem cx_lcmp (hC : CY p s m args meth c cc nL own ret D A) {x y : Int64} (hd : decode cc pc = .ok (.lcmp, 1)) (K : XC p l e R s m args below meth c D A nL Q k n ws (pc + 1) lv (.int (lg_cmp x y) :: st)) : XC p l e R s m args below meth c D A nL Q k n ws pc lv (.long y :: .long x :: st) := by
  obtain ⟨hx, hb, -⟩ := hC
  exact fun H locs ls hP hD hS hl => W.lcmp hx hb hd (K H locs ls hP hD hS hl)
theorem cx_ifnonnull (hC : CY p s m args meth c cc nL own ret D A) {x : Nat} {off : Int} (tgt : Nat) (hd : decode cc pc = .ok (.ifnonnull off, 3)) (ht : (pc : Int) + off = (tgt : Int)) (K : XC p l e R s m args below meth c D A nL Q k n ws tgt lv st) : XC p l e R s m args below meth c D A nL Q k n ws pc lv (.ref x :: st) := by
  obtain ⟨hx, hb, -⟩ := hC
  exact fun H locs ls hP hD hS hl => lv_ifnonnull hx hb hd ht (K H locs ls hP hD hS hl)
/-- rows of one's own -/
theorem cx_alenC (hC : CY p s m args meth c cc nL own ret D A) (q0 t0 : Nat) {a N : Nat} {cA : ClassId} {ty : FieldType} {f : Nat → Int32} (v : Int32) (ha : ws[q0]? = some (a, .inl (cA, N, .inl f))) (ht : (CT D)[t0]? = some (cA, ty)) (hv : Int32.ofNat N = v) (hd : decode cc pc = .ok (.arraylength, 1)) (K : XC p l e R s m args below meth c D A nL Q k n ws (pc + 1) lv (.int v :: st)) : XC p l e R s m args below meth c D A nL Q k n ws pc lv (.ref a :: st) := by
  obtain ⟨hx, hb, hml, hown, hts, hlk, hrt, hG, hA⟩ := hC
  exact fun H locs ls hP hD hS hl => va_alen hx hb hG.1 hP q0 t0 ha ht hv hd (K H locs ls hP hD hS hl)
theorem cx_iald (hC : CY p s m args meth c cc nL own ret D A) (q0 : Nat) {a N : Nat} {j : Int32} {f : Nat → Int32} (ha : ws[q0]? = some (a, .inl (D.2 0, N, .inl f))) (hj : 0 ≤ j.toInt ∧ j.toInt < (N : Int)) (hd : decode cc pc = .ok (.iaload, 1)) (K : XC p l e R s m args below meth c D A nL Q k n ws (pc + 1) lv (.int (f (ix j)) :: st)) : XC p l e R s m args below meth c D A nL Q k n ws pc lv (.int j :: .ref a :: st) := by
  obtain ⟨hx, hb, hml, hown, hts, hlk, hrt, hG, hA⟩ := hC
  exact fun H locs ls hP hD hS hl => va_iald hx hb hG.1 hP q0 0 ha rfl (inx hj) hd (K H locs ls hP hD hS hl)
theorem cx_bast (hC : CY p s m args meth c cc nL own ret D A) (q0 : Nat) {a N : Nat} {j x : Int32} {f : Nat → Int32} (ws' : va_W) (ha : ws[q0]? = some (a, .inl (D.2 1, N, .inl f))) (hj : 0 ≤ j.toInt ∧ j.toInt < (N : Int)) (hw : ws.set q0 (a, .inl (D.2 1, N, .inl (upd f (ix j) x.toInt8.toInt32))) = ws') (hd : decode cc pc = .ok (.bastore, 1)) (K : XC p l e R s m args below meth c D A nL Q k n ws' (pc + 1) lv st) : XC p l e R s m args below meth c D A nL Q k n ws pc lv (.int x :: .int j :: .ref a :: st) := by
  obtain ⟨hx, hb, hml, hown, hts, hlk, hrt, hG, hA⟩ := hC
  intro H locs ls hP hD hS hl
  refine va_bast hx hb hG.1 hP hD hS q0 1 ha rfl (inx hj) hd (fun H1 locs1 hP1 hD1 hS1 => ?_)
  rw [vp_nar_byte] at hP1 hD1
  have hw' : ws.set q0 (a, .inl (D.2 1, N, .inl (upd f j.toNatClampNeg x.toInt8.toInt32))) = ws' := hw
  rw [hw'] at hP1 hD1
  exact K H1 locs1 ls hP1 hD1 hS1 hl
/-- bytes of one's own into a row of one's own -/
theorem cx_copyb (hC : CY p s m args meth c cc nL own ret D A) (q0 q1 : Nat) {index a0 a1 n0 n1 N : Nat} {f g : Nat → Int32} {x : Int32} (ws' : va_W) (hlink : Cond.methodLink own index arraycopyName ∈ TBL) (ha0 : ws[q0]? = some (a0, .inl (D.2 1, n0, .inl f))) (ha1 : ws[q1]? = some (a1, .inl (D.2 1, n1, .inl g))) (hx : x = nI N) (hN0 : N ≤ n0) (hN1 : N ≤ n1) (hNb : N < 2147483648) (hfit : ∀ i, i < N → fits .byte (.int (f i)) = true) (hw : ws.set q1 (a1, .inl (D.2 1, n1, .inl (va_cpy f g 0 0 N))) = ws') (hf : 1 ≤ R.frames) (hlo : (st.map fun v => v.category).sum + 40 ≤ R.locals) (hd : decode cc pc = .ok (.invokestatic index, 3)) (K : XC p l e R s m args below meth c D A nL Q k n ws' (pc + 3) lv st) : XC p l e R s m args below meth c D A nL Q k n ws pc lv (.int x :: .int 0 :: .ref a1 :: .int 0 :: .ref a0 :: st) := by
  obtain ⟨hx', hb, hml, hown, hts, hlk, hrt, hG, hA⟩ := hC
  intro H locs ls hP hD hS hl
  subst hx
  have z0 : (0 : Int32).toNatClampNeg = 0 := rfl
  have zN : (nI N).toNatClampNeg = N := nI_clamp (by omega)
  have zi : (nI N).toInt = (N : Int) := Int32.toInt_ofNat_of_lt (by omega)
  refine va_copyi hx' hb (hml.trans hl.1.symm) hown (hts _ hlink) (hts _ ka_copy) (hts _ kt_copy) (hts _ kn_System) hG.1 hP hD hS q0 q1 1 1 (ty := .byte) ha0 ha1 rfl rfl rfl (by decide) (by decide) (fun h => by have := Int32.lt_iff_toInt_lt.mp h; rw [zi] at this; simp at this; omega) (by rw [z0, zN]; omega) (by rw [z0, zN]; omega) (fun i hi => by rw [z0, Nat.zero_add]; exact hfit i (by rw [zN] at hi; exact hi)) hf (Nat.le_trans (Nat.add_le_add_left (by decide) _) hlo) hd (fun H1 locs1 hP1 hD1 hS1 => ?_)
  rw [z0, zN, hw] at hP1 hD1
  exact K H1 locs1 ls hP1 hD1 hS1 hl
/-- bytes that stand into a row of one's own -/
theorem cx_copyt (hC : CY p s m args meth c cc nL own ret D A) (q1 : Nat) {index b0 a1 n0 n1 N d : Nat} {f g : Nat → Int32} {x dp : Int32} (ws' : va_W) (hlink : Cond.methodLink own index arraycopyName ∈ TBL) (hX : va_T .byte b0 n0 (fun j => .int (f j)) A s s.heap) (ha1 : ws[q1]? = some (a1, .inl (D.2 1, n1, .inl g))) (hx : x = nI N) (hdp : dp = nI d) (hN0 : N ≤ n0) (hN1 : d + N ≤ n1) (hNb : n1 < 2147483648) (hfit : ∀ i, i < N → fits .byte (.int (f i)) = true) (hw : ws.set q1 (a1, .inl (D.2 1, n1, .inl (va_cpy f g 0 d N))) = ws') (hf : 1 ≤ R.frames) (hlo : (st.map fun v => v.category).sum + 40 ≤ R.locals) (hd : decode cc pc = .ok (.invokestatic index, 3)) (K : XC p l e R s m args below meth c D A nL Q k n ws' (pc + 3) lv st) : XC p l e R s m args below meth c D A nL Q k n ws pc lv (.int x :: .int dp :: .ref a1 :: .int 0 :: .ref b0 :: st) := by
  obtain ⟨hx', hb, hml, hown, hts, hlk, hrt, hG, hA⟩ := hC
  intro H locs ls hP hD hS hl
  subst hx
  subst hdp
  have z0 : (0 : Int32).toNatClampNeg = 0 := rfl
  have zN : (nI N).toNatClampNeg = N := nI_clamp (by omega)
  have zd : (nI d).toNatClampNeg = d := nI_clamp (by omega)
  have zi : (nI N).toInt = (N : Int) := Int32.toInt_ofNat_of_lt (by omega)
  have zj : (nI d).toInt = (d : Int) := Int32.toInt_ofNat_of_lt (by omega)
  refine vk_copyt hx' hb (hml.trans hl.1.symm) hown (hts _ hlink) (hts _ ka_copy) (hts _ kt_copy) (hts _ kn_System) hG.1 hP hD hS hX q1 1 ha1 rfl (by decide) (fun h => by have := Int32.lt_iff_toInt_lt.mp h; rw [zj] at this; simp at this; omega) (fun h => by have := Int32.lt_iff_toInt_lt.mp h; rw [zi] at this; simp at this; omega) (by rw [z0, zN]; omega) (by rw [zd, zN]; omega) (fun i hi => by rw [z0, Nat.zero_add]; exact hfit i (by rw [zN] at hi; exact hi)) hf (Nat.le_trans (Nat.add_le_add_left (by decide) _) hlo) hd (fun H1 locs1 hP1 hD1 hS1 => ?_)
  rw [z0, zN, zd, hw] at hP1 hD1
  exact K H1 locs1 ls hP1 hD1 hS1 hl
/-- a new row of bytes of a length that is not written -/
theorem cx_newbN (hC : CY p s m args meth c cc nL own ret D A) {x : Int32} {N : Nat} (hx : x = nI N) (hNb : N < 100000) (hR : k + 1 ≤ R.cells ∧ n + N ≤ R.slots) (harr : Cond.arrayClass .byte ∈ TBL) (hd : decode cc pc = .ok (.newarray .byte, 2)) (K : ∀ q, XC p l e R s m args below meth c D A nL Q (k + 1) (n + N) (ws ++ [(q, .inl (D.2 1, N, .inl (fun _ => 0)))]) (pc + 2) lv (.ref q :: st)) : XC p l e R s m args below meth c D A nL Q k n ws pc lv (.int x :: st) := by
  subst hx
  have zi : (nI N).toInt = (N : Int) := Int32.toInt_ofNat_of_lt (by omega)
  exact cx_newb hC (N := N) (fun h => by have := Int32.lt_iff_toInt_lt.mp h; rw [zi] at this; simp at this; omega) (nI_clamp (by omega)) (by omega) hR harr hd K
/-- behind a call -/
theorem cy_run {mc ms : Nat} {st0 : List Value} {As : Array Value} {w0 wr : va_W} {P : Option Value → va_W → Prop} (hA : ∀ q, s.heap.size ≤ q → A q) (isC isR : List Nat) (hCm : isC.map (fun i => ws[i]?) = w0.map some) (hRm : isR.map (fun i => ws[i]?) = wr.map some) (hn : va_nd isR = true) (hdis : ∀ i ∈ isR, i ∉ isC)
    (hr : ∀ (H : Heap) (locs : List Loc) (ls : Array Slot), va_P D.1 CLS ws H → va_D A ws → va_S A s.heap H locs → lv_has ls nL lv → va_Run p l e R s m args below meth c H locs k n mc ms (F0 m pc ls st0) st (YQ D w0 P H.size As) (va_A w0 H.size))
    (K : ∀ o w1, P o w1 → XC p l e R s m args below meth c D A nL Q (k + mc) (n + ms) (wr ++ w1) (pc + 3) lv (o.toList ++ st)) : XC p l e R s m args below meth c D A nL Q k n ws pc lv st0 := by
  intro H locs ls hP hD hS hl T hT X
  have hF := va_free (wc := w0) hD hS hA isC hCm
  obtain ⟨v, st₀, t, T', L, h0, X', hL, e1, e2, ⟨⟨o, w1, hv, hw1, hp1, hd1⟩, hz, hk⟩, stp⟩ := hr H locs ls hP hD hS hl T hT X
  cases hv
  rw [h0] at hz hk
  obtain ⟨hP2, hD2⟩ := va_join hP hD isC isR hCm hRm hn hdis hk hF hp1 hd1
  obtain ⟨t2, a1, b1⟩ := K _ w1 hw1 T'.heap (locs ++ L) ls (by rw [e1]; exact hP2) hD2
    ⟨Nat.le_trans hS.1 (by rw [e1]; exact hz), fun q h1 h2 => by rw [e1, hk q (Nat.lt_of_lt_of_le h1 hS.1) (fun z => h2 (hF q z))]; exact hS.2.1 q h1 h2, fun q hq => by
      rcases List.mem_append.mp hq with h | h
      · exact hS.2.2 q h
      · exact hF _ (hL q h)⟩ hl T' rfl X'
  exact ⟨t2, stp t2 a1, b1⟩
/-- what stands for the caller stands for the callee -/
theorem env_sub {F : EF} {w0 : va_W} {H : Heap} {locs : List Loc} (hE : ENV F A s s.heap) (hA : ∀ q, s.heap.size ≤ q → A q) (isC : List Nat) (hCm : isC.map (fun i => ws[i]?) = w0.map some) (hD : va_D A ws) (hS : va_S A s.heap H locs) : ENV F (va_A w0 H.size) s H := (hE.kept hS.2.1).narrow (va_free hD hS hA isC hCm)
theorem cy_callS (hC : CY p s m args meth c cc nL own ret D A) {F : EF} {y : MethodName} {cy : ByteArray} {maxL index nA mc ms : Nat} {r : Option FieldType} {rm : Room} {As : List Value} {st0 : List Value} {w0 wr : va_W} {P : Option Value → va_W → Prop} (hM : Yo l y (WS y cy maxL r) rm mc ms As D F w0 P) (isC isR : List Nat) (hCm : isC.map (fun i => ws[i]?) = w0.map some) (hRm : isR.map (fun i => ws[i]?) = wr.map some) (hn : va_nd isR = true) (hnC : va_nd isC = true) (hdis : ∀ i ∈ isR, i ∉ isC) (hEF : ∀ (H : Heap) (locs : List Loc), va_P D.1 CLS ws H → va_D A ws → va_S A s.heap H locs → ENV F (va_A w0 H.size) s H) (hcode : Cond.code y cy maxL r ∈ TBL) (hlink : Cond.methodLink own index y ∈ TBL) (hstat : Cond.static y ∈ TBL) (hini : Cond.initialized y.cls ∈ TBL) (hy : y.cls ≠ "java/lang/invoke/MethodHandle" ∧ y.cls ≠ "java/lang/invoke/VarHandle" ∧ (parseMethodDescriptor y.desc).map (fun d => d.parameters.length) = some nA) (hnA : As.length = nA) (hrc : rm.cells = mc ∧ rm.slots = ms) (hR : rm.frames + 1 ≤ R.frames ∧ 8 + (maxL + 11) + rm.locals ≤ R.locals) (hst : st0 = As.reverse ++ st) (hcat : (st.map fun v => v.category).sum ≤ 8) (hcs : k + mc ≤ R.cells ∧ n + ms ≤ R.slots) (hd : decode cc pc = .ok (.invokestatic index, 3))
    (K : ∀ o w1, P o w1 → XC p l e R s m args below meth c D A nL Q (k + mc) (n + ms) (wr ++ w1) (pc + 3) lv (o.toList ++ st)) : XC p l e R s m args below meth c D A nL Q k n ws pc lv st0 := by
  obtain ⟨hx, hb, hml, hown, hts, hlk, hrt, hG, hA⟩ := hC
  refine cy_run (As := As.toArray) hA isC isR hCm hRm hn hdis (fun H locs ls hP hD hS hl => ?_) K
  have hPc : va_P D.1 CLS w0 H := hP.sub isC (va_fm hCm)
  have hDc : va_D A w0 := hD.sub isC hnC hCm
  have hE := hEF H locs hP hD hS
  refine va_runS (bytes := cy) (maxL := maxL) (ret := r) (n := nA) (nL := nL) (Ts := TBL) ⟨hx, hb, hml, hown, hts⟩ (hM H.size) ⟨⟨hrc.1, hrc.2, hR.1, hR.2, pay_in hts (ws_good hcode), List.mem_cons_self, hts _ hcode, hts _ hini, ⟨hy.1, hy.2.1⟩, fun sig h => ?_, hts _ hlink⟩, hts _ hstat⟩ ⟨yo_blind, fun U hU hW => ⟨rfl, by rw [hU], by rw [hU]; exact hPc, hG.step hW, hDc.weaken (fun _ _ _ _ => trivial), by rw [hU]; exact hE.step hW⟩⟩ rfl hnA hl.1 hst (lv_room hcat) hd hcs
  have h2 := hy.2.2
  rw [h] at h2
  exact (Option.some.inj h2).symm
theorem cy_callV (hC : CY p s m args meth c cc nL own ret D A) {F : EF} {y : MethodName} {cy : ByteArray} {maxL index nA mc ms a : Nat} {E : String} {r : Option FieldType} {rm : Room} {As : List Value} {st0 : List Value} {w0 wr : va_W} {P : Option Value → va_W → Prop} (hM : Yo l y (WS y cy maxL r) rm mc ms (.ref a :: As) D F w0 P) (isC isR : List Nat) (hCm : isC.map (fun i => ws[i]?) = w0.map some) (hRm : isR.map (fun i => ws[i]?) = wr.map some) (hn : va_nd isR = true) (hnC : va_nd isC = true) (hdis : ∀ i ∈ isR, i ∉ isC) (hrecv : ∀ (H : Heap) (locs : List Loc), va_P D.1 CLS ws H → va_S A s.heap H locs → ∃ cell : Cell, H[a]? = some cell ∧ cell.vm.isStatics = false ∧ s.vm.findClass E = some cell.cls) (hEF : ∀ (H : Heap) (locs : List Loc), va_P D.1 CLS ws H → va_D A ws → va_S A s.heap H locs → ENV F (va_A w0 H.size) s H) (hcode : Cond.code y cy maxL r ∈ TBL) (hlink : Cond.methodLink own index y ∈ TBL) (hinst : Cond.instanceMethod y ∈ TBL) (hsel : Cond.selects E y y ∈ TBL) (hini : Cond.initialized y.cls ∈ TBL) (hy : y.cls ≠ "java/lang/invoke/MethodHandle" ∧ y.cls ≠ "java/lang/invoke/VarHandle" ∧ (parseMethodDescriptor y.desc).map (fun d => d.parameters.length) = some nA) (hnA : As.length = nA) (hrc : rm.cells = mc ∧ rm.slots = ms) (hR : rm.frames + 1 ≤ R.frames ∧ 8 + (maxL + 11) + rm.locals ≤ R.locals) (hst : st0 = As.reverse ++ .ref a :: st) (hcat : (st.map fun v => v.category).sum ≤ 8) (hcs : k + mc ≤ R.cells ∧ n + ms ≤ R.slots) (hd : decode cc pc = .ok (.invokevirtual index, 3))
    (K : ∀ o w1, P o w1 → XC p l e R s m args below meth c D A nL Q (k + mc) (n + ms) (wr ++ w1) (pc + 3) lv (o.toList ++ st)) : XC p l e R s m args below meth c D A nL Q k n ws pc lv st0 := by
  obtain ⟨hx, hb, hml, hown, hts, hlk, hrt, hG, hA⟩ := hC
  refine cy_run (As := (Value.ref a :: As).toArray) hA isC isR hCm hRm hn hdis (fun H locs ls hP hD hS hl => ?_) K
  have hPc : va_P D.1 CLS w0 H := hP.sub isC (va_fm hCm)
  have hDc : va_D A w0 := hD.sub isC hnC hCm
  have hE := hEF H locs hP hD hS
  refine va_runV (C := E) (bytes := cy) (maxL := maxL) (ret := r) (n := nA) (nL := nL) (Ts := TBL) (b := a) ⟨hx, hb, hml, hown, hts⟩ (hM H.size) ⟨⟨hrc.1, hrc.2, hR.1, hR.2, pay_in hts (ws_good hcode), List.mem_cons_self, hts _ hcode, hts _ hini, ⟨hy.1, hy.2.1⟩, fun sig h => ?_, hts _ hlink⟩, hts _ hinst, hts _ hsel⟩ ⟨yo_blind, hrecv H locs hP hS, fun U hU hW => ⟨rfl, by rw [hU], by rw [hU]; exact hPc, hG.step hW, hDc.weaken (fun _ _ _ _ => trivial), by rw [hU]; exact hE.step hW⟩⟩ rfl hnA hl.1 hst (lv_room hcat) hd hcs
  have h2 := hy.2.2
  rw [h] at h2
  exact (Option.some.inj h2).symm
/-- a method that the receiver's class has from one above it -/
theorem cy_callU (hC : CY p s m args meth c cc nL own ret D A) {F : EF} {x y : MethodName} {cy : ByteArray} {maxL index nA mc ms a : Nat} {E owner : String} {r : Option FieldType} {rm : Room} {As : List Value} {st0 : List Value} {w0 wr : va_W} {P : Option Value → va_W → Prop} (hM : Yo l y (WS y cy maxL r) rm mc ms (.ref a :: As) D F w0 P) (isC isR : List Nat) (hCm : isC.map (fun i => ws[i]?) = w0.map some) (hRm : isR.map (fun i => ws[i]?) = wr.map some) (hn : va_nd isR = true) (hnC : va_nd isC = true) (hdis : ∀ i ∈ isR, i ∉ isC) (hrecv : ∀ (H : Heap) (locs : List Loc), va_P D.1 CLS ws H → va_S A s.heap H locs → ∃ cell : Cell, H[a]? = some cell ∧ cell.vm.isStatics = false ∧ s.vm.findClass E = some cell.cls) (hEF : ∀ (H : Heap) (locs : List Loc), va_P D.1 CLS ws H → va_D A ws → va_S A s.heap H locs → ENV F (va_A w0 H.size) s H) (hcode : Cond.code y cy maxL r ∈ TBL) (hlink : Cond.methodLink own index x ∈ TBL) (hsame : Cond.sameMethod x.cls owner x.name x.desc ∈ TBL) (hinst : Cond.instanceMethod y ∈ TBL) (hsel : Cond.selects E x y ∈ TBL) (hini : Cond.initialized y.cls ∈ TBL) (hyx : y = ⟨owner, x.name, x.desc⟩) (hy : owner ≠ "java/lang/invoke/MethodHandle" ∧ owner ≠ "java/lang/invoke/VarHandle" ∧ (parseMethodDescriptor x.desc).map (fun d => d.parameters.length) = some nA) (hnA : As.length = nA) (hrc : rm.cells = mc ∧ rm.slots = ms) (hR : rm.frames + 1 ≤ R.frames ∧ 8 + (maxL + 11) + rm.locals ≤ R.locals) (hst : st0 = As.reverse ++ .ref a :: st) (hcat : (st.map fun v => v.category).sum ≤ 8) (hcs : k + mc ≤ R.cells ∧ n + ms ≤ R.slots) (hd : decode cc pc = .ok (.invokevirtual index, 3))
    (K : ∀ o w1, P o w1 → XC p l e R s m args below meth c D A nL Q (k + mc) (n + ms) (wr ++ w1) (pc + 3) lv (o.toList ++ st)) : XC p l e R s m args below meth c D A nL Q k n ws pc lv st0 := by
  obtain ⟨hx, hb, hml, hown, hts, hlk, hrt, hG, hA⟩ := hC
  refine cy_run (As := (Value.ref a :: As).toArray) hA isC isR hCm hRm hn hdis (fun H locs ls hP hD hS hl => ?_) K
  have hPc : va_P D.1 CLS w0 H := hP.sub isC (va_fm hCm)
  have hDc : va_D A w0 := hD.sub isC hnC hCm
  have hE := hEF H locs hP hD hS
  refine va_runU (C := E) (bytes := cy) (maxL := maxL) (ret := r) (n := nA) (nL := nL) (Ts := TBL) (b := a) (owner := owner) (x := x) ⟨hx, hb, hml, hown, hts⟩ (hM H.size) ⟨⟨hrc.1, hrc.2, hR.1, hR.2, pay_in hts (ws_good hcode), List.mem_cons_self⟩, hts _ hcode, hts _ hini, ⟨hy.1, hy.2.1⟩, fun sig h => ?_, hts _ hlink, hts _ hsame, by rw [← hyx]; exact va_Decl.of (hts _ hinst) (hts _ hcode), hts _ hsel, hts _ hinst⟩ ⟨yo_blind, hrecv H locs hP hS, fun U hU hW => ⟨rfl, by rw [hU], by rw [hU]; exact hPc, hG.step hW, hDc.weaken (fun _ _ _ _ => trivial), by rw [hU]; exact hE.step hW⟩⟩ rfl hnA hl.1 hst (lv_room hcat) hd hcs
  have h2 := hy.2.2
  rw [h] at h2
  exact (Option.some.inj h2).symm
/-- a method that the receiver's class has in place of one above it -/
theorem cy_callO (hC : CY p s m args meth c cc nL own ret D A) {F : EF} {x y : MethodName} {cy : ByteArray} {maxL index nA mc ms a : Nat} {E owner : String} {r : Option FieldType} {rm : Room} {As : List Value} {st0 : List Value} {w0 wr : va_W} {P : Option Value → va_W → Prop} (hM : Yo l y (WS y cy maxL r) rm mc ms (.ref a :: As) D F w0 P) (isC isR : List Nat) (hCm : isC.map (fun i => ws[i]?) = w0.map some) (hRm : isR.map (fun i => ws[i]?) = wr.map some) (hn : va_nd isR = true) (hnC : va_nd isC = true) (hdis : ∀ i ∈ isR, i ∉ isC) (hrecv : ∀ (H : Heap) (locs : List Loc), va_P D.1 CLS ws H → va_S A s.heap H locs → ∃ cell : Cell, H[a]? = some cell ∧ cell.vm.isStatics = false ∧ s.vm.findClass E = some cell.cls) (hEF : ∀ (H : Heap) (locs : List Loc), va_P D.1 CLS ws H → va_D A ws → va_S A s.heap H locs → ENV F (va_A w0 H.size) s H) (hcode : Cond.code y cy maxL r ∈ TBL) (hlink : Cond.methodLink own index x ∈ TBL) (hsame : Cond.sameMethod x.cls owner x.name x.desc ∈ TBL) (hinst : Cond.instanceMethod y ∈ TBL) (hsel : Cond.selects E x y ∈ TBL) (hini : Cond.initialized y.cls ∈ TBL) {b0 : ByteArray} {m0 : Nat} {r0 : Option FieldType} (hinst0 : Cond.instanceMethod ⟨owner, x.name, x.desc⟩ ∈ TBL) (h0 : Cond.code ⟨owner, x.name, x.desc⟩ b0 m0 r0 ∈ TBL) (hy : owner ≠ "java/lang/invoke/MethodHandle" ∧ owner ≠ "java/lang/invoke/VarHandle" ∧ (parseMethodDescriptor x.desc).map (fun d => d.parameters.length) = some nA) (hnA : As.length = nA) (hrc : rm.cells = mc ∧ rm.slots = ms) (hR : rm.frames + 1 ≤ R.frames ∧ 8 + (maxL + 11) + rm.locals ≤ R.locals) (hst : st0 = As.reverse ++ .ref a :: st) (hcat : (st.map fun v => v.category).sum ≤ 8) (hcs : k + mc ≤ R.cells ∧ n + ms ≤ R.slots) (hd : decode cc pc = .ok (.invokevirtual index, 3))
    (K : ∀ o w1, P o w1 → XC p l e R s m args below meth c D A nL Q (k + mc) (n + ms) (wr ++ w1) (pc + 3) lv (o.toList ++ st)) : XC p l e R s m args below meth c D A nL Q k n ws pc lv st0 := by
  obtain ⟨hx, hb, hml, hown, hts, hlk, hrt, hG, hA⟩ := hC
  refine cy_run (As := (Value.ref a :: As).toArray) hA isC isR hCm hRm hn hdis (fun H locs ls hP hD hS hl => ?_) K
  have hPc : va_P D.1 CLS w0 H := hP.sub isC (va_fm hCm)
  have hDc : va_D A w0 := hD.sub isC hnC hCm
  have hE := hEF H locs hP hD hS
  refine va_runU (C := E) (bytes := cy) (maxL := maxL) (ret := r) (n := nA) (nL := nL) (Ts := TBL) (b := a) (owner := owner) (x := x) ⟨hx, hb, hml, hown, hts⟩ (hM H.size) ⟨⟨hrc.1, hrc.2, hR.1, hR.2, pay_in hts (ws_good hcode), List.mem_cons_self⟩, hts _ hcode, hts _ hini, ⟨hy.1, hy.2.1⟩, fun sig h => ?_, hts _ hlink, hts _ hsame, va_Decl.of (hts _ hinst0) (hts _ h0), hts _ hsel, hts _ hinst⟩ ⟨yo_blind, hrecv H locs hP hS, fun U hU hW => ⟨rfl, by rw [hU], by rw [hU]; exact hPc, hG.step hW, hDc.weaken (fun _ _ _ _ => trivial), by rw [hU]; exact hE.step hW⟩⟩ rfl hnA hl.1 hst (lv_room hcat) hd hcs
  have h2 := hy.2.2
  rw [h] at h2
  exact (Option.some.inj h2).symm
/-- the class above, named so -/
theorem cy_callSU (hC : CY p s m args meth c cc nL own ret D A) {F : EF} {y : MethodName} {cy : ByteArray} {maxL index nA mc ms a ci : Nat} {C : String} {T : u_T} {N : Nat} {r : Option FieldType} {rm : Room} {As : List Value} {st0 : List Value} {w0 wr : va_W} {P : Option Value → va_W → Prop} (hM : Yo l y (WS y cy maxL r) rm mc ms (.ref a :: As) D F w0 P) (isC isR : List Nat) (hCm : isC.map (fun i => ws[i]?) = w0.map some) (hRm : isR.map (fun i => ws[i]?) = wr.map some) (hn : va_nd isR = true) (hnC : va_nd isC = true) (hdis : ∀ i ∈ isR, i ∉ isC) (hci : CLS[ci]? = some (C, T, N)) (hrecv : ∀ (H : Heap) (locs : List Loc), va_P D.1 CLS ws H → va_S A s.heap H locs → ∃ cell : Cell, H[a]? = some cell ∧ cell.vm.isStatics = false ∧ s.vm.findClass C = some cell.cls) (hEF : ∀ (H : Heap) (locs : List Loc), va_P D.1 CLS ws H → va_D A ws → va_S A s.heap H locs → ENV F (va_A w0 H.size) s H) (hcode : Cond.code y cy maxL r ∈ TBL) (hlink : Cond.methodLink own index y ∈ TBL) (hsame : Cond.sameMethod y.cls y.cls y.name y.desc ∈ TBL) (hsup : Cond.superclass own y.cls ∈ TBL) (hinst : Cond.instanceMethod y ∈ TBL) (hini : Cond.initialized y.cls ∈ TBL) (hy : y.name ≠ "<init>" ∧ (parseMethodDescriptor y.desc).map (fun d => d.parameters.length) = some nA) (hnA : As.length = nA) (hrc : rm.cells = mc ∧ rm.slots = ms) (hR : rm.frames + 1 ≤ R.frames ∧ 8 + (maxL + 11) + rm.locals ≤ R.locals) (hst : st0 = As.reverse ++ .ref a :: st) (hcat : (st.map fun v => v.category).sum ≤ 8) (hcs : k + mc ≤ R.cells ∧ n + ms ≤ R.slots) (hd : decode cc pc = .ok (.invokespecial index, 3))
    (K : ∀ o w1, P o w1 → XC p l e R s m args below meth c D A nL Q (k + mc) (n + ms) (wr ++ w1) (pc + 3) lv (o.toList ++ st)) : XC p l e R s m args below meth c D A nL Q k n ws pc lv st0 := by
  obtain ⟨hx, hb, hml, hown, hts, hlk, hrt, hG, hA⟩ := hC
  refine cy_run (As := (Value.ref a :: As).toArray) hA isC isR hCm hRm hn hdis (fun H locs ls hP hD hS hl => ?_) K
  have hPc : va_P D.1 CLS w0 H := hP.sub isC (va_fm hCm)
  have hDc : va_D A w0 := hD.sub isC hnC hCm
  have hE := hEF H locs hP hD hS
  refine va_runSU (C := C) (bytes := cy) (maxL := maxL) (ret := r) (n := nA) (nL := nL) (Ts := TBL) (b := a) ((hG.1.1 ci _ hci).2) ⟨hx, hb, hml, hown, hts⟩ (hM H.size) ⟨⟨hrc.1, hrc.2, hR.1, hR.2, pay_in hts (ws_good hcode), List.mem_cons_self⟩, hts _ hlink, hts _ hsame, hts _ hsup, hts _ hinst, hts _ hini, hts _ hcode, hy.1, fun sig h => ?_⟩ ⟨yo_blind, hrecv H locs hP hS, fun U hU hW => ⟨rfl, by rw [hU], by rw [hU]; exact hPc, hG.step hW, hDc.weaken (fun _ _ _ _ => trivial), by rw [hU]; exact hE.step hW⟩⟩ rfl hnA hl.1 hst (lv_room hcat) hd hcs
  have h2 := hy.2
  rw [h] at h2
  exact (Option.some.inj h2).symm
theorem cy_callI (hC : CY p s m args meth c cc nL own ret D A) {F : EF} {y : MethodName} {cy : ByteArray} {maxL index nA mc ms a : Nat} {rm : Room} {As : List Value} {st0 : List Value} {w0 wr : va_W} {P : Option Value → va_W → Prop} (hM : Yo l y (WS y cy maxL none) rm mc ms (.ref a :: As) D F w0 P) (isC isR : List Nat) (hCm : isC.map (fun i => ws[i]?) = w0.map some) (hRm : isR.map (fun i => ws[i]?) = wr.map some) (hn : va_nd isR = true) (hnC : va_nd isC = true) (hdis : ∀ i ∈ isR, i ∉ isC) (hEF : ∀ (H : Heap) (locs : List Loc), va_P D.1 CLS ws H → va_D A ws → va_S A s.heap H locs → ENV F (va_A w0 H.size) s H) (hcode : Cond.code y cy maxL none ∈ TBL) (hlink : Cond.methodLink own index y ∈ TBL) (hinst : Cond.instanceMethod y ∈ TBL) (hini : Cond.initialized y.cls ∈ TBL) (hyn : y.name = "<init>") (hy : y.cls ≠ "java/lang/invoke/MethodHandle" ∧ y.cls ≠ "java/lang/invoke/VarHandle" ∧ (parseMethodDescriptor y.desc).map (fun d => d.parameters.length) = some nA) (hnA : As.length = nA) (hrc : rm.cells = mc ∧ rm.slots = ms) (hR : rm.frames + 1 ≤ R.frames ∧ 8 + (maxL + 11) + rm.locals ≤ R.locals) (hst : st0 = As.reverse ++ .ref a :: st) (hcat : (st.map fun v => v.category).sum ≤ 8) (hcs : k + mc ≤ R.cells ∧ n + ms ≤ R.slots) (hd : decode cc pc = .ok (.invokespecial index, 3))
    (K : ∀ o w1, P o w1 → XC p l e R s m args below meth c D A nL Q (k + mc) (n + ms) (wr ++ w1) (pc + 3) lv (o.toList ++ st)) : XC p l e R s m args below meth c D A nL Q k n ws pc lv st0 := by
  obtain ⟨hx, hb, hml, hown, hts, hlk, hrt, hG, hA⟩ := hC
  refine cy_run (As := (Value.ref a :: As).toArray) hA isC isR hCm hRm hn hdis (fun H locs ls hP hD hS hl => ?_) K
  have hPc : va_P D.1 CLS w0 H := hP.sub isC (va_fm hCm)
  have hDc : va_D A w0 := hD.sub isC hnC hCm
  have hE := hEF H locs hP hD hS
  exact va_runI (bytes := cy) (maxL := maxL) (n := nA) (nL := nL) (Ts := TBL) (b := a) ⟨hx, hb, hml, hown, hts⟩ (hM H.size) ⟨⟨hrc.1, hrc.2, hR.1, hR.2, pay_in hts (ws_good hcode), List.mem_cons_self, hts _ hcode, hts _ hini, ⟨hy.1, hy.2.1⟩, fun sig h => by
    have h2 := hy.2.2
    rw [h] at h2
    exact (Option.some.inj h2).symm, hts _ hlink⟩, hyn, hts _ hinst⟩ ⟨yo_blind, fun U hU hW => ⟨rfl, by rw [hU], by rw [hU]; exact hPc, hG.step hW, hDc.weaken (fun _ _ _ _ => trivial), by rw [hU]; exact hE.step hW⟩⟩ rfl hnA hl.1 hst (lv_room hcat) hd hcs
/-- fields of a class above -/
theorem cx_getA (hC : CY p s m args meth c cc nL own ret D A) (q0 kf : Nat) {C : String} {T : u_T} {N ci index a : Nat} {v : Value} {fs : List Value} (hin : ∀ w ∈ u_ws C T N, w ∈ TBL) (he : ws[q0]? = some (a, .inr (ci, fs))) (hc : CLS[ci]? = some (C, T, N)) (hk : kf < N) (hlink : Cond.fieldLink own index (T kf).1 (T kf).2.1 (T kf).2.2.1 ∈ TBL) (hv : fs[kf]? = some v) (hd : decode cc pc = .ok (.getfield index, 3)) (K : XC p l e R s m args below meth c D A nL Q k n ws (pc + 3) lv (v :: st)) : XC p l e R s m args below meth c D A nL Q k n ws pc lv (.ref a :: st) := by
  obtain ⟨hx, hb, hml, hown, hts, hlk, hrt, hG, hA⟩ := hC
  exact fun H locs ls hP hD hS hl => va_get hx hb hts hin hown hG.1 hP q0 he hc kf hk (hts _ hlink) (fun x h => h) hv hd (K H locs ls hP hD hS hl)
theorem cx_putA (hC : CY p s m args meth c cc nL own ret D A) (q0 kf : Nat) {C : String} {T : u_T} {N ci index a : Nat} {v : Value} {fs : List Value} {ty0 : Nat → FieldType} {ty : FieldType} (ws' : va_W) (hin : ∀ w ∈ u_ws C T N, w ∈ TBL) (hty : ∀ k, k < N → parseFieldDescriptor (T k).2.2.1 = some (ty0 k)) (hnm : ∀ a, a < N → ∀ b, b < N → a ≠ b → (T a).2.1 ≠ (T b).2.1) (he : ws[q0]? = some (a, .inr (ci, fs))) (hc : CLS[ci]? = some (C, T, N)) (hk : kf < N) (hlink : Cond.fieldLink own index (T kf).1 (T kf).2.1 (T kf).2.2.1 ∈ TBL) (hfin : (T kf).2.2.2 = false) (hdt : parseFieldDescriptor (T kf).2.2.1 = some ty) (hnv : narrow ty v = v) (hfit : fits ty v = true) (hlen : kf < fs.length) (hw : ws.set q0 (a, .inr (ci, fs.set kf v)) = ws') (hd : decode cc pc = .ok (.putfield index, 3)) (K : XC p l e R s m args below meth c D A nL Q k n ws' (pc + 3) lv st) : XC p l e R s m args below meth c D A nL Q k n ws pc lv (v :: .ref a :: st) := by
  obtain ⟨hx, hb, hml, hown, hts, hlk, hrt, hG, hA⟩ := hC
  intro H locs ls hP hD hS hl
  refine va_put hx hb hts hin ty0 hty hnm hown hG.1 hP hD hS q0 he hc kf hk (hts _ hlink) (fun x h => h) hfin hdt hnv hfit hlen hd (fun H1 locs1 hP1 hD1 hS1 => ?_)
  rw [hw] at hP1 hD1
  exact K H1 locs1 ls hP1 hD1 hS1 hl
/-- a row of bytes of one's own, cloned, and cast back -/
theorem cx_cloneb (hC : CY p s m args meth c cc nL own ret D A) {F : EF} (hE : ENV F A s s.heap) (q0 : Nat) {index a N : Nat} {f : Nat → Int32} (ha : ws[q0]? = some (a, .inl (D.2 1, N, .inl f))) (hfit : ∀ i, i < N → fits .byte (.int (f i)) = true) (hlink : Cond.methodLink own index ⟨"[B", "clone", "()Ljava/lang/Object;"⟩ ∈ TBL) (hf : 1 ≤ R.frames) (hlo : (st.map fun v => v.category).sum + 14 ≤ R.locals) (hcs : k + 1 ≤ R.cells ∧ n + N ≤ R.slots) (hd : decode cc pc = .ok (.invokevirtual index, 3)) (K : ∀ q, XC p l e R s m args below meth c D A nL Q (k + 1) (n + N) (ws ++ [(q, .inl (D.2 1, N, .inl f))]) (pc + 3) lv (.ref q :: st)) : XC p l e R s m args below meth c D A nL Q k n ws pc lv (.ref a :: st) := by
  obtain ⟨hx, hb, hml, hown, hts, hlk, hrt, hG, hA⟩ := hC
  intro H locs ls hP hD hS hl
  have hnm : s.vm.findClass "[B" = some (D.2 1) := (hG.1.2 1 (D.2 1, .byte) rfl).2
  obtain ⟨c1, t1, e1, e2, e3⟩ := hE.2.2.2.2.2.2.2.1
  refine va_clone hx hb (hml.trans hl.1.symm) hown (hts _ hlink) (hts _ kcl_same) (hts _ kcl_nat) (hts _ kcl_inst) (hts _ kcl_sel) (by simp [va_Nw, Cond.before, Cond.holds, Cond.value, e1, e2, e3]) hG.1 hP hD hS hA q0 1 (x := (N, .inl f)) ha rfl hnm (fun i v hv => ?_) hf hlo hcs.1 hcs.2 hd (fun q H1 hK1 hP1 hD1 hS1 => K q H1 locs ls hP1 hD1 hS1 hl)
  rw [vp_cell_i] at hv
  have hi : i < N := by
    have := (Array.getElem?_eq_some_iff.mp hv).1
    rw [arrV_size] at this
    exact this
  rw [arrV_read _ _ hi] at hv
  cases hv
  exact hfit i hi
theorem cx_castb (hC : CY p s m args meth c cc nL own ret D A) (q0 : Nat) {index a N : Nat} {f : Nat → Int32} (ha : ws[q0]? = some (a, .inl (D.2 1, N, .inl f))) (hlink : Cond.classLink own index "[B" ∈ TBL) (hd : decode cc pc = .ok (.checkcast index, 3)) (K : XC p l e R s m args below meth c D A nL Q k n ws (pc + 3) lv (.ref a :: st)) : XC p l e R s m args below meth c D A nL Q k n ws pc lv (.ref a :: st) := by
  obtain ⟨hx, hb, hml, hown, hts, hlk, hrt, hG, hA⟩ := hC
  intro H locs ls hP hD hS hl
  have hnm : s.vm.findClass "[B" = some (D.2 1) := (hG.1.2 1 (D.2 1, .byte) rfl).2
  exact va_castA hx hb hown (hts _ hlink) hP q0 ha hnm hd (K H locs ls hP hD hS hl)
/-- a cell that isn't the callee's -/
theorem na_of {w0 : va_W} {H : Heap} {a : Nat} {en : va_E} (hP : va_P D.1 CLS ws H) (hD : va_D A ws) (isC : List Nat) (hCm : isC.map (fun i => ws[i]?) = w0.map some) (i : Nat) (hi : ws[i]? = some (a, en)) (hn : i ∉ isC) : ¬ va_A w0 H.size a := by
  intro h
  rcases h with ⟨k2, e2, h⟩ | h
  · have h1 : (isC.map (fun i => ws[i]?))[k2]? = some (some (a, e2)) := by rw [hCm, List.getElem?_map, h]; rfl
    rw [List.getElem?_map] at h1
    cases hj : isC[k2]? with
    | none => rw [hj] at h1; cases h1
    | some j =>
      rw [hj] at h1
      have h2 : ws[j]? = some (a, e2) := Option.some.inj h1
      have := hD.1 i j _ _ hi h2 rfl
      subst this
      exact hn (List.mem_of_getElem? hj)
  · have := (hP i _ hi).lt
    omega
theorem rc_sb (hC : CY p s m args meth c cc nL own ret D A) {q0 a : Nat} {fs : List Value} (h : ws[q0]? = some (a, .inr (5, fs))) : ∀ (H : Heap) (locs : List Loc), va_P D.1 CLS ws H → va_S A s.heap H locs → ∃ cell : Cell, H[a]? = some cell ∧ cell.vm.isStatics = false ∧ s.vm.findClass RJ4 = some cell.cls := by
  obtain ⟨hx, hb, hml, hown, hts, hlk, hrt, hG, hA⟩ := hC
  exact fun H locs hP _ => va_recv hG.1 hP (q := (RJ4, TJ4, 4)) rfl h
theorem rc_str {F : EF} (hE : ENV F A s s.heap) {a v : Nat} {L : List Int32} (hm : (a, v, L) ∈ F.1) : ∀ (H : Heap) (locs : List Loc), va_P D.1 CLS ws H → va_S A s.heap H locs → ∃ cell : Cell, H[a]? = some cell ∧ cell.vm.isStatics = false ∧ s.vm.findClass RJ0 = some cell.cls := by
  intro H locs _ hS
  obtain ⟨cell, h1, h2, h3, -⟩ := (hE.2.2.2.2.1 _ hm).1.kept hS.2.1
  exact ⟨cell, h1, h2, h3⟩
theorem ef_sub (hC : CY p s m args meth c cc nL own ret D A) {F : EF} (hE : ENV F A s s.heap) (isC : List Nat) {w0 : va_W} (hCm : isC.map (fun i => ws[i]?) = w0.map some) : ∀ (H : Heap) (locs : List Loc), va_P D.1 CLS ws H → va_D A ws → va_S A s.heap H locs → ENV F (va_A w0 H.size) s H := by
  obtain ⟨hx, hb, hml, hown, hts, hlk, hrt, hG, hA⟩ := hC
  exact fun H locs _ hD hS => env_sub hE hA isC hCm hD hS
theorem ef_own (hC : CY p s m args meth c cc nL own ret D A) {F : EF} (hE : ENV F A s s.heap) (isC : List Nat) {w0 : va_W} (hCm : isC.map (fun i => ws[i]?) = w0.map some) {a v N i j : Nat} {hs hz : Value} {f : Nat → Int32} {L : List Int32} (hi : ws[i]? = some (a, .inr (4, [.ref v, .int 0, hs, hz]))) (hj : ws[j]? = some (v, .inl (D.2 1, N, .inl f))) (hN : N = L.length) (hf : ∀ k, k < N → f k = L.getD k 0) (hni : i ∉ isC) (hnj : j ∉ isC) : ∀ (H : Heap) (locs : List Loc), va_P D.1 CLS ws H → va_D A ws → va_S A s.heap H locs → ENV ((a, v, L) :: F.1, F.2) (va_A w0 H.size) s H := by
  obtain ⟨hx, hb, hml, hown, hts, hlk, hrt, hG, hA⟩ := hC
  exact fun H locs hP hD hS => (env_sub hE hA isC hCm hD hS).add (STR.cell hG.1 hts hP hi hj hN hf (na_of hP hD isC hCm i hi hni) (na_of hP hD isC hCm j hj hnj))
theorem ef_row (hC : CY p s m args meth c cc nL own ret D A) {F : EF} (hE : ENV F A s s.heap) (isC : List Nat) {w0 : va_W} (hCm : isC.map (fun i => ws[i]?) = w0.map some) {v N j : Nat} {f : Nat → Int32} (hj : ws[j]? = some (v, .inl (D.2 0, N, .inl f))) (hnj : j ∉ isC) : ∀ (H : Heap) (locs : List Loc), va_P D.1 CLS ws H → va_D A ws → va_S A s.heap H locs → ENV (F.1, (v, N, f) :: F.2.1, F.2.2) (va_A w0 H.size) s H := by
  obtain ⟨hx, hb, hml, hown, hts, hlk, hrt, hG, hA⟩ := hC
  exact fun H locs hP hD hS => (env_sub hE hA isC hCm hD hS).row (ROW.cell hG.1 hP hj (na_of hP hD isC hCm j hj hnj))
/-- the class's own contracts over a list of cells -/
theorem Met.imp {y : MethodName} {wd : List Cond} {rm : Room} {Pc Pc' : Array Value → State → Prop} {Qc Qc' : Array Value → State → Outcome → State → Prop} {mc ms : Nat} {f f' : Addr → Prop} (h : Met l y wd rm Pc Qc mc ms f) (hp : ∀ a st, Pc' a st → Pc a st) (hq : ∀ a st o t, Pc' a st → Qc a st o t → Qc' a st o t) (hf : f = f') : Met l y wd rm Pc' Qc' mc ms f' := by
  unfold Met MetFree at h ⊢
  intro p e h1 h2 h3 s m args below h4 h5 h6 h7
  obtain ⟨n, o, a1, a2, a3, a4, L, a5, a6⟩ := h p e h1 h2 h3 s m args below h4 h5 (hp _ _ h6) h7
  exact ⟨n, o, a1, a2, a3, hq _ _ _ _ h6 a4, L, a5, by rw [← hf]; exact a6⟩
theorem af_eq (G : GG) (M : Mm) (sz : Nat) : AF G sz = va_A (WL G M) sz := by
  funext q
  apply propext
  constructor
  · rintro (⟨i, hi, rfl⟩ | h)
    · exact Or.inl ⟨_, _, WL_get hi⟩
    · exact Or.inr h
  · rintro (⟨k, en, hk⟩ | h)
    · obtain ⟨h1, h2⟩ := WL_at hk
      exact Or.inl ⟨qi k, (idL_qi k h1).2.1, h2⟩
    · exact Or.inr h
theorem gi_of {G : GG} {M : Mm} {B : Nat → Prop} (h : va_D B (WL G M)) : GI G := by
  intro i j hi hj e
  have h1 := h.1 _ _ _ _ (WL_get (G := G) (M := M) hi) (WL_get (G := G) (M := M) hj) e
  rw [← (pl_qi hi).2, h1, (pl_qi hj).2]
def GO (D : DG) (F : EF) (G : GG) : Prop := G.1 = D.1 ∧ G.2.2.1 = D.2 ∧ G.2.2.2 = ([], []) ∧ TKI G ∧ ∀ i, 1000 ≤ i → G.2.1 i = F.2.2.2 i
theorem yo_mo {b : Bool} {y : MethodName} {wd : List Cond} {rm : Room} {mc ms : Nat} {vs : List Value} {G : GG} {M M' : Mm} {o : Option Value} {F : EF} (h : Mo b l y wd rm mc ms vs G M o M') (hg : GO D F G) : Yo l y wd rm mc ms vs D F (WL G M) (fun o' w1 => o' = o ∧ w1 = WL G M' ∧ BVo b o) := by
  obtain ⟨h1, h2, h3, hI, ht⟩ := hg
  intro sz
  have hT : TYS G = CT D := by unfold TYS CT; rw [h2]
  refine Met.imp (h sz) (fun a U hh => ?_) (fun a U o2 t hh hq => ?_) (af_eq G M sz)
  · obtain ⟨ha, hsz, hP, hG, hD, hE⟩ := hh
    refine ⟨ha, hsz, by rw [h1]; exact hP, gi_of hD, by rw [h1, hT]; exact hG.1, hG.2.1, hI, ?_, ?_⟩
    · rw [hsz, af_eq G M sz]
      exact hE.2.2.2.2.2.2.2.2.congr (fun i hi => ht i hi)
    · unfold STS
      rw [h3]
      exact ⟨fun q m => absurd m List.not_mem_nil, fun q m => absurd m List.not_mem_nil⟩
  · obtain ⟨ha, hsz, hP, hG, hD, hE⟩ := hh
    obtain ⟨e1, e2, e3, e4⟩ := hq
    rw [af_eq G M sz] at e3
    refine ⟨⟨o, WL G M', e1, ⟨rfl, rfl, e4⟩, by rw [← h1]; exact e2, ?_⟩, e3⟩
    rw [← af_eq G M sz]
    exact WL_D (gi_of hD)
end ZR
