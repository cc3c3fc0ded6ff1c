/-! constructors: a world that grows, as a list of cells -/
abbrev DG : Type := va_G × (Nat → ClassId)
def CT (D : DG) : List (ClassId × FieldType) := [(D.2 0, .int), (D.2 1, .byte), (D.2 2, .object "PeatBog$Gang"), (D.2 3, .object "PeatBog$Token")]
def KG (D : DG) (U : State) : Prop := va_K D.1 CLS (CT D) U ∧ (∀ w ∈ NTL, va_Nw w U) ∧ va_AO "PeatBog$Gang" U ∧ va_AO "PeatBog$Token" U
theorem KG.calling {D : DG} {U : State} {g : JFrame} {mk : MethodId} {a : Array Value} (h : KG D U) : KG D (U.calling g mk a) :=
  ⟨va_K.moved (u := U) (U := U.calling g mk a) (Vm.Alike.refl U.vm) h.1, fun w hw => by
    rcases ntl_fm w hw with ⟨_, _, _, _, _, _, e⟩ | ⟨_, _, _, _, e⟩ <;> (have h2 := h.2.1 w hw; subst e; exact va_Nw.same rfl (U := U.calling g mk a) (u := U) rfl h2), va_AO.moved (u := U) (U := U.calling g mk a) (Vm.Alike.refl U.vm) h.2.2.1, va_AO.moved (u := U) (U := U.calling g mk a) (Vm.Alike.refl U.vm) h.2.2.2⟩
theorem KG.step {D : DG} {s U : State} (hW : s.WarmedH U.vm) (h : KG D s) : KG D U :=
  ⟨va_K.moved hW.alike h.1, fun w hw => by
    rcases ntl_fm w hw with ⟨_, _, _, _, _, _, e⟩ | ⟨_, _, _, _, e⟩
    · have h2 := h.2.1 w hw; subst e; exact va_Nw.warmF hW h2
    · have h2 := h.2.1 w hw; subst e; exact va_Nw.warmM hW h2, va_AO.moved hW.alike h.2.2.1, va_AO.moved hW.alike h.2.2.2⟩
def Nc (l : Launch) (y : MethodName) (wd : List Cond) (rm : Room) (mc ms : Nat) (vs : List Value) (D : DG) (w0 : va_W) (P : va_W → Prop) : Prop :=
  ∀ sz, Met l y wd rm (va_Pc vs (fun U => U.heap.size = sz ∧ va_P D.1 CLS w0 U.heap ∧ KG D U ∧ va_D (fun _ => True) w0)) (fun _ st oc t => oc = .returned none ∧ (∃ w1, P w1 ∧ va_P D.1 CLS w1 t.heap ∧ va_D (va_A w0 sz) w1) ∧ va_F (va_A w0 sz) st t) mc ms (va_A w0 sz)
theorem va_fm {ws w0 : va_W} {is : List Nat} (h : is.map (fun i => ws[i]?) = w0.map some) : is.filterMap (fun i => ws[i]?) = w0 := by
  induction is generalizing w0 with
  | nil => cases w0 with
    | nil => rfl
    | cons a b => cases h
  | cons i is ih =>
    cases w0 with
    | nil => cases h
    | cons a b =>
      have h1 : ws[i]? = some a := (List.cons.inj h).1
      have h2 : is.map (fun i => ws[i]?) = b.map some := (List.cons.inj h).2
      rw [List.filterMap_cons, h1]
      show a :: is.filterMap (fun i => ws[i]?) = a :: b
      rw [ih h2]
section CR
variable {p : Program} {l : Launch} {e : Env} {R : Room} {s : State} {m : MethodId} {args : Array Value} {below : List Frame} {meth : Method} {c : Code} {cc : ByteArray} {nL : Nat} {own : String} {D : DG} {A : Nat → Prop} {Q : State → Prop} {k n : Nat} {ws : va_W} {pc : Nat} {lv lv' : List (Nat × Value)} {st : List Value} {ret : Option FieldType}
def XC (p : Program) (l : Launch) (e : Env) (R : Room) (s : State) (m : MethodId) (args : Array Value) (below : List Frame) (meth : Method) (c : Code) (D : DG) (A : Nat → Prop) (nL : Nat) (Q : State → Prop) (k n : Nat) (ws : va_W) (pc : Nat) (lv : List (Nat × Value)) (st : List Value) : Prop :=
  ∀ (H : Heap) (locs : List Loc) (ls : Array Slot), va_P D.1 CLS ws H → va_D A ws → va_S A s.heap H locs → lv_has ls nL lv → W p l e R s m args below meth c H locs k n Q (F0 m pc ls st)
def CY (p : Program) (s : State) (m : MethodId) (args : Array Value) (meth : Method) (c : Code) (cc : ByteArray) (nL : Nat) (own : String) (ret : Option FieldType) (D : DG) (A : Nat → Prop) : Prop :=
  p.tables.exec = Jvm.exec ∧ c.code = cc ∧ c.maxLocals = nL ∧ s.vm.findClass own = some m.cls ∧ (∀ w ∈ TBL, w.before args s = true) ∧ meth.locks = false ∧ meth.sig.returnType = ret ∧ KG D s ∧ ∀ q, s.heap.size ≤ q → A q
theorem cx_sub (ks : List Nat) (h : lv_pick lv ks = lv') (K : XC p l e R s m args below meth c D A nL Q k n ws pc lv' st) : XC p l e R s m args below meth c D A nL Q k n ws pc lv st := fun H locs ls hP hD hS hl => K H locs ls hP hD hS (lv_sub hl ks h)
theorem cx_iload_n (hC : CY p s m args meth c cc nL own ret D A) {kk : Fin 4} {i : Nat} {x : Int32} (hd : decode cc pc = .ok (.iload_n kk, 1)) (hi : (kk : Nat) = i) (j : Nat) (hj : lv[j]? = some (i, .int x)) (K : XC p l e R s m args below meth c D A nL Q k n ws (pc + 1) lv (.int x :: st)) : XC p l e R s m args below meth c D A nL Q k n ws pc lv st := by
  obtain ⟨hx, hb, -⟩ := hC
  exact fun H locs ls hP hD hS hl => lv_iload_n hx hb hd hi (lv_at hl j hj) (K H locs ls hP hD hS hl)
theorem cx_iload (hC : CY p s m args meth c cc nL own ret D A) {i : Nat} {x : Int32} (hd : decode cc pc = .ok (.iload i, 2)) (j : Nat) (hj : lv[j]? = some (i, .int x)) (K : XC p l e R s m args below meth c D A nL Q k n ws (pc + 2) lv (.int x :: st)) : XC p l e R s m args below meth c D A nL Q k n ws pc lv st := by
  obtain ⟨hx, hb, -⟩ := hC
  exact fun H locs ls hP hD hS hl => lv_iload hx hb hd (lv_at hl j hj) (K H locs ls hP hD hS hl)
theorem cx_aload_n (hC : CY p s m args meth c cc nL own ret D A) {kk : Fin 4} {i x : Nat} (hd : decode cc pc = .ok (.aload_n kk, 1)) (hi : (kk : Nat) = i) (j : Nat) (hj : lv[j]? = some (i, .ref x)) (K : XC p l e R s m args below meth c D A nL Q k n ws (pc + 1) lv (.ref x :: st)) : XC p l e R s m args below meth c D A nL Q k n ws pc lv st := by
  obtain ⟨hx, hb, -⟩ := hC
  exact fun H locs ls hP hD hS hl => lv_aload_n hx hb hd hi (lv_at hl j hj) (K H locs ls hP hD hS hl)
theorem cx_aload (hC : CY p s m args meth c cc nL own ret D A) {i x : Nat} (hd : decode cc pc = .ok (.aload i, 2)) (j : Nat) (hj : lv[j]? = some (i, .ref x)) (K : XC p l e R s m args below meth c D A nL Q k n ws (pc + 2) lv (.ref x :: st)) : XC p l e R s m args below meth c D A nL Q k n ws pc lv st := by
  obtain ⟨hx, hb, -⟩ := hC
  exact fun H locs ls hP hD hS hl => lv_aload hx hb hd (lv_at hl j hj) (K H locs ls hP hD hS hl)
theorem cx_istore_n (hC : CY p s m args meth c cc nL own ret D A) {kk : Fin 4} {i : Nat} {x : Int32} (lv' : List (Nat × Value)) (hd : decode cc pc = .ok (.istore_n kk, 1)) (hi : (kk : Nat) = i) (hn : i < nL) (hl' : (i, Value.int x) :: lv.filter (fun q => !(q.1 == i) && !(q.1 + 1 == i && q.2.category == 2)) = lv') (K : XC p l e R s m args below meth c D A nL Q k n ws (pc + 1) lv' st) : XC p l e R s m args below meth c D A nL Q k n ws pc lv (.int x :: st) := by
  obtain ⟨hx, hb, -⟩ := hC
  exact fun H locs ls hP hD hS hl => lv_istore_n hx hb hd hi hl hn hl' (fun ls' hl2 => K H locs ls' hP hD hS hl2)
theorem cx_istore (hC : CY p s m args meth c cc nL own ret D A) {i : Nat} {x : Int32} (lv' : List (Nat × Value)) (hd : decode cc pc = .ok (.istore i, 2)) (hn : i < nL) (hl' : (i, Value.int x) :: lv.filter (fun q => !(q.1 == i) && !(q.1 + 1 == i && q.2.category == 2)) = lv') (K : XC p l e R s m args below meth c D A nL Q k n ws (pc + 2) lv' st) : XC p l e R s m args below meth c D A nL Q k n ws pc lv (.int x :: st) := by
  obtain ⟨hx, hb, -⟩ := hC
  exact fun H locs ls hP hD hS hl => lv_istore hx hb hd hl hn hl' (fun ls' hl2 => K H locs ls' hP hD hS hl2)
theorem cx_iinc (hC : CY p s m args meth c cc nL own ret D A) {i : Nat} {d : Int} {x v : Int32} (lv' : List (Nat × Value)) (hd : decode cc pc = .ok (.iinc i d, 3)) (j : Nat) (hj : lv[j]? = some (i, .int x)) (hv : x + Int32.ofInt d = v) (hn : i < nL) (hl' : (i, Value.int v) :: lv.filter (fun q => !(q.1 == i) && !(q.1 + 1 == i && q.2.category == 2)) = lv') (K : XC p l e R s m args below meth c D A nL Q k n ws (pc + 3) lv' st) : XC p l e R s m args below meth c D A nL Q k n ws pc lv st := by
  obtain ⟨hx, hb, -⟩ := hC
  exact fun H locs ls hP hD hS hl => lv_iinc hx hb hd hl hj hv hn hl' (fun ls' hl2 => K H locs ls' hP hD hS hl2)
theorem cx_iconst (hC : CY p s m args meth c cc nL own ret D A) {d : Int} (v : Int32) (hd : decode cc pc = .ok (.iconst d, 1)) (hv : Int32.ofInt d = v) (K : XC p l e R s m args below meth c D A nL Q k n ws (pc + 1) lv (.int v :: st)) : XC p l e R s m args below meth c D A nL Q k n ws pc lv st := by
  obtain ⟨hx, hb, -⟩ := hC
  exact fun H locs ls hP hD hS hl => lv_iconst hx hb hd hv (K H locs ls hP hD hS hl)
theorem cx_bipush (hC : CY p s m args meth c cc nL own ret D A) {d : Int} (v : Int32) (hd : decode cc pc = .ok (.bipush d, 2)) (hv : (Int8.ofInt d).toInt32 = v) (K : XC p l e R s m args below meth c D A nL Q k n ws (pc + 2) lv (.int v :: st)) : XC p l e R s m args below meth c D A nL Q k n ws pc lv st := by
  obtain ⟨hx, hb, -⟩ := hC
  exact fun H locs ls hP hD hS hl => lv_bipush hx hb hd hv (K H locs ls hP hD hS hl)
theorem cx_sipush (hC : CY p s m args meth c cc nL own ret D A) {d : Int} (v : Int32) (hd : decode cc pc = .ok (.sipush d, 3)) (hv : (Int16.ofInt d).toInt32 = v) (K : XC p l e R s m args below meth c D A nL Q k n ws (pc + 3) lv (.int v :: st)) : XC p l e R s m args below meth c D A nL Q k n ws pc lv st := by
  obtain ⟨hx, hb, -⟩ := hC
  exact fun H locs ls hP hD hS hl => lv_sipush hx hb hd hv (K H locs ls hP hD hS hl)
theorem cx_goto (hC : CY p s m args meth c cc nL own ret D A) {off : Int} (tgt : Nat) (hd : decode cc pc = .ok (.goto off, 3)) (ht : (pc : Int) + off = (tgt : Int)) (K : XC p l e R s m args below meth c D A nL Q k n ws tgt lv st) : XC p l e R s m args below meth c D A nL Q k n ws pc lv st := by
  obtain ⟨hx, hb, -⟩ := hC
  exact fun H locs ls hP hD hS hl => lv_goto hx hb hd ht (K H locs ls hP hD hS hl)
theorem cx_dup (hC : CY p s m args meth c cc nL own ret D A) {va : Value} (hd : decode cc pc = .ok (.dup, 1)) (hva : va.category = 1) (K : XC p l e R s m args below meth c D A nL Q k n ws (pc + 1) lv (va :: va :: st)) : XC p l e R s m args below meth c D A nL Q k n ws pc lv (va :: st) := by
  obtain ⟨hx, hb, -⟩ := hC
  exact fun H locs ls hP hD hS hl => lv_dup hx hb hd hva (K H locs ls hP hD hS hl)
theorem cx_icmp_ge (hC : CY p s m args meth c cc nL own ret D A) {x y : Int32} {off : Int} (tgt : Nat) (hd : decode cc pc = .ok (.if_icmp .ge off, 3)) (ht : (pc : Int) + off = (tgt : Int)) (kt : y ≤ x → XC p l e R s m args below meth c D A nL Q k n ws tgt lv st) (kf : ¬ y ≤ x → XC p l e R s m args below meth c D A nL Q k n ws (pc + 3) lv st) : XC p l e R s m args below meth c D A nL Q k n ws pc lv (.int y :: .int x :: st) := by
  obtain ⟨hx, hb, -⟩ := hC
  exact fun H locs ls hP hD hS hl => lv_icmp_ge hx hb hd ht (fun h => kt h H locs ls hP hD hS hl) (fun h => kf h H locs ls hP hD hS hl)
theorem cx_if_ne (hC : CY p s m args meth c cc nL own ret D A) {x : Int32} {off : Int} (tgt : Nat) (hd : decode cc pc = .ok (.ifCond .ne off, 3)) (ht : (pc : Int) + off = (tgt : Int)) (kt : ¬ x = 0 → XC p l e R s m args below meth c D A nL Q k n ws tgt lv st) (kf : x = 0 → XC p l e R s m args below meth c D A nL Q k n ws (pc + 3) lv st) : XC p l e R s m args below meth c D A nL Q k n ws pc lv (.int x :: st) := by
  obtain ⟨hx, hb, -⟩ := hC
  exact fun H locs ls hP hD hS hl => lv_if_ne hx hb hd ht (fun h => kt h H locs ls hP hD hS hl) (fun h => kf h H locs ls hP hD hS hl)
theorem cx_astore_n (hC : CY p s m args meth c cc nL own ret D A) {kk : Fin 4} {i : Nat} {x : Nat} (lv' : List (Nat × Value)) (hd : decode cc pc = .ok (.astore_n kk, 1)) (hi : (kk : Nat) = i) (hn : i < nL) (hl' : (i, Value.ref x) :: lv.filter (fun q => !(q.1 == i) && !(q.1 + 1 == i && q.2.category == 2)) = lv') (K : XC p l e R s m args below meth c D A nL Q k n ws (pc + 1) lv' st) : XC p l e R s m args below meth c D A nL Q k n ws pc lv (.ref x :: st) := by
  obtain ⟨hx, hb, -⟩ := hC
  exact fun H locs ls hP hD hS hl => lv_astore_n hx hb hd hi hl hn hl' (fun ls' hl2 => K H locs ls' hP hD hS hl2)
theorem cx_astore (hC : CY p s m args meth c cc nL own ret D A) {i : Nat} {x : Nat} (lv' : List (Nat × Value)) (hd : decode cc pc = .ok (.astore i, 2)) (hn : i < nL) (hl' : (i, Value.ref x) :: lv.filter (fun q => !(q.1 == i) && !(q.1 + 1 == i && q.2.category == 2)) = lv') (K : XC p l e R s m args below meth c D A nL Q k n ws (pc + 2) lv' st) : XC p l e R s m args below meth c D A nL Q k n ws pc lv (.ref x :: st) := by
  obtain ⟨hx, hb, -⟩ := hC
  exact fun H locs ls hP hD hS hl => lv_astore hx hb hd hl hn hl' (fun ls' hl2 => K H locs ls' hP hD hS hl2)
theorem cx_ws {ws' : va_W} (h : ws = ws') (K : XC p l e R s m args below meth c D A nL Q k n ws' pc lv st) : XC p l e R s m args below meth c D A nL Q k n ws pc lv st := by rw [h]; exact K
theorem cx_newi (hC : CY p s m args meth c cc nL own ret D A) {x : Int32} {N : Nat} (hx0 : ¬ x < 0) (hN : x.toNatClampNeg = N) (hNb : N * 4 ≤ 536870912) (hR : k + 1 ≤ R.cells ∧ n + N ≤ R.slots) (harr : Cond.arrayClass .int ∈ TBL) (hd : decode cc pc = .ok (.newarray .int, 2)) (K : ∀ q, XC p l e R s m args below meth c D A nL Q (k + 1) (n + N) (ws ++ [(q, .inl (D.2 0, N, .inl (fun _ => 0)))]) (pc + 2) lv (.ref q :: st)) : XC p l e R s m args below meth c D A nL Q k n ws pc lv (.int x :: st) := by
  obtain ⟨hx, hb, hml, hown, hts, hlk, hrt, hG, hA⟩ := hC
  intro H locs ls hP hD hS hl
  refine va_newa (atype := .int) hx hb (hts _ harr) rfl hG.1 hP hD hS hA (a0 := (N, .inl (fun _ => 0))) (fun cA => rfl) hx0 hN (by show N * 4 ≤ _; exact hNb) hR.1 hR.2 hd (fun q cA H1 hK1 hP1 hD1 hS1 => ?_)
  have hc : cA = D.2 0 := Option.some.inj (((hK1.2 4 (cA, .int) rfl).2 : s.vm.findClass ("[" ++ FieldType.int.toString) = some cA).symm.trans (hG.1.2 0 (D.2 0, .int) rfl).2)
  subst hc
  exact K q H1 locs ls hP1 hD1 hS1 hl
theorem cx_newb (hC : CY p s m args meth c cc nL own ret D A) {x : Int32} {N : Nat} (hx0 : ¬ x < 0) (hN : x.toNatClampNeg = N) (hNb : N * 1 ≤ 536870912) (hR : k + 1 ≤ R.cells ∧ n + N ≤ R.slots) (harr : Cond.arrayClass .byte ∈ TBL) (hd : decode cc pc = .ok (.newarray .byte, 2)) (K : ∀ q, XC p l e R s m args below meth c D A nL Q (k + 1) (n + N) (ws ++ [(q, .inl (D.2 1, N, .inl (fun _ => 0)))]) (pc + 2) lv (.ref q :: st)) : XC p l e R s m args below meth c D A nL Q k n ws pc lv (.int x :: st) := by
  obtain ⟨hx, hb, hml, hown, hts, hlk, hrt, hG, hA⟩ := hC
  intro H locs ls hP hD hS hl
  refine va_newa (atype := .byte) hx hb (hts _ harr) rfl hG.1 hP hD hS hA (a0 := (N, .inl (fun _ => 0))) (fun cA => rfl) hx0 hN (by show N * 1 ≤ _; exact hNb) hR.1 hR.2 hd (fun q cA H1 hK1 hP1 hD1 hS1 => ?_)
  have hc : cA = D.2 1 := Option.some.inj (((hK1.2 4 (cA, .byte) rfl).2 : s.vm.findClass ("[" ++ FieldType.byte.toString) = some cA).symm.trans (hG.1.2 1 (D.2 1, .byte) rfl).2)
  subst hc
  exact K q H1 locs ls hP1 hD1 hS1 hl
theorem cx_newq (hC : CY p s m args meth c cc nL own ret D A) (t : Nat) {C : String} {index N : Nat} {x : Int32} (ht : (CT D)[t]? = some (D.2 t, .object C)) (hover : KG D s → va_AO C s) (hx0 : ¬ x < 0) (hN : x.toNatClampNeg = N) (hNb : N * 4 ≤ 536870912) (hR : k + 1 ≤ R.cells ∧ n + N ≤ R.slots) (hlink : Cond.classLink own index C ∈ TBL) (hd : decode cc pc = .ok (.anewarray index, 3)) (K : ∀ q, XC p l e R s m args below meth c D A nL Q (k + 1) (n + N) (ws ++ [(q, .inl (D.2 t, N, .inr (.inr (.inr (.inr (fun _ => none))))))]) (pc + 3) lv (.ref q :: st)) : XC p l e R s m args below meth c D A nL Q k n ws pc lv (.int x :: st) := by
  obtain ⟨hx, hb, hml, hown, hts, hlk, hrt, hG, hA⟩ := hC
  intro H locs ls hP hD hS hl
  refine va_newq hx hb hown (hts _ hlink) (hover hG) hG.1 hP hD hS hA hx0 hN hNb hR.1 hR.2 hd (fun q cA H1 hK1 hP1 hD1 hS1 => ?_)
  have hc : cA = D.2 t := by
    obtain ⟨kA, comp, -, -, -, h1⟩ := (hK1.2 4 (cA, .object C) rfl).2
    obtain ⟨kB, compB, -, -, -, h2⟩ := (hG.1.2 t _ ht).2
    exact Option.some.inj (h1.symm.trans h2)
  subst hc
  exact K q H1 locs ls hP1 hD1 hS1 hl
theorem cx_new (hC : CY p s m args meth c cc nL own ret D A) {C : String} {T : u_T} {N ci index : Nat} (ty : Nat → FieldType) (fs : List Value) (hin : ∀ w ∈ u_ws C T N, w ∈ TBL) (hty : ∀ k, k < N → parseFieldDescriptor (T k).2.2.1 = some (ty k)) (hcl : Cond.classLink own index C ∈ TBL) (hinst : Cond.instantiable C N ∈ TBL) (hini : Cond.initialized C ∈ TBL) (hc : CLS[ci]? = some (C, T, N)) (hfs : ∀ j, j < N → defaultValue (ty j) = vp_V fs j) (hR : k + 1 ≤ R.cells ∧ n + N ≤ R.slots) (hd : decode cc pc = .ok (.new index, 3)) (K : ∀ q, XC p l e R s m args below meth c D A nL Q (k + 1) (n + N) (ws ++ [(q, .inr (ci, fs))]) (pc + 3) lv (.ref q :: st)) : XC p l e R s m args below meth c D A nL Q k n ws pc lv st := by
  obtain ⟨hx, hb, hml, hown, hts, hlk, hrt, hG, hA⟩ := hC
  intro H locs ls hP hD hS hl
  exact va_new hx hb hts hin ty hty hown (hts _ hcl) (hts _ hinst) (hts _ hini) hG.1 hP hD hS hA hc hfs hR.1 hR.2 hd (fun q H1 hP1 hD1 hS1 => K q H1 locs ls hP1 hD1 hS1 hl)
theorem cx_put (hC : CY p s m args meth c cc nL own ret D A) (q0 kf : Nat) {C : String} {T : u_T} {N ci index a : Nat} {v : Value} {fs : List Value} {ty0 : Nat → FieldType} {ty : FieldType} (ws' : va_W) (hin : ∀ w ∈ u_ws C T N, w ∈ TBL) (hty : ∀ k, k < N → parseFieldDescriptor (T k).2.2.1 = some (ty0 k)) (hnm : ∀ a, a < N → ∀ b, b < N → a ≠ b → (T a).2.1 ≠ (T b).2.1) (he : ws[q0]? = some (a, .inr (ci, fs))) (hc : CLS[ci]? = some (C, T, N)) (hk : kf < N) (hlink : Cond.fieldLink own index C (T kf).2.1 (T kf).2.2.1 ∈ TBL) (hTC : (T kf).1 = C) (hfin : (T kf).2.2.2 = false) (hdt : parseFieldDescriptor (T kf).2.2.1 = some ty) (hnv : narrow ty v = v) (hfit : fits ty v = true) (hlen : kf < fs.length) (hw : ws.set q0 (a, .inr (ci, fs.set kf v)) = ws') (hd : decode cc pc = .ok (.putfield index, 3)) (K : XC p l e R s m args below meth c D A nL Q k n ws' (pc + 3) lv st) : XC p l e R s m args below meth c D A nL Q k n ws pc lv (v :: .ref a :: st) := by
  obtain ⟨hx, hb, hml, hown, hts, hlk, hrt, hG, hA⟩ := hC
  intro H locs ls hP hD hS hl
  refine va_put hx hb hts hin ty0 hty hnm hown hG.1 hP hD hS q0 he hc kf hk (hts _ hlink) (fun x h => by rw [← hTC]; exact h) hfin hdt hnv hfit hlen hd (fun H1 locs1 hP1 hD1 hS1 => ?_)
  rw [hw] at hP1 hD1
  exact K H1 locs1 ls hP1 hD1 hS1 hl
theorem cx_putF (hC : CY p s m args meth c cc nL own ret D A) (hin2 : meth.name = "<init>") (q0 kf : Nat) {C : String} {T : u_T} {N ci index a : Nat} {v : Value} {fs : List Value} {ty0 : Nat → FieldType} {ty : FieldType} (ws' : va_W) (hin : ∀ w ∈ u_ws C T N, w ∈ TBL) (hty : ∀ k, k < N → parseFieldDescriptor (T k).2.2.1 = some (ty0 k)) (hnm : ∀ a, a < N → ∀ b, b < N → a ≠ b → (T a).2.1 ≠ (T b).2.1) (he : ws[q0]? = some (a, .inr (ci, fs))) (hc : CLS[ci]? = some (C, T, N)) (hk : kf < N) (hlink : Cond.fieldLink own index C (T kf).2.1 (T kf).2.2.1 ∈ TBL) (hTC : (T kf).1 = C) (hown2 : (T kf).1 = own) (hfin : (T kf).2.2.2 = true) (hdt : parseFieldDescriptor (T kf).2.2.1 = some ty) (hnv : narrow ty v = v) (hfit : fits ty v = true) (hlen : kf < fs.length) (hw : ws.set q0 (a, .inr (ci, fs.set kf v)) = ws') (hd : decode cc pc = .ok (.putfield index, 3)) (K : XC p l e R s m args below meth c D A nL Q k n ws' (pc + 3) lv st) : XC p l e R s m args below meth c D A nL Q k n ws pc lv (v :: .ref a :: st) := by
  obtain ⟨hx, hb, hml, hown, hts, hlk, hrt, hG, hA⟩ := hC
  intro H locs ls hP hD hS hl
  refine va_putF hx hb hts hin ty0 hty hnm hown hG.1 hP hD hS q0 he hc kf hk (hts _ hlink) (fun x h => by rw [← hTC]; exact h) hfin hin2 hown2 hdt hnv hfit hlen hd (fun H1 locs1 hP1 hD1 hS1 => ?_)
  rw [hw] at hP1 hD1
  exact K H1 locs1 ls hP1 hD1 hS1 hl
theorem cx_get (hC : CY p s m args meth c cc nL own ret D A) (q0 kf : Nat) {C : String} {T : u_T} {N ci index a : Nat} {v : Value} {fs : List Value} (hin : ∀ w ∈ u_ws C T N, w ∈ TBL) (he : ws[q0]? = some (a, .inr (ci, fs))) (hc : CLS[ci]? = some (C, T, N)) (hk : kf < N) (hlink : Cond.fieldLink own index C (T kf).2.1 (T kf).2.2.1 ∈ TBL) (hTC : (T kf).1 = C) (hv : fs[kf]? = some v) (hd : decode cc pc = .ok (.getfield index, 3)) (K : XC p l e R s m args below meth c D A nL Q k n ws (pc + 3) lv (v :: st)) : XC p l e R s m args below meth c D A nL Q k n ws pc lv (.ref a :: st) := by
  obtain ⟨hx, hb, hml, hown, hts, hlk, hrt, hG, hA⟩ := hC
  exact fun H locs ls hP hD hS hl => va_get hx hb hts hin hown hG.1 hP q0 he hc kf hk (hts _ hlink) (fun x h => by rw [← hTC]; exact h) hv hd (K H locs ls hP hD hS hl)
theorem cx_getN (hC : CY p s m args meth c cc nL own ret D A) (q0 kf : Nat) {C host : String} {T : u_T} {N ci index a : Nat} {v : Value} {fs : List Value} (hin : ∀ w ∈ u_ws C T N, w ∈ TBL) (he : ws[q0]? = some (a, .inr (ci, fs))) (hc : CLS[ci]? = some (C, T, N)) (hk : kf < N) (hlink : Cond.fieldLinkNest own index C (T kf).2.1 (T kf).2.2.1 host ∈ NTL) (hTC : (T kf).1 = C) (hv : fs[kf]? = some v) (hd : decode cc pc = .ok (.getfield index, 3)) (K : XC p l e R s m args below meth c D A nL Q k n ws (pc + 3) lv (v :: st)) : XC p l e R s m args below meth c D A nL Q k n ws pc lv (.ref a :: st) := by
  obtain ⟨hx, hb, hml, hown, hts, hlk, hrt, hG, hA⟩ := hC
  exact fun H locs ls hP hD hS hl => va_getN hx hb hts hin hown hG.1 hP q0 he hc kf hk (va_Nw.use rfl (hG.2.1 _ hlink)) (fun x h => by rw [← hTC]; exact h) hv hd (K H locs ls hP hD hS hl)
theorem cx_iast (hC : CY p s m args meth c cc nL own ret D A) (q0 : Nat) {a N : Nat} {j x : Int32} {f : Nat → Int32} (ws' : va_W) (ha : ws[q0]? = some (a, .inl (D.2 0, N, .inl f))) (hj : 0 ≤ j.toInt ∧ j.toInt < (N : Int)) (hw : ws.set q0 (a, .inl (D.2 0, N, .inl (upd f (ix j) x))) = ws') (hd : decode cc pc = .ok (.iastore, 1)) (K : XC p l e R s m args below meth c D A nL Q k n ws' (pc + 1) lv st) : XC p l e R s m args below meth c D A nL Q k n ws pc lv (.int x :: .int j :: .ref a :: st) := by
  obtain ⟨hx, hb, hml, hown, hts, hlk, hrt, hG, hA⟩ := hC
  intro H locs ls hP hD hS hl
  refine va_iast hx hb hG.1 hP hD hS q0 0 ha rfl (inx hj) hd (fun H1 locs1 hP1 hD1 hS1 => ?_)
  have hw' : ws.set q0 (a, .inl (D.2 0, N, .inl (upd f j.toNatClampNeg x))) = ws' := hw
  rw [hw'] at hP1 hD1
  exact K H1 locs1 ls hP1 hD1 hS1 hl
theorem cx_astq (hC : CY p s m args meth c cc nL own ret D A) (q0 qk : Nat) {a v N : Nat} {j : Int32} {f : Nat → Option Nat} {vs : List Value} (ws' : va_W) (ha : ws[q0]? = some (a, .inl (D.2 2, N, .inr (.inr (.inr (.inr f)))))) (hv : ws[qk]? = some (v, .inr (1, vs))) (hj : 0 ≤ j.toInt ∧ j.toInt < (N : Int)) (hw : ws.set q0 (a, .inl (D.2 2, N, .inr (.inr (.inr (.inr (va_up f (ix j) (some v))))))) = ws') (hd : decode cc pc = .ok (.aastore, 1)) (K : XC p l e R s m args below meth c D A nL Q k n ws' (pc + 1) lv st) : XC p l e R s m args below meth c D A nL Q k n ws pc lv (.ref v :: .int j :: .ref a :: st) := by
  obtain ⟨hx, hb, hml, hown, hts, hlk, hrt, hG, hA⟩ := hC
  intro H locs ls hP hD hS hl
  refine va_astq hx hb hG.1 hP hD hS q0 2 qk 1 (r := (RX2, TX2, 11)) ha rfl hv rfl (inx hj) hd (fun H1 locs1 hP1 hD1 hS1 => ?_)
  have hw' : ws.set q0 (a, .inl (D.2 2, N, .inr (.inr (.inr (.inr (va_up f j.toNatClampNeg (some v))))))) = ws' := hw
  rw [hw'] at hP1 hD1
  exact K H1 locs1 ls hP1 hD1 hS1 hl
theorem cx_aldq (hC : CY p s m args meth c cc nL own ret D A) (q0 : Nat) {a N : Nat} {j : Int32} {f : Nat → Option Nat} (ha : ws[q0]? = some (a, .inl (D.2 2, N, .inr (.inr (.inr (.inr f)))))) (hj : 0 ≤ j.toInt ∧ j.toInt < (N : Int)) (hd : decode cc pc = .ok (.aaload, 1)) (K : XC p l e R s m args below meth c D A nL Q k n ws (pc + 1) lv (va_rf (f (ix j)) :: st)) : XC p l e R s m args below meth c D A nL Q k n ws pc lv (.int j :: .ref a :: st) := by
  obtain ⟨hx, hb, hml, hown, hts, hlk, hrt, hG, hA⟩ := hC
  exact fun H locs ls hP hD hS hl => va_aldq hx hb hG.1 hP q0 2 ha rfl (inx hj) hd (K H locs ls hP hD hS hl)
theorem cx_obj (hC : CY p s m args meth c cc nL own ret D A) {index a : Nat} (hlink : Cond.methodLink own index Lib.objectInit ∈ TBL) (hinst : Cond.instanceMethod Lib.objectInit ∈ TBL) (hcode : Cond.code Lib.objectInit ⟨#[0xb1]⟩ 1 none ∈ TBL) (hf : 1 ≤ R.frames) (hlo : (st.map fun v => v.category).sum + 12 ≤ R.locals) (hd : decode cc pc = .ok (.invokespecial index, 3)) (K : XC p l e R s m args below meth c D A nL Q k n ws (pc + 3) lv st) : XC p l e R s m args below meth c D A nL Q k n ws pc lv (.ref a :: st) := by
  obtain ⟨hx, hb, hml, hown, hts, hlk, hrt, hG, hA⟩ := hC
  intro H locs ls hP hD hS hl
  refine W.objInit hx hb hown (hts _ hlink) (hts _ hinst) (hts _ hcode) rfl (by rw [hml]; exact hl.1) rfl hd hf (by show 2 * 0 + _ + 12 ≤ _; omega) ?_
  exact K H locs ls hP hD hS hl
theorem cx_vret {Pw : va_W → Prop} {w0 : va_W} (hC : CY p s m args meth c cc nL own ret D (va_A w0 s.heap.size)) (hPw : Pw ws) (hret : ret = none) (hd : decode cc pc = .ok (.return_, 1)) : XC p l e R s m args below meth c D (va_A w0 s.heap.size) nL (MQ below (fun _ st oc t => oc = .returned none ∧ (∃ w1, Pw w1 ∧ va_P D.1 CLS w1 t.heap ∧ va_D (va_A w0 s.heap.size) w1) ∧ va_F (va_A w0 s.heap.size) st t) args s k n (va_A w0 s.heap.size)) k n ws pc lv [] := by
  obtain ⟨hx, hb, hml, hown, hts, hlk, hrt, hG, hA⟩ := hC
  exact fun H locs ls hP hD hS hl => W.vret hx hb (hrt.trans hret) (fun t ht hW => ⟨rfl, ⟨ws, hPw, by rw [ht]; exact hP, hD⟩, hS.F ht⟩) hS.2.2 hd hlk
theorem Nc.of {y : MethodName} {rm : Room} {mc ms : Nat} {vs : List Value} {w0 : va_W} {Pw : va_W → Prop} {maxL : Nat} (hy : plainName y.cls = true) (hyn : y.name = "<init>") (hlen : (lg_sl vs).length ≤ maxL)
    (body : ∀ (p : Program) (e : Env) (s : State) (m : MethodId) (args : Array Value) (below : List Frame) (meth : Method) (c : Code), CY p s m args meth c cc maxL y.cls none D (va_A w0 s.heap.size) → meth.name = "<init>" → XC p l e rm s m args below meth c D (va_A w0 s.heap.size) maxL (MQ below (fun _ st oc t => oc = .returned none ∧ (∃ w1, Pw w1 ∧ va_P D.1 CLS w1 t.heap ∧ va_D (va_A w0 s.heap.size) w1) ∧ va_F (va_A w0 s.heap.size) st t) args s mc ms (va_A w0 s.heap.size)) 0 0 w0 0 (lv_args 0 vs) []) : Nc l y (WS y cc maxL none) rm mc ms vs D w0 Pw := by
  intro sz
  refine Met.ofW (cc := cc) (maxL := maxL) (ret := none) hy rfl ?_
  intro p e s m args below meth c s₁ B hml hv
  obtain ⟨rfl, hsz, hP, hG, hD⟩ := hv
  have hts := atoms_spec (ws := WS y cc maxL none) B.pre
  subst hsz
  have hC : CY p s m vs.toArray meth c cc maxL y.cls none D (va_A w0 s.heap.size) := ⟨B.exec, B.bytes, hml, findClass_of_methodNamed B.named, fun w h => hts w (List.mem_cons_of_mem _ h), B.notSynchronized, B.returns, hG, fun q h => Or.inr h⟩
  have hl := lv_entry vs (n := maxL) hlen
  rw [lg_entry_eq]
  exact body p e s m vs.toArray below meth c hC ((name_of_methodNamed B.named B.method).1.trans hyn) s.heap [] _ hP hD.self va_S.rf hl
/-- behind a constructor's call -/
theorem cx_run {mc ms : Nat} {st0 : List Value} {As : Array Value} {w0 wr : va_W} {Pw : va_W → Prop} (hA : ∀ q, s.heap.size ≤ q → A q) (isC isR : List Nat) (hCm : isC.map (fun i => ws[i]?) = w0.map some) (hRm : isR.map (fun i => ws[i]?) = wr.map some) (hn : va_nd isR = true) (hdis : ∀ i ∈ isR, i ∉ isC)
    (hr : ∀ (H : Heap) (locs : List Loc) (ls : Array Slot), va_P D.1 CLS ws H → va_D A ws → va_S A s.heap H locs → lv_has ls nL lv → va_Run p l e R s m args below meth c H locs k n mc ms (F0 m pc ls st0) st (fun st oc t => oc = .returned none ∧ (∃ w1, Pw w1 ∧ va_P D.1 CLS w1 t.heap ∧ va_D (va_A w0 H.size) w1) ∧ va_F (va_A w0 H.size) st t) (va_A w0 H.size))
    (K : ∀ w1, Pw w1 → XC p l e R s m args below meth c D A nL Q (k + mc) (n + ms) (wr ++ w1) (pc + 3) lv st) : XC p l e R s m args below meth c D A nL Q k n ws pc lv st0 := by
  intro H locs ls hP hD hS hl T hT X
  have hF := va_free (wc := w0) hD hS hA isC hCm
  obtain ⟨v, st₀, t, T', L, h0, X', hL, e1, e2, ⟨hv, ⟨w1, hw1, hp1, hd1⟩, hz, hk⟩, stp⟩ := hr H locs ls hP hD hS hl T hT X
  cases hv
  rw [h0] at hz hk
  obtain ⟨hP2, hD2⟩ := va_join hP hD isC isR hCm hRm hn hdis hk hF hp1 hd1
  obtain ⟨t2, a1, b1⟩ := K w1 hw1 T'.heap (locs ++ L) ls (by rw [e1]; exact hP2) hD2
    ⟨Nat.le_trans hS.1 (by rw [e1]; exact hz), fun q h1 h2 => by rw [e1, hk q (Nat.lt_of_lt_of_le h1 hS.1) (fun z => h2 (hF q z))]; exact hS.2.1 q h1 h2, fun q hq => by
      rcases List.mem_append.mp hq with h | h
      · exact hS.2.2 q h
      · exact hF _ (hL q h)⟩ hl T' rfl X'
  exact ⟨t2, stp t2 a1, b1⟩
theorem nc_blind {D : DG} {vs : List Value} {sz : Nat} {w0 : va_W} : FrameBlind (va_Pc vs (fun U => U.heap.size = sz ∧ va_P D.1 CLS w0 U.heap ∧ KG D U ∧ va_D (fun _ => True) w0)) := fun a U g mk h => ⟨h.1, h.2.1, h.2.2.1, h.2.2.2.1.calling, h.2.2.2.2⟩
theorem cx_callI (hC : CY p s m args meth c cc nL own ret D A) {y : MethodName} {cy : ByteArray} {maxL index nA mc ms a : Nat} {rm : Room} {As : List Value} {st0 : List Value} {w0 wr : va_W} {Pw : va_W → Prop} (hM : Nc l y (WS y cy maxL none) rm mc ms (.ref a :: As) D w0 Pw) (isC isR : List Nat) (hCm : isC.map (fun i => ws[i]?) = w0.map some) (hRm : isR.map (fun i => ws[i]?) = wr.map some) (hn : va_nd isR = true) (hnC : va_nd isC = true) (hdis : ∀ i ∈ isR, i ∉ isC) (hcode : Cond.code y cy maxL none ∈ TBL) (hlink : Cond.methodLink own index y ∈ TBL) (hinst : Cond.instanceMethod y ∈ TBL) (hini : Cond.initialized y.cls ∈ TBL) (hyn : y.name = "<init>") (hy : y.cls ≠ "java/lang/invoke/MethodHandle" ∧ y.cls ≠ "java/lang/invoke/VarHandle" ∧ (parseMethodDescriptor y.desc).map (fun d => d.parameters.length) = some nA) (hnA : As.length = nA) (hrc : rm.cells = mc ∧ rm.slots = ms) (hR : rm.frames + 1 ≤ R.frames ∧ 8 + (maxL + 11) + rm.locals ≤ R.locals) (hst : st0 = As.reverse ++ .ref a :: st) (hcat : (st.map fun v => v.category).sum ≤ 8) (hcs : k + mc ≤ R.cells ∧ n + ms ≤ R.slots) (hd : decode cc pc = .ok (.invokespecial index, 3))
    (K : ∀ w1, Pw w1 → XC p l e R s m args below meth c D A nL Q (k + mc) (n + ms) (wr ++ w1) (pc + 3) lv st) : XC p l e R s m args below meth c D A nL Q k n ws pc lv st0 := by
  obtain ⟨hx, hb, hml, hown, hts, hlk, hrt, hG, hA⟩ := hC
  refine cx_run (As := (Value.ref a :: As).toArray) hA isC isR hCm hRm hn hdis (fun H locs ls hP hD hS hl => ?_) K
  have hPc : va_P D.1 CLS w0 H := hP.sub isC (va_fm hCm)
  have hDc : va_D A w0 := hD.sub isC hnC hCm
  exact va_runI (bytes := cy) (maxL := maxL) (n := nA) (nL := nL) (Ts := TBL) (b := a) ⟨hx, hb, hml, hown, hts⟩ (hM H.size) ⟨⟨hrc.1, hrc.2, hR.1, hR.2, pay_in hts (ws_good hcode), List.mem_cons_self, hts _ hcode, hts _ hini, ⟨hy.1, hy.2.1⟩, fun sig h => by
    have h2 := hy.2.2
    rw [h] at h2
    exact (Option.some.inj h2).symm, hts _ hlink⟩, hyn, hts _ hinst⟩ ⟨nc_blind, fun U hU hW => ⟨rfl, by rw [hU], by rw [hU]; exact hPc, hG.step hW, hDc.weaken (fun _ _ _ _ => trivial)⟩⟩ rfl hnA hl.1 hst (lv_room hcat) hd hcs
theorem cx_callN (hC : CY p s m args meth c cc nL own ret D A) {y : MethodName} {host : String} {cy : ByteArray} {maxL index nA mc ms a : Nat} {rm : Room} {As : List Value} {st0 : List Value} {w0 wr : va_W} {Pw : va_W → Prop} (hM : Nc l y (WS y cy maxL none) rm mc ms (.ref a :: As) D w0 Pw) (isC isR : List Nat) (hCm : isC.map (fun i => ws[i]?) = w0.map some) (hRm : isR.map (fun i => ws[i]?) = wr.map some) (hn : va_nd isR = true) (hnC : va_nd isC = true) (hdis : ∀ i ∈ isR, i ∉ isC) (hcode : Cond.code y cy maxL none ∈ TBL) (hlink : Cond.methodLinkNest own index y host ∈ NTL) (hinst : Cond.instanceMethod y ∈ TBL) (hini : Cond.initialized y.cls ∈ TBL) (hyn : y.name = "<init>") (hy : y.cls ≠ "java/lang/invoke/MethodHandle" ∧ y.cls ≠ "java/lang/invoke/VarHandle" ∧ (parseMethodDescriptor y.desc).map (fun d => d.parameters.length) = some nA) (hnA : As.length = nA) (hrc : rm.cells = mc ∧ rm.slots = ms) (hR : rm.frames + 1 ≤ R.frames ∧ 8 + (maxL + 11) + rm.locals ≤ R.locals) (hst : st0 = As.reverse ++ .ref a :: st) (hcat : (st.map fun v => v.category).sum ≤ 8) (hcs : k + mc ≤ R.cells ∧ n + ms ≤ R.slots) (hd : decode cc pc = .ok (.invokespecial index, 3))
    (K : ∀ w1, Pw w1 → XC p l e R s m args below meth c D A nL Q (k + mc) (n + ms) (wr ++ w1) (pc + 3) lv st) : XC p l e R s m args below meth c D A nL Q k n ws pc lv st0 := by
  obtain ⟨hx, hb, hml, hown, hts, hlk, hrt, hG, hA⟩ := hC
  refine cx_run (As := (Value.ref a :: As).toArray) hA isC isR hCm hRm hn hdis (fun H locs ls hP hD hS hl => ?_) K
  have hPc : va_P D.1 CLS w0 H := hP.sub isC (va_fm hCm)
  have hDc : va_D A w0 := hD.sub isC hnC hCm
  exact va_runIN (bytes := cy) (maxL := maxL) (n := nA) (nL := nL) (Ts := TBL) (b := a) ⟨hx, hb, hml, hown, hts⟩ (hM H.size) ⟨⟨⟨hrc.1, hrc.2, hR.1, hR.2, pay_in hts (ws_good hcode), List.mem_cons_self⟩, hts _ hcode, hts _ hini, ⟨hy.1, hy.2.1⟩, fun sig h => by
    have h2 := hy.2.2
    rw [h] at h2
    exact (Option.some.inj h2).symm, va_Nw.use rfl (hG.2.1 _ hlink)⟩, hyn, hts _ hinst⟩ ⟨nc_blind, fun U hU hW => ⟨rfl, by rw [hU], by rw [hU]; exact hPc, hG.step hW, hDc.weaken (fun _ _ _ _ => trivial)⟩⟩ rfl hnA hl.1 hst (lv_room hcat) hd hcs
end CR
