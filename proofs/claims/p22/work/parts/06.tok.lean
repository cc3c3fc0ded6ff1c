/-! tokens by code (1001 + place), their texts by place, the fixed rows -/
abbrev tkc (c : Int32) : Prop := 1001 ≤ c.toNatClampNeg ∧ c.toNatClampNeg ≤ 1051
def tkN (c : Int32) : Nat := c.toNatClampNeg - 1001
theorem tk_rid {c : Int32} (h : tkc c) : rid c = 1000 + tkN c := by
  show c.toNatClampNeg - 1 = 1000 + (c.toNatClampNeg - 1001)
  have := h.1; omega
theorem tk_lt {c : Int32} (h : tkc c) : tkN c < 51 := by
  show c.toNatClampNeg - 1001 < 51
  have := h.1; have := h.2; omega
theorem tk_inj {a b : Int32} (ha : tkc a) (hb : tkc b) (h : tkN a = tkN b) : a = b := by
  have e : a.toNatClampNeg = b.toNatClampNeg := by
    have h2 : a.toNatClampNeg - 1001 = b.toNatClampNeg - 1001 := h
    have := ha.1; have := hb.1; omega
  have e1 : a.toInt.toNat = b.toInt.toNat := e
  have e2 : (1001 : Nat) ≤ a.toInt.toNat := ha.1
  exact Int32.toInt_inj.mp (by omega)
def tkL (e : Int32) : Nat := (txB.getD (ix e) []).length
def tkB (e j : Int32) : Int32 := (txB.getD (ix e) []).getD (ix j) 0
def tkS (c : Int32) : Int32 := nI (tkT (tkN c))
def tkGr (c : Int32) : Int32 := tkG.getD (tkN c) 0
def tkOp (c : Int32) : Int32 := tkO.getD (tkN c) 0
def tkSw (j : Int32) : Int32 := tkW.getD (ix j) 0
def tkA (j : Int32) : Int32 := nI (1001 + ix j)
theorem tkT_lt (i : Nat) : tkT i < 48 := by unfold tkT; split <;> omega
theorem tkS_ix (c : Int32) : ix (tkS c) = tkT (tkN c) := nI_clamp (Nat.lt_trans (tkT_lt _) (by decide))
theorem ix_in {j : Int32} {N : Nat} (h : 0 ≤ j.toInt ∧ j.toInt < ((N : Nat) : Int)) : ix j < N := by
  have : ((ix j : Nat) : Int) = j.toInt := Int.toNat_of_nonneg h.1
  omega
theorem tx_ok : ∀ i, i < 48 → (txB.getD i []).length < 100 ∧ ∀ b ∈ txB.getD i [], 0 ≤ b.toInt ∧ b.toInt < 128 := by decide +kernel
section XT
variable {p : Program} {l : Launch} {e : Env} {R : Room} {s : State} {m : MethodId} {args : Array Value} {below : List Frame} {meth : Method} {c : Code} {cc : ByteArray} {nL : Nat} {own : String} {G : GG} {Q : State → Prop} {k n : Nat} {M : Mm} {pc : Nat} {lv lv' : List (Nat × Value)} {st : List Value} {ret : Option FieldType}
theorem x_ct {a : Int32} (h : tkc a) (K : XJ p l e R s m args below meth c G nL Q k n M pc lv (.ref (G.2.1 (rid a)) :: st)) : XJ p l e R s m args below meth c G nL Q k n M pc lv (va_rf (rf G a) :: st) := by
  have e : rf G a = some (G.2.1 (rid a)) := by
    unfold rf; rw [if_neg (by have := h.1; omega)]
  rw [e]
  exact K
theorem x_gets (hC : CX p s m args meth c cc nL own ret G) {C nn d : String} {v : Value} {index : Nat} (hZ : ∀ (A : Nat → Prop) (U : State) (H : Heap), TKP G A U H → va_Z C nn d v A U H) (hlink : Cond.fieldLink own index C nn d ∈ TBL) (hd : decode cc pc = .ok (.getstatic index, 3)) (K : XJ p l e R s m args below meth c G nL Q k n M (pc + 3) lv (v :: st)) : XJ p l e R s m args below meth c G nL Q k n M pc lv st := by
  obtain ⟨hx, hb, hml, hown, hts, hlk, hrt, hG⟩ := hC
  exact fun H locs ls hP hS hl => va_gets hx hb (hZ _ _ _ hG.2.2.2.2.1) hS hown (hts _ hlink) (fun _ h => h) hd (K H locs ls hP hS hl)
theorem x_tgets (hC : CX p s m args meth c cc nL own ret G) {a : Int32} {nn : String} {index : Nat} (i : Nat) (hi : i < 51) (hn : tkNm.getD i "" = nn) (ha : rid a = 1000 + i) (hlink : Cond.fieldLink own index "PeatBog$Token" nn "LPeatBog$Token;" ∈ TBL) (hd : decode cc pc = .ok (.getstatic index, 3)) (K : XJ p l e R s m args below meth c G nL Q k n M (pc + 3) lv (.ref (G.2.1 (rid a)) :: st)) : XJ p l e R s m args below meth c G nL Q k n M pc lv st := by
  refine x_gets hC (C := "PeatBog$Token") (nn := nn) (d := "LPeatBog$Token;") (fun A U H h => ?_) hlink hd K
  rw [ha, ← hn]
  exact (h.1 i hi).1
theorem x_getO (hC : CX p s m args meth c cc nL own ret G) {o nn d : String} {v : Value} {q index : Nat} (hE : ∀ (A : Nat → Prop) (U : State) (H : Heap), TKP G A U H → va_OF o nn d v q A U H) (hlink : Cond.fieldLink own index o nn d ∈ TBL) (hd : decode cc pc = .ok (.getfield index, 3)) (K : XJ p l e R s m args below meth c G nL Q k n M (pc + 3) lv (v :: st)) : XJ p l e R s m args below meth c G nL Q k n M pc lv (.ref q :: st) := by
  obtain ⟨hx, hb, hml, hown, hts, hlk, hrt, hG⟩ := hC
  exact fun H locs ls hP hS hl => vk_getf hx hb (hE _ _ _ hG.2.2.2.2.1) hS hown (hts _ hlink) (fun _ h => h) hd (K H locs ls hP hS hl)
theorem x_tgroup (hC : CX p s m args meth c cc nL own ret G) {a : Int32} {index : Nat} (h : tkc a) (hlink : Cond.fieldLink own index "PeatBog$Token" "group" "I" ∈ TBL) (hd : decode cc pc = .ok (.getfield index, 3)) (K : XJ p l e R s m args below meth c G nL Q k n M (pc + 3) lv (.int (tkGr a) :: st)) : XJ p l e R s m args below meth c G nL Q k n M pc lv (.ref (G.2.1 (rid a)) :: st) := by
  rw [tk_rid h]
  exact x_getO hC (fun A U H hT => (hT.1 _ (tk_lt h)).2.2.2.1) hlink hd K
theorem x_top (hC : CX p s m args meth c cc nL own ret G) {a : Int32} {index : Nat} (h : tkc a) (hlink : Cond.fieldLink own index "PeatBog$Token" "op" "I" ∈ TBL) (hd : decode cc pc = .ok (.getfield index, 3)) (K : XJ p l e R s m args below meth c G nL Q k n M (pc + 3) lv (.int (tkOp a) :: st)) : XJ p l e R s m args below meth c G nL Q k n M pc lv (.ref (G.2.1 (rid a)) :: st) := by
  rw [tk_rid h]
  exact x_getO hC (fun A U H hT => (hT.1 _ (tk_lt h)).2.2.2.2.1) hlink hd K
theorem x_ttext (hC : CX p s m args meth c cc nL own ret G) {a : Int32} {index : Nat} (h : tkc a) (hlink : Cond.fieldLink own index "PeatBog$Token" "text" "Ljava/lang/String;" ∈ TBL) (hd : decode cc pc = .ok (.getfield index, 3)) (K : XJ p l e R s m args below meth c G nL Q k n M (pc + 3) lv (.ref (G.2.1 (2000 + ix (tkS a))) :: st)) : XJ p l e R s m args below meth c G nL Q k n M pc lv (.ref (G.2.1 (rid a)) :: st) := by
  rw [tk_rid h]
  rw [tkS_ix] at K
  exact x_getO hC (fun A U H hT => (hT.1 _ (tk_lt h)).2.2.2.2.2) hlink hd K
theorem x_allLen (hC : CX p s m args meth c cc nL own ret G) (hd : decode cc pc = .ok (.arraylength, 1)) (K : XJ p l e R s m args below meth c G nL Q k n M (pc + 1) lv (.int 51 :: st)) : XJ p l e R s m args below meth c G nL Q k n M pc lv (.ref (G.2.1 1900) :: st) := by
  obtain ⟨hx, hb, hml, hown, hts, hlk, hrt, hG⟩ := hC
  exact fun H locs ls hP hS hl => va_tlen hx hb hG.2.2.2.2.1.2.2.2.1 hS (v := 51) rfl hd (K H locs ls hP hS hl)
theorem x_allGet (hC : CX p s m args meth c cc nL own ret G) {j : Int32} (hj : 0 ≤ j.toInt ∧ j.toInt < ((51 : Nat) : Int)) (hd : decode cc pc = .ok (.aaload, 1)) (K : XJ p l e R s m args below meth c G nL Q k n M (pc + 1) lv (.ref (G.2.1 (rid (tkA j))) :: st)) : XJ p l e R s m args below meth c G nL Q k n M pc lv (.int j :: .ref (G.2.1 1900) :: st) := by
  obtain ⟨hx, hb, hml, hown, hts, hlk, hrt, hG⟩ := hC
  have e : 1000 + ix j = rid (tkA j) := by
    show _ = (nI (1001 + ix j)).toNatClampNeg - 1
    rw [nI_clamp (by have := ix_in hj; omega)]; omega
  exact fun H locs ls hP hS hl => vb_tq (f := fun j => .ref (G.2.1 (1000 + j))) hx hb hG.2.2.2.2.1.2.2.2.1 hS (inx hj) (by show Value.ref (G.2.1 (1000 + ix j)) = _; rw [e]) hd (K H locs ls hP hS hl)
theorem x_swGet (hC : CX p s m args meth c cc nL own ret G) {j : Int32} (hj : 0 ≤ j.toInt ∧ j.toInt < ((51 : Nat) : Int)) (hd : decode cc pc = .ok (.iaload, 1)) (K : XJ p l e R s m args below meth c G nL Q k n M (pc + 1) lv (.int (tkSw j) :: st)) : XJ p l e R s m args below meth c G nL Q k n M pc lv (.int j :: .ref (G.2.1 1901) :: st) := by
  obtain ⟨hx, hb, hml, hown, hts, hlk, hrt, hG⟩ := hC
  exact fun H locs ls hP hS hl => va_ti (f := fun j => .int (tkW.getD j 0)) hx hb hG.2.2.2.2.1.2.2.2.2.2.1 hS (inx hj) rfl hd (K H locs ls hP hS hl)
theorem x_sLen (hC : CX p s m args meth c cc nL own ret G) {a : Int32} (ha : ix a < 48) (hd : decode cc pc = .ok (.arraylength, 1)) (K : XJ p l e R s m args below meth c G nL Q k n M (pc + 1) lv (.int (nI (tkL a)) :: st)) : XJ p l e R s m args below meth c G nL Q k n M pc lv (.ref (G.2.1 (3000 + ix a)) :: st) := by
  obtain ⟨hx, hb, hml, hown, hts, hlk, hrt, hG⟩ := hC
  exact fun H locs ls hP hS hl => va_tlen hx hb (hG.2.2.2.2.1.2.1 _ ha).2.2.2 hS (v := nI (tkL a)) rfl hd (K H locs ls hP hS hl)
theorem x_sByte (hC : CX p s m args meth c cc nL own ret G) {a j : Int32} (ha : ix a < 48) (hj : 0 ≤ j.toInt ∧ j.toInt < ((tkL a : Nat) : Int)) (hd : decode cc pc = .ok (.baload, 1)) (K : XJ p l e R s m args below meth c G nL Q k n M (pc + 1) lv (.int (tkB a j) :: st)) : XJ p l e R s m args below meth c G nL Q k n M pc lv (.int j :: .ref (G.2.1 (3000 + ix a)) :: st) := by
  obtain ⟨hx, hb, hml, hown, hts, hlk, hrt, hG⟩ := hC
  exact fun H locs ls hP hS hl => va_tb (f := fun j => .int ((txB.getD (ix a) []).getD j 0)) hx hb (hG.2.2.2.2.1.2.1 _ ha).2.2.2 hS (inx hj) rfl hd (K H locs ls hP hS hl)
theorem x_acmp_eq (hC : CX p s m args meth c cc nL own ret G) {a b : Int32} {off : Int} (tgt : Nat) (hab : tkc a ∧ tkc b) (hd : decode cc pc = .ok (.if_acmp .eq off, 3)) (ht : (pc : Int) + off = (tgt : Int)) (kt : a = b → XJ p l e R s m args below meth c G nL Q k n M tgt lv st) (kf : ¬ a = b → XJ p l e R s m args below meth c G nL Q k n M (pc + 3) lv st) : XJ p l e R s m args below meth c G nL Q k n M pc lv (.ref (G.2.1 (rid b)) :: .ref (G.2.1 (rid a)) :: st) := by
  obtain ⟨hx, hb, hml, hown, hts, hlk, hrt, hG⟩ := hC
  exact fun H locs ls hP hS hl => lv_acmp_eq (rx := some (G.2.1 (rid a))) (ry := some (G.2.1 (rid b))) hx hb hd ht (fun h => kt (by
    have h1 := Option.some.inj h
    rw [tk_rid hab.1, tk_rid hab.2] at h1
    exact tk_inj hab.1 hab.2 (hG.2.2.2.1 _ _ (tk_lt hab.1) (tk_lt hab.2) h1)) H locs ls hP hS hl) (fun h => kf (fun e => h (by rw [e])) H locs ls hP hS hl)
theorem x_acmp_ne (hC : CX p s m args meth c cc nL own ret G) {a b : Int32} {off : Int} (tgt : Nat) (hab : tkc a ∧ tkc b) (hd : decode cc pc = .ok (.if_acmp .ne off, 3)) (ht : (pc : Int) + off = (tgt : Int)) (kt : ¬ a = b → XJ p l e R s m args below meth c G nL Q k n M tgt lv st) (kf : a = b → XJ p l e R s m args below meth c G nL Q k n M (pc + 3) lv st) : XJ p l e R s m args below meth c G nL Q k n M pc lv (.ref (G.2.1 (rid b)) :: .ref (G.2.1 (rid a)) :: st) := by
  obtain ⟨hx, hb, hml, hown, hts, hlk, hrt, hG⟩ := hC
  exact fun H locs ls hP hS hl => lv_acmp_ne (rx := some (G.2.1 (rid a))) (ry := some (G.2.1 (rid b))) hx hb hd ht (fun h => kt (fun e => h (by rw [e])) H locs ls hP hS hl) (fun h => kf (by
    have h1 := Option.some.inj h
    rw [tk_rid hab.1, tk_rid hab.2] at h1
    exact tk_inj hab.1 hab.2 (hG.2.2.2.1 _ _ (tk_lt hab.1) (tk_lt hab.2) h1)) H locs ls hP hS hl)
theorem x_ifnull (hC : CX p s m args meth c cc nL own ret G) {a : Int32} {off : Int} (tgt : Nat) (hd : decode cc pc = .ok (.ifnull off, 3)) (ht : (pc : Int) + off = (tgt : Int)) (kt : ix a = 0 → XJ p l e R s m args below meth c G nL Q k n M tgt lv st) (kf : ¬ ix a = 0 → XJ p l e R s m args below meth c G nL Q k n M (pc + 3) lv st) : XJ p l e R s m args below meth c G nL Q k n M pc lv (va_rf (rf G a) :: st) := by
  obtain ⟨hx, hb, hml, hown, hts, hlk, hrt, hG⟩ := hC
  intro H locs ls hP hS hl
  by_cases h : ix a = 0
  · have e : rf G a = none := if_pos (show a.toNatClampNeg = 0 from h)
    rw [e]
    exact lv_ifnullN hx hb hd ht (kt h H locs ls hP hS hl)
  · have e : rf G a = some (G.2.1 (rid a)) := if_neg (show ¬ a.toNatClampNeg = 0 from h)
    rw [e]
    exact lv_ifnull hx hb hd (kf h H locs ls hP hS hl)
theorem x_tast (hC : CX p s m args meth c cc nL own ret G) {i N : Nat} {j a : Int32} {M' : Mm} (hi : kd i = (23, N)) (hj : 0 ≤ j.toInt ∧ j.toInt < ((N : Nat) : Int)) (h : tkc a) (hM : M' = wr M i (ix j) a) (hd : decode cc pc = .ok (.aastore, 1)) (K : XJ p l e R s m args below meth c G nL Q k n M' (pc + 1) lv st) : XJ p l e R s m args below meth c G nL Q k n M pc lv (.ref (G.2.1 (rid a)) :: .int j :: .ref (G.2.1 i) :: st) := by
  obtain ⟨hx, hb, hml, hown, hts, hlk, hrt, hG⟩ := hC
  intro H locs ls hP hS hl
  refine va_astqM (f := fun j => rf G (M i j)) hx hb hG.2.1 hP (WL_D hG.1) hS (pl i) 3 ((WL_get (kd_lt2 hi)).trans (by rw [EN_tok hi])) rfl ?_ (inx hj) hd (fun H1 locs1 hP1 hD1 hS1 => ?_)
  · obtain ⟨cell, h1, h2, h3, -⟩ := ((hG.2.2.2.2.1.1 _ (tk_lt h)).2.1).kept hS.2.1
    obtain ⟨kC, hkC, -⟩ := Vm.findClass_spec h3
    exact ⟨cell, by rw [tk_rid h]; exact h1, h2, ⟨kC, hkC⟩, fun comp hc => by rw [h3] at hc; cases hc; exact va_asg _ _⟩
  · subst hM
    rw [WL_set (M' := wr M i (ix j) a) (by
      rw [EN_tok hi]
      have e : (fun q => rf G (wr M i (ix j) a i q)) = va_up (fun j => rf G (M i j)) (ix j) (some (G.2.1 (rid a))) := by
        funext q
        by_cases hq : q = ix j
        · subst hq
          simp only [wr, va_up]
          simp
          unfold rf
          rw [if_neg (by have := h.1; omega)]
        · simp [wr, va_up, hq]
      rw [e]; rfl) (fun b hb => wr_ne hb)] at hP1
    exact K H1 locs1 ls hP1 hS1 hl
theorem x_tret (hC : CX p s m args meth c cc nL own ret G) {a : Nat} {cn : String} (hret : ret = some (.object cn)) (hd : decode cc pc = .ok (.areturn, 1)) : XJ p l e R s m args below meth c G nL (MQ below (QO G M false (some (.ref a)) s.heap.size) args s k n (AF G s.heap.size)) k n M pc lv [.ref a] := by
  obtain ⟨hx, hb, hml, hown, hts, hlk, hrt, hG⟩ := hC
  exact fun H locs ls hP hS hl => W.aret hx hb (hrt.trans hret) (Or.inl ⟨cn, rfl⟩) (Or.inr ⟨a, rfl⟩) (fun t ht hW => ⟨rfl, by rw [ht]; exact hP, hS.F ht, fun h => by cases h⟩) hS.2.2 hd hlk
/-- invokevirtual on a token or a text -/
theorem x_callO (hC : CX p s m args meth c cc nL own ret G) {y : MethodName} {cy : ByteArray} {maxL index nA mc ms a : Nat} {E : String} {r : Option FieldType} {rm : Room} {As : List Value} {st0 : List Value} {M' : Mm} {b : Bool} {o : Option Value} (hO : ∀ (A : Nat → Prop) (U : State) (H : Heap), TKP G A U H → va_O E a A U H) (hM : Mo b l y (WS y cy maxL r) rm mc ms (.ref a :: As) G M o M') (hcode : Cond.code y cy maxL r ∈ TBL) (hlink : Cond.methodLink own index y ∈ TBL) (hinst : Cond.instanceMethod y ∈ TBL) (hsel : Cond.selects E y y ∈ TBL) (hini : Cond.initialized y.cls ∈ TBL) (hy : y.cls ≠ "java/lang/invoke/MethodHandle" ∧ y.cls ≠ "java/lang/invoke/VarHandle" ∧ (parseMethodDescriptor y.desc).map (fun d => d.parameters.length) = some nA) (hnA : As.length = nA) (hrc : rm.cells = mc ∧ rm.slots = ms) (hR : rm.frames + 1 ≤ R.frames ∧ 8 + (maxL + 11) + rm.locals ≤ R.locals) (hst : st0 = As.reverse ++ .ref a :: st) (hcat : (st.map fun v => v.category).sum ≤ 8) (hcs : k + mc ≤ R.cells ∧ n + ms ≤ R.slots) (hd : decode cc pc = .ok (.invokevirtual index, 3))
    (K : BVo b o → XJ p l e R s m args below meth c G nL Q (k + mc) (n + ms) M' (pc + 3) lv (o.toList ++ st)) : XJ p l e R s m args below meth c G nL Q k n M pc lv st0 := by
  obtain ⟨hx, hb, hml, hown, hts, hlk, hrt, hG⟩ := hC
  refine x_run (As := (Value.ref a :: As).toArray) (fun H locs ls hP hS hl => ?_) K
  have hrecv : ∃ cell : Cell, H[a]? = some cell ∧ cell.vm.isStatics = false ∧ s.vm.findClass E = some cell.cls := by
    obtain ⟨cell, h1, h2, h3, -⟩ := (hO _ _ _ hG.2.2.2.2.1).kept hS.2.1
    exact ⟨cell, h1, h2, h3⟩
  refine va_runV (C := E) (bytes := cy) (maxL := maxL) (ret := r) (n := nA) (nL := nL) (Ts := TBL) (b := a) ⟨hx, hb, hml, hown, hts⟩ (hM H.size) ⟨⟨hrc.1, hrc.2, hR.1, hR.2, pay_in hts (ws_good hcode), List.mem_cons_self, hts _ hcode, hts _ hini, ⟨hy.1, hy.2.1⟩, fun sig h => ?_, hts _ hlink⟩, hts _ hinst, hts _ hsel⟩ ⟨mo_blind, hrecv, fun U hU hW => ⟨rfl, by rw [hU], by rw [hU]; exact hP, hG.step hS hU hW⟩⟩ rfl hnA hl.1 hst (lv_room hcat) hd hcs
  have h2 := hy.2.2
  rw [h] at h2
  exact (Option.some.inj h2).symm
/-- an inherited method, named by the token's own class -/
theorem x_callU (hC : CX p s m args meth c cc nL own ret G) {x y : MethodName} {cy : ByteArray} {maxL index nA mc ms a : Nat} {E owner : String} {r : Option FieldType} {rm : Room} {As : List Value} {st0 : List Value} {M' : Mm} {b : Bool} {o : Option Value} (hO : ∀ (A : Nat → Prop) (U : State) (H : Heap), TKP G A U H → va_O E a A U H) (hM : Mo b l y (WS y cy maxL r) rm mc ms (.ref a :: As) G M o M') (hcode : Cond.code y cy maxL r ∈ TBL) (hlink : Cond.methodLink own index x ∈ TBL) (hsame : Cond.sameMethod x.cls owner x.name x.desc ∈ TBL) (hinst : Cond.instanceMethod y ∈ TBL) (hsel : Cond.selects E x y ∈ TBL) (hini : Cond.initialized y.cls ∈ TBL) (hyx : y = ⟨owner, x.name, x.desc⟩) (hy : owner ≠ "java/lang/invoke/MethodHandle" ∧ owner ≠ "java/lang/invoke/VarHandle" ∧ (parseMethodDescriptor x.desc).map (fun d => d.parameters.length) = some nA) (hnA : As.length = nA) (hrc : rm.cells = mc ∧ rm.slots = ms) (hR : rm.frames + 1 ≤ R.frames ∧ 8 + (maxL + 11) + rm.locals ≤ R.locals) (hst : st0 = As.reverse ++ .ref a :: st) (hcat : (st.map fun v => v.category).sum ≤ 8) (hcs : k + mc ≤ R.cells ∧ n + ms ≤ R.slots) (hd : decode cc pc = .ok (.invokevirtual index, 3))
    (K : BVo b o → XJ p l e R s m args below meth c G nL Q (k + mc) (n + ms) M' (pc + 3) lv (o.toList ++ st)) : XJ p l e R s m args below meth c G nL Q k n M pc lv st0 := by
  obtain ⟨hx, hb, hml, hown, hts, hlk, hrt, hG⟩ := hC
  refine x_run (As := (Value.ref a :: As).toArray) (fun H locs ls hP hS hl => ?_) K
  have hrecv : ∃ cell : Cell, H[a]? = some cell ∧ cell.vm.isStatics = false ∧ s.vm.findClass E = some cell.cls := by
    obtain ⟨cell, h1, h2, h3, -⟩ := (hO _ _ _ hG.2.2.2.2.1).kept hS.2.1
    exact ⟨cell, h1, h2, h3⟩
  refine va_runU (C := E) (bytes := cy) (maxL := maxL) (ret := r) (n := nA) (nL := nL) (Ts := TBL) (b := a) (owner := owner) (x := x) ⟨hx, hb, hml, hown, hts⟩ (hM H.size) ⟨⟨hrc.1, hrc.2, hR.1, hR.2, pay_in hts (ws_good hcode), List.mem_cons_self⟩, hts _ hcode, hts _ hini, ⟨hy.1, hy.2.1⟩, fun sig h => ?_, hts _ hlink, hts _ hsame, by rw [← hyx]; exact va_Decl.of (hts _ hinst) (hts _ hcode), hts _ hsel, hts _ hinst⟩ ⟨mo_blind, hrecv, fun U hU hW => ⟨rfl, by rw [hU], by rw [hU]; exact hP, hG.step hS hU hW⟩⟩ rfl hnA hl.1 hst (lv_room hcat) hd hcs
  have h2 := hy.2.2
  rw [h] at h2
  exact (Option.some.inj h2).symm
/-- longs and doubles -/
theorem x_ldc2 (hC : CX p s m args meth c cc nL own ret G) {index : Nat} (v : Int64) (hw : Cond.constantLong own index v ∈ TBL) (hd : decode cc pc = .ok (.ldc2_w index, 3)) (K : XJ p l e R s m args below meth c G nL Q k n M (pc + 3) lv (.long v :: st)) : XJ p l e R s m args below meth c G nL Q k n M pc lv st := by
  obtain ⟨hx, hb, hml, hown, hts, hlk, hrt, hG⟩ := hC
  exact fun H locs ls hP hS hl => lv_ldc2 hx hb hown (hts _ hw) hd (K H locs ls hP hS hl)
theorem x_lload_n (hC : CX p s m args meth c cc nL own ret G) {kk : Fin 4} {i : Nat} {x : Int64} (hd : decode cc pc = .ok (.lload_n kk, 1)) (hi : (kk : Nat) = i) (j : Nat) (hj : lv[j]? = some (i, .long x)) (K : XJ p l e R s m args below meth c G nL Q k n M (pc + 1) lv (.long x :: st)) : XJ p l e R s m args below meth c G nL Q k n M pc lv st := by
  obtain ⟨hx, hb, -⟩ := hC
  exact fun H locs ls hP hS hl => lv_lload_n hx hb hd hi (lv_at hl j hj) (K H locs ls hP hS hl)
theorem x_lload (hC : CX p s m args meth c cc nL own ret G) {i : Nat} {x : Int64} (hd : decode cc pc = .ok (.lload i, 2)) (j : Nat) (hj : lv[j]? = some (i, .long x)) (K : XJ p l e R s m args below meth c G nL Q k n M (pc + 2) lv (.long x :: st)) : XJ p l e R s m args below meth c G nL Q k n M pc lv st := by
  obtain ⟨hx, hb, -⟩ := hC
  exact fun H locs ls hP hS hl => lv_lload hx hb hd (lv_at hl j hj) (K H locs ls hP hS hl)
theorem x_lstore_n (hC : CX p s m args meth c cc nL own ret G) {kk : Fin 4} {i : Nat} {x : Int64} (lv' : List (Nat × Value)) (hd : decode cc pc = .ok (.lstore_n kk, 1)) (hi : (kk : Nat) = i) (hn : i + 1 < nL) (hl' : (i, Value.long x) :: lv.filter (fun q => !(q.1 == i) && (!(q.1 == i + 1) && !(q.1 + 1 == i && q.2.category == 2))) = lv') (K : XJ p l e R s m args below meth c G nL Q k n M (pc + 1) lv' st) : XJ p l e R s m args below meth c G nL Q k n M pc lv (.long x :: st) := by
  obtain ⟨hx, hb, -⟩ := hC
  exact fun H locs ls hP hS hl => lv_lstore_n hx hb hd hi hl hn hl' (fun ls' hl2 => K H locs ls' hP hS hl2)
theorem x_lstore (hC : CX p s m args meth c cc nL own ret G) {i : Nat} {x : Int64} (lv' : List (Nat × Value)) (hd : decode cc pc = .ok (.lstore i, 2)) (hn : i + 1 < nL) (hl' : (i, Value.long x) :: lv.filter (fun q => !(q.1 == i) && (!(q.1 == i + 1) && !(q.1 + 1 == i && q.2.category == 2))) = lv') (K : XJ p l e R s m args below meth c G nL Q k n M (pc + 2) lv' st) : XJ p l e R s m args below meth c G nL Q k n M pc lv (.long x :: st) := by
  obtain ⟨hx, hb, -⟩ := hC
  exact fun H locs ls hP hS hl => lv_lstore hx hb hd hl hn hl' (fun ls' hl2 => K H locs ls' hP hS hl2)
theorem x_ladd (hC : CX p s m args meth c cc nL own ret G) {x y : Int64} (hd : decode cc pc = .ok (.ladd, 1)) (K : XJ p l e R s m args below meth c G nL Q k n M (pc + 1) lv (.long (x + y) :: st)) : XJ p l e R s m args below meth c G nL Q k n M pc lv (.long y :: .long x :: st) := by
  obtain ⟨hx, hb, -⟩ := hC
  exact fun H locs ls hP hS hl => lv_ladd hx hb hd (K H locs ls hP hS hl)
theorem x_lmul (hC : CX p s m args meth c cc nL own ret G) {x y : Int64} (hd : decode cc pc = .ok (.lmul, 1)) (K : XJ p l e R s m args below meth c G nL Q k n M (pc + 1) lv (.long (x * y) :: st)) : XJ p l e R s m args below meth c G nL Q k n M pc lv (.long y :: .long x :: st) := by
  obtain ⟨hx, hb, -⟩ := hC
  exact fun H locs ls hP hS hl => lv_lmul hx hb hd (K H locs ls hP hS hl)
theorem x_i2l (hC : CX p s m args meth c cc nL own ret G) {x : Int32} (hd : decode cc pc = .ok (.i2l, 1)) (K : XJ p l e R s m args below meth c G nL Q k n M (pc + 1) lv (.long x.toInt64 :: st)) : XJ p l e R s m args below meth c G nL Q k n M pc lv (.int x :: st) := by
  obtain ⟨hx, hb, -⟩ := hC
  exact fun H locs ls hP hS hl => lv_i2l hx hb hd rfl (K H locs ls hP hS hl)
theorem x_topl {x y : Int64} (h : y = x) (K : XJ p l e R s m args below meth c G nL Q k n M pc lv (.long y :: st)) : XJ p l e R s m args below meth c G nL Q k n M pc lv (.long x :: st) := h ▸ K
theorem x_lret (hC : CX p s m args meth c cc nL own ret G) {v : Int64} (hret : ret = some .long) (hd : decode cc pc = .ok (.lreturn, 1)) : XJ p l e R s m args below meth c G nL (MQ below (QO G M false (some (.long v)) s.heap.size) args s k n (AF G s.heap.size)) k n M pc lv [.long v] := by
  obtain ⟨hx, hb, hml, hown, hts, hlk, hrt, hG⟩ := hC
  exact fun H locs ls hP hS hl => W.lret hx hb (hrt.trans hret) (fun t ht hW => ⟨rfl, by rw [ht]; exact hP, hS.F ht, fun h => by cases h⟩) hS.2.2 hd hlk
theorem x_i2d (hC : CX p s m args meth c cc nL own ret G) {x : Int32} (hd : decode cc pc = .ok (.i2d, 1)) (K : XJ p l e R s m args below meth c G nL Q k n M (pc + 1) lv (.double (FP.i2d x) :: st)) : XJ p l e R s m args below meth c G nL Q k n M pc lv (.int x :: st) := by
  obtain ⟨hx, hb, -⟩ := hC
  exact fun H locs ls hP hS hl => lv_i2d hx hb hd (K H locs ls hP hS hl)
theorem x_ddiv (hC : CX p s m args meth c cc nL own ret G) {x y : UInt64} (hne : FP.ddiv x y &&& 0x7fffffffffffffff ≤ 0x7ff0000000000000) (hd : decode cc pc = .ok (.ddiv, 1)) (K : XJ p l e R s m args below meth c G nL Q k n M (pc + 1) lv (.double (FP.ddiv x y) :: st)) : XJ p l e R s m args below meth c G nL Q k n M pc lv (.double y :: .double x :: st) := by
  obtain ⟨hx, hb, -⟩ := hC
  exact fun H locs ls hP hS hl => lv_ddiv hx hb hd hne (K H locs ls hP hS hl)
theorem x_dconst0 (hC : CX p s m args meth c cc nL own ret G) (hd : decode cc pc = .ok (.dconst 0, 1)) (K : XJ p l e R s m args below meth c G nL Q k n M (pc + 1) lv (.double FP.dconst0 :: st)) : XJ p l e R s m args below meth c G nL Q k n M pc lv st := by
  obtain ⟨hx, hb, -⟩ := hC
  exact fun H locs ls hP hS hl => lv_dconst0 hx hb hd (K H locs ls hP hS hl)
theorem x_dret (hC : CX p s m args meth c cc nL own ret G) {v : UInt64} (hret : ret = some .double) (hd : decode cc pc = .ok (.dreturn, 1)) : XJ p l e R s m args below meth c G nL (MQ below (QO G M false (some (.double v)) s.heap.size) args s k n (AF G s.heap.size)) k n M pc lv [.double v] := by
  obtain ⟨hx, hb, hml, hown, hts, hlk, hrt, hG⟩ := hC
  exact fun H locs ls hP hS hl => W.dret hx hb (hrt.trans hret) (fun t ht hW => ⟨rfl, by rw [ht]; exact hP, hS.F ht, fun h => by cases h⟩) hS.2.2 hd hlk
theorem x_widen {k' n' : Nat} (h1 : k ≤ k') (h2 : n ≤ n') (K : XJ p l e R s m args below meth c G nL Q k' n' M pc lv st) : XJ p l e R s m args below meth c G nL Q k n M pc lv st := fun H locs ls hP hS hl => W.widen h1 h2 (K H locs ls hP hS hl)
end XT
theorem getD_mem {L : List Int32} {i : Nat} (h : i < L.length) : L.getD i 0 ∈ L := by
  rw [List.getD_eq_getElem?_getD, List.getElem?_eq_getElem h]
  exact List.getElem_mem h
theorem tk_O {G : GG} {a : Int32} (h : tkc a) : ∀ (A : Nat → Prop) (U : State) (H : Heap), TKP G A U H → va_O "PeatBog$Token" (G.2.1 (rid a)) A U H := fun A U H hT => by rw [tk_rid h]; exact (hT.1 _ (tk_lt h)).2.1
theorem ts_O {G : GG} {a : Int32} (h : ix a < 48) : ∀ (A : Nat → Prop) (U : State) (H : Heap), TKP G A U H → va_O "java/lang/String" (G.2.1 (2000 + ix a)) A U H := fun A U H hT => (hT.2.1 _ h).1
theorem kf_X4_53 : Cond.fieldLink RX4 53 "PeatBog$Token" "GANG" "LPeatBog$Token;" ∈ TBL := tb_4 (List.mem_of_getElem? (i := 25) rfl)
theorem kf_X4_63 : Cond.fieldLink RX4 63 "PeatBog$Token" "END" "LPeatBog$Token;" ∈ TBL := tb_7 (List.mem_of_getElem? (i := 18) rfl)
theorem kf_X4_77 : Cond.fieldLink RX4 77 "PeatBog$Token" "NAME" "LPeatBog$Token;" ∈ TBL := tb_4 (List.mem_of_getElem? (i := 29) rfl)
theorem kf_X4_88 : Cond.fieldLink RX4 88 "PeatBog$Token" "AT" "LPeatBog$Token;" ∈ TBL := tb_5 (List.mem_of_getElem? (i := 14) rfl)
theorem kf_X4_117 : Cond.fieldLink RX4 117 "PeatBog$Token" "NUMBER" "LPeatBog$Token;" ∈ TBL := tb_5 (List.mem_of_getElem? (i := 18) rfl)
theorem kf_X4_120 : Cond.fieldLink RX4 120 "PeatBog$Token" "LEFT_BRACE" "LPeatBog$Token;" ∈ TBL := tb_5 (List.mem_of_getElem? (i := 35) rfl)
theorem kf_X4_127 : Cond.fieldLink RX4 127 "PeatBog$Token" "RIGHT_BRACE" "LPeatBog$Token;" ∈ TBL := tb_5 (List.mem_of_getElem? (i := 39) rfl)
theorem kf_X4_133 : Cond.fieldLink RX4 133 "PeatBog$1" "$SwitchMap$PeatBog$Token" "[I" ∈ TBL := tb_6 (List.mem_of_getElem? (i := 3) rfl)
theorem kf_X4_145 : Cond.fieldLink RX4 145 "PeatBog$Token" "COMMA" "LPeatBog$Token;" ∈ TBL := tb_6 (List.mem_of_getElem? (i := 25) rfl)
theorem kf_X4_160 : Cond.fieldLink RX4 160 "PeatBog$Token" "SEMICOLON" "LPeatBog$Token;" ∈ TBL := tb_6 (List.mem_of_getElem? (i := 29) rfl)
theorem kf_X4_169 : Cond.fieldLink RX4 169 "PeatBog$Token" "ELSE" "LPeatBog$Token;" ∈ TBL := tb_7 (List.mem_of_getElem? (i := 7) rfl)
theorem kf_X4_178 : Cond.fieldLink RX4 178 "PeatBog$Token" "OR" "LPeatBog$Token;" ∈ TBL := tb_7 (List.mem_of_getElem? (i := 6) rfl)
theorem kf_X4_184 : Cond.fieldLink RX4 184 "PeatBog$Token" "AND" "LPeatBog$Token;" ∈ TBL := tb_7 (List.mem_of_getElem? (i := 5) rfl)
theorem kf_X4_187 : Cond.fieldLink RX4 187 "PeatBog$Token" "NOT" "LPeatBog$Token;" ∈ TBL := tb_7 (List.mem_of_getElem? (i := 2) rfl)
theorem kf_X4_190 : Cond.fieldLink RX4 190 "PeatBog$Token" "LEFT_BRACKET" "LPeatBog$Token;" ∈ TBL := tb_7 (List.mem_of_getElem? (i := 3) rfl)
theorem kf_X4_193 : Cond.fieldLink RX4 193 "PeatBog$Token" "RIGHT_BRACKET" "LPeatBog$Token;" ∈ TBL := tb_7 (List.mem_of_getElem? (i := 4) rfl)
theorem kf_X4_196 : Cond.fieldLink RX4 196 "PeatBog$Token" "group" "I" ∈ TBL := tb_27 (List.mem_of_getElem? (i := 18) rfl)
theorem kf_X4_199 : Cond.fieldLink RX4 199 "PeatBog$Token" "op" "I" ∈ TBL := tb_27 (List.mem_of_getElem? (i := 19) rfl)
theorem kf_X4_208 : Cond.fieldLink RX4 208 "PeatBog$Token" "MINUS" "LPeatBog$Token;" ∈ TBL := tb_6 (List.mem_of_getElem? (i := 22) rfl)
theorem kf_X4_211 : Cond.fieldLink RX4 211 "PeatBog$Token" "LEFT_PAREN" "LPeatBog$Token;" ∈ TBL := tb_6 (List.mem_of_getElem? (i := 23) rfl)
theorem kf_X4_214 : Cond.fieldLink RX4 214 "PeatBog$Token" "RIGHT_PAREN" "LPeatBog$Token;" ∈ TBL := tb_6 (List.mem_of_getElem? (i := 24) rfl)
theorem kf_X6_46 : Cond.fieldLink RX6 46 "PeatBog$Token" "END" "LPeatBog$Token;" ∈ TBL := tb_2 (List.mem_of_getElem? (i := 23) rfl)
theorem kf_X6_50 : Cond.fieldLink RX6 50 "PeatBog$Token" "WRONG" "LPeatBog$Token;" ∈ TBL := tb_2 (List.mem_of_getElem? (i := 33) rfl)
theorem kf_X6_60 : Cond.fieldLink RX6 60 "PeatBog$Token" "NAME" "LPeatBog$Token;" ∈ TBL := tb_2 (List.mem_of_getElem? (i := 34) rfl)
theorem kf_X6_73 : Cond.fieldLink RX6 73 "PeatBog$Token" "NUMBER" "LPeatBog$Token;" ∈ TBL := tb_4 (List.mem_of_getElem? (i := 9) rfl)
theorem kf_X7_179 : Cond.fieldLink RX7 179 "PeatBog$Token" "text" "Ljava/lang/String;" ∈ TBL := tb_27 (List.mem_of_getElem? (i := 16) rfl)
theorem kf_X7_190 : Cond.fieldLink RX7 190 "PeatBog$Token" "ALL" "[LPeatBog$Token;" ∈ TBL := tb_2 (List.mem_of_getElem? (i := 38) rfl)
theorem kf_J5_18 : Cond.fieldLink RJ5 18 "java/lang/String" "COMPACT_STRINGS" "Z" ∈ TBL := tb_22 (List.mem_of_getElem? (i := 18) rfl)
theorem kf_Jx29ce0_7 : Cond.fieldLink RJx29ce0 7 "java/lang/Enum" "ordinal" "I" ∈ TBL := tb_27 (List.mem_of_getElem? (i := 17) rfl)
theorem kf_J0_9 : Cond.fieldLink RJ0 9 "java/lang/String" "value" "[B" ∈ TBL := tb_26 (List.mem_of_getElem? (i := 36) rfl)
theorem kf_J0_15 : Cond.fieldLink RJ0 15 "java/lang/String" "coder" "B" ∈ TBL := tb_26 (List.mem_of_getElem? (i := 37) rfl)
theorem kf_J0_38 : Cond.fieldLink RJ0 38 "java/lang/String" "COMPACT_STRINGS" "Z" ∈ TBL := tb_3 (List.mem_of_getElem? (i := 11) rfl)
theorem kf_J0_1053 : Cond.fieldLink RJ0 1053 "jdk/internal/util/Preconditions" "SIOOBE_FORMATTER" "Ljava/util/function/BiFunction;" ∈ TBL := tb_3 (List.mem_of_getElem? (i := 26) rfl)
theorem kc_yJ3_checkIndex_8e157 : Cond.code yJ3_checkIndex_8e157 cJ3_checkIndex_8e157 3 (some .int) ∈ TBL := tb_3 (List.mem_of_getElem? (i := 29) rfl)
theorem kt_yJ3_checkIndex_8e157 : Cond.static yJ3_checkIndex_8e157 ∈ TBL := tb_3 (List.mem_of_getElem? (i := 28) rfl)
theorem kn_RJ3 : Cond.initialized RJ3 ∈ TBL := tb_1 (List.mem_of_getElem? (i := 35) rfl)
theorem kmz_J0_1059 : Cond.methodLink RJ0 1059 yJ3_checkIndex_8e157 ∈ TBL := tb_3 (List.mem_of_getElem? (i := 27) rfl)
theorem kc_yJx29ce0_ordinal_8abf5 : Cond.code yJx29ce0_ordinal_8abf5 cJx29ce0_ordinal_8abf5 1 (some .int) ∈ TBL := tb_6 (List.mem_of_getElem? (i := 8) rfl)
theorem ki_yJx29ce0_ordinal_8abf5 : Cond.instanceMethod yJx29ce0_ordinal_8abf5 ∈ TBL := tb_6 (List.mem_of_getElem? (i := 7) rfl)
theorem kn_RJx29ce0 : Cond.initialized RJx29ce0 ∈ TBL := tb_1 (List.mem_of_getElem? (i := 38) rfl)
def yTok_ordinal : MethodName := ⟨"PeatBog$Token", "ordinal", "()I"⟩
theorem km_X4_138 : Cond.methodLink RX4 138 yTok_ordinal ∈ TBL := tb_6 (List.mem_of_getElem? (i := 4) rfl)
theorem kse_ord : Cond.selects "PeatBog$Token" yTok_ordinal yJx29ce0_ordinal_8abf5 ∈ TBL := tb_6 (List.mem_of_getElem? (i := 6) rfl)
theorem ksm_ord : Cond.sameMethod "PeatBog$Token" "java/lang/Enum" "ordinal" "()I" ∈ TBL := tb_6 (List.mem_of_getElem? (i := 5) rfl)
theorem ka_int : Cond.arrayClass .int ∈ TBL := tb_16 (List.mem_of_getElem? (i := 27) rfl)
theorem kx_X9_255 : Cond.constantLong RX9 255 701 ∈ TBL := tb_15 (List.mem_of_getElem? (i := 5) rfl)
theorem kx_X9_257 : Cond.constantLong RX9 257 31 ∈ TBL := tb_15 (List.mem_of_getElem? (i := 6) rfl)
theorem ky_yJ3_checkIndex_8e157 : yJ3_checkIndex_8e157.cls ≠ "java/lang/invoke/MethodHandle" ∧ yJ3_checkIndex_8e157.cls ≠ "java/lang/invoke/VarHandle" ∧ (parseMethodDescriptor yJ3_checkIndex_8e157.desc).map (fun d => d.parameters.length) = some 3 := by decide +kernel
theorem dJ0_coder_7d493_0 : decode cJ0_coder_7d493 0 = .ok (.getstatic 38, 3) := by decide +kernel
theorem dJ0_coder_7d493_3 : decode cJ0_coder_7d493 3 = .ok (.ifCond .eq 10, 3) := by decide +kernel
theorem dJ0_coder_7d493_6 : decode cJ0_coder_7d493 6 = .ok (.aload_n 0, 1) := by decide +kernel
theorem dJ0_coder_7d493_7 : decode cJ0_coder_7d493 7 = .ok (.getfield 15, 3) := by decide +kernel
theorem dJ0_coder_7d493_10 : decode cJ0_coder_7d493 10 = .ok (.goto 4, 3) := by decide +kernel
theorem dJ0_coder_7d493_13 : decode cJ0_coder_7d493 13 = .ok (.iconst 1, 1) := by decide +kernel
theorem dJ0_coder_7d493_14 : decode cJ0_coder_7d493 14 = .ok (.ireturn, 1) := by decide +kernel
theorem c_J0_coder (l : Launch) (G : GG) (M : Mm) {a : Int32} (ha : ix a < 48) : Mo false l yJ0_coder_7d493 (WS yJ0_coder_7d493 cJ0_coder_7d493 1 (some .byte)) (RM 0 0 0 0) 0 0 [.ref (G.2.1 (2000 + ix a))] G M (some (.int 0)) M := by
  refine Mo.of (by decide +kernel) (Nat.le_of_ble_eq_true rfl) ?_
  intro p e s m args below meth c hC
  have hC : CX p s m args meth c cJ0_coder_7d493 1 RJ0 (some .byte) G := hC
  show XJ p l e (RM 0 0 0 0) s m args below meth c G 1 _ 0 0 M 0 [(0, .ref (G.2.1 (2000 + ix a)))] []
  refine x_gets hC (v := .int 1) (fun A U H h => h.2.2.2.2.2.2.2.2.1) kf_J0_38 dJ0_coder_7d493_0 ?_
  refine x_if_eq hC 13 dJ0_coder_7d493_3 (by decide) (fun h => absurd h (by decide)) (fun _ => ?_)
  refine x_aload_n hC dJ0_coder_7d493_6 rfl 0 rfl ?_
  refine x_getO hC (v := .int 0) (fun A U H h => (h.2.1 _ ha).2.1) kf_J0_15 dJ0_coder_7d493_7 ?_
  refine x_goto hC 14 dJ0_coder_7d493_10 (by decide) ?_
  exact x_cret hC rfl rfl dJ0_coder_7d493_14
theorem dJ0_isLatin1_aae02_0 : decode cJ0_isLatin1_aae02 0 = .ok (.getstatic 38, 3) := by decide +kernel
theorem dJ0_isLatin1_aae02_3 : decode cJ0_isLatin1_aae02 3 = .ok (.ifCond .eq 14, 3) := by decide +kernel
theorem dJ0_isLatin1_aae02_6 : decode cJ0_isLatin1_aae02 6 = .ok (.aload_n 0, 1) := by decide +kernel
theorem dJ0_isLatin1_aae02_7 : decode cJ0_isLatin1_aae02 7 = .ok (.getfield 15, 3) := by decide +kernel
theorem dJ0_isLatin1_aae02_10 : decode cJ0_isLatin1_aae02 10 = .ok (.ifCond .ne 7, 3) := by decide +kernel
theorem dJ0_isLatin1_aae02_13 : decode cJ0_isLatin1_aae02 13 = .ok (.iconst 1, 1) := by decide +kernel
theorem dJ0_isLatin1_aae02_14 : decode cJ0_isLatin1_aae02 14 = .ok (.goto 4, 3) := by decide +kernel
theorem dJ0_isLatin1_aae02_18 : decode cJ0_isLatin1_aae02 18 = .ok (.ireturn, 1) := by decide +kernel
theorem c_J0_isLatin1 (l : Launch) (G : GG) (M : Mm) {a : Int32} (ha : ix a < 48) : Mo true l yJ0_isLatin1_aae02 (WS yJ0_isLatin1_aae02 cJ0_isLatin1_aae02 1 (some .boolean)) (RM 0 0 0 0) 0 0 [.ref (G.2.1 (2000 + ix a))] G M (some (.int 1)) M := by
  refine Mo.of (by decide +kernel) (Nat.le_of_ble_eq_true rfl) ?_
  intro p e s m args below meth c hC
  have hC : CX p s m args meth c cJ0_isLatin1_aae02 1 RJ0 (some .boolean) G := hC
  show XJ p l e (RM 0 0 0 0) s m args below meth c G 1 _ 0 0 M 0 [(0, .ref (G.2.1 (2000 + ix a)))] []
  refine x_gets hC (v := .int 1) (fun A U H h => h.2.2.2.2.2.2.2.2.1) kf_J0_38 dJ0_isLatin1_aae02_0 ?_
  refine x_if_eq hC 17 dJ0_isLatin1_aae02_3 (by decide) (fun h => absurd h (by decide)) (fun _ => ?_)
  refine x_aload_n hC dJ0_isLatin1_aae02_6 rfl 0 rfl ?_
  refine x_getO hC (v := .int 0) (fun A U H h => (h.2.1 _ ha).2.1) kf_J0_15 dJ0_isLatin1_aae02_7 ?_
  refine x_if_ne hC 17 dJ0_isLatin1_aae02_10 (by decide) (fun h => absurd rfl h) (fun _ => ?_)
  refine x_iconst hC (1 : Int32) dJ0_isLatin1_aae02_13 (by decide) ?_
  refine x_goto hC 18 dJ0_isLatin1_aae02_14 (by decide) ?_
  exact x_zret hC rfl (Or.inr rfl) dJ0_isLatin1_aae02_18
theorem dJ0_length_8abf5_0 : decode cJ0_length_8abf5 0 = .ok (.aload_n 0, 1) := by decide +kernel
theorem dJ0_length_8abf5_1 : decode cJ0_length_8abf5 1 = .ok (.getfield 9, 3) := by decide +kernel
theorem dJ0_length_8abf5_4 : decode cJ0_length_8abf5 4 = .ok (.arraylength, 1) := by decide +kernel
theorem dJ0_length_8abf5_5 : decode cJ0_length_8abf5 5 = .ok (.aload_n 0, 1) := by decide +kernel
theorem dJ0_length_8abf5_6 : decode cJ0_length_8abf5 6 = .ok (.invokevirtual 335, 3) := by decide +kernel
theorem dJ0_length_8abf5_9 : decode cJ0_length_8abf5 9 = .ok (.ishr, 1) := by decide +kernel
theorem dJ0_length_8abf5_10 : decode cJ0_length_8abf5 10 = .ok (.ireturn, 1) := by decide +kernel
theorem sh0 (n : Nat) (h : n < 100) : nI n >>> ((0 : Int32) &&& 31) = nI n := by
  have : ∀ n, n < 100 → nI n >>> ((0 : Int32) &&& 31) = nI n := by decide +kernel
  exact this n h
theorem c_J0_length (l : Launch) (G : GG) (M : Mm) {a : Int32} (ha : ix a < 48) : Mo false l yJ0_length_8abf5 (WS yJ0_length_8abf5 cJ0_length_8abf5 1 (some .int)) (RM 1 0 0 20) 0 0 [.ref (G.2.1 (2000 + ix a))] G M (some (.int (nI (tkL a)))) M := by
  refine Mo.of (by decide +kernel) (Nat.le_of_ble_eq_true rfl) ?_
  intro p e s m args below meth c hC
  have hC : CX p s m args meth c cJ0_length_8abf5 1 RJ0 (some .int) G := hC
  show XJ p l e (RM 1 0 0 20) s m args below meth c G 1 _ 0 0 M 0 [(0, .ref (G.2.1 (2000 + ix a)))] []
  refine x_aload_n hC dJ0_length_8abf5_0 rfl 0 rfl ?_
  refine x_getO hC (v := .ref (G.2.1 (3000 + ix a))) (fun A U H h => (h.2.1 _ ha).2.2.1) kf_J0_9 dJ0_length_8abf5_1 ?_
  refine x_sLen hC ha dJ0_length_8abf5_4 ?_
  refine x_aload_n hC dJ0_length_8abf5_5 rfl 0 rfl ?_
  refine x_callO (As := []) hC (ts_O ha) (c_J0_coder l G M ha) kc_yJ0_coder_7d493 km_J0_335 ki_yJ0_coder_7d493 kv_yJ0_coder_7d493 kn_RJ0 ky_yJ0_coder_7d493 rfl ⟨rfl, rfl⟩ ⟨(Nat.le_of_ble_eq_true rfl), (Nat.le_of_ble_eq_true rfl)⟩ rfl (Nat.le_of_ble_eq_true rfl) ⟨(Nat.le_of_ble_eq_true rfl), (Nat.le_of_ble_eq_true rfl)⟩ dJ0_length_8abf5_6 (fun _ => ?_)
  refine x_ishr hC dJ0_length_8abf5_9 ?_
  refine x_topi (y := nI (tkL a)) (sh0 _ (tx_ok _ ha).1).symm ?_
  exact x_iret hC rfl dJ0_length_8abf5_10
theorem dJ3_checkIndex_8e157_0 : decode cJ3_checkIndex_8e157 0 = .ok (.iload_n 0, 1) := by decide +kernel
theorem dJ3_checkIndex_8e157_1 : decode cJ3_checkIndex_8e157 1 = .ok (.ifCond .lt 8, 3) := by decide +kernel
theorem dJ3_checkIndex_8e157_4 : decode cJ3_checkIndex_8e157 4 = .ok (.iload_n 0, 1) := by decide +kernel
theorem dJ3_checkIndex_8e157_5 : decode cJ3_checkIndex_8e157 5 = .ok (.iload_n 1, 1) := by decide +kernel
theorem dJ3_checkIndex_8e157_6 : decode cJ3_checkIndex_8e157 6 = .ok (.if_icmp .lt 10, 3) := by decide +kernel
theorem dJ3_checkIndex_8e157_16 : decode cJ3_checkIndex_8e157 16 = .ok (.iload_n 0, 1) := by decide +kernel
theorem dJ3_checkIndex_8e157_17 : decode cJ3_checkIndex_8e157 17 = .ok (.ireturn, 1) := by decide +kernel
theorem c_J3_checkIndex (l : Launch) (G : GG) (M : Mm) {j N : Int32} {v : Value} (hv : v = .null ∨ ∃ t, v = .ref t) (hj : 0 ≤ j.toInt ∧ j.toInt < N.toInt) : Mo false l yJ3_checkIndex_8e157 (WS yJ3_checkIndex_8e157 cJ3_checkIndex_8e157 3 (some .int)) (RM 0 0 0 0) 0 0 [.int j, .int N, v] G M (some (.int j)) M := by
  have h1 : ¬ j < 0 := fun h => by have := Int32.lt_iff_toInt_lt.mp h; simp at this; omega
  have h2 : j < N := Int32.lt_iff_toInt_lt.mpr hj.2
  rcases hv with rfl | ⟨t, rfl⟩
  · refine Mo.of (by decide +kernel) (Nat.le_of_ble_eq_true rfl) ?_
    intro p e s m args below meth c hC
    have hC : CX p s m args meth c cJ3_checkIndex_8e157 3 RJ3 (some .int) G := hC
    show XJ p l e (RM 0 0 0 0) s m args below meth c G 3 _ 0 0 M 0 [(0, .int j), (1, .int N), (2, .null)] []
    refine x_iload_n hC dJ3_checkIndex_8e157_0 rfl 0 rfl ?_
    refine x_if_lt hC 9 dJ3_checkIndex_8e157_1 (by decide) (fun h => absurd h h1) (fun _ => ?_)
    refine x_iload_n hC dJ3_checkIndex_8e157_4 rfl 0 rfl ?_
    refine x_iload_n hC dJ3_checkIndex_8e157_5 rfl 1 rfl ?_
    refine x_icmp_lt hC 16 dJ3_checkIndex_8e157_6 (by decide) (fun _ => ?_) (fun h => absurd h2 h)
    refine x_iload_n hC dJ3_checkIndex_8e157_16 rfl 0 rfl ?_
    exact x_iret hC rfl dJ3_checkIndex_8e157_17
  · refine Mo.of (by decide +kernel) (Nat.le_of_ble_eq_true rfl) ?_
    intro p e s m args below meth c hC
    have hC : CX p s m args meth c cJ3_checkIndex_8e157 3 RJ3 (some .int) G := hC
    show XJ p l e (RM 0 0 0 0) s m args below meth c G 3 _ 0 0 M 0 [(0, .int j), (1, .int N), (2, .ref t)] []
    refine x_iload_n hC dJ3_checkIndex_8e157_0 rfl 0 rfl ?_
    refine x_if_lt hC 9 dJ3_checkIndex_8e157_1 (by decide) (fun h => absurd h h1) (fun _ => ?_)
    refine x_iload_n hC dJ3_checkIndex_8e157_4 rfl 0 rfl ?_
    refine x_iload_n hC dJ3_checkIndex_8e157_5 rfl 1 rfl ?_
    refine x_icmp_lt hC 16 dJ3_checkIndex_8e157_6 (by decide) (fun _ => ?_) (fun h => absurd h2 h)
    refine x_iload_n hC dJ3_checkIndex_8e157_16 rfl 0 rfl ?_
    exact x_iret hC rfl dJ3_checkIndex_8e157_17
theorem dJ0_checkIndex_df160_0 : decode cJ0_checkIndex_df160 0 = .ok (.iload_n 0, 1) := by decide +kernel
theorem dJ0_checkIndex_df160_1 : decode cJ0_checkIndex_df160 1 = .ok (.iload_n 1, 1) := by decide +kernel
theorem dJ0_checkIndex_df160_2 : decode cJ0_checkIndex_df160 2 = .ok (.getstatic 1053, 3) := by decide +kernel
theorem dJ0_checkIndex_df160_5 : decode cJ0_checkIndex_df160 5 = .ok (.invokestatic 1059, 3) := by decide +kernel
theorem dJ0_checkIndex_df160_8 : decode cJ0_checkIndex_df160 8 = .ok (.pop, 1) := by decide +kernel
theorem dJ0_checkIndex_df160_9 : decode cJ0_checkIndex_df160 9 = .ok (.return_, 1) := by decide +kernel
theorem x_getsV {p : Program} {l : Launch} {e : Env} {R : Room} {s : State} {m : MethodId} {args : Array Value} {below : List Frame} {meth : Method} {c : Code} {cc : ByteArray} {nL : Nat} {own : String} {G : GG} {Q : State → Prop} {k n : Nat} {M : Mm} {pc : Nat} {lv : List (Nat × Value)} {st : List Value} {ret : Option FieldType} (hC : CX p s m args meth c cc nL own ret G) {C nn d : String} {v : Value} {index : Nat} (hZ : va_Z C nn d v (AF G s.heap.size) s s.heap) (hlink : Cond.fieldLink own index C nn d ∈ TBL) (hd : decode cc pc = .ok (.getstatic index, 3)) (K : XJ p l e R s m args below meth c G nL Q k n M (pc + 3) lv (v :: st)) : XJ p l e R s m args below meth c G nL Q k n M pc lv st := by
  obtain ⟨hx, hb, hml, hown, hts, hlk, hrt, hG⟩ := hC
  exact fun H locs ls hP hS hl => va_gets hx hb hZ hS hown (hts _ hlink) (fun _ h => h) hd (K H locs ls hP hS hl)
theorem c_J0_checkIndex (l : Launch) (G : GG) (M : Mm) {j N : Int32} (hj : 0 ≤ j.toInt ∧ j.toInt < N.toInt) : Mo false l yJ0_checkIndex_df160 (WS yJ0_checkIndex_df160 cJ0_checkIndex_df160 2 none) (RM 1 0 0 30) 0 0 [.int j, .int N] G M none M := by
  refine Mo.of (by decide +kernel) (Nat.le_of_ble_eq_true rfl) ?_
  intro p e s m args below meth c hC
  have hC : CX p s m args meth c cJ0_checkIndex_df160 2 RJ0 none G := hC
  show XJ p l e (RM 1 0 0 30) s m args below meth c G 2 _ 0 0 M 0 [(0, .int j), (1, .int N)] []
  rcases hC.2.2.2.2.2.2.2.2.2.2.2.1.2.2.2.2.2.2.2.2.2 with hz | ⟨t, hz⟩
  · refine x_iload_n hC dJ0_checkIndex_df160_0 rfl 0 rfl ?_
    refine x_iload_n hC dJ0_checkIndex_df160_1 rfl 1 rfl ?_
    refine x_getsV hC hz kf_J0_1053 dJ0_checkIndex_df160_2 ?_
    refine x_callS (As := [.int j, .int N, .null]) hC (c_J3_checkIndex l G M (v := .null) (Or.inl rfl) hj) kc_yJ3_checkIndex_8e157 kmz_J0_1059 kt_yJ3_checkIndex_8e157 kn_RJ3 ky_yJ3_checkIndex_8e157 rfl ⟨rfl, rfl⟩ ⟨(Nat.le_of_ble_eq_true rfl), (Nat.le_of_ble_eq_true rfl)⟩ rfl (Nat.le_of_ble_eq_true rfl) ⟨(Nat.le_of_ble_eq_true rfl), (Nat.le_of_ble_eq_true rfl)⟩ dJ0_checkIndex_df160_5 (fun _ => ?_)
    refine x_pop hC dJ0_checkIndex_df160_8 rfl ?_
    exact x_vret hC rfl dJ0_checkIndex_df160_9
  · refine x_iload_n hC dJ0_checkIndex_df160_0 rfl 0 rfl ?_
    refine x_iload_n hC dJ0_checkIndex_df160_1 rfl 1 rfl ?_
    refine x_getsV hC hz kf_J0_1053 dJ0_checkIndex_df160_2 ?_
    refine x_callS (As := [.int j, .int N, .ref t]) hC (c_J3_checkIndex l G M (v := .ref t) (Or.inr ⟨_, rfl⟩) hj) kc_yJ3_checkIndex_8e157 kmz_J0_1059 kt_yJ3_checkIndex_8e157 kn_RJ3 ky_yJ3_checkIndex_8e157 rfl ⟨rfl, rfl⟩ ⟨(Nat.le_of_ble_eq_true rfl), (Nat.le_of_ble_eq_true rfl)⟩ rfl (Nat.le_of_ble_eq_true rfl) ⟨(Nat.le_of_ble_eq_true rfl), (Nat.le_of_ble_eq_true rfl)⟩ dJ0_checkIndex_df160_5 (fun _ => ?_)
    refine x_pop hC dJ0_checkIndex_df160_8 rfl ?_
    exact x_vret hC rfl dJ0_checkIndex_df160_9
theorem dJ1_charAt_3b067_0 : decode cJ1_charAt_3b067 0 = .ok (.iload_n 1, 1) := by decide +kernel
theorem dJ1_charAt_3b067_1 : decode cJ1_charAt_3b067 1 = .ok (.aload_n 0, 1) := by decide +kernel
theorem dJ1_charAt_3b067_2 : decode cJ1_charAt_3b067 2 = .ok (.arraylength, 1) := by decide +kernel
theorem dJ1_charAt_3b067_3 : decode cJ1_charAt_3b067 3 = .ok (.invokestatic 9, 3) := by decide +kernel
theorem dJ1_charAt_3b067_6 : decode cJ1_charAt_3b067 6 = .ok (.aload_n 0, 1) := by decide +kernel
theorem dJ1_charAt_3b067_7 : decode cJ1_charAt_3b067 7 = .ok (.iload_n 1, 1) := by decide +kernel
theorem dJ1_charAt_3b067_8 : decode cJ1_charAt_3b067 8 = .ok (.baload, 1) := by decide +kernel
theorem dJ1_charAt_3b067_9 : decode cJ1_charAt_3b067 9 = .ok (.sipush 255, 3) := by decide +kernel
theorem dJ1_charAt_3b067_12 : decode cJ1_charAt_3b067 12 = .ok (.iand, 1) := by decide +kernel
theorem dJ1_charAt_3b067_13 : decode cJ1_charAt_3b067 13 = .ok (.i2c, 1) := by decide +kernel
theorem dJ1_charAt_3b067_14 : decode cJ1_charAt_3b067 14 = .ok (.ireturn, 1) := by decide +kernel
theorem tb_ok : ∀ i, i < 48 → ∀ b ∈ txB.getD i [], ((b &&& 255).toUInt32 % 65536).toInt32 = b ∧ narrow .char (.int b) = .int b := by decide +kernel
theorem tb_in {a j : Int32} (ha : ix a < 48) (hj : 0 ≤ j.toInt ∧ j.toInt < ((tkL a : Nat) : Int)) : ((tkB a j &&& 255).toUInt32 % 65536).toInt32 = tkB a j ∧ narrow .char (.int (tkB a j)) = .int (tkB a j) := by
  have h := ix_in hj
  exact tb_ok _ ha _ (getD_mem h)
theorem c_J1_charAt (l : Launch) (G : GG) (M : Mm) {a j : Int32} (ha : ix a < 48) (hj : 0 ≤ j.toInt ∧ j.toInt < ((tkL a : Nat) : Int)) : Mo false l yJ1_charAt_3b067 (WS yJ1_charAt_3b067 cJ1_charAt_3b067 2 (some .char)) (RM 2 0 0 60) 0 0 [.ref (G.2.1 (3000 + ix a)), .int j] G M (some (.int (tkB a j))) M := by
  have hL : (nI (tkL a)).toInt = ((tkL a : Nat) : Int) := nI_toInt (by have h : tkL a < 100 := (tx_ok _ ha).1; omega)
  refine Mo.of (by decide +kernel) (Nat.le_of_ble_eq_true rfl) ?_
  intro p e s m args below meth c hC
  have hC : CX p s m args meth c cJ1_charAt_3b067 2 RJ1 (some .char) G := hC
  show XJ p l e (RM 2 0 0 60) s m args below meth c G 2 _ 0 0 M 0 [(0, .ref (G.2.1 (3000 + ix a))), (1, .int j)] []
  refine x_iload_n hC dJ1_charAt_3b067_0 rfl 1 rfl ?_
  refine x_aload_n hC dJ1_charAt_3b067_1 rfl 0 rfl ?_
  refine x_sLen hC ha dJ1_charAt_3b067_2 ?_
  refine x_callS (As := [.int j, .int (nI (tkL a))]) hC (c_J0_checkIndex l G M ⟨hj.1, by rw [hL]; exact hj.2⟩) kc_yJ0_checkIndex_df160 km_J1_9 kt_yJ0_checkIndex_df160 kn_RJ0 ky_yJ0_checkIndex_df160 rfl ⟨rfl, rfl⟩ ⟨(Nat.le_of_ble_eq_true rfl), (Nat.le_of_ble_eq_true rfl)⟩ rfl (Nat.le_of_ble_eq_true rfl) ⟨(Nat.le_of_ble_eq_true rfl), (Nat.le_of_ble_eq_true rfl)⟩ dJ1_charAt_3b067_3 (fun _ => ?_)
  refine x_aload_n hC dJ1_charAt_3b067_6 rfl 0 rfl ?_
  refine x_iload_n hC dJ1_charAt_3b067_7 rfl 1 rfl ?_
  refine x_sByte hC ha hj dJ1_charAt_3b067_8 ?_
  refine x_sipush hC (255 : Int32) dJ1_charAt_3b067_9 (by decide) ?_
  refine x_iand hC dJ1_charAt_3b067_12 ?_
  refine x_i2c hC dJ1_charAt_3b067_13 ?_
  refine x_topi (y := tkB a j) (tb_in ha hj).1.symm ?_
  exact x_cret hC rfl (tb_in ha hj).2 dJ1_charAt_3b067_14
theorem dJ0_charAt_5068e_0 : decode cJ0_charAt_5068e 0 = .ok (.aload_n 0, 1) := by decide +kernel
theorem dJ0_charAt_5068e_1 : decode cJ0_charAt_5068e 1 = .ok (.invokevirtual 492, 3) := by decide +kernel
theorem dJ0_charAt_5068e_4 : decode cJ0_charAt_5068e 4 = .ok (.ifCond .eq 12, 3) := by decide +kernel
theorem dJ0_charAt_5068e_7 : decode cJ0_charAt_5068e 7 = .ok (.aload_n 0, 1) := by decide +kernel
theorem dJ0_charAt_5068e_8 : decode cJ0_charAt_5068e 8 = .ok (.getfield 9, 3) := by decide +kernel
theorem dJ0_charAt_5068e_11 : decode cJ0_charAt_5068e 11 = .ok (.iload_n 1, 1) := by decide +kernel
theorem dJ0_charAt_5068e_12 : decode cJ0_charAt_5068e 12 = .ok (.invokestatic 495, 3) := by decide +kernel
theorem dJ0_charAt_5068e_15 : decode cJ0_charAt_5068e 15 = .ok (.ireturn, 1) := by decide +kernel
theorem c_J0_charAt (l : Launch) (G : GG) (M : Mm) {a j : Int32} (ha : ix a < 48) (hj : 0 ≤ j.toInt ∧ j.toInt < ((tkL a : Nat) : Int)) : Mo false l yJ0_charAt_5068e (WS yJ0_charAt_5068e cJ0_charAt_5068e 2 (some .char)) (RM 3 0 0 90) 0 0 [.ref (G.2.1 (2000 + ix a)), .int j] G M (some (.int (tkB a j))) M := by
  refine Mo.of (by decide +kernel) (Nat.le_of_ble_eq_true rfl) ?_
  intro p e s m args below meth c hC
  have hC : CX p s m args meth c cJ0_charAt_5068e 2 RJ0 (some .char) G := hC
  show XJ p l e (RM 3 0 0 90) s m args below meth c G 2 _ 0 0 M 0 [(0, .ref (G.2.1 (2000 + ix a))), (1, .int j)] []
  refine x_aload_n hC dJ0_charAt_5068e_0 rfl 0 rfl ?_
  refine x_callO (As := []) hC (ts_O ha) (c_J0_isLatin1 l G M ha) kc_yJ0_isLatin1_aae02 km_J0_492 ki_yJ0_isLatin1_aae02 kv_yJ0_isLatin1_aae02 kn_RJ0 ky_yJ0_isLatin1_aae02 rfl ⟨rfl, rfl⟩ ⟨(Nat.le_of_ble_eq_true rfl), (Nat.le_of_ble_eq_true rfl)⟩ rfl (Nat.le_of_ble_eq_true rfl) ⟨(Nat.le_of_ble_eq_true rfl), (Nat.le_of_ble_eq_true rfl)⟩ dJ0_charAt_5068e_1 (fun _ => ?_)
  refine x_if_eq hC 16 dJ0_charAt_5068e_4 (by decide) (fun h => absurd h (by decide)) (fun _ => ?_)
  refine x_aload_n hC dJ0_charAt_5068e_7 rfl 0 rfl ?_
  refine x_getO hC (v := .ref (G.2.1 (3000 + ix a))) (fun A U H h => (h.2.1 _ ha).2.2.1) kf_J0_9 dJ0_charAt_5068e_8 ?_
  refine x_iload_n hC dJ0_charAt_5068e_11 rfl 1 rfl ?_
  refine x_callS (As := [.ref (G.2.1 (3000 + ix a)), .int j]) hC (c_J1_charAt l G M ha hj) kc_yJ1_charAt_3b067 km_J0_495 kt_yJ1_charAt_3b067 kn_RJ1 ky_yJ1_charAt_3b067 rfl ⟨rfl, rfl⟩ ⟨(Nat.le_of_ble_eq_true rfl), (Nat.le_of_ble_eq_true rfl)⟩ rfl (Nat.le_of_ble_eq_true rfl) ⟨(Nat.le_of_ble_eq_true rfl), (Nat.le_of_ble_eq_true rfl)⟩ dJ0_charAt_5068e_12 (fun _ => ?_)
  exact x_cret hC rfl (tb_in ha hj).2 dJ0_charAt_5068e_15
theorem dJx29ce0_ordinal_8abf5_0 : decode cJx29ce0_ordinal_8abf5 0 = .ok (.aload_n 0, 1) := by decide +kernel
theorem dJx29ce0_ordinal_8abf5_1 : decode cJx29ce0_ordinal_8abf5 1 = .ok (.getfield 7, 3) := by decide +kernel
theorem dJx29ce0_ordinal_8abf5_4 : decode cJx29ce0_ordinal_8abf5 4 = .ok (.ireturn, 1) := by decide +kernel
theorem c_Jx_ordinal (l : Launch) (G : GG) (M : Mm) {a : Int32} (ha : tkc a) : Mo false l yJx29ce0_ordinal_8abf5 (WS yJx29ce0_ordinal_8abf5 cJx29ce0_ordinal_8abf5 1 (some .int)) (RM 0 0 0 0) 0 0 [.ref (G.2.1 (rid a))] G M (some (.int (nI (tkN a)))) M := by
  refine Mo.of (by decide +kernel) (Nat.le_of_ble_eq_true rfl) ?_
  intro p e s m args below meth c hC
  have hC : CX p s m args meth c cJx29ce0_ordinal_8abf5 1 RJx29ce0 (some .int) G := hC
  show XJ p l e (RM 0 0 0 0) s m args below meth c G 1 _ 0 0 M 0 [(0, .ref (G.2.1 (rid a)))] []
  refine x_aload_n hC dJx29ce0_ordinal_8abf5_0 rfl 0 rfl ?_
  refine x_getO hC (v := .int (nI (tkN a))) (fun A U H h => by rw [tk_rid ha]; exact (h.1 _ (tk_lt ha)).2.2.1) kf_Jx29ce0_7 dJx29ce0_ordinal_8abf5_1 ?_
  exact x_iret hC rfl dJx29ce0_ordinal_8abf5_4
