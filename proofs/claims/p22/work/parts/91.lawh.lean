/-! the law's small methods -/
theorem cx_rotn {p : Program} {l : Launch} {e : Env} {R : Room} {s : State} {m : MethodId} {args : Array Value} {below : List Frame} {meth : Method} {c : Code} {nL : Nat} {D : DG} {A : Nat → Prop} {Q : State → Prop} {k n : Nat} {ws w1 : va_W} {pc : Nat} {lv : List (Nat × Value)} {st : List Value} (K : XC p l e R s m args below meth c D A nL Q k n (w1 ++ ws) pc lv st) : XC p l e R s m args below meth c D A nL Q k n (ws ++ w1) pc lv st := by
  intro H locs ls hP hD hS hl
  have tr : ∀ i q, (w1 ++ ws)[i]? = some q → ∃ j, (ws ++ w1)[j]? = some q ∧ ((i < w1.length ∧ j = ws.length + i) ∨ (w1.length ≤ i ∧ j + w1.length = i ∧ j < ws.length)) := by
    intro i q h
    by_cases c : i < w1.length
    · rw [List.getElem?_append_left c] at h
      exact ⟨ws.length + i, by rw [List.getElem?_append_right (by omega), show ws.length + i - ws.length = i by omega]; exact h, Or.inl ⟨c, rfl⟩⟩
    · rw [List.getElem?_append_right (by omega)] at h
      have hl := (List.getElem?_eq_some_iff.mp h).1
      exact ⟨i - w1.length, by rw [List.getElem?_append_left hl]; exact h, Or.inr ⟨by omega, by omega, hl⟩⟩
  refine K H locs ls (fun i q h => ?_) ⟨fun i j p q hi hj e => ?_, fun i q h => ?_⟩ hS hl
  · obtain ⟨j, hj, -⟩ := tr i q h
    exact hP j q hj
  · obtain ⟨a, ha, ha2⟩ := tr i p hi
    obtain ⟨b, hb, hb2⟩ := tr j q hj
    have := hD.1 a b p q ha hb e
    omega
  · obtain ⟨j, hj, -⟩ := tr i q h
    exact hD.2 j q hj
theorem cx_rot {p : Program} {l : Launch} {e : Env} {R : Room} {s : State} {m : MethodId} {args : Array Value} {below : List Frame} {meth : Method} {c : Code} {nL : Nat} {D : DG} {A : Nat → Prop} {Q : State → Prop} {k n : Nat} {ws : va_W} {en : Nat × va_E} {pc : Nat} {lv : List (Nat × Value)} {st : List Value} (K : XC p l e R s m args below meth c D A nL Q k n (en :: ws) pc lv st) : XC p l e R s m args below meth c D A nL Q k n (ws ++ [en]) pc lv st := cx_rotn (w1 := [en]) K
theorem cx_cnt {p : Program} {l : Launch} {e : Env} {R : Room} {s : State} {m : MethodId} {args : Array Value} {below : List Frame} {meth : Method} {c : Code} {nL : Nat} {D : DG} {A : Nat → Prop} {Q : State → Prop} {k n k' n' : Nat} {ws : va_W} {pc : Nat} {lv : List (Nat × Value)} {st : List Value} (h1 : k = k') (h2 : n = n') (K : XC p l e R s m args below meth c D A nL Q k' n' ws pc lv st) : XC p l e R s m args below meth c D A nL Q k n ws pc lv st := by
  rw [h1, h2]; exact K
def wz_i (n : Nat) : List Nat := (List.range 68).map (fun i => i + n)
def wz_r (is : List Nat) (n : Nat) : List Nat := is ++ wz_i n
theorem wz_C {X : va_W} {G : GG} {M : Mm} {n : Nat} {ws : va_W} (hn : X.length = n) (hw : ws = X ++ WL G M) : (wz_i n).map (fun i => ws[i]?) = (WL G M).map some := by
  subst hw
  apply List.ext_getElem?
  intro j
  unfold wz_i
  rw [List.getElem?_map, List.getElem?_map, List.getElem?_map]
  by_cases h : j < 68
  · rw [List.getElem?_range h, WL_qi h]
    show some ((X ++ WL G M)[j + n]?) = some (some _)
    rw [List.getElem?_append_right (by omega), show j + n - X.length = j by omega, WL_qi h]
  · rw [List.getElem?_eq_none (by rw [List.length_range]; omega), List.getElem?_eq_none (by rw [WL_len]; omega)]
    rfl
theorem wz_X {X W ws : va_W} {n : Nat} (hn : X.length = n) (hw : ws = X ++ W) : (List.range n).map (fun i => ws[i]?) = X.map some := by
  subst hw
  apply List.ext_getElem?
  intro j
  rw [List.getElem?_map, List.getElem?_map]
  by_cases h : j < n
  · rw [List.getElem?_range h]
    show some ((X ++ W)[j]?) = _
    rw [List.getElem?_append_left (by omega)]
    cases hx : X[j]? with
    | none => have := List.getElem?_eq_none_iff.mp hx; omega
    | some q => rfl
  · rw [List.getElem?_eq_none (by rw [List.length_range]; omega), List.getElem?_eq_none (by omega)]
    rfl
theorem wz_R {X X' : va_W} {G : GG} {M : Mm} {n : Nat} {is : List Nat} {ws : va_W} (hn : X.length = n) (hw : ws = X ++ WL G M) (h : is.map (fun i => X[i]?) = X'.map some) : (wz_r is n).map (fun i => ws[i]?) = (X' ++ WL G M).map some := by
  unfold wz_r
  rw [List.map_append, wz_C hn hw, List.map_append, ← h]
  congr 1
  apply List.map_congr_left
  intro i hi
  subst hw
  have h2 : X[i]? ∈ X'.map some := by rw [← h]; exact List.mem_map.mpr ⟨i, hi, rfl⟩
  obtain ⟨q, -, hq⟩ := List.mem_map.mp h2
  have hl := (List.getElem?_eq_some_iff.mp hq.symm).1
  exact List.getElem?_append_left hl
theorem msk0 (x : Int32) : 0 ≤ (x &&& 2147483647).toInt := by
  rw [← Int32.toInt_toBitVec, Int32.toBitVec_and, BitVec.toInt_eq_toNat_cond, BitVec.toNat_and]
  have h : x.toBitVec.toNat &&& (2147483647 : Int32).toBitVec.toNat ≤ (2147483647 : Int32).toBitVec.toNat := Nat.and_le_right
  have e : (2147483647 : Int32).toBitVec.toNat = 2147483647 := rfl
  rw [e] at h ⊢
  rw [if_pos (by omega)]
  omega
theorem dL_below_0 : decode cL_below 0 = .ok (.iload_n 0, 1) := by decide +kernel
theorem dL_below_1 : decode cL_below 1 = .ok (.ldc 7, 2) := by decide +kernel
theorem dL_below_3 : decode cL_below 3 = .ok (.iand, 1) := by decide +kernel
theorem dL_below_4 : decode cL_below 4 = .ok (.iload_n 1, 1) := by decide +kernel
theorem dL_below_5 : decode cL_below 5 = .ok (.irem, 1) := by decide +kernel
theorem dL_below_6 : decode cL_below 6 = .ok (.ireturn, 1) := by decide +kernel
theorem l_bel (l : Launch) (D : DG) (F : EF) {x : Int32} {u : Nat} (h0 : 0 < u) (h1 : u < 2147483648) : Yo l yL_below (WS yL_below cL_below 2 (some .int)) (RM 1 0 0 0) 0 0 [.int x, .int (nI u)] D F [] (fun o w => ∃ r, o = some (.int (nI r)) ∧ r < u ∧ w = []) := by
  refine Yo.of (cc := cL_below) (maxL := 2) (ret := (some .int)) (by decide) (Nat.le_of_ble_eq_true rfl) ?_
  intro p e s m args below meth c hC hE hmn
  show XC p l e (RM 1 0 0 0) s m args below meth c D _ 2 _ 0 0 [] 0 [(0, .int x), (1, .int (nI u))] []
  refine cx_iload_n hC dL_below_0 rfl 0 rfl ?_
  refine cx_ldc hC (2147483647 : Int32) kx_L_7 dL_below_1 ?_
  refine cx_iand hC dL_below_3 ?_
  refine cx_iload_n hC dL_below_4 rfl 1 rfl ?_
  refine cx_irem hC dL_below_5 (fun h => by have := (n_inj (b := 0) (by omega) (by omega)).mp h; omega) ?_
  exact cy_iret hC (⟨ix ((x &&& 2147483647) - (x &&& 2147483647) / (nI u) * (nI u)), by rw [n_ix (remN (msk0 x) h0 (i_nI h1)).1], by have := remN (msk0 x) h0 (i_nI h1); have := ix_int this.1; omega, rfl⟩) rfl dL_below_6
theorem dL_cell_0 : decode cL_cell 0 = .ok (.iload_n 1, 1) := by decide +kernel
theorem dL_cell_1 : decode cL_cell 1 = .ok (.aload_n 0, 1) := by decide +kernel
theorem dL_cell_2 : decode cL_cell 2 = .ok (.arraylength, 1) := by decide +kernel
theorem dL_cell_3 : decode cL_cell 3 = .ok (.if_icmp .ge 9, 3) := by decide +kernel
theorem dL_cell_6 : decode cL_cell 6 = .ok (.aload_n 0, 1) := by decide +kernel
theorem dL_cell_7 : decode cL_cell 7 = .ok (.iload_n 1, 1) := by decide +kernel
theorem dL_cell_8 : decode cL_cell 8 = .ok (.iaload, 1) := by decide +kernel
theorem dL_cell_9 : decode cL_cell 9 = .ok (.goto 9, 3) := by decide +kernel
theorem dL_cell_18 : decode cL_cell 18 = .ok (.ireturn, 1) := by decide +kernel
theorem dL_cell_12 : decode cL_cell 12 = .ok (.ldc 8, 2) := by decide +kernel
theorem dL_cell_14 : decode cL_cell 14 = .ok (.iload_n 1, 1) := by decide +kernel
theorem dL_cell_15 : decode cL_cell 15 = .ok (.iconst 3, 1) := by decide +kernel
theorem dL_cell_16 : decode cL_cell 16 = .ok (.iadd, 1) := by decide +kernel
theorem dL_cell_17 : decode cL_cell 17 = .ok (.imul, 1) := by decide +kernel
theorem l_cell (l : Launch) (D : DG) (F : EF) {a N : Nat} {f : Nat → Int32} (hm : (a, N, f) ∈ F.2.1) (hN : N < 2147483648) {kk : Nat} (hk : kk < 2147483648) : Yo l yL_cell (WS yL_cell cL_cell 2 (some .int)) (RM 1 0 0 0) 0 0 [.ref a, .int (nI kk)] D F [] (fun o w => ∃ v, o = some (.int v) ∧ w = []) := by
  refine Yo.of (cc := cL_cell) (maxL := 2) (ret := (some .int)) (by decide) (Nat.le_of_ble_eq_true rfl) ?_
  intro p e s m args below meth c hC hE hmn
  show XC p l e (RM 1 0 0 0) s m args below meth c D _ 2 _ 0 0 [] 0 [(0, .ref a), (1, .int (nI kk))] []
  by_cases hc : kk < N
  · skip
    refine cx_iload_n hC dL_cell_0 rfl 1 rfl ?_
    refine cx_aload_n hC dL_cell_1 rfl 0 rfl ?_
    refine cx_tlen hC (hE.2.2.2.2.2.1 _ hm) (nI N) rfl dL_cell_2 ?_
    refine cx_icmp_ge hC 12 dL_cell_3 (by decide) (fun h => absurd h (fun h => by have := (n_le (by omega) (by omega)).mp h; omega)) (fun _ => ?_)
    refine cx_aload_n hC dL_cell_6 rfl 0 rfl ?_
    refine cx_iload_n hC dL_cell_7 rfl 1 rfl ?_
    refine cx_ti hC (N := N) (f := f) (hE.2.2.2.2.2.1 _ hm) (by rw [i_nI (by omega)]; omega) dL_cell_8 ?_
    refine cx_goto hC 18 dL_cell_9 (by decide) ?_
    exact cy_iret hC (⟨_, rfl, rfl⟩) rfl dL_cell_18
  · skip
    refine cx_iload_n hC dL_cell_0 rfl 1 rfl ?_
    refine cx_aload_n hC dL_cell_1 rfl 0 rfl ?_
    refine cx_tlen hC (hE.2.2.2.2.2.1 _ hm) (nI N) rfl dL_cell_2 ?_
    refine cx_icmp_ge hC 12 dL_cell_3 (by decide) (fun _ => ?_) (fun h => absurd ((n_le (by omega) (by omega)).mpr (by omega)) h)
    refine cx_ldc hC (790386105 : Int32) kx_L_8 dL_cell_12 ?_
    refine cx_iload_n hC dL_cell_14 rfl 1 rfl ?_
    refine cx_iconst hC (3 : Int32) dL_cell_15 (by decide) ?_
    refine cx_iadd hC dL_cell_16 ?_
    refine cx_imul hC dL_cell_17 ?_
    exact cy_iret hC (⟨_, rfl, rfl⟩) rfl dL_cell_18
theorem rem_n {a b : Nat} (ha : a < 2147483648) (hb : b < 2147483648) (h0 : 0 < b) : nI a - nI a / nI b * nI b = nI (a % b) := by
  have h := i_rem (a := nI a) (b := nI b) (by rw [i_nI ha]; omega) (by rw [i_nI hb]; omega)
  rw [i_eq, h, i_nI ha, i_nI hb, i_nI (by have := Nat.mod_lt a h0; omega)]
  omega
theorem div_n {a b : Nat} (ha : a < 2147483648) (hb : b < 2147483648) (h0 : 0 < b) : nI a / nI b = nI (a / b) := by
  have h := i_div (a := nI a) (b := nI b) (by rw [i_nI ha]; omega) (by rw [i_nI hb]; omega)
  have h2 : a / b ≤ a := Nat.div_le_self a b
  rw [i_eq, h, i_nI ha, i_nI hb, i_nI (by omega)]
  omega
theorem dL_rainOf_0 : decode cL_rainOf 0 = .ok (.aload_n 0, 1) := by decide +kernel
theorem dL_rainOf_1 : decode cL_rainOf 1 = .ok (.iconst 1, 1) := by decide +kernel
theorem dL_rainOf_2 : decode cL_rainOf 2 = .ok (.iload_n 1, 1) := by decide +kernel
theorem dL_rainOf_3 : decode cL_rainOf 3 = .ok (.iconst 3, 1) := by decide +kernel
theorem dL_rainOf_4 : decode cL_rainOf 4 = .ok (.irem, 1) := by decide +kernel
theorem dL_rainOf_5 : decode cL_rainOf 5 = .ok (.iadd, 1) := by decide +kernel
theorem dL_rainOf_6 : decode cL_rainOf 6 = .ok (.invokestatic 38, 3) := by decide +kernel
theorem dL_rainOf_9 : decode cL_rainOf 9 = .ok (.iload_n 1, 1) := by decide +kernel
theorem dL_rainOf_10 : decode cL_rainOf 10 = .ok (.ishr, 1) := by decide +kernel
theorem dL_rainOf_11 : decode cL_rainOf 11 = .ok (.iconst 3, 1) := by decide +kernel
theorem dL_rainOf_12 : decode cL_rainOf 12 = .ok (.invokestatic 42, 3) := by decide +kernel
theorem dL_rainOf_15 : decode cL_rainOf 15 = .ok (.ifCond .ne 24, 3) := by decide +kernel
theorem dL_rainOf_18 : decode cL_rainOf 18 = .ok (.aload_n 0, 1) := by decide +kernel
theorem dL_rainOf_19 : decode cL_rainOf 19 = .ok (.iconst 1, 1) := by decide +kernel
theorem dL_rainOf_20 : decode cL_rainOf 20 = .ok (.iload_n 1, 1) := by decide +kernel
theorem dL_rainOf_21 : decode cL_rainOf 21 = .ok (.iconst 3, 1) := by decide +kernel
theorem dL_rainOf_22 : decode cL_rainOf 22 = .ok (.irem, 1) := by decide +kernel
theorem dL_rainOf_23 : decode cL_rainOf 23 = .ok (.iadd, 1) := by decide +kernel
theorem dL_rainOf_24 : decode cL_rainOf 24 = .ok (.invokestatic 38, 3) := by decide +kernel
theorem dL_rainOf_27 : decode cL_rainOf 27 = .ok (.iload_n 1, 1) := by decide +kernel
theorem dL_rainOf_28 : decode cL_rainOf 28 = .ok (.iconst 2, 1) := by decide +kernel
theorem dL_rainOf_29 : decode cL_rainOf 29 = .ok (.iadd, 1) := by decide +kernel
theorem dL_rainOf_30 : decode cL_rainOf 30 = .ok (.ishr, 1) := by decide +kernel
theorem dL_rainOf_31 : decode cL_rainOf 31 = .ok (.bipush 10, 2) := by decide +kernel
theorem dL_rainOf_33 : decode cL_rainOf 33 = .ok (.invokestatic 42, 3) := by decide +kernel
theorem dL_rainOf_36 : decode cL_rainOf 36 = .ok (.goto 4, 3) := by decide +kernel
theorem dL_rainOf_40 : decode cL_rainOf 40 = .ok (.ireturn, 1) := by decide +kernel
theorem dL_rainOf_39 : decode cL_rainOf 39 = .ok (.iconst 0, 1) := by decide +kernel
theorem l_rain (l : Launch) (D : DG) (F : EF) {a N : Nat} {f : Nat → Int32} (hm : (a, N, f) ∈ F.2.1) (hN : N < 2147483648) {j : Nat} (hj : j < 1000) : Yo l yL_rainOf (WS yL_rainOf cL_rainOf 2 (some .int)) (RM 2 0 0 21) 0 0 [.ref a, .int (nI j)] D F [] (fun o w => ∃ r, o = some (.int (nI r)) ∧ r < 10 ∧ w = []) := by
  refine Yo.of (cc := cL_rainOf) (maxL := 2) (ret := (some .int)) (by decide) (Nat.le_of_ble_eq_true rfl) ?_
  intro p e s m args below meth c hC hE hmn
  show XC p l e (RM 2 0 0 21) s m args below meth c D _ 2 _ 0 0 [] 0 [(0, .ref a), (1, .int (nI j))] []
  refine cx_aload_n hC dL_rainOf_0 rfl 0 rfl ?_
  refine cx_iconst hC (1 : Int32) dL_rainOf_1 (by decide) ?_
  refine cx_iload_n hC dL_rainOf_2 rfl 1 rfl ?_
  refine cx_iconst hC (3 : Int32) dL_rainOf_3 (by decide) ?_
  refine cx_irem hC dL_rainOf_4 (by decide) ?_
  refine cx_topi (y := (nI (j % 3))) ((rem_n (b := 3) (by omega) (by decide) (by decide)).symm) ?_
  refine cx_iadd hC dL_rainOf_5 ?_
  refine cx_topi (y := (nI (1 + j % 3))) ((n_add 1 (j % 3)).symm) ?_
  refine cy_callS hC (y := yL_cell) (cy := cL_cell) (maxL := 2) (nA := 2) (r := (some .int)) (rm := (RM 1 0 0 0)) (mc := 0) (ms := 0) (As := [.ref a, .int (nI (1 + j % 3))]) (wr := []) (l_cell l D F hm hN (kk := 1 + j % 3) (by omega)) [] [] rfl rfl rfl rfl (by decide) (ef_sub hC hE [] rfl) kc_yL_cell km_L_38 kt_yL_cell kn_RL ky_yL_cell rfl ⟨rfl, rfl⟩ ⟨Nat.le_of_ble_eq_true rfl, Nat.le_of_ble_eq_true rfl⟩ rfl (Nat.le_of_ble_eq_true rfl) ⟨Nat.le_of_ble_eq_true rfl, Nat.le_of_ble_eq_true rfl⟩ dL_rainOf_6 (fun o w1 h => ?_)
  obtain ⟨v1, rfl, rfl⟩ := h
  refine cx_at (ws' := []) (st' := [.int (v1)]) rfl rfl ?_
  refine cx_iload_n hC dL_rainOf_9 rfl 1 rfl ?_
  refine cx_ishr hC dL_rainOf_10 ?_
  refine cx_iconst hC (3 : Int32) dL_rainOf_11 (by decide) ?_
  refine cy_callS hC (y := yL_below) (cy := cL_below) (maxL := 2) (nA := 2) (r := (some .int)) (rm := (RM 1 0 0 0)) (mc := 0) (ms := 0) (As := [.int ((v1) >>> ((nI j) &&& 31)), .int (3 : Int32)]) (wr := []) (l_bel l D F (u := 3) (by decide) (by decide)) [] [] rfl rfl rfl rfl (by decide) (ef_sub hC hE [] rfl) kc_yL_below km_L_42 kt_yL_below kn_RL ky_yL_below rfl ⟨rfl, rfl⟩ ⟨Nat.le_of_ble_eq_true rfl, Nat.le_of_ble_eq_true rfl⟩ rfl (Nat.le_of_ble_eq_true rfl) ⟨Nat.le_of_ble_eq_true rfl, Nat.le_of_ble_eq_true rfl⟩ dL_rainOf_12 (fun o w1 h => ?_)
  obtain ⟨r1, rfl, hr1, rfl⟩ := h
  refine cx_at (ws' := []) (st' := [.int (nI r1)]) rfl rfl ?_
  by_cases hc : nI r1 = 0
  · refine cx_if_ne hC 39 dL_rainOf_15 (by decide) (fun h => absurd (hc) h) (fun _ => ?_)
    refine cx_aload_n hC dL_rainOf_18 rfl 0 rfl ?_
    refine cx_iconst hC (1 : Int32) dL_rainOf_19 (by decide) ?_
    refine cx_iload_n hC dL_rainOf_20 rfl 1 rfl ?_
    refine cx_iconst hC (3 : Int32) dL_rainOf_21 (by decide) ?_
    refine cx_irem hC dL_rainOf_22 (by decide) ?_
    refine cx_topi (y := (nI (j % 3))) ((rem_n (b := 3) (by omega) (by decide) (by decide)).symm) ?_
    refine cx_iadd hC dL_rainOf_23 ?_
    refine cx_topi (y := (nI (1 + j % 3))) ((n_add 1 (j % 3)).symm) ?_
    refine cy_callS hC (y := yL_cell) (cy := cL_cell) (maxL := 2) (nA := 2) (r := (some .int)) (rm := (RM 1 0 0 0)) (mc := 0) (ms := 0) (As := [.ref a, .int (nI (1 + j % 3))]) (wr := []) (l_cell l D F hm hN (kk := 1 + j % 3) (by omega)) [] [] rfl rfl rfl rfl (by decide) (ef_sub hC hE [] rfl) kc_yL_cell km_L_38 kt_yL_cell kn_RL ky_yL_cell rfl ⟨rfl, rfl⟩ ⟨Nat.le_of_ble_eq_true rfl, Nat.le_of_ble_eq_true rfl⟩ rfl (Nat.le_of_ble_eq_true rfl) ⟨Nat.le_of_ble_eq_true rfl, Nat.le_of_ble_eq_true rfl⟩ dL_rainOf_24 (fun o w1 h => ?_)
    obtain ⟨v2, rfl, rfl⟩ := h
    refine cx_at (ws' := []) (st' := [.int (v2)]) rfl rfl ?_
    refine cx_iload_n hC dL_rainOf_27 rfl 1 rfl ?_
    refine cx_iconst hC (2 : Int32) dL_rainOf_28 (by decide) ?_
    refine cx_iadd hC dL_rainOf_29 ?_
    refine cx_ishr hC dL_rainOf_30 ?_
    refine cx_bipush hC (10 : Int32) dL_rainOf_31 (by decide) ?_
    refine cy_callS hC (y := yL_below) (cy := cL_below) (maxL := 2) (nA := 2) (r := (some .int)) (rm := (RM 1 0 0 0)) (mc := 0) (ms := 0) (As := [.int ((v2) >>> (((nI j) + (2 : Int32)) &&& 31)), .int (10 : Int32)]) (wr := []) (l_bel l D F (u := 10) (by decide) (by decide)) [] [] rfl rfl rfl rfl (by decide) (ef_sub hC hE [] rfl) kc_yL_below km_L_42 kt_yL_below kn_RL ky_yL_below rfl ⟨rfl, rfl⟩ ⟨Nat.le_of_ble_eq_true rfl, Nat.le_of_ble_eq_true rfl⟩ rfl (Nat.le_of_ble_eq_true rfl) ⟨Nat.le_of_ble_eq_true rfl, Nat.le_of_ble_eq_true rfl⟩ dL_rainOf_33 (fun o w1 h => ?_)
    obtain ⟨r2, rfl, hr2, rfl⟩ := h
    refine cx_at (ws' := []) (st' := [.int (nI r2)]) rfl rfl ?_
    refine cx_goto hC 40 dL_rainOf_36 (by decide) ?_
    refine cx_widen (k' := 0) (n' := 0) (Nat.le_of_ble_eq_true rfl) (Nat.le_of_ble_eq_true rfl) ?_
    exact cy_iret hC ⟨r2, rfl, by omega, rfl⟩ rfl dL_rainOf_40
  · refine cx_if_ne hC 39 dL_rainOf_15 (by decide) (fun _ => ?_) (fun h => absurd h (hc))
    refine cx_iconst hC (0 : Int32) dL_rainOf_39 (by decide) ?_
    refine cx_topi (y := (nI 0)) (rfl) ?_
    refine cx_widen (k' := 0) (n' := 0) (Nat.le_of_ble_eq_true rfl) (Nat.le_of_ble_eq_true rfl) ?_
    exact cy_iret hC ⟨0, rfl, by omega, rfl⟩ rfl dL_rainOf_40
theorem dL_sunOf_0 : decode cL_sunOf 0 = .ok (.aload_n 0, 1) := by decide +kernel
theorem dL_sunOf_1 : decode cL_sunOf 1 = .ok (.iconst 4, 1) := by decide +kernel
theorem dL_sunOf_2 : decode cL_sunOf 2 = .ok (.iload_n 1, 1) := by decide +kernel
theorem dL_sunOf_3 : decode cL_sunOf 3 = .ok (.iconst 3, 1) := by decide +kernel
theorem dL_sunOf_4 : decode cL_sunOf 4 = .ok (.irem, 1) := by decide +kernel
theorem dL_sunOf_5 : decode cL_sunOf 5 = .ok (.iadd, 1) := by decide +kernel
theorem dL_sunOf_6 : decode cL_sunOf 6 = .ok (.invokestatic 38, 3) := by decide +kernel
theorem dL_sunOf_9 : decode cL_sunOf 9 = .ok (.iload_n 1, 1) := by decide +kernel
theorem dL_sunOf_10 : decode cL_sunOf 10 = .ok (.ishr, 1) := by decide +kernel
theorem dL_sunOf_11 : decode cL_sunOf 11 = .ok (.bipush 10, 2) := by decide +kernel
theorem dL_sunOf_13 : decode cL_sunOf 13 = .ok (.invokestatic 42, 3) := by decide +kernel
theorem dL_sunOf_16 : decode cL_sunOf 16 = .ok (.ireturn, 1) := by decide +kernel
theorem l_sun (l : Launch) (D : DG) (F : EF) {a N : Nat} {f : Nat → Int32} (hm : (a, N, f) ∈ F.2.1) (hN : N < 2147483648) {j : Nat} (hj : j < 1000) : Yo l yL_sunOf (WS yL_sunOf cL_sunOf 2 (some .int)) (RM 2 0 0 21) 0 0 [.ref a, .int (nI j)] D F [] (fun o w => ∃ r, o = some (.int (nI r)) ∧ r < 10 ∧ w = []) := by
  refine Yo.of (cc := cL_sunOf) (maxL := 2) (ret := (some .int)) (by decide) (Nat.le_of_ble_eq_true rfl) ?_
  intro p e s m args below meth c hC hE hmn
  show XC p l e (RM 2 0 0 21) s m args below meth c D _ 2 _ 0 0 [] 0 [(0, .ref a), (1, .int (nI j))] []
  refine cx_aload_n hC dL_sunOf_0 rfl 0 rfl ?_
  refine cx_iconst hC (4 : Int32) dL_sunOf_1 (by decide) ?_
  refine cx_iload_n hC dL_sunOf_2 rfl 1 rfl ?_
  refine cx_iconst hC (3 : Int32) dL_sunOf_3 (by decide) ?_
  refine cx_irem hC dL_sunOf_4 (by decide) ?_
  refine cx_topi (y := (nI (j % 3))) ((rem_n (b := 3) (by omega) (by decide) (by decide)).symm) ?_
  refine cx_iadd hC dL_sunOf_5 ?_
  refine cx_topi (y := (nI (4 + j % 3))) ((n_add 4 (j % 3)).symm) ?_
  refine cy_callS hC (y := yL_cell) (cy := cL_cell) (maxL := 2) (nA := 2) (r := (some .int)) (rm := (RM 1 0 0 0)) (mc := 0) (ms := 0) (As := [.ref a, .int (nI (4 + j % 3))]) (wr := []) (l_cell l D F hm hN (kk := 4 + j % 3) (by omega)) [] [] rfl rfl rfl rfl (by decide) (ef_sub hC hE [] rfl) kc_yL_cell km_L_38 kt_yL_cell kn_RL ky_yL_cell rfl ⟨rfl, rfl⟩ ⟨Nat.le_of_ble_eq_true rfl, Nat.le_of_ble_eq_true rfl⟩ rfl (Nat.le_of_ble_eq_true rfl) ⟨Nat.le_of_ble_eq_true rfl, Nat.le_of_ble_eq_true rfl⟩ dL_sunOf_6 (fun o w1 h => ?_)
  obtain ⟨v1, rfl, rfl⟩ := h
  refine cx_at (ws' := []) (st' := [.int (v1)]) rfl rfl ?_
  refine cx_iload_n hC dL_sunOf_9 rfl 1 rfl ?_
  refine cx_ishr hC dL_sunOf_10 ?_
  refine cx_bipush hC (10 : Int32) dL_sunOf_11 (by decide) ?_
  refine cy_callS hC (y := yL_below) (cy := cL_below) (maxL := 2) (nA := 2) (r := (some .int)) (rm := (RM 1 0 0 0)) (mc := 0) (ms := 0) (As := [.int ((v1) >>> ((nI j) &&& 31)), .int (10 : Int32)]) (wr := []) (l_bel l D F (u := 10) (by decide) (by decide)) [] [] rfl rfl rfl rfl (by decide) (ef_sub hC hE [] rfl) kc_yL_below km_L_42 kt_yL_below kn_RL ky_yL_below rfl ⟨rfl, rfl⟩ ⟨Nat.le_of_ble_eq_true rfl, Nat.le_of_ble_eq_true rfl⟩ rfl (Nat.le_of_ble_eq_true rfl) ⟨Nat.le_of_ble_eq_true rfl, Nat.le_of_ble_eq_true rfl⟩ dL_sunOf_13 (fun o w1 h => ?_)
  obtain ⟨r1, rfl, hr1, rfl⟩ := h
  refine cx_at (ws' := []) (st' := [.int (nI r1)]) rfl rfl ?_
  exact cy_iret hC (⟨r1, rfl, hr1, rfl⟩) rfl dL_sunOf_16
def chT (L : List Int32) (j : Nat) : Int32 := if j < L.length then L.getD j 0 else 32
def wdT (L : List Int32) (j : Nat) : Nat → Int32
  | 0 => 0
  | i + 1 => (wdT L j i <<< ((8 : Int32) &&& 31)) ||| chT L (j + i)
theorem dL_word_4 : decode cL_word 4 = .ok (.iload_n 3, 1) := by decide +kernel
theorem dL_word_5 : decode cL_word 5 = .ok (.iconst 4, 1) := by decide +kernel
theorem dL_word_6 : decode cL_word 6 = .ok (.if_icmp .ge 37, 3) := by decide +kernel
theorem dL_word_9 : decode cL_word 9 = .ok (.iload_n 2, 1) := by decide +kernel
theorem dL_word_10 : decode cL_word 10 = .ok (.bipush 8, 2) := by decide +kernel
theorem dL_word_12 : decode cL_word 12 = .ok (.ishl, 1) := by decide +kernel
theorem dL_word_13 : decode cL_word 13 = .ok (.iload_n 1, 1) := by decide +kernel
theorem dL_word_14 : decode cL_word 14 = .ok (.iload_n 3, 1) := by decide +kernel
theorem dL_word_15 : decode cL_word 15 = .ok (.iadd, 1) := by decide +kernel
theorem dL_word_16 : decode cL_word 16 = .ok (.aload_n 0, 1) := by decide +kernel
theorem dL_word_17 : decode cL_word 17 = .ok (.invokevirtual 9, 3) := by decide +kernel
theorem dL_word_20 : decode cL_word 20 = .ok (.if_icmp .ge 13, 3) := by decide +kernel
theorem dL_word_23 : decode cL_word 23 = .ok (.aload_n 0, 1) := by decide +kernel
theorem dL_word_24 : decode cL_word 24 = .ok (.iload_n 1, 1) := by decide +kernel
theorem dL_word_25 : decode cL_word 25 = .ok (.iload_n 3, 1) := by decide +kernel
theorem dL_word_26 : decode cL_word 26 = .ok (.iadd, 1) := by decide +kernel
theorem dL_word_27 : decode cL_word 27 = .ok (.invokevirtual 15, 3) := by decide +kernel
theorem dL_word_30 : decode cL_word 30 = .ok (.goto 5, 3) := by decide +kernel
theorem dL_word_35 : decode cL_word 35 = .ok (.ior, 1) := by decide +kernel
theorem dL_word_36 : decode cL_word 36 = .ok (.istore_n 2, 1) := by decide +kernel
theorem dL_word_37 : decode cL_word 37 = .ok (.iinc 3 1, 3) := by decide +kernel
theorem dL_word_40 : decode cL_word 40 = .ok (.goto (-36), 3) := by decide +kernel
theorem dL_word_33 : decode cL_word 33 = .ok (.bipush 32, 2) := by decide +kernel
theorem l_wdi {p : Program} {l : Launch} {e : Env} {s : State} {m : MethodId} {args : Array Value} {below : List Frame} {meth : Method} {c : Code} {D : DG} {F : EF} {A : Nat → Prop} {Q : State → Prop} {k n : Nat} (hC : CY p s m args meth c cL_word 4 RL (some .int) D A) (hE : ENV F A s s.heap) {a v : Nat} {L : List Int32} (hm : (a, v, L) ∈ F.1) (hb : ∀ k, k < L.length → b7 (L.getD k 0)) (hl : L.length < 2147483648) {jj : Nat} (hj : jj < 100000) {i : Nat} (hi : i < 4) (hk : k + 0 ≤ 0) (hn : n + 0 ≤ 0) (K : XC p l e (RM 6 0 0 120) s m args below meth c D A 4 Q (k + 0) (n + 0) [] 4 [(3, .int (nI (i + 1))), (2, .int (wdT L jj (i + 1))), (0, .ref a), (1, .int (nI jj))] []) : XC p l e (RM 6 0 0 120) s m args below meth c D A 4 Q (k) (n) [] 4 [(3, .int (nI i)), (2, .int (wdT L jj i)), (0, .ref a), (1, .int (nI jj))] [] := by
  refine cx_iload_n hC dL_word_4 rfl 0 rfl ?_
  refine cx_iconst hC (4 : Int32) dL_word_5 (by decide) ?_
  refine cx_icmp_ge hC 43 dL_word_6 (by decide) (fun h => absurd h (fun h => by have := (n_le (a := 4) (by omega) (by omega)).mp h; omega)) (fun _ => ?_)
  refine cx_iload_n hC dL_word_9 rfl 1 rfl ?_
  refine cx_bipush hC (8 : Int32) dL_word_10 (by decide) ?_
  refine cx_ishl hC dL_word_12 ?_
  refine cx_iload_n hC dL_word_13 rfl 3 rfl ?_
  refine cx_iload_n hC dL_word_14 rfl 0 rfl ?_
  refine cx_iadd hC dL_word_15 ?_
  refine cx_topi (y := (nI (jj + i))) ((n_add _ _).symm) ?_
  refine cx_aload_n hC dL_word_16 rfl 2 rfl ?_
  refine cy_callV hC (E := RJ0) (y := yJ0_length_8abf5) (cy := cJ0_length_8abf5) (maxL := 1) (nA := 0) (r := (some .int)) (rm := (RM 2 0 0 20)) (mc := 0) (ms := 0) (As := []) (wr := []) (j_slen l D F hm) [] [] rfl rfl rfl rfl (by decide) (rc_str hE hm) (ef_sub hC hE [] rfl) kc_yJ0_length_8abf5 km_L_9 ki_yJ0_length_8abf5 kv_yJ0_length_8abf5 kn_RJ0 ky_yJ0_length_8abf5 rfl ⟨rfl, rfl⟩ ⟨Nat.le_of_ble_eq_true rfl, Nat.le_of_ble_eq_true rfl⟩ rfl (Nat.le_of_ble_eq_true rfl) ⟨by show k + 0 + 0 ≤ 0; omega, by show n + 0 + 0 ≤ 0; omega⟩ dL_word_17 (fun o w1 h => ?_)
  obtain ⟨rfl, rfl⟩ := h
  refine cx_cnt (k' := k + 0) (n' := n + 0) (by omega) (by omega) ?_
  refine cx_at (ws' := []) (st' := [.int (nI L.length), .int (nI (jj + i)), .int ((wdT L jj i) <<< ((8 : Int32) &&& 31))]) rfl rfl ?_
  by_cases hc : jj + i < L.length
  · skip
    refine cx_icmp_ge hC 33 dL_word_20 (by decide) (fun h => absurd h (fun h => by have := (n_le (by omega) (by omega)).mp h; omega)) (fun _ => ?_)
    refine cx_aload_n hC dL_word_23 rfl 2 rfl ?_
    refine cx_iload_n hC dL_word_24 rfl 3 rfl ?_
    refine cx_iload_n hC dL_word_25 rfl 0 rfl ?_
    refine cx_iadd hC dL_word_26 ?_
    refine cx_topi (y := (nI (jj + i))) ((n_add _ _).symm) ?_
    refine cy_callV hC (E := RJ0) (y := yJ0_charAt_5068e) (cy := cJ0_charAt_5068e) (maxL := 2) (nA := 1) (r := (some .char)) (rm := (RM 4 0 0 64)) (mc := 0) (ms := 0) (As := [.int (nI (jj + i))]) (wr := []) (j_charAt l D F hm hb (j := jj + i) hc hl) [] [] rfl rfl rfl rfl (by decide) (rc_str hE hm) (ef_sub hC hE [] rfl) kc_yJ0_charAt_5068e km_L_15 ki_yJ0_charAt_5068e kv_yJ0_charAt_5068e kn_RJ0 ky_yJ0_charAt_5068e rfl ⟨rfl, rfl⟩ ⟨Nat.le_of_ble_eq_true rfl, Nat.le_of_ble_eq_true rfl⟩ rfl (Nat.le_of_ble_eq_true rfl) ⟨by show k + 0 + 0 ≤ 0; omega, by show n + 0 + 0 ≤ 0; omega⟩ dL_word_27 (fun o w1 h => ?_)
    obtain ⟨rfl, rfl⟩ := h
    refine cx_cnt (k' := k + 0) (n' := n + 0) (by omega) (by omega) ?_
    refine cx_at (ws' := []) (st' := [.int (L.getD (jj + i) 0), .int ((wdT L jj i) <<< ((8 : Int32) &&& 31))]) rfl rfl ?_
    refine cx_goto hC 35 dL_word_30 (by decide) ?_
    refine cx_ior hC dL_word_35 ?_
    refine cx_topi (y := (wdT L jj (i + 1))) (by show (wdT L jj i <<< ((8 : Int32) &&& 31)) ||| chT L (jj + i) = _; unfold chT; rw [if_pos hc]) ?_
    refine cx_istore_n hC [(2, .int (wdT L jj (i + 1))), (3, .int (nI i)), (0, .ref a), (1, .int (nI jj))] dL_word_36 rfl (Nat.le_of_ble_eq_true rfl) rfl ?_
    refine cx_iinc hC [(3, .int (nI (i + 1))), (2, .int (wdT L jj (i + 1))), (0, .ref a), (1, .int (nI jj))] dL_word_37 1 rfl (v := (nI (i + 1))) (n_suc i) (Nat.le_of_ble_eq_true rfl) rfl ?_
    refine cx_goto hC 4 dL_word_40 (by decide) ?_
    refine cx_widen (k' := k + 0) (n' := n + 0) (by omega) (by omega) ?_
    exact K
  · skip
    refine cx_icmp_ge hC 33 dL_word_20 (by decide) (fun _ => ?_) (fun h => absurd ((n_le (by omega) (by omega)).mpr (by omega)) h)
    refine cx_bipush hC (32 : Int32) dL_word_33 (by decide) ?_
    refine cx_ior hC dL_word_35 ?_
    refine cx_topi (y := (wdT L jj (i + 1))) (by show (wdT L jj i <<< ((8 : Int32) &&& 31)) ||| chT L (jj + i) = _; unfold chT; rw [if_neg hc]) ?_
    refine cx_istore_n hC [(2, .int (wdT L jj (i + 1))), (3, .int (nI i)), (0, .ref a), (1, .int (nI jj))] dL_word_36 rfl (Nat.le_of_ble_eq_true rfl) rfl ?_
    refine cx_iinc hC [(3, .int (nI (i + 1))), (2, .int (wdT L jj (i + 1))), (0, .ref a), (1, .int (nI jj))] dL_word_37 1 rfl (v := (nI (i + 1))) (n_suc i) (Nat.le_of_ble_eq_true rfl) rfl ?_
    refine cx_goto hC 4 dL_word_40 (by decide) ?_
    refine cx_widen (k' := k + 0) (n' := n + 0) (by omega) (by omega) ?_
    exact K
theorem dL_word_0 : decode cL_word 0 = .ok (.iconst 0, 1) := by decide +kernel
theorem dL_word_1 : decode cL_word 1 = .ok (.istore_n 2, 1) := by decide +kernel
theorem dL_word_2 : decode cL_word 2 = .ok (.iconst 0, 1) := by decide +kernel
theorem dL_word_3 : decode cL_word 3 = .ok (.istore_n 3, 1) := by decide +kernel
theorem dL_word_43 : decode cL_word 43 = .ok (.iload_n 2, 1) := by decide +kernel
theorem dL_word_44 : decode cL_word 44 = .ok (.ireturn, 1) := by decide +kernel
theorem l_word (l : Launch) (D : DG) (F : EF) {a v : Nat} {L : List Int32} (hm : (a, v, L) ∈ F.1) (hb : ∀ k, k < L.length → b7 (L.getD k 0)) (hl : L.length < 2147483648) {jj : Nat} (hj : jj < 100000) : Yo l yL_word (WS yL_word cL_word 4 (some .int)) (RM 6 0 0 120) 0 0 [.ref a, .int (nI jj)] D F [] (fun o w => o = some (.int (wdT L jj 4)) ∧ w = []) := by
  refine Yo.of (cc := cL_word) (maxL := 4) (ret := (some .int)) (by decide) (Nat.le_of_ble_eq_true rfl) ?_
  intro p e s m args below meth c hC hE hmn
  show XC p l e (RM 6 0 0 120) s m args below meth c D _ 4 _ 0 0 [] 0 [(0, .ref a), (1, .int (nI jj))] []
  refine cx_iconst hC (0 : Int32) dL_word_0 (by decide) ?_
  refine cx_topi (y := (wdT L jj 0)) (rfl) ?_
  refine cx_istore_n hC [(2, .int (wdT L jj 0)), (0, .ref a), (1, .int (nI jj))] dL_word_1 rfl (Nat.le_of_ble_eq_true rfl) rfl ?_
  refine cx_iconst hC (0 : Int32) dL_word_2 (by decide) ?_
  refine cx_topi (y := (nI 0)) (rfl) ?_
  refine cx_istore_n hC [(3, .int (nI 0)), (2, .int (wdT L jj 0)), (0, .ref a), (1, .int (nI jj))] dL_word_3 rfl (Nat.le_of_ble_eq_true rfl) rfl ?_
  refine l_wdi hC hE hm hb hl hj (i := 0) (by decide) (Nat.le_of_ble_eq_true rfl) (Nat.le_of_ble_eq_true rfl) ?_
  refine l_wdi hC hE hm hb hl hj (i := 1) (by decide) (Nat.le_of_ble_eq_true rfl) (Nat.le_of_ble_eq_true rfl) ?_
  refine l_wdi hC hE hm hb hl hj (i := 2) (by decide) (Nat.le_of_ble_eq_true rfl) (Nat.le_of_ble_eq_true rfl) ?_
  refine l_wdi hC hE hm hb hl hj (i := 3) (by decide) (Nat.le_of_ble_eq_true rfl) (Nat.le_of_ble_eq_true rfl) ?_
  refine cx_cnt (k' := 0) (n' := 0) rfl rfl ?_
  refine cx_iload_n hC dL_word_4 rfl 0 rfl ?_
  refine cx_iconst hC (4 : Int32) dL_word_5 (by decide) ?_
  refine cx_icmp_ge hC 43 dL_word_6 (by decide) (fun _ => ?_) (fun h => absurd (by decide) h)
  refine cx_iload_n hC dL_word_43 rfl 1 rfl ?_
  exact cy_iret hC (⟨rfl, rfl⟩) rfl dL_word_44
