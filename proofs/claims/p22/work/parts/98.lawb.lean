/-! a round of the law: the rest -/
theorem gang_w {H ng g : Nat} {A : Mm} (h : LV H ng A) (hg : g < ng) (kk : Nat) (hk : kk = 0 ∨ kk = 1 ∨ kk = 2 ∨ kk = 3 ∨ kk = 5 ∨ kk = 6 ∨ kk = 7) : f_X9_gang 0 (nI g) (nI kk) A = some (0, A (39 + 2 * g) kk, A) := by
  have e := gang_v h hg (k := kk) (by omega)
  rw [e]
  have z : f_X2_tell (39 + 2 * g) (nI kk) A = A (39 + 2 * g) kk := by
    unfold f_X2_tell
    rcases hk with rfl | rfl | rfl | rfl | rfl | rfl | rfl
    · rw [if_pos (by decide)]
    · rw [if_neg (by decide), if_pos (by decide)]
    · rw [if_neg (by decide), if_neg (by decide), if_pos (by decide)]
    · rw [if_neg (by decide), if_neg (by decide), if_neg (by decide), if_pos (by decide)]
    · rw [if_neg (by decide), if_neg (by decide), if_neg (by decide), if_neg (by decide), if_neg (by decide), if_pos (by decide)]
    · rw [if_neg (by decide), if_neg (by decide), if_neg (by decide), if_neg (by decide), if_neg (by decide), if_neg (by decide), if_pos (by decide)]
    · rw [if_neg (by decide), if_neg (by decide), if_neg (by decide), if_neg (by decide), if_neg (by decide), if_neg (by decide), if_neg (by decide), if_pos (by decide)]
  rw [z]
theorem dL_law_316 : decode cL_law 316 = .ok (.iload 5, 2) := by decide +kernel
theorem dL_law_318 : decode cL_law 318 = .ok (.iconst 4, 1) := by decide +kernel
theorem dL_law_319 : decode cL_law 319 = .ok (.invokestatic 42, 3) := by decide +kernel
theorem dL_law_322 : decode cL_law 322 = .ok (.iconst 1, 1) := by decide +kernel
theorem dL_law_323 : decode cL_law 323 = .ok (.if_icmp .ne 71, 3) := by decide +kernel
theorem dL_law_326 : decode cL_law 326 = .ok (.aload_n 1, 1) := by decide +kernel
theorem dL_law_327 : decode cL_law 327 = .ok (.iload 6, 2) := by decide +kernel
theorem dL_law_329 : decode cL_law 329 = .ok (.bipush 8, 2) := by decide +kernel
theorem dL_law_331 : decode cL_law 331 = .ok (.irem, 1) := by decide +kernel
theorem dL_law_332 : decode cL_law 332 = .ok (.iload 6, 2) := by decide +kernel
theorem dL_law_334 : decode cL_law 334 = .ok (.bipush 8, 2) := by decide +kernel
theorem dL_law_336 : decode cL_law 336 = .ok (.idiv, 1) := by decide +kernel
theorem dL_law_337 : decode cL_law 337 = .ok (.iconst 2, 1) := by decide +kernel
theorem dL_law_338 : decode cL_law 338 = .ok (.invokevirtual 61, 3) := by decide +kernel
theorem dL_law_341 : decode cL_law 341 = .ok (.bipush 60, 2) := by decide +kernel
theorem dL_law_343 : decode cL_law 343 = .ok (.if_icmp .ge 51, 3) := by decide +kernel
theorem dL_law_346 : decode cL_law 346 = .ok (.iconst 1, 1) := by decide +kernel
theorem dL_law_347 : decode cL_law 347 = .ok (.iload 5, 2) := by decide +kernel
theorem dL_law_349 : decode cL_law 349 = .ok (.iconst 5, 1) := by decide +kernel
theorem dL_law_350 : decode cL_law 350 = .ok (.ishr, 1) := by decide +kernel
theorem dL_law_351 : decode cL_law 351 = .ok (.bipush 39, 2) := by decide +kernel
theorem dL_law_353 : decode cL_law 353 = .ok (.invokestatic 42, 3) := by decide +kernel
theorem dL_law_356 : decode cL_law 356 = .ok (.iadd, 1) := by decide +kernel
theorem dL_law_357 : decode cL_law 357 = .ok (.istore 7, 2) := by decide +kernel
theorem dL_law_359 : decode cL_law 359 = .ok (.aload_n 1, 1) := by decide +kernel
theorem dL_law_360 : decode cL_law 360 = .ok (.iload 6, 2) := by decide +kernel
theorem dL_law_362 : decode cL_law 362 = .ok (.bipush 8, 2) := by decide +kernel
theorem dL_law_364 : decode cL_law 364 = .ok (.irem, 1) := by decide +kernel
theorem dL_law_365 : decode cL_law 365 = .ok (.iload 6, 2) := by decide +kernel
theorem dL_law_367 : decode cL_law 367 = .ok (.bipush 8, 2) := by decide +kernel
theorem dL_law_369 : decode cL_law 369 = .ok (.idiv, 1) := by decide +kernel
theorem dL_law_370 : decode cL_law 370 = .ok (.iload 7, 2) := by decide +kernel
theorem dL_law_372 : decode cL_law 372 = .ok (.iload 5, 2) := by decide +kernel
theorem dL_law_374 : decode cL_law 374 = .ok (.bipush 6, 2) := by decide +kernel
theorem dL_law_376 : decode cL_law 376 = .ok (.ishr, 1) := by decide +kernel
theorem dL_law_377 : decode cL_law 377 = .ok (.bipush 21, 2) := by decide +kernel
theorem dL_law_379 : decode cL_law 379 = .ok (.invokestatic 42, 3) := by decide +kernel
theorem dL_law_382 : decode cL_law 382 = .ok (.invokevirtual 63, 3) := by decide +kernel
theorem dL_law_385 : decode cL_law 385 = .ok (.pop, 1) := by decide +kernel
theorem dL_law_386 : decode cL_law 386 = .ok (.iload_n 2, 1) := by decide +kernel
theorem dL_law_387 : decode cL_law 387 = .ok (.iload 7, 2) := by decide +kernel
theorem dL_law_389 : decode cL_law 389 = .ok (.iadd, 1) := by decide +kernel
theorem dL_law_390 : decode cL_law 390 = .ok (.istore_n 2, 1) := by decide +kernel
theorem dL_law_391 : decode cL_law 391 = .ok (.goto 105, 3) := by decide +kernel
theorem w_B {p : Program} {l : Launch} {e : Env} {s : State} {m : MethodId} {args : Array Value} {below : List Frame} {meth : Method} {c : Code} {D : DG} {F : EF} {A : Nat → Prop} {Q : State → Prop} {k n : Nat} (hC : CY p s m args meth c cL_law 12 RL (some .boolean) D A) (hE : ENV F A s s.heap) {a N : Nat} {f : Nat → Int32} {G : GG} (hg : GO D F G) (hm : (a, N, f) ∈ F.2.1) (hN : N < 2147483648) (hT : LTX F) {M : Mm} {H ng : Nat} (hV : LV H ng M) {t r1 : Nat} {x lost stk : Int32} (ht24 : t < 24) (h64 : r1 < 64) (hk : k + 0 ≤ 600086) (hn : n + 0 ≤ 7301442) (K1 : ∀ (M1 : Mm) (s2 : Int32) (_ : LV H ng M1) (_ : M1 0 = M 0) (_ : TA 29 ng M1 = TA 29 ng M + (s2 - stk)), XC p l e (RM 2048 600086 7301442 84000) s m args below meth c D A 12 Q (k + 0) (n + 0) ([] ++ WL G M1) 496 [(4, .int (nI t)), (3, .int lost), (2, .int s2), (1, .ref (G.2.1 0)), (0, .ref a)] []) (K2 : XC p l e (RM 2048 600086 7301442 84000) s m args below meth c D A 12 Q (k + 0) (n + 0) ([] ++ WL G M) 394 [(6, .int (nI r1)), (5, .int x), (4, .int (nI t)), (3, .int lost), (2, .int stk), (1, .ref (G.2.1 0)), (0, .ref a)] []) : XC p l e (RM 2048 600086 7301442 84000) s m args below meth c D A 12 Q (k) (n) ([] ++ WL G M) 316 [(6, .int (nI r1)), (5, .int x), (4, .int (nI t)), (3, .int lost), (2, .int stk), (1, .ref (G.2.1 0)), (0, .ref a)] [] := by
  refine cx_iload hC dL_law_316 1 rfl ?_
  refine cx_iconst hC (4 : Int32) dL_law_318 (by decide) ?_
  refine cy_callS hC (y := yL_below) (cy := cL_below) (maxL := 2) (nA := 2) (r := (some .int)) (rm := (RM 1 0 0 0)) (mc := 0) (ms := 0) (As := [.int x, .int (4 : Int32)]) (wr := ([] ++ WL G M)) (l_bel l D F (u := 4) (by decide) (by decide)) [] (wz_r [] 0) rfl (wz_R rfl rfl rfl) (by decide +kernel) (by decide) (by decide +kernel) (ef_sub hC hE [] rfl) kc_yL_below km_L_42 kt_yL_below kn_RL ky_yL_below rfl ⟨rfl, rfl⟩ ⟨Nat.le_of_ble_eq_true rfl, Nat.le_of_ble_eq_true rfl⟩ rfl (Nat.le_of_ble_eq_true rfl) ⟨by show k + 0 + 0 ≤ 600086; omega, by show n + 0 + 0 ≤ 7301442; omega⟩ dL_law_319 (fun o w1 h => ?_)
  obtain ⟨r3, rfl, hr3, rfl⟩ := h
  refine cx_cnt (k' := k + 0) (n' := n + 0) (by omega) (by omega) ?_
  refine cx_at (ws' := ([] ++ WL G M)) (st' := [.int (nI r3)]) rfl rfl ?_
  refine cx_iconst hC (1 : Int32) dL_law_322 (by decide) ?_
  refine cx_topi (y := (nI 1)) (rfl) ?_
  by_cases hc : r3 = 1
  · skip
    refine cx_icmp_ne hC 394 dL_law_323 (by decide) (fun h => absurd (by rw [hc]) h) (fun _ => ?_)
    refine cx_aload_n hC dL_law_326 rfl 5 rfl ?_
    refine cx_iload hC dL_law_327 0 rfl ?_
    refine cx_bipush hC (8 : Int32) dL_law_329 (by decide) ?_
    refine cx_irem hC dL_law_331 (by decide) ?_
    refine cx_topi (y := (nI (r1 % 8))) ((rem_n (b := 8) (by omega) (by decide) (by decide)).symm) ?_
    refine cx_iload hC dL_law_332 0 rfl ?_
    refine cx_bipush hC (8 : Int32) dL_law_334 (by decide) ?_
    refine cx_idiv hC dL_law_336 (by decide) ?_
    refine cx_topi (y := (nI (r1 / 8))) ((div_n (b := 8) (by omega) (by decide) (by decide)).symm) ?_
    refine cx_iconst hC (2 : Int32) dL_law_337 (by decide) ?_
    refine cx_topi (y := (nI 2)) (rfl) ?_
    have hw : f_X9_cell 0 (nI (r1 % 8)) (nI (r1 / 8)) (nI 2) M = some (0, M 33 (8 * (r1 / 8) + r1 % 8), M) := cell_v M (by omega) (by omega) (by decide)
    refine cy_callV hC (E := RX9) (y := yX9_cell) (cy := cX9_cell) (maxL := 4) (nA := 3) (r := (some .int)) (rm := (RM 2 0 0 43)) (mc := 0) (ms := 0) (As := [.int (nI (r1 % 8)), .int (nI (r1 / 8)), .int (nI 2)]) (wr := []) (yo_mo (c_X9_cell l G M (i0 := 0) rfl _ _ _ (hw)) hg) (wz_i 0) (List.range 0) (wz_C rfl rfl) (wz_X rfl rfl) (by decide +kernel) (by decide +kernel) (by decide +kernel) (rc_g hC rfl) (ef_sub hC hE (wz_i 0) (wz_C rfl rfl)) kc_yX9_cell km_L_61 ki_yX9_cell kv_yX9_cell kn_RX9 ky_yX9_cell rfl ⟨rfl, rfl⟩ ⟨Nat.le_of_ble_eq_true rfl, Nat.le_of_ble_eq_true rfl⟩ rfl (Nat.le_of_ble_eq_true rfl) ⟨by show k + 0 + 0 ≤ 600086; omega, by show n + 0 + 0 ≤ 7301442; omega⟩ dL_law_338 (fun o w1 h => ?_)
    obtain ⟨rfl, rfl, -⟩ := h
    refine cx_cnt (k' := k + 0) (n' := n + 0) (by omega) (by omega) ?_
    refine cx_at (ws' := ([] ++ WL G M)) (st' := [.int (M 33 (8 * (r1 / 8) + r1 % 8))]) rfl rfl ?_
    refine cx_bipush hC (60 : Int32) dL_law_341 (by decide) ?_
    by_cases hd : ¬ (60 : Int32) ≤ M 33 (8 * (r1 / 8) + r1 % 8)
    · skip
      refine cx_icmp_ge hC 394 dL_law_343 (by decide) (fun h => absurd h (hd)) (fun _ => ?_)
      refine cx_iconst hC (1 : Int32) dL_law_346 (by decide) ?_
      refine cx_iload hC dL_law_347 1 rfl ?_
      refine cx_iconst hC (5 : Int32) dL_law_349 (by decide) ?_
      refine cx_ishr hC dL_law_350 ?_
      refine cx_bipush hC (39 : Int32) dL_law_351 (by decide) ?_
      refine cy_callS hC (y := yL_below) (cy := cL_below) (maxL := 2) (nA := 2) (r := (some .int)) (rm := (RM 1 0 0 0)) (mc := 0) (ms := 0) (As := [.int (x >>> ((5 : Int32) &&& 31)), .int (39 : Int32)]) (wr := ([] ++ WL G M)) (l_bel l D F (u := 39) (by decide) (by decide)) [] (wz_r [] 0) rfl (wz_R rfl rfl rfl) (by decide +kernel) (by decide) (by decide +kernel) (ef_sub hC hE [] rfl) kc_yL_below km_L_42 kt_yL_below kn_RL ky_yL_below rfl ⟨rfl, rfl⟩ ⟨Nat.le_of_ble_eq_true rfl, Nat.le_of_ble_eq_true rfl⟩ rfl (Nat.le_of_ble_eq_true rfl) ⟨by show k + 0 + 0 ≤ 600086; omega, by show n + 0 + 0 ≤ 7301442; omega⟩ dL_law_353 (fun o w1 h => ?_)
      obtain ⟨r7, rfl, hr7, rfl⟩ := h
      refine cx_cnt (k' := k + 0) (n' := n + 0) (by omega) (by omega) ?_
      refine cx_at (ws' := ([] ++ WL G M)) (st' := [.int (nI r7), .int (1 : Int32)]) rfl rfl ?_
      refine cx_iadd hC dL_law_356 ?_
      refine cx_topi (y := (nI (1 + r7))) ((n_add 1 r7).symm) ?_
      refine cx_istore hC [(7, .int (nI (1 + r7))), (6, .int (nI r1)), (5, .int x), (4, .int (nI t)), (3, .int lost), (2, .int stk), (1, .ref (G.2.1 0)), (0, .ref a)] dL_law_357 (Nat.le_of_ble_eq_true rfl) rfl ?_
      refine cx_aload_n hC dL_law_359 rfl 6 rfl ?_
      refine cx_iload hC dL_law_360 1 rfl ?_
      refine cx_bipush hC (8 : Int32) dL_law_362 (by decide) ?_
      refine cx_irem hC dL_law_364 (by decide) ?_
      refine cx_topi (y := (nI (r1 % 8))) ((rem_n (b := 8) (by omega) (by decide) (by decide)).symm) ?_
      refine cx_iload hC dL_law_365 1 rfl ?_
      refine cx_bipush hC (8 : Int32) dL_law_367 (by decide) ?_
      refine cx_idiv hC dL_law_369 (by decide) ?_
      refine cx_topi (y := (nI (r1 / 8))) ((div_n (b := 8) (by omega) (by decide) (by decide)).symm) ?_
      refine cx_iload hC dL_law_370 0 rfl ?_
      refine cx_iload hC dL_law_372 2 rfl ?_
      refine cx_bipush hC (6 : Int32) dL_law_374 (by decide) ?_
      refine cx_ishr hC dL_law_376 ?_
      refine cx_bipush hC (21 : Int32) dL_law_377 (by decide) ?_
      refine cy_callS hC (y := yL_below) (cy := cL_below) (maxL := 2) (nA := 2) (r := (some .int)) (rm := (RM 1 0 0 0)) (mc := 0) (ms := 0) (As := [.int (x >>> ((6 : Int32) &&& 31)), .int (21 : Int32)]) (wr := ([] ++ WL G M)) (l_bel l D F (u := 21) (by decide) (by decide)) [] (wz_r [] 0) rfl (wz_R rfl rfl rfl) (by decide +kernel) (by decide) (by decide +kernel) (ef_sub hC hE [] rfl) kc_yL_below km_L_42 kt_yL_below kn_RL ky_yL_below rfl ⟨rfl, rfl⟩ ⟨Nat.le_of_ble_eq_true rfl, Nat.le_of_ble_eq_true rfl⟩ rfl (Nat.le_of_ble_eq_true rfl) ⟨by show k + 0 + 0 ≤ 600086; omega, by show n + 0 + 0 ≤ 7301442; omega⟩ dL_law_379 (fun o w1 h => ?_)
      obtain ⟨r8, rfl, hr8, rfl⟩ := h
      refine cx_cnt (k' := k + 0) (n' := n + 0) (by omega) (by omega) ?_
      refine cx_at (ws' := ([] ++ WL G M)) (st' := [.int (nI r8), .int (nI (1 + r7)), .int (nI (r1 / 8)), .int (nI (r1 % 8)), .ref (G.2.1 0)]) rfl rfl ?_
      have hd2 : (M 33 (8 * (r1 / 8) + r1 % 8)).toInt < 60 := by rcases Int.lt_or_le (M 33 (8 * (r1 / 8) + r1 % 8)).toInt 60 with h | h; exact h; exact absurd (i_le.mpr (show (60 : Int32).toInt ≤ _ from h)) hd
      obtain ⟨v2, M1, hw2, hV1, hf1, hf2, hf3, -⟩ := stack_v hV (x := r1 % 8) (y := r1 / 8) (by omega) (by omega) (m := nI (1 + r7)) (n := nI r8) (by rw [i_nI (by omega)]; omega) (n_rg (r := r8) (b := 20) (by omega) (by decide)) (by rw [i_nI (by omega)]; omega)
      refine cy_callV hC (E := RX9) (y := yX9_stack) (cy := cX9_stack) (maxL := 6) (nA := 4) (r := (some .int)) (rm := (RM 2 0 0 47)) (mc := 0) (ms := 0) (As := [.int (nI (r1 % 8)), .int (nI (r1 / 8)), .int (nI (1 + r7)), .int (nI r8)]) (wr := []) (yo_mo (c_X9_stack l G M (i0 := 0) rfl _ _ _ _ (hw2)) hg) (wz_i 0) (List.range 0) (wz_C rfl rfl) (wz_X rfl rfl) (by decide +kernel) (by decide +kernel) (by decide +kernel) (rc_g hC rfl) (ef_sub hC hE (wz_i 0) (wz_C rfl rfl)) kc_yX9_stack km_L_63 ki_yX9_stack kv_yX9_stack kn_RX9 ky_yX9_stack rfl ⟨rfl, rfl⟩ ⟨Nat.le_of_ble_eq_true rfl, Nat.le_of_ble_eq_true rfl⟩ rfl (Nat.le_of_ble_eq_true rfl) ⟨by show k + 0 + 0 ≤ 600086; omega, by show n + 0 + 0 ≤ 7301442; omega⟩ dL_law_382 (fun o w1 h => ?_)
      obtain ⟨rfl, rfl, -⟩ := h
      refine cx_cnt (k' := k + 0) (n' := n + 0) (by omega) (by omega) ?_
      refine cx_at (ws' := ([] ++ WL G M1)) (st' := [.int (v2)]) rfl rfl ?_
      refine cx_pop hC dL_law_385 rfl ?_
      refine cx_iload_n hC dL_law_386 rfl 5 rfl ?_
      refine cx_iload hC dL_law_387 0 rfl ?_
      refine cx_iadd hC dL_law_389 ?_
      refine cx_istore_n hC [(2, .int (stk + (nI (1 + r7)))), (7, .int (nI (1 + r7))), (6, .int (nI r1)), (5, .int x), (4, .int (nI t)), (3, .int lost), (1, .ref (G.2.1 0)), (0, .ref a)] dL_law_390 rfl (Nat.le_of_ble_eq_true rfl) rfl ?_
      refine cx_goto hC 496 dL_law_391 (by decide) ?_
      generalize hs2 : (stk + (nI (1 + r7))) = s2
      refine cx_sub [4, 5, 0, 6, 7] (lv' := [(4, .int (nI t)), (3, .int lost), (2, .int s2), (1, .ref (G.2.1 0)), (0, .ref a)]) rfl ?_
      refine cx_widen (k' := k + 0) (n' := n + 0) (by omega) (by omega) ?_
      exact K1 M1 s2 hV1 (hf2 0 (by decide) (by decide)) (by rw [hf3, ← hs2]; grind)
    · have hd := Decidable.of_not_not hd
      refine cx_icmp_ge hC 394 dL_law_343 (by decide) (fun _ => ?_) (fun h => absurd (hd) h)
      refine cx_widen (k' := k + 0) (n' := n + 0) (by omega) (by omega) ?_
      exact K2
  · skip
    refine cx_icmp_ne hC 394 dL_law_323 (by decide) (fun _ => ?_) (fun h => absurd h (fun h => hc ((n_inj (b := 1) (by omega) (by omega)).mp h)))
    refine cx_widen (k' := k + 0) (n' := n + 0) (by omega) (by omega) ?_
    exact K2
theorem dL_law_394 : decode cL_law 394 = .ok (.aload_n 1, 1) := by decide +kernel
theorem dL_law_395 : decode cL_law 395 = .ok (.invokevirtual 132, 3) := by decide +kernel
theorem dL_law_398 : decode cL_law 398 = .ok (.lstore 7, 2) := by decide +kernel
theorem dL_law_400 : decode cL_law 400 = .ok (.iconst 1, 1) := by decide +kernel
theorem dL_law_401 : decode cL_law 401 = .ok (.iload 5, 2) := by decide +kernel
theorem dL_law_403 : decode cL_law 403 = .ok (.iconst 4, 1) := by decide +kernel
theorem dL_law_404 : decode cL_law 404 = .ok (.ishr, 1) := by decide +kernel
theorem dL_law_405 : decode cL_law 405 = .ok (.bipush 25, 2) := by decide +kernel
theorem dL_law_407 : decode cL_law 407 = .ok (.invokestatic 42, 3) := by decide +kernel
theorem dL_law_410 : decode cL_law 410 = .ok (.iadd, 1) := by decide +kernel
theorem dL_law_411 : decode cL_law 411 = .ok (.istore 9, 2) := by decide +kernel
theorem dL_law_413 : decode cL_law 413 = .ok (.aload_n 1, 1) := by decide +kernel
theorem dL_law_414 : decode cL_law 414 = .ok (.iload 9, 2) := by decide +kernel
theorem dL_law_416 : decode cL_law 416 = .ok (.iconst 0, 1) := by decide +kernel
theorem dL_law_417 : decode cL_law 417 = .ok (.invokevirtual 136, 3) := by decide +kernel
theorem dL_law_420 : decode cL_law 420 = .ok (.istore 10, 2) := by decide +kernel
theorem dL_law_422 : decode cL_law 422 = .ok (.aload_n 1, 1) := by decide +kernel
theorem dL_law_423 : decode cL_law 423 = .ok (.iload 6, 2) := by decide +kernel
theorem dL_law_425 : decode cL_law 425 = .ok (.bipush 8, 2) := by decide +kernel
theorem dL_law_427 : decode cL_law 427 = .ok (.irem, 1) := by decide +kernel
theorem dL_law_428 : decode cL_law 428 = .ok (.iload 6, 2) := by decide +kernel
theorem dL_law_430 : decode cL_law 430 = .ok (.bipush 8, 2) := by decide +kernel
theorem dL_law_432 : decode cL_law 432 = .ok (.idiv, 1) := by decide +kernel
theorem dL_law_433 : decode cL_law 433 = .ok (.invokevirtual 139, 3) := by decide +kernel
theorem dL_law_436 : decode cL_law 436 = .ok (.pop, 1) := by decide +kernel
theorem dL_law_437 : decode cL_law 437 = .ok (.aload_n 1, 1) := by decide +kernel
theorem dL_law_438 : decode cL_law 438 = .ok (.iconst 2, 1) := by decide +kernel
theorem dL_law_439 : decode cL_law 439 = .ok (.invokevirtual 19, 3) := by decide +kernel
theorem dL_law_442 : decode cL_law 442 = .ok (.ifCond .le 9, 3) := by decide +kernel
theorem dL_law_445 : decode cL_law 445 = .ok (.aload_n 1, 1) := by decide +kernel
theorem dL_law_446 : decode cL_law 446 = .ok (.iconst 0, 1) := by decide +kernel
theorem dL_law_447 : decode cL_law 447 = .ok (.invokevirtual 142, 3) := by decide +kernel
theorem dL_law_450 : decode cL_law 450 = .ok (.pop, 1) := by decide +kernel
theorem w_C1 {p : Program} {l : Launch} {e : Env} {s : State} {m : MethodId} {args : Array Value} {below : List Frame} {meth : Method} {c : Code} {D : DG} {F : EF} {A : Nat → Prop} {Q : State → Prop} {k n : Nat} (hC : CY p s m args meth c cL_law 12 RL (some .boolean) D A) (hE : ENV F A s s.heap) {a N : Nat} {f : Nat → Int32} {G : GG} (hg : GO D F G) (hm : (a, N, f) ∈ F.2.1) (hN : N < 2147483648) (hT : LTX F) {M : Mm} {H ng : Nat} (hV : LV H ng M) {t r1 : Nat} {x lost stk : Int32} (ht24 : t < 24) (h64 : r1 < 64) (hH : H < 90000) (hk : k + 0 ≤ 600086) (hn : n + 0 ≤ 7301442) (K : ∀ (M2 : Mm) (dry : Int32) (d0 : Int64) (r7 : Nat) (_ : r7 < 25) (_ : ∀ r, r < 47 → M2 r = M r) (_ : ∀ A', (∀ r, r < 47 → A' r = M r) → f_X9_digest 0 A' = some d0) (_ : ∀ C, (∀ r, r < 47 → C r = M r) → ∃ C', f_X9_pass 0 (nI (1 + r7)) C = some (0, C' 29 10 - C 29 10, C') ∧ C' 29 10 = dry ∧ C' 0 = C 0 ∧ LV (H + (1 + r7)) ng C' ∧ TA 29 ng C' = TA 29 ng M), XC p l e (RM 2048 600086 7301442 84000) s m args below meth c D A 12 Q (k + 0) (n + 0) ([] ++ WL G M2) 451 [(10, .int (dry)), (9, .int (nI (1 + r7))), (7, .long (d0)), (6, .int (nI r1)), (5, .int x), (4, .int (nI t)), (3, .int lost), (2, .int stk), (1, .ref (G.2.1 0)), (0, .ref a)] []) : XC p l e (RM 2048 600086 7301442 84000) s m args below meth c D A 12 Q (k) (n) ([] ++ WL G M) 394 [(6, .int (nI r1)), (5, .int x), (4, .int (nI t)), (3, .int lost), (2, .int stk), (1, .ref (G.2.1 0)), (0, .ref a)] [] := by
  obtain ⟨d0, hd0, hd1⟩ := digest_v hV
  refine cx_aload_n hC dL_law_394 rfl 5 rfl ?_
  refine cy_callV hC (E := RX9) (y := yX9_digest) (cy := cX9_digest) (maxL := 5) (nA := 0) (r := (some .long)) (rm := (RM 2 0 0 46)) (mc := 0) (ms := 0) (As := []) (wr := []) (yo_mo (c_X9_digest l G M (i0 := 0) rfl (hd0)) hg) (wz_i 0) (List.range 0) (wz_C rfl rfl) (wz_X rfl rfl) (by decide +kernel) (by decide +kernel) (by decide +kernel) (rc_g hC rfl) (ef_sub hC hE (wz_i 0) (wz_C rfl rfl)) kc_yX9_digest km_L_132 ki_yX9_digest kv_yX9_digest kn_RX9 ky_yX9_digest rfl ⟨rfl, rfl⟩ ⟨Nat.le_of_ble_eq_true rfl, Nat.le_of_ble_eq_true rfl⟩ rfl (Nat.le_of_ble_eq_true rfl) ⟨by show k + 0 + 0 ≤ 600086; omega, by show n + 0 + 0 ≤ 7301442; omega⟩ dL_law_395 (fun o w1 h => ?_)
  obtain ⟨rfl, rfl, -⟩ := h
  refine cx_cnt (k' := k + 0) (n' := n + 0) (by omega) (by omega) ?_
  refine cx_at (ws' := ([] ++ WL G M)) (st' := [.long (d0)]) rfl rfl ?_
  refine cx_lstore hC [(7, .long (d0)), (6, .int (nI r1)), (5, .int x), (4, .int (nI t)), (3, .int lost), (2, .int stk), (1, .ref (G.2.1 0)), (0, .ref a)] dL_law_398 (Nat.le_of_ble_eq_true rfl) rfl ?_
  refine cx_iconst hC (1 : Int32) dL_law_400 (by decide) ?_
  refine cx_iload hC dL_law_401 2 rfl ?_
  refine cx_iconst hC (4 : Int32) dL_law_403 (by decide) ?_
  refine cx_ishr hC dL_law_404 ?_
  refine cx_bipush hC (25 : Int32) dL_law_405 (by decide) ?_
  refine cy_callS hC (y := yL_below) (cy := cL_below) (maxL := 2) (nA := 2) (r := (some .int)) (rm := (RM 1 0 0 0)) (mc := 0) (ms := 0) (As := [.int (x >>> ((4 : Int32) &&& 31)), .int (25 : Int32)]) (wr := ([] ++ WL G M)) (l_bel l D F (u := 25) (by decide) (by decide)) [] (wz_r [] 0) rfl (wz_R rfl rfl rfl) (by decide +kernel) (by decide) (by decide +kernel) (ef_sub hC hE [] rfl) kc_yL_below km_L_42 kt_yL_below kn_RL ky_yL_below rfl ⟨rfl, rfl⟩ ⟨Nat.le_of_ble_eq_true rfl, Nat.le_of_ble_eq_true rfl⟩ rfl (Nat.le_of_ble_eq_true rfl) ⟨by show k + 0 + 0 ≤ 600086; omega, by show n + 0 + 0 ≤ 7301442; omega⟩ dL_law_407 (fun o w1 h => ?_)
  obtain ⟨r7, rfl, hr7, rfl⟩ := h
  refine cx_cnt (k' := k + 0) (n' := n + 0) (by omega) (by omega) ?_
  refine cx_at (ws' := ([] ++ WL G M)) (st' := [.int (nI r7), .int (1 : Int32)]) rfl rfl ?_
  refine cx_iadd hC dL_law_410 ?_
  refine cx_topi (y := (nI (1 + r7))) ((n_add 1 r7).symm) ?_
  refine cx_istore hC [(9, .int (nI (1 + r7))), (7, .long (d0)), (6, .int (nI r1)), (5, .int x), (4, .int (nI t)), (3, .int lost), (2, .int stk), (1, .ref (G.2.1 0)), (0, .ref a)] dL_law_411 (Nat.le_of_ble_eq_true rfl) rfl ?_
  refine cx_aload_n hC dL_law_413 rfl 7 rfl ?_
  refine cx_iload hC dL_law_414 0 rfl ?_
  refine cx_iconst hC (0 : Int32) dL_law_416 (by decide) ?_
  obtain ⟨M1, hf, hk1, hp⟩ := fore_v hV (by omega) (i := 1 + r7) ⟨by omega, by omega⟩
  generalize M1 47 10 = dry at hf hp
  have hV1 : LV H ng M1 := hV.keep hk1
  refine cy_callV hC (E := RX9) (y := yX9_foresee) (cy := cX9_foresee) (maxL := 3) (nA := 2) (r := (some .int)) (rm := (RM 6 0 0 153)) (mc := 0) (ms := 0) (As := [.int (nI (1 + r7)), .int (0 : Int32)]) (wr := []) (yo_mo (c_X9_foresee l G M (i0 := 0) rfl _ _ (hf)) hg) (wz_i 0) (List.range 0) (wz_C rfl rfl) (wz_X rfl rfl) (by decide +kernel) (by decide +kernel) (by decide +kernel) (rc_g hC rfl) (ef_sub hC hE (wz_i 0) (wz_C rfl rfl)) kc_yX9_foresee km_L_136 ki_yX9_foresee kv_yX9_foresee kn_RX9 ky_yX9_foresee rfl ⟨rfl, rfl⟩ ⟨Nat.le_of_ble_eq_true rfl, Nat.le_of_ble_eq_true rfl⟩ rfl (Nat.le_of_ble_eq_true rfl) ⟨by show k + 0 + 0 ≤ 600086; omega, by show n + 0 + 0 ≤ 7301442; omega⟩ dL_law_417 (fun o w1 h => ?_)
  obtain ⟨rfl, rfl, -⟩ := h
  refine cx_cnt (k' := k + 0) (n' := n + 0) (by omega) (by omega) ?_
  refine cx_at (ws' := ([] ++ WL G M1)) (st' := [.int (dry)]) rfl rfl ?_
  refine cx_istore hC [(10, .int (dry)), (9, .int (nI (1 + r7))), (7, .long (d0)), (6, .int (nI r1)), (5, .int x), (4, .int (nI t)), (3, .int lost), (2, .int stk), (1, .ref (G.2.1 0)), (0, .ref a)] dL_law_420 (Nat.le_of_ble_eq_true rfl) rfl ?_
  refine cx_aload_n hC dL_law_422 rfl 8 rfl ?_
  refine cx_iload hC dL_law_423 3 rfl ?_
  refine cx_bipush hC (8 : Int32) dL_law_425 (by decide) ?_
  refine cx_irem hC dL_law_427 (by decide) ?_
  refine cx_topi (y := (nI (r1 % 8))) ((rem_n (b := 8) (by omega) (by decide) (by decide)).symm) ?_
  refine cx_iload hC dL_law_428 3 rfl ?_
  refine cx_bipush hC (8 : Int32) dL_law_430 (by decide) ?_
  refine cx_idiv hC dL_law_432 (by decide) ?_
  refine cx_topi (y := (nI (r1 / 8))) ((div_n (b := 8) (by omega) (by decide) (by decide)).symm) ?_
  obtain ⟨v2, hd2⟩ := dries_v hV1 (by omega) (x := r1 % 8) (y := r1 / 8) (by omega) (by omega)
  refine cy_callV hC (E := RX9) (y := yX9_dries) (cy := cX9_dries) (maxL := 8) (nA := 2) (r := (some .int)) (rm := (RM 3 0 0 85)) (mc := 0) (ms := 0) (As := [.int (nI (r1 % 8)), .int (nI (r1 / 8))]) (wr := []) (yo_mo (c_X9_dries l G M1 (i0 := 0) rfl _ _ (hd2)) hg) (wz_i 0) (List.range 0) (wz_C rfl rfl) (wz_X rfl rfl) (by decide +kernel) (by decide +kernel) (by decide +kernel) (rc_g hC rfl) (ef_sub hC hE (wz_i 0) (wz_C rfl rfl)) kc_yX9_dries km_L_139 ki_yX9_dries kv_yX9_dries kn_RX9 ky_yX9_dries rfl ⟨rfl, rfl⟩ ⟨Nat.le_of_ble_eq_true rfl, Nat.le_of_ble_eq_true rfl⟩ rfl (Nat.le_of_ble_eq_true rfl) ⟨by show k + 0 + 0 ≤ 600086; omega, by show n + 0 + 0 ≤ 7301442; omega⟩ dL_law_433 (fun o w1 h => ?_)
  obtain ⟨rfl, rfl, -⟩ := h
  refine cx_cnt (k' := k + 0) (n' := n + 0) (by omega) (by omega) ?_
  refine cx_at (ws' := ([] ++ WL G M1)) (st' := [.int (v2)]) rfl rfl ?_
  refine cx_pop hC dL_law_436 rfl ?_
  refine cx_aload_n hC dL_law_437 rfl 8 rfl ?_
  refine cx_iconst hC (2 : Int32) dL_law_438 (by decide) ?_
  refine cx_topi (y := (nI 2)) (rfl) ?_
  have hc2 : f_X9_count 0 (nI 2) M1 = some (0, nI ng, M1) := by rw [count_v hV1 (k := 2) (by decide), show cvA ng M1 2 = M1 29 15 from rfl, hV1.2.1]
  refine cy_callV hC (E := RX9) (y := yX9_count) (cy := cX9_count) (maxL := 2) (nA := 1) (r := (some .int)) (rm := (RM 2 0 0 46)) (mc := 0) (ms := 0) (As := [.int (nI 2)]) (wr := []) (yo_mo (c_X9_count l G M1 (i0 := 0) rfl _ (hc2)) hg) (wz_i 0) (List.range 0) (wz_C rfl rfl) (wz_X rfl rfl) (by decide +kernel) (by decide +kernel) (by decide +kernel) (rc_g hC rfl) (ef_sub hC hE (wz_i 0) (wz_C rfl rfl)) kc_yX9_count km_L_19 ki_yX9_count kv_yX9_count kn_RX9 ky_yX9_count rfl ⟨rfl, rfl⟩ ⟨Nat.le_of_ble_eq_true rfl, Nat.le_of_ble_eq_true rfl⟩ rfl (Nat.le_of_ble_eq_true rfl) ⟨by show k + 0 + 0 ≤ 600086; omega, by show n + 0 + 0 ≤ 7301442; omega⟩ dL_law_439 (fun o w1 h => ?_)
  obtain ⟨rfl, rfl, -⟩ := h
  refine cx_cnt (k' := k + 0) (n' := n + 0) (by omega) (by omega) ?_
  refine cx_at (ws' := ([] ++ WL G M1)) (st' := [.int (nI ng)]) rfl rfl ?_
  by_cases hp0 : ng = 0
  · skip
    refine cx_if_le hC 451 dL_law_442 (by decide) (fun _ => ?_) (fun h => absurd (by rw [hp0]; decide) h)
    refine cx_sub [0, 1, 2, 3, 4, 5, 6, 7, 8, 9] (lv' := [(10, .int (dry)), (9, .int (nI (1 + r7))), (7, .long (d0)), (6, .int (nI r1)), (5, .int x), (4, .int (nI t)), (3, .int lost), (2, .int stk), (1, .ref (G.2.1 0)), (0, .ref a)]) rfl ?_
    refine cx_widen (k' := k + 0) (n' := n + 0) (by omega) (by omega) ?_
    exact K M1 dry d0 r7 hr7 hk1 hd1 hp
  · skip
    refine cx_if_le hC 451 dL_law_442 (by decide) (fun h => absurd h (fun h => by have := i_le.mp h; rw [i_nI (by have := hV.2.2.1; omega)] at this; have z : (0 : Int32).toInt = 0 := rfl; omega)) (fun _ => ?_)
    refine cx_aload_n hC dL_law_445 rfl 8 rfl ?_
    refine cx_iconst hC (0 : Int32) dL_law_446 (by decide) ?_
    obtain ⟨v3, M2, hdn, hk2⟩ := done_v hV1 (by omega) (by omega)
    refine cy_callV hC (E := RX9) (y := yX9_done) (cy := cX9_done) (maxL := 3) (nA := 1) (r := (some .int)) (rm := (RM 6 0 0 153)) (mc := 0) (ms := 0) (As := [.int (0 : Int32)]) (wr := []) (yo_mo (c_X9_done l G M1 (i0 := 0) rfl _ (hdn)) hg) (wz_i 0) (List.range 0) (wz_C rfl rfl) (wz_X rfl rfl) (by decide +kernel) (by decide +kernel) (by decide +kernel) (rc_g hC rfl) (ef_sub hC hE (wz_i 0) (wz_C rfl rfl)) kc_yX9_done km_L_142 ki_yX9_done kv_yX9_done kn_RX9 ky_yX9_done rfl ⟨rfl, rfl⟩ ⟨Nat.le_of_ble_eq_true rfl, Nat.le_of_ble_eq_true rfl⟩ rfl (Nat.le_of_ble_eq_true rfl) ⟨by show k + 0 + 0 ≤ 600086; omega, by show n + 0 + 0 ≤ 7301442; omega⟩ dL_law_447 (fun o w1 h => ?_)
    obtain ⟨rfl, rfl, -⟩ := h
    refine cx_cnt (k' := k + 0) (n' := n + 0) (by omega) (by omega) ?_
    refine cx_at (ws' := ([] ++ WL G M2)) (st' := [.int (v3)]) rfl rfl ?_
    refine cx_pop hC dL_law_450 rfl ?_
    refine cx_sub [0, 1, 2, 3, 4, 5, 6, 7, 8, 9] (lv' := [(10, .int (dry)), (9, .int (nI (1 + r7))), (7, .long (d0)), (6, .int (nI r1)), (5, .int x), (4, .int (nI t)), (3, .int lost), (2, .int stk), (1, .ref (G.2.1 0)), (0, .ref a)]) rfl ?_
    refine cx_widen (k' := k + 0) (n' := n + 0) (by omega) (by omega) ?_
    exact K M2 dry d0 r7 hr7 (fun r hr => (hk2 r hr).trans (hk1 r hr)) hd1 hp
theorem dL_law_451 : decode cL_law 451 = .ok (.aload_n 1, 1) := by decide +kernel
theorem dL_law_452 : decode cL_law 452 = .ok (.invokevirtual 132, 3) := by decide +kernel
theorem dL_law_455 : decode cL_law 455 = .ok (.lload 7, 2) := by decide +kernel
theorem dL_law_457 : decode cL_law 457 = .ok (.lcmp, 1) := by decide +kernel
theorem dL_law_458 : decode cL_law 458 = .ok (.ifCond .eq 5, 3) := by decide +kernel
theorem dL_law_463 : decode cL_law 463 = .ok (.aload_n 1, 1) := by decide +kernel
theorem dL_law_464 : decode cL_law 464 = .ok (.iconst 5, 1) := by decide +kernel
theorem dL_law_465 : decode cL_law 465 = .ok (.invokevirtual 19, 3) := by decide +kernel
theorem dL_law_468 : decode cL_law 468 = .ok (.istore 11, 2) := by decide +kernel
theorem dL_law_470 : decode cL_law 470 = .ok (.aload_n 1, 1) := by decide +kernel
theorem dL_law_471 : decode cL_law 471 = .ok (.iload 9, 2) := by decide +kernel
theorem dL_law_473 : decode cL_law 473 = .ok (.invokevirtual 145, 3) := by decide +kernel
theorem dL_law_476 : decode cL_law 476 = .ok (.iload 10, 2) := by decide +kernel
theorem dL_law_478 : decode cL_law 478 = .ok (.iload 11, 2) := by decide +kernel
theorem dL_law_480 : decode cL_law 480 = .ok (.isub, 1) := by decide +kernel
theorem dL_law_481 : decode cL_law 481 = .ok (.if_icmp .ne 13, 3) := by decide +kernel
theorem dL_law_484 : decode cL_law 484 = .ok (.aload_n 1, 1) := by decide +kernel
theorem dL_law_485 : decode cL_law 485 = .ok (.iconst 5, 1) := by decide +kernel
theorem dL_law_486 : decode cL_law 486 = .ok (.invokevirtual 19, 3) := by decide +kernel
theorem dL_law_489 : decode cL_law 489 = .ok (.iload 10, 2) := by decide +kernel
theorem dL_law_491 : decode cL_law 491 = .ok (.if_icmp .eq 5, 3) := by decide +kernel
theorem w_C2 {p : Program} {l : Launch} {e : Env} {s : State} {m : MethodId} {args : Array Value} {below : List Frame} {meth : Method} {c : Code} {D : DG} {F : EF} {A : Nat → Prop} {Q : State → Prop} {k n : Nat} (hC : CY p s m args meth c cL_law 12 RL (some .boolean) D A) (hE : ENV F A s s.heap) {a N : Nat} {f : Nat → Int32} {G : GG} (hg : GO D F G) (hm : (a, N, f) ∈ F.2.1) (hN : N < 2147483648) (hT : LTX F) {M : Mm} {H ng : Nat} (hV : LV H ng M) {t r1 : Nat} {x lost stk : Int32} (ht24 : t < 24) (h64 : r1 < 64) {M2 : Mm} {dry : Int32} {d0 : Int64} {r7 : Nat} (hr7 : r7 < 25) (hk2 : ∀ r, r < 47 → M2 r = M r) (hd1 : ∀ A', (∀ r, r < 47 → A' r = M r) → f_X9_digest 0 A' = some d0) (hp : ∀ C, (∀ r, r < 47 → C r = M r) → ∃ C', f_X9_pass 0 (nI (1 + r7)) C = some (0, C' 29 10 - C 29 10, C') ∧ C' 29 10 = dry ∧ C' 0 = C 0 ∧ LV (H + (1 + r7)) ng C' ∧ TA 29 ng C' = TA 29 ng M) (hk : k + 0 ≤ 600086) (hn : n + 0 ≤ 7301442) (K : ∀ (M3 : Mm) (_ : LV (H + 25) ng M3) (_ : M3 0 = M 0) (_ : TA 29 ng M3 = TA 29 ng M), XC p l e (RM 2048 600086 7301442 84000) s m args below meth c D A 12 Q (k + 0) (n + 0) ([] ++ WL G M3) 496 [(4, .int (nI t)), (3, .int lost), (2, .int stk), (1, .ref (G.2.1 0)), (0, .ref a)] []) : XC p l e (RM 2048 600086 7301442 84000) s m args below meth c D A 12 Q (k) (n) ([] ++ WL G M2) 451 [(10, .int dry), (9, .int (nI (1 + r7))), (7, .long (d0)), (6, .int (nI r1)), (5, .int x), (4, .int (nI t)), (3, .int lost), (2, .int stk), (1, .ref (G.2.1 0)), (0, .ref a)] [] := by
  have hV2 : LV H ng M2 := hV.keep hk2
  refine cx_aload_n hC dL_law_451 rfl 8 rfl ?_
  refine cy_callV hC (E := RX9) (y := yX9_digest) (cy := cX9_digest) (maxL := 5) (nA := 0) (r := (some .long)) (rm := (RM 2 0 0 46)) (mc := 0) (ms := 0) (As := []) (wr := []) (yo_mo (c_X9_digest l G M2 (i0 := 0) rfl (hd1 M2 hk2)) hg) (wz_i 0) (List.range 0) (wz_C rfl rfl) (wz_X rfl rfl) (by decide +kernel) (by decide +kernel) (by decide +kernel) (rc_g hC rfl) (ef_sub hC hE (wz_i 0) (wz_C rfl rfl)) kc_yX9_digest km_L_132 ki_yX9_digest kv_yX9_digest kn_RX9 ky_yX9_digest rfl ⟨rfl, rfl⟩ ⟨Nat.le_of_ble_eq_true rfl, Nat.le_of_ble_eq_true rfl⟩ rfl (Nat.le_of_ble_eq_true rfl) ⟨by show k + 0 + 0 ≤ 600086; omega, by show n + 0 + 0 ≤ 7301442; omega⟩ dL_law_452 (fun o w1 h => ?_)
  obtain ⟨rfl, rfl, -⟩ := h
  refine cx_cnt (k' := k + 0) (n' := n + 0) (by omega) (by omega) ?_
  refine cx_at (ws' := ([] ++ WL G M2)) (st' := [.long (d0)]) rfl rfl ?_
  refine cx_lload hC dL_law_455 2 rfl ?_
  refine cx_lcmp hC dL_law_457 ?_
  refine cx_topi (y := (0 : Int32)) ((cmp_0 d0).symm) ?_
  refine cx_if_eq hC 463 dL_law_458 (by decide) (fun _ => ?_) (fun h => absurd (rfl) h)
  refine cx_aload_n hC dL_law_463 rfl 8 rfl ?_
  refine cx_iconst hC (5 : Int32) dL_law_464 (by decide) ?_
  refine cx_topi (y := (nI 5)) (rfl) ?_
  refine cy_callV hC (E := RX9) (y := yX9_count) (cy := cX9_count) (maxL := 2) (nA := 1) (r := (some .int)) (rm := (RM 2 0 0 46)) (mc := 0) (ms := 0) (As := [.int (nI 5)]) (wr := []) (yo_mo (c_X9_count l G M2 (i0 := 0) rfl _ (count_v hV2 (k := 5) (by decide))) hg) (wz_i 0) (List.range 0) (wz_C rfl rfl) (wz_X rfl rfl) (by decide +kernel) (by decide +kernel) (by decide +kernel) (rc_g hC rfl) (ef_sub hC hE (wz_i 0) (wz_C rfl rfl)) kc_yX9_count km_L_19 ki_yX9_count kv_yX9_count kn_RX9 ky_yX9_count rfl ⟨rfl, rfl⟩ ⟨Nat.le_of_ble_eq_true rfl, Nat.le_of_ble_eq_true rfl⟩ rfl (Nat.le_of_ble_eq_true rfl) ⟨by show k + 0 + 0 ≤ 600086; omega, by show n + 0 + 0 ≤ 7301442; omega⟩ dL_law_465 (fun o w1 h => ?_)
  obtain ⟨rfl, rfl, -⟩ := h
  refine cx_cnt (k' := k + 0) (n' := n + 0) (by omega) (by omega) ?_
  refine cx_at (ws' := ([] ++ WL G M2)) (st' := [.int (M2 29 10)]) rfl rfl ?_
  refine cx_istore hC [(11, .int (M2 29 10)), (10, .int dry), (9, .int (nI (1 + r7))), (7, .long (d0)), (6, .int (nI r1)), (5, .int x), (4, .int (nI t)), (3, .int lost), (2, .int stk), (1, .ref (G.2.1 0)), (0, .ref a)] dL_law_468 (Nat.le_of_ble_eq_true rfl) rfl ?_
  refine cx_aload_n hC dL_law_470 rfl 9 rfl ?_
  refine cx_iload hC dL_law_471 2 rfl ?_
  obtain ⟨M3, hps, hq1, hq2, hq3, hq4⟩ := hp M2 hk2
  refine cy_callV hC (E := RX9) (y := yX9_pass) (cy := cX9_pass) (maxL := 3) (nA := 1) (r := (some .int)) (rm := (RM 6 0 0 153)) (mc := 0) (ms := 0) (As := [.int (nI (1 + r7))]) (wr := []) (yo_mo (c_X9_pass l G M2 (i0 := 0) rfl _ (hps)) hg) (wz_i 0) (List.range 0) (wz_C rfl rfl) (wz_X rfl rfl) (by decide +kernel) (by decide +kernel) (by decide +kernel) (rc_g hC rfl) (ef_sub hC hE (wz_i 0) (wz_C rfl rfl)) kc_yX9_pass km_L_145 ki_yX9_pass kv_yX9_pass kn_RX9 ky_yX9_pass rfl ⟨rfl, rfl⟩ ⟨Nat.le_of_ble_eq_true rfl, Nat.le_of_ble_eq_true rfl⟩ rfl (Nat.le_of_ble_eq_true rfl) ⟨by show k + 0 + 0 ≤ 600086; omega, by show n + 0 + 0 ≤ 7301442; omega⟩ dL_law_473 (fun o w1 h => ?_)
  obtain ⟨rfl, rfl, -⟩ := h
  refine cx_cnt (k' := k + 0) (n' := n + 0) (by omega) (by omega) ?_
  refine cx_at (ws' := ([] ++ WL G M3)) (st' := [.int (M3 29 10 - M2 29 10)]) rfl rfl ?_
  refine cx_iload hC dL_law_476 1 rfl ?_
  refine cx_iload hC dL_law_478 0 rfl ?_
  refine cx_isub hC dL_law_480 ?_
  refine cx_icmp_ne hC 494 dL_law_481 (by decide) (fun h => absurd (by rw [hq1]) h) (fun _ => ?_)
  refine cx_aload_n hC dL_law_484 rfl 9 rfl ?_
  refine cx_iconst hC (5 : Int32) dL_law_485 (by decide) ?_
  refine cx_topi (y := (nI 5)) (rfl) ?_
  refine cy_callV hC (E := RX9) (y := yX9_count) (cy := cX9_count) (maxL := 2) (nA := 1) (r := (some .int)) (rm := (RM 2 0 0 46)) (mc := 0) (ms := 0) (As := [.int (nI 5)]) (wr := []) (yo_mo (c_X9_count l G M3 (i0 := 0) rfl _ (count_v hq3 (k := 5) (by decide))) hg) (wz_i 0) (List.range 0) (wz_C rfl rfl) (wz_X rfl rfl) (by decide +kernel) (by decide +kernel) (by decide +kernel) (rc_g hC rfl) (ef_sub hC hE (wz_i 0) (wz_C rfl rfl)) kc_yX9_count km_L_19 ki_yX9_count kv_yX9_count kn_RX9 ky_yX9_count rfl ⟨rfl, rfl⟩ ⟨Nat.le_of_ble_eq_true rfl, Nat.le_of_ble_eq_true rfl⟩ rfl (Nat.le_of_ble_eq_true rfl) ⟨by show k + 0 + 0 ≤ 600086; omega, by show n + 0 + 0 ≤ 7301442; omega⟩ dL_law_486 (fun o w1 h => ?_)
  obtain ⟨rfl, rfl, -⟩ := h
  refine cx_cnt (k' := k + 0) (n' := n + 0) (by omega) (by omega) ?_
  refine cx_at (ws' := ([] ++ WL G M3)) (st' := [.int (M3 29 10)]) rfl rfl ?_
  refine cx_iload hC dL_law_489 1 rfl ?_
  refine cx_icmp_eq hC 496 dL_law_491 (by decide) (fun _ => ?_) (fun h => absurd (hq1) h)
  refine cx_sub [6, 7, 8, 9, 10] (lv' := [(4, .int (nI t)), (3, .int lost), (2, .int stk), (1, .ref (G.2.1 0)), (0, .ref a)]) rfl ?_
  refine cx_widen (k' := k + 0) (n' := n + 0) (by omega) (by omega) ?_
  exact K M3 (hq3.mono (by omega)) (hq2.trans (hk2 0 (by decide))) hq4
theorem dL_law_502 : decode cL_law 502 = .ok (.iload 8, 2) := by decide +kernel
theorem dL_law_504 : decode cL_law 504 = .ok (.bipush 64, 2) := by decide +kernel
theorem dL_law_506 : decode cL_law 506 = .ok (.if_icmp .ge 211, 3) := by decide +kernel
theorem dL_law_509 : decode cL_law 509 = .ok (.aload_n 1, 1) := by decide +kernel
theorem dL_law_510 : decode cL_law 510 = .ok (.iload 8, 2) := by decide +kernel
theorem dL_law_512 : decode cL_law 512 = .ok (.bipush 8, 2) := by decide +kernel
theorem dL_law_514 : decode cL_law 514 = .ok (.irem, 1) := by decide +kernel
theorem dL_law_515 : decode cL_law 515 = .ok (.iload 8, 2) := by decide +kernel
theorem dL_law_517 : decode cL_law 517 = .ok (.bipush 8, 2) := by decide +kernel
theorem dL_law_519 : decode cL_law 519 = .ok (.idiv, 1) := by decide +kernel
theorem dL_law_520 : decode cL_law 520 = .ok (.iconst 2, 1) := by decide +kernel
theorem dL_law_521 : decode cL_law 521 = .ok (.invokevirtual 61, 3) := by decide +kernel
theorem dL_law_524 : decode cL_law 524 = .ok (.istore 9, 2) := by decide +kernel
theorem dL_law_526 : decode cL_law 526 = .ok (.iload 7, 2) := by decide +kernel
theorem dL_law_528 : decode cL_law 528 = .ok (.iload 9, 2) := by decide +kernel
theorem dL_law_530 : decode cL_law 530 = .ok (.iadd, 1) := by decide +kernel
theorem dL_law_531 : decode cL_law 531 = .ok (.istore 7, 2) := by decide +kernel
theorem dL_law_533 : decode cL_law 533 = .ok (.aload_n 1, 1) := by decide +kernel
theorem dL_law_534 : decode cL_law 534 = .ok (.iload 8, 2) := by decide +kernel
theorem dL_law_536 : decode cL_law 536 = .ok (.bipush 8, 2) := by decide +kernel
theorem dL_law_538 : decode cL_law 538 = .ok (.irem, 1) := by decide +kernel
theorem dL_law_539 : decode cL_law 539 = .ok (.iload 8, 2) := by decide +kernel
theorem dL_law_541 : decode cL_law 541 = .ok (.bipush 8, 2) := by decide +kernel
theorem dL_law_543 : decode cL_law 543 = .ok (.idiv, 1) := by decide +kernel
theorem dL_law_544 : decode cL_law 544 = .ok (.iconst 0, 1) := by decide +kernel
theorem dL_law_545 : decode cL_law 545 = .ok (.invokevirtual 61, 3) := by decide +kernel
theorem dL_law_548 : decode cL_law 548 = .ok (.ifCond .lt 161, 3) := by decide +kernel
theorem dL_law_551 : decode cL_law 551 = .ok (.aload_n 1, 1) := by decide +kernel
theorem dL_law_552 : decode cL_law 552 = .ok (.iload 8, 2) := by decide +kernel
theorem dL_law_554 : decode cL_law 554 = .ok (.bipush 8, 2) := by decide +kernel
theorem dL_law_556 : decode cL_law 556 = .ok (.irem, 1) := by decide +kernel
theorem dL_law_557 : decode cL_law 557 = .ok (.iload 8, 2) := by decide +kernel
theorem dL_law_559 : decode cL_law 559 = .ok (.bipush 8, 2) := by decide +kernel
theorem dL_law_561 : decode cL_law 561 = .ok (.idiv, 1) := by decide +kernel
theorem dL_law_562 : decode cL_law 562 = .ok (.iconst 0, 1) := by decide +kernel
theorem dL_law_563 : decode cL_law 563 = .ok (.invokevirtual 61, 3) := by decide +kernel
theorem dL_law_566 : decode cL_law 566 = .ok (.iload 8, 2) := by decide +kernel
theorem dL_law_568 : decode cL_law 568 = .ok (.ifCond .ne 7, 3) := by decide +kernel
theorem dL_law_571 : decode cL_law 571 = .ok (.iconst 0, 1) := by decide +kernel
theorem dL_law_572 : decode cL_law 572 = .ok (.goto 5, 3) := by decide +kernel
theorem dL_law_577 : decode cL_law 577 = .ok (.if_icmp .gt 132, 3) := by decide +kernel
theorem dL_law_575 : decode cL_law 575 = .ok (.bipush 60, 2) := by decide +kernel
theorem w_D1 {p : Program} {l : Launch} {e : Env} {s : State} {m : MethodId} {args : Array Value} {below : List Frame} {meth : Method} {c : Code} {D : DG} {F : EF} {A : Nat → Prop} {Q : State → Prop} {k n : Nat} (hC : CY p s m args meth c cL_law 12 RL (some .boolean) D A) (hE : ENV F A s s.heap) {a N : Nat} {f : Nat → Int32} {G : GG} (hg : GO D F G) (hm : (a, N, f) ∈ F.2.1) (hN : N < 2147483648) (hT : LTX F) {M : Mm} {H ng : Nat} (hV : LV H ng M) {t : Nat} {lost stk : Int32} (ht24 : t < 24) {j : Nat} {br : Int32} (hj : j < 64) (hk : k + 0 ≤ 600086) (hn : n + 0 ≤ 7301442) (K : XC p l e (RM 2048 600086 7301442 84000) s m args below meth c D A 12 Q (k + 0) (n + 0) ([] ++ WL G M) 580 [(7, .int (br + (M 33 j))), (9, .int (M 33 j)), (8, .int (nI j)), (4, .int (nI t)), (3, .int lost), (2, .int stk), (1, .ref (G.2.1 0)), (0, .ref a)] []) : XC p l e (RM 2048 600086 7301442 84000) s m args below meth c D A 12 Q (k) (n) ([] ++ WL G M) 502 [(8, .int (nI j)), (7, .int br), (4, .int (nI t)), (3, .int lost), (2, .int stk), (1, .ref (G.2.1 0)), (0, .ref a)] [] := by
  have hcell : ∀ kk, kk < 5 → f_X9_cell 0 (nI (j % 8)) (nI (j / 8)) (nI kk) M = some (0, cvC 29 M j kk, M) := fun kk hkk => by have := cell_v M (x := j % 8) (y := j / 8) (k := kk) (by omega) (by omega) hkk; rw [show 8 * (j / 8) + j % 8 = j by omega] at this; exact this
  obtain ⟨bp, bw, bs, bt, bz⟩ : (0 ≤ (M 30 j).toInt ∧ (M 30 j).toInt ≤ 60) ∧ (0 ≤ (M 32 j).toInt ∧ (M 32 j).toInt ≤ 9) ∧ (0 ≤ (M 33 j).toInt ∧ (M 33 j).toInt ≤ 99) ∧ (0 ≤ (M 34 j).toInt ∧ (M 34 j).toInt ≤ 20) ∧ (M 33 j = 0 → M 34 j = 0 ∧ M 35 j = 0) := hV.2.2.2.1.1 j hj
  have b00 : M 30 0 = 0 := hV.2.2.2.1.2
  refine cx_iload hC dL_law_502 0 rfl ?_
  refine cx_bipush hC (64 : Int32) dL_law_504 (by decide) ?_
  refine cx_icmp_ge hC 717 dL_law_506 (by decide) (fun h => absurd h (fun h => by have := (n_le (a := 64) (by omega) (by omega)).mp h; omega)) (fun _ => ?_)
  refine cx_aload_n hC dL_law_509 rfl 5 rfl ?_
  refine cx_iload hC dL_law_510 0 rfl ?_
  refine cx_bipush hC (8 : Int32) dL_law_512 (by decide) ?_
  refine cx_irem hC dL_law_514 (by decide) ?_
  refine cx_topi (y := (nI (j % 8))) ((rem_n (b := 8) (by omega) (by decide) (by decide)).symm) ?_
  refine cx_iload hC dL_law_515 0 rfl ?_
  refine cx_bipush hC (8 : Int32) dL_law_517 (by decide) ?_
  refine cx_idiv hC dL_law_519 (by decide) ?_
  refine cx_topi (y := (nI (j / 8))) ((div_n (b := 8) (by omega) (by decide) (by decide)).symm) ?_
  refine cx_iconst hC (2 : Int32) dL_law_520 (by decide) ?_
  refine cx_topi (y := (nI 2)) (rfl) ?_
  refine cy_callV hC (E := RX9) (y := yX9_cell) (cy := cX9_cell) (maxL := 4) (nA := 3) (r := (some .int)) (rm := (RM 2 0 0 43)) (mc := 0) (ms := 0) (As := [.int (nI (j % 8)), .int (nI (j / 8)), .int (nI 2)]) (wr := []) (yo_mo (c_X9_cell l G M (i0 := 0) rfl _ _ _ (hcell 2 (by decide))) hg) (wz_i 0) (List.range 0) (wz_C rfl rfl) (wz_X rfl rfl) (by decide +kernel) (by decide +kernel) (by decide +kernel) (rc_g hC rfl) (ef_sub hC hE (wz_i 0) (wz_C rfl rfl)) kc_yX9_cell km_L_61 ki_yX9_cell kv_yX9_cell kn_RX9 ky_yX9_cell rfl ⟨rfl, rfl⟩ ⟨Nat.le_of_ble_eq_true rfl, Nat.le_of_ble_eq_true rfl⟩ rfl (Nat.le_of_ble_eq_true rfl) ⟨by show k + 0 + 0 ≤ 600086; omega, by show n + 0 + 0 ≤ 7301442; omega⟩ dL_law_521 (fun o w1 h => ?_)
  obtain ⟨rfl, rfl, -⟩ := h
  refine cx_cnt (k' := k + 0) (n' := n + 0) (by omega) (by omega) ?_
  refine cx_at (ws' := ([] ++ WL G M)) (st' := [.int (M 33 j)]) rfl rfl ?_
  refine cx_istore hC [(9, .int (M 33 j)), (8, .int (nI j)), (7, .int br), (4, .int (nI t)), (3, .int lost), (2, .int stk), (1, .ref (G.2.1 0)), (0, .ref a)] dL_law_524 (Nat.le_of_ble_eq_true rfl) rfl ?_
  refine cx_iload hC dL_law_526 2 rfl ?_
  refine cx_iload hC dL_law_528 0 rfl ?_
  refine cx_iadd hC dL_law_530 ?_
  refine cx_istore hC [(7, .int (br + (M 33 j))), (9, .int (M 33 j)), (8, .int (nI j)), (4, .int (nI t)), (3, .int lost), (2, .int stk), (1, .ref (G.2.1 0)), (0, .ref a)] dL_law_531 (Nat.le_of_ble_eq_true rfl) rfl ?_
  refine cx_aload_n hC dL_law_533 rfl 6 rfl ?_
  refine cx_iload hC dL_law_534 2 rfl ?_
  refine cx_bipush hC (8 : Int32) dL_law_536 (by decide) ?_
  refine cx_irem hC dL_law_538 (by decide) ?_
  refine cx_topi (y := (nI (j % 8))) ((rem_n (b := 8) (by omega) (by decide) (by decide)).symm) ?_
  refine cx_iload hC dL_law_539 2 rfl ?_
  refine cx_bipush hC (8 : Int32) dL_law_541 (by decide) ?_
  refine cx_idiv hC dL_law_543 (by decide) ?_
  refine cx_topi (y := (nI (j / 8))) ((div_n (b := 8) (by omega) (by decide) (by decide)).symm) ?_
  refine cx_iconst hC (0 : Int32) dL_law_544 (by decide) ?_
  refine cx_topi (y := (nI 0)) (rfl) ?_
  refine cy_callV hC (E := RX9) (y := yX9_cell) (cy := cX9_cell) (maxL := 4) (nA := 3) (r := (some .int)) (rm := (RM 2 0 0 43)) (mc := 0) (ms := 0) (As := [.int (nI (j % 8)), .int (nI (j / 8)), .int (nI 0)]) (wr := []) (yo_mo (c_X9_cell l G M (i0 := 0) rfl _ _ _ (hcell 0 (by decide))) hg) (wz_i 0) (List.range 0) (wz_C rfl rfl) (wz_X rfl rfl) (by decide +kernel) (by decide +kernel) (by decide +kernel) (rc_g hC rfl) (ef_sub hC hE (wz_i 0) (wz_C rfl rfl)) kc_yX9_cell km_L_61 ki_yX9_cell kv_yX9_cell kn_RX9 ky_yX9_cell rfl ⟨rfl, rfl⟩ ⟨Nat.le_of_ble_eq_true rfl, Nat.le_of_ble_eq_true rfl⟩ rfl (Nat.le_of_ble_eq_true rfl) ⟨by show k + 0 + 0 ≤ 600086; omega, by show n + 0 + 0 ≤ 7301442; omega⟩ dL_law_545 (fun o w1 h => ?_)
  obtain ⟨rfl, rfl, -⟩ := h
  refine cx_cnt (k' := k + 0) (n' := n + 0) (by omega) (by omega) ?_
  refine cx_at (ws' := ([] ++ WL G M)) (st' := [.int (M 30 j)]) rfl rfl ?_
  refine cx_if_lt hC 709 dL_law_548 (by decide) (fun h => absurd h (fun h => by have := i_lt.mp h; have z : (0 : Int32).toInt = 0 := rfl; omega)) (fun _ => ?_)
  refine cx_aload_n hC dL_law_551 rfl 6 rfl ?_
  refine cx_iload hC dL_law_552 2 rfl ?_
  refine cx_bipush hC (8 : Int32) dL_law_554 (by decide) ?_
  refine cx_irem hC dL_law_556 (by decide) ?_
  refine cx_topi (y := (nI (j % 8))) ((rem_n (b := 8) (by omega) (by decide) (by decide)).symm) ?_
  refine cx_iload hC dL_law_557 2 rfl ?_
  refine cx_bipush hC (8 : Int32) dL_law_559 (by decide) ?_
  refine cx_idiv hC dL_law_561 (by decide) ?_
  refine cx_topi (y := (nI (j / 8))) ((div_n (b := 8) (by omega) (by decide) (by decide)).symm) ?_
  refine cx_iconst hC (0 : Int32) dL_law_562 (by decide) ?_
  refine cx_topi (y := (nI 0)) (rfl) ?_
  refine cy_callV hC (E := RX9) (y := yX9_cell) (cy := cX9_cell) (maxL := 4) (nA := 3) (r := (some .int)) (rm := (RM 2 0 0 43)) (mc := 0) (ms := 0) (As := [.int (nI (j % 8)), .int (nI (j / 8)), .int (nI 0)]) (wr := []) (yo_mo (c_X9_cell l G M (i0 := 0) rfl _ _ _ (hcell 0 (by decide))) hg) (wz_i 0) (List.range 0) (wz_C rfl rfl) (wz_X rfl rfl) (by decide +kernel) (by decide +kernel) (by decide +kernel) (rc_g hC rfl) (ef_sub hC hE (wz_i 0) (wz_C rfl rfl)) kc_yX9_cell km_L_61 ki_yX9_cell kv_yX9_cell kn_RX9 ky_yX9_cell rfl ⟨rfl, rfl⟩ ⟨Nat.le_of_ble_eq_true rfl, Nat.le_of_ble_eq_true rfl⟩ rfl (Nat.le_of_ble_eq_true rfl) ⟨by show k + 0 + 0 ≤ 600086; omega, by show n + 0 + 0 ≤ 7301442; omega⟩ dL_law_563 (fun o w1 h => ?_)
  obtain ⟨rfl, rfl, -⟩ := h
  refine cx_cnt (k' := k + 0) (n' := n + 0) (by omega) (by omega) ?_
  refine cx_at (ws' := ([] ++ WL G M)) (st' := [.int (M 30 j)]) rfl rfl ?_
  refine cx_iload hC dL_law_566 2 rfl ?_
  by_cases hc : j = 0
  · skip
    refine cx_if_ne hC 575 dL_law_568 (by decide) (fun h => absurd (by rw [hc]; rfl) h) (fun _ => ?_)
    refine cx_iconst hC (0 : Int32) dL_law_571 (by decide) ?_
    refine cx_goto hC 577 dL_law_572 (by decide) ?_
    refine cx_icmp_gt hC 709 dL_law_577 (by decide) (fun h => absurd h (fun h => by rw [hc, b00] at h; exact absurd h (by decide))) (fun _ => ?_)
    refine cx_widen (k' := k + 0) (n' := n + 0) (by omega) (by omega) ?_
    exact K
  · skip
    refine cx_if_ne hC 575 dL_law_568 (by decide) (fun _ => ?_) (fun h => absurd h (fun h => hc ((n_inj (b := 0) (by omega) (by omega)).mp h)))
    refine cx_bipush hC (60 : Int32) dL_law_575 (by decide) ?_
    refine cx_icmp_gt hC 709 dL_law_577 (by decide) (fun h => absurd h (fun h => by have := i_lt.mp h; have z : (60 : Int32).toInt = 60 := rfl; omega)) (fun _ => ?_)
    refine cx_widen (k' := k + 0) (n' := n + 0) (by omega) (by omega) ?_
    exact K
theorem dL_law_580 : decode cL_law 580 = .ok (.aload_n 1, 1) := by decide +kernel
theorem dL_law_581 : decode cL_law 581 = .ok (.iload 8, 2) := by decide +kernel
theorem dL_law_583 : decode cL_law 583 = .ok (.bipush 8, 2) := by decide +kernel
theorem dL_law_585 : decode cL_law 585 = .ok (.irem, 1) := by decide +kernel
theorem dL_law_586 : decode cL_law 586 = .ok (.iload 8, 2) := by decide +kernel
theorem dL_law_588 : decode cL_law 588 = .ok (.bipush 8, 2) := by decide +kernel
theorem dL_law_590 : decode cL_law 590 = .ok (.idiv, 1) := by decide +kernel
theorem dL_law_591 : decode cL_law 591 = .ok (.iconst 1, 1) := by decide +kernel
theorem dL_law_592 : decode cL_law 592 = .ok (.invokevirtual 61, 3) := by decide +kernel
theorem dL_law_595 : decode cL_law 595 = .ok (.ifCond .lt 114, 3) := by decide +kernel
theorem dL_law_598 : decode cL_law 598 = .ok (.aload_n 1, 1) := by decide +kernel
theorem dL_law_599 : decode cL_law 599 = .ok (.iload 8, 2) := by decide +kernel
theorem dL_law_601 : decode cL_law 601 = .ok (.bipush 8, 2) := by decide +kernel
theorem dL_law_603 : decode cL_law 603 = .ok (.irem, 1) := by decide +kernel
theorem dL_law_604 : decode cL_law 604 = .ok (.iload 8, 2) := by decide +kernel
theorem dL_law_606 : decode cL_law 606 = .ok (.bipush 8, 2) := by decide +kernel
theorem dL_law_608 : decode cL_law 608 = .ok (.idiv, 1) := by decide +kernel
theorem dL_law_609 : decode cL_law 609 = .ok (.iconst 1, 1) := by decide +kernel
theorem dL_law_610 : decode cL_law 610 = .ok (.invokevirtual 61, 3) := by decide +kernel
theorem dL_law_613 : decode cL_law 613 = .ok (.bipush 9, 2) := by decide +kernel
theorem dL_law_615 : decode cL_law 615 = .ok (.if_icmp .gt 94, 3) := by decide +kernel
theorem dL_law_618 : decode cL_law 618 = .ok (.iload 9, 2) := by decide +kernel
theorem dL_law_620 : decode cL_law 620 = .ok (.ifCond .lt 89, 3) := by decide +kernel
theorem dL_law_623 : decode cL_law 623 = .ok (.iload 9, 2) := by decide +kernel
theorem dL_law_625 : decode cL_law 625 = .ok (.bipush 99, 2) := by decide +kernel
theorem dL_law_627 : decode cL_law 627 = .ok (.if_icmp .gt 82, 3) := by decide +kernel
theorem dL_law_630 : decode cL_law 630 = .ok (.aload_n 1, 1) := by decide +kernel
theorem dL_law_631 : decode cL_law 631 = .ok (.iload 8, 2) := by decide +kernel
theorem dL_law_633 : decode cL_law 633 = .ok (.bipush 8, 2) := by decide +kernel
theorem dL_law_635 : decode cL_law 635 = .ok (.irem, 1) := by decide +kernel
theorem dL_law_636 : decode cL_law 636 = .ok (.iload 8, 2) := by decide +kernel
theorem dL_law_638 : decode cL_law 638 = .ok (.bipush 8, 2) := by decide +kernel
theorem dL_law_640 : decode cL_law 640 = .ok (.idiv, 1) := by decide +kernel
theorem dL_law_641 : decode cL_law 641 = .ok (.iconst 3, 1) := by decide +kernel
theorem dL_law_642 : decode cL_law 642 = .ok (.invokevirtual 61, 3) := by decide +kernel
theorem dL_law_645 : decode cL_law 645 = .ok (.ifCond .lt 64, 3) := by decide +kernel
theorem dL_law_648 : decode cL_law 648 = .ok (.aload_n 1, 1) := by decide +kernel
theorem dL_law_649 : decode cL_law 649 = .ok (.iload 8, 2) := by decide +kernel
theorem dL_law_651 : decode cL_law 651 = .ok (.bipush 8, 2) := by decide +kernel
theorem dL_law_653 : decode cL_law 653 = .ok (.irem, 1) := by decide +kernel
theorem dL_law_654 : decode cL_law 654 = .ok (.iload 8, 2) := by decide +kernel
theorem dL_law_656 : decode cL_law 656 = .ok (.bipush 8, 2) := by decide +kernel
theorem dL_law_658 : decode cL_law 658 = .ok (.idiv, 1) := by decide +kernel
theorem dL_law_659 : decode cL_law 659 = .ok (.iconst 3, 1) := by decide +kernel
theorem dL_law_660 : decode cL_law 660 = .ok (.invokevirtual 61, 3) := by decide +kernel
theorem dL_law_663 : decode cL_law 663 = .ok (.bipush 20, 2) := by decide +kernel
theorem dL_law_665 : decode cL_law 665 = .ok (.if_icmp .gt 44, 3) := by decide +kernel
theorem dL_law_668 : decode cL_law 668 = .ok (.iload 9, 2) := by decide +kernel
theorem dL_law_670 : decode cL_law 670 = .ok (.ifCond .ne 41, 3) := by decide +kernel
theorem dL_law_673 : decode cL_law 673 = .ok (.aload_n 1, 1) := by decide +kernel
theorem dL_law_674 : decode cL_law 674 = .ok (.iload 8, 2) := by decide +kernel
theorem dL_law_676 : decode cL_law 676 = .ok (.bipush 8, 2) := by decide +kernel
theorem dL_law_678 : decode cL_law 678 = .ok (.irem, 1) := by decide +kernel
theorem dL_law_679 : decode cL_law 679 = .ok (.iload 8, 2) := by decide +kernel
theorem dL_law_681 : decode cL_law 681 = .ok (.bipush 8, 2) := by decide +kernel
theorem dL_law_683 : decode cL_law 683 = .ok (.idiv, 1) := by decide +kernel
theorem dL_law_684 : decode cL_law 684 = .ok (.iconst 3, 1) := by decide +kernel
theorem dL_law_685 : decode cL_law 685 = .ok (.invokevirtual 61, 3) := by decide +kernel
theorem dL_law_688 : decode cL_law 688 = .ok (.ifCond .ne 21, 3) := by decide +kernel
theorem dL_law_691 : decode cL_law 691 = .ok (.aload_n 1, 1) := by decide +kernel
theorem dL_law_692 : decode cL_law 692 = .ok (.iload 8, 2) := by decide +kernel
theorem dL_law_694 : decode cL_law 694 = .ok (.bipush 8, 2) := by decide +kernel
theorem dL_law_696 : decode cL_law 696 = .ok (.irem, 1) := by decide +kernel
theorem dL_law_697 : decode cL_law 697 = .ok (.iload 8, 2) := by decide +kernel
theorem dL_law_699 : decode cL_law 699 = .ok (.bipush 8, 2) := by decide +kernel
theorem dL_law_701 : decode cL_law 701 = .ok (.idiv, 1) := by decide +kernel
theorem dL_law_702 : decode cL_law 702 = .ok (.iconst 4, 1) := by decide +kernel
theorem dL_law_703 : decode cL_law 703 = .ok (.invokevirtual 61, 3) := by decide +kernel
theorem dL_law_706 : decode cL_law 706 = .ok (.ifCond .eq 5, 3) := by decide +kernel
theorem dL_law_711 : decode cL_law 711 = .ok (.iinc 8 1, 3) := by decide +kernel
theorem dL_law_714 : decode cL_law 714 = .ok (.goto (-212), 3) := by decide +kernel
theorem w_D2 {p : Program} {l : Launch} {e : Env} {s : State} {m : MethodId} {args : Array Value} {below : List Frame} {meth : Method} {c : Code} {D : DG} {F : EF} {A : Nat → Prop} {Q : State → Prop} {k n : Nat} (hC : CY p s m args meth c cL_law 12 RL (some .boolean) D A) (hE : ENV F A s s.heap) {a N : Nat} {f : Nat → Int32} {G : GG} (hg : GO D F G) (hm : (a, N, f) ∈ F.2.1) (hN : N < 2147483648) (hT : LTX F) {M : Mm} {H ng : Nat} (hV : LV H ng M) {t : Nat} {lost stk : Int32} (ht24 : t < 24) {j : Nat} {br : Int32} (hj : j < 64) (hk : k + 0 ≤ 600086) (hn : n + 0 ≤ 7301442) (K : XC p l e (RM 2048 600086 7301442 84000) s m args below meth c D A 12 Q (k + 0) (n + 0) ([] ++ WL G M) 502 [(8, .int (nI (j + 1))), (7, .int (br + M 33 j)), (4, .int (nI t)), (3, .int lost), (2, .int stk), (1, .ref (G.2.1 0)), (0, .ref a)] []) : XC p l e (RM 2048 600086 7301442 84000) s m args below meth c D A 12 Q (k) (n) ([] ++ WL G M) 580 [(7, .int (br + M 33 j)), (9, .int (M 33 j)), (8, .int (nI j)), (4, .int (nI t)), (3, .int lost), (2, .int stk), (1, .ref (G.2.1 0)), (0, .ref a)] [] := by
  have hcell : ∀ kk, kk < 5 → f_X9_cell 0 (nI (j % 8)) (nI (j / 8)) (nI kk) M = some (0, cvC 29 M j kk, M) := fun kk hkk => by have := cell_v M (x := j % 8) (y := j / 8) (k := kk) (by omega) (by omega) hkk; rw [show 8 * (j / 8) + j % 8 = j by omega] at this; exact this
  obtain ⟨bp, bw, bs, bt, bz⟩ : (0 ≤ (M 30 j).toInt ∧ (M 30 j).toInt ≤ 60) ∧ (0 ≤ (M 32 j).toInt ∧ (M 32 j).toInt ≤ 9) ∧ (0 ≤ (M 33 j).toInt ∧ (M 33 j).toInt ≤ 99) ∧ (0 ≤ (M 34 j).toInt ∧ (M 34 j).toInt ≤ 20) ∧ (M 33 j = 0 → M 34 j = 0 ∧ M 35 j = 0) := hV.2.2.2.1.1 j hj
  have b00 : M 30 0 = 0 := hV.2.2.2.1.2
  refine cx_aload_n hC dL_law_580 rfl 6 rfl ?_
  refine cx_iload hC dL_law_581 2 rfl ?_
  refine cx_bipush hC (8 : Int32) dL_law_583 (by decide) ?_
  refine cx_irem hC dL_law_585 (by decide) ?_
  refine cx_topi (y := (nI (j % 8))) ((rem_n (b := 8) (by omega) (by decide) (by decide)).symm) ?_
  refine cx_iload hC dL_law_586 2 rfl ?_
  refine cx_bipush hC (8 : Int32) dL_law_588 (by decide) ?_
  refine cx_idiv hC dL_law_590 (by decide) ?_
  refine cx_topi (y := (nI (j / 8))) ((div_n (b := 8) (by omega) (by decide) (by decide)).symm) ?_
  refine cx_iconst hC (1 : Int32) dL_law_591 (by decide) ?_
  refine cx_topi (y := (nI 1)) (rfl) ?_
  refine cy_callV hC (E := RX9) (y := yX9_cell) (cy := cX9_cell) (maxL := 4) (nA := 3) (r := (some .int)) (rm := (RM 2 0 0 43)) (mc := 0) (ms := 0) (As := [.int (nI (j % 8)), .int (nI (j / 8)), .int (nI 1)]) (wr := []) (yo_mo (c_X9_cell l G M (i0 := 0) rfl _ _ _ (hcell 1 (by decide))) hg) (wz_i 0) (List.range 0) (wz_C rfl rfl) (wz_X rfl rfl) (by decide +kernel) (by decide +kernel) (by decide +kernel) (rc_g hC rfl) (ef_sub hC hE (wz_i 0) (wz_C rfl rfl)) kc_yX9_cell km_L_61 ki_yX9_cell kv_yX9_cell kn_RX9 ky_yX9_cell rfl ⟨rfl, rfl⟩ ⟨Nat.le_of_ble_eq_true rfl, Nat.le_of_ble_eq_true rfl⟩ rfl (Nat.le_of_ble_eq_true rfl) ⟨by show k + 0 + 0 ≤ 600086; omega, by show n + 0 + 0 ≤ 7301442; omega⟩ dL_law_592 (fun o w1 h => ?_)
  obtain ⟨rfl, rfl, -⟩ := h
  refine cx_cnt (k' := k + 0) (n' := n + 0) (by omega) (by omega) ?_
  refine cx_at (ws' := ([] ++ WL G M)) (st' := [.int (M 32 j)]) rfl rfl ?_
  refine cx_if_lt hC 709 dL_law_595 (by decide) (fun h => absurd h (fun h => by have := i_lt.mp h; have z : (0 : Int32).toInt = 0 := rfl; omega)) (fun _ => ?_)
  refine cx_aload_n hC dL_law_598 rfl 6 rfl ?_
  refine cx_iload hC dL_law_599 2 rfl ?_
  refine cx_bipush hC (8 : Int32) dL_law_601 (by decide) ?_
  refine cx_irem hC dL_law_603 (by decide) ?_
  refine cx_topi (y := (nI (j % 8))) ((rem_n (b := 8) (by omega) (by decide) (by decide)).symm) ?_
  refine cx_iload hC dL_law_604 2 rfl ?_
  refine cx_bipush hC (8 : Int32) dL_law_606 (by decide) ?_
  refine cx_idiv hC dL_law_608 (by decide) ?_
  refine cx_topi (y := (nI (j / 8))) ((div_n (b := 8) (by omega) (by decide) (by decide)).symm) ?_
  refine cx_iconst hC (1 : Int32) dL_law_609 (by decide) ?_
  refine cx_topi (y := (nI 1)) (rfl) ?_
  refine cy_callV hC (E := RX9) (y := yX9_cell) (cy := cX9_cell) (maxL := 4) (nA := 3) (r := (some .int)) (rm := (RM 2 0 0 43)) (mc := 0) (ms := 0) (As := [.int (nI (j % 8)), .int (nI (j / 8)), .int (nI 1)]) (wr := []) (yo_mo (c_X9_cell l G M (i0 := 0) rfl _ _ _ (hcell 1 (by decide))) hg) (wz_i 0) (List.range 0) (wz_C rfl rfl) (wz_X rfl rfl) (by decide +kernel) (by decide +kernel) (by decide +kernel) (rc_g hC rfl) (ef_sub hC hE (wz_i 0) (wz_C rfl rfl)) kc_yX9_cell km_L_61 ki_yX9_cell kv_yX9_cell kn_RX9 ky_yX9_cell rfl ⟨rfl, rfl⟩ ⟨Nat.le_of_ble_eq_true rfl, Nat.le_of_ble_eq_true rfl⟩ rfl (Nat.le_of_ble_eq_true rfl) ⟨by show k + 0 + 0 ≤ 600086; omega, by show n + 0 + 0 ≤ 7301442; omega⟩ dL_law_610 (fun o w1 h => ?_)
  obtain ⟨rfl, rfl, -⟩ := h
  refine cx_cnt (k' := k + 0) (n' := n + 0) (by omega) (by omega) ?_
  refine cx_at (ws' := ([] ++ WL G M)) (st' := [.int (M 32 j)]) rfl rfl ?_
  refine cx_bipush hC (9 : Int32) dL_law_613 (by decide) ?_
  refine cx_icmp_gt hC 709 dL_law_615 (by decide) (fun h => absurd h (fun h => by have := i_lt.mp h; have z : (9 : Int32).toInt = 9 := rfl; omega)) (fun _ => ?_)
  refine cx_iload hC dL_law_618 1 rfl ?_
  refine cx_if_lt hC 709 dL_law_620 (by decide) (fun h => absurd h (fun h => by have := i_lt.mp h; have z : (0 : Int32).toInt = 0 := rfl; omega)) (fun _ => ?_)
  refine cx_iload hC dL_law_623 1 rfl ?_
  refine cx_bipush hC (99 : Int32) dL_law_625 (by decide) ?_
  refine cx_icmp_gt hC 709 dL_law_627 (by decide) (fun h => absurd h (fun h => by have := i_lt.mp h; have z : (99 : Int32).toInt = 99 := rfl; omega)) (fun _ => ?_)
  refine cx_aload_n hC dL_law_630 rfl 6 rfl ?_
  refine cx_iload hC dL_law_631 2 rfl ?_
  refine cx_bipush hC (8 : Int32) dL_law_633 (by decide) ?_
  refine cx_irem hC dL_law_635 (by decide) ?_
  refine cx_topi (y := (nI (j % 8))) ((rem_n (b := 8) (by omega) (by decide) (by decide)).symm) ?_
  refine cx_iload hC dL_law_636 2 rfl ?_
  refine cx_bipush hC (8 : Int32) dL_law_638 (by decide) ?_
  refine cx_idiv hC dL_law_640 (by decide) ?_
  refine cx_topi (y := (nI (j / 8))) ((div_n (b := 8) (by omega) (by decide) (by decide)).symm) ?_
  refine cx_iconst hC (3 : Int32) dL_law_641 (by decide) ?_
  refine cx_topi (y := (nI 3)) (rfl) ?_
  refine cy_callV hC (E := RX9) (y := yX9_cell) (cy := cX9_cell) (maxL := 4) (nA := 3) (r := (some .int)) (rm := (RM 2 0 0 43)) (mc := 0) (ms := 0) (As := [.int (nI (j % 8)), .int (nI (j / 8)), .int (nI 3)]) (wr := []) (yo_mo (c_X9_cell l G M (i0 := 0) rfl _ _ _ (hcell 3 (by decide))) hg) (wz_i 0) (List.range 0) (wz_C rfl rfl) (wz_X rfl rfl) (by decide +kernel) (by decide +kernel) (by decide +kernel) (rc_g hC rfl) (ef_sub hC hE (wz_i 0) (wz_C rfl rfl)) kc_yX9_cell km_L_61 ki_yX9_cell kv_yX9_cell kn_RX9 ky_yX9_cell rfl ⟨rfl, rfl⟩ ⟨Nat.le_of_ble_eq_true rfl, Nat.le_of_ble_eq_true rfl⟩ rfl (Nat.le_of_ble_eq_true rfl) ⟨by show k + 0 + 0 ≤ 600086; omega, by show n + 0 + 0 ≤ 7301442; omega⟩ dL_law_642 (fun o w1 h => ?_)
  obtain ⟨rfl, rfl, -⟩ := h
  refine cx_cnt (k' := k + 0) (n' := n + 0) (by omega) (by omega) ?_
  refine cx_at (ws' := ([] ++ WL G M)) (st' := [.int (M 34 j)]) rfl rfl ?_
  refine cx_if_lt hC 709 dL_law_645 (by decide) (fun h => absurd h (fun h => by have := i_lt.mp h; have z : (0 : Int32).toInt = 0 := rfl; omega)) (fun _ => ?_)
  refine cx_aload_n hC dL_law_648 rfl 6 rfl ?_
  refine cx_iload hC dL_law_649 2 rfl ?_
  refine cx_bipush hC (8 : Int32) dL_law_651 (by decide) ?_
  refine cx_irem hC dL_law_653 (by decide) ?_
  refine cx_topi (y := (nI (j % 8))) ((rem_n (b := 8) (by omega) (by decide) (by decide)).symm) ?_
  refine cx_iload hC dL_law_654 2 rfl ?_
  refine cx_bipush hC (8 : Int32) dL_law_656 (by decide) ?_
  refine cx_idiv hC dL_law_658 (by decide) ?_
  refine cx_topi (y := (nI (j / 8))) ((div_n (b := 8) (by omega) (by decide) (by decide)).symm) ?_
  refine cx_iconst hC (3 : Int32) dL_law_659 (by decide) ?_
  refine cx_topi (y := (nI 3)) (rfl) ?_
  refine cy_callV hC (E := RX9) (y := yX9_cell) (cy := cX9_cell) (maxL := 4) (nA := 3) (r := (some .int)) (rm := (RM 2 0 0 43)) (mc := 0) (ms := 0) (As := [.int (nI (j % 8)), .int (nI (j / 8)), .int (nI 3)]) (wr := []) (yo_mo (c_X9_cell l G M (i0 := 0) rfl _ _ _ (hcell 3 (by decide))) hg) (wz_i 0) (List.range 0) (wz_C rfl rfl) (wz_X rfl rfl) (by decide +kernel) (by decide +kernel) (by decide +kernel) (rc_g hC rfl) (ef_sub hC hE (wz_i 0) (wz_C rfl rfl)) kc_yX9_cell km_L_61 ki_yX9_cell kv_yX9_cell kn_RX9 ky_yX9_cell rfl ⟨rfl, rfl⟩ ⟨Nat.le_of_ble_eq_true rfl, Nat.le_of_ble_eq_true rfl⟩ rfl (Nat.le_of_ble_eq_true rfl) ⟨by show k + 0 + 0 ≤ 600086; omega, by show n + 0 + 0 ≤ 7301442; omega⟩ dL_law_660 (fun o w1 h => ?_)
  obtain ⟨rfl, rfl, -⟩ := h
  refine cx_cnt (k' := k + 0) (n' := n + 0) (by omega) (by omega) ?_
  refine cx_at (ws' := ([] ++ WL G M)) (st' := [.int (M 34 j)]) rfl rfl ?_
  refine cx_bipush hC (20 : Int32) dL_law_663 (by decide) ?_
  refine cx_icmp_gt hC 709 dL_law_665 (by decide) (fun h => absurd h (fun h => by have := i_lt.mp h; have z : (20 : Int32).toInt = 20 := rfl; omega)) (fun _ => ?_)
  refine cx_iload hC dL_law_668 1 rfl ?_
  by_cases hc : M 33 j = 0
  · skip
    refine cx_if_ne hC 711 dL_law_670 (by decide) (fun h => absurd (hc) h) (fun _ => ?_)
    refine cx_aload_n hC dL_law_673 rfl 6 rfl ?_
    refine cx_iload hC dL_law_674 2 rfl ?_
    refine cx_bipush hC (8 : Int32) dL_law_676 (by decide) ?_
    refine cx_irem hC dL_law_678 (by decide) ?_
    refine cx_topi (y := (nI (j % 8))) ((rem_n (b := 8) (by omega) (by decide) (by decide)).symm) ?_
    refine cx_iload hC dL_law_679 2 rfl ?_
    refine cx_bipush hC (8 : Int32) dL_law_681 (by decide) ?_
    refine cx_idiv hC dL_law_683 (by decide) ?_
    refine cx_topi (y := (nI (j / 8))) ((div_n (b := 8) (by omega) (by decide) (by decide)).symm) ?_
    refine cx_iconst hC (3 : Int32) dL_law_684 (by decide) ?_
    refine cx_topi (y := (nI 3)) (rfl) ?_
    refine cy_callV hC (E := RX9) (y := yX9_cell) (cy := cX9_cell) (maxL := 4) (nA := 3) (r := (some .int)) (rm := (RM 2 0 0 43)) (mc := 0) (ms := 0) (As := [.int (nI (j % 8)), .int (nI (j / 8)), .int (nI 3)]) (wr := []) (yo_mo (c_X9_cell l G M (i0 := 0) rfl _ _ _ (hcell 3 (by decide))) hg) (wz_i 0) (List.range 0) (wz_C rfl rfl) (wz_X rfl rfl) (by decide +kernel) (by decide +kernel) (by decide +kernel) (rc_g hC rfl) (ef_sub hC hE (wz_i 0) (wz_C rfl rfl)) kc_yX9_cell km_L_61 ki_yX9_cell kv_yX9_cell kn_RX9 ky_yX9_cell rfl ⟨rfl, rfl⟩ ⟨Nat.le_of_ble_eq_true rfl, Nat.le_of_ble_eq_true rfl⟩ rfl (Nat.le_of_ble_eq_true rfl) ⟨by show k + 0 + 0 ≤ 600086; omega, by show n + 0 + 0 ≤ 7301442; omega⟩ dL_law_685 (fun o w1 h => ?_)
    obtain ⟨rfl, rfl, -⟩ := h
    refine cx_cnt (k' := k + 0) (n' := n + 0) (by omega) (by omega) ?_
    refine cx_at (ws' := ([] ++ WL G M)) (st' := [.int (M 34 j)]) rfl rfl ?_
    refine cx_if_ne hC 709 dL_law_688 (by decide) (fun h => absurd ((bz hc).1) h) (fun _ => ?_)
    refine cx_aload_n hC dL_law_691 rfl 6 rfl ?_
    refine cx_iload hC dL_law_692 2 rfl ?_
    refine cx_bipush hC (8 : Int32) dL_law_694 (by decide) ?_
    refine cx_irem hC dL_law_696 (by decide) ?_
    refine cx_topi (y := (nI (j % 8))) ((rem_n (b := 8) (by omega) (by decide) (by decide)).symm) ?_
    refine cx_iload hC dL_law_697 2 rfl ?_
    refine cx_bipush hC (8 : Int32) dL_law_699 (by decide) ?_
    refine cx_idiv hC dL_law_701 (by decide) ?_
    refine cx_topi (y := (nI (j / 8))) ((div_n (b := 8) (by omega) (by decide) (by decide)).symm) ?_
    refine cx_iconst hC (4 : Int32) dL_law_702 (by decide) ?_
    refine cx_topi (y := (nI 4)) (rfl) ?_
    refine cy_callV hC (E := RX9) (y := yX9_cell) (cy := cX9_cell) (maxL := 4) (nA := 3) (r := (some .int)) (rm := (RM 2 0 0 43)) (mc := 0) (ms := 0) (As := [.int (nI (j % 8)), .int (nI (j / 8)), .int (nI 4)]) (wr := []) (yo_mo (c_X9_cell l G M (i0 := 0) rfl _ _ _ (hcell 4 (by decide))) hg) (wz_i 0) (List.range 0) (wz_C rfl rfl) (wz_X rfl rfl) (by decide +kernel) (by decide +kernel) (by decide +kernel) (rc_g hC rfl) (ef_sub hC hE (wz_i 0) (wz_C rfl rfl)) kc_yX9_cell km_L_61 ki_yX9_cell kv_yX9_cell kn_RX9 ky_yX9_cell rfl ⟨rfl, rfl⟩ ⟨Nat.le_of_ble_eq_true rfl, Nat.le_of_ble_eq_true rfl⟩ rfl (Nat.le_of_ble_eq_true rfl) ⟨by show k + 0 + 0 ≤ 600086; omega, by show n + 0 + 0 ≤ 7301442; omega⟩ dL_law_703 (fun o w1 h => ?_)
    obtain ⟨rfl, rfl, -⟩ := h
    refine cx_cnt (k' := k + 0) (n' := n + 0) (by omega) (by omega) ?_
    refine cx_at (ws' := ([] ++ WL G M)) (st' := [.int (M 35 j)]) rfl rfl ?_
    refine cx_if_eq hC 711 dL_law_706 (by decide) (fun _ => ?_) (fun h => absurd ((bz hc).2) h)
    refine cx_iinc hC [(8, .int (nI (j + 1))), (7, .int (br + M 33 j)), (9, .int (M 33 j)), (4, .int (nI t)), (3, .int lost), (2, .int stk), (1, .ref (G.2.1 0)), (0, .ref a)] dL_law_711 2 rfl (v := (nI (j + 1))) (n_suc j) (Nat.le_of_ble_eq_true rfl) rfl ?_
    refine cx_goto hC 502 dL_law_714 (by decide) ?_
    refine cx_sub [0, 1, 3, 4, 5, 6, 7] (lv' := [(8, .int (nI (j + 1))), (7, .int (br + M 33 j)), (4, .int (nI t)), (3, .int lost), (2, .int stk), (1, .ref (G.2.1 0)), (0, .ref a)]) rfl ?_
    refine cx_widen (k' := k + 0) (n' := n + 0) (by omega) (by omega) ?_
    exact K
  · skip
    refine cx_if_ne hC 711 dL_law_670 (by decide) (fun _ => ?_) (fun h => absurd h (hc))
    refine cx_iinc hC [(8, .int (nI (j + 1))), (7, .int (br + M 33 j)), (9, .int (M 33 j)), (4, .int (nI t)), (3, .int lost), (2, .int stk), (1, .ref (G.2.1 0)), (0, .ref a)] dL_law_711 2 rfl (v := (nI (j + 1))) (n_suc j) (Nat.le_of_ble_eq_true rfl) rfl ?_
    refine cx_goto hC 502 dL_law_714 (by decide) ?_
    refine cx_sub [0, 1, 3, 4, 5, 6, 7] (lv' := [(8, .int (nI (j + 1))), (7, .int (br + M 33 j)), (4, .int (nI t)), (3, .int lost), (2, .int stk), (1, .ref (G.2.1 0)), (0, .ref a)]) rfl ?_
    refine cx_widen (k' := k + 0) (n' := n + 0) (by omega) (by omega) ?_
    exact K
theorem dL_law_723 : decode cL_law 723 = .ok (.iload 9, 2) := by decide +kernel
theorem dL_law_725 : decode cL_law 725 = .ok (.aload_n 1, 1) := by decide +kernel
theorem dL_law_726 : decode cL_law 726 = .ok (.iconst 2, 1) := by decide +kernel
theorem dL_law_727 : decode cL_law 727 = .ok (.invokevirtual 19, 3) := by decide +kernel
theorem dL_law_730 : decode cL_law 730 = .ok (.if_icmp .ge 158, 3) := by decide +kernel
theorem dL_law_733 : decode cL_law 733 = .ok (.iload 8, 2) := by decide +kernel
theorem dL_law_735 : decode cL_law 735 = .ok (.aload_n 1, 1) := by decide +kernel
theorem dL_law_736 : decode cL_law 736 = .ok (.iload 9, 2) := by decide +kernel
theorem dL_law_738 : decode cL_law 738 = .ok (.iconst 2, 1) := by decide +kernel
theorem dL_law_739 : decode cL_law 739 = .ok (.invokevirtual 148, 3) := by decide +kernel
theorem dL_law_742 : decode cL_law 742 = .ok (.iadd, 1) := by decide +kernel
theorem dL_law_743 : decode cL_law 743 = .ok (.istore 8, 2) := by decide +kernel
theorem dL_law_745 : decode cL_law 745 = .ok (.aload_n 1, 1) := by decide +kernel
theorem dL_law_746 : decode cL_law 746 = .ok (.iload 9, 2) := by decide +kernel
theorem dL_law_748 : decode cL_law 748 = .ok (.iconst 0, 1) := by decide +kernel
theorem dL_law_749 : decode cL_law 749 = .ok (.invokevirtual 148, 3) := by decide +kernel
theorem dL_law_752 : decode cL_law 752 = .ok (.ifCond .lt 128, 3) := by decide +kernel
theorem dL_law_755 : decode cL_law 755 = .ok (.aload_n 1, 1) := by decide +kernel
theorem dL_law_756 : decode cL_law 756 = .ok (.iload 9, 2) := by decide +kernel
theorem dL_law_758 : decode cL_law 758 = .ok (.iconst 0, 1) := by decide +kernel
theorem dL_law_759 : decode cL_law 759 = .ok (.invokevirtual 148, 3) := by decide +kernel
theorem dL_law_762 : decode cL_law 762 = .ok (.bipush 7, 2) := by decide +kernel
theorem dL_law_764 : decode cL_law 764 = .ok (.if_icmp .gt 116, 3) := by decide +kernel
theorem dL_law_767 : decode cL_law 767 = .ok (.aload_n 1, 1) := by decide +kernel
theorem dL_law_768 : decode cL_law 768 = .ok (.iload 9, 2) := by decide +kernel
theorem dL_law_770 : decode cL_law 770 = .ok (.iconst 1, 1) := by decide +kernel
theorem dL_law_771 : decode cL_law 771 = .ok (.invokevirtual 148, 3) := by decide +kernel
theorem dL_law_774 : decode cL_law 774 = .ok (.ifCond .lt 106, 3) := by decide +kernel
theorem dL_law_777 : decode cL_law 777 = .ok (.aload_n 1, 1) := by decide +kernel
theorem dL_law_778 : decode cL_law 778 = .ok (.iload 9, 2) := by decide +kernel
theorem dL_law_780 : decode cL_law 780 = .ok (.iconst 1, 1) := by decide +kernel
theorem dL_law_781 : decode cL_law 781 = .ok (.invokevirtual 148, 3) := by decide +kernel
theorem dL_law_784 : decode cL_law 784 = .ok (.bipush 7, 2) := by decide +kernel
theorem dL_law_786 : decode cL_law 786 = .ok (.if_icmp .gt 94, 3) := by decide +kernel
theorem dL_law_789 : decode cL_law 789 = .ok (.aload_n 1, 1) := by decide +kernel
theorem dL_law_790 : decode cL_law 790 = .ok (.iload 9, 2) := by decide +kernel
theorem dL_law_792 : decode cL_law 792 = .ok (.iconst 2, 1) := by decide +kernel
theorem dL_law_793 : decode cL_law 793 = .ok (.invokevirtual 148, 3) := by decide +kernel
theorem dL_law_796 : decode cL_law 796 = .ok (.ifCond .lt 84, 3) := by decide +kernel
theorem dL_law_799 : decode cL_law 799 = .ok (.aload_n 1, 1) := by decide +kernel
theorem dL_law_800 : decode cL_law 800 = .ok (.iload 9, 2) := by decide +kernel
theorem dL_law_802 : decode cL_law 802 = .ok (.iconst 2, 1) := by decide +kernel
theorem dL_law_803 : decode cL_law 803 = .ok (.invokevirtual 148, 3) := by decide +kernel
theorem dL_law_806 : decode cL_law 806 = .ok (.bipush 40, 2) := by decide +kernel
theorem dL_law_808 : decode cL_law 808 = .ok (.if_icmp .gt 72, 3) := by decide +kernel
theorem dL_law_811 : decode cL_law 811 = .ok (.aload_n 1, 1) := by decide +kernel
theorem dL_law_812 : decode cL_law 812 = .ok (.iload 9, 2) := by decide +kernel
theorem dL_law_814 : decode cL_law 814 = .ok (.iconst 3, 1) := by decide +kernel
theorem dL_law_815 : decode cL_law 815 = .ok (.invokevirtual 148, 3) := by decide +kernel
theorem dL_law_818 : decode cL_law 818 = .ok (.ifCond .lt 62, 3) := by decide +kernel
theorem dL_law_821 : decode cL_law 821 = .ok (.aload_n 1, 1) := by decide +kernel
theorem dL_law_822 : decode cL_law 822 = .ok (.iload 9, 2) := by decide +kernel
theorem dL_law_824 : decode cL_law 824 = .ok (.iconst 3, 1) := by decide +kernel
theorem dL_law_825 : decode cL_law 825 = .ok (.invokevirtual 148, 3) := by decide +kernel
theorem dL_law_828 : decode cL_law 828 = .ok (.bipush 20, 2) := by decide +kernel
theorem dL_law_830 : decode cL_law 830 = .ok (.if_icmp .gt 50, 3) := by decide +kernel
theorem dL_law_833 : decode cL_law 833 = .ok (.aload_n 1, 1) := by decide +kernel
theorem dL_law_834 : decode cL_law 834 = .ok (.iload 9, 2) := by decide +kernel
theorem dL_law_836 : decode cL_law 836 = .ok (.iconst 2, 1) := by decide +kernel
theorem dL_law_837 : decode cL_law 837 = .ok (.invokevirtual 148, 3) := by decide +kernel
theorem dL_law_840 : decode cL_law 840 = .ok (.ifCond .ne 13, 3) := by decide +kernel
theorem dL_law_843 : decode cL_law 843 = .ok (.aload_n 1, 1) := by decide +kernel
theorem dL_law_844 : decode cL_law 844 = .ok (.iload 9, 2) := by decide +kernel
theorem dL_law_846 : decode cL_law 846 = .ok (.iconst 3, 1) := by decide +kernel
theorem dL_law_847 : decode cL_law 847 = .ok (.invokevirtual 148, 3) := by decide +kernel
theorem dL_law_850 : decode cL_law 850 = .ok (.ifCond .ne 30, 3) := by decide +kernel
theorem w_E1 {p : Program} {l : Launch} {e : Env} {s : State} {m : MethodId} {args : Array Value} {below : List Frame} {meth : Method} {c : Code} {D : DG} {F : EF} {A : Nat → Prop} {Q : State → Prop} {k n : Nat} (hC : CY p s m args meth c cL_law 12 RL (some .boolean) D A) (hE : ENV F A s s.heap) {a N : Nat} {f : Nat → Int32} {G : GG} (hg : GO D F G) (hm : (a, N, f) ∈ F.2.1) (hN : N < 2147483648) (hT : LTX F) {M : Mm} {H ng : Nat} (hV : LV H ng M) {t : Nat} {lost stk : Int32} (ht24 : t < 24) {g : Nat} {ca br : Int32} (hgn : g < ng) (hH : H < 90000) (hk : k + 0 ≤ 600086) (hn : n + 0 ≤ 7301442) (K : XC p l e (RM 2048 600086 7301442 84000) s m args below meth c D A 12 Q (k + 0) (n + 0) ([] ++ WL G M) 853 [(8, .int (ca + (M (39 + 2 * g) 2))), (9, .int (nI g)), (7, .int br), (4, .int (nI t)), (3, .int lost), (2, .int stk), (1, .ref (G.2.1 0)), (0, .ref a)] []) : XC p l e (RM 2048 600086 7301442 84000) s m args below meth c D A 12 Q (k) (n) ([] ++ WL G M) 723 [(9, .int (nI g)), (8, .int ca), (7, .int br), (4, .int (nI t)), (3, .int lost), (2, .int stk), (1, .ref (G.2.1 0)), (0, .ref a)] [] := by
  have h4 := hV.2.2.1
  have hgang := fun kk hkk => gang_w hV hgn kk hkk
  obtain ⟨⟨bx, by1, bc, bd, bz⟩, h5, h6, h56, h7⟩ : ((0 ≤ (M (39 + 2 * g) 0).toInt ∧ (M (39 + 2 * g) 0).toInt ≤ 7) ∧ (0 ≤ (M (39 + 2 * g) 1).toInt ∧ (M (39 + 2 * g) 1).toInt ≤ 7) ∧ (0 ≤ (M (39 + 2 * g) 2).toInt ∧ (M (39 + 2 * g) 2).toInt ≤ 40) ∧ (0 ≤ (M (39 + 2 * g) 3).toInt ∧ (M (39 + 2 * g) 3).toInt ≤ 20) ∧ (M (39 + 2 * g) 2 = 0 → M (39 + 2 * g) 3 = 0)) ∧ 0 ≤ (M (39 + 2 * g) 5).toInt ∧ 0 ≤ (M (39 + 2 * g) 6).toInt ∧ (M (39 + 2 * g) 5).toInt + (M (39 + 2 * g) 6).toInt ≤ (M (39 + 2 * g) 7).toInt ∧ (M (39 + 2 * g) 7).toInt ≤ (H : Int) := hV.2.2.2.2 g hgn
  refine cx_iload hC dL_law_723 0 rfl ?_
  refine cx_aload_n hC dL_law_725 rfl 6 rfl ?_
  refine cx_iconst hC (2 : Int32) dL_law_726 (by decide) ?_
  refine cx_topi (y := (nI 2)) (rfl) ?_
  have hc2 : f_X9_count 0 (nI 2) M = some (0, nI ng, M) := by rw [count_v hV (k := 2) (by decide), show cvA ng M 2 = M 29 15 from rfl, hV.2.1]
  refine cy_callV hC (E := RX9) (y := yX9_count) (cy := cX9_count) (maxL := 2) (nA := 1) (r := (some .int)) (rm := (RM 2 0 0 46)) (mc := 0) (ms := 0) (As := [.int (nI 2)]) (wr := []) (yo_mo (c_X9_count l G M (i0 := 0) rfl _ (hc2)) hg) (wz_i 0) (List.range 0) (wz_C rfl rfl) (wz_X rfl rfl) (by decide +kernel) (by decide +kernel) (by decide +kernel) (rc_g hC rfl) (ef_sub hC hE (wz_i 0) (wz_C rfl rfl)) kc_yX9_count km_L_19 ki_yX9_count kv_yX9_count kn_RX9 ky_yX9_count rfl ⟨rfl, rfl⟩ ⟨Nat.le_of_ble_eq_true rfl, Nat.le_of_ble_eq_true rfl⟩ rfl (Nat.le_of_ble_eq_true rfl) ⟨by show k + 0 + 0 ≤ 600086; omega, by show n + 0 + 0 ≤ 7301442; omega⟩ dL_law_727 (fun o w1 h => ?_)
  obtain ⟨rfl, rfl, -⟩ := h
  refine cx_cnt (k' := k + 0) (n' := n + 0) (by omega) (by omega) ?_
  refine cx_at (ws' := ([] ++ WL G M)) (st' := [.int (nI ng), .int (nI g)]) rfl rfl ?_
  refine cx_icmp_ge hC 888 dL_law_730 (by decide) (fun h => absurd h (fun h => by have := (n_le (by omega) (by omega)).mp h; omega)) (fun _ => ?_)
  refine cx_iload hC dL_law_733 1 rfl ?_
  refine cx_aload_n hC dL_law_735 rfl 6 rfl ?_
  refine cx_iload hC dL_law_736 0 rfl ?_
  refine cx_iconst hC (2 : Int32) dL_law_738 (by decide) ?_
  refine cx_topi (y := (nI 2)) (rfl) ?_
  refine cy_callV hC (E := RX9) (y := yX9_gang) (cy := cX9_gang) (maxL := 3) (nA := 2) (r := (some .int)) (rm := (RM 1 0 0 21)) (mc := 0) (ms := 0) (As := [.int (nI g), .int (nI 2)]) (wr := []) (yo_mo (c_X9_gang l G M (i0 := 0) rfl _ _ (hgang 2 (by decide))) hg) (wz_i 0) (List.range 0) (wz_C rfl rfl) (wz_X rfl rfl) (by decide +kernel) (by decide +kernel) (by decide +kernel) (rc_g hC rfl) (ef_sub hC hE (wz_i 0) (wz_C rfl rfl)) kc_yX9_gang km_L_148 ki_yX9_gang kv_yX9_gang kn_RX9 ky_yX9_gang rfl ⟨rfl, rfl⟩ ⟨Nat.le_of_ble_eq_true rfl, Nat.le_of_ble_eq_true rfl⟩ rfl (Nat.le_of_ble_eq_true rfl) ⟨by show k + 0 + 0 ≤ 600086; omega, by show n + 0 + 0 ≤ 7301442; omega⟩ dL_law_739 (fun o w1 h => ?_)
  obtain ⟨rfl, rfl, -⟩ := h
  refine cx_cnt (k' := k + 0) (n' := n + 0) (by omega) (by omega) ?_
  refine cx_at (ws' := ([] ++ WL G M)) (st' := [.int (M (39 + 2 * g) 2), .int ca]) rfl rfl ?_
  refine cx_iadd hC dL_law_742 ?_
  refine cx_istore hC [(8, .int (ca + (M (39 + 2 * g) 2))), (9, .int (nI g)), (7, .int br), (4, .int (nI t)), (3, .int lost), (2, .int stk), (1, .ref (G.2.1 0)), (0, .ref a)] dL_law_743 (Nat.le_of_ble_eq_true rfl) rfl ?_
  refine cx_aload_n hC dL_law_745 rfl 6 rfl ?_
  refine cx_iload hC dL_law_746 1 rfl ?_
  refine cx_iconst hC (0 : Int32) dL_law_748 (by decide) ?_
  refine cx_topi (y := (nI 0)) (rfl) ?_
  refine cy_callV hC (E := RX9) (y := yX9_gang) (cy := cX9_gang) (maxL := 3) (nA := 2) (r := (some .int)) (rm := (RM 1 0 0 21)) (mc := 0) (ms := 0) (As := [.int (nI g), .int (nI 0)]) (wr := []) (yo_mo (c_X9_gang l G M (i0 := 0) rfl _ _ (hgang 0 (by decide))) hg) (wz_i 0) (List.range 0) (wz_C rfl rfl) (wz_X rfl rfl) (by decide +kernel) (by decide +kernel) (by decide +kernel) (rc_g hC rfl) (ef_sub hC hE (wz_i 0) (wz_C rfl rfl)) kc_yX9_gang km_L_148 ki_yX9_gang kv_yX9_gang kn_RX9 ky_yX9_gang rfl ⟨rfl, rfl⟩ ⟨Nat.le_of_ble_eq_true rfl, Nat.le_of_ble_eq_true rfl⟩ rfl (Nat.le_of_ble_eq_true rfl) ⟨by show k + 0 + 0 ≤ 600086; omega, by show n + 0 + 0 ≤ 7301442; omega⟩ dL_law_749 (fun o w1 h => ?_)
  obtain ⟨rfl, rfl, -⟩ := h
  refine cx_cnt (k' := k + 0) (n' := n + 0) (by omega) (by omega) ?_
  refine cx_at (ws' := ([] ++ WL G M)) (st' := [.int (M (39 + 2 * g) 0)]) rfl rfl ?_
  refine cx_if_lt hC 880 dL_law_752 (by decide) (fun h => absurd h (fun h => by have := i_lt.mp h; have z : (0 : Int32).toInt = 0 := rfl; omega)) (fun _ => ?_)
  refine cx_aload_n hC dL_law_755 rfl 6 rfl ?_
  refine cx_iload hC dL_law_756 1 rfl ?_
  refine cx_iconst hC (0 : Int32) dL_law_758 (by decide) ?_
  refine cx_topi (y := (nI 0)) (rfl) ?_
  refine cy_callV hC (E := RX9) (y := yX9_gang) (cy := cX9_gang) (maxL := 3) (nA := 2) (r := (some .int)) (rm := (RM 1 0 0 21)) (mc := 0) (ms := 0) (As := [.int (nI g), .int (nI 0)]) (wr := []) (yo_mo (c_X9_gang l G M (i0 := 0) rfl _ _ (hgang 0 (by decide))) hg) (wz_i 0) (List.range 0) (wz_C rfl rfl) (wz_X rfl rfl) (by decide +kernel) (by decide +kernel) (by decide +kernel) (rc_g hC rfl) (ef_sub hC hE (wz_i 0) (wz_C rfl rfl)) kc_yX9_gang km_L_148 ki_yX9_gang kv_yX9_gang kn_RX9 ky_yX9_gang rfl ⟨rfl, rfl⟩ ⟨Nat.le_of_ble_eq_true rfl, Nat.le_of_ble_eq_true rfl⟩ rfl (Nat.le_of_ble_eq_true rfl) ⟨by show k + 0 + 0 ≤ 600086; omega, by show n + 0 + 0 ≤ 7301442; omega⟩ dL_law_759 (fun o w1 h => ?_)
  obtain ⟨rfl, rfl, -⟩ := h
  refine cx_cnt (k' := k + 0) (n' := n + 0) (by omega) (by omega) ?_
  refine cx_at (ws' := ([] ++ WL G M)) (st' := [.int (M (39 + 2 * g) 0)]) rfl rfl ?_
  refine cx_bipush hC (7 : Int32) dL_law_762 (by decide) ?_
  refine cx_icmp_gt hC 880 dL_law_764 (by decide) (fun h => absurd h (fun h => by have := i_lt.mp h; have z : (7 : Int32).toInt = 7 := rfl; omega)) (fun _ => ?_)
  refine cx_aload_n hC dL_law_767 rfl 6 rfl ?_
  refine cx_iload hC dL_law_768 1 rfl ?_
  refine cx_iconst hC (1 : Int32) dL_law_770 (by decide) ?_
  refine cx_topi (y := (nI 1)) (rfl) ?_
  refine cy_callV hC (E := RX9) (y := yX9_gang) (cy := cX9_gang) (maxL := 3) (nA := 2) (r := (some .int)) (rm := (RM 1 0 0 21)) (mc := 0) (ms := 0) (As := [.int (nI g), .int (nI 1)]) (wr := []) (yo_mo (c_X9_gang l G M (i0 := 0) rfl _ _ (hgang 1 (by decide))) hg) (wz_i 0) (List.range 0) (wz_C rfl rfl) (wz_X rfl rfl) (by decide +kernel) (by decide +kernel) (by decide +kernel) (rc_g hC rfl) (ef_sub hC hE (wz_i 0) (wz_C rfl rfl)) kc_yX9_gang km_L_148 ki_yX9_gang kv_yX9_gang kn_RX9 ky_yX9_gang rfl ⟨rfl, rfl⟩ ⟨Nat.le_of_ble_eq_true rfl, Nat.le_of_ble_eq_true rfl⟩ rfl (Nat.le_of_ble_eq_true rfl) ⟨by show k + 0 + 0 ≤ 600086; omega, by show n + 0 + 0 ≤ 7301442; omega⟩ dL_law_771 (fun o w1 h => ?_)
  obtain ⟨rfl, rfl, -⟩ := h
  refine cx_cnt (k' := k + 0) (n' := n + 0) (by omega) (by omega) ?_
  refine cx_at (ws' := ([] ++ WL G M)) (st' := [.int (M (39 + 2 * g) 1)]) rfl rfl ?_
  refine cx_if_lt hC 880 dL_law_774 (by decide) (fun h => absurd h (fun h => by have := i_lt.mp h; have z : (0 : Int32).toInt = 0 := rfl; omega)) (fun _ => ?_)
  refine cx_aload_n hC dL_law_777 rfl 6 rfl ?_
  refine cx_iload hC dL_law_778 1 rfl ?_
  refine cx_iconst hC (1 : Int32) dL_law_780 (by decide) ?_
  refine cx_topi (y := (nI 1)) (rfl) ?_
  refine cy_callV hC (E := RX9) (y := yX9_gang) (cy := cX9_gang) (maxL := 3) (nA := 2) (r := (some .int)) (rm := (RM 1 0 0 21)) (mc := 0) (ms := 0) (As := [.int (nI g), .int (nI 1)]) (wr := []) (yo_mo (c_X9_gang l G M (i0 := 0) rfl _ _ (hgang 1 (by decide))) hg) (wz_i 0) (List.range 0) (wz_C rfl rfl) (wz_X rfl rfl) (by decide +kernel) (by decide +kernel) (by decide +kernel) (rc_g hC rfl) (ef_sub hC hE (wz_i 0) (wz_C rfl rfl)) kc_yX9_gang km_L_148 ki_yX9_gang kv_yX9_gang kn_RX9 ky_yX9_gang rfl ⟨rfl, rfl⟩ ⟨Nat.le_of_ble_eq_true rfl, Nat.le_of_ble_eq_true rfl⟩ rfl (Nat.le_of_ble_eq_true rfl) ⟨by show k + 0 + 0 ≤ 600086; omega, by show n + 0 + 0 ≤ 7301442; omega⟩ dL_law_781 (fun o w1 h => ?_)
  obtain ⟨rfl, rfl, -⟩ := h
  refine cx_cnt (k' := k + 0) (n' := n + 0) (by omega) (by omega) ?_
  refine cx_at (ws' := ([] ++ WL G M)) (st' := [.int (M (39 + 2 * g) 1)]) rfl rfl ?_
  refine cx_bipush hC (7 : Int32) dL_law_784 (by decide) ?_
  refine cx_icmp_gt hC 880 dL_law_786 (by decide) (fun h => absurd h (fun h => by have := i_lt.mp h; have z : (7 : Int32).toInt = 7 := rfl; omega)) (fun _ => ?_)
  refine cx_aload_n hC dL_law_789 rfl 6 rfl ?_
  refine cx_iload hC dL_law_790 1 rfl ?_
  refine cx_iconst hC (2 : Int32) dL_law_792 (by decide) ?_
  refine cx_topi (y := (nI 2)) (rfl) ?_
  refine cy_callV hC (E := RX9) (y := yX9_gang) (cy := cX9_gang) (maxL := 3) (nA := 2) (r := (some .int)) (rm := (RM 1 0 0 21)) (mc := 0) (ms := 0) (As := [.int (nI g), .int (nI 2)]) (wr := []) (yo_mo (c_X9_gang l G M (i0 := 0) rfl _ _ (hgang 2 (by decide))) hg) (wz_i 0) (List.range 0) (wz_C rfl rfl) (wz_X rfl rfl) (by decide +kernel) (by decide +kernel) (by decide +kernel) (rc_g hC rfl) (ef_sub hC hE (wz_i 0) (wz_C rfl rfl)) kc_yX9_gang km_L_148 ki_yX9_gang kv_yX9_gang kn_RX9 ky_yX9_gang rfl ⟨rfl, rfl⟩ ⟨Nat.le_of_ble_eq_true rfl, Nat.le_of_ble_eq_true rfl⟩ rfl (Nat.le_of_ble_eq_true rfl) ⟨by show k + 0 + 0 ≤ 600086; omega, by show n + 0 + 0 ≤ 7301442; omega⟩ dL_law_793 (fun o w1 h => ?_)
  obtain ⟨rfl, rfl, -⟩ := h
  refine cx_cnt (k' := k + 0) (n' := n + 0) (by omega) (by omega) ?_
  refine cx_at (ws' := ([] ++ WL G M)) (st' := [.int (M (39 + 2 * g) 2)]) rfl rfl ?_
  refine cx_if_lt hC 880 dL_law_796 (by decide) (fun h => absurd h (fun h => by have := i_lt.mp h; have z : (0 : Int32).toInt = 0 := rfl; omega)) (fun _ => ?_)
  refine cx_aload_n hC dL_law_799 rfl 6 rfl ?_
  refine cx_iload hC dL_law_800 1 rfl ?_
  refine cx_iconst hC (2 : Int32) dL_law_802 (by decide) ?_
  refine cx_topi (y := (nI 2)) (rfl) ?_
  refine cy_callV hC (E := RX9) (y := yX9_gang) (cy := cX9_gang) (maxL := 3) (nA := 2) (r := (some .int)) (rm := (RM 1 0 0 21)) (mc := 0) (ms := 0) (As := [.int (nI g), .int (nI 2)]) (wr := []) (yo_mo (c_X9_gang l G M (i0 := 0) rfl _ _ (hgang 2 (by decide))) hg) (wz_i 0) (List.range 0) (wz_C rfl rfl) (wz_X rfl rfl) (by decide +kernel) (by decide +kernel) (by decide +kernel) (rc_g hC rfl) (ef_sub hC hE (wz_i 0) (wz_C rfl rfl)) kc_yX9_gang km_L_148 ki_yX9_gang kv_yX9_gang kn_RX9 ky_yX9_gang rfl ⟨rfl, rfl⟩ ⟨Nat.le_of_ble_eq_true rfl, Nat.le_of_ble_eq_true rfl⟩ rfl (Nat.le_of_ble_eq_true rfl) ⟨by show k + 0 + 0 ≤ 600086; omega, by show n + 0 + 0 ≤ 7301442; omega⟩ dL_law_803 (fun o w1 h => ?_)
  obtain ⟨rfl, rfl, -⟩ := h
  refine cx_cnt (k' := k + 0) (n' := n + 0) (by omega) (by omega) ?_
  refine cx_at (ws' := ([] ++ WL G M)) (st' := [.int (M (39 + 2 * g) 2)]) rfl rfl ?_
  refine cx_bipush hC (40 : Int32) dL_law_806 (by decide) ?_
  refine cx_icmp_gt hC 880 dL_law_808 (by decide) (fun h => absurd h (fun h => by have := i_lt.mp h; have z : (40 : Int32).toInt = 40 := rfl; omega)) (fun _ => ?_)
  refine cx_aload_n hC dL_law_811 rfl 6 rfl ?_
  refine cx_iload hC dL_law_812 1 rfl ?_
  refine cx_iconst hC (3 : Int32) dL_law_814 (by decide) ?_
  refine cx_topi (y := (nI 3)) (rfl) ?_
  refine cy_callV hC (E := RX9) (y := yX9_gang) (cy := cX9_gang) (maxL := 3) (nA := 2) (r := (some .int)) (rm := (RM 1 0 0 21)) (mc := 0) (ms := 0) (As := [.int (nI g), .int (nI 3)]) (wr := []) (yo_mo (c_X9_gang l G M (i0 := 0) rfl _ _ (hgang 3 (by decide))) hg) (wz_i 0) (List.range 0) (wz_C rfl rfl) (wz_X rfl rfl) (by decide +kernel) (by decide +kernel) (by decide +kernel) (rc_g hC rfl) (ef_sub hC hE (wz_i 0) (wz_C rfl rfl)) kc_yX9_gang km_L_148 ki_yX9_gang kv_yX9_gang kn_RX9 ky_yX9_gang rfl ⟨rfl, rfl⟩ ⟨Nat.le_of_ble_eq_true rfl, Nat.le_of_ble_eq_true rfl⟩ rfl (Nat.le_of_ble_eq_true rfl) ⟨by show k + 0 + 0 ≤ 600086; omega, by show n + 0 + 0 ≤ 7301442; omega⟩ dL_law_815 (fun o w1 h => ?_)
  obtain ⟨rfl, rfl, -⟩ := h
  refine cx_cnt (k' := k + 0) (n' := n + 0) (by omega) (by omega) ?_
  refine cx_at (ws' := ([] ++ WL G M)) (st' := [.int (M (39 + 2 * g) 3)]) rfl rfl ?_
  refine cx_if_lt hC 880 dL_law_818 (by decide) (fun h => absurd h (fun h => by have := i_lt.mp h; have z : (0 : Int32).toInt = 0 := rfl; omega)) (fun _ => ?_)
  refine cx_aload_n hC dL_law_821 rfl 6 rfl ?_
  refine cx_iload hC dL_law_822 1 rfl ?_
  refine cx_iconst hC (3 : Int32) dL_law_824 (by decide) ?_
  refine cx_topi (y := (nI 3)) (rfl) ?_
  refine cy_callV hC (E := RX9) (y := yX9_gang) (cy := cX9_gang) (maxL := 3) (nA := 2) (r := (some .int)) (rm := (RM 1 0 0 21)) (mc := 0) (ms := 0) (As := [.int (nI g), .int (nI 3)]) (wr := []) (yo_mo (c_X9_gang l G M (i0 := 0) rfl _ _ (hgang 3 (by decide))) hg) (wz_i 0) (List.range 0) (wz_C rfl rfl) (wz_X rfl rfl) (by decide +kernel) (by decide +kernel) (by decide +kernel) (rc_g hC rfl) (ef_sub hC hE (wz_i 0) (wz_C rfl rfl)) kc_yX9_gang km_L_148 ki_yX9_gang kv_yX9_gang kn_RX9 ky_yX9_gang rfl ⟨rfl, rfl⟩ ⟨Nat.le_of_ble_eq_true rfl, Nat.le_of_ble_eq_true rfl⟩ rfl (Nat.le_of_ble_eq_true rfl) ⟨by show k + 0 + 0 ≤ 600086; omega, by show n + 0 + 0 ≤ 7301442; omega⟩ dL_law_825 (fun o w1 h => ?_)
  obtain ⟨rfl, rfl, -⟩ := h
  refine cx_cnt (k' := k + 0) (n' := n + 0) (by omega) (by omega) ?_
  refine cx_at (ws' := ([] ++ WL G M)) (st' := [.int (M (39 + 2 * g) 3)]) rfl rfl ?_
  refine cx_bipush hC (20 : Int32) dL_law_828 (by decide) ?_
  refine cx_icmp_gt hC 880 dL_law_830 (by decide) (fun h => absurd h (fun h => by have := i_lt.mp h; have z : (20 : Int32).toInt = 20 := rfl; omega)) (fun _ => ?_)
  refine cx_aload_n hC dL_law_833 rfl 6 rfl ?_
  refine cx_iload hC dL_law_834 1 rfl ?_
  refine cx_iconst hC (2 : Int32) dL_law_836 (by decide) ?_
  refine cx_topi (y := (nI 2)) (rfl) ?_
  refine cy_callV hC (E := RX9) (y := yX9_gang) (cy := cX9_gang) (maxL := 3) (nA := 2) (r := (some .int)) (rm := (RM 1 0 0 21)) (mc := 0) (ms := 0) (As := [.int (nI g), .int (nI 2)]) (wr := []) (yo_mo (c_X9_gang l G M (i0 := 0) rfl _ _ (hgang 2 (by decide))) hg) (wz_i 0) (List.range 0) (wz_C rfl rfl) (wz_X rfl rfl) (by decide +kernel) (by decide +kernel) (by decide +kernel) (rc_g hC rfl) (ef_sub hC hE (wz_i 0) (wz_C rfl rfl)) kc_yX9_gang km_L_148 ki_yX9_gang kv_yX9_gang kn_RX9 ky_yX9_gang rfl ⟨rfl, rfl⟩ ⟨Nat.le_of_ble_eq_true rfl, Nat.le_of_ble_eq_true rfl⟩ rfl (Nat.le_of_ble_eq_true rfl) ⟨by show k + 0 + 0 ≤ 600086; omega, by show n + 0 + 0 ≤ 7301442; omega⟩ dL_law_837 (fun o w1 h => ?_)
  obtain ⟨rfl, rfl, -⟩ := h
  refine cx_cnt (k' := k + 0) (n' := n + 0) (by omega) (by omega) ?_
  refine cx_at (ws' := ([] ++ WL G M)) (st' := [.int (M (39 + 2 * g) 2)]) rfl rfl ?_
  by_cases hc : M (39 + 2 * g) 2 = 0
  · skip
    refine cx_if_ne hC 853 dL_law_840 (by decide) (fun h => absurd (hc) h) (fun _ => ?_)
    refine cx_aload_n hC dL_law_843 rfl 6 rfl ?_
    refine cx_iload hC dL_law_844 1 rfl ?_
    refine cx_iconst hC (3 : Int32) dL_law_846 (by decide) ?_
    refine cx_topi (y := (nI 3)) (rfl) ?_
    refine cy_callV hC (E := RX9) (y := yX9_gang) (cy := cX9_gang) (maxL := 3) (nA := 2) (r := (some .int)) (rm := (RM 1 0 0 21)) (mc := 0) (ms := 0) (As := [.int (nI g), .int (nI 3)]) (wr := []) (yo_mo (c_X9_gang l G M (i0 := 0) rfl _ _ (hgang 3 (by decide))) hg) (wz_i 0) (List.range 0) (wz_C rfl rfl) (wz_X rfl rfl) (by decide +kernel) (by decide +kernel) (by decide +kernel) (rc_g hC rfl) (ef_sub hC hE (wz_i 0) (wz_C rfl rfl)) kc_yX9_gang km_L_148 ki_yX9_gang kv_yX9_gang kn_RX9 ky_yX9_gang rfl ⟨rfl, rfl⟩ ⟨Nat.le_of_ble_eq_true rfl, Nat.le_of_ble_eq_true rfl⟩ rfl (Nat.le_of_ble_eq_true rfl) ⟨by show k + 0 + 0 ≤ 600086; omega, by show n + 0 + 0 ≤ 7301442; omega⟩ dL_law_847 (fun o w1 h => ?_)
    obtain ⟨rfl, rfl, -⟩ := h
    refine cx_cnt (k' := k + 0) (n' := n + 0) (by omega) (by omega) ?_
    refine cx_at (ws' := ([] ++ WL G M)) (st' := [.int (M (39 + 2 * g) 3)]) rfl rfl ?_
    refine cx_if_ne hC 880 dL_law_850 (by decide) (fun h => absurd (bz hc) h) (fun _ => ?_)
    refine cx_widen (k' := k + 0) (n' := n + 0) (by omega) (by omega) ?_
    exact K
  · skip
    refine cx_if_ne hC 853 dL_law_840 (by decide) (fun _ => ?_) (fun h => absurd h (hc))
    refine cx_widen (k' := k + 0) (n' := n + 0) (by omega) (by omega) ?_
    exact K
theorem dL_law_853 : decode cL_law 853 = .ok (.aload_n 1, 1) := by decide +kernel
theorem dL_law_854 : decode cL_law 854 = .ok (.iload 9, 2) := by decide +kernel
theorem dL_law_856 : decode cL_law 856 = .ok (.iconst 5, 1) := by decide +kernel
theorem dL_law_857 : decode cL_law 857 = .ok (.invokevirtual 148, 3) := by decide +kernel
theorem dL_law_860 : decode cL_law 860 = .ok (.aload_n 1, 1) := by decide +kernel
theorem dL_law_861 : decode cL_law 861 = .ok (.iload 9, 2) := by decide +kernel
theorem dL_law_863 : decode cL_law 863 = .ok (.bipush 6, 2) := by decide +kernel
theorem dL_law_865 : decode cL_law 865 = .ok (.invokevirtual 148, 3) := by decide +kernel
theorem dL_law_868 : decode cL_law 868 = .ok (.iadd, 1) := by decide +kernel
theorem dL_law_869 : decode cL_law 869 = .ok (.aload_n 1, 1) := by decide +kernel
theorem dL_law_870 : decode cL_law 870 = .ok (.iload 9, 2) := by decide +kernel
theorem dL_law_872 : decode cL_law 872 = .ok (.bipush 7, 2) := by decide +kernel
theorem dL_law_874 : decode cL_law 874 = .ok (.invokevirtual 148, 3) := by decide +kernel
theorem dL_law_877 : decode cL_law 877 = .ok (.if_icmp .le 5, 3) := by decide +kernel
theorem dL_law_882 : decode cL_law 882 = .ok (.iinc 9 1, 3) := by decide +kernel
theorem dL_law_885 : decode cL_law 885 = .ok (.goto (-162), 3) := by decide +kernel
theorem w_E2 {p : Program} {l : Launch} {e : Env} {s : State} {m : MethodId} {args : Array Value} {below : List Frame} {meth : Method} {c : Code} {D : DG} {F : EF} {A : Nat → Prop} {Q : State → Prop} {k n : Nat} (hC : CY p s m args meth c cL_law 12 RL (some .boolean) D A) (hE : ENV F A s s.heap) {a N : Nat} {f : Nat → Int32} {G : GG} (hg : GO D F G) (hm : (a, N, f) ∈ F.2.1) (hN : N < 2147483648) (hT : LTX F) {M : Mm} {H ng : Nat} (hV : LV H ng M) {t : Nat} {lost stk : Int32} (ht24 : t < 24) {g : Nat} {ca br : Int32} (hgn : g < ng) (hH : H < 90000) (hk : k + 0 ≤ 600086) (hn : n + 0 ≤ 7301442) (K : XC p l e (RM 2048 600086 7301442 84000) s m args below meth c D A 12 Q (k + 0) (n + 0) ([] ++ WL G M) 723 [(9, .int (nI (g + 1))), (8, .int (ca + M (39 + 2 * g) 2)), (7, .int br), (4, .int (nI t)), (3, .int lost), (2, .int stk), (1, .ref (G.2.1 0)), (0, .ref a)] []) : XC p l e (RM 2048 600086 7301442 84000) s m args below meth c D A 12 Q (k) (n) ([] ++ WL G M) 853 [(8, .int (ca + M (39 + 2 * g) 2)), (9, .int (nI g)), (7, .int br), (4, .int (nI t)), (3, .int lost), (2, .int stk), (1, .ref (G.2.1 0)), (0, .ref a)] [] := by
  have h4 := hV.2.2.1
  have hgang := fun kk hkk => gang_w hV hgn kk hkk
  obtain ⟨⟨bx, by1, bc, bd, bz⟩, h5, h6, h56, h7⟩ : ((0 ≤ (M (39 + 2 * g) 0).toInt ∧ (M (39 + 2 * g) 0).toInt ≤ 7) ∧ (0 ≤ (M (39 + 2 * g) 1).toInt ∧ (M (39 + 2 * g) 1).toInt ≤ 7) ∧ (0 ≤ (M (39 + 2 * g) 2).toInt ∧ (M (39 + 2 * g) 2).toInt ≤ 40) ∧ (0 ≤ (M (39 + 2 * g) 3).toInt ∧ (M (39 + 2 * g) 3).toInt ≤ 20) ∧ (M (39 + 2 * g) 2 = 0 → M (39 + 2 * g) 3 = 0)) ∧ 0 ≤ (M (39 + 2 * g) 5).toInt ∧ 0 ≤ (M (39 + 2 * g) 6).toInt ∧ (M (39 + 2 * g) 5).toInt + (M (39 + 2 * g) 6).toInt ≤ (M (39 + 2 * g) 7).toInt ∧ (M (39 + 2 * g) 7).toInt ≤ (H : Int) := hV.2.2.2.2 g hgn
  refine cx_aload_n hC dL_law_853 rfl 6 rfl ?_
  refine cx_iload hC dL_law_854 1 rfl ?_
  refine cx_iconst hC (5 : Int32) dL_law_856 (by decide) ?_
  refine cx_topi (y := (nI 5)) (rfl) ?_
  refine cy_callV hC (E := RX9) (y := yX9_gang) (cy := cX9_gang) (maxL := 3) (nA := 2) (r := (some .int)) (rm := (RM 1 0 0 21)) (mc := 0) (ms := 0) (As := [.int (nI g), .int (nI 5)]) (wr := []) (yo_mo (c_X9_gang l G M (i0 := 0) rfl _ _ (hgang 5 (by decide))) hg) (wz_i 0) (List.range 0) (wz_C rfl rfl) (wz_X rfl rfl) (by decide +kernel) (by decide +kernel) (by decide +kernel) (rc_g hC rfl) (ef_sub hC hE (wz_i 0) (wz_C rfl rfl)) kc_yX9_gang km_L_148 ki_yX9_gang kv_yX9_gang kn_RX9 ky_yX9_gang rfl ⟨rfl, rfl⟩ ⟨Nat.le_of_ble_eq_true rfl, Nat.le_of_ble_eq_true rfl⟩ rfl (Nat.le_of_ble_eq_true rfl) ⟨by show k + 0 + 0 ≤ 600086; omega, by show n + 0 + 0 ≤ 7301442; omega⟩ dL_law_857 (fun o w1 h => ?_)
  obtain ⟨rfl, rfl, -⟩ := h
  refine cx_cnt (k' := k + 0) (n' := n + 0) (by omega) (by omega) ?_
  refine cx_at (ws' := ([] ++ WL G M)) (st' := [.int (M (39 + 2 * g) 5)]) rfl rfl ?_
  refine cx_aload_n hC dL_law_860 rfl 6 rfl ?_
  refine cx_iload hC dL_law_861 1 rfl ?_
  refine cx_bipush hC (6 : Int32) dL_law_863 (by decide) ?_
  refine cx_topi (y := (nI 6)) (rfl) ?_
  refine cy_callV hC (E := RX9) (y := yX9_gang) (cy := cX9_gang) (maxL := 3) (nA := 2) (r := (some .int)) (rm := (RM 1 0 0 21)) (mc := 0) (ms := 0) (As := [.int (nI g), .int (nI 6)]) (wr := []) (yo_mo (c_X9_gang l G M (i0 := 0) rfl _ _ (hgang 6 (by decide))) hg) (wz_i 0) (List.range 0) (wz_C rfl rfl) (wz_X rfl rfl) (by decide +kernel) (by decide +kernel) (by decide +kernel) (rc_g hC rfl) (ef_sub hC hE (wz_i 0) (wz_C rfl rfl)) kc_yX9_gang km_L_148 ki_yX9_gang kv_yX9_gang kn_RX9 ky_yX9_gang rfl ⟨rfl, rfl⟩ ⟨Nat.le_of_ble_eq_true rfl, Nat.le_of_ble_eq_true rfl⟩ rfl (Nat.le_of_ble_eq_true rfl) ⟨by show k + 0 + 0 ≤ 600086; omega, by show n + 0 + 0 ≤ 7301442; omega⟩ dL_law_865 (fun o w1 h => ?_)
  obtain ⟨rfl, rfl, -⟩ := h
  refine cx_cnt (k' := k + 0) (n' := n + 0) (by omega) (by omega) ?_
  refine cx_at (ws' := ([] ++ WL G M)) (st' := [.int (M (39 + 2 * g) 6), .int (M (39 + 2 * g) 5)]) rfl rfl ?_
  refine cx_iadd hC dL_law_868 ?_
  refine cx_aload_n hC dL_law_869 rfl 6 rfl ?_
  refine cx_iload hC dL_law_870 1 rfl ?_
  refine cx_bipush hC (7 : Int32) dL_law_872 (by decide) ?_
  refine cx_topi (y := (nI 7)) (rfl) ?_
  refine cy_callV hC (E := RX9) (y := yX9_gang) (cy := cX9_gang) (maxL := 3) (nA := 2) (r := (some .int)) (rm := (RM 1 0 0 21)) (mc := 0) (ms := 0) (As := [.int (nI g), .int (nI 7)]) (wr := []) (yo_mo (c_X9_gang l G M (i0 := 0) rfl _ _ (hgang 7 (by decide))) hg) (wz_i 0) (List.range 0) (wz_C rfl rfl) (wz_X rfl rfl) (by decide +kernel) (by decide +kernel) (by decide +kernel) (rc_g hC rfl) (ef_sub hC hE (wz_i 0) (wz_C rfl rfl)) kc_yX9_gang km_L_148 ki_yX9_gang kv_yX9_gang kn_RX9 ky_yX9_gang rfl ⟨rfl, rfl⟩ ⟨Nat.le_of_ble_eq_true rfl, Nat.le_of_ble_eq_true rfl⟩ rfl (Nat.le_of_ble_eq_true rfl) ⟨by show k + 0 + 0 ≤ 600086; omega, by show n + 0 + 0 ≤ 7301442; omega⟩ dL_law_874 (fun o w1 h => ?_)
  obtain ⟨rfl, rfl, -⟩ := h
  refine cx_cnt (k' := k + 0) (n' := n + 0) (by omega) (by omega) ?_
  refine cx_at (ws' := ([] ++ WL G M)) (st' := [.int (M (39 + 2 * g) 7), .int ((M (39 + 2 * g) 5) + (M (39 + 2 * g) 6))]) rfl rfl ?_
  refine cx_icmp_le hC 882 dL_law_877 (by decide) (fun _ => ?_) (fun h => absurd (i_le.mpr (by rw [i_add (by omega) (by omega)]; exact h56)) h)
  refine cx_iinc hC [(9, .int (nI (g + 1))), (8, .int (ca + M (39 + 2 * g) 2)), (7, .int br), (4, .int (nI t)), (3, .int lost), (2, .int stk), (1, .ref (G.2.1 0)), (0, .ref a)] dL_law_882 1 rfl (v := (nI (g + 1))) (n_suc g) (Nat.le_of_ble_eq_true rfl) rfl ?_
  refine cx_goto hC 723 dL_law_885 (by decide) ?_
  refine cx_sub [0, 1, 2, 3, 4, 5, 6, 7] (lv' := [(9, .int (nI (g + 1))), (8, .int (ca + M (39 + 2 * g) 2)), (7, .int br), (4, .int (nI t)), (3, .int lost), (2, .int stk), (1, .ref (G.2.1 0)), (0, .ref a)]) rfl ?_
  refine cx_widen (k' := k + 0) (n' := n + 0) (by omega) (by omega) ?_
  exact K
theorem dL_law_888 : decode cL_law 888 = .ok (.iload 7, 2) := by decide +kernel
theorem dL_law_890 : decode cL_law 890 = .ok (.aload_n 1, 1) := by decide +kernel
theorem dL_law_891 : decode cL_law 891 = .ok (.bipush 7, 2) := by decide +kernel
theorem dL_law_893 : decode cL_law 893 = .ok (.invokevirtual 19, 3) := by decide +kernel
theorem dL_law_896 : decode cL_law 896 = .ok (.if_icmp .ne 52, 3) := by decide +kernel
theorem dL_law_899 : decode cL_law 899 = .ok (.iload 8, 2) := by decide +kernel
theorem dL_law_901 : decode cL_law 901 = .ok (.aload_n 1, 1) := by decide +kernel
theorem dL_law_902 : decode cL_law 902 = .ok (.bipush 8, 2) := by decide +kernel
theorem dL_law_904 : decode cL_law 904 = .ok (.invokevirtual 19, 3) := by decide +kernel
theorem dL_law_907 : decode cL_law 907 = .ok (.if_icmp .ne 41, 3) := by decide +kernel
theorem dL_law_910 : decode cL_law 910 = .ok (.iload 7, 2) := by decide +kernel
theorem dL_law_912 : decode cL_law 912 = .ok (.iload 8, 2) := by decide +kernel
theorem dL_law_914 : decode cL_law 914 = .ok (.iadd, 1) := by decide +kernel
theorem dL_law_915 : decode cL_law 915 = .ok (.aload_n 1, 1) := by decide +kernel
theorem dL_law_916 : decode cL_law 916 = .ok (.iconst 5, 1) := by decide +kernel
theorem dL_law_917 : decode cL_law 917 = .ok (.invokevirtual 19, 3) := by decide +kernel
theorem dL_law_920 : decode cL_law 920 = .ok (.iadd, 1) := by decide +kernel
theorem dL_law_921 : decode cL_law 921 = .ok (.aload_n 1, 1) := by decide +kernel
theorem dL_law_922 : decode cL_law 922 = .ok (.bipush 6, 2) := by decide +kernel
theorem dL_law_924 : decode cL_law 924 = .ok (.invokevirtual 19, 3) := by decide +kernel
theorem dL_law_927 : decode cL_law 927 = .ok (.iadd, 1) := by decide +kernel
theorem dL_law_928 : decode cL_law 928 = .ok (.aload_n 1, 1) := by decide +kernel
theorem dL_law_929 : decode cL_law 929 = .ok (.bipush 9, 2) := by decide +kernel
theorem dL_law_931 : decode cL_law 931 = .ok (.invokevirtual 19, 3) := by decide +kernel
theorem dL_law_934 : decode cL_law 934 = .ok (.iadd, 1) := by decide +kernel
theorem dL_law_935 : decode cL_law 935 = .ok (.iload_n 3, 1) := by decide +kernel
theorem dL_law_936 : decode cL_law 936 = .ok (.iadd, 1) := by decide +kernel
theorem dL_law_937 : decode cL_law 937 = .ok (.iload_n 2, 1) := by decide +kernel
theorem dL_law_938 : decode cL_law 938 = .ok (.aload_n 1, 1) := by decide +kernel
theorem dL_law_939 : decode cL_law 939 = .ok (.bipush 10, 2) := by decide +kernel
theorem dL_law_941 : decode cL_law 941 = .ok (.invokevirtual 19, 3) := by decide +kernel
theorem dL_law_944 : decode cL_law 944 = .ok (.iadd, 1) := by decide +kernel
theorem dL_law_945 : decode cL_law 945 = .ok (.if_icmp .eq 5, 3) := by decide +kernel
theorem dL_law_950 : decode cL_law 950 = .ok (.iinc 4 1, 3) := by decide +kernel
theorem dL_law_953 : decode cL_law 953 = .ok (.goto (-936), 3) := by decide +kernel
theorem w_F {p : Program} {l : Launch} {e : Env} {s : State} {m : MethodId} {args : Array Value} {below : List Frame} {meth : Method} {c : Code} {D : DG} {F : EF} {A : Nat → Prop} {Q : State → Prop} {k n : Nat} (hC : CY p s m args meth c cL_law 12 RL (some .boolean) D A) (hE : ENV F A s s.heap) {a N : Nat} {f : Nat → Int32} {G : GG} (hg : GO D F G) (hm : (a, N, f) ∈ F.2.1) (hN : N < 2147483648) (hT : LTX F) {M : Mm} {H ng : Nat} (hV : LV H ng M) {t : Nat} {lost stk : Int32} (ht24 : t < 24) (hTA : TA 29 ng M + lost = stk) (hk : k + 0 ≤ 600086) (hn : n + 0 ≤ 7301442) (K : XC p l e (RM 2048 600086 7301442 84000) s m args below meth c D A 12 Q (k + 0) (n + 0) ([] ++ WL G M) 17 [(4, .int (nI (t + 1))), (3, .int lost), (2, .int stk), (1, .ref (G.2.1 0)), (0, .ref a)] []) : XC p l e (RM 2048 600086 7301442 84000) s m args below meth c D A 12 Q (k) (n) ([] ++ WL G M) 723 [(9, .int (nI ng)), (8, .int (cvA ng M 8)), (7, .int (cvA ng M 7)), (4, .int (nI t)), (3, .int lost), (2, .int stk), (1, .ref (G.2.1 0)), (0, .ref a)] [] := by
  have h4 := hV.2.2.1
  refine cx_iload hC dL_law_723 0 rfl ?_
  refine cx_aload_n hC dL_law_725 rfl 6 rfl ?_
  refine cx_iconst hC (2 : Int32) dL_law_726 (by decide) ?_
  refine cx_topi (y := (nI 2)) (rfl) ?_
  have hc2 : f_X9_count 0 (nI 2) M = some (0, nI ng, M) := by rw [count_v hV (k := 2) (by decide), show cvA ng M 2 = M 29 15 from rfl, hV.2.1]
  refine cy_callV hC (E := RX9) (y := yX9_count) (cy := cX9_count) (maxL := 2) (nA := 1) (r := (some .int)) (rm := (RM 2 0 0 46)) (mc := 0) (ms := 0) (As := [.int (nI 2)]) (wr := []) (yo_mo (c_X9_count l G M (i0 := 0) rfl _ (hc2)) hg) (wz_i 0) (List.range 0) (wz_C rfl rfl) (wz_X rfl rfl) (by decide +kernel) (by decide +kernel) (by decide +kernel) (rc_g hC rfl) (ef_sub hC hE (wz_i 0) (wz_C rfl rfl)) kc_yX9_count km_L_19 ki_yX9_count kv_yX9_count kn_RX9 ky_yX9_count rfl ⟨rfl, rfl⟩ ⟨Nat.le_of_ble_eq_true rfl, Nat.le_of_ble_eq_true rfl⟩ rfl (Nat.le_of_ble_eq_true rfl) ⟨by show k + 0 + 0 ≤ 600086; omega, by show n + 0 + 0 ≤ 7301442; omega⟩ dL_law_727 (fun o w1 h => ?_)
  obtain ⟨rfl, rfl, -⟩ := h
  refine cx_cnt (k' := k + 0) (n' := n + 0) (by omega) (by omega) ?_
  refine cx_at (ws' := ([] ++ WL G M)) (st' := [.int (nI ng), .int (nI ng)]) rfl rfl ?_
  refine cx_icmp_ge hC 888 dL_law_730 (by decide) (fun _ => ?_) (fun h => absurd ((n_le (by omega) (by omega)).mpr (Nat.le_refl _)) h)
  refine cx_iload hC dL_law_888 2 rfl ?_
  refine cx_aload_n hC dL_law_890 rfl 6 rfl ?_
  refine cx_bipush hC (7 : Int32) dL_law_891 (by decide) ?_
  refine cx_topi (y := (nI 7)) (rfl) ?_
  refine cy_callV hC (E := RX9) (y := yX9_count) (cy := cX9_count) (maxL := 2) (nA := 1) (r := (some .int)) (rm := (RM 2 0 0 46)) (mc := 0) (ms := 0) (As := [.int (nI 7)]) (wr := []) (yo_mo (c_X9_count l G M (i0 := 0) rfl _ (count_v hV (k := 7) (by decide))) hg) (wz_i 0) (List.range 0) (wz_C rfl rfl) (wz_X rfl rfl) (by decide +kernel) (by decide +kernel) (by decide +kernel) (rc_g hC rfl) (ef_sub hC hE (wz_i 0) (wz_C rfl rfl)) kc_yX9_count km_L_19 ki_yX9_count kv_yX9_count kn_RX9 ky_yX9_count rfl ⟨rfl, rfl⟩ ⟨Nat.le_of_ble_eq_true rfl, Nat.le_of_ble_eq_true rfl⟩ rfl (Nat.le_of_ble_eq_true rfl) ⟨by show k + 0 + 0 ≤ 600086; omega, by show n + 0 + 0 ≤ 7301442; omega⟩ dL_law_893 (fun o w1 h => ?_)
  obtain ⟨rfl, rfl, -⟩ := h
  refine cx_cnt (k' := k + 0) (n' := n + 0) (by omega) (by omega) ?_
  refine cx_at (ws' := ([] ++ WL G M)) (st' := [.int (cvA ng M 7), .int (cvA ng M 7)]) rfl rfl ?_
  refine cx_icmp_ne hC 948 dL_law_896 (by decide) (fun h => absurd (rfl) h) (fun _ => ?_)
  refine cx_iload hC dL_law_899 1 rfl ?_
  refine cx_aload_n hC dL_law_901 rfl 6 rfl ?_
  refine cx_bipush hC (8 : Int32) dL_law_902 (by decide) ?_
  refine cx_topi (y := (nI 8)) (rfl) ?_
  refine cy_callV hC (E := RX9) (y := yX9_count) (cy := cX9_count) (maxL := 2) (nA := 1) (r := (some .int)) (rm := (RM 2 0 0 46)) (mc := 0) (ms := 0) (As := [.int (nI 8)]) (wr := []) (yo_mo (c_X9_count l G M (i0 := 0) rfl _ (count_v hV (k := 8) (by decide))) hg) (wz_i 0) (List.range 0) (wz_C rfl rfl) (wz_X rfl rfl) (by decide +kernel) (by decide +kernel) (by decide +kernel) (rc_g hC rfl) (ef_sub hC hE (wz_i 0) (wz_C rfl rfl)) kc_yX9_count km_L_19 ki_yX9_count kv_yX9_count kn_RX9 ky_yX9_count rfl ⟨rfl, rfl⟩ ⟨Nat.le_of_ble_eq_true rfl, Nat.le_of_ble_eq_true rfl⟩ rfl (Nat.le_of_ble_eq_true rfl) ⟨by show k + 0 + 0 ≤ 600086; omega, by show n + 0 + 0 ≤ 7301442; omega⟩ dL_law_904 (fun o w1 h => ?_)
  obtain ⟨rfl, rfl, -⟩ := h
  refine cx_cnt (k' := k + 0) (n' := n + 0) (by omega) (by omega) ?_
  refine cx_at (ws' := ([] ++ WL G M)) (st' := [.int (cvA ng M 8), .int (cvA ng M 8)]) rfl rfl ?_
  refine cx_icmp_ne hC 948 dL_law_907 (by decide) (fun h => absurd (rfl) h) (fun _ => ?_)
  refine cx_iload hC dL_law_910 2 rfl ?_
  refine cx_iload hC dL_law_912 1 rfl ?_
  refine cx_iadd hC dL_law_914 ?_
  refine cx_aload_n hC dL_law_915 rfl 6 rfl ?_
  refine cx_iconst hC (5 : Int32) dL_law_916 (by decide) ?_
  refine cx_topi (y := (nI 5)) (rfl) ?_
  refine cy_callV hC (E := RX9) (y := yX9_count) (cy := cX9_count) (maxL := 2) (nA := 1) (r := (some .int)) (rm := (RM 2 0 0 46)) (mc := 0) (ms := 0) (As := [.int (nI 5)]) (wr := []) (yo_mo (c_X9_count l G M (i0 := 0) rfl _ (count_v hV (k := 5) (by decide))) hg) (wz_i 0) (List.range 0) (wz_C rfl rfl) (wz_X rfl rfl) (by decide +kernel) (by decide +kernel) (by decide +kernel) (rc_g hC rfl) (ef_sub hC hE (wz_i 0) (wz_C rfl rfl)) kc_yX9_count km_L_19 ki_yX9_count kv_yX9_count kn_RX9 ky_yX9_count rfl ⟨rfl, rfl⟩ ⟨Nat.le_of_ble_eq_true rfl, Nat.le_of_ble_eq_true rfl⟩ rfl (Nat.le_of_ble_eq_true rfl) ⟨by show k + 0 + 0 ≤ 600086; omega, by show n + 0 + 0 ≤ 7301442; omega⟩ dL_law_917 (fun o w1 h => ?_)
  obtain ⟨rfl, rfl, -⟩ := h
  refine cx_cnt (k' := k + 0) (n' := n + 0) (by omega) (by omega) ?_
  refine cx_at (ws' := ([] ++ WL G M)) (st' := [.int (cvA ng M 5), .int ((cvA ng M 7) + (cvA ng M 8))]) rfl rfl ?_
  refine cx_iadd hC dL_law_920 ?_
  refine cx_aload_n hC dL_law_921 rfl 6 rfl ?_
  refine cx_bipush hC (6 : Int32) dL_law_922 (by decide) ?_
  refine cx_topi (y := (nI 6)) (rfl) ?_
  refine cy_callV hC (E := RX9) (y := yX9_count) (cy := cX9_count) (maxL := 2) (nA := 1) (r := (some .int)) (rm := (RM 2 0 0 46)) (mc := 0) (ms := 0) (As := [.int (nI 6)]) (wr := []) (yo_mo (c_X9_count l G M (i0 := 0) rfl _ (count_v hV (k := 6) (by decide))) hg) (wz_i 0) (List.range 0) (wz_C rfl rfl) (wz_X rfl rfl) (by decide +kernel) (by decide +kernel) (by decide +kernel) (rc_g hC rfl) (ef_sub hC hE (wz_i 0) (wz_C rfl rfl)) kc_yX9_count km_L_19 ki_yX9_count kv_yX9_count kn_RX9 ky_yX9_count rfl ⟨rfl, rfl⟩ ⟨Nat.le_of_ble_eq_true rfl, Nat.le_of_ble_eq_true rfl⟩ rfl (Nat.le_of_ble_eq_true rfl) ⟨by show k + 0 + 0 ≤ 600086; omega, by show n + 0 + 0 ≤ 7301442; omega⟩ dL_law_924 (fun o w1 h => ?_)
  obtain ⟨rfl, rfl, -⟩ := h
  refine cx_cnt (k' := k + 0) (n' := n + 0) (by omega) (by omega) ?_
  refine cx_at (ws' := ([] ++ WL G M)) (st' := [.int (cvA ng M 6), .int (((cvA ng M 7) + (cvA ng M 8)) + (cvA ng M 5))]) rfl rfl ?_
  refine cx_iadd hC dL_law_927 ?_
  refine cx_aload_n hC dL_law_928 rfl 6 rfl ?_
  refine cx_bipush hC (9 : Int32) dL_law_929 (by decide) ?_
  refine cx_topi (y := (nI 9)) (rfl) ?_
  refine cy_callV hC (E := RX9) (y := yX9_count) (cy := cX9_count) (maxL := 2) (nA := 1) (r := (some .int)) (rm := (RM 2 0 0 46)) (mc := 0) (ms := 0) (As := [.int (nI 9)]) (wr := []) (yo_mo (c_X9_count l G M (i0 := 0) rfl _ (count_v hV (k := 9) (by decide))) hg) (wz_i 0) (List.range 0) (wz_C rfl rfl) (wz_X rfl rfl) (by decide +kernel) (by decide +kernel) (by decide +kernel) (rc_g hC rfl) (ef_sub hC hE (wz_i 0) (wz_C rfl rfl)) kc_yX9_count km_L_19 ki_yX9_count kv_yX9_count kn_RX9 ky_yX9_count rfl ⟨rfl, rfl⟩ ⟨Nat.le_of_ble_eq_true rfl, Nat.le_of_ble_eq_true rfl⟩ rfl (Nat.le_of_ble_eq_true rfl) ⟨by show k + 0 + 0 ≤ 600086; omega, by show n + 0 + 0 ≤ 7301442; omega⟩ dL_law_931 (fun o w1 h => ?_)
  obtain ⟨rfl, rfl, -⟩ := h
  refine cx_cnt (k' := k + 0) (n' := n + 0) (by omega) (by omega) ?_
  refine cx_at (ws' := ([] ++ WL G M)) (st' := [.int (cvA ng M 9), .int ((((cvA ng M 7) + (cvA ng M 8)) + (cvA ng M 5)) + (cvA ng M 6))]) rfl rfl ?_
  refine cx_iadd hC dL_law_934 ?_
  refine cx_iload_n hC dL_law_935 rfl 4 rfl ?_
  refine cx_iadd hC dL_law_936 ?_
  refine cx_iload_n hC dL_law_937 rfl 5 rfl ?_
  refine cx_aload_n hC dL_law_938 rfl 6 rfl ?_
  refine cx_bipush hC (10 : Int32) dL_law_939 (by decide) ?_
  refine cx_topi (y := (nI 10)) (rfl) ?_
  refine cy_callV hC (E := RX9) (y := yX9_count) (cy := cX9_count) (maxL := 2) (nA := 1) (r := (some .int)) (rm := (RM 2 0 0 46)) (mc := 0) (ms := 0) (As := [.int (nI 10)]) (wr := []) (yo_mo (c_X9_count l G M (i0 := 0) rfl _ (count_v hV (k := 10) (by decide))) hg) (wz_i 0) (List.range 0) (wz_C rfl rfl) (wz_X rfl rfl) (by decide +kernel) (by decide +kernel) (by decide +kernel) (rc_g hC rfl) (ef_sub hC hE (wz_i 0) (wz_C rfl rfl)) kc_yX9_count km_L_19 ki_yX9_count kv_yX9_count kn_RX9 ky_yX9_count rfl ⟨rfl, rfl⟩ ⟨Nat.le_of_ble_eq_true rfl, Nat.le_of_ble_eq_true rfl⟩ rfl (Nat.le_of_ble_eq_true rfl) ⟨by show k + 0 + 0 ≤ 600086; omega, by show n + 0 + 0 ≤ 7301442; omega⟩ dL_law_941 (fun o w1 h => ?_)
  obtain ⟨rfl, rfl, -⟩ := h
  refine cx_cnt (k' := k + 0) (n' := n + 0) (by omega) (by omega) ?_
  refine cx_at (ws' := ([] ++ WL G M)) (st' := [.int (cvA ng M 10), .int stk, .int ((((((cvA ng M 7) + (cvA ng M 8)) + (cvA ng M 5)) + (cvA ng M 6)) + (cvA ng M 9)) + lost)]) rfl rfl ?_
  refine cx_iadd hC dL_law_944 ?_
  refine cx_icmp_eq hC 950 dL_law_945 (by decide) (fun _ => ?_) (fun h => absurd (by have h1 := TA.cnt (ng := ng) M; grind) h)
  refine cx_iinc hC [(4, .int (nI (t + 1))), (9, .int (nI ng)), (8, .int (cvA ng M 8)), (7, .int (cvA ng M 7)), (3, .int lost), (2, .int stk), (1, .ref (G.2.1 0)), (0, .ref a)] dL_law_950 3 rfl (v := (nI (t + 1))) (n_suc t) (Nat.le_of_ble_eq_true rfl) rfl ?_
  refine cx_goto hC 17 dL_law_953 (by decide) ?_
  refine cx_sub [0, 4, 5, 6, 7] (lv' := [(4, .int (nI (t + 1))), (3, .int lost), (2, .int stk), (1, .ref (G.2.1 0)), (0, .ref a)]) rfl ?_
  refine cx_widen (k' := k + 0) (n' := n + 0) (by omega) (by omega) ?_
  exact K
theorem dL_law_496 : decode cL_law 496 = .ok (.iconst 0, 1) := by decide +kernel
theorem dL_law_497 : decode cL_law 497 = .ok (.istore 7, 2) := by decide +kernel
theorem dL_law_499 : decode cL_law 499 = .ok (.iconst 0, 1) := by decide +kernel
theorem dL_law_500 : decode cL_law 500 = .ok (.istore 8, 2) := by decide +kernel
theorem w_G {p : Program} {l : Launch} {e : Env} {s : State} {m : MethodId} {args : Array Value} {below : List Frame} {meth : Method} {c : Code} {D : DG} {F : EF} {A : Nat → Prop} {Q : State → Prop} {k n : Nat} (hC : CY p s m args meth c cL_law 12 RL (some .boolean) D A) (hE : ENV F A s s.heap) {a N : Nat} {f : Nat → Int32} {G : GG} (hg : GO D F G) (hm : (a, N, f) ∈ F.2.1) (hN : N < 2147483648) (hT : LTX F) {M : Mm} {H ng : Nat} (hV : LV H ng M) {t : Nat} {lost stk : Int32} (ht24 : t < 24) (hk : k + 0 ≤ 600086) (hn : n + 0 ≤ 7301442) (K : XC p l e (RM 2048 600086 7301442 84000) s m args below meth c D A 12 Q (k + 0) (n + 0) ([] ++ WL G M) 502 [(8, .int (nI 0)), (7, .int (0 : Int32)), (4, .int (nI t)), (3, .int lost), (2, .int stk), (1, .ref (G.2.1 0)), (0, .ref a)] []) : XC p l e (RM 2048 600086 7301442 84000) s m args below meth c D A 12 Q (k) (n) ([] ++ WL G M) 496 [(4, .int (nI t)), (3, .int lost), (2, .int stk), (1, .ref (G.2.1 0)), (0, .ref a)] [] := by
  refine cx_iconst hC (0 : Int32) dL_law_496 (by decide) ?_
  refine cx_istore hC [(7, .int (0 : Int32)), (4, .int (nI t)), (3, .int lost), (2, .int stk), (1, .ref (G.2.1 0)), (0, .ref a)] dL_law_497 (Nat.le_of_ble_eq_true rfl) rfl ?_
  refine cx_iconst hC (0 : Int32) dL_law_499 (by decide) ?_
  refine cx_topi (y := (nI 0)) (rfl) ?_
  refine cx_istore hC [(8, .int (nI 0)), (7, .int (0 : Int32)), (4, .int (nI t)), (3, .int lost), (2, .int stk), (1, .ref (G.2.1 0)), (0, .ref a)] dL_law_500 (Nat.le_of_ble_eq_true rfl) rfl ?_
  refine cx_widen (k' := k + 0) (n' := n + 0) (by omega) (by omega) ?_
  exact K
theorem dL_law_717 : decode cL_law 717 = .ok (.iconst 0, 1) := by decide +kernel
theorem dL_law_718 : decode cL_law 718 = .ok (.istore 8, 2) := by decide +kernel
theorem dL_law_720 : decode cL_law 720 = .ok (.iconst 0, 1) := by decide +kernel
theorem dL_law_721 : decode cL_law 721 = .ok (.istore 9, 2) := by decide +kernel
theorem w_H {p : Program} {l : Launch} {e : Env} {s : State} {m : MethodId} {args : Array Value} {below : List Frame} {meth : Method} {c : Code} {D : DG} {F : EF} {A : Nat → Prop} {Q : State → Prop} {k n : Nat} (hC : CY p s m args meth c cL_law 12 RL (some .boolean) D A) (hE : ENV F A s s.heap) {a N : Nat} {f : Nat → Int32} {G : GG} (hg : GO D F G) (hm : (a, N, f) ∈ F.2.1) (hN : N < 2147483648) (hT : LTX F) {M : Mm} {H ng : Nat} (hV : LV H ng M) {t : Nat} {lost stk : Int32} (ht24 : t < 24) {br : Int32} (hk : k + 0 ≤ 600086) (hn : n + 0 ≤ 7301442) (K : XC p l e (RM 2048 600086 7301442 84000) s m args below meth c D A 12 Q (k + 0) (n + 0) ([] ++ WL G M) 723 [(9, .int (nI 0)), (8, .int (0 : Int32)), (7, .int br), (4, .int (nI t)), (3, .int lost), (2, .int stk), (1, .ref (G.2.1 0)), (0, .ref a)] []) : XC p l e (RM 2048 600086 7301442 84000) s m args below meth c D A 12 Q (k) (n) ([] ++ WL G M) 502 [(8, .int (nI 64)), (7, .int br), (4, .int (nI t)), (3, .int lost), (2, .int stk), (1, .ref (G.2.1 0)), (0, .ref a)] [] := by
  refine cx_iload hC dL_law_502 0 rfl ?_
  refine cx_bipush hC (64 : Int32) dL_law_504 (by decide) ?_
  refine cx_icmp_ge hC 717 dL_law_506 (by decide) (fun _ => ?_) (fun h => absurd (by decide) h)
  refine cx_iconst hC (0 : Int32) dL_law_717 (by decide) ?_
  refine cx_istore hC [(8, .int (0 : Int32)), (7, .int br), (4, .int (nI t)), (3, .int lost), (2, .int stk), (1, .ref (G.2.1 0)), (0, .ref a)] dL_law_718 (Nat.le_of_ble_eq_true rfl) rfl ?_
  refine cx_iconst hC (0 : Int32) dL_law_720 (by decide) ?_
  refine cx_topi (y := (nI 0)) (rfl) ?_
  refine cx_istore hC [(9, .int (nI 0)), (8, .int (0 : Int32)), (7, .int br), (4, .int (nI t)), (3, .int lost), (2, .int stk), (1, .ref (G.2.1 0)), (0, .ref a)] dL_law_721 (Nat.le_of_ble_eq_true rfl) rfl ?_
  refine cx_sub [0, 1, 2, 3, 4, 5, 6, 7] (lv' := [(9, .int (nI 0)), (8, .int (0 : Int32)), (7, .int br), (4, .int (nI t)), (3, .int lost), (2, .int stk), (1, .ref (G.2.1 0)), (0, .ref a)]) rfl ?_
  refine cx_widen (k' := k + 0) (n' := n + 0) (by omega) (by omega) ?_
  exact K
