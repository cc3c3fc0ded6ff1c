/-! a round of the law: a text taught -/
theorem TA.same {ng : Nat} {A A' : Mm} (h4 : ng ≤ 4) (h : ∀ r, 29 ≤ r → r < 47 → A' r = A r) : TA 29 ng A' = TA 29 ng A := by
  unfold TA TB
  rw [show (29 + 4 : Nat) = 33 from rfl, h 33 (by omega) (by omega), h 29 (by omega) (by omega), sumL_congr ng 0 (fun g _ hg => by show A' (29 + 10 + 2 * g) 2 = A (29 + 10 + 2 * g) 2; rw [h _ (by omega) (by omega)])]
theorem cv8_same {ng : Nat} {A A' : Mm} (h4 : ng ≤ 4) (h : ∀ r, 29 ≤ r → r < 47 → A' r = A r) : cvA ng A' 8 = cvA ng A 8 := by
  rw [cv8, cv8, sumL_congr ng 0 (fun g _ hg => by show A' (39 + 2 * g) 2 = A (39 + 2 * g) 2; rw [h _ (by omega) (by omega)])]
theorem cmp_0 (d : Int64) : lg_cmp d d = 0 := by
  unfold lg_cmp
  rw [if_neg (by rw [gt_iff_lt, Int64.lt_iff_toInt_lt]; omega), if_pos rfl]
theorem tx_b7 {x y : Nat} (hx : x < 8) (hy : y < 8) {W : List Int32} (hW : ∀ k, k < W.length → b7 (W.getD k 0)) (e : Bool) : ∀ k, k < (txT x y W e).length → b7 ((txT x y W e).getD k 0) := by
  refine mem7 (tx_rngT hx hy (fun c hc => ?_) e)
  obtain ⟨i, hi, rfl⟩ := List.getElem_of_mem hc
  have := hW i hi
  rw [List.getD_eq_getElem?_getD, List.getElem?_eq_getElem hi] at this
  exact this
theorem tx_l300 {x y : Nat} (hx : x < 8) (hy : y < 8) {W : List Int32} (h : W.length ≤ 48) (e : Bool) : (txT x y W e).length ≤ 200 := by
  rw [tx_len hx hy]
  have : (if e then [125] else ([] : List Int32)).length ≤ 1 := by cases e <;> decide
  omega
theorem dL_law_17 : decode cL_law 17 = .ok (.iload 4, 2) := by decide +kernel
theorem dL_law_19 : decode cL_law 19 = .ok (.bipush 24, 2) := by decide +kernel
theorem dL_law_21 : decode cL_law 21 = .ok (.if_icmp .ge 935, 3) := by decide +kernel
theorem dL_law_24 : decode cL_law 24 = .ok (.aload_n 0, 1) := by decide +kernel
theorem dL_law_25 : decode cL_law 25 = .ok (.iload 4, 2) := by decide +kernel
theorem dL_law_27 : decode cL_law 27 = .ok (.bipush 16, 2) := by decide +kernel
theorem dL_law_29 : decode cL_law 29 = .ok (.irem, 1) := by decide +kernel
theorem dL_law_30 : decode cL_law 30 = .ok (.invokestatic 38, 3) := by decide +kernel
theorem dL_law_33 : decode cL_law 33 = .ok (.iload 4, 2) := by decide +kernel
theorem dL_law_35 : decode cL_law 35 = .ok (.bipush 16, 2) := by decide +kernel
theorem dL_law_37 : decode cL_law 37 = .ok (.idiv, 1) := by decide +kernel
theorem dL_law_38 : decode cL_law 38 = .ok (.bipush 6, 2) := by decide +kernel
theorem dL_law_40 : decode cL_law 40 = .ok (.imul, 1) := by decide +kernel
theorem dL_law_41 : decode cL_law 41 = .ok (.ishr, 1) := by decide +kernel
theorem dL_law_42 : decode cL_law 42 = .ok (.istore 5, 2) := by decide +kernel
theorem dL_law_44 : decode cL_law 44 = .ok (.iload 5, 2) := by decide +kernel
theorem dL_law_46 : decode cL_law 46 = .ok (.iconst 2, 1) := by decide +kernel
theorem dL_law_47 : decode cL_law 47 = .ok (.ishr, 1) := by decide +kernel
theorem dL_law_48 : decode cL_law 48 = .ok (.bipush 64, 2) := by decide +kernel
theorem dL_law_50 : decode cL_law 50 = .ok (.invokestatic 42, 3) := by decide +kernel
theorem dL_law_53 : decode cL_law 53 = .ok (.istore 6, 2) := by decide +kernel
theorem dL_law_55 : decode cL_law 55 = .ok (.iload 5, 2) := by decide +kernel
theorem dL_law_57 : decode cL_law 57 = .ok (.iconst 4, 1) := by decide +kernel
theorem dL_law_58 : decode cL_law 58 = .ok (.invokestatic 42, 3) := by decide +kernel
theorem dL_law_61 : decode cL_law 61 = .ok (.ifCond .ne 255, 3) := by decide +kernel
theorem w_r1 {p : Program} {l : Launch} {e : Env} {s : State} {m : MethodId} {args : Array Value} {below : List Frame} {meth : Method} {c : Code} {D : DG} {F : EF} {A : Nat → Prop} {Q : State → Prop} {k n : Nat} (hC : CY p s m args meth c cL_law 12 RL (some .boolean) D A) (hE : ENV F A s s.heap) {a N : Nat} {f : Nat → Int32} {G : GG} (hg : GO D F G) (hm : (a, N, f) ∈ F.2.1) (hN : N < 2147483648) (hT : LTX F) {M : Mm} {H ng : Nat} (hV : LV H ng M) {t : Nat} {lost stk : Int32} (ht24 : t < 24) (hk : k + 0 ≤ 600086) (hn : n + 0 ≤ 7301442) (K1 : ∀ (x : Int32) (r1 : Nat) (_ : r1 < 64), XC p l e (RM 2048 600086 7301442 84000) s m args below meth c D A 12 Q (k + 0) (n + 0) ([] ++ WL G M) 64 [(6, .int (nI r1)), (5, .int x), (4, .int (nI t)), (3, .int lost), (2, .int stk), (1, .ref (G.2.1 0)), (0, .ref a)] []) (K2 : ∀ (x : Int32) (r1 : Nat) (_ : r1 < 64), XC p l e (RM 2048 600086 7301442 84000) s m args below meth c D A 12 Q (k + 0) (n + 0) ([] ++ WL G M) 316 [(6, .int (nI r1)), (5, .int x), (4, .int (nI t)), (3, .int lost), (2, .int stk), (1, .ref (G.2.1 0)), (0, .ref a)] []) : XC p l e (RM 2048 600086 7301442 84000) s m args below meth c D A 12 Q (k) (n) ([] ++ WL G M) 17 [(4, .int (nI t)), (3, .int lost), (2, .int stk), (1, .ref (G.2.1 0)), (0, .ref a)] [] := by
  refine cx_iload hC dL_law_17 0 rfl ?_
  refine cx_bipush hC (24 : Int32) dL_law_19 (by decide) ?_
  refine cx_icmp_ge hC 956 dL_law_21 (by decide) (fun h => absurd h (fun h => by have := (n_le (a := 24) (by omega) (by omega)).mp h; omega)) (fun _ => ?_)
  refine cx_aload_n hC dL_law_24 rfl 4 rfl ?_
  refine cx_iload hC dL_law_25 0 rfl ?_
  refine cx_bipush hC (16 : Int32) dL_law_27 (by decide) ?_
  refine cx_irem hC dL_law_29 (by decide) ?_
  refine cx_topi (y := (nI (t % 16))) ((rem_n (b := 16) (by omega) (by decide) (by decide)).symm) ?_
  refine cy_callS hC (y := yL_cell) (cy := cL_cell) (maxL := 2) (nA := 2) (r := (some .int)) (rm := (RM 1 0 0 0)) (mc := 0) (ms := 0) (As := [.ref a, .int (nI (t % 16))]) (wr := ([] ++ WL G M)) (l_cell l D F hm hN (kk := t % 16) (by omega)) [] (wz_r [] 0) rfl (wz_R rfl rfl rfl) (by decide +kernel) (by decide) (by decide +kernel) (ef_sub hC hE [] rfl) kc_yL_cell km_L_38 kt_yL_cell kn_RL ky_yL_cell rfl ⟨rfl, rfl⟩ ⟨Nat.le_of_ble_eq_true rfl, Nat.le_of_ble_eq_true rfl⟩ rfl (Nat.le_of_ble_eq_true rfl) ⟨by show k + 0 + 0 ≤ 600086; omega, by show n + 0 + 0 ≤ 7301442; omega⟩ dL_law_30 (fun o w1 h => ?_)
  obtain ⟨v1, rfl, rfl⟩ := h
  refine cx_cnt (k' := k + 0) (n' := n + 0) (by omega) (by omega) ?_
  refine cx_at (ws' := ([] ++ WL G M)) (st' := [.int (v1)]) rfl rfl ?_
  refine cx_iload hC dL_law_33 0 rfl ?_
  refine cx_bipush hC (16 : Int32) dL_law_35 (by decide) ?_
  refine cx_idiv hC dL_law_37 (by decide) ?_
  refine cx_topi (y := (nI (t / 16))) ((div_n (b := 16) (by omega) (by decide) (by decide)).symm) ?_
  refine cx_bipush hC (6 : Int32) dL_law_38 (by decide) ?_
  refine cx_imul hC dL_law_40 ?_
  refine cx_ishr hC dL_law_41 ?_
  refine cx_istore hC [(5, .int ((v1) >>> (((nI (t / 16)) * (6 : Int32)) &&& 31))), (4, .int (nI t)), (3, .int lost), (2, .int stk), (1, .ref (G.2.1 0)), (0, .ref a)] dL_law_42 (Nat.le_of_ble_eq_true rfl) rfl ?_
  generalize ((v1) >>> (((nI (t / 16)) * (6 : Int32)) &&& 31)) = x
  refine cx_iload hC dL_law_44 0 rfl ?_
  refine cx_iconst hC (2 : Int32) dL_law_46 (by decide) ?_
  refine cx_ishr hC dL_law_47 ?_
  refine cx_bipush hC (64 : Int32) dL_law_48 (by decide) ?_
  refine cy_callS hC (y := yL_below) (cy := cL_below) (maxL := 2) (nA := 2) (r := (some .int)) (rm := (RM 1 0 0 0)) (mc := 0) (ms := 0) (As := [.int (x >>> ((2 : Int32) &&& 31)), .int (64 : Int32)]) (wr := ([] ++ WL G M)) (l_bel l D F (u := 64) (by decide) (by decide)) [] (wz_r [] 0) rfl (wz_R rfl rfl rfl) (by decide +kernel) (by decide) (by decide +kernel) (ef_sub hC hE [] rfl) kc_yL_below km_L_42 kt_yL_below kn_RL ky_yL_below rfl ⟨rfl, rfl⟩ ⟨Nat.le_of_ble_eq_true rfl, Nat.le_of_ble_eq_true rfl⟩ rfl (Nat.le_of_ble_eq_true rfl) ⟨by show k + 0 + 0 ≤ 600086; omega, by show n + 0 + 0 ≤ 7301442; omega⟩ dL_law_50 (fun o w1 h => ?_)
  obtain ⟨r1, rfl, hr1, rfl⟩ := h
  refine cx_cnt (k' := k + 0) (n' := n + 0) (by omega) (by omega) ?_
  refine cx_at (ws' := ([] ++ WL G M)) (st' := [.int (nI r1)]) rfl rfl ?_
  refine cx_istore hC [(6, .int (nI r1)), (5, .int x), (4, .int (nI t)), (3, .int lost), (2, .int stk), (1, .ref (G.2.1 0)), (0, .ref a)] dL_law_53 (Nat.le_of_ble_eq_true rfl) rfl ?_
  refine cx_iload hC dL_law_55 1 rfl ?_
  refine cx_iconst hC (4 : Int32) dL_law_57 (by decide) ?_
  refine cy_callS hC (y := yL_below) (cy := cL_below) (maxL := 2) (nA := 2) (r := (some .int)) (rm := (RM 1 0 0 0)) (mc := 0) (ms := 0) (As := [.int x, .int (4 : Int32)]) (wr := ([] ++ WL G M)) (l_bel l D F (u := 4) (by decide) (by decide)) [] (wz_r [] 0) rfl (wz_R rfl rfl rfl) (by decide +kernel) (by decide) (by decide +kernel) (ef_sub hC hE [] rfl) kc_yL_below km_L_42 kt_yL_below kn_RL ky_yL_below rfl ⟨rfl, rfl⟩ ⟨Nat.le_of_ble_eq_true rfl, Nat.le_of_ble_eq_true rfl⟩ rfl (Nat.le_of_ble_eq_true rfl) ⟨by show k + 0 + 0 ≤ 600086; omega, by show n + 0 + 0 ≤ 7301442; omega⟩ dL_law_58 (fun o w1 h => ?_)
  obtain ⟨r0, rfl, hr0, rfl⟩ := h
  refine cx_cnt (k' := k + 0) (n' := n + 0) (by omega) (by omega) ?_
  refine cx_at (ws' := ([] ++ WL G M)) (st' := [.int (nI r0)]) rfl rfl ?_
  by_cases hc : nI r0 = 0
  · skip
    refine cx_if_ne hC 316 dL_law_61 (by decide) (fun h => absurd (hc) h) (fun _ => ?_)
    refine cx_widen (k' := k + 0) (n' := n + 0) (by omega) (by omega) ?_
    exact K1 x r1 hr1
  · skip
    refine cx_if_ne hC 316 dL_law_61 (by decide) (fun _ => ?_) (fun h => absurd h (hc))
    refine cx_widen (k' := k + 0) (n' := n + 0) (by omega) (by omega) ?_
    exact K2 x r1 hr1
theorem dL_law_64 : decode cL_law 64 = .ok (.bipush 16, 2) := by decide +kernel
theorem dL_law_66 : decode cL_law 66 = .ok (.newarray .int, 2) := by decide +kernel
theorem dL_law_68 : decode cL_law 68 = .ok (.astore 7, 2) := by decide +kernel
theorem dL_law_70 : decode cL_law 70 = .ok (.iconst 0, 1) := by decide +kernel
theorem dL_law_71 : decode cL_law 71 = .ok (.istore 8, 2) := by decide +kernel
theorem w_own0 {p : Program} {l : Launch} {e : Env} {s : State} {m : MethodId} {args : Array Value} {below : List Frame} {meth : Method} {c : Code} {D : DG} {F : EF} {A : Nat → Prop} {Q : State → Prop} {k n : Nat} (hC : CY p s m args meth c cL_law 12 RL (some .boolean) D A) (hE : ENV F A s s.heap) {a N : Nat} {f : Nat → Int32} {G : GG} (hg : GO D F G) (hm : (a, N, f) ∈ F.2.1) (hN : N < 2147483648) (hT : LTX F) {M : Mm} {H ng : Nat} (hV : LV H ng M) {t r1 : Nat} {x lost stk : Int32} (ht24 : t < 24) (h64 : r1 < 64) (hk : k + 1 ≤ 600086) (hn : n + 16 ≤ 7301442) (K : ∀ (q : Nat), XC p l e (RM 2048 600086 7301442 84000) s m args below meth c D A 12 Q (k + 1) (n + 16) ([(q, .inl (D.2 0, 16, .inl (fun _ => 0)))] ++ WL G M) 73 [(8, .int (nI 0)), (7, .ref q), (6, .int (nI r1)), (5, .int x), (4, .int (nI t)), (3, .int lost), (2, .int stk), (1, .ref (G.2.1 0)), (0, .ref a)] []) : XC p l e (RM 2048 600086 7301442 84000) s m args below meth c D A 12 Q (k) (n) ([] ++ WL G M) 64 [(6, .int (nI r1)), (5, .int x), (4, .int (nI t)), (3, .int lost), (2, .int stk), (1, .ref (G.2.1 0)), (0, .ref a)] [] := by
  refine cx_bipush hC (16 : Int32) dL_law_64 (by decide) ?_
  refine cx_topi (y := (16 : Int32)) (rfl) ?_
  refine cx_newi hC (N := 16) (by decide) (by decide) (Nat.le_of_ble_eq_true rfl) ⟨by show k + 0 + 1 ≤ 600086; omega, by show n + 0 + 16 ≤ 7301442; omega⟩ (tb_16 (List.mem_of_getElem? (i := 27) rfl)) dL_law_66 (fun q1 => ?_)
  refine cx_rot ?_
  refine cx_at (ws' := ([(q1, .inl (D.2 0, 16, .inl (fun _ => 0)))] ++ WL G M)) (st' := [.ref q1]) rfl rfl ?_
  refine cx_astore hC [(7, .ref q1), (6, .int (nI r1)), (5, .int x), (4, .int (nI t)), (3, .int lost), (2, .int stk), (1, .ref (G.2.1 0)), (0, .ref a)] dL_law_68 (Nat.le_of_ble_eq_true rfl) rfl ?_
  refine cx_iconst hC (0 : Int32) dL_law_70 (by decide) ?_
  refine cx_topi (y := (nI 0)) (rfl) ?_
  refine cx_istore hC [(8, .int (nI 0)), (7, .ref q1), (6, .int (nI r1)), (5, .int x), (4, .int (nI t)), (3, .int lost), (2, .int stk), (1, .ref (G.2.1 0)), (0, .ref a)] dL_law_71 (Nat.le_of_ble_eq_true rfl) rfl ?_
  refine cx_widen (k' := k + 1) (n' := n + 16) (by omega) (by omega) ?_
  exact K q1
theorem dL_law_73 : decode cL_law 73 = .ok (.iload 8, 2) := by decide +kernel
theorem dL_law_75 : decode cL_law 75 = .ok (.bipush 16, 2) := by decide +kernel
theorem dL_law_77 : decode cL_law 77 = .ok (.if_icmp .ge 25, 3) := by decide +kernel
theorem dL_law_80 : decode cL_law 80 = .ok (.aload 7, 2) := by decide +kernel
theorem dL_law_82 : decode cL_law 82 = .ok (.iload 8, 2) := by decide +kernel
theorem dL_law_84 : decode cL_law 84 = .ok (.aload_n 0, 1) := by decide +kernel
theorem dL_law_85 : decode cL_law 85 = .ok (.iload 8, 2) := by decide +kernel
theorem dL_law_87 : decode cL_law 87 = .ok (.invokestatic 38, 3) := by decide +kernel
theorem dL_law_90 : decode cL_law 90 = .ok (.iload 4, 2) := by decide +kernel
theorem dL_law_92 : decode cL_law 92 = .ok (.iconst 5, 1) := by decide +kernel
theorem dL_law_93 : decode cL_law 93 = .ok (.irem, 1) := by decide +kernel
theorem dL_law_94 : decode cL_law 94 = .ok (.ishr, 1) := by decide +kernel
theorem dL_law_95 : decode cL_law 95 = .ok (.iastore, 1) := by decide +kernel
theorem dL_law_96 : decode cL_law 96 = .ok (.iinc 8 1, 3) := by decide +kernel
theorem dL_law_99 : decode cL_law 99 = .ok (.goto (-26), 3) := by decide +kernel
theorem w_own1 {p : Program} {l : Launch} {e : Env} {s : State} {m : MethodId} {args : Array Value} {below : List Frame} {meth : Method} {c : Code} {D : DG} {F : EF} {A : Nat → Prop} {Q : State → Prop} {k n : Nat} (hC : CY p s m args meth c cL_law 12 RL (some .boolean) D A) (hE : ENV F A s s.heap) {a N : Nat} {f : Nat → Int32} {G : GG} (hg : GO D F G) (hm : (a, N, f) ∈ F.2.1) (hN : N < 2147483648) (hT : LTX F) {M : Mm} {H ng : Nat} (hV : LV H ng M) {t r1 : Nat} {x lost stk : Int32} (ht24 : t < 24) (h64 : r1 < 64) {i q : Nat} {g : Nat → Int32} (hi : i < 16) (hk : k + 0 ≤ 600086) (hn : n + 0 ≤ 7301442) (K : ∀ (g' : Nat → Int32), XC p l e (RM 2048 600086 7301442 84000) s m args below meth c D A 12 Q (k + 0) (n + 0) ([(q, .inl (D.2 0, 16, .inl (g')))] ++ WL G M) 73 [(8, .int (nI (i + 1))), (7, .ref q), (6, .int (nI r1)), (5, .int x), (4, .int (nI t)), (3, .int lost), (2, .int stk), (1, .ref (G.2.1 0)), (0, .ref a)] []) : XC p l e (RM 2048 600086 7301442 84000) s m args below meth c D A 12 Q (k) (n) ([(q, .inl (D.2 0, 16, .inl (g)))] ++ WL G M) 73 [(8, .int (nI i)), (7, .ref q), (6, .int (nI r1)), (5, .int x), (4, .int (nI t)), (3, .int lost), (2, .int stk), (1, .ref (G.2.1 0)), (0, .ref a)] [] := by
  refine cx_iload hC dL_law_73 0 rfl ?_
  refine cx_bipush hC (16 : Int32) dL_law_75 (by decide) ?_
  refine cx_icmp_ge hC 102 dL_law_77 (by decide) (fun h => absurd h (fun h => by have := (n_le (a := 16) (by omega) (by omega)).mp h; omega)) (fun _ => ?_)
  refine cx_aload hC dL_law_80 1 rfl ?_
  refine cx_iload hC dL_law_82 0 rfl ?_
  refine cx_aload_n hC dL_law_84 rfl 8 rfl ?_
  refine cx_iload hC dL_law_85 0 rfl ?_
  refine cy_callS hC (y := yL_cell) (cy := cL_cell) (maxL := 2) (nA := 2) (r := (some .int)) (rm := (RM 1 0 0 0)) (mc := 0) (ms := 0) (As := [.ref a, .int (nI i)]) (wr := ([(q, .inl (D.2 0, 16, .inl (g)))] ++ WL G M)) (l_cell l D F hm hN (kk := i) (by omega)) [] (wz_r [0] 1) rfl (wz_R rfl rfl rfl) (by decide +kernel) (by decide) (by decide +kernel) (ef_sub hC hE [] rfl) kc_yL_cell km_L_38 kt_yL_cell kn_RL ky_yL_cell rfl ⟨rfl, rfl⟩ ⟨Nat.le_of_ble_eq_true rfl, Nat.le_of_ble_eq_true rfl⟩ rfl (Nat.le_of_ble_eq_true rfl) ⟨by show k + 0 + 0 ≤ 600086; omega, by show n + 0 + 0 ≤ 7301442; omega⟩ dL_law_87 (fun o w1 h => ?_)
  obtain ⟨v1, rfl, rfl⟩ := h
  refine cx_cnt (k' := k + 0) (n' := n + 0) (by omega) (by omega) ?_
  refine cx_at (ws' := ([(q, .inl (D.2 0, 16, .inl (g)))] ++ WL G M)) (st' := [.int (v1), .int (nI i), .ref q]) rfl rfl ?_
  refine cx_iload hC dL_law_90 4 rfl ?_
  refine cx_iconst hC (5 : Int32) dL_law_92 (by decide) ?_
  refine cx_irem hC dL_law_93 (by decide) ?_
  refine cx_topi (y := (nI (t % 5))) ((rem_n (b := 5) (by omega) (by decide) (by decide)).symm) ?_
  refine cx_ishr hC dL_law_94 ?_
  refine cx_iast hC 0 (N := 16) ([(q, .inl (D.2 0, 16, .inl (upd (g) i (v1 >>> ((nI (t % 5)) &&& 31)))))] ++ WL G M) rfl (by rw [i_nI (by omega)]; omega) (by rw [ix_nI (by omega)]; rfl) dL_law_95 ?_
  refine cx_iinc hC [(8, .int (nI (i + 1))), (7, .ref q), (6, .int (nI r1)), (5, .int x), (4, .int (nI t)), (3, .int lost), (2, .int stk), (1, .ref (G.2.1 0)), (0, .ref a)] dL_law_96 0 rfl (v := (nI (i + 1))) (n_suc i) (Nat.le_of_ble_eq_true rfl) rfl ?_
  refine cx_goto hC 73 dL_law_99 (by decide) ?_
  refine cx_widen (k' := k + 0) (n' := n + 0) (by omega) (by omega) ?_
  exact K _
theorem w_own {p : Program} {l : Launch} {e : Env} {s : State} {m : MethodId} {args : Array Value} {below : List Frame} {meth : Method} {c : Code} {D : DG} {F : EF} {A : Nat → Prop} {Q : State → Prop} {k n : Nat} (hC : CY p s m args meth c cL_law 12 RL (some .boolean) D A) (hE : ENV F A s s.heap)  {q : Nat} {a N : Nat} {f : Nat → Int32} {G : GG} (hg : GO D F G) (hm : (a, N, f) ∈ F.2.1) (hN : N < 2147483648) (hT : LTX F) {M : Mm} {H ng : Nat} (hV : LV H ng M) {t r1 : Nat} {x lost stk : Int32} (ht24 : t < 24) (h64 : r1 < 64) (hk : k ≤ 600086) (hn : n ≤ 7301442) (K : ∀ g : Nat → Int32, XC p l e (RM 2048 600086 7301442 84000) s m args below meth c D A 12 Q (k) (n) ([(q, .inl (D.2 0, 16, .inl (g)))] ++ WL G M) 73 [(8, .int (nI 16)), (7, .ref q), (6, .int (nI r1)), (5, .int x), (4, .int (nI t)), (3, .int lost), (2, .int stk), (1, .ref (G.2.1 0)), (0, .ref a)] []) : ∀ (r i : Nat) (g : Nat → Int32), i + r = 16 → XC p l e (RM 2048 600086 7301442 84000) s m args below meth c D A 12 Q (k) (n) ([(q, .inl (D.2 0, 16, .inl (g)))] ++ WL G M) 73 [(8, .int (nI i)), (7, .ref q), (6, .int (nI r1)), (5, .int x), (4, .int (nI t)), (3, .int lost), (2, .int stk), (1, .ref (G.2.1 0)), (0, .ref a)] [] := by
  intro r
  induction r with
  | zero =>
    intro i g h
    obtain rfl : i = 16 := by omega
    exact K g
  | succ r ih =>
    intro i g h
    refine w_own1 hC hE hg hm hN hT hV ht24 h64 (by omega) (by omega) (by omega) (fun g' => ?_)
    exact ih (i + 1) g' (by omega)
theorem dL_law_102 : decode cL_law 102 = .ok (.new 68, 3) := by decide +kernel
theorem dL_law_105 : decode cL_law 105 = .ok (.dup, 1) := by decide +kernel
theorem dL_law_106 : decode cL_law 106 = .ok (.invokespecial 70, 3) := by decide +kernel
theorem dL_law_109 : decode cL_law 109 = .ok (.ldc 102, 2) := by decide +kernel
theorem dL_law_111 : decode cL_law 111 = .ok (.invokevirtual 73, 3) := by decide +kernel
theorem dL_law_114 : decode cL_law 114 = .ok (.iload 6, 2) := by decide +kernel
theorem dL_law_116 : decode cL_law 116 = .ok (.bipush 8, 2) := by decide +kernel
theorem dL_law_118 : decode cL_law 118 = .ok (.irem, 1) := by decide +kernel
theorem dL_law_119 : decode cL_law 119 = .ok (.invokevirtual 77, 3) := by decide +kernel
theorem dL_law_122 : decode cL_law 122 = .ok (.ldc 104, 2) := by decide +kernel
theorem dL_law_124 : decode cL_law 124 = .ok (.invokevirtual 73, 3) := by decide +kernel
theorem dL_law_127 : decode cL_law 127 = .ok (.iload 6, 2) := by decide +kernel
theorem dL_law_129 : decode cL_law 129 = .ok (.bipush 8, 2) := by decide +kernel
theorem dL_law_131 : decode cL_law 131 = .ok (.idiv, 1) := by decide +kernel
theorem dL_law_132 : decode cL_law 132 = .ok (.invokevirtual 77, 3) := by decide +kernel
theorem dL_law_135 : decode cL_law 135 = .ok (.ldc 106, 2) := by decide +kernel
theorem dL_law_137 : decode cL_law 137 = .ok (.invokevirtual 73, 3) := by decide +kernel
theorem dL_law_140 : decode cL_law 140 = .ok (.aload 7, 2) := by decide +kernel
theorem dL_law_142 : decode cL_law 142 = .ok (.bipush 6, 2) := by decide +kernel
theorem dL_law_144 : decode cL_law 144 = .ok (.invokestatic 108, 3) := by decide +kernel
theorem dL_law_147 : decode cL_law 147 = .ok (.invokestatic 112, 3) := by decide +kernel
theorem dL_law_150 : decode cL_law 150 = .ok (.invokevirtual 73, 3) := by decide +kernel
theorem dL_law_153 : decode cL_law 153 = .ok (.ldc 116, 2) := by decide +kernel
theorem dL_law_155 : decode cL_law 155 = .ok (.invokevirtual 73, 3) := by decide +kernel
theorem dL_law_158 : decode cL_law 158 = .ok (.iload 6, 2) := by decide +kernel
theorem dL_law_160 : decode cL_law 160 = .ok (.bipush 8, 2) := by decide +kernel
theorem dL_law_162 : decode cL_law 162 = .ok (.idiv, 1) := by decide +kernel
theorem dL_law_163 : decode cL_law 163 = .ok (.invokevirtual 77, 3) := by decide +kernel
theorem dL_law_166 : decode cL_law 166 = .ok (.ldc 104, 2) := by decide +kernel
theorem dL_law_168 : decode cL_law 168 = .ok (.invokevirtual 73, 3) := by decide +kernel
theorem dL_law_171 : decode cL_law 171 = .ok (.iload 6, 2) := by decide +kernel
theorem dL_law_173 : decode cL_law 173 = .ok (.bipush 8, 2) := by decide +kernel
theorem dL_law_175 : decode cL_law 175 = .ok (.irem, 1) := by decide +kernel
theorem dL_law_176 : decode cL_law 176 = .ok (.invokevirtual 77, 3) := by decide +kernel
theorem dL_law_179 : decode cL_law 179 = .ok (.ldc 118, 2) := by decide +kernel
theorem dL_law_181 : decode cL_law 181 = .ok (.invokevirtual 73, 3) := by decide +kernel
theorem dL_law_184 : decode cL_law 184 = .ok (.invokevirtual 82, 3) := by decide +kernel
theorem dL_law_187 : decode cL_law 187 = .ok (.astore 8, 2) := by decide +kernel
set_option maxHeartbeats 8000000 in
theorem w_A1 {p : Program} {l : Launch} {e : Env} {s : State} {m : MethodId} {args : Array Value} {below : List Frame} {meth : Method} {c : Code} {D : DG} {F : EF} {A : Nat → Prop} {Q : State → Prop} {k n : Nat} (hC : CY p s m args meth c cL_law 12 RL (some .boolean) D A) (hE : ENV F A s s.heap) {a N : Nat} {f : Nat → Int32} {G : GG} (hg : GO D F G) (hm : (a, N, f) ∈ F.2.1) (hN : N < 2147483648) (hT : LTX F) {M : Mm} {H ng : Nat} (hV : LV H ng M) {t r1 : Nat} {x lost stk : Int32} (ht24 : t < 24) (h64 : r1 < 64) {q : Nat} {g : Nat → Int32} (hk : k + 136 ≤ 600086) (hn : n + 67242 ≤ 7301442) (K : ∀ (W : List Int32) (sT xT NT : Nat) (gT : Nat → Int32) (_ : nb W) (_ : W.length ≤ 48) (_ : ∀ k, k < W.length → b7 (W.getD k 0)) (_ : NT = (txT (r1 % 8) (r1 / 8) W false).length) (_ : ∀ k, k < NT → gT k = (txT (r1 % 8) (r1 / 8) W false).getD k 0), XC p l e (RM 2048 600086 7301442 84000) s m args below meth c D A 12 Q (k + 136) (n + 67242) ([(sT, .inr (4, [.ref xT, .int 0, .int 0, .int 0])), (xT, .inl (D.2 1, NT, .inl (gT)))] ++ WL G M) 189 [(8, .ref sT), (6, .int (nI r1)), (5, .int x), (4, .int (nI t)), (3, .int lost), (2, .int stk), (1, .ref (G.2.1 0)), (0, .ref a)] []) : XC p l e (RM 2048 600086 7301442 84000) s m args below meth c D A 12 Q (k) (n) ([(q, .inl (D.2 0, 16, .inl (g)))] ++ WL G M) 73 [(8, .int (nI 16)), (7, .ref q), (6, .int (nI r1)), (5, .int x), (4, .int (nI t)), (3, .int lost), (2, .int stk), (1, .ref (G.2.1 0)), (0, .ref a)] [] := by
  obtain ⟨t102, tv102, hr102, hm102⟩ := hT _ (List.mem_of_getElem? (i := 9) rfl : (102, "gang a at ", [103, 97, 110, 103, 32, 97, 32, 97, 116, 32]) ∈ lwT)
  obtain ⟨t104, tv104, hr104, hm104⟩ := hT _ (List.mem_of_getElem? (i := 10) rfl : (104, " ", [32]) ∈ lwT)
  obtain ⟨t106, tv106, hr106, hm106⟩ := hT _ (List.mem_of_getElem? (i := 11) rfl : (106, "{repeat 3{", [123, 114, 101, 112, 101, 97, 116, 32, 51, 123]) ∈ lwT)
  obtain ⟨t116, tv116, hr116, hm116⟩ := hT _ (List.mem_of_getElem? (i := 12) rfl : (116, "}}gang b at ", [125, 125, 103, 97, 110, 103, 32, 98, 32, 97, 116, 32]) ∈ lwT)
  obtain ⟨t118, tv118, hr118, hm118⟩ := hT _ (List.mem_of_getElem? (i := 13) rfl : (118, "{while day<9{if bricks>5{load bricks;go 0,0;unload;}else{go hour,day;cut peat;}}}", [123, 119, 104, 105, 108, 101, 32, 100, 97, 121, 60, 57, 123, 105, 102, 32, 98, 114, 105, 99, 107, 115, 62, 53, 123, 108, 111, 97, 100, 32, 98, 114, 105, 99, 107, 115, 59, 103, 111, 32, 48, 44, 48, 59, 117, 110, 108, 111, 97, 100, 59, 125, 101, 108, 115, 101, 123, 103, 111, 32, 104, 111, 117, 114, 44, 100, 97, 121, 59, 99, 117, 116, 32, 112, 101, 97, 116, 59, 125, 125, 125]) ∈ lwT)
  refine cx_iload hC dL_law_73 0 rfl ?_
  refine cx_bipush hC (16 : Int32) dL_law_75 (by decide) ?_
  refine cx_icmp_ge hC 102 dL_law_77 (by decide) (fun _ => ?_) (fun h => absurd (by decide) h)
  refine cx_new hC (C := RJ4) (T := TJ4) (N := 4) (ci := 5) tyJ4 [.null, .int 0, .int 0, .int 0] fw_5 tyJ4_ok (tb_22 (List.mem_of_getElem? (i := 9) rfl)) (tb_22 (List.mem_of_getElem? (i := 10) rfl)) kn_RJ4 rfl dfJ4 ⟨by show k + 0 + 1 ≤ 600086; omega, by show n + 0 + 4 ≤ 7301442; omega⟩ dL_law_102 (fun q1 => ?_)
  refine cx_rot ?_
  refine cx_at (ws' := ([(q1, .inr (5, [.null, .int 0, .int 0, .int 0])), (q, .inl (D.2 0, 16, .inl (g)))] ++ WL G M)) (st' := [.ref q1]) rfl rfl ?_
  refine cx_dup hC dL_law_105 rfl ?_
  refine cy_callI hC (y := yJ4_init_da8c8) (cy := cJ4_init_da8c8) (maxL := 1) (nA := 0) (rm := (RM 2 1 16 33)) (mc := 1) (ms := 16) (As := []) (wr := ([(q, .inl (D.2 0, 16, .inl (g)))] ++ WL G M)) (j_sbi l D F) [0] (wz_r [1] 2) rfl (wz_R rfl rfl rfl) (by decide +kernel) (by decide) (by decide +kernel) (ef_sub hC hE [0] rfl) kc_yJ4_init_da8c8 km_L_70 ki_yJ4_init_da8c8 kn_RJ4 rfl ky_yJ4_init_da8c8 rfl ⟨rfl, rfl⟩ ⟨Nat.le_of_ble_eq_true rfl, Nat.le_of_ble_eq_true rfl⟩ rfl (Nat.le_of_ble_eq_true rfl) ⟨by show k + 1 + 1 ≤ 600086; omega, by show n + 4 + 16 ≤ 7301442; omega⟩ dL_law_106 (fun o w1 h => ?_)
  obtain ⟨rfl, v1, rfl⟩ := h
  refine cx_rotn ?_
  refine cx_cnt (k' := k + 2) (n' := n + 20) (by omega) (by omega) ?_
  refine cx_at (ws' := ([(q1, .inr (5, [.ref v1, .int 0, .int 0, .int (nI (([] : List Int32).length))])), (v1, .inl (D.2 1, 16, .inl (fun _ => 0))), (q, .inl (D.2 0, 16, .inl (g)))] ++ WL G M)) (st' := [.ref q1]) rfl rfl ?_
  refine cx_ldcS hC (hE.2.2.2.2.2.2.1 _ hr102) dL_law_109 ?_
  refine cy_callV hC (E := RJ4) (y := yJ4_append_15ec4) (cy := cJ4_append_15ec4) (maxL := 2) (nA := 1) (r := (some (.object "java/lang/StringBuilder"))) (rm := (RM 5 1 600 107)) (mc := 1) (ms := 600) (As := [.ref t102]) (wr := ([(q, .inl (D.2 0, 16, .inl (g)))] ++ WL G M)) (j_apS l D F (L := [103, 97, 110, 103, 32, 97, 32, 97, 116, 32]) (Ls := ([] : List Int32)) hm102 (lit7 (by decide)) sbi0 (by simp only [List.length_append, List.length_cons, List.length_nil]; have := dg_le (r1 % 8); have := dg_le (r1 / 8); omega)) [0, 1] (wz_r [2] 3) rfl (wz_R rfl rfl rfl) (by decide +kernel) (by decide) (by decide +kernel) (rc_sb hC (q0 := 0) rfl) (ef_sub hC hE [0, 1] rfl) kc_yJ4_append_15ec4 km_L_73 ki_yJ4_append_15ec4 kv_yJ4_append_15ec4 kn_RJ4 ky_yJ4_append_15ec4 rfl ⟨rfl, rfl⟩ ⟨Nat.le_of_ble_eq_true rfl, Nat.le_of_ble_eq_true rfl⟩ rfl (Nat.le_of_ble_eq_true rfl) ⟨by show k + 2 + 1 ≤ 600086; omega, by show n + 20 + 600 ≤ 7301442; omega⟩ dL_law_111 (fun o w1 h => ?_)
  obtain ⟨rfl, v2, c2, f2, rfl, hI2⟩ := h
  refine cx_rotn ?_
  refine cx_cnt (k' := k + 3) (n' := n + 620) (by omega) (by omega) ?_
  refine cx_at (ws' := ([(q1, .inr (5, [.ref v2, .int 0, .int 0, .int (nI ((([] : List Int32) ++ [103, 97, 110, 103, 32, 97, 32, 97, 116, 32]).length))])), (v2, .inl (D.2 1, c2, .inl (f2))), (q, .inl (D.2 0, 16, .inl (g)))] ++ WL G M)) (st' := [.ref q1]) rfl rfl ?_
  refine cx_iload hC dL_law_114 2 rfl ?_
  refine cx_bipush hC (8 : Int32) dL_law_116 (by decide) ?_
  refine cx_irem hC dL_law_118 (by decide) ?_
  refine cx_topi (y := (nI (r1 % 8))) ((rem_n (b := 8) (by omega) (by decide) (by decide)).symm) ?_
  refine cy_callV hC (E := RJ4) (y := yJ4_append_bf812) (cy := cJ4_append_bf812) (maxL := 2) (nA := 1) (r := (some (.object "java/lang/StringBuilder"))) (rm := (RM 5 1 600 107)) (mc := 1) (ms := 600) (As := [.int (nI (r1 % 8))]) (wr := ([(q, .inl (D.2 0, 16, .inl (g)))] ++ WL G M)) (j_apI l D F (u := (r1 % 8)) (Ls := (([] : List Int32) ++ [103, 97, 110, 103, 32, 97, 32, 97, 116, 32])) (by omega) hI2 (by simp only [List.length_append, List.length_cons, List.length_nil]; have := dg_le (r1 % 8); have := dg_le (r1 / 8); omega)) [0, 1] (wz_r [2] 3) rfl (wz_R rfl rfl rfl) (by decide +kernel) (by decide) (by decide +kernel) (rc_sb hC (q0 := 0) rfl) (ef_sub hC hE [0, 1] rfl) kc_yJ4_append_bf812 km_L_77 ki_yJ4_append_bf812 kv_yJ4_append_bf812 kn_RJ4 ky_yJ4_append_bf812 rfl ⟨rfl, rfl⟩ ⟨Nat.le_of_ble_eq_true rfl, Nat.le_of_ble_eq_true rfl⟩ rfl (Nat.le_of_ble_eq_true rfl) ⟨by show k + 3 + 1 ≤ 600086; omega, by show n + 620 + 600 ≤ 7301442; omega⟩ dL_law_119 (fun o w1 h => ?_)
  obtain ⟨rfl, v3, c3, f3, rfl, hI3⟩ := h
  refine cx_rotn ?_
  refine cx_cnt (k' := k + 4) (n' := n + 1220) (by omega) (by omega) ?_
  refine cx_at (ws' := ([(q1, .inr (5, [.ref v3, .int 0, .int 0, .int (nI (((([] : List Int32) ++ [103, 97, 110, 103, 32, 97, 32, 97, 116, 32]) ++ dgT (r1 % 8)).length))])), (v3, .inl (D.2 1, c3, .inl (f3))), (q, .inl (D.2 0, 16, .inl (g)))] ++ WL G M)) (st' := [.ref q1]) rfl rfl ?_
  refine cx_ldcS hC (hE.2.2.2.2.2.2.1 _ hr104) dL_law_122 ?_
  refine cy_callV hC (E := RJ4) (y := yJ4_append_15ec4) (cy := cJ4_append_15ec4) (maxL := 2) (nA := 1) (r := (some (.object "java/lang/StringBuilder"))) (rm := (RM 5 1 600 107)) (mc := 1) (ms := 600) (As := [.ref t104]) (wr := ([(q, .inl (D.2 0, 16, .inl (g)))] ++ WL G M)) (j_apS l D F (L := [32]) (Ls := ((([] : List Int32) ++ [103, 97, 110, 103, 32, 97, 32, 97, 116, 32]) ++ dgT (r1 % 8))) hm104 (lit7 (by decide)) hI3 (by simp only [List.length_append, List.length_cons, List.length_nil]; have := dg_le (r1 % 8); have := dg_le (r1 / 8); omega)) [0, 1] (wz_r [2] 3) rfl (wz_R rfl rfl rfl) (by decide +kernel) (by decide) (by decide +kernel) (rc_sb hC (q0 := 0) rfl) (ef_sub hC hE [0, 1] rfl) kc_yJ4_append_15ec4 km_L_73 ki_yJ4_append_15ec4 kv_yJ4_append_15ec4 kn_RJ4 ky_yJ4_append_15ec4 rfl ⟨rfl, rfl⟩ ⟨Nat.le_of_ble_eq_true rfl, Nat.le_of_ble_eq_true rfl⟩ rfl (Nat.le_of_ble_eq_true rfl) ⟨by show k + 4 + 1 ≤ 600086; omega, by show n + 1220 + 600 ≤ 7301442; omega⟩ dL_law_124 (fun o w1 h => ?_)
  obtain ⟨rfl, v4, c4, f4, rfl, hI4⟩ := h
  refine cx_rotn ?_
  refine cx_cnt (k' := k + 5) (n' := n + 1820) (by omega) (by omega) ?_
  refine cx_at (ws' := ([(q1, .inr (5, [.ref v4, .int 0, .int 0, .int (nI ((((([] : List Int32) ++ [103, 97, 110, 103, 32, 97, 32, 97, 116, 32]) ++ dgT (r1 % 8)) ++ [32]).length))])), (v4, .inl (D.2 1, c4, .inl (f4))), (q, .inl (D.2 0, 16, .inl (g)))] ++ WL G M)) (st' := [.ref q1]) rfl rfl ?_
  refine cx_iload hC dL_law_127 2 rfl ?_
  refine cx_bipush hC (8 : Int32) dL_law_129 (by decide) ?_
  refine cx_idiv hC dL_law_131 (by decide) ?_
  refine cx_topi (y := (nI (r1 / 8))) ((div_n (b := 8) (by omega) (by decide) (by decide)).symm) ?_
  refine cy_callV hC (E := RJ4) (y := yJ4_append_bf812) (cy := cJ4_append_bf812) (maxL := 2) (nA := 1) (r := (some (.object "java/lang/StringBuilder"))) (rm := (RM 5 1 600 107)) (mc := 1) (ms := 600) (As := [.int (nI (r1 / 8))]) (wr := ([(q, .inl (D.2 0, 16, .inl (g)))] ++ WL G M)) (j_apI l D F (u := (r1 / 8)) (Ls := (((([] : List Int32) ++ [103, 97, 110, 103, 32, 97, 32, 97, 116, 32]) ++ dgT (r1 % 8)) ++ [32])) (by omega) hI4 (by simp only [List.length_append, List.length_cons, List.length_nil]; have := dg_le (r1 % 8); have := dg_le (r1 / 8); omega)) [0, 1] (wz_r [2] 3) rfl (wz_R rfl rfl rfl) (by decide +kernel) (by decide) (by decide +kernel) (rc_sb hC (q0 := 0) rfl) (ef_sub hC hE [0, 1] rfl) kc_yJ4_append_bf812 km_L_77 ki_yJ4_append_bf812 kv_yJ4_append_bf812 kn_RJ4 ky_yJ4_append_bf812 rfl ⟨rfl, rfl⟩ ⟨Nat.le_of_ble_eq_true rfl, Nat.le_of_ble_eq_true rfl⟩ rfl (Nat.le_of_ble_eq_true rfl) ⟨by show k + 5 + 1 ≤ 600086; omega, by show n + 1820 + 600 ≤ 7301442; omega⟩ dL_law_132 (fun o w1 h => ?_)
  obtain ⟨rfl, v5, c5, f5, rfl, hI5⟩ := h
  refine cx_rotn ?_
  refine cx_cnt (k' := k + 6) (n' := n + 2420) (by omega) (by omega) ?_
  refine cx_at (ws' := ([(q1, .inr (5, [.ref v5, .int 0, .int 0, .int (nI (((((([] : List Int32) ++ [103, 97, 110, 103, 32, 97, 32, 97, 116, 32]) ++ dgT (r1 % 8)) ++ [32]) ++ dgT (r1 / 8)).length))])), (v5, .inl (D.2 1, c5, .inl (f5))), (q, .inl (D.2 0, 16, .inl (g)))] ++ WL G M)) (st' := [.ref q1]) rfl rfl ?_
  refine cx_ldcS hC (hE.2.2.2.2.2.2.1 _ hr106) dL_law_135 ?_
  refine cy_callV hC (E := RJ4) (y := yJ4_append_15ec4) (cy := cJ4_append_15ec4) (maxL := 2) (nA := 1) (r := (some (.object "java/lang/StringBuilder"))) (rm := (RM 5 1 600 107)) (mc := 1) (ms := 600) (As := [.ref t106]) (wr := ([(q, .inl (D.2 0, 16, .inl (g)))] ++ WL G M)) (j_apS l D F (L := [123, 114, 101, 112, 101, 97, 116, 32, 51, 123]) (Ls := ((((([] : List Int32) ++ [103, 97, 110, 103, 32, 97, 32, 97, 116, 32]) ++ dgT (r1 % 8)) ++ [32]) ++ dgT (r1 / 8))) hm106 (lit7 (by decide)) hI5 (by simp only [List.length_append, List.length_cons, List.length_nil]; have := dg_le (r1 % 8); have := dg_le (r1 / 8); omega)) [0, 1] (wz_r [2] 3) rfl (wz_R rfl rfl rfl) (by decide +kernel) (by decide) (by decide +kernel) (rc_sb hC (q0 := 0) rfl) (ef_sub hC hE [0, 1] rfl) kc_yJ4_append_15ec4 km_L_73 ki_yJ4_append_15ec4 kv_yJ4_append_15ec4 kn_RJ4 ky_yJ4_append_15ec4 rfl ⟨rfl, rfl⟩ ⟨Nat.le_of_ble_eq_true rfl, Nat.le_of_ble_eq_true rfl⟩ rfl (Nat.le_of_ble_eq_true rfl) ⟨by show k + 6 + 1 ≤ 600086; omega, by show n + 2420 + 600 ≤ 7301442; omega⟩ dL_law_137 (fun o w1 h => ?_)
  obtain ⟨rfl, v6, c6, f6, rfl, hI6⟩ := h
  refine cx_rotn ?_
  refine cx_cnt (k' := k + 7) (n' := n + 3020) (by omega) (by omega) ?_
  refine cx_at (ws' := ([(q1, .inr (5, [.ref v6, .int 0, .int 0, .int (nI ((((((([] : List Int32) ++ [103, 97, 110, 103, 32, 97, 32, 97, 116, 32]) ++ dgT (r1 % 8)) ++ [32]) ++ dgT (r1 / 8)) ++ [123, 114, 101, 112, 101, 97, 116, 32, 51, 123]).length))])), (v6, .inl (D.2 1, c6, .inl (f6))), (q, .inl (D.2 0, 16, .inl (g)))] ++ WL G M)) (st' := [.ref q1]) rfl rfl ?_
  refine cx_aload hC dL_law_140 1 rfl ?_
  refine cx_bipush hC (6 : Int32) dL_law_142 (by decide) ?_
  refine cy_callS hC (y := yL_orders) (cy := cL_orders) (maxL := 5) (nA := 2) (r := (some (.array .int))) (rm := (RM 6 1 18 120)) (mc := 1) (ms := 18) (As := [.ref q, .int (6 : Int32)]) (wr := ([(q1, .inr (5, [.ref v6, .int 0, .int 0, .int (nI ((((((([] : List Int32) ++ [103, 97, 110, 103, 32, 97, 32, 97, 116, 32]) ++ dgT (r1 % 8)) ++ [32]) ++ dgT (r1 / 8)) ++ [123, 114, 101, 112, 101, 97, 116, 32, 51, 123]).length))])), (v6, .inl (D.2 1, c6, .inl (f6))), (q, .inl (D.2 0, 16, .inl (g)))] ++ WL G M)) (l_ord l D (F.1, (q, 16, g) :: F.2.1, F.2.2) List.mem_cons_self (by decide)) [] (wz_r [0, 1, 2] 3) rfl (wz_R rfl rfl rfl) (by decide +kernel) (by decide) (by decide +kernel) (ef_row hC hE [] rfl (j := 2) rfl (by decide)) kc_yL_orders km_L_108 kt_yL_orders kn_RL ky_yL_orders rfl ⟨rfl, rfl⟩ ⟨Nat.le_of_ble_eq_true rfl, Nat.le_of_ble_eq_true rfl⟩ rfl (Nat.le_of_ble_eq_true rfl) ⟨by show k + 7 + 1 ≤ 600086; omega, by show n + 3020 + 18 ≤ 7301442; omega⟩ dL_law_144 (fun o w1 h => ?_)
  obtain ⟨q2, g2, rfl, rfl, hO⟩ := h
  have hW48 := (tl_b hO (i := 6) (by decide)).2.1
  refine cx_rotn ?_
  refine cx_cnt (k' := k + 8) (n' := n + 3038) (by omega) (by omega) ?_
  refine cx_at (ws' := ([(q2, .inl (D.2 0, 18, .inl (g2))), (q1, .inr (5, [.ref v6, .int 0, .int 0, .int (nI ((((((([] : List Int32) ++ [103, 97, 110, 103, 32, 97, 32, 97, 116, 32]) ++ dgT (r1 % 8)) ++ [32]) ++ dgT (r1 / 8)) ++ [123, 114, 101, 112, 101, 97, 116, 32, 51, 123]).length))])), (v6, .inl (D.2 1, c6, .inl (f6))), (q, .inl (D.2 0, 16, .inl (g)))] ++ WL G M)) (st' := [.ref q2, .ref q1]) rfl rfl ?_
  refine cy_callS hC (y := yL_told) (cy := cL_told) (maxL := 4) (nA := 1) (r := (some (.object "java/lang/String"))) (rm := (RM 9 120 60000 260)) (mc := 120) (ms := 60000) (As := [.ref q2]) (wr := ([(q2, .inl (D.2 0, 18, .inl (g2))), (q1, .inr (5, [.ref v6, .int 0, .int 0, .int (nI ((((((([] : List Int32) ++ [103, 97, 110, 103, 32, 97, 32, 97, 116, 32]) ++ dgT (r1 % 8)) ++ [32]) ++ dgT (r1 / 8)) ++ [123, 114, 101, 112, 101, 97, 116, 32, 51, 123]).length))])), (v6, .inl (D.2 1, c6, .inl (f6))), (q, .inl (D.2 0, 16, .inl (g)))] ++ WL G M)) (l_told l D (F.1, (q2, 18, g2) :: F.2.1, F.2.2) List.mem_cons_self hT hO) [] (wz_r [0, 1, 2, 3] 4) rfl (wz_R rfl rfl rfl) (by decide +kernel) (by decide) (by decide +kernel) (ef_row hC hE [] rfl (j := 0) rfl (by decide)) kc_yL_told km_L_112 kt_yL_told kn_RL ky_yL_told rfl ⟨rfl, rfl⟩ ⟨Nat.le_of_ble_eq_true rfl, Nat.le_of_ble_eq_true rfl⟩ rfl (Nat.le_of_ble_eq_true rfl) ⟨by show k + 8 + 120 ≤ 600086; omega, by show n + 3038 + 60000 ≤ 7301442; omega⟩ dL_law_147 (fun o w1 h => ?_)
  obtain ⟨sW, xW, NW, gW, rfl, rfl, hNW, hgW⟩ := h
  refine cx_rotn ?_
  refine cx_cnt (k' := k + 128) (n' := n + 63038) (by omega) (by omega) ?_
  refine cx_at (ws' := ([(sW, .inr (4, [.ref xW, .int 0, .int 0, .int 0])), (xW, .inl (D.2 1, NW, .inl (gW))), (q2, .inl (D.2 0, 18, .inl (g2))), (q1, .inr (5, [.ref v6, .int 0, .int 0, .int (nI ((((((([] : List Int32) ++ [103, 97, 110, 103, 32, 97, 32, 97, 116, 32]) ++ dgT (r1 % 8)) ++ [32]) ++ dgT (r1 / 8)) ++ [123, 114, 101, 112, 101, 97, 116, 32, 51, 123]).length))])), (v6, .inl (D.2 1, c6, .inl (f6))), (q, .inl (D.2 0, 16, .inl (g)))] ++ WL G M)) (st' := [.ref sW, .ref q1]) rfl rfl ?_
  refine cy_callV hC (E := RJ4) (y := yJ4_append_15ec4) (cy := cJ4_append_15ec4) (maxL := 2) (nA := 1) (r := (some (.object "java/lang/StringBuilder"))) (rm := (RM 5 1 600 107)) (mc := 1) (ms := 600) (As := [.ref sW]) (wr := ([(sW, .inr (4, [.ref xW, .int 0, .int 0, .int 0])), (xW, .inl (D.2 1, NW, .inl (gW))), (q2, .inl (D.2 0, 18, .inl (g2))), (q, .inl (D.2 0, 16, .inl (g)))] ++ WL G M)) (j_apS l D ((sW, xW, (tld (oo g2) 6)) :: F.1, F.2) (a := sW) (va := xW) (L := (tld (oo g2) 6)) (Ls := (((((([] : List Int32) ++ [103, 97, 110, 103, 32, 97, 32, 97, 116, 32]) ++ dgT (r1 % 8)) ++ [32]) ++ dgT (r1 / 8)) ++ [123, 114, 101, 112, 101, 97, 116, 32, 51, 123])) List.mem_cons_self ((tl_b hO (i := 6) (by decide)).2.2) hI6 (by simp only [List.length_append, List.length_cons, List.length_nil]; have := dg_le (r1 % 8); have := dg_le (r1 / 8); omega)) [3, 4] (wz_r [0, 1, 2, 5] 6) rfl (wz_R rfl rfl rfl) (by decide +kernel) (by decide) (by decide +kernel) (rc_sb hC (q0 := 3) rfl) (ef_own hC hE [3, 4] rfl (i := 0) (j := 1) rfl rfl hNW hgW (by decide) (by decide)) kc_yJ4_append_15ec4 km_L_73 ki_yJ4_append_15ec4 kv_yJ4_append_15ec4 kn_RJ4 ky_yJ4_append_15ec4 rfl ⟨rfl, rfl⟩ ⟨Nat.le_of_ble_eq_true rfl, Nat.le_of_ble_eq_true rfl⟩ rfl (Nat.le_of_ble_eq_true rfl) ⟨by show k + 128 + 1 ≤ 600086; omega, by show n + 63038 + 600 ≤ 7301442; omega⟩ dL_law_150 (fun o w1 h => ?_)
  obtain ⟨rfl, v9, c9, f9, rfl, hI9⟩ := h
  refine cx_rotn ?_
  refine cx_cnt (k' := k + 129) (n' := n + 63638) (by omega) (by omega) ?_
  refine cx_at (ws' := ([(q1, .inr (5, [.ref v9, .int 0, .int 0, .int (nI (((((((([] : List Int32) ++ [103, 97, 110, 103, 32, 97, 32, 97, 116, 32]) ++ dgT (r1 % 8)) ++ [32]) ++ dgT (r1 / 8)) ++ [123, 114, 101, 112, 101, 97, 116, 32, 51, 123]) ++ (tld (oo g2) 6)).length))])), (v9, .inl (D.2 1, c9, .inl (f9))), (sW, .inr (4, [.ref xW, .int 0, .int 0, .int 0])), (xW, .inl (D.2 1, NW, .inl (gW))), (q2, .inl (D.2 0, 18, .inl (g2))), (q, .inl (D.2 0, 16, .inl (g)))] ++ WL G M)) (st' := [.ref q1]) rfl rfl ?_
  refine cx_ldcS hC (hE.2.2.2.2.2.2.1 _ hr116) dL_law_153 ?_
  refine cy_callV hC (E := RJ4) (y := yJ4_append_15ec4) (cy := cJ4_append_15ec4) (maxL := 2) (nA := 1) (r := (some (.object "java/lang/StringBuilder"))) (rm := (RM 5 1 600 107)) (mc := 1) (ms := 600) (As := [.ref t116]) (wr := ([(sW, .inr (4, [.ref xW, .int 0, .int 0, .int 0])), (xW, .inl (D.2 1, NW, .inl (gW))), (q2, .inl (D.2 0, 18, .inl (g2))), (q, .inl (D.2 0, 16, .inl (g)))] ++ WL G M)) (j_apS l D F (L := [125, 125, 103, 97, 110, 103, 32, 98, 32, 97, 116, 32]) (Ls := ((((((([] : List Int32) ++ [103, 97, 110, 103, 32, 97, 32, 97, 116, 32]) ++ dgT (r1 % 8)) ++ [32]) ++ dgT (r1 / 8)) ++ [123, 114, 101, 112, 101, 97, 116, 32, 51, 123]) ++ (tld (oo g2) 6))) hm116 (lit7 (by decide)) hI9 (by simp only [List.length_append, List.length_cons, List.length_nil]; have := dg_le (r1 % 8); have := dg_le (r1 / 8); omega)) [0, 1] (wz_r [2, 3, 4, 5] 6) rfl (wz_R rfl rfl rfl) (by decide +kernel) (by decide) (by decide +kernel) (rc_sb hC (q0 := 0) rfl) (ef_sub hC hE [0, 1] rfl) kc_yJ4_append_15ec4 km_L_73 ki_yJ4_append_15ec4 kv_yJ4_append_15ec4 kn_RJ4 ky_yJ4_append_15ec4 rfl ⟨rfl, rfl⟩ ⟨Nat.le_of_ble_eq_true rfl, Nat.le_of_ble_eq_true rfl⟩ rfl (Nat.le_of_ble_eq_true rfl) ⟨by show k + 129 + 1 ≤ 600086; omega, by show n + 63638 + 600 ≤ 7301442; omega⟩ dL_law_155 (fun o w1 h => ?_)
  obtain ⟨rfl, v10, c10, f10, rfl, hI10⟩ := h
  refine cx_rotn ?_
  refine cx_cnt (k' := k + 130) (n' := n + 64238) (by omega) (by omega) ?_
  refine cx_at (ws' := ([(q1, .inr (5, [.ref v10, .int 0, .int 0, .int (nI ((((((((([] : List Int32) ++ [103, 97, 110, 103, 32, 97, 32, 97, 116, 32]) ++ dgT (r1 % 8)) ++ [32]) ++ dgT (r1 / 8)) ++ [123, 114, 101, 112, 101, 97, 116, 32, 51, 123]) ++ (tld (oo g2) 6)) ++ [125, 125, 103, 97, 110, 103, 32, 98, 32, 97, 116, 32]).length))])), (v10, .inl (D.2 1, c10, .inl (f10))), (sW, .inr (4, [.ref xW, .int 0, .int 0, .int 0])), (xW, .inl (D.2 1, NW, .inl (gW))), (q2, .inl (D.2 0, 18, .inl (g2))), (q, .inl (D.2 0, 16, .inl (g)))] ++ WL G M)) (st' := [.ref q1]) rfl rfl ?_
  refine cx_iload hC dL_law_158 2 rfl ?_
  refine cx_bipush hC (8 : Int32) dL_law_160 (by decide) ?_
  refine cx_idiv hC dL_law_162 (by decide) ?_
  refine cx_topi (y := (nI (r1 / 8))) ((div_n (b := 8) (by omega) (by decide) (by decide)).symm) ?_
  refine cy_callV hC (E := RJ4) (y := yJ4_append_bf812) (cy := cJ4_append_bf812) (maxL := 2) (nA := 1) (r := (some (.object "java/lang/StringBuilder"))) (rm := (RM 5 1 600 107)) (mc := 1) (ms := 600) (As := [.int (nI (r1 / 8))]) (wr := ([(sW, .inr (4, [.ref xW, .int 0, .int 0, .int 0])), (xW, .inl (D.2 1, NW, .inl (gW))), (q2, .inl (D.2 0, 18, .inl (g2))), (q, .inl (D.2 0, 16, .inl (g)))] ++ WL G M)) (j_apI l D F (u := (r1 / 8)) (Ls := (((((((([] : List Int32) ++ [103, 97, 110, 103, 32, 97, 32, 97, 116, 32]) ++ dgT (r1 % 8)) ++ [32]) ++ dgT (r1 / 8)) ++ [123, 114, 101, 112, 101, 97, 116, 32, 51, 123]) ++ (tld (oo g2) 6)) ++ [125, 125, 103, 97, 110, 103, 32, 98, 32, 97, 116, 32])) (by omega) hI10 (by simp only [List.length_append, List.length_cons, List.length_nil]; have := dg_le (r1 % 8); have := dg_le (r1 / 8); omega)) [0, 1] (wz_r [2, 3, 4, 5] 6) rfl (wz_R rfl rfl rfl) (by decide +kernel) (by decide) (by decide +kernel) (rc_sb hC (q0 := 0) rfl) (ef_sub hC hE [0, 1] rfl) kc_yJ4_append_bf812 km_L_77 ki_yJ4_append_bf812 kv_yJ4_append_bf812 kn_RJ4 ky_yJ4_append_bf812 rfl ⟨rfl, rfl⟩ ⟨Nat.le_of_ble_eq_true rfl, Nat.le_of_ble_eq_true rfl⟩ rfl (Nat.le_of_ble_eq_true rfl) ⟨by show k + 130 + 1 ≤ 600086; omega, by show n + 64238 + 600 ≤ 7301442; omega⟩ dL_law_163 (fun o w1 h => ?_)
  obtain ⟨rfl, v11, c11, f11, rfl, hI11⟩ := h
  refine cx_rotn ?_
  refine cx_cnt (k' := k + 131) (n' := n + 64838) (by omega) (by omega) ?_
  refine cx_at (ws' := ([(q1, .inr (5, [.ref v11, .int 0, .int 0, .int (nI (((((((((([] : List Int32) ++ [103, 97, 110, 103, 32, 97, 32, 97, 116, 32]) ++ dgT (r1 % 8)) ++ [32]) ++ dgT (r1 / 8)) ++ [123, 114, 101, 112, 101, 97, 116, 32, 51, 123]) ++ (tld (oo g2) 6)) ++ [125, 125, 103, 97, 110, 103, 32, 98, 32, 97, 116, 32]) ++ dgT (r1 / 8)).length))])), (v11, .inl (D.2 1, c11, .inl (f11))), (sW, .inr (4, [.ref xW, .int 0, .int 0, .int 0])), (xW, .inl (D.2 1, NW, .inl (gW))), (q2, .inl (D.2 0, 18, .inl (g2))), (q, .inl (D.2 0, 16, .inl (g)))] ++ WL G M)) (st' := [.ref q1]) rfl rfl ?_
  refine cx_ldcS hC (hE.2.2.2.2.2.2.1 _ hr104) dL_law_166 ?_
  refine cy_callV hC (E := RJ4) (y := yJ4_append_15ec4) (cy := cJ4_append_15ec4) (maxL := 2) (nA := 1) (r := (some (.object "java/lang/StringBuilder"))) (rm := (RM 5 1 600 107)) (mc := 1) (ms := 600) (As := [.ref t104]) (wr := ([(sW, .inr (4, [.ref xW, .int 0, .int 0, .int 0])), (xW, .inl (D.2 1, NW, .inl (gW))), (q2, .inl (D.2 0, 18, .inl (g2))), (q, .inl (D.2 0, 16, .inl (g)))] ++ WL G M)) (j_apS l D F (L := [32]) (Ls := ((((((((([] : List Int32) ++ [103, 97, 110, 103, 32, 97, 32, 97, 116, 32]) ++ dgT (r1 % 8)) ++ [32]) ++ dgT (r1 / 8)) ++ [123, 114, 101, 112, 101, 97, 116, 32, 51, 123]) ++ (tld (oo g2) 6)) ++ [125, 125, 103, 97, 110, 103, 32, 98, 32, 97, 116, 32]) ++ dgT (r1 / 8))) hm104 (lit7 (by decide)) hI11 (by simp only [List.length_append, List.length_cons, List.length_nil]; have := dg_le (r1 % 8); have := dg_le (r1 / 8); omega)) [0, 1] (wz_r [2, 3, 4, 5] 6) rfl (wz_R rfl rfl rfl) (by decide +kernel) (by decide) (by decide +kernel) (rc_sb hC (q0 := 0) rfl) (ef_sub hC hE [0, 1] rfl) kc_yJ4_append_15ec4 km_L_73 ki_yJ4_append_15ec4 kv_yJ4_append_15ec4 kn_RJ4 ky_yJ4_append_15ec4 rfl ⟨rfl, rfl⟩ ⟨Nat.le_of_ble_eq_true rfl, Nat.le_of_ble_eq_true rfl⟩ rfl (Nat.le_of_ble_eq_true rfl) ⟨by show k + 131 + 1 ≤ 600086; omega, by show n + 64838 + 600 ≤ 7301442; omega⟩ dL_law_168 (fun o w1 h => ?_)
  obtain ⟨rfl, v12, c12, f12, rfl, hI12⟩ := h
  refine cx_rotn ?_
  refine cx_cnt (k' := k + 132) (n' := n + 65438) (by omega) (by omega) ?_
  refine cx_at (ws' := ([(q1, .inr (5, [.ref v12, .int 0, .int 0, .int (nI ((((((((((([] : List Int32) ++ [103, 97, 110, 103, 32, 97, 32, 97, 116, 32]) ++ dgT (r1 % 8)) ++ [32]) ++ dgT (r1 / 8)) ++ [123, 114, 101, 112, 101, 97, 116, 32, 51, 123]) ++ (tld (oo g2) 6)) ++ [125, 125, 103, 97, 110, 103, 32, 98, 32, 97, 116, 32]) ++ dgT (r1 / 8)) ++ [32]).length))])), (v12, .inl (D.2 1, c12, .inl (f12))), (sW, .inr (4, [.ref xW, .int 0, .int 0, .int 0])), (xW, .inl (D.2 1, NW, .inl (gW))), (q2, .inl (D.2 0, 18, .inl (g2))), (q, .inl (D.2 0, 16, .inl (g)))] ++ WL G M)) (st' := [.ref q1]) rfl rfl ?_
  refine cx_iload hC dL_law_171 2 rfl ?_
  refine cx_bipush hC (8 : Int32) dL_law_173 (by decide) ?_
  refine cx_irem hC dL_law_175 (by decide) ?_
  refine cx_topi (y := (nI (r1 % 8))) ((rem_n (b := 8) (by omega) (by decide) (by decide)).symm) ?_
  refine cy_callV hC (E := RJ4) (y := yJ4_append_bf812) (cy := cJ4_append_bf812) (maxL := 2) (nA := 1) (r := (some (.object "java/lang/StringBuilder"))) (rm := (RM 5 1 600 107)) (mc := 1) (ms := 600) (As := [.int (nI (r1 % 8))]) (wr := ([(sW, .inr (4, [.ref xW, .int 0, .int 0, .int 0])), (xW, .inl (D.2 1, NW, .inl (gW))), (q2, .inl (D.2 0, 18, .inl (g2))), (q, .inl (D.2 0, 16, .inl (g)))] ++ WL G M)) (j_apI l D F (u := (r1 % 8)) (Ls := (((((((((([] : List Int32) ++ [103, 97, 110, 103, 32, 97, 32, 97, 116, 32]) ++ dgT (r1 % 8)) ++ [32]) ++ dgT (r1 / 8)) ++ [123, 114, 101, 112, 101, 97, 116, 32, 51, 123]) ++ (tld (oo g2) 6)) ++ [125, 125, 103, 97, 110, 103, 32, 98, 32, 97, 116, 32]) ++ dgT (r1 / 8)) ++ [32])) (by omega) hI12 (by simp only [List.length_append, List.length_cons, List.length_nil]; have := dg_le (r1 % 8); have := dg_le (r1 / 8); omega)) [0, 1] (wz_r [2, 3, 4, 5] 6) rfl (wz_R rfl rfl rfl) (by decide +kernel) (by decide) (by decide +kernel) (rc_sb hC (q0 := 0) rfl) (ef_sub hC hE [0, 1] rfl) kc_yJ4_append_bf812 km_L_77 ki_yJ4_append_bf812 kv_yJ4_append_bf812 kn_RJ4 ky_yJ4_append_bf812 rfl ⟨rfl, rfl⟩ ⟨Nat.le_of_ble_eq_true rfl, Nat.le_of_ble_eq_true rfl⟩ rfl (Nat.le_of_ble_eq_true rfl) ⟨by show k + 132 + 1 ≤ 600086; omega, by show n + 65438 + 600 ≤ 7301442; omega⟩ dL_law_176 (fun o w1 h => ?_)
  obtain ⟨rfl, v13, c13, f13, rfl, hI13⟩ := h
  refine cx_rotn ?_
  refine cx_cnt (k' := k + 133) (n' := n + 66038) (by omega) (by omega) ?_
  refine cx_at (ws' := ([(q1, .inr (5, [.ref v13, .int 0, .int 0, .int (nI (((((((((((([] : List Int32) ++ [103, 97, 110, 103, 32, 97, 32, 97, 116, 32]) ++ dgT (r1 % 8)) ++ [32]) ++ dgT (r1 / 8)) ++ [123, 114, 101, 112, 101, 97, 116, 32, 51, 123]) ++ (tld (oo g2) 6)) ++ [125, 125, 103, 97, 110, 103, 32, 98, 32, 97, 116, 32]) ++ dgT (r1 / 8)) ++ [32]) ++ dgT (r1 % 8)).length))])), (v13, .inl (D.2 1, c13, .inl (f13))), (sW, .inr (4, [.ref xW, .int 0, .int 0, .int 0])), (xW, .inl (D.2 1, NW, .inl (gW))), (q2, .inl (D.2 0, 18, .inl (g2))), (q, .inl (D.2 0, 16, .inl (g)))] ++ WL G M)) (st' := [.ref q1]) rfl rfl ?_
  refine cx_ldcS hC (hE.2.2.2.2.2.2.1 _ hr118) dL_law_179 ?_
  refine cy_callV hC (E := RJ4) (y := yJ4_append_15ec4) (cy := cJ4_append_15ec4) (maxL := 2) (nA := 1) (r := (some (.object "java/lang/StringBuilder"))) (rm := (RM 5 1 600 107)) (mc := 1) (ms := 600) (As := [.ref t118]) (wr := ([(sW, .inr (4, [.ref xW, .int 0, .int 0, .int 0])), (xW, .inl (D.2 1, NW, .inl (gW))), (q2, .inl (D.2 0, 18, .inl (g2))), (q, .inl (D.2 0, 16, .inl (g)))] ++ WL G M)) (j_apS l D F (L := [123, 119, 104, 105, 108, 101, 32, 100, 97, 121, 60, 57, 123, 105, 102, 32, 98, 114, 105, 99, 107, 115, 62, 53, 123, 108, 111, 97, 100, 32, 98, 114, 105, 99, 107, 115, 59, 103, 111, 32, 48, 44, 48, 59, 117, 110, 108, 111, 97, 100, 59, 125, 101, 108, 115, 101, 123, 103, 111, 32, 104, 111, 117, 114, 44, 100, 97, 121, 59, 99, 117, 116, 32, 112, 101, 97, 116, 59, 125, 125, 125]) (Ls := ((((((((((([] : List Int32) ++ [103, 97, 110, 103, 32, 97, 32, 97, 116, 32]) ++ dgT (r1 % 8)) ++ [32]) ++ dgT (r1 / 8)) ++ [123, 114, 101, 112, 101, 97, 116, 32, 51, 123]) ++ (tld (oo g2) 6)) ++ [125, 125, 103, 97, 110, 103, 32, 98, 32, 97, 116, 32]) ++ dgT (r1 / 8)) ++ [32]) ++ dgT (r1 % 8))) hm118 (lit7 (by decide)) hI13 (by simp only [List.length_append, List.length_cons, List.length_nil]; have := dg_le (r1 % 8); have := dg_le (r1 / 8); omega)) [0, 1] (wz_r [2, 3, 4, 5] 6) rfl (wz_R rfl rfl rfl) (by decide +kernel) (by decide) (by decide +kernel) (rc_sb hC (q0 := 0) rfl) (ef_sub hC hE [0, 1] rfl) kc_yJ4_append_15ec4 km_L_73 ki_yJ4_append_15ec4 kv_yJ4_append_15ec4 kn_RJ4 ky_yJ4_append_15ec4 rfl ⟨rfl, rfl⟩ ⟨Nat.le_of_ble_eq_true rfl, Nat.le_of_ble_eq_true rfl⟩ rfl (Nat.le_of_ble_eq_true rfl) ⟨by show k + 133 + 1 ≤ 600086; omega, by show n + 66038 + 600 ≤ 7301442; omega⟩ dL_law_181 (fun o w1 h => ?_)
  obtain ⟨rfl, v14, c14, f14, rfl, hI14⟩ := h
  refine cx_rotn ?_
  refine cx_cnt (k' := k + 134) (n' := n + 66638) (by omega) (by omega) ?_
  refine cx_at (ws' := ([(q1, .inr (5, [.ref v14, .int 0, .int 0, .int (nI ((((((((((((([] : List Int32) ++ [103, 97, 110, 103, 32, 97, 32, 97, 116, 32]) ++ dgT (r1 % 8)) ++ [32]) ++ dgT (r1 / 8)) ++ [123, 114, 101, 112, 101, 97, 116, 32, 51, 123]) ++ (tld (oo g2) 6)) ++ [125, 125, 103, 97, 110, 103, 32, 98, 32, 97, 116, 32]) ++ dgT (r1 / 8)) ++ [32]) ++ dgT (r1 % 8)) ++ [123, 119, 104, 105, 108, 101, 32, 100, 97, 121, 60, 57, 123, 105, 102, 32, 98, 114, 105, 99, 107, 115, 62, 53, 123, 108, 111, 97, 100, 32, 98, 114, 105, 99, 107, 115, 59, 103, 111, 32, 48, 44, 48, 59, 117, 110, 108, 111, 97, 100, 59, 125, 101, 108, 115, 101, 123, 103, 111, 32, 104, 111, 117, 114, 44, 100, 97, 121, 59, 99, 117, 116, 32, 112, 101, 97, 116, 59, 125, 125, 125]).length))])), (v14, .inl (D.2 1, c14, .inl (f14))), (sW, .inr (4, [.ref xW, .int 0, .int 0, .int 0])), (xW, .inl (D.2 1, NW, .inl (gW))), (q2, .inl (D.2 0, 18, .inl (g2))), (q, .inl (D.2 0, 16, .inl (g)))] ++ WL G M)) (st' := [.ref q1]) rfl rfl ?_
  refine cy_callV hC (E := RJ4) (y := yJ4_toString_0e30d) (cy := cJ4_toString_0e30d) (maxL := 1) (nA := 0) (r := (some (.object "java/lang/String"))) (rm := (RM 6 2 604 131)) (mc := 2) (ms := 604) (As := []) (wr := ([(sW, .inr (4, [.ref xW, .int 0, .int 0, .int 0])), (xW, .inl (D.2 1, NW, .inl (gW))), (q2, .inl (D.2 0, 18, .inl (g2))), (q, .inl (D.2 0, 16, .inl (g)))] ++ WL G M)) (j_toS l D F (Ls := (((((((((((([] : List Int32) ++ [103, 97, 110, 103, 32, 97, 32, 97, 116, 32]) ++ dgT (r1 % 8)) ++ [32]) ++ dgT (r1 / 8)) ++ [123, 114, 101, 112, 101, 97, 116, 32, 51, 123]) ++ (tld (oo g2) 6)) ++ [125, 125, 103, 97, 110, 103, 32, 98, 32, 97, 116, 32]) ++ dgT (r1 / 8)) ++ [32]) ++ dgT (r1 % 8)) ++ [123, 119, 104, 105, 108, 101, 32, 100, 97, 121, 60, 57, 123, 105, 102, 32, 98, 114, 105, 99, 107, 115, 62, 53, 123, 108, 111, 97, 100, 32, 98, 114, 105, 99, 107, 115, 59, 103, 111, 32, 48, 44, 48, 59, 117, 110, 108, 111, 97, 100, 59, 125, 101, 108, 115, 101, 123, 103, 111, 32, 104, 111, 117, 114, 44, 100, 97, 121, 59, 99, 117, 116, 32, 112, 101, 97, 116, 59, 125, 125, 125])) hI14) [0, 1] (wz_r [2, 3, 4, 5] 6) rfl (wz_R rfl rfl rfl) (by decide +kernel) (by decide) (by decide +kernel) (rc_sb hC (q0 := 0) rfl) (ef_sub hC hE [0, 1] rfl) kc_yJ4_toString_0e30d km_L_82 ki_yJ4_toString_0e30d kv_yJ4_toString_0e30d kn_RJ4 ky_yJ4_toString_0e30d rfl ⟨rfl, rfl⟩ ⟨Nat.le_of_ble_eq_true rfl, Nat.le_of_ble_eq_true rfl⟩ rfl (Nat.le_of_ble_eq_true rfl) ⟨by show k + 134 + 2 ≤ 600086; omega, by show n + 66638 + 604 ≤ 7301442; omega⟩ dL_law_184 (fun o w1 h => ?_)
  obtain ⟨sT, xT, NT, gT, rfl, rfl, hNT, hgT⟩ := h
  refine cx_rotn ?_
  refine cx_cnt (k' := k + 136) (n' := n + 67242) (by omega) (by omega) ?_
  refine cx_at (ws' := ([(q1, .inr (5, [.ref v14, .int 0, .int 0, .int (nI ((((((((((((([] : List Int32) ++ [103, 97, 110, 103, 32, 97, 32, 97, 116, 32]) ++ dgT (r1 % 8)) ++ [32]) ++ dgT (r1 / 8)) ++ [123, 114, 101, 112, 101, 97, 116, 32, 51, 123]) ++ (tld (oo g2) 6)) ++ [125, 125, 103, 97, 110, 103, 32, 98, 32, 97, 116, 32]) ++ dgT (r1 / 8)) ++ [32]) ++ dgT (r1 % 8)) ++ [123, 119, 104, 105, 108, 101, 32, 100, 97, 121, 60, 57, 123, 105, 102, 32, 98, 114, 105, 99, 107, 115, 62, 53, 123, 108, 111, 97, 100, 32, 98, 114, 105, 99, 107, 115, 59, 103, 111, 32, 48, 44, 48, 59, 117, 110, 108, 111, 97, 100, 59, 125, 101, 108, 115, 101, 123, 103, 111, 32, 104, 111, 117, 114, 44, 100, 97, 121, 59, 99, 117, 116, 32, 112, 101, 97, 116, 59, 125, 125, 125]).length))])), (v14, .inl (D.2 1, c14, .inl (f14))), (sT, .inr (4, [.ref xT, .int 0, .int 0, .int 0])), (xT, .inl (D.2 1, NT, .inl (gT))), (sW, .inr (4, [.ref xW, .int 0, .int 0, .int 0])), (xW, .inl (D.2 1, NW, .inl (gW))), (q2, .inl (D.2 0, 18, .inl (g2))), (q, .inl (D.2 0, 16, .inl (g)))] ++ WL G M)) (st' := [.ref sT]) rfl rfl ?_
  refine cx_astore hC [(8, .ref sT), (7, .ref q), (6, .int (nI r1)), (5, .int x), (4, .int (nI t)), (3, .int lost), (2, .int stk), (1, .ref (G.2.1 0)), (0, .ref a)] dL_law_187 (Nat.le_of_ble_eq_true rfl) rfl ?_
  refine cx_keep (ws' := ([(sT, .inr (4, [.ref xT, .int 0, .int 0, .int 0])), (xT, .inl (D.2 1, NT, .inl (gT)))] ++ WL G M)) (wz_r [2, 3] 8) (wz_R rfl rfl rfl) (by decide +kernel) ?_
  refine cx_sub [0, 2, 3, 4, 5, 6, 7, 8] (lv' := [(8, .ref sT), (6, .int (nI r1)), (5, .int x), (4, .int (nI t)), (3, .int lost), (2, .int stk), (1, .ref (G.2.1 0)), (0, .ref a)]) rfl ?_
  have eL : (((((((((((([] : List Int32) ++ [103, 97, 110, 103, 32, 97, 32, 97, 116, 32]) ++ dgT (r1 % 8)) ++ [32]) ++ dgT (r1 / 8)) ++ [123, 114, 101, 112, 101, 97, 116, 32, 51, 123]) ++ (tld (oo g2) 6)) ++ [125, 125, 103, 97, 110, 103, 32, 98, 32, 97, 116, 32]) ++ dgT (r1 / 8)) ++ [32]) ++ dgT (r1 % 8)) ++ [123, 119, 104, 105, 108, 101, 32, 100, 97, 121, 60, 57, 123, 105, 102, 32, 98, 114, 105, 99, 107, 115, 62, 53, 123, 108, 111, 97, 100, 32, 98, 114, 105, 99, 107, 115, 59, 103, 111, 32, 48, 44, 48, 59, 117, 110, 108, 111, 97, 100, 59, 125, 101, 108, 115, 101, 123, 103, 111, 32, 104, 111, 117, 114, 44, 100, 97, 121, 59, 99, 117, 116, 32, 112, 101, 97, 116, 59, 125, 125, 125]) = txT (r1 % 8) (r1 / 8) (tld (oo g2) 6) false := by simp [txT, hdT, tlT]
  refine cx_widen (k' := k + 136) (n' := n + 67242) (by omega) (by omega) ?_
  exact K (tld (oo g2) 6) sT xT NT gT (tl_b hO (i := 6) (by decide)).1 hW48 (tl_b hO (i := 6) (by decide)).2.2 (by rw [← eL]; exact hNT) (fun k hk => by rw [← eL]; exact hgT k (by rw [← hNT]; exact hk))
theorem dL_law_189 : decode cL_law 189 = .ok (.aload_n 1, 1) := by decide +kernel
theorem dL_law_190 : decode cL_law 190 = .ok (.iload 5, 2) := by decide +kernel
theorem dL_law_192 : decode cL_law 192 = .ok (.bipush 6, 2) := by decide +kernel
theorem dL_law_194 : decode cL_law 194 = .ok (.ishr, 1) := by decide +kernel
theorem dL_law_195 : decode cL_law 195 = .ok (.iconst 4, 1) := by decide +kernel
theorem dL_law_196 : decode cL_law 196 = .ok (.invokestatic 42, 3) := by decide +kernel
theorem dL_law_199 : decode cL_law 199 = .ok (.ifCond .ne 26, 3) := by decide +kernel
theorem dL_law_202 : decode cL_law 202 = .ok (.new 68, 3) := by decide +kernel
theorem dL_law_205 : decode cL_law 205 = .ok (.dup, 1) := by decide +kernel
theorem dL_law_206 : decode cL_law 206 = .ok (.invokespecial 70, 3) := by decide +kernel
theorem dL_law_209 : decode cL_law 209 = .ok (.aload 8, 2) := by decide +kernel
theorem dL_law_211 : decode cL_law 211 = .ok (.invokevirtual 73, 3) := by decide +kernel
theorem dL_law_214 : decode cL_law 214 = .ok (.ldc 120, 2) := by decide +kernel
theorem dL_law_216 : decode cL_law 216 = .ok (.invokevirtual 73, 3) := by decide +kernel
theorem dL_law_219 : decode cL_law 219 = .ok (.invokevirtual 82, 3) := by decide +kernel
theorem dL_law_222 : decode cL_law 222 = .ok (.goto 5, 3) := by decide +kernel
theorem dL_law_225 : decode cL_law 225 = .ok (.aload 8, 2) := by decide +kernel
theorem w_A2 {p : Program} {l : Launch} {e : Env} {s : State} {m : MethodId} {args : Array Value} {below : List Frame} {meth : Method} {c : Code} {D : DG} {F : EF} {A : Nat → Prop} {Q : State → Prop} {k n : Nat} (hC : CY p s m args meth c cL_law 12 RL (some .boolean) D A) (hE : ENV F A s s.heap) {a N : Nat} {f : Nat → Int32} {G : GG} (hg : GO D F G) (hm : (a, N, f) ∈ F.2.1) (hN : N < 2147483648) (hT : LTX F) {M : Mm} {H ng : Nat} (hV : LV H ng M) {t r1 : Nat} {x lost stk : Int32} (ht24 : t < 24) (h64 : r1 < 64) {W : List Int32} {sT xT NT : Nat} {gT : Nat → Int32} (hW : nb W) (hW48 : W.length ≤ 48) (hWb : ∀ k, k < W.length → b7 (W.getD k 0)) (hNT : NT = (txT (r1 % 8) (r1 / 8) W false).length) (hgT : ∀ k, k < NT → gT k = (txT (r1 % 8) (r1 / 8) W false).getD k 0) (hk : k + 6 ≤ 600086) (hn : n + 1824 ≤ 7301442) (K : ∀ (ee : Bool) (sU xU NU : Nat) (gU : Nat → Int32) (_ : NU = (txT (r1 % 8) (r1 / 8) W ee).length) (_ : ∀ k, k < NU → gU k = (txT (r1 % 8) (r1 / 8) W ee).getD k 0), XC p l e (RM 2048 600086 7301442 84000) s m args below meth c D A 12 Q (k + 6) (n + 1824) ([(sU, .inr (4, [.ref xU, .int 0, .int 0, .int 0])), (xU, .inl (D.2 1, NU, .inl (gU)))] ++ WL G M) 227 [(6, .int (nI r1)), (5, .int x), (4, .int (nI t)), (3, .int lost), (2, .int stk), (1, .ref (G.2.1 0)), (0, .ref a)] [.ref sU, .ref (G.2.1 0)]) : XC p l e (RM 2048 600086 7301442 84000) s m args below meth c D A 12 Q (k) (n) ([(sT, .inr (4, [.ref xT, .int 0, .int 0, .int 0])), (xT, .inl (D.2 1, NT, .inl (gT)))] ++ WL G M) 189 [(8, .ref sT), (6, .int (nI r1)), (5, .int x), (4, .int (nI t)), (3, .int lost), (2, .int stk), (1, .ref (G.2.1 0)), (0, .ref a)] [] := by
  refine cx_aload_n hC dL_law_189 rfl 6 rfl ?_
  refine cx_iload hC dL_law_190 2 rfl ?_
  refine cx_bipush hC (6 : Int32) dL_law_192 (by decide) ?_
  refine cx_ishr hC dL_law_194 ?_
  refine cx_iconst hC (4 : Int32) dL_law_195 (by decide) ?_
  refine cy_callS hC (y := yL_below) (cy := cL_below) (maxL := 2) (nA := 2) (r := (some .int)) (rm := (RM 1 0 0 0)) (mc := 0) (ms := 0) (As := [.int (x >>> ((6 : Int32) &&& 31)), .int (4 : Int32)]) (wr := ([(sT, .inr (4, [.ref xT, .int 0, .int 0, .int 0])), (xT, .inl (D.2 1, NT, .inl (gT)))] ++ WL G M)) (l_bel l D F (u := 4) (by decide) (by decide)) [] (wz_r [0, 1] 2) rfl (wz_R rfl rfl rfl) (by decide +kernel) (by decide) (by decide +kernel) (ef_sub hC hE [] rfl) kc_yL_below km_L_42 kt_yL_below kn_RL ky_yL_below rfl ⟨rfl, rfl⟩ ⟨Nat.le_of_ble_eq_true rfl, Nat.le_of_ble_eq_true rfl⟩ rfl (Nat.le_of_ble_eq_true rfl) ⟨by show k + 0 + 0 ≤ 600086; omega, by show n + 0 + 0 ≤ 7301442; omega⟩ dL_law_196 (fun o w1 h => ?_)
  obtain ⟨r2, rfl, hr2, rfl⟩ := h
  refine cx_cnt (k' := k + 0) (n' := n + 0) (by omega) (by omega) ?_
  refine cx_at (ws' := ([(sT, .inr (4, [.ref xT, .int 0, .int 0, .int 0])), (xT, .inl (D.2 1, NT, .inl (gT)))] ++ WL G M)) (st' := [.int (nI r2), .ref (G.2.1 0)]) rfl rfl ?_
  by_cases hc : nI r2 = 0
  · skip
    obtain ⟨t120, tv120, hr120, hm120⟩ := hT _ (List.mem_of_getElem? (i := 14) rfl : (120, "}", [125]) ∈ lwT)
    refine cx_if_ne hC 225 dL_law_199 (by decide) (fun h => absurd (hc) h) (fun _ => ?_)
    refine cx_new hC (C := RJ4) (T := TJ4) (N := 4) (ci := 5) tyJ4 [.null, .int 0, .int 0, .int 0] fw_5 tyJ4_ok (tb_22 (List.mem_of_getElem? (i := 9) rfl)) (tb_22 (List.mem_of_getElem? (i := 10) rfl)) kn_RJ4 rfl dfJ4 ⟨by show k + 0 + 1 ≤ 600086; omega, by show n + 0 + 4 ≤ 7301442; omega⟩ dL_law_202 (fun q1 => ?_)
    refine cx_rot ?_
    refine cx_at (ws' := ([(q1, .inr (5, [.null, .int 0, .int 0, .int 0])), (sT, .inr (4, [.ref xT, .int 0, .int 0, .int 0])), (xT, .inl (D.2 1, NT, .inl (gT)))] ++ WL G M)) (st' := [.ref q1, .ref (G.2.1 0)]) rfl rfl ?_
    refine cx_dup hC dL_law_205 rfl ?_
    refine cy_callI hC (y := yJ4_init_da8c8) (cy := cJ4_init_da8c8) (maxL := 1) (nA := 0) (rm := (RM 2 1 16 33)) (mc := 1) (ms := 16) (As := []) (wr := ([(sT, .inr (4, [.ref xT, .int 0, .int 0, .int 0])), (xT, .inl (D.2 1, NT, .inl (gT)))] ++ WL G M)) (j_sbi l D F) [0] (wz_r [1, 2] 3) rfl (wz_R rfl rfl rfl) (by decide +kernel) (by decide) (by decide +kernel) (ef_sub hC hE [0] rfl) kc_yJ4_init_da8c8 km_L_70 ki_yJ4_init_da8c8 kn_RJ4 rfl ky_yJ4_init_da8c8 rfl ⟨rfl, rfl⟩ ⟨Nat.le_of_ble_eq_true rfl, Nat.le_of_ble_eq_true rfl⟩ rfl (Nat.le_of_ble_eq_true rfl) ⟨by show k + 1 + 1 ≤ 600086; omega, by show n + 4 + 16 ≤ 7301442; omega⟩ dL_law_206 (fun o w1 h => ?_)
    obtain ⟨rfl, v2, rfl⟩ := h
    refine cx_rotn ?_
    refine cx_cnt (k' := k + 2) (n' := n + 20) (by omega) (by omega) ?_
    refine cx_at (ws' := ([(q1, .inr (5, [.ref v2, .int 0, .int 0, .int (nI (([] : List Int32).length))])), (v2, .inl (D.2 1, 16, .inl (fun _ => 0))), (sT, .inr (4, [.ref xT, .int 0, .int 0, .int 0])), (xT, .inl (D.2 1, NT, .inl (gT)))] ++ WL G M)) (st' := [.ref q1, .ref (G.2.1 0)]) rfl rfl ?_
    refine cx_aload hC dL_law_209 0 rfl ?_
    refine cy_callV hC (E := RJ4) (y := yJ4_append_15ec4) (cy := cJ4_append_15ec4) (maxL := 2) (nA := 1) (r := (some (.object "java/lang/StringBuilder"))) (rm := (RM 5 1 600 107)) (mc := 1) (ms := 600) (As := [.ref sT]) (wr := ([(sT, .inr (4, [.ref xT, .int 0, .int 0, .int 0])), (xT, .inl (D.2 1, NT, .inl (gT)))] ++ WL G M)) (j_apS l D ((sT, xT, (txT (r1 % 8) (r1 / 8) W false)) :: F.1, F.2) (a := sT) (va := xT) (L := (txT (r1 % 8) (r1 / 8) W false)) (Ls := ([] : List Int32)) List.mem_cons_self ((tx_b7 (by omega) (by omega) hWb false)) sbi0 (by have := tx_l300 (x := r1 % 8) (y := r1 / 8) (by omega) (by omega) hW48 false; simp only [List.length_append, List.length_cons, List.length_nil]; omega)) [0, 1] (wz_r [2, 3] 4) rfl (wz_R rfl rfl rfl) (by decide +kernel) (by decide) (by decide +kernel) (rc_sb hC (q0 := 0) rfl) (ef_own hC hE [0, 1] rfl (i := 2) (j := 3) rfl rfl hNT hgT (by decide) (by decide)) kc_yJ4_append_15ec4 km_L_73 ki_yJ4_append_15ec4 kv_yJ4_append_15ec4 kn_RJ4 ky_yJ4_append_15ec4 rfl ⟨rfl, rfl⟩ ⟨Nat.le_of_ble_eq_true rfl, Nat.le_of_ble_eq_true rfl⟩ rfl (Nat.le_of_ble_eq_true rfl) ⟨by show k + 2 + 1 ≤ 600086; omega, by show n + 20 + 600 ≤ 7301442; omega⟩ dL_law_211 (fun o w1 h => ?_)
    obtain ⟨rfl, v3, c3, f3, rfl, hI3⟩ := h
    refine cx_rotn ?_
    refine cx_cnt (k' := k + 3) (n' := n + 620) (by omega) (by omega) ?_
    refine cx_at (ws' := ([(q1, .inr (5, [.ref v3, .int 0, .int 0, .int (nI ((([] : List Int32) ++ (txT (r1 % 8) (r1 / 8) W false)).length))])), (v3, .inl (D.2 1, c3, .inl (f3))), (sT, .inr (4, [.ref xT, .int 0, .int 0, .int 0])), (xT, .inl (D.2 1, NT, .inl (gT)))] ++ WL G M)) (st' := [.ref q1, .ref (G.2.1 0)]) rfl rfl ?_
    refine cx_ldcS hC (hE.2.2.2.2.2.2.1 _ hr120) dL_law_214 ?_
    refine cy_callV hC (E := RJ4) (y := yJ4_append_15ec4) (cy := cJ4_append_15ec4) (maxL := 2) (nA := 1) (r := (some (.object "java/lang/StringBuilder"))) (rm := (RM 5 1 600 107)) (mc := 1) (ms := 600) (As := [.ref t120]) (wr := ([(sT, .inr (4, [.ref xT, .int 0, .int 0, .int 0])), (xT, .inl (D.2 1, NT, .inl (gT)))] ++ WL G M)) (j_apS l D F (L := [125]) (Ls := (([] : List Int32) ++ (txT (r1 % 8) (r1 / 8) W false))) hm120 (lit7 (by decide)) hI3 (by have := tx_l300 (x := r1 % 8) (y := r1 / 8) (by omega) (by omega) hW48 false; simp only [List.length_append, List.length_cons, List.length_nil]; omega)) [0, 1] (wz_r [2, 3] 4) rfl (wz_R rfl rfl rfl) (by decide +kernel) (by decide) (by decide +kernel) (rc_sb hC (q0 := 0) rfl) (ef_sub hC hE [0, 1] rfl) kc_yJ4_append_15ec4 km_L_73 ki_yJ4_append_15ec4 kv_yJ4_append_15ec4 kn_RJ4 ky_yJ4_append_15ec4 rfl ⟨rfl, rfl⟩ ⟨Nat.le_of_ble_eq_true rfl, Nat.le_of_ble_eq_true rfl⟩ rfl (Nat.le_of_ble_eq_true rfl) ⟨by show k + 3 + 1 ≤ 600086; omega, by show n + 620 + 600 ≤ 7301442; omega⟩ dL_law_216 (fun o w1 h => ?_)
    obtain ⟨rfl, v4, c4, f4, rfl, hI4⟩ := h
    refine cx_rotn ?_
    refine cx_cnt (k' := k + 4) (n' := n + 1220) (by omega) (by omega) ?_
    refine cx_at (ws' := ([(q1, .inr (5, [.ref v4, .int 0, .int 0, .int (nI (((([] : List Int32) ++ (txT (r1 % 8) (r1 / 8) W false)) ++ [125]).length))])), (v4, .inl (D.2 1, c4, .inl (f4))), (sT, .inr (4, [.ref xT, .int 0, .int 0, .int 0])), (xT, .inl (D.2 1, NT, .inl (gT)))] ++ WL G M)) (st' := [.ref q1, .ref (G.2.1 0)]) rfl rfl ?_
    refine cy_callV hC (E := RJ4) (y := yJ4_toString_0e30d) (cy := cJ4_toString_0e30d) (maxL := 1) (nA := 0) (r := (some (.object "java/lang/String"))) (rm := (RM 6 2 604 131)) (mc := 2) (ms := 604) (As := []) (wr := ([(sT, .inr (4, [.ref xT, .int 0, .int 0, .int 0])), (xT, .inl (D.2 1, NT, .inl (gT)))] ++ WL G M)) (j_toS l D F (Ls := ((([] : List Int32) ++ (txT (r1 % 8) (r1 / 8) W false)) ++ [125])) hI4) [0, 1] (wz_r [2, 3] 4) rfl (wz_R rfl rfl rfl) (by decide +kernel) (by decide) (by decide +kernel) (rc_sb hC (q0 := 0) rfl) (ef_sub hC hE [0, 1] rfl) kc_yJ4_toString_0e30d km_L_82 ki_yJ4_toString_0e30d kv_yJ4_toString_0e30d kn_RJ4 ky_yJ4_toString_0e30d rfl ⟨rfl, rfl⟩ ⟨Nat.le_of_ble_eq_true rfl, Nat.le_of_ble_eq_true rfl⟩ rfl (Nat.le_of_ble_eq_true rfl) ⟨by show k + 4 + 2 ≤ 600086; omega, by show n + 1220 + 604 ≤ 7301442; omega⟩ dL_law_219 (fun o w1 h => ?_)
    obtain ⟨sU, xU, NU, gU, rfl, rfl, hNU, hgU⟩ := h
    refine cx_rotn ?_
    refine cx_cnt (k' := k + 6) (n' := n + 1824) (by omega) (by omega) ?_
    refine cx_at (ws' := ([(q1, .inr (5, [.ref v4, .int 0, .int 0, .int (nI (((([] : List Int32) ++ (txT (r1 % 8) (r1 / 8) W false)) ++ [125]).length))])), (v4, .inl (D.2 1, c4, .inl (f4))), (sU, .inr (4, [.ref xU, .int 0, .int 0, .int 0])), (xU, .inl (D.2 1, NU, .inl (gU))), (sT, .inr (4, [.ref xT, .int 0, .int 0, .int 0])), (xT, .inl (D.2 1, NT, .inl (gT)))] ++ WL G M)) (st' := [.ref sU, .ref (G.2.1 0)]) rfl rfl ?_
    refine cx_goto hC 227 dL_law_222 (by decide) ?_
    refine cx_keep (ws' := ([(sU, .inr (4, [.ref xU, .int 0, .int 0, .int 0])), (xU, .inl (D.2 1, NU, .inl (gU)))] ++ WL G M)) (wz_r [2, 3] 6) (wz_R rfl rfl rfl) (by decide +kernel) ?_
    refine cx_sub [1, 2, 3, 4, 5, 6, 7] (lv' := [(6, .int (nI r1)), (5, .int x), (4, .int (nI t)), (3, .int lost), (2, .int stk), (1, .ref (G.2.1 0)), (0, .ref a)]) rfl ?_
    have eL : ((([] : List Int32) ++ (txT (r1 % 8) (r1 / 8) W false)) ++ [125]) = txT (r1 % 8) (r1 / 8) W true := by simp [txT]
    refine cx_widen (k' := k + 6) (n' := n + 1824) (by omega) (by omega) ?_
    exact K true sU xU NU gU (by rw [← eL]; exact hNU) (fun k hk => by rw [← eL]; exact hgU k (by rw [← hNU]; exact hk))
  · skip
    refine cx_if_ne hC 225 dL_law_199 (by decide) (fun _ => ?_) (fun h => absurd h (hc))
    refine cx_aload hC dL_law_225 0 rfl ?_
    refine cx_sub [1, 2, 3, 4, 5, 6, 7] (lv' := [(6, .int (nI r1)), (5, .int x), (4, .int (nI t)), (3, .int lost), (2, .int stk), (1, .ref (G.2.1 0)), (0, .ref a)]) rfl ?_
    refine cx_widen (k' := k + 6) (n' := n + 1824) (by omega) (by omega) ?_
    exact K false sT xT NT gT hNT hgT
theorem dL_law_227 : decode cL_law 227 = .ok (.invokestatic 122, 3) := by decide +kernel
theorem dL_law_230 : decode cL_law 230 = .ok (.aload_n 1, 1) := by decide +kernel
theorem dL_law_231 : decode cL_law 231 = .ok (.bipush 8, 2) := by decide +kernel
theorem dL_law_233 : decode cL_law 233 = .ok (.invokevirtual 19, 3) := by decide +kernel
theorem dL_law_236 : decode cL_law 236 = .ok (.istore 9, 2) := by decide +kernel
theorem dL_law_238 : decode cL_law 238 = .ok (.aload_n 1, 1) := by decide +kernel
theorem dL_law_239 : decode cL_law 239 = .ok (.invokevirtual 126, 3) := by decide +kernel
theorem dL_law_242 : decode cL_law 242 = .ok (.istore 10, 2) := by decide +kernel
theorem dL_law_244 : decode cL_law 244 = .ok (.iload 10, 2) := by decide +kernel
theorem dL_law_246 : decode cL_law 246 = .ok (.ifCond .eq 20, 3) := by decide +kernel
theorem dL_law_266 : decode cL_law 266 = .ok (.aload_n 1, 1) := by decide +kernel
theorem dL_law_267 : decode cL_law 267 = .ok (.invokevirtual 129, 3) := by decide +kernel
theorem dL_law_270 : decode cL_law 270 = .ok (.ifCond .lt 7, 3) := by decide +kernel
theorem dL_law_277 : decode cL_law 277 = .ok (.iconst 0, 1) := by decide +kernel
theorem dL_law_278 : decode cL_law 278 = .ok (.iload 10, 2) := by decide +kernel
theorem dL_law_280 : decode cL_law 280 = .ok (.ifCond .eq 7, 3) := by decide +kernel
theorem dL_law_287 : decode cL_law 287 = .ok (.iconst 0, 1) := by decide +kernel
theorem dL_law_288 : decode cL_law 288 = .ok (.if_icmp .ne 11, 3) := by decide +kernel
theorem dL_law_291 : decode cL_law 291 = .ok (.aload_n 1, 1) := by decide +kernel
theorem dL_law_292 : decode cL_law 292 = .ok (.iconst 3, 1) := by decide +kernel
theorem dL_law_293 : decode cL_law 293 = .ok (.invokevirtual 19, 3) := by decide +kernel
theorem dL_law_296 : decode cL_law 296 = .ok (.ifCond .eq 5, 3) := by decide +kernel
theorem dL_law_301 : decode cL_law 301 = .ok (.iload_n 3, 1) := by decide +kernel
theorem dL_law_302 : decode cL_law 302 = .ok (.iload 9, 2) := by decide +kernel
theorem dL_law_304 : decode cL_law 304 = .ok (.aload_n 1, 1) := by decide +kernel
theorem dL_law_305 : decode cL_law 305 = .ok (.bipush 8, 2) := by decide +kernel
theorem dL_law_307 : decode cL_law 307 = .ok (.invokevirtual 19, 3) := by decide +kernel
theorem dL_law_310 : decode cL_law 310 = .ok (.isub, 1) := by decide +kernel
theorem dL_law_311 : decode cL_law 311 = .ok (.iadd, 1) := by decide +kernel
theorem dL_law_312 : decode cL_law 312 = .ok (.istore_n 3, 1) := by decide +kernel
theorem dL_law_313 : decode cL_law 313 = .ok (.goto 183, 3) := by decide +kernel
theorem dL_law_249 : decode cL_law 249 = .ok (.iload 10, 2) := by decide +kernel
theorem dL_law_251 : decode cL_law 251 = .ok (.iconst 1, 1) := by decide +kernel
theorem dL_law_252 : decode cL_law 252 = .ok (.if_icmp .ne 47, 3) := by decide +kernel
theorem dL_law_255 : decode cL_law 255 = .ok (.aload_n 1, 1) := by decide +kernel
theorem dL_law_256 : decode cL_law 256 = .ok (.bipush 8, 2) := by decide +kernel
theorem dL_law_258 : decode cL_law 258 = .ok (.invokevirtual 19, 3) := by decide +kernel
theorem dL_law_261 : decode cL_law 261 = .ok (.iload 9, 2) := by decide +kernel
theorem dL_law_263 : decode cL_law 263 = .ok (.if_icmp .ne 36, 3) := by decide +kernel
theorem dL_law_273 : decode cL_law 273 = .ok (.iconst 1, 1) := by decide +kernel
theorem dL_law_274 : decode cL_law 274 = .ok (.goto 4, 3) := by decide +kernel
theorem dL_law_283 : decode cL_law 283 = .ok (.iconst 1, 1) := by decide +kernel
theorem dL_law_284 : decode cL_law 284 = .ok (.goto 4, 3) := by decide +kernel
theorem w_A3 {p : Program} {l : Launch} {e : Env} {s : State} {m : MethodId} {args : Array Value} {below : List Frame} {meth : Method} {c : Code} {D : DG} {F : EF} {A : Nat → Prop} {Q : State → Prop} {k n : Nat} (hC : CY p s m args meth c cL_law 12 RL (some .boolean) D A) (hE : ENV F A s s.heap) {a N : Nat} {f : Nat → Int32} {G : GG} (hg : GO D F G) (hm : (a, N, f) ∈ F.2.1) (hN : N < 2147483648) (hT : LTX F) {M : Mm} {H ng : Nat} (hV : LV H ng M) {t r1 : Nat} {x lost stk : Int32} (ht24 : t < 24) (h64 : r1 < 64) (h0 : M 0 1 = nI 0) {ee : Bool} {W : List Int32} {sT xT NT : Nat} {gT : Nat → Int32} (hW : nb W) (hW48 : W.length ≤ 48) (hWb : ∀ k, k < W.length → b7 (W.getD k 0)) (hNT : NT = (txT (r1 % 8) (r1 / 8) W ee).length) (hgT : ∀ k, k < NT → gT k = (txT (r1 % 8) (r1 / 8) W ee).getD k 0) (hk : k + 0 ≤ 600086) (hn : n + 0 ≤ 7301442) (K : ∀ (M2 : Mm) (m2 : Nat) (l2 : Int32) (_ : LV H m2 M2) (_ : M2 0 1 = nI 0) (_ : TA 29 m2 M2 + l2 = TA 29 ng M + lost), XC p l e (RM 2048 600086 7301442 84000) s m args below meth c D A 12 Q (k + 0) (n + 0) ([] ++ WL G M2) 496 [(4, .int (nI t)), (3, .int l2), (2, .int stk), (1, .ref (G.2.1 0)), (0, .ref a)] []) : XC p l e (RM 2048 600086 7301442 84000) s m args below meth c D A 12 Q (k) (n) ([(sT, .inr (4, [.ref xT, .int 0, .int 0, .int 0])), (xT, .inl (D.2 1, NT, .inl (gT)))] ++ WL G M) 227 [(6, .int (nI r1)), (5, .int x), (4, .int (nI t)), (3, .int lost), (2, .int stk), (1, .ref (G.2.1 0)), (0, .ref a)] [.ref sT, .ref (G.2.1 0)] := by
  have hx : r1 % 8 < 8 := by omega
  have hy : r1 / 8 < 8 := by omega
  have hl := tx_l300 hx hy hW48 ee
  have hb := tx_b7 hx hy hWb ee
  refine cy_callS hC (y := yL_type) (cy := cL_type) (maxL := 4) (nA := 2) (r := none) (rm := (RM 9 0 0 260)) (mc := 0) (ms := 0) (As := [.ref (G.2.1 0), .ref sT]) (wr := [(sT, .inr (4, [.ref xT, .int 0, .int 0, .int 0])), (xT, .inl (D.2 1, NT, .inl (gT)))]) (l_type l D ((sT, xT, txT (r1 % 8) (r1 / 8) W ee) :: F.1, F.2) (a := sT) (va := xT) (L := txT (r1 % 8) (r1 / 8) W ee) hg List.mem_cons_self hb (by omega) hV h0) (wz_i 2) (List.range 2) (wz_C rfl rfl) (wz_X rfl rfl) (by decide +kernel) (by decide +kernel) (by decide +kernel) (ef_own hC hE (wz_i 2) (wz_C rfl rfl) (i := 0) (j := 1) rfl rfl hNT hgT (by decide) (by decide)) kc_yL_type km_L_122 kt_yL_type kn_RL ky_yL_type rfl ⟨rfl, rfl⟩ ⟨Nat.le_of_ble_eq_true rfl, Nat.le_of_ble_eq_true rfl⟩ rfl (Nat.le_of_ble_eq_true rfl) ⟨by show k + 0 + 0 ≤ 600086; omega, by show n + 0 + 0 ≤ 7301442; omega⟩ dL_law_227 (fun o w1 h => ?_)
  obtain ⟨rfl, M1, rfl, e1, e2, e3⟩ := h
  have hV1 : LV H ng M1 := hV.tape e3 (by omega) e1 (fun k hk => by rw [e2 k hk]; exact hb k hk)
  have hr1 : ∀ r, 29 ≤ r → r < 47 → M1 r = M r := fun r h1 h2 => funext fun c => e3 r c (by omega) (by omega)
  have hTA1 := TA.same hV.2.2.1 hr1
  refine cx_cnt (k' := k + 0) (n' := n + 0) (by omega) (by omega) ?_
  refine cx_at (ws' := ([(sT, .inr (4, [.ref xT, .int 0, .int 0, .int 0])), (xT, .inl (D.2 1, NT, .inl (gT)))] ++ WL G M1)) (st' := []) rfl rfl ?_
  refine cx_keep (ws' := ([] ++ WL G M1)) (wz_r [] 2) (wz_R rfl rfl rfl) (by decide +kernel) ?_
  refine cx_aload_n hC dL_law_230 rfl 5 rfl ?_
  refine cx_bipush hC (8 : Int32) dL_law_231 (by decide) ?_
  refine cx_topi (y := (nI 8)) (rfl) ?_
  refine cy_callV hC (E := RX9) (y := yX9_count) (cy := cX9_count) (maxL := 2) (nA := 1) (r := (some .int)) (rm := (RM 2 0 0 46)) (mc := 0) (ms := 0) (As := [.int (nI 8)]) (wr := []) (yo_mo (c_X9_count l G M1 (i0 := 0) rfl _ (count_v hV1 (k := 8) (by decide))) hg) (wz_i 0) (List.range 0) (wz_C rfl rfl) (wz_X rfl rfl) (by decide +kernel) (by decide +kernel) (by decide +kernel) (rc_g hC rfl) (ef_sub hC hE (wz_i 0) (wz_C rfl rfl)) kc_yX9_count km_L_19 ki_yX9_count kv_yX9_count kn_RX9 ky_yX9_count rfl ⟨rfl, rfl⟩ ⟨Nat.le_of_ble_eq_true rfl, Nat.le_of_ble_eq_true rfl⟩ rfl (Nat.le_of_ble_eq_true rfl) ⟨by show k + 0 + 0 ≤ 600086; omega, by show n + 0 + 0 ≤ 7301442; omega⟩ dL_law_233 (fun o w1 h => ?_)
  obtain ⟨rfl, rfl, -⟩ := h
  refine cx_cnt (k' := k + 0) (n' := n + 0) (by omega) (by omega) ?_
  refine cx_at (ws' := ([] ++ WL G M1)) (st' := [.int (cvA ng M1 8)]) rfl rfl ?_
  refine cx_istore hC [(9, .int (cvA ng M1 8)), (6, .int (nI r1)), (5, .int x), (4, .int (nI t)), (3, .int lost), (2, .int stk), (1, .ref (G.2.1 0)), (0, .ref a)] dL_law_236 (Nat.le_of_ble_eq_true rfl) rfl ?_
  refine cx_aload_n hC dL_law_238 rfl 6 rfl ?_
  obtain ⟨v9, M2, ht, ht0, ht1⟩ := teach_v hV1 (L := (txT (r1 % 8) (r1 / 8) W ee).length) (by omega) e1 (fun k hk => by rw [e2 k hk]; exact (hb k hk).1) (fun T' hT' => tx_Q hx hy hW ee T' (fun k hk => (hT' k hk).trans (e2 k hk)))
  refine cy_callV hC (E := RX9) (y := yX9_teach) (cy := cX9_teach) (maxL := 2) (nA := 0) (r := (some .int)) (rm := (RM 123 0 0 5070)) (mc := 0) (ms := 0) (As := []) (wr := []) (yo_mo (c_X9_teach l G M1 (i0 := 0) rfl (ht)) hg) (wz_i 0) (List.range 0) (wz_C rfl rfl) (wz_X rfl rfl) (by decide +kernel) (by decide +kernel) (by decide +kernel) (rc_g hC rfl) (ef_sub hC hE (wz_i 0) (wz_C rfl rfl)) kc_yX9_teach km_L_126 ki_yX9_teach kv_yX9_teach kn_RX9 ky_yX9_teach rfl ⟨rfl, rfl⟩ ⟨Nat.le_of_ble_eq_true rfl, Nat.le_of_ble_eq_true rfl⟩ rfl (Nat.le_of_ble_eq_true rfl) ⟨by show k + 0 + 0 ≤ 600086; omega, by show n + 0 + 0 ≤ 7301442; omega⟩ dL_law_239 (fun o w1 h => ?_)
  obtain ⟨rfl, rfl, -⟩ := h
  refine cx_cnt (k' := k + 0) (n' := n + 0) (by omega) (by omega) ?_
  refine cx_at (ws' := ([] ++ WL G M2)) (st' := [.int (v9)]) rfl rfl ?_
  refine cx_istore hC [(10, .int (v9)), (9, .int (cvA ng M1 8)), (6, .int (nI r1)), (5, .int x), (4, .int (nI t)), (3, .int lost), (2, .int stk), (1, .ref (G.2.1 0)), (0, .ref a)] dL_law_242 (Nat.le_of_ble_eq_true rfl) rfl ?_
  rcases ht1 with ⟨rfl, f4, mm, hV2, f8, fT⟩ | ⟨rfl, f4, hV2, fr⟩
  · skip
    refine cx_iload hC dL_law_244 0 rfl ?_
    refine cx_if_eq hC 266 dL_law_246 (by decide) (fun _ => ?_) (fun h => absurd (rfl) h)
    refine cx_aload_n hC dL_law_266 rfl 7 rfl ?_
    refine cy_callV hC (E := RX9) (y := yX9_errorAt) (cy := cX9_errorAt) (maxL := 1) (nA := 0) (r := (some .int)) (rm := (RM 0 0 0 0)) (mc := 0) (ms := 0) (As := []) (wr := []) (yo_mo (c_X9_errorAt l G M2 (i0 := 0) rfl (rfl)) hg) (wz_i 0) (List.range 0) (wz_C rfl rfl) (wz_X rfl rfl) (by decide +kernel) (by decide +kernel) (by decide +kernel) (rc_g hC rfl) (ef_sub hC hE (wz_i 0) (wz_C rfl rfl)) kc_yX9_errorAt km_L_129 ki_yX9_errorAt kv_yX9_errorAt kn_RX9 ky_yX9_errorAt rfl ⟨rfl, rfl⟩ ⟨Nat.le_of_ble_eq_true rfl, Nat.le_of_ble_eq_true rfl⟩ rfl (Nat.le_of_ble_eq_true rfl) ⟨by show k + 0 + 0 ≤ 600086; omega, by show n + 0 + 0 ≤ 7301442; omega⟩ dL_law_267 (fun o w1 h => ?_)
    obtain ⟨rfl, rfl, -⟩ := h
    refine cx_cnt (k' := k + 0) (n' := n + 0) (by omega) (by omega) ?_
    refine cx_at (ws' := ([] ++ WL G M2)) (st' := [.int (M2 0 4)]) rfl rfl ?_
    refine cx_if_lt hC 277 dL_law_270 (by decide) (fun _ => ?_) (fun h => absurd (by rw [f4]; decide) h)
    refine cx_iconst hC (0 : Int32) dL_law_277 (by decide) ?_
    refine cx_iload hC dL_law_278 0 rfl ?_
    refine cx_if_eq hC 287 dL_law_280 (by decide) (fun _ => ?_) (fun h => absurd (rfl) h)
    refine cx_iconst hC (0 : Int32) dL_law_287 (by decide) ?_
    refine cx_icmp_ne hC 299 dL_law_288 (by decide) (fun h => absurd (rfl) h) (fun _ => ?_)
    refine cx_aload_n hC dL_law_291 rfl 7 rfl ?_
    refine cx_iconst hC (3 : Int32) dL_law_292 (by decide) ?_
    refine cx_topi (y := (nI 3)) (rfl) ?_
    refine cy_callV hC (E := RX9) (y := yX9_count) (cy := cX9_count) (maxL := 2) (nA := 1) (r := (some .int)) (rm := (RM 2 0 0 46)) (mc := 0) (ms := 0) (As := [.int (nI 3)]) (wr := []) (yo_mo (c_X9_count l G M2 (i0 := 0) rfl _ (count_v hV2 (k := 3) (by decide))) hg) (wz_i 0) (List.range 0) (wz_C rfl rfl) (wz_X rfl rfl) (by decide +kernel) (by decide +kernel) (by decide +kernel) (rc_g hC rfl) (ef_sub hC hE (wz_i 0) (wz_C rfl rfl)) kc_yX9_count km_L_19 ki_yX9_count kv_yX9_count kn_RX9 ky_yX9_count rfl ⟨rfl, rfl⟩ ⟨Nat.le_of_ble_eq_true rfl, Nat.le_of_ble_eq_true rfl⟩ rfl (Nat.le_of_ble_eq_true rfl) ⟨by show k + 0 + 0 ≤ 600086; omega, by show n + 0 + 0 ≤ 7301442; omega⟩ dL_law_293 (fun o w1 h => ?_)
    obtain ⟨rfl, rfl, -⟩ := h
    refine cx_cnt (k' := k + 0) (n' := n + 0) (by omega) (by omega) ?_
    refine cx_at (ws' := ([] ++ WL G M2)) (st' := [.int (M2 0 1)]) rfl rfl ?_
    refine cx_if_eq hC 301 dL_law_296 (by decide) (fun _ => ?_) (fun h => absurd (ht0) h)
    refine cx_iload_n hC dL_law_301 rfl 5 rfl ?_
    refine cx_iload hC dL_law_302 1 rfl ?_
    refine cx_aload_n hC dL_law_304 rfl 7 rfl ?_
    refine cx_bipush hC (8 : Int32) dL_law_305 (by decide) ?_
    refine cx_topi (y := (nI 8)) (rfl) ?_
    refine cy_callV hC (E := RX9) (y := yX9_count) (cy := cX9_count) (maxL := 2) (nA := 1) (r := (some .int)) (rm := (RM 2 0 0 46)) (mc := 0) (ms := 0) (As := [.int (nI 8)]) (wr := []) (yo_mo (c_X9_count l G M2 (i0 := 0) rfl _ (count_v hV2 (k := 8) (by decide))) hg) (wz_i 0) (List.range 0) (wz_C rfl rfl) (wz_X rfl rfl) (by decide +kernel) (by decide +kernel) (by decide +kernel) (rc_g hC rfl) (ef_sub hC hE (wz_i 0) (wz_C rfl rfl)) kc_yX9_count km_L_19 ki_yX9_count kv_yX9_count kn_RX9 ky_yX9_count rfl ⟨rfl, rfl⟩ ⟨Nat.le_of_ble_eq_true rfl, Nat.le_of_ble_eq_true rfl⟩ rfl (Nat.le_of_ble_eq_true rfl) ⟨by show k + 0 + 0 ≤ 600086; omega, by show n + 0 + 0 ≤ 7301442; omega⟩ dL_law_307 (fun o w1 h => ?_)
    obtain ⟨rfl, rfl, -⟩ := h
    refine cx_cnt (k' := k + 0) (n' := n + 0) (by omega) (by omega) ?_
    refine cx_at (ws' := ([] ++ WL G M2)) (st' := [.int (cvA mm M2 8), .int (cvA ng M1 8), .int lost]) rfl rfl ?_
    refine cx_isub hC dL_law_310 ?_
    refine cx_iadd hC dL_law_311 ?_
    refine cx_istore_n hC [(3, .int (lost + ((cvA ng M1 8) - (cvA mm M2 8)))), (10, .int (0)), (9, .int (cvA ng M1 8)), (6, .int (nI r1)), (5, .int x), (4, .int (nI t)), (2, .int stk), (1, .ref (G.2.1 0)), (0, .ref a)] dL_law_312 rfl (Nat.le_of_ble_eq_true rfl) rfl ?_
    refine cx_goto hC 496 dL_law_313 (by decide) ?_
    generalize hl2 : (lost + ((cvA ng M1 8) - (cvA mm M2 8))) = l2
    refine cx_sub [5, 0, 6, 7, 8] (lv' := [(4, .int (nI t)), (3, .int l2), (2, .int stk), (1, .ref (G.2.1 0)), (0, .ref a)]) rfl ?_
    refine cx_widen (k' := k + 0) (n' := n + 0) (by omega) (by omega) ?_
    exact K M2 mm l2 hV2 ht0 (by rw [fT, hTA1, ← hl2, f8]; grind)
  · have hc8 := cv8_same hV.2.2.1 fr
    refine cx_iload hC dL_law_244 0 rfl ?_
    refine cx_if_eq hC 266 dL_law_246 (by decide) (fun h => absurd h (by decide)) (fun _ => ?_)
    refine cx_iload hC dL_law_249 0 rfl ?_
    refine cx_iconst hC (1 : Int32) dL_law_251 (by decide) ?_
    refine cx_icmp_ne hC 299 dL_law_252 (by decide) (fun h => absurd (rfl) h) (fun _ => ?_)
    refine cx_aload_n hC dL_law_255 rfl 7 rfl ?_
    refine cx_bipush hC (8 : Int32) dL_law_256 (by decide) ?_
    refine cx_topi (y := (nI 8)) (rfl) ?_
    refine cy_callV hC (E := RX9) (y := yX9_count) (cy := cX9_count) (maxL := 2) (nA := 1) (r := (some .int)) (rm := (RM 2 0 0 46)) (mc := 0) (ms := 0) (As := [.int (nI 8)]) (wr := []) (yo_mo (c_X9_count l G M2 (i0 := 0) rfl _ (count_v hV2 (k := 8) (by decide))) hg) (wz_i 0) (List.range 0) (wz_C rfl rfl) (wz_X rfl rfl) (by decide +kernel) (by decide +kernel) (by decide +kernel) (rc_g hC rfl) (ef_sub hC hE (wz_i 0) (wz_C rfl rfl)) kc_yX9_count km_L_19 ki_yX9_count kv_yX9_count kn_RX9 ky_yX9_count rfl ⟨rfl, rfl⟩ ⟨Nat.le_of_ble_eq_true rfl, Nat.le_of_ble_eq_true rfl⟩ rfl (Nat.le_of_ble_eq_true rfl) ⟨by show k + 0 + 0 ≤ 600086; omega, by show n + 0 + 0 ≤ 7301442; omega⟩ dL_law_258 (fun o w1 h => ?_)
    obtain ⟨rfl, rfl, -⟩ := h
    refine cx_cnt (k' := k + 0) (n' := n + 0) (by omega) (by omega) ?_
    refine cx_at (ws' := ([] ++ WL G M2)) (st' := [.int (cvA ng M2 8)]) rfl rfl ?_
    refine cx_iload hC dL_law_261 1 rfl ?_
    refine cx_icmp_ne hC 299 dL_law_263 (by decide) (fun h => absurd (hc8) h) (fun _ => ?_)
    refine cx_aload_n hC dL_law_266 rfl 7 rfl ?_
    refine cy_callV hC (E := RX9) (y := yX9_errorAt) (cy := cX9_errorAt) (maxL := 1) (nA := 0) (r := (some .int)) (rm := (RM 0 0 0 0)) (mc := 0) (ms := 0) (As := []) (wr := []) (yo_mo (c_X9_errorAt l G M2 (i0 := 0) rfl (rfl)) hg) (wz_i 0) (List.range 0) (wz_C rfl rfl) (wz_X rfl rfl) (by decide +kernel) (by decide +kernel) (by decide +kernel) (rc_g hC rfl) (ef_sub hC hE (wz_i 0) (wz_C rfl rfl)) kc_yX9_errorAt km_L_129 ki_yX9_errorAt kv_yX9_errorAt kn_RX9 ky_yX9_errorAt rfl ⟨rfl, rfl⟩ ⟨Nat.le_of_ble_eq_true rfl, Nat.le_of_ble_eq_true rfl⟩ rfl (Nat.le_of_ble_eq_true rfl) ⟨by show k + 0 + 0 ≤ 600086; omega, by show n + 0 + 0 ≤ 7301442; omega⟩ dL_law_267 (fun o w1 h => ?_)
    obtain ⟨rfl, rfl, -⟩ := h
    refine cx_cnt (k' := k + 0) (n' := n + 0) (by omega) (by omega) ?_
    refine cx_at (ws' := ([] ++ WL G M2)) (st' := [.int (M2 0 4)]) rfl rfl ?_
    refine cx_if_lt hC 277 dL_law_270 (by decide) (fun h => absurd h (fun h => by have := i_lt.mp h; have z : (0 : Int32).toInt = 0 := rfl; omega)) (fun _ => ?_)
    refine cx_iconst hC (1 : Int32) dL_law_273 (by decide) ?_
    refine cx_goto hC 278 dL_law_274 (by decide) ?_
    refine cx_iload hC dL_law_278 0 rfl ?_
    refine cx_if_eq hC 287 dL_law_280 (by decide) (fun h => absurd h (by decide)) (fun _ => ?_)
    refine cx_iconst hC (1 : Int32) dL_law_283 (by decide) ?_
    refine cx_goto hC 288 dL_law_284 (by decide) ?_
    refine cx_icmp_ne hC 299 dL_law_288 (by decide) (fun h => absurd (rfl) h) (fun _ => ?_)
    refine cx_aload_n hC dL_law_291 rfl 7 rfl ?_
    refine cx_iconst hC (3 : Int32) dL_law_292 (by decide) ?_
    refine cx_topi (y := (nI 3)) (rfl) ?_
    refine cy_callV hC (E := RX9) (y := yX9_count) (cy := cX9_count) (maxL := 2) (nA := 1) (r := (some .int)) (rm := (RM 2 0 0 46)) (mc := 0) (ms := 0) (As := [.int (nI 3)]) (wr := []) (yo_mo (c_X9_count l G M2 (i0 := 0) rfl _ (count_v hV2 (k := 3) (by decide))) hg) (wz_i 0) (List.range 0) (wz_C rfl rfl) (wz_X rfl rfl) (by decide +kernel) (by decide +kernel) (by decide +kernel) (rc_g hC rfl) (ef_sub hC hE (wz_i 0) (wz_C rfl rfl)) kc_yX9_count km_L_19 ki_yX9_count kv_yX9_count kn_RX9 ky_yX9_count rfl ⟨rfl, rfl⟩ ⟨Nat.le_of_ble_eq_true rfl, Nat.le_of_ble_eq_true rfl⟩ rfl (Nat.le_of_ble_eq_true rfl) ⟨by show k + 0 + 0 ≤ 600086; omega, by show n + 0 + 0 ≤ 7301442; omega⟩ dL_law_293 (fun o w1 h => ?_)
    obtain ⟨rfl, rfl, -⟩ := h
    refine cx_cnt (k' := k + 0) (n' := n + 0) (by omega) (by omega) ?_
    refine cx_at (ws' := ([] ++ WL G M2)) (st' := [.int (M2 0 1)]) rfl rfl ?_
    refine cx_if_eq hC 301 dL_law_296 (by decide) (fun _ => ?_) (fun h => absurd (ht0) h)
    refine cx_iload_n hC dL_law_301 rfl 5 rfl ?_
    refine cx_iload hC dL_law_302 1 rfl ?_
    refine cx_aload_n hC dL_law_304 rfl 7 rfl ?_
    refine cx_bipush hC (8 : Int32) dL_law_305 (by decide) ?_
    refine cx_topi (y := (nI 8)) (rfl) ?_
    refine cy_callV hC (E := RX9) (y := yX9_count) (cy := cX9_count) (maxL := 2) (nA := 1) (r := (some .int)) (rm := (RM 2 0 0 46)) (mc := 0) (ms := 0) (As := [.int (nI 8)]) (wr := []) (yo_mo (c_X9_count l G M2 (i0 := 0) rfl _ (count_v hV2 (k := 8) (by decide))) hg) (wz_i 0) (List.range 0) (wz_C rfl rfl) (wz_X rfl rfl) (by decide +kernel) (by decide +kernel) (by decide +kernel) (rc_g hC rfl) (ef_sub hC hE (wz_i 0) (wz_C rfl rfl)) kc_yX9_count km_L_19 ki_yX9_count kv_yX9_count kn_RX9 ky_yX9_count rfl ⟨rfl, rfl⟩ ⟨Nat.le_of_ble_eq_true rfl, Nat.le_of_ble_eq_true rfl⟩ rfl (Nat.le_of_ble_eq_true rfl) ⟨by show k + 0 + 0 ≤ 600086; omega, by show n + 0 + 0 ≤ 7301442; omega⟩ dL_law_307 (fun o w1 h => ?_)
    obtain ⟨rfl, rfl, -⟩ := h
    refine cx_cnt (k' := k + 0) (n' := n + 0) (by omega) (by omega) ?_
    refine cx_at (ws' := ([] ++ WL G M2)) (st' := [.int (cvA ng M2 8), .int (cvA ng M1 8), .int lost]) rfl rfl ?_
    refine cx_isub hC dL_law_310 ?_
    refine cx_iadd hC dL_law_311 ?_
    refine cx_istore_n hC [(3, .int (lost + ((cvA ng M1 8) - (cvA ng M2 8)))), (10, .int (1)), (9, .int (cvA ng M1 8)), (6, .int (nI r1)), (5, .int x), (4, .int (nI t)), (2, .int stk), (1, .ref (G.2.1 0)), (0, .ref a)] dL_law_312 rfl (Nat.le_of_ble_eq_true rfl) rfl ?_
    refine cx_goto hC 496 dL_law_313 (by decide) ?_
    generalize hl2 : (lost + ((cvA ng M1 8) - (cvA ng M2 8))) = l2
    refine cx_sub [5, 0, 6, 7, 8] (lv' := [(4, .int (nI t)), (3, .int l2), (2, .int stk), (1, .ref (G.2.1 0)), (0, .ref a)]) rfl ?_
    refine cx_widen (k' := k + 0) (n' := n + 0) (by omega) (by omega) ?_
    exact K M2 ng l2 hV2 ht0 (by rw [TA.same hV.2.2.1 fr, hTA1, ← hl2, hc8]; grind)
