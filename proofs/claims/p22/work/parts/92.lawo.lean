/-! the law's orders -/
def OKO (f : Nat → Int32) (i : Nat) : Prop := ∀ k, k < i → (∃ a, a < 6 ∧ f (3 * k) = nI a) ∧ (∃ b, b < 45 ∧ f (3 * k + 1) = nI b) ∧ (∃ d, d < 8 ∧ f (3 * k + 2) = nI d)
theorem OKO.step {f : Nat → Int32} {i a b d : Nat} (h : OKO f i) (ha : a < 6) (hb : b < 45) (hd : d < 8) : OKO (upd (upd (upd f (3 * i) (nI a)) (3 * i + 1) (nI b)) (3 * i + 2) (nI d)) (i + 1) := by
  intro k hk
  rw [upd_i, upd_i, upd_i, upd_i, upd_i, upd_i, upd_i, upd_i, upd_i]
  by_cases c : k = i
  · subst c
    rw [if_neg (by omega), if_neg (by omega), if_pos rfl, if_neg (by omega), if_pos rfl, if_pos rfl]
    exact ⟨⟨a, ha, rfl⟩, ⟨b, hb, rfl⟩, ⟨d, hd, rfl⟩⟩
  · rw [if_neg (by omega), if_neg (by omega), if_neg (by omega), if_neg (by omega), if_neg (by omega), if_neg (by omega), if_neg (by omega), if_neg (by omega), if_neg (by omega)]
    exact h k (by omega)
theorem dL_orders_8 : decode cL_orders 8 = .ok (.iload_n 3, 1) := by decide +kernel
theorem dL_orders_9 : decode cL_orders 9 = .ok (.iload_n 1, 1) := by decide +kernel
theorem dL_orders_10 : decode cL_orders 10 = .ok (.if_icmp .ge 129, 3) := by decide +kernel
theorem dL_orders_13 : decode cL_orders 13 = .ok (.aload_n 0, 1) := by decide +kernel
theorem dL_orders_14 : decode cL_orders 14 = .ok (.bipush 10, 2) := by decide +kernel
theorem dL_orders_16 : decode cL_orders 16 = .ok (.iload_n 3, 1) := by decide +kernel
theorem dL_orders_17 : decode cL_orders 17 = .ok (.iconst 5, 1) := by decide +kernel
theorem dL_orders_18 : decode cL_orders 18 = .ok (.irem, 1) := by decide +kernel
theorem dL_orders_19 : decode cL_orders 19 = .ok (.iadd, 1) := by decide +kernel
theorem dL_orders_20 : decode cL_orders 20 = .ok (.invokestatic 38, 3) := by decide +kernel
theorem dL_orders_23 : decode cL_orders 23 = .ok (.iload_n 3, 1) := by decide +kernel
theorem dL_orders_24 : decode cL_orders 24 = .ok (.iconst 5, 1) := by decide +kernel
theorem dL_orders_25 : decode cL_orders 25 = .ok (.idiv, 1) := by decide +kernel
theorem dL_orders_26 : decode cL_orders 26 = .ok (.bipush 7, 2) := by decide +kernel
theorem dL_orders_28 : decode cL_orders 28 = .ok (.imul, 1) := by decide +kernel
theorem dL_orders_29 : decode cL_orders 29 = .ok (.ishr, 1) := by decide +kernel
theorem dL_orders_30 : decode cL_orders 30 = .ok (.istore 4, 2) := by decide +kernel
theorem dL_orders_32 : decode cL_orders 32 = .ok (.aload_n 2, 1) := by decide +kernel
theorem dL_orders_33 : decode cL_orders 33 = .ok (.iconst 3, 1) := by decide +kernel
theorem dL_orders_34 : decode cL_orders 34 = .ok (.iload_n 3, 1) := by decide +kernel
theorem dL_orders_35 : decode cL_orders 35 = .ok (.imul, 1) := by decide +kernel
theorem dL_orders_36 : decode cL_orders 36 = .ok (.iload 4, 2) := by decide +kernel
theorem dL_orders_38 : decode cL_orders 38 = .ok (.bipush 6, 2) := by decide +kernel
theorem dL_orders_40 : decode cL_orders 40 = .ok (.invokestatic 42, 3) := by decide +kernel
theorem dL_orders_43 : decode cL_orders 43 = .ok (.iastore, 1) := by decide +kernel
theorem dL_orders_44 : decode cL_orders 44 = .ok (.aload_n 2, 1) := by decide +kernel
theorem dL_orders_45 : decode cL_orders 45 = .ok (.iconst 3, 1) := by decide +kernel
theorem dL_orders_46 : decode cL_orders 46 = .ok (.iload_n 3, 1) := by decide +kernel
theorem dL_orders_47 : decode cL_orders 47 = .ok (.imul, 1) := by decide +kernel
theorem dL_orders_48 : decode cL_orders 48 = .ok (.iconst 1, 1) := by decide +kernel
theorem dL_orders_49 : decode cL_orders 49 = .ok (.iadd, 1) := by decide +kernel
theorem dL_orders_50 : decode cL_orders 50 = .ok (.aload_n 2, 1) := by decide +kernel
theorem dL_orders_51 : decode cL_orders 51 = .ok (.iconst 3, 1) := by decide +kernel
theorem dL_orders_52 : decode cL_orders 52 = .ok (.iload_n 3, 1) := by decide +kernel
theorem dL_orders_53 : decode cL_orders 53 = .ok (.imul, 1) := by decide +kernel
theorem dL_orders_54 : decode cL_orders 54 = .ok (.iaload, 1) := by decide +kernel
theorem dL_orders_55 : decode cL_orders 55 = .ok (.ifCond .ne 15, 3) := by decide +kernel
theorem dL_orders_58 : decode cL_orders 58 = .ok (.iload 4, 2) := by decide +kernel
theorem dL_orders_60 : decode cL_orders 60 = .ok (.iconst 3, 1) := by decide +kernel
theorem dL_orders_61 : decode cL_orders 61 = .ok (.ishr, 1) := by decide +kernel
theorem dL_orders_62 : decode cL_orders 62 = .ok (.bipush 9, 2) := by decide +kernel
theorem dL_orders_64 : decode cL_orders 64 = .ok (.invokestatic 42, 3) := by decide +kernel
theorem dL_orders_67 : decode cL_orders 67 = .ok (.goto 32, 3) := by decide +kernel
theorem dL_orders_70 : decode cL_orders 70 = .ok (.aload_n 2, 1) := by decide +kernel
theorem dL_orders_71 : decode cL_orders 71 = .ok (.iconst 3, 1) := by decide +kernel
theorem dL_orders_72 : decode cL_orders 72 = .ok (.iload_n 3, 1) := by decide +kernel
theorem dL_orders_73 : decode cL_orders 73 = .ok (.imul, 1) := by decide +kernel
theorem dL_orders_74 : decode cL_orders 74 = .ok (.iaload, 1) := by decide +kernel
theorem dL_orders_75 : decode cL_orders 75 = .ok (.iconst 5, 1) := by decide +kernel
theorem dL_orders_76 : decode cL_orders 76 = .ok (.if_icmp .ne 14, 3) := by decide +kernel
theorem dL_orders_79 : decode cL_orders 79 = .ok (.iload 4, 2) := by decide +kernel
theorem dL_orders_81 : decode cL_orders 81 = .ok (.iconst 3, 1) := by decide +kernel
theorem dL_orders_82 : decode cL_orders 82 = .ok (.ishr, 1) := by decide +kernel
theorem dL_orders_83 : decode cL_orders 83 = .ok (.iconst 4, 1) := by decide +kernel
theorem dL_orders_84 : decode cL_orders 84 = .ok (.invokestatic 42, 3) := by decide +kernel
theorem dL_orders_87 : decode cL_orders 87 = .ok (.goto 12, 3) := by decide +kernel
theorem dL_orders_90 : decode cL_orders 90 = .ok (.iload 4, 2) := by decide +kernel
theorem dL_orders_92 : decode cL_orders 92 = .ok (.iconst 3, 1) := by decide +kernel
theorem dL_orders_93 : decode cL_orders 93 = .ok (.ishr, 1) := by decide +kernel
theorem dL_orders_94 : decode cL_orders 94 = .ok (.bipush 45, 2) := by decide +kernel
theorem dL_orders_96 : decode cL_orders 96 = .ok (.invokestatic 42, 3) := by decide +kernel
theorem l_oa {p : Program} {l : Launch} {e : Env} {s : State} {m : MethodId} {args : Array Value} {below : List Frame} {meth : Method} {c : Code} {D : DG} {F : EF} {A : Nat → Prop} {Q : State → Prop} {k n : Nat} (hC : CY p s m args meth c cL_orders 5 RL (some (.array .int)) D A) (hE : ENV F A s s.heap) {a N : Nat} {f : Nat → Int32} (hm : (a, N, f) ∈ F.2.1) (hN : N < 2147483648) {i q : Nat} {g : Nat → Int32} (hi : i < 6) (hk : k + 0 ≤ 1) (hn : n + 0 ≤ 18) (K : ∀ (x : Int32) (r1 r2 : Nat) (_ : r1 < 6) (_ : r2 < 45), XC p l e (RM 6 1 18 120) s m args below meth c D A 5 Q (k + 0) (n + 0) [(q, .inl (D.2 0, 18, .inl (upd (g) (3 * i) (nI r1))))] 99 [(4, .int x), (3, .int (nI i)), (2, .ref q), (0, .ref a), (1, .int (6 : Int32))] [.int (nI r2), .int (nI (3 * i + 1)), .ref q]) : XC p l e (RM 6 1 18 120) s m args below meth c D A 5 Q (k) (n) [(q, .inl (D.2 0, 18, .inl (g)))] 8 [(3, .int (nI i)), (2, .ref q), (0, .ref a), (1, .int (6 : Int32))] [] := by
  refine cx_iload_n hC dL_orders_8 rfl 0 rfl ?_
  refine cx_iload_n hC dL_orders_9 rfl 3 rfl ?_
  refine cx_icmp_ge hC 139 dL_orders_10 (by decide) (fun h => absurd h (fun h => by have := (n_le (a := 6) (by omega) (by omega)).mp h; omega)) (fun _ => ?_)
  refine cx_aload_n hC dL_orders_13 rfl 2 rfl ?_
  refine cx_bipush hC (10 : Int32) dL_orders_14 (by decide) ?_
  refine cx_iload_n hC dL_orders_16 rfl 0 rfl ?_
  refine cx_iconst hC (5 : Int32) dL_orders_17 (by decide) ?_
  refine cx_irem hC dL_orders_18 (by decide) ?_
  refine cx_topi (y := (nI (i % 5))) ((rem_n (b := 5) (by omega) (by decide) (by decide)).symm) ?_
  refine cx_iadd hC dL_orders_19 ?_
  refine cx_topi (y := (nI (10 + i % 5))) ((n_add 10 (i % 5)).symm) ?_
  refine cy_callS hC (y := yL_cell) (cy := cL_cell) (maxL := 2) (nA := 2) (r := (some .int)) (rm := (RM 1 0 0 0)) (mc := 0) (ms := 0) (As := [.ref a, .int (nI (10 + i % 5))]) (wr := [(q, .inl (D.2 0, 18, .inl (g)))]) (l_cell l D F hm hN (kk := 10 + i % 5) (by omega)) [] [0] rfl rfl rfl rfl (by decide) (ef_sub hC hE [] rfl) kc_yL_cell km_L_38 kt_yL_cell kn_RL ky_yL_cell rfl ⟨rfl, rfl⟩ ⟨Nat.le_of_ble_eq_true rfl, Nat.le_of_ble_eq_true rfl⟩ rfl (Nat.le_of_ble_eq_true rfl) ⟨by show k + 0 + 0 ≤ 1; omega, by show n + 0 + 0 ≤ 18; omega⟩ dL_orders_20 (fun o w1 h => ?_)
  obtain ⟨v1, rfl, rfl⟩ := h
  refine cx_cnt (k' := k + 0) (n' := n + 0) (by omega) (by omega) ?_
  refine cx_at (ws' := [(q, .inl (D.2 0, 18, .inl (g)))]) (st' := [.int (v1)]) rfl rfl ?_
  refine cx_iload_n hC dL_orders_23 rfl 0 rfl ?_
  refine cx_iconst hC (5 : Int32) dL_orders_24 (by decide) ?_
  refine cx_idiv hC dL_orders_25 (by decide) ?_
  refine cx_bipush hC (7 : Int32) dL_orders_26 (by decide) ?_
  refine cx_imul hC dL_orders_28 ?_
  refine cx_ishr hC dL_orders_29 ?_
  refine cx_istore hC [(4, .int ((v1) >>> ((((nI i) / (5 : Int32)) * (7 : Int32)) &&& 31))), (3, .int (nI i)), (2, .ref q), (0, .ref a), (1, .int (6 : Int32))] dL_orders_30 (Nat.le_of_ble_eq_true rfl) rfl ?_
  generalize ((v1) >>> ((((nI i) / (5 : Int32)) * (7 : Int32)) &&& 31)) = x
  refine cx_aload_n hC dL_orders_32 rfl 2 rfl ?_
  refine cx_iconst hC (3 : Int32) dL_orders_33 (by decide) ?_
  refine cx_iload_n hC dL_orders_34 rfl 1 rfl ?_
  refine cx_imul hC dL_orders_35 ?_
  refine cx_topi (y := (nI (3 * i))) ((n_mul (a := 3) (by omega) (by omega) (by omega)).symm) ?_
  refine cx_iload hC dL_orders_36 0 rfl ?_
  refine cx_bipush hC (6 : Int32) dL_orders_38 (by decide) ?_
  refine cy_callS hC (y := yL_below) (cy := cL_below) (maxL := 2) (nA := 2) (r := (some .int)) (rm := (RM 1 0 0 0)) (mc := 0) (ms := 0) (As := [.int x, .int (6 : Int32)]) (wr := [(q, .inl (D.2 0, 18, .inl (g)))]) (l_bel l D F (u := 6) (by decide) (by decide)) [] [0] rfl rfl rfl rfl (by decide) (ef_sub hC hE [] rfl) kc_yL_below km_L_42 kt_yL_below kn_RL ky_yL_below rfl ⟨rfl, rfl⟩ ⟨Nat.le_of_ble_eq_true rfl, Nat.le_of_ble_eq_true rfl⟩ rfl (Nat.le_of_ble_eq_true rfl) ⟨by show k + 0 + 0 ≤ 1; omega, by show n + 0 + 0 ≤ 18; omega⟩ dL_orders_40 (fun o w1 h => ?_)
  obtain ⟨r1, rfl, hr1, rfl⟩ := h
  refine cx_cnt (k' := k + 0) (n' := n + 0) (by omega) (by omega) ?_
  refine cx_at (ws' := [(q, .inl (D.2 0, 18, .inl (g)))]) (st' := [.int (nI r1), .int (nI (3 * i)), .ref q]) rfl rfl ?_
  refine cx_iast hC 0 (N := 18) [(q, .inl (D.2 0, 18, .inl (upd (g) (3 * i) (nI r1))))] rfl (by rw [i_nI (by omega)]; omega) (by rw [ix_nI (by omega)]; rfl) dL_orders_43 ?_
  refine cx_aload_n hC dL_orders_44 rfl 2 rfl ?_
  refine cx_iconst hC (3 : Int32) dL_orders_45 (by decide) ?_
  refine cx_iload_n hC dL_orders_46 rfl 1 rfl ?_
  refine cx_imul hC dL_orders_47 ?_
  refine cx_topi (y := (nI (3 * i))) ((n_mul (a := 3) (by omega) (by omega) (by omega)).symm) ?_
  refine cx_iconst hC (1 : Int32) dL_orders_48 (by decide) ?_
  refine cx_iadd hC dL_orders_49 ?_
  refine cx_topi (y := (nI (3 * i + 1))) ((n_suc _).symm) ?_
  refine cx_aload_n hC dL_orders_50 rfl 2 rfl ?_
  refine cx_iconst hC (3 : Int32) dL_orders_51 (by decide) ?_
  refine cx_iload_n hC dL_orders_52 rfl 1 rfl ?_
  refine cx_imul hC dL_orders_53 ?_
  refine cx_topi (y := (nI (3 * i))) ((n_mul (a := 3) (by omega) (by omega) (by omega)).symm) ?_
  refine cx_iald hC 0 rfl (by rw [i_nI (by omega)]; omega) dL_orders_54 ?_
  refine cx_topi (y := (nI r1)) (by rw [ix_nI (by omega), upd_i, if_pos rfl]) ?_
  by_cases hc : nI r1 = 0
  · skip
    refine cx_if_ne hC 70 dL_orders_55 (by decide) (fun h => absurd (hc) h) (fun _ => ?_)
    refine cx_iload hC dL_orders_58 0 rfl ?_
    refine cx_iconst hC (3 : Int32) dL_orders_60 (by decide) ?_
    refine cx_ishr hC dL_orders_61 ?_
    refine cx_bipush hC (9 : Int32) dL_orders_62 (by decide) ?_
    refine cy_callS hC (y := yL_below) (cy := cL_below) (maxL := 2) (nA := 2) (r := (some .int)) (rm := (RM 1 0 0 0)) (mc := 0) (ms := 0) (As := [.int (x >>> ((3 : Int32) &&& 31)), .int (9 : Int32)]) (wr := [(q, .inl (D.2 0, 18, .inl (upd (g) (3 * i) (nI r1))))]) (l_bel l D F (u := 9) (by decide) (by decide)) [] [0] rfl rfl rfl rfl (by decide) (ef_sub hC hE [] rfl) kc_yL_below km_L_42 kt_yL_below kn_RL ky_yL_below rfl ⟨rfl, rfl⟩ ⟨Nat.le_of_ble_eq_true rfl, Nat.le_of_ble_eq_true rfl⟩ rfl (Nat.le_of_ble_eq_true rfl) ⟨by show k + 0 + 0 ≤ 1; omega, by show n + 0 + 0 ≤ 18; omega⟩ dL_orders_64 (fun o w1 h => ?_)
    obtain ⟨r2, rfl, hr2, rfl⟩ := h
    refine cx_cnt (k' := k + 0) (n' := n + 0) (by omega) (by omega) ?_
    refine cx_at (ws' := [(q, .inl (D.2 0, 18, .inl (upd (g) (3 * i) (nI r1))))]) (st' := [.int (nI r2), .int (nI (3 * i + 1)), .ref q]) rfl rfl ?_
    refine cx_goto hC 99 dL_orders_67 (by decide) ?_
    refine cx_widen (k' := k + 0) (n' := n + 0) (by omega) (by omega) ?_
    exact K x r1 r2 hr1 (by omega)
  · skip
    refine cx_if_ne hC 70 dL_orders_55 (by decide) (fun _ => ?_) (fun h => absurd h (hc))
    refine cx_aload_n hC dL_orders_70 rfl 2 rfl ?_
    refine cx_iconst hC (3 : Int32) dL_orders_71 (by decide) ?_
    refine cx_iload_n hC dL_orders_72 rfl 1 rfl ?_
    refine cx_imul hC dL_orders_73 ?_
    refine cx_topi (y := (nI (3 * i))) ((n_mul (a := 3) (by omega) (by omega) (by omega)).symm) ?_
    refine cx_iald hC 0 rfl (by rw [i_nI (by omega)]; omega) dL_orders_74 ?_
    refine cx_topi (y := (nI r1)) (by rw [ix_nI (by omega), upd_i, if_pos rfl]) ?_
    refine cx_iconst hC (5 : Int32) dL_orders_75 (by decide) ?_
    by_cases hd : nI r1 = (5 : Int32)
    · skip
      refine cx_icmp_ne hC 90 dL_orders_76 (by decide) (fun h => absurd (hd) h) (fun _ => ?_)
      refine cx_iload hC dL_orders_79 0 rfl ?_
      refine cx_iconst hC (3 : Int32) dL_orders_81 (by decide) ?_
      refine cx_ishr hC dL_orders_82 ?_
      refine cx_iconst hC (4 : Int32) dL_orders_83 (by decide) ?_
      refine cy_callS hC (y := yL_below) (cy := cL_below) (maxL := 2) (nA := 2) (r := (some .int)) (rm := (RM 1 0 0 0)) (mc := 0) (ms := 0) (As := [.int (x >>> ((3 : Int32) &&& 31)), .int (4 : Int32)]) (wr := [(q, .inl (D.2 0, 18, .inl (upd (g) (3 * i) (nI r1))))]) (l_bel l D F (u := 4) (by decide) (by decide)) [] [0] rfl rfl rfl rfl (by decide) (ef_sub hC hE [] rfl) kc_yL_below km_L_42 kt_yL_below kn_RL ky_yL_below rfl ⟨rfl, rfl⟩ ⟨Nat.le_of_ble_eq_true rfl, Nat.le_of_ble_eq_true rfl⟩ rfl (Nat.le_of_ble_eq_true rfl) ⟨by show k + 0 + 0 ≤ 1; omega, by show n + 0 + 0 ≤ 18; omega⟩ dL_orders_84 (fun o w1 h => ?_)
      obtain ⟨r2, rfl, hr2, rfl⟩ := h
      refine cx_cnt (k' := k + 0) (n' := n + 0) (by omega) (by omega) ?_
      refine cx_at (ws' := [(q, .inl (D.2 0, 18, .inl (upd (g) (3 * i) (nI r1))))]) (st' := [.int (nI r2), .int (nI (3 * i + 1)), .ref q]) rfl rfl ?_
      refine cx_goto hC 99 dL_orders_87 (by decide) ?_
      refine cx_widen (k' := k + 0) (n' := n + 0) (by omega) (by omega) ?_
      exact K x r1 r2 hr1 (by omega)
    · skip
      refine cx_icmp_ne hC 90 dL_orders_76 (by decide) (fun _ => ?_) (fun h => absurd h (hd))
      refine cx_iload hC dL_orders_90 0 rfl ?_
      refine cx_iconst hC (3 : Int32) dL_orders_92 (by decide) ?_
      refine cx_ishr hC dL_orders_93 ?_
      refine cx_bipush hC (45 : Int32) dL_orders_94 (by decide) ?_
      refine cy_callS hC (y := yL_below) (cy := cL_below) (maxL := 2) (nA := 2) (r := (some .int)) (rm := (RM 1 0 0 0)) (mc := 0) (ms := 0) (As := [.int (x >>> ((3 : Int32) &&& 31)), .int (45 : Int32)]) (wr := [(q, .inl (D.2 0, 18, .inl (upd (g) (3 * i) (nI r1))))]) (l_bel l D F (u := 45) (by decide) (by decide)) [] [0] rfl rfl rfl rfl (by decide) (ef_sub hC hE [] rfl) kc_yL_below km_L_42 kt_yL_below kn_RL ky_yL_below rfl ⟨rfl, rfl⟩ ⟨Nat.le_of_ble_eq_true rfl, Nat.le_of_ble_eq_true rfl⟩ rfl (Nat.le_of_ble_eq_true rfl) ⟨by show k + 0 + 0 ≤ 1; omega, by show n + 0 + 0 ≤ 18; omega⟩ dL_orders_96 (fun o w1 h => ?_)
      obtain ⟨r2, rfl, hr2, rfl⟩ := h
      refine cx_cnt (k' := k + 0) (n' := n + 0) (by omega) (by omega) ?_
      refine cx_at (ws' := [(q, .inl (D.2 0, 18, .inl (upd (g) (3 * i) (nI r1))))]) (st' := [.int (nI r2), .int (nI (3 * i + 1)), .ref q]) rfl rfl ?_
      refine cx_widen (k' := k + 0) (n' := n + 0) (by omega) (by omega) ?_
      exact K x r1 r2 hr1 hr2
theorem dL_orders_99 : decode cL_orders 99 = .ok (.iastore, 1) := by decide +kernel
theorem dL_orders_100 : decode cL_orders 100 = .ok (.aload_n 2, 1) := by decide +kernel
theorem dL_orders_101 : decode cL_orders 101 = .ok (.iconst 3, 1) := by decide +kernel
theorem dL_orders_102 : decode cL_orders 102 = .ok (.iload_n 3, 1) := by decide +kernel
theorem dL_orders_103 : decode cL_orders 103 = .ok (.imul, 1) := by decide +kernel
theorem dL_orders_104 : decode cL_orders 104 = .ok (.iconst 2, 1) := by decide +kernel
theorem dL_orders_105 : decode cL_orders 105 = .ok (.iadd, 1) := by decide +kernel
theorem dL_orders_106 : decode cL_orders 106 = .ok (.iload 4, 2) := by decide +kernel
theorem dL_orders_108 : decode cL_orders 108 = .ok (.bipush 7, 2) := by decide +kernel
theorem dL_orders_110 : decode cL_orders 110 = .ok (.ishr, 1) := by decide +kernel
theorem dL_orders_111 : decode cL_orders 111 = .ok (.iconst 3, 1) := by decide +kernel
theorem dL_orders_112 : decode cL_orders 112 = .ok (.invokestatic 42, 3) := by decide +kernel
theorem dL_orders_115 : decode cL_orders 115 = .ok (.ifCond .ne 7, 3) := by decide +kernel
theorem dL_orders_122 : decode cL_orders 122 = .ok (.iload 4, 2) := by decide +kernel
theorem dL_orders_124 : decode cL_orders 124 = .ok (.bipush 6, 2) := by decide +kernel
theorem dL_orders_126 : decode cL_orders 126 = .ok (.ishr, 1) := by decide +kernel
theorem dL_orders_127 : decode cL_orders 127 = .ok (.bipush 8, 2) := by decide +kernel
theorem dL_orders_129 : decode cL_orders 129 = .ok (.invokestatic 42, 3) := by decide +kernel
theorem dL_orders_132 : decode cL_orders 132 = .ok (.iastore, 1) := by decide +kernel
theorem dL_orders_133 : decode cL_orders 133 = .ok (.iinc 3 1, 3) := by decide +kernel
theorem dL_orders_136 : decode cL_orders 136 = .ok (.goto (-128), 3) := by decide +kernel
theorem dL_orders_118 : decode cL_orders 118 = .ok (.iconst 0, 1) := by decide +kernel
theorem dL_orders_119 : decode cL_orders 119 = .ok (.goto 13, 3) := by decide +kernel
theorem l_ob {p : Program} {l : Launch} {e : Env} {s : State} {m : MethodId} {args : Array Value} {below : List Frame} {meth : Method} {c : Code} {D : DG} {F : EF} {A : Nat → Prop} {Q : State → Prop} {k n : Nat} (hC : CY p s m args meth c cL_orders 5 RL (some (.array .int)) D A) (hE : ENV F A s s.heap) {i q r1 r2 : Nat} {x : Int32} {g : Nat → Int32} {a : Nat} (hi : i < 6) (hk : k + 0 ≤ 1) (hn : n + 0 ≤ 18) (K : ∀ (r3 : Nat) (_ : r3 < 8), XC p l e (RM 6 1 18 120) s m args below meth c D A 5 Q (k + 0) (n + 0) [(q, .inl (D.2 0, 18, .inl (upd (upd (upd (g) (3 * i) (nI r1)) (3 * i + 1) (nI r2)) (3 * i + 2) (nI r3))))] 8 [(3, .int (nI (i + 1))), (2, .ref q), (0, .ref a), (1, .int (6 : Int32))] []) : XC p l e (RM 6 1 18 120) s m args below meth c D A 5 Q (k) (n) [(q, .inl (D.2 0, 18, .inl (upd (g) (3 * i) (nI r1))))] 99 [(4, .int x), (3, .int (nI i)), (2, .ref q), (0, .ref a), (1, .int (6 : Int32))] [.int (nI r2), .int (nI (3 * i + 1)), .ref q] := by
  refine cx_iast hC 0 (N := 18) [(q, .inl (D.2 0, 18, .inl (upd (upd (g) (3 * i) (nI r1)) (3 * i + 1) (nI r2))))] rfl (by rw [i_nI (by omega)]; omega) (by rw [ix_nI (by omega)]; rfl) dL_orders_99 ?_
  refine cx_aload_n hC dL_orders_100 rfl 2 rfl ?_
  refine cx_iconst hC (3 : Int32) dL_orders_101 (by decide) ?_
  refine cx_iload_n hC dL_orders_102 rfl 1 rfl ?_
  refine cx_imul hC dL_orders_103 ?_
  refine cx_topi (y := (nI (3 * i))) ((n_mul (a := 3) (by omega) (by omega) (by omega)).symm) ?_
  refine cx_iconst hC (2 : Int32) dL_orders_104 (by decide) ?_
  refine cx_iadd hC dL_orders_105 ?_
  refine cx_topi (y := (nI (3 * i + 2))) (n_add _ 2 |>.symm) ?_
  refine cx_iload hC dL_orders_106 0 rfl ?_
  refine cx_bipush hC (7 : Int32) dL_orders_108 (by decide) ?_
  refine cx_ishr hC dL_orders_110 ?_
  refine cx_iconst hC (3 : Int32) dL_orders_111 (by decide) ?_
  refine cy_callS hC (y := yL_below) (cy := cL_below) (maxL := 2) (nA := 2) (r := (some .int)) (rm := (RM 1 0 0 0)) (mc := 0) (ms := 0) (As := [.int (x >>> ((7 : Int32) &&& 31)), .int (3 : Int32)]) (wr := [(q, .inl (D.2 0, 18, .inl (upd (upd (g) (3 * i) (nI r1)) (3 * i + 1) (nI r2))))]) (l_bel l D F (u := 3) (by decide) (by decide)) [] [0] rfl rfl rfl rfl (by decide) (ef_sub hC hE [] rfl) kc_yL_below km_L_42 kt_yL_below kn_RL ky_yL_below rfl ⟨rfl, rfl⟩ ⟨Nat.le_of_ble_eq_true rfl, Nat.le_of_ble_eq_true rfl⟩ rfl (Nat.le_of_ble_eq_true rfl) ⟨by show k + 0 + 0 ≤ 1; omega, by show n + 0 + 0 ≤ 18; omega⟩ dL_orders_112 (fun o w1 h => ?_)
  obtain ⟨r4, rfl, hr4, rfl⟩ := h
  refine cx_cnt (k' := k + 0) (n' := n + 0) (by omega) (by omega) ?_
  refine cx_at (ws' := [(q, .inl (D.2 0, 18, .inl (upd (upd (g) (3 * i) (nI r1)) (3 * i + 1) (nI r2))))]) (st' := [.int (nI r4), .int (nI (3 * i + 2)), .ref q]) rfl rfl ?_
  by_cases hc : ¬ nI r4 = 0
  · skip
    refine cx_if_ne hC 122 dL_orders_115 (by decide) (fun _ => ?_) (fun h => absurd h (hc))
    refine cx_iload hC dL_orders_122 0 rfl ?_
    refine cx_bipush hC (6 : Int32) dL_orders_124 (by decide) ?_
    refine cx_ishr hC dL_orders_126 ?_
    refine cx_bipush hC (8 : Int32) dL_orders_127 (by decide) ?_
    refine cy_callS hC (y := yL_below) (cy := cL_below) (maxL := 2) (nA := 2) (r := (some .int)) (rm := (RM 1 0 0 0)) (mc := 0) (ms := 0) (As := [.int (x >>> ((6 : Int32) &&& 31)), .int (8 : Int32)]) (wr := [(q, .inl (D.2 0, 18, .inl (upd (upd (g) (3 * i) (nI r1)) (3 * i + 1) (nI r2))))]) (l_bel l D F (u := 8) (by decide) (by decide)) [] [0] rfl rfl rfl rfl (by decide) (ef_sub hC hE [] rfl) kc_yL_below km_L_42 kt_yL_below kn_RL ky_yL_below rfl ⟨rfl, rfl⟩ ⟨Nat.le_of_ble_eq_true rfl, Nat.le_of_ble_eq_true rfl⟩ rfl (Nat.le_of_ble_eq_true rfl) ⟨by show k + 0 + 0 ≤ 1; omega, by show n + 0 + 0 ≤ 18; omega⟩ dL_orders_129 (fun o w1 h => ?_)
    obtain ⟨r3, rfl, hr3, rfl⟩ := h
    refine cx_cnt (k' := k + 0) (n' := n + 0) (by omega) (by omega) ?_
    refine cx_at (ws' := [(q, .inl (D.2 0, 18, .inl (upd (upd (g) (3 * i) (nI r1)) (3 * i + 1) (nI r2))))]) (st' := [.int (nI r3), .int (nI (3 * i + 2)), .ref q]) rfl rfl ?_
    refine cx_iast hC 0 (N := 18) [(q, .inl (D.2 0, 18, .inl (upd (upd (upd (g) (3 * i) (nI r1)) (3 * i + 1) (nI r2)) (3 * i + 2) (nI r3))))] rfl (by rw [i_nI (by omega)]; omega) (by rw [ix_nI (by omega)]; rfl) dL_orders_132 ?_
    refine cx_iinc hC [(3, .int (nI (i + 1))), (4, .int x), (2, .ref q), (0, .ref a), (1, .int (6 : Int32))] dL_orders_133 1 rfl (v := (nI (i + 1))) (n_suc i) (Nat.le_of_ble_eq_true rfl) rfl ?_
    refine cx_goto hC 8 dL_orders_136 (by decide) ?_
    refine cx_sub [0, 2, 3, 4] (lv' := [(3, .int (nI (i + 1))), (2, .ref q), (0, .ref a), (1, .int (6 : Int32))]) rfl ?_
    refine cx_widen (k' := k + 0) (n' := n + 0) (by omega) (by omega) ?_
    exact K r3 hr3
  · have hc : nI r4 = 0 := Decidable.of_not_not hc
    refine cx_if_ne hC 122 dL_orders_115 (by decide) (fun h => absurd (hc) h) (fun _ => ?_)
    refine cx_iconst hC (0 : Int32) dL_orders_118 (by decide) ?_
    refine cx_topi (y := (nI 0)) (rfl) ?_
    refine cx_goto hC 132 dL_orders_119 (by decide) ?_
    refine cx_iast hC 0 (N := 18) [(q, .inl (D.2 0, 18, .inl (upd (upd (upd (g) (3 * i) (nI r1)) (3 * i + 1) (nI r2)) (3 * i + 2) (nI 0))))] rfl (by rw [i_nI (by omega)]; omega) (by rw [ix_nI (by omega)]; rfl) dL_orders_132 ?_
    refine cx_iinc hC [(3, .int (nI (i + 1))), (4, .int x), (2, .ref q), (0, .ref a), (1, .int (6 : Int32))] dL_orders_133 1 rfl (v := (nI (i + 1))) (n_suc i) (Nat.le_of_ble_eq_true rfl) rfl ?_
    refine cx_goto hC 8 dL_orders_136 (by decide) ?_
    refine cx_sub [0, 2, 3, 4] (lv' := [(3, .int (nI (i + 1))), (2, .ref q), (0, .ref a), (1, .int (6 : Int32))]) rfl ?_
    refine cx_widen (k' := k + 0) (n' := n + 0) (by omega) (by omega) ?_
    exact K 0 (by decide)
theorem l_ords {p : Program} {l : Launch} {e : Env} {s : State} {m : MethodId} {args : Array Value} {below : List Frame} {meth : Method} {c : Code} {D : DG} {F : EF} {A : Nat → Prop} {Q : State → Prop} {k n : Nat} {a N : Nat} {f : Nat → Int32} {q : Nat} (hC : CY p s m args meth c cL_orders 5 RL (some (.array .int)) D A) (hE : ENV F A s s.heap) (hm : (a, N, f) ∈ F.2.1) (hN : N < 2147483648) (hk : k ≤ 1) (hn : n ≤ 18) (K : ∀ g, OKO g 6 → XC p l e (RM 6 1 18 120) s m args below meth c D A 5 Q k n [(q, .inl (D.2 0, 18, .inl (g)))] 8 [(3, .int (nI 6)), (2, .ref q), (0, .ref a), (1, .int (6 : Int32))] []) : ∀ r i g, i + r = 6 → OKO g i → XC p l e (RM 6 1 18 120) s m args below meth c D A 5 Q k n [(q, .inl (D.2 0, 18, .inl (g)))] 8 [(3, .int (nI i)), (2, .ref q), (0, .ref a), (1, .int (6 : Int32))] [] := by
  intro r
  induction r with
  | zero =>
    intro i g h hg
    obtain rfl : i = 6 := by omega
    exact K g hg
  | succ r ih =>
    intro i g h hg
    refine l_oa hC hE hm hN (i := i) (by omega) (by omega) (by omega) (fun x r1 r2 h1 h2 => ?_)
    refine l_ob hC hE (i := i) (by omega) (by omega) (by omega) (fun r3 h3 => ?_)
    exact ih (i + 1) _ (by omega) (hg.step h1 h2 h3)
theorem dL_orders_0 : decode cL_orders 0 = .ok (.iconst 3, 1) := by decide +kernel
theorem dL_orders_1 : decode cL_orders 1 = .ok (.iload_n 1, 1) := by decide +kernel
theorem dL_orders_2 : decode cL_orders 2 = .ok (.imul, 1) := by decide +kernel
theorem dL_orders_3 : decode cL_orders 3 = .ok (.newarray .int, 2) := by decide +kernel
theorem dL_orders_5 : decode cL_orders 5 = .ok (.astore_n 2, 1) := by decide +kernel
theorem dL_orders_6 : decode cL_orders 6 = .ok (.iconst 0, 1) := by decide +kernel
theorem dL_orders_7 : decode cL_orders 7 = .ok (.istore_n 3, 1) := by decide +kernel
theorem dL_orders_139 : decode cL_orders 139 = .ok (.aload_n 2, 1) := by decide +kernel
theorem dL_orders_140 : decode cL_orders 140 = .ok (.areturn, 1) := by decide +kernel
theorem l_ord (l : Launch) (D : DG) (F : EF) {a N : Nat} {f : Nat → Int32} (hm : (a, N, f) ∈ F.2.1) (hN : N < 2147483648) : Yo l yL_orders (WS yL_orders cL_orders 5 (some (.array .int))) (RM 6 1 18 120) 1 18 [.ref a, .int (6 : Int32)] D F [] (fun o w => ∃ q g, o = some (.ref q) ∧ w = [(q, .inl (D.2 0, 18, .inl (g)))] ∧ OKO g 6) := by
  refine Yo.of (cc := cL_orders) (maxL := 5) (ret := (some (.array .int))) (by decide) (Nat.le_of_ble_eq_true rfl) ?_
  intro p e s m args below meth c hC hE hmn
  show XC p l e (RM 6 1 18 120) s m args below meth c D _ 5 _ 0 0 [] 0 [(0, .ref a), (1, .int (6 : Int32))] []
  refine cx_iconst hC (3 : Int32) dL_orders_0 (by decide) ?_
  refine cx_iload_n hC dL_orders_1 rfl 1 rfl ?_
  refine cx_imul hC dL_orders_2 ?_
  refine cx_topi (y := (18 : Int32)) (by decide) ?_
  refine cx_newi hC (N := 18) (by decide) (by decide) (Nat.le_of_ble_eq_true rfl) ⟨Nat.le_of_ble_eq_true rfl, Nat.le_of_ble_eq_true rfl⟩ (tb_16 (List.mem_of_getElem? (i := 27) rfl)) dL_orders_3 (fun q1 => ?_)
  refine cx_at (ws' := [(q1, .inl (D.2 0, 18, .inl (fun _ => 0)))]) (st' := [.ref q1]) rfl rfl ?_
  refine cx_astore_n hC [(2, .ref q1), (0, .ref a), (1, .int (6 : Int32))] dL_orders_5 rfl (Nat.le_of_ble_eq_true rfl) rfl ?_
  refine cx_iconst hC (0 : Int32) dL_orders_6 (by decide) ?_
  refine cx_topi (y := (nI 0)) (rfl) ?_
  refine cx_istore_n hC [(3, .int (nI 0)), (2, .ref q1), (0, .ref a), (1, .int (6 : Int32))] dL_orders_7 rfl (Nat.le_of_ble_eq_true rfl) rfl ?_
  refine l_ords hC hE hm hN (by decide) (by decide) (fun g hg => ?_) 6 0 _ rfl (fun k hk => absurd hk (Nat.not_lt_zero _))
  refine cx_iload_n hC dL_orders_8 rfl 0 rfl ?_
  refine cx_iload_n hC dL_orders_9 rfl 3 rfl ?_
  refine cx_icmp_ge hC 139 dL_orders_10 (by decide) (fun _ => ?_) (fun h => absurd (by decide) h)
  refine cx_aload_n hC dL_orders_139 rfl 1 rfl ?_
  exact cy_aret hC (⟨q1, g, rfl, rfl, hg⟩) rfl (Or.inr ⟨_, rfl⟩) dL_orders_140
