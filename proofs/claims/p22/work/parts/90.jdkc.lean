/-! numbers into builders, texts out of them -/
theorem neg_n : ∀ m, m < 100 → (-(nI m)).toInt = -((m : Nat) : Int) := by decide +kernel
theorem nn_n : ∀ m, m < 100 → nI m = -(-(nI m)) := by decide +kernel
theorem zdec_n {e : Nat} (h : 1 ≤ e) (hb : e < 2147483648) : nI e + Int32.ofInt (-1) = nI (e - 1) := by
  have z : (Int32.ofInt (-1)).toInt = -1 := rfl
  rw [i_eq, i_add (by rw [z, i_nI hb]; omega) (by rw [z, i_nI hb]; omega), z, i_nI hb, i_nI (by omega)]; omega
def gcf (m e : Nat) (f : Nat → Int32) : Nat → Int32 := if m < 10 then upd f (e - 1) (nI (48 + m % 10)) else upd (upd f (e - 1) (nI (48 + m % 10))) (e - 2) (nI (48 + m / 10))
theorem upd_i (f : Nat → Int32) (i : Nat) (x : Int32) (k : Nat) : upd f i x k = if k = i then x else f k := rfl
theorem upd7 {f : Nat → Int32} (h : ∀ k, b7 (f k)) (i : Nat) {x : Int32} (hx : b7 x) (k : Nat) : b7 (upd f i x k) := by
  rw [upd_i]
  by_cases c : k = i
  · rw [if_pos c]; exact hx
  · rw [if_neg c]; exact h k
theorem d7a (m : Nat) : b7 (nI (48 + m % 10)) := by unfold b7; rw [i_nI (by omega)]; omega
theorem d7b {m : Nat} (h : m < 100) : b7 (nI (48 + m / 10)) := by unfold b7; rw [i_nI (by omega)]; omega
theorem SBI.int {Ls : List Int32} {cap m : Nat} {f : Nat → Int32} (h : SBI Ls cap f) (hm : m < 100) (h1 : (Ls ++ dgT m).length ≤ cap) : SBI (Ls ++ dgT m) cap (gcf m (Ls ++ dgT m).length f) := by
  obtain ⟨a1, a2, a3, a4⟩ := h
  have hl : (Ls ++ dgT m).length = Ls.length + (dgT m).length := List.length_append
  refine ⟨h1, a2, fun k hk => ?_, ?_⟩
  · rw [getA]
    unfold gcf
    by_cases c : m < 10
    · have e1 : dgT m = [nI (48 + m)] := by unfold dgT; rw [if_pos c]
      have e2 : (dgT m).length = 1 := by rw [e1]; rfl
      rw [if_pos c, upd_i, hl, e2]
      by_cases z : k < Ls.length
      · rw [if_neg (by omega), if_pos z]; exact a3 k z
      · rw [if_pos (by omega), if_neg z, e1, show k - Ls.length = 0 by omega, show m % 10 = m by omega]; rfl
    · have e1 : dgT m = [nI (48 + m / 10), nI (48 + m % 10)] := by unfold dgT; rw [if_neg c]
      have e2 : (dgT m).length = 2 := by rw [e1]; rfl
      rw [if_neg c, upd_i, upd_i, hl, e2]
      by_cases z : k < Ls.length
      · rw [if_neg (by omega), if_neg (by omega), if_pos z]; exact a3 k z
      · by_cases z2 : k = Ls.length
        · rw [if_pos (by omega), if_neg z, e1, show k - Ls.length = 0 by omega]; rfl
        · rw [if_neg (by omega), if_pos (by omega), if_neg z, e1, show k - Ls.length = 1 by omega]; rfl
  · unfold gcf
    by_cases c : m < 10
    · rw [if_pos c]; exact upd7 a4 _ (d7a m)
    · rw [if_neg c]; exact upd7 (upd7 a4 _ (d7a m)) _ (d7b hm)
theorem dg_1 {m : Nat} (c : m < 10) : (dgT m).length = 1 := by unfold dgT; rw [if_pos c]; rfl
theorem dg_2 {m : Nat} (c : ¬ m < 10) : (dgT m).length = 2 := by unfold dgT; rw [if_neg c]; rfl
theorem dJ6_stringSize_0f7a4_0 : decode cJ6_stringSize_0f7a4 0 = .ok (.iconst 1, 1) := by decide +kernel
theorem dJ6_stringSize_0f7a4_1 : decode cJ6_stringSize_0f7a4 1 = .ok (.istore_n 1, 1) := by decide +kernel
theorem dJ6_stringSize_0f7a4_2 : decode cJ6_stringSize_0f7a4 2 = .ok (.iload_n 0, 1) := by decide +kernel
theorem dJ6_stringSize_0f7a4_3 : decode cJ6_stringSize_0f7a4 3 = .ok (.ifCond .lt 8, 3) := by decide +kernel
theorem dJ6_stringSize_0f7a4_6 : decode cJ6_stringSize_0f7a4 6 = .ok (.iconst 0, 1) := by decide +kernel
theorem dJ6_stringSize_0f7a4_7 : decode cJ6_stringSize_0f7a4 7 = .ok (.istore_n 1, 1) := by decide +kernel
theorem dJ6_stringSize_0f7a4_8 : decode cJ6_stringSize_0f7a4 8 = .ok (.iload_n 0, 1) := by decide +kernel
theorem dJ6_stringSize_0f7a4_9 : decode cJ6_stringSize_0f7a4 9 = .ok (.ineg, 1) := by decide +kernel
theorem dJ6_stringSize_0f7a4_10 : decode cJ6_stringSize_0f7a4 10 = .ok (.istore_n 0, 1) := by decide +kernel
theorem dJ6_stringSize_0f7a4_11 : decode cJ6_stringSize_0f7a4 11 = .ok (.bipush (-10), 2) := by decide +kernel
theorem dJ6_stringSize_0f7a4_13 : decode cJ6_stringSize_0f7a4 13 = .ok (.istore_n 2, 1) := by decide +kernel
theorem dJ6_stringSize_0f7a4_14 : decode cJ6_stringSize_0f7a4 14 = .ok (.iconst 1, 1) := by decide +kernel
theorem dJ6_stringSize_0f7a4_15 : decode cJ6_stringSize_0f7a4 15 = .ok (.istore_n 3, 1) := by decide +kernel
theorem dJ6_stringSize_0f7a4_16 : decode cJ6_stringSize_0f7a4 16 = .ok (.iload_n 3, 1) := by decide +kernel
theorem dJ6_stringSize_0f7a4_17 : decode cJ6_stringSize_0f7a4 17 = .ok (.bipush 10, 2) := by decide +kernel
theorem dJ6_stringSize_0f7a4_19 : decode cJ6_stringSize_0f7a4 19 = .ok (.if_icmp .ge 23, 3) := by decide +kernel
theorem dJ6_stringSize_0f7a4_22 : decode cJ6_stringSize_0f7a4 22 = .ok (.iload_n 0, 1) := by decide +kernel
theorem dJ6_stringSize_0f7a4_23 : decode cJ6_stringSize_0f7a4 23 = .ok (.iload_n 2, 1) := by decide +kernel
theorem dJ6_stringSize_0f7a4_24 : decode cJ6_stringSize_0f7a4 24 = .ok (.if_icmp .le 7, 3) := by decide +kernel
theorem dJ6_stringSize_0f7a4_27 : decode cJ6_stringSize_0f7a4 27 = .ok (.iload_n 3, 1) := by decide +kernel
theorem dJ6_stringSize_0f7a4_28 : decode cJ6_stringSize_0f7a4 28 = .ok (.iload_n 1, 1) := by decide +kernel
theorem dJ6_stringSize_0f7a4_29 : decode cJ6_stringSize_0f7a4 29 = .ok (.iadd, 1) := by decide +kernel
theorem dJ6_stringSize_0f7a4_30 : decode cJ6_stringSize_0f7a4 30 = .ok (.ireturn, 1) := by decide +kernel
theorem dJ6_stringSize_0f7a4_31 : decode cJ6_stringSize_0f7a4 31 = .ok (.bipush 10, 2) := by decide +kernel
theorem dJ6_stringSize_0f7a4_33 : decode cJ6_stringSize_0f7a4 33 = .ok (.iload_n 2, 1) := by decide +kernel
theorem dJ6_stringSize_0f7a4_34 : decode cJ6_stringSize_0f7a4 34 = .ok (.imul, 1) := by decide +kernel
theorem dJ6_stringSize_0f7a4_35 : decode cJ6_stringSize_0f7a4 35 = .ok (.istore_n 2, 1) := by decide +kernel
theorem dJ6_stringSize_0f7a4_36 : decode cJ6_stringSize_0f7a4 36 = .ok (.iinc 3 1, 3) := by decide +kernel
theorem dJ6_stringSize_0f7a4_39 : decode cJ6_stringSize_0f7a4 39 = .ok (.goto (-23), 3) := by decide +kernel
theorem j_ssz (l : Launch) (D : DG) (F : EF) {u : Nat} (hm1 : u < 100) : Yo l yJ6_stringSize_0f7a4 (WS yJ6_stringSize_0f7a4 cJ6_stringSize_0f7a4 4 (some .int)) (RM 1 0 0 0) 0 0 [.int (nI u)] D F [] (fun o w => o = some (.int (nI (dgT u).length)) ∧ w = []) := by
  refine Yo.of (cc := cJ6_stringSize_0f7a4) (maxL := 4) (ret := (some .int)) (by decide) (Nat.le_of_ble_eq_true rfl) ?_
  intro p e s m args below meth c hC hE hmn
  show XC p l e (RM 1 0 0 0) s m args below meth c D _ 4 _ 0 0 [] 0 [(0, .int (nI u))] []
  by_cases hc : u < 10
  · have hng := neg_n u hm1
    refine cx_iconst hC (1 : Int32) dJ6_stringSize_0f7a4_0 (by decide) ?_
    refine cx_istore_n hC [(1, .int (1 : Int32)), (0, .int (nI u))] dJ6_stringSize_0f7a4_1 rfl (Nat.le_of_ble_eq_true rfl) rfl ?_
    refine cx_iload_n hC dJ6_stringSize_0f7a4_2 rfl 1 rfl ?_
    refine cx_if_lt hC 11 dJ6_stringSize_0f7a4_3 (by decide) (fun h => absurd h (fun h => by have := i_lt.mp h; rw [i_nI (by omega)] at this; have z : (0 : Int32).toInt = 0 := rfl; omega)) (fun _ => ?_)
    refine cx_iconst hC (0 : Int32) dJ6_stringSize_0f7a4_6 (by decide) ?_
    refine cx_istore_n hC [(1, .int (0 : Int32)), (0, .int (nI u))] dJ6_stringSize_0f7a4_7 rfl (Nat.le_of_ble_eq_true rfl) rfl ?_
    refine cx_iload_n hC dJ6_stringSize_0f7a4_8 rfl 1 rfl ?_
    refine cx_ineg hC dJ6_stringSize_0f7a4_9 ?_
    refine cx_istore_n hC [(0, .int (-(nI u))), (1, .int (0 : Int32))] dJ6_stringSize_0f7a4_10 rfl (Nat.le_of_ble_eq_true rfl) rfl ?_
    refine cx_bipush hC (-10 : Int32) dJ6_stringSize_0f7a4_11 (by decide) ?_
    refine cx_istore_n hC [(2, .int (-10 : Int32)), (0, .int (-(nI u))), (1, .int (0 : Int32))] dJ6_stringSize_0f7a4_13 rfl (Nat.le_of_ble_eq_true rfl) rfl ?_
    refine cx_iconst hC (1 : Int32) dJ6_stringSize_0f7a4_14 (by decide) ?_
    refine cx_istore_n hC [(3, .int (1 : Int32)), (2, .int (-10 : Int32)), (0, .int (-(nI u))), (1, .int (0 : Int32))] dJ6_stringSize_0f7a4_15 rfl (Nat.le_of_ble_eq_true rfl) rfl ?_
    refine cx_iload_n hC dJ6_stringSize_0f7a4_16 rfl 0 rfl ?_
    refine cx_bipush hC (10 : Int32) dJ6_stringSize_0f7a4_17 (by decide) ?_
    refine cx_icmp_ge hC 42 dJ6_stringSize_0f7a4_19 (by decide) (fun h => absurd h (by decide)) (fun _ => ?_)
    refine cx_iload_n hC dJ6_stringSize_0f7a4_22 rfl 2 rfl ?_
    refine cx_iload_n hC dJ6_stringSize_0f7a4_23 rfl 1 rfl ?_
    refine cx_icmp_le hC 31 dJ6_stringSize_0f7a4_24 (by decide) (fun h => absurd h (fun h => by have := i_le.mp h; rw [hng] at this; have z : (-10 : Int32).toInt = -10 := rfl; omega)) (fun _ => ?_)
    refine cx_iload_n hC dJ6_stringSize_0f7a4_27 rfl 0 rfl ?_
    refine cx_iload_n hC dJ6_stringSize_0f7a4_28 rfl 3 rfl ?_
    refine cx_iadd hC dJ6_stringSize_0f7a4_29 ?_
    refine cx_topi (y := (nI (dgT u).length)) (by rw [dg_1 hc]; rfl) ?_
    exact cy_iret hC (⟨rfl, rfl⟩) rfl dJ6_stringSize_0f7a4_30
  · have hng := neg_n u hm1
    refine cx_iconst hC (1 : Int32) dJ6_stringSize_0f7a4_0 (by decide) ?_
    refine cx_istore_n hC [(1, .int (1 : Int32)), (0, .int (nI u))] dJ6_stringSize_0f7a4_1 rfl (Nat.le_of_ble_eq_true rfl) rfl ?_
    refine cx_iload_n hC dJ6_stringSize_0f7a4_2 rfl 1 rfl ?_
    refine cx_if_lt hC 11 dJ6_stringSize_0f7a4_3 (by decide) (fun h => absurd h (fun h => by have := i_lt.mp h; rw [i_nI (by omega)] at this; have z : (0 : Int32).toInt = 0 := rfl; omega)) (fun _ => ?_)
    refine cx_iconst hC (0 : Int32) dJ6_stringSize_0f7a4_6 (by decide) ?_
    refine cx_istore_n hC [(1, .int (0 : Int32)), (0, .int (nI u))] dJ6_stringSize_0f7a4_7 rfl (Nat.le_of_ble_eq_true rfl) rfl ?_
    refine cx_iload_n hC dJ6_stringSize_0f7a4_8 rfl 1 rfl ?_
    refine cx_ineg hC dJ6_stringSize_0f7a4_9 ?_
    refine cx_istore_n hC [(0, .int (-(nI u))), (1, .int (0 : Int32))] dJ6_stringSize_0f7a4_10 rfl (Nat.le_of_ble_eq_true rfl) rfl ?_
    refine cx_bipush hC (-10 : Int32) dJ6_stringSize_0f7a4_11 (by decide) ?_
    refine cx_istore_n hC [(2, .int (-10 : Int32)), (0, .int (-(nI u))), (1, .int (0 : Int32))] dJ6_stringSize_0f7a4_13 rfl (Nat.le_of_ble_eq_true rfl) rfl ?_
    refine cx_iconst hC (1 : Int32) dJ6_stringSize_0f7a4_14 (by decide) ?_
    refine cx_istore_n hC [(3, .int (1 : Int32)), (2, .int (-10 : Int32)), (0, .int (-(nI u))), (1, .int (0 : Int32))] dJ6_stringSize_0f7a4_15 rfl (Nat.le_of_ble_eq_true rfl) rfl ?_
    refine cx_iload_n hC dJ6_stringSize_0f7a4_16 rfl 0 rfl ?_
    refine cx_bipush hC (10 : Int32) dJ6_stringSize_0f7a4_17 (by decide) ?_
    refine cx_icmp_ge hC 42 dJ6_stringSize_0f7a4_19 (by decide) (fun h => absurd h (by decide)) (fun _ => ?_)
    refine cx_iload_n hC dJ6_stringSize_0f7a4_22 rfl 2 rfl ?_
    refine cx_iload_n hC dJ6_stringSize_0f7a4_23 rfl 1 rfl ?_
    refine cx_icmp_le hC 31 dJ6_stringSize_0f7a4_24 (by decide) (fun _ => ?_) (fun h => absurd (i_le.mpr (by rw [hng]; have z : (-10 : Int32).toInt = -10 := rfl; omega)) h)
    refine cx_bipush hC (10 : Int32) dJ6_stringSize_0f7a4_31 (by decide) ?_
    refine cx_iload_n hC dJ6_stringSize_0f7a4_33 rfl 1 rfl ?_
    refine cx_imul hC dJ6_stringSize_0f7a4_34 ?_
    refine cx_topi (y := (-100 : Int32)) (by decide) ?_
    refine cx_istore_n hC [(2, .int (-100 : Int32)), (3, .int (1 : Int32)), (0, .int (-(nI u))), (1, .int (0 : Int32))] dJ6_stringSize_0f7a4_35 rfl (Nat.le_of_ble_eq_true rfl) rfl ?_
    refine cx_iinc hC [(3, .int (2 : Int32)), (2, .int (-100 : Int32)), (0, .int (-(nI u))), (1, .int (0 : Int32))] dJ6_stringSize_0f7a4_36 1 rfl (v := (2 : Int32)) (by decide) (Nat.le_of_ble_eq_true rfl) rfl ?_
    refine cx_goto hC 16 dJ6_stringSize_0f7a4_39 (by decide) ?_
    refine cx_iload_n hC dJ6_stringSize_0f7a4_16 rfl 0 rfl ?_
    refine cx_bipush hC (10 : Int32) dJ6_stringSize_0f7a4_17 (by decide) ?_
    refine cx_icmp_ge hC 42 dJ6_stringSize_0f7a4_19 (by decide) (fun h => absurd h (by decide)) (fun _ => ?_)
    refine cx_iload_n hC dJ6_stringSize_0f7a4_22 rfl 2 rfl ?_
    refine cx_iload_n hC dJ6_stringSize_0f7a4_23 rfl 1 rfl ?_
    refine cx_icmp_le hC 31 dJ6_stringSize_0f7a4_24 (by decide) (fun h => absurd h (fun h => by have := i_le.mp h; rw [hng] at this; have z : (-100 : Int32).toInt = -100 := rfl; omega)) (fun _ => ?_)
    refine cx_iload_n hC dJ6_stringSize_0f7a4_27 rfl 0 rfl ?_
    refine cx_iload_n hC dJ6_stringSize_0f7a4_28 rfl 3 rfl ?_
    refine cx_iadd hC dJ6_stringSize_0f7a4_29 ?_
    refine cx_topi (y := (nI (dgT u).length)) (by rw [dg_2 hc]; rfl) ?_
    exact cy_iret hC (⟨rfl, rfl⟩) rfl dJ6_stringSize_0f7a4_30
theorem dJ6_getChars_ba4f3_0 : decode cJ6_getChars_ba4f3 0 = .ok (.iload_n 1, 1) := by decide +kernel
theorem dJ6_getChars_ba4f3_1 : decode cJ6_getChars_ba4f3 1 = .ok (.istore 5, 2) := by decide +kernel
theorem dJ6_getChars_ba4f3_3 : decode cJ6_getChars_ba4f3 3 = .ok (.iload_n 0, 1) := by decide +kernel
theorem dJ6_getChars_ba4f3_4 : decode cJ6_getChars_ba4f3 4 = .ok (.ifCond .ge 7, 3) := by decide +kernel
theorem dJ6_getChars_ba4f3_11 : decode cJ6_getChars_ba4f3 11 = .ok (.iconst 0, 1) := by decide +kernel
theorem dJ6_getChars_ba4f3_12 : decode cJ6_getChars_ba4f3 12 = .ok (.istore 6, 2) := by decide +kernel
theorem dJ6_getChars_ba4f3_14 : decode cJ6_getChars_ba4f3 14 = .ok (.iload 6, 2) := by decide +kernel
theorem dJ6_getChars_ba4f3_16 : decode cJ6_getChars_ba4f3 16 = .ok (.ifCond .ne 6, 3) := by decide +kernel
theorem dJ6_getChars_ba4f3_19 : decode cJ6_getChars_ba4f3 19 = .ok (.iload_n 0, 1) := by decide +kernel
theorem dJ6_getChars_ba4f3_20 : decode cJ6_getChars_ba4f3 20 = .ok (.ineg, 1) := by decide +kernel
theorem dJ6_getChars_ba4f3_21 : decode cJ6_getChars_ba4f3 21 = .ok (.istore_n 0, 1) := by decide +kernel
theorem dJ6_getChars_ba4f3_22 : decode cJ6_getChars_ba4f3 22 = .ok (.iload_n 0, 1) := by decide +kernel
theorem dJ6_getChars_ba4f3_23 : decode cJ6_getChars_ba4f3 23 = .ok (.bipush (-100), 2) := by decide +kernel
theorem dJ6_getChars_ba4f3_25 : decode cJ6_getChars_ba4f3 25 = .ok (.if_icmp .gt 47, 3) := by decide +kernel
theorem dJ6_getChars_ba4f3_72 : decode cJ6_getChars_ba4f3 72 = .ok (.aload_n 2, 1) := by decide +kernel
theorem dJ6_getChars_ba4f3_73 : decode cJ6_getChars_ba4f3 73 = .ok (.iinc 5 (-1), 3) := by decide +kernel
theorem dJ6_getChars_ba4f3_76 : decode cJ6_getChars_ba4f3 76 = .ok (.iload 5, 2) := by decide +kernel
theorem dJ6_getChars_ba4f3_78 : decode cJ6_getChars_ba4f3 78 = .ok (.getstatic 83, 3) := by decide +kernel
theorem dJ6_getChars_ba4f3_81 : decode cJ6_getChars_ba4f3 81 = .ok (.iload_n 0, 1) := by decide +kernel
theorem dJ6_getChars_ba4f3_82 : decode cJ6_getChars_ba4f3 82 = .ok (.ineg, 1) := by decide +kernel
theorem dJ6_getChars_ba4f3_83 : decode cJ6_getChars_ba4f3 83 = .ok (.baload, 1) := by decide +kernel
theorem dJ6_getChars_ba4f3_84 : decode cJ6_getChars_ba4f3 84 = .ok (.bastore, 1) := by decide +kernel
theorem dJ6_getChars_ba4f3_85 : decode cJ6_getChars_ba4f3 85 = .ok (.iload_n 0, 1) := by decide +kernel
theorem dJ6_getChars_ba4f3_86 : decode cJ6_getChars_ba4f3 86 = .ok (.bipush (-9), 2) := by decide +kernel
theorem dJ6_getChars_ba4f3_88 : decode cJ6_getChars_ba4f3 88 = .ok (.if_icmp .ge 16, 3) := by decide +kernel
theorem dJ6_getChars_ba4f3_104 : decode cJ6_getChars_ba4f3 104 = .ok (.iload 6, 2) := by decide +kernel
theorem dJ6_getChars_ba4f3_106 : decode cJ6_getChars_ba4f3 106 = .ok (.ifCond .eq 12, 3) := by decide +kernel
theorem dJ6_getChars_ba4f3_118 : decode cJ6_getChars_ba4f3 118 = .ok (.iload 5, 2) := by decide +kernel
theorem dJ6_getChars_ba4f3_120 : decode cJ6_getChars_ba4f3 120 = .ok (.ireturn, 1) := by decide +kernel
theorem dJ6_getChars_ba4f3_91 : decode cJ6_getChars_ba4f3 91 = .ok (.aload_n 2, 1) := by decide +kernel
theorem dJ6_getChars_ba4f3_92 : decode cJ6_getChars_ba4f3 92 = .ok (.iinc 5 (-1), 3) := by decide +kernel
theorem dJ6_getChars_ba4f3_95 : decode cJ6_getChars_ba4f3 95 = .ok (.iload 5, 2) := by decide +kernel
theorem dJ6_getChars_ba4f3_97 : decode cJ6_getChars_ba4f3 97 = .ok (.getstatic 87, 3) := by decide +kernel
theorem dJ6_getChars_ba4f3_100 : decode cJ6_getChars_ba4f3 100 = .ok (.iload_n 0, 1) := by decide +kernel
theorem dJ6_getChars_ba4f3_101 : decode cJ6_getChars_ba4f3 101 = .ok (.ineg, 1) := by decide +kernel
theorem dJ6_getChars_ba4f3_102 : decode cJ6_getChars_ba4f3 102 = .ok (.baload, 1) := by decide +kernel
theorem dJ6_getChars_ba4f3_103 : decode cJ6_getChars_ba4f3 103 = .ok (.bastore, 1) := by decide +kernel
theorem j_gch (l : Launch) (D : DG) (F : EF) {v cap u e0 : Nat} {f : Nat → Int32} (hm1 : u < 100) (he : (dgT u).length ≤ e0) (h1 : e0 ≤ cap) (h2 : cap ≤ 600) : Yo l yJ6_getChars_ba4f3 (WS yJ6_getChars_ba4f3 cJ6_getChars_ba4f3 7 (some .int)) (RM 1 0 0 0) 0 0 [.int (nI u), .int (nI e0), .ref v] D F [(v, .inl (D.2 1, cap, .inl (f)))] (fun o w => ∃ i, o = some (.int i) ∧ w = [(v, .inl (D.2 1, cap, .inl (gcf u e0 f)))]) := by
  refine Yo.of (cc := cJ6_getChars_ba4f3) (maxL := 7) (ret := (some .int)) (by decide) (Nat.le_of_ble_eq_true rfl) ?_
  intro p e s m args below meth c hC hE hmn
  show XC p l e (RM 1 0 0 0) s m args below meth c D _ 7 _ 0 0 [(v, .inl (D.2 1, cap, .inl (f)))] 0 [(0, .int (nI u)), (1, .int (nI e0)), (2, .ref v)] []
  by_cases hc : u < 10
  · obtain ⟨tO, hO, rO⟩ := hE.2.2.1
    obtain ⟨tT, hT, rT⟩ := hE.2.2.2.1
    have hng := neg_n u hm1
    rw [dg_1 hc] at he
    refine cx_iload_n hC dJ6_getChars_ba4f3_0 rfl 1 rfl ?_
    refine cx_istore hC [(5, .int (nI e0)), (0, .int (nI u)), (1, .int (nI e0)), (2, .ref v)] dJ6_getChars_ba4f3_1 (Nat.le_of_ble_eq_true rfl) rfl ?_
    refine cx_iload_n hC dJ6_getChars_ba4f3_3 rfl 1 rfl ?_
    refine cx_if_ge hC 11 dJ6_getChars_ba4f3_4 (by decide) (fun _ => ?_) (fun h => absurd (i_le.mpr (by rw [i_nI (by omega)]; have z : (0 : Int32).toInt = 0 := rfl; omega)) h)
    refine cx_iconst hC (0 : Int32) dJ6_getChars_ba4f3_11 (by decide) ?_
    refine cx_istore hC [(6, .int (0 : Int32)), (5, .int (nI e0)), (0, .int (nI u)), (1, .int (nI e0)), (2, .ref v)] dJ6_getChars_ba4f3_12 (Nat.le_of_ble_eq_true rfl) rfl ?_
    refine cx_iload hC dJ6_getChars_ba4f3_14 0 rfl ?_
    refine cx_if_ne hC 22 dJ6_getChars_ba4f3_16 (by decide) (fun h => absurd (rfl) h) (fun _ => ?_)
    refine cx_iload_n hC dJ6_getChars_ba4f3_19 rfl 2 rfl ?_
    refine cx_ineg hC dJ6_getChars_ba4f3_20 ?_
    refine cx_istore_n hC [(0, .int (-(nI u))), (6, .int (0 : Int32)), (5, .int (nI e0)), (1, .int (nI e0)), (2, .ref v)] dJ6_getChars_ba4f3_21 rfl (Nat.le_of_ble_eq_true rfl) rfl ?_
    refine cx_iload_n hC dJ6_getChars_ba4f3_22 rfl 0 rfl ?_
    refine cx_bipush hC (-100 : Int32) dJ6_getChars_ba4f3_23 (by decide) ?_
    refine cx_icmp_gt hC 72 dJ6_getChars_ba4f3_25 (by decide) (fun _ => ?_) (fun h => absurd (i_lt.mpr (by rw [hng]; have z : (-100 : Int32).toInt = -100 := rfl; omega)) h)
    refine cx_aload_n hC dJ6_getChars_ba4f3_72 rfl 4 rfl ?_
    refine cx_iinc hC [(5, .int (nI (e0 - 1))), (0, .int (-(nI u))), (6, .int (0 : Int32)), (1, .int (nI e0)), (2, .ref v)] dJ6_getChars_ba4f3_73 2 rfl (v := (nI (e0 - 1))) (zdec_n (by omega) (by omega)) (Nat.le_of_ble_eq_true rfl) rfl ?_
    refine cx_iload hC dJ6_getChars_ba4f3_76 0 rfl ?_
    refine cx_gets hC hO (tb_25 (List.mem_of_getElem? (i := 20) rfl) : Cond.fieldLink RJ6 83 "java/lang/Integer" "DigitOnes" "[B" ∈ TBL) dJ6_getChars_ba4f3_78 ?_
    refine cx_iload_n hC dJ6_getChars_ba4f3_81 rfl 1 rfl ?_
    refine cx_ineg hC dJ6_getChars_ba4f3_82 ?_
    refine cx_topi (y := (nI u)) (nn_n u hm1) ?_
    refine cx_tb hC (N := 100) (f := fun j => nI (48 + j % 10)) rO (by rw [i_nI (by omega)]; omega) dJ6_getChars_ba4f3_83 ?_
    refine cx_topi (y := (nI (48 + u % 10))) (by rw [ix_nI (by omega)]) ?_
    refine cx_bast hC 0 [(v, .inl (D.2 1, cap, .inl (upd (f) (e0 - 1) (nI (48 + u % 10)))))] rfl (by rw [i_nI (by omega)]; omega) (by rw [ix_nI (by omega), b8 (d7a u)]; rfl) dJ6_getChars_ba4f3_84 ?_
    refine cx_iload_n hC dJ6_getChars_ba4f3_85 rfl 1 rfl ?_
    refine cx_bipush hC (-9 : Int32) dJ6_getChars_ba4f3_86 (by decide) ?_
    refine cx_icmp_ge hC 104 dJ6_getChars_ba4f3_88 (by decide) (fun _ => ?_) (fun h => absurd (i_le.mpr (by rw [hng]; have z : (-9 : Int32).toInt = -9 := rfl; omega)) h)
    refine cx_iload hC dJ6_getChars_ba4f3_104 2 rfl ?_
    refine cx_if_eq hC 118 dJ6_getChars_ba4f3_106 (by decide) (fun _ => ?_) (fun h => absurd (rfl) h)
    refine cx_iload hC dJ6_getChars_ba4f3_118 0 rfl ?_
    exact cy_iret hC (⟨_, rfl, by unfold gcf; rw [if_pos hc]⟩) rfl dJ6_getChars_ba4f3_120
  · obtain ⟨tO, hO, rO⟩ := hE.2.2.1
    obtain ⟨tT, hT, rT⟩ := hE.2.2.2.1
    have hng := neg_n u hm1
    rw [dg_2 hc] at he
    refine cx_iload_n hC dJ6_getChars_ba4f3_0 rfl 1 rfl ?_
    refine cx_istore hC [(5, .int (nI e0)), (0, .int (nI u)), (1, .int (nI e0)), (2, .ref v)] dJ6_getChars_ba4f3_1 (Nat.le_of_ble_eq_true rfl) rfl ?_
    refine cx_iload_n hC dJ6_getChars_ba4f3_3 rfl 1 rfl ?_
    refine cx_if_ge hC 11 dJ6_getChars_ba4f3_4 (by decide) (fun _ => ?_) (fun h => absurd (i_le.mpr (by rw [i_nI (by omega)]; have z : (0 : Int32).toInt = 0 := rfl; omega)) h)
    refine cx_iconst hC (0 : Int32) dJ6_getChars_ba4f3_11 (by decide) ?_
    refine cx_istore hC [(6, .int (0 : Int32)), (5, .int (nI e0)), (0, .int (nI u)), (1, .int (nI e0)), (2, .ref v)] dJ6_getChars_ba4f3_12 (Nat.le_of_ble_eq_true rfl) rfl ?_
    refine cx_iload hC dJ6_getChars_ba4f3_14 0 rfl ?_
    refine cx_if_ne hC 22 dJ6_getChars_ba4f3_16 (by decide) (fun h => absurd (rfl) h) (fun _ => ?_)
    refine cx_iload_n hC dJ6_getChars_ba4f3_19 rfl 2 rfl ?_
    refine cx_ineg hC dJ6_getChars_ba4f3_20 ?_
    refine cx_istore_n hC [(0, .int (-(nI u))), (6, .int (0 : Int32)), (5, .int (nI e0)), (1, .int (nI e0)), (2, .ref v)] dJ6_getChars_ba4f3_21 rfl (Nat.le_of_ble_eq_true rfl) rfl ?_
    refine cx_iload_n hC dJ6_getChars_ba4f3_22 rfl 0 rfl ?_
    refine cx_bipush hC (-100 : Int32) dJ6_getChars_ba4f3_23 (by decide) ?_
    refine cx_icmp_gt hC 72 dJ6_getChars_ba4f3_25 (by decide) (fun _ => ?_) (fun h => absurd (i_lt.mpr (by rw [hng]; have z : (-100 : Int32).toInt = -100 := rfl; omega)) h)
    refine cx_aload_n hC dJ6_getChars_ba4f3_72 rfl 4 rfl ?_
    refine cx_iinc hC [(5, .int (nI (e0 - 1))), (0, .int (-(nI u))), (6, .int (0 : Int32)), (1, .int (nI e0)), (2, .ref v)] dJ6_getChars_ba4f3_73 2 rfl (v := (nI (e0 - 1))) (zdec_n (by omega) (by omega)) (Nat.le_of_ble_eq_true rfl) rfl ?_
    refine cx_iload hC dJ6_getChars_ba4f3_76 0 rfl ?_
    refine cx_gets hC hO (tb_25 (List.mem_of_getElem? (i := 20) rfl) : Cond.fieldLink RJ6 83 "java/lang/Integer" "DigitOnes" "[B" ∈ TBL) dJ6_getChars_ba4f3_78 ?_
    refine cx_iload_n hC dJ6_getChars_ba4f3_81 rfl 1 rfl ?_
    refine cx_ineg hC dJ6_getChars_ba4f3_82 ?_
    refine cx_topi (y := (nI u)) (nn_n u hm1) ?_
    refine cx_tb hC (N := 100) (f := fun j => nI (48 + j % 10)) rO (by rw [i_nI (by omega)]; omega) dJ6_getChars_ba4f3_83 ?_
    refine cx_topi (y := (nI (48 + u % 10))) (by rw [ix_nI (by omega)]) ?_
    refine cx_bast hC 0 [(v, .inl (D.2 1, cap, .inl (upd (f) (e0 - 1) (nI (48 + u % 10)))))] rfl (by rw [i_nI (by omega)]; omega) (by rw [ix_nI (by omega), b8 (d7a u)]; rfl) dJ6_getChars_ba4f3_84 ?_
    refine cx_iload_n hC dJ6_getChars_ba4f3_85 rfl 1 rfl ?_
    refine cx_bipush hC (-9 : Int32) dJ6_getChars_ba4f3_86 (by decide) ?_
    refine cx_icmp_ge hC 104 dJ6_getChars_ba4f3_88 (by decide) (fun h => absurd h (fun h => by have := i_le.mp h; rw [hng] at this; have z : (-9 : Int32).toInt = -9 := rfl; omega)) (fun _ => ?_)
    refine cx_aload_n hC dJ6_getChars_ba4f3_91 rfl 4 rfl ?_
    refine cx_iinc hC [(5, .int (nI (e0 - 2))), (0, .int (-(nI u))), (6, .int (0 : Int32)), (1, .int (nI e0)), (2, .ref v)] dJ6_getChars_ba4f3_92 0 rfl (v := (nI (e0 - 2))) ((zdec_n (e := e0 - 1) (by omega) (by omega)).trans (by rw [show e0 - 1 - 1 = e0 - 2 by omega])) (Nat.le_of_ble_eq_true rfl) rfl ?_
    refine cx_iload hC dJ6_getChars_ba4f3_95 0 rfl ?_
    refine cx_gets hC hT (tb_25 (List.mem_of_getElem? (i := 21) rfl) : Cond.fieldLink RJ6 87 "java/lang/Integer" "DigitTens" "[B" ∈ TBL) dJ6_getChars_ba4f3_97 ?_
    refine cx_iload_n hC dJ6_getChars_ba4f3_100 rfl 1 rfl ?_
    refine cx_ineg hC dJ6_getChars_ba4f3_101 ?_
    refine cx_topi (y := (nI u)) (nn_n u hm1) ?_
    refine cx_tb hC (N := 100) (f := fun j => nI (48 + j / 10)) rT (by rw [i_nI (by omega)]; omega) dJ6_getChars_ba4f3_102 ?_
    refine cx_topi (y := (nI (48 + u / 10))) (by rw [ix_nI (by omega)]) ?_
    refine cx_bast hC 0 [(v, .inl (D.2 1, cap, .inl (upd (upd (f) (e0 - 1) (nI (48 + u % 10))) (e0 - 2) (nI (48 + u / 10)))))] rfl (by rw [i_nI (by omega)]; omega) (by rw [ix_nI (by omega), b8 (d7b hm1)]; rfl) dJ6_getChars_ba4f3_103 ?_
    refine cx_iload hC dJ6_getChars_ba4f3_104 2 rfl ?_
    refine cx_if_eq hC 118 dJ6_getChars_ba4f3_106 (by decide) (fun _ => ?_) (fun h => absurd (rfl) h)
    refine cx_iload hC dJ6_getChars_ba4f3_118 0 rfl ?_
    exact cy_iret hC (⟨_, rfl, by unfold gcf; rw [if_neg hc]⟩) rfl dJ6_getChars_ba4f3_120
theorem dJ5_append_c97b9_0 : decode cJ5_append_c97b9 0 = .ok (.aload_n 0, 1) := by decide +kernel
theorem dJ5_append_c97b9_1 : decode cJ5_append_c97b9 1 = .ok (.getfield 79, 3) := by decide +kernel
theorem dJ5_append_c97b9_4 : decode cJ5_append_c97b9 4 = .ok (.istore_n 2, 1) := by decide +kernel
theorem dJ5_append_c97b9_5 : decode cJ5_append_c97b9 5 = .ok (.iload_n 2, 1) := by decide +kernel
theorem dJ5_append_c97b9_6 : decode cJ5_append_c97b9 6 = .ok (.iload_n 1, 1) := by decide +kernel
theorem dJ5_append_c97b9_7 : decode cJ5_append_c97b9 7 = .ok (.invokestatic 245, 3) := by decide +kernel
theorem dJ5_append_c97b9_10 : decode cJ5_append_c97b9 10 = .ok (.iadd, 1) := by decide +kernel
theorem dJ5_append_c97b9_11 : decode cJ5_append_c97b9 11 = .ok (.istore_n 3, 1) := by decide +kernel
theorem dJ5_append_c97b9_12 : decode cJ5_append_c97b9 12 = .ok (.aload_n 0, 1) := by decide +kernel
theorem dJ5_append_c97b9_13 : decode cJ5_append_c97b9 13 = .ok (.iload_n 3, 1) := by decide +kernel
theorem dJ5_append_c97b9_14 : decode cJ5_append_c97b9 14 = .ok (.invokevirtual 100, 3) := by decide +kernel
theorem dJ5_append_c97b9_17 : decode cJ5_append_c97b9 17 = .ok (.aload_n 0, 1) := by decide +kernel
theorem dJ5_append_c97b9_18 : decode cJ5_append_c97b9 18 = .ok (.invokevirtual 83, 3) := by decide +kernel
theorem dJ5_append_c97b9_21 : decode cJ5_append_c97b9 21 = .ok (.ifCond .eq 16, 3) := by decide +kernel
theorem dJ5_append_c97b9_24 : decode cJ5_append_c97b9 24 = .ok (.iload_n 1, 1) := by decide +kernel
theorem dJ5_append_c97b9_25 : decode cJ5_append_c97b9 25 = .ok (.iload_n 3, 1) := by decide +kernel
theorem dJ5_append_c97b9_26 : decode cJ5_append_c97b9 26 = .ok (.aload_n 0, 1) := by decide +kernel
theorem dJ5_append_c97b9_27 : decode cJ5_append_c97b9 27 = .ok (.getfield 15, 3) := by decide +kernel
theorem dJ5_append_c97b9_30 : decode cJ5_append_c97b9 30 = .ok (.invokestatic 248, 3) := by decide +kernel
theorem dJ5_append_c97b9_33 : decode cJ5_append_c97b9 33 = .ok (.pop, 1) := by decide +kernel
theorem dJ5_append_c97b9_34 : decode cJ5_append_c97b9 34 = .ok (.goto 14, 3) := by decide +kernel
theorem dJ5_append_c97b9_48 : decode cJ5_append_c97b9 48 = .ok (.aload_n 0, 1) := by decide +kernel
theorem dJ5_append_c97b9_49 : decode cJ5_append_c97b9 49 = .ok (.iload_n 3, 1) := by decide +kernel
theorem dJ5_append_c97b9_50 : decode cJ5_append_c97b9 50 = .ok (.putfield 79, 3) := by decide +kernel
theorem dJ5_append_c97b9_53 : decode cJ5_append_c97b9 53 = .ok (.aload_n 0, 1) := by decide +kernel
theorem dJ5_append_c97b9_54 : decode cJ5_append_c97b9 54 = .ok (.areturn, 1) := by decide +kernel
theorem j_ai5 (l : Launch) (D : DG) (F : EF) {b v cap : Nat} {f : Nat → Int32} {Ls : List Int32} {u : Nat} (hm1 : u < 100) (hI : SBI Ls cap f) (hn : (Ls ++ dgT u).length ≤ 300) : Yo l yJ5_append_c97b9 (WS yJ5_append_c97b9 cJ5_append_c97b9 4 (some (.object "java/lang/AbstractStringBuilder"))) (RM 4 1 600 84) 1 600 [.ref b, .int (nI u)] D F [(b, .inr (5, [.ref v, .int 0, .int 0, .int (nI (Ls.length))])), (v, .inl (D.2 1, cap, .inl (f)))] (fun o w => o = some (.ref b) ∧ ∃ v' cap' f', w = [(b, .inr (5, [.ref v', .int 0, .int 0, .int (nI ((Ls ++ dgT u).length))])), (v', .inl (D.2 1, cap', .inl (f')))] ∧ SBI (Ls ++ dgT u) cap' f') := by
  refine Yo.of (cc := cJ5_append_c97b9) (maxL := 4) (ret := (some (.object "java/lang/AbstractStringBuilder"))) (by decide) (Nat.le_of_ble_eq_true rfl) ?_
  intro p e s m args below meth c hC hE hmn
  show XC p l e (RM 4 1 600 84) s m args below meth c D _ 4 _ 0 0 [(b, .inr (5, [.ref v, .int 0, .int 0, .int (nI (Ls.length))])), (v, .inl (D.2 1, cap, .inl (f)))] 0 [(0, .ref b), (1, .int (nI u))] []
  refine cx_aload_n hC dJ5_append_c97b9_0 rfl 0 rfl ?_
  refine cx_getA hC 0 3 (C := RJ4) (T := TJ4) (N := 4) (v := .int (nI (Ls.length))) fw_5 rfl rfl (Nat.le_of_ble_eq_true rfl) (tb_22 (List.mem_of_getElem? (i := 29) rfl) : Cond.fieldLink RJ5 79 "java/lang/AbstractStringBuilder" "count" "I" ∈ TBL) rfl dJ5_append_c97b9_1 ?_
  refine cx_istore_n hC [(2, .int (nI (Ls.length))), (0, .ref b), (1, .int (nI u))] dJ5_append_c97b9_4 rfl (Nat.le_of_ble_eq_true rfl) rfl ?_
  refine cx_iload_n hC dJ5_append_c97b9_5 rfl 0 rfl ?_
  refine cx_iload_n hC dJ5_append_c97b9_6 rfl 2 rfl ?_
  refine cy_callS hC (y := yJ6_stringSize_0f7a4) (cy := cJ6_stringSize_0f7a4) (maxL := 4) (nA := 1) (r := (some .int)) (rm := (RM 1 0 0 0)) (mc := 0) (ms := 0) (As := [.int (nI u)]) (wr := [(b, .inr (5, [.ref v, .int 0, .int 0, .int (nI (Ls.length))])), (v, .inl (D.2 1, cap, .inl (f)))]) (j_ssz l D F hm1) [] [0, 1] rfl rfl rfl rfl (by decide) (ef_sub hC hE [] rfl) kc_yJ6_stringSize_0f7a4 km_J5_245 kt_yJ6_stringSize_0f7a4 kn_RJ6 ky_yJ6_stringSize_0f7a4 rfl ⟨rfl, rfl⟩ ⟨Nat.le_of_ble_eq_true rfl, Nat.le_of_ble_eq_true rfl⟩ rfl (Nat.le_of_ble_eq_true rfl) ⟨Nat.le_of_ble_eq_true rfl, Nat.le_of_ble_eq_true rfl⟩ dJ5_append_c97b9_7 (fun o w1 h => ?_)
  obtain ⟨rfl, rfl⟩ := h
  refine cx_at (ws' := [(b, .inr (5, [.ref v, .int 0, .int 0, .int (nI (Ls.length))])), (v, .inl (D.2 1, cap, .inl (f)))]) (st' := [.int (nI (dgT u).length), .int (nI (Ls.length))]) rfl rfl ?_
  refine cx_iadd hC dJ5_append_c97b9_10 ?_
  refine cx_topi (y := (nI ((Ls ++ dgT u).length))) (by rw [List.length_append]; exact (n_add _ _).symm) ?_
  refine cx_istore_n hC [(3, .int (nI ((Ls ++ dgT u).length))), (2, .int (nI (Ls.length))), (0, .ref b), (1, .int (nI u))] dJ5_append_c97b9_11 rfl (Nat.le_of_ble_eq_true rfl) rfl ?_
  refine cx_aload_n hC dJ5_append_c97b9_12 rfl 2 rfl ?_
  refine cx_iload_n hC dJ5_append_c97b9_13 rfl 0 rfl ?_
  refine cy_callV hC (E := RJ4) (y := yJ5_ensureCapacityInternal_d00df) (cy := cJ5_ensureCapacityInternal_d00df) (maxL := 3) (nA := 1) (r := none) (rm := (RM 3 1 600 62)) (mc := 1) (ms := 600) (As := [.int (nI ((Ls ++ dgT u).length))]) (wr := []) (j_ens l D F (mn := (Ls ++ dgT u).length) hI hn) [0, 1] [] rfl rfl rfl rfl (by decide) (rc_sb hC (q0 := 0) rfl) (ef_sub hC hE [0, 1] rfl) kc_yJ5_ensureCapacityInternal_d00df km_J5_100 ki_yJ5_ensureCapacityInternal_d00df (xtb (List.mem_of_getElem? (i := 0) rfl) : Cond.selects RJ4 yJ5_ensureCapacityInternal_d00df yJ5_ensureCapacityInternal_d00df ∈ TBL) kn_RJ5 ky_yJ5_ensureCapacityInternal_d00df rfl ⟨rfl, rfl⟩ ⟨Nat.le_of_ble_eq_true rfl, Nat.le_of_ble_eq_true rfl⟩ rfl (Nat.le_of_ble_eq_true rfl) ⟨Nat.le_of_ble_eq_true rfl, Nat.le_of_ble_eq_true rfl⟩ dJ5_append_c97b9_14 (fun o w1 h => ?_)
  obtain ⟨rfl, v1, c1, f1, rfl, hI1, hc1⟩ := h
  refine cx_at (ws' := [(b, .inr (5, [.ref v1, .int 0, .int 0, .int (nI (Ls.length))])), (v1, .inl (D.2 1, c1, .inl (f1)))]) (st' := []) rfl rfl ?_
  refine cx_aload_n hC dJ5_append_c97b9_17 rfl 2 rfl ?_
  refine cy_callV hC (E := RJ4) (y := yJ5_isLatin1_aae02) (cy := cJ5_isLatin1_aae02) (maxL := 1) (nA := 0) (r := (some .boolean)) (rm := (RM 1 0 0 0)) (mc := 0) (ms := 0) (As := []) (wr := [(v1, .inl (D.2 1, c1, .inl (f1)))]) (j_isLb l D F) [0] [1] rfl rfl rfl rfl (by decide) (rc_sb hC (q0 := 0) rfl) (ef_sub hC hE [0] rfl) kc_yJ5_isLatin1_aae02 km_J5_83 ki_yJ5_isLatin1_aae02 (tb_23 (List.mem_of_getElem? (i := 38) rfl) : Cond.selects RJ4 yJ5_isLatin1_aae02 yJ5_isLatin1_aae02 ∈ TBL) kn_RJ5 ky_yJ5_isLatin1_aae02 rfl ⟨rfl, rfl⟩ ⟨Nat.le_of_ble_eq_true rfl, Nat.le_of_ble_eq_true rfl⟩ rfl (Nat.le_of_ble_eq_true rfl) ⟨Nat.le_of_ble_eq_true rfl, Nat.le_of_ble_eq_true rfl⟩ dJ5_append_c97b9_18 (fun o w1 h => ?_)
  obtain ⟨rfl, rfl⟩ := h
  refine cx_at (ws' := [(v1, .inl (D.2 1, c1, .inl (f1))), (b, .inr (5, [.ref v1, .int 0, .int 0, .int (nI (Ls.length))]))]) (st' := [.int 1]) rfl rfl ?_
  refine cx_if_eq hC 37 dJ5_append_c97b9_21 (by decide) (fun h => absurd h (by decide)) (fun _ => ?_)
  refine cx_iload_n hC dJ5_append_c97b9_24 rfl 3 rfl ?_
  refine cx_iload_n hC dJ5_append_c97b9_25 rfl 0 rfl ?_
  refine cx_aload_n hC dJ5_append_c97b9_26 rfl 2 rfl ?_
  refine cx_getA hC 1 0 (C := RJ4) (T := TJ4) (N := 4) (v := .ref v1) fw_5 rfl rfl (Nat.le_of_ble_eq_true rfl) (tb_22 (List.mem_of_getElem? (i := 26) rfl) : Cond.fieldLink RJ5 15 "java/lang/AbstractStringBuilder" "value" "[B" ∈ TBL) rfl dJ5_append_c97b9_27 ?_
  refine cy_callS hC (y := yJ6_getChars_ba4f3) (cy := cJ6_getChars_ba4f3) (maxL := 7) (nA := 3) (r := (some .int)) (rm := (RM 1 0 0 0)) (mc := 0) (ms := 0) (As := [.int (nI u), .int (nI ((Ls ++ dgT u).length)), .ref v1]) (wr := [(b, .inr (5, [.ref v1, .int 0, .int 0, .int (nI (Ls.length))]))]) (j_gch l D F (e0 := (Ls ++ dgT u).length) hm1 (by rw [List.length_append]; omega) hc1 hI1.2.1) [0] [1] rfl rfl rfl rfl (by decide) (ef_sub hC hE [0] rfl) kc_yJ6_getChars_ba4f3 km_J5_248 kt_yJ6_getChars_ba4f3 kn_RJ6 ky_yJ6_getChars_ba4f3 rfl ⟨rfl, rfl⟩ ⟨Nat.le_of_ble_eq_true rfl, Nat.le_of_ble_eq_true rfl⟩ rfl (Nat.le_of_ble_eq_true rfl) ⟨Nat.le_of_ble_eq_true rfl, Nat.le_of_ble_eq_true rfl⟩ dJ5_append_c97b9_30 (fun o w1 h => ?_)
  obtain ⟨i9, rfl, rfl⟩ := h
  refine cx_at (ws' := [(b, .inr (5, [.ref v1, .int 0, .int 0, .int (nI (Ls.length))])), (v1, .inl (D.2 1, c1, .inl (gcf u (Ls ++ dgT u).length (f1))))]) (st' := [.int i9]) rfl rfl ?_
  refine cx_pop hC dJ5_append_c97b9_33 rfl ?_
  refine cx_goto hC 48 dJ5_append_c97b9_34 (by decide) ?_
  refine cx_aload_n hC dJ5_append_c97b9_48 rfl 2 rfl ?_
  refine cx_iload_n hC dJ5_append_c97b9_49 rfl 0 rfl ?_
  refine cx_putA hC 0 3 (C := RJ4) (T := TJ4) (N := 4) [(b, .inr (5, [.ref v1, .int 0, .int 0, .int (nI ((Ls ++ dgT u).length))])), (v1, .inl (D.2 1, c1, .inl (gcf u (Ls ++ dgT u).length (f1))))] fw_5 tyJ4_ok nmJ4 rfl rfl (Nat.le_of_ble_eq_true rfl) (tb_22 (List.mem_of_getElem? (i := 29) rfl) : Cond.fieldLink RJ5 79 "java/lang/AbstractStringBuilder" "count" "I" ∈ TBL) rfl rfl rfl rfl (Nat.le_of_ble_eq_true rfl) rfl dJ5_append_c97b9_50 ?_
  refine cx_keep (ws' := [(b, .inr (5, [.ref v1, .int 0, .int 0, .int (nI ((Ls ++ dgT u).length))])), (v1, .inl (D.2 1, c1, .inl (gcf u (Ls ++ dgT u).length (f1))))]) [0, 1] rfl rfl ?_
  refine cx_aload_n hC dJ5_append_c97b9_53 rfl 2 rfl ?_
  exact cy_aret hC (⟨rfl, v1, c1, _, rfl, hI1.int hm1 hc1⟩) rfl (Or.inl ⟨_, rfl⟩) dJ5_append_c97b9_54
theorem dJ4_append_bf812_0 : decode cJ4_append_bf812 0 = .ok (.aload_n 0, 1) := by decide +kernel
theorem dJ4_append_bf812_1 : decode cJ4_append_bf812 1 = .ok (.iload_n 1, 1) := by decide +kernel
theorem dJ4_append_bf812_2 : decode cJ4_append_bf812 2 = .ok (.invokespecial 53, 3) := by decide +kernel
theorem dJ4_append_bf812_5 : decode cJ4_append_bf812 5 = .ok (.pop, 1) := by decide +kernel
theorem dJ4_append_bf812_6 : decode cJ4_append_bf812 6 = .ok (.aload_n 0, 1) := by decide +kernel
theorem dJ4_append_bf812_7 : decode cJ4_append_bf812 7 = .ok (.areturn, 1) := by decide +kernel
theorem j_apI (l : Launch) (D : DG) (F : EF) {b v cap : Nat} {f : Nat → Int32} {Ls : List Int32} {u : Nat} (hm1 : u < 100) (hI : SBI Ls cap f) (hn : (Ls ++ dgT u).length ≤ 300) : Yo l yJ4_append_bf812 (WS yJ4_append_bf812 cJ4_append_bf812 2 (some (.object "java/lang/StringBuilder"))) (RM 5 1 600 107) 1 600 [.ref b, .int (nI u)] D F [(b, .inr (5, [.ref v, .int 0, .int 0, .int (nI (Ls.length))])), (v, .inl (D.2 1, cap, .inl (f)))] (fun o w => o = some (.ref b) ∧ ∃ v' cap' f', w = [(b, .inr (5, [.ref v', .int 0, .int 0, .int (nI ((Ls ++ dgT u).length))])), (v', .inl (D.2 1, cap', .inl (f')))] ∧ SBI (Ls ++ dgT u) cap' f') := by
  refine Yo.of (cc := cJ4_append_bf812) (maxL := 2) (ret := (some (.object "java/lang/StringBuilder"))) (by decide) (Nat.le_of_ble_eq_true rfl) ?_
  intro p e s m args below meth c hC hE hmn
  show XC p l e (RM 5 1 600 107) s m args below meth c D _ 2 _ 0 0 [(b, .inr (5, [.ref v, .int 0, .int 0, .int (nI (Ls.length))])), (v, .inl (D.2 1, cap, .inl (f)))] 0 [(0, .ref b), (1, .int (nI u))] []
  refine cx_aload_n hC dJ4_append_bf812_0 rfl 0 rfl ?_
  refine cx_iload_n hC dJ4_append_bf812_1 rfl 1 rfl ?_
  refine cy_callSU hC (ci := 5) (C := RJ4) (T := TJ4) (N := 4) (y := yJ5_append_c97b9) (cy := cJ5_append_c97b9) (maxL := 4) (nA := 1) (r := (some (.object "java/lang/AbstractStringBuilder"))) (rm := (RM 4 1 600 84)) (mc := 1) (ms := 600) (As := [.int (nI u)]) (wr := []) (j_ai5 l D F hm1 hI hn) [0, 1] [] rfl rfl rfl rfl (by decide) rfl (rc_sb hC (q0 := 0) rfl) (ef_sub hC hE [0, 1] rfl) kc_yJ5_append_c97b9 km_J4_53 (tb_27 (List.mem_of_getElem? (i := 15) rfl) : Cond.sameMethod yJ5_append_c97b9.cls yJ5_append_c97b9.cls yJ5_append_c97b9.name yJ5_append_c97b9.desc ∈ TBL) (tb_22 (List.mem_of_getElem? (i := 38) rfl) : Cond.superclass RJ4 RJ5 ∈ TBL) ki_yJ5_append_c97b9 kn_RJ5 (by decide +kernel) rfl ⟨rfl, rfl⟩ ⟨Nat.le_of_ble_eq_true rfl, Nat.le_of_ble_eq_true rfl⟩ rfl (Nat.le_of_ble_eq_true rfl) ⟨Nat.le_of_ble_eq_true rfl, Nat.le_of_ble_eq_true rfl⟩ dJ4_append_bf812_2 (fun o w1 h => ?_)
  obtain ⟨rfl, v1, c1, f1, rfl, hI1⟩ := h
  refine cx_at (ws' := [(b, .inr (5, [.ref v1, .int 0, .int 0, .int (nI ((Ls ++ dgT u).length))])), (v1, .inl (D.2 1, c1, .inl (f1)))]) (st' := [.ref b]) rfl rfl ?_
  refine cx_pop hC dJ4_append_bf812_5 rfl ?_
  refine cx_aload_n hC dJ4_append_bf812_6 rfl 0 rfl ?_
  exact cy_aret hC (⟨rfl, v1, c1, f1, rfl, hI1⟩) rfl (Or.inl ⟨_, rfl⟩) dJ4_append_bf812_7
theorem dJ5_getValue_6d5f1_0 : decode cJ5_getValue_6d5f1 0 = .ok (.aload_n 0, 1) := by decide +kernel
theorem dJ5_getValue_6d5f1_1 : decode cJ5_getValue_6d5f1 1 = .ok (.getfield 15, 3) := by decide +kernel
theorem dJ5_getValue_6d5f1_4 : decode cJ5_getValue_6d5f1 4 = .ok (.areturn, 1) := by decide +kernel
theorem j_getV (l : Launch) (D : DG) (F : EF) {b v cnt : Nat} : Yo l yJ5_getValue_6d5f1 (WS yJ5_getValue_6d5f1 cJ5_getValue_6d5f1 1 (some (.array .byte))) (RM 1 0 0 0) 0 0 [.ref b] D F [(b, .inr (5, [.ref v, .int 0, .int 0, .int (nI (cnt))]))] (fun o w => o = some (.ref v) ∧ w = [(b, .inr (5, [.ref v, .int 0, .int 0, .int (nI (cnt))]))]) := by
  refine Yo.of (cc := cJ5_getValue_6d5f1) (maxL := 1) (ret := (some (.array .byte))) (by decide) (Nat.le_of_ble_eq_true rfl) ?_
  intro p e s m args below meth c hC hE hmn
  show XC p l e (RM 1 0 0 0) s m args below meth c D _ 1 _ 0 0 [(b, .inr (5, [.ref v, .int 0, .int 0, .int (nI (cnt))]))] 0 [(0, .ref b)] []
  refine cx_aload_n hC dJ5_getValue_6d5f1_0 rfl 0 rfl ?_
  refine cx_getA hC 0 0 (C := RJ4) (T := TJ4) (N := 4) (v := .ref v) fw_5 rfl rfl (Nat.le_of_ble_eq_true rfl) (tb_22 (List.mem_of_getElem? (i := 26) rfl) : Cond.fieldLink RJ5 15 "java/lang/AbstractStringBuilder" "value" "[B" ∈ TBL) rfl dJ5_getValue_6d5f1_1 ?_
  exact cy_aret hC (⟨rfl, rfl⟩) rfl (Or.inr ⟨_, rfl⟩) dJ5_getValue_6d5f1_4
theorem dJ5_length_8abf5_0 : decode cJ5_length_8abf5 0 = .ok (.aload_n 0, 1) := by decide +kernel
theorem dJ5_length_8abf5_1 : decode cJ5_length_8abf5 1 = .ok (.getfield 79, 3) := by decide +kernel
theorem dJ5_length_8abf5_4 : decode cJ5_length_8abf5 4 = .ok (.ireturn, 1) := by decide +kernel
theorem j_len5 (l : Launch) (D : DG) (F : EF) {b v cnt : Nat} : Yo l yJ5_length_8abf5 (WS yJ5_length_8abf5 cJ5_length_8abf5 1 (some .int)) (RM 1 0 0 0) 0 0 [.ref b] D F [(b, .inr (5, [.ref v, .int 0, .int 0, .int (nI (cnt))]))] (fun o w => o = some (.int (nI (cnt))) ∧ w = [(b, .inr (5, [.ref v, .int 0, .int 0, .int (nI (cnt))]))]) := by
  refine Yo.of (cc := cJ5_length_8abf5) (maxL := 1) (ret := (some .int)) (by decide) (Nat.le_of_ble_eq_true rfl) ?_
  intro p e s m args below meth c hC hE hmn
  show XC p l e (RM 1 0 0 0) s m args below meth c D _ 1 _ 0 0 [(b, .inr (5, [.ref v, .int 0, .int 0, .int (nI (cnt))]))] 0 [(0, .ref b)] []
  refine cx_aload_n hC dJ5_length_8abf5_0 rfl 0 rfl ?_
  refine cx_getA hC 0 3 (C := RJ4) (T := TJ4) (N := 4) (v := .int (nI (cnt))) fw_5 rfl rfl (Nat.le_of_ble_eq_true rfl) (tb_22 (List.mem_of_getElem? (i := 29) rfl) : Cond.fieldLink RJ5 79 "java/lang/AbstractStringBuilder" "count" "I" ∈ TBL) rfl dJ5_length_8abf5_1 ?_
  exact cy_iret hC (⟨rfl, rfl⟩) rfl dJ5_length_8abf5_4
theorem dJ4_length_8abf5_0 : decode cJ4_length_8abf5 0 = .ok (.aload_n 0, 1) := by decide +kernel
theorem dJ4_length_8abf5_1 : decode cJ4_length_8abf5 1 = .ok (.invokespecial 343, 3) := by decide +kernel
theorem dJ4_length_8abf5_4 : decode cJ4_length_8abf5 4 = .ok (.ireturn, 1) := by decide +kernel
theorem j_lenB (l : Launch) (D : DG) (F : EF) {b v cnt : Nat} : Yo l yJ4_length_8abf5 (WS yJ4_length_8abf5 cJ4_length_8abf5 1 (some .int)) (RM 2 0 0 20) 0 0 [.ref b] D F [(b, .inr (5, [.ref v, .int 0, .int 0, .int (nI (cnt))]))] (fun o w => o = some (.int (nI (cnt))) ∧ w = [(b, .inr (5, [.ref v, .int 0, .int 0, .int (nI (cnt))]))]) := by
  refine Yo.of (cc := cJ4_length_8abf5) (maxL := 1) (ret := (some .int)) (by decide) (Nat.le_of_ble_eq_true rfl) ?_
  intro p e s m args below meth c hC hE hmn
  show XC p l e (RM 2 0 0 20) s m args below meth c D _ 1 _ 0 0 [(b, .inr (5, [.ref v, .int 0, .int 0, .int (nI (cnt))]))] 0 [(0, .ref b)] []
  refine cx_aload_n hC dJ4_length_8abf5_0 rfl 0 rfl ?_
  refine cy_callSU hC (ci := 5) (C := RJ4) (T := TJ4) (N := 4) (y := yJ5_length_8abf5) (cy := cJ5_length_8abf5) (maxL := 1) (nA := 0) (r := (some .int)) (rm := (RM 1 0 0 0)) (mc := 0) (ms := 0) (As := []) (wr := []) (j_len5 l D F) [0] [] rfl rfl rfl rfl (by decide) rfl (rc_sb hC (q0 := 0) rfl) (ef_sub hC hE [0] rfl) kc_yJ5_length_8abf5 km_J4_343 (tb_26 (List.mem_of_getElem? (i := 10) rfl) : Cond.sameMethod yJ5_length_8abf5.cls yJ5_length_8abf5.cls yJ5_length_8abf5.name yJ5_length_8abf5.desc ∈ TBL) (tb_22 (List.mem_of_getElem? (i := 38) rfl) : Cond.superclass RJ4 RJ5 ∈ TBL) ki_yJ5_length_8abf5 kn_RJ5 (by decide +kernel) rfl ⟨rfl, rfl⟩ ⟨Nat.le_of_ble_eq_true rfl, Nat.le_of_ble_eq_true rfl⟩ rfl (Nat.le_of_ble_eq_true rfl) ⟨Nat.le_of_ble_eq_true rfl, Nat.le_of_ble_eq_true rfl⟩ dJ4_length_8abf5_1 (fun o w1 h => ?_)
  obtain ⟨rfl, rfl⟩ := h
  refine cx_at (ws' := [(b, .inr (5, [.ref v, .int 0, .int 0, .int (nI (cnt))]))]) (st' := [.int (nI (cnt))]) rfl rfl ?_
  exact cy_iret hC (⟨rfl, rfl⟩) rfl dJ4_length_8abf5_4
theorem dJ7_copyOfRangeByte_39247_0 : decode cJ7_copyOfRangeByte_39247 0 = .ok (.iload_n 1, 1) := by decide +kernel
theorem dJ7_copyOfRangeByte_39247_1 : decode cJ7_copyOfRangeByte_39247 1 = .ok (.iload_n 2, 1) := by decide +kernel
theorem dJ7_copyOfRangeByte_39247_2 : decode cJ7_copyOfRangeByte_39247 2 = .ok (.invokestatic 343, 3) := by decide +kernel
theorem dJ7_copyOfRangeByte_39247_5 : decode cJ7_copyOfRangeByte_39247 5 = .ok (.iload_n 2, 1) := by decide +kernel
theorem dJ7_copyOfRangeByte_39247_6 : decode cJ7_copyOfRangeByte_39247 6 = .ok (.iload_n 1, 1) := by decide +kernel
theorem dJ7_copyOfRangeByte_39247_7 : decode cJ7_copyOfRangeByte_39247 7 = .ok (.isub, 1) := by decide +kernel
theorem dJ7_copyOfRangeByte_39247_8 : decode cJ7_copyOfRangeByte_39247 8 = .ok (.istore_n 3, 1) := by decide +kernel
theorem dJ7_copyOfRangeByte_39247_9 : decode cJ7_copyOfRangeByte_39247 9 = .ok (.iload_n 3, 1) := by decide +kernel
theorem dJ7_copyOfRangeByte_39247_10 : decode cJ7_copyOfRangeByte_39247 10 = .ok (.newarray .byte, 2) := by decide +kernel
theorem dJ7_copyOfRangeByte_39247_12 : decode cJ7_copyOfRangeByte_39247 12 = .ok (.astore 4, 2) := by decide +kernel
theorem dJ7_copyOfRangeByte_39247_14 : decode cJ7_copyOfRangeByte_39247 14 = .ok (.aload_n 0, 1) := by decide +kernel
theorem dJ7_copyOfRangeByte_39247_15 : decode cJ7_copyOfRangeByte_39247 15 = .ok (.iload_n 1, 1) := by decide +kernel
theorem dJ7_copyOfRangeByte_39247_16 : decode cJ7_copyOfRangeByte_39247 16 = .ok (.aload 4, 2) := by decide +kernel
theorem dJ7_copyOfRangeByte_39247_18 : decode cJ7_copyOfRangeByte_39247 18 = .ok (.iconst 0, 1) := by decide +kernel
theorem dJ7_copyOfRangeByte_39247_19 : decode cJ7_copyOfRangeByte_39247 19 = .ok (.aload_n 0, 1) := by decide +kernel
theorem dJ7_copyOfRangeByte_39247_20 : decode cJ7_copyOfRangeByte_39247 20 = .ok (.arraylength, 1) := by decide +kernel
theorem dJ7_copyOfRangeByte_39247_21 : decode cJ7_copyOfRangeByte_39247 21 = .ok (.iload_n 1, 1) := by decide +kernel
theorem dJ7_copyOfRangeByte_39247_22 : decode cJ7_copyOfRangeByte_39247 22 = .ok (.isub, 1) := by decide +kernel
theorem dJ7_copyOfRangeByte_39247_23 : decode cJ7_copyOfRangeByte_39247 23 = .ok (.iload_n 3, 1) := by decide +kernel
theorem dJ7_copyOfRangeByte_39247_24 : decode cJ7_copyOfRangeByte_39247 24 = .ok (.invokestatic 304, 3) := by decide +kernel
theorem dJ7_copyOfRangeByte_39247_27 : decode cJ7_copyOfRangeByte_39247 27 = .ok (.invokestatic 150, 3) := by decide +kernel
theorem dJ7_copyOfRangeByte_39247_30 : decode cJ7_copyOfRangeByte_39247 30 = .ok (.aload 4, 2) := by decide +kernel
theorem dJ7_copyOfRangeByte_39247_32 : decode cJ7_copyOfRangeByte_39247 32 = .ok (.areturn, 1) := by decide +kernel
theorem j_crb (l : Launch) (D : DG) (F : EF) {v cap n0 : Nat} {f : Nat → Int32} (h1 : n0 ≤ cap) (h2 : cap ≤ 600) (hf : ∀ k, b7 (f k)) : Yo l yJ7_copyOfRangeByte_39247 (WS yJ7_copyOfRangeByte_39247 cJ7_copyOfRangeByte_39247 5 (some (.array .byte))) (RM 2 1 600 40) 1 600 [.ref v, .int (0 : Int32), .int (nI n0)] D F [(v, .inl (D.2 1, cap, .inl (f)))] (fun o w => ∃ q N g, o = some (.ref q) ∧ w = [(v, .inl (D.2 1, cap, .inl (f))), (q, .inl (D.2 1, N, .inl (g)))] ∧ N = n0 ∧ ∀ k, k < n0 → g k = f k) := by
  refine Yo.of (cc := cJ7_copyOfRangeByte_39247) (maxL := 5) (ret := (some (.array .byte))) (by decide) (Nat.le_of_ble_eq_true rfl) ?_
  intro p e s m args below meth c hC hE hmn
  show XC p l e (RM 2 1 600 40) s m args below meth c D _ 5 _ 0 0 [(v, .inl (D.2 1, cap, .inl (f)))] 0 [(0, .ref v), (1, .int (0 : Int32)), (2, .int (nI n0))] []
  refine cx_iload_n hC dJ7_copyOfRangeByte_39247_0 rfl 1 rfl ?_
  refine cx_iload_n hC dJ7_copyOfRangeByte_39247_1 rfl 2 rfl ?_
  refine cy_callS hC (y := yJ7_checkLength_df160) (cy := cJ7_checkLength_df160) (maxL := 2) (nA := 2) (r := none) (rm := (RM 1 0 0 0)) (mc := 0) (ms := 0) (As := [.int (0 : Int32), .int (nI n0)]) (wr := [(v, .inl (D.2 1, cap, .inl (f)))]) (j_ckL l D F (i := 0) (n := n0) (Nat.zero_le _) (by omega)) [] [0] rfl rfl rfl rfl (by decide) (ef_sub hC hE [] rfl) kc_yJ7_checkLength_df160 km_J7_343 kt_yJ7_checkLength_df160 kn_RJ7 ky_yJ7_checkLength_df160 rfl ⟨rfl, rfl⟩ ⟨Nat.le_of_ble_eq_true rfl, Nat.le_of_ble_eq_true rfl⟩ rfl (Nat.le_of_ble_eq_true rfl) ⟨Nat.le_of_ble_eq_true rfl, Nat.le_of_ble_eq_true rfl⟩ dJ7_copyOfRangeByte_39247_2 (fun o w1 h => ?_)
  obtain ⟨rfl, rfl⟩ := h
  refine cx_at (ws' := [(v, .inl (D.2 1, cap, .inl (f)))]) (st' := []) rfl rfl ?_
  refine cx_iload_n hC dJ7_copyOfRangeByte_39247_5 rfl 2 rfl ?_
  refine cx_iload_n hC dJ7_copyOfRangeByte_39247_6 rfl 1 rfl ?_
  refine cx_isub hC dJ7_copyOfRangeByte_39247_7 ?_
  refine cx_topi (y := (nI n0)) ((Int32.sub_zero _).symm) ?_
  refine cx_istore_n hC [(3, .int (nI n0)), (0, .ref v), (1, .int (0 : Int32)), (2, .int (nI n0))] dJ7_copyOfRangeByte_39247_8 rfl (Nat.le_of_ble_eq_true rfl) rfl ?_
  refine cx_iload_n hC dJ7_copyOfRangeByte_39247_9 rfl 0 rfl ?_
  refine cx_newbN hC (N := n0) (rfl) (by omega) ⟨Nat.le_of_ble_eq_true rfl, by show 0 + (n0) ≤ 600; omega⟩ (tb_9 (List.mem_of_getElem? (i := 13) rfl)) dJ7_copyOfRangeByte_39247_10 (fun q1 => ?_)
  refine cx_widen (k' := 1) (n' := 600) (Nat.le_of_ble_eq_true rfl) (by show 0 + (n0) ≤ 600; omega) ?_
  refine cx_at (ws' := [(v, .inl (D.2 1, cap, .inl (f))), (q1, .inl (D.2 1, n0, .inl (fun _ => 0)))]) (st' := [.ref q1]) rfl rfl ?_
  refine cx_astore hC [(4, .ref q1), (3, .int (nI n0)), (0, .ref v), (1, .int (0 : Int32)), (2, .int (nI n0))] dJ7_copyOfRangeByte_39247_12 (Nat.le_of_ble_eq_true rfl) rfl ?_
  refine cx_aload_n hC dJ7_copyOfRangeByte_39247_14 rfl 2 rfl ?_
  refine cx_iload_n hC dJ7_copyOfRangeByte_39247_15 rfl 3 rfl ?_
  refine cx_aload hC dJ7_copyOfRangeByte_39247_16 0 rfl ?_
  refine cx_iconst hC (0 : Int32) dJ7_copyOfRangeByte_39247_18 (by decide) ?_
  refine cx_aload_n hC dJ7_copyOfRangeByte_39247_19 rfl 2 rfl ?_
  refine cx_alenC hC 0 1 (nI (cap)) rfl rfl rfl dJ7_copyOfRangeByte_39247_20 ?_
  refine cx_iload_n hC dJ7_copyOfRangeByte_39247_21 rfl 3 rfl ?_
  refine cx_isub hC dJ7_copyOfRangeByte_39247_22 ?_
  refine cx_topi (y := (nI cap)) ((Int32.sub_zero _).symm) ?_
  refine cx_iload_n hC dJ7_copyOfRangeByte_39247_23 rfl 1 rfl ?_
  refine cx_mmin hC km_J7_304 kt_Mmin kn_Math kc_Mmin (Nat.le_of_ble_eq_true rfl) (Nat.le_of_ble_eq_true rfl) ⟨Nat.le_of_ble_eq_true rfl, Nat.le_of_ble_eq_true rfl⟩ dJ7_copyOfRangeByte_39247_24 ?_
  refine cx_topi (y := (nI n0)) (by rw [imin_n (by omega) (by omega), show (if n0 < cap then n0 else cap) = n0 by split <;> omega]) ?_
  refine cx_copyb hC 0 1 (N := n0) [(v, .inl (D.2 1, cap, .inl (f))), (q1, .inl (D.2 1, n0, .inl (va_cpy (f) (fun _ => 0) 0 0 (n0))))] km_J7_150 rfl rfl (rfl) (h1) (Nat.le_refl _) (by omega) (fun i hi => ft7 (hf i)) rfl (Nat.le_of_ble_eq_true rfl) (Nat.le_of_ble_eq_true rfl) dJ7_copyOfRangeByte_39247_27 ?_
  refine cx_aload hC dJ7_copyOfRangeByte_39247_30 0 rfl ?_
  exact cy_aret hC (⟨q1, n0, _, rfl, rfl, rfl, fun k hk => by unfold va_cpy; rw [if_pos ⟨Nat.zero_le _, by omega⟩, show 0 + (k - 0) = k by omega]⟩) rfl (Or.inr ⟨_, rfl⟩) dJ7_copyOfRangeByte_39247_32
theorem dJ7_copyOfRange_39247_0 : decode cJ7_copyOfRange_39247 0 = .ok (.iload_n 1, 1) := by decide +kernel
theorem dJ7_copyOfRange_39247_1 : decode cJ7_copyOfRange_39247 1 = .ok (.ifCond .ne 9, 3) := by decide +kernel
theorem dJ7_copyOfRange_39247_4 : decode cJ7_copyOfRange_39247 4 = .ok (.iload_n 2, 1) := by decide +kernel
theorem dJ7_copyOfRange_39247_5 : decode cJ7_copyOfRange_39247 5 = .ok (.aload_n 0, 1) := by decide +kernel
theorem dJ7_copyOfRange_39247_6 : decode cJ7_copyOfRange_39247 6 = .ok (.arraylength, 1) := by decide +kernel
theorem dJ7_copyOfRange_39247_7 : decode cJ7_copyOfRange_39247 7 = .ok (.if_icmp .eq 10, 3) := by decide +kernel
theorem dJ7_copyOfRange_39247_17 : decode cJ7_copyOfRange_39247 17 = .ok (.aload_n 0, 1) := by decide +kernel
theorem dJ7_copyOfRange_39247_18 : decode cJ7_copyOfRange_39247 18 = .ok (.invokevirtual 310, 3) := by decide +kernel
theorem dJ7_copyOfRange_39247_21 : decode cJ7_copyOfRange_39247 21 = .ok (.checkcast 311, 3) := by decide +kernel
theorem dJ7_copyOfRange_39247_24 : decode cJ7_copyOfRange_39247 24 = .ok (.areturn, 1) := by decide +kernel
theorem dJ7_copyOfRange_39247_10 : decode cJ7_copyOfRange_39247 10 = .ok (.aload_n 0, 1) := by decide +kernel
theorem dJ7_copyOfRange_39247_11 : decode cJ7_copyOfRange_39247 11 = .ok (.iload_n 1, 1) := by decide +kernel
theorem dJ7_copyOfRange_39247_12 : decode cJ7_copyOfRange_39247 12 = .ok (.iload_n 2, 1) := by decide +kernel
theorem dJ7_copyOfRange_39247_13 : decode cJ7_copyOfRange_39247 13 = .ok (.invokestatic 339, 3) := by decide +kernel
theorem dJ7_copyOfRange_39247_16 : decode cJ7_copyOfRange_39247 16 = .ok (.areturn, 1) := by decide +kernel
theorem j_cr (l : Launch) (D : DG) (F : EF) {v cap n0 : Nat} {f : Nat → Int32} (h1 : n0 ≤ cap) (h2 : cap ≤ 600) (hf : ∀ k, b7 (f k)) : Yo l yJ7_copyOfRange_39247 (WS yJ7_copyOfRange_39247 cJ7_copyOfRange_39247 3 (some (.array .byte))) (RM 3 1 600 64) 1 600 [.ref v, .int (0 : Int32), .int (nI n0)] D F [(v, .inl (D.2 1, cap, .inl (f)))] (fun o w => ∃ q N g, o = some (.ref q) ∧ w = [(v, .inl (D.2 1, cap, .inl (f))), (q, .inl (D.2 1, N, .inl (g)))] ∧ N = n0 ∧ ∀ k, k < n0 → g k = f k) := by
  refine Yo.of (cc := cJ7_copyOfRange_39247) (maxL := 3) (ret := (some (.array .byte))) (by decide) (Nat.le_of_ble_eq_true rfl) ?_
  intro p e s m args below meth c hC hE hmn
  show XC p l e (RM 3 1 600 64) s m args below meth c D _ 3 _ 0 0 [(v, .inl (D.2 1, cap, .inl (f)))] 0 [(0, .ref v), (1, .int (0 : Int32)), (2, .int (nI n0))] []
  by_cases hc : n0 = cap
  · skip
    refine cx_iload_n hC dJ7_copyOfRange_39247_0 rfl 1 rfl ?_
    refine cx_if_ne hC 10 dJ7_copyOfRange_39247_1 (by decide) (fun h => absurd (rfl) h) (fun _ => ?_)
    refine cx_iload_n hC dJ7_copyOfRange_39247_4 rfl 2 rfl ?_
    refine cx_aload_n hC dJ7_copyOfRange_39247_5 rfl 0 rfl ?_
    refine cx_alenC hC 0 1 (nI (cap)) rfl rfl rfl dJ7_copyOfRange_39247_6 ?_
    refine cx_icmp_eq hC 17 dJ7_copyOfRange_39247_7 (by decide) (fun _ => ?_) (fun h => absurd (by rw [hc]) h)
    refine cx_aload_n hC dJ7_copyOfRange_39247_17 rfl 0 rfl ?_
    refine cx_cloneb hC hE 0 rfl (fun i hi => ft7 (hf i)) (tb_23 (List.mem_of_getElem? (i := 27) rfl)) (Nat.le_of_ble_eq_true rfl) (Nat.le_of_ble_eq_true rfl) ⟨Nat.le_of_ble_eq_true rfl, by show 0 + (cap) ≤ 600; omega⟩ dJ7_copyOfRange_39247_18 (fun q1 => ?_)
    refine cx_widen (k' := 1) (n' := 600) (Nat.le_of_ble_eq_true rfl) (by show 0 + (cap) ≤ 600; omega) ?_
    refine cx_at (ws' := [(v, .inl (D.2 1, cap, .inl (f))), (q1, .inl (D.2 1, cap, .inl (f)))]) (st' := [.ref q1]) rfl rfl ?_
    refine cx_castb hC 1 rfl (tb_23 (List.mem_of_getElem? (i := 32) rfl)) dJ7_copyOfRange_39247_21 ?_
    exact cy_aret hC (⟨q1, cap, f, rfl, rfl, hc.symm, fun k _ => rfl⟩) rfl (Or.inr ⟨_, rfl⟩) dJ7_copyOfRange_39247_24
  · skip
    refine cx_iload_n hC dJ7_copyOfRange_39247_0 rfl 1 rfl ?_
    refine cx_if_ne hC 10 dJ7_copyOfRange_39247_1 (by decide) (fun h => absurd (rfl) h) (fun _ => ?_)
    refine cx_iload_n hC dJ7_copyOfRange_39247_4 rfl 2 rfl ?_
    refine cx_aload_n hC dJ7_copyOfRange_39247_5 rfl 0 rfl ?_
    refine cx_alenC hC 0 1 (nI (cap)) rfl rfl rfl dJ7_copyOfRange_39247_6 ?_
    refine cx_icmp_eq hC 17 dJ7_copyOfRange_39247_7 (by decide) (fun h => absurd h (fun h => hc ((n_inj (by omega) (by omega)).mp h))) (fun _ => ?_)
    refine cx_aload_n hC dJ7_copyOfRange_39247_10 rfl 0 rfl ?_
    refine cx_iload_n hC dJ7_copyOfRange_39247_11 rfl 1 rfl ?_
    refine cx_iload_n hC dJ7_copyOfRange_39247_12 rfl 2 rfl ?_
    refine cy_callS hC (y := yJ7_copyOfRangeByte_39247) (cy := cJ7_copyOfRangeByte_39247) (maxL := 5) (nA := 3) (r := (some (.array .byte))) (rm := (RM 2 1 600 40)) (mc := 1) (ms := 600) (As := [.ref v, .int (0 : Int32), .int (nI n0)]) (wr := []) (j_crb l D F h1 h2 hf) [0] [] rfl rfl rfl rfl (by decide) (ef_sub hC hE [0] rfl) kc_yJ7_copyOfRangeByte_39247 km_J7_339 kt_yJ7_copyOfRangeByte_39247 kn_RJ7 ky_yJ7_copyOfRangeByte_39247 rfl ⟨rfl, rfl⟩ ⟨Nat.le_of_ble_eq_true rfl, Nat.le_of_ble_eq_true rfl⟩ rfl (Nat.le_of_ble_eq_true rfl) ⟨Nat.le_of_ble_eq_true rfl, Nat.le_of_ble_eq_true rfl⟩ dJ7_copyOfRange_39247_13 (fun o w1 h => ?_)
    obtain ⟨q9, N9, g9, rfl, rfl, hN9, hg9⟩ := h
    refine cx_at (ws' := [(v, .inl (D.2 1, cap, .inl (f))), (q9, .inl (D.2 1, N9, .inl (g9)))]) (st' := [.ref q9]) rfl rfl ?_
    exact cy_aret hC (⟨q9, N9, g9, rfl, rfl, hN9, hg9⟩) rfl (Or.inr ⟨_, rfl⟩) dJ7_copyOfRange_39247_16
theorem dJ0_init_db425_0 : decode cJ0_init_db425 0 = .ok (.aload_n 0, 1) := by decide +kernel
theorem dJ0_init_db425_1 : decode cJ0_init_db425 1 = .ok (.invokespecial 1, 3) := by decide +kernel
theorem dJ0_init_db425_4 : decode cJ0_init_db425 4 = .ok (.aload_n 1, 1) := by decide +kernel
theorem dJ0_init_db425_5 : decode cJ0_init_db425 5 = .ok (.invokevirtual 552, 3) := by decide +kernel
theorem dJ0_init_db425_8 : decode cJ0_init_db425 8 = .ok (.astore_n 3, 1) := by decide +kernel
theorem dJ0_init_db425_9 : decode cJ0_init_db425 9 = .ok (.aload_n 1, 1) := by decide +kernel
theorem dJ0_init_db425_10 : decode cJ0_init_db425 10 = .ok (.invokevirtual 549, 3) := by decide +kernel
theorem dJ0_init_db425_13 : decode cJ0_init_db425 13 = .ok (.istore 4, 2) := by decide +kernel
theorem dJ0_init_db425_15 : decode cJ0_init_db425 15 = .ok (.aload_n 1, 1) := by decide +kernel
theorem dJ0_init_db425_16 : decode cJ0_init_db425 16 = .ok (.invokevirtual 1047, 3) := by decide +kernel
theorem dJ0_init_db425_19 : decode cJ0_init_db425 19 = .ok (.ifCond .eq 22, 3) := by decide +kernel
theorem dJ0_init_db425_22 : decode cJ0_init_db425 22 = .ok (.aload_n 0, 1) := by decide +kernel
theorem dJ0_init_db425_23 : decode cJ0_init_db425 23 = .ok (.iconst 0, 1) := by decide +kernel
theorem dJ0_init_db425_24 : decode cJ0_init_db425 24 = .ok (.putfield 15, 3) := by decide +kernel
theorem dJ0_init_db425_27 : decode cJ0_init_db425 27 = .ok (.aload_n 0, 1) := by decide +kernel
theorem dJ0_init_db425_28 : decode cJ0_init_db425 28 = .ok (.aload_n 3, 1) := by decide +kernel
theorem dJ0_init_db425_29 : decode cJ0_init_db425 29 = .ok (.iconst 0, 1) := by decide +kernel
theorem dJ0_init_db425_30 : decode cJ0_init_db425 30 = .ok (.iload 4, 2) := by decide +kernel
theorem dJ0_init_db425_32 : decode cJ0_init_db425 32 = .ok (.invokestatic 54, 3) := by decide +kernel
theorem dJ0_init_db425_35 : decode cJ0_init_db425 35 = .ok (.putfield 9, 3) := by decide +kernel
theorem dJ0_init_db425_38 : decode cJ0_init_db425 38 = .ok (.goto 59, 3) := by decide +kernel
theorem dJ0_init_db425_97 : decode cJ0_init_db425 97 = .ok (.return_, 1) := by decide +kernel
theorem j_st2 (l : Launch) (D : DG) (F : EF) {a b v cap : Nat} {f : Nat → Int32} {Ls : List Int32} (hI : SBI Ls cap f) : Yo l yJ0_init_db425 (WS yJ0_init_db425 cJ0_init_db425 5 none) (RM 4 1 600 86) 1 600 [.ref a, .ref b, .null] D F [(a, .inr (4, [.null, .int 0, .int 0, .int 0])), (b, .inr (5, [.ref v, .int 0, .int 0, .int (nI (Ls.length))])), (v, .inl (D.2 1, cap, .inl (f)))] (fun o w => o = none ∧ ∃ x N g, w = [(a, .inr (4, [.ref x, .int 0, .int 0, .int 0])), (b, .inr (5, [.ref v, .int 0, .int 0, .int (nI (Ls.length))])), (v, .inl (D.2 1, cap, .inl (f))), (x, .inl (D.2 1, N, .inl (g)))] ∧ N = Ls.length ∧ ∀ k, k < Ls.length → g k = Ls.getD k 0) := by
  refine Yo.of (cc := cJ0_init_db425) (maxL := 5) (ret := none) (by decide) (Nat.le_of_ble_eq_true rfl) ?_
  intro p e s m args below meth c hC hE hmn
  show XC p l e (RM 4 1 600 86) s m args below meth c D _ 5 _ 0 0 [(a, .inr (4, [.null, .int 0, .int 0, .int 0])), (b, .inr (5, [.ref v, .int 0, .int 0, .int (nI (Ls.length))])), (v, .inl (D.2 1, cap, .inl (f)))] 0 [(0, .ref a), (1, .ref b), (2, .null)] []
  refine cx_aload_n hC dJ0_init_db425_0 rfl 0 rfl ?_
  refine cx_obj hC (tb_26 (List.mem_of_getElem? (i := 2) rfl)) (tb_8 (List.mem_of_getElem? (i := 14) rfl)) (tb_8 (List.mem_of_getElem? (i := 15) rfl)) (Nat.le_of_ble_eq_true rfl) (Nat.le_of_ble_eq_true rfl) dJ0_init_db425_1 ?_
  refine cx_aload_n hC dJ0_init_db425_4 rfl 1 rfl ?_
  refine cy_callV hC (E := RJ4) (y := yJ5_getValue_6d5f1) (cy := cJ5_getValue_6d5f1) (maxL := 1) (nA := 0) (r := (some (.array .byte))) (rm := (RM 1 0 0 0)) (mc := 0) (ms := 0) (As := []) (wr := [(a, .inr (4, [.null, .int 0, .int 0, .int 0])), (v, .inl (D.2 1, cap, .inl (f)))]) (j_getV l D F) [1] [0, 2] rfl rfl rfl rfl (by decide) (rc_sb hC (q0 := 1) rfl) (ef_sub hC hE [1] rfl) kc_yJ5_getValue_6d5f1 km_J0_552 ki_yJ5_getValue_6d5f1 (tb_26 (List.mem_of_getElem? (i := 6) rfl) : Cond.selects RJ4 yJ5_getValue_6d5f1 yJ5_getValue_6d5f1 ∈ TBL) kn_RJ5 ky_yJ5_getValue_6d5f1 rfl ⟨rfl, rfl⟩ ⟨Nat.le_of_ble_eq_true rfl, Nat.le_of_ble_eq_true rfl⟩ rfl (Nat.le_of_ble_eq_true rfl) ⟨Nat.le_of_ble_eq_true rfl, Nat.le_of_ble_eq_true rfl⟩ dJ0_init_db425_5 (fun o w1 h => ?_)
  obtain ⟨rfl, rfl⟩ := h
  refine cx_at (ws' := [(a, .inr (4, [.null, .int 0, .int 0, .int 0])), (v, .inl (D.2 1, cap, .inl (f))), (b, .inr (5, [.ref v, .int 0, .int 0, .int (nI (Ls.length))]))]) (st' := [.ref v]) rfl rfl ?_
  refine cx_astore_n hC [(3, .ref v), (0, .ref a), (1, .ref b), (2, .null)] dJ0_init_db425_8 rfl (Nat.le_of_ble_eq_true rfl) rfl ?_
  refine cx_aload_n hC dJ0_init_db425_9 rfl 2 rfl ?_
  refine cy_callO hC (x := yJ5_length_8abf5) (owner := RJ5) (E := RJ4) (y := yJ4_length_8abf5) (cy := cJ4_length_8abf5) (maxL := 1) (nA := 0) (r := (some .int)) (rm := (RM 2 0 0 20)) (mc := 0) (ms := 0) (As := []) (wr := [(a, .inr (4, [.null, .int 0, .int 0, .int 0])), (v, .inl (D.2 1, cap, .inl (f)))]) (j_lenB l D F) [2] [0, 1] rfl rfl rfl rfl (by decide) (rc_sb hC (q0 := 2) rfl) (ef_sub hC hE [2] rfl) (tb_26 (List.mem_of_getElem? (i := 13) rfl)) km_J0_549 (tb_26 (List.mem_of_getElem? (i := 10) rfl) : Cond.sameMethod yJ5_length_8abf5.cls RJ5 yJ5_length_8abf5.name yJ5_length_8abf5.desc ∈ TBL) (tb_26 (List.mem_of_getElem? (i := 12) rfl)) (tb_26 (List.mem_of_getElem? (i := 11) rfl) : Cond.selects RJ4 yJ5_length_8abf5 yJ4_length_8abf5 ∈ TBL) kn_RJ4 ki_yJ5_length_8abf5 kc_yJ5_length_8abf5 (by decide +kernel) rfl ⟨rfl, rfl⟩ ⟨Nat.le_of_ble_eq_true rfl, Nat.le_of_ble_eq_true rfl⟩ rfl (Nat.le_of_ble_eq_true rfl) ⟨Nat.le_of_ble_eq_true rfl, Nat.le_of_ble_eq_true rfl⟩ dJ0_init_db425_10 (fun o w1 h => ?_)
  obtain ⟨rfl, rfl⟩ := h
  refine cx_at (ws' := [(a, .inr (4, [.null, .int 0, .int 0, .int 0])), (v, .inl (D.2 1, cap, .inl (f))), (b, .inr (5, [.ref v, .int 0, .int 0, .int (nI (Ls.length))]))]) (st' := [.int (nI (Ls.length))]) rfl rfl ?_
  refine cx_istore hC [(4, .int (nI (Ls.length))), (3, .ref v), (0, .ref a), (1, .ref b), (2, .null)] dJ0_init_db425_13 (Nat.le_of_ble_eq_true rfl) rfl ?_
  refine cx_aload_n hC dJ0_init_db425_15 rfl 3 rfl ?_
  refine cy_callV hC (E := RJ4) (y := yJ5_isLatin1_aae02) (cy := cJ5_isLatin1_aae02) (maxL := 1) (nA := 0) (r := (some .boolean)) (rm := (RM 1 0 0 0)) (mc := 0) (ms := 0) (As := []) (wr := [(a, .inr (4, [.null, .int 0, .int 0, .int 0])), (v, .inl (D.2 1, cap, .inl (f)))]) (j_isLb l D F) [2] [0, 1] rfl rfl rfl rfl (by decide) (rc_sb hC (q0 := 2) rfl) (ef_sub hC hE [2] rfl) kc_yJ5_isLatin1_aae02 km_J0_1047 ki_yJ5_isLatin1_aae02 (tb_23 (List.mem_of_getElem? (i := 38) rfl) : Cond.selects RJ4 yJ5_isLatin1_aae02 yJ5_isLatin1_aae02 ∈ TBL) kn_RJ5 ky_yJ5_isLatin1_aae02 rfl ⟨rfl, rfl⟩ ⟨Nat.le_of_ble_eq_true rfl, Nat.le_of_ble_eq_true rfl⟩ rfl (Nat.le_of_ble_eq_true rfl) ⟨Nat.le_of_ble_eq_true rfl, Nat.le_of_ble_eq_true rfl⟩ dJ0_init_db425_16 (fun o w1 h => ?_)
  obtain ⟨rfl, rfl⟩ := h
  refine cx_at (ws' := [(a, .inr (4, [.null, .int 0, .int 0, .int 0])), (v, .inl (D.2 1, cap, .inl (f))), (b, .inr (5, [.ref v, .int 0, .int 0, .int (nI (Ls.length))]))]) (st' := [.int 1]) rfl rfl ?_
  refine cx_if_eq hC 41 dJ0_init_db425_19 (by decide) (fun h => absurd h (by decide)) (fun _ => ?_)
  refine cx_aload_n hC dJ0_init_db425_22 rfl 2 rfl ?_
  refine cx_iconst hC (0 : Int32) dJ0_init_db425_23 (by decide) ?_
  refine cx_putF hC (hmn.trans rfl) 0 1 (C := RJ0) (T := TJ0) (N := 4) [(a, .inr (4, [.null, .int (0 : Int32), .int 0, .int 0])), (v, .inl (D.2 1, cap, .inl (f))), (b, .inr (5, [.ref v, .int 0, .int 0, .int (nI (Ls.length))]))] fw_4 tyJ0_ok nmJ0 rfl rfl (Nat.le_of_ble_eq_true rfl) (tb_26 (List.mem_of_getElem? (i := 37) rfl) : Cond.fieldLink RJ0 15 "java/lang/String" "coder" "B" ∈ TBL) rfl rfl rfl rfl rfl rfl (Nat.le_of_ble_eq_true rfl) rfl dJ0_init_db425_24 ?_
  refine cx_aload_n hC dJ0_init_db425_27 rfl 2 rfl ?_
  refine cx_aload_n hC dJ0_init_db425_28 rfl 1 rfl ?_
  refine cx_iconst hC (0 : Int32) dJ0_init_db425_29 (by decide) ?_
  refine cx_iload hC dJ0_init_db425_30 0 rfl ?_
  refine cy_callS hC (y := yJ7_copyOfRange_39247) (cy := cJ7_copyOfRange_39247) (maxL := 3) (nA := 3) (r := (some (.array .byte))) (rm := (RM 3 1 600 64)) (mc := 1) (ms := 600) (As := [.ref v, .int (0 : Int32), .int (nI (Ls.length))]) (wr := [(a, .inr (4, [.null, .int (0 : Int32), .int 0, .int 0])), (b, .inr (5, [.ref v, .int 0, .int 0, .int (nI (Ls.length))]))]) (j_cr l D F (n0 := Ls.length) hI.1 hI.2.1 hI.2.2.2) [1] [0, 2] rfl rfl rfl rfl (by decide) (ef_sub hC hE [1] rfl) kc_yJ7_copyOfRange_39247 km_J0_54 kt_yJ7_copyOfRange_39247 kn_RJ7 ky_yJ7_copyOfRange_39247 rfl ⟨rfl, rfl⟩ ⟨Nat.le_of_ble_eq_true rfl, Nat.le_of_ble_eq_true rfl⟩ rfl (Nat.le_of_ble_eq_true rfl) ⟨Nat.le_of_ble_eq_true rfl, Nat.le_of_ble_eq_true rfl⟩ dJ0_init_db425_32 (fun o w1 h => ?_)
  obtain ⟨x9, N9, g9, rfl, rfl, hN9, hg9⟩ := h
  refine cx_at (ws' := [(a, .inr (4, [.null, .int (0 : Int32), .int 0, .int 0])), (b, .inr (5, [.ref v, .int 0, .int 0, .int (nI (Ls.length))])), (v, .inl (D.2 1, cap, .inl (f))), (x9, .inl (D.2 1, N9, .inl (g9)))]) (st' := [.ref x9, .ref a]) rfl rfl ?_
  refine cx_putF hC (hmn.trans rfl) 0 0 (C := RJ0) (T := TJ0) (N := 4) [(a, .inr (4, [.ref x9, .int (0 : Int32), .int 0, .int 0])), (b, .inr (5, [.ref v, .int 0, .int 0, .int (nI (Ls.length))])), (v, .inl (D.2 1, cap, .inl (f))), (x9, .inl (D.2 1, N9, .inl (g9)))] fw_4 tyJ0_ok nmJ0 rfl rfl (Nat.le_of_ble_eq_true rfl) (tb_26 (List.mem_of_getElem? (i := 36) rfl) : Cond.fieldLink RJ0 9 "java/lang/String" "value" "[B" ∈ TBL) rfl rfl rfl rfl rfl rfl (Nat.le_of_ble_eq_true rfl) rfl dJ0_init_db425_35 ?_
  refine cx_goto hC 97 dJ0_init_db425_38 (by decide) ?_
  refine cx_keep (ws' := [(a, .inr (4, [.ref x9, .int (0 : Int32), .int 0, .int 0])), (b, .inr (5, [.ref v, .int 0, .int 0, .int (nI (Ls.length))])), (v, .inl (D.2 1, cap, .inl (f))), (x9, .inl (D.2 1, N9, .inl (g9)))]) [0, 1, 2, 3] rfl rfl ?_
  exact cy_vret hC (⟨rfl, x9, N9, g9, rfl, hN9, fun k hk => (hg9 k hk).trans (hI.2.2.1 k hk)⟩) rfl dJ0_init_db425_97
theorem dJ0_init_81219_0 : decode cJ0_init_81219 0 = .ok (.aload_n 0, 1) := by decide +kernel
theorem dJ0_init_81219_1 : decode cJ0_init_81219 1 = .ok (.aload_n 1, 1) := by decide +kernel
theorem dJ0_init_81219_2 : decode cJ0_init_81219 2 = .ok (.aconst_null, 1) := by decide +kernel
theorem dJ0_init_81219_3 : decode cJ0_init_81219 3 = .ok (.invokespecial 489, 3) := by decide +kernel
theorem dJ0_init_81219_6 : decode cJ0_init_81219 6 = .ok (.return_, 1) := by decide +kernel
theorem j_st1 (l : Launch) (D : DG) (F : EF) {a b v cap : Nat} {f : Nat → Int32} {Ls : List Int32} (hI : SBI Ls cap f) : Yo l yJ0_init_81219 (WS yJ0_init_81219 cJ0_init_81219 2 none) (RM 5 1 600 110) 1 600 [.ref a, .ref b] D F [(a, .inr (4, [.null, .int 0, .int 0, .int 0])), (b, .inr (5, [.ref v, .int 0, .int 0, .int (nI (Ls.length))])), (v, .inl (D.2 1, cap, .inl (f)))] (fun o w => o = none ∧ ∃ x N g, w = [(a, .inr (4, [.ref x, .int 0, .int 0, .int 0])), (b, .inr (5, [.ref v, .int 0, .int 0, .int (nI (Ls.length))])), (v, .inl (D.2 1, cap, .inl (f))), (x, .inl (D.2 1, N, .inl (g)))] ∧ N = Ls.length ∧ ∀ k, k < Ls.length → g k = Ls.getD k 0) := by
  refine Yo.of (cc := cJ0_init_81219) (maxL := 2) (ret := none) (by decide) (Nat.le_of_ble_eq_true rfl) ?_
  intro p e s m args below meth c hC hE hmn
  show XC p l e (RM 5 1 600 110) s m args below meth c D _ 2 _ 0 0 [(a, .inr (4, [.null, .int 0, .int 0, .int 0])), (b, .inr (5, [.ref v, .int 0, .int 0, .int (nI (Ls.length))])), (v, .inl (D.2 1, cap, .inl (f)))] 0 [(0, .ref a), (1, .ref b)] []
  refine cx_aload_n hC dJ0_init_81219_0 rfl 0 rfl ?_
  refine cx_aload_n hC dJ0_init_81219_1 rfl 1 rfl ?_
  refine cx_null hC dJ0_init_81219_2 ?_
  refine cy_callI hC (y := yJ0_init_db425) (cy := cJ0_init_db425) (maxL := 5) (nA := 2) (rm := (RM 4 1 600 86)) (mc := 1) (ms := 600) (As := [.ref b, .null]) (wr := []) (j_st2 l D F hI) [0, 1, 2] [] rfl rfl rfl rfl (by decide) (ef_sub hC hE [0, 1, 2] rfl) kc_yJ0_init_db425 km_J0_489 ki_yJ0_init_db425 kn_RJ0 rfl ky_yJ0_init_db425 rfl ⟨rfl, rfl⟩ ⟨Nat.le_of_ble_eq_true rfl, Nat.le_of_ble_eq_true rfl⟩ rfl (Nat.le_of_ble_eq_true rfl) ⟨Nat.le_of_ble_eq_true rfl, Nat.le_of_ble_eq_true rfl⟩ dJ0_init_81219_3 (fun o w1 h => ?_)
  obtain ⟨rfl, x9, N9, g9, rfl, hN9, hg9⟩ := h
  refine cx_at (ws' := [(a, .inr (4, [.ref x9, .int 0, .int 0, .int 0])), (b, .inr (5, [.ref v, .int 0, .int 0, .int (nI (Ls.length))])), (v, .inl (D.2 1, cap, .inl (f))), (x9, .inl (D.2 1, N9, .inl (g9)))]) (st' := []) rfl rfl ?_
  exact cy_vret hC (⟨rfl, x9, N9, g9, rfl, hN9, hg9⟩) rfl dJ0_init_81219_6
theorem dJ4_toString_0e30d_0 : decode cJ4_toString_0e30d 0 = .ok (.new 18, 3) := by decide +kernel
theorem dJ4_toString_0e30d_3 : decode cJ4_toString_0e30d 3 = .ok (.dup, 1) := by decide +kernel
theorem dJ4_toString_0e30d_4 : decode cJ4_toString_0e30d 4 = .ok (.aload_n 0, 1) := by decide +kernel
theorem dJ4_toString_0e30d_5 : decode cJ4_toString_0e30d 5 = .ok (.invokespecial 137, 3) := by decide +kernel
theorem dJ4_toString_0e30d_8 : decode cJ4_toString_0e30d 8 = .ok (.areturn, 1) := by decide +kernel
theorem j_toS (l : Launch) (D : DG) (F : EF) {b v cap : Nat} {f : Nat → Int32} {Ls : List Int32} (hI : SBI Ls cap f) : Yo l yJ4_toString_0e30d (WS yJ4_toString_0e30d cJ4_toString_0e30d 1 (some (.object "java/lang/String"))) (RM 6 2 604 131) 2 604 [.ref b] D F [(b, .inr (5, [.ref v, .int 0, .int 0, .int (nI (Ls.length))])), (v, .inl (D.2 1, cap, .inl (f)))] (fun o w => ∃ a x N g, o = some (.ref a) ∧ w = [(b, .inr (5, [.ref v, .int 0, .int 0, .int (nI (Ls.length))])), (v, .inl (D.2 1, cap, .inl (f))), (a, .inr (4, [.ref x, .int 0, .int 0, .int 0])), (x, .inl (D.2 1, N, .inl (g)))] ∧ N = Ls.length ∧ ∀ k, k < Ls.length → g k = Ls.getD k 0) := by
  refine Yo.of (cc := cJ4_toString_0e30d) (maxL := 1) (ret := (some (.object "java/lang/String"))) (by decide) (Nat.le_of_ble_eq_true rfl) ?_
  intro p e s m args below meth c hC hE hmn
  show XC p l e (RM 6 2 604 131) s m args below meth c D _ 1 _ 0 0 [(b, .inr (5, [.ref v, .int 0, .int 0, .int (nI (Ls.length))])), (v, .inl (D.2 1, cap, .inl (f)))] 0 [(0, .ref b)] []
  refine cx_new hC (C := RJ0) (T := TJ0) (N := 4) (ci := 4) tyJ0 [.null, .int 0, .int 0, .int 0] fw_4 tyJ0_ok (tb_25 (List.mem_of_getElem? (i := 34) rfl)) (tb_25 (List.mem_of_getElem? (i := 35) rfl)) kn_RJ0 rfl dfJ0 ⟨Nat.le_of_ble_eq_true rfl, Nat.le_of_ble_eq_true rfl⟩ dJ4_toString_0e30d_0 (fun q1 => ?_)
  refine cx_at (ws' := [(b, .inr (5, [.ref v, .int 0, .int 0, .int (nI (Ls.length))])), (v, .inl (D.2 1, cap, .inl (f))), (q1, .inr (4, [.null, .int 0, .int 0, .int 0]))]) (st' := [.ref q1]) rfl rfl ?_
  refine cx_dup hC dJ4_toString_0e30d_3 rfl ?_
  refine cx_aload_n hC dJ4_toString_0e30d_4 rfl 0 rfl ?_
  refine cy_callI hC (y := yJ0_init_81219) (cy := cJ0_init_81219) (maxL := 2) (nA := 1) (rm := (RM 5 1 600 110)) (mc := 1) (ms := 600) (As := [.ref b]) (wr := []) (j_st1 l D F hI) [2, 0, 1] [] rfl rfl rfl rfl (by decide) (ef_sub hC hE [2, 0, 1] rfl) kc_yJ0_init_81219 km_J4_137 ki_yJ0_init_81219 kn_RJ0 rfl ky_yJ0_init_81219 rfl ⟨rfl, rfl⟩ ⟨Nat.le_of_ble_eq_true rfl, Nat.le_of_ble_eq_true rfl⟩ rfl (Nat.le_of_ble_eq_true rfl) ⟨Nat.le_of_ble_eq_true rfl, Nat.le_of_ble_eq_true rfl⟩ dJ4_toString_0e30d_5 (fun o w1 h => ?_)
  obtain ⟨rfl, x9, N9, g9, rfl, hN9, hg9⟩ := h
  refine cx_at (ws' := [(q1, .inr (4, [.ref x9, .int 0, .int 0, .int 0])), (b, .inr (5, [.ref v, .int 0, .int 0, .int (nI (Ls.length))])), (v, .inl (D.2 1, cap, .inl (f))), (x9, .inl (D.2 1, N9, .inl (g9)))]) (st' := [.ref q1]) rfl rfl ?_
  refine cx_keep (ws' := [(b, .inr (5, [.ref v, .int 0, .int 0, .int (nI (Ls.length))])), (v, .inl (D.2 1, cap, .inl (f))), (q1, .inr (4, [.ref x9, .int 0, .int 0, .int 0])), (x9, .inl (D.2 1, N9, .inl (g9)))]) [1, 2, 0, 3] rfl rfl ?_
  exact cy_aret hC (⟨q1, x9, N9, g9, rfl, rfl, hN9, hg9⟩) rfl (Or.inl ⟨_, rfl⟩) dJ4_toString_0e30d_8
