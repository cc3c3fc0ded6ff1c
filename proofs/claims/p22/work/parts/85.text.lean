/-! needs 30 31 50 51 52 53 54 64 89 -/
/-! the law's text: where its words stand -/
theorem tk_word {T : Nat → Int32} {L i t : Nat} (h : tk T L i = t) (ht : t < 30) : tst T L i < L ∧ tLe T (tst T L i) = true ∧ tpos T L (i + 1) = run (tWo T) L (tst T L i) ∧ Wd T (tst T L i) (run (tWo T) L (tst T L i)) t = true := by
  have hs := tokT_le T L (tst T L i)
  have h2 : tokT T L (tst T L i) = t := by
    unfold tk at h
    by_cases z : i = 400 ∧ tokT T L (tst T L i) ≠ 49
    · rw [if_pos z] at h; omega
    · rw [if_neg z] at h; exact h
  have z : tst T L i < L := by
    by_cases z : tst T L i < L
    · exact z
    · have := hs.2.2 z; omega
  rw [tpos_s]
  unfold tokT at h2
  unfold tokE
  rw [if_pos z] at h2 ⊢
  by_cases z1 : tLe T (tst T L i) = true
  · rw [if_pos z1] at h2 ⊢
    refine ⟨z, z1, rfl, ?_⟩
    unfold worT at h2
    by_cases y : run (tWo T) L (tst T L i) - tst T L i ≤ 10
    · rw [if_pos y] at h2
      rcases kw_word (T := T) (word_lt z z1) z1 with ⟨k1, k2⟩ | ⟨k1, -⟩
      · rw [if_pos (by omega)] at h2
        rw [h2] at k2; exact k2
      · rw [if_neg (by omega)] at h2; omega
    · rw [if_neg y] at h2; omega
  · rw [if_neg z1] at h2
    exfalso
    by_cases z2 : tDi T (tst T L i) = true
    · rw [if_pos z2] at h2
      unfold numT at h2
      by_cases y : run (tDi T) L (tst T L i) - tst T L i ≤ 6
      · rw [if_pos y] at h2; omega
      · rw [if_neg y] at h2; omega
    · rw [if_neg z2] at h2
      unfold symT at h2
      by_cases y : tst T L i + 2 ≤ L ∧ kw T (tst T L i) (tst T L i + 2) < 51
      · rw [if_pos y] at h2
        rcases kw_two (T := T) z1 with ⟨k, -⟩ | ⟨k, -⟩ | ⟨k, -⟩ <;> omega
      · rw [if_neg y] at h2
        by_cases x : kw T (tst T L i) (tst T L i + 1) < 51
        · rw [if_pos x] at h2
          rcases kw_one (T := T) z1 with ⟨k, -⟩ | ⟨k, -⟩ <;> omega
        · rw [if_neg x] at h2; omega
theorem dig_lt {T : Nat → Int32} {L st : Nat} (h : st < L) (hl : tDi T st = true) : st < run (tDi T) L st := by
  rw [run_on h hl]
  have := (run_rng (P := tDi T) (L := L) _ (st + 1) rfl (by omega)).1
  omega
theorem tpos_lt {T : Nat → Int32} {L i : Nat} (h : tst T L i < L) : tst T L i < tpos T L (i + 1) := by
  rw [tpos_s]
  unfold tokE
  rw [if_pos h]
  by_cases z1 : tLe T (tst T L i) = true
  · rw [if_pos z1]; exact word_lt h z1
  · rw [if_neg z1]
    by_cases z2 : tDi T (tst T L i) = true
    · rw [if_pos z2]; exact dig_lt h z2
    · rw [if_neg z2]; exact (symE_rng h).1
theorem tst_ge (T : Nat → Int32) (L i : Nat) : tpos T L i ≤ tst T L i := (run_rng (P := tBl T) (L := L) _ _ rfl (tpos_le i)).1
theorem tst_mono {T : Nat → Int32} {L i : Nat} (h : tst T L i < L) : ∀ k, tst T L i < tst T L (i + 1 + k)
  | 0 => Nat.lt_of_lt_of_le (tpos_lt h) (tst_ge T L (i + 1))
  | k + 1 => Nat.lt_of_lt_of_le (tst_mono h k) (Nat.le_trans (tst_pos T L (i + 1 + k)) (tst_ge T L (i + 1 + k + 1)))
theorem wo_c {T : Nat → Int32} {r : Nat} (h : tLe T r = true) : tWo T r = true := by unfold tWo; rw [h]; rfl
theorem not_le {T : Nat → Int32} {r : Nat} (h : (T r).toInt < 97) : tLe T r = false := by
  unfold tLe
  exact decide_eq_false (fun x => by omega)
theorem w_prev {T : Nat → Int32} {L i : Nat} (h : 0 < i) (hs : tst T L i < L) (hl : tLe T (tst T L i) = true) : ∀ r, r + 1 = tst T L i → tLe T r = false := by
  obtain ⟨j, rfl⟩ : ∃ j, i = j + 1 := ⟨i - 1, by omega⟩
  intro r hr
  have hg := tst_ge T L (j + 1)
  have hle := tst_le T L j
  by_cases y : tst T L (j + 1) = tpos T L (j + 1)
  · rw [y] at hs hl hr
    rw [tpos_s] at hs hl hr
    unfold tokE at hs hl hr
    by_cases z : tst T L j < L
    · rw [if_pos z] at hs hl hr
      by_cases z1 : tLe T (tst T L j) = true
      · rw [if_pos z1] at hs hl hr
        have := (run_rng (P := tWo T) (L := L) _ _ rfl hle).2.2.2 hs
        rw [wo_c hl] at this
        cases this
      · rw [if_neg z1] at hs hl hr
        by_cases z2 : tDi T (tst T L j) = true
        · rw [if_pos z2] at hs hl hr
          have h3 := (run_rng (P := tDi T) (L := L) _ _ rfl hle).2.2.1 r (by have := dig_lt z z2; omega) (by omega)
          unfold tDi at h3
          have h4 := of_decide_eq_true h3
          exact not_le (by omega)
        · rw [if_neg z2] at hs hl hr
          unfold symE at hs hl hr
          by_cases w : tst T L j + 2 ≤ L ∧ kw T (tst T L j) (tst T L j + 2) < 51
          · rw [if_pos w] at hr
            have er : r = tst T L j + 1 := by omega
            subst er
            rcases kw_two (T := T) z1 with ⟨-, -, k⟩ | ⟨-, -, k⟩ | ⟨k, -⟩
            · exact not_le (by rw [k]; decide)
            · exact not_le (by rw [k]; decide)
            · omega
          · rw [if_neg w] at hr
            have er : r = tst T L j := by omega
            subst er
            simpa using z1
    · rw [if_neg z] at hs
      omega
  · have h3 := (run_rng (P := tBl T) (L := L) _ _ rfl (tpos_le (T := T) (L := L) (j + 1))).2.2.1 r (by omega) (by show r < tst T L (j + 1); omega)
    unfold tBl at h3
    rcases of_decide_eq_true h3 with k | k
    · exact not_le (by rw [k]; decide)
    · exact not_le (by rw [k]; decide)
/-! what the law's text has -/
def D7 (v : Int32) : Prop := 48 ≤ v.toInt ∧ v.toInt ≤ 55
def TxP (T : Nat → Int32) (L q : Nat) : Prop := q + 14 ≤ L ∧ 23 ≤ q ∧ (∀ s, s < L → T s = 114 → T (s + 1) = 101 → s = 14) ∧ (∀ s, s < L → T s = 97 → T (s + 1) = 116 → (∀ r, r + 1 = s → tLe T r = false) → s = 7 ∨ s = q + 7) ∧ (∀ s, s < L → T s = 103 → T (s + 1) = 97 → s = 0 ∨ s = q) ∧
  (∀ b, b = 0 ∨ b = q → T b = 103 ∧ T (b + 1) = 97 ∧ T (b + 2) = 110 ∧ T (b + 3) = 103 ∧ T (b + 4) = 32 ∧ tLe T (b + 5) = true ∧ T (b + 6) = 32 ∧ T (b + 7) = 97 ∧ T (b + 8) = 116 ∧ T (b + 9) = 32 ∧ D7 (T (b + 10)) ∧ T (b + 11) = 32 ∧ D7 (T (b + 12)) ∧ T (b + 13) = 123) ∧ T 5 ≠ T (q + 5) ∧
  (T 14 = 114 ∧ T 15 = 101 ∧ T 16 = 112 ∧ T 17 = 101 ∧ T 18 = 97 ∧ T 19 = 116 ∧ T 20 = 32 ∧ T 21 = 51 ∧ T 22 = 123)
theorem le_c {T : Nat → Int32} {r : Nat} {c : Int32} (h : T r = c) (hc : 97 ≤ c.toInt ∧ c.toInt ≤ 122) : tLe T r = true := by unfold tLe; rw [h]; exact decide_eq_true hc
theorem nw_c {T : Nat → Int32} {r : Nat} {c : Int32} (h : T r = c) (hc : c.toInt < 48 ∨ 122 < c.toInt) : tWo T r = false := by
  unfold tWo tLe tDi
  rw [h, decide_eq_false (fun x => by omega), decide_eq_false (fun x => by omega)]; rfl
theorem nb_c {T : Nat → Int32} {r : Nat} (h : 33 ≤ (T r).toInt) : tBl T r = false := by
  unfold tBl
  refine decide_eq_false (fun x => ?_)
  rcases x with x | x <;> rw [x] at h <;> revert h <;> decide
theorem bl_c {T : Nat → Int32} {r : Nat} (h : T r = 32) : tBl T r = true := by unfold tBl; exact decide_eq_true (Or.inl h)
theorem di_c {T : Nat → Int32} {r : Nat} (h : 48 ≤ (T r).toInt ∧ (T r).toInt ≤ 57) : tDi T r = true := by unfold tDi; exact decide_eq_true h
theorem nd_c {T : Nat → Int32} {r : Nat} {c : Int32} (h : T r = c) (hc : c.toInt < 48 ∨ 57 < c.toInt) : tDi T r = false := by
  unfold tDi; rw [h]; exact decide_eq_false (fun x => by omega)
theorem off_f {P : Nat → Bool} {L p : Nat} (h : P p = false) : run P L p = p := run_off (fun x => by rw [h] at x; exact absurd x.2 (by decide))
/-- one digit -/
theorem dig_1 {T : Nat → Int32} {L s : Nat} {m : Int32} (hs : s < L) (h : 48 ≤ (T s).toInt ∧ (T s).toInt ≤ 57) (hn : tDi T (s + 1) = false) : run (tDi T) L s = s + 1 ∧ (isB T L s 48).toInt = (T s).toInt - 48 := by
  have e : run (tDi T) L s = s + 1 := by rw [run_on hs (di_c h), off_f hn]
  refine ⟨e, ?_⟩
  unfold isB
  rw [if_neg (by decide), if_neg (by decide), if_pos rfl, e, show s + 1 - s = 1 by omega]
  show ((0 : Int32) * 10 + (T s - 48)).toInt = _
  rw [show (0 : Int32) * 10 = 0 from rfl, Int32.zero_add, i_sub (by show -2147483648 ≤ (T s).toInt - 48; omega) (by show (T s).toInt - 48 < 2147483648; omega)]
  rfl
section TQ
variable {T : Nat → Int32} {L q : Nat}
theorem tx_10 : tx 10 = [114, 101, 112, 101, 97, 116] := by decide +kernel
theorem tx_1 : tx 1 = [97, 116] := by decide +kernel
theorem tx_0 : tx 0 = [103, 97, 110, 103] := by decide +kernel
theorem txp_R (X : TxP T L q) : Rq T L := by
  obtain ⟨x1, x2, x3, -, -, -, -, y1, y2, y3, y4, y5, y6, y7, y8, y9⟩ := X
  intro i h10 h48
  obtain ⟨z, l, e, w⟩ := tk_word h10 (by decide)
  have m := (Wd_spec w).2
  rw [tx_10, mb_cons, mb_cons] at m
  simp only [Bool.and_eq_true, decide_eq_true_eq] at m
  have s14 := x3 _ z m.1 m.2.1
  rw [s14] at e
  have r20 : run (tWo T) L 14 = 20 := by
    rw [run_on (by omega) (wo_c (le_c y1 (by decide))), run_on (by omega) (wo_c (le_c y2 (by decide))), run_on (by omega) (wo_c (le_c y3 (by decide))), run_on (by omega) (wo_c (le_c y4 (by decide))), run_on (by omega) (wo_c (le_c y5 (by decide))), run_on (by omega) (wo_c (le_c y6 (by decide))), off_f (nw_c y7 (by decide))]
  have t21 : tst T L (i + 1) = 21 := by
    unfold tst
    rw [e, r20, run_on (by omega) (bl_c y7), off_f (nb_c (by rw [y8]; decide))]
  rw [t21]
  have := (dig_1 (T := T) (L := L) (s := 21) (m := 0) (by omega) (by rw [y8]; decide) (nd_c y9 (by decide))).2
  rw [i_le, this, y8]
  decide
theorem txp_A (X : TxP T L q) : Aq T L := by
  obtain ⟨x1, x2, -, x4, -, x6, -⟩ := X
  intro i h1 h48
  obtain ⟨z, l, e, w⟩ := tk_word h1 (by decide)
  have m := (Wd_spec w).2
  rw [tx_1, mb_cons, mb_cons] at m
  simp only [Bool.and_eq_true, decide_eq_true_eq] at m
  obtain ⟨b, hb, hs⟩ : ∃ b, (b = 0 ∨ b = q) ∧ tst T L i = b + 7 := by
    rcases x4 _ z m.1 m.2.1 (fun r hr => by
      rcases Nat.eq_zero_or_pos i with i0 | i0
      · subst i0
        have hg := x6 0 (Or.inl rfl)
        have : tst T L 0 = 0 := by
          show run (tBl T) L 0 = 0
          exact off_f (nb_c (by rw [hg.1]; decide))
        omega
      · exact w_prev i0 z l r hr) with h | h
    · exact ⟨0, Or.inl rfl, by omega⟩
    · exact ⟨q, Or.inr rfl, h⟩
  obtain ⟨g0, g1, g2, g3, g4, g5, g6, g7, g8, g9, g10, g11, g12, g13⟩ := x6 b hb
  unfold D7 at g10 g12
  have hbL : b + 14 ≤ L := by omega
  rw [hs] at e
  have r9 : run (tWo T) L (b + 7) = b + 9 := by
    rw [run_on (by omega) (wo_c (le_c g7 (by decide))), run_on (by omega) (wo_c (le_c g8 (by decide))), off_f (nw_c g9 (by decide))]
  have t10 : tst T L (i + 1) = b + 10 := by
    unfold tst
    rw [e, r9, run_on (by omega) (bl_c g9), off_f (nb_c (by show 33 ≤ (T (b + 10)).toInt; omega))]
  obtain ⟨d1, d2⟩ := dig_1 (T := T) (L := L) (s := b + 10) (m := 0) (by omega) (by omega) (nd_c g11 (by decide))
  refine ⟨by rw [t10, i_le, d2]; show _ ≤ (7 : Int); omega, fun h48' => ?_⟩
  have p11 : tpos T L (i + 1 + 1) = b + 11 := by
    have := (tk_num h48).2.1
    rw [t10, d1] at this
    exact this
  have t12 : tst T L (i + 1 + 1) = b + 12 := by
    unfold tst
    rw [p11, run_on (by omega) (bl_c g11), off_f (nb_c (by show 33 ≤ (T (b + 12)).toInt; omega))]
  obtain ⟨f1, f2⟩ := dig_1 (T := T) (L := L) (s := b + 12) (m := 0) (by omega) (by omega) (nd_c g13 (by decide))
  show isB T L (tst T L (i + 1 + 1)) 48 ≤ 7
  rw [t12, i_le, f2]
  show _ ≤ (7 : Int)
  omega
theorem txp_b (X : TxP T L q) {b j : Nat} (hb : b = 0 ∨ b = q) (hj : tst T L j = b) : tst T L (j + 1) = b + 5 ∧ tpos T L (j + 1 + 1) = b + 6 := by
  obtain ⟨x1, x2, -, -, -, x6, -⟩ := X
  obtain ⟨g0, g1, g2, g3, g4, g5, g6, -⟩ := x6 b hb
  have hbL : b + 14 ≤ L := by omega
  have p4 : tpos T L (j + 1) = b + 4 := by
    rw [tpos_s, hj]
    unfold tokE
    rw [if_pos (by omega), if_pos (le_c g0 (by decide)), run_on (by omega) (wo_c (le_c g0 (by decide))), run_on (by omega) (wo_c (le_c g1 (by decide))), run_on (by omega) (wo_c (le_c g2 (by decide))), run_on (by omega) (wo_c (le_c g3 (by decide))), off_f (nw_c g4 (by decide))]
  have hle := tLe_iff.mp g5
  have t5 : tst T L (j + 1) = b + 5 := by
    unfold tst
    rw [p4, run_on (by omega) (bl_c g4), off_f (nb_c (by show 33 ≤ (T (b + 5)).toInt; omega))]
  refine ⟨t5, ?_⟩
  rw [tpos_s, t5]
  unfold tokE
  rw [if_pos (by omega), if_pos g5, run_on (by omega) (wo_c g5), off_f (nw_c g6 (by decide))]
theorem txp_G (X : TxP T L q) : Gq T L := by
  have X' := X
  obtain ⟨x1, x2, -, -, x5, x6, x7, -⟩ := X
  have t0 : tst T L 0 = 0 := by
    show run (tBl T) L 0 = 0
    exact off_f (nb_c (by rw [(x6 0 (Or.inl rfl)).1]; decide))
  have key : ∀ i, 0 < i → tk T L i = 0 → tst T L i = q ∧ tst T L i < L := by
    intro i hi h0
    obtain ⟨z, l, e, w⟩ := tk_word h0 (by decide)
    have m := (Wd_spec w).2
    rw [tx_0, mb_cons, mb_cons] at m
    simp only [Bool.and_eq_true, decide_eq_true_eq] at m
    refine ⟨?_, z⟩
    have hp : 0 < tst T L i := by
      have := tst_mono (T := T) (L := L) (i := 0) (by omega) (i - 1)
      rw [show 0 + 1 + (i - 1) = i by omega] at this
      omega
    rcases x5 _ z m.1 m.2.1 with h | h
    · omega
    · exact h
  intro i hi h0
  obtain ⟨k1, k2⟩ := key i hi h0
  obtain ⟨a1, a2⟩ := txp_b X' (Or.inl rfl) t0
  obtain ⟨b1, b2⟩ := txp_b X' (Or.inr rfl) k1
  refine ⟨?_, fun k hk h => ?_⟩
  · unfold dup sm
    have e1 : tst T L 1 = 5 := a1
    have e2 : tln T L 1 = 1 := by
      unfold tln
      rw [e1]
      have : tpos T L (1 + 1) = 6 := a2
      omega
    rw [e1, e2, b1, smL_s, decide_eq_false (show ¬ T (5 + 0) = T (q + 5 + 0) from x7), Bool.false_and, Bool.and_false]
  · obtain ⟨j1, -⟩ := key k (by omega) h
    have := tst_mono (T := T) (L := L) (i := i) k2 (k - (i + 1))
    rw [show i + 1 + (k - (i + 1)) = k by omega] at this
    omega
end TQ
