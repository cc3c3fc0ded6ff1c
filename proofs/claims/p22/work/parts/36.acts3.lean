/-! needs 30 31 32 33 34 35 -/
theorem take_run {b c : Nat} {a m : Int32} {A : Mm} (ha : 0 ≤ a.toInt ∧ a.toInt < ((64 : Nat) : Int)) (hc : ix a = c) : ∃ A', f_X1_takeFromStack b a m A = some A' ∧ (∀ i, i ≠ b + 4 → i ≠ b + 5 → i ≠ b + 6 → A' i = A i) ∧ (∀ i k, k ≠ c → A' i k = A i k) ∧ A' (b + 4) c = A (b + 4) c - m ∧ A' (b + 5) c = (if A (b + 4) c - m = 0 then 0 else A (b + 5) c) ∧ A' (b + 6) c = (if A (b + 4) c - m = 0 then 0 else A (b + 6) c) := by
  rw [f_X1_takeFromStack, if_pos ha, if_pos ha, hc, lz_e, if_pos ha, wr_at]
  by_cases h : A (b + 4) c - m = 0
  · simp only [if_pos h, if_pos ha, lz_e]
    refine ⟨_, rfl, fun i h1 h2 h3 => ?_, fun i k hk => ?_, ?_, ?_, ?_⟩
    · rw [wr_ne h3, wr_ne h2, wr_ne h1]
    · rw [wr_o (Or.inr hk), wr_o (Or.inr hk), wr_o (Or.inr hk)]
    · simp (disch := omega) only [wr_r, wr_at]
    · simp (disch := omega) only [wr_r, wr_at]
    · rw [wr_at]
  · simp only [if_neg h]
    refine ⟨_, rfl, fun i h1 h2 h3 => ?_, fun i k hk => ?_, ?_, ?_, ?_⟩
    · rw [wr_ne h1]
    · rw [wr_o (Or.inr hk)]
    · rw [wr_at]
    · rw [wr_ne (by omega)]
    · rw [wr_ne (by omega)]
theorem takeB_run {s c : Nat} {a m : Int32} {B : Mm} (ha : 0 ≤ a.toInt ∧ a.toInt < ((64 : Nat) : Int)) (hc : ix a = c) (hm : 0 ≤ (B (s + 3) c - m).toInt) : ∃ B', f_X10_take s a m B = some B' ∧ (∀ i, i ≠ s + 3 → i ≠ s + 4 → i ≠ s + 5 → B' i = B i) ∧ (∀ i k, k ≠ c → B' i k = B i k) ∧ B' (s + 3) c = B (s + 3) c - m ∧ B' (s + 4) c = (if B (s + 3) c - m = 0 then 0 else B (s + 4) c) ∧ B' (s + 5) c = (if B (s + 3) c - m = 0 then 0 else B (s + 5) c) := by
  have e : (B (s + 3) c - m ≤ 0) ↔ B (s + 3) c - m = 0 := by
    rw [i_le, i_eq]
    show (_ ≤ (0 : Int)) ↔ _ = (0 : Int)
    omega
  rw [f_X10_take, if_pos ha, if_pos ha, hc, lz_e, if_pos ha, wr_at]
  by_cases h : B (s + 3) c - m = 0
  · simp only [if_pos (e.mpr h), if_pos h, if_pos ha, lz_e]
    refine ⟨_, rfl, fun i h1 h2 h3 => ?_, fun i k hk => ?_, ?_, ?_, ?_⟩
    · rw [wr_ne h3, wr_ne h2, wr_ne h1]
    · rw [wr_o (Or.inr hk), wr_o (Or.inr hk), wr_o (Or.inr hk)]
    · simp (disch := omega) only [wr_r, wr_at]
    · simp (disch := omega) only [wr_r, wr_at]
    · rw [wr_at]
  · simp only [if_neg (fun x => h (e.mp x)), if_neg h]
    refine ⟨_, rfl, fun i h1 h2 h3 => ?_, fun i k hk => ?_, ?_, ?_, ?_⟩
    · rw [wr_ne h1]
    · rw [wr_o (Or.inr hk)]
    · rw [wr_at]
    · rw [wr_ne (by omega)]
    · rw [wr_ne (by omega)]
theorem load_run {w b q g s c pa : Nat} {A B : Mm} {v : Int32} (hR : Rd w b q g s A B) (hI : InvC b A) (h3 : A w 3 = nI (0 + 1)) (hv : A (w + 1) 0 = v) (hc : ix (A q 1 * (8 : Int32) + A q 0) = c) :
    ∃ A' B' r, f_X8_load w (nI pa) A = some (1, A') ∧ f_X11_load 69 s (nI (10 * g)) (A q 1 * (8 : Int32) + A q 0) v B = some (r, B') ∧ ActOK w b q g s pa A B A' (misB s g r B') := by
  have hcell := hR.cell
  have hc64 : c < 64 := by rw [← hc]; exact ix_lt hcell
  obtain ⟨A1, p1, p2, p3, p4⟩ := pop_run (h := 0) h3 (by omega)
  have hR1 := hR.kept p2 (B' := B) (fun _ _ _ => rfl)
  have hw := hR.1.1
  have hg := hR.1.2.1
  have hq := hR.1.2.2.1
  have hs := hR.2.1
  unfold Wb at hw
  unfold Ws at hs
  have eA : ∀ i, i ≠ w → i ≠ w + 1 → A1 i = A i := p2.1
  have eb : ∀ k, k ≤ 17 → A1 (b + k) = A (b + k) := fun k hk => eA _ (by omega) (by omega)
  have eq : A1 q = A q := eA q (by omega) (by omega)
  obtain ⟨c1, c2, c3, c4, c5⟩ := hR.2.2.1 c hc64
  obtain ⟨i1, i2, i3⟩ := hI c hc64
  have hI1 : InvC b A1 := by intro k hk; rw [eb 4 (by omega), eb 5 (by omega), eb 6 (by omega)]; exact hI k hk
  obtain ⟨g0, g1, g2, g3, g5, g6, g7, g8, g9⟩ := hR.2.2.2.2.2.1
  obtain ⟨v0, v1, v2, v3⟩ := hR.2.2.2.2.2.2.1
  have e40 : ((40 : Int32) - A q 2).toInt = 40 - (A q 2).toInt := i_sub (by show -2147483648 ≤ 40 - (A q 2).toInt; omega) (by show 40 - (A q 2).toInt < 2147483648; omega)
  generalize hown : imin v (imin (A (b + 4) c) ((40 : Int32) - A q 2)) = own
  have hownB : imin v (imin (B (s + 3) c) ((40 : Int32) - B (s + 6) (10 * g + 2))) = own := by rw [← hown, ← c3, ← g2]
  have hle : own.toInt ≤ 40 - (A q 2).toInt ∧ own.toInt ≤ (A (b + 4) c).toInt := by
    rw [← hown, ← e40]
    simp only [imin_i]
    repeat' split
    all_goals omega
  have hL : f_X8_load w (nI pa) A = bd2 (bd1 (if own ≤ 0 then some A1 else bd1 (f_X2_addToCart q own (A1 (b + 5) c) A1) fun M18 => f_X1_takeFromStack b (A q 1 * (8 : Int32) + A q 0) own M18) fun M24 => f_X8_endHour w (nI pa) own M24) fun x25 M26 => some (x25, M26) := by
    rw [f_X8_load, if_pos hR.1.okr, if_pos hR.1.okr, hR.1.rid, hR.1.1.wbog, lz_e, f_X9_cellAt, p1, bd2_e, if_pos hcell, if_pos hR1.1.okr, hc, hR1.1.rid, eb 4 (by omega), eq, lz_e, hv, hown]
    by_cases h0 : own ≤ 0
    · rw [if_pos h0, if_pos h0, bd1_e, bd1_e]
    · rw [if_neg h0, if_neg h0, if_pos hR1.1.okr, if_pos hcell]
      cases f_X2_addToCart q own (A1 (b + 5) c) A1 with
      | none => rfl
      | some M18 =>
        rw [bd1_e, bd1_e]
        cases f_X1_takeFromStack b (A q 1 * (8 : Int32) + A q 0) own M18 <;> rfl
  have k0 : (10 : Nat) * g + 2 < 40 := by omega
  have k1 : (10 : Nat) * g + 3 < 40 := by omega
  by_cases h0 : own ≤ 0
  · obtain ⟨A', f1, f2⟩ := fin_act (A := A) (B := B) (pa := pa) (n := own) (r := 0) hR1 hI1 (p2.ef hR.1.1) (EfB.refl s g B) (eA _ (by omega) (by omega)) rfl rfl ⟨fun h => by rw [i_lt] at h; rw [i_le] at h0; exact absurd h (Int.not_lt.mpr h0), fun h => absurd rfl h⟩
    refine ⟨A', B, 0, ?_, ?_, f2⟩
    · rw [hL, if_pos h0, bd1_e, f1, bd2_e]
    · rw [f_X11_load, if_pos hcell, ga2, if_pos (inN k0), hc, ixn (by omega), lz_e, hownB, if_neg (by rw [i_lt]; rw [i_le] at h0; exact Int.not_lt.mpr h0)]
  · have hp : 0 < own.toInt := by rw [i_le] at h0; exact Int.not_le.mp h0
    have hs0 : (A q 2 + own).toInt = (A q 2).toInt + own.toInt := i_add (by omega) (by omega)
    have hz : ¬ A q 2 + own = 0 := by rw [i_eq, hs0]; show ¬ _ = (0 : Int); omega
    have hd : (A (b + 4) c - own).toInt = (A (b + 4) c).toInt - own.toInt := i_sub (by omega) (by omega)
    -- the class
    have hcart : f_X2_addToCart q own (A1 (b + 5) c) A1 = some (wr (wr A1 q 3 ((A q 3 * A q 2 + A (b + 5) c * own) / (A q 2 + own))) q 2 (A q 2 + own)) := by
      rw [f_X2_addToCart, f_X9_mixed, eq, if_neg hz, if_pos hz, bd1_e, lz_e, lz_e, wr_col (by decide), eq, eb 5 (by omega)]
    obtain ⟨A2, t1, t2, t3, t4, t5, t6⟩ := take_run (m := own) (A := wr (wr A1 q 3 ((A q 3 * A q 2 + A (b + 5) c * own) / (A q 2 + own))) q 2 (A q 2 + own)) (b := b) hcell hc
    rw [wr_ne (show b + 4 ≠ q by omega), wr_ne (show b + 4 ≠ q by omega), eb 4 (by omega)] at t4
    rw [wr_ne (show b + 4 ≠ q by omega), wr_ne (show b + 4 ≠ q by omega), wr_ne (show b + 5 ≠ q by omega), wr_ne (show b + 5 ≠ q by omega), eb 4 (by omega), eb 5 (by omega)] at t5
    rw [wr_ne (show b + 4 ≠ q by omega), wr_ne (show b + 4 ≠ q by omega), wr_ne (show b + 6 ≠ q by omega), wr_ne (show b + 6 ≠ q by omega), eb 4 (by omega), eb 6 (by omega)] at t6
    have dA : ∀ i, i ≠ w → i ≠ w + 1 → i ≠ q → i ≠ b + 4 → i ≠ b + 5 → i ≠ b + 6 → A2 i = A i := by
      intro i h1 h2 h3 h4 h5 h6
      rw [t2 i h4 h5 h6, wr_ne h3, wr_ne h3, eA i h1 h2]
    have dq : A2 q = wr (wr A1 q 3 ((A q 3 * A q 2 + A (b + 5) c * own) / (A q 2 + own))) q 2 (A q 2 + own) q := t2 q (by omega) (by omega) (by omega)
    have dq2 : A2 q 2 = A q 2 + own := by rw [dq, wr_at]
    have dq3 : A2 q 3 = (A q 3 * A q 2 + A (b + 5) c * own) / (A q 2 + own) := by rw [dq, wr_col (by decide), wr_at]
    have dqj : ∀ j, j ≠ 2 → j ≠ 3 → A2 q j = A q j := by intro j h1 h2; rw [dq, wr_col h1, wr_col h2, eq]
    have xA : ∀ r k, r = 1 ∨ r = 3 ∨ r = 4 ∨ r = 5 ∨ r = 6 → k ≠ c → A2 (b + r) k = A (b + r) k := by
      intro r k hr hk
      rw [t3 _ k hk, wr_ne (by omega), wr_ne (by omega), eb r (by omega)]
    -- the reference
    obtain ⟨B2, u1, u2, u3, u4, u5, u6⟩ := takeB_run (s := s) (m := own) (B := wr (wr B (s + 6) (10 * g + 3) ((B (s + 6) (10 * g + 3) * B (s + 6) (10 * g + 2) + B (s + 4) c * own) / (B (s + 6) (10 * g + 2) + own))) (s + 6) (10 * g + 2) (B (s + 6) (10 * g + 2) + own)) hcell hc (by rw [wr_ne (by omega), wr_ne (by omega), ← c3, hd]; omega)
    rw [wr_ne (show s + 3 ≠ s + 6 by omega), wr_ne (show s + 3 ≠ s + 6 by omega)] at u4
    rw [wr_ne (show s + 3 ≠ s + 6 by omega), wr_ne (show s + 3 ≠ s + 6 by omega), wr_ne (show s + 4 ≠ s + 6 by omega), wr_ne (show s + 4 ≠ s + 6 by omega)] at u5
    rw [wr_ne (show s + 3 ≠ s + 6 by omega), wr_ne (show s + 3 ≠ s + 6 by omega), wr_ne (show s + 5 ≠ s + 6 by omega), wr_ne (show s + 5 ≠ s + 6 by omega)] at u6
    have dB : ∀ i, i ≠ s + 6 → i ≠ s + 3 → i ≠ s + 4 → i ≠ s + 5 → B2 i = B i := by
      intro i h1 h2 h3 h4
      rw [u2 i h2 h3 h4, wr_ne h1, wr_ne h1]
    have d6 : B2 (s + 6) = _ := u2 (s + 6) (by omega) (by omega) (by omega)
    have d6j : ∀ k, k ≠ 10 * g + 2 → k ≠ 10 * g + 3 → B2 (s + 6) k = B (s + 6) k := by intro k h1 h2; rw [d6, wr_col h1, wr_col h2]
    have d62 : B2 (s + 6) (10 * g + 2) = A2 q 2 := by rw [d6, wr_at, dq2, g2]
    have d63 : B2 (s + 6) (10 * g + 3) = A2 q 3 := by rw [d6, wr_col (by omega), wr_at, dq3, g2, g3, c4]
    have xB : ∀ r k, r = 1 ∨ r = 2 ∨ r = 3 ∨ r = 4 ∨ r = 5 → k ≠ c → B2 (s + r) k = B (s + r) k := by
      intro r k hr hk
      rw [u3 _ k hk, wr_ne (by omega), wr_ne (by omega)]
    have hG : SimG q s g A2 B2 := by
      refine ⟨?_, ?_, d62.symm, d63.symm, ?_, ?_, ?_, ?_, ?_⟩
      · rw [dqj 0 (by decide) (by decide), d6j _ (by omega) (by omega)]; exact g0
      · rw [dqj 1 (by decide) (by decide), d6j _ (by omega) (by omega)]; exact g1
      · rw [dqj 4 (by decide) (by decide), d6j _ (by omega) (by omega)]; exact g5
      · rw [dqj 5 (by decide) (by decide), d6j _ (by omega) (by omega)]; exact g6
      · rw [dqj 6 (by decide) (by decide), d6j _ (by omega) (by omega)]; exact g7
      · rw [dqj 7 (by decide) (by decide), d6j _ (by omega) (by omega)]; exact g8
      · rw [dqj 8 (by decide) (by decide), d6j _ (by omega) (by omega)]; exact g9
    have hR2 : Rd w b q g s A2 B2 := by
      refine hR.build (c := c) ?_ xA xB ?_ ?_ (by rw [dA b (by omega) (by omega) (by omega) (by omega) (by omega) (by omega)]) (fun k hk => dA _ (by omega) (by omega) (by omega) (by omega) (by omega) (by omega)) (fun k hk => dB _ (by omega) (by omega) (by omega) (by omega)) hG ?_
      · rw [t2 w (by omega) (by omega) (by omega), wr_ne (by omega), wr_ne (by omega)]; exact p2.2 1 (by decide)
      · rw [dA (b + 1) (by omega) (by omega) (by omega) (by omega) (by omega) (by omega), dA (b + 3) (by omega) (by omega) (by omega) (by omega) (by omega) (by omega), dB (s + 1) (by omega) (by omega) (by omega) (by omega), dB (s + 2) (by omega) (by omega) (by omega) (by omega), t4, t5, t6, u4, u5, u6, ← c3, ← c4, ← c5]
        exact ⟨c1, c2, rfl, rfl, rfl⟩
      · unfold SimS
        rw [dA b (by omega) (by omega) (by omega) (by omega) (by omega) (by omega), dB s (by omega) (by omega) (by omega) (by omega)]
        exact hR.2.2.2.1
      · unfold InvG
        rw [dqj 0 (by decide) (by decide), dqj 1 (by decide) (by decide), dqj 4 (by decide) (by decide), dq2, hs0]
        exact ⟨v0, v1, by omega, v3⟩
    have hI2 : InvC b A2 := hI.at (fun r k hr hk => xA r k (by omega) hk) (by
      rw [t4, t5, t6, hd]
      refine ⟨by omega, ?_, fun h => by rw [if_pos h]⟩
      split
      · exact Or.inl rfl
      · exact i2)
    obtain ⟨A', f1, f2⟩ := fin_act (A := A) (B := B) (pa := pa) (n := own) (r := 1) hR2 hI2
      ⟨fun i h1 h2 _ _ h4 h5 h6 h7 _ => dA i h1 h2 h7 h4 h5 h6, fun j _ _ _ => by rw [dA b (by omega) (by omega) (by omega) (by omega) (by omega) (by omega)], fun j h _ => by rw [t2 w (by omega) (by omega) (by omega), wr_ne (by omega), wr_ne (by omega)]; exact p2.2 j h⟩
      ⟨fun i _ _ _ _ h4 h5 h6 h7 _ => dB i h7 h4 h5 h6, fun j _ => by rw [dB 69 (by omega) (by omega) (by omega) (by omega)], fun j _ _ _ => by rw [dB s (by omega) (by omega) (by omega) (by omega)], fun k hk => d6j k (by omega) (by omega), fun k _ => by rw [dB (s + 7) (by omega) (by omega) (by omega) (by omega)]⟩
      (dA _ (by omega) (by omega) (by omega) (by omega) (by omega) (by omega)) (dB _ (by omega) (by omega) (by omega) (by omega)) (d6j _ (by omega) (by omega)) ⟨fun _ => by decide, fun _ => by rw [i_lt]; exact hp⟩
    refine ⟨A', B2, 1, ?_, ?_, f2⟩
    · rw [hL, if_neg h0, hcart, bd1_e, t1, bd1_e, f1, bd2_e]
    · have hzB : ¬ B (s + 6) (10 * g + 2) + own = 0 := by rw [← g2]; exact hz
      rw [f_X11_load, if_pos hcell, ga2, if_pos (inN k0), hc, ixn (show 10 * g + 2 < 2147483648 by omega), lz_e, hownB, if_pos (by rw [i_lt]; exact hp), ga3, if_pos (inN k1), if_pos (inN k0), ixn (show 10 * g + 3 < 2147483648 by omega), lz_e, if_pos hcell, if_pos (inN k0), if_pos hzB, lz_e, if_pos (inN k1), lz_e, if_pos (inN k0), if_pos (inN k0), wr_col (show 10 * g + 2 ≠ 10 * g + 3 by omega), lz_e, u1, bd1_e]
