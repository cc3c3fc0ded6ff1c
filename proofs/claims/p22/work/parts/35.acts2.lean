/-! needs 30 31 32 33 34 -/
def posB (s g : Nat) (v : Int32) (B : Mm) : Mm := wr B (s + 6) (10 * g + 4) v
theorem posB_r {s g i : Nat} {v : Int32} {B : Mm} (h : i ≠ s + 6) : posB s g v B i = B i := wr_ne h
theorem posB_c {s g k : Nat} {v : Int32} {B : Mm} (h : k ≠ 10 * g + 4) : posB s g v B (s + 6) k = B (s + 6) k := wr_col h
theorem Rd.pos {w b q g s : Nat} {A B : Mm} (h : Rd w b q g s A B) (v : Int32) : Rd w b q g s A (posB s g v B) := by
  refine h.gang (fun _ _ => rfl) (fun i hi => posB_r hi) ?_ h.2.2.2.2.2.2.1
  have hG := h.2.2.2.2.2.1
  unfold SimG
  rw [posB_c (by omega), posB_c (by omega), posB_c (by omega), posB_c (by omega), posB_c (by omega), posB_c (by omega), posB_c (by omega), posB_c (by omega), posB_c (by omega)]
  exact hG
theorem EfB.pos {s : Nat} (hs : Ws s) (g : Nat) (v : Int32) (B : Mm) : EfB s g B (posB s g v B) :=
  ⟨fun i _ _ _ _ _ _ _ h _ => posB_r h, fun j _ => by rw [posB_r (by unfold Ws at hs; omega)], fun j _ _ _ => by rw [posB_r (by omega)], fun k hk => posB_c (by omega), fun k _ => by rw [posB_r (by omega)]⟩
/-- Rd behind changes of one cell, of the gang and of the scalars -/
theorem Rd.build {w b q g s c : Nat} {A B A' B' : Mm} (h : Rd w b q g s A B) (hw1 : A' w 1 = A w 1)
    (xA : ∀ r k, r = 1 ∨ r = 3 ∨ r = 4 ∨ r = 5 ∨ r = 6 → k ≠ c → A' (b + r) k = A (b + r) k) (xB : ∀ r k, r = 1 ∨ r = 2 ∨ r = 3 ∨ r = 4 ∨ r = 5 → k ≠ c → B' (s + r) k = B (s + r) k)
    (hc : A' (b + 1) c = B' (s + 1) c ∧ A' (b + 3) c = B' (s + 2) c ∧ A' (b + 4) c = B' (s + 3) c ∧ A' (b + 5) c = B' (s + 4) c ∧ A' (b + 6) c = B' (s + 5) c)
    (hS : SimS b s A' B') (h8 : A' b 8 = A b 8) (hA : ∀ k, k = 7 ∨ k = 8 → A' (b + k) = A (b + k)) (hB : ∀ k, k = 72 ∨ k = 73 → B' k = B k) (hG : SimG q s g A' B') (hI : InvG q A') : Rd w b q g s A' B' := by
  obtain ⟨⟨h1, h2, h3, h4⟩, hs, hC, -, hW, -, -, hD⟩ := h
  refine ⟨⟨h1, h2, h3, by rw [hw1]; exact h4⟩, hs, hC.at xA xB hc, hS, ?_, hG, hI, by rw [h8]; exact hD⟩
  intro k hk
  rw [hA 7 (Or.inl rfl), hA 8 (Or.inr rfl), hB 72 (Or.inl rfl), hB 73 (Or.inr rfl)]
  exact hW k hk
theorem turn_run {w b q g s c pa : Nat} {A B : Mm} {nb : Int32} (hR : Rd w b q g s A B) (hI : InvC b A) (hc : ix (A q 1 * (8 : Int32) + A q 0) = c) :
    ∃ A' B' r, f_X8_turn w (nI pa) A = some (1, A') ∧ r = (if B (s + 3) c ≤ 0 then 0 else 1) ∧ B' = posB s g nb (if r = 0 then B else wr B (s + 5) c 1) ∧ ActOK w b q g s pa A (posB s g nb B) A' (misB s g r B') := by
  have hcell := hR.cell
  have hc64 : c < 64 := by rw [← hc]; exact ix_lt hcell
  have hw := hR.1.1
  have hg := hR.1.2.1
  have hq := hR.1.2.2.1
  have hs := hR.2.1
  unfold Wb at hw
  unfold Ws at hs
  obtain ⟨c1, c2, c3, c4, c5⟩ := hR.2.2.1 c hc64
  obtain ⟨i1, i2, i3⟩ := hI c hc64
  have hT : f_X8_turn w (nI pa) A = bd2 (f_X8_endHour w (nI pa) (A (b + 4) c) (if A (b + 4) c ≤ 0 then A else wr A (b + 6) c 1)) fun x14 M15 => some (x14, M15) := by
    rw [f_X8_turn, if_pos hR.1.okr, if_pos hR.1.okr, hR.1.rid, hR.1.1.wbog, lz_e, f_X9_cellAt, if_pos hcell, hc, if_pos hcell]
    by_cases h0 : A (b + 4) c ≤ 0
    · rw [if_pos h0, if_pos h0, bd1_e, if_pos hcell]
    · rw [if_neg h0, if_neg h0, lz_e, bd1_e, if_pos hcell, wr_ne (show b + 4 ≠ b + 6 by omega)]
  by_cases h0 : A (b + 4) c ≤ 0
  · obtain ⟨A', f1, f2⟩ := fin_act (A := A) (B := posB s g nb B) (pa := pa) (n := A (b + 4) c) (r := 0) (hR.pos nb) hI (EfA.refl w b q A) (EfB.refl s g _) rfl rfl rfl ⟨fun h => by rw [i_lt] at h; rw [i_le] at h0; exact absurd h (Int.not_lt.mpr h0), fun h => absurd rfl h⟩
    refine ⟨A', posB s g nb B, 0, ?_, by rw [← c3, if_pos h0], by rw [if_pos rfl], f2⟩
    rw [hT, if_pos h0, f1, bd2_e]
  · generalize hA2 : wr A (b + 6) c 1 = A2
    generalize hB2 : posB s g nb (wr B (s + 5) c 1) = B2
    have dA : ∀ i, i ≠ b + 6 → A2 i = A i := by intro i hi; rw [← hA2]; exact wr_ne hi
    have dB : ∀ i, i ≠ s + 5 → i ≠ s + 6 → B2 i = B i := by intro i h1 h2; rw [← hB2, posB_r h2, wr_ne h1]
    have d6 : ∀ k, k ≠ 10 * g + 4 → B2 (s + 6) k = B (s + 6) k := by intro k hk; rw [← hB2, posB_c hk, wr_ne (by omega)]
    have a6 : A2 (b + 6) c = 1 := by rw [← hA2, wr_at]
    have b5 : B2 (s + 5) c = 1 := by rw [← hB2, posB_r (by omega), wr_at]
    have xA : ∀ r k, r = 1 ∨ r = 3 ∨ r = 4 ∨ r = 5 ∨ r = 6 → k ≠ c → A2 (b + r) k = A (b + r) k := by
      intro r k hr hk
      rw [← hA2]
      rcases hr with rfl | rfl | rfl | rfl | rfl <;> simp (disch := omega) only [wr_r, wr_col]
    have xB : ∀ r k, r = 1 ∨ r = 2 ∨ r = 3 ∨ r = 4 ∨ r = 5 → k ≠ c → B2 (s + r) k = B (s + r) k := by
      intro r k hr hk
      rw [← hB2, posB_r (by omega)]
      rcases hr with rfl | rfl | rfl | rfl | rfl <;> simp (disch := omega) only [wr_r, wr_col]
    have hG : SimG q s g A2 B2 := by
      have hG := hR.2.2.2.2.2.1
      unfold SimG
      rw [dA q (by omega), d6 _ (by omega), d6 _ (by omega), d6 _ (by omega), d6 _ (by omega), d6 _ (by omega), d6 _ (by omega), d6 _ (by omega), d6 _ (by omega), d6 _ (by omega)]
      exact hG
    have hR2 : Rd w b q g s A2 B2 := by
      refine hR.build (c := c) (by rw [dA w (by omega)]) xA xB ?_ ?_ (by rw [dA b (by omega)]) (fun k hk => dA _ (by omega)) (fun k hk => dB _ (by omega) (by omega)) hG ?_
      · rw [a6, b5, dA (b + 1) (by omega), dA (b + 3) (by omega), dA (b + 4) (by omega), dA (b + 5) (by omega), dB (s + 1) (by omega) (by omega), dB (s + 2) (by omega) (by omega), dB (s + 3) (by omega) (by omega), dB (s + 4) (by omega) (by omega)]
        exact ⟨c1, c2, c3, c4, rfl⟩
      · unfold SimS
        rw [dA b (by omega), dB s (by omega) (by omega)]
        exact hR.2.2.2.1
      · unfold InvG
        rw [dA q (by omega)]
        exact hR.2.2.2.2.2.2.1
    have hI2 : InvC b A2 := hI.at (fun r k hr hk => xA r k (by omega) hk) (by
      rw [a6, dA (b + 4) (by omega), dA (b + 5) (by omega)]
      exact ⟨i1, Or.inr rfl, i3⟩)
    obtain ⟨A', f1, f2⟩ := fin_act (A := A) (B := posB s g nb B) (pa := pa) (n := A (b + 4) c) (r := 1) hR2 hI2
      ⟨fun i _ _ _ _ _ _ h _ _ => dA i h, fun j _ _ _ => by rw [dA b (by omega)], fun j _ _ => by rw [dA w (by omega)]⟩
      ⟨fun i _ _ _ _ _ _ h1 h2 _ => by rw [dB i h1 h2, posB_r h2], fun j _ => by rw [dB 69 (by omega) (by omega), posB_r (by omega)], fun j _ _ _ => by rw [dB s (by omega) (by omega), posB_r (by omega)], fun k hk => by rw [d6 k (by omega), posB_c (by omega)], fun k _ => by rw [dB (s + 7) (by omega) (by omega), posB_r (by omega)]⟩
      (dA _ (by omega)) (by rw [dB _ (by omega) (by omega), posB_r (by omega)]) (by rw [← hB2]; unfold posB; rw [wr_at, wr_at]) ⟨fun _ => by decide, fun _ => by rw [i_lt]; rw [i_le] at h0; exact Int.not_le.mp h0⟩
    refine ⟨A', B2, 1, ?_, by rw [← c3, if_neg h0], by rw [← hB2]; rfl, f2⟩
    rw [hT, if_neg h0, hA2, f1, bd2_e]
/-- waiting -/
theorem imax_wait (v : Int32) : imax (1 : Int32) v - 1 = if v ≤ 1 then 0 else v - 1 := by
  unfold imax
  simp only [i_le, i_lt]
  by_cases h : (1 : Int32).toInt < v.toInt
  · rw [if_pos h, if_neg (Int.not_le.mpr h)]
  · rw [if_neg h, if_pos (Int.not_lt.mp h)]; rfl
theorem wait_run {w b q g s pa : Nat} {A B : Mm} {v : Int32} (hR : Rd w b q g s A B) (hI : InvC b A) (h3 : A w 3 = nI (0 + 1)) (hv : A (w + 1) 0 = v) :
    ∃ A', f_X8_rest w (nI pa) A = some (1, A') ∧ ActOK w b q g s pa A B A' (wr B (s + 6) (10 * g + 9) (if v ≤ 1 then 0 else v - 1)) := by
  obtain ⟨A1, p1, p2, p3, p4⟩ := pop_run (h := 0) h3 (by omega)
  have hR1 := hR.kept p2 (B' := B) (fun _ _ _ => rfl)
  have hw := hR.1.1
  have hg := hR.1.2.1
  have hq := hR.1.2.2.1
  have hs := hR.2.1
  unfold Wb at hw
  unfold Ws at hs
  have eA : ∀ i, i ≠ w → i ≠ w + 1 → A1 i = A i := p2.1
  obtain ⟨g0, g1, g2, g3, g5, g6, g7, g8, g9⟩ := hR1.2.2.2.2.2.1
  generalize hA2 : wr (wr A1 q 8 (imax 1 v - 1)) q 9 (nI (pa + 1)) = A2
  have dA : ∀ i, i ≠ q → A2 i = A1 i := by intro i hi; rw [← hA2, wr_ne hi, wr_ne hi]
  have dq : ∀ j, j ≠ 8 → j ≠ 9 → A2 q j = A1 q j := by intro j h1 h2; rw [← hA2, wr_col h2, wr_col h1]
  generalize hB2 : wr B (s + 6) (10 * g + 9) (if v ≤ 1 then 0 else v - 1) = B2
  have dB : ∀ i, i ≠ s + 6 → B2 i = B i := by intro i hi; rw [← hB2, wr_ne hi]
  have d6 : ∀ k, k ≠ 10 * g + 9 → B2 (s + 6) k = B (s + 6) k := by intro k hk; rw [← hB2, wr_col hk]
  have q8 : A2 q 8 = B2 (s + 6) (10 * g + 9) := by rw [← hA2, ← hB2, wr_at, wr_col (by decide), wr_at, imax_wait]
  have hR2 : Rd w b q g s A2 B2 := by
    refine hR1.gang dA dB ?_ ?_
    · unfold SimG
      rw [q8, dq 0 (by decide) (by decide), dq 1 (by decide) (by decide), dq 2 (by decide) (by decide), dq 3 (by decide) (by decide), dq 4 (by decide) (by decide), dq 5 (by decide) (by decide), dq 6 (by decide) (by decide), dq 7 (by decide) (by decide), d6 (10 * g) (by omega), d6 (10 * g + 1) (by omega), d6 (10 * g + 2) (by omega), d6 (10 * g + 3) (by omega), d6 (10 * g + 5) (by omega), d6 (10 * g + 6) (by omega), d6 (10 * g + 7) (by omega), d6 (10 * g + 8) (by omega)]
      exact ⟨g0, g1, g2, g3, g5, g6, g7, g8, rfl⟩
    · unfold InvG
      rw [dq 0 (by decide) (by decide), dq 1 (by decide) (by decide), dq 2 (by decide) (by decide), dq 4 (by decide) (by decide)]
      exact hR1.2.2.2.2.2.2.1
  refine ⟨A2, ?_, hR2, ?_, ?_, ?_, ?_, ?_, ?_, ?_⟩
  · have hA2' : AtG w b q g (wr A1 q 8 (imax 1 v - 1)) := ⟨hR1.1.1, hR1.1.2.1, hR1.1.2.2.1, by rw [wr_ne (by omega)]; exact hR1.1.2.2.2⟩
    rw [f_X8_rest, if_pos hR.1.okr, p1, bd2_e, hR.1.rid, hv, lz_e, if_pos hA2'.okr, hA2'.rid, lz_e, n_suc, hA2]
  · intro k hk
    rw [dA (b + 4) (by omega), dA (b + 5) (by omega), dA (b + 6) (by omega), eA (b + 4) (by omega) (by omega), eA (b + 5) (by omega) (by omega), eA (b + 6) (by omega) (by omega)]
    exact hI k hk
  · exact (p2.ef hR.1.1).trans ⟨fun i _ _ _ _ _ _ _ h _ => dA i h, fun j _ _ _ => by rw [dA b (by omega)], fun j _ _ => by rw [dA w (by omega)]⟩
  · exact ⟨fun i _ _ _ _ _ _ _ h _ => dB i h, fun j _ => by rw [dB 69 (by omega)], fun j _ _ _ => by rw [dB s (by omega)], fun k hk => d6 k (by omega), fun k _ => by rw [dB (s + 7) (by omega)]⟩
  · rw [dA _ (by omega), eA _ (by omega) (by omega)]
  · rw [dB _ (by omega)]
  · rw [d6 _ (by omega)]
  · rw [← hA2, wr_at]
