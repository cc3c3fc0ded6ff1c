/-! needs 30 31 44 45 46 82 -/
/-! a night keeps the bounds and the sum -/
def TB (b : Nat) (A : Mm) : Int32 := sumL (A (b + 4)) 64 0 + A b 10 + A b 11 + A b 12 - A b 13
theorem held_in (a : Int32) {m : Int32} (hm : 0 ≤ m.toInt) : 0 ≤ (f_X9_held a m).toInt ∧ (f_X9_held a m).toInt ≤ m.toInt := by
  unfold f_X9_held imax
  have h := imin_b m a
  by_cases c : (0 : Int32) < imin m a
  · rw [if_pos c]; rw [i_lt] at c; have : (0 : Int32).toInt = 0 := rfl; omega
  · rw [if_neg c]; have : (0 : Int32).toInt = 0 := rfl; omega
theorem wet_in (w t r s : Int32) : 0 ≤ (f_X9_wetnessBehindNight w t r s).toInt ∧ (f_X9_wetnessBehindNight w t r s).toInt ≤ 20 := by
  unfold f_X9_wetnessBehindNight
  simp only [lz_e]
  exact held_in _ (m := 20) (by decide)
theorem sumL_sub {f g d : Nat → Int32} : ∀ (k j : Nat), (∀ c, j ≤ c → c < j + k → g c = f c - d c) → sumL g k j = sumL f k j - sumL d k j
  | 0, j, _ => by show (0 : Int32) = 0 - 0; decide
  | k + 1, j, h => by
    show g j + sumL g k (j + 1) = f j + sumL f k (j + 1) - (d j + sumL d k (j + 1))
    rw [h j (Nat.le_refl _) (by omega), sumL_sub k (j + 1) (fun c h1 h2 => h c (by omega) (by omega))]
    grind
theorem tenth {x : Int32} (h : 0 ≤ x.toInt) : (x / 10).toInt = x.toInt / 10 := i_div h (by decide)
theorem dry_bd {b : Nat} {A A' : Mm} {rn sn : Int32} (h : BdC b A) (hp : DryP (b + 4) (b + 5) (b + 6) b 12 b rn sn 64 0 A A') : BdC b A' ∧ TB b A' = TB b A := by
  obtain ⟨p1, p2, p3, p4, p5⟩ := hp
  refine ⟨⟨fun k hk => ?_, ?_⟩, ?_⟩
  · obtain ⟨b1, b2, b3, b4, b5⟩ := h.1 k hk
    obtain ⟨e4, e5, e6⟩ := p1 k (by omega) (by omega)
    rw [p3 (b + 1) (by omega) (by omega) (by omega) (by omega) (by omega), p3 (b + 3) (by omega) (by omega) (by omega) (by omega) (by omega), e4, e5, e6]
    refine ⟨b1, b2, ?_⟩
    have z0 : (0 : Int32).toInt = 0 := rfl
    by_cases c : A (b + 4) k ≤ 0
    · have hz : A (b + 4) k = 0 := by rw [i_le] at c; rw [i_eq]; omega
      have hd : dL (A (b + 4)) (A (b + 5)) (A (b + 6)) rn sn k = 0 := by unfold dL; rw [if_pos c]
      have hw : dW (A (b + 4)) (A (b + 5)) (A (b + 6)) rn sn k = A (b + 5) k := by unfold dW; rw [if_pos c]
      have ht : dT (A (b + 4)) (A (b + 6)) k = A (b + 6) k := by unfold dT; rw [if_pos c]
      rw [hd, hw, ht, show A (b + 4) k - 0 = A (b + 4) k by simp]
      exact ⟨b3, b4, b5⟩
    · have hpos := pos_i c
      have hw : dW (A (b + 4)) (A (b + 5)) (A (b + 6)) rn sn k = f_X9_wetnessBehindNight (A (b + 5) k) (if A (b + 6) k = 0 then 0 else 1) rn sn := by unfold dW; rw [if_neg c]
      have hv : 0 ≤ (dL (A (b + 4)) (A (b + 5)) (A (b + 6)) rn sn k).toInt ∧ (dL (A (b + 4)) (A (b + 5)) (A (b + 6)) rn sn k).toInt < (A (b + 4) k).toInt := by
        unfold dL
        rw [if_neg c]
        split
        · rw [tenth (by omega)]; omega
        · exact ⟨by decide, by rw [z0]; exact hpos⟩
      have es : (A (b + 4) k - dL (A (b + 4)) (A (b + 5)) (A (b + 6)) rn sn k).toInt = (A (b + 4) k).toInt - (dL (A (b + 4)) (A (b + 5)) (A (b + 6)) rn sn k).toInt := i_sub (by omega) (by omega)
      rw [hw]
      refine ⟨by rw [es]; omega, wet_in _ _ _ _, fun z => ?_⟩
      have := congrArg Int32.toInt z
      rw [es, z0] at this
      omega
  · rw [p3 (b + 1) (by omega) (by omega) (by omega) (by omega) (by omega)]; exact h.2
  · unfold TB
    rw [sumL_sub (f := A (b + 4)) (g := A' (b + 4)) (d := dL (A (b + 4)) (A (b + 5)) (A (b + 6)) rn sn) 64 0 (fun c h1 h2 => (p1 c h1 h2).1), p4 10 (by decide), p4 11 (by decide), p4 13 (by decide), p5]
    grind
theorem TB.congr {b : Nat} {A A' : Mm} (h4 : A' (b + 4) = A (b + 4)) (h : ∀ j, 10 ≤ j → j ≤ 13 → A' b j = A b j) : TB b A' = TB b A := by
  unfold TB
  rw [h4, h 10 (by omega) (by omega), h 11 (by omega) (by omega), h 12 (by omega) (by omega), h 13 (by omega) (by omega)]
theorem end_bd {b : Nat} {A A' : Mm} (h : f_X1_endHour b A = some A') (hd : 0 ≤ (A b 8).toInt) (hB : BdC b A) : BdC b A' ∧ TB b A' = TB b A := by
  rw [f_X1_endHour] at h
  obtain ⟨M1, e1, h⟩ := lz_s h
  have r1 : ∀ i, i ≠ b → M1 i = A i := fun i hi => by rw [e1, wr_ne hi]
  have c1 : ∀ j, j ≠ 9 → M1 b j = A b j := fun j hj => by rw [e1, wr_col hj]
  have B1 : BdC b M1 ∧ TB b M1 = TB b A := ⟨hB.congr (fun i hi => r1 _ (by omega)), TB.congr (r1 _ (by omega)) (fun j h1 h2 => c1 j (by omega))⟩
  have hh := it_c h; clear h; rcases hh with ⟨hsp, h⟩ | ⟨hsp, h⟩
  · obtain ⟨M4, h4, h⟩ := bd1_s h
    obtain ⟨M7, h7, h⟩ := bd1_s h
    obtain ⟨x10, -, h⟩ := lz_s h
    obtain ⟨M17, h17, h⟩ := bd1_s h
    obtain ⟨M18, e18, h⟩ := lz_s h
    obtain ⟨M20, e20, h⟩ := lz_s h
    cases h
    rw [f_X1_dryStacks] at h4
    obtain ⟨M5, h5, h4⟩ := bd1_s h4
    cases h4
    obtain ⟨D1, d1, d2⟩ := dry_run (b := b) 64 0 FU M1 (by omega) (by unfold FU; omega) (by rw [c1 8 (by decide)]; exact hd) rfl rfl
    have ed : M4 = D1 := Option.some.inj (h5.symm.trans d1)
    subst ed
    obtain ⟨B4, T4⟩ := dry_bd B1.1 d2
    rw [f_X1_moveWater] at h7
    obtain ⟨x1, -, h7⟩ := bd1_s h7
    obtain ⟨x4, -, h7⟩ := bd1_s h7
    obtain ⟨mo, -, h7⟩ := lz_s h7
    obtain ⟨M8, h8, h7⟩ := bd1_s h7
    cases h7
    obtain ⟨W1, w1, w2, w3, w4⟩ := water_run (b := b) (mo := mo) 64 0 FU M4 (by omega) (by unfold FU; omega)
    have ew : M7 = W1 := Option.some.inj (h8.symm.trans w1)
    subst ew
    have B7 : BdC b M7 := by
      refine ⟨fun k hk => ?_, ?_⟩
      · obtain ⟨b1, b2, b3, b4, b5⟩ := B4.1 k hk
        rw [w4 (b + 1) (by omega), w4 (b + 4) (by omega), w4 (b + 5) (by omega), w4 (b + 6) (by omega), w2 k (by omega) hk]
        refine ⟨b1, ?_, b3, b4, b5⟩
        unfold dQ
        exact held_in _ (m := 9) (by decide)
      · rw [w4 (b + 1) (by omega)]; exact B4.2
    have T7 : TB b M7 = TB b M4 := TB.congr (w4 _ (by omega)) (fun j _ _ => by rw [w4 b (by omega)])
    have B17 : BdC b M17 ∧ TB b M17 = TB b M7 := by
      have hh := it_c h17; clear h17; rcases hh with ⟨hsp, h17⟩ | ⟨hsp, h17⟩
      · obtain ⟨M14, h14, h17⟩ := bd1_s h17
        cases h17
        rw [f_X1_rise] at h14
        obtain ⟨-, h14⟩ := it_s h14
        obtain ⟨M2, e2, h14⟩ := lz_s h14
        obtain ⟨M33, h33, h14⟩ := bd1_s h14
        cases h14
        obtain ⟨R1, a1, a2, a3, a4⟩ := rise_A (b := b) 64 0 FU M2 (by omega) (by unfold FU; omega)
        have er : M17 = R1 := Option.some.inj (h33.symm.trans a1)
        subst er
        have r2 : ∀ i, i ≠ b + 2 → M2 i = M7 i := fun i hi => by rw [e2, wrow_ne hi]
        have p2 : ∀ k, k < 64 → M2 (b + 2) k = M7 (b + 1) k := fun k hk => by rw [e2, wrow_at]; exact cpy_lt hk
        have r17 : ∀ i, i ≠ b + 1 → i ≠ b + 2 → M17 i = M7 i := fun i h1 h2 => by rw [a4 i h1, r2 i h2]
        refine ⟨⟨fun k hk => ?_, ?_⟩, TB.congr (r17 _ (by omega) (by omega)) (fun j _ _ => by rw [r17 b (by omega) (by omega)])⟩
        · obtain ⟨b1, b2, b3, b4, b5⟩ := B7.1 k hk
          rw [r17 (b + 3) (by omega) (by omega), r17 (b + 4) (by omega) (by omega), r17 (b + 5) (by omega) (by omega), r17 (b + 6) (by omega) (by omega), a2 k (by omega) hk, r2 (b + 1) (by omega)]
          refine ⟨?_, b2, b3, b4, b5⟩
          have z1 : (1 : Int32).toInt = 1 := rfl
          have z60 : (60 : Int32).toInt = 60 := rfl
          have same : (0 ≤ (M7 (b + 1) k + 0).toInt ∧ (M7 (b + 1) k + 0).toInt ≤ 60) := by rw [Int32.add_zero]; exact b1
          unfold inc
          split
          · exact same
          · split
            · exact same
            · split
              · exact same
              · rename_i h60
                rw [p2 k hk, i_le, z60] at h60
                have more : (0 ≤ (M7 (b + 1) k + 1).toInt ∧ (M7 (b + 1) k + 1).toInt ≤ 60) := by rw [i_add (by rw [z1]; omega) (by rw [z1]; omega), z1]; omega
                split
                · exact more
                · split
                  · exact same
                  · exact more
        · rw [a2 0 (by omega) (by omega), r2 (b + 1) (by omega), B7.2]
          unfold inc
          rw [if_pos rfl]
          decide
      · cases h17; exact ⟨B7, rfl⟩
    have r20 : ∀ i, i ≠ b → A' i = M17 i := fun i hi => by rw [e20, wr_ne hi, e18, wr_ne hi]
    have c20 : ∀ j, j ≠ 8 → j ≠ 9 → A' b j = M17 b j := fun j h8 h9 => by rw [e20, wr_col h9, e18, wr_col h8]
    refine ⟨B17.1.congr (fun i hi => r20 _ (by omega)), ?_⟩
    rw [TB.congr (r20 _ (by omega)) (fun j h1 h2 => c20 j (by omega) (by omega)), B17.2, T7, T4, B1.2]
  · cases h
    exact B1
