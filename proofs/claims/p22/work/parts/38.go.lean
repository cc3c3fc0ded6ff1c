/-! needs 30 31 32 33 34 35 36 37 -/
theorem sgn_cmp : ∀ i, i < 8 → ∀ j, j < 8 → f_J6_signum_0f7a4 (nI i - nI j) = f_J6_compare_7cf53 (nI i) (nI j) ∧ 0 ≤ (nI j + f_J6_compare_7cf53 (nI i) (nI j)).toInt ∧ (nI j + f_J6_compare_7cf53 (nI i) (nI j)).toInt ≤ 7 := by decide +kernel
theorem sgn_run {x y : Int32} (hx : 0 ≤ x.toInt ∧ x.toInt ≤ 7) (hy : 0 ≤ y.toInt ∧ y.toInt ≤ 7) : f_J6_signum_0f7a4 (x - y) = f_J6_compare_7cf53 x y ∧ 0 ≤ (y + f_J6_compare_7cf53 x y).toInt ∧ (y + f_J6_compare_7cf53 x y).toInt ≤ 7 := by
  have h := sgn_cmp (ix x) (by have := ix_int hx.1; omega) (ix y) (by have := ix_int hy.1; omega)
  rw [n_ix hx.1, n_ix hy.1] at h
  exact h
theorem isCell_run (x y : Int32) : f_X9_isCell x y = (if (0 ≤ x.toInt ∧ x.toInt ≤ 7) ∧ (0 ≤ y.toInt ∧ y.toInt ≤ 7) then 1 else 0) ∧ f_X11_isCell x y = (if (0 ≤ x.toInt ∧ x.toInt ≤ 7) ∧ (0 ≤ y.toInt ∧ y.toInt ≤ 7) then 1 else 0) := by
  have e0 : (0 : Int32).toInt = 0 := rfl
  have e7 : (7 : Int32).toInt = 7 := rfl
  constructor
  · unfold f_X9_isCell f_X9_isWithin
    simp only [lz_e, i_lt, e0, e7]
    by_cases h1 : x.toInt < 0
    · rw [if_pos h1, if_pos rfl, if_neg (by omega)]
    · by_cases h2 : 7 < x.toInt
      · rw [if_neg h1, if_pos h2, if_pos rfl, if_neg (by omega)]
      · rw [if_neg h1, if_neg h2, if_neg (by decide)]
        by_cases h3 : y.toInt < 0
        · rw [if_pos h3, if_pos rfl, if_neg (by omega)]
        · by_cases h4 : 7 < y.toInt
          · rw [if_neg h3, if_pos h4, if_pos rfl, if_neg (by omega)]
          · rw [if_neg h3, if_neg h4, if_neg (by decide), if_pos (by omega)]
  · unfold f_X11_isCell f_X11_isIn
    simp only [lz_e, i_lt, e0, e7]
    by_cases h1 : x.toInt < 0
    · rw [if_pos h1, if_pos rfl, if_neg (by omega)]
    · by_cases h2 : 7 < x.toInt
      · rw [if_neg h1, if_pos h2, if_pos rfl, if_neg (by omega)]
      · rw [if_neg h1, if_neg h2, if_neg (by decide)]
        by_cases h3 : y.toInt < 0
        · rw [if_pos h3, if_pos rfl, if_neg (by omega)]
        · by_cases h4 : 7 < y.toInt
          · rw [if_neg h3, if_pos h4, if_pos rfl, if_neg (by omega)]
          · rw [if_neg h3, if_neg h4, if_neg (by decide), if_pos (by omega)]
theorem over_lt {w b q g c : Nat} {A : Mm} (hc : A w 4 = nI c) (h : c < 50) : f_X8_isHourOver w A = some (0, wr A w 4 (nI (c + 1))) := by
  rw [f_X8_isHourOver, hc, if_pos (by rw [i_lt, i_nI (by omega)]; show (c : Int) < 50; omega), lz_e, n_suc]
theorem over_ge {w b q g : Nat} {A : Mm} (hA : AtG w b q g A) (hc : A w 4 = nI 50) : f_X8_isHourOver w A = some (1, wr A q 5 (A q 5 + 1)) := by
  rw [f_X8_isHourOver, hc, if_neg (by decide), if_pos hA.okr, hA.rid, lz_e]
/-- behind an hour's end: moved on or not -/
def EndOK (w b q g s pa nx : Nat) (A B A' B' : Mm) : Prop := Rd w b q g s A' B' ∧ InvC b A' ∧ EfA w b q A A' ∧ EfB s g B B' ∧ A' (q + 1) = A (q + 1) ∧ B' (s + 7) = B (s + 7) ∧ ((A' q 9 = nI (pa + 1) ∧ B' (s + 6) (10 * g + 4) = nI nx) ∨ (A' q 9 = A q 9 ∧ B' (s + 6) (10 * g + 4) = B (s + 6) (10 * g + 4)))
theorem InvC.eqw {w b : Nat} {A A' : Mm} (h : InvC b A) (hw : Wb w b) (hA : EqW w A A') : InvC b A' := by
  unfold Wb at hw
  intro k hk
  rw [hA.1 (b + 4) (by omega) (by omega), hA.1 (b + 5) (by omega) (by omega), hA.1 (b + 6) (by omega) (by omega)]
  exact h k hk
theorem go_away {w b q g s pa nx fr : Nat} {A B B1 B2 : Mm} {x y : Int32} (hR : Rd w b q g s A B) (hI : InvC b A) (h3 : A w 3 = nI (1 + 1)) (hx : A (w + 1) 0 = x) (hy : A (w + 1) 1 = y) (r1 : f_X11_reckon 69 s (nI g) (nI fr) B = some (x, B1)) (r2 : f_X11_reckon 69 s (nI g) (B1 69 28) B1 = some (y, B2)) (hB : EqR B B2) (hnx : B2 69 28 = nI nx) (hne : ¬ (x = A q 0 ∧ y = A q 1)) :
    ∃ A' B' r, f_X8_go w (nI pa) A = some (1, A') ∧ f_X11_go 69 s (nI g) (nI fr) B = some (r, B') ∧ EndOK w b q g s pa nx A B A' (misB s g r B') := by
  obtain ⟨P1, p1, p2, p3, p4⟩ := pop_run (h := 1) h3 (by omega)
  obtain ⟨A1, q1, q2, q3, q4⟩ := pop_run (h := 0) p3 (by omega)
  have hE := p2.trans q2
  have hR1 := hR.kept hE hB.1
  have hI1 := hI.eqw hR.1.1 hE
  have hw := hR.1.1
  have hg := hR.1.2.1
  have hq := hR.1.2.2.1
  have hs := hR.2.1
  unfold Wb at hw
  unfold Ws at hs
  have eA : ∀ i, i ≠ w → i ≠ w + 1 → A1 i = A i := hE.1
  have eq : A1 q = A q := eA q (by omega) (by omega)
  obtain ⟨g0, g1, g2, g3, g5, g6, g7, g8, g9⟩ := hR1.2.2.2.2.2.1
  obtain ⟨v0, v1, v2, v3⟩ := hR1.2.2.2.2.2.2.1
  have efA := EqW.ef (q := q) hR.1.1 hE
  have efB := EqR.ef (g := g) hR.2.1 hB
  have e1q : A1 (q + 1) = A (q + 1) := eA _ (by omega) (by omega)
  have e7s : B2 (s + 7) = B (s + 7) := hB.1 _ (by omega) (by omega)
  have e4s : B2 (s + 6) (10 * g + 4) = B (s + 6) (10 * g + 4) := by rw [hB.1 (s + 6) (by omega) (by omega)]
  obtain ⟨ic1, ic2⟩ := isCell_run x y
  have hGoA : f_X8_go w (nI pa) A = (if (f_X9_isCell x y = 0) then (if okr 1 (A1 w 1) then (lz (wr A1 (rid (A1 w 1)) 6 ((A1 (rid (A1 w 1)) 6) + (1 : Int32))) fun M92 => if okr 1 (M92 w 1) then (lz (wr M92 (rid (M92 w 1)) 9 (nI pa + (1 : Int32))) fun M95 => some ((1 : Int32), M95)) else none) else none) else some (1, if A1 (b + 3) (ix ((if x = A1 q 0 then A1 q 1 + f_J6_compare_7cf53 y (A1 q 1) else A1 q 1) * (8 : Int32) + (A1 q 0 + f_J6_compare_7cf53 x (A1 q 0)))) = (9 : Int32) then wr A1 q 6 (A1 q 6 + 1) else wr (wr A1 q 0 (A1 q 0 + f_J6_compare_7cf53 x (A1 q 0))) q 1 (if x = A1 q 0 then A1 q 1 + f_J6_compare_7cf53 y (A1 q 1) else A1 q 1))) := by
    rw [f_X8_go, p1, bd2_e, q1, bd2_e, p4, hx, hy, lz_e]
    by_cases hcell : (0 ≤ x.toInt ∧ x.toInt ≤ 7) ∧ (0 ≤ y.toInt ∧ y.toInt ≤ 7)
    · rw [if_pos hcell] at ic1
      rw [ic1, if_neg (show ¬ (1 : Int32) = 0 by decide), if_neg (show ¬ (1 : Int32) = 0 by decide), hR1.1.rid, if_pos hR1.1.okr, hR1.1.1.wbog]
      obtain ⟨-, nx1, nx2⟩ := sgn_run hcell.1 v0
      obtain ⟨-, ny1, ny2⟩ := sgn_run hcell.2 v1
      have hA2 : AtG w b q g (wr A1 q 0 (A1 q 0 + f_J6_compare_7cf53 x (A1 q 0))) := ⟨hR1.1.1, hR1.1.2.1, hR1.1.2.2.1, by rw [wr_ne (by omega)]; exact hR1.1.2.2.2⟩
      by_cases e0 : x = A1 q 0
      · have ey : ¬ y = A1 q 1 := fun h => hne ⟨by rw [← eq]; exact e0, by rw [← eq]; exact h⟩
        have hin := cell_in (x := A1 q 0 + f_J6_compare_7cf53 x (A1 q 0)) (y := A1 q 1 + f_J6_compare_7cf53 y (A1 q 1)) ⟨nx1, nx2⟩ ⟨ny1, ny2⟩
        rw [if_pos e0, if_pos hR1.1.okr, if_neg ey, if_pos hR1.1.okr, if_pos hR1.1.okr, lz_e, lz_e, if_pos hR1.1.okr, if_pos e0, if_pos hR1.1.okr, if_pos hR1.1.okr, lz_e, bd1_e, lz_e, f_X9_cellAt, if_pos hin]
        by_cases hwat : A1 (b + 3) (ix ((A1 q 1 + f_J6_compare_7cf53 y (A1 q 1)) * (8 : Int32) + (A1 q 0 + f_J6_compare_7cf53 x (A1 q 0)))) = (9 : Int32)
        · rw [if_pos hwat, if_pos e0, if_pos hwat, if_pos hR1.1.okr, lz_e, bd1_e]
        · rw [if_neg hwat, if_pos e0, if_neg hwat, if_pos hR1.1.okr, lz_e, if_pos hA2.okr, hA2.rid, lz_e, bd1_e]
      · have hin := cell_in (x := A1 q 0 + f_J6_compare_7cf53 x (A1 q 0)) (y := A1 q 1) ⟨nx1, nx2⟩ v1
        rw [if_neg e0, if_pos hR1.1.okr, if_pos hR1.1.okr, lz_e, lz_e, if_pos hR1.1.okr, if_neg e0, if_pos hR1.1.okr, bd1_e, lz_e, f_X9_cellAt, if_pos hin]
        by_cases hwat : A1 (b + 3) (ix (A1 q 1 * (8 : Int32) + (A1 q 0 + f_J6_compare_7cf53 x (A1 q 0)))) = (9 : Int32)
        · rw [if_pos hwat, if_neg e0, if_pos hwat, if_pos hR1.1.okr, lz_e, bd1_e]
        · rw [if_neg hwat, if_neg e0, if_neg hwat, if_pos hR1.1.okr, lz_e, if_pos hA2.okr, hA2.rid, lz_e, bd1_e]
    · rw [if_neg hcell] at ic1
      rw [ic1, if_pos rfl, if_pos rfl]
  have hGoB : f_X11_go 69 s (nI g) (nI fr) B = (if (f_X11_isCell x y = 0) then some ((0 : Int32), wr B2 (s + 6) (10 * g + 4) (nI nx)) else if A1 (b + 3) (ix ((if x = A1 q 0 then A1 q 1 + f_J6_compare_7cf53 y (A1 q 1) else A1 q 1) * (8 : Int32) + (A1 q 0 + f_J6_compare_7cf53 x (A1 q 0)))) = (9 : Int32) then some (0, B2) else some (1, wr (wr B2 (s + 6) (10 * g) (A1 q 0 + f_J6_compare_7cf53 x (A1 q 0))) (s + 6) (10 * g + 1) (if x = A1 q 0 then A1 q 1 + f_J6_compare_7cf53 y (A1 q 1) else A1 q 1))) := by
    rw [f_X11_go, r1, bd2_e, r2, bd2_e]
    simp only [g10 hg, ga1, ga4, ixn (show 10 * g < 2147483648 by omega), ixn (show 10 * g + 1 < 2147483648 by omega), ixn (show 10 * g + 4 < 2147483648 by omega), inT (show 10 * g < 40 by omega) (by decide), inT (show 10 * g + 1 < 40 by omega) (by decide), inT (show 10 * g + 4 < 40 by omega) (by decide), if_true, lz_e, hnx, cell_comm]
    by_cases hcell : (0 ≤ x.toInt ∧ x.toInt ≤ 7) ∧ (0 ≤ y.toInt ∧ y.toInt ≤ 7)
    · rw [if_pos hcell] at ic2
      rw [ic2, if_neg (show ¬ (1 : Int32) = 0 by decide), if_neg (show ¬ (1 : Int32) = 0 by decide), ← g0, ← g1]
      obtain ⟨sx, nx1, nx2⟩ := sgn_run hcell.1 v0
      obtain ⟨sy, ny1, ny2⟩ := sgn_run hcell.2 v1
      rw [sx, sy]
      by_cases e0 : x = A1 q 0
      · have hin := cell_in (x := A1 q 0 + f_J6_compare_7cf53 x (A1 q 0)) (y := A1 q 1 + f_J6_compare_7cf53 y (A1 q 1)) ⟨nx1, nx2⟩ ⟨ny1, ny2⟩
        rw [if_pos e0, bd1_e, if_pos hin, if_pos e0, (hR1.2.2.1 _ (ix_lt hin)).2.1]
      · have hin := cell_in (x := A1 q 0 + f_J6_compare_7cf53 x (A1 q 0)) (y := A1 q 1) ⟨nx1, nx2⟩ v1
        rw [if_neg e0, bd1_e, Int32.add_zero, if_pos hin, if_neg e0, (hR1.2.2.1 _ (ix_lt hin)).2.1]
    · rw [if_neg hcell] at ic2
      rw [ic2, if_pos rfl, if_pos rfl]
  by_cases hcell : (0 ≤ x.toInt ∧ x.toInt ≤ 7) ∧ (0 ≤ y.toInt ∧ y.toInt ≤ 7)
  · rw [ic1, if_pos hcell, if_neg (show ¬ (1 : Int32) = 0 by decide)] at hGoA
    rw [ic2, if_pos hcell, if_neg (show ¬ (1 : Int32) = 0 by decide)] at hGoB
    by_cases hwat : A1 (b + 3) (ix ((if x = A1 q 0 then A1 q 1 + f_J6_compare_7cf53 y (A1 q 1) else A1 q 1) * (8 : Int32) + (A1 q 0 + f_J6_compare_7cf53 x (A1 q 0)))) = (9 : Int32)
    · rw [if_pos hwat] at hGoA hGoB
      refine ⟨_, _, _, hGoA, hGoB, ?_⟩
      unfold misB
      rw [if_pos rfl]
      refine ⟨hR1.gang (fun i hi => wr_ne hi) (fun i hi => wr_ne hi) ?_ ?_, ?_, efA.trans ⟨fun i _ _ _ _ _ _ _ h _ => wr_ne h, fun j _ _ _ => by rw [wr_ne (by omega)], fun j _ _ => by rw [wr_ne (by omega)]⟩, efB.trans ⟨fun i _ _ _ _ _ _ _ h _ => wr_ne h, fun j _ => by rw [wr_ne (by omega)], fun j _ _ _ => by rw [wr_ne (by omega)], fun k hk => wr_col (by omega), fun k _ => by rw [wr_ne (by omega)]⟩, by rw [wr_ne (by omega)]; exact e1q, by rw [wr_ne (by omega)]; exact e7s, Or.inr ⟨by rw [wr_col (by decide), eq], by rw [wr_col (by omega)]; exact e4s⟩⟩
      · unfold SimG
        have h7 : A1 q 6 + 1 = B2 (s + 6) (10 * g + 7) + 1 := by rw [g7]
        refine ⟨?_, ?_, ?_, ?_, ?_, ?_, ?_, ?_, ?_⟩ <;> simp (disch := omega) only [wr_at, wr_col] <;> assumption
      · unfold InvG
        rw [wr_col (by decide), wr_col (by decide), wr_col (by decide), wr_col (by decide)]
        exact ⟨v0, v1, v2, v3⟩
      · intro k hk
        rw [wr_ne (by omega), wr_ne (by omega), wr_ne (by omega)]
        exact hI1 k hk
    · rw [if_neg hwat] at hGoA hGoB
      refine ⟨_, _, _, hGoA, hGoB, ?_⟩
      unfold misB
      rw [if_neg (show ¬ (1 : Int32) = 0 by decide)]
      have ny : 0 ≤ (if x = A1 q 0 then A1 q 1 + f_J6_compare_7cf53 y (A1 q 1) else A1 q 1).toInt ∧ (if x = A1 q 0 then A1 q 1 + f_J6_compare_7cf53 y (A1 q 1) else A1 q 1).toInt ≤ 7 := by
        split
        · exact (sgn_run hcell.2 v1).2
        · exact v1
      generalize (if x = A1 q 0 then A1 q 1 + f_J6_compare_7cf53 y (A1 q 1) else A1 q 1) = nY at ny
      have nxx := (sgn_run hcell.1 v0).2
      generalize A1 q 0 + f_J6_compare_7cf53 x (A1 q 0) = nX at nxx
      refine ⟨hR1.gang (fun i hi => by rw [wr_ne hi, wr_ne hi]) (fun i hi => by rw [wr_ne hi, wr_ne hi]) ?_ ?_, ?_, efA.trans ⟨fun i _ _ _ _ _ _ _ h _ => by rw [wr_ne h, wr_ne h], fun j _ _ _ => by rw [wr_ne (by omega), wr_ne (by omega)], fun j _ _ => by rw [wr_ne (by omega), wr_ne (by omega)]⟩, efB.trans ⟨fun i _ _ _ _ _ _ _ h _ => by rw [wr_ne h, wr_ne h], fun j _ => by rw [wr_ne (by omega), wr_ne (by omega)], fun j _ _ _ => by rw [wr_ne (by omega), wr_ne (by omega)], fun k hk => by rw [wr_col (by omega), wr_col (by omega)], fun k _ => by rw [wr_ne (by omega), wr_ne (by omega)]⟩, by rw [wr_ne (by omega), wr_ne (by omega)]; exact e1q, by rw [wr_ne (by omega), wr_ne (by omega)]; exact e7s, Or.inr ⟨by rw [wr_col (by decide), wr_col (by decide), eq], by rw [wr_col (by omega), wr_col (by omega)]; exact e4s⟩⟩
      · unfold SimG
        refine ⟨?_, ?_, ?_, ?_, ?_, ?_, ?_, ?_, ?_⟩ <;> simp (disch := omega) only [wr_at, wr_col] <;> assumption
      · unfold InvG
        simp (disch := omega) only [wr_at, wr_col]
        exact ⟨nxx, ny, v2, v3⟩
      · intro k hk
        rw [wr_ne (by omega), wr_ne (by omega), wr_ne (by omega), wr_ne (by omega), wr_ne (by omega), wr_ne (by omega)]
        exact hI1 k hk
  · rw [ic1, if_neg hcell, if_pos rfl, if_pos hR1.1.okr, hR1.1.rid, lz_e] at hGoA
    rw [ic2, if_neg hcell, if_pos rfl] at hGoB
    have hA2 : AtG w b q g (wr A1 q 6 (A1 q 6 + 1)) := ⟨hR1.1.1, hR1.1.2.1, hR1.1.2.2.1, by rw [wr_ne (by omega)]; exact hR1.1.2.2.2⟩
    rw [if_pos hA2.okr, hA2.rid, lz_e, n_suc] at hGoA
    refine ⟨_, _, _, hGoA, hGoB, ?_⟩
    unfold misB
    rw [if_pos rfl]
    refine ⟨hR1.gang (fun i hi => by rw [wr_ne hi, wr_ne hi]) (fun i hi => by rw [wr_ne hi, wr_ne hi]) ?_ ?_, ?_, efA.trans ⟨fun i _ _ _ _ _ _ _ h _ => by rw [wr_ne h, wr_ne h], fun j _ _ _ => by rw [wr_ne (by omega), wr_ne (by omega)], fun j _ _ => by rw [wr_ne (by omega), wr_ne (by omega)]⟩, efB.trans ⟨fun i _ _ _ _ _ _ _ h _ => by rw [wr_ne h, wr_ne h], fun j _ => by rw [wr_ne (by omega), wr_ne (by omega)], fun j _ _ _ => by rw [wr_ne (by omega), wr_ne (by omega)], fun k hk => by rw [wr_col (by omega), wr_col (by omega)], fun k _ => by rw [wr_ne (by omega), wr_ne (by omega)]⟩, by rw [wr_ne (by omega), wr_ne (by omega)]; exact e1q, by rw [wr_ne (by omega), wr_ne (by omega)]; exact e7s, Or.inl ⟨by rw [wr_at], by rw [wr_col (by omega), wr_at]⟩⟩
    · unfold SimG
      have h7 : A1 q 6 + 1 = B2 (s + 6) (10 * g + 7) + 1 := by rw [g7]
      refine ⟨?_, ?_, ?_, ?_, ?_, ?_, ?_, ?_, ?_⟩ <;> simp (disch := omega) only [wr_at, wr_col] <;> assumption
    · unfold InvG
      simp (disch := omega) only [wr_at, wr_col]
      exact ⟨v0, v1, v2, v3⟩
    · intro k hk
      rw [wr_ne (by omega), wr_ne (by omega), wr_ne (by omega), wr_ne (by omega), wr_ne (by omega), wr_ne (by omega)]
      exact hI1 k hk
