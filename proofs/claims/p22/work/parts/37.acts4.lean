/-! needs 30 31 32 33 34 35 36 -/
theorem cart_run {q : Nat} {m : Int32} {A : Mm} : ∃ A', f_X2_takeFromCart q m A = some A' ∧ (∀ i, i ≠ q → A' i = A i) ∧ (∀ j, j ≠ 2 → j ≠ 3 → A' q j = A q j) ∧ A' q 2 = A q 2 - m ∧ A' q 3 = if A q 2 - m = 0 then 0 else A q 3 := by
  rw [f_X2_takeFromCart, lz_e, wr_at]
  by_cases h : A q 2 - m = 0
  · simp only [if_pos h, lz_e]
    exact ⟨_, rfl, fun i hi => by rw [wr_ne hi, wr_ne hi], fun j h2 h3 => by rw [wr_col h3, wr_col h2], by rw [wr_col (by decide), wr_at], by rw [wr_at]⟩
  · simp only [if_neg h]
    exact ⟨_, rfl, fun i hi => by rw [wr_ne hi], fun j h2 h3 => by rw [wr_col h2], by rw [wr_at], by rw [wr_col (by decide)]⟩
def cartB (s g : Nat) (m : Int32) (B : Mm) : Mm := if B (s + 6) (10 * g + 2) - m = 0 then wr (wr B (s + 6) (10 * g + 2) (B (s + 6) (10 * g + 2) - m)) (s + 6) (10 * g + 3) 0 else wr B (s + 6) (10 * g + 2) (B (s + 6) (10 * g + 2) - m)
theorem cart_fin {w b q g s pa : Nat} {A B A1 B1 : Mm} {own : Int32} (hR : Rd w b q g s A1 B1) (hI : InvC b A1) (hA : EfA w b q A A1) (hB : EfB s g B B1) (h1 : A1 (q + 1) = A (q + 1)) (h7 : B1 (s + 7) = B (s + 7)) (h4 : B1 (s + 6) (10 * g + 4) = B (s + 6) (10 * g + 4)) (hp : 0 < own.toInt) (hl : own.toInt ≤ (A1 q 2).toInt) :
    ∃ A2 A', f_X2_takeFromCart q own A1 = some A2 ∧ f_X8_endHour w (nI pa) own A2 = some (1, A') ∧ ActOK w b q g s pa A B A' (misB s g 1 (cartB s g own B1)) := by
  obtain ⟨A2, e1, e2, e3, e4, e5⟩ := cart_run (q := q) (m := own) (A := A1)
  have hw := hR.1.1
  have hg := hR.1.2.1
  have hq := hR.1.2.2.1
  have hs := hR.2.1
  unfold Wb at hw
  unfold Ws at hs
  obtain ⟨g0, g1, g2, g3, g5, g6, g7, g8, g9⟩ := hR.2.2.2.2.2.1
  obtain ⟨v0, v1, v2, v3⟩ := hR.2.2.2.2.2.2.1
  have m1 : ∀ i, i ≠ s + 6 → cartB s g own B1 i = B1 i := by
    intro i hi; unfold cartB; split
    · rw [wr_ne hi, wr_ne hi]
    · rw [wr_ne hi]
  have m2 : ∀ k, k ≠ 10 * g + 2 → k ≠ 10 * g + 3 → cartB s g own B1 (s + 6) k = B1 (s + 6) k := by
    intro k hk hk2; unfold cartB; split
    · rw [wr_col hk2, wr_col hk]
    · rw [wr_col hk]
  have n2 : cartB s g own B1 (s + 6) (10 * g + 2) = B1 (s + 6) (10 * g + 2) - own := by
    unfold cartB; split
    · rw [wr_col (by omega), wr_at]
    · rw [wr_at]
  have n3 : cartB s g own B1 (s + 6) (10 * g + 3) = if B1 (s + 6) (10 * g + 2) - own = 0 then 0 else B1 (s + 6) (10 * g + 3) := by
    unfold cartB; split
    · rw [wr_at]
    · rw [wr_col (by omega)]
  have hd : (A1 q 2 - own).toInt = (A1 q 2).toInt - own.toInt := i_sub (by omega) (by omega)
  have hR2 : Rd w b q g s A2 (cartB s g own B1) := by
    refine hR.gang e2 m1 ⟨?_, ?_, ?_, ?_, ?_, ?_, ?_, ?_, ?_⟩ ?_
    · rw [e3 0 (by decide) (by decide), m2 _ (by omega) (by omega)]; exact g0
    · rw [e3 1 (by decide) (by decide), m2 _ (by omega) (by omega)]; exact g1
    · rw [e4, n2, g2]
    · rw [e5, n3, g2, g3]
    · rw [e3 4 (by decide) (by decide), m2 _ (by omega) (by omega)]; exact g5
    · rw [e3 5 (by decide) (by decide), m2 _ (by omega) (by omega)]; exact g6
    · rw [e3 6 (by decide) (by decide), m2 _ (by omega) (by omega)]; exact g7
    · rw [e3 7 (by decide) (by decide), m2 _ (by omega) (by omega)]; exact g8
    · rw [e3 8 (by decide) (by decide), m2 _ (by omega) (by omega)]; exact g9
    · unfold InvG
      rw [e3 0 (by decide) (by decide), e3 1 (by decide) (by decide), e3 4 (by decide) (by decide), e4, hd]
      exact ⟨v0, v1, by omega, v3⟩
  obtain ⟨A', f1, f2⟩ := fin_act (A := A) (B := B) (pa := pa) (n := own) (r := 1) hR2
    (fun k hk => by rw [e2 (b + 4) (by omega), e2 (b + 5) (by omega), e2 (b + 6) (by omega)]; exact hI k hk)
    (hA.trans ⟨fun i _ _ _ _ _ _ _ h8 _ => e2 i h8, fun j _ _ _ => by rw [e2 b (by omega)], fun j _ _ => by rw [e2 w (by omega)]⟩)
    (hB.trans ⟨fun i _ _ _ _ _ _ _ h8 _ => m1 i h8, fun j _ => by rw [m1 69 (by omega)], fun j _ _ _ => by rw [m1 s (by omega)], fun k hk => m2 k (by omega) (by omega), fun k hk => by rw [m1 (s + 7) (by omega)]⟩)
    (by rw [e2 _ (by omega)]; exact h1) (by rw [m1 _ (by omega)]; exact h7) (by rw [m2 _ (by omega) (by omega)]; exact h4) ⟨fun _ => by decide, fun _ => by rw [i_lt]; exact hp⟩
  exact ⟨A2, A', e1, f1, f2⟩
/-- Rd behind a change of one scalar in both -/
theorem Rd.scal {w b q g s i j : Nat} {A B : Mm} {v : Int32} (h : Rd w b q g s A B) (hij : (i = 10 ∧ j = 2) ∨ (i = 11 ∧ j = 3)) : Rd w b q g s (wr A b i (A b i + v)) (wr B s j (B s j + v)) := by
  have hw := h.1.1
  have hg := h.1.2.1
  have hq := h.1.2.2.1
  have hs := h.2.1
  unfold Wb at hw
  unfold Ws at hs
  obtain ⟨s0, s1, s2, s3, s4, s5⟩ := h.2.2.2.1
  refine h.build (c := 0) (by rw [wr_ne (by omega)]) (fun r k hr _ => by rw [wr_ne (by omega)]) (fun r k hr _ => by rw [wr_ne (by omega)]) ?_ ?_ (by rw [wr_col (by omega)]) (fun k hk => wr_ne (by omega)) (fun k hk => wr_ne (by omega)) ?_ ?_
  · rw [wr_ne (by omega), wr_ne (by omega), wr_ne (by omega), wr_ne (by omega), wr_ne (by omega), wr_ne (by omega), wr_ne (by omega), wr_ne (by omega), wr_ne (by omega), wr_ne (by omega)]
    exact h.2.2.1 0 (by omega)
  · unfold SimS
    rcases hij with ⟨rfl, rfl⟩ | ⟨rfl, rfl⟩
    · rw [wr_at, wr_at, wr_col (by decide), wr_col (by decide), wr_col (by decide), wr_col (by decide), wr_col (by decide), wr_col (by decide), wr_col (by decide), wr_col (by decide), wr_col (by decide), wr_col (by decide), s2]
      exact ⟨s0, s1, rfl, s3, s4, s5⟩
    · rw [wr_at, wr_at, wr_col (by decide), wr_col (by decide), wr_col (by decide), wr_col (by decide), wr_col (by decide), wr_col (by decide), wr_col (by decide), wr_col (by decide), wr_col (by decide), wr_col (by decide), s3]
      exact ⟨s0, s1, s2, rfl, s4, s5⟩
  · unfold SimG
    rw [wr_ne (show q ≠ b by omega), wr_ne (show s + 6 ≠ s by omega)]
    exact h.2.2.2.2.2.1
  · unfold InvG
    rw [wr_ne (show q ≠ b by omega)]
    exact h.2.2.2.2.2.2.1
theorem unload_run {w b q g s c pa : Nat} {A B : Mm} (hR : Rd w b q g s A B) (hI : InvC b A) (hc : ix (A q 1 * (8 : Int32) + A q 0) = c) :
    ∃ A' B' r, f_X8_unload w (nI pa) A = some (1, A') ∧ f_X11_unload 69 s (nI (10 * g)) (A q 1 * (8 : Int32) + A q 0) B = some (r, B') ∧ ActOK w b q g s pa A B A' (misB s g r B') := by
  have hcell := hR.cell
  have hc64 : c < 64 := by rw [← hc]; exact ix_lt hcell
  have hw := hR.1.1
  have hg := hR.1.2.1
  have hq := hR.1.2.2.1
  have hs := hR.2.1
  unfold Wb at hw
  unfold Ws at hs
  obtain ⟨c1, c2, c3, c4, c5⟩ := hR.2.2.1 c hc64
  obtain ⟨i1, i2, i3⟩ := hI c hc64
  obtain ⟨g0, g1, g2, g3, g5, g6, g7, g8, g9⟩ := hR.2.2.2.2.2.1
  obtain ⟨v0, v1, v2, v3⟩ := hR.2.2.2.2.2.2.1
  have k2 : (10 : Nat) * g + 2 < 40 := by omega
  have k3 : (10 : Nat) * g + 3 < 40 := by omega
  have e99 : ((99 : Int32) - A (b + 4) c).toInt = 99 - (A (b + 4) c).toInt := i_sub (by show -2147483648 ≤ 99 - (A (b + 4) c).toInt; omega) (by show 99 - (A (b + 4) c).toInt < 2147483648; omega)
  generalize hcl : A q 1 * (8 : Int32) + A q 0 = cl at *
  generalize hown : (if cl = 0 then A q 2 else imin (A q 2) ((99 : Int32) - A (b + 4) c)) = own
  have hownA : (if cl = 0 then (if okr 1 (A w 1) then some (A (rid (A w 1)) 2) else none) else (if okr 1 (A w 1) then (if 0 ≤ cl.toInt ∧ cl.toInt < ((64 : Nat) : Int) then (lz (imin (A (rid (A w 1)) 2) ((99 : Int32) - (A (wbog w + 4) (ix cl)))) fun x10 => some x10) else none) else none)) = some own := by
    rw [← hown, hR.1.rid, hR.1.1.wbog, hc, if_pos hR.1.okr, if_pos hR.1.okr, if_pos hcell, lz_e]
    split <;> rfl
  have hownB : (if cl = 0 then (if 0 ≤ (nI (10 * g) + (2 : Int32)).toInt ∧ (nI (10 * g) + (2 : Int32)).toInt < ((40 : Nat) : Int) then some (B (s + 6) (ix (nI (10 * g) + (2 : Int32)))) else none) else (if 0 ≤ (nI (10 * g) + (2 : Int32)).toInt ∧ (nI (10 * g) + (2 : Int32)).toInt < ((40 : Nat) : Int) then (if 0 ≤ cl.toInt ∧ cl.toInt < ((64 : Nat) : Int) then (lz (imin (B (s + 6) (ix (nI (10 * g) + (2 : Int32)))) ((99 : Int32) - (B (s + 3) (ix cl)))) fun x5 => some x5) else none) else none)) = some own := by
    rw [← hown, ga2, if_pos (inN k2), if_pos (inN k2), if_pos hcell, hc, ixn (by omega), ← g2, ← c3, lz_e]
    split <;> rfl
  have hrg : 0 ≤ own.toInt ∧ own.toInt ≤ (A q 2).toInt ∧ (¬ cl = 0 → own.toInt ≤ 99 - (A (b + 4) c).toInt) := by
    rw [← hown, ← e99]
    by_cases z : cl = 0
    · rw [if_pos z]; exact ⟨by omega, by omega, fun h => absurd z h⟩
    · rw [if_neg z, imin_i]
      split <;> exact ⟨by omega, by omega, fun _ => by omega⟩
  have hU : f_X8_unload w (nI pa) A = bd2 (bd1 (if own ≤ 0 then some A else bd1 (if cl = 0 then (if (5 : Int32) < A q 3 then some (wr A b 11 (A b 11 + own)) else some (wr A b 10 (A b 10 + own))) else f_X1_addToStack b cl own (A q 3) A) fun M28 => if okr 1 (M28 w 1) then f_X2_takeFromCart (rid (M28 w 1)) own M28 else none) fun M33 => f_X8_endHour w (nI pa) own M33) fun x34 M35 => some (x34, M35) := by
    rw [f_X8_unload, if_pos hR.1.okr, if_pos hR.1.okr, f_X9_cellAt, hR.1.rid, hcl, lz_e]
    rw [hR.1.rid] at hownA
    rw [hownA, bd1_e, hR.1.1.wbog]
    by_cases h0 : own ≤ 0
    · rw [if_pos h0, if_pos h0, bd1_e, bd1_e]
    · rw [if_neg h0, if_neg h0, if_pos hR.1.okr, if_pos hR.1.okr, lz_e, lz_e]
      by_cases z : cl = 0
      · rw [if_pos z, if_pos z]
        by_cases y : (5 : Int32) < A q 3
        · rw [if_pos y, bd1_e, bd1_e]
          by_cases o : okr 1 (wr A b 11 (A b 11 + own) w 1)
          · rw [if_pos o, if_pos o]
            cases f_X2_takeFromCart (rid (wr A b 11 (A b 11 + own) w 1)) own (wr A b 11 (A b 11 + own)) <;> rfl
          · rw [if_neg o, if_neg o]; rfl
        · rw [if_neg y, bd1_e, bd1_e]
          by_cases o : okr 1 (wr A b 10 (A b 10 + own) w 1)
          · rw [if_pos o, if_pos o]
            cases f_X2_takeFromCart (rid (wr A b 10 (A b 10 + own) w 1)) own (wr A b 10 (A b 10 + own)) <;> rfl
          · rw [if_neg o, if_neg o]; rfl
      · rw [if_neg z, if_neg z]
        cases f_X1_addToStack b cl own (A q 3) A with
        | none => rfl
        | some M25 =>
          rw [bd1_e, bd1_e, bd1_e]
          by_cases o : okr 1 (M25 w 1)
          · rw [if_pos o, if_pos o]
            cases f_X2_takeFromCart (rid (M25 w 1)) own M25 <;> rfl
          · rw [if_neg o, if_neg o]; rfl
  have h0iff : (own ≤ 0) ↔ own = 0 := by rw [i_le, i_eq]; show _ ≤ (0 : Int) ↔ _ = (0 : Int); omega
  have hBc : ∀ M22 : Mm, (if 0 ≤ (nI (10 * g + 2)).toInt ∧ (nI (10 * g + 2)).toInt < ((40 : Nat) : Int) then (if 0 ≤ (nI (10 * g + 2)).toInt ∧ (nI (10 * g + 2)).toInt < ((40 : Nat) : Int) then (lz (wr M22 (s + 6) (ix (nI (10 * g + 2))) ((M22 (s + 6) (ix (nI (10 * g + 2)))) - own)) fun M25 => if 0 ≤ (nI (10 * g + 2)).toInt ∧ (nI (10 * g + 2)).toInt < ((40 : Nat) : Int) then (bd1 (if ((M25 (s + 6) (ix (nI (10 * g + 2)))) = 0) then (if 0 ≤ (nI (10 * g + 3)).toInt ∧ (nI (10 * g + 3)).toInt < ((40 : Nat) : Int) then (lz (wr M25 (s + 6) (10 * g + 3) (0 : Int32)) fun M31 => some (M31)) else none) else (some (M25))) fun M33 => some ((1 : Int32), M33)) else none) else none) else none) = some (1, cartB s g own M22) := by
    intro M22
    rw [if_pos (inN k2), if_pos (inN k2), ixn (show 10 * g + 2 < 2147483648 by omega), lz_e, if_pos (inN k2), wr_at, if_pos (inN k3), lz_e]
    unfold cartB
    by_cases z : M22 (s + 6) (10 * g + 2) - own = 0
    · rw [if_pos z, if_pos z, bd1_e]
    · rw [if_neg z, if_neg z, bd1_e]
  by_cases h0 : own ≤ 0
  · obtain ⟨A', f1, f2⟩ := fin_act (A := A) (B := B) (pa := pa) (n := own) (r := 0) hR hI (EfA.refl w b q A) (EfB.refl s g B) rfl rfl rfl ⟨fun h => by rw [i_lt] at h; rw [i_le] at h0; exact absurd h (Int.not_lt.mpr h0), fun h => absurd rfl h⟩
    refine ⟨A', B, 0, ?_, ?_, f2⟩
    · rw [hU, if_pos h0, bd1_e, f1, bd2_e]
    · rw [f_X11_unload, hownB, bd1_e, if_pos (h0iff.mp h0)]
  · have hp : 0 < own.toInt := by rw [i_le] at h0; exact Int.not_le.mp h0
    have hn0 : ¬ own = 0 := fun h => h0 (h0iff.mpr h)
    by_cases z : cl = 0
    · -- the barn
      by_cases y : (5 : Int32) < A q 3
      · have hR1 := hR.scal (v := own) (Or.inr ⟨rfl, rfl⟩)
        have hI1 : InvC b (wr A b 11 (A b 11 + own)) := fun k hk => by rw [wr_ne (by omega), wr_ne (by omega), wr_ne (by omega)]; exact hI k hk
        obtain ⟨A2, A', t1, t2, t3⟩ := cart_fin (A := A) (B := B) (pa := pa) (own := own) hR1 hI1
          ⟨fun i _ _ h _ _ _ _ _ _ => wr_ne h, fun j _ h _ => wr_col h, fun j _ _ => by rw [wr_ne (by omega)]⟩
          ⟨fun i _ _ h _ _ _ _ _ _ => wr_ne h, fun j _ => by rw [wr_ne (by omega)], fun j _ h _ => wr_col h, fun k _ => by rw [wr_ne (by omega)], fun k _ => by rw [wr_ne (by omega)]⟩
          (wr_ne (by omega)) (wr_ne (by omega)) (by rw [wr_ne (by omega)]) hp (by rw [wr_ne (show q ≠ b by omega)]; exact hrg.2.1)
        refine ⟨A', _, 1, ?_, ?_, t3⟩
        · rw [hU, if_neg h0, if_pos z, if_pos y, bd1_e, if_pos hR1.1.okr, hR1.1.rid, t1, bd1_e, t2, bd2_e]
        · rw [f_X11_unload, hownB, bd1_e, if_neg hn0, if_pos z]
          simp only [ga2, ga3]
          rw [if_pos (inN k3), ixn (show 10 * g + 3 < 2147483648 by omega), ← g3, if_pos y, lz_e, bd1_e]
          exact hBc _
      · have hR1 := hR.scal (v := own) (Or.inl ⟨rfl, rfl⟩)
        have hI1 : InvC b (wr A b 10 (A b 10 + own)) := fun k hk => by rw [wr_ne (by omega), wr_ne (by omega), wr_ne (by omega)]; exact hI k hk
        obtain ⟨A2, A', t1, t2, t3⟩ := cart_fin (A := A) (B := B) (pa := pa) (own := own) hR1 hI1
          ⟨fun i _ _ h _ _ _ _ _ _ => wr_ne h, fun j h _ _ => wr_col h, fun j _ _ => by rw [wr_ne (by omega)]⟩
          ⟨fun i _ _ h _ _ _ _ _ _ => wr_ne h, fun j _ => by rw [wr_ne (by omega)], fun j h _ _ => wr_col h, fun k _ => by rw [wr_ne (by omega)], fun k _ => by rw [wr_ne (by omega)]⟩
          (wr_ne (by omega)) (wr_ne (by omega)) (by rw [wr_ne (by omega)]) hp (by rw [wr_ne (show q ≠ b by omega)]; exact hrg.2.1)
        refine ⟨A', _, 1, ?_, ?_, t3⟩
        · rw [hU, if_neg h0, if_pos z, if_neg y, bd1_e, if_pos hR1.1.okr, hR1.1.rid, t1, bd1_e, t2, bd2_e]
        · rw [f_X11_unload, hownB, bd1_e, if_neg hn0, if_pos z]
          simp only [ga2, ga3]
          rw [if_pos (inN k3), ixn (show 10 * g + 3 < 2147483648 by omega), ← g3, if_neg y, lz_e, bd1_e]
          exact hBc _
    · -- a stack
      have hle := hrg.2.2 z
      have hs0 : (A (b + 4) c + own).toInt = (A (b + 4) c).toInt + own.toInt := i_add (by omega) (by omega)
      have hz : ¬ A (b + 4) c + own = 0 := by rw [i_eq, hs0]; show ¬ _ = (0 : Int); omega
      have hzB : ¬ B (s + 3) c + own = 0 := by rw [← c3]; exact hz
      have q1 := add_run (v := A q 3) hcell hc hz
      have q2 := pile_run (v := B (s + 6) (10 * g + 3)) hcell hc hzB
      generalize hA2 : wr (wr A (b + 5) c ((A (b + 5) c * A (b + 4) c + A q 3 * own) / (A (b + 4) c + own))) (b + 4) c (A (b + 4) c + own) = A2 at q1
      generalize hB2 : wr (wr B (s + 4) c ((B (s + 4) c * B (s + 3) c + B (s + 6) (10 * g + 3) * own) / (B (s + 3) c + own))) (s + 3) c (B (s + 3) c + own) = B2 at q2
      have dA : ∀ i, i ≠ b + 4 → i ≠ b + 5 → A2 i = A i := by intro i h1 h2; rw [← hA2, wr_ne h1, wr_ne h2]
      have dB : ∀ i, i ≠ s + 3 → i ≠ s + 4 → B2 i = B i := by intro i h1 h2; rw [← hB2, wr_ne h1, wr_ne h2]
      have xA : ∀ r k, r = 1 ∨ r = 3 ∨ r = 4 ∨ r = 5 ∨ r = 6 → k ≠ c → A2 (b + r) k = A (b + r) k := by
        intro r k hr hk
        rw [← hA2, wr_o (Or.inr hk), wr_o (Or.inr hk)]
      have xB : ∀ r k, r = 1 ∨ r = 2 ∨ r = 3 ∨ r = 4 ∨ r = 5 → k ≠ c → B2 (s + r) k = B (s + r) k := by
        intro r k hr hk
        rw [← hB2, wr_o (Or.inr hk), wr_o (Or.inr hk)]
      have a4 : A2 (b + 4) c = A (b + 4) c + own := by rw [← hA2, wr_at]
      have a5 : A2 (b + 5) c = (A (b + 5) c * A (b + 4) c + A q 3 * own) / (A (b + 4) c + own) := by rw [← hA2, wr_ne (by omega), wr_at]
      have b3 : B2 (s + 3) c = B (s + 3) c + own := by rw [← hB2, wr_at]
      have b4 : B2 (s + 4) c = (B (s + 4) c * B (s + 3) c + B (s + 6) (10 * g + 3) * own) / (B (s + 3) c + own) := by rw [← hB2, wr_ne (by omega), wr_at]
      have hR2 : Rd w b q g s A2 B2 := by
        refine hR.build (c := c) (by rw [dA w (by omega) (by omega)]) xA xB ?_ ?_ (by rw [dA b (by omega) (by omega)]) (fun k hk => dA _ (by omega) (by omega)) (fun k hk => dB _ (by omega) (by omega)) ?_ ?_
        · rw [dA (b + 1) (by omega) (by omega), dA (b + 3) (by omega) (by omega), dA (b + 6) (by omega) (by omega), dB (s + 1) (by omega) (by omega), dB (s + 2) (by omega) (by omega), dB (s + 5) (by omega) (by omega), a4, a5, b3, b4, ← c3, ← c4, ← g3]
          exact ⟨c1, c2, rfl, rfl, c5⟩
        · unfold SimS
          rw [dA b (by omega) (by omega), dB s (by omega) (by omega)]
          exact hR.2.2.2.1
        · unfold SimG
          rw [dA q (by omega) (by omega), dB (s + 6) (by omega) (by omega)]
          exact hR.2.2.2.2.2.1
        · unfold InvG
          rw [dA q (by omega) (by omega)]
          exact hR.2.2.2.2.2.2.1
      have hI2 : InvC b A2 := hI.at (fun r k hr hk => xA r k (by omega) hk) ⟨by rw [a4, hs0]; omega, by rw [dA (b + 6) (by omega) (by omega)]; exact i2, fun h => by rw [a4] at h; exact absurd h hz⟩
      obtain ⟨A3, A', t1, t2, t3⟩ := cart_fin (A := A) (B := B) (pa := pa) (own := own) hR2 hI2
        ⟨fun i _ _ _ _ h4 h5 _ _ _ => dA i h4 h5, fun j _ _ _ => by rw [dA b (by omega) (by omega)], fun j _ _ => by rw [dA w (by omega) (by omega)]⟩
        ⟨fun i _ _ _ _ h3 h4 _ _ _ => dB i h3 h4, fun j _ => by rw [dB 69 (by omega) (by omega)], fun j _ _ _ => by rw [dB s (by omega) (by omega)], fun k _ => by rw [dB (s + 6) (by omega) (by omega)], fun k _ => by rw [dB (s + 7) (by omega) (by omega)]⟩
        (dA _ (by omega) (by omega)) (dB _ (by omega) (by omega)) (by rw [dB _ (by omega) (by omega)]) hp (by rw [dA q (by omega) (by omega)]; exact hrg.2.1)
      refine ⟨A', _, 1, ?_, ?_, t3⟩
      · rw [hU, if_neg h0, if_neg z, q1, bd1_e, if_pos hR2.1.okr, hR2.1.rid, t1, bd1_e, t2, bd2_e]
      · rw [f_X11_unload, hownB, bd1_e, if_neg hn0, if_neg z]
        simp only [ga2, ga3]
        rw [if_pos (inN k3), ixn (show 10 * g + 3 < 2147483648 by omega), q2, bd1_e, bd1_e]
        exact hBc _
