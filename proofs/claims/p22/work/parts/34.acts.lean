/-! needs 30 31 32 33 -/
/-! what an hour of a gang touches -/
def EfA (w b q : Nat) (A A' : Mm) : Prop := (∀ i, i ≠ w → i ≠ w + 1 → i ≠ b → i ≠ b + 1 → i ≠ b + 4 → i ≠ b + 5 → i ≠ b + 6 → i ≠ q → i ≠ q + 1 → A' i = A i) ∧ (∀ j, j ≠ 10 → j ≠ 11 → j ≠ 13 → A' b j = A b j) ∧ ∀ j, j ≠ 3 → j ≠ 4 → A' w j = A w j
def EfB (s g : Nat) (B B' : Mm) : Prop := (∀ i, i ≠ 69 → i ≠ 81 → i ≠ s → i ≠ s + 1 → i ≠ s + 3 → i ≠ s + 4 → i ≠ s + 5 → i ≠ s + 6 → i ≠ s + 7 → B' i = B i) ∧ (∀ j, j ≠ 28 → B' 69 j = B 69 j) ∧ (∀ j, j ≠ 2 → j ≠ 3 → j ≠ 5 → B' s j = B s j) ∧ (∀ k, k < 10 * g ∨ 10 * g + 10 ≤ k → B' (s + 6) k = B (s + 6) k) ∧ ∀ k, k < 8 * g ∨ 8 * g + 8 ≤ k → B' (s + 7) k = B (s + 7) k
theorem EfA.refl (w b q : Nat) (A : Mm) : EfA w b q A A := ⟨fun _ _ _ _ _ _ _ _ _ _ => rfl, fun _ _ _ _ => rfl, fun _ _ _ => rfl⟩
theorem EfA.trans {w b q : Nat} {A B C : Mm} (h : EfA w b q A B) (k : EfA w b q B C) : EfA w b q A C :=
  ⟨fun i h1 h2 h3 h4 h5 h6 h7 h8 h9 => (k.1 i h1 h2 h3 h4 h5 h6 h7 h8 h9).trans (h.1 i h1 h2 h3 h4 h5 h6 h7 h8 h9), fun j h1 h2 h3 => (k.2.1 j h1 h2 h3).trans (h.2.1 j h1 h2 h3), fun j h1 h2 => (k.2.2 j h1 h2).trans (h.2.2 j h1 h2)⟩
theorem EfB.refl (s g : Nat) (B : Mm) : EfB s g B B := ⟨fun _ _ _ _ _ _ _ _ _ _ => rfl, fun _ _ => rfl, fun _ _ _ _ => rfl, fun _ _ => rfl, fun _ _ => rfl⟩
theorem EfB.trans {s g : Nat} {A B C : Mm} (h : EfB s g A B) (k : EfB s g B C) : EfB s g A C :=
  ⟨fun i h1 h2 h3 h4 h5 h6 h7 h8 h9 => (k.1 i h1 h2 h3 h4 h5 h6 h7 h8 h9).trans (h.1 i h1 h2 h3 h4 h5 h6 h7 h8 h9), fun j h1 => (k.2.1 j h1).trans (h.2.1 j h1), fun j h1 h2 h3 => (k.2.2.1 j h1 h2 h3).trans (h.2.2.1 j h1 h2 h3), fun j h1 => (k.2.2.2.1 j h1).trans (h.2.2.2.1 j h1), fun j h1 => (k.2.2.2.2 j h1).trans (h.2.2.2.2 j h1)⟩
theorem EqW.ef {w b q : Nat} {A A' : Mm} (hw : Wb w b) (h : EqW w A A') : EfA w b q A A' :=
  ⟨fun i h1 h2 _ _ _ _ _ _ _ => h.1 i h1 h2, fun j _ _ _ => by rw [h.1 b (by rcases hw with ⟨rfl, rfl⟩ | ⟨rfl, rfl⟩ <;> omega) (by rcases hw with ⟨rfl, rfl⟩ | ⟨rfl, rfl⟩ <;> omega)], fun j h1 _ => h.2 j h1⟩
theorem EqR.ef {s g : Nat} {B B' : Mm} (hs : Ws s) (h : EqR B B') : EfB s g B B' := by
  have e : ∀ k, k ≤ 7 → B' (s + k) = B (s + k) := fun k hk => h.1 _ (by rcases hs with rfl | rfl <;> omega) (by rcases hs with rfl | rfl <;> omega)
  exact ⟨fun i h1 h2 _ _ _ _ _ _ _ => h.1 i h2 h1, fun j h1 => h.2 j h1, fun j _ _ _ => by rw [show B' s = B s from e 0 (by omega)], fun k _ => by rw [e 6 (by omega)], fun k _ => by rw [e 7 (by omega)]⟩
theorem SimC.at {b s c : Nat} {A B A' B' : Mm} (h : SimC b s A B) (hA : ∀ r k, r = 1 ∨ r = 3 ∨ r = 4 ∨ r = 5 ∨ r = 6 → k ≠ c → A' (b + r) k = A (b + r) k) (hB : ∀ r k, r = 1 ∨ r = 2 ∨ r = 3 ∨ r = 4 ∨ r = 5 → k ≠ c → B' (s + r) k = B (s + r) k) (hc : A' (b + 1) c = B' (s + 1) c ∧ A' (b + 3) c = B' (s + 2) c ∧ A' (b + 4) c = B' (s + 3) c ∧ A' (b + 5) c = B' (s + 4) c ∧ A' (b + 6) c = B' (s + 5) c) : SimC b s A' B' := by
  intro k hk
  by_cases e : k = c
  · subst e; exact hc
  · rw [hA 1 k (by omega) e, hA 3 k (by omega) e, hA 4 k (by omega) e, hA 5 k (by omega) e, hA 6 k (by omega) e, hB 1 k (by omega) e, hB 2 k (by omega) e, hB 3 k (by omega) e, hB 4 k (by omega) e, hB 5 k (by omega) e]
    exact h k hk
theorem InvC.at {b c : Nat} {A A' : Mm} (h : InvC b A) (hA : ∀ r k, r = 4 ∨ r = 5 ∨ r = 6 → k ≠ c → A' (b + r) k = A (b + r) k) (hc : (0 ≤ (A' (b + 4) c).toInt ∧ (A' (b + 4) c).toInt ≤ 99) ∧ (A' (b + 6) c = 0 ∨ A' (b + 6) c = 1) ∧ (A' (b + 4) c = 0 → A' (b + 5) c = 0)) : InvC b A' := by
  intro k hk
  by_cases e : k = c
  · subst e; exact hc
  · rw [hA 4 k (by omega) e, hA 5 k (by omega) e, hA 6 k (by omega) e]
    exact h k hk
theorem imin_i (x y : Int32) : (imin x y).toInt = if y.toInt < x.toInt then y.toInt else x.toInt := by
  unfold imin
  simp only [i_lt]
  split <;> rfl
/-- the end of an act of the class: missed or not, the next sentence -/
theorem endHour_run {w b q g pa : Nat} {n : Int32} {A : Mm} (hA : AtG w b q g A) : ∃ A', f_X8_endHour w (nI pa) n A = some (1, A') ∧ (∀ i, i ≠ q → A' i = A i) ∧ (∀ j, j ≠ 6 → j ≠ 9 → A' q j = A q j) ∧ A' q 6 = (if 0 < n then A q 6 else A q 6 + 1) ∧ A' q 9 = nI (pa + 1) := by
  have hq : w ≠ q := by
    obtain ⟨h1, h2, h3, -⟩ := hA
    rcases h1 with ⟨rfl, rfl⟩ | ⟨rfl, rfl⟩ <;> omega
  rw [f_X8_endHour]
  by_cases hn : 0 < n
  · rw [if_pos hn, bd1_e, if_pos hA.okr, hA.rid, lz_e, n_suc]
    refine ⟨_, rfl, fun i hi => wr_ne hi, fun j _ h9 => wr_col h9, ?_, wr_at _ _ _ _⟩
    rw [if_pos hn, wr_col (by decide)]
  · have hA2 : AtG w b q g (wr A q 6 (A q 6 + 1)) := ⟨hA.1, hA.2.1, hA.2.2.1, by rw [wr_ne hq]; exact hA.2.2.2⟩
    rw [if_neg hn, if_pos hA.okr, hA.rid, lz_e, bd1_e, if_pos hA2.okr, hA2.rid, lz_e, n_suc]
    refine ⟨_, rfl, fun i hi => by rw [wr_ne hi, wr_ne hi], fun j h6 h9 => by rw [wr_col h9, wr_col h6], ?_, wr_at _ _ _ _⟩
    rw [if_neg hn, wr_col (by decide), wr_at]
/-- the end of an act of the reference -/
def misB (s g : Nat) (r : Int32) (B : Mm) : Mm := if r = 0 then wr B (s + 6) (10 * g + 7) (B (s + 6) (10 * g + 7) + 1) else B
/-- bricks come to a stack -/
theorem add_run {b c : Nat} {a m v : Int32} {A : Mm} (ha : 0 ≤ a.toInt ∧ a.toInt < ((64 : Nat) : Int)) (hc : ix a = c) (hz : ¬ A (b + 4) c + m = 0) : f_X1_addToStack b a m v A = some (wr (wr A (b + 5) c ((A (b + 5) c * A (b + 4) c + v * m) / (A (b + 4) c + m))) (b + 4) c (A (b + 4) c + m)) := by
  rw [f_X1_addToStack, if_pos ha, if_pos ha, hc, f_X9_mixed, if_neg hz, if_pos hz, bd1_e, if_pos ha, lz_e, if_pos ha, if_pos ha, lz_e, wr_ne (show b + 4 ≠ b + 5 by omega)]
theorem pile_run {s c : Nat} {a m v : Int32} {B : Mm} (ha : 0 ≤ a.toInt ∧ a.toInt < ((64 : Nat) : Int)) (hc : ix a = c) (hz : ¬ B (s + 3) c + m = 0) : f_X10_pile s a m v B = some (wr (wr B (s + 4) c ((B (s + 4) c * B (s + 3) c + v * m) / (B (s + 3) c + m))) (s + 3) c (B (s + 3) c + m)) := by
  rw [f_X10_pile, if_pos ha, if_pos ha, if_pos ha, hc, if_pos hz, lz_e, if_pos ha, lz_e, if_pos ha, if_pos ha, lz_e, wr_ne (show s + 3 ≠ s + 4 by omega)]
/-- what is true behind an act that takes the hour -/
def ActOK (w b q g s pa : Nat) (A B A' B' : Mm) : Prop := Rd w b q g s A' B' ∧ InvC b A' ∧ EfA w b q A A' ∧ EfB s g B B' ∧ A' (q + 1) = A (q + 1) ∧ B' (s + 7) = B (s + 7) ∧ B' (s + 6) (10 * g + 4) = B (s + 6) (10 * g + 4) ∧ A' q 9 = nI (pa + 1)
theorem Rd.cell {w b q g s : Nat} {A B : Mm} (h : Rd w b q g s A B) : 0 ≤ (A q 1 * (8 : Int32) + A q 0).toInt ∧ (A q 1 * (8 : Int32) + A q 0).toInt < ((64 : Nat) : Int) := cell_in h.2.2.2.2.2.2.1.1 h.2.2.2.2.2.2.1.2.1
theorem Rd.gang {w b q g s : Nat} {A B A' B' : Mm} (h : Rd w b q g s A B) (hA : ∀ i, i ≠ q → A' i = A i) (hB : ∀ i, i ≠ s + 6 → B' i = B i) (hG : SimG q s g A' B') (hI : InvG q A') : Rd w b q g s A' B' := by
  obtain ⟨⟨h1, h2, h3, h4⟩, hs, hC, hS, hW, -, -, hD⟩ := h
  have hw := h1
  unfold Wb at hw
  have hs' := hs
  unfold Ws at hs'
  have eb : ∀ k, k ≤ 8 → A' (b + k) = A (b + k) := fun k hk => hA _ (by omega)
  have es : ∀ k, k ≤ 5 → B' (s + k) = B (s + k) := fun k hk => hB _ (by omega)
  have eb0 : A' b = A b := eb 0 (by omega)
  have es0 : B' s = B s := es 0 (by omega)
  refine ⟨⟨h1, h2, h3, by rw [hA w (by omega)]; exact h4⟩, hs, ?_, ?_, ?_, hG, hI, by rw [eb0]; exact hD⟩
  · intro k hk
    rw [eb 1 (by omega), eb 3 (by omega), eb 4 (by omega), eb 5 (by omega), eb 6 (by omega), es 1 (by omega), es 2 (by omega), es 3 (by omega), es 4 (by omega), es 5 (by omega)]
    exact hC k hk
  · unfold SimS; rw [eb0, es0]; exact hS
  · intro k hk
    rw [eb 7 (by omega), eb 8 (by omega), hB 72 (by omega), hB 73 (by omega)]; exact hW k hk
theorem fin_act {w b q g s pa : Nat} {A B A2 B2 : Mm} {n r : Int32} (hR : Rd w b q g s A2 B2) (hI : InvC b A2) (hA : EfA w b q A A2) (hB : EfB s g B B2) (h1 : A2 (q + 1) = A (q + 1)) (h7 : B2 (s + 7) = B (s + 7)) (h4 : B2 (s + 6) (10 * g + 4) = B (s + 6) (10 * g + 4)) (hn : 0 < n ↔ ¬ r = 0) : ∃ A', f_X8_endHour w (nI pa) n A2 = some (1, A') ∧ ActOK w b q g s pa A B A' (misB s g r B2) := by
  obtain ⟨A', e1, e2, e3, e4, e5⟩ := endHour_run (pa := pa) (n := n) hR.1
  have hw := hR.1.1
  have hg := hR.1.2.1
  have hq := hR.1.2.2.1
  have hs := hR.2.1
  unfold Wb at hw
  unfold Ws at hs
  have m1 : ∀ i, i ≠ s + 6 → misB s g r B2 i = B2 i := by
    intro i hi; unfold misB; split
    · exact wr_ne hi
    · rfl
  have m2 : ∀ k, k ≠ 10 * g + 7 → misB s g r B2 (s + 6) k = B2 (s + 6) k := by
    intro k hk; unfold misB; split
    · exact wr_col hk
    · rfl
  obtain ⟨g0, g1, g2, g3, g5, g6, g7, g8, g9⟩ := hR.2.2.2.2.2.1
  obtain ⟨v0, v1, v2, v3⟩ := hR.2.2.2.2.2.2.1
  refine ⟨A', e1, hR.gang e2 m1 ?_ ?_, ?_, ?_, ?_, ?_, ?_, ?_, e5⟩
  · refine ⟨?_, ?_, ?_, ?_, ?_, ?_, ?_, ?_, ?_⟩
    · rw [e3 0 (by decide) (by decide), m2 _ (by omega)]; exact g0
    · rw [e3 1 (by decide) (by decide), m2 _ (by omega)]; exact g1
    · rw [e3 2 (by decide) (by decide), m2 _ (by omega)]; exact g2
    · rw [e3 3 (by decide) (by decide), m2 _ (by omega)]; exact g3
    · rw [e3 4 (by decide) (by decide), m2 _ (by omega)]; exact g5
    · rw [e3 5 (by decide) (by decide), m2 _ (by omega)]; exact g6
    · rw [e4]
      unfold misB
      by_cases hr : r = 0
      · rw [if_neg (fun h => hn.mp h hr), if_pos hr, wr_at, g7]
      · rw [if_pos (hn.mpr hr), if_neg hr]; exact g7
    · rw [e3 7 (by decide) (by decide), m2 _ (by omega)]; exact g8
    · rw [e3 8 (by decide) (by decide), m2 _ (by omega)]; exact g9
  · unfold InvG
    rw [e3 0 (by decide) (by decide), e3 1 (by decide) (by decide), e3 2 (by decide) (by decide), e3 4 (by decide) (by decide)]
    exact ⟨v0, v1, v2, v3⟩
  · intro k hk
    rw [e2 (b + 4) (by omega), e2 (b + 5) (by omega), e2 (b + 6) (by omega)]
    exact hI k hk
  · refine hA.trans ⟨fun i _ _ _ _ _ _ _ h8 _ => e2 i h8, fun j _ _ _ => by rw [e2 b (by omega)], fun j _ _ => by rw [e2 w (by omega)]⟩
  · refine hB.trans ⟨fun i _ _ _ _ _ _ _ h8 _ => m1 i h8, fun j _ => by rw [m1 69 (by omega)], fun j _ _ _ => by rw [m1 s (by omega)], fun k hk => m2 k (by omega), fun k hk => by rw [m1 (s + 7) (by omega)]⟩
  · rw [e2 _ (by omega)]; exact h1
  · rw [m1 _ (by omega)]; exact h7
  · rw [m2 _ (by omega)]; exact h4
theorem cut_run {w b q g s c pa : Nat} {A B : Mm} {v : Int32} (hR : Rd w b q g s A B) (hI : InvC b A) (h3 : A w 3 = nI (0 + 1)) (hv : A (w + 1) 0 = v) (hc : ix (A q 1 * (8 : Int32) + A q 0) = c) :
    ∃ A' B' r, f_X8_cut w (nI pa) A = some (1, A') ∧ f_X11_cut 69 s (A q 1 * (8 : Int32) + A q 0) v B = some (r, B') ∧ ActOK w b q g s pa A B A' (misB s g r B') := by
  have hcell := hR.cell
  have hc64 : c < 64 := by rw [← hc]; exact ix_lt hcell
  obtain ⟨A1, p1, p2, p3, p4⟩ := pop_run (h := 0) h3 (by omega)
  have hR1 := hR.kept p2 (B' := B) (fun _ _ _ => rfl)
  have hw := hR.1.1
  have hg := hR.1.2.1
  have hq := hR.1.2.2.1
  have hs := hR.2.1
  unfold Wb at hw
  unfold Ws at hs
  have eA : ∀ i, i ≠ w → i ≠ w + 1 → A1 i = A i := p2.1
  have eb : ∀ k, k ≤ 17 → A1 (b + k) = A (b + k) := fun k hk => eA _ (by omega) (by omega)
  have eb0 : A1 b = A b := eb 0 (by omega)
  have eq : A1 q = A q := eA q (by omega) (by omega)
  have eq1 : A1 (q + 1) = A (q + 1) := eA _ (by omega) (by omega)
  obtain ⟨c1, c2, c3, c4, c5⟩ := hR.2.2.1 c hc64
  obtain ⟨i1, i2, i3⟩ := hI c hc64
  have hI1 : InvC b A1 := by intro k hk; rw [eb 4 (by omega), eb 5 (by omega), eb 6 (by omega)]; exact hI k hk
  -- the number of bricks, in both
  have e99 : ((99 : Int32) - A (b + 4) c).toInt = 99 - (A (b + 4) c).toInt := i_sub (by show -2147483648 ≤ 99 - (A (b + 4) c).toInt; omega) (by show 99 - (A (b + 4) c).toInt < 2147483648; omega)
  generalize hown : imin v (imin (imin (6 : Int32) (A (b + 1) c)) ((99 : Int32) - A (b + 4) c)) = own
  have hownB : imin (imin v (6 : Int32)) (imin (B (s + 1) c) ((99 : Int32) - B (s + 3) c)) = own := by
    rw [← hown, ← c1, ← c3, i_eq]
    simp only [imin_i]
    repeat' split
    all_goals omega
  have hle : own.toInt ≤ 99 - (A (b + 4) c).toInt := by
    rw [← hown, ← e99]
    simp only [imin_i]
    repeat' split
    all_goals omega
  have hcut : f_X8_cut w (nI pa) A = bd2 (bd1 (if own ≤ 0 then some A1 else bd1 (f_X1_addToStack b (A q 1 * (8 : Int32) + A q 0) own (20 : Int32) (wr (wr A1 (b + 1) c (A1 (b + 1) c - own)) b 13 (A1 b 13 + own))) fun M22 => some M22) fun M25 => f_X8_endHour w (nI pa) own M25) fun x26 M27 => some (x26, M27) := by
    rw [f_X8_cut, if_pos hR.1.okr, if_pos hR.1.okr, hR.1.rid, hR.1.1.wbog, lz_e, f_X9_cellAt, if_pos hcell, if_pos hcell, lz_e, hc, p1, bd2_e, hv, hown]
    by_cases h0 : own ≤ 0
    · rw [if_pos h0, if_pos h0, bd1_e, bd1_e]
    · rw [if_neg h0, if_neg h0, if_pos hcell, if_pos hcell, lz_e, lz_e, wr_ne (show b ≠ b + 1 by omega)]
      cases f_X1_addToStack b (A q 1 * (8 : Int32) + A q 0) own (20 : Int32) (wr (wr A1 (b + 1) c (A1 (b + 1) c - own)) b 13 (A1 b 13 + own)) <;> rfl
  have hB0 : ∀ h0 : own ≤ 0, f_X11_cut 69 s (A q 1 * (8 : Int32) + A q 0) v B = some (0, B) := by
    intro h0
    rw [f_X11_cut, if_pos hcell, if_pos hcell, hc, lz_e, hownB, lz_e, if_neg (by rw [i_lt]; rw [i_le] at h0; exact Int.not_lt.mpr h0)]
  by_cases h0 : own ≤ 0
  · obtain ⟨A', f1, f2⟩ := fin_act (A := A) (B := B) (pa := pa) (n := own) (r := 0) hR1 hI1 (p2.ef hR.1.1) (EfB.refl s g B) eq1 rfl rfl ⟨fun h => by rw [i_lt] at h; rw [i_le] at h0; exact absurd h (Int.not_lt.mpr h0), fun h => absurd rfl h⟩
    refine ⟨A', B, 0, ?_, hB0 h0, f2⟩
    rw [hcut, if_pos h0, bd1_e, f1, bd2_e]
  · have hp : 0 < own.toInt := by rw [i_le] at h0; exact Int.not_le.mp h0
    have hs0 : (A (b + 4) c + own).toInt = (A (b + 4) c).toInt + own.toInt := i_add (by omega) (by omega)
    have hz : ¬ A (b + 4) c + own = 0 := by rw [i_eq, hs0]; show ¬ _ = (0 : Int); omega
    have hzB : ¬ B (s + 3) c + own = 0 := by rw [← c3]; exact hz
    -- the class
    have hz2 : ¬ (wr (wr A1 (b + 1) c (A1 (b + 1) c - own)) b 13 (A1 b 13 + own)) (b + 4) c + own = 0 := by
      rw [wr_ne (show b + 4 ≠ b by omega), wr_ne (show b + 4 ≠ b + 1 by omega), eb 4 (by omega)]; exact hz
    have q1 := add_run (v := (20 : Int32)) hcell hc hz2
    rw [wr_ne (show b + 4 ≠ b by omega), wr_ne (show b + 4 ≠ b + 1 by omega), wr_ne (show b + 5 ≠ b by omega), wr_ne (show b + 5 ≠ b + 1 by omega), eb 4 (by omega), eb 5 (by omega), eb 1 (by omega), eb0] at q1
    generalize hA2 : wr (wr (wr (wr A1 (b + 1) c (A (b + 1) c - own)) b 13 (A b 13 + own)) (b + 5) c ((A (b + 5) c * A (b + 4) c + 20 * own) / (A (b + 4) c + own))) (b + 4) c (A (b + 4) c + own) = A2 at q1
    -- the reference
    have q2 := pile_run (B := B) (v := (20 : Int32)) hcell hc hzB
    generalize hB2 : wr (wr (wr (wr B (s + 4) c ((B (s + 4) c * B (s + 3) c + 20 * own) / (B (s + 3) c + own))) (s + 3) c (B (s + 3) c + own)) (s + 1) c (B (s + 1) c - own)) s 5 (B s 5 + own) = B2
    have hBr : f_X11_cut 69 s (A q 1 * (8 : Int32) + A q 0) v B = some (1, B2) := by
      rw [f_X11_cut, if_pos hcell, if_pos hcell, hc, lz_e, hownB, lz_e, if_pos (by rw [i_lt]; exact hp), q2, bd1_e, if_pos hcell, if_pos hcell, lz_e, lz_e, wr_ne (show s + 1 ≠ s + 3 by omega), wr_ne (show s + 1 ≠ s + 4 by omega), wr_ne (show s ≠ s + 1 by omega), wr_ne (show s ≠ s + 3 by omega), wr_ne (show s ≠ s + 4 by omega), hB2]
    have dA : ∀ i, i ≠ w → i ≠ w + 1 → i ≠ b → i ≠ b + 1 → i ≠ b + 4 → i ≠ b + 5 → A2 i = A i := by
      intro i h1 h2 h3 h4 h5 h6
      rw [← hA2, wr_ne h5, wr_ne h6, wr_ne h3, wr_ne h4]; exact eA i h1 h2
    have dB : ∀ i, i ≠ s → i ≠ s + 1 → i ≠ s + 3 → i ≠ s + 4 → B2 i = B i := by
      intro i h1 h2 h3 h4
      rw [← hB2, wr_ne h1, wr_ne h2, wr_ne h3, wr_ne h4]
    have xA : ∀ r k, r = 1 ∨ r = 3 ∨ r = 4 ∨ r = 5 ∨ r = 6 → k ≠ c → A2 (b + r) k = A (b + r) k := by
      intro r k hr hk
      rw [← hA2]
      rcases hr with rfl | rfl | rfl | rfl | rfl <;> simp (disch := omega) only [wr_r, wr_col, eb]
    have xB : ∀ r k, r = 1 ∨ r = 2 ∨ r = 3 ∨ r = 4 ∨ r = 5 → k ≠ c → B2 (s + r) k = B (s + r) k := by
      intro r k hr hk
      rw [← hB2]
      rcases hr with rfl | rfl | rfl | rfl | rfl <;> simp (disch := omega) only [wr_r, wr_col]
    have a1 : A2 (b + 1) c = A (b + 1) c - own := by rw [← hA2]; simp (disch := omega) only [wr_r, wr_at]
    have a3 : A2 (b + 3) c = A (b + 3) c := by rw [dA _ (by omega) (by omega) (by omega) (by omega) (by omega) (by omega)]
    have a4 : A2 (b + 4) c = A (b + 4) c + own := by rw [← hA2, wr_at]
    have a5 : A2 (b + 5) c = (A (b + 5) c * A (b + 4) c + 20 * own) / (A (b + 4) c + own) := by rw [← hA2]; simp (disch := omega) only [wr_r, wr_at]
    have a6 : A2 (b + 6) c = A (b + 6) c := by rw [dA _ (by omega) (by omega) (by omega) (by omega) (by omega) (by omega)]
    have b1 : B2 (s + 1) c = B (s + 1) c - own := by rw [← hB2]; simp (disch := omega) only [wr_r, wr_at]
    have b2 : B2 (s + 2) c = B (s + 2) c := by rw [dB _ (by omega) (by omega) (by omega) (by omega)]
    have b3 : B2 (s + 3) c = B (s + 3) c + own := by rw [← hB2]; simp (disch := omega) only [wr_r, wr_at]
    have b4 : B2 (s + 4) c = (B (s + 4) c * B (s + 3) c + 20 * own) / (B (s + 3) c + own) := by rw [← hB2]; simp (disch := omega) only [wr_r, wr_at]
    have b5 : B2 (s + 5) c = B (s + 5) c := by rw [dB _ (by omega) (by omega) (by omega) (by omega)]
    have z13 : A2 b 13 = A b 13 + own := by rw [← hA2]; simp (disch := omega) only [wr_r, wr_at]
    have zj : ∀ j, j ≠ 13 → A2 b j = A b j := by intro j hj; rw [← hA2]; simp (disch := omega) only [wr_r, wr_col, eb0]
    have zs5 : B2 s 5 = B s 5 + own := by rw [← hB2]; simp (disch := omega) only [wr_r, wr_at]
    have zsj : ∀ j, j ≠ 5 → B2 s j = B s j := by intro j hj; rw [← hB2]; simp (disch := omega) only [wr_r, wr_col]
    have hR2 : Rd w b q g s A2 B2 := by
      obtain ⟨⟨h1, h2, h3, h4⟩, hs0, hC, ⟨s0, s1, s2, s3, s4, s5⟩, hW, hG, hIg, hD⟩ := hR
      refine ⟨⟨h1, h2, h3, ?_⟩, hs0, hC.at xA xB ⟨by rw [a1, b1, c1], by rw [a3, b2]; exact c2, by rw [a4, b3, c3], by rw [a5, b4, c4, c3], by rw [a6, b5]; exact c5⟩, ?_, ?_, ?_, ?_, ?_⟩
      · rw [← hA2]; simp (disch := omega) only [wr_r]; rw [p2.2 1 (by decide)]; exact h4
      · refine ⟨?_, ?_, ?_, ?_, ?_, ?_⟩
        · rw [zj 8 (by decide), zsj 0 (by decide)]; exact s0
        · rw [zj 9 (by decide), zsj 1 (by decide)]; exact s1
        · rw [zj 10 (by decide), zsj 2 (by decide)]; exact s2
        · rw [zj 11 (by decide), zsj 3 (by decide)]; exact s3
        · rw [zj 12 (by decide), zsj 4 (by decide)]; exact s4
        · rw [z13, zs5, s5]
      · intro k hk
        rw [dA (b + 7) (by omega) (by omega) (by omega) (by omega) (by omega) (by omega), dA (b + 8) (by omega) (by omega) (by omega) (by omega) (by omega) (by omega), dB 72 (by omega) (by omega) (by omega) (by omega), dB 73 (by omega) (by omega) (by omega) (by omega)]
        exact hW k hk
      · unfold SimG
        rw [dA q (by omega) (by omega) (by omega) (by omega) (by omega) (by omega), dB (s + 6) (by omega) (by omega) (by omega) (by omega)]
        exact hG
      · unfold InvG
        rw [dA q (by omega) (by omega) (by omega) (by omega) (by omega) (by omega)]
        exact hIg
      · rw [zj 8 (by decide)]; exact hD
    have hI2 : InvC b A2 := hI.at (fun r k hr hk => xA r k (by omega) hk) ⟨by rw [a4, hs0]; omega, by rw [a6]; exact i2, fun h => by rw [a4] at h; exact absurd h hz⟩
    obtain ⟨A', f1, f2⟩ := fin_act (A := A) (B := B) (pa := pa) (n := own) (r := 1) hR2 hI2
      ⟨fun i h1 h2 h3 h4 h5 h6 _ _ _ => dA i h1 h2 h3 h4 h5 h6, fun j _ _ h => zj j h, fun j h _ => by rw [← hA2]; simp (disch := omega) only [wr_r]; exact p2.2 j h⟩
      ⟨fun i _ _ h3 h4 h5 h6 _ _ _ => dB i h3 h4 h5 h6, fun j _ => by rw [dB 69 (by omega) (by omega) (by omega) (by omega)], fun j _ _ h => zsj j h, fun k _ => by rw [dB (s + 6) (by omega) (by omega) (by omega) (by omega)], fun k _ => by rw [dB (s + 7) (by omega) (by omega) (by omega) (by omega)]⟩
      (dA _ (by omega) (by omega) (by omega) (by omega) (by omega) (by omega)) (dB _ (by omega) (by omega) (by omega) (by omega)) (by rw [dB _ (by omega) (by omega) (by omega) (by omega)]) ⟨fun _ => by decide, fun _ => by rw [i_lt]; exact hp⟩
    refine ⟨A', B2, 1, ?_, hBr, f2⟩
    rw [hcut, if_neg h0, eb 1 (by omega), eb0, q1, bd1_e, bd1_e, f1, bd2_e]
