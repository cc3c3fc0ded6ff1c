/-! needs 30 31 32 33 34 35 36 37 38 39 40 41 42 43 44 45 46 47 50 -/
/-! bounds that hold whatever a gang does, and the sum of all bricks -/
def BdC (b : Nat) (A : Mm) : Prop := (∀ k, k < 64 → (0 ≤ (A (b + 1) k).toInt ∧ (A (b + 1) k).toInt ≤ 60) ∧ (0 ≤ (A (b + 3) k).toInt ∧ (A (b + 3) k).toInt ≤ 9) ∧ (0 ≤ (A (b + 4) k).toInt ∧ (A (b + 4) k).toInt ≤ 99) ∧ (0 ≤ (A (b + 5) k).toInt ∧ (A (b + 5) k).toInt ≤ 20) ∧ (A (b + 4) k = 0 → A (b + 5) k = 0 ∧ A (b + 6) k = 0)) ∧ A (b + 1) 0 = 0
def BdG (q : Nat) (A : Mm) : Prop := (0 ≤ (A q 0).toInt ∧ (A q 0).toInt ≤ 7) ∧ (0 ≤ (A q 1).toInt ∧ (A q 1).toInt ≤ 7) ∧ (0 ≤ (A q 2).toInt ∧ (A q 2).toInt ≤ 40) ∧ (0 ≤ (A q 3).toInt ∧ (A q 3).toInt ≤ 20) ∧ (A q 2 = 0 → A q 3 = 0)
def TT (b q : Nat) (A : Mm) : Int32 := sumL (A (b + 4)) 64 0 + A q 2 + A b 10 + A b 11 + A b 12 - A b 13
def Hs (q : Nat) (r : Int32) (A A' : Mm) : Prop := A' q 7 = A q 7 ∧ ((A' q 5 = A q 5 ∧ A' q 6 = A q 6) ∨ (r = 1 ∧ ((A' q 5 = A q 5 + 1 ∧ A' q 6 = A q 6) ∨ (A' q 5 = A q 5 ∧ A' q 6 = A q 6 + 1))))
def Pa (w b q : Nat) (r : Int32) (A A' : Mm) : Prop := (BdC b A → BdG q A → BdC b A' ∧ BdG q A') ∧ TT b q A' = TT b q A ∧ Hs q r A A' ∧ A' w 1 = A w 1
theorem Pa.refl (w b q : Nat) (r : Int32) (A : Mm) : Pa w b q r A A := ⟨fun h k => ⟨h, k⟩, rfl, ⟨rfl, Or.inl ⟨rfl, rfl⟩⟩, rfl⟩
theorem Pa.comp {w b q : Nat} {r : Int32} {A B C : Mm} (h : Pa w b q 0 A B) (k : Pa w b q r B C) : Pa w b q r A C := by
  obtain ⟨h1, h2, ⟨h3, h4⟩, h5⟩ := h
  obtain ⟨k1, k2, ⟨k3, k4⟩, k5⟩ := k
  obtain ⟨e5, e6⟩ : B q 5 = A q 5 ∧ B q 6 = A q 6 := by
    rcases h4 with h | ⟨h, -⟩
    · exact h
    · exact absurd h (by decide)
  refine ⟨fun x y => k1 (h1 x y).1 (h1 x y).2, k2.trans h2, ⟨k3.trans h3, ?_⟩, k5.trans h5⟩
  rw [e5, e6] at k4
  exact k4
theorem BdC.congr {b : Nat} {A A' : Mm} (h : BdC b A) (e : ∀ i, i = 1 ∨ i = 3 ∨ i = 4 ∨ i = 5 ∨ i = 6 → A' (b + i) = A (b + i)) : BdC b A' := by
  unfold BdC
  rw [e 1 (by omega), e 3 (by omega), e 4 (by omega), e 5 (by omega), e 6 (by omega)]
  exact h
theorem BdG.congr {q : Nat} {A A' : Mm} (h : BdG q A) (e : ∀ j, j < 4 → A' q j = A q j) : BdG q A' := by
  unfold BdG
  rw [e 0 (by omega), e 1 (by omega), e 2 (by omega), e 3 (by omega)]
  exact h
theorem BdC.at {b c : Nat} {A A' : Mm} (h : BdC b A) (hx : ∀ i k, i = 1 ∨ i = 3 ∨ i = 4 ∨ i = 5 ∨ i = 6 → k ≠ c → A' (b + i) k = A (b + i) k) (hc : c < 64 → (0 ≤ (A' (b + 1) c).toInt ∧ (A' (b + 1) c).toInt ≤ 60) ∧ (0 ≤ (A' (b + 3) c).toInt ∧ (A' (b + 3) c).toInt ≤ 9) ∧ (0 ≤ (A' (b + 4) c).toInt ∧ (A' (b + 4) c).toInt ≤ 99) ∧ (0 ≤ (A' (b + 5) c).toInt ∧ (A' (b + 5) c).toInt ≤ 20) ∧ (A' (b + 4) c = 0 → A' (b + 5) c = 0 ∧ A' (b + 6) c = 0)) (h0 : c = 0 → A' (b + 1) 0 = 0) : BdC b A' := by
  refine ⟨fun k hk => ?_, ?_⟩
  · by_cases e : k = c
    · subst e; exact hc hk
    · rw [hx 1 k (by omega) e, hx 3 k (by omega) e, hx 4 k (by omega) e, hx 5 k (by omega) e, hx 6 k (by omega) e]
      exact h.1 k hk
  · by_cases e : c = 0
    · exact h0 e
    · rw [hx 1 0 (by omega) (fun z => e z.symm)]; exact h.2
theorem sumL_set {f g : Nat → Int32} {c : Nat} (hg : ∀ k, k ≠ c → g k = f k) : ∀ (k j : Nat), j ≤ c → c < j + k → sumL g k j = sumL f k j + (g c - f c)
  | 0, j, h1, h2 => by omega
  | k + 1, j, h1, h2 => by
    show g j + sumL g k (j + 1) = f j + sumL f k (j + 1) + (g c - f c)
    by_cases e : j = c
    · subst e
      rw [sumL_congr k (j + 1) (fun b h1 _ => hg b (by omega))]
      grind
    · rw [hg j e, sumL_set hg k (j + 1) (by omega) (by omega)]
      grind
theorem imin_b (x y : Int32) : (imin x y).toInt ≤ x.toInt ∧ (imin x y).toInt ≤ y.toInt ∧ (imin x y = x ∨ imin x y = y) := by
  unfold imin
  by_cases h : y < x
  · rw [if_pos h]; rw [i_lt] at h; exact ⟨by omega, by omega, Or.inr rfl⟩
  · rw [if_neg h]; rw [i_lt] at h; exact ⟨by omega, by omega, Or.inl rfl⟩
theorem pos_i {x : Int32} (h : ¬ x ≤ 0) : 0 < x.toInt := by rw [i_le] at h; have : (0 : Int32).toInt = 0 := rfl; omega
theorem it_c {β : Type} {c : Prop} {dc : Decidable c} {X Y r : β} (h : @ite _ c dc X Y = r) : (c ∧ X = r) ∨ (¬ c ∧ Y = r) := by
  by_cases hc : c
  · rw [if_pos hc] at h; exact Or.inl ⟨hc, h⟩
  · rw [if_neg hc] at h; exact Or.inr ⟨hc, h⟩
/-! the worker's own rows -/
def Wk (w : Nat) (A A' : Mm) : Prop := (∀ i, i ≠ w → i ≠ w + 1 → A' i = A i) ∧ ∀ j, j ≠ 3 → j ≠ 4 → A' w j = A w j
theorem Wk.refl (w : Nat) (A : Mm) : Wk w A A := ⟨fun _ _ _ => rfl, fun _ _ _ => rfl⟩
theorem Wk.trans {w : Nat} {A B C : Mm} (h : Wk w A B) (k : Wk w B C) : Wk w A C := ⟨fun i h1 h2 => (k.1 i h1 h2).trans (h.1 i h1 h2), fun j h1 h2 => (k.2 j h1 h2).trans (h.2 j h1 h2)⟩
theorem pop_w {w : Nat} {v : Int32} {A A' : Mm} (h : f_X8_pop w A = some (v, A')) : Wk w A A' := by
  rw [f_X8_pop] at h
  have hh := it_c h; clear h; rcases hh with ⟨hsp, h⟩ | ⟨hsp, h⟩
  · cases h; exact Wk.refl _ _
  · obtain ⟨M2, e, h⟩ := lz_s h
    obtain ⟨-, h⟩ := it_s h
    cases h
    subst e
    exact ⟨fun i hi _ => wr_ne hi, fun j hj _ => wr_col hj⟩
theorem push_w {w : Nat} {v : Int32} {A A' : Mm} (h : f_X8_push w v A = some A') : Wk w A A' := by
  rw [f_X8_push] at h
  have hh := it_c h; clear h; rcases hh with ⟨hsp, h⟩ | ⟨hsp, h⟩
  · cases h; exact Wk.refl _ _
  · obtain ⟨-, h⟩ := it_s h
    obtain ⟨M2, e, h⟩ := lz_s h
    obtain ⟨M3, e3, h⟩ := lz_s h
    cases h
    subst e3
    subst e
    exact ⟨fun i h1 h2 => by rw [wr_ne h1, wr_ne h2], fun j hj _ => by rw [wr_col hj, wr_ne (by omega)]⟩
theorem reckon_w {w : Nat} {a c : Int32} {A A' : Mm} (h : f_X8_reckon w a c A = some A') : Wk w A A' := by
  rw [f_X8_reckon] at h
  have hh := it_c h; clear h; rcases hh with ⟨hsp, h⟩ | ⟨hsp, h⟩
  · obtain ⟨M1, e, h⟩ := bd1_s h
    cases h
    exact push_w e
  · have hh := it_c h; clear h; rcases hh with ⟨hsp, h⟩ | ⟨hsp, h⟩
    · have hh := it_c h; clear h; rcases hh with ⟨hsp, h⟩ | ⟨hsp, h⟩
      · obtain ⟨x, M1, e1, h⟩ := bd2_s h
        obtain ⟨M2, e2, h⟩ := bd1_s h
        cases h
        exact (pop_w e1).trans (push_w e2)
      · have hh := it_c h; clear h; rcases hh with ⟨hsp, h⟩ | ⟨hsp, h⟩
        · obtain ⟨x, M1, e1, h⟩ := bd2_s h
          obtain ⟨y, -, h⟩ := lz_s h
          obtain ⟨M2, e2, h⟩ := bd1_s h
          cases h
          exact (pop_w e1).trans (push_w e2)
        · obtain ⟨x, M1, e1, h⟩ := bd2_s h
          obtain ⟨y, M2, e2, h⟩ := bd2_s h
          obtain ⟨z, -, h⟩ := bd1_s h
          obtain ⟨M3, e3, h⟩ := bd1_s h
          cases h
          exact ((pop_w e1).trans (pop_w e2)).trans (push_w e3)
    · obtain ⟨x, -, h⟩ := bd1_s h
      obtain ⟨M2, e2, h⟩ := bd1_s h
      cases h
      exact push_w e2
theorem rsl_w {w : Nat} : ∀ (n : Nat) (v : Int32) (A : Mm) (x : Int32) (A' : Mm), f_X8_reckonSums_L13 w n v A = some (x, A') → Wk w A A' := by
  intro n
  induction n with
  | zero => intro v A x A' h; rw [f_X8_reckonSums_L13] at h; cases h
  | succ n ih =>
    intro v A x A' h
    rw [f_X8_reckonSums_L13] at h
    obtain ⟨-, h⟩ := it_s h
    have hh := it_c h; clear h; rcases hh with ⟨hsp, h⟩ | ⟨hsp, h⟩
    · cases h; exact Wk.refl _ _
    · obtain ⟨-, h⟩ := it_s h
      obtain ⟨-, h⟩ := it_s h
      have hh := it_c h; clear h; rcases hh with ⟨hsp, h⟩ | ⟨hsp, h⟩
      · cases h; exact Wk.refl _ _
      · obtain ⟨-, h⟩ := it_s h
        obtain ⟨-, h⟩ := it_s h
        obtain ⟨-, h⟩ := it_s h
        obtain ⟨-, h⟩ := it_s h
        obtain ⟨M1, e1, h⟩ := bd1_s h
        obtain ⟨y, -, h⟩ := lz_s h
        exact (reckon_w e1).trans (ih _ _ _ _ h)
theorem rs_w {w : Nat} {x : Int32} {A A' : Mm} (h : f_X8_reckonSums w A = some (x, A')) : Wk w A A' := by
  rw [f_X8_reckonSums] at h
  obtain ⟨M1, e, h⟩ := lz_s h
  obtain ⟨-, h⟩ := it_s h
  obtain ⟨y, M2, e2, h⟩ := bd2_s h
  cases h
  subst e
  exact Wk.trans (B := wr A w 3 0) ⟨fun i hi _ => wr_ne hi, fun j hj _ => wr_col hj⟩ (rsl_w _ _ _ _ _ e2)
theorem Wk.pa {w b q g : Nat} {A A' : Mm} (hA : AtG w b q g A) (h : Wk w A A') (r : Int32) : Pa w b q r A A' := by
  obtain ⟨hw, hg, hq, -⟩ := hA
  unfold Wb at hw
  have e : ∀ i, i ≤ 17 → A' (b + i) = A (b + i) := fun i hi => h.1 _ (by omega) (by omega)
  have e0 : A' b = A b := e 0 (by omega)
  have eq : A' q = A q := by rw [hq, Nat.add_assoc]; exact e _ (by omega)
  refine ⟨fun x y => ⟨x.congr (fun i hi => e i (by omega)), y.congr (fun j _ => by rw [eq])⟩, ?_, ⟨by rw [eq], Or.inl ⟨by rw [eq], by rw [eq]⟩⟩, h.2 1 (by decide) (by decide)⟩
  unfold TT
  rw [e 4 (by omega), e0, eq]
theorem AtG.pa {w b q g : Nat} {r : Int32} {A A' : Mm} (hA : AtG w b q g A) (h : Pa w b q r A A') : AtG w b q g A' := ⟨hA.1, hA.2.1, hA.2.2.1, by rw [h.2.2.2]; exact hA.2.2.2⟩
theorem AtG.ne {w b q g : Nat} {A : Mm} (hA : AtG w b q g A) : q ≠ w ∧ q ≠ w + 1 ∧ q ≠ b ∧ (∀ k, k < 10 → q ≠ b + k) ∧ w ≠ b ∧ (∀ k, k < 18 → b + k ≠ w) ∧ ∀ k, k < 18 → b + k ≠ w + 1 := by
  obtain ⟨hw, hg, hq, -⟩ := hA
  unfold Wb at hw
  refine ⟨by omega, by omega, by omega, fun k hk => by omega, by omega, fun k hk => by omega, fun k hk => by omega⟩
/-- a step that touches the gang's own row alone, beyond its first fields -/
theorem Pa.own {w b q g : Nat} {r : Int32} {A A' : Mm} (hA : AtG w b q g A) (h1 : ∀ i, i ≠ q → i ≠ q + 1 → A' i = A i) (h2 : ∀ j, j < 4 → A' q j = A q j) (h3 : Hs q r A A') : Pa w b q r A A' := by
  obtain ⟨hw, hg, hq, -⟩ := hA
  unfold Wb at hw
  have e : ∀ i, i < 10 → A' (b + i) = A (b + i) := fun i hi => h1 _ (by omega) (by omega)
  refine ⟨fun x y => ⟨x.congr (fun i hi => e i (by omega)), y.congr h2⟩, ?_, h3, by rw [h1 w (by omega) (by omega)]⟩
  unfold TT
  rw [e 4 (by omega), show A' b = A b from e 0 (by omega), h2 2 (by omega)]
theorem Hs.same {q : Nat} {A A' : Mm} (h : ∀ j, j = 5 ∨ j = 6 ∨ j = 7 → A' q j = A q j) (r : Int32) : Hs q r A A' := ⟨h 7 (by omega), Or.inl ⟨h 5 (by omega), h 6 (by omega)⟩⟩
theorem nine_pa {w b q g : Nat} {v : Int32} {A : Mm} (hA : AtG w b q g A) (r : Int32) : Pa w b q r A (wr A q 9 v) :=
  Pa.own hA (fun i h1 _ => wr_ne h1) (fun j hj => wr_col (by omega)) (Hs.same (fun j hj => wr_col (by omega)) r)
theorem eh_pa {w b q g : Nat} {pa n r : Int32} {A A' : Mm} (hA : AtG w b q g A) (h : f_X8_endHour w pa n A = some (r, A')) : Pa w b q r A A' := by
  rw [f_X8_endHour] at h
  obtain ⟨M6, hm, h⟩ := bd1_s h
  have k1 : Pa w b q 1 A M6 := by
    have hh := it_c hm; clear hm; rcases hh with ⟨hsp, hm⟩ | ⟨hsp, hm⟩
    · cases hm; exact Pa.refl _ _ _ _ _
    · obtain ⟨-, hm⟩ := it_s hm
      rw [hA.rid] at hm
      obtain ⟨M4, e, hm⟩ := lz_s hm
      cases hm
      subst e
      exact Pa.own hA (fun i h1 _ => wr_ne h1) (fun j hj => wr_col (by omega)) ⟨wr_col (by omega), Or.inr ⟨rfl, Or.inr ⟨wr_col (by omega), wr_at _ _ _ _⟩⟩⟩
  have A6 := hA.pa k1
  obtain ⟨-, h⟩ := it_s h
  rw [A6.rid] at h
  obtain ⟨M8, e, h⟩ := lz_s h
  cases h
  subst e
  obtain ⟨j1, j2, ⟨j3, j4⟩, j5⟩ := k1
  have k2 := nine_pa (v := pa + 1) A6 1
  refine ⟨fun x y => k2.1 (j1 x y).1 (j1 x y).2, k2.2.1.trans j2, ⟨(wr_col (by omega)).trans j3, ?_⟩, k2.2.2.2.trans j5⟩
  rw [wr_col (show 5 ≠ 9 by omega), wr_col (show 6 ≠ 9 by omega)]
  exact j4
theorem ho_pa {w b q g : Nat} {r : Int32} {A A' : Mm} (hA : AtG w b q g A) (h : f_X8_isHourOver w A = some (r, A')) : Pa w b q r A A' ∧ (r = 0 ∨ r = 1) := by
  rw [f_X8_isHourOver] at h
  have hh := it_c h; clear h; rcases hh with ⟨hsp, h⟩ | ⟨hsp, h⟩
  · obtain ⟨M2, e, h⟩ := lz_s h
    cases h
    subst e
    exact ⟨Wk.pa hA ⟨fun i hi _ => wr_ne hi, fun j _ hj => wr_col hj⟩ 0, Or.inl rfl⟩
  · obtain ⟨-, h⟩ := it_s h
    rw [hA.rid] at h
    obtain ⟨M5, e, h⟩ := lz_s h
    cases h
    subst e
    exact ⟨Pa.own hA (fun i h1 _ => wr_ne h1) (fun j hj => wr_col (by omega)) ⟨wr_col (by omega), Or.inr ⟨rfl, Or.inl ⟨wr_at _ _ _ _, wr_col (by omega)⟩⟩⟩, Or.inr rfl⟩
/-! bricks that come to bricks -/
theorem mix_b {br we m n x : Int32} {A : Mm} (h : f_X9_mixed br we m n A = some x) (hb : 0 ≤ br.toInt ∧ br.toInt ≤ 99) (hwe : 0 ≤ we.toInt ∧ we.toInt ≤ 20) (hm : 0 < m.toInt ∧ m.toInt ≤ 99) (hn : 0 ≤ n.toInt ∧ n.toInt ≤ 20) : 0 ≤ x.toInt ∧ x.toInt ≤ 20 := by
  rw [f_X9_mixed] at h
  have hh := it_c h; clear h; rcases hh with ⟨hsp, h⟩ | ⟨hsp, h⟩
  · cases h; decide
  · obtain ⟨-, h⟩ := it_s h
    cases h
    have p1 : 0 ≤ we.toInt * br.toInt := Int.mul_nonneg hwe.1 hb.1
    have p2 : we.toInt * br.toInt ≤ 20 * br.toInt := Int.mul_le_mul_of_nonneg_right hwe.2 hb.1
    have q1 : 0 ≤ n.toInt * m.toInt := Int.mul_nonneg hn.1 (by omega)
    have q2 : n.toInt * m.toInt ≤ 20 * m.toInt := Int.mul_le_mul_of_nonneg_right hn.2 (by omega)
    have e1 : (we * br).toInt = we.toInt * br.toInt := i_mul (by omega) (by omega)
    have e2 : (n * m).toInt = n.toInt * m.toInt := i_mul (by omega) (by omega)
    have e3 : (we * br + n * m).toInt = we.toInt * br.toInt + n.toInt * m.toInt := by rw [i_add (by omega) (by omega), e1, e2]
    have e4 : (br + m).toInt = br.toInt + m.toInt := i_add (by omega) (by omega)
    rw [i_div (by rw [e3]; omega) (by rw [e4]; omega), e3, e4]
    refine ⟨Int.ediv_nonneg (by omega) (by omega), Int.le_of_lt_add_one (Int.ediv_lt_of_lt_mul (by omega) ?_)⟩
    omega
theorem ats_w {b : Nat} {a m n : Int32} {A A' : Mm} (h : f_X1_addToStack b a m n A = some A') : (0 ≤ a.toInt ∧ a.toInt < ((64 : Nat) : Int)) ∧ ∃ x, f_X9_mixed (A (b + 4) (ix a)) (A (b + 5) (ix a)) m n A = some x ∧ A' = wr (wr A (b + 5) (ix a) x) (b + 4) (ix a) (A (b + 4) (ix a) + m) := by
  rw [f_X1_addToStack] at h
  obtain ⟨h1, h⟩ := it_s h
  obtain ⟨-, h⟩ := it_s h
  obtain ⟨x, hx, h⟩ := bd1_s h
  obtain ⟨-, h⟩ := it_s h
  obtain ⟨M7, e7, h⟩ := lz_s h
  obtain ⟨-, h⟩ := it_s h
  obtain ⟨-, h⟩ := it_s h
  obtain ⟨M8, e8, h⟩ := lz_s h
  cases h
  refine ⟨h1, x, hx, ?_⟩
  rw [e8, e7, wr_ne (show b + 4 ≠ b + 5 by omega)]
theorem TT.stack {b q c : Nat} {a : Int32} {A A' : Mm} (hc : c < 64) (h4 : ∀ k, k ≠ c → A' (b + 4) k = A (b + 4) k) (hv : A' (b + 4) c = A (b + 4) c + a) : sumL (A' (b + 4)) 64 0 = sumL (A (b + 4)) 64 0 + a := by
  rw [sumL_set (c := c) h4 64 0 (by omega) (by omega), hv]
  grind
theorem BdC.more {b c : Nat} {x m n : Int32} {A A' : Mm} (h : BdC b A) (hm : 0 < m.toInt ∧ m.toInt ≤ 99) (hn : 0 ≤ n.toInt ∧ n.toInt ≤ 20) (hx : f_X9_mixed (A (b + 4) c) (A (b + 5) c) m n A = some x) (hs : (A (b + 4) c).toInt + m.toInt ≤ 99) (hc : c < 64) (e : A' = wr (wr A (b + 5) c x) (b + 4) c (A (b + 4) c + m)) : BdC b A' := by
  obtain ⟨b1, b2, b3, b4, b5⟩ := h.1 c hc
  subst e
  refine h.at (c := c) (fun i k hi hk => by rw [wr_o (Or.inr hk), wr_o (Or.inr hk)]) (fun _ => ?_) (fun _ => by rw [wr_ne (by omega), wr_ne (by omega)]; exact h.2)
  have ea : (A (b + 4) c + m).toInt = (A (b + 4) c).toInt + m.toInt := i_add (by omega) (by omega)
  rw [wr_ne (show b + 1 ≠ b + 4 by omega), wr_ne (show b + 1 ≠ b + 5 by omega), wr_ne (show b + 3 ≠ b + 4 by omega), wr_ne (show b + 3 ≠ b + 5 by omega), wr_at, wr_ne (show b + 5 ≠ b + 4 by omega), wr_at, ea]
  refine ⟨b1, b2, by omega, mix_b hx b3 b4 hm hn, fun z => ?_⟩
  have := congrArg Int32.toInt z
  rw [ea] at this
  have z0 : (0 : Int32).toInt = 0 := rfl
  omega
theorem cut_pa {w b q g : Nat} {pa r : Int32} {A A' : Mm} (hA : AtG w b q g A) (h : f_X8_cut w pa A = some (r, A')) : Pa w b q r A A' := by
  have hN := hA.ne
  rw [f_X8_cut] at h
  simp only [hA.rid, hA.1.wbog] at h
  obtain ⟨-, h⟩ := it_s h
  obtain ⟨-, h⟩ := it_s h
  obtain ⟨x3, e3, h⟩ := lz_s h
  obtain ⟨hx3, h⟩ := it_s h
  obtain ⟨-, h⟩ := it_s h
  obtain ⟨x8, e8, h⟩ := lz_s h
  obtain ⟨x10, M1, hp, h⟩ := bd2_s h
  obtain ⟨M2, hm, h⟩ := bd1_s h
  obtain ⟨x26, M3, he, h⟩ := bd2_s h
  cases h
  generalize hM : imin x10 x8 = a at hm he
  have hW := pop_w hp
  have k1 := hW.pa hA 0
  have A1 := hA.pa k1
  have hc : ix x3 < 64 := ix_lt hx3
  have k2 : Pa w b q 0 M1 M2 := by
    have hh := it_c hm; clear hm; rcases hh with ⟨hsp, hm⟩ | ⟨hsp, hm⟩
    · cases hm; exact Pa.refl _ _ _ _ _
    · have hpos := hsp
      have hpos := pos_i hpos
      obtain ⟨-, hm⟩ := it_s hm
      obtain ⟨-, hm⟩ := it_s hm
      obtain ⟨M18, e18, hm⟩ := lz_s hm
      obtain ⟨M20, e20, hm⟩ := lz_s hm
      obtain ⟨M22, hm22, hm⟩ := bd1_s hm
      cases hm
      obtain ⟨-, x, hx, e⟩ := ats_w hm22
      have r1 : M20 (b + 4) = M1 (b + 4) := by rw [e20, wr_ne (by omega), e18, wr_ne (by omega)]
      have r5 : M20 (b + 5) = M1 (b + 5) := by rw [e20, wr_ne (by omega), e18, wr_ne (by omega)]
      have a1 : M1 (b + 1) = A (b + 1) := hW.1 _ (hN.2.2.2.2.2.1 1 (by omega)) (hN.2.2.2.2.2.2 1 (by omega))
      have a4 : M1 (b + 4) = A (b + 4) := hW.1 _ (hN.2.2.2.2.2.1 4 (by omega)) (hN.2.2.2.2.2.2 4 (by omega))
      refine ⟨fun bc bg => ?_, ?_, ?_, ?_⟩
      · obtain ⟨b1, b2, b3, b4, b5⟩ := bc.1 _ hc
        have i1 := imin_b x10 x8
        have i2 := imin_b (imin (6 : Int32) (A (b + 1) (ix x3))) ((99 : Int32) - A (b + 4) (ix x3))
        have i3 := imin_b (6 : Int32) (A (b + 1) (ix x3))
        have z6 : (6 : Int32).toInt = 6 := rfl
        have z99 : (99 : Int32).toInt = 99 := rfl
        have s99 : ((99 : Int32) - A (b + 4) (ix x3)).toInt = 99 - (A (b + 4) (ix x3)).toInt := by rw [← a4]; exact i_sub (by omega) (by omega)
        rw [hM] at i1
        rw [← e8, s99] at i2
        rw [← a1, ← a4] at i2
        rw [← a1] at i3
        have hsub : (M1 (b + 1) (ix x3) - a).toInt = (M1 (b + 1) (ix x3)).toInt - a.toInt := i_sub (by omega) (by omega)
        have bc20 : BdC b M20 := by
          refine bc.at (c := ix x3) (fun i k hi hk => by rw [e20, wr_ne (by omega), e18, wr_o (Or.inr hk)]) (fun _ => ?_) (fun hz => ?_)
          · rw [e20, wr_ne (show b + 1 ≠ b by omega), wr_ne (show b + 3 ≠ b by omega), wr_ne (show b + 4 ≠ b by omega), wr_ne (show b + 5 ≠ b by omega), wr_ne (show b + 6 ≠ b by omega), e18, wr_at, wr_ne (show b + 3 ≠ b + 1 by omega), wr_ne (show b + 4 ≠ b + 1 by omega), wr_ne (show b + 5 ≠ b + 1 by omega), wr_ne (show b + 6 ≠ b + 1 by omega), hsub]
            exact ⟨by omega, b2, b3, b4, b5⟩
          · exfalso
            have q0 : M1 (b + 1) (ix x3) = 0 := by rw [hz]; exact bc.2
            have q1 := congrArg Int32.toInt q0
            have z0 : (0 : Int32).toInt = 0 := rfl
            omega
        have bce : BdC b M2 := bc20.more ⟨hpos, by omega⟩ (by decide) hx (by rw [r1]; omega) hc e
        refine ⟨bce, bg.congr (fun j _ => ?_)⟩
        rw [e, wr_ne (hN.2.2.2.1 4 (by omega)), wr_ne (hN.2.2.2.1 5 (by omega)), e20, wr_ne hN.2.2.1, e18, wr_ne (hN.2.2.2.1 1 (by omega))]
      · unfold TT
        have s := TT.stack (b := b) (q := q) (c := ix x3) (a := a) (A := M1) (A' := M2) hc (fun k hk => by rw [e, wr_col hk, wr_ne (by omega), r1]) (by rw [e, wr_at, r1])
        have f : ∀ j, j ≠ 13 → M2 b j = M1 b j := fun j hj => by rw [e, wr_ne (by omega), wr_ne (by omega), e20, wr_col hj, e18, wr_ne (by omega)]
        have f13 : M2 b 13 = M1 b 13 + a := by rw [e, wr_ne (by omega), wr_ne (by omega), e20, wr_at, e18, wr_ne (by omega)]
        have fq : M2 q = M1 q := by rw [e, wr_ne (hN.2.2.2.1 4 (by omega)), wr_ne (hN.2.2.2.1 5 (by omega)), e20, wr_ne hN.2.2.1, e18, wr_ne (hN.2.2.2.1 1 (by omega))]
        rw [s, f 10 (by decide), f 11 (by decide), f 12 (by decide), f13, fq]
        grind
      · refine Hs.same (fun j _ => ?_) 0
        rw [e, wr_ne (hN.2.2.2.1 4 (by omega)), wr_ne (hN.2.2.2.1 5 (by omega)), e20, wr_ne hN.2.2.1, e18, wr_ne (hN.2.2.2.1 1 (by omega))]
      · rw [e, wr_ne (fun z => hN.2.2.2.2.2.1 4 (by omega) z.symm), wr_ne (fun z => hN.2.2.2.2.2.1 5 (by omega) z.symm), e20, wr_ne hN.2.2.2.2.1, e18, wr_ne (fun z => hN.2.2.2.2.2.1 1 (by omega) z.symm)]
  exact k1.comp (k2.comp (eh_pa (A1.pa k2) he))
