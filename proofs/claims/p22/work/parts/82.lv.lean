/-! needs 30 31 44 45 46 47 70 72 73 74 75 76 79 80 82 83 85 86 -/
/-! what holds between the law's calls; what a call answers -/
def LV (H ng : Nat) (A : Mm) : Prop := (∃ B, Rel H A B) ∧ A 29 15 = nI ng ∧ ng ≤ 4 ∧ Inv 29 ng H A
theorem Inv.congr {ng N : Nat} {A A' : Mm} (h : Inv 29 ng N A) (hg : ng ≤ 4) (k : ∀ r, 29 ≤ r → r < 47 → A' r = A r) : Inv 29 ng N A' :=
  ⟨h.1.congr (fun i hi => k _ (by omega) (by omega)), fun g hh => ⟨(h.2 g hh).1.congr (fun j _ => by rw [k _ (by omega) (by omega)]), (h.2 g hh).2.congr (k _ (by omega) (by omega))⟩⟩
theorem Inv.mono {b ng N N' : Nat} {A : Mm} (h : Inv b ng N A) (k : N ≤ N') : Inv b ng N' A := ⟨h.1, fun g hg => ⟨(h.2 g hg).1, (h.2 g hg).2.mono k⟩⟩
theorem Rel.gangs {H ng : Nat} {A B : Mm} (h : Rel H A B) (h15 : A 29 15 = nI ng) (h4 : ng ≤ 4) : ∃ p len oA rA cB S, All 29 83 ng p len oA rA cB S A B ∧ Cls oA rA cB len S ∧ DrfR p A ∧ Rx H A B := by
  obtain ⟨m, p, len, oA, rA, cB, S, r1, r2, r3, r4⟩ := h
  have e := r1.2.2.2.1
  have hm := r1.2.2.2.2.2.1
  rw [h15] at e
  have := (n_inj (by omega) (by omega)).mp e
  subst this
  exact ⟨p, len, oA, rA, cB, S, r1, r2, r3, r4⟩
theorem LV.keep {H ng : Nat} {A A' : Mm} (h : LV H ng A) (k : ∀ r, r < 47 → A' r = A r) : LV H ng A' := by
  obtain ⟨⟨B, hB⟩, h2, h3, h4⟩ := h
  exact ⟨⟨B, hB.congr (fun r hr _ => k r hr) (fun _ _ _ => rfl) (fun _ _ => rfl)⟩, by rw [k 29 (by omega)]; exact h2, h3, h4.congr h3 (fun r _ hr => k r hr)⟩
/-- out of a call of both -/
theorem op_get {H H' : Nat} {fX : Mm → Option (Int32 × Int32 × Mm)} {fA fB : Mm → Option (Int32 × Mm)} {A B : Mm} {E : Int32 → Int32 → Mm → Option (Int32 × Mm)} (h : OpR H H' fA fB) (hR : Rel H A B) (hL : fA A = bd3 (fX A) (fun r v M1 => if r = (0 : Int32) then (lz (wr M1 28 0 v) fun M2 => some ((0 : Int32), M2)) else E r v M1)) (h0 : ∀ r v M1, fX A = some (r, v, M1) → r = 0) : ∃ v A1 B', fX A = some (0, v, A1) ∧ Rel H' A1 B' := by
  obtain ⟨k, A', v, B', c1, -, -, -, c5, -⟩ := h A B hR
  rw [hL] at c1
  obtain ⟨r, v', M1, e, c1⟩ := bd3_s c1
  have hr := h0 _ _ _ e
  subst hr
  rw [if_pos rfl] at c1
  obtain ⟨M2, e2, c1⟩ := lz_s c1
  cases c1
  refine ⟨v', M1, B', e, c5.congr (fun r _ hr => ?_) (fun _ _ _ => rfl) (fun _ _ => rfl)⟩
  rw [e2, wr_ne hr]
theorem count_v {H ng : Nat} {A : Mm} (h : LV H ng A) {k : Nat} (hk : k < 13) : f_X9_count 0 (nI k) A = some (0, cvA ng A k, A) := by
  rw [f_X9_count, if_neg (by rw [i_lt, i_nI (by omega)]; show ¬ (k : Int) < 0; omega), if_pos (by rw [i_lt, i_nI (by omega)]; show (k : Int) < 13; omega), cntA h.2.2.1 h.2.1 k hk, bd1_e]
theorem isC_1 {x y : Nat} (hx : x < 8) (hy : y < 8) : f_X9_isCell (nI x) (nI y) = 1 := by
  have := (isCell_run (nI x) (nI y)).1
  rw [i_nI (by omega), i_nI (by omega), if_pos ⟨by omega, by omega⟩] at this
  exact this
theorem cell_v {x y k : Nat} (A : Mm) (hx : x < 8) (hy : y < 8) (hk : k < 5) : f_X9_cell 0 (nI x) (nI y) (nI k) A = some (0, cvC 29 A (8 * y + x) k, A) := by
  rw [f_X9_cell, isC_1 hx hy, lz_e, if_neg (by decide), if_neg (by rw [i_lt, i_nI (by omega)]; show ¬ (k : Int) < 0; omega), if_pos (by rw [i_lt, i_nI (by omega)]; show (k : Int) < 5; omega), cl_A hx hy, lz_e, show (0 + 29 : Nat) = 29 from rfl, tellA 29 A (by omega) hk, bd1_e]
theorem gang_v {H ng g k : Nat} {A : Mm} (h : LV H ng A) (hg : g < ng) (hk : k < 9) : f_X9_gang 0 (nI g) (nI k) A = some (0, f_X2_tell (39 + 2 * g) (nI k) A, A) := by
  have h4 := h.2.2.1
  rw [f_X9_gang, if_neg (by rw [i_lt, i_nI (by omega)]; show ¬ (g : Int) < 0; omega), show (0 + 29 : Nat) = 29 from rfl, h.2.1, if_pos (by rw [n_lt (by omega) (by omega)]; exact hg), if_neg (by rw [i_lt, i_nI (by omega)]; show ¬ (k : Int) < 0; omega), if_pos (by rw [i_lt, i_nI (by omega)]; show (k : Int) < 9; omega), if_pos (inN (show g < 4 by omega)), ixn (by omega), lz_e]
theorem digest_v {H ng : Nat} {A : Mm} (h : LV H ng A) : ∃ x, f_X9_digest 0 A = some x ∧ ∀ A', (∀ r, r < 47 → A' r = A r) → f_X9_digest 0 A' = some x := by
  obtain ⟨⟨B, hB⟩, -⟩ := h
  obtain ⟨x, B1, d1, d2, -⟩ := digest_ok hB
  refine ⟨x, d1, fun A' k => ?_⟩
  have hB' : Rel H A' B := hB.congr (fun r hr _ => k r hr) (fun _ _ _ => rfl) (fun _ _ => rfl)
  obtain ⟨x', B2, e1, e2, -⟩ := digest_ok hB'
  rw [d2] at e2
  cases e2
  exact e1
/-! setWeather, set, stack: what they write -/
theorem not0 {C : Prop} {c : Int32} {x y : Int32 × Mm} (h : some (c, x) = some ((0 : Int32), y)) (hc : ¬ c = 0) : C := ex_no hc h
theorem weather_v {H ng k : Nat} {a c : Int32} {A : Mm} (h : LV H ng A) (hk : k < 12) (ha : 0 ≤ a.toInt ∧ a.toInt ≤ 9) (hc : 0 ≤ c.toInt ∧ c.toInt ≤ 9) : ∃ v A', f_X9_setWeather 0 (nI k) a c A = some (0, v, A') ∧ LV H ng A' ∧ (∀ r, r ≠ 36 → r ≠ 37 → A' r = A r) := by
  have w : ∀ z : Int32, 0 ≤ z.toInt ∧ z.toInt ≤ 9 → f_X9_isWithin z (0 : Int32) (9 : Int32) = 1 := by
    intro z hz
    rw [f_X9_isWithin, if_neg (by rw [i_lt]; have : (0 : Int32).toInt = 0 := rfl; omega), if_neg (by rw [i_lt]; have : (9 : Int32).toInt = 9 := rfl; omega)]
  have hk0 : ¬ nI k < (0 : Int32) := by rw [i_lt, i_nI (by omega)]; show ¬ (k : Int) < 0; omega
  have hk1 : nI k < (12 : Int32) := by rw [i_lt, i_nI (by omega)]; show (k : Int) < 12; omega
  have e : f_X9_setWeather 0 (nI k) a c A = some (0, ((10 : Int32) * A 36 k) + A 37 k, wr (wr A 36 k a) 37 k c) := by
    rw [f_X9_setWeather, if_neg hk0, if_pos hk1, w a ha, lz_e, if_neg (by decide), w c hc, lz_e, if_neg (by decide), if_pos (inN hk), if_pos (inN hk), ixn (by omega), lz_e, if_pos (inN hk), lz_e, if_pos (inN hk), lz_e]
  obtain ⟨⟨B, hB⟩, h2, h3, h4⟩ := h
  obtain ⟨v, A1, B', e1, hB'⟩ := op_get (setWeather_ok H (nI k) a c) hB (E := fun r v M1 => _) rfl (fun r v M1 z => by rw [e] at z; cases z; rfl)
  rw [e] at e1
  cases e1
  have fr : ∀ r, r ≠ 36 → r ≠ 37 → wr (wr A 36 k a) 37 k c r = A r := fun r h6 h7 => by rw [wr_ne h7, wr_ne h6]
  refine ⟨_, _, e, ⟨⟨B', hB'⟩, by rw [fr 29 (by decide) (by decide)]; exact h2, h3, ?_⟩, fr⟩
  exact ⟨h4.1.congr (fun i hi => fr _ (by omega) (by omega)), fun g hg => ⟨(h4.2 g hg).1.congr (fun j _ => by rw [fr _ (by omega) (by omega)]), (h4.2 g hg).2.congr (fr _ (by omega) (by omega))⟩⟩
theorem TA.bog {ng : Nat} {A A' : Mm} {m : Int32} (h : TB 29 A' = TB 29 A + m) (k : ∀ g, g < ng → A' (39 + 2 * g) 2 = A (39 + 2 * g) 2) : TA 29 ng A' = TA 29 ng A + m := by
  unfold TA
  rw [h, sumL_congr ng 0 (fun g _ hg => by show A' (29 + 10 + 2 * g) 2 = A (29 + 10 + 2 * g) 2; exact k g (by omega))]
  grind
theorem set_v {H ng x y : Nat} {p w : Int32} {A : Mm} (h : LV H ng A) (hx : x < 8) (hy : y < 8) (hp : 0 ≤ p.toInt ∧ p.toInt ≤ 60) (hw : 0 ≤ w.toInt ∧ w.toInt ≤ 9) (h0 : 8 * y + x = 0 → p = 0) : ∃ v A', f_X9_set 0 (nI x) (nI y) p w A = some (0, v, A') ∧ LV H ng A' ∧ A' 29 = A 29 ∧ A' 33 = A 33 ∧ ∀ r, r ≠ 30 → r ≠ 32 → A' r = A r := by
  have hc : 8 * y + x < 64 := by omega
  have w1 : f_X9_isWithin p (0 : Int32) (60 : Int32) = 1 := by
    rw [f_X9_isWithin, if_neg (by rw [i_lt]; have : (0 : Int32).toInt = 0 := rfl; omega), if_neg (by rw [i_lt]; have : (60 : Int32).toInt = 60 := rfl; omega)]
  have w2 : f_X9_isWithin w (0 : Int32) (9 : Int32) = 1 := by
    rw [f_X9_isWithin, if_neg (by rw [i_lt]; have : (0 : Int32).toInt = 0 := rfl; omega), if_neg (by rw [i_lt]; have : (9 : Int32).toInt = 9 := rfl; omega)]
  have e : ∃ v, f_X9_set 0 (nI x) (nI y) p w A = some (0, v, wr (wr A 30 (8 * y + x) p) 32 (8 * y + x) w) := by
    rw [f_X9_set, isC_1 hx hy, lz_e, if_neg (by decide), cl_A hx hy, lz_e, w1, lz_e, if_neg (by decide), w2, lz_e, if_neg (by decide)]
    by_cases z : 8 * y + x = 0
    · rw [if_pos (by rw [z]; rfl), if_pos (h0 z), if_pos (inN hc), if_pos (inN hc), ixn (by omega), lz_e, if_pos (inN hc), lz_e, if_pos (inN hc), lz_e]
      exact ⟨_, rfl⟩
    · rw [if_neg (show ¬ nI (8 * y + x) = 0 from fun k => z ((n_inj (b := 0) (by omega) (by omega)).mp (k.trans (show (0 : Int32) = nI 0 from rfl)))), if_pos (inN hc), if_pos (inN hc), ixn (by omega), lz_e, if_pos (inN hc), lz_e, if_pos (inN hc), lz_e]
      exact ⟨_, rfl⟩
  obtain ⟨v, e⟩ := e
  obtain ⟨⟨B, hB⟩, h2, h3, h4⟩ := h
  obtain ⟨v1, A1, B', e1, hB'⟩ := op_get (set_ok H (nI x) (nI y) p w) hB (E := fun r v M1 => _) rfl (fun r v M1 z => by rw [e] at z; cases z; rfl)
  rw [e] at e1
  cases e1
  have fr : ∀ r, r ≠ 30 → r ≠ 32 → wr (wr A 30 (8 * y + x) p) 32 (8 * y + x) w r = A r := fun r h6 h7 => by rw [wr_ne h7, wr_ne h6]
  refine ⟨_, _, e, ⟨⟨B', hB'⟩, by rw [fr 29 (by decide) (by decide)]; exact h2, h3, ?_⟩, fr 29 (by decide) (by decide), fr 33 (by decide) (by decide), fr⟩
  refine ⟨h4.1.at (c := 8 * y + x) (fun i k hi hk => by rw [wr_o (Or.inr hk), wr_o (Or.inr hk)]) (fun _ => ?_) (fun z => ?_), fun g hg => ⟨(h4.2 g hg).1.congr (fun j _ => by rw [fr _ (by omega) (by omega)]), (h4.2 g hg).2.congr (fr _ (by omega) (by omega))⟩⟩
  · obtain ⟨b1, b2, b3, b4, b5⟩ := h4.1.1 _ hc
    rw [show (29 + 1 : Nat) = 30 from rfl, show (29 + 3 : Nat) = 32 from rfl, show (29 + 4 : Nat) = 33 from rfl, show (29 + 5 : Nat) = 34 from rfl, show (29 + 6 : Nat) = 35 from rfl, wr_ne (show (30 : Nat) ≠ 32 by decide), wr_at, wr_at, fr 33 (by decide) (by decide), fr 34 (by decide) (by decide), fr 35 (by decide) (by decide)]
    exact ⟨hp, hw, b3, b4, b5⟩
  · rw [show (29 + 1 : Nat) = 30 from rfl, wr_ne (show (30 : Nat) ≠ 32 by decide)]
    rw [z, wr_at]; exact h0 z
theorem stack_v {H ng x y : Nat} {m n : Int32} {A : Mm} (h : LV H ng A) (hx : x < 8) (hy : y < 8) (hm : 1 ≤ m.toInt ∧ m.toInt ≤ 99) (hn : 0 ≤ n.toInt ∧ n.toInt ≤ 20) (hs : (A 33 (8 * y + x)).toInt + m.toInt ≤ 99) : ∃ v A', f_X9_stack 0 (nI x) (nI y) m n A = some (0, v, A') ∧ LV H ng A' ∧ A' 29 = A 29 ∧ (∀ r, r ≠ 33 → r ≠ 34 → A' r = A r) ∧ TA 29 ng A' = TA 29 ng A + m ∧ sumL (A' 33) 64 0 = sumL (A 33) 64 0 + m := by
  have hc : 8 * y + x < 64 := by omega
  obtain ⟨⟨B, hB⟩, h2, h3, h4⟩ := h
  obtain ⟨b1, b2, b3, b4, b5⟩ := h4.1.1 _ hc
  have b3' : 0 ≤ (A 33 (8 * y + x)).toInt ∧ (A 33 (8 * y + x)).toInt ≤ 99 := b3
  have w1 : f_X9_isWithin m (1 : Int32) (99 : Int32) = 1 := by
    rw [f_X9_isWithin, if_neg (by rw [i_lt]; have : (1 : Int32).toInt = 1 := rfl; omega), if_neg (by rw [i_lt]; have : (99 : Int32).toInt = 99 := rfl; omega)]
  have w2 : f_X9_isWithin n (0 : Int32) (20 : Int32) = 1 := by
    rw [f_X9_isWithin, if_neg (by rw [i_lt]; have : (0 : Int32).toInt = 0 := rfl; omega), if_neg (by rw [i_lt]; have : (20 : Int32).toInt = 20 := rfl; omega)]
  have le : (A 33 (8 * y + x) + m) ≤ (99 : Int32) := by
    rw [i_le, i_add (by omega) (by omega)]; have : (99 : Int32).toInt = 99 := rfl; omega
  have e : f_X9_stack 0 (nI x) (nI y) m n A = bd1 (f_X1_addToStack 29 (nI (8 * y + x)) m n A) fun M18 => if 0 ≤ (nI (8 * y + x)).toInt ∧ (nI (8 * y + x)).toInt < ((64 : Nat) : Int) then (some ((0 : Int32), (M18 (29 + 4) (ix (nI (8 * y + x)))), M18)) else none := by
    rw [f_X9_stack, isC_1 hx hy, lz_e, if_neg (by decide), w1, lz_e, if_neg (by decide), w2, lz_e, if_neg (by decide), cl_A hx hy, lz_e, if_pos (inN hc)]
    rw [if_pos (show ((A ((0 + 29) + 4) (ix (nI (8 * y + x)))) + m) ≤ (99 : Int32) by rw [ixn (by omega)]; exact le)]
  obtain ⟨v1, A1, B', e1, hB'⟩ := op_get (stack_ok H (nI x) (nI y) m n) hB (E := fun r v M1 => _) rfl (fun r v M1 z => by
    rw [e] at z
    obtain ⟨M, -, z⟩ := bd1_s z
    rw [if_pos (inN hc)] at z
    cases z; rfl)
  have e1' := e1
  rw [e] at e1'
  obtain ⟨M, hM, e1'⟩ := bd1_s e1'
  rw [if_pos (inN hc)] at e1'
  cases e1'
  obtain ⟨-, mx, hmx, em⟩ := ats_w hM
  rw [ixn (show 8 * y + x < 2147483648 by omega)] at hmx em
  have fr : ∀ r, r ≠ 33 → r ≠ 34 → A1 r = A r := fun r h6 h7 => by rw [em, wr_ne (show r ≠ 29 + 4 from h6), wr_ne (show r ≠ 29 + 5 from h7)]
  have hsum : sumL (A1 33) 64 0 = sumL (A 33) 64 0 + m := TT.stack (b := 29) (q := 0) (c := 8 * y + x) (a := m) (A := A) (A' := A1) hc (fun k hk => by rw [em, wr_col hk, wr_ne (by omega)]) (by rw [em, wr_at])
  refine ⟨_, _, e1, ⟨⟨B', hB'⟩, by rw [fr 29 (by decide) (by decide)]; exact h2, h3, ?_⟩, fr 29 (by decide) (by decide), fr, ?_, hsum⟩
  · exact ⟨h4.1.more ⟨by omega, hm.2⟩ hn hmx hs hc em, fun g hg => ⟨(h4.2 g hg).1.congr (fun j _ => by rw [fr _ (by omega) (by omega)]), (h4.2 g hg).2.congr (fr _ (by omega) (by omega))⟩⟩
  · refine TA.bog ?_ (fun g hg => by rw [fr _ (by omega) (by omega)])
    unfold TB
    rw [show (29 + 4 : Nat) = 33 from rfl, hsum, fr 29 (by decide) (by decide)]
    grind
/-! the trial goes as the bog goes -/
theorem Rep.back {q g : Nat} {A B : Mm} (hg : g < 4) : ∀ {e : List Nat}, e.length ≤ 8 → Rep q 91 g e A (cBB B) → Rep q 83 g e A B
  | [], _, _ => trivial
  | d :: e, h, k => by
    have hl : e.length < 8 := by simp at h; omega
    refine ⟨?_, Rep.back hg (by omega) k.2⟩
    rw [k.1]
    exact (cBB_rows B).2.2 _ (by omega)
theorem All.back {ng p len : Nat} {oA rA cB : Nat → Int32} {S : PS} {A B : Mm} (hSl : ∀ a b e, S a b e → e.length ≤ 8) (h : All 47 91 ng p len oA rA cB S A (cBB B)) : All 47 83 ng p len oA rA cB S A B := by
  obtain ⟨⟨h1, h2, h3, h4, h5⟩, hP, k1, k2, k3, k4, k5⟩ := h
  refine ⟨⟨fun k hk => ?_, ?_, fun k hk => ?_, h4, h5⟩, hP, ?_, k2, ?_, k4, fun g hg => ?_⟩
  · obtain ⟨c1, c2, c3, c4, c5⟩ := (cBB_rows B).1 k hk
    obtain ⟨d1, d2, d3, d4, d5⟩ := h1 k hk
    exact ⟨d1.trans c1, d2.trans c2, d3.trans c3, d4.trans c4, d5.trans c5⟩
  · obtain ⟨d1, d2, d3, d4, d5, d6⟩ := h2
    exact ⟨d1.trans (cBB_91 B 0 (by omega)), d2.trans (cBB_91 B 1 (by omega)), d3.trans (cBB_91 B 2 (by omega)), d4.trans (cBB_91 B 3 (by omega)), d5.trans (cBB_91 B 4 (by omega)), d6.trans (cBB_91 B 5 (by omega))⟩
  · have := h3 k hk
    rw [cBB_r (by omega), cBB_r (by omega)] at this
    exact this
  · rw [cBB_r (by omega)] at k1; exact k1
  · rw [cBB_r (by omega)] at k3; exact k3
  · obtain ⟨⟨g0, g1, g2, g3, g5, g6, g7, g8, g9⟩, gI, a, bb, e, m1, m2, m3, m4⟩ := k5 g hg
    have c := (cBB_rows B).2.1
    refine ⟨⟨g0.trans (c _ (by omega)), g1.trans (c _ (by omega)), g2.trans (c _ (by omega)), g3.trans (c _ (by omega)), g5.trans (c _ (by omega)), g6.trans (c _ (by omega)), g7.trans (c _ (by omega)), g8.trans (c _ (by omega)), g9.trans (c _ (by omega))⟩, gI, a, bb, e, m1, (c _ (by omega)).symm.trans m2, m3, Rep.back (by omega) (hSl _ _ _ m3) m4⟩
/-- what is foreseen of dry bricks comes -/
theorem fore_v {H ng i : Nat} {A : Mm} (h : LV H ng A) (hH : H < 100000) (hi : 1 ≤ i ∧ i ≤ 200) : ∃ A', f_X9_foresee 0 (nI i) 0 A = some (0, A' 47 10, A') ∧ (∀ r, r < 47 → A' r = A r) ∧
    ∀ C, (∀ r, r < 47 → C r = A r) → ∃ C', f_X9_pass 0 (nI i) C = some (0, C' 29 10 - C 29 10, C') ∧ C' 29 10 = A' 47 10 ∧ C' 0 = C 0 ∧ LV (H + i) ng C' ∧ TA 29 ng C' = TA 29 ng A := by
  obtain ⟨⟨B, hB⟩, h2, h3, h4⟩ := h
  obtain ⟨p, len, oA, rA, cB, S, r1, r2, r3, rx⟩ := hB.gangs h2 h3
  have rx1 := rx.1
  have hcl := fun a b e x => (r2 a b e x).1
  have hSl := fun a b e x => (r2 a b e x).2.1
  obtain ⟨A1, c1, -, c3, c4, c5, -⟩ := copy_ok r2 r1
  obtain ⟨A2, B2, d1, d2, d3, d4, d5, d6⟩ := pass_run (w := 67) (b := 47) (s := 83) (H := i) hcl hSl (Or.inr ⟨rfl, rfl⟩) (Or.inl rfl) (by omega) (All.back hSl c3) (by rw [c5]; omega)
  have hi0 : ¬ nI i < (1 : Int32) := by rw [i_lt, i_nI (by omega)]; show ¬ (i : Int) < 1; omega
  have k47 : ∀ r, r < 47 → A2 r = A r := fun r hr => (d4.1 r (by omega) (by omega) (by omega)).trans (c4 r (by omega))
  refine ⟨A2, ?_, k47, fun C hC => ?_⟩
  · rw [f_X9_foresee, if_neg hi0, if_pos (by rw [i_le, i_nI (by omega)]; show (i : Int) ≤ 300; omega), if_neg (by decide), if_pos (by decide), show (0 + 47 : Nat) = 47 from rfl, show (0 + 29 : Nat) = 29 from rfl, show (0 + 67 : Nat) = 67 from rfl, c1, bd1_e, d1, bd1_e, if_pos rfl]
  · have hBC : Rel H C B := hB.congr (fun r hr _ => hC r hr) (fun _ _ _ => rfl) (fun _ _ => rfl)
    have hp := r1.2.1.1
    have s1 : All 29 83 ng p len oA rA cB S C B := r1.congr (by omega) (by omega) hSl (fun r hr => hC r (by omega)) (fun _ _ => rfl) rfl
    have s4 : Rx H C B := by
      obtain ⟨x1, ⟨L, t1, t2, t3, t4⟩, ⟨D, u1, u2, u3, u4⟩, x4, x5⟩ := rx
      refine ⟨by rw [hC 29 (by omega)]; exact x1, ⟨L, t1, by rw [hC 0 (by omega)]; exact t2, t3, fun k hk => by rw [hC 1 (by omega)]; exact t4 k hk⟩, ⟨D, u1, by rw [hC 0 (by omega)]; exact u2, u3, fun k hk => by rw [hC 2 (by omega)]; exact u4 k hk⟩, fun k hk => by rw [hC 36 (by omega), hC 37 (by omega)]; exact x4 k hk, by rw [hC 0 (by omega)]; exact x5⟩
    have s3 : DrfR p C := by
      obtain ⟨q, q1, q2, q3⟩ := r3
      exact ⟨q, by rw [hC 0 (by omega)]; exact q1, q2, q3⟩
    have s41 := s4.1
    obtain ⟨C', B3, e1, e2, e3, e4, e5, e6⟩ := pass_run (w := 65) (b := 29) (s := 83) (H := i) hcl hSl (Or.inl ⟨rfl, rfl⟩) (Or.inl rfl) (by omega) s1 (by omega)
    rw [d2] at e2
    cases e2
    have hI : Inv 29 ng H C := h4.congr h3 (fun r _ hr => hC r hr)
    obtain ⟨z1, z2⟩ := pass_bd hcl hSl (Or.inl ⟨rfl, rfl⟩) (Or.inl rfl) (by omega) s1 (by omega) (N := H) (by omega) e1 hI
    refine ⟨C', ?_, ?_, e4.1 0 (by omega) (by omega) (by omega), ⟨⟨B2, Rel.goes s4 r2 s3 e3 e4 e5 e6⟩, e3.2.2.2.1, h3, z1⟩, z2.trans ?_⟩
    · rw [f_X9_pass, if_neg hi0, if_pos (by rw [i_le, i_nI (by omega)]; show (i : Int) ≤ 200; omega), show (0 + 65 : Nat) = 65 from rfl, e1, bd1_e]
    · exact e3.1.2.1.2.2.1.trans d3.1.2.1.2.2.1.symm
    · unfold TA TB
      rw [show (29 + 4 : Nat) = 33 from rfl, hC 33 (by omega), hC 29 (by omega), sumL_congr ng 0 (fun g _ hg => by show C (29 + 10 + 2 * g) 2 = A (29 + 10 + 2 * g) 2; rw [hC _ (by omega)])]
theorem dries_w {M : Mm} {r v : Int32} {M1 : Mm} : ∀ (n : Nat) (a c d : Int32), f_X9_dries_L57 0 M n a c d = some (r, v, M1) → r = 0 ∧ M1 = M := by
  intro n
  induction n with
  | zero => intro a c d h; rw [f_X9_dries_L57] at h; cases h
  | succ n ih =>
    intro a c d h
    rw [f_X9_dries_L57] at h
    have hh := it_c h; clear h; rcases hh with ⟨hsp, h⟩ | ⟨hsp, h⟩
    · cases h; exact ⟨rfl, rfl⟩
    · have hh := it_c h; clear h; rcases hh with ⟨hsp, h⟩ | ⟨hsp, h⟩
      · obtain ⟨x, -, h⟩ := lz_s h
        obtain ⟨-, h⟩ := it_s h
        obtain ⟨-, h⟩ := it_s h
        obtain ⟨x2, -, h⟩ := lz_s h
        obtain ⟨x3, -, h⟩ := lz_s h
        exact ih _ _ _ h
      · cases h; exact ⟨rfl, rfl⟩
theorem dries_v {H ng x y : Nat} {A : Mm} (h : LV H ng A) (hH : H < 100000) (hx : x < 8) (hy : y < 8) : ∃ v, f_X9_dries 0 (nI x) (nI y) A = some (0, v, A) := by
  obtain ⟨⟨B, hB⟩, h2, h3, h4⟩ := h
  have hw : ∀ r v M1, f_X9_dries 0 (nI x) (nI y) A = some (r, v, M1) → r = 0 ∧ M1 = A := by
    intro r v M1 z
    rw [f_X9_dries, isC_1 hx hy, lz_e, if_neg (by decide)] at z
    obtain ⟨x5, -, z⟩ := lz_s z
    obtain ⟨-, z⟩ := it_s z
    obtain ⟨x9, -, z⟩ := lz_s z
    obtain ⟨-, z⟩ := it_s z
    obtain ⟨x14, -, z⟩ := lz_s z
    exact dries_w _ _ _ _ z
  obtain ⟨v, A1, B', e1, -⟩ := op_get (dries_ok H (by omega) (nI x) (nI y)) hB (E := fun r v M1 => _) rfl (fun r v M1 z => (hw r v M1 z).1)
  have := (hw _ _ _ e1).2
  subst this
  exact ⟨v, e1⟩
theorem done_v {H ng : Nat} {A : Mm} (h : LV H ng A) (hH : H < 100000) (hg : 0 < ng) : ∃ v A', f_X9_done 0 0 A = some (0, v, A') ∧ ∀ r, r < 47 → A' r = A r := by
  obtain ⟨⟨B, hB⟩, h2, h3, h4⟩ := h
  obtain ⟨p, len, oA, rA, cB, S, r1, r2, r3, rx⟩ := hB.gangs h2 h3
  have rx1 := rx.1
  obtain ⟨A1, c1, -, c3, c4, c5, -⟩ := copy_ok r2 r1
  obtain ⟨x, A', B', d1, -, d3, -⟩ := done_run r2 hg 301 0 FU FU A1 (cBB B) (by omega) (by unfold FU; omega) (by unfold FU; omega) (by rw [c5]; omega) c3
  have d1' : f_X9_done_L38 0 (0 : Int32) FU 0 A1 = some (0, x, A') := d1
  refine ⟨x, A', ?_, fun r hr => (d3 r (by omega)).trans (c4 r (by omega))⟩
  rw [f_X9_done, if_neg (by decide), show (0 + 29 : Nat) = 29 from rfl, h2, if_pos (by rw [show (0 : Int32) = nI 0 from rfl, n_lt (by omega) (by omega)]; exact hg), show (0 + 47 : Nat) = 47 from rfl, c1, bd1_e, d1']
/-! the sums that the law reckons -/
theorem accL_sum (f : Nat → Int32) : ∀ (k j : Nat) (v : Int32), accL f k j v = v + sumL f k j
  | 0, j, v => by show v = v + 0; simp
  | k + 1, j, v => by
    show accL f k (j + 1) (v + f j) = v + (f j + sumL f k (j + 1))
    rw [accL_sum f k (j + 1)]
    grind
theorem TA.cnt {ng : Nat} (A : Mm) : TA 29 ng A = cvA ng A 7 + cvA ng A 8 + cvA ng A 5 + cvA ng A 6 + cvA ng A 9 - cvA ng A 10 := by
  show TB 29 A + _ = accL (A 33) 64 0 0 + accL (fun g => A (39 + 2 * g) 2) ng 0 0 + A 29 10 + A 29 11 + A 29 12 - A 29 13
  rw [accL_sum, accL_sum]
  unfold TB
  show sumL (A 33) 64 0 + A 29 10 + A 29 11 + A 29 12 - A 29 13 + sumL (fun g => A (39 + 2 * g) 2) ng 0 = _
  grind
theorem LV.mono {H H' ng : Nat} {A : Mm} (h : LV H ng A) (k : H ≤ H') : LV H' ng A := by
  obtain ⟨⟨B, hB⟩, h2, h3, h4⟩ := h
  exact ⟨⟨B, hB.mono k⟩, h2, h3, h4.mono k⟩
