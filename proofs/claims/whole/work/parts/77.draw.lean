/-! needs 30 31 32 33 34 35 36 37 38 39 40 41 42 43 44 45 46 47 50 70 72 73 74 75 -/
/-! draw in both -/
def hgL (f : Nat → Int32) (c : Int32) : Nat → Nat → Int32
  | 0, _ => 0
  | k + 1, g => if f g = c then 1 else hgL f c k (g + 1)
theorem hgL_congr {f f' : Nat → Int32} {c : Int32} : ∀ (k g : Nat), (∀ h, g ≤ h → h < g + k → f h = f' h) → hgL f c k g = hgL f' c k g
  | 0, _, _ => rfl
  | k + 1, g, h => by
    show (if f g = c then 1 else hgL f c k (g + 1)) = (if f' g = c then 1 else hgL f' c k (g + 1))
    rw [h g (Nat.le_refl _) (by omega), hgL_congr k (g + 1) (fun x h1 h2 => h x (by omega) (by omega))]
def gpA (A : Mm) (g : Nat) : Int32 := A (39 + 2 * g) 1 * (8 : Int32) + A (39 + 2 * g) 0
def gpB (B : Mm) (g : Nat) : Int32 := (8 : Int32) * B 89 (10 * g + 1) + B 89 (10 * g)
theorem hasA {m : Nat} {M : Mm} (hm : m ≤ 4) (h15 : M 29 15 = nI m) (c : Int32) : ∀ (k g n : Nat), g + k = m → k < n → f_X1_hasGangAt_L2 29 c M n (nI g) = some (hgL (gpA M) c k g) := by
  intro k
  induction k with
  | zero =>
    intro g n hg hn
    obtain ⟨n', rfl⟩ : ∃ z, n = z + 1 := ⟨n - 1, by omega⟩
    rw [f_X1_hasGangAt_L2, h15, if_pos (by rw [n_le (by omega) (by omega)]; omega)]; rfl
  | succ k ih =>
    intro g n hg hn
    obtain ⟨n', rfl⟩ : ∃ z, n = z + 1 := ⟨n - 1, by omega⟩
    rw [f_X1_hasGangAt_L2, h15, if_neg (by rw [n_le (by omega) (by omega)]; omega), if_pos (inN (show g < 4 by omega)), if_pos (inN (show g < 4 by omega)), ixn (by omega), lz_e, n_suc, lz_e, ih (g + 1) n' (by omega) (by omega)]
    show (if gpA M g = c then some 1 else some (hgL (gpA M) c k (g + 1))) = some (if gpA M g = c then 1 else hgL (gpA M) c k (g + 1))
    by_cases z : gpA M g = c
    · rw [if_pos z, if_pos z]
    · rw [if_neg z, if_neg z]
theorem hasB {m : Nat} {M : Mm} (hm : m ≤ 4) (h15 : M 69 9 = nI m) (c : Int32) : ∀ (k g n : Nat), g + k = m → k < n → f_X11_isGangIn_L2 69 c M n (nI g) = some (hgL (gpB M) c k g) := by
  intro k
  induction k with
  | zero =>
    intro g n hg hn
    obtain ⟨n', rfl⟩ : ∃ z, n = z + 1 := ⟨n - 1, by omega⟩
    rw [f_X11_isGangIn_L2, h15, if_pos (by rw [n_le (by omega) (by omega)]; omega)]; rfl
  | succ k ih =>
    intro g n hg hn
    obtain ⟨n', rfl⟩ : ∃ z, n = z + 1 := ⟨n - 1, by omega⟩
    rw [f_X11_isGangIn_L2, h15, if_neg (by rw [n_le (by omega) (by omega)]; omega), g10 (show g < 4 by omega), n_suc (10 * g), if_pos (inN (show 10 * g + 1 < 40 by omega)), ixn (show 10 * g + 1 < 2147483648 by omega), lz_e, if_pos (inN (show 10 * g < 40 by omega)), ixn (show 10 * g < 2147483648 by omega), n_suc, lz_e, ih (g + 1) n' (by omega) (by omega)]
    show (if gpB M g = c then some 1 else some (hgL (gpB M) c k (g + 1))) = some (if gpB M g = c then 1 else hgL (gpB M) c k (g + 1))
    by_cases z : gpB M g = c
    · rw [if_pos z, if_pos z]
    · rw [if_neg z, if_neg z]
def sgv (h c br wa pe : Int32) : Int32 := if h = 0 then (if c = 0 then 66 else if br ≤ 0 then (if wa = 9 then 126 else if pe < 40 then (if pe < 20 then (if pe < 1 then 46 else 45) else 43) else 35) else 83) else 71
theorem sgv_b (h c br wa pe : Int32) : ((sgv h c br wa pe).toInt8.toInt32).toInt8.toInt32 = sgv h c br wa pe := by
  unfold sgv
  by_cases h1 : h = 0
  · rw [if_pos h1]
    by_cases h2 : c = 0
    · rw [if_pos h2]; decide
    · rw [if_neg h2]
      by_cases h3 : br ≤ 0
      · rw [if_pos h3]
        by_cases h4 : wa = 9
        · rw [if_pos h4]; decide
        · rw [if_neg h4]
          by_cases h5 : pe < 40
          · rw [if_pos h5]
            by_cases h6 : pe < 20
            · rw [if_pos h6]
              by_cases h7 : pe < 1
              · rw [if_pos h7]; decide
              · rw [if_neg h7]; decide
            · rw [if_neg h6]; decide
          · rw [if_neg h5]; decide
      · rw [if_neg h3]; decide
  · rw [if_neg h1]; decide
/-- the sign of a cell, in the class's rows -/
def sgA (m : Nat) (A : Mm) (c : Nat) : Int32 := sgv (hgL (gpA A) (nI c) m 0) (nI c) (A 33 c) (A 32 c) (A 30 c)
theorem signA {m c : Nat} {M : Mm} (hm : m ≤ 4) (h15 : M 29 15 = nI m) (hc : c < 64) : f_X9_signOf 0 (nI c) M = some (sgA m M c) := by
  have h0 := hasA hm h15 (nI c) m 0 FU (by omega) (by unfold FU; omega)
  rw [f_X9_signOf, f_X1_hasGangAt, show (0 + 29 : Nat) = 29 from rfl, show f_X1_hasGangAt_L2 29 (nI c) M FU 0 = _ from h0, bd1_e, if_pos (inN hc), if_pos (inN hc), if_pos (inN hc), ixn (by omega), lz_e]
  unfold sgA sgv
  generalize hgL (gpA M) (nI c) m 0 = h
  show (if h = 0 then (if nI c = 0 then some (66 : Int32) else (if M 33 c ≤ 0 then (if M 32 c = 9 then some 126 else (if M 30 c < 40 then (if M 30 c < 20 then (if M 30 c < 1 then some 46 else some 45) else some 43) else some 35)) else some 83)) else some 71) = _
  by_cases h1 : h = 0
  · rw [if_pos h1, if_pos h1]
    by_cases h2 : nI c = 0
    · rw [if_pos h2, if_pos h2]
    · rw [if_neg h2, if_neg h2]
      by_cases h3 : M 33 c ≤ 0
      · rw [if_pos h3, if_pos h3]
        by_cases h4 : M 32 c = 9
        · rw [if_pos h4, if_pos h4]
        · rw [if_neg h4, if_neg h4]
          by_cases h5 : M 30 c < 40
          · rw [if_pos h5, if_pos h5]
            by_cases h6 : M 30 c < 20
            · rw [if_pos h6, if_pos h6]
              by_cases h7 : M 30 c < 1
              · rw [if_pos h7, if_pos h7]
              · rw [if_neg h7, if_neg h7]
            · rw [if_neg h6, if_neg h6]
          · rw [if_neg h5, if_neg h5]
      · rw [if_neg h3, if_neg h3]
  · rw [if_neg h1, if_neg h1]
def sgB (m : Nat) (B : Mm) (c : Nat) : Int32 := sgv (hgL (gpB B) (nI c) m 0) (nI c) (B 86 c) (B 85 c) (B 84 c)
theorem signB {m c : Nat} {M : Mm} (hm : m ≤ 4) (h15 : M 69 9 = nI m) (hc : c < 64) : f_X11_drawn 69 (nI c) M = some (sgB m M c) := by
  have h0 := hasB hm h15 (nI c) m 0 FU (by omega) (by unfold FU; omega)
  rw [f_X11_drawn, f_X11_isGangIn, show f_X11_isGangIn_L2 69 (nI c) M FU 0 = _ from h0, bd1_e, if_pos (inN hc), if_pos (inN hc), if_pos (inN hc), if_pos (inN hc), if_pos (inN hc), ixn (by omega)]
  unfold sgB sgv
  generalize hgL (gpB M) (nI c) m 0 = h
  show (if h = 0 then (if nI c = 0 then some (66 : Int32) else (if M 86 c ≤ 0 then (if M 85 c = 9 then some 126 else (if M 84 c < 40 then (if M 84 c < 20 then (if M 84 c < 1 then some 46 else some 45) else some 43) else some 35)) else some 83)) else some 71) = _
  by_cases h1 : h = 0
  · rw [if_pos h1, if_pos h1]
    by_cases h2 : nI c = 0
    · rw [if_pos h2, if_pos h2]
    · rw [if_neg h2, if_neg h2]
      by_cases h3 : M 86 c ≤ 0
      · rw [if_pos h3, if_pos h3]
        by_cases h4 : M 85 c = 9
        · rw [if_pos h4, if_pos h4]
        · rw [if_neg h4, if_neg h4]
          by_cases h5 : M 84 c < 40
          · rw [if_pos h5, if_pos h5]
            by_cases h6 : M 84 c < 20
            · rw [if_pos h6, if_pos h6]
              by_cases h7 : M 84 c < 1
              · rw [if_pos h7, if_pos h7]
              · rw [if_neg h7, if_neg h7]
            · rw [if_neg h6, if_neg h6]
          · rw [if_neg h5, if_neg h5]
      · rw [if_neg h3, if_neg h3]
  · rw [if_neg h1, if_neg h1]
def pic (f : Nat → Int32) (k : Nat) : Int32 := if k % 9 = 8 then 10 else f (8 * (k / 9) + k % 9)
def DrA (m n : Nat) (A M : Mm) : Prop := (∀ r, r ≠ 2 → M r = A r) ∧ ∀ k, k < n → M 2 k = pic (sgA m A) k
theorem sgA_of {m : Nat} {A M : Mm} (h : ∀ r, r ≠ 2 → M r = A r) (hm : m ≤ 4) (c : Nat) : sgA m M c = sgA m A c := by
  unfold sgA
  rw [h 33 (by decide), h 32 (by decide), h 30 (by decide), hgL_congr m 0 (f' := gpA A) (fun g _ hg => by unfold gpA; rw [h _ (by omega)])]
theorem drA_in {m : Nat} {A : Mm} (hm : m ≤ 4) (h15 : A 29 15 = nI m) {y : Nat} (hy : y < 8) : ∀ (k x n : Nat) (M : Mm), x + k = 8 → k < n → DrA m (9 * y + x) A M → ∃ M', f_X9_draw_L12 0 (nI y) n (nI (9 * y + x)) (nI x) M = some (nI (9 * y + 8), M') ∧ DrA m (9 * y + 8) A M' := by
  intro k
  induction k with
  | zero =>
    intro x n M hx hn h
    obtain ⟨n', rfl⟩ : ∃ z, n = z + 1 := ⟨n - 1, by omega⟩
    have : x = 8 := by omega
    subst this
    exact ⟨M, by rw [f_X9_draw_L12, if_pos (by decide)], h⟩
  | succ k ih =>
    intro x n M hx hn h
    obtain ⟨n', rfl⟩ : ∃ z, n = z + 1 := ⟨n - 1, by omega⟩
    have hx8 : x < 8 := by omega
    have h15' : M 29 15 = nI m := by rw [h.1 29 (by decide)]; exact h15
    obtain ⟨M', c1, c2⟩ := ih (x + 1) n' (wr M 2 (9 * y + x) (sgA m A (8 * y + x))) (by omega) (by omega) ⟨fun r hr => by rw [wr_ne hr]; exact h.1 r hr, fun k hk => by
      by_cases z : k = 9 * y + x
      · subst z
        rw [wr_at]
        unfold pic
        rw [if_neg (by omega), show (9 * y + x) / 9 = y by omega, show (9 * y + x) % 9 = x by omega]
      · rw [wr_col z]; exact h.2 k (by omega)⟩
    refine ⟨M', ?_, c2⟩
    rw [f_X9_draw_L12, if_neg (show ¬ (8 : Int32) ≤ nI x from fun e => by have := (n_le (a := 8) (by omega) (by omega)).mp e; omega), cl_A hx8 hy, lz_e, signA hm h15' (by omega), bd1_e, if_pos (inN (show 9 * y + x < 72 by omega)), ixn (by omega), sgA_of h.1 hm, show ((sgA m A (8 * y + x)).toInt8.toInt32).toInt8.toInt32 = sgA m A (8 * y + x) from sgv_b _ _ _ _ _, lz_e, n_suc, lz_e, n_suc, lz_e]
    exact c1
theorem drA_out {m : Nat} {A : Mm} (hm : m ≤ 4) (h15 : A 29 15 = nI m) : ∀ (k y n : Nat) (M : Mm), y + k = 8 → k < n → DrA m (9 * y) A M → ∃ M', f_X9_draw_L4 0 n (nI (9 * y)) (nI y) M = some (nI 72, M') ∧ DrA m 72 A M' := by
  intro k
  induction k with
  | zero =>
    intro y n M hx hn h
    obtain ⟨n', rfl⟩ : ∃ z, n = z + 1 := ⟨n - 1, by omega⟩
    have : y = 8 := by omega
    subst this
    exact ⟨M, by rw [f_X9_draw_L4, if_pos (by decide)], h⟩
  | succ k ih =>
    intro y n M hx hn h
    obtain ⟨n', rfl⟩ : ∃ z, n = z + 1 := ⟨n - 1, by omega⟩
    have hy8 : y < 8 := by omega
    obtain ⟨M1, a1, a2⟩ := drA_in hm h15 hy8 8 0 FU M (by omega) (by unfold FU; omega) h
    have a1' : f_X9_draw_L12 0 (nI y) FU (nI (9 * y)) 0 M = some (nI (9 * y + 8), M1) := a1
    obtain ⟨M', c1, c2⟩ := ih (y + 1) n' (wr M1 2 (9 * y + 8) 10) (by omega) (by omega) ⟨fun r hr => by rw [wr_ne hr]; exact a2.1 r hr, fun k hk => by
      by_cases z : k = 9 * y + 8
      · subst z
        rw [wr_at]
        unfold pic
        rw [if_pos (by omega)]
      · rw [wr_col z]; exact a2.2 k (by omega)⟩
    refine ⟨M', ?_, c2⟩
    rw [f_X9_draw_L4, if_neg (show ¬ (8 : Int32) ≤ nI y from fun e => by have := (n_le (a := 8) (by omega) (by omega)).mp e; omega), a1', bd2_e, if_pos (inN (show 9 * y + 8 < 72 by omega)), ixn (by omega), show ((10 : Int32).toInt8.toInt32) = 10 by decide, lz_e, n_suc, lz_e, n_suc, lz_e, show 9 * y + 8 + 1 = 9 * (y + 1) by omega]
    exact c1
def DrB (m n : Nat) (B M : Mm) : Prop := (∀ r, r ≠ 71 → r ≠ 69 → M r = B r) ∧ (∀ j, j ≠ 5 → M 69 j = B 69 j) ∧ M 69 5 = nI n ∧ ∀ k, k < n → M 71 k = pic (sgB m B) k
theorem sgB_of {m : Nat} {B M : Mm} (h : ∀ r, r ≠ 71 → r ≠ 69 → M r = B r) (c : Nat) : sgB m M c = sgB m B c := by
  unfold sgB
  rw [h 86 (by decide) (by decide), h 85 (by decide) (by decide), h 84 (by decide) (by decide), hgL_congr m 0 (f' := gpB B) (fun g _ hg => by unfold gpB; rw [h 89 (by decide) (by decide)])]
theorem DrB.step {m n : Nat} {B M : Mm} {v : Int32} (h : DrB m n B M) (hv : v = pic (sgB m B) n) : DrB m (n + 1) B (wr (wr M 71 n v) 69 5 (nI (n + 1))) := by
  refine ⟨fun r h1 h2 => by rw [wr_ne h2, wr_ne h1]; exact h.1 r h1 h2, fun j hj => by rw [wr_col hj, wr_r (by decide)]; exact h.2.1 j hj, wr_at _ _ _ _, fun k hk => ?_⟩
  rw [wr_r (by decide)]
  by_cases z : k = n
  · subst z; rw [wr_at, hv]
  · rw [wr_col z]; exact h.2.2.2 k (by omega)
theorem drB_run {m : Nat} {B : Mm} (hm : m ≤ 4) (h9 : B 69 9 = nI m) : ∀ (k c n : Nat) (M : Mm), c + k = 64 → k < n → DrB m (9 * (c / 8) + c % 8) B M → ∃ M', f_X11_draw_L12 69 n (nI c) M = some M' ∧ DrB m 72 B M' := by
  intro k
  induction k with
  | zero =>
    intro c n M hx hn h
    obtain ⟨n', rfl⟩ : ∃ z, n = z + 1 := ⟨n - 1, by omega⟩
    have : c = 64 := by omega
    subst this
    exact ⟨M, by rw [f_X11_draw_L12, if_pos (by decide)], h⟩
  | succ k ih =>
    intro c n M hx hn h
    obtain ⟨n', rfl⟩ : ∃ z, n = z + 1 := ⟨n - 1, by omega⟩
    have hc : c < 64 := by omega
    have h9' : M 69 9 = nI m := by rw [h.2.1 9 (by decide)]; exact h9
    have er : nI c - nI c / (8 : Int32) * (8 : Int32) = nI (c % 8) := n_rem (b := 8) (by omega) (by omega) (by omega)
    have hv : sgB m B c = pic (sgB m B) (9 * (c / 8) + c % 8) := by
      unfold pic
      rw [if_neg (by omega), show (9 * (c / 8) + c % 8) / 9 = c / 8 by omega, show (9 * (c / 8) + c % 8) % 9 = c % 8 by omega, show 8 * (c / 8) + c % 8 = c by omega]
    have h1 := h.step hv
    have hpos : 9 * (c / 8) + c % 8 < 72 := by omega
    generalize hq : 9 * (c / 8) + c % 8 = q at *
    rw [f_X11_draw_L12, if_neg (show ¬ (64 : Int32) ≤ nI c from fun e => by have := (n_le (a := 64) (by omega) (by omega)).mp e; omega), signB hm h9' hc, bd1_e, sgB_of h.1, h.2.2.1, if_pos (inN hpos), ixn (by omega), show (69 + 2 : Nat) = 71 from rfl, lz_e, wr_r (show 69 ≠ 71 by decide), h.2.2.1, n_suc, lz_e, er]
    by_cases z : c % 8 = 7
    · have h2 := h1.step (v := 10) (by unfold pic; rw [if_pos (by omega)])
      have h15 := h1.2.2.1
      generalize wr (wr M 71 q (sgB m B c)) 69 5 (nI (q + 1)) = M1 at h1 h2 h15
      rw [if_pos (show (7 : Int32) ≤ nI (c % 8) by rw [z]; decide), h15, if_pos (inN (show q + 1 < 72 by omega)), ixn (by omega), lz_e, wr_r (show 69 ≠ 71 by decide), h15, n_suc, lz_e, bd1_e, n_suc, lz_e]
      rw [show q + 1 + 1 = 9 * ((c + 1) / 8) + (c + 1) % 8 by omega] at h2 ⊢
      exact ih (c + 1) n' _ (by omega) (by omega) h2
    · rw [if_neg (show ¬ (7 : Int32) ≤ nI (c % 8) from fun e => by have := (n_le (a := 7) (by omega) (by omega)).mp e; omega), bd1_e, n_suc, lz_e]
      rw [show q + 1 = 9 * ((c + 1) / 8) + (c + 1) % 8 by omega] at h1 ⊢
      exact ih (c + 1) n' _ (by omega) (by omega) h1
theorem draw_ok {H : Nat} {A B : Mm} (h : Rel H A B) : ∃ x A' B', f_X9_draw 0 A = some (x, A') ∧ f_X11_draw 69 B = some (x, B') ∧ Rel H A' B' ∧ CF A A' ∧ RF B B' := by
  obtain ⟨ng, p, len, oA, rA, cB, S, r1, r2, ⟨q, q1, q2, q3⟩, r4, ⟨L, t1, t2, t3, t4⟩, ⟨D, d1, d2, d3, d4⟩, r6, r7⟩ := h
  have hp := r1.2.1.1
  have hm := r1.2.2.2.2.2.1
  have h15 := r1.2.2.2.1
  have h9 := r1.2.2.2.2.1
  obtain ⟨A1, a1, a2⟩ := drA_out hm h15 8 0 FU A (by omega) (by unfold FU; omega) ⟨fun _ _ => rfl, fun k hk => by omega⟩
  obtain ⟨B1, b1, b2⟩ := drB_run (B := wr (wr B 69 0 0) 69 5 0) hm (by rw [wr_col (by decide), wr_col (by decide)]; exact h9) 64 0 FU (wr (wr B 69 0 0) 69 5 0) (by omega) (by unfold FU; omega) ⟨fun _ _ _ => rfl, fun _ _ => rfl, by rw [wr_at]; rfl, fun k hk => by omega⟩
  have a1' : f_X9_draw_L4 0 FU 0 0 A = some (nI 72, A1) := a1
  have b1' : f_X11_draw_L12 69 FU 0 (wr (wr B 69 0 0) 69 5 0) = some B1 := b1
  have eA : ∀ r, r ≠ 0 → r ≠ 2 → wr A1 0 3 (nI 72) r = A r := fun r h1 h2 => by rw [wr_ne h1]; exact a2.1 r h2
  have eB : ∀ r, r ≠ 71 → r ≠ 69 → B1 r = B r := fun r h1 h2 => by rw [b2.1 r h1 h2, wr_ne h2, wr_ne h2]
  have eA0 : ∀ c, c ≠ 3 → wr A1 0 3 (nI 72) 0 c = A 0 c := fun c h1 => by rw [wr_col h1, a2.1 0 (by decide)]
  have eB0 : ∀ c, c ≠ 0 → c ≠ 5 → B1 69 c = B 69 c := fun c h0 h1 => by rw [b2.2.1 c h1, wr_col h1, wr_col h0]
  refine ⟨nI 72, wr A1 0 3 (nI 72), B1, ?_, ?_, ⟨ng, p, len, oA, rA, cB, S, r1.congr (by omega) (by omega) (fun a b e x => (r2 a b e x).2.1) (fun r hr => eA r (by omega) (by omega)) (fun r hr => eB r (by omega) (by omega)) (eB0 9 (by decide) (by decide)), r2, ⟨q, (eA0 6 (by decide)).trans q1, q2, q3⟩, ?_, ⟨L, t1, (eA0 1 (by decide)).trans t2, (eB0 2 (by decide) (by decide)).trans t3, fun k hk => ?_⟩, ⟨72, by omega, wr_at _ _ _ _, b2.2.2.1, fun k hk => ?_⟩, fun k hk => ?_, ?_⟩, fun r hr => eA r (by omega) (by omega), fun r hr => eB r (by omega) (by omega)⟩
  · rw [f_X9_draw, a1', bd2_e, lz_e, wr_at]
  · rw [f_X11_draw, lz_e, lz_e, b1', bd1_e, b2.2.2.1]
  · rw [eA 29 (by decide) (by decide)]; exact r4
  · rw [eA 1 (by decide) (by decide), eB 70 (by decide) (by decide)]; exact t4 k hk
  · rw [wr_r (by decide), a2.2 k hk, b2.2.2.2 k hk]
    have e : ∀ c, c < 64 → sgA ng A c = sgB ng (wr (wr B 69 0 0) 69 5 0) c := by
      intro c hc
      obtain ⟨⟨s1, -⟩, -, -, -, -, -, k5⟩ := r1
      obtain ⟨x1, x2, x3, x4, x5⟩ := s1 c hc
      unfold sgA sgB
      rw [wr_ne (show 86 ≠ 69 by decide), wr_ne (show 85 ≠ 69 by decide), wr_ne (show 84 ≠ 69 by decide), wr_ne (show 86 ≠ 69 by decide), wr_ne (show 85 ≠ 69 by decide), wr_ne (show 84 ≠ 69 by decide), show A 33 c = B 86 c from x3, show A 32 c = B 85 c from x2, show A 30 c = B 84 c from x1]
      rw [hgL_congr ng 0 (f := gpA A) (f' := gpB (wr (wr B 69 0 0) 69 5 0)) (fun g _ hg => by
        obtain ⟨g1, -⟩ := k5 g (by omega)
        unfold gpA gpB
        rw [wr_ne (show 89 ≠ 69 by decide), wr_ne (show 89 ≠ 69 by decide), cell_comm]
        have y0 : A (39 + 2 * g) 0 = B 89 (10 * g) := g1.1
        have y1 : A (39 + 2 * g) 1 = B 89 (10 * g + 1) := g1.2.1
        rw [y0, y1])]
    unfold pic
    by_cases z : k % 9 = 8
    · rw [if_pos z, if_pos z]
    · rw [if_neg z, if_neg z, e _ (by omega)]
  · rw [eA 36 (by decide) (by decide), eA 37 (by decide) (by decide)]; exact r6 k hk
  · rw [eA0 4 (by decide), eB0 3 (by decide) (by decide)]; exact r7
