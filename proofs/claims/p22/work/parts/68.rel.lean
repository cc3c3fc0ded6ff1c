/-! needs 30 31 32 33 34 35 36 37 38 39 40 41 42 43 44 45 46 47 50 -/
/-! what holds between the calls -/
theorem All.congr {b s ng p len : Nat} {oA rA cB : Nat → Int32} {S : PS} {A A' B B' : Mm} (hb : b = 29 ∨ b = 47) (hs : s = 83 ∨ s = 91) (hSl : ∀ a b e, S a b e → e.length ≤ 8) (h : All b s ng p len oA rA cB S A B) (hA : ∀ r, (b ≤ r ∧ r < b + 18) ∨ (p ≤ r ∧ r ≤ p + 2) → A' r = A r) (hB : ∀ r, (s ≤ r ∧ r < s + 8) ∨ (72 ≤ r ∧ r ≤ 74) → B' r = B r) (h9 : B' 69 9 = B 69 9) : All b s ng p len oA rA cB S A' B' := by
  obtain ⟨⟨h1, h2, h3, h4, h5⟩, ⟨p1, p2, p3, p4, p5, p6⟩, k1, k2, k3, k4, k5⟩ := h
  refine ⟨⟨fun k hk => ?_, ?_, fun k hk => ?_, fun k hk => ?_, ?_⟩, ⟨p1, ?_, ?_, p4, ?_, ?_⟩, ?_, ?_, ?_, k4, fun g hg => ?_⟩
  · rw [hA (b + 1) (by omega), hA (b + 3) (by omega), hA (b + 4) (by omega), hA (b + 5) (by omega), hA (b + 6) (by omega), hB (s + 1) (by omega), hB (s + 2) (by omega), hB (s + 3) (by omega), hB (s + 4) (by omega), hB (s + 5) (by omega)]; exact h1 k hk
  · unfold SimS; rw [hA b (by omega), hB s (by omega)]; exact h2
  · rw [hA (b + 7) (by omega), hA (b + 8) (by omega), hB 72 (by omega), hB 73 (by omega)]; exact h3 k hk
  · rw [hA (b + 4) (by omega), hA (b + 5) (by omega), hA (b + 6) (by omega)]; exact h4 k hk
  · rw [hA b (by omega)]; exact h5
  · rw [hA b (by omega)]; exact p2
  · rw [hA p (by omega)]; exact p3
  · rw [hA (p + 1) (by omega)]; exact p5
  · rw [hA (p + 2) (by omega)]; exact p6
  · rw [hB 74 (by omega)]; exact k1
  · rw [hA b (by omega)]; exact k2
  · rw [h9]; exact k3
  · exact (k5 g hg).same (hA _ (by omega)) (hA _ (by omega)) (fun k _ => by rw [hB (s + 6) (by omega)]) (fun k _ => by rw [hB (s + 7) (by omega)]) hSl
def Cls (oA rA cB : Nat → Int32) (len : Nat) (S : PS) : Prop := ∀ a b e, S a b e → Lpt oA rA cB len S a b e ∧ e.length ≤ 8 ∧ ∀ d, d ∈ e → d < 9
theorem Lpt.small {oA rA cB : Nat → Int32} {len a b : Nat} {S : PS} {e : List Nat} (h : Lpt oA rA cB len S a b e) (hd : ∀ d, d ∈ e → d < 9) : Lpt oA rA cB len (fun x y f => S x y f ∧ ∀ d, d ∈ f → d < 9) a b e := by
  rcases h with h | ⟨h1, h2, h3, h4, a', b', h5, h6, h7, h8⟩ | ⟨h1, h2, h3, h4, h5, d, h6, h7, h8, h9, h10, h11, h12, h13⟩ | ⟨h1, h2, h3, h4, h5, d, e0, h6, h7, h8, h9, h10, h11, h12, a', b', h13, h14, h15⟩ | ⟨n, a1, b1, t, h1, h2, h3, h4, h5, h6, h7, a', b', h8, h9, h10⟩ | ⟨n, a1, b1, m, a2, b2, t, u, h1, h2, h3, h4, h5, h6, h7, h8, h9⟩ | ⟨n, a1, b1, t, x, y, h1, h2, h3, h4, h5, h6, h7, h8⟩ | ⟨x, y, h1, h2, h3, h4, h5, h6⟩
  · exact Or.inl h
  · exact Or.inr (Or.inl ⟨h1, h2, h3, h4, a', b', h5, h6, ⟨h7, hd⟩, h8⟩)
  · refine Or.inr (Or.inr (Or.inl ⟨h1, h2, h3, h4, h5, d, h6, h7, h8, h9, h10, h11, ⟨h12, fun x hx => ?_⟩, h13⟩))
    rcases List.mem_cons.mp hx with rfl | hx
    · exact h7
    · exact hd x hx
  · refine Or.inr (Or.inr (Or.inr (Or.inl ⟨h1, h2, h3, h4, h5, d, e0, h6, h7, h8, h9, h10, h11, ⟨h12, hd⟩, a', b', h13, h14, ⟨h15, fun x hx => hd x (by rw [h6]; exact List.mem_cons_of_mem _ hx)⟩⟩)))
  · exact Or.inr (Or.inr (Or.inr (Or.inr (Or.inl ⟨n, a1, b1, t, h1, h2, h3, h4, h5, h6, ⟨h7, hd⟩, a', b', h8, h9, ⟨h10, hd⟩⟩))))
  · exact Or.inr (Or.inr (Or.inr (Or.inr (Or.inr (Or.inl ⟨n, a1, b1, m, a2, b2, t, u, h1, h2, h3, h4, h5, h6, h7, h8, ⟨h9, hd⟩⟩)))))
  · exact Or.inr (Or.inr (Or.inr (Or.inr (Or.inr (Or.inr (Or.inl ⟨n, a1, b1, t, x, y, h1, h2, h3, h4, h5, h6, h7, ⟨h8, hd⟩⟩))))))
  · exact Or.inr (Or.inr (Or.inr (Or.inr (Or.inr (Or.inr (Or.inr ⟨x, y, h1, h2, h3, h4, h5, ⟨h6, hd⟩⟩))))))
def TapR (A B : Mm) : Prop := ∃ L, L ≤ 2000 ∧ A 0 1 = nI L ∧ B 69 2 = nI L ∧ ∀ k, k < L → Byt (A 1 k) (B 70 k)
def DrwR (A B : Mm) : Prop := ∃ D, D ≤ 72 ∧ A 0 3 = nI D ∧ B 69 5 = nI D ∧ ∀ k, k < D → A 2 k = B 71 k
def Wea (A : Mm) : Prop := ∀ k, k < 12 → (0 ≤ (A 36 k).toInt ∧ (A 36 k).toInt ≤ 9) ∧ (0 ≤ (A 37 k).toInt ∧ (A 37 k).toInt ≤ 9)
def DrfR (p : Nat) (A : Mm) : Prop := ∃ q, A 0 6 = nI (q + 1) ∧ (q = 10 ∨ q = 16 ∨ q = 22) ∧ q ≠ p
def Rx (H : Nat) (A B : Mm) : Prop := (A 29 8).toInt ≤ (H : Int) ∧ TapR A B ∧ DrwR A B ∧ Wea A ∧ A 0 4 = B 69 3
def Rel (H : Nat) (A B : Mm) : Prop := ∃ ng p len oA rA cB S, All 29 83 ng p len oA rA cB S A B ∧ Cls oA rA cB len S ∧ DrfR p A ∧ Rx H A B
theorem Rel.congr {H : Nat} {A A' B B' : Mm} (h : Rel H A B) (hA : ∀ r, r < 47 → r ≠ 28 → A' r = A r) (hB : ∀ r, 69 < r → r < 91 → B' r = B r) (h9 : ∀ c, c = 2 ∨ c = 3 ∨ c = 5 ∨ c = 9 → B' 69 c = B 69 c) : Rel H A' B' := by
  obtain ⟨ng, p, len, oA, rA, cB, S, h1, h2, h3, h4, ⟨L, t1, t2, t3, t4⟩, ⟨D, d1, d2, d3, d4⟩, h5, h6⟩ := h
  have hp := h1.2.1.1
  refine ⟨ng, p, len, oA, rA, cB, S, h1.congr (by omega) (by omega) (fun a b e x => (h2 a b e x).2.1) (fun r hr => hA r (by omega) (by omega)) (fun r hr => hB r (by omega) (by omega)) (h9 9 (by omega)), h2, ?_, ?_, ⟨L, t1, ?_, ?_, fun k hk => ?_⟩, ⟨D, d1, ?_, ?_, fun k hk => ?_⟩, fun k hk => ?_, ?_⟩
  · unfold DrfR; rw [hA 0 (by omega) (by omega)]; exact h3
  · rw [hA 29 (by omega) (by omega)]; exact h4
  · rw [hA 0 (by omega) (by omega)]; exact t2
  · rw [h9 2 (by omega)]; exact t3
  · rw [hA 1 (by omega) (by omega), hB 70 (by omega) (by omega)]; exact t4 k hk
  · rw [hA 0 (by omega) (by omega)]; exact d2
  · rw [h9 5 (by omega)]; exact d3
  · rw [hA 2 (by omega) (by omega), hB 71 (by omega) (by omega)]; exact d4 k hk
  · rw [hA 36 (by omega) (by omega), hA 37 (by omega) (by omega)]; exact h5 k hk
  · rw [hA 0 (by omega) (by omega), h9 3 (by omega)]; exact h6
theorem Rel.mono {H H' : Nat} {A B : Mm} (h : Rel H A B) (k : H ≤ H') : Rel H' A B := by
  obtain ⟨ng, p, len, oA, rA, cB, S, h1, h2, h3, h4, h5⟩ := h
  exact ⟨ng, p, len, oA, rA, cB, S, h1, h2, h3, by have : (H : Int) ≤ (H' : Int) := Int.ofNat_le.mpr k; omega, h5⟩
def CF (A A' : Mm) : Prop := ∀ r, 69 ≤ r → A' r = A r
def RF (B B' : Mm) : Prop := ∀ r, r < 69 → B' r = B r
/-! employ beside learn -/
def bgG (q : Nat) (a b c : Int32) (M : Mm) : Mm := wr (wr (wr (wr (wr (wr (wr (wr (wr (wr M q 0 a) q 1 b) q 2 0) q 3 0) q 4 0) q 5 0) q 6 0) q 7 0) q 8 0) q 9 c
theorem bgG_r {q : Nat} {a b c : Int32} {M : Mm} {r : Nat} (h : r ≠ q) : bgG q a b c M r = M r := by
  unfold bgG
  rw [wr_ne h, wr_ne h, wr_ne h, wr_ne h, wr_ne h, wr_ne h, wr_ne h, wr_ne h, wr_ne h, wr_ne h]
theorem bgG_at (q : Nat) (a b c : Int32) (M : Mm) : bgG q a b c M q 0 = a ∧ bgG q a b c M q 1 = b ∧ bgG q a b c M q 9 = c ∧ ∀ j, 2 ≤ j → j ≤ 8 → bgG q a b c M q j = 0 := by
  refine ⟨by simp [bgG, wr], by simp [bgG, wr], by simp [bgG, wr], fun j h1 h2 => ?_⟩
  have : j = 2 ∨ j = 3 ∨ j = 4 ∨ j = 5 ∨ j = 6 ∨ j = 7 ∨ j = 8 := by omega
  rcases this with rfl | rfl | rfl | rfl | rfl | rfl | rfl <;> simp [bgG, wr]
theorem emp_run {p m : Nat} (hm : m ≤ 4) (hp : p + 5 < 29) : ∀ (k g n : Nat) (M : Mm), g + k = m → k < n → M 29 15 = nI m → ∃ M', f_X1_employ_L15 29 p n (nI g) M = some M' ∧ (∀ r, (∀ h, g ≤ h → h < m → r ≠ 39 + 2 * h) → M' r = M r) ∧ ∀ h, g ≤ h → h < m → M' (39 + 2 * h) 0 = M (p + 4) h ∧ M' (39 + 2 * h) 1 = M (p + 5) h ∧ M' (39 + 2 * h) 9 = M (p + 3) h ∧ ∀ j, 2 ≤ j → j ≤ 8 → M' (39 + 2 * h) j = 0 := by
  intro k
  induction k with
  | zero =>
    intro g n M hg hn h15
    obtain ⟨n', rfl⟩ : ∃ z, n = z + 1 := ⟨n - 1, by omega⟩
    refine ⟨M, ?_, fun r _ => rfl, fun h h1 h2 => by omega⟩
    rw [f_X1_employ_L15, h15, if_pos (by rw [n_le (by omega) (by omega)]; omega)]
  | succ k ih =>
    intro g n M hg hn h15
    obtain ⟨n', rfl⟩ : ∃ z, n = z + 1 := ⟨n - 1, by omega⟩
    have g4 : g < 4 := by omega
    obtain ⟨M', c1, c2, c3⟩ := ih (g + 1) n' (bgG (39 + 2 * g) (M (p + 4) g) (M (p + 5) g) (M (p + 3) g) M) (by omega) (by omega) (by rw [bgG_r (by omega)]; exact h15)
    refine ⟨M', ?_, fun r hr => ?_, fun h h1 h2 => ?_⟩
    · rw [f_X1_employ_L15, h15, if_neg (by rw [n_le (by omega) (by omega)]; omega), if_pos (inN g4), if_pos (inN g4), if_pos (inN g4), if_pos (inN g4), ixn (by omega), show (29 + 9 + 1 + 2 * g) = 39 + 2 * g from rfl, f_X2_begin]
      simp only [lz_e]
      rw [bd1_e, n_suc]
      exact c1
    · rw [c2 r (fun h h1 h2 => hr h (by omega) h2), bgG_r (hr g (Nat.le_refl _) (by omega))]
    · by_cases e : h = g
      · subst e
        rw [c2 (39 + 2 * h) (fun h' h1' h2' => by omega)]
        have := bgG_at (39 + 2 * h) (M (p + 4) h) (M (p + 5) h) (M (p + 3) h) M
        exact this
      · have := c3 h (by omega) h2
        rw [bgG_r (show p + 4 ≠ 39 + 2 * g by omega), bgG_r (show p + 5 ≠ 39 + 2 * g by omega), bgG_r (show p + 3 ≠ 39 + 2 * g by omega)] at this
        exact this
theorem lz_run : ∀ (k i n : Nat) (M : Mm), i + k = 40 → k < n → ∃ M', f_X11_learn_L27 69 n (nI i) M = some M' ∧ (∀ r, r ≠ 89 → M' r = M r) ∧ (∀ c, i ≤ c → c < 40 → M' 89 c = 0) ∧ ∀ c, c < i → M' 89 c = M 89 c := by
  intro k
  induction k with
  | zero =>
    intro i n M hi hn
    obtain ⟨n', rfl⟩ : ∃ z, n = z + 1 := ⟨n - 1, by omega⟩
    have : i = 40 := by omega
    subst this
    exact ⟨M, by rw [f_X11_learn_L27, if_pos (by decide)], fun r _ => rfl, fun c h1 h2 => by omega, fun c _ => rfl⟩
  | succ k ih =>
    intro i n M hi hn
    obtain ⟨n', rfl⟩ : ∃ z, n = z + 1 := ⟨n - 1, by omega⟩
    obtain ⟨M', c1, c2, c3, c4⟩ := ih (i + 1) n' (wr M 89 i 0) (by omega) (by omega)
    refine ⟨M', ?_, fun r hr => by rw [c2 r hr, wr_ne hr], fun c h1 h2 => ?_, fun c h1 => by rw [c4 c (by omega), wr_col (by omega)]⟩
    · rw [f_X11_learn_L27, if_neg (show ¬ (40 : Int32) ≤ nI i from fun e => by have := (n_le (a := 40) (by omega) (by omega)).mp e; omega), if_pos (inN (show i < 40 by omega)), ixn (by omega), show (69 + 14 + 6 : Nat) = 89 from rfl, lz_e, n_suc, lz_e, c1]
    · by_cases e : c = i
      · subst e; rw [c4 c (by omega), wr_at]
      · exact c3 c (by omega) h2
def lrG (g : Nat) (M : Mm) : Mm := wr (wr (wr M 89 (10 * g) (M 79 g)) 89 (10 * g + 1) (M 80 g)) 89 (10 * g + 4) (M 78 g)
theorem lr_run {m : Nat} (hm : m ≤ 4) : ∀ (k g n : Nat) (M : Mm), g + k = m → k < n → M 69 9 = nI m → ∃ M', f_X11_learn_L57 69 n (nI g) M = some M' ∧ (∀ r, r ≠ 89 → M' r = M r) ∧ (∀ c, (∀ h, g ≤ h → h < m → c ≠ 10 * h ∧ c ≠ 10 * h + 1 ∧ c ≠ 10 * h + 4) → M' 89 c = M 89 c) ∧ ∀ h, g ≤ h → h < m → M' 89 (10 * h) = M 79 h ∧ M' 89 (10 * h + 1) = M 80 h ∧ M' 89 (10 * h + 4) = M 78 h := by
  intro k
  induction k with
  | zero =>
    intro g n M hg hn h15
    obtain ⟨n', rfl⟩ : ∃ z, n = z + 1 := ⟨n - 1, by omega⟩
    refine ⟨M, ?_, fun r _ => rfl, fun c _ => rfl, fun h h1 h2 => by omega⟩
    rw [f_X11_learn_L57, h15, if_pos (by rw [n_le (by omega) (by omega)]; omega)]
  | succ k ih =>
    intro g n M hg hn h15
    obtain ⟨n', rfl⟩ : ∃ z, n = z + 1 := ⟨n - 1, by omega⟩
    have g4 : g < 4 := by omega
    have e89 : ∀ c, lrG g M 89 c = if c = 10 * g + 4 then M 78 g else if c = 10 * g + 1 then M 80 g else if c = 10 * g then M 79 g else M 89 c := by
      intro c; unfold lrG; rw [wr_i, wr_i, wr_i]
    have er : ∀ r, r ≠ 89 → lrG g M r = M r := by
      intro r h; unfold lrG; rw [wr_ne h, wr_ne h, wr_ne h]
    obtain ⟨M', c1, c2, c3, c4⟩ := ih (g + 1) n' (lrG g M) (by omega) (by omega) (by rw [er 69 (by omega)]; exact h15)
    have e10 : (10 : Int32) * nI g = nI (10 * g) := n_mul (a := 10) (by omega) (by omega) (by omega)
    refine ⟨M', ?_, fun r hr => by rw [c2 r hr, er r hr], fun c hc => ?_, fun h h1 h2 => ?_⟩
    · rw [f_X11_learn_L57, h15, if_neg (by rw [n_le (by omega) (by omega)]; omega), if_pos (inN (show g < 100 by omega)), e10, if_pos (inN (show 10 * g < 40 by omega)), ixn (show 10 * g < 2147483648 by omega), ixn (show g < 2147483648 by omega), show (69 + 14 + 6 : Nat) = 89 from rfl, lz_e, if_pos (inN (show g < 100 by omega)), n_suc, if_pos (inN (show 10 * g + 1 < 40 by omega)), ixn (show 10 * g + 1 < 2147483648 by omega), lz_e, if_pos (inN (show g < 100 by omega)), show nI (10 * g) + (4 : Int32) = nI (10 * g + 4) from n_add _ 4, if_pos (inN (show 10 * g + 4 < 40 by omega)), ixn (show 10 * g + 4 < 2147483648 by omega), lz_e, lz_e, n_suc]
      exact c1
    · have := hc g (Nat.le_refl _) (by omega)
      rw [c3 c (fun h h1 h2 => hc h (by omega) h2), e89, if_neg this.2.2, if_neg this.2.1, if_neg this.1]
    · by_cases e : h = g
      · subst e
        rw [c3 (10 * h) (fun h' h1' h2' => by omega), c3 (10 * h + 1) (fun h' h1' h2' => by omega), c3 (10 * h + 4) (fun h' h1' h2' => by omega), e89, e89, e89]
        refine ⟨?_, ?_, if_pos rfl⟩
        · rw [if_neg (by omega), if_neg (by omega), if_pos rfl]
        · rw [if_neg (by omega), if_pos rfl]
      · have := c4 h (by omega) h2
        rw [er 79 (by omega), er 80 (by omega), er 78 (by omega)] at this
        exact this
theorem learn_run {m sb : Nat} {B : Mm} (hm : m ≤ 4) (hsb : sb ≤ 4000) (h11 : B 69 11 = nI sb) (h19 : B 69 19 = nI m) : ∃ B', f_X11_learn 69 B = some B' ∧ (∀ r, r ≠ 69 → r ≠ 74 → r ≠ 89 → B' r = B r) ∧ (∀ c, c ≠ 9 → B' 69 c = B 69 c) ∧ B' 69 9 = nI m ∧ (∀ j, j < sb → B' 74 j = B 75 j) ∧ ∀ g, g < m → B' 89 (10 * g) = B 79 g ∧ B' 89 (10 * g + 1) = B 80 g ∧ B' 89 (10 * g + 4) = B 78 g ∧ ∀ j, j < 10 → j ≠ 0 → j ≠ 1 → j ≠ 4 → B' 89 (10 * g + j) = 0 := by
  let B2 : Mm := wrow B 74 (va_cpy (B 75) (B 74) 0 0 sb)
  let B4 : Mm := wr B2 69 9 (B2 69 19)
  obtain ⟨B5, c1, c2, c3, -⟩ := lz_run 40 0 FU B4 (by omega) (by unfold FU; omega)
  have h9 : B4 69 9 = nI m := by
    show wr B2 69 9 (B2 69 19) 69 9 = nI m
    rw [wr_at]
    show wrow B 74 _ 69 19 = nI m
    rw [wrow_ne (by decide)]
    exact h19
  obtain ⟨B6, d1, d2, d3, d4⟩ := lr_run hm m 0 FU B5 (by omega) (by unfold FU; omega) (by rw [c2 69 (by decide)]; exact h9)
  have e4 : ∀ r, r ≠ 69 → r ≠ 74 → B4 r = B r := fun r h1 h2 => (wr_ne h1).trans (wrow_ne h2)
  refine ⟨B6, ?_, fun r h1 h2 h3 => by rw [d2 r h3, c2 r h3, e4 r h1 h2], fun c hc => ?_, ?_, fun j hj => ?_, fun g hg => ?_⟩
  · rw [f_X11_learn, h11, if_pos ⟨by rw [i_nI (by omega)]; omega, by rw [i_nI (by omega)]; omega, by rw [i_nI (by omega)]; omega⟩, ixn (by omega), lz_e, lz_e]
    have c1' : f_X11_learn_L27 69 FU 0 B4 = some B5 := c1
    have d1' : f_X11_learn_L57 69 FU 0 B5 = some B6 := d1
    show bd1 (f_X11_learn_L27 69 FU 0 B4) _ = _
    rw [c1', bd1_e, d1', bd1_e]
  · rw [d2 69 (by decide), c2 69 (by decide)]
    show wr B2 69 9 (B2 69 19) 69 c = _
    rw [wr_col hc]
    show wrow B 74 _ 69 c = _
    rw [wrow_ne (by decide)]
  · rw [d2 69 (by decide), c2 69 (by decide)]; exact h9
  · rw [d2 74 (by decide), c2 74 (by decide)]
    show wr B2 69 9 (B2 69 19) 74 j = _
    rw [wr_ne (by decide)]
    show wrow B 74 _ 74 j = _
    rw [wrow_at, cpy_lt hj]
  · obtain ⟨x1, x2, x3⟩ := d4 g (by omega) hg
    refine ⟨by rw [x1, c2 79 (by decide), e4 79 (by decide) (by decide)], by rw [x2, c2 80 (by decide), e4 80 (by decide) (by decide)], by rw [x3, c2 78 (by decide), e4 78 (by decide) (by decide)], fun j h1 h2 h3 h4 => ?_⟩
    rw [d3 _ (fun h h1' h2' => by omega), c3 _ (by omega) (by omega)]
