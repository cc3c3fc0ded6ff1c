/-! needs 30 31 50 51 52 53 54 89 91 -/
/-! the law's text as a list of its letters -/
def dgT (n : Nat) : List Int32 := if n < 10 then [nI (48 + n)] else [nI (48 + n / 10), nI (48 + n % 10)]
def oneT (op a b : Nat) : List Int32 := if op = 0 then [103, 111, 32] ++ dgT a ++ [44] ++ dgT b else if op = 1 then [99, 117, 116, 32] ++ dgT a else if op = 2 then [116, 117, 114, 110] else if op = 3 then [108, 111, 97, 100, 32] ++ dgT a else if op = 4 then [117, 110, 108, 111, 97, 100] else [119, 97, 105, 116, 32] ++ dgT a
def tld (o : Nat → Nat) : Nat → List Int32
  | 0 => []
  | k + 1 => tld o k ++ (oneT (o (3 * k)) (o (3 * k + 1)) (o (3 * k + 2)) ++ [59])
def hdT (x y : Nat) : List Int32 := [103, 97, 110, 103, 32, 97, 32, 97, 116, 32] ++ dgT x ++ [32] ++ dgT y ++ [123, 114, 101, 112, 101, 97, 116, 32, 51, 123]
def tlT (x y : Nat) : List Int32 := [125, 125, 103, 97, 110, 103, 32, 98, 32, 97, 116, 32] ++ dgT y ++ [32] ++ dgT x ++ [123, 119, 104, 105, 108, 101, 32, 100, 97, 121, 60, 57, 123, 105, 102, 32, 98, 114, 105, 99, 107, 115, 62, 53, 123, 108, 111, 97, 100, 32, 98, 114, 105, 99, 107, 115, 59, 103, 111, 32, 48, 44, 48, 59, 117, 110, 108, 111, 97, 100, 59, 125, 101, 108, 115, 101, 123, 103, 111, 32, 104, 111, 117, 114, 44, 100, 97, 121, 59, 99, 117, 116, 32, 112, 101, 97, 116, 59, 125, 125, 125]
def txT (x y : Nat) (W : List Int32) (e : Bool) : List Int32 := hdT x y ++ W ++ (tlT x y ++ if e then [125] else [])
def badT (a b : Int32) : Bool := (decide (a = 114) && decide (b = 101)) || (decide (a = 103) && decide (b = 97)) || (decide (a = 97) && decide (b = 116))
theorem bad_t {a b : Int32} (h : (a = 114 ∧ b = 101) ∨ (a = 97 ∧ b = 116) ∨ (a = 103 ∧ b = 97)) : badT a b = true := by
  rcases h with ⟨rfl, rfl⟩ | ⟨rfl, rfl⟩ | ⟨rfl, rfl⟩ <;> rfl
theorem bad_c {a b c : Int32} (h : (a = 114 ∧ b = 101) ∨ (a = 97 ∧ b = 116) ∨ (a = 103 ∧ b = 97)) (e : a = c) (k : c ≠ 114 ∧ c ≠ 97 ∧ c ≠ 103) : False := by
  subst e
  rcases h with h | h | h
  · exact k.1 h.1
  · exact k.2.1 h.1
  · exact k.2.2 h.1
theorem getA (l1 l2 : List Int32) (k : Nat) : (l1 ++ l2).getD k 0 = if k < l1.length then l1.getD k 0 else l2.getD (k - l1.length) 0 := by
  rw [List.getD_eq_getElem?_getD, List.getElem?_append]
  by_cases h : k < l1.length
  · rw [if_pos h, if_pos h, ← List.getD_eq_getElem?_getD]
  · rw [if_neg h, if_neg h, ← List.getD_eq_getElem?_getD]
def nb (l : List Int32) : Prop := (∀ s, s + 1 < l.length → badT (l.getD s 0) (l.getD (s + 1) 0) = false) ∧ (0 < l.length → l.getD (l.length - 1) 0 = 59)
theorem bad_59 (b : Int32) : badT 59 b = false := by
  unfold badT
  rw [decide_eq_false (show ¬ (59 : Int32) = 114 by decide), decide_eq_false (show ¬ (59 : Int32) = 103 by decide), decide_eq_false (show ¬ (59 : Int32) = 97 by decide)]
  rfl
theorem nb_app {l1 l2 : List Int32} (h1 : nb l1) (h2 : nb l2) : nb (l1 ++ l2) := by
  have hl : (l1 ++ l2).length = l1.length + l2.length := List.length_append
  refine ⟨fun s hs => ?_, fun h => ?_⟩
  · rw [getA, getA]
    by_cases c1 : s + 1 < l1.length
    · rw [if_pos (by omega), if_pos c1]; exact h1.1 s c1
    · by_cases c2 : s < l1.length
      · rw [if_pos c2, show s = l1.length - 1 by omega, h1.2 (by omega)]
        exact bad_59 _
      · rw [if_neg c2, if_neg c1, show s + 1 - l1.length = (s - l1.length) + 1 by omega]
        exact h2.1 _ (by omega)
  · rw [getA, hl]
    by_cases c : 0 < l2.length
    · rw [if_neg (by omega), show l1.length + l2.length - 1 - l1.length = l2.length - 1 by omega]
      exact h2.2 c
    · rw [if_pos (by omega), show l1.length + l2.length - 1 = l1.length - 1 by omega]
      exact h1.2 (by omega)
def nbT (l : List Int32) : Bool := (List.range (l.length - 1)).all (fun s => !badT (l.getD s 0) (l.getD (s + 1) 0)) && decide (l.getD (l.length - 1) 0 = 59) && decide (l.length ≤ 8) && decide (0 < l.length) && l.all (fun c => decide (0 ≤ c.toInt) && decide (c.toInt ≤ 127))
theorem nbT_of {l : List Int32} (h : nbT l = true) : nb l ∧ l.length ≤ 8 ∧ ∀ c, c ∈ l → 0 ≤ c.toInt ∧ c.toInt ≤ 127 := by
  unfold nbT at h
  simp only [Bool.and_eq_true, decide_eq_true_eq, List.all_eq_true, List.mem_range, Bool.not_eq_true'] at h
  obtain ⟨⟨⟨⟨h1, h2⟩, h3⟩, h4⟩, h5⟩ := h
  exact ⟨⟨fun s hs => h1 s (by omega), fun _ => h2⟩, h3, h5⟩
theorem one_B : ∀ op, op < 6 → ∀ a, a < 45 → ∀ b, b < 8 → nbT (oneT op a b ++ [59]) = true := by decide +kernel
theorem tld_nb {o : Nat → Nat} : ∀ (n : Nat), (∀ k, k < n → o (3 * k) < 6 ∧ o (3 * k + 1) < 45 ∧ o (3 * k + 2) < 8) → nb (tld o n) ∧ (tld o n).length ≤ 8 * n ∧ ∀ c, c ∈ tld o n → 0 ≤ c.toInt ∧ c.toInt ≤ 127
  | 0, _ => ⟨⟨fun s hs => absurd hs (by show ¬ s + 1 < 0; omega), fun h => absurd (show 0 < 0 from h) (by decide)⟩, Nat.le_refl _, fun c h => absurd h List.not_mem_nil⟩
  | n + 1, h => by
    obtain ⟨i1, i2, i3⟩ := tld_nb n (fun k hk => h k (by omega))
    obtain ⟨b1, b2, b3⟩ := h n (by omega)
    obtain ⟨o1, o2, o3⟩ := nbT_of (one_B _ b1 _ b2 _ b3)
    refine ⟨nb_app i1 o1, ?_, fun c hc => ?_⟩
    · show (tld o n ++ _).length ≤ _
      rw [List.length_append]; omega
    · rcases List.mem_append.mp hc with k | k
      · exact i3 c k
      · exact o3 c k
/-! head and tail, looked through -/
theorem hd_len : ∀ x, x < 8 → ∀ y, y < 8 → (hdT x y).length = 23 := by decide +kernel
theorem tl_len : ∀ x, x < 8 → ∀ y, y < 8 → (tlT x y).length = 96 := by decide +kernel
theorem hd_rng : ∀ x, x < 8 → ∀ y, y < 8 → (hdT x y).all (fun c => decide (0 ≤ c.toInt) && decide (c.toInt ≤ 127)) = true := by decide +kernel
theorem tl_rng : ∀ x, x < 8 → ∀ y, y < 8 → (tlT x y).all (fun c => decide (0 ≤ c.toInt) && decide (c.toInt ≤ 127)) = true := by decide +kernel
theorem hd_ok0 : ∀ x, x < 8 → ∀ y, y < 8 → ∀ s, s < 23 → ¬ ((hdT x y).getD s 0 = 114 ∧ (hdT x y).getD (s + 1) 0 = 101) ∨ s = 14 := by decide +kernel
theorem hd_ok1 : ∀ x, x < 8 → ∀ y, y < 8 → ∀ s, s < 23 → ¬ ((hdT x y).getD s 0 = 97 ∧ (hdT x y).getD (s + 1) 0 = 116) ∨ s = 7 ∨ s = 18 := by decide +kernel
theorem hd_ok2 : ∀ x, x < 8 → ∀ y, y < 8 → ∀ s, s < 23 → ¬ ((hdT x y).getD s 0 = 103 ∧ (hdT x y).getD (s + 1) 0 = 97) ∨ s = 0 := by decide +kernel
theorem tl_ok0 : ∀ x, x < 8 → ∀ y, y < 8 → ∀ s, s < 96 → ¬ ((tlT x y).getD s 0 = 114 ∧ (tlT x y).getD (s + 1) 0 = 101) ∨ False := by decide +kernel
theorem tl_ok1 : ∀ x, x < 8 → ∀ y, y < 8 → ∀ s, s < 96 → ¬ ((tlT x y).getD s 0 = 97 ∧ (tlT x y).getD (s + 1) 0 = 116) ∨ s = 9 ∨ s = 90 := by decide +kernel
theorem tl_ok2 : ∀ x, x < 8 → ∀ y, y < 8 → ∀ s, s < 96 → ¬ ((tlT x y).getD s 0 = 103 ∧ (tlT x y).getD (s + 1) 0 = 97) ∨ s = 2 := by decide +kernel
def gB (g : Nat → Int32) : Bool := decide (g 0 = 103) && (decide (g 1 = 97) && (decide (g 2 = 110) && (decide (g 3 = 103) && (decide (g 4 = 32) && (decide (97 ≤ (g 5).toInt ∧ (g 5).toInt ≤ 122) && (decide (g 6 = 32) && (decide (g 7 = 97) && (decide (g 8 = 116) && (decide (g 9 = 32) && (decide (48 ≤ (g 10).toInt ∧ (g 10).toInt ≤ 55) && (decide (g 11 = 32) && (decide (48 ≤ (g 12).toInt ∧ (g 12).toInt ≤ 55) && decide (g 13 = 123)))))))))))))
theorem hd_at : ∀ x, x < 8 → ∀ y, y < 8 → gB (fun k => (hdT x y).getD k 0) = true ∧ (hdT x y).getD 5 0 = 97 ∧ ((hdT x y).getD 14 0 = 114 ∧ (hdT x y).getD 15 0 = 101 ∧ (hdT x y).getD 16 0 = 112 ∧ (hdT x y).getD 17 0 = 101 ∧ (hdT x y).getD 18 0 = 97 ∧ (hdT x y).getD 19 0 = 116 ∧ (hdT x y).getD 20 0 = 32 ∧ (hdT x y).getD 21 0 = 51 ∧ (hdT x y).getD 22 0 = 123) := by decide +kernel
theorem tl_at : ∀ x, x < 8 → ∀ y, y < 8 → gB (fun k => (tlT x y).getD (k + 2) 0) = true ∧ (tlT x y).getD 7 0 = 98 ∧ (tlT x y).getD 89 0 = 101 ∧ (tlT x y).getD 95 0 = 125 := by decide +kernel
theorem gB_at {g T : Nat → Int32} {b : Nat} (h : gB g = true) (e : ∀ k, k < 14 → T (b + k) = g k) : T b = 103 ∧ T (b + 1) = 97 ∧ T (b + 2) = 110 ∧ T (b + 3) = 103 ∧ T (b + 4) = 32 ∧ tLe T (b + 5) = true ∧ T (b + 6) = 32 ∧ T (b + 7) = 97 ∧ T (b + 8) = 116 ∧ T (b + 9) = 32 ∧ D7 (T (b + 10)) ∧ T (b + 11) = 32 ∧ D7 (T (b + 12)) ∧ T (b + 13) = 123 := by
  unfold gB at h
  simp only [Bool.and_eq_true, decide_eq_true_eq] at h
  obtain ⟨g0, g1, g2, g3, g4, g5, g6, g7, g8, g9, g10, g11, g12, g13⟩ := h
  exact ⟨(e 0 (by omega)).trans g0, (e 1 (by omega)).trans g1, (e 2 (by omega)).trans g2, (e 3 (by omega)).trans g3, (e 4 (by omega)).trans g4, tLe_iff.mpr (by rw [e 5 (by omega)]; exact g5), (e 6 (by omega)).trans g6, (e 7 (by omega)).trans g7, (e 8 (by omega)).trans g8, (e 9 (by omega)).trans g9, by unfold D7; rw [e 10 (by omega)]; exact g10, (e 11 (by omega)).trans g11, by unfold D7; rw [e 12 (by omega)]; exact g12, (e 13 (by omega)).trans g13⟩
theorem tx_len {x y : Nat} (hx : x < 8) (hy : y < 8) (W : List Int32) (e : Bool) : (txT x y W e).length = 23 + W.length + (96 + (if e then [125] else ([] : List Int32)).length) := by
  unfold txT
  rw [List.length_append, List.length_append, List.length_append, hd_len x hx y hy, tl_len x hx y hy]
theorem tx_rngT {x y : Nat} (hx : x < 8) (hy : y < 8) {W : List Int32} (hW : ∀ c, c ∈ W → 0 ≤ c.toInt ∧ c.toInt ≤ 127) (e : Bool) : ∀ c, c ∈ txT x y W e → 0 ≤ c.toInt ∧ c.toInt ≤ 127 := by
  intro c hc
  have h1 := hd_rng x hx y hy
  have h2 := tl_rng x hx y hy
  simp only [Bool.and_eq_true, decide_eq_true_eq, List.all_eq_true] at h1 h2
  unfold txT at hc
  rcases List.mem_append.mp hc with k | k
  · rcases List.mem_append.mp k with k | k
    · exact h1 c k
    · exact hW c k
  · rcases List.mem_append.mp k with k | k
    · exact h2 c k
    · cases e
      · exact absurd k List.not_mem_nil
      · have : c = 125 := List.mem_singleton.mp k
        subst this
        decide
theorem txp_T {x y : Nat} (hx : x < 8) (hy : y < 8) {W : List Int32} (hW : nb W) (e : Bool) {T : Nat → Int32} {L : Nat} (hL : L = (txT x y W e).length) (hT : ∀ k, k < L → T k = (txT x y W e).getD k 0) : TxP T L (25 + W.length) := by
  have h1 := hd_len x hx y hy
  have h2 := tl_len x hx y hy
  have hel : (if e then [125] else ([] : List Int32)).length ≤ 1 := by cases e <;> decide
  rw [tx_len hx hy] at hL
  have hA : ∀ k, k < 23 → T k = (hdT x y).getD k 0 := fun k hk => by
    rw [hT k (by omega)]
    unfold txT
    rw [getA, if_pos (by rw [List.length_append]; omega), getA, if_pos (by omega)]
  have hB : ∀ k, k < W.length → T (23 + k) = W.getD k 0 := fun k hk => by
    rw [hT (23 + k) (by omega)]
    unfold txT
    rw [getA, if_pos (by rw [List.length_append]; omega), getA, if_neg (by omega), h1, show 23 + k - 23 = k by omega]
  have hC : ∀ k, k < 96 → T (23 + W.length + k) = (tlT x y).getD k 0 := fun k hk => by
    rw [hT _ (by omega)]
    unfold txT
    rw [getA, if_neg (by rw [List.length_append]; omega), List.length_append, h1, getA, if_pos (by omega), show 23 + W.length + k - (23 + W.length) = k by omega]
  have hD : ∀ k, 96 ≤ k → 23 + W.length + k < L → T (23 + W.length + k) = 125 := fun k hk hl => by
    rw [hT _ hl]
    unfold txT
    rw [getA, if_neg (by rw [List.length_append]; omega), List.length_append, h1, getA, if_neg (by omega), h2, show 23 + W.length + k - (23 + W.length) - 96 = 0 by omega]
    cases e
    · exfalso
      have : (if false = true then [125] else ([] : List Int32)).length = 0 := rfl
      omega
    · rfl
  obtain ⟨a1, a2, a3⟩ := hd_at x hx y hy
  obtain ⟨t1, t2, t3, t4⟩ := tl_at x hx y hy
  have cas : ∀ s, s < L → (T s = 114 ∧ T (s + 1) = 101) ∨ (T s = 97 ∧ T (s + 1) = 116) ∨ (T s = 103 ∧ T (s + 1) = 97) → (s < 22 ∧ T s = (hdT x y).getD s 0 ∧ T (s + 1) = (hdT x y).getD (s + 1) 0) ∨ ∃ k, k < 96 ∧ s = 23 + W.length + k ∧ T s = (tlT x y).getD k 0 ∧ T (s + 1) = (tlT x y).getD (k + 1) 0 := by
    intro s hs hp
    by_cases c1 : s < 22
    · exact Or.inl ⟨c1, hA s (by omega), hA (s + 1) (by omega)⟩
    by_cases c2 : s = 22
    · subst c2
      exact (bad_c hp ((hA 22 (by omega)).trans a3.2.2.2.2.2.2.2.2) (by decide)).elim
    by_cases c3 : s < 23 + W.length
    · exfalso
      obtain ⟨k, rfl⟩ : ∃ k, s = 23 + k := ⟨s - 23, by omega⟩
      have eb := hB k (by omega)
      by_cases c4 : k + 1 < W.length
      · have := hW.1 k c4
        rw [← eb, ← hB (k + 1) c4, show 23 + (k + 1) = 23 + k + 1 by omega, bad_t hp] at this
        cases this
      · have := hW.2 (by omega)
        rw [show W.length - 1 = k by omega] at this
        exact bad_c hp (eb.trans this) (by decide)
    · obtain ⟨k, rfl⟩ : ∃ k, s = 23 + W.length + k := ⟨s - (23 + W.length), by omega⟩
      by_cases c4 : k < 95
      · exact Or.inr ⟨k, by omega, rfl, hC k (by omega), hC (k + 1) (by omega)⟩
      · by_cases c5 : k = 95
        · subst c5
          exact (bad_c hp ((hC 95 (by omega)).trans t4) (by decide)).elim
        · exact (bad_c hp (hD k (by omega) hs) (by decide)).elim
  refine ⟨by omega, by omega, fun s hs p1 p2 => ?_, fun s hs p1 p2 p3 => ?_, fun s hs p1 p2 => ?_, fun b hb => ?_, ?_, ?_⟩
  · rcases cas s hs (Or.inl ⟨p1, p2⟩) with ⟨c1, c2, c3⟩ | ⟨k, c1, c2, c3, c4⟩
    · exact (hd_ok0 x hx y hy s (by omega)).resolve_left (fun k => k ⟨c2.symm.trans p1, c3.symm.trans p2⟩)
    · exact ((tl_ok0 x hx y hy k c1).resolve_left (fun k => k ⟨c3.symm.trans p1, c4.symm.trans p2⟩)).elim
  · rcases cas s hs (Or.inr (Or.inl ⟨p1, p2⟩)) with ⟨c1, c2, c3⟩ | ⟨k, c1, c2, c3, c4⟩
    · rcases (hd_ok1 x hx y hy s (by omega)).resolve_left (fun k => k ⟨c2.symm.trans p1, c3.symm.trans p2⟩) with z | z
      · exact Or.inl z
      · subst z
        have := p3 17 rfl
        rw [le_c ((hA 17 (by omega)).trans a3.2.2.2.1) (by decide)] at this
        cases this
    · rcases (tl_ok1 x hx y hy k c1).resolve_left (fun k => k ⟨c3.symm.trans p1, c4.symm.trans p2⟩) with z | z
      · exact Or.inr (by omega)
      · subst z
        have := p3 (23 + W.length + 89) (by omega)
        rw [le_c ((hC 89 (by omega)).trans t3) (by decide)] at this
        cases this
  · rcases cas s hs (Or.inr (Or.inr ⟨p1, p2⟩)) with ⟨c1, c2, c3⟩ | ⟨k, c1, c2, c3, c4⟩
    · exact Or.inl ((hd_ok2 x hx y hy s (by omega)).resolve_left (fun k => k ⟨c2.symm.trans p1, c3.symm.trans p2⟩))
    · have := (tl_ok2 x hx y hy k c1).resolve_left (fun k => k ⟨c3.symm.trans p1, c4.symm.trans p2⟩)
      exact Or.inr (by omega)
  · rcases hb with rfl | rfl
    · exact gB_at a1 (fun k hk => by rw [Nat.zero_add]; exact hA k (by omega))
    · refine gB_at t1 (fun k hk => ?_)
      rw [show 25 + W.length + k = 23 + W.length + (k + 2) by omega]
      exact hC (k + 2) (by omega)
  · rw [hA 5 (by omega), a2, show 25 + W.length + 5 = 23 + W.length + 7 by omega, hC 7 (by omega), t2]
    decide
  · obtain ⟨b0, b1, b2, b3, b4, b5, b6, b7, b8⟩ := a3
    exact ⟨(hA _ (by omega)).trans b0, (hA _ (by omega)).trans b1, (hA _ (by omega)).trans b2, (hA _ (by omega)).trans b3, (hA _ (by omega)).trans b4, (hA _ (by omega)).trans b5, (hA _ (by omega)).trans b6, (hA _ (by omega)).trans b7, (hA _ (by omega)).trans b8⟩
theorem tx_Q {x y : Nat} (hx : x < 8) (hy : y < 8) {W : List Int32} (hW : nb W) (e : Bool) (T : Nat → Int32) (hT : ∀ k, k < (txT x y W e).length → T k = (txT x y W e).getD k 0) : Rq T (txT x y W e).length ∧ Aq T (txT x y W e).length ∧ Gq T (txT x y W e).length := by
  have X := txp_T hx hy hW e rfl hT
  exact ⟨txp_R X, txp_A X, txp_G X⟩
