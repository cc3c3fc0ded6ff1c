/-! needs 30 31 32 33 34 35 36 37 38 39 40 41 42 43 44 45 46 -/
/-! hours of a bog -/
def FrP (w b : Nat) (A A' : Mm) : Prop := (∀ i, i ≠ w → i ≠ w + 1 → i < b ∨ b + 18 ≤ i → A' i = A i) ∧ (∀ i, i = b + 7 ∨ i = b + 8 ∨ i = b + 9 → A' i = A i) ∧ ∀ j, j < 8 ∨ 13 < j → A' b j = A b j
def FrQ (s : Nat) (B B' : Mm) : Prop := (∀ i, i ≠ 69 → i ≠ 81 → i ≠ 82 → i < s ∨ s + 8 ≤ i → B' i = B i) ∧ ∀ j, j ≠ 28 → B' 69 j = B 69 j
theorem FrP.refl (w b : Nat) (A : Mm) : FrP w b A A := ⟨fun _ _ _ _ => rfl, fun _ _ => rfl, fun _ _ => rfl⟩
theorem FrQ.refl (s : Nat) (B : Mm) : FrQ s B B := ⟨fun _ _ _ _ _ => rfl, fun _ _ => rfl⟩
theorem FrP.trans {w b : Nat} {A B C : Mm} (h : FrP w b A B) (k : FrP w b B C) : FrP w b A C := ⟨fun i h1 h2 h3 => (k.1 i h1 h2 h3).trans (h.1 i h1 h2 h3), fun i h1 => (k.2.1 i h1).trans (h.2.1 i h1), fun j h1 => (k.2.2 j h1).trans (h.2.2 j h1)⟩
theorem FrQ.trans {s : Nat} {A B C : Mm} (h : FrQ s A B) (k : FrQ s B C) : FrQ s A C := ⟨fun i h1 h2 h3 h4 => (k.1 i h1 h2 h3 h4).trans (h.1 i h1 h2 h3 h4), fun j h1 => (k.2 j h1).trans (h.2 j h1)⟩
theorem EfH.fr {w b g : Nat} {A A' : Mm} (hw : Wb w b) (hg : g < 4) (h : EfH w b (b + 10 + 2 * g) A A') : FrP w b A A' := by
  unfold Wb at hw
  exact ⟨fun i h1 h2 h3 => h.1 i h1 h2 (by omega) (by omega) (by omega) (by omega) (by omega) (by omega) (by omega), fun i h1 => h.1 i (by omega) (by omega) (by omega) (by omega) (by omega) (by omega) (by omega) (by omega) (by omega), fun j h1 => h.2 j (by omega) (by omega) (by omega)⟩
theorem NiA.fr {w b : Nat} {A A' : Mm} (h : NiA b A A') : FrP w b A A' :=
  ⟨fun i h1 h2 h3 => h.1 i (by omega) (by omega) (by omega) (by omega) (by omega) (by omega) (by omega), fun i h1 => h.1 i (by omega) (by omega) (by omega) (by omega) (by omega) (by omega) (by omega), fun j h1 => h.2 j (by omega) (by omega) (by omega)⟩
theorem EfB.fr {s g : Nat} {B B' : Mm} (h : EfB s g B B') : FrQ s B B' :=
  ⟨fun i h1 h2 h3 h4 => h.1 i h1 h2 (by omega) (by omega) (by omega) (by omega) (by omega) (by omega) (by omega), fun j h1 => h.2.1 j h1⟩
theorem NiB.fr {s : Nat} {B B' : Mm} (hs : Ws s) (h : NiB s B B') : FrQ s B B' := by
  unfold Ws at hs
  exact ⟨fun i h1 h2 h3 h4 => h.1 i h3 (by omega) (by omega) (by omega) (by omega) (by omega) (by omega), fun j h1 => by rw [h.1 69 (by omega) (by omega) (by omega) (by omega) (by omega) (by omega) (by omega)]⟩
theorem Ga.same {b s g : Nat} {S : PS} {A B A' B' : Mm} (h : Ga b s g S A B) (h1 : A' (b + 10 + 2 * g) = A (b + 10 + 2 * g)) (h2 : A' (b + 10 + 2 * g + 1) = A (b + 10 + 2 * g + 1)) (h3 : ∀ k, k < 10 → B' (s + 6) (10 * g + k) = B (s + 6) (10 * g + k)) (h4 : ∀ k, k < 8 → B' (s + 7) (8 * g + k) = B (s + 7) (8 * g + k)) (hSl : ∀ a b e, S a b e → e.length ≤ 8) : Ga b s g S A' B' := by
  obtain ⟨hG, hI, a, bb, e, k1, k2, k3, k4⟩ := h
  refine ⟨?_, ?_, a, bb, e, by rw [h1]; exact k1, by rw [h3 4 (by omega)]; exact k2, k3, Rep.congr (fun d _ => by rw [h2]) (fun k hk => h4 k (by have := hSl _ _ _ k3; omega)) k4⟩
  · unfold SimG
    have h30 : B' (s + 6) (10 * g) = B (s + 6) (10 * g) := h3 0 (by omega)
    rw [h1, h30, h3 1 (by omega), h3 2 (by omega), h3 3 (by omega), h3 5 (by omega), h3 6 (by omega), h3 7 (by omega), h3 8 (by omega), h3 9 (by omega)]
    exact hG
  · unfold InvG; rw [h1]; exact hI
/-- a bog with all its gangs, beside the reference's -/
def All (b s ng p len : Nat) (oA rA cB : Nat → Int32) (S : PS) (A B : Mm) : Prop :=
  Bgs b s A B ∧ Prg b p len oA rA A ∧ B 74 = cB ∧ A b 15 = nI ng ∧ B 69 9 = nI ng ∧ ng ≤ 4 ∧ ∀ g, g < ng → Ga b s g S A B
section PA
variable {w b s ng p len : Nat} {oA rA cB : Nat → Int32} {S : PS} {A B : Mm}
theorem gangs_run (hcl : ∀ a b e, S a b e → Lpt oA rA cB len S a b e) (hSl : ∀ a b e, S a b e → e.length ≤ 8) (hw : Wb w b) (hs : Ws s) (a1 a2 : Int32) : ∀ (k g n m : Nat) (A B : Mm), g + k = ng → k < n → k < m → All b s ng p len oA rA cB S A B →
    ∃ A' B', f_X9_letPass_L9 w a1 a2 n (nI g) A = some A' ∧ f_X11_hour_L2 69 s m (nI g) B = some B' ∧ All b s ng p len oA rA cB S A' B' ∧ FrP w b A A' ∧ FrQ s B B' ∧ A' b 8 = A b 8 := by
  intro k
  induction k with
  | zero =>
    intro g n m A B hg hn hm h
    obtain ⟨n', rfl⟩ : ∃ z, n = z + 1 := ⟨n - 1, by omega⟩
    obtain ⟨m', rfl⟩ : ∃ z, m = z + 1 := ⟨m - 1, by omega⟩
    have hgn : g = ng := by omega
    subst hgn
    have h4 := h.2.2.2.2.2.1
    refine ⟨A, B, ?_, ?_, h, FrP.refl w b A, FrQ.refl s B, rfl⟩
    · rw [f_X9_letPass_L9, hw.wbog, h.2.2.2.1, if_pos (by rw [n_le (by omega) (by omega)]; omega)]
    · rw [f_X11_hour_L2, h.2.2.2.2.1, if_pos (by rw [n_le (by omega) (by omega)]; omega)]
  | succ k ih =>
    intro g n m A B hg hn hm h
    obtain ⟨n', rfl⟩ : ∃ z, n = z + 1 := ⟨n - 1, by omega⟩
    obtain ⟨m', rfl⟩ : ∃ z, m = z + 1 := ⟨m - 1, by omega⟩
    obtain ⟨h1, h2, h3, h4, h5, h6, h7⟩ := h
    have g4 : g < 4 := by omega
    obtain ⟨A1, B1, c1, c2, c3, c4, c5, c6, c7, c8⟩ := hour_gang hcl hw hs g4 h1 h2 h3 (h7 g (by omega))
    have hw' := hw
    have hs' := hs
    unfold Wb at hw'
    unfold Ws at hs'
    have hAll : All b s ng p len oA rA cB S A1 B1 := by
      refine ⟨c3, c5, c6, by rw [c7.2 15 (by decide) (by decide) (by decide)]; exact h4, by rw [c8.2.1 9 (by decide)]; exact h5, h6, fun g' hg' => ?_⟩
      by_cases e : g' = g
      · subst e; exact c4
      · refine (h7 g' hg').same (c7.1 _ (by omega) (by omega) (by omega) (by omega) (by omega) (by omega) (by omega) (by omega) (by omega)) (c7.1 _ (by omega) (by omega) (by omega) (by omega) (by omega) (by omega) (by omega) (by omega) (by omega)) (fun k hk => c8.2.2.2.1 _ (by omega)) (fun k hk => c8.2.2.2.2 _ (by omega)) hSl
    obtain ⟨A', B', d1, d2, d3, d4, d5, d6⟩ := ih (g + 1) n' m' A1 B1 (by omega) (by omega) (by omega) hAll
    refine ⟨A', B', ?_, ?_, d3, (c7.fr hw g4).trans d4, c8.fr.trans d5, by rw [d6, c7.2 8 (by decide) (by decide) (by decide)]⟩
    · rw [f_X9_letPass_L9, hw.wbog, h4, if_neg (by rw [n_le (by omega) (by omega)]; omega), if_pos (inN g4), ixn (by omega)]
      rw [show b + 9 + 1 + 2 * g = b + 10 + 2 * g from rfl, c1, bd1_e, n_suc, lz_e, d1]
    · rw [f_X11_hour_L2, h5, if_neg (by rw [n_le (by omega) (by omega)]; omega), c2, bd1_e, n_suc, lz_e, d2]
theorem All.night {A' B' : Mm} (hSl : ∀ a b e, S a b e → e.length ≤ 8) (hw : Wb w b) (hs : Ws s) (h : All b s ng p len oA rA cB S A B) (hB : Bgs b s A' B') (hA : NiA b A A') (hBB : NiB s B B') : All b s ng p len oA rA cB S A' B' := by
  obtain ⟨h1, ⟨p1, p2, p3, p4, p5, p6⟩, h3, h4, h5, h6, h7⟩ := h
  have hw' := hw
  have hs' := hs
  unfold Wb at hw'
  unfold Ws at hs'
  have ep : ∀ k, k ≤ 24 → A' k = A k := fun k hk => hA.1 k (by omega) (by omega) (by omega) (by omega) (by omega) (by omega) (by omega)
  have eB : ∀ i, i = 69 ∨ i = 74 ∨ i = s + 6 ∨ i = s + 7 → B' i = B i := fun i hi => hBB.1 i (by omega) (by omega) (by omega) (by omega) (by omega) (by omega) (by omega)
  refine ⟨hB, ⟨p1, by rw [hA.2 16 (by decide) (by decide) (by decide)]; exact p2, by rw [ep p (by omega)]; exact p3, p4, by rw [ep (p + 1) (by omega)]; exact p5, by rw [ep (p + 2) (by omega)]; exact p6⟩, by rw [eB 74 (by omega)]; exact h3, by rw [hA.2 15 (by decide) (by decide) (by decide)]; exact h4, by rw [eB 69 (by omega)]; exact h5, h6, fun g hg => ?_⟩
  exact (h7 g hg).same (hA.1 _ (by omega) (by omega) (by omega) (by omega) (by omega) (by omega) (by omega)) (hA.1 _ (by omega) (by omega) (by omega) (by omega) (by omega) (by omega) (by omega)) (fun k _ => by rw [eB (s + 6) (by omega)]) (fun k _ => by rw [eB (s + 7) (by omega)]) hSl
theorem hours_run (hcl : ∀ a b e, S a b e → Lpt oA rA cB len S a b e) (hSl : ∀ a b e, S a b e → e.length ≤ 8) (hw : Wb w b) (hs : Ws s) {H : Nat} (hH : H < 100000) : ∀ (k i n m : Nat) (A B : Mm), i + k = H → k < n → k < m → All b s ng p len oA rA cB S A B → (A b 8).toInt + (k : Int) < 2147483646 →
    ∃ A' B', f_X9_letPass_L2 w (nI H) n (nI i) A = some A' ∧ f_X11_hours_L2 69 s (nI H) m (nI i) B = some B' ∧ All b s ng p len oA rA cB S A' B' ∧ FrP w b A A' ∧ FrQ s B B' ∧ (A' b 8).toInt ≤ (A b 8).toInt + (k : Int) := by
  intro k
  induction k with
  | zero =>
    intro i n m A B hg hn hm h hd
    obtain ⟨n', rfl⟩ : ∃ z, n = z + 1 := ⟨n - 1, by omega⟩
    obtain ⟨m', rfl⟩ : ∃ z, m = z + 1 := ⟨m - 1, by omega⟩
    refine ⟨A, B, ?_, ?_, h, FrP.refl w b A, FrQ.refl s B, by omega⟩
    · rw [f_X9_letPass_L2, if_pos (by rw [n_le (by omega) (by omega)]; omega)]
    · rw [f_X11_hours_L2, if_pos (by rw [n_le (by omega) (by omega)]; omega)]
  | succ k ih =>
    intro i n m A B hg hn hm h hd
    obtain ⟨n', rfl⟩ : ∃ z, n = z + 1 := ⟨n - 1, by omega⟩
    obtain ⟨m', rfl⟩ : ∃ z, m = z + 1 := ⟨m - 1, by omega⟩
    have h6 := h.2.2.2.2.2.1
    have hw' := hw
    unfold Wb at hw'
    obtain ⟨A1, B1, c1, c2, c3, c4, c5, c6⟩ := gangs_run hcl hSl hw hs (nI H) (nI i) ng 0 FU FU A B (by omega) (by unfold FU; omega) (by unfold FU; omega) h
    obtain ⟨A2, B2, d1, d2, d3, d4, d5, d6⟩ := end_sim (by omega) hs c3.1 (by rw [c6]; omega)
    have hAll2 := c3.night hSl hw hs d3 d4 d5
    rw [c6] at d6
    obtain ⟨A', B', e1, e2, e3, e4, e5, e6⟩ := ih (i + 1) n' m' A2 B2 (by omega) (by omega) (by omega) hAll2 (by omega)
    refine ⟨A', B', ?_, ?_, e3, c4.trans (d4.fr.trans e4), c5.trans ((d5.fr hs).trans e5), by omega⟩
    · rw [f_X9_letPass_L2, if_neg (by rw [n_le (by omega) (by omega)]; omega)]
      rw [show ((0 : Int32) = nI 0) from rfl, c1, bd1_e, hw.wbog, d1, bd1_e, n_suc, lz_e, e1]
    · rw [f_X11_hours_L2, if_neg (by rw [n_le (by omega) (by omega)]; omega), f_X11_hour]
      rw [show ((0 : Int32) = nI 0) from rfl, c2, bd1_e, lz_e, bd1_id, d2, bd1_e, n_suc, lz_e, e2]
/-- one hour of the reference on its own, as many as one of the class -/
theorem pass_run (hcl : ∀ a b e, S a b e → Lpt oA rA cB len S a b e) (hSl : ∀ a b e, S a b e → e.length ≤ 8) (hw : Wb w b) (hs : Ws s) {H : Nat} (hH : H < 100000) (h : All b s ng p len oA rA cB S A B) (hd : (A b 8).toInt + (H : Int) < 2147483646) :
    ∃ A' B', f_X9_letPass w (nI H) A = some A' ∧ f_X11_hours 69 s (nI H) B = some B' ∧ All b s ng p len oA rA cB S A' B' ∧ FrP w b A A' ∧ FrQ s B B' ∧ (A' b 8).toInt ≤ (A b 8).toInt + (H : Int) := by
  obtain ⟨A', B', e1, e2, e3, e4, e5, e6⟩ := hours_run hcl hSl hw hs hH H 0 FU FU A B (by omega) (by unfold FU; omega) (by unfold FU; omega) h hd
  refine ⟨A', B', ?_, ?_, e3, e4, e5, e6⟩
  · rw [f_X9_letPass]
    rw [show ((0 : Int32) = nI 0) from rfl, e1, bd1_e]
  · rw [f_X11_hours]
    rw [show ((0 : Int32) = nI 0) from rfl, e2, bd1_e]
theorem one_hour (hcl : ∀ a b e, S a b e → Lpt oA rA cB len S a b e) (hSl : ∀ a b e, S a b e → e.length ≤ 8) (hw : Wb w b) (hs : Ws s) (h : All b s ng p len oA rA cB S A B) (hd : (A b 8).toInt + 1 < 2147483646) :
    ∃ A' B', f_X9_letPass w (1 : Int32) A = some A' ∧ f_X11_hour 69 s B = some B' ∧ All b s ng p len oA rA cB S A' B' ∧ FrP w b A A' ∧ FrQ s B B' ∧ (A' b 8).toInt ≤ (A b 8).toInt + 1 := by
  obtain ⟨A', B', e1, e2, e3, e4, e5, e6⟩ := pass_run (H := 1) hcl hSl hw hs (by omega) h hd
  refine ⟨A', B', e1, ?_, e3, e4, e5, e6⟩
  rw [f_X11_hours] at e2
  obtain ⟨m, hm⟩ := FU_gt (n := 1) (by omega)
  rw [hm, show 1 + 1 + m = (m + 1) + 1 by omega, f_X11_hours_L2, if_neg (by decide)] at e2
  cases hz : f_X11_hour 69 s B with
  | none => rw [hz] at e2; cases e2
  | some B2 =>
    rw [hz, bd1_e, lz_e, f_X11_hours_L2, if_pos (by decide), bd1_e] at e2
    exact e2
end PA
