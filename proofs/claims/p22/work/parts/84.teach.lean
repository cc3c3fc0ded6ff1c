/-! needs 30 31 69 70 71 73 82 86 87 89 -/
/-! teach, of a text whose only error can be 1 -/
theorem sumL_z {f : Nat → Int32} : ∀ (k j : Nat), (∀ g, j ≤ g → g < j + k → f g = 0) → sumL f k j = 0
  | 0, _, _ => rfl
  | k + 1, j, h => by
    show f j + sumL f k (j + 1) = 0
    rw [h j (Nat.le_refl _) (by omega), sumL_z k (j + 1) (fun g h1 h2 => h g (by omega) (by omega))]
    rfl
theorem cv8 (ng : Nat) (A : Mm) : cvA ng A 8 = sumL (fun g => A (39 + 2 * g) 2) ng 0 := by
  show accL (fun g => A (39 + 2 * g) 2) ng 0 0 = _
  rw [accL_sum]
  exact Int32.zero_add _
theorem teach_v {H ng L : Nat} {A : Mm} (h : LV H ng A) (hL : L ≤ 2000) (h1 : A 0 1 = nI L) (hc : ∀ k, k < L → 0 ≤ (A 1 k).toInt) (hQ : ∀ T : Nat → Int32, (∀ k, k < L → T k = A 1 k) → Rq T L ∧ Aq T L ∧ Gq T L) :
    ∃ x A', f_X9_teach 0 A = some (x, A') ∧ A' 0 1 = 0 ∧ ((x = 0 ∧ A' 0 4 = -1 ∧ ∃ m, LV H m A' ∧ cvA m A' 8 = 0 ∧ TA 29 m A' = TA 29 ng A - cvA ng A 8) ∨ (x = 1 ∧ 0 ≤ (A' 0 4).toInt ∧ LV H ng A' ∧ ∀ r, 29 ≤ r → r < 47 → A' r = A r)) := by
  obtain ⟨⟨B, hB⟩, h2, h3, h4⟩ := h
  obtain ⟨x, A1, B1, e1, e2, hR1, -, -⟩ := teach_ok hB
  obtain ⟨ng0, p, len, oA, rA, cB, S, r1, r2, ⟨q, q1, q2, q3⟩, r4, ⟨L0, t1, t2, t3, t4⟩, -, r5, r6⟩ := hB
  have hp := r1.2.1.1
  have eL : L0 = L := (n_inj (by omega) (by omega)).mp (t2.symm.trans h1)
  subst eL
  have hT : ∀ k, k < L0 → B 70 k = A 1 k := fun k hk => by
    have c := hc k hk
    rcases (t4 k hk).2 with ⟨-, e⟩ | ⟨-, e⟩
    · exact e.symm
    · have := (t4 k hk).1; omega
  obtain ⟨z1, z2, z3⟩ := hQ (B 70) hT
  obtain ⟨y, A', B2, B', s1, s2, s3, s4, s5, s6, s7⟩ := parse_ok t1 t3 t4 q2
  have hE := parse_er t1 t3 t4 q2 z1 z2 z3 s1
  rcases hE with ⟨e5, e6⟩ | ⟨e5, e6⟩
  · rcases s7 with ⟨-, -, s8⟩ | ⟨-, N, i, many, la, sb, ea, fa, P, sT⟩
    · rw [e5] at s8; exact absurd s8 (by decide)
    obtain ⟨gA, gB, g1, g2, g3, g4, ⟨g5, g6⟩, g7, ⟨⟨g0, g8, g9⟩, g10⟩, g11⟩ := sT
    have ez : ea = 0 := gA.2.2.2.2.1.symm.trans e5
    subst ez
    obtain ⟨k1, k2⟩ := g10 rfl
    have hm4 : many ≤ 4 := by
      rcases Nat.lt_or_ge 4 many with y | y
      · exact absurd rfl (g6 y)
      · exact y
    have e16 : A' 29 16 = nI (p + 1) := by rw [s4 29 16 (by omega) (by omega)]; exact r1.2.1.2.1
    have e06 : A' 0 6 = nI (q + 1) := by rw [s4 0 6 (by omega) (by omega)]; exact q1
    have h15 : emA2 q many (tlA A') 29 15 = nI many := by unfold emA2; rw [wr_at]
    obtain ⟨A2, a1, a2, a3⟩ := emp_run (p := q) hm4 (by omega) many 0 FU (emA2 q many (tlA A')) (by omega) (by unfold FU; omega) h15
    have a1' : f_X1_employ_L15 29 q FU 0 (emA2 q many (tlA A')) = some A2 := a1
    have c1 := teachA_yes q1 q2 t2 s1 e5 hp e16 e06 k1 a1'
    have xA : ∀ r c, r ≠ 29 → (∀ h, h < many → r ≠ 39 + 2 * h) → A2 r c = tlA A' r c := by
      intro r c h1 h2
      rw [a2 r (fun h _ hh => h2 h hh)]
      unfold emA2
      rw [wr_r h1, wr_r h1]
    have xA29 : ∀ c, A2 29 c = if c = 15 then nI many else if c = 16 then nI (q + 1) else A' 29 c := by
      intro c
      rw [a2 29 (fun h _ hh => by omega)]
      unfold emA2
      rw [wr_i, wr_i, tlA_o (by omega)]
    have x35 : A2 3 5 = 0 := by rw [xA 3 5 (by decide) (fun h _ => by omega), tlA_o (by omega)]; exact e5
    rw [x35] at c1
    have yA : ∀ r c, r ≠ 0 → r ≠ 29 → (∀ h, h < many → r ≠ 39 + 2 * h) → wr A2 0 6 (nI (p + 1)) r c = A' r c := by
      intro r c h0 h1 h2
      rw [wr_r h0, xA r c h1 h2, tlA_o (by omega)]
    have yO : ∀ r c, 9 < r → (r < q ∨ q + 5 < r) → r ≠ 29 → (∀ h, h < many → r ≠ 39 + 2 * h) → wr A2 0 6 (nI (p + 1)) r c = A r c := by
      intro r c h0 h1 h2 h3
      rw [yA r c (by omega) h2 h3, s4 r c (by omega) h1]
    have y29 : ∀ c, wr A2 0 6 (nI (p + 1)) 29 c = if c = 15 then nI many else if c = 16 then nI (q + 1) else A 29 c := by
      intro c
      rw [wr_r (by decide), xA29, s4 29 c (by omega) (by omega)]
    rw [e1] at c1
    cases c1
    obtain ⟨p', len', oA', rA', cB', S', u1, u2, u3, u4⟩ := Rel.gangs hR1 (ng := many) (by rw [y29]; rfl) hm4
    have row : ∀ r, 30 ≤ r → r ≤ 35 → wr A2 0 6 (nI (p + 1)) r = A r := fun r h1 h2 => funext fun c => yO r c (by omega) (by omega) (by omega) (fun h _ => by omega)
    have gz : ∀ g, g < many → ∀ j, 2 ≤ j → j ≤ 8 → wr A2 0 6 (nI (p + 1)) (39 + 2 * g) j = 0 := fun g hg j h1 h2 => by
      rw [wr_r (by omega)]; exact (a3 g (Nat.zero_le _) hg).2.2.2 j h1 h2
    refine ⟨0, _, e1, ?_, Or.inl ⟨rfl, ?_, many, ⟨⟨B1, hR1⟩, by rw [y29]; rfl, hm4, h4.1.congr (fun i hi => row _ (by omega) (by omega)), fun g hg => ?_⟩, ?_, ?_⟩⟩
    · rw [wr_col (by decide), xA 0 1 (by decide) (fun h _ => by omega)]
      unfold tlA
      rw [wr_col (by decide), wr_at]
    · rw [wr_col (by decide), xA 0 4 (by decide) (fun h _ => by omega)]
      unfold tlA
      rw [wr_at]; exact e6
    · obtain ⟨w1, w2, w3, w4⟩ := (u1.2.2.2.2.2.2 g hg).2.1
      have G := gz g hg
      refine ⟨⟨w1, w2, w3, ?_, fun _ => G 3 (by omega) (by omega)⟩, ?_⟩
      · show 0 ≤ (wr A2 0 6 (nI (p + 1)) (39 + 2 * g) 3).toInt ∧ (wr A2 0 6 (nI (p + 1)) (39 + 2 * g) 3).toInt ≤ 20
        rw [G 3 (by omega) (by omega)]; exact ⟨by decide, by decide⟩
      · show 0 ≤ (wr A2 0 6 (nI (p + 1)) (39 + 2 * g) 5).toInt ∧ 0 ≤ (wr A2 0 6 (nI (p + 1)) (39 + 2 * g) 6).toInt ∧ (wr A2 0 6 (nI (p + 1)) (39 + 2 * g) 5).toInt + (wr A2 0 6 (nI (p + 1)) (39 + 2 * g) 6).toInt ≤ (wr A2 0 6 (nI (p + 1)) (39 + 2 * g) 7).toInt ∧ (wr A2 0 6 (nI (p + 1)) (39 + 2 * g) 7).toInt ≤ (H : Int)
        rw [G 5 (by omega) (by omega), G 6 (by omega) (by omega), G 7 (by omega) (by omega)]
        have : (0 : Int32).toInt = 0 := rfl
        omega
    · rw [cv8]
      exact sumL_z many 0 (fun g _ hg => gz g (by omega) 2 (by omega) (by omega))
    · have e8 := cv8 ng A
      have s0 : sumL (fun g => wr A2 0 6 (nI (p + 1)) (29 + 10 + 2 * g) 2) many 0 = 0 := sumL_z many 0 (fun g _ hg => gz g (by omega) 2 (by omega) (by omega))
      unfold TA TB
      rw [s0, e8, show (29 + 4 : Nat) = 33 from rfl, row 33 (by omega) (by omega), y29, y29, y29, y29]
      show sumL (A 33) 64 0 + A 29 10 + A 29 11 + A 29 12 - A 29 13 + 0 = sumL (A 33) 64 0 + A 29 10 + A 29 11 + A 29 12 - A 29 13 + sumL (fun g => A (39 + 2 * g) 2) ng 0 - sumL (fun g => A (39 + 2 * g) 2) ng 0
      grind
  · have c1 := teachA_no q1 q2 t2 s1 (by rw [e5]; decide)
    rw [e5, e1] at c1
    cases c1
    have row : ∀ r, 29 ≤ r → r < 47 → tlA A' r = A r := fun r h1 h2 => funext fun c => by rw [tlA_o (by omega), s4 r c (by omega) (by omega)]
    refine ⟨1, _, e1, ?_, Or.inr ⟨rfl, ?_, ⟨⟨B1, hR1⟩, by rw [row 29 (by omega) (by omega)]; exact h2, h3, h4.congr h3 row⟩, row⟩⟩
    · unfold tlA; rw [wr_col (by decide), wr_at]
    · unfold tlA; rw [wr_at]; exact e6
