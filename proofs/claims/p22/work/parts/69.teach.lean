/-! needs 30 31 32 33 34 35 36 37 38 39 40 41 42 43 44 45 46 47 50 51 52 53 54 55 56 57 58 59 60 61 62 63 64 65 66 67 68 69 70 -/
/-! teach in both -/
theorem okP {p : Nat} (hp : p = 10 ∨ p = 16 ∨ p = 22) : okr 2 (nI (p + 1)) := by
  refine ⟨?_, ?_⟩
  · rw [nI_clamp (by omega)]; omega
  · rw [nI_clamp (by omega)]; rcases hp with rfl | rfl | rfl <;> rfl
theorem ridP {p : Nat} (hp : p < 1000) : rid (nI (p + 1)) = p := by
  show (nI (p + 1)).toNatClampNeg - 1 = p
  rw [nI_clamp (by omega)]; omega
/-- what the class does behind its parse -/
def tlA (A : Mm) : Mm := wr (wr A 0 1 0) 0 4 (A 3 6)
theorem tlA_o {A : Mm} {r c : Nat} (h : r ≠ 0 ∨ (c ≠ 1 ∧ c ≠ 4)) : tlA A r c = A r c := by
  unfold tlA; rw [wr_o (by omega), wr_o (by omega)]
def emA2 (q m : Nat) (A : Mm) : Mm := wr (wr A 29 16 (nI (q + 1))) 29 15 (nI m)
theorem teachA_no {A A' : Mm} {L q : Nat} (h6 : A 0 6 = nI (q + 1)) (hq : q = 10 ∨ q = 16 ∨ q = 22) (h1 : A 0 1 = nI L) (hp : f_X4_parse 3 1 (nI L) q A = some A') (h5 : A' 3 5 ≠ 0) : f_X9_teach 0 A = some (A' 3 5, tlA A') := by
  rw [f_X9_teach, h6, if_pos (okP hq), ridP (by omega), h1, show (0 + 3 : Nat) = 3 from rfl, show (0 + 1 : Nat) = 1 from rfl, hp, bd1_e, lz_e, lz_e]
  have e : wr (wr A' 0 1 0) 0 4 (wr A' 0 1 0 3 6) = tlA A' := by unfold tlA; rw [wr_r (by decide)]
  rw [e, tlA_o (by omega), if_neg h5, bd1_e, tlA_o (by omega)]
theorem teachA_yes {A A' A2 : Mm} {L p q m : Nat} (h6 : A 0 6 = nI (q + 1)) (hq : q = 10 ∨ q = 16 ∨ q = 22) (h1 : A 0 1 = nI L) (hp : f_X4_parse 3 1 (nI L) q A = some A') (h5 : A' 3 5 = 0) (hp3 : p = 10 ∨ p = 16 ∨ p = 22) (h16 : A' 29 16 = nI (p + 1)) (h06 : A' 0 6 = nI (q + 1)) (hm : A' q 6 = nI m) (he : f_X1_employ_L15 29 q FU 0 (emA2 q m (tlA A')) = some A2) : f_X9_teach 0 A = some (A2 3 5, wr A2 0 6 (nI (p + 1))) := by
  rw [f_X9_teach, h6, if_pos (okP hq), ridP (by omega), h1, show (0 + 3 : Nat) = 3 from rfl, show (0 + 1 : Nat) = 1 from rfl, hp, bd1_e, lz_e, lz_e]
  have e : wr (wr A' 0 1 0) 0 4 (wr A' 0 1 0 3 6) = tlA A' := by unfold tlA; rw [wr_r (by decide)]
  have e6 : tlA A' 0 6 = nI (q + 1) := by rw [tlA_o (by omega)]; exact h06
  have e16 : tlA A' 29 16 = nI (p + 1) := by rw [tlA_o (by omega)]; exact h16
  have eq6 : wr (tlA A') 29 16 (nI (q + 1)) q 6 = nI m := by rw [wr_r (by omega), tlA_o (by omega)]; exact hm
  rw [e, tlA_o (r := 3) (by omega), if_pos h5, show (0 + 29 : Nat) = 29 from rfl, e16, if_pos (okP hp3), e6, if_pos (okP hq), ridP (p := q) (by omega), f_X1_employ, lz_e, eq6, lz_e]
  show bd1 (bd1 (bd1 (f_X1_employ_L15 29 q FU 0 (emA2 q m (tlA A'))) _) _) _ = _
  rw [he, bd1_e, bd1_e, ridP (p := p) (by omega), lz_e, bd1_e, wr_r (by decide)]
/-- what the reference does behind its text -/
theorem teachB_fail {B B1 B' : Mm} (ha : f_X11_advance 69 (tB B) = some B1) (ht : f_X11_text 69 B1 = some (0, B')) : f_X11_teach 69 B = some (1, wr (wr (wr (wr B' 69 20 1) 69 21 (B' 69 15)) 69 2 0) 69 3 (B' 69 15)) := by
  rw [f_X11_teach]
  simp only [lz_e]
  show bd1 (f_X11_advance 69 (tB B)) _ = _
  rw [ha, bd1_e, ht, bd2_e, if_pos rfl]
  have e1 : wr B' 69 20 1 69 15 = B' 69 15 := wr_col (by decide)
  rw [e1]
  have e2 : (wr (wr (wr B' 69 20 1) 69 21 (B' 69 15)) 69 2 0) 69 20 = 1 := by rw [wr_col (by decide), wr_col (by decide), wr_at]
  have e3 : (wr (wr (wr B' 69 20 1) 69 21 (B' 69 15)) 69 2 0) 69 21 = B' 69 15 := by rw [wr_col (by decide), wr_at]
  rw [e2, if_neg (show ¬ (1 : Int32) = 0 by decide), e3]
  have e4 : (wr (wr (wr (wr B' 69 20 1) 69 21 (B' 69 15)) 69 2 0) 69 3 (B' 69 15)) 69 20 = 1 := by rw [wr_col (by decide), e2]
  rw [e4, if_neg (show ¬ (1 : Int32) = 0 by decide), bd1_e, e4]
theorem teachB_no {B B1 B' : Mm} (ha : f_X11_advance 69 (tB B) = some B1) (ht : f_X11_text 69 B1 = some (1, B')) (h : B' 69 20 ≠ 0) : f_X11_teach 69 B = some (B' 69 20, wr (wr B' 69 2 0) 69 3 (B' 69 21)) := by
  rw [f_X11_teach]
  simp only [lz_e]
  show bd1 (f_X11_advance 69 (tB B)) _ = _
  rw [ha, bd1_e, ht, bd2_e, if_neg (show ¬ (1 : Int32) = 0 by decide)]
  have e2 : (wr B' 69 2 0) 69 20 = B' 69 20 := wr_col (by decide)
  have e3 : (wr B' 69 2 0) 69 21 = B' 69 21 := wr_col (by decide)
  rw [e2, if_neg h, e3]
  have e4 : (wr (wr B' 69 2 0) 69 3 (B' 69 21)) 69 20 = B' 69 20 := by rw [wr_col (by decide), e2]
  rw [e4, if_neg h, bd1_e, e4]
theorem teachB_yes {B B1 B' B2 : Mm} (ha : f_X11_advance 69 (tB B) = some B1) (ht : f_X11_text 69 B1 = some (1, B')) (h : B' 69 20 = 0) (hl : f_X11_learn 69 (wr (wr B' 69 2 0) 69 3 (-1)) = some B2) : f_X11_teach 69 B = some (B2 69 20, B2) := by
  rw [f_X11_teach]
  simp only [lz_e]
  show bd1 (f_X11_advance 69 (tB B)) _ = _
  rw [ha, bd1_e, ht, bd2_e, if_neg (show ¬ (1 : Int32) = 0 by decide)]
  have e2 : (wr B' 69 2 0) 69 20 = B' 69 20 := wr_col (by decide)
  rw [e2, if_pos h]
  have e4 : (wr (wr B' 69 2 0) 69 3 (-1)) 69 20 = B' 69 20 := by rw [wr_col (by decide), e2]
  rw [e4, if_pos h, hl, bd1_e, bd1_e]
theorem Rel.no {H q : Nat} {A B A' B' : Mm} (h : Rel H A B) (q1' : A 0 6 = nI (q + 1)) (q2' : q = 10 ∨ q = 16 ∨ q = 22) (hA1 : ∀ r c, 2 < r ∧ (r < 3 ∨ 9 < r) → (r < q ∨ q + 5 < r) → A' r c = A r c) (hA2 : ∀ c, A' 2 c = A 2 c) (hB : ∀ r c, r ≠ 69 → ¬ (75 ≤ r ∧ r ≤ 80) → B' r c = B r c) (h9 : B' 69 9 = B 69 9 ∧ B' 69 5 = B 69 5) (h0 : A' 0 6 = A 0 6 ∧ A' 0 3 = A 0 3) (h1 : A' 0 1 = 0) (h2 : B' 69 2 = 0) (h3 : A' 0 4 = B' 69 3) : Rel H A' B' := by
  obtain ⟨ng, p, len, oA, rA, cB, S, r1, r2, ⟨q', q1, q2, q3⟩, r4, ⟨L, t1, t2, t3, t4⟩, ⟨D, d1, d2, d3, d4⟩, r5, r6⟩ := h
  have hp := r1.2.1.1
  have eq : q' = q := by
    have := (n_inj (by omega) (by omega)).mp (q1.symm.trans q1')
    omega
  subst eq
  refine ⟨ng, p, len, oA, rA, cB, S, r1.congr (by omega) (by omega) (fun a b e x => (r2 a b e x).2.1) (fun r hr => funext fun c => hA1 r c (by omega) (by omega)) (fun r hr => funext fun c => hB r c (by omega) (by omega)) h9.1, r2, ⟨q', h0.1.trans q1, q2, q3⟩, ?_, ⟨0, by omega, h1, h2, fun k hk => absurd hk (Nat.not_lt_zero _)⟩, ⟨D, d1, h0.2.trans d2, h9.2.trans d3, fun k hk => ?_⟩, fun k hk => ?_, h3⟩
  · rw [hA1 29 8 (by omega) (by omega)]; exact r4
  · rw [hA2, hB 71 k (by omega) (by omega)]; exact d4 k hk
  · rw [hA1 36 k (by omega) (by omega), hA1 37 k (by omega) (by omega)]; exact r5 k hk
theorem teach_ok {H : Nat} {A B : Mm} (h : Rel H A B) : ∃ x A' B', f_X9_teach 0 A = some (x, A') ∧ f_X11_teach 69 B = some (x, B') ∧ Rel H A' B' ∧ CF A A' ∧ RF B B' := by
  have hh := h
  obtain ⟨ng, p, len, oA, rA, cB, S, r1, r2, ⟨q, q1, q2, q3⟩, r4, ⟨L, t1, t2, t3, t4⟩, ⟨D, d1, d2, d3, d4⟩, r5, r6⟩ := h
  have hp := r1.2.1.1
  obtain ⟨y, A', B1, B', s1, s2, s3, s4, s5, s6, s7⟩ := parse_ok t1 t3 t4 q2
  rcases s7 with ⟨rfl, sf, s8⟩ | ⟨rfl, N, i, many, la, sb, ea, fa, P, sT⟩
  · have h5 : A' 3 5 ≠ 0 := by rw [s8]; decide
    refine ⟨1, tlA A', _, ?_, teachB_fail s2 s3, ?_, fun r hr => funext fun c => ?_, fun r hr => funext fun c => ?_⟩
    · have := teachA_no q1 q2 t2 s1 h5
      rw [s8] at this; exact this
    · refine hh.no q1 q2 (fun r c h1 h2 => by rw [tlA_o (by omega), s4 r c (by omega) h2]) (fun c => by rw [tlA_o (by omega), s4 2 c (by omega) (by omega)]) (fun r c h1 h2 => ?_) ⟨?_, ?_⟩ ⟨?_, ?_⟩ ?_ ?_ ?_
      · rw [wr_r h1, wr_r h1, wr_r h1, wr_r h1, s5 r c (by omega) h2]
      · rw [wr_col (by decide), wr_col (by decide), wr_col (by decide), wr_col (by decide), s5 69 9 (by omega) (by omega)]
      · rw [wr_col (by decide), wr_col (by decide), wr_col (by decide), wr_col (by decide), s5 69 5 (by omega) (by omega)]
      · rw [tlA_o (by omega), s4 0 6 (by omega) (by omega)]
      · rw [tlA_o (by omega), s4 0 3 (by omega) (by omega)]
      · unfold tlA; rw [wr_col (by decide), wr_at]
      · rw [wr_col (by decide), wr_at]
      · rw [wr_at]; unfold tlA; rw [wr_at]; exact sf.2
    · rw [tlA_o (by omega), s4 r c (by omega) (by omega)]
    · rw [wr_r (by omega), wr_r (by omega), wr_r (by omega), wr_r (by omega), s5 r c (by omega) (by omega)]
  · obtain ⟨gA, gB, g1, g2, g3, g4, ⟨g5, g6⟩, g7, ⟨⟨g0, g8, g9⟩, g10⟩, g11⟩ := sT
    have e5 : A' 3 5 = ea := gA.2.2.2.2.1
    have e6 : A' 3 6 = fa := gA.2.2.2.2.2
    have f5 : B' 69 20 = ea := gB.2.2.2.2.2.2.1
    have hi : i ≤ 400 := gA.le
    have hpl : A' q 2 = nI la := gA.2.2.2.1
    have hsb : B' 69 11 = nI sb := gB.2.2.2.1
    by_cases z : ea = 0
    · subst z
      obtain ⟨k1, k2⟩ := g10 rfl
      have hm4 : many ≤ 4 := by
        rcases Nat.lt_or_ge 4 many with y | y
        · exact absurd rfl (g6 y)
        · exact y
      have hfa := g4 rfl
      have e16 : A' 29 16 = nI (p + 1) := by rw [s4 29 16 (by omega) (by omega)]; exact r1.2.1.2.1
      have e06 : A' 0 6 = nI (q + 1) := by rw [s4 0 6 (by omega) (by omega)]; exact q1
      have h15 : emA2 q many (tlA A') 29 15 = nI many := by unfold emA2; rw [wr_at]
      obtain ⟨A2, a1, a2, a3⟩ := emp_run (p := q) hm4 (by omega) many 0 FU (emA2 q many (tlA A')) (by omega) (by unfold FU; omega) h15
      obtain ⟨B2, b1, b2, b3, b4, b5, b6⟩ := learn_run (m := many) (sb := sb) (B := wr (wr B' 69 2 0) 69 3 (-1)) hm4 (by omega) (by rw [wr_col (by decide), wr_col (by decide)]; exact hsb) (by rw [wr_col (by decide), wr_col (by decide)]; exact g5)
      have a1' : f_X1_employ_L15 29 q FU 0 (emA2 q many (tlA A')) = some A2 := a1
      have c1 := teachA_yes q1 q2 t2 s1 e5 hp e16 e06 k1 a1'
      have c2 := teachB_yes s2 s3 f5 b1
      have xA : ∀ r c, r ≠ 29 → (∀ h, h < many → r ≠ 39 + 2 * h) → A2 r c = tlA A' r c := by
        intro r c h1 h2
        rw [a2 r (fun h _ hh => h2 h hh)]
        unfold emA2
        rw [wr_r h1, wr_r h1]
      have xA29 : ∀ c, A2 29 c = if c = 15 then nI many else if c = 16 then nI (q + 1) else A' 29 c := by
        intro c
        rw [a2 29 (fun h _ hh => by omega)]
        unfold emA2
        rw [wr_i, wr_i, tlA_o (by omega)]
      have x35 : A2 3 5 = 0 := by rw [xA 3 5 (by decide) (fun h _ => by omega), tlA_o (by omega)]; exact e5
      have x20 : B2 69 20 = 0 := by rw [b3 20 (by decide), wr_col (by decide), wr_col (by decide)]; exact f5
      rw [x35] at c1
      rw [x20] at c2
      refine ⟨0, _, _, c1, c2, ?_, fun r hr => funext fun c => ?_, fun r hr => funext fun c => ?_⟩
      · -- the new state
        have yA : ∀ r c, r ≠ 0 → r ≠ 29 → (∀ h, h < many → r ≠ 39 + 2 * h) → wr A2 0 6 (nI (p + 1)) r c = A' r c := by
          intro r c h0 h1 h2
          rw [wr_r h0, xA r c h1 h2, tlA_o (by omega)]
        have yO : ∀ r c, 9 < r → (r < q ∨ q + 5 < r) → r ≠ 29 → (∀ h, h < many → r ≠ 39 + 2 * h) → wr A2 0 6 (nI (p + 1)) r c = A r c := by
          intro r c h0 h1 h2 h3
          rw [yA r c (by omega) h2 h3, s4 r c (by omega) h1]
        have y29 : ∀ c, wr A2 0 6 (nI (p + 1)) 29 c = if c = 15 then nI many else if c = 16 then nI (q + 1) else A 29 c := by
          intro c
          rw [wr_r (by decide), xA29, s4 29 c (by omega) (by omega)]
        have yB : ∀ r c, r ≠ 69 → ¬ (75 ≤ r ∧ r ≤ 80) → r ≠ 74 → r ≠ 89 → B2 r c = B r c := by
          intro r c h1 h2 h3 h4
          rw [b2 r h1 h3 h4, wr_r h1, wr_r h1, s5 r c (by omega) h2]
        have yB9 : ∀ c, c ≠ 9 → c ≠ 2 → c ≠ 3 → B2 69 c = B' 69 c := by
          intro c h1 h2 h3
          rw [b3 c h1, wr_col h3, wr_col h2]
        obtain ⟨⟨w1, w2, w3, w4, w5⟩, -⟩ := r1
        have hcl : Cls (A' (q + 1)) (A' (q + 2)) (B2 74) la (fun x y f => P x y f ∧ ∀ d, d ∈ f → d < 9) := by
          intro a b e ⟨hP, hP9⟩
          obtain ⟨G1, G2⟩ := g11 (A' (q + 1)) (A' (q + 2)) (B2 74) la P (fun j _ => ⟨rfl, rfl⟩) (fun j hj => by rw [b5 j hj, wr_r (by decide), wr_r (by decide)]) (Nat.le_refl _) (by omega) (by omega) (fun _ _ _ x => x) a b e hP
          exact ⟨G1.small hP9, G2, hP9⟩
        refine ⟨many, q, la, A' (q + 1), A' (q + 2), B2 74, (fun x y f => P x y f ∧ ∀ d, d ∈ f → d < 9), ⟨⟨fun k hk => ?_, ?_, fun k hk => ?_, fun k hk => ?_, ?_⟩, ⟨q2, ?_, ?_, by omega, funext fun c => ?_, funext fun c => ?_⟩, rfl, ?_, b4, hm4, fun g hg => ?_⟩, hcl, ⟨p, ?_, hp, fun e => q3 e.symm⟩, ?_, ⟨0, by omega, ?_, ?_, fun k hk => absurd hk (Nat.not_lt_zero _)⟩, ⟨D, d1, ?_, ?_, fun k hk => ?_⟩, fun k hk => ?_, ?_⟩
        · rw [yO (29 + 1) k (by omega) (by omega) (by omega) (fun h _ => by omega), yO (29 + 3) k (by omega) (by omega) (by omega) (fun h _ => by omega), yO (29 + 4) k (by omega) (by omega) (by omega) (fun h _ => by omega), yO (29 + 5) k (by omega) (by omega) (by omega) (fun h _ => by omega), yO (29 + 6) k (by omega) (by omega) (by omega) (fun h _ => by omega), yB (83 + 1) k (by omega) (by omega) (by omega) (by omega), yB (83 + 2) k (by omega) (by omega) (by omega) (by omega), yB (83 + 3) k (by omega) (by omega) (by omega) (by omega), yB (83 + 4) k (by omega) (by omega) (by omega) (by omega), yB (83 + 5) k (by omega) (by omega) (by omega) (by omega)]
          exact w1 k hk
        · unfold SimS
          rw [y29, y29, y29, y29, y29, y29, yB 83 0 (by omega) (by omega) (by omega) (by omega), yB 83 1 (by omega) (by omega) (by omega) (by omega), yB 83 2 (by omega) (by omega) (by omega) (by omega), yB 83 3 (by omega) (by omega) (by omega) (by omega), yB 83 4 (by omega) (by omega) (by omega) (by omega), yB 83 5 (by omega) (by omega) (by omega) (by omega)]
          exact w2
        · rw [yO (29 + 7) k (by omega) (by omega) (by omega) (fun h _ => by omega), yO (29 + 8) k (by omega) (by omega) (by omega) (fun h _ => by omega), yB 72 k (by omega) (by omega) (by omega) (by omega), yB 73 k (by omega) (by omega) (by omega) (by omega)]
          exact w3 k hk
        · rw [yO (29 + 4) k (by omega) (by omega) (by omega) (fun h _ => by omega), yO (29 + 5) k (by omega) (by omega) (by omega) (fun h _ => by omega), yO (29 + 6) k (by omega) (by omega) (by omega) (fun h _ => by omega)]
          exact w4 k hk
        · rw [y29]; exact w5
        · rw [y29]; rfl
        · rw [yA q 2 (by omega) (by omega) (fun h _ => by omega)]; exact hpl
        · exact yA (q + 1) c (by omega) (by omega) (fun h _ => by omega)
        · exact yA (q + 2) c (by omega) (by omega) (fun h _ => by omega)
        · rw [y29]; rfl
        · obtain ⟨m1, m2, m3, m4⟩ := a3 g (by omega) hg
          obtain ⟨n1, n2, n3, n4⟩ := b6 g hg
          obtain ⟨a, b, x, y, v1, v2, v3, v4, v5, v6, v7, v8, v9⟩ := k2 g hg
          have z0 : emA2 q many (tlA A') (q + 4) g = nI x := by unfold emA2; rw [wr_r (by omega), wr_r (by omega), tlA_o (by omega)]; exact v2
          have z1 : emA2 q many (tlA A') (q + 5) g = nI y := by unfold emA2; rw [wr_r (by omega), wr_r (by omega), tlA_o (by omega)]; exact v3
          have z2 : emA2 q many (tlA A') (q + 3) g = nI a := by unfold emA2; rw [wr_r (by omega), wr_r (by omega), tlA_o (by omega)]; exact v1
          have z3 : B2 89 (10 * g) = nI x := by rw [n1, wr_r (by decide), wr_r (by decide)]; exact v5
          have z4 : B2 89 (10 * g + 1) = nI y := by rw [n2, wr_r (by decide), wr_r (by decide)]; exact v6
          have z5 : B2 89 (10 * g + 4) = nI b := by rw [n3, wr_r (by decide), wr_r (by decide)]; exact v4
          have zq : ∀ c, wr A2 0 6 (nI (p + 1)) (29 + 10 + 2 * g) c = A2 (39 + 2 * g) c := fun c => wr_r (by omega)
          refine ⟨?_, ?_, a, b, [], ?_, z5, ⟨v9, fun d hd => absurd hd List.not_mem_nil⟩, trivial⟩
          · unfold SimG
            show _ = B2 89 (10 * g) ∧ _ = B2 89 (10 * g + 1) ∧ _ = B2 89 (10 * g + 2) ∧ _ = B2 89 (10 * g + 3) ∧ _ = B2 89 (10 * g + 5) ∧ _ = B2 89 (10 * g + 6) ∧ _ = B2 89 (10 * g + 7) ∧ _ = B2 89 (10 * g + 8) ∧ _ = B2 89 (10 * g + 9)
            rw [zq, zq, zq, zq, zq, zq, zq, zq, zq, m1, m2, m4 2 (by omega) (by omega), m4 3 (by omega) (by omega), m4 4 (by omega) (by omega), m4 5 (by omega) (by omega), m4 6 (by omega) (by omega), m4 7 (by omega) (by omega), m4 8 (by omega) (by omega), z0, z1, z3, z4, n4 2 (by omega) (by omega) (by omega) (by omega), n4 3 (by omega) (by omega) (by omega) (by omega), n4 5 (by omega) (by omega) (by omega) (by omega), n4 6 (by omega) (by omega) (by omega) (by omega), n4 7 (by omega) (by omega) (by omega) (by omega), n4 8 (by omega) (by omega) (by omega) (by omega), n4 9 (by omega) (by omega) (by omega) (by omega)]
            exact ⟨rfl, rfl, rfl, rfl, rfl, rfl, rfl, rfl, rfl⟩
          · unfold InvG
            rw [zq, zq, zq, zq, m1, m2, m4 2 (by omega) (by omega), m4 4 (by omega) (by omega), z0, z1, i_nI (by omega), i_nI (by omega)]
            exact ⟨by omega, by omega, ⟨by decide, by decide⟩, Or.inl rfl⟩
          · rw [zq, m3, z2]
        · rw [wr_at]
        · rw [y29]; exact r4
        · rw [wr_col (by decide), xA 0 1 (by decide) (fun h _ => by omega)]; unfold tlA; rw [wr_col (by decide), wr_at]; rfl
        · rw [b3 2 (by decide), wr_col (by decide), wr_at]; rfl
        · rw [wr_col (by decide), xA 0 3 (by decide) (fun h _ => by omega), tlA_o (by omega), s4 0 3 (by omega) (by omega)]; exact d2
        · rw [yB9 5 (by decide) (by decide) (by decide), s5 69 5 (by omega) (by omega)]; exact d3
        · rw [yA 2 k (by omega) (by omega) (fun h _ => by omega), s4 2 k (by omega) (by omega), yB 71 k (by omega) (by omega) (by omega) (by omega)]; exact d4 k hk
        · rw [yO 36 k (by omega) (by omega) (by omega) (fun h _ => by omega), yO 37 k (by omega) (by omega) (by omega) (fun h _ => by omega)]; exact r5 k hk
        · rw [wr_col (by decide), xA 0 4 (by decide) (fun h _ => by omega), b3 3 (by decide), wr_at]; unfold tlA; rw [wr_at, e6, hfa]
      · rw [wr_r (by omega), xA r c (by omega) (fun h _ => by omega), tlA_o (by omega), s4 r c (by omega) (by omega)]
      · rw [b2 r (by omega) (by omega) (by omega), wr_r (by omega), wr_r (by omega), s5 r c (by omega) (by omega)]
    · have h5 : A' 3 5 ≠ 0 := by rw [e5]; exact z
      have f6 : B' 69 21 = fa := gB.2.2.2.2.2.2.2 z
      have c1 := teachA_no q1 q2 t2 s1 h5
      have c2 := teachB_no s2 s3 (by rw [f5]; exact z)
      rw [e5] at c1
      rw [f5] at c2
      refine ⟨ea, _, _, c1, c2, ?_, fun r hr => funext fun c => ?_, fun r hr => funext fun c => ?_⟩
      · refine hh.no q1 q2 (fun r c h1 h2 => by rw [tlA_o (by omega), s4 r c (by omega) h2]) (fun c => by rw [tlA_o (by omega), s4 2 c (by omega) (by omega)]) (fun r c h1 h2 => ?_) ⟨?_, ?_⟩ ⟨?_, ?_⟩ ?_ ?_ ?_
        · rw [wr_r h1, wr_r h1, s5 r c (by omega) h2]
        · rw [wr_col (by decide), wr_col (by decide), s5 69 9 (by omega) (by omega)]
        · rw [wr_col (by decide), wr_col (by decide), s5 69 5 (by omega) (by omega)]
        · rw [tlA_o (by omega), s4 0 6 (by omega) (by omega)]
        · rw [tlA_o (by omega), s4 0 3 (by omega) (by omega)]
        · unfold tlA; rw [wr_col (by decide), wr_at]
        · rw [wr_col (by decide), wr_at]
        · rw [wr_at]; unfold tlA; rw [wr_at, e6, f6]
      · rw [tlA_o (by omega), s4 r c (by omega) (by omega)]
      · rw [wr_r (by omega), wr_r (by omega), s5 r c (by omega) (by omega)]
