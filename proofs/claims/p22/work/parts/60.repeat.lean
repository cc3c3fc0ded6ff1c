/-! needs 30 31 32 39 50 51 52 53 54 55 56 57 58 59 60 61 -/
section RP
variable {T : Nat → Int32} {L N p i d la sb s : Nat} {ea fa : Int32} {e : List Nat} {A B : Mm} {RA RB : Rc}
def lmE (v k ea : Int32) : Int32 := if v ≤ k then ea else if ea = 0 then 3 else ea
def lmF (v k ea fa : Int32) (st : Nat) : Int32 := if v ≤ k then fa else if ea = 0 then nI st else fa
theorem limN {k : Int32} (h : AtA T L N p i la ea fa A) (ht : tk T L i ≠ 48) : f_X4_limitedNumber 3 k A = some (0, rfA A (tst T L i)) := by
  rw [f_X4_limitedNumber, h.expN (c := 1049) (u := 48) rfl (by omega) ht, bd2_e, if_pos rfl]
theorem noteA {c : Int32} {j : Nat} (hc : c ≠ 0) (h : AtA T L N p i la ea fa A) (hj : j ≤ N) : ∃ A', f_X4_note 3 c (nI j) A = some A' ∧ AtA T L N p i la (if ea = 0 then c else ea) (if ea = 0 then nI (tst T L j) else fa) A' ∧ FrA p la A A' := by
  have hp := h.1.2.2.2
  rw [f_X4_note, h.2.2.2.2.1]
  by_cases z : ea = 0
  · rw [if_pos z, if_pos z, if_pos z]
    have f1 : FrA0 p la A (wr A 3 5 c) := FrA0.w3 (by omega)
    have s1 : f_X6_startOf (3 + 1) (nI j) (wr A 3 5 c) = _ := startA (h.1.fr0 f1) hj
    simp only [lz_e]
    rw [s1, bd1_e]
    refine ⟨_, rfl, ⟨(h.1.fr0 f1).fr0 (FrA0.w3 (la := la) (by omega)), h.2.1, ?_, ?_, ?_, wr_at _ _ _ _⟩, f1.trans (FrA0.w3 (by omega)) (Nat.le_refl _), fun _ x => ?_⟩
    · rw [wr_col (by decide), wr_col (by decide)]; exact h.2.2.1
    · rw [wr_ne (by omega), wr_ne (by omega)]; exact h.2.2.2.1
    · rw [wr_col (by decide), wr_at]
    · rw [wr_col (by decide), wr_at] at x; exact absurd x hc
  · rw [if_neg z, if_neg z, if_neg z]
    exact ⟨A, rfl, h, FrA.refl _ _ _⟩
theorem limY {k : Int32} (h : AtA T L N p i la ea fa A) (ht : tk T L i = 48) : ∃ A', f_X4_limitedNumber 3 k A = some (1, A') ∧ AtA T L N p (i + 1) la (lmE (isB T L (tst T L i) 48) k ea) (lmF (isB T L (tst T L i) 48) k ea fa (tst T L i)) A' ∧ FrA p la A A' := by
  have n1 := h.next (by omega)
  have f1 := nxA_fr p la A i
  rw [f_X4_limitedNumber, h.expY (c := 1049) (u := 48) rfl (by omega) ht, bd2_e, if_neg (show ¬ (1 : Int32) = 0 by decide), h.2.2.1, show (3 + 1 : Nat) = 4 from rfl, numA n1.1 h.2.1 ht, bd1_e]
  unfold lmE lmF
  by_cases z : isB T L (tst T L i) 48 ≤ k
  · rw [if_pos z, if_pos z, if_pos z, bd1_e]
    exact ⟨_, rfl, n1, f1⟩
  · obtain ⟨A', e1, e2, e3⟩ := noteA (c := 3) (by decide) n1 h.2.1
    rw [if_neg z, if_neg z, if_neg z, e1, bd1_e, bd1_e]
    exact ⟨A', rfl, e2, f1.trans e3 (Nat.le_refl _)⟩
theorem faultB {c : Int32} (hc : c ≠ 0) (h : AtB T L i d sb s ea fa B) : ∃ B', f_X11_fault 69 c B = some B' ∧ AtB T L i d sb s (if ea = 0 then c else ea) (if ea = 0 then nI (tst T L i) else fa) B' ∧ (∀ r j, ¬ (r = 69 ∧ (j = 20 ∨ j = 21)) → B' r j = B r j) := by
  have h20 := h.2.2.2.2.2.2.1
  rw [f_X11_fault, h20]
  by_cases z : ea = 0
  · rw [if_pos z, if_pos z, if_pos z]
    simp only [lz_e]
    refine ⟨_, rfl, ?_, fun r j hr => by rw [wr_o (by omega), wr_o (by omega)]⟩
    refine h.chg (fun r k h1 h2 => by rw [wr_o (by omega), wr_o (by omega)]) ?_ ?_ ?_ ?_ (fun _ => ?_)
    · rw [wr_col (by decide), wr_col (by decide)]; exact h.2.2.2.1
    · rw [wr_col (by decide), wr_col (by decide)]; exact h.2.2.2.2.1
    · rw [wr_col (by decide), wr_col (by decide)]; exact h.2.2.2.2.2.1
    · rw [wr_col (by decide), wr_at]
    · rw [wr_at, wr_col (by decide), h.st]
  · rw [if_neg z, if_neg z, if_neg z]
    exact ⟨B, rfl, h, fun _ _ _ => rfl⟩
theorem limB {k : Int32} {c : Prop} {dc : Decidable c} (h : AtB T L i d sb s ea fa B) (hc : c ↔ isB T L (tst T L i) 48 ≤ k) : ∃ B', (if c then some B else bd1 (f_X11_fault 69 3 B) fun M => some M) = some B' ∧ AtB T L i d sb s (lmE (isB T L (tst T L i) 48) k ea) (lmF (isB T L (tst T L i) 48) k ea fa (tst T L i)) B' ∧ (∀ r j, ¬ (r = 69 ∧ (j = 20 ∨ j = 21)) → B' r j = B r j) := by
  unfold lmE lmF
  by_cases z : c
  · rw [if_pos z, if_pos (hc.mp z), if_pos (hc.mp z)]
    exact ⟨B, rfl, h, fun _ _ _ => rfl⟩
  · have z' := fun x => z (hc.mpr x)
    obtain ⟨B', e1, e2, e3⟩ := faultB (c := 3) (by decide) h
    rw [if_neg z, if_neg z', if_neg z', e1, bd1_e]
    exact ⟨B', rfl, e2, e3⟩
theorem frB_2 {B' : Mm} (h : ∀ r j, ¬ (r = 69 ∧ (j = 20 ∨ j = 21)) → B' r j = B r j) : FrB sb B B' := fun r c h1 _ => h r c (by omega)
theorem repeat_ok (hi0 : tk T L i = 10) (hA : AtA T L N p i la ea fa A) (hB : AtB T L (i + 1) d sb e.length ea fa B) (hl : la + 10 ≤ 2 * i) (hs : sb ≤ 4 * i) (hd : d ≤ 8) (he1 : e.length < d) (he2 : ∀ x, x ∈ e → x < d) (hb : BW T L N p d (fun M => RA 0 3 (nI d) M) (fun M => RB 0 69 0 M)) : ∃ x A' B', f_X4_countedLoop RA 3 (nI d) A = some (x, A') ∧ f_X11_repeat RB 69 B = some (x, B') ∧ SPost T L N p i d la sb e A B x A' B' := by
  have hi := hA.le
  have hp := hA.1.2.2.2
  have nA := hA.next (by omega)
  have hi1 := nA.le
  have hk := kdB_n (tk_le T L (i + 1)).1
  rw [f_X4_countedLoop, hA.nx, lz_e, f_X11_repeat, hB.kd]
  by_cases t1 : tk T L (i + 1) = 48
  · obtain ⟨A4, a1, a2, a3⟩ := limY (k := 20) nA t1
    have hi2 := a2.le
    have e16 : B 69 16 = isB T L (tst T L (i + 1)) 48 := by rw [hB.is (by omega), t1]
    obtain ⟨B0, b1, b2, b3⟩ := limB (k := 20) (c := B 69 16 ≤ 20) (dc := by infer_instance) hB (by rw [e16])
    generalize hE : lmE (isB T L (tst T L (i + 1)) 48) 20 ea = eb at a2 b2
    generalize hF : lmF (isB T L (tst T L (i + 1)) 48) 20 ea fa (tst T L (i + 1)) = fb at a2 b2
    generalize hv : isB T L (tst T L (i + 1)) 48 = v at *
    obtain ⟨m1, m2⟩ := a2.emit (by omega) 0 v
    obtain ⟨m3, m4⟩ := m2.emit (by omega) 36 (nI d)
    obtain ⟨m5, m6⟩ := m4.emit (by omega) 0 (nI d)
    obtain ⟨m7, m8⟩ := m6.emit (by omega) 37 0
    obtain ⟨q1, q2⟩ := b2.put (by omega) 42
    have e18 : puB sb 42 B0 69 18 = nI e.length := q2.2.2.2.2.2.1
    obtain ⟨q3, q4⟩ := q2.put (by omega) (nI e.length)
    have e16' : puB (sb + 1) (nI e.length) (puB sb 42 B0) 69 16 = v := by
      rw [q4.is (by omega), t1, hv]
    obtain ⟨q5, q6⟩ := q4.put (by omega) v
    obtain ⟨B1, r1, r2, r3⟩ := q6.adv (by omega) (by omega)
    have e11 : B1 69 11 = nI (sb + 1 + 1 + 1) := r2.2.2.2.1
    obtain ⟨s1, s2⟩ := r2.put (by omega) 43
    have e18' : puB (sb + 1 + 1 + 1) 43 B1 69 18 = nI e.length := s2.2.2.2.2.2.1
    obtain ⟨s3, s4⟩ := s2.put (by omega) (nI e.length)
    obtain ⟨s5, s6⟩ := s4.put (by omega) 0
    have e18'' := s6.2.2.2.2.2.1
    have s7 := s6.slo (s' := (d :: e).length)
    have fA : FrA p la A (emA p (la + 1 + 1 + 1) 37 0 (emA p (la + 1 + 1) 0 (nI d) (emA p (la + 1) 36 (nI d) (emA p la 0 v A4)))) := (((((nxA_fr p la A i).trans a3 (Nat.le_refl _)).trans (emA_fr p la 0 v A4) (Nat.le_refl _)).trans (emA_fr p (la + 1) 36 (nI d) _) (by omega)).trans (emA_fr p (la + 1 + 1) 0 (nI d) _) (by omega)).trans (emA_fr p (la + 1 + 1 + 1) 37 0 _) (by omega)
    have fB1 : FrB sb B B1 := ((((frB_2 b3).trans (puB_fr sb 42 B0) (Nat.le_refl _)).trans (puB_fr (sb + 1) (nI e.length) _) (by omega)).trans (puB_fr (sb + 1 + 1) v _) (by omega)).trans r3.frB (Nat.le_refl sb)
    have fB2 : FrB (sb + 1 + 1 + 1) B1 (wr (puB (sb + 1 + 1 + 1 + 1 + 1) 0 (puB (sb + 1 + 1 + 1 + 1) (nI e.length) (puB (sb + 1 + 1 + 1) 43 B1))) 69 18 (nI (d :: e).length)) := (((puB_fr (sb + 1 + 1 + 1) 43 B1).trans (puB_fr (sb + 1 + 1 + 1 + 1) (nI e.length) _) (by omega)).trans (puB_fr (sb + 1 + 1 + 1 + 1 + 1) 0 _) (by omega)).trans (FrB.w69 (sb := sb + 1 + 1 + 1) (by omega)) (Nat.le_refl _)
    obtain ⟨x, A2, B2, d1, d2, d3, d4, d5⟩ := hb (i + 1 + 1) (la + 1 + 1 + 1 + 1) (sb + 1 + 1 + 1 + 1 + 1 + 1) (d :: e) eb fb _ _ m8 s7 (by omega) (by omega) (by show e.length + 1 ≤ d; omega) (fun x hx => by
      rcases List.mem_cons.mp hx with rfl | hx
      · exact Nat.le_refl _
      · exact Nat.le_of_lt (he2 x hx))
    have d1' : RA 0 3 (nI d) (emA p (la + 1 + 1 + 1) 37 0 (emA p (la + 1 + 1) 0 (nI d) (emA p (la + 1) 36 (nI d) (emA p la 0 v A4)))) = some (x, A2) := d1
    have d2' : RB 0 69 0 (wr (puB (sb + 1 + 1 + 1 + 1 + 1) 0 (puB (sb + 1 + 1 + 1 + 1) (nI e.length) (puB (sb + 1 + 1 + 1) 43 B1))) 69 18 (nI (d :: e).length)) = some (x, B2) := d2
    have f3 := fA.trans d3 (by omega)
    have f4 := (fB1.trans fB2 (by omega)).trans d4 (by omega)
    have w1 : nxA A i 3 4 = nI (i + 1) := nA.2.2.1
    have w2 : emA p (la + 1) 36 (nI d) (emA p la 0 v A4) p 2 = nI (la + 1 + 1) := m4.2.2.2.1
    have w3 : emA p (la + 1 + 1) 0 (nI d) (emA p (la + 1) 36 (nI d) (emA p la 0 v A4)) p 2 = nI (la + 1 + 1 + 1) := m6.2.2.2.1
    rw [a1, bd2_e, if_neg (show ¬ (1 : Int32) = 0 by decide), w1, show (3 + 1 : Nat) = 4 from rfl, numA a2.1 (show i + 1 ≤ N from nA.2.1) t1, hv, bd1_e, if_pos a2.okp, a2.ridp, m1, bd2_e, if_pos m2.okp, m2.ridp, m3, bd2_e, if_pos m4.okp, if_pos m4.okp, m4.ridp, m5, bd2_e, if_pos m6.okp, if_pos m6.okp, m6.ridp, m7, bd2_e, d1', bd2_e, w2, w3, if_pos (hk.2.2.1.mpr t1), b1, bd1_e, q1, bd1_e, e18, q3, bd1_e, e16', q5, bd1_e, r1, bd1_e, s1, bd1_e, e18', s3, bd1_e, s5, bd1_e, e18'', n_suc, lz_e, show nI (e.length + 1) = nI (d :: e).length from rfl, d2', bd2_e, e11]
    rcases d5 with ⟨rfl, hf⟩ | ⟨rfl, i2, la2, sb2, ea2, fa2, P, j1, j2, j3, j4, j5, j6, j7, j8⟩
    · exact ⟨0, A2, B2, if_pos rfl, if_pos rfl, f3, f4, Or.inl ⟨rfl, hf⟩⟩
    · have hi3 := j2.le
      obtain ⟨x1, x2⟩ := j2.emit (by omega) 38 (nI (la + 1 + 1))
      have x3 := x2.lead (q := la + 1 + 1 + 1) (by omega) (by omega)
      have y0 := j3.slo (s' := e.length)
      obtain ⟨y1, y2⟩ := y0.put (by omega) 41
      obtain ⟨y3, y4⟩ := y2.put (by omega) (nI (sb + 1 + 1 + 1))
      have y5 : B2 69 18 - 1 = nI e.length := by
        rw [j3.2.2.2.2.2.1]; exact n_sub (a := e.length + 1) (b := 1) (by omega) (by omega)
      refine ⟨1, wr (emA p la2 38 (nI (la + 1 + 1)) A2) (p + 2) (la + 1 + 1 + 1) (nI (la2 + 1)), wr (puB (sb2 + 1) (nI (sb + 1 + 1 + 1)) (puB sb2 41 (wr B2 69 18 (nI e.length)))) 75 (sb + 1 + 1 + 1 + 2) (nI (sb2 + 1 + 1)), ?_, ?_, ?_, ?_, Or.inr ⟨rfl, i2, la2 + 1, sb2 + 1 + 1, ea2, fa2, PO (PO (P1 la sb e) (P1 (la + 2) (sb + 3) (d :: e))) (PO P (P1 la2 sb2 (d :: e))), by omega, x2.pat _ _, y4.pat _ _, by omega, by omega, by omega, by omega, ?_⟩⟩
      · rw [if_neg (show ¬ (1 : Int32) = 0 by decide), if_pos j2.okp, j2.ridp, x1, bd2_e, if_pos x2.okp, x2.ridp, x3, bd1_e]
      · rw [if_neg (show ¬ (1 : Int32) = 0 by decide), y5, lz_e, y1, bd1_e, y3, bd1_e, show nI (sb + 1 + 1 + 1) + 2 = nI (sb + 1 + 1 + 1 + 2) from n_add _ 2, if_pos (inN (show sb + 1 + 1 + 1 + 2 < 4000 by omega)), y4.2.2.2.1, ixn (by omega), lz_e]
      · exact (f3.trans (emA_fr _ _ _ _ _) (by omega)).trans (pat_frA (la + 1 + 1 + 1) _) (by omega)
      · exact (((f4.trans (FrB.w69 (sb := sb2) (by omega)) (by omega)).trans (puB_fr _ _ _) (by omega)).trans (puB_fr _ _ _) (by omega)).trans (pat_frB (sb + 1 + 1 + 1 + 2) _) (by omega)
      · intro oF rF cF len S k1 k2 k3 k4 k5 k6 k7
        have hS1 : S la sb e := k6 _ _ _ (Or.inl (Or.inl ⟨rfl, rfl, rfl⟩))
        have hS2 : S (la + 2) (sb + 3) (d :: e) := k6 _ _ _ (Or.inl (Or.inr ⟨rfl, rfl, rfl⟩))
        have hS3 : S la2 sb2 (d :: e) := k6 _ _ _ (Or.inr (Or.inr ⟨rfl, rfl, rfl⟩))
        -- the class's code
        have oA : ∀ j, la ≤ j → j < la2 → oF j = A2 (p + 1) j ∧ (j ≠ la + 3 → rF j = A2 (p + 2) j) := fun j a b => by
          have z := (emA_fr p la2 38 (nI (la + 1 + 1)) A2).op hp b
          constructor
          · rw [(k1 j a (by omega)).1, wr_ne (by omega), z.1]
          · intro hj
            rw [(k1 j a (by omega)).2, wr_col (by omega), z.2]
        have p0 := emA_op p la 0 v A4
        have p1 := emA_op p (la + 1) 36 (nI d) (emA p la 0 v A4)
        have p2 := emA_op p (la + 1 + 1) 0 (nI d) (emA p (la + 1) 36 (nI d) (emA p la 0 v A4))
        have p3 := emA_op p (la + 1 + 1 + 1) 37 0 (emA p (la + 1 + 1) 0 (nI d) (emA p (la + 1) 36 (nI d) (emA p la 0 v A4)))
        have f01 := emA_fr p (la + 1) 36 (nI d) (emA p la 0 v A4)
        have f12 := emA_fr p (la + 1 + 1) 0 (nI d) (emA p (la + 1) 36 (nI d) (emA p la 0 v A4))
        have f23 := emA_fr p (la + 1 + 1 + 1) 37 0 (emA p (la + 1 + 1) 0 (nI d) (emA p (la + 1) 36 (nI d) (emA p la 0 v A4)))
        have c0 : oF la = 0 ∧ rF la = v := by
          rw [(oA la (by omega) (by omega)).1, (oA la (by omega) (by omega)).2 (by omega), (d3.op hp (by omega)).1, (d3.op hp (by omega)).2, (f23.op hp (by omega)).1, (f23.op hp (by omega)).2, (f12.op hp (by omega)).1, (f12.op hp (by omega)).2, (f01.op hp (by omega)).1, (f01.op hp (by omega)).2]
          exact ⟨p0.1, p0.2.1⟩
        have c1 : oF (la + 1) = 36 ∧ rF (la + 1) = nI d := by
          rw [(oA (la + 1) (by omega) (by omega)).1, (oA (la + 1) (by omega) (by omega)).2 (by omega), (d3.op hp (by omega)).1, (d3.op hp (by omega)).2, (f23.op hp (by omega)).1, (f23.op hp (by omega)).2, (f12.op hp (by omega)).1, (f12.op hp (by omega)).2]
          exact ⟨p1.1, p1.2.1⟩
        have c2 : oF (la + 2) = 0 ∧ rF (la + 2) = nI d := by
          rw [(oA (la + 2) (by omega) (by omega)).1, (oA (la + 2) (by omega) (by omega)).2 (by omega), (d3.op hp (by omega)).1, (d3.op hp (by omega)).2, (f23.op hp (by omega)).1, (f23.op hp (by omega)).2]
          exact ⟨p2.1, p2.2.1⟩
        have c3 : oF (la + 3) = 37 ∧ rF (la + 3) = nI (la2 + 1) := by
          rw [(oA (la + 3) (by omega) (by omega)).1, (d3.op hp (by omega)).1, (k1 (la + 3) (by omega) (by omega)).2]
          exact ⟨p3.1, wr_at _ _ _ _⟩
        have c4 : oF la2 = 38 ∧ rF la2 = nI (la + 2) := by
          rw [(k1 la2 (by omega) (by omega)).1, (k1 la2 (by omega) (by omega)).2, wr_ne (by omega), wr_col (by omega), (emA_op p la2 38 (nI (la + 1 + 1)) A2).1, (emA_op p la2 38 (nI (la + 1 + 1)) A2).2.1]
          exact ⟨rfl, rfl⟩
        -- the reference's code
        have g0 : ∀ j, sb ≤ j → j < sb2 → j ≠ sb + 5 → cF j = B2 75 j := fun j a b c => by
          rw [k2 j a (by omega), wr_col (by omega), puB_o (by omega) (by omega), puB_o (by omega) (by omega), wr_ne (by decide)]
        have h0 : ∀ j, j < sb + 3 → B2 75 j = puB (sb + 1 + 1) v (puB (sb + 1) (nI e.length) (puB sb 42 B0)) 75 j := fun j hj => by
          rw [d4.at (by omega), fB2.at (by omega), r3.row (by decide)]
        have u0 : cF sb = 42 := by
          rw [g0 _ (by omega) (by omega) (by omega), h0 _ (by omega), puB_o (by omega) (by omega), puB_o (by omega) (by omega), puB_at]
        have u1 : cF (sb + 1) = nI e.length := by
          rw [g0 _ (by omega) (by omega) (by omega), h0 _ (by omega), puB_o (by omega) (by omega), puB_at]
        have u2 : cF (sb + 2) = v := by
          rw [g0 _ (by omega) (by omega) (by omega), h0 _ (by omega), puB_at]
        have u3 : cF (sb + 3) = 43 := by
          rw [g0 _ (by omega) (by omega) (by omega), d4.at (by omega), wr_ne (by decide), puB_o (by omega) (by omega), puB_o (by omega) (by omega), puB_at]
        have u4 : cF (sb + 4) = nI e.length := by
          rw [g0 _ (by omega) (by omega) (by omega), d4.at (by omega), wr_ne (by decide), puB_o (by omega) (by omega), puB_at]
        have u5 : cF (sb + 5) = nI (sb2 + 2) := by rw [k2 _ (by omega) (by omega), wr_at]
        have u6 : cF sb2 = 41 := by rw [k2 _ (by omega) (by omega), wr_col (by omega), puB_o (by omega) (by omega), puB_at]
        have u7 : cF (sb2 + 1) = nI (sb + 3) := by rw [k2 _ (by omega) (by omega), wr_col (by omega), puB_at]
        obtain ⟨h1, h2⟩ := j8 oF rF cF len S (fun j a b => ⟨(oA j (by omega) b).1, (oA j (by omega) b).2 (by omega)⟩) (fun j a b => g0 j (by omega) b (by omega)) (by omega) k4 (by omega) (fun a b f hf => k6 a b f (Or.inr (Or.inl hf))) hS3
        have hde : ¬ d ∈ e := fun h => by have := he2 d h; omega
        have rk2 : rk oF (la + 2) = 0 := by
          unfold rk
          rw [if_neg]
          rintro (h | ⟨-, h⟩)
          · rw [c2.1] at h; exact absurd h (by decide)
          · rw [c3.1] at h; exact absurd h (by decide)
        refine ⟨hS1, fun a b f hf => ?_⟩
        rcases hf with (⟨rfl, rfl, rfl⟩ | ⟨rfl, rfl, rfl⟩) | (hf | ⟨rfl, rfl, rfl⟩)
        · refine ⟨Or.inr (Or.inr (Or.inl ⟨by omega, by omega, c0.1, c1.1, u0, d, c1.2, by omega, hde, by omega, u1, u2.trans c0.2.symm, hS2, ?_⟩)), by omega⟩
          rw [rk2]
          unfold rk
          rw [if_pos (Or.inr ⟨c0.1, c1.1⟩)]; omega
        · exact ⟨Or.inr (Or.inr (Or.inr (Or.inl ⟨by omega, by omega, c2.1, c3.1, u3, d, e, rfl, c2.2, by omega, hde, by omega, u4, h1, la2 + 1, sb2 + 2, c3.2, u5, k7⟩))), by show e.length + 1 ≤ 8; omega⟩
        · exact h2 a b f hf
        · refine ⟨Or.inr (Or.inl ⟨by omega, by omega, c4.1, u6, la + 2, sb + 3, c4.2, u7, hS2, ?_⟩), by show e.length + 1 ≤ 8; omega⟩
          rw [rk2, rk_38 c4.1]; omega
  · refine ⟨0, rfA (nxA A i) (tst T L (i + 1)), B, ?_, ?_, (nxA_fr p la A i).trans (rfA_fr _ _ _ _) (Nat.le_refl _), FrB.refl _ _, Or.inl ⟨rfl, fail_at nA hB⟩⟩
    · rw [limN nA t1, bd2_e, if_pos rfl]
    · rw [if_neg (fun h => t1 (hk.2.2.1.mp h))]
end RP
