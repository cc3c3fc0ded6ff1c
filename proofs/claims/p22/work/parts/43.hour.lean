/-! needs 30 31 32 33 34 35 36 37 38 39 40 41 42 -/
section ST
variable {w b q g s p len a bb c : Nat} {oA rA cB : Nat → Int32} {S : PS} {e : List Nat} {A B : Mm}
theorem step (hcl : ∀ a b e, S a b e → Lpt oA rA cB len S a b e) (h : GR w b q g s p len oA rA cB S a A B) (hc4 : A w 4 = nI c) (hc50 : c ≤ 50) : StepOK w b q g s p len oA rA cB S c a A B := by
  obtain ⟨hR, hI, hP, hc, hpa, bb, e, hpb, hS, hRep⟩ := h
  rcases hcl a bb e hS with ⟨h1, h2, h3, h4⟩ | ⟨h1, h2, h3, h4, a', b', h5, h6, h7, h8⟩ | ⟨h1, h2, h3, h4, h5, d, h6, h7, h8, h9, k1, k2, k3, k4⟩ | ⟨h1, h2, h3, h4, h5, d, e0, h6, h7, h8, h9, k1, k2, k3, a', b', k4, k5, k6⟩ | ⟨n, a1, b1, t, h1, h2, h3, h4, h5, h6, h7, a', b', h8, h9, k1⟩ | ⟨n, a1, b1, m, a2, b2, t, u, h1, h2, h3, h4, h5, h6, h7, h8, h9⟩ | ⟨n, a1, b1, t, x, y, h0, h1, h2, h3, h4, h5, h6, h7⟩ | ⟨x, y, h0, h1, h2, h3, h4, h5⟩
  · exact step_end hR hI hP hc hpa hpb hS hRep h1 h2 h3 h4
  · exact step_jump hR hI hP hc hpa hpb hRep hc4 hc50 h1 h2 h3 h4 h5 h6 h7 h8
  · exact step_init hR hI hP hc hpa hpb hRep hc4 hc50 h1 h2 h3 h4 h5 h6 h7 h8 h9 k1 k2 k3 k4
  · exact step_again hR hI hP hc hpa hpb hS hRep hc4 hc50 h1 h2 h3 h4 h5 h6 h7 h8 h9 k1 k2 k3 k4 k5 k6
  · exact step_test hR hI hP hc hpa hpb hS hRep hc4 hc50 h1 h2 h3 h4 h5 h6 h7 h8 h9 k1
  · exact step_go hR hI hP hc hpa hpb hS hRep hc4 hc50 h1 h2 h3 h4 h5 h6 h7 h8 h9
  · exact step_sum hR hI hP hc hpa hpb hS hRep h0 h1 h2 h3 h4 h5 h6 h7
  · exact step_plain hR hI hP hc hpa hpb hS hRep h0 h1 h2 h3 h4 h5
theorem over_end {n i : Nat} (M : Mm) : f_X8_workHour_L51 w q (n + 1) 1 (nI i) M = some M := by
  rw [f_X8_workHour_L51]
  by_cases h : (1000000 : Int32) ≤ nI i
  · rw [if_pos h]
  · rw [if_neg h, if_neg (show ¬ (1 : Int32) = 0 by decide)]
theorem loop_run (hcl : ∀ a b e, S a b e → Lpt oA rA cB len S a b e) : ∀ (m c a : Nat) (A B : Mm), GR w b q g s p len oA rA cB S a A B → A w 4 = nI c → c ≤ 50 → (50 - c) * 1000 + rk oA a ≤ m →
    ∃ A' B' a', (∀ n i, i + m < 999999 → f_X8_workHour_L51 w q (n + m + 2) 0 (nI i) A = some A') ∧ (∀ k, f_X11_work_L47 69 s (nI g) (nI (10 * g)) (k + m + 1) (nI c) B = some B') ∧ GR w b q g s p len oA rA cB S a' A' B' ∧ EfA w b q A A' ∧ EfB s g B B' := by
  intro m
  induction m with
  | zero =>
    intro c a A B h h4 h50 hm
    rcases step hcl h h4 h50 with ⟨at_, A1, A', B', a', k1, k2, k3, k4, k5, k6⟩ | ⟨at_, A1, A', B', a', c', k1, k2, k3, k4, k5, k6, k7, k8, k9⟩
    · refine ⟨A', B', a', fun n i hi => ?_, fun k => k3 _, k4, k5, k6⟩
      rw [f_X8_workHour_L51, if_neg (by rw [i_le, i_nI (by omega)]; show ¬ (1000000 : Int) ≤ (i : Int); omega), if_pos rfl, k1, bd2_e, k2, bd2_e, n_suc, lz_e, over_end]
    · omega
  | succ m ih =>
    intro c a A B h h4 h50 hm
    rcases step hcl h h4 h50 with ⟨at_, A1, A', B', a', k1, k2, k3, k4, k5, k6⟩ | ⟨at_, A1, A2, B2, a2, c2, k1, k2, k3, k4, k5, k6, k7, k8, k9⟩
    · refine ⟨A', B', a', fun n i hi => ?_, fun k => k3 _, k4, k5, k6⟩
      rw [show n + (m + 1) + 2 = (n + m + 1 + 1) + 1 by omega, f_X8_workHour_L51, if_neg (by rw [i_le, i_nI (by omega)]; show ¬ (1000000 : Int) ≤ (i : Int); omega), if_pos rfl, k1, bd2_e, k2, bd2_e, n_suc, lz_e, over_end]
    · obtain ⟨A', B', a', j1, j2, j3, j4, j5⟩ := ih c2 a2 A2 B2 k4 k7 k8 (Nat.le_of_lt_succ (Nat.lt_of_lt_of_le k9 hm))
      refine ⟨A', B', a', fun n i hi => ?_, fun k => ?_, j3, k5.trans j4, k6.trans j5⟩
      · rw [show n + (m + 1) + 2 = (n + m + 1 + 1) + 1 by omega, f_X8_workHour_L51, if_neg (by rw [i_le, i_nI (by omega)]; show ¬ (1000000 : Int) ≤ (i : Int); omega), if_pos rfl, k1, bd2_e, k2, bd2_e, n_suc, lz_e]
        exact j1 n (i + 1) (by omega)
      · have h9 := (k3 (k + m + 1)).trans (j2 k)
        rw [show k + (m + 1) + 1 = (k + m + 1) + 1 by omega]
        exact h9
end ST
/-! all gangs of a bog -/
def Bgs (b s : Nat) (A B : Mm) : Prop := SimC b s A B ∧ SimS b s A B ∧ SimW b A B ∧ InvC b A ∧ 0 ≤ (A b 8).toInt
def Ga (b s g : Nat) (S : PS) (A B : Mm) : Prop := SimG (b + 10 + 2 * g) s g A B ∧ InvG (b + 10 + 2 * g) A ∧ ∃ a bb e, A (b + 10 + 2 * g) 9 = nI a ∧ B (s + 6) (10 * g + 4) = nI bb ∧ S a bb e ∧ Rep (b + 10 + 2 * g) s g e A B
/-- what an hour of a gang touches, the worker's row apart -/
def EfH (w b q : Nat) (A A' : Mm) : Prop := (∀ i, i ≠ w → i ≠ w + 1 → i ≠ b → i ≠ b + 1 → i ≠ b + 4 → i ≠ b + 5 → i ≠ b + 6 → i ≠ q → i ≠ q + 1 → A' i = A i) ∧ ∀ j, j ≠ 10 → j ≠ 11 → j ≠ 13 → A' b j = A b j
theorem EfA.h {w b q : Nat} {A A' : Mm} (h : EfA w b q A A') : EfH w b q A A' := ⟨h.1, h.2.1⟩
theorem EfH.trans {w b q : Nat} {A B C : Mm} (h : EfH w b q A B) (k : EfH w b q B C) : EfH w b q A C :=
  ⟨fun i h1 h2 h3 h4 h5 h6 h7 h8 h9 => (k.1 i h1 h2 h3 h4 h5 h6 h7 h8 h9).trans (h.1 i h1 h2 h3 h4 h5 h6 h7 h8 h9), fun j h1 h2 h3 => (k.2 j h1 h2 h3).trans (h.2 j h1 h2 h3)⟩
theorem GR.out {w b q g s p len a : Nat} {oA rA cB : Nat → Int32} {S : PS} {A B : Mm} (h : GR w b q g s p len oA rA cB S a A B) : Bgs b s A B ∧ Ga b s g S A B ∧ Prg b p len oA rA A ∧ B 74 = cB := by
  obtain ⟨⟨hA, hs, hC, hSS, hW, hG, hIg, hD⟩, hI, hP, hc, hpa, bb, e, h1, h2, h3⟩ := h
  have hq := hA.2.2.1
  subst hq
  exact ⟨⟨hC, hSS, hW, hI, hD⟩, ⟨hG, hIg, a, bb, e, hpa, h1, h2, h3⟩, hP, hc⟩
theorem Prg.efh {w b q p len : Nat} {oA rA : Nat → Int32} {A A' : Mm} (hP : Prg b p len oA rA A) (hw : Wb w b) (hq : b < q) (h : EfH w b q A A') : Prg b p len oA rA A' := by
  obtain ⟨p1, p2, p3, p4, p5, p6⟩ := hP
  unfold Wb at hw
  have ep : ∀ k, k ≤ 24 → A' k = A k := fun k hk => h.1 k (by omega) (by omega) (by omega) (by omega) (by omega) (by omega) (by omega) (by omega) (by omega)
  exact ⟨p1, by rw [h.2 16 (by decide) (by decide) (by decide)]; exact p2, by rw [ep p (by omega)]; exact p3, p4, by rw [ep (p + 1) (by omega)]; exact p5, by rw [ep (p + 2) (by omega)]; exact p6⟩
theorem hour_gang {w b g s p len : Nat} {oA rA cB : Nat → Int32} {S : PS} {A B : Mm} (hcl : ∀ a b e, S a b e → Lpt oA rA cB len S a b e) (hw : Wb w b) (hs : Ws s) (hg : g < 4) (hB : Bgs b s A B) (hP : Prg b p len oA rA A) (hc : B 74 = cB) (hG : Ga b s g S A B) :
    ∃ A' B', f_X8_workHour w (b + 10 + 2 * g) A = some A' ∧ f_X11_work 69 s (nI g) B = some B' ∧ Bgs b s A' B' ∧ Ga b s g S A' B' ∧ Prg b p len oA rA A' ∧ B' 74 = cB ∧ EfH w b (b + 10 + 2 * g) A A' ∧ EfB s g B B' := by
  obtain ⟨hC, hSS, hW, hI, hD⟩ := hB
  obtain ⟨hGs, hIg, a, bb, e, hpa, hpb, hS, hRep⟩ := hG
  have hw' := hw
  have hs' := hs
  unfold Wb at hw'
  unfold Ws at hs'
  obtain ⟨q, hq⟩ : ∃ q, q = b + 10 + 2 * g := ⟨_, rfl⟩
  rw [← hq] at hGs hIg hpa hRep ⊢
  obtain ⟨g0, g1, g2, g3, g5, g6, g7, g8, g9⟩ := hGs
  -- the gang comes to the worker, and its hour is counted
  generalize hA1 : wr (wr A w 1 (nI (q + 1))) q 7 (A q 7 + 1) = A1
  generalize hB1 : wr B (s + 6) (10 * g + 8) (B (s + 6) (10 * g + 8) + 1) = B1
  have dA : ∀ i, i ≠ w → i ≠ q → A1 i = A i := by intro i h1 h2; rw [← hA1, wr_ne h2, wr_ne h1]
  have dq : ∀ j, j ≠ 7 → A1 q j = A q j := by intro j h; rw [← hA1, wr_col h, wr_ne (by omega)]
  have dq7 : A1 q 7 = A q 7 + 1 := by rw [← hA1, wr_at]
  have dB : ∀ i, i ≠ s + 6 → B1 i = B i := by intro i h1; rw [← hB1, wr_ne h1]
  have d6 : ∀ k, k ≠ 10 * g + 8 → B1 (s + 6) k = B (s + 6) k := by intro k h; rw [← hB1, wr_col h]
  have d68 : B1 (s + 6) (10 * g + 8) = B (s + 6) (10 * g + 8) + 1 := by rw [← hB1, wr_at]
  have w1 : A1 w 1 = nI (q + 1) := by rw [← hA1, wr_ne (by omega), wr_at]
  have hAt : AtG w b q g A1 := ⟨hw, hg, hq, w1⟩
  have hR1 : Rd w b q g s A1 B1 := by
    refine ⟨hAt, hs, ?_, ?_, ?_, ?_, ?_, ?_⟩
    · intro k hk
      rw [dA (b + 1) (by omega) (by omega), dA (b + 3) (by omega) (by omega), dA (b + 4) (by omega) (by omega), dA (b + 5) (by omega) (by omega), dA (b + 6) (by omega) (by omega), dB (s + 1) (by omega), dB (s + 2) (by omega), dB (s + 3) (by omega), dB (s + 4) (by omega), dB (s + 5) (by omega)]
      exact hC k hk
    · unfold SimS
      rw [dA b (by omega) (by omega), dB s (by omega)]
      exact hSS
    · intro k hk
      rw [dA (b + 7) (by omega) (by omega), dA (b + 8) (by omega) (by omega), dB 72 (by omega), dB 73 (by omega)]
      exact hW k hk
    · refine ⟨?_, ?_, ?_, ?_, ?_, ?_, ?_, ?_, ?_⟩
      · rw [dq 0 (by decide), d6 _ (by omega)]; exact g0
      · rw [dq 1 (by decide), d6 _ (by omega)]; exact g1
      · rw [dq 2 (by decide), d6 _ (by omega)]; exact g2
      · rw [dq 3 (by decide), d6 _ (by omega)]; exact g3
      · rw [dq 4 (by decide), d6 _ (by omega)]; exact g5
      · rw [dq 5 (by decide), d6 _ (by omega)]; exact g6
      · rw [dq 6 (by decide), d6 _ (by omega)]; exact g7
      · rw [dq7, d68, g8]
      · rw [dq 8 (by decide), d6 _ (by omega)]; exact g9
    · unfold InvG
      rw [dq 0 (by decide), dq 1 (by decide), dq 2 (by decide), dq 4 (by decide)]
      exact hIg
    · rw [dA b (by omega) (by omega)]; exact hD
  have hI1 : InvC b A1 := by
    intro k hk
    rw [dA (b + 4) (by omega) (by omega), dA (b + 5) (by omega) (by omega), dA (b + 6) (by omega) (by omega)]
    exact hI k hk
  have hH1 : EfH w b q A A1 := ⟨fun i h1 _ _ _ _ _ _ h8 _ => dA i h1 h8, fun j _ _ _ => by rw [dA b (by omega) (by omega)]⟩
  have hE1 : EfB s g B B1 := ⟨fun i _ _ _ _ _ _ _ h _ => dB i h, fun j _ => by rw [dB 69 (by omega)], fun j _ _ _ => by rw [dB s (by omega)], fun k hk => d6 k (by omega), fun k _ => by rw [dB (s + 7) (by omega)]⟩
  have hP1 : Prg b p len oA rA A1 := hP.efh hw (by omega) hH1
  have hc1 : B1 74 = cB := by rw [dB 74 (by omega)]; exact hc
  have hRep1 : Rep q s g e A1 B1 := hRep.same (dA _ (by omega) (by omega)) (dB _ (by omega))
  have hpa1 : A1 q 9 = nI a := by rw [dq 9 (by decide)]; exact hpa
  have hpb1 : B1 (s + 6) (10 * g + 4) = nI bb := by rw [d6 _ (by omega)]; exact hpb
  have h98 : A1 q 8 = B1 (s + 6) (10 * g + 9) := by rw [dq 8 (by decide), d6 _ (by omega)]; exact g9
  have hA0 : AtG w b q g (wr A w 1 (nI (q + 1))) := ⟨hw, hg, hq, wr_at _ _ _ _⟩
  have hWA : f_X8_workHour w q A = (if A1 q 8 ≤ 0 then f_X8_workHour_L51 w q FU 0 0 (wr A1 w 4 0) else some (wr A1 q 8 (A1 q 8 - 1))) := by
    rw [f_X8_workHour, lz_e, if_pos hA0.okr, hA0.rid, wr_ne (show q ≠ w by omega), hA1, lz_e, if_pos hAt.okr, hAt.rid]
    by_cases hz : A1 q 8 ≤ 0
    · rw [if_pos hz, if_pos hz, lz_e, bd1_id]
    · rw [if_neg hz, if_neg hz, if_pos hAt.okr, lz_e]
  have hWB : f_X11_work 69 s (nI g) B = (if A1 q 8 ≤ 0 then f_X11_work_L47 69 s (nI g) (nI (10 * g)) FU 0 B1 else some (wr B1 (s + 6) (10 * g + 9) (A1 q 8 - 1))) := by
    rw [f_X11_work]
    simp only [g10 hg, ga8, ga9, inT (show 10 * g + 8 < 40 by omega) (by decide), inT (show 10 * g + 9 < 40 by omega) (by decide), if_true, ixn (show 10 * g + 8 < 2147483648 by omega), ixn (show 10 * g + 9 < 2147483648 by omega), lz_e]
    rw [hB1, h98]
  by_cases hz : A1 q 8 ≤ 0
  · rw [if_pos hz] at hWA hWB
    have hR4 := hR1.w4 (v := (0 : Int32))
    have hGR : GR w b q g s p len oA rA cB S a (wr A1 w 4 0) B1 := by
      refine ⟨hR4, InvC.w4 hw hI1, ?_, hc1, by rw [wr_ne (by omega)]; exact hpa1, bb, e, hpb1, hS, hRep1.same (wr_ne (by omega)) rfl⟩
      obtain ⟨p1, p2, p3, p4, p5, p6⟩ := hP1
      exact ⟨p1, by rw [wr_ne (by omega)]; exact p2, by rw [wr_ne (by omega)]; exact p3, p4, by rw [wr_ne (by omega)]; exact p5, by rw [wr_ne (by omega)]; exact p6⟩
    have hrk := rk_le oA a
    obtain ⟨A', B', a', k1, k2, k3, k4, k5⟩ := loop_run hcl 50801 0 a _ _ hGR (wr_at _ _ _ _) (by omega) (by omega)
    have o1 := k1 (FU - 50803) 0 (by omega)
    have o2 := k2 (FU - 50802)
    have f1 : FU - 50803 + 50801 + 2 = FU := by unfold FU; rfl
    have f2 : FU - 50802 + 50801 + 1 = FU := by unfold FU; rfl
    rw [f1] at o1
    rw [f2] at o2
    obtain ⟨r1, r2, r3, r4⟩ := k3.out
    refine ⟨A', B', hWA.trans o1, hWB.trans o2, r1, r2, r3, r4, hH1.trans (EfH.trans ⟨fun i h _ _ _ _ _ _ _ _ => wr_ne h, fun j _ _ _ => by rw [wr_ne (by omega)]⟩ k4.h), hE1.trans k5⟩
  · rw [if_neg hz] at hWA hWB
    refine ⟨_, _, hWA, hWB, ?_, ?_, ?_, ?_, hH1.trans ⟨fun i _ _ _ _ _ _ _ h _ => wr_ne h, fun j _ _ _ => by rw [wr_ne (by omega)]⟩, hE1.trans ⟨fun i _ _ _ _ _ _ _ h _ => wr_ne h, fun j _ => by rw [wr_ne (by omega)], fun j _ _ _ => by rw [wr_ne (by omega)], fun k hk => wr_col (by omega), fun k _ => by rw [wr_ne (by omega)]⟩⟩
    · obtain ⟨-, -, m1, m2, m3, -, -, m4⟩ := hR1
      refine ⟨?_, ?_, ?_, ?_, ?_⟩
      · intro k hk
        simp (disch := omega) only [wr_r]
        exact m1 k hk
      · unfold SimS at *
        simp (disch := omega) only [wr_r]
        exact m2
      · intro k hk
        simp (disch := omega) only [wr_r]
        exact m3 k hk
      · intro k hk
        simp (disch := omega) only [wr_r]
        exact hI1 k hk
      · simp (disch := omega) only [wr_r]
        exact m4
    · unfold Ga
      rw [← hq]
      refine ⟨?_, ?_, a, bb, e, by rw [wr_col (by decide)]; exact hpa1, by rw [wr_col (by omega)]; exact hpb1, hS, hRep1.same (wr_ne (by omega)) (wr_ne (by omega))⟩
      · obtain ⟨z0, z1, z2, z3, z5, z6, z7, z8, z9⟩ := hR1.2.2.2.2.2.1
        unfold SimG
        refine ⟨?_, ?_, ?_, ?_, ?_, ?_, ?_, ?_, ?_⟩ <;> simp (disch := omega) only [wr_at, wr_col] <;> assumption
      · have := hR1.2.2.2.2.2.2.1
        unfold InvG at *
        simp (disch := omega) only [wr_col]
        exact this
    · obtain ⟨p1, p2, p3, p4, p5, p6⟩ := hP1
      exact ⟨p1, by rw [wr_ne (by omega)]; exact p2, by rw [wr_ne (by omega)]; exact p3, p4, by rw [wr_ne (by omega)]; exact p5, by rw [wr_ne (by omega)]; exact p6⟩
    · rw [wr_ne (by omega)]; exact hc1
