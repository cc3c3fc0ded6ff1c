/-! needs 30 31 32 33 34 35 36 37 38 39 -/
def GR (w b q g s p len : Nat) (oA rA cB : Nat → Int32) (S : PS) (a : Nat) (A B : Mm) : Prop :=
  Rd w b q g s A B ∧ InvC b A ∧ Prg b p len oA rA A ∧ B 74 = cB ∧ A q 9 = nI a ∧ ∃ bb e, B (s + 6) (10 * g + 4) = nI bb ∧ S a bb e ∧ Rep q s g e A B
def StepOK (w b q g s p len : Nat) (oA rA cB : Nat → Int32) (S : PS) (c a : Nat) (A B : Mm) : Prop :=
  (∃ at_ A1 A' B' a', f_X8_reckonSums w A = some (at_, A1) ∧ f_X8_carryOut w at_ A1 = some (1, A') ∧ (∀ k, f_X11_work_L47 69 s (nI g) (nI (10 * g)) (k + 1) (nI c) B = some B') ∧ GR w b q g s p len oA rA cB S a' A' B' ∧ EfA w b q A A' ∧ EfB s g B B') ∨
  (∃ at_ A1 A' B' a' c', f_X8_reckonSums w A = some (at_, A1) ∧ f_X8_carryOut w at_ A1 = some (0, A') ∧ (∀ k, f_X11_work_L47 69 s (nI g) (nI (10 * g)) (k + 1) (nI c) B = f_X11_work_L47 69 s (nI g) (nI (10 * g)) k (nI c') B') ∧ GR w b q g s p len oA rA cB S a' A' B' ∧ EfA w b q A A' ∧ EfB s g B B' ∧ A' w 4 = nI c' ∧ c' ≤ 50 ∧ (50 - c') * 1000 + rk oA a' < (50 - c) * 1000 + rk oA a)
theorem rk_le (oA : Nat → Int32) (a : Nat) : rk oA a ≤ 801 := by unfold rk; split <;> omega
theorem fin_gr {w b q g s p len a' b' : Nat} {oA rA cB : Nat → Int32} {S : PS} {e : List Nat} {A B A' B' : Mm} (hP : Prg b p len oA rA A) (hc : B 74 = cB) (hR : Rd w b q g s A' B') (hI : InvC b A') (hA : EfA w b q A A') (hB : EfB s g B B') (hRep : Rep q s g e A' B') (h1 : A' q 9 = nI a') (h2 : B' (s + 6) (10 * g + 4) = nI b') (hS : S a' b' e) : GR w b q g s p len oA rA cB S a' A' B' := by
  have hw := hR.1.1
  have hg := hR.1.2.1
  have hq := hR.1.2.2.1
  have hs := hR.2.1
  unfold Wb at hw
  unfold Ws at hs
  obtain ⟨p1, p2, p3, p4, p5, p6⟩ := hP
  have ep : ∀ k, k ≤ 24 → A' k = A k := fun k hk => hA.1 k (by omega) (by omega) (by omega) (by omega) (by omega) (by omega) (by omega) (by omega) (by omega)
  refine ⟨hR, hI, ⟨p1, by rw [hA.2.1 16 (by decide) (by decide) (by decide)]; exact p2, by rw [ep p (by omega)]; exact p3, p4, by rw [ep (p + 1) (by omega)]; exact p5, by rw [ep (p + 2) (by omega)]; exact p6⟩, ?_, h1, b', e, h2, hS, hRep⟩
  rw [hB.1 74 (by omega) (by omega) (by omega) (by omega) (by omega) (by omega) (by omega) (by omega) (by omega)]
  exact hc
theorem Rep.same {q s g : Nat} {e : List Nat} {A B A' B' : Mm} (h : Rep q s g e A B) (h1 : A' (q + 1) = A (q + 1)) (h2 : B' (s + 7) = B (s + 7)) : Rep q s g e A' B' := Rep.congr (fun d _ => by rw [h1]) (fun k _ => by rw [h2]) h
theorem EndOK.fin {w b q g s p len a bb nx pa : Nat} {oA rA cB : Nat → Int32} {S : PS} {e : List Nat} {A B A1 B1 A' B' : Mm} (hP : Prg b p len oA rA A) (hc : B 74 = cB) (hpa : A q 9 = nI a) (hpb : B (s + 6) (10 * g + 4) = nI bb) (hS : S a bb e) (hRep : Rep q s g e A B) (hA : EqW w A A1) (hB : EqR B B1) (h : EndOK w b q g s pa nx A1 B1 A' B') (hS1 : S (pa + 1) nx e) : ∃ a', GR w b q g s p len oA rA cB S a' A' B' ∧ EfA w b q A A' ∧ EfB s g B B' := by
  obtain ⟨hR, hI, eA, eB, h1, h7, hpos⟩ := h
  have hw := hR.1.1
  have hg := hR.1.2.1
  have hq := hR.1.2.2.1
  have hs := hR.2.1
  have eA' := (EqW.ef (q := q) hw hA).trans eA
  have eB' := (EqR.ef (g := g) hs hB).trans eB
  unfold Wb at hw
  unfold Ws at hs
  have hRep' : Rep q s g e A' B' := hRep.same (h1.trans (hA.1 _ (by omega) (by omega))) (h7.trans (hB.1 _ (by omega) (by omega)))
  rcases hpos with ⟨k1, k2⟩ | ⟨k1, k2⟩
  · exact ⟨pa + 1, fin_gr hP hc hR hI eA' eB' hRep' k1 k2 hS1, eA', eB'⟩
  · rw [hA.1 q (by omega) (by omega)] at k1
    rw [hB.1 (s + 6) (by omega) (by omega)] at k2
    exact ⟨a, fin_gr hP hc hR hI eA' eB' hRep' (k1.trans hpa) (k2.trans hpb) hS, eA', eB'⟩
section ST
variable {w b q g s p len a bb c : Nat} {oA rA cB : Nat → Int32} {S : PS} {e : List Nat} {A B : Mm}
theorem step_end (hR : Rd w b q g s A B) (hI : InvC b A) (hP : Prg b p len oA rA A) (hc : B 74 = cB) (hpa : A q 9 = nI a) (hpb : B (s + 6) (10 * g + 4) = nI bb) (hS : S a bb e) (hRep : Rep q s g e A B) (h1 : a < len) (h2 : bb < 4000) (h3 : oA a = 39) (h4 : cB bb = 40) : StepOK w b q g s p len oA rA cB S c a A B := by
  have hw := hR.1.1
  have hg := hR.1.2.1
  have hq := hR.1.2.2.1
  have hs := hR.2.1
  have e0 := A0_eqw w A
  have hR0 := hR.kept e0 (B' := B) (fun _ _ _ => rfl)
  have hP0 := hP.kept hR.1.1 e0
  have hI0 := hI.eqw hR.1.1 e0
  have hs1 : f_X8_reckonSums w A = some (nI a, wr A w 3 0) := rs_run (n := 0) (pa := a) hR.1 hpa (fun k => by rw [Nat.zero_add]) (by omega) hP0 h1 (by rw [h3]; decide)
  have efA := EqW.ef (q := q) hR.1.1 e0
  generalize wr A w 3 0 = A0 at *
  unfold Wb at hw
  unfold Ws at hs
  have hAq : AtG w b q g (wr A0 q 4 1) := ⟨hR0.1.1, hR0.1.2.1, hR0.1.2.2.1, by rw [wr_ne (by omega)]; exact hR0.1.2.2.2⟩
  have hco : f_X8_carryOut w (nI a) A0 = some (1, wr (wr A0 q 4 1) q 5 (A0 q 5 + 1)) := by
    rw [co_run hR.1.1 hP0 h1, h3, if_neg (by decide), if_neg (by decide), if_neg (by decide), if_neg (by decide), if_neg (by decide), if_neg (by decide), if_neg (by decide), if_neg (by decide), if_neg (by decide), if_neg (by decide), if_pos hR0.1.okr, hR0.1.rid, lz_e, if_pos hAq.okr, hAq.rid, wr_col (by decide)]
  obtain ⟨g0, g1, g2, g3, g5, g6, g7, g8, g9⟩ := hR0.2.2.2.2.2.1
  obtain ⟨v0, v1, v2, v3⟩ := hR0.2.2.2.2.2.2.1
  have eA' : EfA w b q A (wr (wr A0 q 4 1) q 5 (A0 q 5 + 1)) := efA.trans ⟨fun i _ _ _ _ _ _ _ h _ => by rw [wr_ne h, wr_ne h], fun j _ _ _ => by rw [wr_ne (by omega), wr_ne (by omega)], fun j _ _ => by rw [wr_ne (by omega), wr_ne (by omega)]⟩
  have eB' : EfB s g B (wr (wr B (s + 6) (10 * g + 5) 1) (s + 6) (10 * g + 6) (B (s + 6) (10 * g + 6) + 1)) := ⟨fun i _ _ _ _ _ _ _ h _ => by rw [wr_ne h, wr_ne h], fun j _ => by rw [wr_ne (by omega), wr_ne (by omega)], fun j _ _ _ => by rw [wr_ne (by omega), wr_ne (by omega)], fun k hk => by rw [wr_col (by omega), wr_col (by omega)], fun k _ => by rw [wr_ne (by omega), wr_ne (by omega)]⟩
  refine Or.inl ⟨_, _, _, _, a, hs1, hco, fun k => wk_end hg hpb hc h2 h4, ?_, eA', eB'⟩
  refine fin_gr hP hc (hR0.gang (fun i hi => by rw [wr_ne hi, wr_ne hi]) (fun i hi => by rw [wr_ne hi, wr_ne hi]) ?_ ?_) ?_ eA' eB' (hRep.same (by rw [wr_ne (by omega), wr_ne (by omega)]; exact e0.1 _ (by omega) (by omega)) (by rw [wr_ne (by omega), wr_ne (by omega)])) ?_ ?_ hS
  · unfold SimG
    have h7 : A0 q 5 + 1 = B (s + 6) (10 * g + 6) + 1 := by rw [g6]
    refine ⟨?_, ?_, ?_, ?_, ?_, ?_, ?_, ?_, ?_⟩ <;> simp (disch := omega) only [wr_at, wr_col] <;> assumption
  · unfold InvG
    simp (disch := omega) only [wr_at, wr_col]
    exact ⟨v0, v1, v2, Or.inr trivial⟩
  · intro k hk
    rw [wr_ne (by omega), wr_ne (by omega), wr_ne (by omega), wr_ne (by omega), wr_ne (by omega), wr_ne (by omega)]
    exact hI0 k hk
  · rw [wr_col (by decide), wr_col (by decide), e0.1 q (by omega) (by omega)]; exact hpa
  · rw [wr_col (by omega), wr_col (by omega)]; exact hpb
theorem step_jump {a' b' : Nat} (hR : Rd w b q g s A B) (hI : InvC b A) (hP : Prg b p len oA rA A) (hc : B 74 = cB) (hpa : A q 9 = nI a) (hpb : B (s + 6) (10 * g + 4) = nI bb) (hRep : Rep q s g e A B) (hc4 : A w 4 = nI c) (hc50 : c ≤ 50) (h1 : a < len) (h2 : bb + 1 < 4000) (h3 : oA a = 38) (h4 : cB bb = 41) (ha : rA a = nI a') (hb : cB (bb + 1) = nI b') (hS : S a' b' e) (hrk : rk oA a' < rk oA a) : StepOK w b q g s p len oA rA cB S c a A B := by
  have hw := hR.1.1
  have hg := hR.1.2.1
  have hq := hR.1.2.2.1
  have hs := hR.2.1
  have e0 := A0_eqw w A
  have hR0 := hR.kept e0 (B' := B) (fun _ _ _ => rfl)
  have hP0 := hP.kept hR.1.1 e0
  have hI0 := hI.eqw hR.1.1 e0
  have hs1 : f_X8_reckonSums w A = some (nI a, wr A w 3 0) := rs_run (n := 0) (pa := a) hR.1 hpa (fun k => by rw [Nat.zero_add]) (by omega) hP0 h1 (by rw [h3]; decide)
  have efA := EqW.ef (q := q) hR.1.1 e0
  generalize wr A w 3 0 = A0 at *
  unfold Wb at hw
  unfold Ws at hs
  have hco : f_X8_carryOut w (nI a) A0 = some (0, wr A0 q 9 (nI a')) := by
    rw [co_run hR.1.1 hP0 h1, h3, if_neg (by decide), if_neg (by decide), if_neg (by decide), if_neg (by decide), if_neg (by decide), if_neg (by decide), if_neg (by decide), if_neg (by decide), if_neg (by decide), if_pos rfl, if_pos hR0.1.okr, hR0.1.rid, ha]
  have eA' : EfA w b q A (wr A0 q 9 (nI a')) := efA.trans ⟨fun i _ _ _ _ _ _ _ h _ => by rw [wr_ne h], fun j _ _ _ => by rw [wr_ne (by omega)], fun j _ _ => by rw [wr_ne (by omega)]⟩
  have eB' : EfB s g B (posB s g (nI b') B) := EfB.pos hR.2.1 g _ B
  refine Or.inr ⟨_, _, _, _, a', c, hs1, hco, fun k => ?_, ?_, eA', eB', ?_, hc50, by omega⟩
  · rw [wk_jump hg hpb hc h2 h4, hb]
  · have hRp := hR0.pos (nI b')
    refine fin_gr hP hc (hRp.gang (fun i hi => by rw [wr_ne hi]) (fun i _ => rfl) ?_ ?_) ?_ eA' eB' (hRep.same (by rw [wr_ne (by omega)]; exact e0.1 _ (by omega) (by omega)) (by rw [posB_r (by omega)])) (wr_at _ _ _ _) (wr_at _ _ _ _) hS
    · have := hRp.2.2.2.2.2.1
      unfold SimG at *
      simp (disch := omega) only [wr_col]
      exact this
    · have := hRp.2.2.2.2.2.2.1
      unfold InvG at *
      simp (disch := omega) only [wr_col]
      exact this
    · intro k hk
      rw [wr_ne (by omega), wr_ne (by omega), wr_ne (by omega)]
      exact hI0 k hk
  · rw [wr_ne (by omega), e0.2 4 (by decide)]; exact hc4
/-- a number in front of a loop's operation -/
theorem num_run (hR : Rd w b q g s A B) (hP : Prg b p len oA rA A) (hpa : A q 9 = nI a) (h1 : a + 1 < len) (h3 : oA a = 0) (h4 : 28 < (oA (a + 1)).toInt) : ∃ A1, f_X8_reckonSums w A = some (nI (a + 1), A1) ∧ EqW w A A1 ∧ A1 w 3 = nI (0 + 1) ∧ A1 (w + 1) 0 = rA a := by
  have e0 := A0_eqw w A
  have hP0 := hP.kept hR.1.1 e0
  obtain ⟨A1, p1, p2, p3, p4⟩ := push_run (w := w) (h := 0) (v := rA a) (A := wr A w 3 0) (wr_at _ _ _ _) (by omega)
  have hP1 := hP0.kept hR.1.1 p2
  refine ⟨A1, rs_run (n := 1) (pa := a) hR.1 hpa (fun k => ?_) (by omega) hP1 h1 h4, e0.trans p2, p3, by rw [p4]; simp [upd]⟩
  rw [Nat.add_comm 1 k, sA_step hR.1.1 hP0 (by omega) (by rw [h3]; decide), h3, f_X8_reckon, if_pos rfl, p1, bd1_e, bd1_e]
theorem step_init {d : Nat} (hR : Rd w b q g s A B) (hI : InvC b A) (hP : Prg b p len oA rA A) (hc : B 74 = cB) (hpa : A q 9 = nI a) (hpb : B (s + 6) (10 * g + 4) = nI bb) (hRep : Rep q s g e A B) (hc4 : A w 4 = nI c) (hc50 : c ≤ 50) (h1 : a + 1 < len) (h2 : bb + 2 < 4000) (h3 : oA a = 0) (h3' : oA (a + 1) = 36) (h4 : cB bb = 42) (hd : rA (a + 1) = nI d) (hd9 : d < 9) (hde : ¬ d ∈ e) (he : e.length < 8) (hb1 : cB (bb + 1) = nI e.length) (hb2 : cB (bb + 2) = rA a) (hS : S (a + 2) (bb + 3) (d :: e)) (hrk : rk oA (a + 2) < rk oA a) : StepOK w b q g s p len oA rA cB S c a A B := by
  have hw := hR.1.1
  have hg := hR.1.2.1
  have hq := hR.1.2.2.1
  have hs := hR.2.1
  obtain ⟨A1, s1, s2, s3, s4⟩ := num_run hR hP hpa h1 h3 (by rw [h3']; decide)
  obtain ⟨A2, p1, p2, p3, p4⟩ := pop_run (h := 0) s3 (by omega)
  have hE := s2.trans p2
  have hR2 := hR.kept hE (B' := B) (fun _ _ _ => rfl)
  have hP1 := hP.kept hR.1.1 s2
  have hI2 := hI.eqw hR.1.1 hE
  have efA := EqW.ef (q := q) hR.1.1 hE
  unfold Wb at hw
  unfold Ws at hs
  have hAq : AtG w b q g (wr A2 (q + 1) d (rA a)) := ⟨hR2.1.1, hR2.1.2.1, hR2.1.2.2.1, by rw [wr_ne (by omega)]; exact hR2.1.2.2.2⟩
  have hco : f_X8_carryOut w (nI (a + 1)) A1 = some (0, wr (wr A2 (q + 1) d (rA a)) q 9 (nI (a + 2))) := by
    rw [co_run hR.1.1 hP1 h1, h3', if_neg (by decide), if_neg (by decide), if_neg (by decide), if_neg (by decide), if_neg (by decide), if_neg (by decide), if_neg (by decide), if_pos rfl, hd, f_X8_beginRepeat, p1, bd2_e, if_neg (by rw [i_lt, i_nI (by omega)]; show ¬ (d : Int) < 0; omega), if_pos hR2.1.okr, if_neg (by rw [i_le, i_nI (by omega)]; show ¬ (9 : Int) ≤ (d : Int); omega), if_pos hR2.1.okr, if_pos (inN hd9), ixn (by omega), hR2.1.rid, s4, lz_e, bd1_e, if_pos hAq.okr, hAq.rid, n_suc, lz_e]
  have eA' : EfA w b q A (wr (wr A2 (q + 1) d (rA a)) q 9 (nI (a + 2))) := efA.trans ⟨fun i _ _ _ _ _ _ _ h h9 => by rw [wr_ne h, wr_ne h9], fun j _ _ _ => by rw [wr_ne (by omega), wr_ne (by omega)], fun j _ _ => by rw [wr_ne (by omega), wr_ne (by omega)]⟩
  have eB' : EfB s g B (posB s g (nI (bb + 3)) (wr B (s + 7) (8 * g + e.length) (rA a))) := EfB.trans ⟨fun i _ _ _ _ _ _ _ _ h => wr_ne h, fun j _ => by rw [wr_ne (by omega)], fun j _ _ _ => by rw [wr_ne (by omega)], fun k _ => by rw [wr_ne (by omega)], fun k hk => wr_col (by omega)⟩ (EfB.pos hR.2.1 g _ _)
  refine Or.inr ⟨_, _, _, _, a + 2, c, s1, hco, fun k => ?_, ?_, eA', eB', ?_, hc50, by omega⟩
  · rw [wk_init hg hpb hc h2 h4 hb1 he, hb2]
  · have hRw : Rd w b q g s (wr A2 (q + 1) d (rA a)) (wr B (s + 7) (8 * g + e.length) (rA a)) := by
      obtain ⟨⟨k1, k2, k3, k4⟩, ks, hC, hSS, hW, hG, hIg, hD⟩ := hR2
      refine ⟨hAq, ks, ?_, ?_, ?_, ?_, ?_, ?_⟩
      · intro k hk
        simp (disch := omega) only [wr_r]
        exact hC k hk
      · unfold SimS at *
        simp (disch := omega) only [wr_r]
        exact hSS
      · intro k hk
        simp (disch := omega) only [wr_r]
        exact hW k hk
      · unfold SimG at *
        simp (disch := omega) only [wr_r]
        exact hG
      · unfold InvG at *
        simp (disch := omega) only [wr_r]
        exact hIg
      · simp (disch := omega) only [wr_r]
        exact hD
    have hRp := hRw.pos (nI (bb + 3))
    refine fin_gr (e := d :: e) hP hc (hRp.gang (fun i hi => by rw [wr_ne hi]) (fun i _ => rfl) ?_ ?_) ?_ eA' eB' ⟨?_, ?_⟩ (wr_at _ _ _ _) (wr_at _ _ _ _) hS
    · have := hRp.2.2.2.2.2.1
      unfold SimG at *
      simp (disch := omega) only [wr_col]
      exact this
    · have := hRp.2.2.2.2.2.2.1
      unfold InvG at *
      simp (disch := omega) only [wr_col]
      exact this
    · intro k hk
      simp (disch := omega) only [wr_ne]
      exact hI2 k hk
    · rw [wr_ne (by omega), wr_at, posB_r (by omega), wr_at]
    · refine Rep.congr (fun x hx => ?_) (fun k hk => ?_) hRep
      · have hxd : x ≠ d := fun h => hde (by rw [← h]; exact hx)
        rw [wr_ne (by omega), wr_col hxd, hE.1 (q + 1) (by omega) (by omega)]
      · rw [posB_r (by omega), wr_col (by omega)]
  · rw [wr_ne (by omega), wr_ne (by omega), hE.2 4 (by decide)]; exact hc4
end ST
