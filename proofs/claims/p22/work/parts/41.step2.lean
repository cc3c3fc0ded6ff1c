/-! needs 30 31 32 33 34 35 36 37 38 39 40 -/
section ST
variable {w b q g s p len a bb c : Nat} {oA rA cB : Nat → Int32} {S : PS} {e : List Nat} {A B : Mm}
/-- the gang's idle hours, in both -/
theorem idle_gr {A1 B1 : Mm} (hR : Rd w b q g s A1 B1) (hI : InvC b A1) (hP : Prg b p len oA rA A) (hc : B 74 = cB) (efA : EfA w b q A A1) (efB : EfB s g B B1) (hRep : Rep q s g e A1 B1) (hpa : A1 q 9 = nI a) (hpb : B1 (s + 6) (10 * g + 4) = nI bb) (hS : S a bb e) : GR w b q g s p len oA rA cB S a (wr A1 q 5 (A1 q 5 + 1)) (wr B1 (s + 6) (10 * g + 6) (B1 (s + 6) (10 * g + 6) + 1)) ∧ EfA w b q A (wr A1 q 5 (A1 q 5 + 1)) ∧ EfB s g B (wr B1 (s + 6) (10 * g + 6) (B1 (s + 6) (10 * g + 6) + 1)) := by
  have hw := hR.1.1
  have hg := hR.1.2.1
  have hq := hR.1.2.2.1
  have hs := hR.2.1
  unfold Wb at hw
  unfold Ws at hs
  have eA' : EfA w b q A (wr A1 q 5 (A1 q 5 + 1)) := efA.trans ⟨fun i _ _ _ _ _ _ _ h _ => by rw [wr_ne h], fun j _ _ _ => by rw [wr_ne (by omega)], fun j _ _ => by rw [wr_ne (by omega)]⟩
  have eB' : EfB s g B (wr B1 (s + 6) (10 * g + 6) (B1 (s + 6) (10 * g + 6) + 1)) := efB.trans ⟨fun i _ _ _ _ _ _ _ h _ => by rw [wr_ne h], fun j _ => by rw [wr_ne (by omega)], fun j _ _ _ => by rw [wr_ne (by omega)], fun k hk => by rw [wr_col (by omega)], fun k _ => by rw [wr_ne (by omega)]⟩
  obtain ⟨g0, g1, g2, g3, g5, g6, g7, g8, g9⟩ := hR.2.2.2.2.2.1
  refine ⟨fin_gr hP hc (hR.gang (fun i hi => by rw [wr_ne hi]) (fun i hi => by rw [wr_ne hi]) ?_ ?_) ?_ eA' eB' (hRep.same (by rw [wr_ne (by omega)]) (by rw [wr_ne (by omega)])) (by rw [wr_col (by decide)]; exact hpa) (by rw [wr_col (by omega)]; exact hpb) hS, eA', eB'⟩
  · unfold SimG
    have h7 : A1 q 5 + 1 = B1 (s + 6) (10 * g + 6) + 1 := by rw [g6]
    refine ⟨?_, ?_, ?_, ?_, ?_, ?_, ?_, ?_, ?_⟩ <;> simp (disch := omega) only [wr_at, wr_col] <;> assumption
  · have := hR.2.2.2.2.2.2.1
    unfold InvG at *
    simp (disch := omega) only [wr_col]
    exact this
  · intro k hk
    simp (disch := omega) only [wr_ne]
    exact hI k hk
/-- a place to go on at, in both -/
theorem pos_gr {A1 B1 : Mm} {a' b' : Nat} {e' : List Nat} (hR : Rd w b q g s A1 B1) (hI : InvC b A1) (hP : Prg b p len oA rA A) (hc : B 74 = cB) (efA : EfA w b q A A1) (efB : EfB s g B B1) (hRep : Rep q s g e' A1 B1) (hS : S a' b' e') : GR w b q g s p len oA rA cB S a' (wr A1 q 9 (nI a')) (posB s g (nI b') B1) ∧ EfA w b q A (wr A1 q 9 (nI a')) ∧ EfB s g B (posB s g (nI b') B1) := by
  have hw := hR.1.1
  have hg := hR.1.2.1
  have hq := hR.1.2.2.1
  have hs := hR.2.1
  unfold Wb at hw
  unfold Ws at hs
  have hRp := hR.pos (nI b')
  have eA' : EfA w b q A (wr A1 q 9 (nI a')) := efA.trans ⟨fun i _ _ _ _ _ _ _ h _ => by rw [wr_ne h], fun j _ _ _ => by rw [wr_ne (by omega)], fun j _ _ => by rw [wr_ne (by omega)]⟩
  have eB' : EfB s g B (posB s g (nI b') B1) := efB.trans (EfB.pos hR.2.1 g _ _)
  refine ⟨fin_gr hP hc (hRp.gang (fun i hi => by rw [wr_ne hi]) (fun i _ => rfl) ?_ ?_) ?_ eA' eB' (hRep.same (by rw [wr_ne (by omega)]) (by rw [posB_r (by omega)])) (wr_at _ _ _ _) (wr_at _ _ _ _) hS, eA', eB'⟩
  · have := hRp.2.2.2.2.2.1
    unfold SimG at *
    simp (disch := omega) only [wr_col]
    exact this
  · have := hRp.2.2.2.2.2.2.1
    unfold InvG at *
    simp (disch := omega) only [wr_col]
    exact this
  · intro k hk
    simp (disch := omega) only [wr_ne]
    exact hI k hk
/-- the worker's own row is nobody's -/
theorem Rd.w4 {A1 B1 : Mm} {v : Int32} (hR : Rd w b q g s A1 B1) : Rd w b q g s (wr A1 w 4 v) B1 := by
  obtain ⟨⟨h1, h2, h3, h4⟩, hs, hC, hSS, hW, hG, hIg, hD⟩ := hR
  have hw := h1
  unfold Wb at hw
  refine ⟨⟨h1, h2, h3, by rw [wr_col (by decide)]; exact h4⟩, hs, ?_, ?_, ?_, ?_, ?_, ?_⟩
  · intro k hk
    simp (disch := omega) only [wr_r]
    exact hC k hk
  · unfold SimS at *
    simp (disch := omega) only [wr_r]
    exact hSS
  · intro k hk
    simp (disch := omega) only [wr_r]
    exact hW k hk
  · unfold SimG at *
    simp (disch := omega) only [wr_r]
    exact hG
  · unfold InvG at *
    simp (disch := omega) only [wr_r]
    exact hIg
  · simp (disch := omega) only [wr_r]
    exact hD
theorem w4_ef {A1 : Mm} {v : Int32} (hw : Wb w b) (hg : g < 4) (hq : q = b + 10 + 2 * g) (h : EfA w b q A A1) : EfA w b q A (wr A1 w 4 v) := by
  unfold Wb at hw
  exact h.trans ⟨fun i h _ _ _ _ _ _ _ _ => wr_ne h, fun j _ _ _ => by rw [wr_ne (by omega)], fun j _ h4 => wr_col h4⟩
theorem InvC.w4 {A1 : Mm} {v : Int32} (hw : Wb w b) (h : InvC b A1) : InvC b (wr A1 w 4 v) := by
  unfold Wb at hw
  intro k hk
  simp (disch := omega) only [wr_ne]
  exact h k hk
theorem step_test {n a1 b1 a' b' : Nat} {t : Bool} (hR : Rd w b q g s A B) (hI : InvC b A) (hP : Prg b p len oA rA A) (hc : B 74 = cB) (hpa : A q 9 = nI a) (hpb : B (s + 6) (10 * g + 4) = nI bb) (hS : S a bb e) (hRep : Rep q s g e A B) (hc4 : A w 4 = nI c) (hc50 : c ≤ 50) (h1 : a1 < len) (h2 : b1 < 3999) (h3 : cB bb = 8 ∨ cB bb = 11) (hSeg : Seg oA rA cB n a (bb + 2) [] a1 b1 [t]) (h61 : cB b1 = 61) (h35 : oA a1 = 35) (hS1 : S (a1 + 1) (b1 + 1) e) (ha : rA a1 = nI a') (hb : cB (bb + 1) = nI b') (hS2 : S a' b' e) : StepOK w b q g s p len oA rA cB S c a A B := by
  have hw := hR.1.1
  have hg := hR.1.2.1
  have hq := hR.1.2.2.1
  have hs := hR.2.1
  have e0 := A0_eqw w A
  have hR0 := hR.kept e0 (B' := B) (fun _ _ _ => rfl)
  have hP0 := hP.kept hR.1.1 e0
  obtain ⟨A1, v, s1, s2, s3, s4, -, s6⟩ := sum_run (base := 0) (by omega) hSeg hR0 hP0 hc (by omega) h2 (wr_at _ _ _ _) h61
  have hl := hSeg.len
  have hbl : bb + 1 < 4000 := by omega
  have hP1 := hP0.kept hR.1.1 s2
  have hE1 := e0.trans s2
  have hs1 : f_X8_reckonSums w A = some (nI a1, A1) := rs_run hR.1 hpa s1 (by have := hP.2.2.2.1; omega) hP1 h1 (by rw [h35]; decide)
  obtain ⟨B1, r1, r2, r3⟩ := s6 B (EqR.refl B)
  have h3' : cB bb = 8 ∨ cB bb = 11 ∨ cB bb = 43 := by rcases h3 with h | h; exact Or.inl h; exact Or.inr (Or.inl h)
  have c41 : A1 w 4 = nI c := by rw [hE1.2 4 (by decide)]; exact hc4
  have hAt : AtG w b q g A1 := (hR.kept hE1 (B' := B) (fun _ _ _ => rfl)).1
  have hco : f_X8_carryOut w (nI a1) A1 = f_X8_branch w (nI a1) (nI a') A1 := by
    rw [co_run hR.1.1 hP1 h1, h35, ha, if_neg (by decide), if_neg (by decide), if_neg (by decide), if_neg (by decide), if_neg (by decide), if_neg (by decide), if_pos rfl]
  unfold Wb at hw
  unfold Ws at hs
  by_cases h50 : c = 50
  · subst h50
    have hRk := hR.kept hE1 (B' := B) (fun _ _ _ => rfl)
    obtain ⟨k1, k2, k3⟩ := idle_gr (e := e) (S := S) (oA := oA) (rA := rA) (cB := cB) (p := p) (len := len) (A := A) (B := B) (a := a) (bb := bb) hRk (hI.eqw hR.1.1 hE1) hP hc (hE1.ef hR.1.1) (EfB.refl s g B) (hRep.same (hE1.1 _ (by omega) (by omega)) rfl) (by rw [hE1.1 q (by omega) (by omega)]; exact hpa) hpb hS
    refine Or.inl ⟨_, _, _, _, a, hs1, ?_, fun k => wk_over hg hpb hc (by omega) h3', k1, k2, k3⟩
    rw [hco, f_X8_branch, over_ge hAt c41, bd2_e, if_neg (show ¬ (1 : Int32) = 0 by decide)]
  · have hlt : c < 50 := by omega
    have p0 : (wr A1 w 4 (nI (c + 1))) w 3 = nI (0 + 1) := by rw [wr_col (by decide)]; exact s3
    obtain ⟨A2, p1, p2, p3, p4⟩ := pop_run (h := 0) p0 (by omega)
    rw [wr_ne (show w + 1 ≠ w by omega), s4] at p1
    have hRk := ((hR.kept hE1 (B' := B1) r1.1).w4 (v := nI (c + 1))).kept p2 (B' := B1) (fun _ _ _ => rfl)
    have efA := (w4_ef (v := nI (c + 1)) hR.1.1 hg hq (hE1.ef hR.1.1)).trans (p2.ef (q := q) hR.1.1)
    have efB := EqR.ef (g := g) hR.2.1 r1
    have hIk := (InvC.w4 (v := nI (c + 1)) hR.1.1 (hI.eqw hR.1.1 hE1)).eqw hR.1.1 p2
    have hRep' : Rep q s g e A2 B1 := hRep.same (by rw [p2.1 _ (by omega) (by omega), wr_ne (by omega), hE1.1 _ (by omega) (by omega)]) (r1.1 _ (by omega) (by omega))
    have hAt4 : AtG w b q g (wr A1 w 4 (nI (c + 1))) := ⟨hAt.1, hAt.2.1, hAt.2.2.1, by rw [wr_col (by decide)]; exact hAt.2.2.2⟩
    have hbr : f_X8_branch w (nI a1) (nI a') A1 = some (0, wr A2 q 9 (if v = 0 then nI a' else nI (a1 + 1))) := by
      rw [f_X8_branch, over_lt (w := w) (b := b) (q := q) (g := g) c41 hlt, bd2_e, if_pos rfl, if_pos hAt4.okr, p1, bd2_e, hAt4.rid, n_suc, lz_e, lz_e]
    have hgo : f_X11_goOn 69 s (nI g) (cB bb) (nI bb) B = some (posB s g (if v = 0 then nI b' else nI (b1 + 1)) B1) := by
      have z1 : ¬ cB bb = 43 := by rcases h3 with h | h <;> rw [h] <;> decide
      have z2 : ¬ cB bb = 2 := by rcases h3 with h | h <;> rw [h] <;> decide
      have h74 : B1 (69 + 5) = cB := (r1.1 74 (by omega) (by omega)).trans hc
      rw [f_X11_goOn, if_neg z1, if_neg z2, ga2, r3, bd2_e, g10 hg, h74, r2]
      simp only [ga1, ga4, inT (show 10 * g + 4 < 40 by omega) (by decide), inT hbl (by decide), if_true, ixn (show 10 * g + 4 < 2147483648 by omega), ixn (show bb + 1 < 2147483648 by omega), hb, lz_e]
      by_cases hv : v = 0
      · rw [if_pos hv, if_pos hv, bd1_e]; rfl
      · rw [if_neg hv, if_neg hv, bd1_e]; rfl
    have hrk := rk_le oA
    by_cases hv : v = 0
    · obtain ⟨k1, k2, k3⟩ := pos_gr (S := S) (oA := oA) (rA := rA) (cB := cB) (p := p) (len := len) (A := A) (B := B) (a' := a') (b' := b') hRk hIk hP hc efA efB hRep' hS2
      refine Or.inr ⟨_, _, _, _, a', c + 1, hs1, ?_, fun k => ?_, k1, k2, k3, ?_, by omega, by have := hrk a'; omega⟩
      · rw [hco, hbr, if_pos hv]
      · rw [wk_on hg hpb hc (by omega) h3' hlt, hgo, bd1_e, if_pos hv]
      · rw [wr_ne (by omega), p2.2 4 (by decide), wr_at]
    · obtain ⟨k1, k2, k3⟩ := pos_gr (S := S) (oA := oA) (rA := rA) (cB := cB) (p := p) (len := len) (A := A) (B := B) (a' := a1 + 1) (b' := b1 + 1) hRk hIk hP hc efA efB hRep' hS1
      refine Or.inr ⟨_, _, _, _, a1 + 1, c + 1, hs1, ?_, fun k => ?_, k1, k2, k3, ?_, by omega, by have := hrk (a1 + 1); omega⟩
      · rw [hco, hbr, if_neg hv]
      · rw [wk_on hg hpb hc (by omega) h3' hlt, hgo, bd1_e, if_neg hv]
      · rw [wr_ne (by omega), p2.2 4 (by decide), wr_at]
theorem step_again {d a' b' : Nat} {e0 : List Nat} (hR : Rd w b q g s A B) (hI : InvC b A) (hP : Prg b p len oA rA A) (hc : B 74 = cB) (hpa : A q 9 = nI a) (hpb : B (s + 6) (10 * g + 4) = nI bb) (hS : S a bb e) (hRep : Rep q s g e A B) (hc4 : A w 4 = nI c) (hc50 : c ≤ 50) (h1 : a + 1 < len) (h2 : bb + 2 < 4000) (h3 : oA a = 0) (h3' : oA (a + 1) = 37) (h4 : cB bb = 43) (hee : e = d :: e0) (hd : rA a = nI d) (hd9 : d < 9) (hde : ¬ d ∈ e0) (he : e0.length < 8) (hb1 : cB (bb + 1) = nI e0.length) (hS1 : S (a + 2) (bb + 3) e) (ha : rA (a + 1) = nI a') (hb : cB (bb + 2) = nI b') (hS2 : S a' b' e0) : StepOK w b q g s p len oA rA cB S c a A B := by
  have hw := hR.1.1
  have hg := hR.1.2.1
  have hq := hR.1.2.2.1
  have hs := hR.2.1
  obtain ⟨A1, s1, hE1, s3, s4⟩ := num_run hR hP hpa h1 h3 (by rw [h3']; decide)
  have hP1 := hP.kept hR.1.1 hE1
  have hAt : AtG w b q g A1 := (hR.kept hE1 (B' := B) (fun _ _ _ => rfl)).1
  have c41 : A1 w 4 = nI c := by rw [hE1.2 4 (by decide)]; exact hc4
  have hco : f_X8_carryOut w (nI (a + 1)) A1 = f_X8_repeat w (nI (a + 1)) (nI a') A1 := by
    rw [co_run hR.1.1 hP1 h1, h3', ha, if_neg (by decide), if_neg (by decide), if_neg (by decide), if_neg (by decide), if_neg (by decide), if_neg (by decide), if_neg (by decide), if_neg (by decide), if_pos rfl]
  have h3w : cB bb = 8 ∨ cB bb = 11 ∨ cB bb = 43 := Or.inr (Or.inr h4)
  unfold Wb at hw
  unfold Ws at hs
  by_cases h50 : c = 50
  · subst h50
    have hRk := hR.kept hE1 (B' := B) (fun _ _ _ => rfl)
    obtain ⟨k1, k2, k3⟩ := idle_gr (e := e) (S := S) (oA := oA) (rA := rA) (cB := cB) (p := p) (len := len) (A := A) (B := B) (a := a) (bb := bb) hRk (hI.eqw hR.1.1 hE1) hP hc (hE1.ef hR.1.1) (EfB.refl s g B) (hRep.same (hE1.1 _ (by omega) (by omega)) rfl) (by rw [hE1.1 q (by omega) (by omega)]; exact hpa) hpb hS
    refine Or.inl ⟨_, _, _, _, a, s1, ?_, fun k => wk_over hg hpb hc (by omega) h3w, k1, k2, k3⟩
    rw [hco, f_X8_repeat, over_ge hAt c41, bd2_e, if_neg (show ¬ (1 : Int32) = 0 by decide)]
  · have hlt : c < 50 := by omega
    have p0 : (wr A1 w 4 (nI (c + 1))) w 3 = nI (0 + 1) := by rw [wr_col (by decide)]; exact s3
    obtain ⟨A2, p1, p2, p3, p4⟩ := pop_run (h := 0) p0 (by omega)
    rw [wr_ne (show w + 1 ≠ w by omega), s4, hd] at p1
    have hRk := ((hR.kept hE1 (B' := B) (fun _ _ _ => rfl)).w4 (v := nI (c + 1))).kept p2 (B' := B) (fun _ _ _ => rfl)
    have efA := (w4_ef (v := nI (c + 1)) hR.1.1 hg hq (hE1.ef hR.1.1)).trans (p2.ef (q := q) hR.1.1)
    have hIk := (InvC.w4 (v := nI (c + 1)) hR.1.1 (hI.eqw hR.1.1 hE1)).eqw hR.1.1 p2
    have e1q : A2 (q + 1) = A (q + 1) := by rw [p2.1 _ (by omega) (by omega), wr_ne (by omega), hE1.1 _ (by omega) (by omega)]
    have hRep' : Rep q s g (d :: e0) A2 B := by rw [← hee]; exact hRep.same e1q rfl
    obtain ⟨hr1, hr2⟩ := hRep'
    have hAtk := hRk.1
    have hdI : 0 ≤ (nI d).toInt ∧ (nI d).toInt < ((9 : Nat) : Int) := inN hd9
    have nd0 : ¬ nI d < 0 := by rw [i_lt, i_nI (by omega)]; show ¬ (d : Int) < 0; omega
    have nd9 : ¬ (9 : Int32) ≤ nI d := by rw [i_le, i_nI (by omega)]; show ¬ (9 : Int) ≤ (d : Int); omega
    have hrk := rk_le oA
    have A2w4 : A2 w 4 = nI (c + 1) := by rw [p2.2 4 (by decide), wr_at]
    have hrep : f_X8_repeat w (nI (a + 1)) (nI a') A1 = (if A2 (q + 1) d ≤ 0 then some (0, wr A2 q 9 (nI a')) else some (0, wr (wr A2 (q + 1) d (A2 (q + 1) d - 1)) q 9 (nI (a + 2)))) := by
      have hAd : AtG w b q g (wr A2 (q + 1) d (A2 (q + 1) d - 1)) := ⟨hAtk.1, hAtk.2.1, hAtk.2.2.1, by rw [wr_ne (by omega)]; exact hAtk.2.2.2⟩
      rw [f_X8_repeat, over_lt (w := w) (b := b) (q := q) (g := g) c41 hlt, bd2_e, if_pos rfl, p1, bd2_e, if_neg nd0, if_pos hAtk.okr, if_neg nd9, if_pos hAtk.okr, if_pos hdI, hAtk.rid, ixn (show d < 2147483648 by omega)]
      by_cases hz : A2 (q + 1) d ≤ 0
      · rw [if_pos hz, if_pos hz, if_pos hAtk.okr, lz_e, bd1_e]
      · rw [if_neg hz, if_neg hz, if_pos hAtk.okr, if_pos hdI, if_pos hdI, lz_e, if_pos hAd.okr, hAd.rid, n_suc, lz_e, bd1_e]
    have hgo : f_X11_goOn 69 s (nI g) (cB bb) (nI bb) B = (if A2 (q + 1) d ≤ 0 then some (posB s g (nI b') B) else some (posB s g (nI (bb + 3)) (wr B (s + 7) (8 * g + e0.length) (B (s + 7) (8 * g + e0.length) - 1)))) := by
      rw [h4, f_X11_goOn, if_pos rfl, ga1, if_pos (inN (show bb + 1 < 4000 by omega)), hc, ixn (show bb + 1 < 2147483648 by omega), hb1, g8 hg, n_add, lz_e, if_pos (inN (show 8 * g + e0.length < 32 by omega)), ixn (show 8 * g + e0.length < 2147483648 by omega), ← hr1, g10 hg]
      simp only [ga2, ga3, ga4, inT (show 8 * g + e0.length < 32 by omega) (by decide), inT (show 10 * g + 4 < 40 by omega) (by decide), inT (show bb + 2 < 4000 by omega) (by decide), if_true, ixn (show 10 * g + 4 < 2147483648 by omega), ixn (show bb + 2 < 2147483648 by omega), lz_e]
      by_cases hz : A2 (q + 1) d ≤ 0
      · rw [if_pos hz, if_pos hz]
        simp only [if_true, bd1_e]
        rw [hc, hb]; rfl
      · rw [if_neg hz, if_neg hz]
        simp only [if_neg (show ¬ (1 : Int32) = 0 by decide), bd1_e]
        rfl
    by_cases hz : A2 (q + 1) d ≤ 0
    · obtain ⟨k1, k2, k3⟩ := pos_gr (S := S) (oA := oA) (rA := rA) (cB := cB) (p := p) (len := len) (A := A) (B := B) (a' := a') (b' := b') hRk hIk hP hc efA (EfB.refl s g B) hr2 hS2
      refine Or.inr ⟨_, _, _, _, a', c + 1, s1, ?_, fun k => ?_, k1, k2, k3, ?_, by omega, by have := hrk a'; omega⟩
      · rw [hco, hrep, if_pos hz]
      · rw [wk_on hg hpb hc (by omega) h3w hlt, hgo, if_pos hz, bd1_e]
      · rw [wr_ne (by omega)]; exact A2w4
    · have hRd : Rd w b q g s (wr A2 (q + 1) d (A2 (q + 1) d - 1)) (wr B (s + 7) (8 * g + e0.length) (B (s + 7) (8 * g + e0.length) - 1)) := by
        obtain ⟨⟨k1, k2, k3, k4⟩, ks, hC, hSS, hW, hG, hIg, hD⟩ := hRk
        refine ⟨⟨k1, k2, k3, by rw [wr_ne (by omega)]; exact k4⟩, ks, ?_, ?_, ?_, ?_, ?_, ?_⟩
        · intro k hk
          simp (disch := omega) only [wr_r]
          exact hC k hk
        · unfold SimS at *
          simp (disch := omega) only [wr_r]
          exact hSS
        · intro k hk
          simp (disch := omega) only [wr_r]
          exact hW k hk
        · unfold SimG at *
          simp (disch := omega) only [wr_r]
          exact hG
        · unfold InvG at *
          simp (disch := omega) only [wr_r]
          exact hIg
        · simp (disch := omega) only [wr_r]
          exact hD
      have hId : InvC b (wr A2 (q + 1) d (A2 (q + 1) d - 1)) := by
        intro k hk
        simp (disch := omega) only [wr_ne]
        exact hIk k hk
      have efA2 : EfA w b q A (wr A2 (q + 1) d (A2 (q + 1) d - 1)) := efA.trans ⟨fun i _ _ _ _ _ _ _ _ h9 => wr_ne h9, fun j _ _ _ => by rw [wr_ne (by omega)], fun j _ _ => by rw [wr_ne (by omega)]⟩
      have efB2 : EfB s g B (wr B (s + 7) (8 * g + e0.length) (B (s + 7) (8 * g + e0.length) - 1)) := ⟨fun i _ _ _ _ _ _ _ _ h => wr_ne h, fun j _ => by rw [wr_ne (by omega)], fun j _ _ _ => by rw [wr_ne (by omega)], fun k _ => by rw [wr_ne (by omega)], fun k hk => wr_col (by omega)⟩
      have hRep2 : Rep q s g e (wr A2 (q + 1) d (A2 (q + 1) d - 1)) (wr B (s + 7) (8 * g + e0.length) (B (s + 7) (8 * g + e0.length) - 1)) := by
        rw [hee]
        refine ⟨by rw [wr_at, wr_at, hr1], Rep.congr (fun x hx => ?_) (fun k hk => ?_) hr2⟩
        · have hxd : x ≠ d := fun h => hde (by rw [← h]; exact hx)
          rw [wr_col hxd]
        · rw [wr_col (by omega)]
      obtain ⟨k1, k2, k3⟩ := pos_gr (S := S) (oA := oA) (rA := rA) (cB := cB) (p := p) (len := len) (A := A) (B := B) (a' := a + 2) (b' := bb + 3) hRd hId hP hc efA2 efB2 hRep2 hS1
      refine Or.inr ⟨_, _, _, _, a + 2, c + 1, s1, ?_, fun k => ?_, k1, k2, k3, ?_, by omega, by have := hrk (a + 2); omega⟩
      · rw [hco, hrep, if_neg hz]
      · rw [wk_on hg hpb hc (by omega) h3w hlt, hgo, if_neg hz, bd1_e]
      · rw [wr_ne (by omega), wr_ne (by omega)]; exact A2w4
end ST
