/-! needs 30 31 32 33 34 35 36 37 38 39 40 41 -/
section AC
variable {s g fr : Nat} {B : Mm}
theorem mis_tail (s g : Nat) (r : Int32) (M : Mm) : (if r = 0 then some (wr M (s + 6) (10 * g + 7) (M (s + 6) (10 * g + 7) + (1 : Int32))) else some M) = some (misB s g r M) := by
  unfold misB; split <;> rfl
theorem act_gen {c : Int32} (hg : g < 4) : f_X11_act 69 s (nI g) c (nI fr) B = bd2 (if c = (2 : Int32) then f_X11_go 69 s (nI g) (nI fr) B else if c = (4 : Int32) then (if 0 ≤ (B (s + 6) (10 * g + 1) * (8 : Int32) + B (s + 6) (10 * g)).toInt ∧ (B (s + 6) (10 * g + 1) * (8 : Int32) + B (s + 6) (10 * g)).toInt < ((64 : Nat) : Int) then (bd1 (if (if B (s + 3) (ix (B (s + 6) (10 * g + 1) * (8 : Int32) + B (s + 6) (10 * g))) ≤ 0 then (0 : Int32) else 1) = 0 then some B else (if 0 ≤ (B (s + 6) (10 * g + 1) * (8 : Int32) + B (s + 6) (10 * g)).toInt ∧ (B (s + 6) (10 * g + 1) * (8 : Int32) + B (s + 6) (10 * g)).toInt < ((64 : Nat) : Int) then some (wr B (s + 5) (ix (B (s + 6) (10 * g + 1) * (8 : Int32) + B (s + 6) (10 * g))) 1) else none)) fun M57 => some ((if B (s + 3) (ix (B (s + 6) (10 * g + 1) * (8 : Int32) + B (s + 6) (10 * g))) ≤ 0 then (0 : Int32) else 1), posB s g (nI fr) M57)) else none) else if c = (6 : Int32) then (bd2 (f_X11_unload 69 s (nI (10 * g)) (B (s + 6) (10 * g + 1) * (8 : Int32) + B (s + 6) (10 * g)) B) fun x39 M40 => some (x39, posB s g (nI fr) M40)) else (bd2 (f_X11_reckon 69 s (nI g) (nI fr) B) fun x11 M12 => if c = (7 : Int32) then some ((1 : Int32), wr (posB s g (M12 69 28) M12) (s + 6) (10 * g + 9) (if x11 ≤ (1 : Int32) then 0 else x11 - (1 : Int32))) else if c = (3 : Int32) then f_X11_cut 69 s (B (s + 6) (10 * g + 1) * (8 : Int32) + B (s + 6) (10 * g)) x11 (posB s g (M12 69 28) M12) else f_X11_load 69 s (nI (10 * g)) (B (s + 6) (10 * g + 1) * (8 : Int32) + B (s + 6) (10 * g)) x11 (posB s g (M12 69 28) M12))) fun r M => some (misB s g r M) := by
  rw [f_X11_act]
  simp only [g10 hg, ga1, ga4, ga7, ga9, inT (show 10 * g < 40 by omega) (by decide), inT (show 10 * g + 1 < 40 by omega) (by decide), inT (show 10 * g + 4 < 40 by omega) (by decide), inT (show 10 * g + 7 < 40 by omega) (by decide), inT (show 10 * g + 9 < 40 by omega) (by decide), if_true, ixn (show 10 * g < 2147483648 by omega), ixn (show 10 * g + 1 < 2147483648 by omega), ixn (show 10 * g + 4 < 2147483648 by omega), ixn (show 10 * g + 7 < 2147483648 by omega), ixn (show 10 * g + 9 < 2147483648 by omega), lz_e, cell_comm, bd2_id, mis_tail]
  rfl
end AC
section ST
variable {w b q g s p len a bb c : Nat} {oA rA cB : Nat → Int32} {S : PS} {e : List Nat} {A B : Mm}
theorem ActOK.end {pa nx : Nat} {A1 B1 A' B' : Mm} (h : ActOK w b q g s pa A1 (posB s g (nI nx) B1) A' B') : EndOK w b q g s pa nx A1 B1 A' B' := by
  obtain ⟨h1, h2, h3, h4, h5, h6, h7, h8⟩ := h
  have hs := h1.2.1
  refine ⟨h1, h2, h3, (EfB.pos hs g _ B1).trans h4, h5, ?_, Or.inl ⟨h8, h7.trans (wr_at _ _ _ _)⟩⟩
  unfold Ws at hs
  exact h6.trans (posB_r (by omega))
theorem step_sum {n a1 b1 : Nat} {t : Bool} {x y : Int32} (hR : Rd w b q g s A B) (hI : InvC b A) (hP : Prg b p len oA rA A) (hc : B 74 = cB) (hpa : A q 9 = nI a) (hpb : B (s + 6) (10 * g + 4) = nI bb) (hS : S a bb e) (hRep : Rep q s g e A B) (hxy : (x, y) ∈ [((30 : Int32), (3 : Int32)), (32, 5), (34, 7)]) (h1 : a1 < len) (h2 : b1 < 3999) (h3 : cB bb = y) (hSeg : Seg oA rA cB n a (bb + 1) [] a1 b1 [t]) (h61 : cB b1 = 61) (hx : oA a1 = x) (hS1 : S (a1 + 1) (b1 + 1) e) : StepOK w b q g s p len oA rA cB S c a A B := by
  have hg := hR.1.2.1
  have e0 := A0_eqw w A
  have hR0 := hR.kept e0 (B' := B) (fun _ _ _ => rfl)
  have hP0 := hP.kept hR.1.1 e0
  obtain ⟨A1, v, s1, s2, s3, s4, -, s6⟩ := sum_run (base := 0) (by omega) hSeg hR0 hP0 hc (by omega) h2 (wr_at _ _ _ _) h61
  have hl := hSeg.len
  have hP1 := hP0.kept hR.1.1 s2
  have hE1 := e0.trans s2
  obtain ⟨B1, r1, r2, r3⟩ := s6 B (EqR.refl B)
  have hR1 := hR.kept hE1 r1.1
  have hI1 := hI.eqw hR.1.1 hE1
  have hRp := hR1.pos (nI (b1 + 1))
  have hy : y = 3 ∨ y = 5 ∨ y = 7 := by
    simp only [List.mem_cons, List.not_mem_nil, or_false, Prod.mk.injEq] at hxy
    rcases hxy with ⟨-, rfl⟩ | ⟨-, rfl⟩ | ⟨-, rfl⟩ <;> simp
  have hx28 : 28 < x.toInt := by
    simp only [List.mem_cons, List.not_mem_nil, or_false, Prod.mk.injEq] at hxy
    rcases hxy with ⟨rfl, -⟩ | ⟨rfl, -⟩ | ⟨rfl, -⟩ <;> decide
  have hs1 : f_X8_reckonSums w A = some (nI a1, A1) := rs_run hR.1 hpa s1 (by have := hP.2.2.2.1; omega) hP1 h1 (by rw [hx]; exact hx28)
  have hw := hR.1.1
  have hq := hR.1.2.2.1
  unfold Wb at hw
  -- the cell
  have hG := hR.2.2.2.2.2.1
  have eAq : A1 q = A q := hE1.1 q (by omega) (by omega)
  have hcl : B (s + 6) (10 * g + 1) * (8 : Int32) + B (s + 6) (10 * g) = A1 q 1 * (8 : Int32) + A1 q 0 := by rw [eAq, hG.1, hG.2.1]
  have hwk : ∀ k, f_X11_work_L47 69 s (nI g) (nI (10 * g)) (k + 1) (nI c) B = f_X11_act 69 s (nI g) y (nI (bb + 1)) B := fun k => by
    rw [wk_act hg hpb hc (by omega) (by rw [h3]; rcases hy with h | h | h <;> simp [h]), h3]
  have done : ∀ A' B', f_X8_carryOut w (nI a1) A1 = some (1, A') → f_X11_act 69 s (nI g) y (nI (bb + 1)) B = some B' → ActOK w b q g s a1 A1 (posB s g (nI (b1 + 1)) B1) A' B' → StepOK w b q g s p len oA rA cB S c a A B := by
    intro A' B' k1 k2 k3
    obtain ⟨a', m1, m2, m3⟩ := EndOK.fin hP hc hpa hpb hS hRep hE1 r1 k3.end hS1
    exact Or.inl ⟨_, _, _, _, a', hs1, k1, fun k => (hwk k).trans k2, m1, m2, m3⟩
  simp only [List.mem_cons, List.not_mem_nil, or_false, Prod.mk.injEq] at hxy
  rcases hxy with ⟨rfl, rfl⟩ | ⟨rfl, rfl⟩ | ⟨rfl, rfl⟩
  · obtain ⟨A', B', r, k1, k2, k3⟩ := cut_run (pa := a1) hRp hI1 s3 s4 rfl
    refine done A' _ ?_ ?_ k3
    · rw [co_run hR.1.1 hP1 h1, hx, if_neg (by decide), if_pos rfl, k1]
    · rw [act_gen hg, if_neg (by decide), if_neg (by decide), if_neg (by decide), r3, bd2_e, if_neg (by decide), if_pos rfl, hcl, r2, k2, bd2_e]
  · obtain ⟨A', B', r, k1, k2, k3⟩ := load_run (pa := a1) hRp hI1 s3 s4 rfl
    refine done A' _ ?_ ?_ k3
    · rw [co_run hR.1.1 hP1 h1, hx, if_neg (by decide), if_neg (by decide), if_neg (by decide), if_pos rfl, k1]
    · rw [act_gen hg, if_neg (by decide), if_neg (by decide), if_neg (by decide), r3, bd2_e, if_neg (by decide), if_neg (by decide), hcl, r2, k2, bd2_e]
  · obtain ⟨A', k1, k3⟩ := wait_run (pa := a1) hRp hI1 s3 s4
    refine done A' _ ?_ ?_ k3
    · rw [co_run hR.1.1 hP1 h1, hx, if_neg (by decide), if_neg (by decide), if_neg (by decide), if_neg (by decide), if_neg (by decide), if_pos rfl, k1]
    · rw [act_gen hg, if_neg (by decide), if_neg (by decide), if_neg (by decide), r3, bd2_e, if_pos rfl, bd2_e, r2]
      unfold misB
      rw [if_neg (show ¬ (1 : Int32) = 0 by decide)]
theorem mis_pos (s g : Nat) (r v : Int32) (B : Mm) : misB s g r (posB s g v B) = posB s g v (misB s g r B) := by
  unfold misB posB
  split
  · funext i j
    simp only [wr]
    by_cases hi : i = s + 6
    · by_cases h4 : j = 10 * g + 4
      · have : ¬ j = 10 * g + 7 := by omega
        simp [hi, h4]
      · simp [hi, h4]
    · simp [hi]
  · rfl
theorem step_plain {x y : Int32} (hR : Rd w b q g s A B) (hI : InvC b A) (hP : Prg b p len oA rA A) (hc : B 74 = cB) (hpa : A q 9 = nI a) (hpb : B (s + 6) (10 * g + 4) = nI bb) (hS : S a bb e) (hRep : Rep q s g e A B) (hxy : (x, y) ∈ [((31 : Int32), (4 : Int32)), (33, 6)]) (h1 : a < len) (h2 : bb + 1 < 4000) (hx : oA a = x) (h3 : cB bb = y) (hS1 : S (a + 1) (bb + 1) e) : StepOK w b q g s p len oA rA cB S c a A B := by
  have hg := hR.1.2.1
  have e0 := A0_eqw w A
  have hR0 := hR.kept e0 (B' := B) (fun _ _ _ => rfl)
  have hP0 := hP.kept hR.1.1 e0
  have hI0 := hI.eqw hR.1.1 e0
  have hx28 : 28 < x.toInt := by
    simp only [List.mem_cons, List.not_mem_nil, or_false, Prod.mk.injEq] at hxy
    rcases hxy with ⟨rfl, -⟩ | ⟨rfl, -⟩ <;> decide
  have hs1 : f_X8_reckonSums w A = some (nI a, wr A w 3 0) := rs_run (n := 0) (pa := a) hR.1 hpa (fun k => by rw [Nat.zero_add]) (by omega) hP0 h1 (by rw [hx]; exact hx28)
  generalize wr A w 3 0 = A0 at *
  have hw := hR.1.1
  have hq := hR.1.2.2.1
  unfold Wb at hw
  have hG := hR0.2.2.2.2.2.1
  have hcl : B (s + 6) (10 * g + 1) * (8 : Int32) + B (s + 6) (10 * g) = A0 q 1 * (8 : Int32) + A0 q 0 := by rw [hG.1, hG.2.1]
  have hcell := hR0.cell
  have hy : y = 4 ∨ y = 6 := by
    simp only [List.mem_cons, List.not_mem_nil, or_false, Prod.mk.injEq] at hxy
    rcases hxy with ⟨-, rfl⟩ | ⟨-, rfl⟩ <;> simp
  have hwk : ∀ k, f_X11_work_L47 69 s (nI g) (nI (10 * g)) (k + 1) (nI c) B = f_X11_act 69 s (nI g) y (nI (bb + 1)) B := fun k => by
    rw [wk_act hg hpb hc (by omega) (by rw [h3]; rcases hy with h | h <;> simp [h]), h3]
  have done : ∀ A' B', f_X8_carryOut w (nI a) A0 = some (1, A') → f_X11_act 69 s (nI g) y (nI (bb + 1)) B = some B' → EndOK w b q g s a (bb + 1) A0 B A' B' → StepOK w b q g s p len oA rA cB S c a A B := by
    intro A' B' k1 k2 k3
    obtain ⟨a', m1, m2, m3⟩ := EndOK.fin hP hc hpa hpb hS hRep e0 (EqR.refl B) k3 hS1
    exact Or.inl ⟨_, _, _, _, a', hs1, k1, fun k => (hwk k).trans k2, m1, m2, m3⟩
  simp only [List.mem_cons, List.not_mem_nil, or_false, Prod.mk.injEq] at hxy
  rcases hxy with ⟨rfl, rfl⟩ | ⟨rfl, rfl⟩
  · obtain ⟨A', B', r, k1, rfl, rfl, k3⟩ := turn_run (pa := a) (nb := nI (bb + 1)) hR0 hI0 rfl
    refine done A' _ ?_ ?_ k3.end
    · rw [co_run hR.1.1 hP0 h1, hx, if_neg (by decide), if_neg (by decide), if_pos rfl, k1]
    · rw [act_gen hg, if_neg (by decide), if_pos rfl, hcl, if_pos hcell, if_pos hcell]
      by_cases hz : (if B (s + 3) (ix (A0 q 1 * (8 : Int32) + A0 q 0)) ≤ 0 then (0 : Int32) else 1) = 0
      · rw [if_pos hz, bd1_e, bd2_e, if_pos hz]
      · rw [if_neg hz, bd1_e, bd2_e, if_neg hz]
  · obtain ⟨A', B', r, k1, k2, k3⟩ := unload_run (pa := a) hR0 hI0 rfl
    obtain ⟨m1, m2, m3, m4, m5, m6, m7, m8⟩ := k3
    have hs := hR.2.1
    refine done A' (posB s g (nI (bb + 1)) (misB s g r B')) ?_ ?_ ⟨m1.pos _, m2, m3, m4.trans (EfB.pos hR.2.1 g _ _), m5, ?_, Or.inl ⟨m8, wr_at _ _ _ _⟩⟩
    · rw [co_run hR.1.1 hP0 h1, hx, if_neg (by decide), if_neg (by decide), if_neg (by decide), if_neg (by decide), if_pos rfl, k1]
    · rw [act_gen hg, if_neg (by decide), if_neg (by decide), if_pos rfl, hcl, k2, bd2_e, bd2_e, mis_pos]
    · unfold Ws at hs
      rw [posB_r (by omega)]; exact m6
theorem step_go {n a1 b1 m a2 b2 : Nat} {t u : Bool} (hR : Rd w b q g s A B) (hI : InvC b A) (hP : Prg b p len oA rA A) (hc : B 74 = cB) (hpa : A q 9 = nI a) (hpb : B (s + 6) (10 * g + 4) = nI bb) (hS : S a bb e) (hRep : Rep q s g e A B) (hc4 : A w 4 = nI c) (hc50 : c ≤ 50) (h1 : a2 < len) (h2 : b2 < 3999) (h3 : cB bb = 2) (hS1 : Seg oA rA cB n a (bb + 1) [] a1 b1 [t]) (h61 : cB b1 = 61) (hS2 : Seg oA rA cB m a1 (b1 + 1) [] a2 b2 [u]) (h61' : cB b2 = 61) (hx : oA a2 = 29) (hSS : S (a2 + 1) (b2 + 1) e) : StepOK w b q g s p len oA rA cB S c a A B := by
  have hg := hR.1.2.1
  have l1 := hS1.len
  have l2 := hS2.len
  have e0 := A0_eqw w A
  have hR0 := hR.kept e0 (B' := B) (fun _ _ _ => rfl)
  have hP0 := hP.kept hR.1.1 e0
  have hw := hR.1.1
  have hq := hR.1.2.2.1
  have hs := hR.2.1
  unfold Wb at hw
  unfold Ws at hs
  obtain ⟨A1, x, s1, s2, s3, s4, -, s6⟩ := sum_run (base := 0) (by omega) hS1 hR0 hP0 hc (by omega) (by omega) (wr_at _ _ _ _) h61
  have hP1 := hP0.kept hR.1.1 s2
  have hE1 := e0.trans s2
  have hR1 := hR.kept hE1 (B' := B) (fun _ _ _ => rfl)
  obtain ⟨A2, y, t1, t2, t3, t4, t0, t6⟩ := sum_run (base := 1) (by omega) hS2 hR1 hP1 hc (by omega) h2 s3 h61'
  have hP2 := hP1.kept hR.1.1 t2
  have hE2 := hE1.trans t2
  have hx0 : A2 (w + 1) 0 = x := (t0 0 (by omega)).trans s4
  have hsum : ∀ B', EqR B B' → ∃ B1 B2, EqR B' B2 ∧ B2 69 28 = nI (b2 + 1) ∧ f_X11_reckon 69 s (nI g) (nI (bb + 1)) B' = some (x, B1) ∧ f_X11_reckon 69 s (nI g) (B1 69 28) B1 = some (y, B2) := by
    intro B' hB'
    obtain ⟨B1, i1, i2, i3⟩ := s6 B' hB'
    obtain ⟨B2, j1, j2, j3⟩ := t6 B1 (hB'.trans i1)
    exact ⟨B1, B2, i1.trans j1, j2, i3, by rw [i2]; exact j3⟩
  have hs1 : f_X8_reckonSums w A = some (nI a2, A2) := rs_run (n := n + m) hR.1 hpa (fun k => by rw [Nat.add_assoc, s1, t1]) (by have := hP.2.2.2.1; omega) hP2 h1 (by rw [hx]; decide)
  obtain ⟨B1, B2, j1, j2, j3, j4⟩ := hsum B (EqR.refl B)
  have hR2 := hR.kept hE2 j1.1
  have hR2' := hR.kept hE2 (B' := B) (fun _ _ _ => rfl)
  have hI2 := hI.eqw hR.1.1 hE2
  have hG := hR2.2.2.2.2.2.1
  have hco : f_X8_carryOut w (nI a2) A2 = f_X8_go w (nI a2) A2 := by
    rw [co_run hR.1.1 hP2 h1, hx, if_pos rfl]
  have hth : f_X11_isThere 69 s (nI g) (nI (bb + 1)) B = some (if x = A2 q 0 ∧ y = A2 q 1 then 1 else 0, B2) := by
    rw [f_X11_isThere, j3, bd2_e, j4, bd2_e]
    simp only [g10 hg, ga1, inT (show 10 * g < 40 by omega) (by decide), inT (show 10 * g + 1 < 40 by omega) (by decide), if_true, ixn (show 10 * g < 2147483648 by omega), ixn (show 10 * g + 1 < 2147483648 by omega), ← hG.1, ← hG.2.1]
    by_cases q1 : x = A2 q 0
    · by_cases q2 : y = A2 q 1
      · rw [if_pos q1, if_pos q2, if_pos ⟨q1, q2⟩]
      · rw [if_pos q1, if_neg q2, if_neg (fun h => q2 h.2)]
    · rw [if_neg q1, if_neg (fun h => q1 h.1)]
  by_cases hat : x = A2 q 0 ∧ y = A2 q 1
  · -- it is there
    rw [if_pos hat] at hth
    have c41 : A2 w 4 = nI c := by rw [hE2.2 4 (by decide)]; exact hc4
    obtain ⟨P1, p1, p2, p3, p4⟩ := pop_run (h := 1) t3 (by omega)
    obtain ⟨P2, q1, q2, q3, q4⟩ := pop_run (h := 0) p3 (by omega)
    have hE3 := hE2.trans (p2.trans q2)
    have hR3 := hR.kept hE3 j1.1
    have hI3 := hI.eqw hR.1.1 hE3
    have hc3 : P2 w 4 = nI c := by rw [hE3.2 4 (by decide)]; exact hc4
    have e3q : P2 q = A2 q := (p2.trans q2).1 q (by omega) (by omega)
    have hcell : f_X9_isCell x y = 1 := by
      have hv := hR2.2.2.2.2.2.2.1
      rw [(isCell_run x y).1, if_pos]
      rw [hat.1, hat.2]
      exact ⟨hv.1, hv.2.1⟩
    have hgoA : f_X8_go w (nI a2) A2 = bd2 (f_X8_isHourOver w P2) fun x83 M84 => if x83 = 0 then (if okr 1 (M84 w 1) then some ((0 : Int32), wr M84 (rid (M84 w 1)) 9 (nI (a2 + 1))) else none) else some ((1 : Int32), M84) := by
      rw [f_X8_go, p1, bd2_e, q1, bd2_e, p4, hx0, t4, lz_e, hcell, if_neg (show ¬ (1 : Int32) = 0 by decide), if_pos hR3.1.okr, hR3.1.rid, e3q, if_pos hat.1, if_pos hR3.1.okr, if_pos hat.2, n_suc]
      simp only [lz_e]
    by_cases h50 : c = 50
    · subst h50
      obtain ⟨k1, k2, k3⟩ := idle_gr (e := e) (S := S) (oA := oA) (rA := rA) (cB := cB) (p := p) (len := len) (A := A) (B := B) (a := a) (bb := bb) hR3 hI3 hP hc (hE3.ef hR.1.1) (EqR.ef (g := g) hR.2.1 j1) (hRep.same (hE3.1 _ (by omega) (by omega)) (j1.1 _ (by omega) (by omega))) (by rw [hE3.1 q (by omega) (by omega)]; exact hpa) (by rw [j1.1 (s + 6) (by omega) (by omega)]; exact hpb) hS
      refine Or.inl ⟨_, _, _, _, a, hs1, ?_, fun k => ?_, k1, k2, k3⟩
      · rw [hco, hgoA, over_ge hR3.1 hc3, bd2_e, if_neg (show ¬ (1 : Int32) = 0 by decide)]
      · rw [wk_go hg hpb hc (by omega) h3 hth, if_neg (show ¬ (1 : Int32) = 0 by decide), if_pos (by rfl)]
    · have hlt : c < 50 := by omega
      obtain ⟨C1, C2, c1, c2, c3, c4⟩ := hsum B2 j1
      have hBC := j1.trans c1
      have hRk := ((hR.kept hE3 hBC.1).w4 (v := nI (c + 1)))
      have efA := w4_ef (v := nI (c + 1)) hR.1.1 hg hq (hE3.ef hR.1.1)
      obtain ⟨k1, k2, k3⟩ := pos_gr (S := S) (oA := oA) (rA := rA) (cB := cB) (p := p) (len := len) (A := A) (B := B) (a' := a2 + 1) (b' := b2 + 1) hRk (InvC.w4 hR.1.1 hI3) hP hc efA (EqR.ef (g := g) hR.2.1 hBC) (hRep.same (by rw [wr_ne (by omega), hE3.1 _ (by omega) (by omega)]) (hBC.1 _ (by omega) (by omega))) hSS
      have hgoB : f_X11_goOn 69 s (nI g) 2 (nI bb) B2 = some (posB s g (nI (b2 + 1)) C2) := by
        rw [f_X11_goOn, if_neg (by decide), if_pos rfl, f_X11_isThere, n_suc, c3, bd2_e, c4, bd2_e]
        simp only [g10 hg, ga1, ga4, inT (show 10 * g < 40 by omega) (by decide), inT (show 10 * g + 1 < 40 by omega) (by decide), inT (show 10 * g + 4 < 40 by omega) (by decide), if_true, ixn (show 10 * g < 2147483648 by omega), ixn (show 10 * g + 1 < 2147483648 by omega), ixn (show 10 * g + 4 < 2147483648 by omega), c2, lz_e]
        split
        · split
          · rw [bd2_e, c2]; rfl
          · rw [bd2_e, c2]; rfl
        · rw [bd2_e, c2]; rfl
      have hrk := rk_le oA (a2 + 1)
      refine Or.inr ⟨_, _, _, _, a2 + 1, c + 1, hs1, ?_, fun k => ?_, k1, k2, k3, ?_, by omega, by omega⟩
      · rw [hco, hgoA, over_lt (w := w) (b := b) (q := q) (g := g) hc3 hlt, bd2_e, if_pos rfl, if_pos hRk.1.okr, hRk.1.rid]
      · rw [wk_go hg hpb hc (by omega) h3 hth, if_neg (show ¬ (1 : Int32) = 0 by decide), if_neg (fun z => by have := (n50 hc50).mp z; omega), hgoB, bd1_e, n_suc]
      · rw [wr_ne (by omega), wr_at]
  · rw [if_neg hat] at hth
    obtain ⟨C1, C2, c1, c2, c3, c4⟩ := hsum B2 j1
    obtain ⟨A', B', r, k1, k2, k3⟩ := go_away (pa := a2) (nx := b2 + 1) (fr := bb + 1) hR2 hI2 t3 hx0 t4 c3 c4 c1 c2 (fun h => hat h)
    obtain ⟨a', m1, m2, m3⟩ := EndOK.fin hP hc hpa hpb hS hRep hE2 j1 k3 hSS
    refine Or.inl ⟨_, _, _, _, a', hs1, hco.trans k1, fun k => ?_, m1, m2, m3⟩
    rw [wk_go hg hpb hc (by omega) h3 hth, if_pos rfl, act_gen hg, if_pos rfl, k2, bd2_e]
end ST
