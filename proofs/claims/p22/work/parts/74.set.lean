/-! needs 30 31 32 33 34 35 36 37 38 39 40 41 42 43 44 45 46 47 50 70 72 73 74 -/
/-! setWeather, set and stack in both -/
theorem Rel.bog {H : Nat} {A B A' B' : Mm} (h : Rel H A B) (hb : Bgs 29 83 A B → Wea A → Bgs 29 83 A' B' ∧ Wea A') (hA : ∀ r c, (r < 30 ∨ 37 < r) → r ≠ 28 → A' r c = A r c) (hB : ∀ r c, (r < 72 ∨ (73 < r ∧ r < 84) ∨ 88 < r) → r ≠ 100 → ¬ (r = 69 ∧ c = 0) → B' r c = B r c) : Rel H A' B' := by
  obtain ⟨ng, p, len, oA, rA, cB, S, ⟨r0, ⟨p1, p2, p3, p4, p5, p6⟩, k1, k2, k3, k4, k5⟩, r2, ⟨q, q1, q2, q3⟩, r4, ⟨L, t1, t2, t3, t4⟩, ⟨D, d1, d2, d3, d4⟩, r6, r7⟩ := h
  obtain ⟨n1, n2⟩ := hb r0 r6
  refine ⟨ng, p, len, oA, rA, cB, S, ⟨n1, ⟨p1, (hA _ _ (by omega) (by omega)).trans p2, (hA _ _ (by omega) (by omega)).trans p3, p4, (funext fun c => hA _ c (by omega) (by omega)).trans p5, (funext fun c => hA _ c (by omega) (by omega)).trans p6⟩, (funext fun c => hB _ c (by omega) (by omega) (by omega)).trans k1, (hA _ _ (by omega) (by omega)).trans k2, (hB _ _ (by omega) (by omega) (by omega)).trans k3, k4, fun g hg => ?_⟩, r2, ⟨q, (hA _ _ (by omega) (by omega)).trans q1, q2, q3⟩, ?_, ⟨L, t1, (hA _ _ (by omega) (by omega)).trans t2, (hB _ _ (by omega) (by omega) (by omega)).trans t3, fun k hk => ?_⟩, ⟨D, d1, (hA _ _ (by omega) (by omega)).trans d2, (hB _ _ (by omega) (by omega) (by omega)).trans d3, fun k hk => ?_⟩, n2, ?_⟩
  · exact (k5 g hg).same (funext fun c => hA _ c (by omega) (by omega)) (funext fun c => hA _ c (by omega) (by omega)) (fun k _ => hB _ _ (by omega) (by omega) (by omega)) (fun k _ => hB _ _ (by omega) (by omega) (by omega)) (fun a b e x => (r2 a b e x).2.1)
  · rw [hA 29 8 (by omega) (by omega)]; exact r4
  · rw [hA 1 k (by omega) (by omega), hB 70 k (by omega) (by omega) (by omega)]; exact t4 k hk
  · rw [hA 2 k (by omega) (by omega), hB 71 k (by omega) (by omega) (by omega)]; exact d4 k hk
  · rw [hA 0 4 (by omega) (by omega), hB 69 3 (by omega) (by omega) (by omega)]; exact r7
theorem in_cases (a lo hi : Int32) : (f_X11_isIn a lo hi = 0) ∨ (f_X11_isIn a lo hi = 1 ∧ lo.toInt ≤ a.toInt ∧ a.toInt ≤ hi.toInt) := by
  by_cases h1 : a < lo
  · exact Or.inl (in_l h1)
  · by_cases h2 : hi < a
    · exact Or.inl (in_r h1 h2)
    · refine Or.inr ⟨in_1 h1 h2, ?_, ?_⟩
      · rw [i_lt] at h1; omega
      · rw [i_lt] at h2; omega
theorem setWeather_ok (H : Nat) (a u v : Int32) : OpR H H (fun M => f_L_setWeather 0 a u v 28 M) (fun M => f_X11_setWeather 69 a u v M) := by
  intro A B h
  have g11 : (11 : Int32).toInt = ((12 : Nat) : Int) - 1 := rfl
  by_cases h0 : a < 0
  · refine op_no (c := 1) h ?_ ?_ (by decide)
    · rw [f_L_setWeather, f_X9_setWeather, if_pos h0, bd3_e, if_neg (by decide), if_pos rfl]
    · rw [f_X11_setWeather, lz_e, lz_e, in_l h0, if_pos rfl, f_X11_no, lz_e, bd2_e]
  · by_cases h1 : a < (12 : Int32)
    · have hin := in_1 (lo := 0) (hi := 11) h0 (fun e => (gt_of (N := 12) g11 (by decide)).mp e h1)
      obtain ⟨i, hi, rfl⟩ := nat_of (N := 12) h0 h1 (by decide)
      rcases in_cases u 0 9 with hu | ⟨hu, u1, u2⟩
      · refine op_no (c := 2) h ?_ ?_ (by decide)
        · rw [f_L_setWeather, f_X9_setWeather, if_neg h0, if_pos h1, wi_in, lz_e, hu, if_pos rfl, bd3_e, if_neg (by decide), if_neg (by decide), if_pos rfl]
        · rw [f_X11_setWeather, lz_e, lz_e, hin, if_neg (by decide), lz_e, hu, if_pos rfl, f_X11_no, lz_e, bd2_e]
      · rcases in_cases v 0 9 with hv | ⟨hv, v1, v2⟩
        · refine op_no (c := 2) h ?_ ?_ (by decide)
          · rw [f_L_setWeather, f_X9_setWeather, if_neg h0, if_pos h1, wi_in, lz_e, hu, if_neg (by decide), lz_e, hv, if_pos rfl, bd3_e, if_neg (by decide), if_neg (by decide), if_pos rfl]
          · rw [f_X11_setWeather, lz_e, lz_e, hin, if_neg (by decide), lz_e, hu, if_neg (by decide), lz_e, hv, if_pos rfl, f_X11_no, lz_e, bd2_e]
        · have e0 : (0 : Int32).toInt = 0 := rfl
          have e9 : (9 : Int32).toInt = 9 := rfl
          have hW : SimW 29 A B := by obtain ⟨_, _, _, _, _, _, _, ⟨r0, _⟩, _⟩ := h; exact r0.2.2.1
          obtain ⟨w1, w2⟩ := hW i hi
          have w1' : A 36 i = B 72 i := w1
          have w2' : A 37 i = B 73 i := w2
          refine op_ok (A1 := wr (wr A 36 i u) 37 i v) (B1 := wr (wr (wr B 69 0 0) 72 i u) 73 i v) (v := (10 : Int32) * A 36 i + A 37 i) (h.bog (fun hb hw => ⟨⟨fun k hk => ?_, ?_, fun k hk => ?_, fun k hk => ?_, ?_⟩, fun k hk => ?_⟩) (fun r c h1 h2 => by rw [wr_r (by omega), wr_r (by omega)]) (fun r c h1 h2 h3 => by rw [wr_r (by omega), wr_r (by omega), wr_o (by omega)])) ?_ ?_ (by rw [wr_r (by decide), wr_r (by decide), wr_at]) ((CF.wr A (by decide)).trans (CF.wr _ (by decide))) (((RF.wr B (by decide)).trans (RF.wr _ (by decide))).trans (RF.wr _ (by decide)))
          · have e : ∀ r c, r ≠ 36 → r ≠ 37 → wr (wr A 36 i u) 37 i v r c = A r c := fun r c h1 h2 => by rw [wr_r h2, wr_r h1]
            have e' : ∀ r c, r ≠ 69 → r ≠ 72 → r ≠ 73 → wr (wr (wr B 69 0 0) 72 i u) 73 i v r c = B r c := fun r c h0 h1 h2 => by rw [wr_r h2, wr_r h1, wr_r h0]
            rw [e (29 + 1) k (by decide) (by decide), e (29 + 3) k (by decide) (by decide), e (29 + 4) k (by decide) (by decide), e (29 + 5) k (by decide) (by decide), e (29 + 6) k (by decide) (by decide), e' (83 + 1) k (by decide) (by decide) (by decide), e' (83 + 2) k (by decide) (by decide) (by decide), e' (83 + 3) k (by decide) (by decide) (by decide), e' (83 + 4) k (by decide) (by decide) (by decide), e' (83 + 5) k (by decide) (by decide) (by decide)]
            exact hb.1 k hk
          · unfold SimS
            rw [wr_ne (show 29 ≠ 37 by decide), wr_ne (show 29 ≠ 36 by decide), wr_ne (show 83 ≠ 73 by decide), wr_ne (show 83 ≠ 72 by decide), wr_ne (show 83 ≠ 69 by decide)]
            exact hb.2.1
          · show wr (wr A 36 i u) 37 i v 36 k = _ ∧ wr (wr A 36 i u) 37 i v 37 k = _
            rw [wr_r (show 36 ≠ 37 by decide), wr_r (show 72 ≠ 73 by decide), wr_i, wr_i, wr_i, wr_i, wr_r (show 37 ≠ 36 by decide), wr_r (show 73 ≠ 72 by decide), wr_r (show 72 ≠ 69 by decide), wr_r (show 73 ≠ 69 by decide)]
            have := hb.2.2.1 k hk
            have t1 : A 36 k = B 72 k := this.1
            have t2 : A 37 k = B 73 k := this.2
            rw [t1, t2]
            exact ⟨rfl, rfl⟩
          · rw [wr_r (by decide), wr_r (by decide), wr_r (by decide), wr_r (by decide), wr_r (by decide), wr_r (by decide)]
            exact hb.2.2.2.1 k hk
          · rw [wr_r (by decide), wr_r (by decide)]; exact hb.2.2.2.2
          · rw [wr_r (show 36 ≠ 37 by decide), wr_i, wr_i, wr_r (show 37 ≠ 36 by decide)]
            have := hw k hk
            by_cases z : k = i
            · rw [if_pos z, if_pos z]; omega
            · rw [if_neg z, if_neg z]; exact this
          · show f_L_setWeather 0 (nI i) u v 28 A = _
            rw [f_L_setWeather, f_X9_setWeather, if_neg h0, if_pos h1, wi_in, lz_e, hu, if_neg (by decide), lz_e, hv, if_neg (by decide), if_pos (inN hi), if_pos (inN hi), lz_e, if_pos (inN hi), lz_e, if_pos (inN hi), lz_e, ixn (by omega), bd3_e, if_pos rfl, lz_e]
          · show f_X11_setWeather 69 (nI i) u v B = _
            rw [f_X11_setWeather, lz_e, lz_e, hin, if_neg (by decide), lz_e, hu, if_neg (by decide), lz_e, hv, if_neg (by decide), if_pos (inN hi), if_pos (inN hi), lz_e, if_pos (inN hi), lz_e, if_pos (inN hi), lz_e, ixn (by omega)]
            rw [show wr B 69 0 0 (69 + 3) i = A 36 i from (wr_r (by decide)).trans w1'.symm, show wr B 69 0 0 (69 + 4) i = A 37 i from (wr_r (by decide)).trans w2'.symm]
    · refine op_no (c := 1) h ?_ ?_ (by decide)
      · rw [f_L_setWeather, f_X9_setWeather, if_neg h0, if_neg h1, bd3_e, if_neg (by decide), if_pos rfl]
      · rw [f_X11_setWeather, lz_e, lz_e, in_r h0 ((gt_of (N := 12) g11 (by decide)).mpr h1), if_pos rfl, f_X11_no, lz_e, bd2_e]
/-- two rows of a cell are set -/
theorem Rel.two {H c : Nat} {A B : Mm} {i j i' j' : Nat} {u v : Int32} (h : Rel H A B) (hi : (i, j, i', j') = (30, 32, 84, 85) ∨ (i, j, i', j') = (34, 33, 87, 86)) (hc : c < 64) (hI : i = 34 → (1 ≤ v.toInt ∧ v.toInt ≤ 99)) : Rel H (wr (wr A i c u) j c v) (wr (wr (wr B 69 0 0) i' c u) j' c v) := by
  have hij : (i = 30 ∧ j = 32 ∧ i' = 84 ∧ j' = 85) ∨ (i = 34 ∧ j = 33 ∧ i' = 87 ∧ j' = 86) := by
    rcases hi with hi | hi
    · simp only [Prod.mk.injEq] at hi; exact Or.inl hi
    · simp only [Prod.mk.injEq] at hi; exact Or.inr hi
  have hA : ∀ r, r ≠ i → r ≠ j → wr (wr A i c u) j c v r = A r := fun r h1 h2 => by rw [wr_ne h2, wr_ne h1]
  have hB : ∀ r, r ≠ 69 → r ≠ i' → r ≠ j' → wr (wr (wr B 69 0 0) i' c u) j' c v r = B r := fun r h0 h1 h2 => by rw [wr_ne h2, wr_ne h1, wr_ne h0]
  have hne : i ≠ j := by omega
  have hne' : i' ≠ j' := by omega
  have h69 : i' ≠ 69 := by omega
  have h69' : j' ≠ 69 := by omega
  have eAi : ∀ k, wr (wr A i c u) j c v i k = if k = c then u else A i k := fun k => by rw [wr_r hne, wr_i]
  have eAj : ∀ k, wr (wr A i c u) j c v j k = if k = c then v else A j k := fun k => by rw [wr_i, wr_r hne.symm]
  have eBi : ∀ k, wr (wr (wr B 69 0 0) i' c u) j' c v i' k = if k = c then u else B i' k := fun k => by rw [wr_r hne', wr_i, wr_r h69]
  have eBj : ∀ k, wr (wr (wr B 69 0 0) i' c u) j' c v j' k = if k = c then v else B j' k := fun k => by rw [wr_i, wr_r hne'.symm, wr_r h69']
  have e0 : (0 : Int32).toInt = 0 := rfl
  refine h.bog (fun hb hw => ⟨⟨fun k hk => ?_, ?_, fun k hk => ?_, fun k hk => ?_, ?_⟩, fun k hk => ?_⟩) (fun r c' h1 h2 => by rw [hA r (by omega) (by omega)]) (fun r c' h1 h2 h3 => by rw [wr_r (by omega), wr_r (by omega), wr_o (by omega)])
  · obtain ⟨s1, s2, s3, s4, s5⟩ := hb.1 k hk
    rcases hij with ⟨rfl, rfl, rfl, rfl⟩ | ⟨rfl, rfl, rfl, rfl⟩
    · refine ⟨(eAi k).trans (Eq.trans ?_ (eBi k).symm), (eAj k).trans (Eq.trans ?_ (eBj k).symm), ?_, ?_, ?_⟩
      · rw [show A 30 k = B 84 k from s1]
      · rw [show A 32 k = B 85 k from s2]
      · rw [hA (29 + 4) (by decide) (by decide), hB (83 + 3) (by decide) (by decide) (by decide)]; exact s3
      · rw [hA (29 + 5) (by decide) (by decide), hB (83 + 4) (by decide) (by decide) (by decide)]; exact s4
      · rw [hA (29 + 6) (by decide) (by decide), hB (83 + 5) (by decide) (by decide) (by decide)]; exact s5
    · refine ⟨?_, ?_, (eAj k).trans (Eq.trans ?_ (eBj k).symm), (eAi k).trans (Eq.trans ?_ (eBi k).symm), ?_⟩
      · rw [hA (29 + 1) (by decide) (by decide), hB (83 + 1) (by decide) (by decide) (by decide)]; exact s1
      · rw [hA (29 + 3) (by decide) (by decide), hB (83 + 2) (by decide) (by decide) (by decide)]; exact s2
      · rw [show A 33 k = B 86 k from s3]
      · rw [show A 34 k = B 87 k from s4]
      · rw [hA (29 + 6) (by decide) (by decide), hB (83 + 5) (by decide) (by decide) (by decide)]; exact s5
  · unfold SimS
    rw [hA 29 (by omega) (by omega), hB 83 (by omega) (by omega) (by omega)]; exact hb.2.1
  · rw [hA (29 + 7) (by omega) (by omega), hA (29 + 8) (by omega) (by omega), hB 72 (by omega) (by omega) (by omega), hB 73 (by omega) (by omega) (by omega)]; exact hb.2.2.1 k hk
  · obtain ⟨i1, i2, i3⟩ := hb.2.2.2.1 k hk
    rcases hij with ⟨rfl, rfl, rfl, rfl⟩ | ⟨rfl, rfl, rfl, rfl⟩
    · rw [hA (29 + 4) (by decide) (by decide), hA (29 + 5) (by decide) (by decide), hA (29 + 6) (by decide) (by decide)]; exact ⟨i1, i2, i3⟩
    · rw [show wr (wr A 34 c u) 33 c v (29 + 4) k = _ from eAj k, show wr (wr A 34 c u) 33 c v (29 + 5) k = _ from eAi k, hA (29 + 6) (by decide) (by decide)]
      obtain ⟨v1, v2⟩ := hI rfl
      by_cases z : k = c
      · rw [if_pos z, if_pos z]
        exact ⟨⟨by omega, v2⟩, i2, fun e => by rw [e, e0] at v1; omega⟩
      · rw [if_neg z, if_neg z]; exact ⟨i1, i2, i3⟩
  · rw [hA 29 (by omega) (by omega)]; exact hb.2.2.2.2
  · rw [hA 36 (by omega) (by omega), hA 37 (by omega) (by omega)]; exact hw k hk
theorem set_ok (H : Nat) (a b u v : Int32) : OpR H H (fun M => f_L_set 0 a b u v 28 M) (fun M => f_X11_set 69 a b u v M) := by
  intro A B h
  rcases ic_cases a b with hc | ⟨hc, x, y, hx, hy, rfl, rfl⟩
  · refine op_no (c := 1) h ?_ ?_ (by decide)
    · rw [f_L_set, f_X9_set, ic_ic, lz_e, hc, if_pos rfl, bd3_e, if_neg (by decide), if_pos rfl]
    · rw [f_X11_set, lz_e, lz_e, hc, if_pos rfl, f_X11_no, lz_e, bd2_e]
  · rcases in_cases u 0 60 with hu | ⟨hu, u1, u2⟩
    · refine op_no (c := 2) h ?_ ?_ (by decide)
      · rw [f_L_set, f_X9_set, ic_ic, lz_e, hc, if_neg (by decide), lz_e, wi_in, lz_e, hu, if_pos rfl, bd3_e, if_neg (by decide), if_neg (by decide), if_pos rfl]
      · rw [f_X11_set, lz_e, lz_e, hc, if_neg (by decide), lz_e, lz_e, hu, if_pos rfl, f_X11_no, lz_e, bd2_e]
    · rcases in_cases v 0 9 with hv | ⟨hv, v1, v2⟩
      · refine op_no (c := 2) h ?_ ?_ (by decide)
        · rw [f_L_set, f_X9_set, ic_ic, lz_e, hc, if_neg (by decide), lz_e, wi_in, lz_e, hu, if_neg (by decide), lz_e, hv, if_pos rfl, bd3_e, if_neg (by decide), if_neg (by decide), if_pos rfl]
        · rw [f_X11_set, lz_e, lz_e, hc, if_neg (by decide), lz_e, lz_e, hu, if_neg (by decide), lz_e, hv, if_pos rfl, f_X11_no, lz_e, bd2_e]
      · have hS : SimC 29 83 A B := by obtain ⟨_, _, _, _, _, _, _, ⟨r0, _⟩, _⟩ := h; exact r0.1
        have hk : 8 * y + x < 64 := by omega
        obtain ⟨w1, w2, -⟩ := hS _ hk
        have b1 : wr B 69 0 0 (69 + 14 + 1) (8 * y + x) = A 30 (8 * y + x) := (wr_r (by decide)).trans w1.symm
        have b2 : wr B 69 0 0 (69 + 14 + 2) (8 * y + x) = A 32 (8 * y + x) := (wr_r (by decide)).trans w2.symm
        have good : ∀ (hA : f_L_set 0 (nI x) (nI y) u v 28 A = some (0, wr (wr (wr A 30 (8 * y + x) u) 32 (8 * y + x) v) 28 0 ((10 : Int32) * A 30 (8 * y + x) + A 32 (8 * y + x)))) (hB : f_X11_set 69 (nI x) (nI y) u v B = some ((10 : Int32) * A 30 (8 * y + x) + A 32 (8 * y + x), wr (wr (wr B 69 0 0) 84 (8 * y + x) u) 85 (8 * y + x) v)), _ := fun hA hB => op_ok (fA := fun M => f_L_set 0 (nI x) (nI y) u v 28 M) (fB := fun M => f_X11_set 69 (nI x) (nI y) u v M) (h.two (i := 30) (j := 32) (i' := 84) (j' := 85) (Or.inl rfl) hk (fun e => by omega)) hA hB (by rw [wr_r (by decide), wr_r (by decide), wr_at]) ((CF.wr A (by decide)).trans (CF.wr _ (by decide))) (((RF.wr B (by decide)).trans (RF.wr _ (by decide))).trans (RF.wr _ (by decide)))
        by_cases z : nI (8 * y + x) = 0
        · by_cases z2 : u = 0
          · refine good ?_ ?_
            · rw [f_L_set, f_X9_set, ic_ic, lz_e, hc, if_neg (by decide), lz_e, wi_in, lz_e, hu, if_neg (by decide), lz_e, hv, if_neg (by decide), cl_A hx hy, if_pos z, if_pos z2, if_pos (inN hk), if_pos (inN hk), lz_e, if_pos (inN hk), lz_e, if_pos (inN hk), lz_e, ixn (by omega), bd3_e, if_pos rfl, lz_e]
            · rw [f_X11_set, lz_e, lz_e, hc, if_neg (by decide), lz_e, lz_e, hu, if_neg (by decide), lz_e, hv, if_neg (by decide), cl_B hx hy, if_pos z, if_pos z2, if_pos (inN hk), if_pos (inN hk), lz_e, if_pos (inN hk), lz_e, if_pos (inN hk), lz_e, ixn (by omega), b1, b2]
          · refine op_no (c := 2) h ?_ ?_ (by decide)
            · rw [f_L_set, f_X9_set, ic_ic, lz_e, hc, if_neg (by decide), lz_e, wi_in, lz_e, hu, if_neg (by decide), lz_e, hv, if_neg (by decide), cl_A hx hy, if_pos z, if_neg z2, bd3_e, if_neg (by decide), if_neg (by decide), if_pos rfl]
            · rw [f_X11_set, lz_e, lz_e, hc, if_neg (by decide), lz_e, lz_e, hu, if_neg (by decide), lz_e, hv, if_neg (by decide), cl_B hx hy, if_pos z, if_neg z2, f_X11_no, lz_e, bd2_e]
        · refine good ?_ ?_
          · rw [f_L_set, f_X9_set, ic_ic, lz_e, hc, if_neg (by decide), lz_e, wi_in, lz_e, hu, if_neg (by decide), lz_e, hv, if_neg (by decide), cl_A hx hy, if_neg z, if_pos (inN hk), if_pos (inN hk), lz_e, if_pos (inN hk), lz_e, if_pos (inN hk), lz_e, ixn (by omega), bd3_e, if_pos rfl, lz_e]
          · rw [f_X11_set, lz_e, lz_e, hc, if_neg (by decide), lz_e, lz_e, hu, if_neg (by decide), lz_e, hv, if_neg (by decide), cl_B hx hy, if_neg z, if_pos (inN hk), if_pos (inN hk), lz_e, if_pos (inN hk), lz_e, if_pos (inN hk), lz_e, ixn (by omega), b1, b2]
theorem stack_ok (H : Nat) (a b u v : Int32) : OpR H H (fun M => f_L_stack 0 a b u v 28 M) (fun M => f_X11_stack 69 a b u v M) := by
  intro A B h
  rcases ic_cases a b with hc | ⟨hc, x, y, hx, hy, rfl, rfl⟩
  · refine op_no (c := 1) h ?_ ?_ (by decide)
    · rw [f_L_stack, f_X9_stack, ic_ic, lz_e, hc, if_pos rfl, bd3_e, if_neg (by decide), if_pos rfl]
    · rw [f_X11_stack, lz_e, lz_e, hc, if_pos rfl, f_X11_no, lz_e, bd2_e]
  · rcases in_cases u 1 99 with hu | ⟨hu, u1, u2⟩
    · refine op_no (c := 2) h ?_ ?_ (by decide)
      · rw [f_L_stack, f_X9_stack, ic_ic, lz_e, hc, if_neg (by decide), wi_in, lz_e, hu, if_pos rfl, bd3_e, if_neg (by decide), if_neg (by decide), if_pos rfl]
      · rw [f_X11_stack, lz_e, lz_e, hc, if_neg (by decide), lz_e, hu, if_pos rfl, f_X11_no, lz_e, bd2_e]
    · rcases in_cases v 0 20 with hv | ⟨hv, v1, v2⟩
      · refine op_no (c := 2) h ?_ ?_ (by decide)
        · rw [f_L_stack, f_X9_stack, ic_ic, lz_e, hc, if_neg (by decide), wi_in, lz_e, hu, if_neg (by decide), lz_e, hv, if_pos rfl, bd3_e, if_neg (by decide), if_neg (by decide), if_pos rfl]
        · rw [f_X11_stack, lz_e, lz_e, hc, if_neg (by decide), lz_e, hu, if_neg (by decide), lz_e, hv, if_pos rfl, f_X11_no, lz_e, bd2_e]
      · have hS : Bgs 29 83 A B := by obtain ⟨_, _, _, _, _, _, _, ⟨r0, _⟩, _⟩ := h; exact r0
        have hk : 8 * y + x < 64 := by omega
        obtain ⟨-, -, w3, w4, -⟩ := hS.1 _ hk
        obtain ⟨⟨i1, i2⟩, -, -⟩ := hS.2.2.2.1 _ hk
        generalize hcd : 8 * y + x = c at *
        have b3 : wr B 69 0 0 (69 + 14 + 3) c = A 33 c := (wr_r (by decide)).trans w3.symm
        have b4 : wr B 69 0 0 (69 + 14 + 4) c = A 34 c := (wr_r (by decide)).trans w4.symm
        have e1 : (1 : Int32).toInt = 1 := rfl
        have e99 : (99 : Int32).toInt = 99 := rfl
        have i1' : 0 ≤ (A 33 c).toInt := i1
        have i2' : (A 33 c).toInt ≤ 99 := i2
        have es : (A 33 c + u).toInt = (A 33 c).toInt + u.toInt := i_add (by omega) (by omega)
        have hz : ¬ A 33 c + u = 0 := fun e => by rw [e] at es; have : (0 : Int32).toInt = 0 := rfl; omega
        by_cases z : A 33 c + u ≤ (99 : Int32)
        · have z' : (A 33 c + u).toInt ≤ 99 := by rw [i_le] at z; exact z
          refine op_ok (A1 := wr (wr A 34 c ((A 34 c * A 33 c + v * u) / (A 33 c + u))) 33 c (A 33 c + u)) (B1 := wr (wr (wr B 69 0 0) 87 c ((A 34 c * A 33 c + v * u) / (A 33 c + u))) 86 c (A 33 c + u)) (v := A 33 c + u) (h.two (i := 34) (j := 33) (i' := 87) (j' := 86) (Or.inr rfl) hk (fun e => by omega)) ?_ ?_ (by rw [wr_r (by decide), wr_r (by decide), wr_at]) ((CF.wr A (by decide)).trans (CF.wr _ (by decide))) (((RF.wr B (by decide)).trans (RF.wr _ (by decide))).trans (RF.wr _ (by decide)))
          · show f_L_stack 0 (nI x) (nI y) u v 28 A = _
            rw [f_L_stack, f_X9_stack, ic_ic, lz_e, hc, if_neg (by decide), wi_in, lz_e, hu, if_neg (by decide), lz_e, hv, if_neg (by decide), lz_e, cl_A hx hy, hcd, if_pos (inN hk), ixn (by omega), show (0 + 29 : Nat) = 29 from rfl, show (29 + 4 : Nat) = 33 from rfl, if_pos z, f_X1_addToStack, if_pos (inN hk), if_pos (inN hk), ixn (by omega), show (29 + 4 : Nat) = 33 from rfl, show (29 + 5 : Nat) = 34 from rfl, f_X9_mixed, if_neg hz, if_pos hz, bd1_e, if_pos (inN hk), lz_e, if_pos (inN hk), if_pos (inN hk), lz_e, wr_r (show 33 ≠ 34 by decide), bd1_e, if_pos (inN hk), bd3_e, if_pos rfl, lz_e, wr_at]
          · show f_X11_stack 69 (nI x) (nI y) u v B = _
            rw [f_X11_stack, lz_e, lz_e, hc, if_neg (by decide), lz_e, hu, if_neg (by decide), lz_e, hv, if_neg (by decide), lz_e, cl_B hx hy, hcd, if_pos (inN hk), ixn (by omega), b3, if_pos z, f_X10_pile, if_pos (inN hk), if_pos (inN hk), if_pos (inN hk), ixn (by omega), b3, b4, if_pos hz, lz_e, if_pos (inN hk), lz_e, if_pos (inN hk), if_pos (inN hk), lz_e, bd1_e, if_pos (inN hk), wr_at, wr_r (show 69 + 14 + 3 ≠ 69 + 14 + 4 by decide), b3]
        · refine op_no (c := 3) h ?_ ?_ (by decide)
          · rw [f_L_stack, f_X9_stack, ic_ic, lz_e, hc, if_neg (by decide), wi_in, lz_e, hu, if_neg (by decide), lz_e, hv, if_neg (by decide), lz_e, cl_A hx hy, hcd, if_pos (inN hk), ixn (by omega), show (0 + 29 : Nat) = 29 from rfl, show (29 + 4 : Nat) = 33 from rfl, if_neg z, bd3_e, if_neg (by decide), if_neg (by decide), if_neg (by decide), if_pos rfl]
          · rw [f_X11_stack, lz_e, lz_e, hc, if_neg (by decide), lz_e, hu, if_neg (by decide), lz_e, hv, if_neg (by decide), lz_e, cl_B hx hy, hcd, if_pos (inN hk), ixn (by omega), b3, if_neg z, f_X11_no, lz_e, bd2_e]
