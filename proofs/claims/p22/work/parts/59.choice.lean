/-! needs 30 31 32 39 50 51 52 53 54 55 56 57 58 59 60 -/
section CO
variable {T : Nat → Int32} {L N p i d la sb s : Nat} {ea fa : Int32} {e : List Nat} {A B : Mm} {RA RB : Rc}
theorem choice_ok (hi0 : tk T L i = 8) (hA : AtA T L N p i la ea fa A) (hB : AtB T L (i + 1) d sb e.length ea fa B) (hl : la + 10 ≤ 2 * i) (hs : sb ≤ 4 * i) (hd : d ≤ 8) (he1 : e.length < d) (he2 : ∀ x, x ∈ e → x < d) (ht : MW T L N p d (fun M => RA 5 3 (nI d) M) (fun M => RB 5 69 1 M) true) (hb : BW T L N p d (fun M => RA 0 3 (nI d) M) (fun M => RB 0 69 0 M)) : ∃ x A' B', f_X4_choice RA 3 (nI d) A = some (x, A') ∧ f_X11_branch RB 69 B = some (x, B') ∧ SPost T L N p i d la sb e A B x A' B' := by
  have hi := hA.le
  have hp := hA.1.2.2.2
  have nA := hA.next (by omega)
  have hi1 := nA.le
  obtain ⟨q1, q2⟩ := hB.put (by omega) 8
  obtain ⟨q3, q4⟩ := q2.put (by omega) 0
  obtain ⟨x, A1, B1, c1, c2, c3, c4, c5⟩ := ht (i + 1) la (sb + 1 + 1) e.length ea fa _ _ nA q4 (by omega) (by omega)
  have c1' : RA 5 3 (nI d) (nxA A i) = some (x, A1) := c1
  have c2' : RB 5 69 1 (puB (sb + 1) 0 (puB sb 8 B)) = some (x, B1) := c2
  have f1 := (nxA_fr p la A i).trans c3 (Nat.le_refl _)
  have f2 := ((puB_fr sb 8 B).trans (puB_fr (sb + 1) 0 _) (by omega)).trans c4 (by omega)
  have e11 : puB sb 8 B 69 11 = nI (sb + 1) := q2.2.2.2.1
  rw [f_X4_choice, hA.nx, lz_e, c1', bd2_e, f_X11_branch, q1, bd1_e, q3, bd1_e, c2', bd2_e, e11]
  rcases c5 with ⟨rfl, hf⟩ | ⟨rfl, i1, la1, sb1, n1, g1, g2, g3, gm, g4, g5, g6, g7, g8⟩
  · exact ⟨0, A1, B1, if_pos rfl, if_pos rfl, f1, f2, Or.inl ⟨rfl, hf⟩⟩
  · have hi2 := g2.le
    obtain ⟨m1, m2⟩ := g2.emit (by omega) 35 0
    obtain ⟨x, A2, B2, d1, d2, d3, d4, d5⟩ := hb i1 (la1 + 1) (sb1 + 1) e ea fa _ _ m2 g3 (by omega) (by omega) (by omega) (fun x hx => Nat.le_of_lt (he2 x hx))
    have d1' : RA 0 3 (nI d) (emA p la1 35 0 A1) = some (x, A2) := d1
    have d2' : RB 0 69 0 B1 = some (x, B2) := d2
    have f3 := (f1.trans (emA_fr p la1 35 0 A1) (by omega)).trans d3 (by omega)
    have f4 := f2.trans d4 (by omega)
    rw [if_neg (show ¬ (1 : Int32) = 0 by decide), if_neg (show ¬ (1 : Int32) = 0 by decide), if_pos g2.okp, if_pos g2.okp, g2.ridp, m1, bd2_e, d1', bd2_e, d2', bd2_e]
    rcases d5 with ⟨rfl, hf⟩ | ⟨rfl, i2, la2, sb2, ea2, fa2, P, j1, j2, j3, j4, j5, j6, j7, j8⟩
    · exact ⟨0, A2, B2, if_pos rfl, if_pos rfl, f3, f4, Or.inl ⟨rfl, hf⟩⟩
    · have hi3 := j2.le
      have hT2 := (tk_le T L i2).1
      have sgA : ∀ j, la ≤ j → j < la1 → A2 (p + 1) j = A1 (p + 1) j ∧ A2 (p + 2) j = A1 (p + 2) j := fun j a b => by
        rw [(d3.op hp (show j < la1 + 1 by omega)).1, (d3.op hp (show j < la1 + 1 by omega)).2]
        exact (emA_fr p la1 35 0 A1).op hp (by omega)
      have o35 : A2 (p + 1) la1 = 35 := by rw [(d3.op hp (by omega)).1, (emA_op p la1 35 0 A1).1]
      have b8 : B2 75 sb = 8 := by rw [d4.at (by omega), c4.at (by omega), puB_o (by omega) (by omega), puB_at]
      have b61 : B2 75 sb1 = 61 := by rw [d4.at (by omega), gm]
      rw [if_neg (show ¬ (1 : Int32) = 0 by decide), if_neg (show ¬ (1 : Int32) = 0 by decide), j2.kind, bd1_e, if_pos (tkc_n hT2), j3.reads (c := 9) (u := 9) rfl (by omega), g2.2.2.2.1]
      by_cases t9 : tk T L i2 = 9
      · have nA2 := j2.next (by omega)
        have hi4 := nA2.le
        obtain ⟨B3, r1, r2, r3⟩ := j3.adv (by omega) (by omega)
        obtain ⟨w1, w2⟩ := nA2.emit (by omega) 38 0
        have w3 := w2.lead (q := la1) (by omega) (by omega)
        obtain ⟨u1, u2⟩ := r2.put (by omega) 41
        obtain ⟨u3, u4⟩ := u2.put (by omega) 0
        have e12 : puB sb2 41 B3 69 11 = nI (sb2 + 1) := u2.2.2.2.1
        have w5 := w2.pat la1 (nI (la2 + 1))
        have u5 := u4.pat (sb + 1) (nI (sb2 + 1 + 1))
        obtain ⟨x, A6, B6, v1, v2, v3, v4, v5⟩ := hb (i2 + 1) (la2 + 1) (sb2 + 1 + 1) e ea2 fa2 _ _ w5 u5 (by omega) (by omega) (by omega) (fun x hx => Nat.le_of_lt (he2 x hx))
        have v1' : RA 0 3 (nI d) (wr (emA p la2 38 0 (nxA A2 i2)) (p + 2) la1 (nI (la2 + 1))) = some (x, A6) := v1
        have v2' : RB 0 69 0 (wr (puB (sb2 + 1) 0 (puB sb2 41 B3)) 75 (sb + 1) (nI (sb2 + 1 + 1))) = some (x, B6) := v2
        have f5 := ((f3.trans ((nxA_fr p la2 A2 i2).trans (emA_fr p la2 38 0 _) (Nat.le_refl _)) (by omega)).trans (pat_frA la1 _) (by omega)).trans v3 (by omega)
        have f6 := (((f4.trans ((r3.frB (sb := sb2)).trans (puB_fr sb2 41 _) (Nat.le_refl _)) (by omega)).trans (puB_fr (sb2 + 1) 0 _) (by omega)).trans (pat_frB (sb + 1) _) (by omega)).trans v4 (by omega)
        rw [if_pos (show nI (1001 + tk T L i2) = 1010 by rw [t9]; rfl), j2.nx, lz_e, if_pos t9, lz_e, if_neg (show ¬ (1 : Int32) = 0 by decide), if_pos nA2.okp, if_pos nA2.okp, nA2.ridp, w1, bd2_e, if_pos w2.okp, w2.ridp, w3, bd1_e, v1', bd2_e, r1, bd1_e, u1, bd1_e, e12, u3, bd1_e, if_pos (inN (show sb + 1 < 4000 by omega)), u4.2.2.2.1, ixn (show sb + 1 < 2147483648 by omega), lz_e, v2', bd2_e]
        rcases v5 with ⟨rfl, hf⟩ | ⟨rfl, i3, la3, sb3, ea3, fa3, Q, y1, y2, y3, y4, y5, y6, y7, y8⟩
        · exact ⟨0, A6, B6, if_pos rfl, if_pos rfl, f5, f6, Or.inl ⟨rfl, hf⟩⟩
        · have hi5 := y2.le
          have w6 := y2.lead (q := la2) (by omega) (by omega)
          refine ⟨1, wr A6 (p + 2) la2 (nI la3), wr B6 75 (sb2 + 1) (nI sb3), ?_, ?_, f5.trans (pat_frA la2 _) (by omega), f6.trans (pat_frB (sb2 + 1) _) (by omega), Or.inr ⟨rfl, i3, la3, sb3, ea3, fa3, PO (PO (P1 la sb e) P) (PO (P1 la2 sb2 e) Q), by omega, y2.pat _ _, y3.pat _ _, by omega, by omega, by omega, by omega, ?_⟩⟩
          · rw [if_neg (show ¬ (1 : Int32) = 0 by decide), if_pos y2.okp, y2.ridp, nA2.2.2.2.1, w6, bd1_e]
          · rw [if_neg (show ¬ (1 : Int32) = 0 by decide), if_pos (inN (show sb2 + 1 < 4000 by omega)), y3.2.2.2.1, ixn (by omega), lz_e]
          · intro oF rF cF len S k1 k2 k3 k4 k5 k6 k7
            have hS1 : S la sb e := k6 _ _ _ (Or.inl (Or.inl ⟨rfl, rfl, rfl⟩))
            have hS2 : S la2 sb2 e := k6 _ _ _ (Or.inr (Or.inl ⟨rfl, rfl, rfl⟩))
            have o0 : ∀ j, la ≤ j → j < la2 → oF j = A2 (p + 1) j ∧ (j ≠ la1 → rF j = A2 (p + 2) j) := fun j a b => by
              have z1 := (nxA_fr p la2 A2 i2).op hp b
              have z2 := (emA_fr p la2 38 0 (nxA A2 i2)).op hp b
              have z3 := v3.op hp (show j < la2 + 1 by omega)
              constructor
              · rw [(k1 j a (by omega)).1, wr_ne (by omega), z3.1, wr_ne (by omega), z2.1, z1.1]
              · intro hj
                rw [(k1 j a (by omega)).2, wr_col (by omega), z3.2, wr_col hj, z2.2, z1.2]
            have o1 : rF la1 = nI (la2 + 1) := by
              rw [(k1 la1 (by omega) (by omega)).2, wr_col (by omega), (v3.op hp (show la1 < la2 + 1 by omega)).2, wr_at]
            have o2 : oF la2 = 38 ∧ rF la2 = nI la3 := by
              rw [(k1 la2 (by omega) (by omega)).1, (k1 la2 (by omega) (by omega)).2, wr_at, wr_ne (by omega), (v3.op hp (show la2 < la2 + 1 by omega)).1, wr_ne (by omega), (emA_op p la2 38 0 (nxA A2 i2)).1]
              exact ⟨rfl, rfl⟩
            have o3 : ∀ j, la2 + 1 ≤ j → j < la3 → oF j = A6 (p + 1) j ∧ rF j = A6 (p + 2) j := fun j a b => by
              rw [(k1 j (by omega) (by omega)).1, (k1 j (by omega) (by omega)).2, wr_ne (by omega), wr_col (by omega)]
              exact ⟨rfl, rfl⟩
            have b1 : ∀ j, sb ≤ j → j < sb2 → j ≠ sb + 1 → cF j = B2 75 j := fun j a b c => by
              rw [k2 j a (by omega), wr_col (by omega), v4.at (by omega), wr_col c, puB_o (by omega) (by omega), puB_o (by omega) (by omega), r3.row (by decide)]
            have b2 : cF (sb + 1) = nI (sb2 + 1 + 1) := by
              rw [k2 _ (by omega) (by omega), wr_col (by omega), v4.at (by omega), wr_at]
            have b3 : cF sb2 = 41 := by
              rw [k2 _ (by omega) (by omega), wr_col (by omega), v4.at (by omega), wr_col (by omega), puB_o (by omega) (by omega), puB_at]
            have b4 : cF (sb2 + 1) = nI sb3 := by rw [k2 _ (by omega) (by omega), wr_at]
            have b5 : ∀ j, sb2 + 1 + 1 ≤ j → j < sb3 → cF j = B6 75 j := fun j a b => by
              rw [k2 j (by omega) (by omega), wr_col (by omega)]
            obtain ⟨h1, h2⟩ := j8 oF rF cF len S (fun j a b => ⟨(o0 j (by omega) b).1, (o0 j (by omega) b).2 (by omega)⟩) (fun j a b => b1 j (by omega) b (by omega)) (by omega) k4 (by omega) (fun a b f hf => k6 a b f (Or.inl (Or.inr hf))) hS2
            obtain ⟨h3, h4⟩ := y8 oF rF cF len S o3 b5 k3 k4 k5 (fun a b f hf => k6 a b f (Or.inr (Or.inr hf))) k7
            have sg : Seg oF rF cF n1 la (sb + 1 + 1) [] la1 sb1 [true] := g8.congr (fun j a b => by
              rw [(o0 j (by omega) (by omega)).1, (o0 j (by omega) (by omega)).2 (by omega)]; exact sgA j a b) (fun j a b => by rw [b1 j (by omega) (by omega) (by omega), d4.at (by omega)])
            refine ⟨hS1, fun a b f hf => ?_⟩
            rcases hf with (⟨rfl, rfl, rfl⟩ | hf) | (⟨rfl, rfl, rfl⟩ | hf)
            · exact ⟨Or.inr (Or.inr (Or.inr (Or.inr (Or.inl ⟨n1, la1, sb1, true, by omega, by omega, Or.inl (by rw [b1 _ (by omega) (by omega) (by omega), b8]), sg, by rw [b1 _ (by omega) (by omega) (by omega), b61], by rw [(o0 la1 (by omega) (by omega)).1, o35], h1, la2 + 1, sb2 + 1 + 1, o1, b2, h3⟩)))), by omega⟩
            · exact h2 a b f hf
            · refine ⟨Or.inr (Or.inl ⟨by omega, by omega, o2.1, b3, la3, sb3, o2.2, b4, k7, ?_⟩), by omega⟩
              have := rk_len oF la3
              rw [rk_38 o2.1]; omega
            · exact h4 a b f hf
      · have w3 := j2.lead (q := la1) (by omega) (by omega)
        refine ⟨1, wr A2 (p + 2) la1 (nI la2), wr B2 75 (sb + 1) (nI sb2), ?_, ?_, f3.trans (pat_frA la1 _) (by omega), f4.trans (pat_frB (sb + 1) _) (by omega), Or.inr ⟨rfl, i2, la2, sb2, ea2, fa2, PO (P1 la sb e) P, by omega, j2.pat _ _, j3.pat _ _, by omega, by omega, by omega, by omega, ?_⟩⟩
        · rw [if_neg (show ¬ nI (1001 + tk T L i2) = 1010 from fun h => t9 ((teq (u := 9) hT2 (by omega)).mp h)), if_pos j2.okp, j2.ridp, w3, bd1_e]
        · rw [if_neg t9, lz_e, if_pos rfl, if_pos (inN (show sb + 1 < 4000 by omega)), j3.2.2.2.1, ixn (by omega), lz_e]
        · intro oF rF cF len S k1 k2 k3 k4 k5 k6 k7
          have hS1 : S la sb e := k6 _ _ _ (Or.inl ⟨rfl, rfl, rfl⟩)
          have o0 : ∀ j, la ≤ j → j < la2 → oF j = A2 (p + 1) j ∧ (j ≠ la1 → rF j = A2 (p + 2) j) := fun j a b => by
            constructor
            · rw [(k1 j a (by omega)).1, wr_ne (by omega)]
            · intro hj
              rw [(k1 j a (by omega)).2, wr_col hj]
          have o1 : rF la1 = nI la2 := by
            rw [(k1 la1 (by omega) (by omega)).2, wr_at]
          have b1 : ∀ j, sb ≤ j → j < sb2 → j ≠ sb + 1 → cF j = B2 75 j := fun j a b c => by
            rw [k2 j a (by omega), wr_col c]
          have b2 : cF (sb + 1) = nI sb2 := by rw [k2 _ (by omega) (by omega), wr_at]
          obtain ⟨h1, h2⟩ := j8 oF rF cF len S (fun j a b => ⟨(o0 j (by omega) b).1, (o0 j (by omega) b).2 (by omega)⟩) (fun j a b => b1 j (by omega) b (by omega)) (by omega) k4 (by omega) (fun a b f hf => k6 a b f (Or.inr hf)) k7
          have sg : Seg oF rF cF n1 la (sb + 1 + 1) [] la1 sb1 [true] := g8.congr (fun j a b => by
            rw [(o0 j (by omega) (by omega)).1, (o0 j (by omega) (by omega)).2 (by omega)]; exact sgA j a b) (fun j a b => by rw [b1 j (by omega) (by omega) (by omega), d4.at (by omega)])
          refine ⟨hS1, fun a b f hf => ?_⟩
          rcases hf with ⟨rfl, rfl, rfl⟩ | hf
          · exact ⟨Or.inr (Or.inr (Or.inr (Or.inr (Or.inl ⟨n1, la1, sb1, true, by omega, by omega, Or.inl (by rw [b1 _ (by omega) (by omega) (by omega), b8]), sg, by rw [b1 _ (by omega) (by omega) (by omega), b61], by rw [(o0 la1 (by omega) (by omega)).1, o35], h1, la2, sb2, o1, b2, k7⟩)))), by omega⟩
          · exact h2 a b f hf
end CO
