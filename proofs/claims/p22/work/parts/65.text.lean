/-! needs 30 31 32 39 50 51 52 53 54 55 56 57 58 59 60 61 62 63 64 65 66 -/
section GC
variable {T : Nat → Int32} {L N p i la sb s d many : Nat} {ea fa : Int32} {A B : Mm} {P : PS}
theorem GOut.pre {A1 B1 A' B' : Mm} {x : Int32} (h : GOut T L N p i many A1 B1 x A' B') (k : FtA p A A1) (m : FtB B B1) : GOut T L N p i many A B x A' B' := ⟨k.trans h.1, m.trans h.2.1, h.2.2⟩
theorem gang_ok (h : TxS T L N p i many la sb ea fa P A B) (h0 : tk T L i = 0) : ∃ x A' B', f_X4_oneGang 3 A = some (x, A') ∧ f_X11_gang 69 B = some (x, B') ∧ GOut T L N p i many A B x A' B' := by
  obtain ⟨hA, hB, hl, hs, hm, hf, ⟨h19, h4⟩, hN, ⟨⟨g, hg1, hg2⟩, hG⟩, hT⟩ := h
  have hi := hA.le
  have hp := hA.1.2.2.2
  have nA1 := hA.next (by omega)
  have hi1 := nA1.le
  obtain ⟨B1, b1, b2, b3⟩ := hB.adv (by omega) (by omega)
  have hk1 := kdB_n (tk_le T L (i + 1)).1
  have f0A : FtA p A (nxA A i) := (nxA_fr p la A i).ft
  have f0B : FtB B B1 := (b3.frB (sb := sb)).ft
  rw [f_X4_oneGang, hA.nx, lz_e, f_X11_gang, b1, bd1_e, nA1.2.2.1]
  by_cases t1 : tk T L (i + 1) = 47
  · have nA2 := nA1.next (by omega)
    have hi2 := nA2.le
    have e16 : B1 69 16 = -1 := by rw [b2.is (by omega), t1]; rfl
    rw [nA1.expY (c := 1048) (u := 47) rfl (by omega) t1, bd2_e, if_neg (show ¬ (1 : Int32) = 0 by decide), b2.kd, if_pos (hk1.1.mpr (by omega)), e16, if_pos rfl]
    have hN' : NmR T L N many (nxA (nxA A i) (i + 1)) B1 := hN.keep (by unfold nxA; rw [wr_col (by decide), wr_col (by decide)]) (fun c => by unfold nxA; rw [wr_ne (by decide), wr_ne (by decide)]) (fun c _ => ⟨b3 76 c (by omega), b3 77 c (by omega)⟩)
    obtain ⟨A8, B2, B3, e1, f1, n1, n2, n3, n4, n5, n6, n7, n8, n9, n10, n11⟩ := name_ok (P := P) nA2 b2 nA1.2.1 (by omega) (by rw [b3 69 19 (by omega)]; exact h19) h4 hN'
    have B319 : B3 69 19 = nI many := by rw [n6 69 19 (by omega), b3 69 19 (by omega)]; exact h19
    have hm100 : many < 100 := by omega
    have e15 : B3 69 15 = nI (tst T L (i + 1)) := n5.st
    have e12 : B3 69 12 - B3 69 15 = nI (tln T L (i + 1)) := by
      rw [n5.2.2.1.1, n5.st]; exact n_sub (tst_pos T L (i + 1)) (by have := tln_le T L (i + 1); have := n5.2.1.1; omega)
    rw [n1, bd1_e, n2, bd1_e, n3, bd1_e, B319, if_pos (inN hm100), ixn (show many < 2147483648 by omega), e15, show (69 + 7 : Nat) = 76 from rfl, lz_e, show (wr B3 76 many (nI (tst T L (i + 1)))) 69 19 = nI many by rw [wr_ne (by decide)]; exact B319, if_pos (inN hm100), ixn (show many < 2147483648 by omega), show (69 + 8 : Nat) = 77 from rfl, show (wr B3 76 many (nI (tst T L (i + 1)))) 69 12 - (wr B3 76 many (nI (tst T L (i + 1)))) 69 15 = nI (tln T L (i + 1)) by rw [wr_ne (by decide)]; exact e12, lz_e]
    have w5 : AtB T L (i + 1) 0 sb 0 e1 f1 (wr (wr B3 76 many (nI (tst T L (i + 1)))) 77 many (nI (tln T L (i + 1)))) := n5.ch (fun r c a b => by rw [wr_o (by omega), wr_o (by omega)])
    have w19 : wr (wr B3 76 many (nI (tst T L (i + 1)))) 77 many (nI (tln T L (i + 1))) 69 19 = nI many := by rw [wr_ne (by decide), wr_ne (by decide)]; exact B319
    have wfB : FtB B (wr (wr B3 76 many (nI (tst T L (i + 1)))) 77 many (nI (tln T L (i + 1)))) := f0B.trans (fun r c a b => by rw [wr_o (by omega), wr_o (by omega)]; exact n6 r c (by omega))
    have wrow : ∀ r c, (r = 75 ∨ 78 ≤ r) → wr (wr B3 76 many (nI (tst T L (i + 1)))) 77 many (nI (tln T L (i + 1))) r c = B r c := fun r c a => by rw [wr_o (by omega), wr_o (by omega), n6 r c (by omega), b3 r c (by omega)]
    generalize wr (wr B3 76 many (nI (tst T L (i + 1)))) 77 many (nI (tln T L (i + 1))) = B4 at n9 w5 w19 wfB wrow
    obtain ⟨B5, d1, d2, d3⟩ := w5.adv (by omega) (by omega)
    have fA8 : FtA p A A8 := (f0A.trans ((nxA_fr p la _ (i + 1)).ft)).trans n10
    have fB5 : FtB B B5 := wfB.trans (d3.frB (sb := sb)).ft
    have kA8 : Kp p la A A8 := (((nxA_fr p la A i).kp hp).trans ((nxA_fr p la _ (i + 1)).kp hp) (Nat.le_refl _)).trans n11 (Nat.le_refl _)
    rw [d1, bd1_e]
    by_cases t2 : tk T L (i + 2) = 1
    · have nA3 := n4.next (by show tk T L (i + 2) < 49; omega)
      have hi3 := nA3.le
      obtain ⟨B6, g1, g2, g3⟩ := d2.adv (by show tk T L (i + 2) < 49; omega) (by omega)
      have hk3 := kdB_n (tk_le T L (i + 3)).1
      have epw : f_X11_passWord 69 1 B5 = some (1, B6) := by
        rw [f_X11_passWord, d2.reads (c := 1) (u := 1) rfl (by omega), lz_e, if_pos t2, if_neg (show ¬ (1 : Int32) = 0 by decide), g1, bd1_e]
      have fB6 : FtB B B6 := fB5.trans (g3.frB (sb := sb)).ft
      have fA9 : FtA p A (nxA A8 (i + 1 + 1)) := fA8.trans (nxA_fr p la _ _).ft
      have kA9 : Kp p la A (nxA A8 (i + 1 + 1)) := kA8.trans ((nxA_fr p la _ _).kp hp) (Nat.le_refl _)
      rw [n4.expY (c := 1002) (u := 1) rfl (by omega) t2, bd2_e, if_neg (show ¬ (1 : Int32) = 0 by decide), epw, bd2_e, if_neg (show ¬ (1 : Int32) = 0 by decide), g2.kd, nA3.2.2.1]
      by_cases t3 : tk T L (i + 3) = 48
      · obtain ⟨A10, u1, u2, u3⟩ := limY (k := 7) nA3 t3
        have hi4 := u2.le
        have B619 : B6 69 19 = nI many := by rw [g3 69 19 (by omega), d3 69 19 (by omega)]; exact w19
        obtain ⟨B7, v1, v2, v3, v4, v5, v6⟩ := crdB (r := 79) (m := many) (by omega) g2 t3 (by omega)
        have fB7 : FtB B B7 := fB6.trans v6
        have hk4 := kdB_n (tk_le T L (i + 4)).1
        rw [u1, bd2_e, if_neg (show ¬ (1 : Int32) = 0 by decide), if_pos (hk3.2.2.1.mpr t3), B619, if_pos (inN hm100), ixn (show many < 2147483648 by omega), show (69 + 10 : Nat) = 79 from rfl, lz_e, v1, v2.kd, u2.2.2.1]
        by_cases t4 : tk T L (i + 4) = 48
        · obtain ⟨A11, x1, x2, x3⟩ := limY (k := 7) u2 t4
          have hi5 := x2.le
          have B719 : B7 69 19 = nI many := by rw [v5]; exact B619
          obtain ⟨B8, y1, y2, y3, y4, y5, y6⟩ := crdB (r := 80) (m := many) (by omega) v2 t4 (by omega)
          have B819 : B8 69 19 = nI many := by rw [y5]; exact B719
          have hiN3 : i + 3 ≤ N := nA3.2.1
          have hiN4 : i + 4 ≤ N := u2.2.1
          have fA11 : FtA p A A11 := (fA9.trans u3.ft).trans x3.ft
          have kA11 : Kp p la A A11 := (kA9.trans (u3.kp hp) (Nat.le_refl _)).trans (x3.kp hp) (Nat.le_refl _)
          have hg' : A11 p 6 = nI g := by rw [kA11 p 6 (by omega)]; exact hg2
          obtain ⟨A12, z1, z2, z3, z4, z5, z6⟩ := addG x2 hg' hg1 (isB T L (tst T L (i + 3)) 48) (isB T L (tst T L (i + 4)) 48)
          have nm1 : f_X6_numberAt 4 (nI (i + 3)) A11 = _ := numA x2.1 hiN3 t3
          have nm2 : f_X6_numberAt 4 (nI (i + 4)) A11 = _ := numA x2.1 hiN4 t4
          rw [x1, bd2_e, if_neg (show ¬ (1 : Int32) = 0 by decide), if_pos x2.okp, show (3 + 1 : Nat) = 4 from rfl, show nI (i + 1 + 1 + 1) = nI (i + 3) from rfl, nm1, bd1_e, show nI (i + 1 + 1 + 1 + 1) = nI (i + 4) from rfl, nm2, bd1_e, x2.ridp, z1, bd1_e, if_pos (hk4.2.2.1.mpr t4), B719, if_pos (inN hm100), ixn (show many < 2147483648 by omega), show (69 + 11 : Nat) = 80 from rfl, lz_e, y1, B819, if_pos (inN hm100), ixn (show many < 2147483648 by omega), show (69 + 9 : Nat) = 78 from rfl, y2.2.2.2.1, lz_e, show (wr B8 78 many (nI sb)) 69 19 = nI many by rw [wr_ne (by decide)]; exact B819, n_suc, lz_e]
          have q5 := y2.ch (B' := wr (wr B8 78 many (nI sb)) 69 19 (nI (many + 1))) (fun r c a b => by rw [wr_o (by omega), wr_o (by omega)])
          have q19 : wr (wr B8 78 many (nI sb)) 69 19 (nI (many + 1)) 69 19 = nI (many + 1) := wr_at _ _ _ _
          have fB8 : FtB B (wr (wr B8 78 many (nI sb)) 69 19 (nI (many + 1))) := (fB7.trans y6).trans (fun r c a b => by rw [wr_o (by omega), wr_o (by omega)])
          have qrow : ∀ r c, r ≠ 69 → ¬ (r = 78 ∧ c = many) → wr (wr B8 78 many (nI sb)) 69 19 (nI (many + 1)) r c = B8 r c := fun r c a b => by rw [wr_o (by omega), wr_o (by omega)]
          have q78 : wr (wr B8 78 many (nI sb)) 69 19 (nI (many + 1)) 78 many = nI sb := by rw [wr_ne (by decide), wr_at]
          generalize wr (wr B8 78 many (nI sb)) 69 19 (nI (many + 1)) = B9 at q5 q19 fB8 qrow q78
          have c75 : B9 75 = B 75 := funext fun c => by
            rw [qrow 75 c (by omega) (by omega), y4 75 c (by omega) (by omega), v4 75 c (by omega) (by omega), g3.row (by decide), d3.row (by decide), wrow 75 c (by omega)]
          have chain : lmE (isB T L (tst T L (i + 4)) 48) 7 (lmE (isB T L (tst T L (i + 3)) 48) 7 e1) = 0 → (e1 = 0 ∧ lmF (isB T L (tst T L (i + 4)) 48) 7 (lmE (isB T L (tst T L (i + 3)) 48) 7 e1) (lmF (isB T L (tst T L (i + 3)) 48) 7 e1 f1 (tst T L (i + 3))) (tst T L (i + 4)) = f1) ∧ isB T L (tst T L (i + 3)) 48 ≤ 7 ∧ isB T L (tst T L (i + 4)) 48 ≤ 7 := fun hz => by
            obtain ⟨r1, r2, r3⟩ := lm_0 (fa := lmF (isB T L (tst T L (i + 3)) 48) 7 e1 f1 (tst T L (i + 3))) (st := tst T L (i + 4)) hz
            obtain ⟨r4, r5, r6⟩ := lm_0 (fa := f1) (st := tst T L (i + 3)) r1
            exact ⟨⟨r4, by rw [r2, r5]⟩, r6, r3⟩
          have hnR : NmR T L N (many + 1) A12 B9 := n9.keep (by
              rw [z5 3 2 (by omega), x3.1 3 2 (by omega) (by omega) (by omega), u3.1 3 2 (by omega) (by omega) (by omega), (nxA_fr p la A8 (i + 1 + 1)).1 3 2 (by omega) (by omega) (by omega)]) (fun c => by
              rw [z5 9 c (by omega), x3.1 9 c (by omega) (by omega) (by omega), u3.1 9 c (by omega) (by omega) (by omega), (nxA_fr p la A8 (i + 1 + 1)).1 9 c (by omega) (by omega) (by omega)]) (fun c hc => ⟨by
              rw [qrow 76 c (by omega) (by omega), y4 76 c (by omega) (by omega), v4 76 c (by omega) (by omega), g3.row (by decide), d3.row (by decide)], by
              rw [qrow 77 c (by omega) (by omega), y4 77 c (by omega) (by omega), v4 77 c (by omega) (by omega), g3.row (by decide), d3.row (by decide)]⟩)
          obtain ⟨x, A', B', r1, r2, r3⟩ := gang_end (P := P) (x := 0) (y := 0) z2 q5 hl hs hm (fun hz => by
            obtain ⟨⟨r1, r2⟩, -⟩ := chain hz
            show lmF (isB T L (tst T L (i + 4)) 48) 7 (lmE (isB T L (tst T L (i + 3)) 48) 7 e1) (lmF (isB T L (tst T L (i + 3)) 48) 7 e1 f1 (tst T L (i + 3))) (tst T L (i + 4)) = -1
            rw [r2, (n7 r1).2]; exact hf (n7 r1).1) q19 (fun h5 hz => n8 h5 (chain hz).1.1) hnR z4 (fun hz => by
            obtain ⟨⟨r1, r2⟩, r3, r4⟩ := chain hz
            have ea0 := (n7 r1).1
            have hm4 : many < 4 := by
              by_cases q : many < 4
              · exact q
              · exact absurd r1 (n8 (by omega))
            obtain ⟨hG1, hG2⟩ := hG ea0
            have hgm : g = many := by rw [hG1] at hg2; exact ((n_inj (by omega) (by omega)).mp hg2).symm
            subst hgm
            have p3 := isB_pos t3
            have p4 := isB_pos t4
            have l3 : (isB T L (tst T L (i + 3)) 48).toInt ≤ 7 := i_le.mp r3
            have l4 : (isB T L (tst T L (i + 4)) 48).toInt ≤ 7 := i_le.mp r4
            obtain ⟨w1, w2, w3, w4, w5'⟩ := z6 hm4 ⟨p3, l3⟩ ⟨p4, l4⟩
            refine ⟨w1, fun k hk => ?_⟩
            by_cases y : k = g
            · subst y
              refine ⟨la, sb, ix (isB T L (tst T L (i + 3)) 48), ix (isB T L (tst T L (i + 4)) 48), w2, w3.trans (n_ix p3).symm, w4.trans (n_ix p4).symm, q78, ?_, ?_, by have := ix_int p3; omega, by have := ix_int p4; omega, Or.inr ⟨rfl, rfl⟩⟩
              · rw [qrow 79 _ (by omega) (by omega), y4 79 _ (by omega) (by omega), n_ix p3]; exact v3
              · rw [qrow 80 _ (by omega) (by omega), n_ix p4]; exact y3
            · obtain ⟨a, b, x, y', s1, s2, s3, s4, s5, s6, s7, s8, s9⟩ := hG2 k (by omega)
              obtain ⟨t5, t6, t7⟩ := w5' k (by omega)
              refine ⟨a, b, x, y', ?_, ?_, ?_, ?_, ?_, ?_, s7, s8, Or.inl s9⟩
              · rw [t5, kA11 (p + 3) k (by omega)]; exact s1
              · rw [t6, kA11 (p + 4) k (by omega)]; exact s2
              · rw [t7, kA11 (p + 5) k (by omega)]; exact s3
              · rw [qrow 78 k (by omega) (by omega), y4 78 k (by omega) (by omega), v4 78 k (by omega) (by omega), g3.row (by decide), d3.row (by decide), wrow 78 k (by omega)]; exact s4
              · rw [qrow 79 k (by omega) (by omega), y4 79 k (by omega) (by omega), v4 79 k (by omega) (by omega), g3.row (by decide), d3.row (by decide), wrow 79 k (by omega)]; exact s5
              · rw [qrow 80 k (by omega) (by omega), y4 80 k (by omega) (by omega), v4 80 k (by omega) (by omega), g3.row (by decide), d3.row (by decide), wrow 80 k (by omega)]; exact s6) (by
            intro oF rF cF len S k1 k2 k3 k4 k5 k6
            exact hT oF rF cF len S (fun j hj => by
              rw [(k1 j hj).1, (k1 j hj).2, z5 (p + 1) j (by omega), z5 (p + 2) j (by omega), kA11 (p + 1) j (by omega), kA11 (p + 2) j (by omega)]
              exact ⟨rfl, rfl⟩) (fun j hj => by rw [k2 j hj, c75]) k3 k4 k5 k6)
          exact ⟨x, A', B', r1, r2, r3.pre (fA11.trans z3) fB8⟩
        · refine ⟨0, rfA A10 (tst T L (i + 4)), B7, ?_, ?_, (fA9.trans u3.ft).trans (rfA_fr p la _ _).ft, fB7, Or.inl ⟨rfl, fail_at u2 v2⟩⟩
          · rw [limN u2 t4, bd2_e, if_pos rfl]
          · rw [if_neg (fun h => t4 (hk4.2.2.1.mp h))]
      · refine ⟨0, rfA (nxA A8 (i + 1 + 1)) (tst T L (i + 3)), B6, ?_, ?_, fA9.trans (rfA_fr p la _ _).ft, fB6, Or.inl ⟨rfl, fail_at nA3 g2⟩⟩
        · rw [limN nA3 t3, bd2_e, if_pos rfl]
        · rw [if_neg (fun h => t3 (hk3.2.2.1.mp h))]
    · refine ⟨0, rfA A8 (tst T L (i + 2)), B5, ?_, ?_, fA8.trans (rfA_fr p la _ _).ft, fB5, Or.inl ⟨rfl, fail_at n4 d2⟩⟩
      · rw [n4.expN (c := 1002) (u := 1) rfl (by omega) t2, bd2_e, if_pos rfl]
      · rw [f_X11_passWord, d2.reads (c := 1) (u := 1) rfl (by omega), lz_e, if_neg (show ¬ tk T L (i + 1 + 1) = 1 from t2), if_pos rfl, bd2_e, if_pos rfl]
  · refine ⟨0, rfA (nxA A i) (tst T L (i + 1)), B1, ?_, ?_, f0A.trans (rfA_fr p la _ _).ft, f0B, Or.inl ⟨rfl, fail_at nA1 b2⟩⟩
    · rw [nA1.expN (c := 1048) (u := 47) rfl (by omega) t1, bd2_e, if_pos rfl]
    · rw [b2.kd]
      by_cases z : kdB (tk T L (i + 1)) = 2
      · have z1 : tk T L (i + 1) < 30 := by have := hk1.1.mp z; omega
        have e16 : B1 69 16 = nI (tk T L (i + 1)) := by rw [b2.is (by omega)]; unfold isB; rw [if_pos z1]
        rw [if_pos z, e16, if_neg (by rw [i_eq, i_nI (by omega)]; show ¬ ((tk T L (i + 1) : Nat) : Int) = -1; omega)]
      · rw [if_neg z]
end GC
