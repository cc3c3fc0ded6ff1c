/-! needs 30 31 32 39 50 51 52 53 54 55 56 57 58 -/
/-! sentences of one act beside each other -/
theorem FrB.mono {sb sb' : Nat} {B B' : Mm} (h : FrB sb B B') (e : sb' ≤ sb) : FrB sb' B B' := fun r c h1 h2 => h r c h1 (fun x => h2 ⟨x.1, by omega⟩)
theorem FrA.mono {p la la' : Nat} {A A' : Mm} (h : FrA p la A A') (e : la' ≤ la) : FrA p la' A A' := ⟨fun r c h1 h2 h3 => h.1 r c h1 h2 (fun x => h3 ⟨x.1, by omega⟩), h.2⟩
theorem FrB.at {sb j : Nat} {B B' : Mm} (h : FrB sb B B') (hj : j < sb) : B' 75 j = B 75 j := h 75 j (by omega) (by omega)
section AC
variable {T : Nat → Int32} {L N p i d la sb : Nat} {ea fa : Int32} {e : List Nat} {A B : Mm} {RA RB : Rc}
theorem endY {c : Int32} (h : AtA T L N p i la ea fa A) (ht : tk T L i = 36) (hl : la < 800) : f_X4_end 3 c A = some (1, emA p la c 0 (nxA A i)) ∧ AtA T L N p (i + 1) (la + 1) ea fa (emA p la c 0 (nxA A i)) := by
  have n1 := h.next (by omega)
  obtain ⟨m1, m2⟩ := n1.emit hl c 0
  refine ⟨?_, m2⟩
  rw [f_X4_end, h.expY (c := 1037) (u := 36) rfl (by omega) ht, bd2_e, if_neg (show ¬ (1 : Int32) = 0 by decide), if_pos n1.okp, n1.ridp, m1, bd2_e, if_neg (show ¬ (1 : Int32) = 0 by decide)]
theorem endN {c : Int32} (h : AtA T L N p i la ea fa A) (ht : tk T L i ≠ 36) : f_X4_end 3 c A = some (0, rfA A (tst T L i)) := by
  rw [f_X4_end, h.expN (c := 1037) (u := 36) rfl (by omega) ht, bd2_e, if_pos rfl]
def ac1A (RA : Rc) (a c : Int32) (M : Mm) : Option (Int32 × Mm) := bd2 (RA 8 3 a M) fun x54 M55 => if (x54 = 0) then (some ((0 : Int32), M55)) else (bd2 (f_X4_end 3 c M55) fun x59 M60 => if (x59 = 0) then (some ((0 : Int32), M60)) else (some ((1 : Int32), M60)))
def ac1B (RB : Rc) (y : Int32) (M : Mm) : Option (Int32 × Mm) := bd1 (f_X11_put 69 y M) fun M51 => bd2 (RB 8 69 (1 : Int32) M51) fun x54 M55 => if (x54 = 0) then (some ((0 : Int32), M55)) else (bd2 (f_X11_passSymbol 69 (59 : Int32) M55) fun x59 M60 => if (x59 = 0) then (some ((0 : Int32), M60)) else (some ((1 : Int32), M60)))
/-- both stand behind the first word of a sentence that began at token i -/
def Bhd (T : Nat → Int32) (L N p i d la sb : Nat) (e : List Nat) (ea fa : Int32) (A B : Mm) : Prop := AtA T L N p (i + 1) la ea fa A ∧ AtB T L (i + 1) d sb e.length ea fa B ∧ la + 10 ≤ 2 * i ∧ sb ≤ 4 * i ∧ d ≤ 8 ∧ e.length < d ∧ ∀ x, x ∈ e → x < d
theorem act1 (h : Bhd T L N p i d la sb e ea fa A B) {c y : Int32} (hcy : (c, y) ∈ [((30 : Int32), (3 : Int32)), (32, 5), (34, 7)]) (hr : MW T L N p d (fun M => RA 8 3 (nI d) M) (fun M => RB 8 69 1 M) false) : ∃ x A' B', ac1A RA (nI d) c A = some (x, A') ∧ ac1B RB y B = some (x, B') ∧ SPost T L N p i d la sb e A B x A' B' := by
  obtain ⟨hA, hB, hl, hs, hd, he1, he2⟩ := h
  have hi := hA.le
  have hp := hA.1.2.2.2
  obtain ⟨q1, q2⟩ := hB.put (by omega) y
  obtain ⟨x, A2, B2, c1, c2, f1, c4, c5⟩ := hr (i + 1) la (sb + 1) e.length ea fa _ _ hA q2 (by omega) (by omega)
  have c1' : RA 8 3 (nI d) A = some (x, A2) := c1
  have c2' : RB 8 69 1 (puB sb y B) = some (x, B2) := c2
  have f2 := (puB_fr sb y B).trans c4 (by omega)
  unfold ac1A ac1B
  rw [c1', bd2_e, q1, bd1_e, c2', bd2_e]
  rcases c5 with ⟨rfl, hf⟩ | ⟨rfl, i1, la1, sb1, n1, g1, g2, g3, gm, g4, g5, g6, g7, g8⟩
  · exact ⟨0, A2, B2, if_pos rfl, if_pos rfl, f1, f2, Or.inl ⟨rfl, hf⟩⟩
  · have hi1 := g2.le
    rw [if_neg (show ¬ (1 : Int32) = 0 by decide), if_neg (show ¬ (1 : Int32) = 0 by decide)]
    by_cases t2 : tk T L i1 = 36
    · obtain ⟨m1, m2⟩ := endY (c := c) g2 t2 (by omega)
      have hi2 := m2.le
      obtain ⟨B3, r1, r2, r3⟩ := g3.passY (c := 59) (u := 36) rfl (by omega) t2 (by omega)
      refine ⟨1, emA p la1 c 0 (nxA A2 i1), B3, ?_, ?_, f1.trans ((nxA_fr p la1 A2 i1).trans (emA_fr _ _ _ _ _) (Nat.le_refl _)) (by omega), f2.trans r3 (by omega), Or.inr ⟨rfl, i1 + 1, la1 + 1, sb1 + 1, ea, fa, P1 la sb e, by omega, m2, r2, by omega, by omega, by omega, by omega, ?_⟩⟩
      · rw [m1, bd2_e, if_neg (show ¬ (1 : Int32) = 0 by decide)]
      · rw [r1, bd2_e, if_neg (show ¬ (1 : Int32) = 0 by decide)]
      · intro oF rF cF len S k1 k2 k3 k4 k5 k6 k7
        refine ⟨k6 _ _ _ ⟨rfl, rfl, rfl⟩, fun a b f hf => ?_⟩
        obtain ⟨rfl, rfl, rfl⟩ := hf
        have s1 := (g8.fr hp ((nxA_fr p la1 A2 i1).trans (emA_fr p la1 c 0 _) (Nat.le_refl _)) (r3.mono (by omega))).fin k1 k2 (Nat.le_refl _) (by omega) (by omega) (by omega)
        refine ⟨Or.inr (Or.inr (Or.inr (Or.inr (Or.inr (Or.inr (Or.inl ⟨n1, la1, sb1, false, c, y, hcy, by omega, by omega, ?_, s1, ?_, ?_, k7⟩)))))), by omega⟩
        · rw [k2 _ (by omega) (by omega), r3.at (by omega), c4.at (by omega), puB_at]
        · rw [k2 _ (by omega) (by omega), r3.at (by omega), gm]
        · rw [(k1 _ (by omega) (by omega)).1, (emA_op p la1 c 0 (nxA A2 i1)).1]
    · refine ⟨0, rfA A2 (tst T L i1), B2, ?_, ?_, f1.trans (rfA_fr p la _ _) (Nat.le_refl _), f2, Or.inl ⟨rfl, fail_at g2 g3⟩⟩
      · rw [endN g2 t2, bd2_e, if_pos rfl]
      · rw [g3.passN (c := 59) (u := 36) rfl (by omega) t2, bd2_e, if_pos rfl]
def ac0B (y : Int32) (M : Mm) : Option (Int32 × Mm) := bd1 (f_X11_put 69 y M) fun M43 => bd2 (f_X11_passSymbol 69 (59 : Int32) M43) fun x46 M47 => some (x46, M47)
theorem act0 (h : Bhd T L N p i d la sb e ea fa A B) {c y : Int32} (hcy : (c, y) ∈ [((31 : Int32), (4 : Int32)), (33, 6)]) : ∃ x A' B', f_X4_end 3 c A = some (x, A') ∧ ac0B y B = some (x, B') ∧ SPost T L N p i d la sb e A B x A' B' := by
  obtain ⟨hA, hB, hl, hs, hd, he1, he2⟩ := h
  have hi := hA.le
  have hp := hA.1.2.2.2
  obtain ⟨q1, q2⟩ := hB.put (by omega) y
  unfold ac0B
  rw [q1, bd1_e]
  by_cases t2 : tk T L (i + 1) = 36
  · obtain ⟨m1, m2⟩ := endY (c := c) hA t2 (by omega)
    have hi2 := m2.le
    obtain ⟨B3, r1, r2, r3⟩ := q2.passY (c := 59) (u := 36) rfl (by omega) t2 (by omega)
    refine ⟨1, emA p la c 0 (nxA A (i + 1)), B3, m1, ?_, (nxA_fr p la A (i + 1)).trans (emA_fr _ _ _ _ _) (Nat.le_refl _), (puB_fr sb y B).trans r3 (by omega), Or.inr ⟨rfl, i + 1 + 1, la + 1, sb + 1, ea, fa, P1 la sb e, by omega, m2, r2, by omega, by omega, by omega, by omega, ?_⟩⟩
    · rw [r1, bd2_e]
    · intro oF rF cF len S k1 k2 k3 k4 k5 k6 k7
      refine ⟨k6 _ _ _ ⟨rfl, rfl, rfl⟩, fun a b f hf => ?_⟩
      obtain ⟨rfl, rfl, rfl⟩ := hf
      refine ⟨Or.inr (Or.inr (Or.inr (Or.inr (Or.inr (Or.inr (Or.inr ⟨c, y, hcy, by omega, by omega, ?_, ?_, k7⟩)))))), by omega⟩
      · rw [(k1 _ (by omega) (by omega)).1, (emA_op p a c 0 (nxA A (i + 1))).1]
      · rw [k2 _ (by omega) (by omega), r3.at (by omega), puB_at]
  · refine ⟨0, rfA A (tst T L (i + 1)), puB sb y B, endN hA t2, ?_, rfA_fr p la _ _, puB_fr _ _ _, Or.inl ⟨rfl, fail_at hA q2⟩⟩
    rw [q2.passN (c := 59) (u := 36) rfl (by omega) t2, bd2_e]
def goA (RA : Rc) (a : Int32) (M : Mm) : Option (Int32 × Mm) := bd2 (RA 8 3 a M) fun x11 M12 => if (x11 = 0) then (some ((0 : Int32), M12)) else (bd2 (f_X4_expect 3 (1038 : Int32) M12) fun x16 M17 => if (x16 = 0) then (some ((0 : Int32), M17)) else (bd2 (RA 8 3 a M17) fun x21 M22 => if (x21 = 0) then (some ((0 : Int32), M22)) else (bd2 (f_X4_end 3 (29 : Int32) M22) fun x26 M27 => if (x26 = 0) then (some ((0 : Int32), M27)) else (some ((1 : Int32), M27)))))
def goB (RB : Rc) (M : Mm) : Option (Int32 × Mm) := bd1 (f_X11_put 69 (2 : Int32) M) fun M5 => bd2 (RB 8 69 (1 : Int32) M5) fun x8 M9 => if (x8 = 0) then (some ((0 : Int32), M9)) else (bd2 (f_X11_passSymbol 69 (44 : Int32) M9) fun x13 M14 => if (x13 = 0) then (some ((0 : Int32), M14)) else (bd2 (RB 8 69 (1 : Int32) M14) fun x18 M19 => if (x18 = 0) then (some ((0 : Int32), M19)) else (bd2 (f_X11_passSymbol 69 (59 : Int32) M19) fun x23 M24 => if (x23 = 0) then (some ((0 : Int32), M24)) else (some ((1 : Int32), M24)))))
theorem go_ok (h : Bhd T L N p i d la sb e ea fa A B) (hr : MW T L N p d (fun M => RA 8 3 (nI d) M) (fun M => RB 8 69 1 M) false) : ∃ x A' B', goA RA (nI d) A = some (x, A') ∧ goB RB B = some (x, B') ∧ SPost T L N p i d la sb e A B x A' B' := by
  obtain ⟨hA, hB, hl, hs, hd, he1, he2⟩ := h
  have hi := hA.le
  have hp := hA.1.2.2.2
  obtain ⟨q1, q2⟩ := hB.put (by omega) 2
  obtain ⟨x, A2, B2, c1, c2, f1, c4, c5⟩ := hr (i + 1) la (sb + 1) e.length ea fa _ _ hA q2 (by omega) (by omega)
  have c1' : RA 8 3 (nI d) A = some (x, A2) := c1
  have c2' : RB 8 69 1 (puB sb 2 B) = some (x, B2) := c2
  have f2 := (puB_fr sb 2 B).trans c4 (by omega)
  unfold goA goB
  rw [c1', bd2_e, q1, bd1_e, c2', bd2_e]
  rcases c5 with ⟨rfl, hf⟩ | ⟨rfl, i1, la1, sb1, n1, g1, g2, g3, gm, g4, g5, g6, g7, g8⟩
  · exact ⟨0, A2, B2, if_pos rfl, if_pos rfl, f1, f2, Or.inl ⟨rfl, hf⟩⟩
  · have hi1 := g2.le
    rw [if_neg (show ¬ (1 : Int32) = 0 by decide), if_neg (show ¬ (1 : Int32) = 0 by decide)]
    by_cases t1 : tk T L i1 = 37
    · have nA2 := g2.next (by omega)
      have hi2 := nA2.le
      obtain ⟨B3, r1, r2, r3⟩ := g3.passY (c := 44) (u := 37) rfl (by omega) t1 (by omega)
      rw [g2.expY (c := 1038) (u := 37) rfl (by omega) t1, bd2_e, if_neg (show ¬ (1 : Int32) = 0 by decide), r1, bd2_e, if_neg (show ¬ (1 : Int32) = 0 by decide)]
      obtain ⟨x, A4, B4, d1, d2, d3, d4, d5⟩ := hr (i1 + 1) la1 (sb1 + 1) e.length ea fa _ _ nA2 r2 (by omega) (by omega)
      have d1' : RA 8 3 (nI d) (nxA A2 i1) = some (x, A4) := d1
      have d2' : RB 8 69 1 B3 = some (x, B4) := d2
      rw [d1', d2', bd2_e, bd2_e]
      have f3 := f1.trans ((nxA_fr p la1 A2 i1).trans d3 (Nat.le_refl _)) (by omega)
      have f4 := f2.trans (r3.trans d4 (Nat.le_refl _)) (by omega)
      rcases d5 with ⟨rfl, hf⟩ | ⟨rfl, i2, la2, sb2, n2, j1, j2, j3, jm, j4, j5, j6, j7, j8⟩
      · exact ⟨0, A4, B4, if_pos rfl, if_pos rfl, f3, f4, Or.inl ⟨rfl, hf⟩⟩
      · have hi3 := j2.le
        rw [if_neg (show ¬ (1 : Int32) = 0 by decide), if_neg (show ¬ (1 : Int32) = 0 by decide)]
        by_cases t2 : tk T L i2 = 36
        · obtain ⟨m1, m2⟩ := endY (c := 29) j2 t2 (by omega)
          have hi4 := m2.le
          obtain ⟨B5, s1, s2, s3⟩ := j3.passY (c := 59) (u := 36) rfl (by omega) t2 (by omega)
          refine ⟨1, emA p la2 29 0 (nxA A4 i2), B5, ?_, ?_, f3.trans ((nxA_fr p la2 A4 i2).trans (emA_fr _ _ _ _ _) (Nat.le_refl _)) (by omega), f4.trans s3 (by omega), Or.inr ⟨rfl, i2 + 1, la2 + 1, sb2 + 1, ea, fa, P1 la sb e, by omega, m2, s2, by omega, by omega, by omega, by omega, ?_⟩⟩
          · rw [m1, bd2_e, if_neg (show ¬ (1 : Int32) = 0 by decide)]
          · rw [s1, bd2_e, if_neg (show ¬ (1 : Int32) = 0 by decide)]
          · intro oF rF cF len S k1 k2 k3 k4 k5 k6 k7
            refine ⟨k6 _ _ _ ⟨rfl, rfl, rfl⟩, fun a b f hf => ?_⟩
            obtain ⟨rfl, rfl, rfl⟩ := hf
            have fA := (nxA_fr p la2 A4 i2).trans (emA_fr p la2 29 0 _) (Nat.le_refl _)
            have u1 := ((g8.fr hp (((nxA_fr p la1 A2 i1).trans d3 (Nat.le_refl _)).trans fA (by omega)) ((r3.trans (d4.trans s3 (by omega)) (Nat.le_refl _)).mono (by omega))).fin k1 k2 (Nat.le_refl _) (by omega) (by omega) (by omega))
            have u2 := ((j8.fr hp fA (s3.mono (by omega))).fin k1 k2 (by omega) (by omega) (by omega) (by omega))
            refine ⟨Or.inr (Or.inr (Or.inr (Or.inr (Or.inr (Or.inl ⟨n1, la1, sb1, n2, la2, sb2, false, false, by omega, by omega, ?_, u1, ?_, u2, ?_, ?_, k7⟩))))), by omega⟩
            · rw [k2 _ (by omega) (by omega), s3.at (by omega), d4.at (by omega), r3.at (by omega), c4.at (by omega), puB_at]
            · rw [k2 _ (by omega) (by omega), s3.at (by omega), d4.at (by omega), r3.at (by omega), gm]
            · rw [k2 _ (by omega) (by omega), s3.at (by omega), jm]
            · rw [(k1 _ (by omega) (by omega)).1, (emA_op p la2 29 0 (nxA A4 i2)).1]
        · refine ⟨0, rfA A4 (tst T L i2), B4, ?_, ?_, f3.trans (rfA_fr p la _ _) (Nat.le_refl _), f4, Or.inl ⟨rfl, fail_at j2 j3⟩⟩
          · rw [endN j2 t2, bd2_e, if_pos rfl]
          · rw [j3.passN (c := 59) (u := 36) rfl (by omega) t2, bd2_e, if_pos rfl]
    · refine ⟨0, rfA A2 (tst T L i1), B2, ?_, ?_, f1.trans (rfA_fr p la _ _) (Nat.le_refl _), f2, Or.inl ⟨rfl, fail_at g2 g3⟩⟩
      · rw [g2.expN (c := 1038) (u := 37) rfl (by omega) t1, bd2_e, if_pos rfl]
      · rw [g3.passN (c := 44) (u := 37) rfl (by omega) t1, bd2_e, if_pos rfl]
end AC
