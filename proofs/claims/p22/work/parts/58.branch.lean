/-! needs 30 31 32 39 50 51 52 53 54 55 56 57 58 59 -/
/-! if, repeat, while beside each other -/
def BOk (T : Nat → Int32) (L N p i d la sb : Nat) (e : List Nat) (A B : Mm) : Prop := ∃ i' la' sb' ea fa P, i + 2 ≤ i' ∧ AtA T L N p i' la' ea fa A ∧ AtB T L i' d sb' e.length ea fa B ∧ la ≤ la' ∧ sb ≤ sb' ∧ la' + 2 * i + 4 ≤ la + 2 * i' ∧ sb' + 4 * i + 8 ≤ sb + 4 * i' ∧ Good P la sb la' sb' e (A (p + 1)) (A (p + 2)) (B 75)
def BW (T : Nat → Int32) (L N p d : Nat) (FA FB : Mm → Option (Int32 × Mm)) : Prop := ∀ (i la sb : Nat) (e : List Nat) (ea fa : Int32) (A B : Mm), AtA T L N p i la ea fa A → AtB T L i d sb e.length ea fa B → la + 10 ≤ 2 * i → sb ≤ 4 * i → e.length ≤ d → (∀ x, x ∈ e → x ≤ d) → ∃ x A' B', FA A = some (x, A') ∧ FB B = some (x, B') ∧ FrA p la A A' ∧ FrB sb B B' ∧ ((x = 0 ∧ Fail A' B') ∨ (x = 1 ∧ BOk T L N p i d la sb e A' B'))
theorem rk_len (o : Nat → Int32) (a : Nat) : rk o a ≤ 801 - a := by unfold rk; split <;> omega
theorem rk_38 {o : Nat → Int32} {a : Nat} (h : o a = 38) : rk o a = 801 - a := by unfold rk; rw [if_pos (Or.inl h)]
section BR
variable {T : Nat → Int32} {L N p i d la sb s : Nat} {ea fa : Int32} {e : List Nat} {A B : Mm} {RA RB : Rc}
theorem AtA.pat (h : AtA T L N p i la ea fa A) (q : Nat) (v : Int32) : AtA T L N p i la ea fa (wr A (p + 2) q v) := by
  have hp := h.1.2.2.2
  have f : FrA0 p 0 A (wr A (p + 2) q v) := fun r c h1 h2 h3 => wr_o (by omega)
  refine ⟨h.1.fr0 f, h.2.1, ?_, ?_, ?_, ?_⟩
  · rw [wr_ne (by omega)]; exact h.2.2.1
  · rw [wr_ne (by omega)]; exact h.2.2.2.1
  · rw [wr_ne (by omega)]; exact h.2.2.2.2.1
  · rw [wr_ne (by omega)]; exact h.2.2.2.2.2
theorem AtB.pat (h : AtB T L i d sb s ea fa B) (q : Nat) (v : Int32) : AtB T L i d sb s ea fa (wr B 75 q v) := by
  refine h.chg (fun r c h1 h2 => wr_o (by omega)) ?_ ?_ ?_ ?_ ?_
  · rw [wr_ne (by decide)]; exact h.2.2.2.1
  · rw [wr_ne (by decide)]; exact h.2.2.2.2.1
  · rw [wr_ne (by decide)]; exact h.2.2.2.2.2.1
  · rw [wr_ne (by decide)]; exact h.2.2.2.2.2.2.1
  · rw [wr_ne (by decide)]; exact h.2.2.2.2.2.2.2
theorem pat_frA (q : Nat) (v : Int32) : FrA p q A (wr A (p + 2) q v) := ⟨fun r c h1 h2 h3 => wr_o (by omega), fun e h => by rw [wr_ne (by omega)] at h ⊢; exact ⟨h, rfl⟩⟩
theorem pat_frB (q : Nat) (v : Int32) : FrB q B (wr B 75 q v) := fun r c h1 h2 => wr_o (by omega)
theorem AtA.lead {q : Nat} (h : AtA T L N p i la ea fa A) (hq : q < la) (hl : la ≤ 800) : f_X5_leadHere p (nI q) A = some (wr A (p + 2) q (nI la)) := by
  rw [f_X5_leadHere, if_neg (show ¬ nI q < 0 by rw [i_lt, i_nI (by omega)]; show ¬ (q : Int) < 0; omega), h.2.2.2.1, if_neg (by rw [n_le (by omega) (by omega)]; omega), if_pos (inN (show q < 800 by omega)), ixn (by omega)]
  simp only [lz_e]
/-- what the frames leave of a place of the codes -/
theorem FrA.op {q j : Nat} {A A' : Mm} (h : FrA p q A A') (hp : p = 10 ∨ p = 16 ∨ p = 22) (hj : j < q) : A' (p + 1) j = A (p + 1) j ∧ A' (p + 2) j = A (p + 2) j := ⟨h.1 (p + 1) j (by omega) (by omega) (by omega), h.1 (p + 2) j (by omega) (by omega) (by omega)⟩
theorem while_ok (hi0 : tk T L i = 11) (hA : AtA T L N p i la ea fa A) (hB : AtB T L (i + 1) d sb e.length ea fa B) (hl : la + 10 ≤ 2 * i) (hs : sb ≤ 4 * i) (hd : d ≤ 8) (he1 : e.length < d) (he2 : ∀ x, x ∈ e → x < d) (ht : MW T L N p d (fun M => RA 5 3 (nI d) M) (fun M => RB 5 69 1 M) true) (hb : BW T L N p d (fun M => RA 0 3 (nI d) M) (fun M => RB 0 69 0 M)) : ∃ x A' B', f_X4_testedLoop RA 3 (nI d) A = some (x, A') ∧ f_X11_loop RB 69 B = some (x, B') ∧ SPost T L N p i d la sb e A B x A' B' := by
  have hi := hA.le
  have hp := hA.1.2.2.2
  have nA := hA.next (by omega)
  have hi1 := nA.le
  obtain ⟨q1, q2⟩ := hB.put (by omega) 11
  obtain ⟨q3, q4⟩ := q2.put (by omega) 0
  obtain ⟨x, A1, B1, c1, c2, c3, c4, c5⟩ := ht (i + 1) la (sb + 1 + 1) e.length ea fa _ _ nA q4 (by omega) (by omega)
  have c1' : RA 5 3 (nI d) (nxA A i) = some (x, A1) := c1
  have c2' : RB 5 69 1 (puB (sb + 1) 0 (puB sb 11 B)) = some (x, B1) := c2
  have f1 := (nxA_fr p la A i).trans c3 (Nat.le_refl _)
  have f2 := ((puB_fr sb 11 B).trans (puB_fr (sb + 1) 0 _) (by omega)).trans c4 (by omega)
  rw [f_X4_testedLoop, hA.nx, lz_e, if_pos nA.okp, c1', bd2_e, f_X11_loop, q1, bd1_e, q3, bd1_e, c2', bd2_e]
  rcases c5 with ⟨rfl, hf⟩ | ⟨rfl, i1, la1, sb1, n1, g1, g2, g3, gm, g4, g5, g6, g7, g8⟩
  · exact ⟨0, A1, B1, if_pos rfl, if_pos rfl, f1, f2, Or.inl ⟨rfl, hf⟩⟩
  · have hi2 := g2.le
    obtain ⟨m1, m2⟩ := g2.emit (by omega) 35 0
    obtain ⟨x, A2, B2, d1, d2, d3, d4, d5⟩ := hb i1 (la1 + 1) (sb1 + 1) e ea fa _ _ m2 g3 (by omega) (by omega) (by omega) (fun x hx => Nat.le_of_lt (he2 x hx))
    have d1' : RA 0 3 (nI d) (emA p la1 35 0 A1) = some (x, A2) := d1
    have d2' : RB 0 69 0 B1 = some (x, B2) := d2
    have f3 := (f1.trans (emA_fr p la1 35 0 A1) (by omega)).trans d3 (by omega)
    have f4 := f2.trans d4 (by omega)
    rw [if_neg (show ¬ (1 : Int32) = 0 by decide), if_neg (show ¬ (1 : Int32) = 0 by decide), if_pos g2.okp, if_pos g2.okp, g2.ridp, m1, bd2_e, d1', bd2_e, d2', bd2_e]
    rcases d5 with ⟨rfl, hf⟩ | ⟨rfl, i2, la2, sb2, ea2, fa2, P, j1, j2, j3, j4, j5, j6, j7, j8⟩
    · exact ⟨0, A2, B2, if_pos rfl, if_pos rfl, f3, f4, Or.inl ⟨rfl, hf⟩⟩
    · have hi3 := j2.le
      obtain ⟨w1, w2⟩ := j2.emit (by omega) 38 (nI la)
      have w3 := w2.lead (q := la1) (by omega) (by omega)
      obtain ⟨r1, r2⟩ := j3.put (by omega) 41
      obtain ⟨r3, r4⟩ := r2.put (by omega) (nI sb)
      have w4 : nxA A i p 2 = nI la := nA.2.2.2.1
      refine ⟨1, wr (emA p la2 38 (nI la) A2) (p + 2) la1 (nI (la2 + 1)), wr (puB (sb2 + 1) (nI sb) (puB sb2 41 B2)) 75 (sb + 1) (nI (sb2 + 1 + 1)), ?_, ?_, ?_, ?_, Or.inr ⟨rfl, i2, la2 + 1, sb2 + 1 + 1, ea2, fa2, PO (P1 la sb e) (PO P (P1 la2 sb2 e)), by omega, w2.pat _ _, r4.pat _ _, by omega, by omega, by omega, by omega, ?_⟩⟩
      · rw [if_neg (show ¬ (1 : Int32) = 0 by decide), if_pos j2.okp, nA.ridp, j2.ridp, w4, w1, bd2_e, if_pos w2.okp, w2.ridp, g2.2.2.2.1, w3, bd1_e]
      · rw [if_neg (show ¬ (1 : Int32) = 0 by decide), r1, bd1_e, hB.2.2.2.1, r3, bd1_e, n_suc, if_pos (inN (show sb + 1 < 4000 by omega)), r4.2.2.2.1, ixn (by omega), lz_e]
      · exact (f3.trans (emA_fr _ _ _ _ _) (by omega)).trans (pat_frA la1 _) (by omega)
      · exact ((f4.trans (puB_fr _ _ _) (by omega)).trans (puB_fr _ _ _) (by omega)).trans (pat_frB (sb + 1) _) (by omega)
      · intro oF rF cF len S k1 k2 k3 k4 k5 k6 k7
        have hS1 : S la sb e := k6 _ _ _ (Or.inl ⟨rfl, rfl, rfl⟩)
        have hS2 : S la2 sb2 e := k6 _ _ _ (Or.inr (Or.inr ⟨rfl, rfl, rfl⟩))
        -- the codes
        have eA : ∀ j, j < la2 → emA p la2 38 (nI la) A2 (p + 1) j = A2 (p + 1) j ∧ emA p la2 38 (nI la) A2 (p + 2) j = A2 (p + 2) j := fun j hj => (emA_fr p la2 38 (nI la) A2).op hp hj
        have o1 : ∀ j, la ≤ j → j < la2 → j ≠ la1 → oF j = A2 (p + 1) j ∧ rF j = A2 (p + 2) j := fun j h1 h2 h3 => by
          rw [(k1 j h1 (by omega)).1, (k1 j h1 (by omega)).2, wr_ne (by omega), wr_col h3]; exact eA j h2
        have o2 : oF la1 = 35 ∧ rF la1 = nI (la2 + 1) := by
          rw [(k1 la1 (by omega) (by omega)).1, (k1 la1 (by omega) (by omega)).2, wr_ne (by omega), wr_at, (eA la1 (by omega)).1, (d3.op hp (by omega)).1, (emA_op p la1 35 0 A1).1]
          exact ⟨rfl, rfl⟩
        have o3 : oF la2 = 38 ∧ rF la2 = nI la := by
          rw [(k1 la2 (by omega) (by omega)).1, (k1 la2 (by omega) (by omega)).2, wr_ne (by omega), wr_col (by omega), (emA_op p la2 38 (nI la) A2).1, (emA_op p la2 38 (nI la) A2).2.1]
          exact ⟨rfl, rfl⟩
        have b1 : ∀ j, sb ≤ j → j < sb2 → j ≠ sb + 1 → cF j = B2 75 j := fun j h1 h2 h3 => by
          rw [k2 j h1 (by omega), wr_col h3, puB_o (by omega) (by omega), puB_o (by omega) (by omega)]
        have b2 : cF (sb + 1) = nI (sb2 + 1 + 1) := by rw [k2 _ (by omega) (by omega), wr_at]
        have b3 : cF sb2 = 41 := by rw [k2 _ (by omega) (by omega), wr_col (by omega), puB_o (by omega) (by omega), puB_at]
        have b4 : cF (sb2 + 1) = nI sb := by rw [k2 _ (by omega) (by omega), wr_col (by omega), puB_at]
        have b5 : cF sb = 11 := by rw [b1 _ (by omega) (by omega) (by omega), d4.at (by omega), c4.at (by omega), puB_o (by omega) (by omega), puB_at]
        have b6 : cF sb1 = 61 := by rw [b1 _ (by omega) (by omega) (by omega), d4.at (by omega), gm]
        obtain ⟨h1, h2⟩ := j8 oF rF cF len S (fun j a b => o1 j (by omega) (by omega) (by omega)) (fun j a b => b1 j (by omega) (by omega) (by omega)) (by omega) k4 (by omega) (fun a b f hf => k6 a b f (Or.inr (Or.inl hf))) hS2
        have sg : Seg oF rF cF n1 la (sb + 1 + 1) [] la1 sb1 [true] := g8.congr (fun j a b => by
            rw [(o1 j (by omega) (by omega) (by omega)).1, (o1 j (by omega) (by omega) (by omega)).2, (d3.op hp (show j < la1 + 1 by omega)).1, (d3.op hp (show j < la1 + 1 by omega)).2]
            exact (emA_fr p la1 35 0 A1).op hp (by omega)) (fun j a b => by rw [b1 j (by omega) (by omega) (by omega), d4.at (by omega)])
        refine ⟨hS1, fun a b f hf => ?_⟩
        rcases hf with ⟨rfl, rfl, rfl⟩ | hf | ⟨rfl, rfl, rfl⟩
        · exact ⟨Or.inr (Or.inr (Or.inr (Or.inr (Or.inl ⟨n1, la1, sb1, true, by omega, by omega, Or.inr b5, sg, b6, o2.1, h1, la2 + 1, sb2 + 1 + 1, o2.2, b2, k7⟩)))), by omega⟩
        · exact h2 a b f hf
        · refine ⟨Or.inr (Or.inl ⟨by omega, by omega, o3.1, b3, la, sb, o3.2, b4, hS1, ?_⟩), by omega⟩
          have l1 := sg.low la (Nat.le_refl _) g4
          have e0 : rk oF la = 0 := by
            unfold rk
            rw [if_neg]
            rintro (h | ⟨h, h'⟩)
            · rw [h] at l1; exact absurd l1 (by decide)
            · by_cases z : la + 1 = la1
              · rw [z, o2.1] at h'; exact absurd h' (by decide)
              · have l2 := sg.low (la + 1) (by omega) (by omega)
                rw [h'] at l2; exact absurd l2 (by decide)
          rw [e0, rk_38 o3.1]; omega
end BR
