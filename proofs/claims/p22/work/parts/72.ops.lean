/-! needs 30 31 32 33 34 35 36 37 38 39 40 41 42 43 44 45 46 47 50 70 72 73 -/
/-! calls of both: count, cell, gang, byteAt, errorAt -/
def OpR (H H' : Nat) (fA fB : Mm → Option (Int32 × Mm)) : Prop := ∀ A B, Rel H A B → ∃ k A' v B', fA A = some (k, A') ∧ fB B = some (v, B') ∧ B' 69 0 = k ∧ (k = 0 → A' 28 0 = v) ∧ Rel H' A' B' ∧ CF A A' ∧ RF B B'
theorem CF.refl (A : Mm) : CF A A := fun _ _ => rfl
theorem RF.refl (A : Mm) : RF A A := fun _ _ => rfl
theorem CF.trans {A B C : Mm} (h : CF A B) (k : CF B C) : CF A C := fun r hr => (k r hr).trans (h r hr)
theorem RF.trans {A B C : Mm} (h : RF A B) (k : RF B C) : RF A C := fun r hr => (k r hr).trans (h r hr)
theorem CF.wr (A : Mm) {i j : Nat} {v : Int32} (h : i < 69) : CF A (wr A i j v) := fun r hr => wr_ne (by omega)
theorem RF.wr (A : Mm) {i j : Nat} {v : Int32} (h : 69 ≤ i) : RF A (wr A i j v) := fun r hr => wr_ne (by omega)
theorem Rel.b0 {H : Nat} {A B : Mm} (h : Rel H A B) (v : Int32) : Rel H A (wr B 69 0 v) := h.congr (fun _ _ _ => rfl) (fun r h1 _ => wr_ne (by omega)) (fun c hc => wr_col (by omega))
theorem Rel.a28 {H : Nat} {A B : Mm} (h : Rel H A B) (v : Int32) : Rel H (wr A 28 0 v) B := h.congr (fun _ _ h => wr_ne h) (fun r _ _ => rfl) (fun c _ => rfl)
theorem op_no {H : Nat} {A B : Mm} {fA fB : Mm → Option (Int32 × Mm)} {c : Int32} (h : Rel H A B) (h1 : fA A = some (c, A)) (h2 : fB B = some (0, wr (wr B 69 0 0) 69 0 c)) (hc : c ≠ 0) : ∃ k A' v B', fA A = some (k, A') ∧ fB B = some (v, B') ∧ B' 69 0 = k ∧ (k = 0 → A' 28 0 = v) ∧ Rel H A' B' ∧ CF A A' ∧ RF B B' :=
  ⟨c, A, 0, _, h1, h2, wr_at _ _ _ _, fun e => absurd e hc, (h.b0 0).b0 c, CF.refl A, (RF.wr B (by decide)).trans (RF.wr _ (by decide))⟩
theorem op_ok {H' : Nat} {A B A1 B1 : Mm} {fA fB : Mm → Option (Int32 × Mm)} {v : Int32} (h : Rel H' A1 B1) (h1 : fA A = some (0, wr A1 28 0 v)) (h2 : fB B = some (v, B1)) (h0 : B1 69 0 = 0) (hA : CF A A1) (hB : RF B B1) : ∃ k A' v B', fA A = some (k, A') ∧ fB B = some (v, B') ∧ B' 69 0 = k ∧ (k = 0 → A' 28 0 = v) ∧ Rel H' A' B' ∧ CF A A' ∧ RF B B' :=
  ⟨0, _, v, _, h1, h2, h0, fun _ => wr_at _ _ _ _, h.a28 v, hA.trans (CF.wr _ (by decide)), hB⟩
theorem in_l {a lo hi : Int32} (h : a < lo) : f_X11_isIn a lo hi = 0 := by rw [f_X11_isIn, if_pos h]
theorem in_r {a lo hi : Int32} (h1 : ¬ a < lo) (h : hi < a) : f_X11_isIn a lo hi = 0 := by rw [f_X11_isIn, if_neg h1, if_pos h]
theorem in_1 {a lo hi : Int32} (h1 : ¬ a < lo) (h : ¬ hi < a) : f_X11_isIn a lo hi = 1 := by rw [f_X11_isIn, if_neg h1, if_neg h]
theorem wi_in : f_X9_isWithin = f_X11_isIn := rfl
theorem ic_ic : f_X9_isCell = f_X11_isCell := rfl
theorem ic_cases (a b : Int32) : f_X11_isCell a b = 0 ∨ (f_X11_isCell a b = 1 ∧ ∃ x y : Nat, x < 8 ∧ y < 8 ∧ a = nI x ∧ b = nI y) := by
  rw [f_X11_isCell, lz_e]
  by_cases h1 : a < 0
  · rw [in_l h1, if_pos rfl]; exact Or.inl rfl
  · by_cases h2 : (7 : Int32) < a
    · rw [in_r h1 h2, if_pos rfl]; exact Or.inl rfl
    · rw [in_1 h1 h2, if_neg (show ¬ (1 : Int32) = 0 by decide), lz_e]
      by_cases h3 : b < 0
      · rw [in_l h3, if_pos rfl]; exact Or.inl rfl
      · by_cases h4 : (7 : Int32) < b
        · rw [in_r h3 h4, if_pos rfl]; exact Or.inl rfl
        · rw [in_1 h3 h4, if_neg (show ¬ (1 : Int32) = 0 by decide)]
          rw [i_lt] at h1 h2 h3 h4
          have e0 : (0 : Int32).toInt = 0 := rfl
          have e7 : (7 : Int32).toInt = 7 := rfl
          rw [e0] at h1 h3
          rw [e7] at h2 h4
          refine Or.inr ⟨rfl, ix a, ix b, ?_, ?_, (n_ix (by omega)).symm, (n_ix (by omega)).symm⟩
          · have := ix_int (x := a) (by omega); omega
          · have := ix_int (x := b) (by omega); omega
theorem cl_A {x y : Nat} (hx : x < 8) (hy : y < 8) : f_X9_cellAt (nI x) (nI y) = nI (8 * y + x) := by
  rw [f_X9_cellAt, show nI y * (8 : Int32) = nI (y * 8) from n_mul (b := 8) (by omega) (by omega) (by omega), n_add]
  rw [show y * 8 + x = 8 * y + x by omega]
theorem cl_B {x y : Nat} (hx : x < 8) (hy : y < 8) : ((8 : Int32) * nI y) + nI x = nI (8 * y + x) := by
  rw [show (8 : Int32) * nI y = nI (8 * y) from n_mul (a := 8) (by omega) (by omega) (by omega), n_add]
/-- a small number by its two bounds -/
theorem nat_of {a : Int32} {N : Nat} (h0 : ¬ a < 0) (h1 : a < nI N) (hN : N < 2147483648) : ∃ i, i < N ∧ a = nI i := by
  rw [i_lt] at h0 h1
  have e0 : (0 : Int32).toInt = 0 := rfl
  rw [e0] at h0
  rw [i_nI hN] at h1
  refine ⟨ix a, ?_, (n_ix (by omega)).symm⟩
  have := ix_int (x := a) (by omega); omega
theorem gt_of {a b : Int32} {N : Nat} (hb : b.toInt = (N : Int) - 1) (hN : N < 2147483648) : b < a ↔ ¬ a < nI N := by
  rw [i_lt, i_lt, hb, i_nI hN]; omega
theorem n_pred {N : Nat} (hN : N < 2147483648) : (nI N - (1 : Int32)).toInt = (N : Int) - 1 := by
  have e1 : (1 : Int32).toInt = 1 := rfl
  rw [i_sub (by rw [e1, i_nI hN]; omega) (by rw [e1, i_nI hN]; omega), e1, i_nI hN]
/-! count -/
theorem count_ok (H : Nat) (a : Int32) : OpR H H (fun M => f_L_count 0 a 28 M) (fun M => f_X11_count 69 a M) := by
  intro A B h
  have g12 : (12 : Int32).toInt = ((13 : Nat) : Int) - 1 := rfl
  by_cases h0 : a < 0
  · refine op_no (c := 1) h ?_ ?_ (by decide)
    · rw [f_L_count, f_X9_count, if_pos h0, bd3_e, if_neg (by decide), if_pos rfl]
    · rw [f_X11_count, lz_e, lz_e, in_l h0, if_pos rfl, f_X11_no, lz_e, bd2_e]
  · by_cases h1 : a < (13 : Int32)
    · obtain ⟨i, hi, rfl⟩ := nat_of (N := 13) h0 h1 (by decide)
      have hb := h.b0 0
      obtain ⟨ng, p, len, oA, rA, cB, S, r1, r2, r3, r4⟩ := hb
      obtain ⟨B', c1, c2⟩ := cntB (B := wr B 69 0 0) r1.2.2.2.2.2.1 r1.2.2.2.2.1 i hi
      refine op_ok (A1 := A) (B1 := B') (v := cvA ng A i) ((h.b0 0).congr (fun _ _ _ => rfl) (fun r _ h => c2 r (by omega)) (fun c _ => by rw [c2 69 (by decide)])) ?_ ?_ (by rw [c2 69 (by decide), wr_at]) (CF.refl A) ((RF.wr B (by decide)).trans (fun r hr => c2 r (by omega)))
      · rw [f_L_count, f_X9_count, if_neg h0, if_pos h1, cntA r1.2.2.2.2.2.1 r1.2.2.2.1 i hi, bd1_e, bd3_e, if_pos rfl, lz_e]
      · rw [f_X11_count, lz_e, lz_e, in_1 h0 (fun e => (gt_of (N := 13) g12 (by decide)).mp e h1), if_neg (by decide), c1, bd2_e, cnt_eq r1 r4 i hi]
    · refine op_no (c := 1) h ?_ ?_ (by decide)
      · rw [f_L_count, f_X9_count, if_neg h0, if_neg h1, bd3_e, if_neg (by decide), if_pos rfl]
      · rw [f_X11_count, lz_e, lz_e, in_r h0 ((gt_of (N := 13) g12 (by decide)).mpr h1), if_pos rfl, f_X11_no, lz_e, bd2_e]
/-! cell -/
def cvC (b : Nat) (A : Mm) (c k : Nat) : Int32 := if k = 0 then A (b + 1) c else if k = 1 then A (b + 3) c else if k = 2 then A (b + 4) c else if k = 3 then A (b + 5) c else A (b + 6) c
theorem tellA (b : Nat) (A : Mm) {c k : Nat} (hc : c < 64) (hk : k < 5) : f_X1_tellCell b (nI c) (nI k) A = some (cvC b A c k) := by
  have : k = 0 ∨ k = 1 ∨ k = 2 ∨ k = 3 ∨ k = 4 := by omega
  rcases this with rfl | rfl | rfl | rfl | rfl
  · rw [f_X1_tellCell, if_pos (by rfl), if_pos (inN hc), ixn (by omega)]; rfl
  · rw [f_X1_tellCell, if_neg (by decide), if_pos (by rfl), if_pos (inN hc), ixn (by omega)]; rfl
  · rw [f_X1_tellCell, if_neg (by decide), if_neg (by decide), if_pos (by rfl), if_pos (inN hc), ixn (by omega)]; rfl
  · rw [f_X1_tellCell, if_neg (by decide), if_neg (by decide), if_neg (by decide), if_pos (by rfl), if_pos (inN hc), ixn (by omega)]; rfl
  · rw [f_X1_tellCell, if_neg (by decide), if_neg (by decide), if_neg (by decide), if_neg (by decide), if_pos (inN hc), ixn (by omega)]; rfl
theorem tellB {A B : Mm} (h : SimC 29 83 A B) {c k : Nat} (hc : c < 64) (hk : k < 5) : f_X11_cellTold 69 (nI c) (nI k) B = some (cvC 29 A c k) := by
  obtain ⟨s1, s2, s3, s4, s5⟩ := h c hc
  have : k = 0 ∨ k = 1 ∨ k = 2 ∨ k = 3 ∨ k = 4 := by omega
  rcases this with rfl | rfl | rfl | rfl | rfl
  · rw [f_X11_cellTold, if_pos (by rfl), if_pos (inN hc), ixn (by omega)]; exact congrArg some s1.symm
  · rw [f_X11_cellTold, if_neg (by decide), if_pos (by rfl), if_pos (inN hc), ixn (by omega)]; exact congrArg some s2.symm
  · rw [f_X11_cellTold, if_neg (by decide), if_neg (by decide), if_pos (by rfl), if_pos (inN hc), ixn (by omega)]; exact congrArg some s3.symm
  · rw [f_X11_cellTold, if_neg (by decide), if_neg (by decide), if_neg (by decide), if_pos (by rfl), if_pos (inN hc), ixn (by omega)]; exact congrArg some s4.symm
  · rw [f_X11_cellTold, if_neg (by decide), if_neg (by decide), if_neg (by decide), if_neg (by decide), if_pos (inN hc), ixn (by omega)]; exact congrArg some s5.symm
theorem cell_ok (H : Nat) (a b c : Int32) : OpR H H (fun M => f_L_cell 0 a b c 28 M) (fun M => f_X11_cell 69 a b c M) := by
  intro A B h
  have g4 : (4 : Int32).toInt = ((5 : Nat) : Int) - 1 := rfl
  rcases ic_cases a b with hc | ⟨hc, x, y, hx, hy, rfl, rfl⟩
  · refine op_no (c := 1) h ?_ ?_ (by decide)
    · rw [f_L_cell, f_X9_cell, ic_ic, lz_e, hc, if_pos rfl, bd3_e, if_neg (by decide), if_pos rfl]
    · rw [f_X11_cell, lz_e, lz_e, hc, if_pos rfl, f_X11_no, lz_e, bd2_e]
  · by_cases h0 : c < 0
    · refine op_no (c := 1) h ?_ ?_ (by decide)
      · rw [f_L_cell, f_X9_cell, ic_ic, lz_e, hc, if_neg (by decide), if_pos h0, bd3_e, if_neg (by decide), if_pos rfl]
      · rw [f_X11_cell, lz_e, lz_e, hc, if_neg (by decide), lz_e, in_l h0, if_pos rfl, f_X11_no, lz_e, bd2_e]
    · by_cases h1 : c < (5 : Int32)
      · obtain ⟨i, hi, rfl⟩ := nat_of (N := 5) h0 h1 (by decide)
        have hb := h.b0 0
        obtain ⟨ng, p, len, oA, rA, cB, S, r1, r2, r3, r4⟩ := hb
        refine op_ok (A1 := A) (B1 := wr B 69 0 0) (v := cvC 29 A (8 * y + x) i) (h.b0 0) ?_ ?_ (wr_at _ _ _ _) (CF.refl A) (RF.wr B (by decide))
        · rw [f_L_cell, f_X9_cell, ic_ic, lz_e, hc, if_neg (by decide), if_neg h0, if_pos h1, lz_e, cl_A hx hy, show (0 + 29 : Nat) = 29 from rfl, tellA 29 A (by omega) hi, bd1_e, bd3_e, if_pos rfl, lz_e]
        · rw [f_X11_cell, lz_e, lz_e, hc, if_neg (by decide), lz_e, in_1 h0 (fun e => (gt_of (N := 5) g4 (by decide)).mp e h1), if_neg (by decide), cl_B hx hy, tellB r1.1.1 (by omega) hi, bd1_e]
      · refine op_no (c := 1) h ?_ ?_ (by decide)
        · rw [f_L_cell, f_X9_cell, ic_ic, lz_e, hc, if_neg (by decide), if_neg h0, if_neg h1, bd3_e, if_neg (by decide), if_pos rfl]
        · rw [f_X11_cell, lz_e, lz_e, hc, if_neg (by decide), lz_e, in_r h0 ((gt_of (N := 5) g4 (by decide)).mpr h1), if_pos rfl, f_X11_no, lz_e, bd2_e]
/-! gang -/
theorem tellG {A B : Mm} {q s g : Nat} (hG : SimG q 83 g A B) (hI : InvG q A) (hg : g < 4) {k : Nat} (hk : k < 9) : f_X11_gangTold 69 (nI g) (nI k) B = some (f_X2_tell q (nI k) A) := by
  obtain ⟨s0, s1, s2, s3, s4, s5, s6, s7, s8⟩ := hG
  have hx : ∀ j, j < 10 → (if 0 ≤ (((10 : Int32) * nI g) + nI j).toInt ∧ (((10 : Int32) * nI g) + nI j).toInt < ((40 : Nat) : Int) then (some (B ((69 + 14) + 6) (ix (((10 : Int32) * nI g) + nI j)))) else none) = some (B 89 (10 * g + j)) := by
    intro j hj
    rw [g10 hg, n_add, if_pos (inN (show 10 * g + j < 40 by omega)), ixn (by omega)]
  have hk' : k = 0 ∨ k = 1 ∨ k = 2 ∨ k = 3 ∨ k = 4 ∨ k = 5 ∨ k = 6 ∨ k = 7 ∨ k = 8 := by omega
  rcases hk' with rfl | rfl | rfl | rfl | rfl | rfl | rfl | rfl | rfl
  · rw [f_X11_gangTold, if_neg (show ¬ (4 : Int32) ≤ nI 0 by decide), lz_e, hx 0 (by omega)]; exact congrArg some s0.symm
  · rw [f_X11_gangTold, if_neg (show ¬ (4 : Int32) ≤ nI 1 by decide), lz_e, hx 1 (by omega)]; exact congrArg some s1.symm
  · rw [f_X11_gangTold, if_neg (show ¬ (4 : Int32) ≤ nI 2 by decide), lz_e, hx 2 (by omega)]; exact congrArg some s2.symm
  · rw [f_X11_gangTold, if_neg (show ¬ (4 : Int32) ≤ nI 3 by decide), lz_e, hx 3 (by omega)]; exact congrArg some s3.symm
  · rw [f_X11_gangTold, if_pos (show (4 : Int32) ≤ nI 4 by decide), n_suc, lz_e, hx 5 (by omega), f_X2_tell, if_neg (by decide), if_neg (by decide), if_neg (by decide), if_neg (by decide), if_pos (by rfl)]
    rcases hI.2.2.2 with e | e
    · rw [if_pos e]; exact congrArg some (s4.symm.trans e)
    · rw [if_neg (by rw [e]; decide)]; exact congrArg some (s4.symm.trans e)
  · rw [f_X11_gangTold, if_pos (show (4 : Int32) ≤ nI 5 by decide), n_suc, lz_e, hx 6 (by omega)]; exact congrArg some s5.symm
  · rw [f_X11_gangTold, if_pos (show (4 : Int32) ≤ nI 6 by decide), n_suc, lz_e, hx 7 (by omega)]; exact congrArg some s6.symm
  · rw [f_X11_gangTold, if_pos (show (4 : Int32) ≤ nI 7 by decide), n_suc, lz_e, hx 8 (by omega)]; exact congrArg some s7.symm
  · rw [f_X11_gangTold, if_pos (show (4 : Int32) ≤ nI 8 by decide), n_suc, lz_e, hx 9 (by omega)]; exact congrArg some s8.symm
theorem gang_ok_ (H : Nat) (a b : Int32) : OpR H H (fun M => f_L_gang 0 a b 28 M) (fun M => f_X11_gang_ 69 a b M) := by
  intro A B h
  have hb := h.b0 0
  obtain ⟨ng, p, len, oA, rA, cB, S, r1, r2, r3, r4⟩ := hb
  have h15 := r1.2.2.2.1
  have h9 := r1.2.2.2.2.1
  have h4 := r1.2.2.2.2.2.1
  have hn : (wr B 69 0 0 69 9 - (1 : Int32)).toInt = (ng : Int) - 1 := by rw [h9, n_pred (by omega)]
  have g8 : (8 : Int32).toInt = ((9 : Nat) : Int) - 1 := rfl
  by_cases h0 : a < 0
  · refine op_no (c := 1) h ?_ ?_ (by decide)
    · rw [f_L_gang, f_X9_gang, if_pos h0, bd3_e, if_neg (by decide), if_pos rfl]
    · rw [f_X11_gang_, lz_e, lz_e, in_l h0, if_pos rfl, f_X11_no, lz_e, bd2_e]
  · by_cases h1 : a < nI ng
    · obtain ⟨g, hg, rfl⟩ := nat_of h0 h1 (by omega)
      by_cases k0 : b < 0
      · refine op_no (c := 1) h ?_ ?_ (by decide)
        · rw [f_L_gang, f_X9_gang, if_neg h0, show (0 + 29 : Nat) = 29 from rfl, h15, if_pos h1, if_pos k0, bd3_e, if_neg (by decide), if_pos rfl]
        · rw [f_X11_gang_, lz_e, lz_e, in_1 h0 (fun e => (gt_of hn (by omega)).mp e h1), if_neg (by decide), lz_e, in_l k0, if_pos rfl, f_X11_no, lz_e, bd2_e]
      · by_cases k1 : b < (9 : Int32)
        · obtain ⟨k, hk, rfl⟩ := nat_of (N := 9) k0 k1 (by decide)
          obtain ⟨g1, g2, -⟩ := r1.2.2.2.2.2.2 g hg
          refine op_ok (A1 := A) (B1 := wr B 69 0 0) (v := f_X2_tell (39 + 2 * g) (nI k) A) (h.b0 0) ?_ ?_ (wr_at _ _ _ _) (CF.refl A) (RF.wr B (by decide))
          · rw [f_L_gang, f_X9_gang, if_neg h0, show (0 + 29 : Nat) = 29 from rfl, h15, if_pos h1, if_neg k0, if_pos k1, if_pos (inN (show g < 4 by omega)), ixn (by omega), lz_e, bd3_e, if_pos rfl, lz_e]
          · rw [f_X11_gang_, lz_e, lz_e, in_1 h0 (fun e => (gt_of hn (by omega)).mp e h1), if_neg (by decide), lz_e, in_1 k0 (fun e => (gt_of (N := 9) g8 (by decide)).mp e k1), if_neg (by decide), tellG (s := 83) g1 g2 (by omega) hk, bd1_e]
        · refine op_no (c := 1) h ?_ ?_ (by decide)
          · rw [f_L_gang, f_X9_gang, if_neg h0, show (0 + 29 : Nat) = 29 from rfl, h15, if_pos h1, if_neg k0, if_neg k1, bd3_e, if_neg (by decide), if_pos rfl]
          · rw [f_X11_gang_, lz_e, lz_e, in_1 h0 (fun e => (gt_of hn (by omega)).mp e h1), if_neg (by decide), lz_e, in_r k0 ((gt_of (N := 9) g8 (by decide)).mpr k1), if_pos rfl, f_X11_no, lz_e, bd2_e]
    · refine op_no (c := 1) h ?_ ?_ (by decide)
      · rw [f_L_gang, f_X9_gang, if_neg h0, show (0 + 29 : Nat) = 29 from rfl, h15, if_neg h1, bd3_e, if_neg (by decide), if_pos rfl]
      · rw [f_X11_gang_, lz_e, lz_e, in_r h0 ((gt_of hn (by omega)).mpr h1), if_pos rfl, f_X11_no, lz_e, bd2_e]
/-! byteAt, errorAt -/
theorem byteAt_ok (H : Nat) (a : Int32) : OpR H H (fun M => f_L_byteAt 0 a 28 M) (fun M => f_X11_byteAt 69 a M) := by
  intro A B h
  have hb := h.b0 0
  obtain ⟨ng, p, len, oA, rA, cB, S, r1, r2, r3, r4, r5, ⟨D, d1, d2, d3, d4⟩, r6⟩ := hb
  have hn : (wr B 69 0 0 69 5 - (1 : Int32)).toInt = (D : Int) - 1 := by rw [d3, n_pred (by omega)]
  by_cases h0 : a < 0
  · refine op_no (c := 1) h ?_ ?_ (by decide)
    · rw [f_L_byteAt, f_X9_byteAt, if_pos h0, bd3_e, if_neg (by decide), if_pos rfl]
    · rw [f_X11_byteAt, lz_e, lz_e, in_l h0, if_pos rfl, f_X11_no, lz_e, bd2_e]
  · by_cases h1 : a < nI D
    · obtain ⟨g, hg, rfl⟩ := nat_of h0 h1 (by omega)
      refine op_ok (A1 := A) (B1 := wr B 69 0 0) (v := A 2 g) (h.b0 0) ?_ ?_ (wr_at _ _ _ _) (CF.refl A) (RF.wr B (by decide))
      · rw [f_L_byteAt, f_X9_byteAt, if_neg h0, d2, if_pos h1, if_pos (inN (show g < 72 by omega)), ixn (by omega), bd3_e, if_pos rfl, lz_e]
      · rw [f_X11_byteAt, lz_e, lz_e, in_1 h0 (fun e => (gt_of hn (by omega)).mp e h1), if_neg (by decide), if_pos (inN (show g < 72 by omega)), ixn (by omega), d4 g hg]
    · refine op_no (c := 1) h ?_ ?_ (by decide)
      · rw [f_L_byteAt, f_X9_byteAt, if_neg h0, d2, if_neg h1, bd3_e, if_neg (by decide), if_pos rfl]
      · rw [f_X11_byteAt, lz_e, lz_e, in_r h0 ((gt_of hn (by omega)).mpr h1), if_pos rfl, f_X11_no, lz_e, bd2_e]
theorem errorAt_ok {H : Nat} {A B : Mm} (h : Rel H A B) : f_X11_errorAt 69 B = some (f_X9_errorAt 0 A, wr B 69 0 0) ∧ Rel H A (wr B 69 0 0) := by
  have hb := h.b0 0
  refine ⟨?_, hb⟩
  obtain ⟨ng, p, len, oA, rA, cB, S, r1, r2, r3, r4, r5, r6, r7, r8⟩ := hb
  rw [f_X11_errorAt, lz_e, f_X9_errorAt, r8]
