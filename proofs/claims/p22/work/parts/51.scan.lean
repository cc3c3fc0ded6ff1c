/-! needs 30 31 50 51 52 -/
/-! the tokens of a text one behind the other -/
theorem symE_rng {T : Nat → Int32} {L st : Nat} (h : st < L) : st < symE T L st ∧ symE T L st ≤ L := by
  unfold symE
  by_cases z : st + 2 ≤ L ∧ kw T st (st + 2) < 51
  · rw [if_pos z]; omega
  · rw [if_neg z]; omega
theorem tokE_rng {T : Nat → Int32} {L st : Nat} (h : st ≤ L) : st ≤ tokE T L st ∧ tokE T L st ≤ L := by
  unfold tokE
  by_cases z : st < L
  · rw [if_pos z]
    by_cases z1 : tLe T st = true
    · rw [if_pos z1]
      have := run_rng (P := tWo T) (L := L) _ st rfl h
      exact ⟨this.1, this.2.1⟩
    · rw [if_neg z1]
      by_cases z2 : tDi T st = true
      · rw [if_pos z2]
        have := run_rng (P := tDi T) (L := L) _ st rfl h
        exact ⟨this.1, this.2.1⟩
      · rw [if_neg z2]; have := symE_rng (T := T) z; omega
  · rw [if_neg z]; omega
def tpos (T : Nat → Int32) (L : Nat) : Nat → Nat
  | 0 => 0
  | i + 1 => tokE T L (run (tBl T) L (tpos T L i))
def tst (T : Nat → Int32) (L i : Nat) : Nat := run (tBl T) L (tpos T L i)
def tk (T : Nat → Int32) (L i : Nat) : Nat := if i = 400 ∧ tokT T L (tst T L i) ≠ 49 then 50 else tokT T L (tst T L i)
theorem tpos_s (T : Nat → Int32) (L i : Nat) : tpos T L (i + 1) = tokE T L (tst T L i) := rfl
theorem tpos_le {T : Nat → Int32} {L : Nat} : ∀ i, tpos T L i ≤ L
  | 0 => Nat.zero_le _
  | i + 1 => (tokE_rng (run_rng (P := tBl T) (L := L) _ _ rfl (tpos_le i)).2.1).2
theorem tst_le (T : Nat → Int32) (L i : Nat) : tst T L i ≤ L := (run_rng (P := tBl T) (L := L) _ _ rfl (tpos_le i)).2.1
theorem tst_pos (T : Nat → Int32) (L i : Nat) : tst T L i ≤ tpos T L (i + 1) := (tokE_rng (tst_le T L i)).1
theorem symT_le (T : Nat → Int32) (L st : Nat) : symT T L st < 51 ∧ symT T L st ≠ 49 := by
  unfold symT
  rcases kw_spec (T := T) (show st < st + 2 by omega) with ⟨k1, -⟩ | ⟨k1, -⟩ <;> rcases kw_spec (T := T) (show st < st + 1 by omega) with ⟨j1, -⟩ | ⟨j1, -⟩ <;> split <;> (try split) <;> omega
theorem worT_le {T : Nat → Int32} {st e : Nat} (h : st < e) : worT T st e < 51 ∧ worT T st e ≠ 49 := by
  unfold worT
  rcases kw_spec (T := T) h with ⟨j1, -⟩ | ⟨j1, -⟩ <;> split <;> (try split) <;> omega
theorem numT_le (st e : Nat) : numT st e < 51 ∧ numT st e ≠ 49 := by
  unfold numT; split <;> omega
theorem word_lt {T : Nat → Int32} {L st : Nat} (h : st < L) (hl : tLe T st = true) : st < run (tWo T) L st := by
  rw [run_on h (by unfold tWo; rw [hl]; rfl)]
  have := (run_rng (P := tWo T) (L := L) _ (st + 1) rfl (by omega)).1
  omega
theorem tokT_le (T : Nat → Int32) (L st : Nat) : tokT T L st < 51 ∧ (st < L → tokT T L st ≠ 49) ∧ (¬ st < L → tokT T L st = 49) := by
  unfold tokT
  by_cases z : st < L
  · rw [if_pos z]
    refine ⟨?_, fun _ => ?_, fun h => absurd z h⟩
    · split
      · next h => exact (worT_le (word_lt z h)).1
      · split
        · exact (numT_le _ _).1
        · exact (symT_le _ _ _).1
    · split
      · next h => exact (worT_le (word_lt z h)).2
      · split
        · exact (numT_le _ _).2
        · exact (symT_le _ _ _).2
  · rw [if_neg z]
    exact ⟨by omega, fun h => absurd h z, fun _ => rfl⟩
theorem tk_le (T : Nat → Int32) (L i : Nat) : tk T L i < 51 ∧ (tk T L i = 49 ↔ tokT T L (tst T L i) = 49) := by
  have := (tokT_le T L (tst T L i)).1
  unfold tk
  split <;> omega
/-- the reference stands at token i -/
def TokR (T : Nat → Int32) (L i : Nat) (B : Mm) : Prop := B 69 12 = nI (tpos T L (i + 1)) ∧ B 69 13 = nI (if tk T L i = 49 then i else i + 1) ∧ B 69 14 = kdB (tk T L i) ∧ B 69 15 = nI (tst T L i) ∧ (tk T L i < 50 → B 69 16 = isB T L (tst T L i) (tk T L i))
theorem adv_tok {L i : Nat} {B : Mm} (h : TapB L B) (hi : i ≤ 400) (hpos : B 69 12 = nI (tpos (B 70) L i)) (hc : B 69 13 = nI i) : ∃ B', f_X11_advance 69 B = some B' ∧ Fr B B' ∧ TokR (B 70) L i B' := by
  have h0 := h.1
  have hp := tpos_le (T := B 70) (L := L) i
  have hs := tst_le (B 70) L i
  have hT := tokT_le (B 70) L (tst (B 70) L i)
  have hK := tk_le (B 70) L i
  rw [f_X11_advance, B_blank _ _ FU B h rfl hp (by unfold FU; omega) hpos, bd1_e]
  simp only [lz_e]
  rw [wr_at]
  rw [show run (tBl (B 70)) L (tpos (B 70) L i) = tst (B 70) L i from rfl]
  generalize hM : wr (wr (wr B 69 12 (nI (tst (B 70) L i))) 69 15 (nI (tst (B 70) L i))) 69 16 (-1) = M
  have m12 : M 69 12 = nI (tst (B 70) L i) := by rw [← hM, wr_col (by decide), wr_col (by decide), wr_at]
  have m15 : M 69 15 = nI (tst (B 70) L i) := by rw [← hM, wr_col (by decide), wr_at]
  have m16 : M 69 16 = -1 := by rw [← hM, wr_at]
  have m13 : M 69 13 = nI i := by rw [← hM, wr_col (by decide), wr_col (by decide), wr_col (by decide)]; exact hc
  have mF : Fr B M := by rw [← hM]; exact ((Fr.set (by omega)).trans (Fr.set (by omega))).trans (Fr.set (by omega))
  have m2 : M 69 2 = nI L := (mF.tap h).2.1
  by_cases z : tst (B 70) L i < L
  · have t49 : ¬ tk (B 70) L i = 49 := fun e => hT.2.1 z (hK.2.mp e)
    rw [m12, m2, if_neg (by rw [n_inj (by omega) (by omega)]; omega), m13, n_suc]
    have qF : Fr B (wr M 69 13 (nI (i + 1))) := mF.trans (Fr.set (by omega))
    have q70 : wr M 69 13 (nI (i + 1)) 70 = B 70 := qF.row (by decide)
    have qT := qF.tap h
    have q12 : wr M 69 13 (nI (i + 1)) 69 12 = nI (tst (B 70) L i) := by rw [wr_col (by decide)]; exact m12
    have q15 : wr M 69 13 (nI (i + 1)) 69 15 = nI (tst (B 70) L i) := by rw [wr_col (by decide)]; exact m15
    have q16 : wr M 69 13 (nI (i + 1)) 69 16 = -1 := by rw [wr_col (by decide)]; exact m16
    have q13 : wr M 69 13 (nI (i + 1)) 69 13 = nI (i + 1) := wr_at _ _ _ _
    generalize wr M 69 13 (nI (i + 1)) = Q at qF q70 qT q12 q15 q16 q13 ⊢
    -- the three sorts of token
    have key : ∃ v, (bd1 (f_X11_isLetter 69 (Q 69 12) Q) fun x19 => (bd1 (if x19 = 0 then (bd1 (f_X11_isDigit 69 (Q 69 12) Q) fun x24 => if x24 = 0 then (bd1 (f_X11_symbol 69 Q) fun M28 => some M28) else (bd1 (f_X11_number 69 Q) fun M31 => some M31)) else (bd1 (f_X11_word 69 Q) fun M34 => some M34)) fun M37 => if M37 69 13 ≤ (400 : Int32) then some M37 else some (wr M37 69 14 0))) = (if wr (wr (wr Q 69 12 (nI (tpos (B 70) L (i + 1)))) 69 14 (kdB (tokT (B 70) L (tst (B 70) L i)))) 69 16 v 69 13 ≤ (400 : Int32) then some (wr (wr (wr Q 69 12 (nI (tpos (B 70) L (i + 1)))) 69 14 (kdB (tokT (B 70) L (tst (B 70) L i)))) 69 16 v) else some (wr (wr (wr (wr Q 69 12 (nI (tpos (B 70) L (i + 1)))) 69 14 (kdB (tokT (B 70) L (tst (B 70) L i)))) 69 16 v) 69 14 0)) ∧ (tokT (B 70) L (tst (B 70) L i) < 50 → v = isB (B 70) L (tst (B 70) L i) (tokT (B 70) L (tst (B 70) L i))) := by
      rw [q12, tpos_s]
      unfold tokE tokT
      rw [if_pos z, if_pos z]
      by_cases z1 : tLe (B 70) (tst (B 70) L i) = true
      · obtain ⟨v, e1, e2⟩ := B_wordT qT z (by rw [q70]; exact z1) q12 q15 q16
        rw [q70] at e1 e2
        refine ⟨v, ?_, by rw [if_pos z1]; exact e2⟩
        rw [letB1 qT z (by rw [q70]; exact z1), bd1_e, if_neg (show ¬ (1 : Int32) = 0 by decide), e1, bd1_e, bd1_e, if_pos z1, if_pos z1]
      · rw [letB0 qT hs (by rw [q70]; exact fun x => z1 x.2), bd1_e, if_pos rfl, if_neg z1, if_neg z1]
        by_cases z2 : tDi (B 70) (tst (B 70) L i) = true
        · obtain ⟨v, e1, e2⟩ := B_numb qT z q12 q15
          rw [q70] at e1 e2
          refine ⟨v, ?_, by rw [if_pos z2]; exact e2⟩
          rw [digB1 qT z (by rw [q70]; exact z2), bd1_e, if_neg (show ¬ (1 : Int32) = 0 by decide), e1, bd1_e, bd1_e, if_pos z2, if_pos z2]
        · obtain ⟨v, e1, e2⟩ := B_sym qT z q12 (by rw [q70]; exact z1)
          rw [q70] at e1 e2
          refine ⟨v, ?_, ?_⟩
          · rw [digB0 qT hs (by rw [q70]; exact fun x => z2 x.2), bd1_e, if_pos rfl, e1, bd1_e, bd1_e, if_neg z2, if_neg z2]
          · rw [if_neg z2]
            intro h50
            obtain ⟨g1, g2, g3⟩ := e2 h50
            unfold isB
            rw [if_neg (by omega), if_pos g2]; exact g3
    obtain ⟨v, e1, e2⟩ := key
    rw [e1]
    have w13 : wr (wr (wr Q 69 12 (nI (tpos (B 70) L (i + 1)))) 69 14 (kdB (tokT (B 70) L (tst (B 70) L i)))) 69 16 v 69 13 = nI (i + 1) := by
      rw [wr_col (by decide), wr_col (by decide), wr_col (by decide)]; exact q13
    have wF : Fr B (wr (wr (wr Q 69 12 (nI (tpos (B 70) L (i + 1)))) 69 14 (kdB (tokT (B 70) L (tst (B 70) L i)))) 69 16 v) := ((qF.trans (Fr.set (by omega))).trans (Fr.set (by omega))).trans (Fr.set (by omega))
    rw [w13]
    by_cases z4 : i + 1 ≤ 400
    · have et : tk (B 70) L i = tokT (B 70) L (tst (B 70) L i) := by unfold tk; rw [if_neg (by omega)]
      rw [if_pos (show nI (i + 1) ≤ 400 from (n_le (b := 400) (by omega) (by omega)).mpr z4)]
      refine ⟨_, rfl, wF, ?_, ?_, ?_, ?_, ?_⟩
      · rw [wr_col (by decide), wr_col (by decide), wr_at]
      · rw [w13, if_neg t49]
      · rw [wr_col (by decide), wr_at, et]
      · rw [wr_col (by decide), wr_col (by decide), wr_col (by decide)]; exact q15
      · rw [et, wr_at]; exact e2
    · have et : tk (B 70) L i = 50 := by
        unfold tk
        rw [if_pos ⟨by omega, hT.2.1 z⟩]
      rw [if_neg (show ¬ nI (i + 1) ≤ 400 from fun x => z4 ((n_le (b := 400) (by omega) (by omega)).mp x))]
      refine ⟨_, rfl, wF.trans (Fr.set (by omega)), ?_, ?_, ?_, ?_, ?_⟩
      · rw [wr_col (by decide), wr_col (by decide), wr_col (by decide), wr_at]
      · rw [wr_col (by decide), w13, if_neg t49]
      · rw [wr_at, et]; rfl
      · rw [wr_col (by decide), wr_col (by decide), wr_col (by decide), wr_col (by decide)]; exact q15
      · rw [et]; intro h; omega
  · have t49 : tk (B 70) L i = 49 := hK.2.mpr (hT.2.2 z)
    rw [m12, m2, if_pos (by rw [n_inj (by omega) (by omega)]; omega)]
    refine ⟨_, rfl, mF.trans (Fr.set (by omega)), ?_, ?_, ?_, ?_, ?_⟩
    · rw [wr_col (by decide), m12, tpos_s]
      unfold tokE
      rw [if_neg z]
    · rw [wr_col (by decide), m13, if_pos t49]
    · rw [wr_at, t49]; rfl
    · rw [wr_col (by decide), m15]
    · rw [t49, wr_col (by decide), m16]; intro _; rfl
/-! the class's tokens, all at once -/
/-- the class has its tokens: the first N are neither the end nor wrong, token N is -/
def ScanR (T : Nat → Int32) (L N : Nat) (A : Mm) : Prop := N ≤ 400 ∧ 49 ≤ tk T L N ∧ (∀ j, j < N → tk T L j < 49) ∧ (∀ j, j ≤ N → A 5 j = nI (1001 + tk T L j) ∧ A 6 j = nI (tst T L j) ∧ A 7 j = nI (tpos T L (j + 1)))
theorem TapeR.cong {L : Nat} {A A' B : Mm} (h : TapeR L A B) (h1 : A' 1 = A 1) (h4 : A' 4 = A 4) : TapeR L A' B := ⟨h.1, by rw [h4]; exact h.2.1, by rw [h4]; exact h.2.2.1, h.2.2.2.1, by rw [h1]; exact h.2.2.2.2⟩
theorem scan1 {L i n : Nat} {A B : Mm} (h : TapeR L A B) (hi : i ≤ 400) : ∃ A1, f_X6_scan_L23 4 1 (n + 1) (nI (tpos (B 70) L i)) 0 (nI i) A = f_X6_scan_L23 4 1 n (nI (tpos (B 70) L (i + 1))) (if 49 ≤ tk (B 70) L i then 1 else 0) (nI (i + 1)) A1 ∧ A1 5 i = nI (1001 + tk (B 70) L i) ∧ A1 6 i = nI (tst (B 70) L i) ∧ A1 7 i = nI (tpos (B 70) L (i + 1)) ∧ (∀ r c, (r < 5 ∨ 7 < r ∨ c ≠ i) → A1 r c = A r c) := by
  have h0 := h.1
  have hI : 0 ≤ (nI i).toInt ∧ (nI i).toInt < ((401 : Nat) : Int) := inN (show i < 401 by omega)
  have hs := tst_le (B 70) L i
  have hp := tpos_le (T := B 70) (L := L) i
  have hT := tokT_le (B 70) L (tst (B 70) L i)
  have eI : ix (nI i) = i := ixn (by omega)
  have h1 : TapeR L (wr (wr A 6 i (nI (tst (B 70) L i))) 7 i (nI (tst (B 70) L i))) B := (h.set (by omega)).set (by omega)
  have hA : f_X6_behindBlanks 4 (nI (tpos (B 70) L i)) A = some (nI (tst (B 70) L i)) := by
    rw [f_X6_behindBlanks, A_blank h _ _ FU rfl hp (by unfold FU; omega), bd1_e]
    rfl
  have hK := A_tok (i := i) (st := tst (B 70) L i) h1 (by omega) (by rw [wr_ne (by decide), wr_at]) (wr_at _ _ _ _) hs
  rw [f_X6_scan_L23, if_neg (show ¬ (400 : Int32) < nI i by rw [show ((400 : Int32)) = nI 400 from rfl, n_lt (by omega) (by omega)]; omega), if_pos rfl, hA, bd1_e]
  simp only [lz_e, if_pos hI, eI, show (4 + 1 : Nat) = 5 from rfl, show (4 + 2 : Nat) = 6 from rfl, show (4 + 3 : Nat) = 7 from rfl]
  rw [wr_at, hK, bd2_e, if_pos (tkc_n hT.1), wr_at, if_pos (tkc_n hT.1)]
  rw [← tpos_s]
  have e400 : (nI i = (400 : Int32)) ↔ i = 400 := n_inj (b := 400) (by omega) (by omega)
  have e50 : ∀ t, t < 51 → ((nI (1001 + t) = (1050 : Int32)) ↔ t = 49) := fun t ht => by
    rw [show ((1050 : Int32)) = nI (1001 + 49) from rfl, n_inj (by omega) (by omega)]; omega
  have e51 : ∀ t, t < 51 → ((nI (1001 + t) = (1051 : Int32)) ↔ t = 50) := fun t ht => by
    rw [show ((1051 : Int32)) = nI (1001 + 50) from rfl, n_inj (by omega) (by omega)]; omega
  generalize hQ : wr (wr (wr A 6 i (nI (tst (B 70) L i))) 7 i (nI (tst (B 70) L i))) 7 i (nI (tpos (B 70) L (i + 1))) = Q
  have q6 : Q 6 i = nI (tst (B 70) L i) := by rw [← hQ, wr_ne (by decide), wr_ne (by decide), wr_at]
  have q7 : Q 7 i = nI (tpos (B 70) L (i + 1)) := by rw [← hQ, wr_at]
  have qF : ∀ r c, (r < 5 ∨ 7 < r ∨ c ≠ i) → Q r c = A r c := fun r c e => by
    rw [← hQ, wr_o (by omega), wr_o (by omega), wr_o (by omega)]
  -- the row of the kinds
  have hx : (if nI i = (400 : Int32) then (if nI (1001 + tokT (B 70) L (tst (B 70) L i)) = (1050 : Int32) then some (wr Q 5 i (nI (1001 + tokT (B 70) L (tst (B 70) L i)))) else some (wr (wr Q 5 i (nI (1001 + tokT (B 70) L (tst (B 70) L i)))) 5 i 1051)) else some (wr Q 5 i (nI (1001 + tokT (B 70) L (tst (B 70) L i))))) = some (wr Q 5 i (nI (1001 + tk (B 70) L i))) := by
    unfold tk
    by_cases z : i = 400
    · rw [if_pos (e400.mpr z)]
      by_cases z2 : tokT (B 70) L (tst (B 70) L i) = 49
      · rw [if_pos ((e50 _ hT.1).mpr z2), if_neg (fun x => x.2 z2)]
      · rw [if_neg (fun x => z2 ((e50 _ hT.1).mp x)), if_pos ⟨z, z2⟩, wr_wr]; rfl
    · rw [if_neg (fun x => z (e400.mp x)), if_neg (fun x => z x.1)]
  have hk := (tk_le (B 70) L i).1
  rw [hx, bd1_e, wr_at, if_pos (tkc_n hk), if_pos (tkc_n hk), wr_ne (show 7 ≠ 5 by decide), q7, n_suc]
  have hf : (if nI (1001 + tk (B 70) L i) = (1050 : Int32) then some (1 : Int32) else if nI (1001 + tk (B 70) L i) = (1051 : Int32) then some 1 else some 0) = some (if 49 ≤ tk (B 70) L i then 1 else 0) := by
    by_cases z : tk (B 70) L i = 49
    · rw [if_pos ((e50 _ hk).mpr z), if_pos (show 49 ≤ tk (B 70) L i by omega)]
    · rw [if_neg (fun x => z ((e50 _ hk).mp x))]
      by_cases z2 : tk (B 70) L i = 50
      · rw [if_pos ((e51 _ hk).mpr z2), if_pos (show 49 ≤ tk (B 70) L i by omega)]
      · rw [if_neg (fun x => z2 ((e51 _ hk).mp x)), if_neg (show ¬ 49 ≤ tk (B 70) L i by omega)]
  rw [hf, bd1_e]
  refine ⟨_, rfl, wr_at _ _ _ _, by rw [wr_ne (by decide)]; exact q6, by rw [wr_ne (by decide)]; exact q7, fun r c e => ?_⟩
  rw [wr_o (by omega), qF r c e]
theorem A_scan {L : Nat} {B : Mm} : ∀ (k i n : Nat) (A : Mm), TapeR L A B → i + k = 400 → k + 1 < n → ∃ A' N, f_X6_scan_L23 4 1 n (nI (tpos (B 70) L i)) 0 (nI i) A = some A' ∧ i ≤ N ∧ N ≤ 400 ∧ 49 ≤ tk (B 70) L N ∧ (∀ j, i ≤ j → j < N → tk (B 70) L j < 49) ∧ (∀ j, i ≤ j → j ≤ N → A' 5 j = nI (1001 + tk (B 70) L j) ∧ A' 6 j = nI (tst (B 70) L j) ∧ A' 7 j = nI (tpos (B 70) L (j + 1))) ∧ (∀ r c, (r < 5 ∨ 7 < r ∨ c < i) → A' r c = A r c) := by
  intro k
  induction k with
  | zero =>
    intro i n A h hi hn
    obtain ⟨m, rfl⟩ : ∃ m, n = m + 2 := ⟨n - 2, by omega⟩
    obtain ⟨A1, e, a5, a6, a7, aF⟩ := scan1 (n := m + 1) h (show i ≤ 400 by omega)
    have h49 : 49 ≤ tk (B 70) L i := by
      unfold tk
      by_cases z : tokT (B 70) L (tst (B 70) L i) = 49
      · rw [if_neg (fun x => x.2 z)]; omega
      · rw [if_pos ⟨by omega, z⟩]; omega
    refine ⟨A1, i, ?_, Nat.le_refl _, by omega, h49, fun j h1 h2 => by omega, fun j h1 h2 => ?_, fun r c hr => aF r c (by omega)⟩
    · rw [e, if_pos h49, f_X6_scan_L23, if_neg (show ¬ (1 : Int32) = 0 by decide)]
      split <;> rfl
    · have : j = i := by omega
      subst this; exact ⟨a5, a6, a7⟩
  | succ k ih =>
    intro i n A h hi hn
    obtain ⟨m, rfl⟩ : ∃ m, n = m + 2 := ⟨n - 2, by omega⟩
    obtain ⟨A1, e, a5, a6, a7, aF⟩ := scan1 (n := m + 1) h (show i ≤ 400 by omega)
    by_cases h49 : 49 ≤ tk (B 70) L i
    · refine ⟨A1, i, ?_, Nat.le_refl _, by omega, h49, fun j h1 h2 => by omega, fun j h1 h2 => ?_, fun r c hr => aF r c (by omega)⟩
      · rw [e, if_pos h49, f_X6_scan_L23, if_neg (show ¬ (1 : Int32) = 0 by decide)]
        split <;> rfl
      · have : j = i := by omega
        subst this; exact ⟨a5, a6, a7⟩
    · have h1 : TapeR L A1 B := h.cong (funext fun c => aF 1 c (by omega)) (funext fun c => aF 4 c (by omega))
      obtain ⟨A', N, f, n1, n2, n3, n4, n5, n6⟩ := ih (i + 1) (m + 1) A1 h1 (by omega) (by omega)
      refine ⟨A', N, by rw [e, if_neg h49, f], by omega, n2, n3, fun j h1 h2 => ?_, fun j h1 h2 => ?_, fun r c hr => ?_⟩
      · by_cases z : j = i
        · subst z; omega
        · exact n4 j (by omega) h2
      · by_cases z : j = i
        · subst z
          rw [n6 5 j (by omega), n6 6 j (by omega), n6 7 j (by omega)]
          exact ⟨a5, a6, a7⟩
        · exact n5 j (by omega) h2
      · rw [n6 r c (by omega), aF r c (by omega)]
theorem A_scans {L : Nat} {A B : Mm} {a : Int32} (hL : L ≤ 2000) (ha : imin a 2000 = nI L) (hb : B 69 2 = nI L) (h : ∀ k, k < L → Byt (A 1 k) (B 70 k)) : ∃ A' N, f_X6_scan 4 1 a A = some A' ∧ ScanR (B 70) L N A' ∧ TapeR L A' B ∧ (∀ r c, (r < 4 ∨ 7 < r ∨ (r = 4 ∧ c ≠ 3 ∧ c ≠ 4)) → A' r c = A r c) := by
  have h1 : TapeR L (wr (wr A 4 3 (nI (1 + 1))) 4 4 (nI L)) B := by
    refine ⟨hL, ?_, wr_at _ _ _ _, hb, fun k hk => ?_⟩
    · rw [wr_col (by decide), wr_at]
    · rw [wr_ne (by decide), wr_ne (by decide)]; exact h k hk
  obtain ⟨A', N, e, -, n2, n3, n4, n5, n6⟩ := A_scan (B := B) 400 0 FU _ h1 rfl (by unfold FU; omega)
  refine ⟨A', N, ?_, ⟨n2, n3, fun j hj => n4 j (Nat.zero_le _) hj, fun j hj => n5 j (Nat.zero_le _) hj⟩, h1.cong (funext fun c => n6 1 c (by omega)) (funext fun c => n6 4 c (by omega)), fun r c hr => ?_⟩
  · have e' : f_X6_scan_L23 4 1 FU 0 0 0 (wr (wr A 4 3 (nI (1 + 1))) 4 4 (nI L)) = some A' := e
    rw [f_X6_scan]
    simp only [lz_e]
    rw [ha, e', bd1_e]
  · rw [n6 r c (by omega), wr_o (by omega), wr_o (by omega)]
