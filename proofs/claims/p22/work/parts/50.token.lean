/-! needs 30 31 50 51 -/
/-! the token at a place of the text, in both -/
def symI (t : Nat) : Int32 := [(123 : Int32), 125, 40, 41, 91, 93, 59, 44, 43, 45, 42, 47, 60, 62, 61, 256, 257].getD (t - 30) 0
def symE (T : Nat → Int32) (L st : Nat) : Nat := if st + 2 ≤ L ∧ kw T st (st + 2) < 51 then st + 2 else st + 1
def symT (T : Nat → Int32) (L st : Nat) : Nat := if st + 2 ≤ L ∧ kw T st (st + 2) < 51 then kw T st (st + 2) else if kw T st (st + 1) < 51 then kw T st (st + 1) else 50
def worT (T : Nat → Int32) (st e : Nat) : Nat := if e - st ≤ 10 then (if kw T st e < 51 then kw T st e else 47) else 50
def numT (st e : Nat) : Nat := if e - st ≤ 6 then 48 else 50
def tokE (T : Nat → Int32) (L st : Nat) : Nat := if st < L then (if tLe T st = true then run (tWo T) L st else if tDi T st = true then run (tDi T) L st else symE T L st) else st
def tokT (T : Nat → Int32) (L st : Nat) : Nat := if st < L then (if tLe T st = true then worT T st (run (tWo T) L st) else if tDi T st = true then numT st (run (tDi T) L st) else symT T L st) else 49
theorem tx1 : ∀ t, t < 47 → (tx t).length = 1 → (97 ≤ ((tx t).getD 0 0).toInt ∧ ((tx t).getD 0 0).toInt ≤ 122) ∨ (30 ≤ t ∧ t < 45 ∧ tx t = [symI t]) := by decide +kernel
theorem tx2 : ∀ t, t < 47 → (tx t).length = 2 → (97 ≤ ((tx t).getD 0 0).toInt ∧ ((tx t).getD 0 0).toInt ≤ 122) ∨ (t = 45 ∧ tx t = [60, 61]) ∨ (t = 46 ∧ tx t = [62, 61]) := by decide +kernel
theorem tx3 : ∀ t, t < 47 → 30 ≤ t → ¬ (97 ≤ ((tx t).getD 0 0).toInt ∧ ((tx t).getD 0 0).toInt ≤ 122) := by decide +kernel
theorem tx4 : ∀ t, t < 45 → 30 ≤ t → tx t = [symI t] ∧ f_X11_isSymbol (symI t) = 1 := by decide +kernel
theorem tx5 : tx 45 = [60, 61] ∧ tx 46 = [62, 61] := by decide +kernel
theorem isS (c : Int32) : (f_X11_isSymbol c = 0 ∧ ∀ t, 30 ≤ t → t < 45 → c ≠ symI t) ∨ (f_X11_isSymbol c = 1 ∧ ∃ t, 30 ≤ t ∧ t < 45 ∧ c = symI t) := by
  by_cases h : ∃ t, 30 ≤ t ∧ t < 45 ∧ c = symI t
  · right
    obtain ⟨t, h1, h2, rfl⟩ := h
    exact ⟨(tx4 t h2 h1).2, t, h1, h2, rfl⟩
  · left
    refine ⟨?_, fun t h1 h2 h3 => h ⟨t, h1, h2, h3⟩⟩
    unfold f_X11_isSymbol
    rw [if_neg (show ¬ c = 123 from fun e => h ⟨30, by omega, by omega, e⟩), if_neg (show ¬ c = 125 from fun e => h ⟨31, by omega, by omega, e⟩), if_neg (show ¬ c = 40 from fun e => h ⟨32, by omega, by omega, e⟩), if_neg (show ¬ c = 41 from fun e => h ⟨33, by omega, by omega, e⟩), if_neg (show ¬ c = 91 from fun e => h ⟨34, by omega, by omega, e⟩), if_neg (show ¬ c = 93 from fun e => h ⟨35, by omega, by omega, e⟩), if_neg (show ¬ c = 59 from fun e => h ⟨36, by omega, by omega, e⟩), if_neg (show ¬ c = 44 from fun e => h ⟨37, by omega, by omega, e⟩), if_neg (show ¬ c = 43 from fun e => h ⟨38, by omega, by omega, e⟩), if_neg (show ¬ c = 45 from fun e => h ⟨39, by omega, by omega, e⟩), if_neg (show ¬ c = 42 from fun e => h ⟨40, by omega, by omega, e⟩), if_neg (show ¬ c = 47 from fun e => h ⟨41, by omega, by omega, e⟩), if_neg (show ¬ c = 60 from fun e => h ⟨42, by omega, by omega, e⟩), if_neg (show ¬ c = 62 from fun e => h ⟨43, by omega, by omega, e⟩), if_neg (show ¬ c = 61 from fun e => h ⟨44, by omega, by omega, e⟩)]
theorem mb_head {T : Nat → Int32} {p : Nat} {l : List Int32} (h : mb T p l = true) (hl : 0 < l.length) : T p = l.getD 0 0 := by
  cases l with
  | nil => simp at hl
  | cons x l => rw [mb_cons] at h; simp at h; exact h.1
theorem tLe_iff {T : Nat → Int32} {p : Nat} : tLe T p = true ↔ (97 ≤ (T p).toInt ∧ (T p).toInt ≤ 122) := by unfold tLe; exact decide_eq_true_iff
theorem kw_word {T : Nat → Int32} {p e : Nat} (hpe : p < e) (hl : tLe T p = true) : (kw T p e < 30 ∧ Wd T p e (kw T p e) = true) ∨ (kw T p e = 51 ∧ ∀ t, t < 51 → Wd T p e t = false) := by
  rcases kw_spec (T := T) hpe with ⟨h1, h2⟩ | h
  · refine Or.inl ⟨?_, h2⟩
    have h3 := mb_head (Wd_spec h2).2 (by rw [(Wd_spec h2).1]; omega)
    by_cases z : kw T p e < 30
    · exact z
    · exact absurd (by rw [← h3]; exact tLe_iff.mp hl) (tx3 _ h1 (by omega))
  · exact Or.inr h
theorem kw_one {T : Nat → Int32} {p : Nat} (hl : ¬ tLe T p = true) : (30 ≤ kw T p (p + 1) ∧ kw T p (p + 1) < 45 ∧ T p = symI (kw T p (p + 1))) ∨ (kw T p (p + 1) = 51 ∧ ∀ t, 30 ≤ t → t < 45 → T p ≠ symI t) := by
  rcases kw_spec (T := T) (Nat.lt_succ_self p) with ⟨h1, h2⟩ | ⟨h1, h2⟩
  · left
    have h3 := Wd_spec h2
    rcases tx1 _ h1 (by rw [h3.1]; omega) with h4 | ⟨h4, h5, h6⟩
    · rw [← mb_head h3.2 (by rw [h3.1]; omega)] at h4
      exact absurd (tLe_iff.mpr h4) hl
    · refine ⟨h4, h5, ?_⟩
      have := h3.2
      rw [h6, mb_cons] at this
      simp at this; exact this.1
  · right
    refine ⟨h1, fun t h3 h4 h5 => ?_⟩
    have h6 := h2 t (by omega)
    unfold Wd at h6
    rw [(tx4 t h4 h3).1, mb_cons, mb_nil, decide_eq_true h5, decide_eq_true (show [symI t].length = p + 1 - p by simp)] at h6
    cases h6
theorem kw_two {T : Nat → Int32} {p : Nat} (hl : ¬ tLe T p = true) : (kw T p (p + 2) = 45 ∧ T p = 60 ∧ T (p + 1) = 61) ∨ (kw T p (p + 2) = 46 ∧ T p = 62 ∧ T (p + 1) = 61) ∨ (kw T p (p + 2) = 51 ∧ ¬ ((T p = 60 ∨ T p = 62) ∧ T (p + 1) = 61)) := by
  rcases kw_spec (T := T) (show p < p + 2 by omega) with ⟨h1, h2⟩ | ⟨h1, h2⟩
  · have h3 := Wd_spec h2
    rcases tx2 _ h1 (by rw [h3.1]; omega) with h4 | ⟨h4, h5⟩ | ⟨h4, h5⟩
    · rw [← mb_head h3.2 (by rw [h3.1]; omega)] at h4
      exact absurd (tLe_iff.mpr h4) hl
    · left
      have := h3.2
      rw [h5, mb_cons, mb_cons, mb_nil] at this
      simp at this; exact ⟨h4, this⟩
    · right; left
      have := h3.2
      rw [h5, mb_cons, mb_cons, mb_nil] at this
      simp at this; exact ⟨h4, this⟩
  · right; right
    refine ⟨h1, fun h3 => ?_⟩
    rcases h3.1 with h4 | h4
    · have h6 := h2 45 (by omega)
      unfold Wd at h6
      rw [tx5.1, mb_cons, mb_cons, mb_nil, decide_eq_true h4, decide_eq_true h3.2, decide_eq_true (show [(60 : Int32), 61].length = p + 2 - p by simp)] at h6
      cases h6
    · have h6 := h2 46 (by omega)
      unfold Wd at h6
      rw [tx5.2, mb_cons, mb_cons, mb_nil, decide_eq_true h4, decide_eq_true h3.2, decide_eq_true (show [(62 : Int32), 61].length = p + 2 - p by simp)] at h6
      cases h6
/-! the class's token -/
theorem TapeR.set {L : Nat} {A B : Mm} {i j : Nat} {v : Int32} (h : TapeR L A B) (hi : i ≠ 1 ∧ i ≠ 4) : TapeR L (wr A i j v) B :=
  ⟨h.1, by rw [wr_ne (by omega)]; exact h.2.1, by rw [wr_ne (by omega)]; exact h.2.2.1, h.2.2.2.1, fun k hk => by rw [wr_ne (by omega)]; exact h.2.2.2.2 k hk⟩
section TA
variable {L : Nat} {A B : Mm}
theorem A_sym (h : TapeR L A B) {i st : Nat} (hi : i < 401) (hs : A 6 i = nI st) (h1 : st < L) (hl : ¬ tLe (B 70) st = true) : f_X6_scanSymbol 4 (nI i) A = some (nI (1001 + symT (B 70) L st), wr A 7 i (nI (symE (B 70) L st))) := by
  have h0 := h.1
  have hI : 0 ≤ (nI i).toInt ∧ (nI i).toInt < ((401 : Nat) : Int) := inN hi
  have e2 : nI st + 2 = nI (st + 2) := n_add st 2
  have e51 : (1051 : Int32) = nI (1001 + 50) := rfl
  rw [f_X6_scanSymbol, if_pos hI, h.2.2.1, ixn (by omega), show (4 + 2 : Nat) = 6 from rfl, hs, e2, n_suc]
  simp only [lz_e, show (4 + 3 : Nat) = 7 from rfl]
  unfold symT symE
  have hone : f_X7_find (rid (wr A 7 i (nI (st + 1)) 4 3)) (nI st) (nI (st + 1)) 1051 (wr A 7 i (nI (st + 1))) = some (nI (1001 + (if kw (B 70) st (st + 1) < 51 then kw (B 70) st (st + 1) else 50))) := by
    rw [wr_ne (by decide), h.2.1, rid2, A_find (h.set (by omega)) (by omega) (by omega)]
    by_cases z : kw (B 70) st (st + 1) < 51
    · rw [if_pos z, if_pos z]
    · rw [if_neg z, if_neg z, e51]
  have hok : okr 21 (wr A 7 i (nI (st + 1)) 4 3) := by rw [wr_ne (by decide), h.2.1]; exact ok21
  by_cases z : L < st + 2
  · rw [if_pos (by rw [n_lt (by omega) (by omega)]; exact z), if_pos hI, if_pos hok, hone, bd1_e, if_neg (show ¬ (st + 2 ≤ L ∧ kw (B 70) st (st + 2) < 51) by omega), if_neg (show ¬ (st + 2 ≤ L ∧ kw (B 70) st (st + 2) < 51) by omega)]
  · rw [if_neg (by rw [n_lt (by omega) (by omega)]; exact z), h.2.1, if_pos ok21, rid2, A_find h (by omega) (by omega), bd1_e]
    rcases kw_spec (T := B 70) (show st < st + 2 by omega) with ⟨k1, k2⟩ | ⟨k1, k2⟩
    · rw [if_pos (show kw (B 70) st (st + 2) < 51 by omega), if_pos (tkc_n (show kw (B 70) st (st + 2) < 51 by omega)), if_neg (show ¬ nI (1001 + kw (B 70) st (st + 2)) = 1051 by rw [e51, n_inj (by omega) (by omega)]; omega), if_pos hI, if_pos (show st + 2 ≤ L ∧ kw (B 70) st (st + 2) < 51 by omega), if_pos (show st + 2 ≤ L ∧ kw (B 70) st (st + 2) < 51 by omega)]
    · rw [if_neg (show ¬ kw (B 70) st (st + 2) < 51 by omega), if_pos (show tkc 1051 from tkc_n (t := 50) (by omega)), if_pos rfl, if_pos hI, if_pos hok, hone, bd1_e, if_neg (show ¬ (st + 2 ≤ L ∧ kw (B 70) st (st + 2) < 51) by omega), if_neg (show ¬ (st + 2 ≤ L ∧ kw (B 70) st (st + 2) < 51) by omega)]
theorem A_tok (h : TapeR L A B) {i st : Nat} (hi : i < 401) (hs : A 6 i = nI st) (he : A 7 i = nI st) (h1 : st ≤ L) : f_X6_scanToken 4 (nI i) A = some (nI (1001 + tokT (B 70) L st), wr A 7 i (nI (tokE (B 70) L st))) := by
  have h0 := h.1
  have hI : 0 ≤ (nI i).toInt ∧ (nI i).toInt < ((401 : Nat) : Int) := inN hi
  have e51 : (1051 : Int32) = nI (1001 + 50) := rfl
  rw [f_X6_scanToken, if_pos hI, ixn (by omega), show (4 + 2 : Nat) = 6 from rfl, hs, h.2.2.1]
  simp only [lz_e, show (4 + 3 : Nat) = 7 from rfl]
  unfold tokT tokE
  by_cases z : st < L
  · rw [if_pos (by rw [n_lt (by omega) (by omega)]; exact z), if_pos z, if_pos z, A_let h z, bd1_e]
    by_cases z1 : tLe (B 70) st = true
    · obtain ⟨r1, r2, -, -⟩ := run_rng (P := tWo (B 70)) (L := L) _ st rfl h1
      have r3 : st < run (tWo (B 70)) L st := by
        rw [run_on z (by unfold tWo; rw [z1]; rfl)]
        have := (run_rng (P := tWo (B 70)) (L := L) _ (st + 1) rfl (by omega)).1
        omega
      rw [if_pos z1, if_neg (show ¬ (1 : Int32) = 0 by decide), if_pos z1, if_pos z1, f_X6_behindWord, A_word h _ st FU rfl h1 (by unfold FU; omega), bd1_e, bd1_e, if_pos hI, if_pos hI, wr_at, n_sub (by omega) (by omega)]
      unfold worT
      by_cases z2 : run (tWo (B 70)) L st - st ≤ 10
      · rw [if_pos (show nI (run (tWo (B 70)) L st - st) ≤ 10 from (n_le (b := 10) (by omega) (by omega)).mpr z2), if_pos rfl, wr_ne (by decide), h.2.1, if_pos ok21, if_pos hI, rid2, A_find (h.set (by omega)) (by omega) r2, bd1_e, if_pos z2]
        by_cases z3 : kw (B 70) st (run (tWo (B 70)) L st) < 51
        · rw [if_pos z3, if_pos z3]
        · rw [if_neg z3, if_neg z3]; rfl
      · rw [if_neg (show ¬ nI (run (tWo (B 70)) L st - st) ≤ 10 from fun x => z2 ((n_le (b := 10) (by omega) (by omega)).mp x)), if_neg (show ¬ (1 : Int32) = 0 by decide), if_neg z2, e51]
    · rw [if_neg z1, if_pos rfl, if_neg z1, if_neg z1, A_dig h z, bd1_e]
      by_cases z2 : tDi (B 70) st = true
      · obtain ⟨r1, r2, -, -⟩ := run_rng (P := tDi (B 70)) (L := L) _ st rfl h1
        rw [if_pos z2, if_neg (show ¬ (1 : Int32) = 0 by decide), if_pos z2, if_pos z2, f_X6_behindDigits, A_digs h _ st FU rfl h1 (by unfold FU; omega), bd1_e, bd1_e, if_pos hI, if_pos hI, wr_at, n_sub (by omega) (by omega)]
        unfold numT
        by_cases z3 : run (tDi (B 70)) L st - st ≤ 6
        · rw [if_pos (show nI (run (tDi (B 70)) L st - st) ≤ 6 from (n_le (b := 6) (by omega) (by omega)).mpr z3), if_pos z3]; rfl
        · rw [if_neg (show ¬ nI (run (tDi (B 70)) L st - st) ≤ 6 from fun x => z3 ((n_le (b := 6) (by omega) (by omega)).mp x)), if_neg z3]; rfl
      · rw [if_neg z2, if_pos rfl, if_neg z2, if_neg z2, A_sym h hi hs z z1, bd2_e]
  · rw [if_neg (by rw [n_lt (by omega) (by omega)]; exact z), if_neg z, if_neg z, ← he, wr_self]
    rfl
end TA
/-! the reference's token -/
def kdB (t : Nat) : Int32 := if t < 30 then 2 else if t < 47 then 4 else if t = 47 then 2 else if t = 48 then 3 else if t = 49 then 1 else 0
def isB (T : Nat → Int32) (L st t : Nat) : Int32 := if t < 30 then nI t else if t < 47 then symI t else if t = 48 then numV T (run (tDi T) L st - st) st 0 else -1
def Fr (B B' : Mm) : Prop := ∀ i j, (i ≠ 69 ∨ j < 12 ∨ 16 < j) → B' i j = B i j
theorem Fr.refl (B : Mm) : Fr B B := fun _ _ _ => rfl
theorem Fr.trans {B B' B'' : Mm} (h : Fr B B') (k : Fr B' B'') : Fr B B'' := fun i j e => (k i j e).trans (h i j e)
theorem Fr.set {B : Mm} {j : Nat} {v : Int32} (h : 12 ≤ j ∧ j ≤ 16) : Fr B (wr B 69 j v) := fun a b e => wr_o (by omega)
theorem Fr.row {B B' : Mm} (h : Fr B B') {i : Nat} (hi : i ≠ 69) : B' i = B i := funext fun j => h i j (Or.inl hi)
theorem Fr.tap {L : Nat} {B B' : Mm} (h : Fr B B') (t : TapB L B) : TapB L B' := ⟨t.1, by rw [h 69 2 (by omega)]; exact t.2.1, by rw [h.row (by omega)]; exact t.2.2⟩
section TB
variable {L : Nat} {B : Mm}
theorem B_sym (h : TapB L B) {st : Nat} (h1 : st < L) (hpos : B 69 12 = nI st) (hl : ¬ tLe (B 70) st = true) : ∃ v, f_X11_symbol 69 B = some (wr (wr (wr B 69 12 (nI (symE (B 70) L st))) 69 14 (kdB (symT (B 70) L st))) 69 16 v) ∧ (symT (B 70) L st < 50 → 30 ≤ symT (B 70) L st ∧ symT (B 70) L st < 47 ∧ v = symI (symT (B 70) L st)) := by
  have h0 := h.1
  have hb := h.2.2
  have hcell : (if st + 1 < L then B 70 (st + 1) else 0) = 61 ↔ (st + 2 ≤ L ∧ B 70 (st + 1) = 61) := by
    by_cases z : st + 1 < L
    · rw [if_pos z]; exact ⟨fun e => ⟨by omega, e⟩, fun e => e.2⟩
    · rw [if_neg z]; exact ⟨fun e => absurd e (by decide), fun e => absurd e.1 (by omega)⟩
  -- the memory behind the sign
  have hM : ∀ x, wr (wr (wr B 69 12 (nI (st + 1))) 69 14 x) 69 16 (B 70 st) 69 12 = nI (st + 1) := fun x => by
    rw [wr_col (by decide), wr_col (by decide), wr_at]
  have hT : ∀ x, TapB L (wr (wr (wr B 69 12 (nI (st + 1))) 69 14 x) 69 16 (B 70 st)) := fun x => Fr.tap (((Fr.set (by omega)).trans (Fr.set (by omega))).trans (Fr.set (by omega))) h
  have h70 : ∀ x, wr (wr (wr B 69 12 (nI (st + 1))) 69 14 x) 69 16 (B 70 st) 70 = B 70 := fun x => by
    rw [wr_ne (by decide), wr_ne (by decide), wr_ne (by decide)]
  rw [f_X11_symbol, hpos, if_pos (inN (show st < 2000 by omega)), ixn (by omega), n_suc]
  simp only [lz_e, show (69 + 1 : Nat) = 70 from rfl]
  have hsw : ∀ (x v : Int32), wr (wr (wr (wr (wr B 69 12 (nI (st + 1))) 69 14 x) 69 16 (B 70 st)) 69 12 (nI (st + 2))) 69 16 v = wr (wr (wr B 69 12 (nI (st + 2))) 69 14 x) 69 16 v := fun x v => by
    funext a b
    by_cases e1 : a = 69 ∧ b = 16
    · rw [e1.1, e1.2, wr_at, wr_at]
    · rw [wr_o (i := 69) (j := 16) (by omega), wr_o (i := 69) (j := 16) (by omega)]
      by_cases e2 : a = 69 ∧ b = 12
      · rw [e2.1, e2.2, wr_at, wr_col (by decide), wr_at]
      · rw [wr_o (i := 69) (j := 12) (by omega), wr_o (i := 69) (j := 16) (by omega)]
        by_cases e3 : a = 69 ∧ b = 14
        · rw [e3.1, e3.2, wr_at, wr_at]
        · rw [wr_o (i := 69) (j := 14) (by omega), wr_o (i := 69) (j := 14) (by omega), wr_o (i := 69) (j := 12) (by omega), wr_o (i := 69) (j := 12) (by omega)]
  have hbyte : ∀ x, f_X11_byteOf 69 (nI (st + 1)) (wr (wr (wr B 69 12 (nI (st + 1))) 69 14 x) 69 16 (B 70 st)) = some (if st + 1 < L then B 70 (st + 1) else 0) := fun x => by
    rw [byteB (hT x) (by omega), h70]
  by_cases ha : st + 2 ≤ L ∧ (B 70 st = 60 ∨ B 70 st = 62) ∧ B 70 (st + 1) = 61
  · obtain ⟨a1, a2, a3⟩ := ha
    have hc : (if st + 1 < L then B 70 (st + 1) else 0) = 61 := hcell.mpr ⟨a1, a3⟩
    rcases a2 with a2 | a2
    · have k1 : kw (B 70) st (st + 2) = 45 := by
        rcases kw_two hl with ⟨k1, -⟩ | ⟨-, k2, -⟩ | ⟨-, k2⟩
        · exact k1
        · rw [a2] at k2; exact absurd k2 (by decide)
        · exact absurd ⟨Or.inl a2, a3⟩ k2
      have eT : symT (B 70) L st = 45 := by unfold symT; rw [k1, if_pos ⟨a1, by decide⟩]
      have eE : symE (B 70) L st = st + 2 := by unfold symE; rw [k1, if_pos ⟨a1, by decide⟩]
      rw [eT, eE]
      refine ⟨256, ?_, fun _ => ⟨by omega, by omega, rfl⟩⟩
      rw [if_pos a2, hM, hbyte, bd1_e, if_pos hc, n_suc, if_pos a2, hsw, a2]
      rfl
    · have k1 : kw (B 70) st (st + 2) = 46 := by
        rcases kw_two hl with ⟨-, k2, -⟩ | ⟨k1, -⟩ | ⟨-, k2⟩
        · rw [a2] at k2; exact absurd k2 (by decide)
        · exact k1
        · exact absurd ⟨Or.inr a2, a3⟩ k2
      have eT : symT (B 70) L st = 46 := by unfold symT; rw [k1, if_pos ⟨a1, by decide⟩]
      have eE : symE (B 70) L st = st + 2 := by unfold symE; rw [k1, if_pos ⟨a1, by decide⟩]
      rw [eT, eE]
      refine ⟨257, ?_, fun _ => ⟨by omega, by omega, rfl⟩⟩
      have n60 : ¬ B 70 st = 60 := by rw [a2]; decide
      rw [if_neg n60, if_pos a2, hM, hbyte, bd1_e, if_pos hc, n_suc, if_neg n60, hsw, a2]
      rfl
  · have k2 : ¬ (st + 2 ≤ L ∧ kw (B 70) st (st + 2) < 51) := by
      intro k
      rcases kw_two hl with ⟨-, k2, k3⟩ | ⟨-, k2, k3⟩ | ⟨k1, -⟩
      · exact ha ⟨k.1, Or.inl k2, k3⟩
      · exact ha ⟨k.1, Or.inr k2, k3⟩
      · omega
    have eE : symE (B 70) L st = st + 1 := by unfold symE; rw [if_neg k2]
    have eT : symT (B 70) L st = (if kw (B 70) st (st + 1) < 51 then kw (B 70) st (st + 1) else 50) := by unfold symT; rw [if_neg k2]
    rw [eT, eE]
    have hx : (if f_X11_isSymbol (B 70 st) = 0 then (0 : Int32) else 4) = kdB (if kw (B 70) st (st + 1) < 51 then kw (B 70) st (st + 1) else 50) := by
      rcases isS (B 70 st) with ⟨s1, s2⟩ | ⟨s1, t, s2, s3, s4⟩
      · rcases kw_one hl with ⟨o1, o2, o3⟩ | ⟨o1, -⟩
        · exact absurd o3 (s2 _ o1 o2)
        · rw [s1, if_pos rfl, if_neg (by omega)]; rfl
      · rcases kw_one hl with ⟨o1, o2, o3⟩ | ⟨o1, o2⟩
        · rw [s1, if_neg (show ¬ (1 : Int32) = 0 by decide), if_pos (by omega)]
          unfold kdB
          rw [if_neg (by omega), if_pos (by omega)]
        · exact absurd s4 (o2 t s2 s3)
    refine ⟨B 70 st, ?_, fun h50 => ?_⟩
    · rw [hM, hbyte, bd1_e, ← hx]
      by_cases z1 : B 70 st = 60
      · rw [if_pos z1, if_neg (fun e => ha ⟨(hcell.mp e).1, Or.inl z1, (hcell.mp e).2⟩)]
      · rw [if_neg z1]
        by_cases z2 : B 70 st = 62
        · rw [if_pos z2, if_neg (fun e => ha ⟨(hcell.mp e).1, Or.inr z2, (hcell.mp e).2⟩)]
        · rw [if_neg z2]
    · rcases kw_one hl with ⟨o1, o2, o3⟩ | ⟨o1, -⟩
      · rw [if_pos (by omega)]; exact ⟨o1, by omega, o3⟩
      · rw [if_neg (by omega)] at h50; omega
theorem B_numb (h : TapB L B) {st : Nat} (h1 : st < L) (hpos : B 69 12 = nI st) (hst : B 69 15 = nI st) : ∃ v, f_X11_number 69 B = some (wr (wr (wr B 69 12 (nI (run (tDi (B 70)) L st))) 69 14 (kdB (numT st (run (tDi (B 70)) L st)))) 69 16 v) ∧ (numT st (run (tDi (B 70)) L st) < 50 → v = isB (B 70) L st (numT st (run (tDi (B 70)) L st))) := by
  have h0 := h.1
  obtain ⟨r1, r2, -, -⟩ := run_rng (P := tDi (B 70)) (L := L) _ st rfl (by omega)
  obtain ⟨v, e1, e2⟩ := B_num (st := st) _ st FU 0 B h rfl (by omega) (by unfold FU; omega) hpos hst (Nat.le_refl _)
  refine ⟨v, ?_, fun h50 => ?_⟩
  · rw [f_X11_number, e1, bd2_e]
    simp only [lz_e]
    rw [wr_at, wr_col (show 15 ≠ 12 by decide), hst, n_sub r1 (by omega)]
    unfold numT
    by_cases z : run (tDi (B 70)) L st - st ≤ 6
    · rw [if_pos (show nI (run (tDi (B 70)) L st - st) ≤ 6 from (n_le (b := 6) (by omega) (by omega)).mpr z), if_pos z]; rfl
    · rw [if_neg (show ¬ nI (run (tDi (B 70)) L st - st) ≤ 6 from fun x => z ((n_le (b := 6) (by omega) (by omega)).mp x)), if_neg z]; rfl
  · unfold numT at h50 ⊢
    by_cases z : run (tDi (B 70)) L st - st ≤ 6
    · rw [if_pos z]; exact e2 z
    · rw [if_neg z] at h50; omega
theorem B_wordT (h : TapB L B) {st : Nat} (h1 : st < L) (hl : tLe (B 70) st = true) (hpos : B 69 12 = nI st) (hst : B 69 15 = nI st) (his : B 69 16 = -1) : ∃ v, f_X11_word 69 B = some (wr (wr (wr B 69 12 (nI (run (tWo (B 70)) L st))) 69 14 (kdB (worT (B 70) st (run (tWo (B 70)) L st)))) 69 16 v) ∧ (worT (B 70) st (run (tWo (B 70)) L st) < 50 → v = isB (B 70) L st (worT (B 70) st (run (tWo (B 70)) L st))) := by
  have h0 := h.1
  obtain ⟨r1, r2, -, -⟩ := run_rng (P := tWo (B 70)) (L := L) _ st rfl (by omega)
  have r3 : st < run (tWo (B 70)) L st := by
    rw [run_on h1 (by unfold tWo; rw [hl]; rfl)]
    have := (run_rng (P := tWo (B 70)) (L := L) _ (st + 1) rfl (by omega)).1
    omega
  generalize he : run (tWo (B 70)) L st = e at r1 r2 r3 ⊢
  have hB1 : Fr B (wr (wr B 69 12 (nI e)) 69 14 (if e - st ≤ 10 then 2 else 0)) := (Fr.set (by omega)).trans (Fr.set (by omega))
  have h70 : wr (wr B 69 12 (nI e)) 69 14 (if e - st ≤ 10 then 2 else 0) 70 = B 70 := hB1.row (by decide)
  obtain ⟨v, k1, k2⟩ := B_kw r3 r2 30 0 FU _ (hB1.tap h) (by rw [wr_col (by decide), wr_col (by decide)]; exact hst) (by rw [wr_col (by decide), wr_at]) rfl (by unfold FU; omega)
  rw [h70, wr_col (show 16 ≠ 14 by decide), wr_col (show 16 ≠ 12 by decide), his] at k2
  have hk : kdB (worT (B 70) st e) = (if e - st ≤ 10 then 2 else 0) := by
    unfold worT
    by_cases z : e - st ≤ 10
    · rw [if_pos z, if_pos z]
      rcases kw_word r3 hl with ⟨w1, -⟩ | ⟨w1, -⟩
      · rw [if_pos (by omega)]; unfold kdB; rw [if_pos w1]
      · rw [if_neg (by omega)]; rfl
    · rw [if_neg z, if_neg z]; rfl
  refine ⟨v, ?_, fun h50 => ?_⟩
  · rw [f_X11_word, B_word _ st FU B h rfl (by omega) (by unfold FU; omega) hpos, bd1_e, he]
    simp only [lz_e]
    rw [wr_at, wr_col (show 15 ≠ 12 by decide), hst, n_sub r1 (by omega)]
    have e10 : (if nI (e - st) ≤ (10 : Int32) then (2 : Int32) else 0) = (if e - st ≤ 10 then 2 else 0) := by
      by_cases z : e - st ≤ 10
      · rw [if_pos z, if_pos (show nI (e - st) ≤ 10 from (n_le (b := 10) (by omega) (by omega)).mpr z)]
      · rw [if_neg z, if_neg (show ¬ nI (e - st) ≤ 10 from fun x => z ((n_le (b := 10) (by omega) (by omega)).mp x))]
    rw [e10]
    have k1' : f_X11_word_L60 69 FU 0 (wr (wr B 69 12 (nI e)) 69 14 (if e - st ≤ 10 then 2 else 0)) = _ := k1
    rw [k1', bd1_e, hk]
  · have z : e - st ≤ 10 := by
      unfold worT at h50
      by_cases z : e - st ≤ 10
      · exact z
      · rw [if_neg z] at h50; omega
    have ew : worT (B 70) st e = if kw (B 70) st e < 51 then kw (B 70) st e else 47 := by unfold worT; rw [if_pos z]
    rw [ew]
    rcases kw_word r3 hl with ⟨w1, w2⟩ | ⟨w1, w2⟩
    · rw [if_pos (by omega)]
      rcases k2 with ⟨t, t1, t2, t3, t4⟩ | ⟨t1, t2⟩
      · rw [Wd_uniq w2 t3 r3]
        unfold isB; rw [if_pos t2]; exact t4
      · have := t1 _ (Nat.zero_le _) w1
        rw [w2] at this; cases this
    · rw [if_neg (by omega)]
      rcases k2 with ⟨t, t1, t2, t3, t4⟩ | ⟨t1, t2⟩
      · have := w2 t (by omega)
        rw [t3] at this; cases this
      · rw [t2]; rfl
end TB
