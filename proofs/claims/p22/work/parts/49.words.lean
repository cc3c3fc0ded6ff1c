/-! needs 30 31 50 -/
/-! the words and signs of the language, found at a place of the text -/
def tx (t : Nat) : List Int32 := txB.getD (tkT t) []
def mb (T : Nat → Int32) : Nat → List Int32 → Bool
  | _, [] => true
  | p, x :: l => decide (T p = x) && mb T (p + 1) l
def Wd (T : Nat → Int32) (p e t : Nat) : Bool := decide ((tx t).length = e - p) && mb T p (tx t)
def fnd (T : Nat → Int32) (p e : Nat) : Nat → Nat → Nat
  | 0, _ => 51
  | k + 1, j => if Wd T p e j = true then j else fnd T p e k (j + 1)
theorem tx_rng (t : Nat) : (tx t).length < 100 ∧ ∀ x, x ∈ tx t → 0 ≤ x.toInt ∧ x.toInt < 128 := tx_ok (tkT t) (tkT_lt t)
theorem mb_eq {T : Nat → Int32} : ∀ (l m : List Int32) (p : Nat), l.length = m.length → mb T p l = true → mb T p m = true → l = m
  | [], [], _, _, _, _ => rfl
  | [], y :: m, _, h, _, _ => by cases h
  | x :: l, [], _, h, _, _ => by cases h
  | x :: l, y :: m, p, h, h1, h2 => by
    simp only [mb, Bool.and_eq_true, decide_eq_true_eq] at h1 h2
    rw [← h1.1, ← h2.1, mb_eq l m (p + 1) (by simpa using h) h1.2 h2.2]
theorem tx_inj : ∀ i, i < 47 → ∀ j, j < 47 → tx i = tx j → i = j := by decide +kernel
theorem tx_low : ∀ t, 47 ≤ t → tx t = [] := by
  intro t h
  unfold tx tkT
  rw [if_neg (by omega)]
  rfl
theorem Wd_spec {T : Nat → Int32} {p e t : Nat} (h : Wd T p e t = true) : (tx t).length = e - p ∧ mb T p (tx t) = true := by
  unfold Wd at h
  simpa using h
theorem Wd_lt {T : Nat → Int32} {p e t : Nat} (h : Wd T p e t = true) (hpe : p < e) : t < 47 := by
  by_cases z : t < 47
  · exact z
  · have := (Wd_spec h).1
    rw [tx_low t (by omega)] at this
    simp at this; omega
theorem Wd_uniq {T : Nat → Int32} {p e t u : Nat} (h : Wd T p e t = true) (k : Wd T p e u = true) (hpe : p < e) : t = u :=
  tx_inj t (Wd_lt h hpe) u (Wd_lt k hpe) (mb_eq _ _ p ((Wd_spec h).1.trans (Wd_spec k).1.symm) (Wd_spec h).2 (Wd_spec k).2)
theorem mb_cons (T : Nat → Int32) (p : Nat) (x : Int32) (l : List Int32) : mb T p (x :: l) = (decide (T p = x) && mb T (p + 1) l) := rfl
theorem mb_nil (T : Nat → Int32) (p : Nat) : mb T p [] = true := rfl
theorem fnd_0 (T : Nat → Int32) (p e j : Nat) : fnd T p e 0 j = 51 := rfl
theorem fnd_s (T : Nat → Int32) (p e k j : Nat) : fnd T p e (k + 1) j = if Wd T p e j = true then j else fnd T p e k (j + 1) := rfl
theorem fnd_spec {T : Nat → Int32} {p e : Nat} : ∀ (k j : Nat), j + k = 51 → (fnd T p e k j < 51 ∧ j ≤ fnd T p e k j ∧ Wd T p e (fnd T p e k j) = true) ∨ (fnd T p e k j = 51 ∧ ∀ t, j ≤ t → t < 51 → Wd T p e t = false) := by
  intro k
  induction k with
  | zero => intro j hj; exact Or.inr ⟨rfl, fun t h1 h2 => by omega⟩
  | succ k ih =>
    intro j hj
    rw [fnd_s]
    by_cases z : Wd T p e j = true
    · rw [if_pos z]; exact Or.inl ⟨by omega, Nat.le_refl _, z⟩
    · rw [if_neg z]
      rcases ih (j + 1) (by omega) with ⟨h1, h2, h3⟩ | ⟨h1, h2⟩
      · exact Or.inl ⟨h1, by omega, h3⟩
      · refine Or.inr ⟨h1, fun t h3 h4 => ?_⟩
        by_cases e2 : t = j
        · subst e2; simpa using z
        · exact h2 t (by omega) h4
def kw (T : Nat → Int32) (p e : Nat) : Nat := fnd T p e 51 0
theorem kw_spec {T : Nat → Int32} {p e : Nat} (hpe : p < e) : (kw T p e < 47 ∧ Wd T p e (kw T p e) = true) ∨ (kw T p e = 51 ∧ ∀ t, t < 51 → Wd T p e t = false) := by
  rcases fnd_spec (T := T) (p := p) (e := e) 51 0 rfl with ⟨h1, -, h3⟩ | ⟨h1, h2⟩
  · exact Or.inl ⟨Wd_lt h3 hpe, h3⟩
  · exact Or.inr ⟨h1, fun t ht => h2 t (Nat.zero_le _) ht⟩
/-! the class finds them -/
theorem tkc_n {t : Nat} (h : t < 51) : tkc (nI (1001 + t)) := by
  have e : (nI (1001 + t)).toNatClampNeg = 1001 + t := ix_nI (by omega)
  exact ⟨by rw [e]; omega, by rw [e]; omega⟩
theorem tkN_n {t : Nat} (h : t < 51) : tkN (nI (1001 + t)) = t := by
  show (nI (1001 + t)).toNatClampNeg - 1001 = t
  rw [show (nI (1001 + t)).toNatClampNeg = 1001 + t from ix_nI (by omega)]; omega
theorem tkS_n {t : Nat} (h : t < 51) : ix (tkS (nI (1001 + t))) = tkT t := by rw [tkS_ix, tkN_n h]
theorem tkL_n {t : Nat} (h : t < 51) : tkL (tkS (nI (1001 + t))) = (tx t).length := by
  unfold tkL tx; rw [tkS_n h]
theorem tkB_n {t j : Nat} (h : t < 51) (hj : j < 2147483648) : tkB (tkS (nI (1001 + t))) (nI j) = (tx t).getD j 0 := by
  unfold tkB tx; rw [tkS_n h, ixn hj]
theorem drop_get {l : List Int32} {j : Nat} (h : j < l.length) : l.drop j = l.getD j 0 :: l.drop (j + 1) := by
  rw [List.getD_eq_getElem?_getD, List.getElem?_eq_getElem h]
  exact List.drop_eq_getElem_cons h
theorem getD_memw {l : List Int32} {j : Nat} (h : j < l.length) : l.getD j 0 ∈ l := by
  rw [List.getD_eq_getElem?_getD, List.getElem?_eq_getElem h]
  exact List.getElem_mem h
section WA
variable {L : Nat} {A B : Mm}
theorem A_writ_L (h : TapeR L A B) {t p : Nat} (ht : t < 51) (hp : p + (tx t).length ≤ L) : ∀ (k j n : Nat), j + k = (tx t).length → k < n → f_X7_isWritten_L28 1 (nI (1001 + t)) (nI p) A n (nI j) = some (if mb (B 70) (p + j) ((tx t).drop j) = true then 1 else 0) := by
  obtain ⟨h0, h1, h2, h3, h4⟩ := h
  have hr := tx_rng t
  intro k
  induction k with
  | zero =>
    intro j n hj hn
    obtain ⟨m, rfl⟩ : ∃ m, n = m + 1 := ⟨n - 1, by omega⟩
    rw [f_X7_isWritten_L28, if_pos (tkc_n ht), if_pos (by rw [tkS_n ht]; exact tkT_lt t), tkL_n ht, if_pos (by rw [n_le (by omega) (by omega)]; omega), List.drop_of_length_le (by omega)]
    rfl
  | succ k ih =>
    intro j n hj hn
    obtain ⟨m, rfl⟩ : ∃ m, n = m + 1 := ⟨n - 1, by omega⟩
    have hb := h4 (p + j) (by omega)
    rw [f_X7_isWritten_L28, if_pos (tkc_n ht), if_pos (by rw [tkS_n ht]; exact tkT_lt t), tkL_n ht, if_neg (by rw [n_le (by omega) (by omega)]; omega), n_add, kd1, if_pos (inN (show p + j < 2000 by omega)), if_pos (tkc_n ht), if_pos (by rw [tkS_n ht]; exact tkT_lt t), if_pos (inN (show j < (tx t).length by omega) (by omega)), ixn (by omega), tkB_n ht (by omega), n_suc, lz_e, ih (j + 1) m (by omega) (by omega), drop_get (by omega : j < (tx t).length)]
    rw [mb_cons]
    have he := hb.eq (hr.2 _ (getD_memw (by omega : j < (tx t).length)))
    by_cases z : B 70 (p + j) = (tx t).getD j 0
    · rw [decide_eq_true z, Bool.true_and, show p + j + 1 = p + (j + 1) by omega]
      first | rw [if_pos (he.mpr z)] | rw [if_neg (fun w => w (he.mpr z))]
    · rw [decide_eq_false z, Bool.false_and]
      first | rw [if_neg (fun w => z (he.mp w))] | rw [if_pos (fun w => z (he.mp w))]
      rfl
theorem A_writ (h : TapeR L A B) {t p e : Nat} (ht : t < 51) (hpe : p ≤ e) (he : e ≤ L) : f_X7_isWritten (nI (1001 + t)) 1 (nI p) (nI e) A = some (if Wd (B 70) p e t = true then 1 else 0) := by
  have h0 := h.1
  have hr := tx_rng t
  rw [f_X7_isWritten, if_pos (tkc_n ht), if_pos (by rw [tkS_n ht]; exact tkT_lt t), tkL_n ht, n_sub hpe (by omega)]
  unfold Wd
  by_cases z : (tx t).length = e - p
  · rw [if_pos (by rw [z]), if_neg (by rw [i_lt, i_nI (by omega)]; show ¬ (p : Int) < 0; omega), if_pos (by rw [kd1]; exact (n_le (b := 2000) (by omega) (by omega)).mpr (by omega))]
    rw [show ((0 : Int32) = nI 0) from rfl, A_writ_L h ht (by omega) (tx t).length 0 FU (by omega) (by unfold FU; omega), decide_eq_true z]
    rfl
  · rw [if_neg (fun w => z ((n_inj (by omega) (by omega)).mp w)), decide_eq_false z]
    rfl
theorem A_find_L (h : TapeR L A B) {p e : Nat} {o : Int32} (hpe : p ≤ e) (he : e ≤ L) : ∀ (k j n : Nat), j + k = 51 → k < n → f_X7_find_L13 1 (nI p) (nI e) o (51 : Int32) A n (nI j) = some (if fnd (B 70) p e k j < 51 then nI (1001 + fnd (B 70) p e k j) else o) := by
  intro k
  induction k with
  | zero =>
    intro j n hj hn
    obtain ⟨m, rfl⟩ : ∃ m, n = m + 1 := ⟨n - 1, by omega⟩
    rw [f_X7_find_L13, if_pos (by rw [i_le, i_nI (by omega)]; show (51 : Int) ≤ (j : Int); omega)]
    rw [fnd_0, if_neg (by omega)]
  | succ k ih =>
    intro j n hj hn
    obtain ⟨m, rfl⟩ : ∃ m, n = m + 1 := ⟨n - 1, by omega⟩
    have eA : tkA (nI j) = nI (1001 + j) := by unfold tkA; rw [ixn (by omega)]
    rw [f_X7_find_L13, if_neg (by rw [i_le, i_nI (by omega)]; show ¬ (51 : Int) ≤ (j : Int); omega), if_pos (inN (show j < 51 by omega)), eA, if_pos (tkc_n (by omega)), A_writ h (by omega) hpe he, bd1_e, n_suc, lz_e, ih (j + 1) m (by omega) (by omega)]
    rw [fnd_s]
    by_cases z : Wd (B 70) p e j = true
    · rw [if_pos z, if_neg (show ¬ (1 : Int32) = 0 by decide), if_pos z, if_pos (by omega)]
    · rw [if_neg z, if_pos rfl, if_neg z]
theorem A_find (h : TapeR L A B) {p e : Nat} {o : Int32} (hpe : p ≤ e) (he : e ≤ L) : f_X7_find 1 (nI p) (nI e) o A = some (if kw (B 70) p e < 51 then nI (1001 + kw (B 70) p e) else o) := by
  rw [f_X7_find]
  rw [show ((0 : Int32) = nI 0) from rfl, A_find_L h hpe he 51 0 FU rfl (by unfold FU; omega)]
  rfl
end WA
/-! the reference finds its keywords -/
section WB
variable {L : Nat}
theorem tx30 {k : Nat} (h : k < 47) : tkT k = k := by unfold tkT; rw [if_pos h]
theorem tkL_k {k : Nat} (h : k < 47) : tkL (nI k) = (tx k).length := by
  unfold tkL tx; rw [ixn (by omega), tx30 h]
theorem tkB_k {k j : Nat} (h : k < 47) (hj : j < 2147483648) : tkB (nI k) (nI j) = (tx k).getD j 0 := by
  unfold tkB tx; rw [ixn (by omega), ixn hj, tx30 h]
theorem B_word_L {B : Mm} {t p : Nat} (h : TapB L B) (ht : t < 47) (hst : B 69 15 = nI p) (hp : p + (tx t).length ≤ L) : ∀ (k j n : Nat), j + k = (tx t).length → k < n → f_X11_isWord_L20 69 (nI t) B n (nI j) = some (if mb (B 70) (p + j) ((tx t).drop j) = true then 1 else 0) := by
  have h0 := h.1
  have hr := tx_rng t
  intro k
  induction k with
  | zero =>
    intro j n hj hn
    obtain ⟨m, rfl⟩ : ∃ m, n = m + 1 := ⟨n - 1, by omega⟩
    rw [f_X11_isWord_L20, if_pos (by rw [ixn (by omega)]; omega), tkL_k ht, if_pos (by rw [n_le (by omega) (by omega)]; omega), List.drop_of_length_le (by omega)]
    rfl
  | succ k ih =>
    intro j n hj hn
    obtain ⟨m, rfl⟩ : ∃ m, n = m + 1 := ⟨n - 1, by omega⟩
    rw [f_X11_isWord_L20, if_pos (by rw [ixn (by omega)]; omega), tkL_k ht, if_neg (by rw [n_le (by omega) (by omega)]; omega), if_pos (by rw [ixn (by omega)]; omega), if_pos (inN (show j < (tx t).length by omega) (by omega)), hst, n_add, if_pos (inN (show p + j < 2000 by omega)), ixn (show p + j < 2147483648 by omega), tkB_k ht (by omega), n_suc, lz_e, ih (j + 1) m (by omega) (by omega), drop_get (by omega : j < (tx t).length)]
    rw [mb_cons]
    show (if (tx t).getD j 0 = B 70 (p + j) then _ else _) = _
    by_cases z : (tx t).getD j 0 = B 70 (p + j)
    · rw [if_pos z, decide_eq_true z.symm, Bool.true_and, show p + j + 1 = p + (j + 1) by omega]
    · rw [if_neg z, decide_eq_false (fun w => z w.symm), Bool.false_and]; rfl
theorem B_isWord {B : Mm} {t p e : Nat} (h : TapB L B) (ht : t < 47) (hst : B 69 15 = nI p) (hpos : B 69 12 = nI e) (hpe : p ≤ e) (he : e ≤ L) : f_X11_isWord 69 (nI t) B = some (if Wd (B 70) p e t = true then 1 else 0) := by
  have h0 := h.1
  have hr := tx_rng t
  rw [f_X11_isWord, if_pos (by rw [ixn (by omega)]; omega), tkL_k ht, hpos, hst, n_sub hpe (by omega)]
  unfold Wd
  by_cases z : (tx t).length = e - p
  · rw [if_pos (by rw [z])]
    rw [show ((0 : Int32) = nI 0) from rfl, B_word_L h ht hst (by omega) (tx t).length 0 FU (by omega) (by unfold FU; omega), decide_eq_true z]
    rfl
  · rw [if_neg (fun w => z ((n_inj (by omega) (by omega)).mp w)), decide_eq_false z]
    rfl
theorem B_kw {p e : Nat} (hpe : p < e) (he : e ≤ L) : ∀ (k j n : Nat) (B : Mm), TapB L B → B 69 15 = nI p → B 69 12 = nI e → j + k = 30 → k < n → ∃ v, f_X11_word_L60 69 n (nI j) B = some (wr B 69 16 v) ∧ ((∃ t, j ≤ t ∧ t < 30 ∧ Wd (B 70) p e t = true ∧ v = nI t) ∨ ((∀ t, j ≤ t → t < 30 → Wd (B 70) p e t = false) ∧ v = B 69 16)) := by
  intro k
  induction k with
  | zero =>
    intro j n B h hst hpos hj hn
    obtain ⟨m, rfl⟩ : ∃ m, n = m + 1 := ⟨n - 1, by omega⟩
    exact ⟨B 69 16, by rw [f_X11_word_L60, if_pos (by rw [i_le, i_nI (by omega)]; show (30 : Int) ≤ (j : Int); omega), wr_self], Or.inr ⟨fun t h1 h2 => by omega, rfl⟩⟩
  | succ k ih =>
    intro j n B h hst hpos hj hn
    obtain ⟨m, rfl⟩ : ∃ m, n = m + 1 := ⟨n - 1, by omega⟩
    rw [f_X11_word_L60, if_neg (by rw [i_le, i_nI (by omega)]; show ¬ (30 : Int) ≤ (j : Int); omega), if_pos (inN (show j < 30 by omega)), B_isWord h (by omega) hst hpos (by omega) he, bd1_e, n_suc]
    simp only [lz_e]
    by_cases z : Wd (B 70) p e j = true
    · rw [if_pos z, if_neg (by decide)]
      obtain ⟨v, a1, a2⟩ := ih (j + 1) m (wr B 69 16 (nI j)) ⟨h.1, by rw [wr_col (by decide)]; exact h.2.1, fun c hc => by rw [wr_ne (by decide)]; exact h.2.2 c hc⟩ (by rw [wr_col (by decide)]; exact hst) (by rw [wr_col (by decide)]; exact hpos) (by omega) (by omega)
      rw [wr_wr] at a1
      rw [wr_ne (show 70 ≠ 69 by decide), wr_at] at a2
      refine ⟨v, a1, Or.inl ⟨j, Nat.le_refl _, by omega, z, ?_⟩⟩
      rcases a2 with ⟨t, t1, t2, t3, t4⟩ | ⟨t1, t2⟩
      · have := Wd_uniq t3 z hpe; omega
      · exact t2
    · rw [if_neg z, if_pos rfl]
      obtain ⟨v, a1, a2⟩ := ih (j + 1) m B h hst hpos (by omega) (by omega)
      refine ⟨v, a1, ?_⟩
      rcases a2 with ⟨t, t1, t2, t3, t4⟩ | ⟨t1, t2⟩
      · exact Or.inl ⟨t, by omega, t2, t3, t4⟩
      · refine Or.inr ⟨fun t h1 h2 => ?_, t2⟩
        by_cases e2 : t = j
        · subst e2; simpa using z
        · exact t1 t (by omega) h2
end WB
