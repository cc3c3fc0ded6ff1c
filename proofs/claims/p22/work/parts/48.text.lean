/-! needs 30 31 -/
/-! texts: bytes T (0 to 255) of length L; runs of blanks, words, digits -/
def runP (P : Nat → Bool) (L : Nat) : Nat → Nat → Nat
  | 0, p => p
  | n + 1, p => if p < L ∧ P p = true then runP P L n (p + 1) else p
def run (P : Nat → Bool) (L p : Nat) : Nat := runP P L (L - p) p
theorem run_on {P : Nat → Bool} {L p : Nat} (h : p < L) (hp : P p = true) : run P L p = run P L (p + 1) := by
  unfold run
  rw [show L - p = (L - (p + 1)) + 1 by omega]
  show (if p < L ∧ P p = true then _ else _) = _
  rw [if_pos ⟨h, hp⟩]
theorem run_off {P : Nat → Bool} {L p : Nat} (h : ¬ (p < L ∧ P p = true)) : run P L p = p := by
  unfold run
  cases hz : L - p with
  | zero => rfl
  | succ n =>
    show (if p < L ∧ P p = true then _ else _) = _
    rw [if_neg h]
theorem run_rng {P : Nat → Bool} {L : Nat} : ∀ (k p : Nat), L - p = k → p ≤ L → p ≤ run P L p ∧ run P L p ≤ L ∧ (∀ j, p ≤ j → j < run P L p → P j = true) ∧ (run P L p < L → P (run P L p) = false) := by
  intro k
  induction k with
  | zero =>
    intro p hk hp
    have : p = L := by omega
    subst this
    rw [run_off (by omega)]
    exact ⟨Nat.le_refl _, Nat.le_refl _, fun j h1 h2 => by omega, fun h => by omega⟩
  | succ k ih =>
    intro p hk hp
    by_cases h : P p = true
    · obtain ⟨i1, i2, i3, i4⟩ := ih (p + 1) (by omega) (by omega)
      rw [run_on (by omega) h]
      refine ⟨by omega, i2, fun j h1 h2 => ?_, i4⟩
      by_cases e : j = p
      · subst e; exact h
      · exact i3 j (by omega) h2
    · rw [run_off (fun x => h x.2)]
      exact ⟨Nat.le_refl _, hp, fun j h1 h2 => by omega, fun _ => by simpa using h⟩
def tBl (T : Nat → Int32) (p : Nat) : Bool := decide (T p = 32 ∨ T p = 10)
def tLe (T : Nat → Int32) (p : Nat) : Bool := decide (97 ≤ (T p).toInt ∧ (T p).toInt ≤ 122)
def tDi (T : Nat → Int32) (p : Nat) : Bool := decide (48 ≤ (T p).toInt ∧ (T p).toInt ≤ 57)
def tWo (T : Nat → Int32) (p : Nat) : Bool := tLe T p || tDi T p
/-- a byte of the class beside one of the reference -/
def Byt (a b : Int32) : Prop := (0 ≤ b.toInt ∧ b.toInt ≤ 255) ∧ ((b.toInt < 128 ∧ a = b) ∨ (128 ≤ b.toInt ∧ a.toInt = b.toInt - 256))
theorem Byt.eq {a b x : Int32} (h : Byt a b) (hx : 0 ≤ x.toInt ∧ x.toInt < 128) : (a = x) = (b = x) := by
  obtain ⟨h1, h2⟩ := h
  apply propext
  rw [i_eq, i_eq]
  rcases h2 with ⟨h2, rfl⟩ | ⟨h2, h3⟩
  · exact Iff.rfl
  · omega
theorem Byt.inj {a b a' b' : Int32} (h : Byt a b) (h' : Byt a' b') : (a = a') = (b = b') := by
  obtain ⟨h1, h2⟩ := h
  obtain ⟨h1', h2'⟩ := h'
  apply propext
  rw [i_eq, i_eq]
  rcases h2 with ⟨h2, rfl⟩ | ⟨h2, h3⟩ <;> rcases h2' with ⟨h2', rfl⟩ | ⟨h2', h3'⟩ <;> omega
theorem Byt.rng {a b : Int32} (h : Byt a b) {x y : Int} (hx : 0 ≤ x) (hy : y < 128) : (x ≤ a.toInt ∧ a.toInt ≤ y) ↔ (x ≤ b.toInt ∧ b.toInt ≤ y) := by
  obtain ⟨h1, h2⟩ := h
  rcases h2 with ⟨h2, rfl⟩ | ⟨h2, h3⟩ <;> omega
/-- the two tapes -/
def TapeR (L : Nat) (A B : Mm) : Prop := L ≤ 2000 ∧ A 4 3 = nI 2 ∧ A 4 4 = nI L ∧ B 69 2 = nI L ∧ ∀ k, k < L → Byt (A 1 k) (B 70 k)
theorem ok21 : okr 21 (nI 2) := by decide
theorem rid2 : rid (nI 2) = 1 := by decide
theorem kd1 : (kd 1).2 = 2000 := rfl
section TX
variable {L : Nat} {A B : Mm}
theorem A_blank (h : TapeR L A B) : ∀ (k p n : Nat), L - p = k → p ≤ L → k < n → f_X6_behindBlanks_L2 4 A n (nI p) = some (nI (run (tBl (B 70)) L p)) := by
  obtain ⟨h0, h1, h2, h3, h4⟩ := h
  intro k
  induction k with
  | zero =>
    intro p n hk hp hn
    obtain ⟨m, rfl⟩ : ∃ m, n = m + 1 := ⟨n - 1, by omega⟩
    rw [f_X6_behindBlanks_L2, h2, if_pos (by rw [n_le (by omega) (by omega)]; omega), run_off (by omega)]
  | succ k ih =>
    intro p n hk hp hn
    obtain ⟨m, rfl⟩ : ∃ m, n = m + 1 := ⟨n - 1, by omega⟩
    have hB := h4 p (by omega)
    rw [f_X6_behindBlanks_L2, h2, if_neg (by rw [n_le (by omega) (by omega)]; omega), h1, if_pos ok21, rid2, kd1, if_pos (inN (show p < 2000 by omega)), ixn (by omega), if_pos ok21, if_pos (inN (show p < 2000 by omega)), n_suc, lz_e]
    simp only [hB.eq (x := (32 : Int32)) (by decide), hB.eq (x := (10 : Int32)) (by decide), lz_e]
    by_cases z1 : B 70 p = 32
    · rw [if_pos z1, run_on (by omega) (by unfold tBl; exact decide_eq_true (Or.inl z1))]
      exact ih (p + 1) m (by omega) (by omega) (by omega)
    · by_cases z2 : B 70 p = 10
      · rw [if_neg z1, if_pos z2, run_on (by omega) (by unfold tBl; exact decide_eq_true (Or.inr z2))]
        exact ih (p + 1) m (by omega) (by omega) (by omega)
      · rw [if_neg z1, if_neg z2, run_off (by unfold tBl; intro x; have := of_decide_eq_true x.2; rcases this with y | y <;> contradiction)]
theorem rng_ite {a : Int32} {x y : Int32} : (if a < x then (some (0 : Int32)) else if y < a then some 0 else some 1) = some (if x.toInt ≤ a.toInt ∧ a.toInt ≤ y.toInt then 1 else 0) := by
  simp only [i_lt]
  by_cases h1 : a.toInt < x.toInt
  · rw [if_pos h1, if_neg (by omega)]
  · by_cases h2 : y.toInt < a.toInt
    · rw [if_neg h1, if_pos h2, if_neg (by omega)]
    · rw [if_neg h1, if_neg h2, if_pos (by omega)]
theorem A_let (h : TapeR L A B) {p : Nat} (hp : p < L) : f_X6_isLetter 4 (nI p) A = some (if tLe (B 70) p then 1 else 0) := by
  obtain ⟨h0, h1, h2, h3, h4⟩ := h
  rw [f_X6_isLetter, h1, if_pos ok21, rid2, kd1, if_pos (inN (show p < 2000 by omega)), ixn (by omega), if_pos ok21, if_pos (inN (show p < 2000 by omega)), rng_ite]
  unfold tLe
  have := (h4 p hp).rng (x := 97) (y := 122) (by omega) (by omega)
  rw [show ((97 : Int32)).toInt = 97 from rfl, show ((122 : Int32)).toInt = 122 from rfl]
  by_cases z : 97 ≤ (A 1 p).toInt ∧ (A 1 p).toInt ≤ 122
  · rw [if_pos z, decide_eq_true (this.mp z), if_pos rfl]
  · rw [if_neg z, decide_eq_false (fun w => z (this.mpr w)), if_neg (by decide)]
theorem A_dig (h : TapeR L A B) {p : Nat} (hp : p < L) : f_X6_isDigit 4 (nI p) A = some (if tDi (B 70) p then 1 else 0) := by
  obtain ⟨h0, h1, h2, h3, h4⟩ := h
  rw [f_X6_isDigit, h1, if_pos ok21, rid2, kd1, if_pos (inN (show p < 2000 by omega)), ixn (by omega), if_pos ok21, if_pos (inN (show p < 2000 by omega)), rng_ite]
  unfold tDi
  have := (h4 p hp).rng (x := 48) (y := 57) (by omega) (by omega)
  rw [show ((48 : Int32)).toInt = 48 from rfl, show ((57 : Int32)).toInt = 57 from rfl]
  by_cases z : 48 ≤ (A 1 p).toInt ∧ (A 1 p).toInt ≤ 57
  · rw [if_pos z, decide_eq_true (this.mp z), if_pos rfl]
  · rw [if_neg z, decide_eq_false (fun w => z (this.mpr w)), if_neg (by decide)]
theorem A_word (h : TapeR L A B) : ∀ (k p n : Nat), L - p = k → p ≤ L → k < n → f_X6_behindWord_L2 4 A n (nI p) = some (nI (run (tWo (B 70)) L p)) := by
  intro k
  induction k with
  | zero =>
    intro p n hk hp hn
    obtain ⟨m, rfl⟩ : ∃ m, n = m + 1 := ⟨n - 1, by omega⟩
    have h0 := h.1
    rw [f_X6_behindWord_L2, h.2.2.1, if_pos (by rw [n_le (by omega) (by omega)]; omega), run_off (by omega)]
  | succ k ih =>
    intro p n hk hp hn
    obtain ⟨m, rfl⟩ : ∃ m, n = m + 1 := ⟨n - 1, by omega⟩
    have h0 := h.1
    rw [f_X6_behindWord_L2, h.2.2.1, if_neg (by rw [n_le (by omega) (by omega)]; omega), A_let h (by omega), bd1_e, A_dig h (by omega), bd1_e, n_suc]
    simp only [lz_e]
    by_cases z1 : tLe (B 70) p = true
    · rw [if_pos z1, if_neg (by decide), run_on (by omega) (by unfold tWo; rw [z1]; rfl)]
      exact ih (p + 1) m (by omega) (by omega) (by omega)
    · rw [if_neg z1, if_pos rfl]
      by_cases z2 : tDi (B 70) p = true
      · rw [if_pos z2, if_neg (by decide), run_on (by omega) (by unfold tWo; rw [z2]; simp)]
        exact ih (p + 1) m (by omega) (by omega) (by omega)
      · rw [if_neg z2, if_pos rfl, run_off (by unfold tWo; intro x; have := x.2; simp [z1, z2] at this)]
theorem A_digs (h : TapeR L A B) : ∀ (k p n : Nat), L - p = k → p ≤ L → k < n → f_X6_behindDigits_L2 4 A n (nI p) = some (nI (run (tDi (B 70)) L p)) := by
  intro k
  induction k with
  | zero =>
    intro p n hk hp hn
    obtain ⟨m, rfl⟩ : ∃ m, n = m + 1 := ⟨n - 1, by omega⟩
    have h0 := h.1
    rw [f_X6_behindDigits_L2, h.2.2.1, if_pos (by rw [n_le (by omega) (by omega)]; omega), run_off (by omega)]
  | succ k ih =>
    intro p n hk hp hn
    obtain ⟨m, rfl⟩ : ∃ m, n = m + 1 := ⟨n - 1, by omega⟩
    have h0 := h.1
    rw [f_X6_behindDigits_L2, h.2.2.1, if_neg (by rw [n_le (by omega) (by omega)]; omega), A_dig h (by omega), bd1_e, n_suc]
    simp only [lz_e]
    by_cases z2 : tDi (B 70) p = true
    · rw [if_pos z2, if_neg (by decide), run_on (by omega) z2]
      exact ih (p + 1) m (by omega) (by omega) (by omega)
    · rw [if_neg z2, if_pos rfl, run_off (fun x => z2 x.2)]
end TX
/-! the reference's side -/
theorem wr_self (M : Mm) (i j : Nat) : wr M i j (M i j) = M := by
  funext a b; unfold wr; split
  · next h => rw [h.1, h.2]
  · rfl
theorem wr_wr (M : Mm) (i j : Nat) (u v : Int32) : wr (wr M i j u) i j v = wr M i j v := by
  funext a b; unfold wr; split <;> rfl
def TapB (L : Nat) (B : Mm) : Prop := L ≤ 2000 ∧ B 69 2 = nI L ∧ ∀ k, k < L → 0 ≤ (B 70 k).toInt ∧ (B 70 k).toInt ≤ 255
theorem TapB.pos {L : Nat} {B : Mm} {v : Int32} (h : TapB L B) : TapB L (wr B 69 12 v) := ⟨h.1, by rw [wr_col (by decide)]; exact h.2.1, fun k hk => by rw [wr_ne (by decide)]; exact h.2.2 k hk⟩
section TY
variable {L : Nat} {B : Mm}
theorem byteB (h : TapB L B) {p : Nat} (hp : p ≤ L) : f_X11_byteOf 69 (nI p) B = some (if p < L then B 70 p else 0) := by
  have h0 := h.1
  rw [f_X11_byteOf, h.2.1]
  by_cases z : p < L
  · rw [if_neg (by rw [n_le (by omega) (by omega)]; omega), if_pos (inN (show p < 2000 by omega)), ixn (by omega), if_pos z]
  · rw [if_pos (by rw [n_le (by omega) (by omega)]; omega), if_neg z]
theorem letB (h : TapB L B) {p : Nat} (hp : p ≤ L) : f_X11_isLetter 69 (nI p) B = some (if p < L ∧ tLe (B 70) p then 1 else 0) := by
  rw [f_X11_isLetter, byteB h hp, bd1_e, bd1_e, rng_ite, show ((97 : Int32)).toInt = 97 from rfl, show ((122 : Int32)).toInt = 122 from rfl]
  by_cases z : p < L
  · rw [if_pos z]
    unfold tLe
    by_cases y : 97 ≤ (B 70 p).toInt ∧ (B 70 p).toInt ≤ 122
    · rw [if_pos y, if_pos ⟨z, decide_eq_true y⟩]
    · rw [if_neg y, if_neg (fun x => y (of_decide_eq_true x.2))]
  · rw [if_neg z, if_neg (by decide), if_neg (fun x => z x.1)]
theorem digB (h : TapB L B) {p : Nat} (hp : p ≤ L) : f_X11_isDigit 69 (nI p) B = some (if p < L ∧ tDi (B 70) p then 1 else 0) := by
  rw [f_X11_isDigit, byteB h hp, bd1_e, bd1_e, rng_ite, show ((48 : Int32)).toInt = 48 from rfl, show ((57 : Int32)).toInt = 57 from rfl]
  by_cases z : p < L
  · rw [if_pos z]
    unfold tDi
    by_cases y : 48 ≤ (B 70 p).toInt ∧ (B 70 p).toInt ≤ 57
    · rw [if_pos y, if_pos ⟨z, decide_eq_true y⟩]
    · rw [if_neg y, if_neg (fun x => y (of_decide_eq_true x.2))]
  · rw [if_neg z, if_neg (by decide), if_neg (fun x => z x.1)]
theorem letB0 (h : TapB L B) {p : Nat} (hp : p ≤ L) (z : ¬ (p < L ∧ tLe (B 70) p = true)) : f_X11_isLetter 69 (nI p) B = some 0 := by rw [letB h hp, if_neg z]
theorem letB1 (h : TapB L B) {p : Nat} (hp : p < L) (z : tLe (B 70) p = true) : f_X11_isLetter 69 (nI p) B = some 1 := by rw [letB h (by omega), if_pos ⟨hp, z⟩]
theorem digB0 (h : TapB L B) {p : Nat} (hp : p ≤ L) (z : ¬ (p < L ∧ tDi (B 70) p = true)) : f_X11_isDigit 69 (nI p) B = some 0 := by rw [digB h hp, if_neg z]
theorem digB1 (h : TapB L B) {p : Nat} (hp : p < L) (z : tDi (B 70) p = true) : f_X11_isDigit 69 (nI p) B = some 1 := by rw [digB h (by omega), if_pos ⟨hp, z⟩]
theorem B_blank : ∀ (k p n : Nat) (B : Mm), TapB L B → L - p = k → p ≤ L → k < n → B 69 12 = nI p → f_X11_advance_L0 69 n B = some (wr B 69 12 (nI (run (tBl (B 70)) L p))) := by
  intro k
  induction k with
  | zero =>
    intro p n B h hk hp hn hpos
    obtain ⟨m, rfl⟩ : ∃ m, n = m + 1 := ⟨n - 1, by omega⟩
    have h0 := h.1
    rw [f_X11_advance_L0, hpos, h.2.1, if_pos (by rw [n_le (by omega) (by omega)]; omega), run_off (by omega), ← hpos, wr_self]
  | succ k ih =>
    intro p n B h hk hp hn hpos
    obtain ⟨m, rfl⟩ : ∃ m, n = m + 1 := ⟨n - 1, by omega⟩
    have h0 := h.1
    have i2 := ih (p + 1) m (wr B 69 12 (nI (p + 1))) h.pos (by omega) (by omega) (by omega) (wr_at _ _ _ _)
    rw [wr_wr, wr_ne (show 70 ≠ 69 by decide)] at i2
    rw [f_X11_advance_L0, hpos, h.2.1, if_neg (by rw [n_le (by omega) (by omega)]; omega), if_pos (inN (show p < 2000 by omega)), ixn (by omega), if_pos (inN (show p < 2000 by omega)), n_suc]
    simp only [lz_e, show (69 + 1 : Nat) = 70 from rfl]
    by_cases z1 : B 70 p = 32
    · rw [if_pos z1, run_on (by omega) (by unfold tBl; exact decide_eq_true (Or.inl z1))]
      exact i2
    · by_cases z2 : B 70 p = 10
      · rw [if_neg z1, if_pos z2, run_on (by omega) (by unfold tBl; exact decide_eq_true (Or.inr z2))]
        exact i2
      · rw [if_neg z1, if_neg z2, run_off (by unfold tBl; intro x; have := of_decide_eq_true x.2; rcases this with y | y <;> contradiction), ← hpos, wr_self]
theorem B_word : ∀ (k p n : Nat) (B : Mm), TapB L B → L - p = k → p ≤ L → k < n → B 69 12 = nI p → f_X11_word_L0 69 n B = some (wr B 69 12 (nI (run (tWo (B 70)) L p))) := by
  intro k
  induction k with
  | zero =>
    intro p n B h hk hp hn hpos
    obtain ⟨m, rfl⟩ : ∃ m, n = m + 1 := ⟨n - 1, by omega⟩
    rw [f_X11_word_L0, hpos, letB0 h hp (by omega), bd1_e, if_pos rfl, digB0 h hp (by omega), bd1_e, if_pos rfl, run_off (by omega), ← hpos, wr_self]
  | succ k ih =>
    intro p n B h hk hp hn hpos
    obtain ⟨m, rfl⟩ : ∃ m, n = m + 1 := ⟨n - 1, by omega⟩
    have i2 := ih (p + 1) m (wr B 69 12 (nI (p + 1))) h.pos (by omega) (by omega) (by omega) (wr_at _ _ _ _)
    rw [wr_wr, wr_ne (show 70 ≠ 69 by decide)] at i2
    rw [f_X11_word_L0, hpos]
    by_cases z1 : tLe (B 70) p = true
    · rw [letB1 h (by omega) z1, bd1_e, if_neg (show ¬ (1 : Int32) = 0 by decide), n_suc, lz_e, run_on (by omega) (by unfold tWo; rw [z1]; rfl)]
      exact i2
    · rw [letB0 h hp (fun x => z1 x.2), bd1_e, if_pos rfl]
      by_cases z2 : tDi (B 70) p = true
      · rw [digB1 h (by omega) z2, bd1_e, if_neg (show ¬ (1 : Int32) = 0 by decide), n_suc, lz_e, run_on (by omega) (by unfold tWo; rw [z2]; simp)]
        exact i2
      · rw [digB0 h hp (fun x => z2 x.2), bd1_e, if_pos rfl, run_off (by unfold tWo; intro x; have := x.2; simp [z1, z2] at this), ← hpos, wr_self]
/-- the number that k digits from p on make, behind v -/
def numV (T : Nat → Int32) : Nat → Nat → Int32 → Int32
  | 0, _, v => v
  | k + 1, p, v => numV T k (p + 1) (v * 10 + (T p - 48))
theorem B_num {st : Nat} : ∀ (k p n : Nat) (v : Int32) (B : Mm), TapB L B → L - p = k → p ≤ L → k < n → B 69 12 = nI p → B 69 15 = nI st → st ≤ p → ∃ v', f_X11_number_L2 69 n v B = some (v', wr B 69 12 (nI (run (tDi (B 70)) L p))) ∧ (run (tDi (B 70)) L p - st ≤ 6 → v' = numV (B 70) (run (tDi (B 70)) L p - p) p v) := by
  intro k
  induction k with
  | zero =>
    intro p n v B h hk hp hn hpos hst hle
    obtain ⟨m, rfl⟩ : ∃ m, n = m + 1 := ⟨n - 1, by omega⟩
    refine ⟨v, ?_, fun _ => ?_⟩
    · rw [f_X11_number_L2, hpos, digB0 h hp (by omega), bd1_e, if_pos rfl, run_off (by omega), ← hpos, wr_self]
    · rw [run_off (by omega), Nat.sub_self]; rfl
  | succ k ih =>
    intro p n v B h hk hp hn hpos hst hle
    obtain ⟨m, rfl⟩ : ∃ m, n = m + 1 := ⟨n - 1, by omega⟩
    have h0 := h.1
    by_cases z2 : tDi (B 70) p = true
    · obtain ⟨hr1, hr2, -, -⟩ := run_rng (P := tDi (B 70)) (L := L) _ (p + 1) rfl (by omega)
      have e1 : nI p - nI st = nI (p - st) := n_sub (by omega) (by omega)
      have hx : ∃ v1, (if ((6 : Int32) ≤ nI (p - st)) then (some v) else (if 0 ≤ (nI p).toInt ∧ (nI p).toInt < ((2000 : Nat) : Int) then (some ((((10 : Int32) * v) + B 70 p) - (48 : Int32))) else none)) = some v1 ∧ (p - st < 6 → v1 = v * 10 + (B 70 p - 48)) := by
        by_cases z6 : 6 ≤ p - st
        · exact ⟨v, by rw [if_pos (by rw [i_le, i_nI (by omega)]; show (6 : Int) ≤ ((p - st : Nat) : Int); omega)], fun _ => by omega⟩
        · refine ⟨_, by rw [if_neg (by rw [i_le, i_nI (by omega)]; show ¬ (6 : Int) ≤ ((p - st : Nat) : Int); omega), if_pos (inN (show p < 2000 by omega))], fun _ => ?_⟩
          grind
      obtain ⟨v1, x1, x2⟩ := hx
      obtain ⟨v', y1, y2⟩ := ih (p + 1) m v1 (wr B 69 12 (nI (p + 1))) h.pos (by omega) (by omega) (by omega) (wr_at _ _ _ _) (by rw [wr_col (by decide)]; exact hst) (by omega)
      rw [wr_wr, wr_ne (show 70 ≠ 69 by decide)] at y1
      rw [wr_ne (show 70 ≠ 69 by decide)] at y2
      refine ⟨v', ?_, fun h6 => ?_⟩
      · rw [f_X11_number_L2, hpos, digB1 h (by omega) z2, bd1_e, if_neg (show ¬ (1 : Int32) = 0 by decide), hst, e1, ixn (by omega)]
        simp only [lz_e, show (69 + 1 : Nat) = 70 from rfl]
        rw [x1, bd1_e, n_suc, run_on (by omega) z2]
        exact y1
      · rw [run_on (by omega) z2] at h6 ⊢
        rw [y2 h6, x2 (by omega), show run (tDi (B 70)) L (p + 1) - p = (run (tDi (B 70)) L (p + 1) - (p + 1)) + 1 by omega]
        rfl
    · refine ⟨v, ?_, fun _ => ?_⟩
      · rw [f_X11_number_L2, hpos, digB0 h hp (fun x => z2 x.2), bd1_e, if_pos rfl, run_off (fun x => z2 x.2), ← hpos, wr_self]
      · rw [run_off (fun x => z2 x.2), Nat.sub_self]; rfl
end TY
