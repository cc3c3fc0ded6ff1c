/-! needs -/
/-! whole numbers of 32 bits: sums without a wrap, small ones, their places -/
theorem i_add {a b : Int32} (h1 : -2147483648 ≤ a.toInt + b.toInt) (h2 : a.toInt + b.toInt < 2147483648) : (a + b).toInt = a.toInt + b.toInt := by
  rw [Int32.toInt_add]
  exact Int.bmod_eq_of_le h1 h2
theorem i_sub {a b : Int32} (h1 : -2147483648 ≤ a.toInt - b.toInt) (h2 : a.toInt - b.toInt < 2147483648) : (a - b).toInt = a.toInt - b.toInt := by
  rw [Int32.toInt_sub]
  exact Int.bmod_eq_of_le h1 h2
theorem i_mul {a b : Int32} (h1 : -2147483648 ≤ a.toInt * b.toInt) (h2 : a.toInt * b.toInt < 2147483648) : (a * b).toInt = a.toInt * b.toInt := by
  rw [Int32.toInt_mul]
  exact Int.bmod_eq_of_le h1 h2
theorem i_rng (a : Int32) : -2147483648 ≤ a.toInt ∧ a.toInt < 2147483648 := ⟨a.le_toInt, a.toInt_lt⟩
theorem i_le {a b : Int32} : a ≤ b ↔ a.toInt ≤ b.toInt := Int32.le_iff_toInt_le
theorem i_lt {a b : Int32} : a < b ↔ a.toInt < b.toInt := Int32.lt_iff_toInt_lt
theorem i_eq {a b : Int32} : a = b ↔ a.toInt = b.toInt := Int32.toInt_inj.symm
theorem i_nI {n : Nat} (h : n < 2147483648) : (nI n).toInt = (n : Int) := Int32.toInt_ofNat_of_lt h
theorem ix_nI {n : Nat} (h : n < 2147483648) : ix (nI n) = n := nI_clamp h
theorem n_ix {x : Int32} (h : 0 ≤ x.toInt) : nI (ix x) = x := by
  rw [i_eq, i_nI (by show x.toInt.toNat < _; have := (i_rng x).2; omega)]
  exact Int.toNat_of_nonneg h
theorem ix_int {x : Int32} (h : 0 ≤ x.toInt) : ((ix x : Nat) : Int) = x.toInt := Int.toNat_of_nonneg h
theorem n_inj {a b : Nat} (ha : a < 2147483648) (hb : b < 2147483648) : nI a = nI b ↔ a = b := by
  rw [i_eq, i_nI ha, i_nI hb]; omega
theorem n_le {a b : Nat} (ha : a < 2147483648) (hb : b < 2147483648) : nI a ≤ nI b ↔ a ≤ b := by
  rw [i_le, i_nI ha, i_nI hb]; omega
theorem n_lt {a b : Nat} (ha : a < 2147483648) (hb : b < 2147483648) : nI a < nI b ↔ a < b := by
  rw [i_lt, i_nI ha, i_nI hb]; omega
theorem n_add (a b : Nat) : nI a + nI b = nI (a + b) := (Int32.ofNat_add a b).symm
theorem n_suc (a : Nat) : nI a + (1 : Int32) = nI (a + 1) := n_add a 1
theorem n_sub {a b : Nat} (h : b ≤ a) (ha : a < 2147483648) : nI a - nI b = nI (a - b) := by
  rw [i_eq, i_sub (by rw [i_nI ha, i_nI (by omega)]; omega) (by rw [i_nI ha, i_nI (by omega)]; omega), i_nI ha, i_nI (by omega), i_nI (by omega)]; omega
theorem n_mul {a b : Nat} (h : a * b < 2147483648) (ha : a < 2147483648) (hb : b < 2147483648) : nI a * nI b = nI (a * b) := by
  have e : ((a : Int) * (b : Int)) = ((a * b : Nat) : Int) := by push_cast; rfl
  rw [i_eq, i_mul (by rw [i_nI ha, i_nI hb, e]; omega) (by rw [i_nI ha, i_nI hb, e]; omega), i_nI ha, i_nI hb, i_nI h, e]
theorem inN {j N : Nat} (h : j < N) (hN : N < 2147483648 := by decide) : 0 ≤ (nI j).toInt ∧ (nI j).toInt < ((N : Nat) : Int) := by
  rw [i_nI (by omega)]; omega
theorem ix_lt {x : Int32} {N : Nat} (h : 0 ≤ x.toInt ∧ x.toInt < ((N : Nat) : Int)) : ix x < N := ix_in h
theorem i_div {a b : Int32} (h : 0 ≤ a.toInt) (hb : 0 < b.toInt) : (a / b).toInt = a.toInt / b.toInt := by
  have h1 := i_rng a
  have h2 : 0 ≤ a.toInt / b.toInt := Int.ediv_nonneg h (by omega)
  have h3 : a.toInt / b.toInt ≤ a.toInt := Int.ediv_le_self _ h
  rw [Int32.toInt_div, Int.tdiv_eq_ediv_of_nonneg h]
  exact Int.bmod_eq_of_le (by omega) (by omega)
theorem i_rem {a b : Int32} (h : 0 ≤ a.toInt) (hb : 0 < b.toInt) : (a - a / b * b).toInt = a.toInt % b.toInt := by
  have h1 := i_rng a
  have h2 : 0 ≤ a.toInt / b.toInt := Int.ediv_nonneg h (by omega)
  have h4 : a.toInt / b.toInt * b.toInt ≤ a.toInt := Int.ediv_mul_le _ (by omega)
  have h5 : 0 ≤ a.toInt / b.toInt * b.toInt := Int.mul_nonneg h2 (by omega)
  have e : (a / b * b).toInt = a.toInt / b.toInt * b.toInt := by
    rw [i_mul (by rw [i_div h hb]; omega) (by rw [i_div h hb]; omega), i_div h hb]
  rw [i_sub (by rw [e]; omega) (by rw [e]; omega), e, Int.emod_def, Int.mul_comm b.toInt]
theorem remN {a b : Int32} {N : Nat} (h : 0 ≤ a.toInt) (hN : 0 < N) (hb : b.toInt = (N : Int)) : 0 ≤ (a - a / b * b).toInt ∧ (a - a / b * b).toInt < (N : Int) := by
  rw [i_rem h (by omega), hb]
  exact ⟨Int.emod_nonneg _ (by omega), Int.emod_lt_of_pos _ (by omega)⟩
/-! reads of written memories -/
theorem wr_at (M : Mm) (i j : Nat) (v : Int32) : wr M i j v i j = v := by simp [wr]
theorem wr_col {M : Mm} {i j b : Nat} {v : Int32} (h : b ≠ j) : wr M i j v i b = M i b := by simp [wr, h]
theorem wr_o {M : Mm} {i j a b : Nat} {v : Int32} (h : a ≠ i ∨ b ≠ j) : wr M i j v a b = M a b := by
  unfold wr; rw [if_neg (fun q => by rcases h with h | h; exact h q.1; exact h q.2)]
theorem wr_r {M : Mm} {i j a b : Nat} {v : Int32} (h : a ≠ i) : wr M i j v a b = M a b := wr_o (Or.inl h)
theorem wr_i (M : Mm) (i j b : Nat) (v : Int32) : wr M i j v i b = if b = j then v else M i b := by simp [wr]
theorem wrow_at (M : Mm) (i : Nat) (f : Nat → Int32) : wrow M i f i = f := by simp [wrow]
theorem wrow_r {M : Mm} {i a : Nat} {f : Nat → Int32} (h : a ≠ i) : wrow M i f a = M a := by simp [wrow, h]
theorem cpy_lt {f g : Nat → Int32} {n k : Nat} (h : k < n) : va_cpy f g 0 0 n k = f k := by simp [va_cpy, h]
theorem cpy_ge {f g : Nat → Int32} {n k : Nat} (h : n ≤ k) : va_cpy f g 0 0 n k = g k := by
  unfold va_cpy; rw [if_neg (by omega)]
/-! the plain terms, opened -/
theorem lz_e {α β : Type} (x : α) (f : α → β) : lz x f = f x := of_eq_true (eq_self (f x))
theorem bd1_e {α β : Type} (a : α) (f : α → Option β) : bd1 (some a) f = f a := of_eq_true (eq_self (f a))
theorem bd2_e {α α' β : Type} (a : α) (b : α') (f : α → α' → Option β) : bd2 (some (a, b)) f = f a b := of_eq_true (eq_self (f a b))
theorem bd3_e {α α' α'' β : Type} (a : α) (b : α') (c : α'') (f : α → α' → α'' → Option β) : bd3 (some (a, b, c)) f = f a b c := of_eq_true (eq_self (f a b c))
/-- a sum of a row from j, k long -/
def sumL (f : Nat → Int32) : Nat → Nat → Int32
  | 0, _ => 0
  | k + 1, j => f j + sumL f k (j + 1)
theorem sumL_congr {f g : Nat → Int32} : ∀ (k j : Nat), (∀ b, j ≤ b → b < j + k → f b = g b) → sumL f k j = sumL g k j
  | 0, _, _ => rfl
  | k + 1, j, h => by
    show f j + sumL f k (j + 1) = g j + sumL g k (j + 1)
    rw [h j (Nat.le_refl _) (by omega), sumL_congr k (j + 1) (fun b h1 h2 => h b (by omega) (by omega))]
theorem FU_gt {n : Nat} (h : n < 1000000 := by decide) : ∃ m, FU = n + 1 + m := ⟨FU - (n + 1), by unfold FU; omega⟩
