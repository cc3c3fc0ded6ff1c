/-! needs 30 31 32 33 34 35 36 37 38 39 40 41 42 43 44 45 46 47 50 70 -/
/-! the trial: a copy of the bog in both -/
def cR (i j n : Nat) (M : Mm) : Mm := wrow M j (va_cpy (M i) (M j) 0 0 n)
def cW (i j c : Nat) (M : Mm) : Mm := wr M j c (M i c)
theorem cR_r {i j n r : Nat} {M : Mm} (h : r ≠ j) : cR i j n M r = M r := wrow_ne h
theorem cR_at {i j n k : Nat} {M : Mm} (h : k < n) : cR i j n M j k = M i k := by unfold cR; rw [wrow_at, cpy_lt h]
theorem cW_r {i j c r : Nat} {M : Mm} (h : r ≠ j) : cW i j c M r = M r := wr_ne h
theorem cW_at (i j c : Nat) (M : Mm) : cW i j c M j c = M i c := wr_at _ _ _ _
theorem cW_c {i j c k : Nat} {M : Mm} (h : k ≠ c) : cW i j c M j k = M j k := wr_col h
/-- a gang's row -/
def gC (i j : Nat) (M : Mm) : Mm := cR (i + 1) (j + 1) 9 (cW i j 9 (cW i j 8 (cW i j 7 (cW i j 6 (cW i j 5 (cW i j 4 (cW i j 3 (cW i j 2 (cW i j 1 (cW i j 0 M))))))))))
theorem gC_r {i j r : Nat} {M : Mm} (h : r ≠ j) (h2 : r ≠ j + 1) : gC i j M r = M r := by
  unfold gC
  rw [cR_r h2, cW_r h, cW_r h, cW_r h, cW_r h, cW_r h, cW_r h, cW_r h, cW_r h, cW_r h, cW_r h]
theorem gC_at {i j : Nat} {M : Mm} (h : i ≠ j) : ∀ k, k < 10 → gC i j M j k = M i k := by
  intro k hk
  unfold gC
  rw [cR_r (by omega)]
  have : k = 0 ∨ k = 1 ∨ k = 2 ∨ k = 3 ∨ k = 4 ∨ k = 5 ∨ k = 6 ∨ k = 7 ∨ k = 8 ∨ k = 9 := by omega
  rcases this with rfl | rfl | rfl | rfl | rfl | rfl | rfl | rfl | rfl | rfl <;> simp [cW, wr, h]
theorem gC_l {i j : Nat} {M : Mm} (h : i + 1 ≠ j) (h2 : i ≠ j) : ∀ k, k < 9 → gC i j M (j + 1) k = M (i + 1) k := by
  intro k hk
  unfold gC
  rw [cR_at hk, cW_r h, cW_r h, cW_r h, cW_r h, cW_r h, cW_r h, cW_r h, cW_r h, cW_r h, cW_r h]
theorem lz_i {α β : Type} {x : α} {f : α → β} {r : β} (h : ∀ y, y = x → f y = r) : lz x f = r := h x rfl
theorem gcopy {i j : Nat} {M : Mm} (h : i ≠ j) (h4 : M i 4 = 0 ∨ M i 4 = 1) : f_X2_copy j i M = some (gC i j M) := by
  rw [f_X2_copy]
  refine lz_i fun M1 (k1 : M1 = cW i j 0 M) => ?_
  refine lz_i fun M2 (k2 : M2 = cW i j 1 M1) => ?_
  refine lz_i fun M3 (k3 : M3 = cW i j 2 M2) => ?_
  refine lz_i fun M4 (k4 : M4 = cW i j 3 M3) => ?_
  have e : M4 i 4 = M i 4 := by rw [k4, cW_r h, k3, cW_r h, k2, cW_r h, k1, cW_r h]
  rw [if_pos (by rw [e]; exact h4)]
  refine lz_i fun M5 (k5 : M5 = cW i j 4 M4) => ?_
  refine lz_i fun M6 (k6 : M6 = cW i j 5 M5) => ?_
  refine lz_i fun M7 (k7 : M7 = cW i j 6 M6) => ?_
  refine lz_i fun M8 (k8 : M8 = cW i j 7 M7) => ?_
  refine lz_i fun M9 (k9 : M9 = cW i j 8 M8) => ?_
  refine lz_i fun M10 (k10 : M10 = cW i j 9 M9) => ?_
  rw [if_pos (by decide)]
  refine lz_i fun M11 (k11 : M11 = cR (i + 1) (j + 1) 9 M10) => ?_
  unfold gC
  rw [← k1, ← k2, ← k3, ← k4, ← k5, ← k6, ← k7, ← k8, ← k9, ← k10, ← k11]
theorem gl_run {b m : Nat} (hb : b = 47) (hm : m ≤ 4) : ∀ (k g n : Nat) (M : Mm), g + k = m → k < n → M 47 15 = nI m → (∀ h, g ≤ h → h < m → M (39 + 2 * h) 4 = 0 ∨ M (39 + 2 * h) 4 = 1) → ∃ M', f_X1_copy_L171 47 29 n (nI g) M = some M' ∧ (∀ r, (∀ h, g ≤ h → h < m → r ≠ 57 + 2 * h ∧ r ≠ 58 + 2 * h) → M' r = M r) ∧ ∀ h, g ≤ h → h < m → (∀ k, k < 10 → M' (57 + 2 * h) k = M (39 + 2 * h) k) ∧ ∀ k, k < 9 → M' (58 + 2 * h) k = M (40 + 2 * h) k := by
  intro k
  induction k with
  | zero =>
    intro g n M hg hn h15 h4
    obtain ⟨n', rfl⟩ : ∃ z, n = z + 1 := ⟨n - 1, by omega⟩
    refine ⟨M, ?_, fun r _ => rfl, fun h h1 h2 => by omega⟩
    rw [f_X1_copy_L171, h15, if_pos (by rw [n_le (by omega) (by omega)]; omega)]
  | succ k ih =>
    intro g n M hg hn h15 h4
    obtain ⟨n', rfl⟩ : ∃ z, n = z + 1 := ⟨n - 1, by omega⟩
    have g4 : g < 4 := by omega
    obtain ⟨M', c1, c2, c3⟩ := ih (g + 1) n' (gC (39 + 2 * g) (57 + 2 * g) M) (by omega) (by omega) (by rw [gC_r (by omega) (by omega)]; exact h15) (fun h h1 h2 => by rw [gC_r (by omega) (by omega)]; exact h4 h (by omega) h2)
    refine ⟨M', ?_, fun r hr => ?_, fun h h1 h2 => ?_⟩
    · rw [f_X1_copy_L171, h15, if_neg (by rw [n_le (by omega) (by omega)]; omega), if_pos (inN g4), if_pos (inN g4), ixn (by omega), show (47 + 9 + 1 + 2 * g) = 57 + 2 * g from rfl, show (29 + 9 + 1 + 2 * g) = 39 + 2 * g from rfl, gcopy (by omega) (h4 g (Nat.le_refl _) (by omega)), bd1_e, n_suc, lz_e]
      exact c1
    · have := hr g (Nat.le_refl _) (by omega)
      rw [c2 r (fun h h1 h2 => hr h (by omega) h2), gC_r this.1 (by omega)]
    · by_cases e : h = g
      · subst e
        rw [c2 (57 + 2 * h) (fun h' h1' h2' => by omega), c2 (58 + 2 * h) (fun h' h1' h2' => by omega)]
        have hl := gC_l (i := 39 + 2 * h) (j := 57 + 2 * h) (M := M) (by omega) (by omega)
        rw [show 57 + 2 * h + 1 = 58 + 2 * h by omega, show 39 + 2 * h + 1 = 40 + 2 * h by omega] at hl
        exact ⟨gC_at (by omega), hl⟩
      · have := c3 h (by omega) h2
        rw [gC_r (show 39 + 2 * h ≠ 57 + 2 * g by omega) (by omega), gC_r (show 40 + 2 * h ≠ 57 + 2 * g by omega) (by omega)] at this
        exact this
def cA (p : Nat) (M : Mm) : Mm := wr (cW 29 47 15 (cW 29 47 13 (cW 29 47 12 (cW 29 47 11 (cW 29 47 10 (cW 29 47 9 (cW 29 47 8 (cR 37 55 12 (cR 36 54 12 (cR 35 53 64 (cR 34 52 64 (cR 33 51 64 (cR 32 50 64 (cR 30 48 64 M)))))))))))))) 47 16 (nI (p + 1))
theorem cA_r {p r : Nat} {M : Mm} (h : r < 47 ∨ r = 49 ∨ 55 < r) : cA p M r = M r := by
  unfold cA
  rw [wr_ne (by omega), cW_r (by omega), cW_r (by omega), cW_r (by omega), cW_r (by omega), cW_r (by omega), cW_r (by omega), cW_r (by omega), cR_r (by omega), cR_r (by omega), cR_r (by omega), cR_r (by omega), cR_r (by omega), cR_r (by omega), cR_r (by omega)]
theorem cA_47 (p : Nat) (M : Mm) : cA p M 47 16 = nI (p + 1) ∧ ∀ c, c = 8 ∨ c = 9 ∨ c = 10 ∨ c = 11 ∨ c = 12 ∨ c = 13 ∨ c = 15 → cA p M 47 c = M 29 c := by
  refine ⟨wr_at _ _ _ _, fun c h => ?_⟩
  unfold cA
  have e : (cR 37 55 12 (cR 36 54 12 (cR 35 53 64 (cR 34 52 64 (cR 33 51 64 (cR 32 50 64 (cR 30 48 64 M))))))) 29 = M 29 := by
    rw [cR_r (by omega), cR_r (by omega), cR_r (by omega), cR_r (by omega), cR_r (by omega), cR_r (by omega), cR_r (by omega)]
  generalize (cR 37 55 12 (cR 36 54 12 (cR 35 53 64 (cR 34 52 64 (cR 33 51 64 (cR 32 50 64 (cR 30 48 64 M))))))) = K at e
  rw [← e]
  rcases h with rfl | rfl | rfl | rfl | rfl | rfl | rfl <;> simp [cW, wr]
theorem cA_rows (p : Nat) (M : Mm) : (∀ k, k < 64 → cA p M 48 k = M 30 k ∧ cA p M 50 k = M 32 k ∧ cA p M 51 k = M 33 k ∧ cA p M 52 k = M 34 k ∧ cA p M 53 k = M 35 k) ∧ ∀ k, k < 12 → cA p M 54 k = M 36 k ∧ cA p M 55 k = M 37 k := by
  have e : ∀ r, r ≠ 47 → cA p M r = (cR 37 55 12 (cR 36 54 12 (cR 35 53 64 (cR 34 52 64 (cR 33 51 64 (cR 32 50 64 (cR 30 48 64 M))))))) r := by
    intro r h
    unfold cA
    rw [wr_ne h, cW_r h, cW_r h, cW_r h, cW_r h, cW_r h, cW_r h, cW_r h]
  refine ⟨fun k hk => ⟨?_, ?_, ?_, ?_, ?_⟩, fun k hk => ⟨?_, ?_⟩⟩
  · rw [e 48 (by decide), cR_r (by decide), cR_r (by decide), cR_r (by decide), cR_r (by decide), cR_r (by decide), cR_r (by decide), cR_at hk]
  · rw [e 50 (by decide), cR_r (by decide), cR_r (by decide), cR_r (by decide), cR_r (by decide), cR_r (by decide), cR_at hk, cR_r (by decide)]
  · rw [e 51 (by decide), cR_r (by decide), cR_r (by decide), cR_r (by decide), cR_r (by decide), cR_at hk, cR_r (by decide), cR_r (by decide)]
  · rw [e 52 (by decide), cR_r (by decide), cR_r (by decide), cR_r (by decide), cR_at hk, cR_r (by decide), cR_r (by decide), cR_r (by decide)]
  · rw [e 53 (by decide), cR_r (by decide), cR_r (by decide), cR_at hk, cR_r (by decide), cR_r (by decide), cR_r (by decide), cR_r (by decide)]
  · rw [e 54 (by decide), cR_r (by decide), cR_at hk, cR_r (by decide), cR_r (by decide), cR_r (by decide), cR_r (by decide), cR_r (by decide)]
  · rw [e 55 (by decide), cR_at hk, cR_r (by decide), cR_r (by decide), cR_r (by decide), cR_r (by decide), cR_r (by decide), cR_r (by decide)]
theorem A_copy {p : Nat} {M M' : Mm} (hp : okr 2 (M 29 16)) (hr : rid (M 29 16) = p) (h : f_X1_copy_L171 47 29 FU 0 (cA p M) = some M') : f_X1_copy 47 29 M = some M' := by
  have h64 : 0 ≤ (64 : Int32).toInt ∧ (64 : Int32).toInt ≤ ((64 : Nat) : Int) ∧ (64 : Int32).toInt ≤ ((64 : Nat) : Int) := by decide
  have h12 : 0 ≤ (12 : Int32).toInt ∧ (12 : Int32).toInt ≤ ((12 : Nat) : Int) ∧ (12 : Int32).toInt ≤ ((12 : Nat) : Int) := by decide
  rw [f_X1_copy, if_pos h64]
  refine lz_i fun M1 (k1 : M1 = cR 30 48 64 M) => ?_
  rw [if_pos h64]
  refine lz_i fun M2 (k2 : M2 = cR 32 50 64 M1) => ?_
  rw [if_pos h64]
  refine lz_i fun M3 (k3 : M3 = cR 33 51 64 M2) => ?_
  rw [if_pos h64]
  refine lz_i fun M4 (k4 : M4 = cR 34 52 64 M3) => ?_
  rw [if_pos h64]
  refine lz_i fun M5 (k5 : M5 = cR 35 53 64 M4) => ?_
  rw [if_pos h12]
  refine lz_i fun M6 (k6 : M6 = cR 36 54 12 M5) => ?_
  rw [if_pos h12]
  refine lz_i fun M7 (k7 : M7 = cR 37 55 12 M6) => ?_
  refine lz_i fun M8 (k8 : M8 = cW 29 47 8 M7) => ?_
  refine lz_i fun M9 (k9 : M9 = cW 29 47 9 M8) => ?_
  refine lz_i fun M10 (k10 : M10 = cW 29 47 10 M9) => ?_
  refine lz_i fun M11 (k11 : M11 = cW 29 47 11 M10) => ?_
  refine lz_i fun M12 (k12 : M12 = cW 29 47 12 M11) => ?_
  refine lz_i fun M13 (k13 : M13 = cW 29 47 13 M12) => ?_
  refine lz_i fun M14 (k14 : M14 = cW 29 47 15 M13) => ?_
  have e : M14 29 16 = M 29 16 := by
    rw [k14, cW_r (by omega), k13, cW_r (by omega), k12, cW_r (by omega), k11, cW_r (by omega), k10, cW_r (by omega), k9, cW_r (by omega), k8, cW_r (by omega), k7, cR_r (by omega), k6, cR_r (by omega), k5, cR_r (by omega), k4, cR_r (by omega), k3, cR_r (by omega), k2, cR_r (by omega), k1, cR_r (by omega)]
  rw [if_pos (by rw [e]; exact hp), e, hr]
  refine lz_i fun M15 k15 => ?_
  have eA : cA p M = M15 := by
    unfold cA
    rw [← k1, ← k2, ← k3, ← k4, ← k5, ← k6, ← k7, ← k8, ← k9, ← k10, ← k11, ← k12, ← k13, ← k14, k15]
  rw [← eA, h, bd1_e]
theorem cp10 {i j n : Nat} {M : Mm} (hi : (kdr i).2 = n) (hj : (kdr j).2 = n) (hn : n < 1000) : f_X10_copy i j M = some (cR i j n M) := by
  rw [f_X10_copy, hi, hj]
  have e : (Int32.ofNat n).toInt = (n : Int) := i_nI (by omega)
  rw [if_pos ⟨by rw [e]; omega, by rw [e]; omega, by rw [e]; omega⟩, show ix (Int32.ofNat n) = n from ixn (by omega)]
  rfl
def cB0 (M : Mm) : Mm := cW 83 91 5 (cW 83 91 4 (cW 83 91 3 (cW 83 91 2 (cW 83 91 1 (cW 83 91 0 M)))))
def cBB (M : Mm) : Mm := cR 90 98 32 (cR 89 97 40 (cR 88 96 64 (cR 87 95 64 (cR 86 94 64 (cR 85 93 64 (cR 84 92 64 (cB0 M)))))))
theorem B_copy (M : Mm) : f_X10_become 91 83 M = some (cBB M) := by
  rw [f_X10_become]
  refine lz_i fun M1 (k1 : M1 = cW 83 91 0 M) => ?_
  refine lz_i fun M2 (k2 : M2 = cW 83 91 1 M1) => ?_
  refine lz_i fun M3 (k3 : M3 = cW 83 91 2 M2) => ?_
  refine lz_i fun M4 (k4 : M4 = cW 83 91 3 M3) => ?_
  refine lz_i fun M5 (k5 : M5 = cW 83 91 4 M4) => ?_
  refine lz_i fun M6 (k6 : M6 = cW 83 91 5 M5) => ?_
  have e : cB0 M = M6 := by
    unfold cB0
    rw [← k1, ← k2, ← k3, ← k4, ← k5, ← k6]
  unfold cBB
  rw [e, cp10 (n := 64) rfl rfl (by decide), bd1_e, cp10 (n := 64) rfl rfl (by decide), bd1_e, cp10 (n := 64) rfl rfl (by decide), bd1_e, cp10 (n := 64) rfl rfl (by decide), bd1_e, cp10 (n := 64) rfl rfl (by decide), bd1_e, cp10 (n := 40) rfl rfl (by decide), bd1_e, cp10 (n := 32) rfl rfl (by decide), bd1_e]
theorem cBB_r {r : Nat} {M : Mm} (h : r < 91 ∨ 98 < r) : cBB M r = M r := by
  unfold cBB cB0
  rw [cR_r (by omega), cR_r (by omega), cR_r (by omega), cR_r (by omega), cR_r (by omega), cR_r (by omega), cR_r (by omega), cW_r (by omega), cW_r (by omega), cW_r (by omega), cW_r (by omega), cW_r (by omega), cW_r (by omega)]
theorem cBB_91 (M : Mm) : ∀ c, c < 6 → cBB M 91 c = M 83 c := by
  intro c h
  unfold cBB
  rw [cR_r (by omega), cR_r (by omega), cR_r (by omega), cR_r (by omega), cR_r (by omega), cR_r (by omega), cR_r (by omega)]
  unfold cB0
  have : c = 0 ∨ c = 1 ∨ c = 2 ∨ c = 3 ∨ c = 4 ∨ c = 5 := by omega
  rcases this with rfl | rfl | rfl | rfl | rfl | rfl <;> simp [cW, wr]
theorem cB0_r {r : Nat} {M : Mm} (h : r ≠ 91) : cB0 M r = M r := by
  unfold cB0; rw [cW_r h, cW_r h, cW_r h, cW_r h, cW_r h, cW_r h]
theorem cBB_rows (M : Mm) : (∀ k, k < 64 → cBB M 92 k = M 84 k ∧ cBB M 93 k = M 85 k ∧ cBB M 94 k = M 86 k ∧ cBB M 95 k = M 87 k ∧ cBB M 96 k = M 88 k) ∧ (∀ k, k < 40 → cBB M 97 k = M 89 k) ∧ ∀ k, k < 32 → cBB M 98 k = M 90 k := by
  unfold cBB
  refine ⟨fun k hk => ⟨?_, ?_, ?_, ?_, ?_⟩, fun k hk => ?_, fun k hk => ?_⟩
  · rw [cR_r (by decide), cR_r (by decide), cR_r (by decide), cR_r (by decide), cR_r (by decide), cR_r (by decide), cR_at hk, cB0_r (by decide)]
  · rw [cR_r (by decide), cR_r (by decide), cR_r (by decide), cR_r (by decide), cR_r (by decide), cR_at hk, cR_r (by decide), cB0_r (by decide)]
  · rw [cR_r (by decide), cR_r (by decide), cR_r (by decide), cR_r (by decide), cR_at hk, cR_r (by decide), cR_r (by decide), cB0_r (by decide)]
  · rw [cR_r (by decide), cR_r (by decide), cR_r (by decide), cR_at hk, cR_r (by decide), cR_r (by decide), cR_r (by decide), cB0_r (by decide)]
  · rw [cR_r (by decide), cR_r (by decide), cR_at hk, cR_r (by decide), cR_r (by decide), cR_r (by decide), cR_r (by decide), cB0_r (by decide)]
  · rw [cR_r (by decide), cR_at hk, cR_r (by decide), cR_r (by decide), cR_r (by decide), cR_r (by decide), cR_r (by decide), cB0_r (by decide)]
  · rw [cR_at hk, cR_r (by decide), cR_r (by decide), cR_r (by decide), cR_r (by decide), cR_r (by decide), cR_r (by decide), cB0_r (by decide)]
theorem copy_ok {ng p len : Nat} {oA rA cB : Nat → Int32} {S : PS} {A B : Mm} (hcl : Cls oA rA cB len S) (h : All 29 83 ng p len oA rA cB S A B) :
    ∃ A', f_X1_copy 47 29 A = some A' ∧ f_X10_become 91 83 B = some (cBB B) ∧ All 47 91 ng p len oA rA cB S A' (cBB B) ∧ (∀ r, r < 47 ∨ 65 ≤ r → A' r = A r) ∧ A' 47 8 = A 29 8 ∧ (∀ k, k < 12 → A' 54 k = A 36 k ∧ A' 55 k = A 37 k) := by
  obtain ⟨⟨h1, h2, h3, h4, h5⟩, hP, k1, k2, k3, k4, k5⟩ := h
  have hokp := hP.okr
  have hrid := hP.rid
  obtain ⟨p1, p2, p3, p4, p5, p6⟩ := hP
  obtain ⟨c1, c2⟩ := cA_47 p A
  obtain ⟨c3, c4⟩ := cA_rows p A
  obtain ⟨A', a1, a2, a3⟩ := gl_run (b := 47) rfl k4 ng 0 FU (cA p A) (by omega) (by unfold FU; omega) (by rw [c2 15 (by omega)]; exact k2) (fun h _ hh => by rw [cA_r (by omega)]; exact (k5 h hh).2.1.2.2.2)
  have e4 : ∀ r, r < 57 → A' r = cA p A r := fun r hr => a2 r (fun h _ _ => by omega)
  obtain ⟨b3, b4, b5⟩ := cBB_rows B
  refine ⟨A', A_copy hokp hrid a1, B_copy B, ⟨⟨fun k hk => ?_, ?_, fun k hk => ?_, fun k hk => ?_, ?_⟩, ⟨p1, ?_, ?_, p4, ?_, ?_⟩, ?_, ?_, ?_, k4, fun g hg => ?_⟩, fun r hr => ?_, ?_, fun k hk => ?_⟩
  · obtain ⟨x1, x2, x3, x4, x5⟩ := c3 k hk
    obtain ⟨y1, y2, y3, y4, y5⟩ := b3 k hk
    rw [e4 (47 + 1) (by decide), e4 (47 + 3) (by decide), e4 (47 + 4) (by decide), e4 (47 + 5) (by decide), e4 (47 + 6) (by decide)]
    show cA p A 48 k = cBB B 92 k ∧ cA p A 50 k = cBB B 93 k ∧ cA p A 51 k = cBB B 94 k ∧ cA p A 52 k = cBB B 95 k ∧ cA p A 53 k = cBB B 96 k
    rw [x1, x2, x3, x4, x5, y1, y2, y3, y4, y5]
    exact h1 k hk
  · unfold SimS
    rw [e4 47 (by decide), c2 8 (by omega), c2 9 (by omega), c2 10 (by omega), c2 11 (by omega), c2 12 (by omega), c2 13 (by omega), cBB_91 B 0 (by omega), cBB_91 B 1 (by omega), cBB_91 B 2 (by omega), cBB_91 B 3 (by omega), cBB_91 B 4 (by omega), cBB_91 B 5 (by omega)]
    exact h2
  · rw [e4 (47 + 7) (by decide), e4 (47 + 8) (by decide), cBB_r (by omega), cBB_r (by omega)]
    obtain ⟨x1, x2⟩ := c4 k hk
    show cA p A 54 k = _ ∧ cA p A 55 k = _
    rw [x1, x2]; exact h3 k hk
  · obtain ⟨x1, x2, x3, x4, x5⟩ := c3 k hk
    rw [e4 (47 + 4) (by decide), e4 (47 + 5) (by decide), e4 (47 + 6) (by decide)]
    show (0 ≤ (cA p A 51 k).toInt ∧ (cA p A 51 k).toInt ≤ 99) ∧ (cA p A 53 k = 0 ∨ cA p A 53 k = 1) ∧ (cA p A 51 k = 0 → cA p A 52 k = 0)
    rw [x3, x4, x5]
    exact h4 k hk
  · rw [e4 47 (by decide), c2 8 (by omega)]; exact h5
  · rw [e4 47 (by decide)]; exact c1
  · rw [e4 p (by omega), cA_r (by omega)]; exact p3
  · rw [e4 (p + 1) (by omega), cA_r (by omega)]; exact p5
  · rw [e4 (p + 2) (by omega), cA_r (by omega)]; exact p6
  · rw [cBB_r (by omega)]; exact k1
  · rw [e4 47 (by decide), c2 15 (by omega)]; exact k2
  · rw [cBB_r (by omega)]; exact k3
  · obtain ⟨g1, g2, a, bb, e, q1, q2, q3, q4⟩ := k5 g hg
    obtain ⟨u1, u2⟩ := a3 g (Nat.zero_le _) hg
    have e39 : cA p A (39 + 2 * g) = A (39 + 2 * g) := cA_r (by omega)
    have e40 : cA p A (40 + 2 * g) = A (40 + 2 * g) := cA_r (by omega)
    rw [e39] at u1
    rw [e40] at u2
    have w : ∀ k, k < 10 → A' (47 + 10 + 2 * g) k = A (29 + 10 + 2 * g) k := u1
    refine ⟨?_, ?_, a, bb, e, ?_, ?_, q3, ?_⟩
    · have v : ∀ k, k < 40 → cBB B (91 + 6) k = B (83 + 6) k := b4
      unfold SimG
      rw [w 0 (by omega), w 1 (by omega), w 2 (by omega), w 3 (by omega), w 4 (by omega), w 5 (by omega), w 6 (by omega), w 7 (by omega), w 8 (by omega), v _ (by omega), v _ (by omega), v _ (by omega), v _ (by omega), v _ (by omega), v _ (by omega), v _ (by omega), v _ (by omega), v _ (by omega)]
      exact g1
    · unfold InvG
      rw [w 0 (by omega), w 1 (by omega), w 2 (by omega), w 4 (by omega)]; exact g2
    · rw [w 9 (by omega)]; exact q1
    · show cBB B 97 _ = _
      rw [b4 _ (by omega)]; exact q2
    · obtain ⟨-, hl, h9⟩ := hcl _ _ _ q3
      have : ∀ (f : List Nat), f.length ≤ 8 → (∀ d, d ∈ f → d < 9) → Rep (29 + 10 + 2 * g) 83 g f A B → Rep (47 + 10 + 2 * g) 91 g f A' (cBB B) := by
        intro f
        induction f with
        | nil => intro _ _ _; exact trivial
        | cons d f ih =>
          intro hf h9 hr
          have hf' : f.length + 1 ≤ 8 := hf
          refine ⟨?_, ih (by omega) (fun x hx => h9 x (List.mem_cons_of_mem _ hx)) hr.2⟩
          have x1 := u2 d (h9 d List.mem_cons_self)
          have x2 := b5 (8 * g + f.length) (by omega)
          show A' (47 + 10 + 2 * g + 1) d = cBB B (91 + 7) (8 * g + f.length)
          rw [show 47 + 10 + 2 * g + 1 = 58 + 2 * g by omega, x1, show (91 + 7 : Nat) = 98 from rfl, x2]
          have := hr.1
          rw [show 29 + 10 + 2 * g + 1 = 40 + 2 * g by omega] at this
          exact this
      exact this e hl h9 q4
  · rcases hr with hr | hr
    · rw [e4 r (by omega), cA_r (by omega)]
    · rw [a2 r (fun h _ _ => by omega), cA_r (by omega)]
  · rw [e4 47 (by decide), c2 8 (by omega)]
  · rw [e4 54 (by decide), e4 55 (by decide)]; exact c4 k hk
