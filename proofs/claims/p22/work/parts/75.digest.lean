/-! needs 30 31 32 33 34 35 36 37 38 39 40 41 42 43 44 45 46 47 50 70 72 73 74 75 -/
/-! digest in both -/
def dg (f : Nat → Int64) : Nat → Nat → Int64 → Int64
  | 0, _, v => v
  | k + 1, j, v => dg f k (j + 1) (v * 31 + f j)
theorem dg_congr {f g : Nat → Int64} : ∀ (k j : Nat) (v : Int64), (∀ b, j ≤ b → b < j + k → f b = g b) → dg f k j v = dg g k j v
  | 0, _, _, _ => rfl
  | k + 1, j, v, h => by
    show dg f k (j + 1) (v * 31 + f j) = dg g k (j + 1) (v * 31 + g j)
    rw [h j (Nat.le_refl _) (by omega), dg_congr k (j + 1) _ (fun b h1 h2 => h b (by omega) (by omega))]
theorem dg_add (f : Nat → Int64) : ∀ (a b j : Nat) (v : Int64), dg f (a + b) j v = dg f b (j + a) (dg f a j v)
  | 0, b, j, v => by rw [Nat.zero_add]; rfl
  | a + 1, b, j, v => by
    rw [show a + 1 + b = (a + b) + 1 by omega]
    show dg f (a + b) (j + 1) (v * 31 + f j) = dg f b (j + (a + 1)) (dg f a (j + 1) (v * 31 + f j))
    rw [dg_add f a b (j + 1), show j + 1 + a = j + (a + 1) by omega]
theorem ge_c {N i : Nat} {c : Int32} (hc : c = nI N) (hN : N < 2147483648) (hi : i < 2147483648) : c ≤ nI i ↔ N ≤ i := by rw [hc, n_le hN hi]
theorem dA6 {m : Nat} {A : Mm} (hm : m ≤ 4) (h15 : A 29 15 = nI m) : ∀ (k i n : Nat) (v : Int64), i + k = 13 → k < n → f_X9_digest_L6 0 A n v (nI i) = some (dg (fun j => (cvA m A j).toInt64) k i v) := by
  intro k
  induction k with
  | zero =>
    intro i n v hi hn
    obtain ⟨n', rfl⟩ : ∃ z, n = z + 1 := ⟨n - 1, by omega⟩
    rw [f_X9_digest_L6, if_pos (show (13 : Int32) ≤ nI i from (ge_c (N := 13) rfl (by omega) (by omega)).mpr (by omega))]; rfl
  | succ k ih =>
    intro i n v hi hn
    obtain ⟨n', rfl⟩ : ∃ z, n = z + 1 := ⟨n - 1, by omega⟩
    rw [f_X9_digest_L6, if_neg (show ¬ (13 : Int32) ≤ nI i from fun e => by have := (ge_c (N := 13) rfl (by omega) (by omega)).mp e; omega), cntA hm h15 i (by omega), bd1_e, lz_e, n_suc, lz_e, ih (i + 1) n' _ (by omega) (by omega)]; rfl
theorem dB11 {m : Nat} {B : Mm} (hm : m ≤ 4) (h9 : B 69 9 = nI m) : ∀ (k i n : Nat) (v : Int64) (M : Mm), i + k = 13 → k < n → (∀ r, r ≠ 100 → M r = B r) → ∃ M', f_X11_digest_L11 69 n v (nI i) M = some (dg (fun j => (cvB m B j).toInt64) k i v, M') ∧ ∀ r, r ≠ 100 → M' r = B r := by
  intro k
  induction k with
  | zero =>
    intro i n v M hi hn hM
    obtain ⟨n', rfl⟩ : ∃ z, n = z + 1 := ⟨n - 1, by omega⟩
    exact ⟨M, by rw [f_X11_digest_L11, if_pos (show (13 : Int32) ≤ nI i from (ge_c (N := 13) rfl (by omega) (by omega)).mpr (by omega))]; rfl, hM⟩
  | succ k ih =>
    intro i n v M hi hn hM
    obtain ⟨n', rfl⟩ : ∃ z, n = z + 1 := ⟨n - 1, by omega⟩
    obtain ⟨M1, c1, c2⟩ := cntB (B := M) hm (by rw [hM 69 (by decide)]; exact h9) i (by omega)
    have e : cvB m M i = cvB m B i := by
      unfold cvB
      rw [hM 83 (by decide), hM 69 (by decide), hM 86 (by decide), hM 89 (by decide), hM 84 (by decide), hM 85 (by decide)]
    obtain ⟨M', d1, d2⟩ := ih (i + 1) n' (v * 31 + (cvB m B i).toInt64) M1 (by omega) (by omega) (fun r hr => (c2 r hr).trans (hM r hr))
    refine ⟨M', ?_, d2⟩
    rw [f_X11_digest_L11, if_neg (show ¬ (13 : Int32) ≤ nI i from fun e => by have := (ge_c (N := 13) rfl (by omega) (by omega)).mp e; omega), c1, bd2_e, e, lz_e, n_suc, lz_e, d1]; rfl
theorem w64 {a b : Int32} (ha : 0 ≤ a.toInt ∧ a.toInt ≤ 9) (hb : 0 ≤ b.toInt ∧ b.toInt ≤ 9) : (((10 : Int32) * a) + b).toInt64 = ((10 : Int32) * a).toInt64 + b.toInt64 := by
  have e10 : (10 : Int32).toInt = 10 := rfl
  have e1 : ((10 : Int32) * a).toInt = 10 * a.toInt := i_mul (a := 10) (by rw [e10]; omega) (by rw [e10]; omega)
  have e2 : (((10 : Int32) * a) + b).toInt = 10 * a.toInt + b.toInt := by rw [i_add (by rw [e1]; omega) (by rw [e1]; omega), e1]
  apply Int64.toInt_inj.mp
  rw [Int64.toInt_add, Int32.toInt_toInt64, Int32.toInt_toInt64, Int32.toInt_toInt64, e1, e2]
  have : ((10 * a.toInt + b.toInt).bmod (2 ^ 64)) = 10 * a.toInt + b.toInt := by
    have hr : 0 ≤ 10 * a.toInt + b.toInt ∧ 10 * a.toInt + b.toInt ≤ 99 := by omega
    generalize 10 * a.toInt + b.toInt = t at hr
    unfold Int.bmod
    have em : t % ((2 ^ 64 : Nat) : Int) = t := Int.emod_eq_of_lt hr.1 (by have : ((2 ^ 64 : Nat) : Int) = 18446744073709551616 := rfl; omega)
    rw [em]
    show (if t < (18446744073709551616 + 1) / 2 then t else t - 18446744073709551616) = t
    rw [if_pos (by omega)]
  exact this.symm
theorem dA33 (A : Mm) : ∀ (k i n : Nat) (v : Int64), i + k = 12 → k < n → f_X9_digest_L33 0 A n v (nI i) = some (dg (fun j => (((10 : Int32) * A 36 j) + A 37 j).toInt64) k i v) := by
  intro k
  induction k with
  | zero =>
    intro i n v hi hn
    obtain ⟨n', rfl⟩ : ∃ z, n = z + 1 := ⟨n - 1, by omega⟩
    rw [f_X9_digest_L33, if_pos (show (12 : Int32) ≤ nI i from (ge_c (N := 12) rfl (by omega) (by omega)).mpr (by omega))]; rfl
  | succ k ih =>
    intro i n v hi hn
    obtain ⟨n', rfl⟩ : ∃ z, n = z + 1 := ⟨n - 1, by omega⟩
    rw [f_X9_digest_L33, if_neg (show ¬ (12 : Int32) ≤ nI i from fun e => by have := (ge_c (N := 12) rfl (by omega) (by omega)).mp e; omega), if_pos (inN (show i < 12 by omega)), if_pos (inN (show i < 12 by omega)), ixn (by omega), lz_e, lz_e, n_suc, lz_e, ih (i + 1) n' _ (by omega) (by omega)]; rfl
theorem dB38 {B : Mm} (hw : ∀ k, k < 12 → (0 ≤ (B 72 k).toInt ∧ (B 72 k).toInt ≤ 9) ∧ (0 ≤ (B 73 k).toInt ∧ (B 73 k).toInt ≤ 9)) : ∀ (k i n : Nat) (v : Int64), i + k = 12 → k < n → f_X11_digest_L38 69 B n v (nI i) = some (dg (fun j => (((10 : Int32) * B 72 j) + B 73 j).toInt64) k i v) := by
  intro k
  induction k with
  | zero =>
    intro i n v hi hn
    obtain ⟨n', rfl⟩ : ∃ z, n = z + 1 := ⟨n - 1, by omega⟩
    rw [f_X11_digest_L38, if_pos (show (12 : Int32) ≤ nI i from (ge_c (N := 12) rfl (by omega) (by omega)).mpr (by omega))]; rfl
  | succ k ih =>
    intro i n v hi hn
    obtain ⟨n', rfl⟩ : ∃ z, n = z + 1 := ⟨n - 1, by omega⟩
    obtain ⟨w1, w2⟩ := hw i (by omega)
    rw [f_X11_digest_L38, if_neg (show ¬ (12 : Int32) ≤ nI i from fun e => by have := (ge_c (N := 12) rfl (by omega) (by omega)).mp e; omega), if_pos (inN (show i < 12 by omega)), ixn (by omega), lz_e, if_pos (inN (show i < 12 by omega)), lz_e, n_suc, lz_e, show (69 + 3 : Nat) = 72 from rfl, show (69 + 4 : Nat) = 73 from rfl, Int64.add_assoc, ← w64 w1 w2, ih (i + 1) n' _ (by omega) (by omega)]; rfl
def dcC (A : Mm) (j : Nat) : Int64 := (cvC 29 A (j / 5) (j % 5)).toInt64
theorem dA86 {A : Mm} {c : Nat} (hc : c < 64) : ∀ (k i n : Nat) (v : Int64), i + k = 5 → k < n → f_X9_digest_L86 0 (nI c) A n v (nI i) = some (dg (dcC A) k (5 * c + i) v) := by
  intro k
  induction k with
  | zero =>
    intro i n v hi hn
    obtain ⟨n', rfl⟩ : ∃ z, n = z + 1 := ⟨n - 1, by omega⟩
    rw [f_X9_digest_L86, if_pos (show (5 : Int32) ≤ nI i from (ge_c (N := 5) rfl (by omega) (by omega)).mpr (by omega))]; rfl
  | succ k ih =>
    intro i n v hi hn
    obtain ⟨n', rfl⟩ : ∃ z, n = z + 1 := ⟨n - 1, by omega⟩
    rw [f_X9_digest_L86, if_neg (show ¬ (5 : Int32) ≤ nI i from fun e => by have := (ge_c (N := 5) rfl (by omega) (by omega)).mp e; omega), show (0 + 29 : Nat) = 29 from rfl, tellA 29 A hc (by omega), bd1_e, lz_e, n_suc, lz_e, ih (i + 1) n' _ (by omega) (by omega)]
    show some (dg (dcC A) k (5 * c + (i + 1)) (v * 31 + (cvC 29 A c i).toInt64)) = some (dg (dcC A) k (5 * c + i + 1) (v * 31 + dcC A (5 * c + i)))
    unfold dcC
    rw [show (5 * c + i) / 5 = c by omega, show (5 * c + i) % 5 = i by omega, show 5 * c + (i + 1) = 5 * c + i + 1 by omega]
theorem dA77 {A : Mm} : ∀ (k c n : Nat) (v : Int64), c + k = 64 → k < n → f_X9_digest_L77 0 A n v (nI c) = some (dg (dcC A) (5 * k) (5 * c) v) := by
  intro k
  induction k with
  | zero =>
    intro i n v hi hn
    obtain ⟨n', rfl⟩ : ∃ z, n = z + 1 := ⟨n - 1, by omega⟩
    rw [f_X9_digest_L77, if_pos (show (64 : Int32) ≤ nI i from (ge_c (N := 64) rfl (by omega) (by omega)).mpr (by omega))]; rfl
  | succ k ih =>
    intro i n v hi hn
    obtain ⟨n', rfl⟩ : ∃ z, n = z + 1 := ⟨n - 1, by omega⟩
    have h1 := dA86 (A := A) (c := i) (by omega) 5 0 FU v (by omega) (by unfold FU; omega)
    have h1' : f_X9_digest_L86 0 (nI i) A FU v 0 = some (dg (dcC A) 5 (5 * i) v) := h1
    rw [f_X9_digest_L77, if_neg (show ¬ (64 : Int32) ≤ nI i from fun e => by have := (ge_c (N := 64) rfl (by omega) (by omega)).mp e; omega), h1', bd1_e, n_suc, lz_e, ih (i + 1) n' _ (by omega) (by omega), show 5 * (k + 1) = 5 + 5 * k by omega, dg_add, show 5 * (i + 1) = 5 * i + 5 by omega]
theorem dB77 {A B : Mm} (hS : SimC 29 83 A B) : ∀ (k i n : Nat) (v : Int64), i + k = 320 → k < n → f_X11_digest_L77 69 B n v (nI i) = some (dg (dcC A) k i v) := by
  intro k
  induction k with
  | zero =>
    intro i n v hi hn
    obtain ⟨n', rfl⟩ : ∃ z, n = z + 1 := ⟨n - 1, by omega⟩
    rw [f_X11_digest_L77, if_pos (show (320 : Int32) ≤ nI i from (ge_c (N := 320) rfl (by omega) (by omega)).mpr (by omega))]; rfl
  | succ k ih =>
    intro i n v hi hn
    obtain ⟨n', rfl⟩ : ∃ z, n = z + 1 := ⟨n - 1, by omega⟩
    have ed : nI i / (5 : Int32) = nI (i / 5) := n_div (b := 5) (by omega) (by omega) (by omega)
    have er : nI i - nI i / (5 : Int32) * (5 : Int32) = nI (i % 5) := n_rem (b := 5) (by omega) (by omega) (by omega)
    rw [f_X11_digest_L77, if_neg (show ¬ (320 : Int32) ≤ nI i from fun e => by have := (ge_c (N := 320) rfl (by omega) (by omega)).mp e; omega), er, ed, tellB hS (show i / 5 < 64 by omega) (Nat.mod_lt _ (by decide)), bd1_e, lz_e, n_suc, lz_e, ih (i + 1) n' _ (by omega) (by omega)]; rfl
def dcG (A : Mm) (j : Nat) : Int64 := (f_X2_tell (39 + 2 * (j / 9)) (nI (j % 9)) A).toInt64
theorem dA138 {A : Mm} {c : Nat} (hc : c < 4) : ∀ (k i n : Nat) (v : Int64), i + k = 9 → k < n → f_X9_digest_L138 0 (nI c) A n v (nI i) = some (dg (dcG A) k (9 * c + i) v) := by
  intro k
  induction k with
  | zero =>
    intro i n v hi hn
    obtain ⟨n', rfl⟩ : ∃ z, n = z + 1 := ⟨n - 1, by omega⟩
    rw [f_X9_digest_L138, if_pos (show (9 : Int32) ≤ nI i from (ge_c (N := 9) rfl (by omega) (by omega)).mpr (by omega))]; rfl
  | succ k ih =>
    intro i n v hi hn
    obtain ⟨n', rfl⟩ : ∃ z, n = z + 1 := ⟨n - 1, by omega⟩
    rw [f_X9_digest_L138, if_neg (show ¬ (9 : Int32) ≤ nI i from fun e => by have := (ge_c (N := 9) rfl (by omega) (by omega)).mp e; omega), if_pos (inN hc), ixn (by omega), show (0 + 29 + 9 + 1 + 2 * c) = 39 + 2 * c from rfl, lz_e, lz_e, n_suc, lz_e, ih (i + 1) n' _ (by omega) (by omega)]
    show some (dg (dcG A) k (9 * c + (i + 1)) (v * 31 + (f_X2_tell (39 + 2 * c) (nI i) A).toInt64)) = some (dg (dcG A) k (9 * c + i + 1) (v * 31 + dcG A (9 * c + i)))
    unfold dcG
    rw [show (9 * c + i) / 9 = c by omega, show (9 * c + i) % 9 = i by omega, show 9 * c + (i + 1) = 9 * c + i + 1 by omega]
theorem dA124 {m : Nat} {A : Mm} (hm : m ≤ 4) (h15 : A 29 15 = nI m) : ∀ (k c n : Nat) (v : Int64), c + k = m → k < n → f_X9_digest_L124 0 A n v (nI c) = some (dg (dcG A) (9 * k) (9 * c) v) := by
  intro k
  induction k with
  | zero =>
    intro i n v hi hn
    obtain ⟨n', rfl⟩ : ∃ z, n = z + 1 := ⟨n - 1, by omega⟩
    rw [f_X9_digest_L124, show (0 + 29 : Nat) = 29 from rfl, h15, if_pos (by rw [n_le (by omega) (by omega)]; omega)]; rfl
  | succ k ih =>
    intro i n v hi hn
    obtain ⟨n', rfl⟩ : ∃ z, n = z + 1 := ⟨n - 1, by omega⟩
    have h1 := dA138 (A := A) (c := i) (by omega) 9 0 FU v (by omega) (by unfold FU; omega)
    have h1' : f_X9_digest_L138 0 (nI i) A FU v 0 = some (dg (dcG A) 9 (9 * i) v) := h1
    rw [f_X9_digest_L124, show (0 + 29 : Nat) = 29 from rfl, h15, if_neg (by rw [n_le (by omega) (by omega)]; omega), h1', bd1_e, n_suc, lz_e, ih (i + 1) n' _ (by omega) (by omega), show 9 * (k + 1) = 9 + 9 * k by omega, dg_add, show 9 * (i + 1) = 9 * i + 9 by omega]
theorem dB110 {m : Nat} {A B : Mm} (hm : m ≤ 4) (h9 : B 69 9 = nI m) (hG : ∀ g, g < m → SimG (39 + 2 * g) 83 g A B ∧ InvG (39 + 2 * g) A) : ∀ (k i n : Nat) (v : Int64), i + k = 9 * m → k < n → f_X11_digest_L110 69 B n v (nI i) = some (dg (dcG A) k i v) := by
  have e9 : (9 : Int32) * nI m = nI (9 * m) := n_mul (a := 9) (by omega) (by omega) (by omega)
  intro k
  induction k with
  | zero =>
    intro i n v hi hn
    obtain ⟨n', rfl⟩ : ∃ z, n = z + 1 := ⟨n - 1, by omega⟩
    rw [f_X11_digest_L110, h9, e9, if_pos (by rw [n_le (by omega) (by omega)]; omega)]; rfl
  | succ k ih =>
    intro i n v hi hn
    obtain ⟨n', rfl⟩ : ∃ z, n = z + 1 := ⟨n - 1, by omega⟩
    have ed : nI i / (9 : Int32) = nI (i / 9) := n_div (b := 9) (by omega) (by omega) (by omega)
    have er : nI i - nI i / (9 : Int32) * (9 : Int32) = nI (i % 9) := n_rem (b := 9) (by omega) (by omega) (by omega)
    obtain ⟨g1, g2⟩ := hG (i / 9) (by omega)
    rw [f_X11_digest_L110, h9, e9, if_neg (by rw [n_le (by omega) (by omega)]; omega), er, ed, tellG (s := 83) g1 g2 (by omega) (Nat.mod_lt _ (by decide)), bd1_e, lz_e, n_suc, lz_e, ih (i + 1) n' _ (by omega) (by omega)]; rfl
theorem dA181 {D : Nat} {A : Mm} (hD : D ≤ 72) (h3 : A 0 3 = nI D) : ∀ (k i n : Nat) (v : Int64), i + k = D → k < n → f_X9_digest_L181 0 A n v (nI i) = some (dg (fun j => (A 2 j).toInt64) k i v) := by
  intro k
  induction k with
  | zero =>
    intro i n v hi hn
    obtain ⟨n', rfl⟩ : ∃ z, n = z + 1 := ⟨n - 1, by omega⟩
    rw [f_X9_digest_L181, h3, if_pos (by rw [n_le (by omega) (by omega)]; omega)]; rfl
  | succ k ih =>
    intro i n v hi hn
    obtain ⟨n', rfl⟩ : ∃ z, n = z + 1 := ⟨n - 1, by omega⟩
    rw [f_X9_digest_L181, h3, if_neg (by rw [n_le (by omega) (by omega)]; omega), if_pos (inN (show i < 72 by omega)), ixn (by omega), lz_e, n_suc, lz_e, ih (i + 1) n' _ (by omega) (by omega)]; rfl
theorem dB149 {D : Nat} {B : Mm} (hD : D ≤ 72) (h3 : B 69 5 = nI D) : ∀ (k i n : Nat) (v : Int64), i + k = D → k < n → f_X11_digest_L149 69 B n v (nI i) = some (dg (fun j => (B 71 j).toInt64) k i v) := by
  intro k
  induction k with
  | zero =>
    intro i n v hi hn
    obtain ⟨n', rfl⟩ : ∃ z, n = z + 1 := ⟨n - 1, by omega⟩
    rw [f_X11_digest_L149, h3, if_pos (by rw [n_le (by omega) (by omega)]; omega)]; rfl
  | succ k ih =>
    intro i n v hi hn
    obtain ⟨n', rfl⟩ : ∃ z, n = z + 1 := ⟨n - 1, by omega⟩
    rw [f_X11_digest_L149, h3, if_neg (by rw [n_le (by omega) (by omega)]; omega), if_pos (inN (show i < 72 by omega)), ixn (by omega), lz_e, n_suc, lz_e, ih (i + 1) n' _ (by omega) (by omega)]; rfl
theorem digest_ok {H : Nat} {A B : Mm} (h : Rel H A B) : ∃ x B', f_X9_digest 0 A = some x ∧ f_X11_digest 69 B = some (x, B') ∧ Rel H A B' ∧ RF B B' := by
  have hb := h.b0 0
  obtain ⟨ng, p, len, oA, rA, cB, S, r1, r2, r3, rx⟩ := hb
  have hm := r1.2.2.2.2.2.1
  have h15 := r1.2.2.2.1
  have h9 := r1.2.2.2.2.1
  obtain ⟨B1, b1, b2⟩ := dB11 (B := wr B 69 0 0) hm h9 13 0 14 701 (wr B 69 0 0) (by omega) (by omega) (fun _ _ => rfl)
  have b1' : f_X11_digest_L11 69 14 701 0 (wr B 69 0 0) = _ := b1
  have hR : Rel H A B1 := (h.b0 0).congr (fun _ _ _ => rfl) (fun r _ hr => b2 r (by omega)) (fun c _ => by rw [b2 69 (by decide)])
  have eCnt : dg (fun j => (cvB ng (wr B 69 0 0) j).toInt64) 13 0 701 = dg (fun j => (cvA ng A j).toInt64) 13 0 701 := dg_congr 13 0 701 (fun j _ hj => by rw [cnt_eq r1 rx j (by omega)])
  obtain ⟨-, -, ⟨D, d1, d2, d3, d4⟩, hw, -⟩ := rx
  obtain ⟨⟨s1, s2, s3, -, -⟩, -, -, -, -, -, k5⟩ := r1
  have e72 : ∀ k, B1 72 k = B 72 k := fun k => by rw [b2 72 (by decide), wr_r (by decide)]
  have e73 : ∀ k, B1 73 k = B 73 k := fun k => by rw [b2 73 (by decide), wr_r (by decide)]
  have s3' : ∀ k, k < 12 → A 36 k = B1 72 k ∧ A 37 k = B1 73 k := fun k hk => by
    have := s3 k hk
    rw [b2 72 (by decide), b2 73 (by decide)]; exact this
  have hw' : ∀ k, k < 12 → (0 ≤ (B1 72 k).toInt ∧ (B1 72 k).toInt ≤ 9) ∧ (0 ≤ (B1 73 k).toInt ∧ (B1 73 k).toInt ≤ 9) := fun k hk => by
    rw [← (s3' k hk).1, ← (s3' k hk).2]; exact hw k hk
  have s1' : SimC 29 83 A B1 := fun k hk => by
    rw [b2 (83 + 1) (by decide), b2 (83 + 2) (by decide), b2 (83 + 3) (by decide), b2 (83 + 4) (by decide), b2 (83 + 5) (by decide)]; exact s1 k hk
  have hG : ∀ g, g < ng → SimG (39 + 2 * g) 83 g A B1 ∧ InvG (39 + 2 * g) A := fun g hg => by
    obtain ⟨g1, g2, -⟩ := k5 g hg
    unfold SimG
    rw [b2 (83 + 6) (by decide)]
    exact ⟨g1, g2⟩
  have a1 := dA6 hm h15 13 0 FU 701 (by omega) (by unfold FU; omega)
  have a2 := dA33 A 12 0 FU (dg (fun j => (cvA ng A j).toInt64) 13 0 701) (by omega) (by unfold FU; omega)
  have c2 := dB38 hw' 12 0 FU (dg (fun j => (cvA ng A j).toInt64) 13 0 701) (by omega) (by unfold FU; omega)
  have e2 := dg_congr (f := fun j => (((10 : Int32) * B1 72 j) + B1 73 j).toInt64) (g := fun j => (((10 : Int32) * A 36 j) + A 37 j).toInt64) 12 0 (dg (fun j => (cvA ng A j).toInt64) 13 0 701) (fun j _ hj => by rw [(s3' j (by omega)).1, (s3' j (by omega)).2])
  rw [e2] at c2
  generalize dg (fun j => (((10 : Int32) * A 36 j) + A 37 j).toInt64) 12 0 (dg (fun j => (cvA ng A j).toInt64) 13 0 701) = v2 at a2 c2
  have a3 := dA77 (A := A) 64 0 FU v2 (by omega) (by unfold FU; omega)
  have c3 := dB77 s1' 320 0 FU v2 (by omega) (by unfold FU; omega)
  have a3' : f_X9_digest_L77 0 A FU v2 0 = some (dg (dcC A) 320 0 v2) := a3
  have c3' : f_X11_digest_L77 69 B1 FU v2 0 = some (dg (dcC A) 320 0 v2) := c3
  generalize dg (dcC A) 320 0 v2 = v3 at a3' c3'
  have a4 := dA124 hm h15 ng 0 FU v3 (by omega) (by unfold FU; omega)
  have c4 := dB110 hm (by rw [b2 69 (by decide)]; exact h9) hG (9 * ng) 0 FU v3 (by omega) (by unfold FU; omega)
  have a4' : f_X9_digest_L124 0 A FU v3 0 = some (dg (dcG A) (9 * ng) 0 v3) := a4
  have c4' : f_X11_digest_L110 69 B1 FU v3 0 = some (dg (dcG A) (9 * ng) 0 v3) := c4
  generalize dg (dcG A) (9 * ng) 0 v3 = v4 at a4' c4'
  have a5 := dA181 d1 d2 D 0 FU v4 (by omega) (by unfold FU; omega)
  have c5 := dB149 (B := B1) d1 (by rw [b2 69 (by decide)]; exact d3) D 0 FU v4 (by omega) (by unfold FU; omega)
  have e5 := dg_congr (f := fun j => (B1 71 j).toInt64) (g := fun j => (A 2 j).toInt64) D 0 v4 (fun j _ hj => by rw [b2 71 (by decide), d4 j (by omega)])
  rw [e5] at c5
  have a1' : f_X9_digest_L6 0 A FU 701 0 = _ := a1
  have a2' : f_X9_digest_L33 0 A FU (dg (fun j => (cvA ng A j).toInt64) 13 0 701) 0 = _ := a2
  have c2' : f_X11_digest_L38 69 B1 FU (dg (fun j => (cvA ng A j).toInt64) 13 0 701) 0 = _ := c2
  have a5' : f_X9_digest_L181 0 A FU v4 0 = _ := a5
  have c5' : f_X11_digest_L149 69 B1 FU v4 0 = _ := c5
  refine ⟨dg (fun j => (A 2 j).toInt64) D 0 v4, B1, ?_, ?_, hR, (RF.wr B (by decide)).trans (fun r hr => b2 r (by omega))⟩
  · rw [f_X9_digest, a1', bd1_e, a2', bd1_e, a3', bd1_e, a4', bd1_e, a5', bd1_e]
  · rw [f_X11_digest, lz_e, b1', bd2_e, eCnt, c2', bd1_e, c3', bd1_e, c4', bd1_e, c5', bd1_e]
/-! dries in both -/
theorem dri_A {A : Mm} {f : Int32 → Int32} {wt fl : Int32} (v : Nat) (n : Nat) (hv : v ≤ 60) (hd : 0 ≤ (A 29 8 + nI v).toInt) : f_X9_dries_L57 0 A (n + 1) wt fl (nI v) = if (5 : Int32) < wt then f_X9_dries_L57 0 A n (f_X9_wetnessBehindNight wt fl (A 36 (ix ((A 29 8 + nI v) - (A 29 8 + nI v) / 12 * 12))) (A 37 (ix ((A 29 8 + nI v) - (A 29 8 + nI v) / 12 * 12)))) 0 (nI (v + 1)) else some (0, nI v, A) := by
  rw [f_X9_dries_L57, if_neg (show ¬ (60 : Int32) < nI v from fun e => by have := (n_lt (a := 60) (by omega) (by omega)).mp e; omega)]
  by_cases z : (5 : Int32) < wt
  · rw [if_pos z, if_pos z, show (0 + 29 : Nat) = 29 from rfl, lz_e, if_pos (day_in hd), if_pos (day_in hd), lz_e, n_suc, lz_e]
  · rw [if_neg z, if_neg z]
theorem dries_run {A B : Mm} {c : Nat} {H : Nat} (hc : c < 64) (hb : B 86 c ≠ 0) (hd0 : A 29 8 = B 83 0) (hd1 : 0 ≤ (A 29 8).toInt) (hd2 : (A 29 8).toInt < 2000000000) (hW : SimW 29 A B) : ∀ (k v n m : Nat) (wt fl : Int32), v + k = 61 → k < n → k < m → (fl = 0 ∨ fl = 1) → ∃ x, f_X9_dries_L57 0 A n wt fl (nI v) = some (0, x, A) ∧ f_X11_dries_L51 69 (nI c) B m wt fl (nI v) = some (x, B) := by
  intro k
  induction k with
  | zero =>
    intro v n m wt fl hv hn hm hf
    obtain ⟨n', rfl⟩ : ∃ z, n = z + 1 := ⟨n - 1, by omega⟩
    obtain ⟨m', rfl⟩ : ∃ z, m = z + 1 := ⟨m - 1, by omega⟩
    have : v = 61 := by omega
    subst this
    exact ⟨-1, by rw [f_X9_dries_L57, if_pos (by decide)], by rw [f_X11_dries_L51, if_pos (by decide)]⟩
  | succ k ih =>
    intro v n m wt fl hv hn hm hf
    obtain ⟨n', rfl⟩ : ∃ z, n = z + 1 := ⟨n - 1, by omega⟩
    obtain ⟨m', rfl⟩ : ∃ z, m = z + 1 := ⟨m - 1, by omega⟩
    have ed : (A 29 8 + nI v).toInt = (A 29 8).toInt + (v : Int) := by
      have := i_nI (n := v) (by omega)
      rw [i_add (by omega) (by omega), this]
    have hd : 0 ≤ (A 29 8 + nI v).toInt := by omega
    have hx := ix_lt (day_in hd)
    obtain ⟨w1, w2⟩ := hW _ hx
    have w1' : A 36 (ix ((A 29 8 + nI v) - (A 29 8 + nI v) / 12 * 12)) = B 72 (ix ((A 29 8 + nI v) - (A 29 8 + nI v) / 12 * 12)) := w1
    have w2' : A 37 (ix ((A 29 8 + nI v) - (A 29 8 + nI v) / 12 * 12)) = B 73 (ix ((A 29 8 + nI v) - (A 29 8 + nI v) / 12 * 12)) := w2
    rw [dri_A (f := fun x => x) v n' (by omega) hd, f_X11_dries_L51, if_neg (show ¬ (60 : Int32) < nI v from fun e => by have := (n_lt (a := 60) (by omega) (by omega)).mp e; omega), if_pos (inN hc), ixn (by omega), show (69 + 14 + 3 : Nat) = 86 from rfl, if_neg hb]
    by_cases z : (5 : Int32) < wt
    · rw [if_pos z, if_pos z]
      have hBN : f_X11_behindNight 69 wt fl (B (69 + 14) 0 + nI v) B = some (f_X9_wetnessBehindNight wt fl (A 36 (ix ((A 29 8 + nI v) - (A 29 8 + nI v) / 12 * 12))) (A 37 (ix ((A 29 8 + nI v) - (A 29 8 + nI v) / 12 * 12)))) := by
        rw [show B (69 + 14) 0 = A 29 8 from hd0.symm, f_X11_behindNight, if_pos (day_in hd), lz_e, if_pos (day_in hd), lz_e, lz_e, show (69 + 3 : Nat) = 72 from rfl, show (69 + 4 : Nat) = 73 from rfl, ← w1', ← w2', behind_same hf]
        have : (if fl = 0 then (0 : Int32) else 1) = fl := by
          rcases hf with rfl | rfl
          · rw [if_pos rfl]
          · rw [if_neg (show ¬ (1 : Int32) = 0 by decide)]
        rw [this]
      rw [hBN, bd1_e, n_suc, lz_e]
      exact ih (v + 1) n' m' _ 0 (by omega) (by omega) (by omega) (Or.inl rfl)
    · rw [if_neg z, if_neg z]
      exact ⟨nI v, rfl, rfl⟩
theorem dries_ok (H : Nat) (hH : H < 2000000000) (a b : Int32) : OpR H H (fun M => f_L_dries 0 a b 28 M) (fun M => f_X11_dries 69 a b M) := by
  intro A B h
  rcases ic_cases a b with hc | ⟨hc, x, y, hx, hy, rfl, rfl⟩
  · refine op_no (c := 1) h ?_ ?_ (by decide)
    · rw [f_L_dries, f_X9_dries, ic_ic, lz_e, hc, if_pos rfl, bd3_e, if_neg (by decide), if_pos rfl]
    · rw [f_X11_dries, lz_e, lz_e, hc, if_pos rfl, f_X11_no, lz_e, bd2_e]
  · have hb := h.b0 0
    obtain ⟨ng, p, len, oA, rA, cB, S, ⟨⟨s1, s2, s3, s4, s5⟩, -⟩, -, -, hd, -⟩ := hb
    have hk : 8 * y + x < 64 := by omega
    obtain ⟨x1, x2, x3, x4, x5⟩ := s1 _ hk
    obtain ⟨-, i2, i3⟩ := s4 _ hk
    have y3 : A 33 (8 * y + x) = wr B 69 0 0 86 (8 * y + x) := x3
    have y4 : A 34 (8 * y + x) = wr B 69 0 0 87 (8 * y + x) := x4
    have y5 : A 35 (8 * y + x) = wr B 69 0 0 88 (8 * y + x) := x5
    have j2 : A 35 (8 * y + x) = 0 ∨ A 35 (8 * y + x) = 1 := i2
    have j3 : A 33 (8 * y + x) = 0 → A 34 (8 * y + x) = 0 := i3
    have efl : (if A 35 (8 * y + x) = 0 then (0 : Int32) else 1) = A 35 (8 * y + x) := by
      rcases j2 with e | e
      · rw [e, if_pos rfl]
      · rw [e, if_neg (by decide)]
    have main : ∃ z, f_X9_dries_L57 0 A FU (A 34 (8 * y + x)) (A 35 (8 * y + x)) 0 = some (0, z, A) ∧ f_X11_dries_L51 69 (nI (8 * y + x)) (wr B 69 0 0) FU (A 34 (8 * y + x)) (A 35 (8 * y + x)) 0 = some (z, wr B 69 0 0) := by
      by_cases z : wr B 69 0 0 86 (8 * y + x) = 0
      · have e4 : A 34 (8 * y + x) = 0 := j3 (y3.trans z)
        obtain ⟨m, hm⟩ := FU_gt (n := 1) (by decide)
        rw [e4, hm, show 1 + 1 + m = (m + 1) + 1 by omega]
        refine ⟨0, ?_, ?_⟩
        · rw [f_X9_dries_L57, if_neg (by decide), if_neg (by decide)]
        · rw [f_X11_dries_L51, if_neg (by decide), if_pos (inN hk), ixn (by omega), show (69 + 14 + 3 : Nat) = 86 from rfl, if_pos z]
      · exact dries_run (H := H) hk z s2.1 s5 (by omega) s3 61 0 FU FU _ _ (by omega) (by unfold FU; omega) (by unfold FU; omega) j2
    obtain ⟨z, m1, m2⟩ := main
    refine op_ok (A1 := A) (B1 := wr B 69 0 0) (v := z) (h.b0 0) ?_ ?_ (wr_at _ _ _ _) (CF.refl A) (RF.wr B (by decide))
    · show f_L_dries 0 (nI x) (nI y) 28 A = _
      rw [f_L_dries, f_X9_dries, ic_ic, lz_e, hc, if_neg (by decide), lz_e, cl_A hx hy, if_pos (inN hk), lz_e, if_pos (inN hk), ixn (by omega), show (0 + 29 + 6 : Nat) = 35 from rfl, show (0 + 29 + 5 : Nat) = 34 from rfl, efl, lz_e, m1, bd3_e, if_pos rfl, lz_e]
    · show f_X11_dries 69 (nI x) (nI y) B = _
      rw [f_X11_dries, lz_e, lz_e, hc, if_neg (by decide), lz_e, cl_B hx hy, if_pos (inN hk), lz_e, if_pos (inN hk), lz_e, ixn (by omega), show (69 + 14 + 4 : Nat) = 87 from rfl, show (69 + 14 + 5 : Nat) = 88 from rfl, ← y4, ← y5, m2]
