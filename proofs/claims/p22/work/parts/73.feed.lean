/-! needs 30 31 32 33 34 35 36 37 38 39 40 41 42 43 44 45 46 47 50 70 72 73 74 -/
/-! feed and trim in both -/
def bytA (a v : Int32) : Int32 := ((a >>> (v &&& 31)).toInt8.toInt32).toInt8.toInt32
theorem u_nat (a : Int32) : a.toInt = if a.toUInt32.toNat < 2147483648 then (a.toUInt32.toNat : Int) else (a.toUInt32.toNat : Int) - 4294967296 := by
  rw [← Int32.toInt_toBitVec, BitVec.toInt_eq_toNat_cond, Int32.toNat_toBitVec]
  split <;> split <;> first | omega | rfl
theorem u_i32 (u : UInt32) (h : u.toNat < 2147483648) : u.toInt32.toInt = (u.toNat : Int) := by
  have := u_nat u.toInt32
  rw [UInt32.toUInt32_toInt32, if_pos h] at this
  exact this
theorem sh_i (a v : Int32) (k : Nat) (hk : k < 32) (h : ((v &&& 31).toBitVec.smod 32).toNat = k) : (a >>> (v &&& 31)).toInt = a.toInt / ((2 ^ k : Nat) : Int) := by
  rw [← Int32.toInt_toBitVec, Int32.toBitVec_shiftRight, BitVec.sshiftRight', h, BitVec.toInt_sshiftRight, Int32.toInt_toBitVec, Int.shiftRight_eq_div_pow]
theorem us_n (a v : Int32) (k : Nat) (h : (v.toUInt32 &&& Int32.toUInt32 31).toNat % 32 = k) : ((iushr a v) &&& (255 : Int32)).toInt = ((a.toUInt32.toNat / 2 ^ k % 256 : Nat) : Int) := by
  have e : (iushr a v) &&& (255 : Int32) = ((a.toUInt32 >>> (v.toUInt32 &&& Int32.toUInt32 31)) &&& (255 : UInt32)).toInt32 := by
    rw [UInt32.toInt32_and]; rfl
  have e2 : ((a.toUInt32 >>> (v.toUInt32 &&& Int32.toUInt32 31)) &&& (255 : UInt32)).toNat = a.toUInt32.toNat / 2 ^ k % 256 := by
    rw [UInt32.toNat_and, UInt32.toNat_shiftRight, h, Nat.shiftRight_eq_div_pow]
    exact Nat.and_two_pow_sub_one_eq_mod _ 8
  rw [e, u_i32 _ (by rw [e2]; omega), e2]
theorem byt_ok (a : Int32) (t : Nat) (ht : t < 4) : Byt (bytA a (nI (24 - 8 * t))) ((iushr a (nI (24 - 8 * t))) &&& (255 : Int32)) := by
  have key : ∀ v k, k < 32 → ((v &&& 31 : Int32).toBitVec.smod 32).toNat = k → (v.toUInt32 &&& Int32.toUInt32 31).toNat % 32 = k → (k = 0 ∨ k = 8 ∨ k = 16 ∨ k = 24) → Byt (bytA a v) ((iushr a v) &&& (255 : Int32)) := by
    intro v k h1 h2 h3 h4
    have e1 : (bytA a v).toInt = ((a.toInt / ((2 ^ k : Nat) : Int)).bmod (2 ^ 8)).bmod (2 ^ 8) := by
      unfold bytA
      rw [Int8.toInt_toInt32, Int32.toInt_toInt8, Int8.toInt_toInt32, Int32.toInt_toInt8, sh_i a v k h1 h2]
    have e2 := us_n a v k h3
    have e3 := u_nat a
    have e4 : a.toUInt32.toNat < 4294967296 := a.toUInt32.toNat_lt
    generalize a.toUInt32.toNat = N at e2 e3 e4
    have e5 : (bytA a v).toInt = if N / 2 ^ k % 256 < 128 then ((N / 2 ^ k % 256 : Nat) : Int) else ((N / 2 ^ k % 256 : Nat) : Int) - 256 := by
      rw [e1, Int.bmod_bmod]
      have hz : a.toInt = (N : Int) ∨ a.toInt = (N : Int) - 4294967296 := by
        by_cases hN : N < 2147483648
        · rw [if_pos hN] at e3; exact Or.inl e3
        · rw [if_neg hN] at e3; exact Or.inr e3
      generalize a.toInt = z at hz
      have hm : ∀ q : Int, q % 256 = ((N / 2 ^ k % 256 : Nat) : Int) → q.bmod (2 ^ 8) = if N / 2 ^ k % 256 < 128 then ((N / 2 ^ k % 256 : Nat) : Int) else ((N / 2 ^ k % 256 : Nat) : Int) - 256 := by
        intro q hq
        show (if q % 256 < 128 then q % 256 else q % 256 - 256) = _
        rw [hq]
        by_cases y : N / 2 ^ k % 256 < 128
        · rw [if_pos y, if_pos (by omega)]
        · rw [if_neg y, if_neg (by omega)]
      apply hm
      rcases h4 with rfl | rfl | rfl | rfl
      · show z / 1 % 256 = ((N / 1 % 256 : Nat) : Int)
        rcases hz with rfl | rfl <;> omega
      · show z / 256 % 256 = ((N / 256 % 256 : Nat) : Int)
        rcases hz with rfl | rfl <;> omega
      · show z / 65536 % 256 = ((N / 65536 % 256 : Nat) : Int)
        rcases hz with rfl | rfl <;> omega
      · show z / 16777216 % 256 = ((N / 16777216 % 256 : Nat) : Int)
        rcases hz with rfl | rfl <;> omega
    have hb : N / 2 ^ k % 256 < 256 := Nat.mod_lt _ (by decide)
    generalize N / 2 ^ k % 256 = c at e2 e5 hb
    refine ⟨by rw [e2]; omega, ?_⟩
    by_cases h : c < 128
    · rw [if_pos h] at e5
      exact Or.inl ⟨by rw [e2]; omega, Int32.toInt_inj.mp (e5.trans e2.symm)⟩
    · rw [if_neg h] at e5
      exact Or.inr ⟨by rw [e2]; omega, by rw [e5, e2]⟩
  have : t = 0 ∨ t = 1 ∨ t = 2 ∨ t = 3 := by omega
  rcases this with rfl | rfl | rfl | rfl
  · exact key _ 24 (by decide) (by decide) (by decide) (by omega)
  · exact key _ 16 (by decide) (by decide) (by decide) (by omega)
  · exact key _ 8 (by decide) (by decide) (by decide) (by omega)
  · exact key _ 0 (by decide) (by decide) (by decide) (by omega)
/-! the class's append -/
def apS (a v : Int32) (m : Nat) (A : Mm) : Mm := wr (wr A 1 m (bytA a v)) 0 1 (nI (m + 1))
theorem ap1 {a v : Int32} {m n : Nat} {A : Mm} (hv : ¬ v < 0) (h : A 0 1 = nI m) (hm : m < 2000) : f_X9_append_L3 0 a (n + 1) v A = f_X9_append_L3 0 a n (v + (-8 : Int32)) (apS a v m A) := by
  rw [f_X9_append_L3, if_neg hv, h, if_neg (show ¬ (2000 : Int32) ≤ nI m from fun e => by have := (n_le (a := 2000) (by omega) (by omega)).mp e; omega), if_pos (inN hm), ixn (by omega)]
  simp only [lz_e]
  show f_X9_append_L3 0 a n (v + (-8 : Int32)) (wr (wr A 1 m (bytA a v)) 0 1 (wr A 1 m (bytA a v) 0 1 + 1)) = _
  rw [wr_r (show (0 : Nat) ≠ 1 by decide), h, n_suc]
  rfl
def ap4 (a : Int32) (m : Nat) (A : Mm) : Mm := apS a 0 (m + 3) (apS a 8 (m + 2) (apS a 16 (m + 1) (apS a 24 m A)))
theorem apS_01 (a v : Int32) (m : Nat) (A : Mm) : apS a v m A 0 1 = nI (m + 1) := wr_at _ _ _ _
theorem apS_o {a v : Int32} {m r c : Nat} {A : Mm} (h : ¬ (r = 1 ∧ c = m)) (h2 : ¬ (r = 0 ∧ c = 1)) : apS a v m A r c = A r c := by
  unfold apS; rw [wr_o (by omega), wr_o (by omega)]
theorem apS_at (a v : Int32) (m : Nat) (A : Mm) : apS a v m A 1 m = bytA a v := by
  unfold apS; rw [wr_r (by decide), wr_at]
theorem append_run {a : Int32} {m : Nat} {A : Mm} (h : A 0 1 = nI m) (hm : m + 4 ≤ 2000) : f_X9_append 0 a A = some (ap4 a m A) := by
  obtain ⟨k, hk⟩ := FU_gt (n := 4) (by decide)
  rw [f_X9_append, hk, show 4 + 1 + k = k + 5 by omega, ap1 (by decide) h (by omega), show ((24 : Int32) + -8) = 16 by decide, ap1 (by decide) (apS_01 _ _ _ _) (by omega), show ((16 : Int32) + -8) = 8 by decide, ap1 (by decide) (apS_01 _ _ _ _) (by omega), show ((8 : Int32) + -8) = 0 by decide, ap1 (by decide) (apS_01 _ _ _ _) (by omega), show ((0 : Int32) + -8) = -8 by decide, f_X9_append_L3, if_pos (by decide), bd1_e]
  rfl
theorem ap4_01 (a : Int32) (m : Nat) (A : Mm) : ap4 a m A 0 1 = nI (m + 4) := apS_01 _ _ _ _
theorem ap4_o {a : Int32} {m r c : Nat} {A : Mm} (h : ¬ (r = 1 ∧ m ≤ c ∧ c < m + 4)) (h2 : ¬ (r = 0 ∧ c = 1)) : ap4 a m A r c = A r c := by
  unfold ap4
  rw [apS_o (by omega) h2, apS_o (by omega) h2, apS_o (by omega) h2, apS_o (by omega) h2]
theorem ap4_at (a : Int32) (m : Nat) (A : Mm) (t : Nat) (ht : t < 4) : ap4 a m A 1 (m + t) = bytA a (nI (24 - 8 * t)) := by
  have : t = 0 ∨ t = 1 ∨ t = 2 ∨ t = 3 := by omega
  unfold ap4
  rcases this with rfl | rfl | rfl | rfl
  · rw [apS_o (by omega) (by omega), apS_o (by omega) (by omega), apS_o (by omega) (by omega)]; exact apS_at _ _ _ _
  · rw [apS_o (by omega) (by omega), apS_o (by omega) (by omega)]; exact apS_at _ _ _ _
  · rw [apS_o (by omega) (by omega)]; exact apS_at _ _ _ _
  · exact apS_at _ _ _ _
def ar5 (a b c d e : Int32) (i : Nat) : Int32 := if i = 0 then a else if i = 1 then b else if i = 2 then c else if i = 3 then d else e
theorem feedA {a b c d e : Int32} {m : Nat} {A : Mm} (h : A 0 1 = nI m) (hm : m + 20 ≤ 2000) : ∃ A', f_X9_feed 0 a b c d e A = some (0, nI (m + 20), A') ∧ A' 0 1 = nI (m + 20) ∧ (∀ r j, ¬ (r = 1 ∧ m ≤ j) → ¬ (r = 0 ∧ j = 1) → A' r j = A r j) ∧ ∀ i t, i < 5 → t < 4 → A' 1 (m + (4 * i + t)) = bytA (ar5 a b c d e i) (nI (24 - 8 * t)) := by
  refine ⟨ap4 e (m + 16) (ap4 d (m + 12) (ap4 c (m + 8) (ap4 b (m + 4) (ap4 a m A)))), ?_, ap4_01 _ _ _, fun r j h1 h2 => ?_, fun i t hi ht => ?_⟩
  · rw [f_X9_feed, h, show nI m + (20 : Int32) = nI (m + 20) from n_add _ 20, if_pos (show nI (m + 20) ≤ (2000 : Int32) from (n_le (b := 2000) (by omega) (by omega)).mpr hm), append_run h (by omega), bd1_e, append_run (ap4_01 _ _ _) (by omega), bd1_e, append_run (m := m + 8) (ap4_01 _ _ _) (by omega), bd1_e, append_run (m := m + 12) (ap4_01 _ _ _) (by omega), bd1_e, append_run (m := m + 16) (ap4_01 _ _ _) (by omega), bd1_e, ap4_01]
  · rw [ap4_o (by omega) h2, ap4_o (by omega) h2, ap4_o (by omega) h2, ap4_o (by omega) h2, ap4_o (by omega) h2]
  · have : i = 0 ∨ i = 1 ∨ i = 2 ∨ i = 3 ∨ i = 4 := by omega
    rcases this with rfl | rfl | rfl | rfl | rfl
    · rw [ap4_o (by omega) (by omega), ap4_o (by omega) (by omega), ap4_o (by omega) (by omega), ap4_o (by omega) (by omega), show m + (4 * 0 + t) = m + t by omega]; exact ap4_at _ _ _ t ht
    · rw [ap4_o (by omega) (by omega), ap4_o (by omega) (by omega), ap4_o (by omega) (by omega), show m + (4 * 1 + t) = m + 4 + t by omega]; exact ap4_at _ _ _ t ht
    · rw [ap4_o (by omega) (by omega), ap4_o (by omega) (by omega), show m + (4 * 2 + t) = m + 8 + t by omega]; exact ap4_at _ _ _ t ht
    · rw [ap4_o (by omega) (by omega), show m + (4 * 3 + t) = m + 12 + t by omega]; exact ap4_at _ _ _ t ht
    · rw [show m + (4 * 4 + t) = m + 16 + t by omega]; exact ap4_at _ _ _ t ht
/-! the reference's feed -/
theorem n_div {a b : Nat} (ha : a < 2147483648) (hb : 0 < b) (hb2 : b < 2147483648) : nI a / nI b = nI (a / b) := by
  have h1 : a / b ≤ a := Nat.div_le_self a b
  apply Int32.toInt_inj.mp
  rw [i_div (by rw [i_nI ha]; omega) (by rw [i_nI hb2]; omega), i_nI ha, i_nI hb2, i_nI (by omega)]
  exact (Int.natCast_ediv a b).symm
theorem n_rem {a b : Nat} (ha : a < 2147483648) (hb : 0 < b) (hb2 : b < 2147483648) : nI a - nI a / nI b * nI b = nI (a % b) := by
  have h1 : a % b ≤ a := Nat.mod_le a b
  apply Int32.toInt_inj.mp
  rw [i_rem (by rw [i_nI ha]; omega) (by rw [i_nI hb2]; omega), i_nI ha, i_nI hb2, i_nI (by omega)]
  exact (Int.natCast_emod a b).symm
theorem feedB_run {L : Nat} (hL : L + 20 ≤ 2000) : ∀ (k j n : Nat) (M : Mm), j + k = 20 → k < n → M 69 2 = nI L → ∃ M', f_X11_feed_L54 69 n (nI j) M = some M' ∧ (∀ r, r ≠ 70 → M' r = M r) ∧ (∀ c, c < L + j → M' 70 c = M 70 c) ∧ ∀ i, j ≤ i → i < 20 → M' 70 (L + i) = (iushr (M 100 (i / 4)) (nI (24 - 8 * (i % 4)))) &&& (255 : Int32) := by
  intro k
  induction k with
  | zero =>
    intro j n M hj hn h2
    obtain ⟨n', rfl⟩ : ∃ z, n = z + 1 := ⟨n - 1, by omega⟩
    have : j = 20 := by omega
    subst this
    exact ⟨M, by rw [f_X11_feed_L54, if_pos (by decide)], fun _ _ => rfl, fun _ _ => rfl, fun i h1 h2 => by omega⟩
  | succ k ih =>
    intro j n M hj hn h2
    obtain ⟨n', rfl⟩ : ∃ z, n = z + 1 := ⟨n - 1, by omega⟩
    have hj20 : j < 20 := by omega
    have ed : nI j / (4 : Int32) = nI (j / 4) := n_div (b := 4) (by omega) (by omega) (by omega)
    have er : nI j - nI j / (4 : Int32) * (4 : Int32) = nI (j % 4) := n_rem (b := 4) (by omega) (by omega) (by omega)
    have e24 : (24 : Int32) - ((8 : Int32) * nI (j % 4)) = nI (24 - 8 * (j % 4)) := by
      have : j % 4 < 4 := Nat.mod_lt _ (by decide)
      rw [show (8 : Int32) * nI (j % 4) = nI (8 * (j % 4)) from n_mul (a := 8) (by omega) (by omega) (by omega)]
      exact n_sub (a := 24) (by omega) (by omega)
    have hd : j / 4 < 5 := by omega
    obtain ⟨M', c1, c2, c3, c4⟩ := ih (j + 1) n' (wr M 70 (L + j) ((iushr (M 100 (j / 4)) (nI (24 - 8 * (j % 4)))) &&& (255 : Int32))) (by omega) (by omega) (by rw [wr_r (by decide)]; exact h2)
    refine ⟨M', ?_, fun r hr => by rw [c2 r hr, wr_ne hr], fun c hc => by rw [c3 c (by omega), wr_col (by omega)], fun i h1 h3 => ?_⟩
    · rw [f_X11_feed_L54, if_neg (show ¬ (20 : Int32) ≤ nI j from fun e => by have := (n_le (a := 20) (by omega) (by omega)).mp e; omega), er, ed, if_pos (inN hd), ixn (show j / 4 < 2147483648 by omega), e24, h2, n_add, n_suc, lz_e, lz_e, if_pos (inN (show L + j < 2000 by omega)), ixn (show L + j < 2147483648 by omega), lz_e, lz_e]
      exact c1
    · by_cases z : i = j
      · subst z
        rw [c3 _ (by omega), wr_at]
      · rw [c4 i (by omega) h3, wr_ne (by decide)]
theorem feedB {a b c d e : Int32} {L : Nat} {B : Mm} (h : B 69 2 = nI L) (hL : L + 20 ≤ 2000) : ∃ B', f_X11_feed 69 a b c d e B = some (nI (L + 20), B') ∧ B' 69 0 = 0 ∧ B' 69 2 = nI (L + 20) ∧ (∀ r j, r ≠ 100 → ¬ (r = 70 ∧ L ≤ j) → ¬ (r = 69 ∧ (j = 0 ∨ j = 2)) → B' r j = B r j) ∧ ∀ i, i < 20 → B' 70 (L + i) = (iushr (ar5 a b c d e (i / 4)) (nI (24 - 8 * (i % 4)))) &&& (255 : Int32) := by
  obtain ⟨M19, k19⟩ : ∃ M, M = wr (wr (wr (wr (wr (wrow (wr B 69 0 0) 100 (fun _ => 0)) 100 0 a) 100 1 b) 100 2 c) 100 3 d) 100 4 e := ⟨_, rfl⟩
  have h19 : ∀ r, r ≠ 100 → M19 r = wr B 69 0 0 r := by
    intro r hr
    rw [k19, wr_ne hr, wr_ne hr, wr_ne hr, wr_ne hr, wr_ne hr, wrow_ne hr]
  have h100 : ∀ i, i < 5 → M19 100 i = ar5 a b c d e i := by
    intro i hi
    rw [k19]
    have : i = 0 ∨ i = 1 ∨ i = 2 ∨ i = 3 ∨ i = 4 := by omega
    rcases this with rfl | rfl | rfl | rfl | rfl
    · rw [wr_col (by decide), wr_col (by decide), wr_col (by decide), wr_col (by decide), wr_at]; rfl
    · rw [wr_col (by decide), wr_col (by decide), wr_col (by decide), wr_at]; rfl
    · rw [wr_col (by decide), wr_col (by decide), wr_at]; rfl
    · rw [wr_col (by decide), wr_at]; rfl
    · rw [wr_at]; rfl
  have h2 : M19 69 2 = nI L := by rw [h19 69 (by decide), wr_col (by decide)]; exact h
  obtain ⟨M', c1, c2, c3, c4⟩ := feedB_run hL 20 0 FU M19 (by omega) (by unfold FU; omega) h2
  have c1' : f_X11_feed_L54 69 FU 0 M19 = some M' := c1
  refine ⟨wr M' 69 2 (nI (L + 20)), ?_, ?_, wr_at _ _ _ _, fun r j x1 x2 x3 => ?_, fun i hi => ?_⟩
  · rw [f_X11_feed, lz_e, show wr B 69 0 0 69 2 = nI L from (wr_col (by decide)).trans h, show nI L + (20 : Int32) = nI (L + 20) from n_add _ 20, if_pos (show nI (L + 20) ≤ (2000 : Int32) from (n_le (b := 2000) (by omega) (by omega)).mpr hL), lz_e, if_pos (by decide), lz_e, if_pos (by decide), lz_e, if_pos (by decide), lz_e, if_pos (by decide), lz_e, if_pos (by decide), lz_e]
    rw [show ix (0 : Int32) = 0 from rfl, show ix (1 : Int32) = 1 from rfl, show ix (2 : Int32) = 2 from rfl, show ix (3 : Int32) = 3 from rfl, show ix (4 : Int32) = 4 from rfl, ← k19, c1', bd1_e, lz_e, c2 69 (by decide), h2, show nI L + (20 : Int32) = nI (L + 20) from n_add _ 20, wr_at]
  · rw [wr_col (by decide), c2 69 (by decide), h19 69 (by decide), wr_at]
  · rw [wr_o (by omega)]
    by_cases z : r = 70
    · subst z
      rw [c3 j (by omega), h19 70 (by decide), wr_r (by decide)]
    · rw [c2 r z, h19 r x1, wr_o (by omega)]
  · rw [wr_r (by decide), c4 i (by omega) hi, h100 _ (by omega)]
/-- a changed tape -/
theorem Rel.tape {H : Nat} {A B A' B' : Mm} (h : Rel H A B) (hA : ∀ r c, r ≠ 1 → r ≠ 28 → ¬ (r = 0 ∧ c = 1) → A' r c = A r c) (hB : ∀ r c, r ≠ 70 → r ≠ 100 → ¬ (r = 69 ∧ (c = 0 ∨ c = 2)) → B' r c = B r c) (hT : TapR A' B') : Rel H A' B' := by
  obtain ⟨ng, p, len, oA, rA, cB, S, r1, r2, ⟨q, q1, q2, q3⟩, r4, r5, ⟨D, d1, d2, d3, d4⟩, r6, r7⟩ := h
  have hp := r1.2.1.1
  refine ⟨ng, p, len, oA, rA, cB, S, r1.congr (by omega) (by omega) (fun a b e x => (r2 a b e x).2.1) (fun r hr => funext fun c => hA r c (by omega) (by omega) (by omega)) (fun r hr => funext fun c => hB r c (by omega) (by omega) (by omega)) (hB 69 9 (by omega) (by omega) (by omega)), r2, ⟨q, (hA 0 6 (by omega) (by omega) (by omega)).trans q1, q2, q3⟩, ?_, hT, ⟨D, d1, ?_, ?_, fun k hk => ?_⟩, fun k hk => ?_, ?_⟩
  · rw [hA 29 8 (by omega) (by omega) (by omega)]; exact r4
  · rw [hA 0 3 (by omega) (by omega) (by omega)]; exact d2
  · rw [hB 69 5 (by omega) (by omega) (by omega)]; exact d3
  · rw [hA 2 k (by omega) (by omega) (by omega), hB 71 k (by omega) (by omega) (by omega)]; exact d4 k hk
  · rw [hA 36 k (by omega) (by omega) (by omega), hA 37 k (by omega) (by omega) (by omega)]; exact r6 k hk
  · rw [hA 0 4 (by omega) (by omega) (by omega), hB 69 3 (by omega) (by omega) (by omega)]; exact r7
theorem feed_ok (H : Nat) (a b c d e : Int32) : OpR H H (fun M => f_L_feed 0 a b c d e 28 M) (fun M => f_X11_feed 69 a b c d e M) := by
  intro A B h
  have hh := h
  obtain ⟨ng, p, len, oA, rA, cB, S, r1, r2, r3, r4, ⟨L, t1, t2, t3, t4⟩, r6⟩ := hh
  by_cases z : L + 20 ≤ 2000
  · obtain ⟨A', x1, x2, x3, x4⟩ := feedA (a := a) (b := b) (c := c) (d := d) (e := e) t2 z
    obtain ⟨B', y1, y2, y3, y4, y5⟩ := feedB (a := a) (b := b) (c := c) (d := d) (e := e) t3 z
    refine op_ok (A1 := A') (B1 := B') (v := nI (L + 20)) (h.tape (fun r c h1 h2 h3 => x3 r c (by omega) h3) (fun r c h1 h2 h3 => y4 r c h2 (by omega) h3) ⟨L + 20, z, x2, y3, fun k hk => ?_⟩) ?_ y1 y2 (fun r hr => funext fun c => x3 r c (by omega) (by omega)) (fun r hr => funext fun c => y4 r c (by omega) (by omega) (by omega))
    · by_cases hkL : k < L
      · rw [x3 1 k (by omega) (by omega), y4 70 k (by omega) (by omega) (by omega)]; exact t4 k hkL
      · have hi : k - L < 20 := by omega
        have e1 := x4 ((k - L) / 4) ((k - L) % 4) (by omega) (Nat.mod_lt _ (by decide))
        rw [show 4 * ((k - L) / 4) + (k - L) % 4 = k - L from Nat.div_add_mod _ 4, show L + (k - L) = k by omega] at e1
        have e2 := y5 (k - L) hi
        rw [show L + (k - L) = k by omega] at e2
        rw [e1, e2]
        exact byt_ok _ _ (Nat.mod_lt _ (by decide))
    · show f_L_feed 0 a b c d e 28 A = _
      rw [f_L_feed, x1, bd3_e, if_pos rfl, lz_e]
  · have e20 : ¬ nI L + (20 : Int32) ≤ (2000 : Int32) := by
      rw [show nI L + (20 : Int32) = nI (L + 20) from n_add _ 20]
      exact fun e => z ((n_le (b := 2000) (by omega) (by omega)).mp e)
    refine op_no (c := 1) h ?_ ?_ (by decide)
    · rw [f_L_feed, f_X9_feed, t2, if_neg e20, bd3_e, if_neg (by decide), if_pos rfl]
    · rw [f_X11_feed, lz_e, show wr B 69 0 0 69 2 = nI L from (wr_col (by decide)).trans t3, if_neg e20, f_X11_no, lz_e, bd2_e]
theorem trim_ok (H : Nat) (a : Int32) : OpR H H (fun M => f_L_trim 0 a 28 M) (fun M => f_X11_trim 69 a M) := by
  intro A B h
  have hh := h
  obtain ⟨ng, p, len, oA, rA, cB, S, r1, r2, r3, r4, ⟨L, t1, t2, t3, t4⟩, r6⟩ := hh
  have e2 : wr B 69 0 0 69 2 = nI L := (wr_col (by decide)).trans t3
  by_cases h0 : a < 0
  · refine op_no (c := 1) h ?_ ?_ (by decide)
    · rw [f_L_trim, f_X9_trim, if_pos h0, bd3_e, if_neg (by decide), if_pos rfl]
    · rw [f_X11_trim, lz_e, lz_e, in_l h0, if_pos rfl, f_X11_no, lz_e, bd2_e]
  · by_cases h1 : a ≤ nI L
    · have h1' : a < nI (L + 1) := by
        rw [i_lt, i_nI (by omega)]
        rw [i_le, i_nI (by omega)] at h1
        omega
      obtain ⟨i, hi, rfl⟩ := nat_of h0 h1' (by omega)
      refine op_ok (A1 := wr A 0 1 (nI i)) (B1 := wr (wr B 69 0 0) 69 2 (nI i)) (v := nI i) (h.tape (fun r c h1 h2 h3 => wr_o (by omega)) (fun r c h1 h2 h3 => by rw [wr_o (by omega), wr_o (by omega)]) ⟨i, by omega, wr_at _ _ _ _, wr_at _ _ _ _, fun k hk => ?_⟩) ?_ ?_ (by rw [wr_col (by decide), wr_at]) (CF.wr A (by decide)) ((RF.wr B (by decide)).trans (RF.wr _ (by decide)))
      · rw [wr_r (by decide), wr_r (by decide), wr_r (by decide)]; exact t4 k (by omega)
      · show f_L_trim 0 (nI i) 28 A = _
        rw [f_L_trim, f_X9_trim, if_neg h0, t2, if_pos h1, lz_e, bd3_e, if_pos rfl, lz_e]
      · show f_X11_trim 69 (nI i) B = _
        rw [f_X11_trim, lz_e, e2, lz_e, in_1 h0 (fun e => by rw [n_lt (by omega) (by omega)] at e; omega), if_neg (by decide), lz_e]
    · have h1' : nI L < a := by rw [i_lt]; rw [i_le] at h1; omega
      refine op_no (c := 1) h ?_ ?_ (by decide)
      · rw [f_L_trim, f_X9_trim, if_neg h0, t2, if_neg h1, bd3_e, if_neg (by decide), if_pos rfl]
      · rw [f_X11_trim, lz_e, e2, lz_e, in_r h0 h1', if_pos rfl, f_X11_no, lz_e, bd2_e]
