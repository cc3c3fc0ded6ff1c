/-! needs 30 31 32 33 34 35 36 37 38 39 40 41 42 43 44 45 46 47 50 70 72 73 74 -/
/-! pass, foresee, done and advise in both -/
def KpA (A A' : Mm) : Prop := ∀ r, r < 47 ∨ 69 ≤ r → A' r = A r
def KpB (B B' : Mm) : Prop := (∀ r, r ≠ 69 → r ≠ 81 → r ≠ 82 → (r < 91 ∨ 98 < r) → B' r = B r) ∧ ∀ j, j ≠ 28 → B' 69 j = B 69 j
theorem KpA.refl (A : Mm) : KpA A A := fun _ _ => rfl
theorem KpB.refl (B : Mm) : KpB B B := ⟨fun _ _ _ _ _ => rfl, fun _ _ => rfl⟩
theorem KpA.trans {A B C : Mm} (h : KpA A B) (k : KpA B C) : KpA A C := fun r hr => (k r hr).trans (h r hr)
theorem KpB.trans {A B C : Mm} (h : KpB A B) (k : KpB B C) : KpB A C := ⟨fun r h1 h2 h3 h4 => (k.1 r h1 h2 h3 h4).trans (h.1 r h1 h2 h3 h4), fun j hj => (k.2 j hj).trans (h.2 j hj)⟩
theorem KpA.cf {A A' : Mm} (h : KpA A A') : CF A A' := fun r hr => h r (Or.inr hr)
theorem KpB.rf {B B' : Mm} (h : KpB B B') : RF B B' := fun r hr => h.1 r (by omega) (by omega) (by omega) (by omega)
theorem Rel.keep {H : Nat} {A A' B B' : Mm} (h : Rel H A B) (hA : KpA A A') (hB : KpB B B') : Rel H A' B' := by
  obtain ⟨ng, p, len, oA, rA, cB, S, r1, r2, ⟨q, q1, q2, q3⟩, r4, ⟨L, t1, t2, t3, t4⟩, ⟨D, d1, d2, d3, d4⟩, r6, r7⟩ := h
  have hp := r1.2.1.1
  have e : ∀ r, r < 47 → A' r = A r := fun r hr => hA r (Or.inl hr)
  have e' : ∀ r, r ≠ 69 → r ≠ 81 → r ≠ 82 → r < 91 → B' r = B r := fun r h1 h2 h3 h4 => hB.1 r h1 h2 h3 (Or.inl h4)
  refine ⟨ng, p, len, oA, rA, cB, S, r1.congr (by omega) (by omega) (fun a b e x => (r2 a b e x).2.1) (fun r hr => e r (by omega)) (fun r hr => e' r (by omega) (by omega) (by omega) (by omega)) (hB.2 9 (by decide)), r2, ⟨q, (by rw [e 0 (by decide)]; exact q1), q2, q3⟩, ?_, ⟨L, t1, by rw [e 0 (by decide)]; exact t2, (hB.2 2 (by decide)).trans t3, fun k hk => ?_⟩, ⟨D, d1, by rw [e 0 (by decide)]; exact d2, (hB.2 5 (by decide)).trans d3, fun k hk => ?_⟩, fun k hk => ?_, ?_⟩
  · rw [e 29 (by decide)]; exact r4
  · rw [e 1 (by decide), e' 70 (by decide) (by decide) (by decide) (by decide)]; exact t4 k hk
  · rw [e 2 (by decide), e' 71 (by decide) (by decide) (by decide) (by decide)]; exact d4 k hk
  · rw [e 36 (by decide), e 37 (by decide)]; exact r6 k hk
  · rw [e 0 (by decide), hB.2 3 (by decide)]; exact r7
/-- the bog itself goes on -/
theorem Rel.goes {H h : Nat} {A B A' B' : Mm} {ng p len : Nat} {oA rA cB : Nat → Int32} {S : PS} (hR : Rx H A B) (r2 : Cls oA rA cB len S) (r3 : DrfR p A) (hAll : All 29 83 ng p len oA rA cB S A' B') (fA : FrP 65 29 A A') (fB : FrQ 83 B B') (hd : (A' 29 8).toInt ≤ (A 29 8).toInt + (h : Int)) : Rel (H + h) A' B' := by
  obtain ⟨q, q1, q2, q3⟩ := r3
  obtain ⟨r4, ⟨L, t1, t2, t3, t4⟩, ⟨D, d1, d2, d3, d4⟩, r6, r7⟩ := hR
  have e : ∀ r, r < 29 → A' r = A r := fun r hr => fA.1 r (by omega) (by omega) (by omega)
  have e' : ∀ r, r ≠ 69 → r < 81 → B' r = B r := fun r h1 h2 => fB.1 r h1 (by omega) (by omega) (by omega)
  refine ⟨ng, p, len, oA, rA, cB, S, hAll, r2, ⟨q, (by rw [e 0 (by decide)]; exact q1), q2, q3⟩, by omega, ⟨L, t1, by rw [e 0 (by decide)]; exact t2, (fB.2 2 (by decide)).trans t3, fun k hk => ?_⟩, ⟨D, d1, by rw [e 0 (by decide)]; exact d2, (fB.2 5 (by decide)).trans d3, fun k hk => ?_⟩, fun k hk => ?_, ?_⟩
  · rw [e 1 (by decide), e' 70 (by decide) (by decide)]; exact t4 k hk
  · rw [e 2 (by decide), e' 71 (by decide) (by decide)]; exact d4 k hk
  · rw [fA.2.1 36 (by omega), fA.2.1 37 (by omega)]; exact r6 k hk
  · rw [e 0 (by decide), fB.2 3 (by decide)]; exact r7
theorem rng_of {a : Int32} {lo hi : Nat} (h0 : ¬ a < nI lo) (h1 : a ≤ nI hi) (hl : lo < 2147483648) (hh : hi < 2147483648) : ∃ i, lo ≤ i ∧ i ≤ hi ∧ a = nI i := by
  rw [i_lt, i_nI hl] at h0
  rw [i_le, i_nI hh] at h1
  refine ⟨ix a, ?_, ?_, (n_ix (by omega)).symm⟩
  · have := ix_int (x := a) (by omega); omega
  · have := ix_int (x := a) (by omega); omega
theorem nlt_of {a hi : Int32} (h : ¬ a ≤ hi) : hi < a := by rw [i_le] at h; rw [i_lt]; omega
theorem nle_of {a hi : Int32} (h : a ≤ hi) : ¬ hi < a := by rw [i_le] at h; rw [i_lt]; omega
theorem pass_ok (H : Nat) (hH : H < 2000000000) (a : Int32) : OpR H (H + 200) (fun M => f_L_pass 0 a 28 M) (fun M => f_X11_pass 69 a M) := by
  intro A B h
  by_cases h0 : a < (1 : Int32)
  · refine op_no (c := 1) (h.mono (Nat.le_add_right H 200)) ?_ ?_ (by decide)
    · rw [f_L_pass, f_X9_pass, if_pos h0, bd3_e, if_neg (by decide), if_pos rfl]
    · rw [f_X11_pass, lz_e, lz_e, in_l h0, if_pos rfl, f_X11_no, lz_e, bd2_e]
  · by_cases h1 : a ≤ (200 : Int32)
    · obtain ⟨i, i1, i2, rfl⟩ := rng_of (lo := 1) (hi := 200) h0 h1 (by decide) (by decide)
      have hb := h.b0 0
      obtain ⟨ng, p, len, oA, rA, cB, S, r1, r2, r3, rx⟩ := hb
      have rx1 := rx.1
      obtain ⟨A', B', c1, c2, c3, c4, c5, c6⟩ := pass_run (w := 65) (b := 29) (s := 83) (H := i) (fun a b e x => (r2 a b e x).1) (fun a b e x => (r2 a b e x).2.1) (Or.inl ⟨rfl, rfl⟩) (Or.inl rfl) (by omega) r1 (by omega)
      have hS : SimS 29 83 A (wr B 69 0 0) := r1.1.2.1
      have hS' : SimS 29 83 A' B' := c3.1.2.1
      have e1 : wr B 69 0 0 (69 + 14) 2 = A 29 10 := hS.2.2.1.symm
      have e2 : B' (69 + 14) 2 = A' 29 10 := hS'.2.2.1.symm
      refine op_ok (A1 := A') (B1 := B') (v := A' 29 10 - A 29 10) ((Rel.goes rx r2 r3 c3 c4 c5 c6).mono (by omega)) ?_ ?_ ?_ (fun r hr => c4.1 r (by omega) (by omega) (by omega)) ((RF.wr B (by decide)).trans (fun r hr => c5.1 r (by omega) (by omega) (by omega) (by omega)))
      · show f_L_pass 0 (nI i) 28 A = _
        rw [f_L_pass, f_X9_pass, if_neg h0, if_pos h1, show (0 + 65 : Nat) = 65 from rfl, c1, bd1_e, bd3_e, if_pos rfl, lz_e]
      · show f_X11_pass 69 (nI i) B = _
        rw [f_X11_pass, lz_e, lz_e, in_1 h0 (nle_of h1), if_neg (by decide), show (69 + 14 : Nat) = 83 from rfl, c2, bd1_e, show B' 83 2 = A' 29 10 from e2, show wr B 69 0 0 83 2 = A 29 10 from e1]
      · rw [c5.2 0 (by decide), wr_at]
    · refine op_no (c := 1) (h.mono (Nat.le_add_right H 200)) ?_ ?_ (by decide)
      · rw [f_L_pass, f_X9_pass, if_neg h0, if_neg h1, bd3_e, if_neg (by decide), if_pos rfl]
      · rw [f_X11_pass, lz_e, lz_e, in_r h0 (nlt_of h1), if_pos rfl, f_X11_no, lz_e, bd2_e]
/-- a trial of some hours -/
theorem trial_run {H i : Nat} {A1 B1 : Mm} {ng p len : Nat} {oA rA cB : Nat → Int32} {S : PS} (r2 : Cls oA rA cB len S) (hi : i ≤ 300) (hd : (A1 47 8).toInt ≤ (H : Int)) (hH : H < 2000000000) (c3 : All 47 91 ng p len oA rA cB S A1 B1) :
    ∃ A2 B2, f_X9_letPass 67 (nI i) A1 = some A2 ∧ f_X11_hours 69 91 (nI i) B1 = some B2 ∧ All 47 91 ng p len oA rA cB S A2 B2 ∧ KpA A1 A2 ∧ KpB B1 B2 := by
  obtain ⟨A2, B2, d1, d2, d3, d4, d5, d6⟩ := pass_run (w := 67) (b := 47) (s := 91) (H := i) (fun a b e x => (r2 a b e x).1) (fun a b e x => (r2 a b e x).2.1) (Or.inr ⟨rfl, rfl⟩) (Or.inr rfl) (by omega) c3 (by omega)
  exact ⟨A2, B2, d1, d2, d3, fun r hr => d4.1 r (by omega) (by omega) (by omega), ⟨fun r h1 h2 h3 h4 => d5.1 r h1 h2 h3 (by omega), d5.2⟩⟩
theorem cBB_k (B : Mm) : KpB B (cBB B) := ⟨fun r h1 h2 h3 h4 => cBB_r h4, fun j hj => by rw [cBB_r (by decide)]⟩
theorem foresee_ok (H : Nat) (hH : H < 2000000000) (a b : Int32) : OpR H H (fun M => f_L_foresee 0 a b 28 M) (fun M => f_X11_foresee 69 a b M) := by
  intro A B h
  have g3 : (3 : Int32).toInt = ((4 : Nat) : Int) - 1 := rfl
  by_cases h0 : a < (1 : Int32)
  · refine op_no (c := 1) h ?_ ?_ (by decide)
    · rw [f_L_foresee, f_X9_foresee, if_pos h0, bd3_e, if_neg (by decide), if_pos rfl]
    · rw [f_X11_foresee, lz_e, lz_e, in_l h0, if_pos rfl, f_X11_no, lz_e, bd2_e]
  · by_cases h1 : a ≤ (300 : Int32)
    · by_cases k0 : b < 0
      · refine op_no (c := 2) h ?_ ?_ (by decide)
        · rw [f_L_foresee, f_X9_foresee, if_neg h0, if_pos h1, if_pos k0, bd3_e, if_neg (by decide), if_neg (by decide), if_pos rfl]
        · rw [f_X11_foresee, lz_e, lz_e, in_1 h0 (nle_of h1), if_neg (by decide), lz_e, in_l k0, if_pos rfl, f_X11_no, lz_e, bd2_e]
      · by_cases k1 : b < (4 : Int32)
        · obtain ⟨i, i1, i2, rfl⟩ := rng_of (lo := 1) (hi := 300) h0 h1 (by decide) (by decide)
          obtain ⟨k, hk, rfl⟩ := nat_of (N := 4) k0 k1 (by decide)
          have hb := h.b0 0
          have hb' := hb
          obtain ⟨ng, p, len, oA, rA, cB, S, r1, r2, r3, rx⟩ := hb
          obtain ⟨A1, c1, c2, c3, c4, c5, -⟩ := copy_ok r2 r1
          obtain ⟨A2, B2, d1, d2, d3, d4, d5⟩ := trial_run (H := H) r2 i2 (by rw [c5]; exact rx.1) hH c3
          have kA : KpA A A2 := KpA.trans (fun r hr => c4 r (by omega)) d4
          have kB : KpB (wr B 69 0 0) B2 := (cBB_k _).trans d5
          have hin := in_1 (lo := 1) (hi := 300) h0 (nle_of h1)
          have hin2 := in_1 (lo := 0) (hi := 3) k0 (fun e => (gt_of (N := 4) g3 (by decide)).mp e k1)
          have hS' : SimS 47 91 A2 B2 := d3.1.2.1
          have hS : SimS 29 83 A (wr B 69 0 0) := r1.1.2.1
          obtain ⟨-, -, t2, t3, t4, -⟩ := hS'
          have u4 : wr B 69 0 0 83 4 = A 29 12 := hS.2.2.2.2.1.symm
          have e29 : A2 29 12 = A 29 12 := by rw [kA 29 (by omega)]
          have e83 : B2 83 4 = A 29 12 := by rw [kB.1 83 (by decide) (by decide) (by decide) (by decide)]; exact u4
          have esum : accL (A2 48) 64 0 0 = accL (B2 92) 64 0 0 := accL_congr _ _ _ (fun j _ hj => (d3.1.1 j (by omega)).1)
          have fin : ∀ v, f_X9_foresee 0 (nI i) (nI k) A = some (0, v, A2) → f_X11_foresee 69 (nI i) (nI k) B = some (v, B2) → ∃ k' A' v' B', f_L_foresee 0 (nI i) (nI k) 28 A = some (k', A') ∧ f_X11_foresee 69 (nI i) (nI k) B = some (v', B') ∧ B' 69 0 = k' ∧ (k' = 0 → A' 28 0 = v') ∧ Rel H A' B' ∧ CF A A' ∧ RF B B' := by
            intro v hA hB
            refine op_ok (fA := fun M => f_L_foresee 0 (nI i) (nI k) 28 M) (fB := fun M => f_X11_foresee 69 (nI i) (nI k) M) (A1 := A2) (B1 := B2) (v := v) (hb'.keep kA kB) ?_ hB ?_ kA.cf ((RF.wr B (by decide)).trans kB.rf)
            · show f_L_foresee 0 (nI i) (nI k) 28 A = _
              rw [f_L_foresee, hA, bd3_e, if_pos rfl, lz_e]
            · rw [kB.2 0 (by decide), wr_at]
          have hk' : k = 0 ∨ k = 1 ∨ k = 2 ∨ k = 3 := by omega
          rcases hk' with rfl | rfl | rfl | rfl
          · refine fin (A2 47 10) ?_ ?_
            · rw [f_X9_foresee, if_neg h0, if_pos h1, if_neg k0, if_pos k1, show (0 + 47 : Nat) = 47 from rfl, show (0 + 29 : Nat) = 29 from rfl, show (0 + 67 : Nat) = 67 from rfl, c1, bd1_e, d1, bd1_e, if_pos (by rfl)]
            · rw [f_X11_foresee, lz_e, lz_e, hin, if_neg (by decide), lz_e, hin2, if_neg (by decide), show (69 + 22 : Nat) = 91 from rfl, show (69 + 14 : Nat) = 83 from rfl, c2, bd1_e, d2, bd1_e, if_pos (by rfl), t2]
          · refine fin (A2 47 11) ?_ ?_
            · rw [f_X9_foresee, if_neg h0, if_pos h1, if_neg k0, if_pos k1, show (0 + 47 : Nat) = 47 from rfl, show (0 + 29 : Nat) = 29 from rfl, show (0 + 67 : Nat) = 67 from rfl, c1, bd1_e, d1, bd1_e, if_neg (by decide), if_pos (by rfl)]
            · rw [f_X11_foresee, lz_e, lz_e, hin, if_neg (by decide), lz_e, hin2, if_neg (by decide), show (69 + 22 : Nat) = 91 from rfl, show (69 + 14 : Nat) = 83 from rfl, c2, bd1_e, d2, bd1_e, if_neg (by decide), if_pos (by rfl), t3]
          · refine fin (A2 47 12 - A 29 12) ?_ ?_
            · rw [f_X9_foresee, if_neg h0, if_pos h1, if_neg k0, if_pos k1, show (0 + 47 : Nat) = 47 from rfl, show (0 + 29 : Nat) = 29 from rfl, show (0 + 67 : Nat) = 67 from rfl, c1, bd1_e, d1, bd1_e, if_neg (by decide), if_neg (by decide), if_pos (by rfl), e29]
            · rw [f_X11_foresee, lz_e, lz_e, hin, if_neg (by decide), lz_e, hin2, if_neg (by decide), show (69 + 22 : Nat) = 91 from rfl, show (69 + 14 : Nat) = 83 from rfl, c2, bd1_e, d2, bd1_e, if_neg (by decide), if_neg (by decide), if_pos (by rfl), t4, e83]
          · refine fin (accL (A2 48) 64 0 0) ?_ ?_
            · rw [f_X9_foresee, if_neg h0, if_pos h1, if_neg k0, if_pos k1, show (0 + 47 : Nat) = 47 from rfl, show (0 + 29 : Nat) = 29 from rfl, show (0 + 67 : Nat) = 67 from rfl, c1, bd1_e, d1, bd1_e, if_neg (by decide), if_neg (by decide), if_neg (by decide), sumA, bd1_e]
            · rw [f_X11_foresee, lz_e, lz_e, hin, if_neg (by decide), lz_e, hin2, if_neg (by decide), show (69 + 22 : Nat) = 91 from rfl, show (69 + 14 : Nat) = 83 from rfl, c2, bd1_e, d2, bd1_e, if_neg (by decide), if_neg (by decide), if_neg (by decide), sumB, bd1_e, esum]
        · refine op_no (c := 2) h ?_ ?_ (by decide)
          · rw [f_L_foresee, f_X9_foresee, if_neg h0, if_pos h1, if_neg k0, if_neg k1, bd3_e, if_neg (by decide), if_neg (by decide), if_pos rfl]
          · rw [f_X11_foresee, lz_e, lz_e, in_1 h0 (nle_of h1), if_neg (by decide), lz_e, in_r k0 ((gt_of (N := 4) g3 (by decide)).mpr k1), if_pos rfl, f_X11_no, lz_e, bd2_e]
    · refine op_no (c := 1) h ?_ ?_ (by decide)
      · rw [f_L_foresee, f_X9_foresee, if_neg h0, if_neg h1, bd3_e, if_neg (by decide), if_pos rfl]
      · rw [f_X11_foresee, lz_e, lz_e, in_r h0 (nlt_of h1), if_pos rfl, f_X11_no, lz_e, bd2_e]
/-! done -/
theorem done_run {g ng p len : Nat} {oA rA cB : Nat → Int32} {S : PS} (r2 : Cls oA rA cB len S) (hg : g < ng) : ∀ (k v n m : Nat) (A B : Mm), v + k = 301 → k < n → k < m → (A 47 8).toInt + (k : Int) < 2147483000 → All 47 91 ng p len oA rA cB S A B → ∃ x A' B', f_X9_done_L38 0 (nI g) n (nI v) A = some (0, x, A') ∧ f_X11_done_L38 69 (nI g) m (nI v) B = some (x, B') ∧ KpA A A' ∧ KpB B B' := by
  intro k
  induction k with
  | zero =>
    intro v n m A B hv hn hm hd h
    obtain ⟨n', rfl⟩ : ∃ z, n = z + 1 := ⟨n - 1, by omega⟩
    obtain ⟨m', rfl⟩ : ∃ z, m = z + 1 := ⟨m - 1, by omega⟩
    have : v = 301 := by omega
    subst this
    exact ⟨-1, A, B, by rw [f_X9_done_L38, if_pos (by decide)], by rw [f_X11_done_L38, if_pos (by decide)], KpA.refl A, KpB.refl B⟩
  | succ k ih =>
    intro v n m A B hv hn hm hd h
    obtain ⟨n', rfl⟩ : ∃ z, n = z + 1 := ⟨n - 1, by omega⟩
    obtain ⟨m', rfl⟩ : ∃ z, m = z + 1 := ⟨m - 1, by omega⟩
    have h4 := h.2.2.2.2.2.1
    obtain ⟨g1, g2, -⟩ := h.2.2.2.2.2.2 g hg
    have s4 : A (57 + 2 * g) 4 = B 97 (10 * g + 5) := g1.2.2.2.2.1
    have i4 : A (57 + 2 * g) 4 = 0 ∨ A (57 + 2 * g) 4 = 1 := g2.2.2.2
    rw [f_X9_done_L38, if_neg (show ¬ (300 : Int32) < nI v from fun e => by have := (n_lt (a := 300) (by omega) (by omega)).mp e; omega), if_pos (inN (show g < 4 by omega)), ixn (by omega), show (0 + 47 + 9 + 1 + 2 * g) = 57 + 2 * g from by omega, f_X11_done_L38, if_neg (show ¬ (300 : Int32) < nI v from fun e => by have := (n_lt (a := 300) (by omega) (by omega)).mp e; omega), g10 (show g < 4 by omega), ga5, if_pos (inN (show 10 * g + 5 < 40 by omega)), ixn (show 10 * g + 5 < 2147483648 by omega), show (69 + 22 + 6 : Nat) = 97 from rfl, ← s4]
    rcases i4 with e | e
    · obtain ⟨A1, B1, c1, c2, c3, c4, c5, c6⟩ := one_hour (w := 67) (b := 47) (s := 91) (fun a b e x => (r2 a b e x).1) (fun a b e x => (r2 a b e x).2.1) (Or.inr ⟨rfl, rfl⟩) (Or.inr rfl) h (by omega)
      obtain ⟨x, A', B', d1, d2, d3, d4⟩ := ih (v + 1) n' m' A1 B1 (by omega) (by omega) (by omega) (by omega) c3
      refine ⟨x, A', B', ?_, ?_, KpA.trans (fun r hr => c4.1 r (by omega) (by omega) (by omega)) d3, KpB.trans ⟨fun r h1 h2 h3 h4 => c5.1 r h1 h2 h3 (by omega), c5.2⟩ d4⟩
      · rw [if_pos e, show (0 + 67 : Nat) = 67 from rfl, c1, bd1_e, n_suc, lz_e, d1]
      · rw [e, if_neg (by decide), show (69 + 22 : Nat) = 91 from rfl, c2, bd1_e, n_suc, lz_e, d2]
    · exact ⟨nI v, A, B, by rw [if_neg (by rw [e]; decide)], by rw [if_pos e], KpA.refl A, KpB.refl B⟩
theorem done_ok (H : Nat) (hH : H < 2000000000) (a : Int32) : OpR H H (fun M => f_L_done 0 a 28 M) (fun M => f_X11_done 69 a M) := by
  intro A B h
  have hb := h.b0 0
  have hb' := hb
  obtain ⟨ng, p, len, oA, rA, cB, S, r1, r2, r3, rx⟩ := hb
  have h15 := r1.2.2.2.1
  have h9 := r1.2.2.2.2.1
  have h4 := r1.2.2.2.2.2.1
  have hn : (wr B 69 0 0 69 9 - (1 : Int32)).toInt = (ng : Int) - 1 := by rw [h9, n_pred (by omega)]
  by_cases h0 : a < 0
  · refine op_no (c := 1) h ?_ ?_ (by decide)
    · rw [f_L_done, f_X9_done, if_pos h0, bd3_e, if_neg (by decide), if_pos rfl]
    · rw [f_X11_done, lz_e, lz_e, in_l h0, if_pos rfl, f_X11_no, lz_e, bd2_e]
  · by_cases h1 : a < nI ng
    · obtain ⟨g, hg, rfl⟩ := nat_of h0 h1 (by omega)
      obtain ⟨A1, c1, c2, c3, c4, c5, -⟩ := copy_ok r2 r1
      have hd : (A1 47 8).toInt ≤ (H : Int) := by rw [c5]; exact rx.1
      obtain ⟨x, A', B', d1, d2, d3, d4⟩ := done_run r2 hg 301 0 FU FU A1 (cBB (wr B 69 0 0)) (by omega) (by unfold FU; omega) (by unfold FU; omega) (by omega) c3
      have kA : KpA A A' := KpA.trans (fun r hr => c4 r (by omega)) d3
      have kB : KpB (wr B 69 0 0) B' := (cBB_k _).trans d4
      have d1' : f_X9_done_L38 0 (nI g) FU 0 A1 = _ := d1
      have d2' : f_X11_done_L38 69 (nI g) FU 0 (cBB (wr B 69 0 0)) = _ := d2
      refine op_ok (A1 := A') (B1 := B') (v := x) (hb'.keep kA kB) ?_ ?_ ?_ kA.cf ((RF.wr B (by decide)).trans kB.rf)
      · show f_L_done 0 (nI g) 28 A = _
        rw [f_L_done, f_X9_done, if_neg h0, show (0 + 29 : Nat) = 29 from rfl, h15, if_pos h1, show (0 + 47 : Nat) = 47 from rfl, c1, bd1_e, d1', bd3_e, if_pos rfl, lz_e]
      · show f_X11_done 69 (nI g) B = _
        rw [f_X11_done, lz_e, lz_e, in_1 h0 (fun e => (gt_of hn (by omega)).mp e h1), if_neg (by decide), show (69 + 22 : Nat) = 91 from rfl, show (69 + 14 : Nat) = 83 from rfl, c2, bd1_e, d2']
      · rw [kB.2 0 (by decide), wr_at]
    · refine op_no (c := 1) h ?_ ?_ (by decide)
      · rw [f_L_done, f_X9_done, if_neg h0, show (0 + 29 : Nat) = 29 from rfl, h15, if_neg h1, bd3_e, if_neg (by decide), if_pos rfl]
      · rw [f_X11_done, lz_e, lz_e, in_r h0 ((gt_of hn (by omega)).mpr h1), if_pos rfl, f_X11_no, lz_e, bd2_e]
/-! advise -/
theorem cR_wr {i j n a c : Nat} {v : Int32} {M : Mm} (hi : i ≠ a) (hj : j ≠ a) : cR i j n (wr M a c v) = wr (cR i j n M) a c v := by
  funext r
  by_cases z : r = j
  · subst z
    rw [wr_ne hj]
    unfold cR
    rw [wrow_at, wrow_at, wr_ne hi, wr_ne hj]
  · rw [cR_r z]
    by_cases y : r = a
    · subst y
      rw [wr_row, wr_row, cR_r z]
    · rw [wr_ne y, wr_ne y, cR_r z]
theorem cW_wr {i j k a c : Nat} {v : Int32} {M : Mm} (hi : i ≠ a) (hj : j ≠ a) : cW i j k (wr M a c v) = wr (cW i j k M) a c v := by
  funext r
  unfold cW
  rw [wr_ne hi]
  by_cases z : r = j
  · subst z
    rw [wr_row, wr_ne hj, wr_ne hj, wr_row]
  · rw [wr_ne z]
    by_cases y : r = a
    · subst y
      rw [wr_row, wr_row, wr_ne z]
    · rw [wr_ne y, wr_ne y, wr_ne z]
theorem cBB_wr {a c : Nat} {v : Int32} {M : Mm} (h : a < 83) : cBB (wr M a c v) = wr (cBB M) a c v := by
  unfold cBB cB0
  rw [cW_wr (by omega) (by omega), cW_wr (by omega) (by omega), cW_wr (by omega) (by omega), cW_wr (by omega) (by omega), cW_wr (by omega) (by omega), cW_wr (by omega) (by omega), cR_wr (by omega) (by omega), cR_wr (by omega) (by omega), cR_wr (by omega) (by omega), cR_wr (by omega) (by omega), cR_wr (by omega) (by omega), cR_wr (by omega) (by omega), cR_wr (by omega) (by omega)]
theorem All.sun {ng p len : Nat} {oA rA cB : Nat → Int32} {S : PS} {A B : Mm} {c : Nat} {u v : Int32} (hSl : ∀ a b e, S a b e → e.length ≤ 8) (h : All 47 91 ng p len oA rA cB S A B) : All 47 91 ng p len oA rA cB S (wr (wr A 54 c u) 55 c v) (wr (wr B 72 c u) 73 c v) := by
  obtain ⟨⟨s1, s2, s3, s4, s5⟩, ⟨p1, p2, p3, p4, p5, p6⟩, k1, k2, k3, k4, k5⟩ := h
  have e : ∀ r, r ≠ 54 → r ≠ 55 → wr (wr A 54 c u) 55 c v r = A r := fun r h1 h2 => by rw [wr_ne h2, wr_ne h1]
  have e' : ∀ r, r ≠ 72 → r ≠ 73 → wr (wr B 72 c u) 73 c v r = B r := fun r h1 h2 => by rw [wr_ne h2, wr_ne h1]
  refine ⟨⟨fun k hk => ?_, ?_, fun k hk => ?_, fun k hk => ?_, ?_⟩, ⟨p1, ?_, ?_, p4, ?_, ?_⟩, ?_, ?_, ?_, k4, fun g hg => ?_⟩
  · rw [e (47 + 1) (by decide) (by decide), e (47 + 3) (by decide) (by decide), e (47 + 4) (by decide) (by decide), e (47 + 5) (by decide) (by decide), e (47 + 6) (by decide) (by decide), e' (91 + 1) (by decide) (by decide), e' (91 + 2) (by decide) (by decide), e' (91 + 3) (by decide) (by decide), e' (91 + 4) (by decide) (by decide), e' (91 + 5) (by decide) (by decide)]
    exact s1 k hk
  · unfold SimS; rw [e 47 (by decide) (by decide), e' 91 (by decide) (by decide)]; exact s2
  · obtain ⟨w1, w2⟩ := s3 k hk
    have w1' : A 54 k = B 72 k := w1
    have w2' : A 55 k = B 73 k := w2
    show wr (wr A 54 c u) 55 c v 54 k = _ ∧ wr (wr A 54 c u) 55 c v 55 k = _
    rw [wr_r (show 54 ≠ 55 by decide), wr_r (show 72 ≠ 73 by decide), wr_i, wr_i, wr_i, wr_i, wr_r (show 55 ≠ 54 by decide), wr_r (show 73 ≠ 72 by decide), w1', w2']
    exact ⟨rfl, rfl⟩
  · rw [e (47 + 4) (by decide) (by decide), e (47 + 5) (by decide) (by decide), e (47 + 6) (by decide) (by decide)]; exact s4 k hk
  · rw [e 47 (by decide) (by decide)]; exact s5
  · rw [e 47 (by decide) (by decide)]; exact p2
  · rw [e p (by omega) (by omega)]; exact p3
  · rw [e (p + 1) (by omega) (by omega)]; exact p5
  · rw [e (p + 2) (by omega) (by omega)]; exact p6
  · rw [e' 74 (by decide) (by decide)]; exact k1
  · rw [e 47 (by decide) (by decide)]; exact k2
  · rw [e' 69 (by decide) (by decide)]; exact k3
  · exact (k5 g hg).same (e _ (by omega) (by omega)) (e _ (by omega) (by omega)) (fun k _ => by rw [e' (91 + 6) (by decide) (by decide)]) (fun k _ => by rw [e' (91 + 7) (by decide) (by decide)]) hSl
theorem adv_run {H i : Nat} (hH : H < 2000000000) (hi : i ≤ 120) : ∀ (k d n m : Nat) (v w : Int32) (A B : Mm), d + k = 12 → k < n → k < m → Rel H A B → ∃ x A' B', f_X9_advise_L53 0 (nI i) n v w (nI d) A = some (x, A') ∧ f_X11_advise_L32 69 (nI i) m v w (nI d) B = some (x, B') ∧ KpA A A' ∧ KpB B B' := by
  intro k
  induction k with
  | zero =>
    intro d n m v w A B hd hn hm h
    obtain ⟨n', rfl⟩ : ∃ z, n = z + 1 := ⟨n - 1, by omega⟩
    obtain ⟨m', rfl⟩ : ∃ z, m = z + 1 := ⟨m - 1, by omega⟩
    have : d = 12 := by omega
    subst this
    exact ⟨w, A, B, by rw [f_X9_advise_L53, if_pos (by decide)], by rw [f_X11_advise_L32, if_pos (by decide)], KpA.refl A, KpB.refl B⟩
  | succ k ih =>
    intro d n m v w A B hd hn hm h
    obtain ⟨n', rfl⟩ : ∃ z, n = z + 1 := ⟨n - 1, by omega⟩
    obtain ⟨m', rfl⟩ : ∃ z, m = z + 1 := ⟨m - 1, by omega⟩
    have hd12 : d < 12 := by omega
    have hh := h
    obtain ⟨ng, p, len, oA, rA, cB, S, r1, r2, r3, rx⟩ := hh
    obtain ⟨A1, c1, c2, c3, c4, c5, -⟩ := copy_ok r2 r1
    have c3' := c3.sun (c := d) (u := 0) (v := 9) (fun a b e x => (r2 a b e x).2.1)
    rw [← cBB_wr (M := B) (show 72 < 83 by decide), ← cBB_wr (show 73 < 83 by decide)] at c3'
    obtain ⟨A2, B2, d1, d2, d3, d4, d5⟩ := trial_run (H := H) (i := i) r2 (by omega) (by rw [wr_r (by decide), wr_r (by decide), c5]; exact rx.1) hH c3'
    have kA : KpA A A2 := KpA.trans (KpA.trans (fun r hr => c4 r (by omega)) (fun r hr => by rw [wr_ne (by omega), wr_ne (by omega)] : KpA A1 (wr (wr A1 54 d 0) 55 d 9))) d4
    have kB0 : KpB (wr (wr B 72 d 0) 73 d 9) B2 := (cBB_k _).trans d5
    have kB : KpB B (wr (wr B2 72 d (B 72 d)) 73 d (B 73 d)) := by
      refine ⟨fun r h1 h2 h3 h4 => funext fun c => ?_, fun j hj => by rw [wr_r (by decide), wr_r (by decide), kB0.2 j hj, wr_r (by decide), wr_r (by decide)]⟩
      by_cases z : r = 73
      · subst z
        rw [wr_i, wr_r (show 73 ≠ 72 by decide), kB0.1 73 (by decide) (by decide) (by decide) (by decide), wr_i, wr_r (show 73 ≠ 72 by decide)]
        by_cases y : c = d
        · rw [if_pos y, y]
        · rw [if_neg y, if_neg y]
      · rw [wr_r z]
        by_cases y : r = 72
        · subst y
          rw [wr_i, kB0.1 72 (by decide) (by decide) (by decide) (by decide), wr_r (show 72 ≠ 73 by decide), wr_i]
          by_cases x : c = d
          · rw [if_pos x, x]
          · rw [if_neg x, if_neg x]
        · rw [wr_r y, kB0.1 r h1 h2 h3 h4, wr_r z, wr_r y]
    have t2 : A2 47 10 = B2 91 2 := d3.1.2.1.2.2.1
    have nd : ¬ (12 : Int32) ≤ nI d := fun e => by have := (n_le (a := 12) (by omega) (by omega)).mp e; omega
    have cmp : ∀ (x : Int32), (x ≤ v ↔ ¬ v < x) := fun x => by rw [i_le, i_lt]; omega
    have step : ∀ v' w', ∃ x A' B', f_X9_advise_L53 0 (nI i) n' v' w' (nI (d + 1)) A2 = some (x, A') ∧ f_X11_advise_L32 69 (nI i) m' v' w' (nI (d + 1)) (wr (wr B2 72 d (B 72 d)) 73 d (B 73 d)) = some (x, B') ∧ KpA A A' ∧ KpB B B' := by
      intro v' w'
      obtain ⟨x, A', B', y1, y2, y3, y4⟩ := ih (d + 1) n' m' v' w' A2 (wr (wr B2 72 d (B 72 d)) 73 d (B 73 d)) (by omega) (by omega) (by omega) (h.keep kA kB)
      exact ⟨x, A', B', y1, y2, kA.trans y3, kB.trans y4⟩
    have runA : f_X9_advise_L53 0 (nI i) (n' + 1) v w (nI d) A = (if A2 47 10 ≤ v then f_X9_advise_L53 0 (nI i) n' v w (nI (d + 1)) A2 else f_X9_advise_L53 0 (nI i) n' (A2 47 10) (nI d) (nI (d + 1)) A2) := by
      rw [f_X9_advise_L53, if_neg nd, show (0 + 47 : Nat) = 47 from rfl, show (0 + 29 : Nat) = 29 from rfl, show (0 + 67 : Nat) = 67 from rfl, c1, bd1_e, if_pos (inN hd12), lz_e, if_pos (inN hd12), lz_e, ixn (by omega), show (47 + 7 : Nat) = 54 from rfl, show (47 + 8 : Nat) = 55 from rfl, d1, bd1_e]
      by_cases z : A2 47 10 ≤ v
      · rw [if_pos z, if_pos z, bd2_e, n_suc, lz_e]
      · rw [if_neg z, if_neg z, bd2_e, n_suc, lz_e]
    have runB : f_X11_advise_L32 69 (nI i) (m' + 1) v w (nI d) B = (if v < B2 91 2 then f_X11_advise_L32 69 (nI i) m' (B2 91 2) (nI d) (nI (d + 1)) (wr (wr B2 72 d (B 72 d)) 73 d (B 73 d)) else f_X11_advise_L32 69 (nI i) m' v w (nI (d + 1)) (wr (wr B2 72 d (B 72 d)) 73 d (B 73 d))) := by
      rw [f_X11_advise_L32, if_neg nd, if_pos (inN hd12), if_pos (inN hd12), if_pos (inN hd12), lz_e, if_pos (inN hd12), lz_e, ixn (by omega), show (69 + 3 : Nat) = 72 from rfl, show (69 + 4 : Nat) = 73 from rfl, f_X11_dryBehind, show (69 + 22 : Nat) = 91 from rfl, show (69 + 14 : Nat) = 83 from rfl, B_copy, bd1_e, d2, bd1_e, bd2_e, if_pos (inN hd12), lz_e, if_pos (inN hd12), lz_e]
      by_cases z : v < B2 91 2
      · rw [if_pos z, if_pos z, bd2_e, n_suc, lz_e]
      · rw [if_neg z, if_neg z, bd2_e, n_suc, lz_e]
    rw [runA, runB, ← t2]
    by_cases z : A2 47 10 ≤ v
    · rw [if_pos z, if_neg ((cmp _).mp z)]; exact step v w
    · rw [if_neg z, if_pos (Classical.not_not.mp (fun e => z ((cmp _).mpr e)))]; exact step _ _
theorem advise_ok (H : Nat) (hH : H < 2000000000) (a : Int32) : OpR H H (fun M => f_L_advise 0 a 28 M) (fun M => f_X11_advise 69 a M) := by
  intro A B h
  by_cases h0 : a < (1 : Int32)
  · refine op_no (c := 1) h ?_ ?_ (by decide)
    · rw [f_L_advise, f_X9_advise, if_pos h0, bd3_e, if_neg (by decide), if_pos rfl]
    · rw [f_X11_advise, lz_e, lz_e, in_l h0, if_pos rfl, f_X11_no, lz_e, bd2_e]
  · by_cases h1 : a ≤ (120 : Int32)
    · obtain ⟨i, i1, i2, rfl⟩ := rng_of (lo := 1) (hi := 120) h0 h1 (by decide) (by decide)
      have hb := h.b0 0
      have hb' := hb
      obtain ⟨ng, p, len, oA, rA, cB, S, r1, r2, r3, rx⟩ := hb
      obtain ⟨A1, c1, c2, c3, c4, c5, -⟩ := copy_ok r2 r1
      obtain ⟨A2, B2, d1, d2, d3, d4, d5⟩ := trial_run (H := H) (i := i) r2 (by omega) (by rw [c5]; exact rx.1) hH c3
      have kA : KpA A A2 := KpA.trans (fun r hr => c4 r (by omega)) d4
      have kB : KpB (wr B 69 0 0) B2 := (cBB_k _).trans d5
      have t2 : B2 91 2 = A2 47 10 := d3.1.2.1.2.2.1.symm
      obtain ⟨x, A', B', e1, e2, e3, e4⟩ := adv_run hH i2 12 0 FU FU (A2 47 10) (-1) A2 B2 (by omega) (by unfold FU; omega) (by unfold FU; omega) (hb'.keep kA kB)
      have e1' : f_X9_advise_L53 0 (nI i) FU (A2 47 10) (-1) 0 A2 = _ := e1
      have e2' : f_X11_advise_L32 69 (nI i) FU (A2 47 10) (-1) 0 B2 = _ := e2
      have kA' := kA.trans e3
      have kB' := kB.trans e4
      refine op_ok (A1 := A') (B1 := B') (v := x) (hb'.keep kA' kB') ?_ ?_ ?_ kA'.cf ((RF.wr B (by decide)).trans kB'.rf)
      · show f_L_advise 0 (nI i) 28 A = _
        rw [f_L_advise, f_X9_advise, if_neg h0, if_pos h1, show (0 + 47 : Nat) = 47 from rfl, show (0 + 29 : Nat) = 29 from rfl, show (0 + 67 : Nat) = 67 from rfl, c1, bd1_e, d1, bd1_e, e1', bd2_e, bd3_e, if_pos rfl, lz_e]
      · show f_X11_advise 69 (nI i) B = _
        rw [f_X11_advise, lz_e, lz_e, in_1 h0 (nle_of h1), if_neg (by decide), f_X11_dryBehind, show (69 + 22 : Nat) = 91 from rfl, show (69 + 14 : Nat) = 83 from rfl, B_copy, bd1_e, d2, bd1_e, bd2_e, t2, e2', bd2_e]
      · rw [kB'.2 0 (by decide), wr_at]
    · refine op_no (c := 1) h ?_ ?_ (by decide)
      · rw [f_L_advise, f_X9_advise, if_neg h0, if_neg h1, bd3_e, if_neg (by decide), if_pos rfl]
      · rw [f_X11_advise, lz_e, lz_e, in_r h0 (nlt_of h1), if_pos rfl, f_X11_no, lz_e, bd2_e]
