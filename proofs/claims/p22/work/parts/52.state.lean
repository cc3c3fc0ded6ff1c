/-! needs 30 31 32 50 51 52 53 -/
/-! both readers at token i: the class's and the reference's -/
def StA (T : Nat → Int32) (L N p : Nat) (A : Mm) : Prop := ScanR T L N A ∧ (L ≤ 2000 ∧ A 4 3 = nI 2 ∧ A 4 4 = nI L ∧ ∀ k, k < L → Byt (A 1 k) (T k)) ∧ A 3 3 = nI (p + 1) ∧ (p = 10 ∨ p = 16 ∨ p = 22)
def AtA (T : Nat → Int32) (L N p i la : Nat) (ea fa : Int32) (A : Mm) : Prop := StA T L N p A ∧ i ≤ N ∧ A 3 4 = nI i ∧ A p 2 = nI la ∧ A 3 5 = ea ∧ A 3 6 = fa
def AtB (T : Nat → Int32) (L i d sb s : Nat) (ea fa : Int32) (B : Mm) : Prop := B 70 = T ∧ TapB L B ∧ TokR T L i B ∧ B 69 11 = nI sb ∧ B 69 17 = nI d ∧ B 69 18 = nI s ∧ B 69 20 = ea ∧ (ea ≠ 0 → B 69 21 = fa)
def FrA0 (p la : Nat) (A A' : Mm) : Prop := ∀ r c, ¬ (r = 3 ∧ 4 ≤ c ∧ c ≤ 6) → ¬ (r = p ∧ c = 2) → ¬ ((r = p + 1 ∨ r = p + 2) ∧ la ≤ c) → A' r c = A r c
def FrA (p la : Nat) (A A' : Mm) : Prop := FrA0 p la A A' ∧ (3 < p → A' 3 5 = 0 → A 3 5 = 0 ∧ A' 3 6 = A 3 6)
def FrB (sb : Nat) (B B' : Mm) : Prop := ∀ r c, ¬ (r = 69 ∧ 11 ≤ c ∧ c ≤ 21 ∧ c ≠ 19) → ¬ (r = 75 ∧ sb ≤ c) → B' r c = B r c
theorem FrA.refl (p la : Nat) (A : Mm) : FrA p la A A := ⟨fun _ _ _ _ _ => rfl, fun _ h => ⟨h, rfl⟩⟩
theorem FrB.refl (sb : Nat) (B : Mm) : FrB sb B B := fun _ _ _ _ => rfl
theorem FrA.trans {p la la' : Nat} {A A' A'' : Mm} (h : FrA p la A A') (k : FrA p la' A' A'') (e : la ≤ la') : FrA p la A A'' := ⟨fun r c h1 h2 h3 => (k.1 r c h1 h2 (fun x => h3 ⟨x.1, by omega⟩)).trans (h.1 r c h1 h2 h3), fun q x => ⟨(h.2 q (k.2 q x).1).1, (k.2 q x).2.trans (h.2 q (k.2 q x).1).2⟩⟩
theorem FrB.trans {sb sb' : Nat} {B B' B'' : Mm} (h : FrB sb B B') (k : FrB sb' B' B'') (e : sb ≤ sb') : FrB sb B B'' := fun r c h1 h2 => (k r c h1 (fun x => h2 ⟨x.1, by omega⟩)).trans (h r c h1 h2)
theorem FrA0.w3 {p la : Nat} {A : Mm} {c : Nat} {v : Int32} (h : 4 ≤ c ∧ c ≤ 6) : FrA0 p la A (wr A 3 c v) := fun r k h1 _ _ => wr_o (by omega)
theorem FrA0.trans {p la la' : Nat} {A A' A'' : Mm} (h : FrA0 p la A A') (k : FrA0 p la' A' A'') (e : la ≤ la') : FrA0 p la A A'' := fun r c h1 h2 h3 => (k r c h1 h2 (fun x => h3 ⟨x.1, by omega⟩)).trans (h r c h1 h2 h3)
theorem FrA.w4 {p la : Nat} {A : Mm} {v : Int32} : FrA p la A (wr A 3 4 v) := ⟨FrA0.w3 (by omega), fun _ h => ⟨by rw [wr_col (by decide)] at h; exact h, wr_col (by decide)⟩⟩
theorem FrB.w69 {sb : Nat} {B : Mm} {c : Nat} {v : Int32} (h : 11 ≤ c ∧ c ≤ 21 ∧ c ≠ 19) : FrB sb B (wr B 69 c v) := fun r k h1 _ => wr_o (by omega)
theorem Fr.frB {sb : Nat} {B B' : Mm} (h : Fr B B') : FrB sb B B' := fun r c h1 _ => h r c (by omega)
theorem StA.fr0 {T : Nat → Int32} {L N p la : Nat} {A A' : Mm} (h : StA T L N p A) (k : FrA0 p la A A') : StA T L N p A' := by
  obtain ⟨⟨h1, h2, h3, h4⟩, ⟨h5, h6, h7, h8⟩, h9, h10⟩ := h
  have e : ∀ r c, r = 1 ∨ (3 < r ∧ r < 10) → A' r c = A r c := fun r c hr => k r c (by omega) (by omega) (by omega)
  refine ⟨⟨h1, h2, h3, fun j hj => ?_⟩, ⟨h5, ?_, ?_, fun j hj => ?_⟩, ?_, h10⟩
  · rw [e 5 j (by omega), e 6 j (by omega), e 7 j (by omega)]; exact h4 j hj
  · rw [e 4 3 (by omega)]; exact h6
  · rw [e 4 4 (by omega)]; exact h7
  · rw [e 1 j (by omega)]; exact h8 j hj
  · rw [k 3 3 (by omega) (by omega) (by omega)]; exact h9
theorem StA.fr {T : Nat → Int32} {L N p la : Nat} {A A' : Mm} (h : StA T L N p A) (k : FrA p la A A') : StA T L N p A' := h.fr0 k.1
def rfA (A : Mm) (v : Nat) : Mm := wr (wr A 3 5 1) 3 6 (nI v)
def nxA (A : Mm) (i : Nat) : Mm := wr A 3 4 (nI (i + 1))
def emA (p la : Nat) (op arg : Int32) (A : Mm) : Mm := wr (wr (wr A (p + 1) la op) (p + 2) la arg) p 2 (nI (la + 1))
def puB (sb : Nat) (c : Int32) (B : Mm) : Mm := wr (wr B 75 sb c) 69 11 (nI (sb + 1))
theorem teq {t u : Nat} (ht : t < 51) (hu : u < 51) : nI (1001 + t) = nI (1001 + u) ↔ t = u := by
  rw [n_inj (by omega) (by omega)]; omega
theorem gr_n {t : Nat} (h : t < 51) : tkGr (nI (1001 + t)) = tkG.getD t 0 := by unfold tkGr; rw [tkN_n h]
theorem op_n {t : Nat} (h : t < 51) : tkOp (nI (1001 + t)) = tkO.getD t 0 := by unfold tkOp; rw [tkN_n h]
section SA
variable {T : Nat → Int32} {L N p i la : Nat} {ea fa : Int32} {A : Mm}
theorem AtA.le (h : AtA T L N p i la ea fa A) : i ≤ 400 := by have := h.1.1.1; have := h.2.1; omega
theorem AtA.kind (h : AtA T L N p i la ea fa A) : f_X4_kind 3 A = some (nI (1001 + tk T L i)) := by
  have h1 := h.le
  have hk := tk_le T L i
  rw [f_X4_kind, h.2.2.1, f_X6_kindOf, if_neg (show ¬ nI i < 0 by rw [i_lt, i_nI (by omega)]; show ¬ (i : Int) < 0; omega), if_neg (show ¬ (401 : Int32) ≤ nI i by rw [i_le, i_nI (by omega)]; show ¬ (401 : Int) ≤ (i : Int); omega), if_pos (inN (show i < 401 by omega)), ixn (by omega), show (3 + 1 + 1 : Nat) = 5 from rfl, (h.1.1.2.2.2 i h.2.1).1, if_neg (by rw [ixn (by omega)]; omega), bd1_e, if_neg (show ¬ (1 : Int32) = 0 by decide), if_pos (inN (show i < 401 by omega)), if_pos (tkc_n hk.1), bd1_e]
theorem startA (h : StA T L N p A) {j : Nat} (hj : j ≤ N) : f_X6_startOf 4 (nI j) A = some (nI (tst T L j)) := by
  have h1 := h.1.1
  rw [f_X6_startOf, if_neg (show ¬ nI j < 0 by rw [i_lt, i_nI (by omega)]; show ¬ (j : Int) < 0; omega), if_neg (show ¬ (401 : Int32) ≤ nI j by rw [i_le, i_nI (by omega)]; show ¬ (401 : Int) ≤ (j : Int); omega), if_pos (inN (show j < 401 by omega)), ixn (by omega), show (4 + 2 : Nat) = 6 from rfl, (h.1.2.2.2 j hj).2.1]
theorem endA (h : StA T L N p A) {j : Nat} (hj : j ≤ N) : f_X6_endOf 4 (nI j) A = some (nI (tpos T L (j + 1))) := by
  have h1 := h.1.1
  rw [f_X6_endOf, if_neg (show ¬ nI j < 0 by rw [i_lt, i_nI (by omega)]; show ¬ (j : Int) < 0; omega), if_neg (show ¬ (401 : Int32) ≤ nI j by rw [i_le, i_nI (by omega)]; show ¬ (401 : Int) ≤ (j : Int); omega), if_pos (inN (show j < 401 by omega)), ixn (by omega), show (4 + 3 : Nat) = 7 from rfl, (h.1.2.2.2 j hj).2.2]
theorem AtA.refuse (h : AtA T L N p i la ea fa A) : f_X4_refuse 3 A = some (0, rfA A (tst T L i)) := by
  have h1 : StA T L N p (wr A 3 5 1) := h.1.fr0 (la := 0) (FrA0.w3 (by omega))
  rw [f_X4_refuse]
  simp only [lz_e]
  rw [wr_col (by decide), h.2.2.1, show (3 + 1 : Nat) = 4 from rfl, startA h1 h.2.1, bd1_e]
  rfl
theorem rfA_fr (p la : Nat) (A : Mm) (v : Nat) : FrA p la A (rfA A v) := ⟨(FrA0.w3 (by omega)).trans (FrA0.w3 (by omega)) (Nat.le_refl _), fun _ h => by
  have e : rfA A v 3 5 = 1 := by unfold rfA; rw [wr_col (by decide), wr_at]
  rw [e] at h; exact absurd h (by decide)⟩
theorem rfA_5 (A : Mm) (v : Nat) : rfA A v 3 5 = 1 ∧ rfA A v 3 6 = nI v := ⟨by unfold rfA; rw [wr_col (by decide), wr_at], wr_at _ _ _ _⟩
theorem nxA_fr (p la : Nat) (A : Mm) (i : Nat) : FrA p la A (nxA A i) := FrA.w4
theorem AtA.next (h : AtA T L N p i la ea fa A) (ht : tk T L i < 49) : AtA T L N p (i + 1) la ea fa (nxA A i) := by
  have hN := h.1.1.2.1
  have hp := h.1.2.2.2
  have hi : i ≠ N := fun e => by subst e; omega
  refine ⟨h.1.fr (nxA_fr p 0 A i), by have := h.2.1; omega, wr_at _ _ _ _, ?_, ?_, ?_⟩
  · unfold nxA; rw [wr_ne (by omega)]; exact h.2.2.2.1
  · unfold nxA; rw [wr_col (by decide)]; exact h.2.2.2.2.1
  · unfold nxA; rw [wr_col (by decide)]; exact h.2.2.2.2.2
theorem AtA.nx (h : AtA T L N p i la ea fa A) : wr A 3 4 (A 3 4 + (1 : Int32)) = nxA A i := by rw [h.2.2.1, n_suc]; rfl
theorem AtA.okp (h : AtA T L N p i la ea fa A) : okr 2 (A 3 3) := by
  rw [h.1.2.2.1]
  rcases h.1.2.2.2 with rfl | rfl | rfl <;> decide
theorem AtA.ridp (h : AtA T L N p i la ea fa A) : rid (A 3 3) = p := by
  rw [h.1.2.2.1]
  rcases h.1.2.2.2 with rfl | rfl | rfl <;> decide
theorem AtA.expY {c : Int32} {u : Nat} (hc : c = nI (1001 + u)) (hu : u < 49) (h : AtA T L N p i la ea fa A) (ht : tk T L i = u) : f_X4_expect 3 c A = some (1, nxA A i) := by
  subst hc
  rw [f_X4_expect, h.kind, bd1_e, if_pos (tkc_n (tk_le T L i).1), if_pos (tkc_n (by omega)), if_pos (by rw [ht]), lz_e, h.nx]
theorem AtA.expN {c : Int32} {u : Nat} (hc : c = nI (1001 + u)) (hu : u < 51) (h : AtA T L N p i la ea fa A) (ht : tk T L i ≠ u) : f_X4_expect 3 c A = some (0, rfA A (tst T L i)) := by
  subst hc
  rw [f_X4_expect, h.kind, bd1_e, if_pos (tkc_n (tk_le T L i).1), if_pos (tkc_n hu), if_neg (fun e => ht ((teq (tk_le T L i).1 hu).mp e)), h.refuse, bd2_e]
theorem AtA.entY {c : Int32} {u d : Nat} (hc : c = nI (1001 + u)) (hu : u < 49) (h : AtA T L N p i la ea fa A) (ht : tk T L i = u) (hd : d < 8) : f_X4_enter 3 c (nI d) A = some (1, nxA A i) := by
  subst hc
  rw [f_X4_enter, h.kind, bd1_e, if_pos (tkc_n (tk_le T L i).1), if_pos (tkc_n (by omega)), if_pos (by rw [ht]), if_pos (show nI d < 8 from (n_lt (b := 8) (by omega) (by omega)).mpr hd), lz_e, h.nx]
theorem AtA.entN {c : Int32} {u d : Nat} (hc : c = nI (1001 + u)) (hu : u < 51) (h : AtA T L N p i la ea fa A) (ht : tk T L i ≠ u ∨ d = 8) : f_X4_enter 3 c (nI d) A = some (0, rfA A (tst T L i)) := by
  subst hc
  rw [f_X4_enter, h.kind, bd1_e, if_pos (tkc_n (tk_le T L i).1), if_pos (tkc_n hu)]
  by_cases z : tk T L i = u
  · rw [if_pos (by rw [z])]
    rcases ht with ht | rfl
    · exact absurd z ht
    · rw [if_neg (by decide), h.refuse, bd2_e]
  · rw [if_neg (fun e => z ((teq (tk_le T L i).1 hu).mp e)), h.refuse, bd2_e]
theorem emA_fr (p la : Nat) (op arg : Int32) (A : Mm) : FrA p la A (emA p la op arg A) := by
  refine ⟨fun r c h1 h2 h3 => ?_, fun q h => ?_⟩
  · unfold emA
    rw [wr_o (by omega), wr_o (by omega), wr_o (by omega)]
  · unfold emA at h ⊢
    rw [wr_ne (by omega), wr_ne (by omega), wr_ne (by omega)] at h ⊢
    exact ⟨h, rfl⟩
theorem emA_op (p la : Nat) (op arg : Int32) (A : Mm) : emA p la op arg A (p + 1) la = op ∧ emA p la op arg A (p + 2) la = arg ∧ emA p la op arg A p 2 = nI (la + 1) := by
  unfold emA
  refine ⟨?_, ?_, wr_at _ _ _ _⟩
  · rw [wr_ne (by omega), wr_ne (by omega), wr_at]
  · rw [wr_ne (by omega), wr_at]
theorem AtA.emit (h : AtA T L N p i la ea fa A) (hl : la < 800) (op arg : Int32) : f_X5_emit p op arg A = some (1, emA p la op arg A) ∧ AtA T L N p i (la + 1) ea fa (emA p la op arg A) := by
  have hp := h.1.2.2.2
  constructor
  · rw [f_X5_emit, h.2.2.2.1, if_neg (show ¬ (800 : Int32) ≤ nI la by rw [i_le, i_nI (by omega)]; show ¬ (800 : Int) ≤ (la : Int); omega), if_pos (inN (show la < 800 by omega)), ixn (by omega)]
    simp only [lz_e]
    rw [wr_ne (show p ≠ p + 1 by omega), h.2.2.2.1, if_pos (inN (show la < 800 by omega)), ixn (by omega), wr_ne (show p ≠ p + 2 by omega), wr_ne (show p ≠ p + 1 by omega), h.2.2.2.1, n_suc, bd1_e]
    rfl
  · refine ⟨h.1.fr (emA_fr p la op arg A), h.2.1, ?_, (emA_op p la op arg A).2.2, ?_, ?_⟩
    · unfold emA; rw [wr_ne (by omega), wr_ne (by omega), wr_ne (by omega)]; exact h.2.2.1
    · unfold emA; rw [wr_ne (by omega), wr_ne (by omega), wr_ne (by omega)]; exact h.2.2.2.2.1
    · unfold emA; rw [wr_ne (by omega), wr_ne (by omega), wr_ne (by omega)]; exact h.2.2.2.2.2
/-- the number at token j -/
theorem numA_L (h : StA T L N p A) {e : Nat} (he : e ≤ L) (hB : ∀ j, j < L → 48 ≤ (T j).toInt → (T j).toInt ≤ 57 → A 1 j = T j) : ∀ (k q n : Nat) (v : Int32), q + k = e → k < n → (∀ j, q ≤ j → j < e → tDi T j = true) → f_X6_numberAt_L15 4 (nI e) A n v (nI q) = some (numV T k q v) := by
  obtain ⟨-, ⟨h5, h6, h7, h8⟩, -, -⟩ := h
  intro k
  induction k with
  | zero =>
    intro q n v hq hn hd
    obtain ⟨m, rfl⟩ : ∃ m, n = m + 1 := ⟨n - 1, by omega⟩
    rw [f_X6_numberAt_L15, if_pos (by rw [n_le (by omega) (by omega)]; omega)]
    rfl
  | succ k ih =>
    intro q n v hq hn hd
    obtain ⟨m, rfl⟩ : ∃ m, n = m + 1 := ⟨n - 1, by omega⟩
    have h1 : tDi T q = true := hd q (Nat.le_refl _) (by omega)
    unfold tDi at h1
    have h2 := of_decide_eq_true h1
    rw [f_X6_numberAt_L15, if_neg (by rw [n_le (by omega) (by omega)]; omega), h6, if_pos ok21, rid2, kd1, if_pos (inN (show q < 2000 by omega)), ixn (by omega), hB q (by omega) h2.1 h2.2, n_suc]
    simp only [lz_e]
    exact ih (q + 1) m _ (by omega) (by omega) (fun j h1 h2 => hd j (by omega) h2)
theorem tk_num {T : Nat → Int32} {L i : Nat} (h : tk T L i = 48) : tst T L i < L ∧ tpos T L (i + 1) = run (tDi T) L (tst T L i) ∧ run (tDi T) L (tst T L i) - tst T L i ≤ 6 := by
  have hs := tokT_le T L (tst T L i)
  have ht : tokT T L (tst T L i) = 48 := by
    unfold tk at h
    by_cases z : i = 400 ∧ tokT T L (tst T L i) ≠ 49
    · rw [if_pos z] at h; omega
    · rw [if_neg z] at h; exact h
  have z : tst T L i < L := by
    by_cases z : tst T L i < L
    · exact z
    · have := hs.2.2 z; omega
  rw [tpos_s]
  unfold tokT at ht
  unfold tokE
  rw [if_pos z] at ht ⊢
  by_cases z1 : tLe T (tst T L i) = true
  · rw [if_pos z1] at ht
    unfold worT at ht
    have := kw_word (T := T) (word_lt z z1) z1
    revert ht
    split
    · split <;> intro ht <;> omega
    · intro ht; omega
  · rw [if_neg z1] at ht ⊢
    by_cases z2 : tDi T (tst T L i) = true
    · rw [if_pos z2] at ht ⊢
      refine ⟨z, rfl, ?_⟩
      unfold numT at ht
      by_cases z3 : run (tDi T) L (tst T L i) - tst T L i ≤ 6
      · exact z3
      · rw [if_neg z3] at ht; omega
    · rw [if_neg z2] at ht
      exfalso
      unfold symT at ht
      have a1 := kw_one (T := T) z1
      have a2 := kw_two (T := T) z1
      revert ht
      split
      · intro ht; omega
      · split
        · intro ht; omega
        · intro ht; omega
theorem numA (h : StA T L N p A) {j : Nat} (hj : j ≤ N) (ht : tk T L j = 48) : f_X6_numberAt 4 (nI j) A = some (isB T L (tst T L j) 48) := by
  obtain ⟨t1, t2, t3⟩ := tk_num ht
  obtain ⟨r1, r2, r3, -⟩ := run_rng (P := tDi T) (L := L) _ (tst T L j) rfl (by omega)
  have h5 := h.2.1.1
  rw [f_X6_numberAt, endA h hj, bd1_e, startA h hj, bd1_e, t2, numA_L h r2 (fun q hq h1 h2 => ?_) (run (tDi T) L (tst T L j) - tst T L j) _ FU _ (by omega) (by unfold FU; omega) r3, bd1_e]
  · unfold isB
    rw [if_neg (by decide), if_neg (by decide), if_pos rfl]
  · rcases (h.2.1.2.2.2 q hq).2 with ⟨-, e⟩ | ⟨e, -⟩
    · exact e
    · omega
end SA
/-! the reference -/
theorem symI_inj : ∀ a, a < 47 → ∀ b, b < 47 → 30 ≤ a → 30 ≤ b → symI a = symI b → a = b := by decide +kernel
theorem kdB_n {t : Nat} (h : t < 51) : (kdB t = 2 ↔ (t < 30 ∨ t = 47)) ∧ (kdB t = 4 ↔ (30 ≤ t ∧ t < 47)) ∧ (kdB t = 3 ↔ t = 48) ∧ (kdB t = 1 ↔ t = 49) := by
  have : ∀ t, t < 51 → (kdB t = 2 ↔ (t < 30 ∨ t = 47)) ∧ (kdB t = 4 ↔ (30 ≤ t ∧ t < 47)) ∧ (kdB t = 3 ↔ t = 48) ∧ (kdB t = 1 ↔ t = 49) := by decide +kernel
  exact this t h
section SB
variable {T : Nat → Int32} {L i d sb s : Nat} {ea fa : Int32} {B : Mm}
theorem AtB.kd (h : AtB T L i d sb s ea fa B) : B 69 14 = kdB (tk T L i) := h.2.2.1.2.2.1
theorem AtB.is (h : AtB T L i d sb s ea fa B) (ht : tk T L i < 50) : B 69 16 = isB T L (tst T L i) (tk T L i) := h.2.2.1.2.2.2.2 ht
theorem AtB.st (h : AtB T L i d sb s ea fa B) : B 69 15 = nI (tst T L i) := h.2.2.1.2.2.2.1
theorem AtB.sees {c : Int32} {u : Nat} (hc : c = symI u) (hu : 30 ≤ u ∧ u < 47) (h : AtB T L i d sb s ea fa B) : f_X11_sees 69 c B = if tk T L i = u then 1 else 0 := by
  have hk := kdB_n (tk_le T L i).1
  rw [f_X11_sees, h.kd]
  by_cases z : 30 ≤ tk T L i ∧ tk T L i < 47
  · have e : isB T L (tst T L i) (tk T L i) = symI (tk T L i) := by
      unfold isB
      rw [if_neg (show ¬ tk T L i < 30 by omega), if_pos z.2]
    rw [if_pos (hk.2.1.mpr z), h.is (by omega), e, hc]
    by_cases z2 : tk T L i = u
    · rw [z2, if_pos rfl, if_pos rfl]
    · rw [if_neg z2, if_neg (fun e => z2 (symI_inj _ z.2 _ hu.2 z.1 hu.1 e))]
  · rw [if_neg (fun e => z (hk.2.1.mp e)), if_neg (by omega)]
theorem AtB.reads {c : Int32} {u : Nat} (hc : c = nI u) (hu : u < 30) (h : AtB T L i d sb s ea fa B) : f_X11_reads 69 c B = if tk T L i = u then 1 else 0 := by
  have hk := kdB_n (tk_le T L i).1
  rw [f_X11_reads, h.kd]
  by_cases z : tk T L i < 30
  · rw [if_pos (hk.1.mpr (Or.inl z)), h.is (by omega)]
    unfold isB
    rw [if_pos z, hc]
    by_cases z2 : tk T L i = u
    · rw [z2, if_pos rfl, if_pos rfl]
    · rw [if_neg z2, if_neg (fun e => z2 ((n_inj (by omega) (by omega)).mp e))]
  · by_cases z3 : tk T L i = 47
    · have e : isB T L (tst T L i) (tk T L i) = -1 := by rw [z3]; rfl
      rw [if_pos (hk.1.mpr (Or.inr z3)), h.is (by omega), e, if_neg (show ¬ (-1 : Int32) = c by rw [hc, i_eq, i_nI (by omega)]; show ¬ (-1 : Int) = (u : Int); omega), if_neg (show ¬ tk T L i = u by omega)]
    · rw [if_neg (fun e => by have := hk.1.mp e; omega), if_neg (by omega)]
theorem AtB.adv (h : AtB T L i d sb s ea fa B) (ht : tk T L i < 49) (hi : i < 400) : ∃ B', f_X11_advance 69 B = some B' ∧ AtB T L (i + 1) d sb s ea fa B' ∧ Fr B B' := by
  obtain ⟨h1, h2, h3, h4⟩ := h
  obtain ⟨B', e1, e2, e3⟩ := adv_tok (i := i + 1) h2 (by omega) (by rw [h1]; exact h3.1) (by rw [h3.2.1, if_neg (by omega)])
  rw [h1] at e3
  refine ⟨B', e1, ⟨by rw [e2.row (by decide)]; exact h1, e2.tap h2, e3, ?_⟩, e2⟩
  rw [e2 69 11 (by omega), e2 69 17 (by omega), e2 69 18 (by omega), e2 69 20 (by omega), e2 69 21 (by omega)]
  exact h4
/-- a change of the fields that the token doesn't show -/
theorem AtB.chg {B' : Mm} {d' sb' s' : Nat} {ea' fa' : Int32} (h : AtB T L i d sb s ea fa B) (k : ∀ r c, ¬ (r = 69 ∧ (c = 11 ∨ c = 17 ∨ c = 18 ∨ c = 20 ∨ c = 21)) → r ≠ 75 → B' r c = B r c) (k1 : B' 69 11 = nI sb') (k2 : B' 69 17 = nI d') (k3 : B' 69 18 = nI s') (k4 : B' 69 20 = ea') (k5 : ea' ≠ 0 → B' 69 21 = fa') : AtB T L i d' sb' s' ea' fa' B' := by
  obtain ⟨h1, h2, h3, h4⟩ := h
  have e70 : B' 70 = B 70 := funext fun c => k 70 c (by omega) (by omega)
  refine ⟨by rw [e70]; exact h1, ⟨h2.1, by rw [k 69 2 (by omega) (by omega)]; exact h2.2.1, by rw [e70]; exact h2.2.2⟩, ?_, k1, k2, k3, k4, k5⟩
  unfold TokR
  rw [k 69 12 (by omega) (by omega), k 69 13 (by omega) (by omega), k 69 14 (by omega) (by omega), k 69 15 (by omega) (by omega), k 69 16 (by omega) (by omega)]
  exact h3
theorem puB_o {sb : Nat} {c : Int32} {B : Mm} {r k : Nat} (h1 : ¬ (r = 69 ∧ k = 11)) (h2 : ¬ (r = 75 ∧ k = sb)) : puB sb c B r k = B r k := by
  unfold puB; rw [wr_o (by omega), wr_o (by omega)]
theorem puB_fr (sb : Nat) (c : Int32) (B : Mm) : FrB sb B (puB sb c B) := fun r k h1 h2 => puB_o (by omega) (by omega)
theorem puB_at (sb : Nat) (c : Int32) (B : Mm) : puB sb c B 75 sb = c := by unfold puB; rw [wr_ne (by decide), wr_at]
theorem AtB.put (h : AtB T L i d sb s ea fa B) (hl : sb < 4000) (c : Int32) : f_X11_put 69 c B = some (puB sb c B) ∧ AtB T L i d (sb + 1) s ea fa (puB sb c B) := by
  have hc : ∀ k, k ≠ 11 → puB sb c B 69 k = B 69 k := fun k hk => puB_o (by omega) (by omega)
  constructor
  · rw [f_X11_put, h.2.2.2.1, if_pos (inN hl), ixn (by omega)]
    simp only [lz_e, show (69 + 6 : Nat) = 75 from rfl]
    rw [wr_ne (by decide), h.2.2.2.1, n_suc]
    rfl
  · refine h.chg (fun r k h1 h2 => puB_o (by omega) (by omega)) (wr_at _ _ _ _) ?_ ?_ ?_ ?_
    · rw [hc 17 (by decide)]; exact h.2.2.2.2.1
    · rw [hc 18 (by decide)]; exact h.2.2.2.2.2.1
    · rw [hc 20 (by decide)]; exact h.2.2.2.2.2.2.1
    · rw [hc 21 (by decide)]; exact h.2.2.2.2.2.2.2
theorem AtB.dep {d' : Nat} (h : AtB T L i d sb s ea fa B) : AtB T L i d' sb s ea fa (wr B 69 17 (nI d')) := by
  refine h.chg (fun r k h1 h2 => wr_o (by omega)) ?_ (wr_at _ _ _ _) ?_ ?_ ?_
  · rw [wr_col (by decide)]; exact h.2.2.2.1
  · rw [wr_col (by decide)]; exact h.2.2.2.2.2.1
  · rw [wr_col (by decide)]; exact h.2.2.2.2.2.2.1
  · rw [wr_col (by decide)]; exact h.2.2.2.2.2.2.2
theorem AtB.slo {s' : Nat} (h : AtB T L i d sb s ea fa B) : AtB T L i d sb s' ea fa (wr B 69 18 (nI s')) := by
  refine h.chg (fun r k h1 h2 => wr_o (by omega)) ?_ ?_ (wr_at _ _ _ _) ?_ ?_
  · rw [wr_col (by decide)]; exact h.2.2.2.1
  · rw [wr_col (by decide)]; exact h.2.2.2.2.1
  · rw [wr_col (by decide)]; exact h.2.2.2.2.2.2.1
  · rw [wr_col (by decide)]; exact h.2.2.2.2.2.2.2
theorem AtB.deepN (h : AtB T L i d sb s ea fa B) (hd : d = 8) : f_X11_deeper 69 B = some (0, B) := by
  rw [f_X11_deeper, h.2.2.2.2.1, hd, if_pos (by decide)]
theorem AtB.deepY (h : AtB T L i d sb s ea fa B) (hd : d < 8) (ht : tk T L i < 49) (hi : i < 400) : ∃ B', f_X11_deeper 69 B = some (1, B') ∧ AtB T L (i + 1) (d + 1) sb s ea fa B' ∧ FrB sb B B' := by
  obtain ⟨B', e1, e2, e3⟩ := (h.dep (d' := d + 1)).adv ht hi
  refine ⟨B', ?_, e2, (FrB.w69 (by omega)).trans e3.frB (Nat.le_refl _)⟩
  rw [f_X11_deeper, h.2.2.2.2.1, if_neg (by rw [show ((8 : Int32)) = nI 8 from rfl, n_inj (by omega) (by omega)]; omega), lz_e, n_suc, e1, bd1_e]
theorem AtB.shalY {c : Int32} {u : Nat} (hc : c = symI u) (hu : 30 ≤ u ∧ u < 47) (h : AtB T L i (d + 1) sb s ea fa B) (ht : tk T L i = u) (hd : d < 8) (hi : i < 400) : ∃ B', f_X11_shallower 69 c B = some (1, B') ∧ AtB T L (i + 1) d sb s ea fa B' ∧ FrB sb B B' := by
  obtain ⟨B', e1, e2, e3⟩ := (h.dep (d' := d)).adv (by omega) hi
  refine ⟨B', ?_, e2, (FrB.w69 (by omega)).trans e3.frB (Nat.le_refl _)⟩
  rw [f_X11_shallower, h.sees hc hu, lz_e, if_pos ht, if_neg (show ¬ (1 : Int32) = 0 by decide), h.2.2.2.2.1, lz_e, show nI (d + 1) - 1 = nI d from n_sub (b := 1) (by omega) (by omega), e1, bd1_e]
theorem AtB.shalN {c : Int32} {u : Nat} (hc : c = symI u) (hu : 30 ≤ u ∧ u < 47) (h : AtB T L i d sb s ea fa B) (ht : tk T L i ≠ u) : f_X11_shallower 69 c B = some (0, B) := by
  rw [f_X11_shallower, h.sees hc hu, lz_e, if_neg ht, if_pos rfl]
theorem AtB.passY {c : Int32} {u : Nat} (hc : c = symI u) (hu : 30 ≤ u ∧ u < 47) (h : AtB T L i d sb s ea fa B) (ht : tk T L i = u) (hi : i < 400) : ∃ B', f_X11_passSymbol 69 c B = some (1, B') ∧ AtB T L (i + 1) d sb s ea fa B' ∧ FrB sb B B' := by
  obtain ⟨B', e1, e2, e3⟩ := h.adv (by omega) hi
  exact ⟨B', by rw [f_X11_passSymbol, h.sees hc hu, lz_e, if_pos ht, if_neg (show ¬ (1 : Int32) = 0 by decide), e1, bd1_e], e2, e3.frB⟩
theorem AtB.passN {c : Int32} {u : Nat} (hc : c = symI u) (hu : 30 ≤ u ∧ u < 47) (h : AtB T L i d sb s ea fa B) (ht : tk T L i ≠ u) : f_X11_passSymbol 69 c B = some (0, B) := by
  rw [f_X11_passSymbol, h.sees hc hu, lz_e, if_neg ht, if_pos rfl]
end SB
