/-! needs 30 31 32 39 50 51 52 53 54 55 56 57 58 59 60 61 62 63 -/
/-! names of gangs beside each other -/
theorem StA.ch {T : Nat → Int32} {L N p : Nat} {A A' : Mm} (h : StA T L N p A) (k : ∀ r c, (r = 1 ∨ (3 < r ∧ r < 8) ∨ (r = 3 ∧ c = 3)) → A' r c = A r c) : StA T L N p A' := by
  obtain ⟨⟨h1, h2, h3, h4⟩, ⟨h5, h6, h7, h8⟩, h9, h10⟩ := h
  refine ⟨⟨h1, h2, h3, fun j hj => ?_⟩, ⟨h5, ?_, ?_, fun j hj => ?_⟩, ?_, h10⟩
  · rw [k 5 j (by omega), k 6 j (by omega), k 7 j (by omega)]; exact h4 j hj
  · rw [k 4 3 (by omega)]; exact h6
  · rw [k 4 4 (by omega)]; exact h7
  · rw [k 1 j (by omega)]; exact h8 j hj
  · rw [k 3 3 (by omega)]; exact h9
theorem AtA.ch {T : Nat → Int32} {L N p i la : Nat} {ea fa : Int32} {A A' : Mm} (h : AtA T L N p i la ea fa A) (k : ∀ r c, (r = 1 ∨ (3 < r ∧ r < 8) ∨ (r = 3 ∧ 3 ≤ c ∧ c ≤ 6) ∨ (r = p ∧ c = 2)) → A' r c = A r c) : AtA T L N p i la ea fa A' := by
  refine ⟨h.1.ch (fun r c e => k r c (by omega)), h.2.1, ?_, ?_, ?_, ?_⟩
  · rw [k 3 4 (by omega)]; exact h.2.2.1
  · rw [k p 2 (by omega)]; exact h.2.2.2.1
  · rw [k 3 5 (by omega)]; exact h.2.2.2.2.1
  · rw [k 3 6 (by omega)]; exact h.2.2.2.2.2
theorem AtB.ch {T : Nat → Int32} {L i d sb s : Nat} {ea fa : Int32} {B B' : Mm} (h : AtB T L i d sb s ea fa B) (k : ∀ r c, r ≤ 70 → ¬ (r = 69 ∧ c = 19) → B' r c = B r c) : AtB T L i d sb s ea fa B' := by
  obtain ⟨h1, h2, h3, h4, h5, h6, h7, h8⟩ := h
  have e70 : B' 70 = B 70 := funext fun c => k 70 c (by omega) (by omega)
  refine ⟨by rw [e70]; exact h1, ⟨h2.1, by rw [k 69 2 (by omega) (by omega)]; exact h2.2.1, by rw [e70]; exact h2.2.2⟩, ?_, ?_, ?_, ?_, ?_, ?_⟩
  · unfold TokR
    rw [k 69 12 (by omega) (by omega), k 69 13 (by omega) (by omega), k 69 14 (by omega) (by omega), k 69 15 (by omega) (by omega), k 69 16 (by omega) (by omega)]
    exact h3
  · rw [k 69 11 (by omega) (by omega)]; exact h4
  · rw [k 69 17 (by omega) (by omega)]; exact h5
  · rw [k 69 18 (by omega) (by omega)]; exact h6
  · rw [k 69 20 (by omega) (by omega)]; exact h7
  · rw [k 69 21 (by omega) (by omega)]; exact h8
def FtA (p : Nat) (A A' : Mm) : Prop := ∀ r c, ¬ (r = 3 ∧ (c = 2 ∨ (4 ≤ c ∧ c ≤ 6))) → r ≠ 9 → ¬ (r = p ∧ (c = 2 ∨ c = 6)) → ¬ (p < r ∧ r ≤ p + 5) → A' r c = A r c
def FtB (B B' : Mm) : Prop := ∀ r c, ¬ (r = 69 ∧ 11 ≤ c ∧ c ≤ 21) → ¬ (75 ≤ r ∧ r ≤ 80) → B' r c = B r c
theorem FtA.trans {p : Nat} {A A' A'' : Mm} (h : FtA p A A') (k : FtA p A' A'') : FtA p A A'' := fun r c a b d e => (k r c a b d e).trans (h r c a b d e)
theorem FtB.trans {B B' B'' : Mm} (h : FtB B B') (k : FtB B' B'') : FtB B B'' := fun r c a b => (k r c a b).trans (h r c a b)
theorem FtA.refl (p : Nat) (A : Mm) : FtA p A A := fun _ _ _ _ _ _ => rfl
theorem FtB.refl (B : Mm) : FtB B B := fun _ _ _ _ => rfl
theorem FrA.ft {p la : Nat} {A A' : Mm} (h : FrA p la A A') : FtA p A A' := fun r c a b d e => h.1 r c (by omega) (by omega) (by omega)
theorem FrB.ft {sb : Nat} {B B' : Mm} (h : FrB sb B B') : FtB B B' := fun r c a b => h r c (by omega) (by omega)
def smL (T : Nat → Int32) (s1 s2 : Nat) : Nat → Nat → Bool
  | 0, _ => true
  | k + 1, j => decide (T (s1 + j) = T (s2 + j)) && smL T s1 s2 k (j + 1)
theorem smL_s (T : Nat → Int32) (s1 s2 k j : Nat) : smL T s1 s2 (k + 1) j = (decide (T (s1 + j) = T (s2 + j)) && smL T s1 s2 k (j + 1)) := rfl
def sm (T : Nat → Int32) (s1 n1 s2 n2 : Nat) : Bool := decide (n2 = n1) && smL T s1 s2 n1 0
def tln (T : Nat → Int32) (L j : Nat) : Nat := tpos T L (j + 1) - tst T L j
/-- token j's text beside token i's -/
def dup (T : Nat → Int32) (L j i : Nat) : Bool := sm T (tst T L j) (tln T L j) (tst T L i) (tln T L i)
section NA
variable {T : Nat → Int32} {L N p : Nat} {A B : Mm}
theorem tln_le (T : Nat → Int32) (L j : Nat) : tst T L j + tln T L j = tpos T L (j + 1) ∧ tst T L j + tln T L j ≤ L := by
  have h1 := tst_pos T L j
  have h2 := tpos_le (T := T) (L := L) (j + 1)
  unfold tln; omega
theorem same_L {s1 s2 len : Nat} (h : StA T L N p A) (hT : ∀ j, j < L → Byt (A 1 j) (T j)) (h1 : s1 + len ≤ L) (h2 : s2 + len ≤ L) : ∀ (k j n : Nat), j + k = len → k < n → f_X6_isSameText_L40 4 (nI s1) (nI s2) (nI len) A n (nI j) = some (if smL T s1 s2 k j = true then 1 else 0) := by
  obtain ⟨-, ⟨h5, h6, h7, -⟩, -, -⟩ := h
  intro k
  induction k with
  | zero =>
    intro j n hj hn
    obtain ⟨m, rfl⟩ : ∃ m, n = m + 1 := ⟨n - 1, by omega⟩
    rw [f_X6_isSameText_L40, if_pos (by rw [n_le (by omega) (by omega)]; omega)]
    rfl
  | succ k ih =>
    intro j n hj hn
    obtain ⟨m, rfl⟩ : ∃ m, n = m + 1 := ⟨n - 1, by omega⟩
    rw [f_X6_isSameText_L40, if_neg (by rw [n_le (by omega) (by omega)]; omega), h6, if_pos ok21, rid2, kd1, n_add, if_pos (inN (show s1 + j < 2000 by omega)), if_pos ok21, n_add, if_pos (inN (show s2 + j < 2000 by omega)), ixn (by omega), ixn (by omega), n_suc, lz_e, ih (j + 1) m (by omega) (by omega), smL_s]
    have e := (hT (s1 + j) (by omega)).inj (hT (s2 + j) (by omega))
    by_cases z : T (s1 + j) = T (s2 + j)
    · rw [if_pos (by rw [e]; exact z), decide_eq_true z, Bool.true_and]
    · rw [if_neg (by rw [e]; exact z), decide_eq_false z, Bool.false_and]; rfl
theorem sameA (h : StA T L N p A) {j i : Nat} (hj : j ≤ N) (hi : i ≤ N) : f_X6_isSameText 4 (nI j) (nI i) A = some (if dup T L j i = true then 1 else 0) := by
  have a1 := tln_le T L j
  have a2 := tln_le T L i
  have hL := h.2.1.1
  rw [f_X6_isSameText, startA h hj, bd1_e, startA h hi, bd1_e, endA h hj, bd1_e, endA h hi, bd1_e, n_sub (tst_pos T L i) (by omega), n_sub (tst_pos T L j) (by omega)]
  unfold dup sm
  show (if nI (tln T L i) = nI (tln T L j) then _ else _) = _
  by_cases z : tln T L i = tln T L j
  · rw [if_pos (by rw [z]), decide_eq_true z, Bool.true_and]
    exact same_L h h.2.1.2.2.2 a1.2 (by omega) (tln T L j) 0 FU (by omega) (by unfold FU; omega)
  · rw [if_neg (fun e => z ((n_inj (by omega) (by omega)).mp e)), decide_eq_false z, Bool.false_and]; rfl
theorem nameL {s1 s2 len e2 : Nat} (h70 : B 70 = T) (hL : L ≤ 2000) (h1 : s1 + len ≤ L) (h2 : s2 + len ≤ L) (he : e2 = s2 + len) {v : Nat} (hv : v < 100) (k1 : B 69 12 = nI e2) (k2 : B 69 15 = nI s2) (k3 : B 76 v = nI s1) : ∀ (k j n : Nat), j + k = len → k < n → f_X11_isNameOf_L22 69 (nI v) B n (nI j) = some (if smL T s1 s2 k j = true then 1 else 0) := by
  subst he
  have e1 : nI (s2 + len) - nI s2 = nI len := by rw [n_sub (by omega) (by omega)]; congr 1; omega
  intro k
  induction k with
  | zero =>
    intro j n hj hn
    obtain ⟨m, rfl⟩ : ∃ m, n = m + 1 := ⟨n - 1, by omega⟩
    rw [f_X11_isNameOf_L22, k1, k2, e1, if_pos (by rw [n_le (by omega) (by omega)]; omega)]
    rfl
  | succ k ih =>
    intro j n hj hn
    obtain ⟨m, rfl⟩ : ∃ m, n = m + 1 := ⟨n - 1, by omega⟩
    rw [f_X11_isNameOf_L22, k1, k2, e1, if_neg (by rw [n_le (by omega) (by omega)]; omega), if_pos (inN hv), ixn (show v < 2147483648 by omega), show (69 + 7 : Nat) = 76 from rfl, k3, n_add, if_pos (inN (show s1 + j < 2000 by omega)), n_add, if_pos (inN (show s2 + j < 2000 by omega)), ixn (by omega), ixn (by omega), show (69 + 1 : Nat) = 70 from rfl, h70, n_suc, lz_e, ih (j + 1) m (by omega) (by omega), smL_s]
    by_cases z : T (s1 + j) = T (s2 + j)
    · rw [if_pos z, decide_eq_true z, Bool.true_and]
    · rw [if_neg z, decide_eq_false z, Bool.false_and]; rfl
theorem nameB {j i v : Nat} (h70 : B 70 = T) (hL : L ≤ 2000) (hv : v < 100) (k1 : B 69 12 = nI (tpos T L (i + 1))) (k2 : B 69 15 = nI (tst T L i)) (k3 : B 76 v = nI (tst T L j)) (k4 : B 77 v = nI (tln T L j)) : f_X11_isNameOf 69 (nI v) B = some (if dup T L j i = true then 1 else 0) := by
  have a1 := tln_le T L j
  have a2 := tln_le T L i
  rw [f_X11_isNameOf, if_pos (inN hv), ixn (by omega), show (69 + 8 : Nat) = 77 from rfl, k4, k1, k2, n_sub (tst_pos T L i) (by omega)]
  unfold dup sm
  show (if nI (tln T L j) = nI (tln T L i) then _ else _) = _
  by_cases z : tln T L i = tln T L j
  · rw [if_pos (by rw [z]), decide_eq_true z, Bool.true_and]
    exact nameL h70 hL (len := tln T L j) a1.2 (by omega) (by omega) hv k1 k2 k3 (tln T L j) 0 FU (by omega) (by unfold FU; omega)
  · rw [if_neg (fun e => z ((n_inj (by omega) (by omega)).mp e).symm), decide_eq_false z, Bool.false_and]; rfl
end NA
/-- the error behind k names from v on: the first that is the same text -/
def lp (D : Nat → Bool) (st : Int32) : Nat → Nat → Int32 × Int32 → Int32 × Int32
  | 0, _, x => x
  | k + 1, v, x => lp D st k (v + 1) (if D v = true then (if x.1 = 0 then (2, st) else x) else x)
theorem lp_ne {D : Nat → Bool} {st : Int32} : ∀ (k v : Nat) (x : Int32 × Int32), x.1 ≠ 0 → lp D st k v x = x
  | 0, _, _, _ => rfl
  | k + 1, v, x, h => by
    show lp D st k (v + 1) (if D v = true then (if x.1 = 0 then (2, st) else x) else x) = x
    rw [if_neg h, ite_self, lp_ne k (v + 1) x h]
theorem lp_0 {D : Nat → Bool} {st : Int32} : ∀ (k v : Nat) (x : Int32 × Int32), (lp D st k v x).1 = 0 → x.1 = 0 ∧ lp D st k v x = x
  | 0, _, _, h => ⟨h, rfl⟩
  | k + 1, v, x, h => by
    have i := lp_0 k (v + 1) (if D v = true then (if x.1 = 0 then (2, st) else x) else x) h
    have e : (if D v = true then (if x.1 = 0 then ((2 : Int32), st) else x) else x) = x := by
      by_cases z : D v = true
      · rw [if_pos z] at i ⊢
        by_cases z2 : x.1 = 0
        · rw [if_pos z2] at i; exact absurd i.1 (show ¬ (2 : Int32) = 0 by decide)
        · rw [if_neg z2]
      · rw [if_neg z]
    rw [e] at i
    exact ⟨i.1, by show lp D st k (v + 1) _ = x; rw [e]; exact i.2⟩
theorem lp_cong {D E : Nat → Bool} {st : Int32} : ∀ (k v : Nat) (x : Int32 × Int32), (∀ j, v ≤ j → j < v + k → D j = E j) → lp D st k v x = lp E st k v x
  | 0, _, _, _ => rfl
  | k + 1, v, x, h => by
    show lp D st k (v + 1) _ = lp E st k (v + 1) _
    rw [h v (Nat.le_refl _) (by omega)]
    exact lp_cong k (v + 1) _ (fun j a b => h j (by omega) (by omega))
section NB
variable {T : Nat → Int32} {L N p : Nat}
/-- the class notes the names that are there already -/
theorem noteA_L {i la m j : Nat} {D : Nat → Bool} (hj : j ≤ N) (hm : m ≤ 4) : ∀ (k v n : Nat) (A : Mm) (x : Int32 × Int32), v + k = m → k < n → AtA T L N p i la x.1 x.2 A → A 3 2 = nI m → (∀ w, w < m → ∃ q, q ≤ N ∧ A 9 w = nI q ∧ D w = dup T L q j) → ∃ A', f_X4_noteName_L2 3 (nI j) n (nI v) A = some A' ∧ AtA T L N p i la (lp D (nI (tst T L j)) k v x).1 (lp D (nI (tst T L j)) k v x).2 A' ∧ FrA p la A A' := by
  intro k
  induction k with
  | zero =>
    intro v n A x hv hn hA h32 hD
    obtain ⟨n', rfl⟩ : ∃ m, n = m + 1 := ⟨n - 1, by omega⟩
    exact ⟨A, by rw [f_X4_noteName_L2, h32, if_pos (by rw [n_le (by omega) (by omega)]; omega)], hA, FrA.refl _ _ _⟩
  | succ k ih =>
    intro v n A x hv hn hA h32 hD
    obtain ⟨n', rfl⟩ : ∃ m, n = m + 1 := ⟨n - 1, by omega⟩
    obtain ⟨q, q1, q2, q3⟩ := hD v (by omega)
    have hp := hA.1.2.2.2
    rw [f_X4_noteName_L2, h32, if_neg (by rw [n_le (by omega) (by omega)]; omega), if_pos (inN (show v < 4 by omega)), ixn (by omega), show (3 + 6 : Nat) = 9 from rfl, show (3 + 1 : Nat) = 4 from rfl, q2, sameA hA.1 q1 hj, bd1_e, n_suc, ← q3]
    by_cases z : D v = true
    · obtain ⟨A1, e1, e2, e3⟩ := noteA (c := 2) (by decide) hA hj
      rw [if_pos z, if_neg (show ¬ (1 : Int32) = 0 by decide), e1, bd1_e, bd1_e, lz_e]
      have e2' : AtA T L N p i la (if x.1 = 0 then ((2 : Int32), nI (tst T L j)) else x).1 (if x.1 = 0 then ((2 : Int32), nI (tst T L j)) else x).2 A1 := by
        by_cases y : x.1 = 0
        · rw [if_pos y] at e2 ⊢; rw [if_pos y] at e2; exact e2
        · rw [if_neg y] at e2 ⊢; rw [if_neg y] at e2; exact e2
      obtain ⟨A', f1, f2, f3⟩ := ih (v + 1) n' A1 _ (by omega) (by omega) e2' (by rw [e3.1 3 2 (by omega) (by omega) (by omega)]; exact h32) (fun w hw => by
        obtain ⟨q, a, b, c⟩ := hD w hw
        exact ⟨q, a, by rw [e3.1 9 w (by omega) (by omega) (by omega)]; exact b, c⟩)
      refine ⟨A', f1, ?_, e3.trans f3 (Nat.le_refl _)⟩
      show AtA T L N p i la (lp D _ k (v + 1) (if D v = true then _ else _)).1 (lp D _ k (v + 1) (if D v = true then _ else _)).2 A'
      rw [if_pos z]; exact f2
    · rw [if_neg z, if_pos rfl, bd1_e, lz_e]
      obtain ⟨A', f1, f2, f3⟩ := ih (v + 1) n' A x (by omega) (by omega) hA h32 hD
      refine ⟨A', f1, ?_, f3⟩
      show AtA T L N p i la (lp D _ k (v + 1) (if D v = true then _ else _)).1 (lp D _ k (v + 1) (if D v = true then _ else _)).2 A'
      rw [if_neg z]; exact f2
theorem faultB_L {i d sb s m : Nat} {D : Nat → Bool} (hm : m < 100) (hL : L ≤ 2000) : ∀ (k v n : Nat) (B : Mm) (x : Int32 × Int32), v + k = m → k < n → AtB T L i d sb s x.1 x.2 B → B 69 19 = nI m → (∀ w, w < m → ∃ q, B 76 w = nI (tst T L q) ∧ B 77 w = nI (tln T L q) ∧ D w = dup T L q i) → ∃ B', f_X11_gang_L24 69 n (nI v) B = some B' ∧ AtB T L i d sb s (lp D (nI (tst T L i)) k v x).1 (lp D (nI (tst T L i)) k v x).2 B' ∧ (∀ r j, ¬ (r = 69 ∧ (j = 20 ∨ j = 21)) → B' r j = B r j) := by
  intro k
  induction k with
  | zero =>
    intro v n B x hv hn hB h19 hD
    obtain ⟨n', rfl⟩ : ∃ m, n = m + 1 := ⟨n - 1, by omega⟩
    exact ⟨B, by rw [f_X11_gang_L24, h19, if_pos (by rw [n_le (by omega) (by omega)]; omega)], hB, fun _ _ _ => rfl⟩
  | succ k ih =>
    intro v n B x hv hn hB h19 hD
    obtain ⟨n', rfl⟩ : ∃ m, n = m + 1 := ⟨n - 1, by omega⟩
    obtain ⟨q, q1, q2, q3⟩ := hD v (by omega)
    rw [f_X11_gang_L24, h19, if_neg (by rw [n_le (by omega) (by omega)]; omega), nameB hB.1 hL (show v < 100 by omega) hB.2.2.1.1 hB.st q1 q2, bd1_e, n_suc, ← q3]
    by_cases z : D v = true
    · obtain ⟨B1, e1, e2, e3⟩ := faultB (c := 2) (by decide) hB
      rw [if_pos z, if_neg (show ¬ (1 : Int32) = 0 by decide), e1, bd1_e, bd1_e, lz_e]
      have e2' : AtB T L i d sb s (if x.1 = 0 then ((2 : Int32), nI (tst T L i)) else x).1 (if x.1 = 0 then ((2 : Int32), nI (tst T L i)) else x).2 B1 := by
        by_cases y : x.1 = 0
        · rw [if_pos y] at e2 ⊢; rw [if_pos y] at e2; exact e2
        · rw [if_neg y] at e2 ⊢; rw [if_neg y] at e2; exact e2
      obtain ⟨B', f1, f2, f3⟩ := ih (v + 1) n' B1 _ (by omega) (by omega) e2' (by rw [e3 69 19 (by omega)]; exact h19) (fun w hw => by
        obtain ⟨q, a, b, c⟩ := hD w hw
        exact ⟨q, by rw [e3 76 w (by omega)]; exact a, by rw [e3 77 w (by omega)]; exact b, c⟩)
      refine ⟨B', f1, ?_, fun r j h => (f3 r j h).trans (e3 r j h)⟩
      show AtB T L i d sb s (lp D _ k (v + 1) (if D v = true then _ else _)).1 (lp D _ k (v + 1) (if D v = true then _ else _)).2 B'
      rw [if_pos z]; exact f2
    · rw [if_neg z, if_pos rfl, bd1_e, lz_e]
      obtain ⟨B', f1, f2, f3⟩ := ih (v + 1) n' B x (by omega) (by omega) hB h19 hD
      refine ⟨B', f1, ?_, f3⟩
      show AtB T L i d sb s (lp D _ k (v + 1) (if D v = true then _ else _)).1 (lp D _ k (v + 1) (if D v = true then _ else _)).2 B'
      rw [if_neg z]; exact f2
end NB
