/-! needs 30 31 44 -/
/-! the bog rises -/
def dN (a : Bool) (v : Int32) : Int32 := if a = true ∧ ¬ v ≤ 0 then 1 else 0
def nbs (P : Nat → Int32) (k : Nat) : Int32 := ((dN (decide (0 < k % 8)) (P (k - 1)) + dN (decide (k % 8 < 7)) (P (k + 1))) + dN (decide (0 < k / 8)) (P (k - 8))) + dN (decide (k / 8 < 7)) (P (k + 8))
theorem dN_congr {a : Bool} {v v' : Int32} (h : a = true → v = v') : dN a v = dN a v' := by
  cases a
  · unfold dN; rw [if_neg (fun z => by cases z.1), if_neg (fun z => by cases z.1)]
  · rw [h rfl]
theorem nbs_congr {P P' : Nat → Int32} {k : Nat} (hk : k < 64) (h : ∀ c, c < 64 → P c = P' c) : nbs P k = nbs P' k := by
  unfold nbs
  rw [dN_congr (fun e => h (k - 1) (by omega)), dN_congr (a := decide (k % 8 < 7)) (fun e => h (k + 1) (by have := of_decide_eq_true e; omega)), dN_congr (a := decide (0 < k / 8)) (fun e => h (k - 8) (by omega)), dN_congr (a := decide (k / 8 < 7)) (fun e => h (k + 8) (by have := of_decide_eq_true e; omega))]
theorem k88 : ∀ k, k < 64 → nI k - nI k / (8 : Int32) * (8 : Int32) = nI (k % 8) ∧ nI k / (8 : Int32) = nI (k / 8) := by decide +kernel
theorem le0 {m : Nat} (h : m < 2147483648) : (nI m ≤ 0) = (m = 0) := by
  rw [i_le, i_nI h]; show (((m : Int) ≤ 0) = _); exact propext ⟨fun h => by omega, fun h => by omega⟩
theorem ge7 {m : Nat} (h : m < 2147483648) : ((7 : Int32) ≤ nI m) = (7 ≤ m) := by
  rw [i_le, i_nI h]; show (((7 : Int) ≤ (m : Int)) = _); exact propext ⟨fun h => by omega, fun h => by omega⟩
section NB
variable {b k : Nat} {A B : Mm}
theorem nbA (hk : k < 64) : f_X1_neighboursWithPeat b (nI k) A = some (nbs (A (b + 2)) k) := by
  obtain ⟨k1, k2⟩ := k88 k hk
  have s1 : (if (nI (k % 8) ≤ 0) then (some ((0 : Int32))) else (if 0 ≤ (nI k - (1 : Int32)).toInt ∧ (nI k - (1 : Int32)).toInt < ((64 : Nat) : Int) then (if ((A (b + 2) (ix (nI k - (1 : Int32)))) ≤ 0) then (some ((0 : Int32))) else (some ((0 : Int32) + (1 : Int32)))) else none)) = some (dN (decide (0 < k % 8)) (A (b + 2) (k - 1))) := by
    simp only [le0 (show k % 8 < 2147483648 by omega)]
    unfold dN
    by_cases h : k % 8 = 0
    · rw [if_pos h, if_neg (fun z => by have := of_decide_eq_true z.1; omega)]
    · have e : nI k - (1 : Int32) = nI (k - 1) := n_sub (b := 1) (by omega) (by omega)
      rw [if_neg h, e, if_pos (inN (show k - 1 < 64 by omega)), ixn (by omega)]
      by_cases h2 : A (b + 2) (k - 1) ≤ 0
      · rw [if_pos h2, if_neg (fun z => z.2 h2)]
      · rw [if_neg h2, if_pos ⟨decide_eq_true (by omega), h2⟩]; rfl
  have s2 : ∀ x : Int32, (if ((7 : Int32) ≤ nI (k % 8)) then (some x) else (if 0 ≤ (nI k + (1 : Int32)).toInt ∧ (nI k + (1 : Int32)).toInt < ((64 : Nat) : Int) then (if ((A (b + 2) (ix (nI k + (1 : Int32)))) ≤ 0) then (some x) else (some (x + (1 : Int32)))) else none)) = some (x + dN (decide (k % 8 < 7)) (A (b + 2) (k + 1))) := by
    intro x
    simp only [ge7 (show k % 8 < 2147483648 by omega)]
    unfold dN
    by_cases h : 7 ≤ k % 8
    · rw [if_pos h, if_neg (fun z => by have := of_decide_eq_true z.1; omega), Int32.add_zero]
    · rw [if_neg h, n_suc, if_pos (inN (show k + 1 < 64 by omega)), ixn (by omega)]
      by_cases h2 : A (b + 2) (k + 1) ≤ 0
      · rw [if_pos h2, if_neg (fun z => z.2 h2), Int32.add_zero]
      · rw [if_neg h2, if_pos ⟨decide_eq_true (by omega), h2⟩]
  have s3 : ∀ x : Int32, (if (nI (k / 8) ≤ 0) then (some x) else (if 0 ≤ (nI k - (8 : Int32)).toInt ∧ (nI k - (8 : Int32)).toInt < ((64 : Nat) : Int) then (if ((A (b + 2) (ix (nI k - (8 : Int32)))) ≤ 0) then (some x) else (some (x + (1 : Int32)))) else none)) = some (x + dN (decide (0 < k / 8)) (A (b + 2) (k - 8))) := by
    intro x
    simp only [le0 (show k / 8 < 2147483648 by omega)]
    unfold dN
    by_cases h : k / 8 = 0
    · rw [if_pos h, if_neg (fun z => by have := of_decide_eq_true z.1; omega), Int32.add_zero]
    · have e : nI k - (8 : Int32) = nI (k - 8) := n_sub (b := 8) (by omega) (by omega)
      rw [if_neg h, e, if_pos (inN (show k - 8 < 64 by omega)), ixn (by omega)]
      by_cases h2 : A (b + 2) (k - 8) ≤ 0
      · rw [if_pos h2, if_neg (fun z => z.2 h2), Int32.add_zero]
      · rw [if_neg h2, if_pos ⟨decide_eq_true (by omega), h2⟩]
  have s4 : ∀ x : Int32, (if ((7 : Int32) ≤ nI (k / 8)) then (some x) else (if 0 ≤ (nI k + (8 : Int32)).toInt ∧ (nI k + (8 : Int32)).toInt < ((64 : Nat) : Int) then (if ((A (b + 2) (ix (nI k + (8 : Int32)))) ≤ 0) then (some x) else (some (x + (1 : Int32)))) else none)) = some (x + dN (decide (k / 8 < 7)) (A (b + 2) (k + 8))) := by
    intro x
    simp only [ge7 (show k / 8 < 2147483648 by omega)]
    unfold dN
    by_cases h : 7 ≤ k / 8
    · rw [if_pos h, if_neg (fun z => by have := of_decide_eq_true z.1; omega), Int32.add_zero]
    · rw [if_neg h, ga8, if_pos (inN (show k + 8 < 64 by omega)), ixn (by omega)]
      by_cases h2 : A (b + 2) (k + 8) ≤ 0
      · rw [if_pos h2, if_neg (fun z => z.2 h2), Int32.add_zero]
      · rw [if_neg h2, if_pos ⟨decide_eq_true (by omega), h2⟩]
  rw [f_X1_neighboursWithPeat, k1, k2]
  simp only [lz_e]
  rw [s1, bd1_e, s2, bd1_e, s3, bd1_e, s4, bd1_e]
  rfl
theorem flg : f_X11_flag 0 = 0 ∧ f_X11_flag 1 = 1 := by decide
theorem nbB (hk : k < 64) : f_X11_withPeat 69 (nI k) B = some (nbs (B 82) k) := by
  obtain ⟨k1, k2⟩ := k88 k hk
  obtain ⟨f0, f1⟩ := flg
  have s1 : ∃ x, (if (nI (k % 8) ≤ 0) then (some ((0 : Int32))) else (if 0 ≤ (nI k - (1 : Int32)).toInt ∧ (nI k - (1 : Int32)).toInt < ((64 : Nat) : Int) then (if ((B 82 (ix (nI k - (1 : Int32)))) ≤ 0) then (some ((0 : Int32))) else (some (1 : Int32))) else none)) = some x ∧ f_X11_flag x = dN (decide (0 < k % 8)) (B 82 (k - 1)) := by
    simp only [le0 (show k % 8 < 2147483648 by omega)]
    unfold dN
    by_cases h : k % 8 = 0
    · rw [if_pos h, if_neg (fun z => by have := of_decide_eq_true z.1; omega)]; exact ⟨_, rfl, f0⟩
    · have e : nI k - (1 : Int32) = nI (k - 1) := n_sub (b := 1) (by omega) (by omega)
      rw [if_neg h, e, if_pos (inN (show k - 1 < 64 by omega)), ixn (by omega)]
      by_cases h2 : B 82 (k - 1) ≤ 0
      · rw [if_pos h2, if_neg (fun z => z.2 h2)]; exact ⟨_, rfl, f0⟩
      · rw [if_neg h2, if_pos ⟨decide_eq_true (by omega), h2⟩]; exact ⟨_, rfl, f1⟩
  have s2 : ∃ x, (if ((7 : Int32) ≤ nI (k % 8)) then (some ((0 : Int32))) else (if 0 ≤ (nI k + (1 : Int32)).toInt ∧ (nI k + (1 : Int32)).toInt < ((64 : Nat) : Int) then (if ((B 82 (ix (nI k + (1 : Int32)))) ≤ 0) then (some ((0 : Int32))) else (some (1 : Int32))) else none)) = some x ∧ f_X11_flag x = dN (decide (k % 8 < 7)) (B 82 (k + 1)) := by
    simp only [ge7 (show k % 8 < 2147483648 by omega)]
    unfold dN
    by_cases h : 7 ≤ k % 8
    · rw [if_pos h, if_neg (fun z => by have := of_decide_eq_true z.1; omega)]; exact ⟨_, rfl, f0⟩
    · rw [if_neg h, n_suc, if_pos (inN (show k + 1 < 64 by omega)), ixn (by omega)]
      by_cases h2 : B 82 (k + 1) ≤ 0
      · rw [if_pos h2, if_neg (fun z => z.2 h2)]; exact ⟨_, rfl, f0⟩
      · rw [if_neg h2, if_pos ⟨decide_eq_true (by omega), h2⟩]; exact ⟨_, rfl, f1⟩
  have s3 : ∃ x, (if (nI (k / 8) ≤ 0) then (some ((0 : Int32))) else (if 0 ≤ (nI k - (8 : Int32)).toInt ∧ (nI k - (8 : Int32)).toInt < ((64 : Nat) : Int) then (if ((B 82 (ix (nI k - (8 : Int32)))) ≤ 0) then (some ((0 : Int32))) else (some (1 : Int32))) else none)) = some x ∧ f_X11_flag x = dN (decide (0 < k / 8)) (B 82 (k - 8)) := by
    simp only [le0 (show k / 8 < 2147483648 by omega)]
    unfold dN
    by_cases h : k / 8 = 0
    · rw [if_pos h, if_neg (fun z => by have := of_decide_eq_true z.1; omega)]; exact ⟨_, rfl, f0⟩
    · have e : nI k - (8 : Int32) = nI (k - 8) := n_sub (b := 8) (by omega) (by omega)
      rw [if_neg h, e, if_pos (inN (show k - 8 < 64 by omega)), ixn (by omega)]
      by_cases h2 : B 82 (k - 8) ≤ 0
      · rw [if_pos h2, if_neg (fun z => z.2 h2)]; exact ⟨_, rfl, f0⟩
      · rw [if_neg h2, if_pos ⟨decide_eq_true (by omega), h2⟩]; exact ⟨_, rfl, f1⟩
  have s4 : ∃ x, (if ((7 : Int32) ≤ nI (k / 8)) then (some ((0 : Int32))) else (if 0 ≤ (nI k + (8 : Int32)).toInt ∧ (nI k + (8 : Int32)).toInt < ((64 : Nat) : Int) then (if ((B 82 (ix (nI k + (8 : Int32)))) ≤ 0) then (some ((0 : Int32))) else (some (1 : Int32))) else none)) = some x ∧ f_X11_flag x = dN (decide (k / 8 < 7)) (B 82 (k + 8)) := by
    simp only [ge7 (show k / 8 < 2147483648 by omega)]
    unfold dN
    by_cases h : 7 ≤ k / 8
    · rw [if_pos h, if_neg (fun z => by have := of_decide_eq_true z.1; omega)]; exact ⟨_, rfl, f0⟩
    · rw [if_neg h, ga8, if_pos (inN (show k + 8 < 64 by omega)), ixn (by omega)]
      by_cases h2 : B 82 (k + 8) ≤ 0
      · rw [if_pos h2, if_neg (fun z => z.2 h2)]; exact ⟨_, rfl, f0⟩
      · rw [if_neg h2, if_pos ⟨decide_eq_true (by omega), h2⟩]; exact ⟨_, rfl, f1⟩
  obtain ⟨x1, a1, b1⟩ := s1
  obtain ⟨x2, a2, b2⟩ := s2
  obtain ⟨x3, a3, b3⟩ := s3
  obtain ⟨x4, a4, b4⟩ := s4
  rw [f_X11_withPeat, k1, k2]
  simp only [lz_e]
  rw [show (69 + 13 : Nat) = 82 from rfl, a1, bd1_e, a2, bd1_e, a3, bd1_e, a4, bd1_e, b1, b2, b3, b4]
  rfl
end NB
def inc (P wa : Nat → Int32) (c : Nat) : Int32 := if c = 0 then 0 else if wa c < 4 then 0 else if (60 : Int32) ≤ P c then 0 else if 0 < P c then 1 else if nbs P c < 2 then 0 else 1
theorem inc_congr {P P' wa wa' : Nat → Int32} {c : Nat} (hc : c < 64) (h : ∀ c, c < 64 → P c = P' c) (h2 : wa c = wa' c) : inc P wa c = inc P' wa' c := by
  unfold inc; rw [h c hc, h2, nbs_congr hc h]
theorem rise_A {b : Nat} : ∀ (k j n : Nat) (A : Mm), j + k = 64 → k < n →
    ∃ A', f_X1_rise_L17 b n (nI j) A = some A' ∧ (∀ c, j ≤ c → c < 64 → A' (b + 1) c = A (b + 1) c + inc (A (b + 2)) (A (b + 3)) c) ∧ (∀ c, c < j ∨ 64 ≤ c → A' (b + 1) c = A (b + 1) c) ∧ ∀ i, i ≠ b + 1 → A' i = A i := by
  intro k
  induction k with
  | zero =>
    intro j n A hj hn
    obtain ⟨m, rfl⟩ : ∃ m, n = m + 1 := ⟨n - 1, by omega⟩
    have : j = 64 := by omega
    subst this
    exact ⟨A, by rw [f_X1_rise_L17, if_pos (by decide)], fun c c1 c2 => by omega, fun _ _ => rfl, fun _ _ => rfl⟩
  | succ k ih =>
    intro j n A hj hn
    obtain ⟨m, rfl⟩ : ∃ m, n = m + 1 := ⟨n - 1, by omega⟩
    have h64 := n64 (j := j) (by omega)
    have hin : 0 ≤ (nI j).toInt ∧ (nI j).toInt < ((64 : Nat) : Int) := inN (by omega)
    have hx := ixn (j := j) (by omega)
    have h0 : (nI j = 0) = (j = 0) := propext (n_inj (b := 0) (by omega) (by decide))
    have hnb := nbA (b := b) (A := A) (k := j) (by omega)
    have one : ∃ A2, (bd1 (if j = 0 then some (0 : Int32) else if A (b + 3) j < 4 then some 0 else if (60 : Int32) ≤ A (b + 2) j then some 0 else some 1) fun x11 => if x11 = 0 then some A else if 0 < A (b + 2) j then some (wr A (b + 1) j (A (b + 1) j + 1)) else bd1 (f_X1_neighboursWithPeat b (nI j) A) fun x21 => if x21 < 2 then some A else some (wr A (b + 1) j (A (b + 1) j + 1))) = some A2 ∧ A2 (b + 1) j = A (b + 1) j + inc (A (b + 2)) (A (b + 3)) j ∧ (∀ c, c ≠ j → A2 (b + 1) c = A (b + 1) c) ∧ ∀ i, i ≠ b + 1 → A2 i = A i := by
      rw [hnb]
      unfold inc
      by_cases z : j = 0
      · rw [if_pos z, bd1_e, if_pos rfl, if_pos z]
        exact ⟨A, rfl, by rw [Int32.add_zero], fun _ _ => rfl, fun _ _ => rfl⟩
      · rw [if_neg z, if_neg z]
        by_cases z1 : A (b + 3) j < 4
        · rw [if_pos z1, bd1_e, if_pos rfl, if_pos z1]
          exact ⟨A, rfl, by rw [Int32.add_zero], fun _ _ => rfl, fun _ _ => rfl⟩
        · rw [if_neg z1, if_neg z1]
          by_cases z2 : (60 : Int32) ≤ A (b + 2) j
          · rw [if_pos z2, bd1_e, if_pos rfl, if_pos z2]
            exact ⟨A, rfl, by rw [Int32.add_zero], fun _ _ => rfl, fun _ _ => rfl⟩
          · rw [if_neg z2, if_neg z2, bd1_e, if_neg (show ¬ (1 : Int32) = 0 by decide)]
            by_cases z3 : 0 < A (b + 2) j
            · rw [if_pos z3, if_pos z3]
              exact ⟨_, rfl, by rw [wr_at], fun c hc => by rw [wr_col hc], fun i hi => by rw [wr_ne hi]⟩
            · rw [if_neg z3, if_neg z3, bd1_e]
              by_cases z4 : nbs (A (b + 2)) j < 2
              · rw [if_pos z4, if_pos z4]
                exact ⟨A, rfl, by rw [Int32.add_zero], fun _ _ => rfl, fun _ _ => rfl⟩
              · rw [if_neg z4, if_neg z4]
                exact ⟨_, rfl, by rw [wr_at], fun c hc => by rw [wr_col hc], fun i hi => by rw [wr_ne hi]⟩
    obtain ⟨A2, o1, o2, o3, o4⟩ := one
    rw [f_X1_rise_L17, if_neg h64]
    simp only [if_pos hin, hx, n_suc, lz_e, h0]
    have e : ∀ (X : Option Int32) (F : Int32 → Option Mm) (G : Mm → Option Mm), (bd1 X fun x => bd1 (F x) G) = bd1 (bd1 X F) G := by
      intro X F G; cases X <;> rfl
    rw [e, o1, bd1_e]
    obtain ⟨A', a1, a2, a3, a4⟩ := ih (j + 1) m A2 (by omega) (by omega)
    refine ⟨A', a1, fun c c1 c2 => ?_, fun c hc => ?_, fun i hi => ?_⟩
    · by_cases ec : c = j
      · subst ec; rw [a3 c (by omega)]; exact o2
      · rw [a2 c (by omega) c2, o3 c ec, o4 (b + 2) (by omega), o4 (b + 3) (by omega)]
    · rw [a3 c (by omega), o3 c (by omega)]
    · rw [a4 i hi, o4 i hi]
theorem rise_B {s : Nat} (hs : Ws s) : ∀ (k j n : Nat) (B : Mm), 0 < j → j + k = 64 → k < n →
    ∃ B', f_X11_rise_L17 69 s n (nI j) B = some B' ∧ (∀ c, j ≤ c → c < 64 → B' (s + 1) c = B (s + 1) c + inc (B 82) (B (s + 2)) c) ∧ (∀ c, c < j ∨ 64 ≤ c → B' (s + 1) c = B (s + 1) c) ∧ ∀ i, i ≠ s + 1 → B' i = B i := by
  unfold Ws at hs
  intro k
  induction k with
  | zero =>
    intro j n A hp hj hn
    obtain ⟨m, rfl⟩ : ∃ m, n = m + 1 := ⟨n - 1, by omega⟩
    have : j = 64 := by omega
    subst this
    exact ⟨A, by rw [f_X11_rise_L17, if_pos (by decide)], fun c c1 c2 => by omega, fun _ _ => rfl, fun _ _ => rfl⟩
  | succ k ih =>
    intro j n A hp hj hn
    obtain ⟨m, rfl⟩ : ∃ m, n = m + 1 := ⟨n - 1, by omega⟩
    have h64 := n64 (j := j) (by omega)
    have hin : 0 ≤ (nI j).toInt ∧ (nI j).toInt < ((64 : Nat) : Int) := inN (by omega)
    have hx := ixn (j := j) (by omega)
    have hnb := nbB (B := A) (k := j) (by omega)
    have one : ∃ A2, (if A (s + 2) j < 4 then some A else if (60 : Int32) ≤ A 82 j then some A else if 0 < A 82 j then some (wr A (s + 1) j (A (s + 1) j + 1)) else bd1 (f_X11_withPeat 69 (nI j) A) fun x21 => if x21 < 2 then some A else some (wr A (s + 1) j (A (s + 1) j + 1))) = some A2 ∧ A2 (s + 1) j = A (s + 1) j + inc (A 82) (A (s + 2)) j ∧ (∀ c, c ≠ j → A2 (s + 1) c = A (s + 1) c) ∧ ∀ i, i ≠ s + 1 → A2 i = A i := by
      rw [hnb]
      unfold inc
      rw [if_neg (show ¬ j = 0 by omega)]
      by_cases z1 : A (s + 2) j < 4
      · rw [if_pos z1, if_pos z1]
        exact ⟨A, rfl, by rw [Int32.add_zero], fun _ _ => rfl, fun _ _ => rfl⟩
      · rw [if_neg z1, if_neg z1]
        by_cases z2 : (60 : Int32) ≤ A 82 j
        · rw [if_pos z2, if_pos z2]
          exact ⟨A, rfl, by rw [Int32.add_zero], fun _ _ => rfl, fun _ _ => rfl⟩
        · rw [if_neg z2, if_neg z2]
          by_cases z3 : 0 < A 82 j
          · rw [if_pos z3, if_pos z3]
            exact ⟨_, rfl, by rw [wr_at], fun c hc => by rw [wr_col hc], fun i hi => by rw [wr_ne hi]⟩
          · rw [if_neg z3, if_neg z3, bd1_e]
            by_cases z4 : nbs (A 82) j < 2
            · rw [if_pos z4, if_pos z4]
              exact ⟨A, rfl, by rw [Int32.add_zero], fun _ _ => rfl, fun _ _ => rfl⟩
            · rw [if_neg z4, if_neg z4]
              exact ⟨_, rfl, by rw [wr_at], fun c hc => by rw [wr_col hc], fun i hi => by rw [wr_ne hi]⟩
    obtain ⟨A2, o1, o2, o3, o4⟩ := one
    rw [f_X11_rise_L17, if_neg h64]
    simp only [if_pos hin, hx, n_suc, lz_e, show (69 + 13 : Nat) = 82 from rfl]
    rw [o1, bd1_e]
    obtain ⟨A', a1, a2, a3, a4⟩ := ih (j + 1) m A2 (by omega) (by omega) (by omega)
    refine ⟨A', a1, fun c c1 c2 => ?_, fun c hc => ?_, fun i hi => ?_⟩
    · by_cases ec : c = j
      · subst ec; rw [a3 c (by omega)]; exact o2
      · rw [a2 c (by omega) c2, o3 c ec, o4 82 (by omega), o4 (s + 2) (by omega)]
    · rw [a3 c (by omega), o3 c (by omega)]
    · rw [a4 i hi, o4 i hi]
