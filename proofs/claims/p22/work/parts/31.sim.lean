/-! needs 30 -/
/-! the class's bog b (worker w, gang q) beside the reference's state s (gang g): what must agree -/
def Wb (w b : Nat) : Prop := (w = 65 ∧ b = 29) ∨ (w = 67 ∧ b = 47)
def Ws (s : Nat) : Prop := s = 83 ∨ s = 91
def SimC (b s : Nat) (A B : Mm) : Prop := ∀ k, k < 64 → A (b + 1) k = B (s + 1) k ∧ A (b + 3) k = B (s + 2) k ∧ A (b + 4) k = B (s + 3) k ∧ A (b + 5) k = B (s + 4) k ∧ A (b + 6) k = B (s + 5) k
def SimS (b s : Nat) (A B : Mm) : Prop := A b 8 = B s 0 ∧ A b 9 = B s 1 ∧ A b 10 = B s 2 ∧ A b 11 = B s 3 ∧ A b 12 = B s 4 ∧ A b 13 = B s 5
def SimW (b : Nat) (A B : Mm) : Prop := ∀ k, k < 12 → A (b + 7) k = B 72 k ∧ A (b + 8) k = B 73 k
def SimG (q s g : Nat) (A B : Mm) : Prop := A q 0 = B (s + 6) (10 * g) ∧ A q 1 = B (s + 6) (10 * g + 1) ∧ A q 2 = B (s + 6) (10 * g + 2) ∧ A q 3 = B (s + 6) (10 * g + 3) ∧ A q 4 = B (s + 6) (10 * g + 5) ∧ A q 5 = B (s + 6) (10 * g + 6) ∧ A q 6 = B (s + 6) (10 * g + 7) ∧ A q 7 = B (s + 6) (10 * g + 8) ∧ A q 8 = B (s + 6) (10 * g + 9)
def InvC (b : Nat) (A : Mm) : Prop := ∀ k, k < 64 → (0 ≤ (A (b + 4) k).toInt ∧ (A (b + 4) k).toInt ≤ 99) ∧ (A (b + 6) k = 0 ∨ A (b + 6) k = 1) ∧ (A (b + 4) k = 0 → A (b + 5) k = 0)
def InvG (q : Nat) (A : Mm) : Prop := (0 ≤ (A q 0).toInt ∧ (A q 0).toInt ≤ 7) ∧ (0 ≤ (A q 1).toInt ∧ (A q 1).toInt ≤ 7) ∧ (0 ≤ (A q 2).toInt ∧ (A q 2).toInt ≤ 40) ∧ (A q 4 = 0 ∨ A q 4 = 1)
theorem l8 : (8 : Int32).toInt = 8 := rfl
theorem l12 : (12 : Int32).toInt = 12 := rfl
theorem cell_int {x y : Int32} (hx : 0 ≤ x.toInt ∧ x.toInt ≤ 7) (hy : 0 ≤ y.toInt ∧ y.toInt ≤ 7) : (y * (8 : Int32) + x).toInt = 8 * y.toInt + x.toInt := by
  have e : (y * (8 : Int32)).toInt = y.toInt * 8 := by rw [i_mul (by rw [l8]; omega) (by rw [l8]; omega), l8]
  rw [i_add (by rw [e]; omega) (by rw [e]; omega), e]; omega
theorem cell_in {x y : Int32} (hx : 0 ≤ x.toInt ∧ x.toInt ≤ 7) (hy : 0 ≤ y.toInt ∧ y.toInt ≤ 7) : 0 ≤ (y * (8 : Int32) + x).toInt ∧ (y * (8 : Int32) + x).toInt < ((64 : Nat) : Int) := by
  rw [cell_int hx hy]; omega
theorem cell_comm (x y : Int32) : (8 : Int32) * y + x = y * (8 : Int32) + x := by rw [Int32.mul_comm]
theorem day_in {d : Int32} (h : 0 ≤ d.toInt) : 0 ≤ (d - d / (12 : Int32) * (12 : Int32)).toInt ∧ (d - d / (12 : Int32) * (12 : Int32)).toInt < ((12 : Nat) : Int) := remN h (by decide) rfl
theorem g10 {g : Nat} (hg : g < 4) : (10 : Int32) * nI g = nI (10 * g) := n_mul (a := 10) (by omega) (by decide) (by omega)
theorem g8 {g : Nat} (hg : g < 4) : (8 : Int32) * nI g = nI (8 * g) := n_mul (a := 8) (by omega) (by decide) (by omega)
theorem ga1 (a : Nat) : nI a + (1 : Int32) = nI (a + 1) := n_add a 1
theorem ga2 (a : Nat) : nI a + (2 : Int32) = nI (a + 2) := n_add a 2
theorem ga3 (a : Nat) : nI a + (3 : Int32) = nI (a + 3) := n_add a 3
theorem ga4 (a : Nat) : nI a + (4 : Int32) = nI (a + 4) := n_add a 4
theorem ga5 (a : Nat) : nI a + (5 : Int32) = nI (a + 5) := n_add a 5
theorem ga6 (a : Nat) : nI a + (6 : Int32) = nI (a + 6) := n_add a 6
theorem ga7 (a : Nat) : nI a + (7 : Int32) = nI (a + 7) := n_add a 7
theorem ga8 (a : Nat) : nI a + (8 : Int32) = nI (a + 8) := n_add a 8
theorem ga9 (a : Nat) : nI a + (9 : Int32) = nI (a + 9) := n_add a 9
theorem inT {j N : Nat} (h : j < N) (hN : N < 2147483648) : (0 ≤ (nI j).toInt ∧ (nI j).toInt < ((N : Nat) : Int)) = True := eq_true (inN h hN)
theorem inT2 {j N : Nat} (h : j ≤ N) (hN : N < 2147483648) : (0 ≤ (nI j).toInt ∧ (nI j).toInt ≤ ((N : Nat) : Int)) = True := eq_true (by rw [i_nI (by omega)]; omega)
theorem ixn {j : Nat} (h : j < 2147483648) : ix (nI j) = j := ix_nI h
/-- the worker's gang and bog -/
def AtG (w b q g : Nat) (A : Mm) : Prop := Wb w b ∧ g < 4 ∧ q = b + 10 + 2 * g ∧ A w 1 = nI (q + 1)
theorem Wb.wbog {w b : Nat} (h : Wb w b) : wbog w = b := by rcases h with ⟨rfl, rfl⟩ | ⟨rfl, rfl⟩ <;> rfl
theorem kdg {b g : Nat} (hb : b = 29 ∨ b = 47) (hg : g < 4) : kd (b + 10 + 2 * g) = (1, 0) := by
  have : g = 0 ∨ g = 1 ∨ g = 2 ∨ g = 3 := by omega
  rcases hb with rfl | rfl <;> rcases this with rfl | rfl | rfl | rfl <;> rfl
theorem AtG.okr {w b q g : Nat} {A : Mm} (h : AtG w b q g A) : okr 1 (A w 1) := by
  obtain ⟨h1, h2, rfl, h4⟩ := h
  have e : ix (A w 1) = b + 10 + 2 * g + 1 := by rw [h4, ix_nI (by rcases h1 with ⟨rfl, rfl⟩ | ⟨rfl, rfl⟩ <;> omega)]
  refine ⟨by show 1 ≤ ix (A w 1); omega, ?_⟩
  show (kd (ix (A w 1) - 1)).1 = 1
  rw [e, Nat.add_sub_cancel, kdg (by rcases h1 with ⟨rfl, rfl⟩ | ⟨rfl, rfl⟩ <;> omega) h2]
theorem AtG.rid {w b q g : Nat} {A : Mm} (h : AtG w b q g A) : rid (A w 1) = q := by
  obtain ⟨h1, h2, rfl, h4⟩ := h
  show ix (A w 1) - 1 = _
  rw [h4, ix_nI (by rcases h1 with ⟨rfl, rfl⟩ | ⟨rfl, rfl⟩ <;> omega)]; omega
theorem read_told {w b q g s k : Nat} {A B : Mm} (hA : AtG w b q g A) (hC : SimC b s A B) (hS : SimS b s A B) (hW : SimW b A B) (hG : SimG q s g A B) (hI : InvG q A) (hD : 0 ≤ (A b 8).toInt) (hk : k < 13) : ∃ v, f_X8_read w (nI (16 + k)) A = some v ∧ f_X11_told 69 s (nI g) (nI (12 + k)) B = some v := by
  have o1 := eq_true hA.okr
  have o2 := hA.rid
  have o3 := hA.1.wbog
  have hg := hA.2.1
  obtain ⟨g0, g1, g2, g3, g5, g6, g7, g8, g9⟩ := hG
  obtain ⟨s0, s1, s2, s3, s4, s5⟩ := hS
  have hc := cell_in hI.1 hI.2.1
  have hd := day_in hD
  obtain ⟨c1, c2, c3, c4, c5⟩ := hC _ (ix_lt hc)
  obtain ⟨w1, w2⟩ := hW _ (ix_lt hd)
  unfold f_X8_read f_X11_told f_X1_rainOfDay f_X1_sunOfDay f_X9_cellAt
  rw [s0] at hd w1 w2
  rw [g0, g1] at hc c1 c2 c3 c4 c5
  simp only [o1, o2, o3, if_true, lz_e, g10 hg, ga1, ga2, ga3, inT (show 10 * g + 1 < 40 by omega) (by decide), inT (show 10 * g < 40 by omega) (by decide), inT (show 10 * g + 2 < 40 by omega) (by decide), inT (show 10 * g + 3 < 40 by omega) (by decide), ixn (show 10 * g < 2147483648 by omega), ixn (show 10 * g + 1 < 2147483648 by omega), ixn (show 10 * g + 2 < 2147483648 by omega), ixn (show 10 * g + 3 < 2147483648 by omega), cell_comm, s0, s1, s2, g0, g1, g2, g3, if_pos hc, if_pos hd, c1, c2, c3, c4, bd1_e]
  have : k = 0 ∨ k = 1 ∨ k = 2 ∨ k = 3 ∨ k = 4 ∨ k = 5 ∨ k = 6 ∨ k = 7 ∨ k = 8 ∨ k = 9 ∨ k = 10 ∨ k = 11 ∨ k = 12 := by omega
  rcases this with rfl | rfl | rfl | rfl | rfl | rfl | rfl | rfl | rfl | rfl | rfl | rfl | rfl <;> first
    | exact ⟨_, rfl, rfl⟩
    | exact ⟨_, rfl, by rw [← w1]; rfl⟩
    | exact ⟨_, rfl, by rw [← w2]; rfl⟩
