/-! needs 30 31 32 39 50 51 52 53 54 55 56 57 58 59 60 61 62 63 64 -/
/-! a gang beside a gang -/
theorem numV_pos {T : Nat → Int32} : ∀ (k p : Nat) (v : Int32) (q : Int), q = 10 ^ k → (∀ j, p ≤ j → j < p + k → tDi T j = true) → 0 ≤ v.toInt → v.toInt * q + q ≤ 1000000 → 0 ≤ (numV T k p v).toInt := by
  intro k
  induction k with
  | zero => intro p v q hq hd h1 h2; exact h1
  | succ k ih =>
    intro p v q hq hd h1 h2
    have h3 := hd p (Nat.le_refl _) (by omega)
    unfold tDi at h3
    have h4 := of_decide_eq_true h3
    have hr : (0 : Int) < 10 ^ k := Int.pow_pos (by omega)
    have hq' : q = 10 * 10 ^ k := by rw [hq, Int.pow_succ, Int.mul_comm]
    generalize hr' : (10 : Int) ^ k = r at hr hq'
    have hv : v.toInt ≤ 1000000 := by
      have : v.toInt * 1 ≤ v.toInt * q := Int.mul_le_mul_of_nonneg_left (by omega) h1
      omega
    have e1 : (v * 10).toInt = v.toInt * 10 := i_mul (b := 10) (by show -2147483648 ≤ v.toInt * 10; omega) (by show v.toInt * 10 < 2147483648; omega)
    have e2 : (T p - 48).toInt = (T p).toInt - 48 := i_sub (b := 48) (by show -2147483648 ≤ (T p).toInt - 48; omega) (by show (T p).toInt - 48 < 2147483648; omega)
    have e3 : (v * 10 + (T p - 48)).toInt = v.toInt * 10 + ((T p).toInt - 48) := by
      rw [i_add (by rw [e1, e2]; omega) (by rw [e1, e2]; omega), e1, e2]
    refine ih (p + 1) _ r hr'.symm (fun j a b => hd j (by omega) (by omega)) (by rw [e3]; omega) ?_
    rw [e3, Int.add_mul]
    have m1 : ((T p).toInt - 48) * r ≤ 9 * r := Int.mul_le_mul_of_nonneg_right (by omega) (by omega)
    have m2 : v.toInt * 10 * r = v.toInt * q := by rw [hq', Int.mul_assoc]
    rw [m2]
    omega
theorem isB_pos {T : Nat → Int32} {L i : Nat} (h : tk T L i = 48) : 0 ≤ (isB T L (tst T L i) 48).toInt := by
  obtain ⟨t1, t2, t3⟩ := tk_num h
  obtain ⟨r1, r2, r3, -⟩ := run_rng (P := tDi T) (L := L) _ (tst T L i) rfl (by omega)
  have e : isB T L (tst T L i) 48 = numV T (run (tDi T) L (tst T L i) - tst T L i) (tst T L i) 0 := rfl
  rw [e]
  refine numV_pos _ _ 0 _ rfl (fun j a b => r3 j a (by omega)) (by decide) ?_
  generalize run (tDi T) L (tst T L i) - tst T L i = k at t3
  have : k = 0 ∨ k = 1 ∨ k = 2 ∨ k = 3 ∨ k = 4 ∨ k = 5 ∨ k = 6 := by omega
  rcases this with rfl | rfl | rfl | rfl | rfl | rfl | rfl <;> decide
def NmR (T : Nat → Int32) (L N many : Nat) (A B : Mm) : Prop := A 3 2 = nI (min many 4) ∧ ∃ js : Nat → Nat, ∀ k, k < many → js k ≤ N ∧ B 76 k = nI (tst T L (js k)) ∧ B 77 k = nI (tln T L (js k)) ∧ (k < 4 → A 9 k = nI (js k))
def Gg (p many : Nat) (ea : Int32) (P : PS) (A B : Mm) : Prop := (∃ g, g ≤ 4 ∧ A p 6 = nI g) ∧ (ea = 0 → A p 6 = nI many ∧ ∀ k, k < many → ∃ a b x y, A (p + 3) k = nI a ∧ A (p + 4) k = nI x ∧ A (p + 5) k = nI y ∧ B 78 k = nI b ∧ B 79 k = nI x ∧ B 80 k = nI y ∧ x < 8 ∧ y < 8 ∧ P a b [])
def TG (P : PS) (la sb : Nat) (oA rA cB : Nat → Int32) : Prop := ∀ (oF rF cF : Nat → Int32) (len : Nat) (S : PS), (∀ j, j < la → oF j = oA j ∧ rF j = rA j) → (∀ j, j < sb → cF j = cB j) → la ≤ len → len ≤ 800 → sb ≤ 4000 → (∀ a b f, P a b f → S a b f) → ∀ a b f, P a b f → Lpt oF rF cF len S a b f ∧ f.length ≤ 8
def TxS (T : Nat → Int32) (L N p i many la sb : Nat) (ea fa : Int32) (P : PS) (A B : Mm) : Prop := AtA T L N p i la ea fa A ∧ AtB T L i 0 sb 0 ea fa B ∧ la ≤ 2 * i ∧ sb ≤ 4 * i ∧ 7 * many ≤ i ∧ (ea = 0 → fa = -1) ∧ (B 69 19 = nI many ∧ (4 < many → ea ≠ 0)) ∧ NmR T L N many A B ∧ Gg p many ea P A B ∧ TG P la sb (A (p + 1)) (A (p + 2)) (B 75)
theorem NmR.keep {T : Nat → Int32} {L N many : Nat} {A A' B B' : Mm} (h : NmR T L N many A B) (k1 : A' 3 2 = A 3 2) (k2 : ∀ c, A' 9 c = A 9 c) (k3 : ∀ c, c < many → B' 76 c = B 76 c ∧ B' 77 c = B 77 c) : NmR T L N many A' B' := by
  obtain ⟨h1, js, h2⟩ := h
  refine ⟨by rw [k1]; exact h1, js, fun k hk => ?_⟩
  rw [(k3 k hk).1, (k3 k hk).2, k2]
  exact h2 k hk
/-- the class's code and gangs so far stay -/
def Kp (p la : Nat) (A A' : Mm) : Prop := ∀ r c, (r = p ∧ c = 6) ∨ (p + 2 < r ∧ r ≤ p + 5) ∨ ((r = p + 1 ∨ r = p + 2) ∧ c < la) → A' r c = A r c
theorem Kp.trans {p la la' : Nat} {A A' A'' : Mm} (h : Kp p la A A') (k : Kp p la' A' A'') (e : la ≤ la') : Kp p la A A'' := fun r c x => (k r c (by omega)).trans (h r c x)
theorem FrA.kp {p la : Nat} {A A' : Mm} (h : FrA p la A A') (hp : p = 10 ∨ p = 16 ∨ p = 22) : Kp p la A A' := fun r c x => h.1 r c (by omega) (by omega) (by omega)
theorem lt8 {v : Int32} : v < 8 ↔ v ≤ 7 := by
  rw [i_lt, i_le]
  show v.toInt < 8 ↔ v.toInt ≤ 7
  omega
section GA
variable {T : Nat → Int32} {L N p i la sb many : Nat} {ea fa : Int32} {A B : Mm}
/-- the name is noted -/
theorem name_ok {P : PS} (hA : AtA T L N p (i + 1 + 1) la ea fa A) (hB : AtB T L (i + 1) 0 sb 0 ea fa B) (hi : i + 1 ≤ N) (hm : many < 90) (h19 : B 69 19 = nI many) (h4 : 4 < many → ea ≠ 0) (hN : NmR T L N many A B) : ∃ A' B1 B2 e1 f1, f_X4_noteName 3 (nI (i + 1)) A = some A' ∧ f_X11_gang_L24 69 FU 0 B = some B1 ∧ (if B1 69 19 < (4 : Int32) then some B1 else bd1 (f_X11_fault 69 4 B1) fun M => some M) = some B2 ∧ AtA T L N p (i + 1 + 1) la e1 f1 A' ∧ AtB T L (i + 1) 0 sb 0 e1 f1 B2 ∧ (∀ r j, ¬ (r = 69 ∧ (j = 20 ∨ j = 21)) → B2 r j = B r j) ∧ (e1 = 0 → ea = 0 ∧ f1 = fa) ∧ (4 < many + 1 → e1 ≠ 0) ∧ NmR T L N (many + 1) A' (wr (wr B2 76 many (nI (tst T L (i + 1)))) 77 many (nI (tln T L (i + 1)))) ∧ FtA p A A' ∧ Kp p la A A' := by
  have hp := hA.1.2.2.2
  have hL := hA.1.2.1.1
  obtain ⟨hN1, js, hN2⟩ := hN
  have hmin : min many 4 ≤ 4 := Nat.min_le_right _ _
  have hmn : min many 4 ≤ many := Nat.min_le_left _ _
  obtain ⟨A1, a1, a2, a3⟩ := noteA_L (D := fun w => dup T L (js w) (i + 1)) hi hmin (min many 4) 0 FU A (ea, fa) (by omega) (by unfold FU; omega) hA hN1 (fun w hw => ⟨js w, (hN2 w (by omega)).1, (hN2 w (by omega)).2.2.2 (by omega), rfl⟩)
  obtain ⟨B1, b1, b2, b3⟩ := faultB_L (D := fun w => dup T L (js w) (i + 1)) (m := many) (by omega) hL many 0 FU B (ea, fa) (by omega) (by unfold FU; omega) hB h19 (fun w hw => ⟨js w, (hN2 w hw).2.1, (hN2 w hw).2.2.1, rfl⟩)
  have elp : lp (fun w => dup T L (js w) (i + 1)) (nI (tst T L (i + 1))) (min many 4) 0 (ea, fa) = lp (fun w => dup T L (js w) (i + 1)) (nI (tst T L (i + 1))) many 0 (ea, fa) := by
    by_cases z : many ≤ 4
    · rw [Nat.min_eq_left z]
    · rw [lp_ne _ _ _ (h4 (by omega)), lp_ne _ _ _ (h4 (by omega))]
  rw [elp] at a2
  have h0 := lp_0 (D := fun w => dup T L (js w) (i + 1)) (st := nI (tst T L (i + 1))) many 0 (ea, fa)
  generalize hx : lp (fun w => dup T L (js w) (i + 1)) (nI (tst T L (i + 1))) many 0 (ea, fa) = x at a2 b2 h0
  have a32 : A1 3 2 = nI (min many 4) := by rw [a3.1 3 2 (by omega) (by omega) (by omega)]; exact hN1
  have b19 : B1 69 19 = nI many := by rw [b3 69 19 (by omega)]; exact h19
  have a9 : ∀ c, A1 9 c = A 9 c := fun c => a3.1 9 c (by omega) (by omega) (by omega)
  by_cases z : many < 4
  · have hme : min many 4 = many := Nat.min_eq_left (by omega)
    rw [hme] at a32
    refine ⟨wr (wr A1 9 many (nI (i + 1))) 3 2 (nI (many + 1)), B1, B1, x.1, x.2, ?_, b1, ?_, ?_, b2, b3, ?_, fun h => by omega, ?_, ?_, ?_⟩
    · have a1' : f_X4_noteName_L2 3 (nI (i + 1)) FU 0 A = some A1 := a1
      rw [f_X4_noteName, a1', bd1_e, a32, if_neg (show ¬ (4 : Int32) ≤ nI many from fun e => by have := (n_le (a := 4) (by omega) (by omega)).mp e; omega), if_pos (inN z), ixn (by omega), show (3 + 6 : Nat) = 9 from rfl]
      simp only [lz_e]
      rw [wr_ne (by decide), a32, n_suc]
    · rw [b19, if_pos (show nI many < 4 from (n_lt (b := 4) (by omega) (by omega)).mpr z)]
    · exact a2.ch (fun r c h => by rw [wr_o (by omega), wr_o (by omega)])
    · intro e; have := h0 e; exact ⟨this.1, by rw [this.2]⟩
    · refine ⟨by rw [wr_at, Nat.min_eq_left (by omega)], fun k => if k = many then i + 1 else js k, fun k hk => ?_⟩
      by_cases y : k = many
      · subst y
        dsimp only
        rw [if_pos rfl]
        refine ⟨hi, ?_, wr_at _ _ _ _, fun _ => ?_⟩
        · rw [wr_ne (by decide), wr_at]
        · rw [wr_ne (by decide), wr_at]
      · dsimp only
        rw [if_neg y]
        obtain ⟨m1, m2, m3, m4⟩ := hN2 k (by omega)
        refine ⟨m1, ?_, ?_, fun h => ?_⟩
        · rw [wr_ne (by decide), wr_col y, b3 76 k (by omega)]; exact m2
        · rw [wr_col y, wr_ne (by decide), b3 77 k (by omega)]; exact m3
        · rw [wr_ne (by decide), wr_col y, a9]; exact m4 h
    · exact a3.ft.trans (fun r c h1 h2 h3 h4 => by rw [wr_o (by omega), wr_o (by omega)])
    · exact (a3.kp hp).trans (la' := la) (fun r c h => by rw [wr_o (by omega), wr_o (by omega)]) (Nat.le_refl _)
  · have hme : min many 4 = 4 := Nat.min_eq_right (by omega)
    rw [hme] at a32
    obtain ⟨A2, c1, c2, c3⟩ := noteA (c := 4) (by decide) a2 hi
    obtain ⟨B2, d1, d2, d3⟩ := faultB (c := 4) (by decide) b2
    refine ⟨A2, B1, B2, _, _, ?_, b1, ?_, c2, d2, fun r j h => (d3 r j h).trans (b3 r j h), ?_, fun _ => ?_, ?_, ?_, ?_⟩
    · have a1' : f_X4_noteName_L2 3 (nI (i + 1)) FU 0 A = some A1 := a1
      rw [f_X4_noteName, a1', bd1_e, a32, if_pos (by decide), c1, bd1_e]
    · rw [b19, if_neg (show ¬ nI many < 4 from fun e => z ((n_lt (b := 4) (by omega) (by omega)).mp e)), d1, bd1_e]
    · intro e
      by_cases y : x.1 = 0
      · rw [if_pos y] at e; exact absurd e (by decide)
      · rw [if_neg y] at e; exact absurd e y
    · by_cases y : x.1 = 0
      · rw [if_pos y]; decide
      · rw [if_neg y]; exact y
    · refine ⟨?_, fun k => if k = many then i + 1 else js k, fun k hk => ?_⟩
      · rw [c3.1 3 2 (by omega) (by omega) (by omega), a32, Nat.min_eq_right (by omega)]
      · by_cases y : k = many
        · subst y
          dsimp only
          rw [if_pos rfl]
          refine ⟨hi, ?_, wr_at _ _ _ _, fun h => by omega⟩
          rw [wr_ne (by decide), wr_at]
        · dsimp only
          rw [if_neg y]
          obtain ⟨m1, m2, m3, m4⟩ := hN2 k (by omega)
          refine ⟨m1, ?_, ?_, fun h => ?_⟩
          · rw [wr_ne (by decide), wr_col y, d3 76 k (by omega), b3 76 k (by omega)]; exact m2
          · rw [wr_col y, wr_ne (by decide), d3 77 k (by omega), b3 77 k (by omega)]; exact m3
          · rw [c3.1 9 k (by omega) (by omega) (by omega), a9]; exact m4 h
    · exact a3.ft.trans c3.ft
    · exact (a3.kp hp).trans (c3.kp hp) (Nat.le_refl _)
end GA
