/-! needs 30 31 32 -/
/-! an evaluation of a sum: what it touches -/
def EqW (w : Nat) (A A' : Mm) : Prop := (∀ i, i ≠ w → i ≠ w + 1 → A' i = A i) ∧ ∀ j, j ≠ 3 → A' w j = A w j
theorem EqW.refl (w : Nat) (A : Mm) : EqW w A A := ⟨fun _ _ _ => rfl, fun _ _ => rfl⟩
theorem EqW.trans {w : Nat} {A B C : Mm} (h : EqW w A B) (k : EqW w B C) : EqW w A C := ⟨fun i h1 h2 => (k.1 i h1 h2).trans (h.1 i h1 h2), fun j h1 => (k.2 j h1).trans (h.2 j h1)⟩
theorem n_prd (a : Nat) : nI (a + 1) - (1 : Int32) = nI a := by rw [← n_suc]; simp
theorem n_prd2 (a : Nat) : nI (a + 1) + (-1 : Int32) = nI a := by rw [← n_suc, Int32.add_assoc]; simp
theorem push_run {w h : Nat} {v : Int32} {A : Mm} (h3 : A w 3 = nI h) (hh : h < 64) : ∃ A', f_X8_push w v A = some A' ∧ EqW w A A' ∧ A' w 3 = nI (h + 1) ∧ A' (w + 1) = upd (A (w + 1)) h v := by
  have n0 : ¬ (64 : Int32) ≤ nI h := by rw [i_le, i_nI (by omega)]; exact Int.not_le.mpr (by show (h : Int) < 64; omega)
  refine ⟨wr (wr A (w + 1) h v) w 3 (nI (h + 1)), ?_, ⟨fun i h1 h2 => ?_, fun j h1 => ?_⟩, ?_, ?_⟩
  · unfold f_X8_push
    rw [h3, if_neg n0, if_pos (inN hh)]
    simp only [lz_e, ixn (show h < 2147483648 by omega)]
    rw [wr_r (show w ≠ w + 1 by omega), h3, n_suc]
  · rw [wr_ne h1, wr_ne h2]
  · rw [wr_col h1, wr_ne (show w ≠ w + 1 by omega)]
  · rw [wr_at]
  · rw [wr_ne (show w + 1 ≠ w by omega), wr_row]
theorem pop_run {w h : Nat} {A : Mm} (h3 : A w 3 = nI (h + 1)) (hh : h < 64) : ∃ A', f_X8_pop w A = some (A (w + 1) h, A') ∧ EqW w A A' ∧ A' w 3 = nI h ∧ A' (w + 1) = A (w + 1) := by
  have n0 : ¬ nI (h + 1) = 0 := by rw [i_eq, i_nI (by omega)]; show ¬ ((h + 1 : Nat) : Int) = 0; omega
  refine ⟨wr A w 3 (nI h), ?_, ⟨fun i h1 h2 => ?_, fun j h1 => ?_⟩, ?_, ?_⟩
  · unfold f_X8_pop
    rw [h3, if_neg n0]
    simp only [lz_e, n_prd, wr_at]
    rw [if_pos (inN hh), ixn (by omega), wr_ne (show w + 1 ≠ w by omega)]
  · rw [wr_ne h1]
  · rw [wr_col h1]
  · rw [wr_at]
  · rw [wr_ne (show w + 1 ≠ w by omega)]
/-- what a sum reads: the worker's place, the agreement of the two bogs -/
def Rd (w b q g s : Nat) (A B : Mm) : Prop := AtG w b q g A ∧ Ws s ∧ SimC b s A B ∧ SimS b s A B ∧ SimW b A B ∧ SimG q s g A B ∧ InvG q A ∧ 0 ≤ (A b 8).toInt
theorem Rd.kept {w b q g s : Nat} {A B A' B' : Mm} (h : Rd w b q g s A B) (hA : EqW w A A') (hB : ∀ i, i ≠ 81 → i ≠ 69 → B' i = B i) : Rd w b q g s A' B' := by
  obtain ⟨⟨h1, h2, h3, h4⟩, hs, hC, hS, hW, hG, hI, hD⟩ := h
  have b0 : ∀ k, k ≤ 17 → A' (b + k) = A (b + k) := fun k hk => hA.1 _ (by rcases h1 with ⟨rfl, rfl⟩ | ⟨rfl, rfl⟩ <;> omega) (by rcases h1 with ⟨rfl, rfl⟩ | ⟨rfl, rfl⟩ <;> omega)
  have q0 : A' q = A q := by rw [h3, Nat.add_assoc]; exact b0 _ (by omega)
  have s0 : ∀ k, k ≤ 7 → B' (s + k) = B (s + k) := fun k hk => hB _ (by rcases hs with rfl | rfl <;> omega) (by rcases hs with rfl | rfl <;> omega)
  have b00 : A' b = A b := b0 0 (by omega)
  have s00 : B' s = B s := s0 0 (by omega)
  refine ⟨⟨h1, h2, h3, by rw [hA.2 1 (by omega)]; exact h4⟩, hs, ?_, ?_, ?_, ?_, ?_, ?_⟩
  · intro k hk
    rw [b0 1 (by omega), b0 3 (by omega), b0 4 (by omega), b0 5 (by omega), b0 6 (by omega), s0 1 (by omega), s0 2 (by omega), s0 3 (by omega), s0 4 (by omega), s0 5 (by omega)]
    exact hC k hk
  · unfold SimS; rw [b00, s00]; exact hS
  · intro k hk
    rw [b0 7 (by omega), b0 8 (by omega), hB 72 (by omega) (by omega), hB 73 (by omega) (by omega)]; exact hW k hk
  · unfold SimG; rw [q0, s0 6 (by omega)]; exact hG
  · unfold InvG; rw [q0]; exact hI
  · rw [b00]; exact hD
theorem isIn_f (x a b : Int32) : f_X11_isIn x a b = if x < a then 0 else if b < x then 0 else 1 := rfl
def InsOK (w g s base pb b1 : Nat) (op ar : Int32) (A B : Mm) (h : Nat) (τ1 : List Bool) : Prop :=
  ∃ A' B', f_X8_reckon w op ar A = some A' ∧ EqW w A A' ∧ A' w 3 = nI (base + τ1.length) ∧ Vals (A' (w + 1)) (B' 81) base τ1 ∧ (∀ i, i ≠ 81 → B' i = B i) ∧ (∀ n, f_X11_reckon_L6 69 s (nI g) (n + 1) (nI h) (nI pb) B = f_X11_reckon_L6 69 s (nI g) n (nI τ1.length) (nI b1) B') ∧ ∀ j, j < base → A' (w + 1) j = A (w + 1) j
theorem ins_num {w g s base pb : Nat} {ar : Int32} {A B : Mm} {τ : List Bool} (h3 : A w 3 = nI (base + τ.length)) (hb : base ≤ 3) (hl : τ.length ≤ 60) (hv : Vals (A (w + 1)) (B 81) base τ) (hp : pb + 1 < 4000) (e2 : B 74 pb = 50) (e3 : B 74 (pb + 1) = ar) : InsOK w g s base pb (pb + 2) 0 ar A B τ.length (false :: τ) := by
  obtain ⟨A', p1, p2, p3, p4⟩ := push_run (v := ar) h3 (by omega)
  refine ⟨A', wr B 81 τ.length ar, ?_, p2, by rw [p3, List.length_cons, Nat.add_assoc], ⟨?_, (fun h => by cases h), ?_⟩, (fun i hi => wr_ne hi), (fun n => ?_), fun j hj => ?_⟩
  · rw [f_X8_reckon, if_pos rfl, p1, bd1_e]
  · rw [p4, wr_at]; simp [upd]
  · refine Vals.congr (fun j hj => ⟨?_, ?_⟩) hv
    · rw [p4]; simp only [upd]; rw [if_neg (by omega)]
    · rw [wr_col (by omega)]
  · rw [f_X11_reckon_L6]
    rw [if_pos (inN (show pb < 4000 by omega)), ixn (show pb < 2147483648 by omega), e2, if_neg (by decide), if_pos (inN (show pb < 4000 by omega))]
    simp only [lz_e, n_suc, if_true, if_pos (inN (show pb + 1 < 4000 by omega)), if_pos (inN (show τ.length < 400 by omega)), bd3_e, ixn (show pb + 1 < 2147483648 by omega), ixn (show τ.length < 2147483648 by omega), e3, List.length_cons]
  · rw [p4]; simp only [upd]; rw [if_neg (by omega)]
theorem ins_read {w b q g s base pb k : Nat} {ar : Int32} {A B : Mm} {τ : List Bool} (hR : Rd w b q g s A B) (h3 : A w 3 = nI (base + τ.length)) (hb : base ≤ 3) (hl : τ.length ≤ 60) (hv : Vals (A (w + 1)) (B 81) base τ) (hp : pb + 1 < 4000) (hk : k < 13) (e3 : B 74 pb = nI (12 + k)) : InsOK w g s base pb (pb + 1) (nI (16 + k)) ar A B τ.length (false :: τ) := by
  obtain ⟨v, v1, v2⟩ := read_told hR.1 hR.2.2.1 hR.2.2.2.1 hR.2.2.2.2.1 hR.2.2.2.2.2.1 hR.2.2.2.2.2.2.1 hR.2.2.2.2.2.2.2 hk
  obtain ⟨A', p1, p2, p3, p4⟩ := push_run (v := v) h3 (by omega)
  refine ⟨A', wr B 81 τ.length v, ?_, p2, by rw [p3, List.length_cons, Nat.add_assoc], ⟨?_, (fun h => by cases h), ?_⟩, (fun i hi => wr_ne hi), (fun n => ?_), fun j hj => ?_⟩
  · rw [f_X8_reckon, if_neg (by rw [i_eq, i_nI (by omega)]; show ¬ ((16 + k : Nat) : Int) = 0; omega), if_neg (by rw [i_lt, i_nI (by omega)]; show ¬ ((16 + k : Nat) : Int) < 16; omega), v1, bd1_e, p1, bd1_e]
  · rw [p4, wr_at]; simp [upd]
  · refine Vals.congr (fun j hj => ⟨?_, ?_⟩) hv
    · rw [p4]; simp only [upd]; rw [if_neg (by omega)]
    · rw [wr_col (by omega)]
  · have z1 : ¬ nI (12 + k) = 61 := by rw [i_eq, i_nI (by omega)]; show ¬ ((12 + k : Nat) : Int) = 61; omega
    have z2 : ¬ nI (12 + k) = 50 := by rw [i_eq, i_nI (by omega)]; show ¬ ((12 + k : Nat) : Int) = 50; omega
    have z3 : f_X11_isIn (nI (12 + k)) 12 24 = 1 := by
      rw [isIn_f, if_neg (by rw [i_lt, i_nI (by omega)]; show ¬ ((12 + k : Nat) : Int) < 12; omega), if_neg (by rw [i_lt, i_nI (by omega)]; show ¬ (24 : Int) < ((12 + k : Nat) : Int); omega)]
    rw [f_X11_reckon_L6]
    rw [if_pos (inN (show pb < 4000 by omega)), ixn (show pb < 2147483648 by omega), e3, if_neg z1, if_pos (inN (show pb < 4000 by omega))]
    simp only [lz_e, n_suc, if_neg z2, z3, if_neg (show ¬ (1 : Int32) = 0 by decide), v2, bd1_e, if_pos (inN (show τ.length < 400 by omega)), bd3_e, ixn (show τ.length < 2147483648 by omega), List.length_cons]
  · rw [p4]; simp only [upd]; rw [if_neg (by omega)]
theorem ins_neg {w g s base pb : Nat} {ar : Int32} {A B : Mm} {t : Bool} {τ0 : List Bool} (h3 : A w 3 = nI (base + τ0.length + 1)) (hb : base ≤ 3) (hl : τ0.length + 1 ≤ 60) (hv : Vals (A (w + 1)) (B 81) base (t :: τ0)) (hp : pb + 1 < 4000) (e2 : B 74 pb = 51) : InsOK w g s base pb (pb + 1) 1 ar A B (τ0.length + 1) (false :: τ0) := by
  obtain ⟨A1, p1, p2, p3, p4⟩ := pop_run (h := base + τ0.length) h3 (by omega)
  obtain ⟨A', r1, r2, r3, r4⟩ := push_run (v := - A (w + 1) (base + τ0.length)) p3 (by omega)
  refine ⟨A', wr B 81 τ0.length (- B 81 τ0.length), ?_, p2.trans r2, by rw [r3, List.length_cons, Nat.add_assoc], ⟨?_, (fun h => by cases h), ?_⟩, (fun i hi => wr_ne hi), (fun n => ?_), fun j hj => ?_⟩
  · rw [f_X8_reckon, if_neg (by decide), if_pos (by decide), if_pos rfl, p1, bd2_e, r1, bd1_e]
  · rw [r4, p4, wr_at, ← hv.1]; simp [upd]
  · refine Vals.congr (fun j hj => ⟨?_, ?_⟩) hv.2.2
    · rw [r4, p4]; simp only [upd]; rw [if_neg (by omega)]
    · rw [wr_col (by omega)]
  · have z3 : f_X11_isIn 51 12 24 = 0 := by decide
    rw [f_X11_reckon_L6]
    rw [if_pos (inN (show pb < 4000 by omega)), ixn (show pb < 2147483648 by omega), e2, if_neg (by decide), if_pos (inN (show pb < 4000 by omega))]
    simp only [lz_e, n_suc, if_neg (show ¬ (51 : Int32) = 50 by decide), z3, if_true, n_prd, if_pos (inN (show τ0.length < 400 by omega)), bd3_e, ixn (show τ0.length < 2147483648 by omega), List.length_cons]
  · rw [r4, p4]; simp only [upd]; rw [if_neg (by omega)]
theorem ins_not {w g s base pb : Nat} {ar : Int32} {A B : Mm} {τ0 : List Bool} (h3 : A w 3 = nI (base + τ0.length + 1)) (hb : base ≤ 3) (hl : τ0.length + 1 ≤ 60) (hv : Vals (A (w + 1)) (B 81) base (true :: τ0)) (hp : pb + 1 < 4000) (e2 : B 74 pb = 25) : InsOK w g s base pb (pb + 1) 13 ar A B (τ0.length + 1) (true :: τ0) := by
  obtain ⟨A1, p1, p2, p3, p4⟩ := pop_run (h := base + τ0.length) h3 (by omega)
  obtain ⟨A', r1, r2, r3, r4⟩ := push_run (v := if A (w + 1) (base + τ0.length) = 0 then 1 else 0) p3 (by omega)
  refine ⟨A', wr B 81 τ0.length (1 - B 81 τ0.length), ?_, p2.trans r2, by rw [r3, List.length_cons, Nat.add_assoc], ⟨?_, (fun h => ?_), ?_⟩, (fun i hi => wr_ne hi), (fun n => ?_), fun j hj => ?_⟩
  · rw [f_X8_reckon, if_neg (by decide), if_pos (by decide), if_neg (by decide), if_pos rfl, p1, bd2_e, lz_e, r1, bd1_e]
  · rw [r4, p4, wr_at, hv.1]
    rcases hv.2.1 rfl with z | z <;> rw [z] <;> simp [upd]
  · rw [wr_at]
    rcases hv.2.1 rfl with z | z <;> rw [z] <;> simp
  · refine Vals.congr (fun j hj => ⟨?_, ?_⟩) hv.2.2
    · rw [r4, p4]; simp only [upd]; rw [if_neg (by omega)]
    · rw [wr_col (by omega)]
  · have z3 : f_X11_isIn 25 12 24 = 0 := by decide
    rw [f_X11_reckon_L6]
    rw [if_pos (inN (show pb < 4000 by omega)), ixn (show pb < 2147483648 by omega), e2, if_neg (by decide), if_pos (inN (show pb < 4000 by omega))]
    simp only [lz_e, n_suc, if_neg (show ¬ (25 : Int32) = 50 by decide), if_neg (show ¬ (25 : Int32) = 51 by decide), z3, if_true, n_prd, if_pos (inN (show τ0.length < 400 by omega)), bd3_e, ixn (show τ0.length < 2147483648 by omega), List.length_cons]
  · rw [r4, p4]; simp only [upd]; rw [if_neg (by omega)]
theorem ins_bin {w g s base pb k : Nat} {x y ar : Int32} {A B : Mm} {t u : Bool} {τ0 : List Bool} (e0 : (x, y, k) ∈ binT) (h3 : A w 3 = nI (base + τ0.length + 1 + 1)) (hb : base ≤ 3) (hl : τ0.length + 2 ≤ 60) (hv : Vals (A (w + 1)) (B 81) base (t :: u :: τ0)) (hp : pb + 1 < 4000) (e2 : B 74 pb = y) : InsOK w g s base pb (pb + 1) x ar A B (τ0.length + 1 + 1) (binK k t u :: τ0) := by
  obtain ⟨A1, p1, p2, p3, p4⟩ := pop_run (h := base + τ0.length + 1) h3 (by omega)
  obtain ⟨A2, q1, q2, q3, q4⟩ := pop_run (h := base + τ0.length) p3 (by omega)
  obtain ⟨v, j1, j2, j3, j4⟩ := bin_same e0 (A (w + 1) (base + τ0.length)) (A (w + 1) (base + τ0.length + 1)) A2 B
  obtain ⟨A', r1, r2, r3, r4⟩ := push_run (v := v) q3 (by omega)
  obtain ⟨hv1, hv2, hv3, hv4, hv5⟩ := hv
  rw [List.length_cons] at hv1 hv2
  have hx : x ≠ 0 ∧ x ≠ 1 ∧ x ≠ 13 ∧ x < 16 := (show ∀ q ∈ binT, q.1 ≠ 0 ∧ q.1 ≠ 1 ∧ q.1 ≠ 13 ∧ q.1 < 16 by decide) _ e0
  have hy : y ≠ 61 ∧ y ≠ 50 ∧ y ≠ 51 ∧ y ≠ 25 ∧ f_X11_isIn y 12 24 = 0 := (show ∀ q ∈ binT, q.2.1 ≠ 61 ∧ q.2.1 ≠ 50 ∧ q.2.1 ≠ 51 ∧ q.2.1 ≠ 25 ∧ f_X11_isIn q.2.1 12 24 = 0 by decide) _ e0
  refine ⟨A', wr B 81 τ0.length v, ?_, (p2.trans q2).trans r2, by rw [r3, List.length_cons, Nat.add_assoc], ⟨?_, (fun h => ?_), ?_⟩, (fun i hi => wr_ne hi), (fun n => ?_), fun j hj => ?_⟩
  · rw [f_X8_reckon, if_neg hx.1, if_pos hx.2.2.2, if_neg hx.2.1, if_neg hx.2.2.1, p1, bd2_e, q1, bd2_e, p4, j1, bd1_e, r1, bd1_e]
  · rw [r4, wr_at]; simp [upd]
  · rw [wr_at]
    unfold binK at h
    by_cases k0 : k = 0
    · rw [if_pos k0] at h; cases h
    · by_cases k1 : k = 1
      · exact j3 k1
      · rw [if_neg k0, if_neg k1] at h
        have ht : t = true ∧ u = true := by cases t <;> cases u <;> simp_all
        have k2 : k = 2 := by
          have := (show ∀ q ∈ binT, q.2.2 = 0 ∨ q.2.2 = 1 ∨ q.2.2 = 2 by decide) _ e0
          dsimp only at this
          omega
        refine j4 k2 ?_ ?_
        · rw [hv3]; exact hv4 ht.2
        · rw [Nat.add_assoc, hv1]; exact hv2 ht.1
  · refine Vals.congr (fun j hj => ⟨?_, ?_⟩) hv5
    · rw [r4, q4, p4]; simp only [upd]; rw [if_neg (by omega)]
    · rw [wr_col (by omega)]
  · have j2' : f_X11_apply y (B 81 τ0.length) (B 81 (τ0.length + 1)) B = some v := by
      rw [← hv3, ← hv1, ← Nat.add_assoc]; exact j2
    rw [f_X11_reckon_L6]
    rw [if_pos (inN (show pb < 4000 by omega)), ixn (show pb < 2147483648 by omega), e2, if_neg hy.1, if_pos (inN (show pb < 4000 by omega))]
    simp only [lz_e, n_suc, if_neg hy.2.1, hy.2.2.2.2, if_true, if_neg hy.2.2.1, if_neg hy.2.2.2.1, n_prd2, n_prd, if_pos (inN (show τ0.length < 400 by omega)), if_pos (inN (show τ0.length + 1 < 400 by omega)), bd3_e, ixn (show τ0.length < 2147483648 by omega), ixn (show τ0.length + 1 < 2147483648 by omega), j2', bd1_e, List.length_cons]
  · rw [r4, q4, p4]; simp only [upd]; rw [if_neg (by omega)]
theorem ins_run {w b q g s base pa pb b1 : Nat} {oA rA : Nat → Int32} {A B : Mm} {τ τ1 : List Bool} (hR : Rd w b q g s A B) (hI : Ins oA rA (B 74) pa pb τ b1 τ1) (h3 : A w 3 = nI (base + τ.length)) (hb : base ≤ 3) (hl : τ.length ≤ 60) (hv : Vals (A (w + 1)) (B 81) base τ) (hb1 : b1 < 4000) : InsOK w g s base pb b1 (oA pa) (rA pa) A B τ.length τ1 := by
  rcases hI with ⟨e1, e2, e3, rfl, rfl⟩ | ⟨k, e1, e2, e3, rfl, rfl⟩ | ⟨t, τ0, e1, e2, rfl, rfl, rfl⟩ | ⟨τ0, e1, e2, rfl, rfl, rfl⟩ | ⟨x, y, k, t, u, τ0, e0, e1, e2, rfl, rfl, rfl⟩
  · rw [e1]; exact ins_num h3 hb hl hv (by omega) e2 e3
  · rw [e2]; exact ins_read hR h3 hb hl hv (by omega) e1 e3
  · rw [e1]; exact ins_neg h3 hb hl hv (by omega) e2
  · rw [e1]; exact ins_not h3 hb hl hv (by omega) e2
  · rw [e1]; exact ins_bin e0 h3 hb hl hv (by omega) e2

/-! a whole sum -/
def Prg (b p len : Nat) (oA rA : Nat → Int32) (A : Mm) : Prop := (p = 10 ∨ p = 16 ∨ p = 22) ∧ A b 16 = nI (p + 1) ∧ A p 2 = nI len ∧ len ≤ 800 ∧ A (p + 1) = oA ∧ A (p + 2) = rA
theorem Prg.kept {b p len w : Nat} {oA rA : Nat → Int32} {A A' : Mm} (h : Prg b p len oA rA A) (hw : Wb w b) (hA : EqW w A A') : Prg b p len oA rA A' := by
  obtain ⟨h1, h2, h3, h4, h5, h6⟩ := h
  have e : ∀ k, k ≤ 24 ∨ k = b → A' k = A k := fun k hk => hA.1 k (by rcases hw with ⟨rfl, rfl⟩ | ⟨rfl, rfl⟩ <;> omega) (by rcases hw with ⟨rfl, rfl⟩ | ⟨rfl, rfl⟩ <;> omega)
  exact ⟨h1, by rw [e b (Or.inr rfl)]; exact h2, by rw [e p (by omega)]; exact h3, h4, by rw [e (p + 1) (by omega)]; exact h5, by rw [e (p + 2) (by omega)]; exact h6⟩
theorem Prg.okr {b p len : Nat} {oA rA : Nat → Int32} {A : Mm} (h : Prg b p len oA rA A) : okr 2 (A b 16) := by
  obtain ⟨h1, h2, -⟩ := h
  rw [h2]
  rcases h1 with rfl | rfl | rfl <;> decide
theorem Prg.rid {b p len : Nat} {oA rA : Nat → Int32} {A : Mm} (h : Prg b p len oA rA A) : rid (A b 16) = p := by
  obtain ⟨h1, h2, -⟩ := h
  rw [h2]
  rcases h1 with rfl | rfl | rfl <;> decide
theorem sA_step {w b p len pa k : Nat} {oA rA : Nat → Int32} {A : Mm} (hw : Wb w b) (hP : Prg b p len oA rA A) (h1 : pa < len) (h2 : (oA pa).toInt ≤ 28) : f_X8_reckonSums_L13 w (k + 1) (nI pa) A = bd1 (f_X8_reckon w (oA pa) (rA pa) A) fun A' => f_X8_reckonSums_L13 w k (nI (pa + 1)) A' := by
  have hl := hP.2.2.2.1
  rw [f_X8_reckonSums_L13, hw.wbog]
  rw [if_pos hP.okr, hP.rid, hP.2.2.1, if_neg (by rw [n_le (by omega) (by omega)]; omega), if_pos hP.okr, if_pos (inN (show pa < 800 by omega)), hP.2.2.2.2.1, hP.2.2.2.2.2, ixn (show pa < 2147483648 by omega), if_neg (by rw [i_lt]; exact Int.not_lt.mpr h2), if_pos hP.okr, if_pos (inN (show pa < 800 by omega)), if_pos hP.okr, if_pos (inN (show pa < 800 by omega)), n_suc]
  rfl
theorem sA_stop {w b p len pa k : Nat} {oA rA : Nat → Int32} {A : Mm} (hw : Wb w b) (hP : Prg b p len oA rA A) (h1 : pa < len) (h2 : 28 < (oA pa).toInt) : f_X8_reckonSums_L13 w (k + 1) (nI pa) A = some (nI pa, A) := by
  have hl := hP.2.2.2.1
  rw [f_X8_reckonSums_L13, hw.wbog]
  rw [if_pos hP.okr, hP.rid, hP.2.2.1, if_neg (by rw [n_le (by omega) (by omega)]; omega), if_pos hP.okr, if_pos (inN (show pa < 800 by omega)), hP.2.2.2.2.1, ixn (show pa < 2147483648 by omega), if_pos (by rw [i_lt]; exact h2)]
theorem seg_run {w b q g s base p len : Nat} {oA rA cB : Nat → Int32} (hb : base ≤ 3) (hlen : len ≤ 800) : ∀ (n pa pb : Nat) (τ : List Bool) (pa' pb' : Nat) (τ' : List Bool) (A B0 : Mm), Seg oA rA cB n pa pb τ pa' pb' τ' → Rd w b q g s A B0 → Prg b p len oA rA A → B0 74 = cB → pa' ≤ len → pb' < 4000 → A w 3 = nI (base + τ.length) → τ.length ≤ 60 → Vals (A (w + 1)) (B0 81) base τ →
    ∃ A', (∀ k, f_X8_reckonSums_L13 w (n + k) (nI pa) A = f_X8_reckonSums_L13 w k (nI pa') A') ∧ EqW w A A' ∧ A' w 3 = nI (base + τ'.length) ∧ (∀ j, j < base → A' (w + 1) j = A (w + 1) j) ∧ ∀ B, Rd w b q g s A B → B 74 = cB → Vals (A (w + 1)) (B 81) base τ → ∃ B', Vals (A' (w + 1)) (B' 81) base τ' ∧ (∀ i, i ≠ 81 → B' i = B i) ∧ ∀ k, f_X11_reckon_L6 69 s (nI g) (n + k) (nI τ.length) (nI pb) B = f_X11_reckon_L6 69 s (nI g) k (nI τ'.length) (nI pb') B'
  | 0, pa, pb, τ, pa', pb', τ', A, B, hS, hR, hP, hc, h1, h2, h3, h4, hv => by
    obtain ⟨rfl, rfl, rfl⟩ := hS
    exact ⟨A, fun k => by rw [Nat.zero_add], EqW.refl w A, h3, fun _ _ => rfl, fun B _ _ hv => ⟨B, hv, fun _ _ => rfl, fun k => by rw [Nat.zero_add]⟩⟩
  | n + 1, pa, pb, τ, pa', pb', τ', A, B, hS, hR, hP, hc, h1, h2, h3, h4, hv => by
    obtain ⟨b1, τ1, i1, i2, i3⟩ := hS
    have hz := i3.len
    have hp := i1.pos
    obtain ⟨A1, B1, e1, e2, e3, e4, e5, e6, e7⟩ := ins_run hR (by rw [hc]; exact i1) h3 hb h4 hv (by omega)
    have hR1 := hR.kept e2 (fun i hi _ => e5 i hi)
    have hP1 := hP.kept hR.1.1 e2
    obtain ⟨A', k1, k2, k3, k0, k4⟩ := seg_run hb hlen n (pa + 1) b1 τ1 pa' pb' τ' A1 B1 i3 hR1 hP1 (by rw [e5 74 (by omega)]; exact hc) h1 h2 e3 i2 e4
    refine ⟨A', fun k => ?_, e2.trans k2, k3, fun j hj => (k0 j hj).trans (e7 j hj), fun C hRC hcC hvC => ?_⟩
    · rw [show n + 1 + k = (n + k) + 1 by omega, sA_step hR.1.1 hP (by omega) hp.2, e1, bd1_e, k1]
    · obtain ⟨A1', C1, d1, d2, d3, d4, d5, d6, -⟩ := ins_run hRC (by rw [hcC]; exact i1) h3 hb h4 hvC (by omega)
      rw [e1] at d1
      cases Option.some.inj d1
      obtain ⟨C', m1, m2, m3⟩ := k4 C1 (hRC.kept d2 (fun i hi _ => d5 i hi)) (by rw [d5 74 (by omega)]; exact hcC) d4
      refine ⟨C', m1, fun i hi => (m2 i hi).trans (d5 i hi), fun k => ?_⟩
      rw [show n + 1 + k = (n + k) + 1 by omega, d6, m3]
/-- what a reckoning of the reference touches -/
def EqR (B B' : Mm) : Prop := (∀ i, i ≠ 81 → i ≠ 69 → B' i = B i) ∧ ∀ j, j ≠ 28 → B' 69 j = B 69 j
theorem EqR.refl (B : Mm) : EqR B B := ⟨fun _ _ _ => rfl, fun _ _ => rfl⟩
theorem EqR.trans {A B C : Mm} (h : EqR A B) (k : EqR B C) : EqR A C := ⟨fun i h1 h2 => (k.1 i h1 h2).trans (h.1 i h1 h2), fun j h1 => (k.2 j h1).trans (h.2 j h1)⟩
/-- one sum, to its end in both; in the class's run it stands on base others; the reference may reckon it again -/
theorem sum_run {w b q g s base p len n pa pb pa' pb' : Nat} {t : Bool} {oA rA cB : Nat → Int32} {A B0 : Mm} (hb : base ≤ 3) (hS : Seg oA rA cB n pa pb [] pa' pb' [t]) (hR : Rd w b q g s A B0) (hP : Prg b p len oA rA A) (hc : B0 74 = cB) (h1 : pa' ≤ len) (h2 : pb' < 3999) (h3 : A w 3 = nI base) (h61 : cB pb' = 61) :
    ∃ A' v, (∀ k, f_X8_reckonSums_L13 w (n + k) (nI pa) A = f_X8_reckonSums_L13 w k (nI pa') A') ∧ EqW w A A' ∧ A' w 3 = nI (base + 1) ∧ A' (w + 1) base = v ∧ (∀ j, j < base → A' (w + 1) j = A (w + 1) j) ∧ ∀ B, EqR B0 B → ∃ B', EqR B B' ∧ B' 69 28 = nI (pb' + 1) ∧ f_X11_reckon 69 s (nI g) (nI pb) B = some (v, B') := by
  obtain ⟨A', k1, k2, k3, k0, k4⟩ := seg_run hb hP.2.2.2.1 n pa pb [] pa' pb' [t] A B0 hS hR hP hc h1 (by omega) h3 (Nat.zero_le _) trivial
  have hn := hS.len
  have hn8 := hP.2.2.2.1
  refine ⟨A', A' (w + 1) base, k1, k2, k3, rfl, k0, fun B hB => ?_⟩
  · obtain ⟨B', m1, m2, m3⟩ := k4 B (hR.kept (EqW.refl w A) hB.1) (by rw [hB.1 74 (by omega) (by omega)]; exact hc) trivial
    refine ⟨wr B' 69 28 (nI (pb' + 1)), ⟨fun i i1 i2 => by rw [wr_ne i2]; exact m2 i i1, fun j hj => by rw [wr_col hj, m2 69 (by omega)]⟩, wr_at _ _ _ _, ?_⟩
    obtain ⟨m, hm⟩ := FU_gt (n := n) (by omega)
    rw [f_X11_reckon, hm, Nat.add_assoc]
    rw [show ((0 : Int32) = nI ([] : List Bool).length) from rfl, m3, Nat.add_comm 1 m, f_X11_reckon_L6, if_pos (inN (show pb' < 4000 by omega)), ixn (show pb' < 2147483648 by omega), m2 74 (by omega), hB.1 74 (by omega) (by omega), hc, h61, if_pos rfl, bd2_e, lz_e, n_suc]
    rw [show nI ([] : List Bool).length = (0 : Int32) from rfl, if_pos (by decide), wr_ne (show 81 ≠ 69 by decide)]
    have e9 : B' 81 0 = A' (w + 1) base := m1.1.symm
    rw [← e9]
    rfl
