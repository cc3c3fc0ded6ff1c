/-! needs 30 31 32 50 51 52 53 54 55 56 -/
/-! products, sums, both, tests beside each other -/
def OpP (u : Nat) (x y : Int32) : Prop := (u = 40 ∧ x = 4 ∧ y = 54) ∨ (u = 41 ∧ x = 5 ∧ y = 55)
def OpS (u : Nat) (x y : Int32) : Prop := (u = 38 ∧ x = 2 ∧ y = 52) ∨ (u = 39 ∧ x = 3 ∧ y = 53)
def OpA (u : Nat) (x y : Int32) : Prop := u = 26 ∧ x = 14 ∧ y = 26
def OpO (u : Nat) (x y : Int32) : Prop := u = 27 ∧ x = 15 ∧ y = 27
theorem opP : OpOk false OpP := by
  rintro u x y (⟨rfl, rfl, rfl⟩ | ⟨rfl, rfl, rfl⟩)
  · exact ⟨by omega, 0, by decide, rfl⟩
  · exact ⟨by omega, 0, by decide, rfl⟩
theorem opS : OpOk false OpS := by
  rintro u x y (⟨rfl, rfl, rfl⟩ | ⟨rfl, rfl, rfl⟩)
  · exact ⟨by omega, 0, by decide, rfl⟩
  · exact ⟨by omega, 0, by decide, rfl⟩
theorem opA : OpOk true OpA := by
  rintro u x y ⟨rfl, rfl, rfl⟩
  exact ⟨by omega, 2, by decide, rfl⟩
theorem opO : OpOk true OpO := by
  rintro u x y ⟨rfl, rfl, rfl⟩
  exact ⟨by omega, 2, by decide, rfl⟩
theorem gr_4 : ∀ t, t < 51 → (tkG.getD t 0 = 4 ↔ t = 40 ∨ t = 41) ∧ (tkG.getD t 0 = 3 ↔ t = 38 ∨ t = 39) ∧ (tkG.getD t 0 = 5 ↔ (42 ≤ t ∧ t < 47)) := by decide +kernel
section CH
variable {T : Nat → Int32} {L N p d : Nat} {RA RB : Rc}
theorem c400 {c : Nat} (h : c < 400) : ¬ (400 : Int32) ≤ nI c := fun e => by have := (n_le (a := 400) (by omega) (by omega)).mp e; omega
theorem isB_s {L st u : Nat} (h1 : 30 ≤ u) (h2 : u < 47) : isB T L st u = symI u := by unfold isB; rw [if_neg (by omega), if_pos h2]
theorem stepA_P : StepA T L N p (fun M => RA 10 3 (nI d) M) (f_X4_product_L8 RA 3 (nI d)) OpP := by
  refine ⟨fun n c M => ?_, fun n c i la ea fa A h hc ho => ?_, fun n c i la ea fa A x y h hc ho => ?_⟩
  · rw [f_X4_product_L8, if_pos (show (0 : Int32) = 0 from rfl)]; split <;> rfl
  · have hT := (tk_le T L i).1
    have : ¬ (tk T L i = 40 ∨ tk T L i = 41) := fun e => ho (by rcases e with e | e; exact ⟨4, 54, Or.inl ⟨e, rfl, rfl⟩⟩; exact ⟨5, 55, Or.inr ⟨e, rfl, rfl⟩⟩)
    rw [f_X4_product_L8, if_neg (c400 hc), if_neg (show ¬ (1 : Int32) = 0 by decide), h.kind, bd1_e, if_pos (tkc_n hT), gr_n hT, if_neg (fun e => this ((gr_4 _ hT).1.mp e))]
  · have hT := (tk_le T L i).1
    have : (tk T L i = 40 ∨ tk T L i = 41) ∧ tkO.getD (tk T L i) 0 = x := by
      rcases ho with ⟨e, rfl, -⟩ | ⟨e, rfl, -⟩ <;> rw [e] <;> exact ⟨by omega, rfl⟩
    rw [f_X4_product_L8, if_neg (c400 hc), if_neg (show ¬ (1 : Int32) = 0 by decide), h.kind, bd1_e, if_pos (tkc_n hT), gr_n hT, if_pos ((gr_4 _ hT).1.mpr this.1), bd1_e, if_pos (tkc_n hT), op_n hT, this.2, h.nx]
    simp only [lz_e, n_suc]
theorem stepB_P : StepB T L (fun M => RB 10 69 0 M) (f_X11_product_L9 RB 69) OpP := by
  refine ⟨fun n i d sb s ea fa B h ho => ?_, fun n i d sb s ea fa B x y h ho => ?_⟩
  · rw [f_X11_product_L9, h.sees (c := 42) (u := 40) rfl (by omega), if_neg (show ¬ tk T L i = 40 from fun e => ho ⟨4, 54, Or.inl ⟨e, rfl, rfl⟩⟩), lz_e, if_pos rfl, h.sees (c := 47) (u := 41) rfl (by omega), if_neg (show ¬ tk T L i = 41 from fun e => ho ⟨5, 55, Or.inr ⟨e, rfl, rfl⟩⟩), lz_e, if_pos rfl]
  · rcases ho with ⟨e, -, rfl⟩ | ⟨e, -, rfl⟩
    · rw [f_X11_product_L9, h.sees (c := 42) (u := 40) rfl (by omega), if_pos e, lz_e, if_neg (show ¬ (1 : Int32) = 0 by decide), h.is (by omega), isB_s (by omega) (by omega), e, if_pos (show symI 40 = 42 from rfl), lz_e]
    · rw [f_X11_product_L9, h.sees (c := 42) (u := 40) rfl (by omega), if_neg (show ¬ tk T L i = 40 by omega), lz_e, if_pos rfl, h.sees (c := 47) (u := 41) rfl (by omega), if_pos e, lz_e, if_neg (show ¬ (1 : Int32) = 0 by decide), h.is (by omega), isB_s (by omega) (by omega), e, if_neg (show ¬ symI 41 = 42 by decide), lz_e]
theorem stepA_S : StepA T L N p (fun M => RA 9 3 (nI d) M) (f_X4_sum_L8 RA 3 (nI d)) OpS := by
  refine ⟨fun n c M => ?_, fun n c i la ea fa A h hc ho => ?_, fun n c i la ea fa A x y h hc ho => ?_⟩
  · rw [f_X4_sum_L8, if_pos (show (0 : Int32) = 0 from rfl)]; split <;> rfl
  · have hT := (tk_le T L i).1
    have : ¬ (tk T L i = 38 ∨ tk T L i = 39) := fun e => ho (by rcases e with e | e; exact ⟨2, 52, Or.inl ⟨e, rfl, rfl⟩⟩; exact ⟨3, 53, Or.inr ⟨e, rfl, rfl⟩⟩)
    rw [f_X4_sum_L8, if_neg (c400 hc), if_neg (show ¬ (1 : Int32) = 0 by decide), h.kind, bd1_e, if_pos (tkc_n hT), gr_n hT, if_neg (fun e => this ((gr_4 _ hT).2.1.mp e))]
  · have hT := (tk_le T L i).1
    have : (tk T L i = 38 ∨ tk T L i = 39) ∧ tkO.getD (tk T L i) 0 = x := by
      rcases ho with ⟨e, rfl, -⟩ | ⟨e, rfl, -⟩ <;> rw [e] <;> exact ⟨by omega, rfl⟩
    rw [f_X4_sum_L8, if_neg (c400 hc), if_neg (show ¬ (1 : Int32) = 0 by decide), h.kind, bd1_e, if_pos (tkc_n hT), gr_n hT, if_pos ((gr_4 _ hT).2.1.mpr this.1), bd1_e, if_pos (tkc_n hT), op_n hT, this.2, h.nx]
    simp only [lz_e, n_suc]
theorem stepB_S : StepB T L (fun M => RB 9 69 0 M) (f_X11_sum_L9 RB 69 0) OpS := by
  refine ⟨fun n i d sb s ea fa B h ho => ?_, fun n i d sb s ea fa B x y h ho => ?_⟩
  · rw [f_X11_sum_L9, h.sees (c := 43) (u := 38) rfl (by omega), if_neg (show ¬ tk T L i = 38 from fun e => ho ⟨2, 52, Or.inl ⟨e, rfl, rfl⟩⟩), lz_e, if_pos rfl, h.sees (c := 45) (u := 39) rfl (by omega), if_neg (show ¬ tk T L i = 39 from fun e => ho ⟨3, 53, Or.inr ⟨e, rfl, rfl⟩⟩), lz_e, if_pos rfl, if_pos rfl]
  · rcases ho with ⟨e, -, rfl⟩ | ⟨e, -, rfl⟩
    · rw [f_X11_sum_L9, h.sees (c := 43) (u := 38) rfl (by omega), if_pos e, lz_e, if_neg (show ¬ (1 : Int32) = 0 by decide), h.is (by omega), isB_s (by omega) (by omega), e, if_pos (show symI 38 = 43 from rfl), lz_e]
    · rw [f_X11_sum_L9, h.sees (c := 43) (u := 38) rfl (by omega), if_neg (show ¬ tk T L i = 38 by omega), lz_e, if_pos rfl, h.sees (c := 45) (u := 39) rfl (by omega), if_pos e, lz_e, if_neg (show ¬ (1 : Int32) = 0 by decide), h.is (by omega), isB_s (by omega) (by omega), e, if_neg (show ¬ symI 39 = 43 by decide), lz_e]
theorem stepA_A : StepA T L N p (fun M => RA 7 3 (nI d) M) (f_X4_both_L8 RA 3 (nI d)) OpA := by
  refine ⟨fun n c M => ?_, fun n c i la ea fa A h hc ho => ?_, fun n c i la ea fa A x y h hc ho => ?_⟩
  · rw [f_X4_both_L8, if_pos (show (0 : Int32) = 0 from rfl)]; split <;> rfl
  · have hT := (tk_le T L i).1
    rw [f_X4_both_L8, if_neg (c400 hc), if_neg (show ¬ (1 : Int32) = 0 by decide), h.kind, bd1_e, if_pos (tkc_n hT), if_neg (show ¬ nI (1001 + tk T L i) = 1027 from fun e => ho ⟨14, 26, (teq (u := 26) hT (by omega)).mp e, rfl, rfl⟩)]
  · obtain ⟨e, rfl, -⟩ := ho
    have hT := (tk_le T L i).1
    rw [f_X4_both_L8, if_neg (c400 hc), if_neg (show ¬ (1 : Int32) = 0 by decide), h.kind, bd1_e, if_pos (tkc_n hT), if_pos (show nI (1001 + tk T L i) = 1027 by rw [e]; rfl), h.nx]
    simp only [lz_e, n_suc]
theorem stepB_A : StepB T L (fun M => RB 7 69 0 M) (f_X11_both_L9 RB 69) OpA := by
  refine ⟨fun n i d sb s ea fa B h ho => ?_, fun n i d sb s ea fa B x y h ho => ?_⟩
  · rw [f_X11_both_L9, h.reads (c := 26) (u := 26) rfl (by omega), if_neg (show ¬ tk T L i = 26 from fun e => ho ⟨14, 26, e, rfl, rfl⟩), lz_e, if_pos rfl]
  · obtain ⟨e, -, rfl⟩ := ho
    rw [f_X11_both_L9, h.reads (c := 26) (u := 26) rfl (by omega), if_pos e, lz_e, if_neg (show ¬ (1 : Int32) = 0 by decide)]
theorem stepA_O : StepA T L N p (fun M => RA 6 3 (nI d) M) (f_X4_test_L8 RA 3 (nI d)) OpO := by
  refine ⟨fun n c M => ?_, fun n c i la ea fa A h hc ho => ?_, fun n c i la ea fa A x y h hc ho => ?_⟩
  · rw [f_X4_test_L8, if_pos (show (0 : Int32) = 0 from rfl)]; split <;> rfl
  · have hT := (tk_le T L i).1
    rw [f_X4_test_L8, if_neg (c400 hc), if_neg (show ¬ (1 : Int32) = 0 by decide), h.kind, bd1_e, if_pos (tkc_n hT), if_neg (show ¬ nI (1001 + tk T L i) = 1028 from fun e => ho ⟨15, 27, (teq (u := 27) hT (by omega)).mp e, rfl, rfl⟩)]
  · obtain ⟨e, rfl, -⟩ := ho
    have hT := (tk_le T L i).1
    rw [f_X4_test_L8, if_neg (c400 hc), if_neg (show ¬ (1 : Int32) = 0 by decide), h.kind, bd1_e, if_pos (tkc_n hT), if_pos (show nI (1001 + tk T L i) = 1028 by rw [e]; rfl), h.nx]
    simp only [lz_e, n_suc]
theorem stepB_O : StepB T L (fun M => RB 6 69 0 M) (f_X11_test_L9 RB 69 0) OpO := by
  refine ⟨fun n i d sb s ea fa B h ho => ?_, fun n i d sb s ea fa B x y h ho => ?_⟩
  · rw [f_X11_test_L9, h.reads (c := 27) (u := 27) rfl (by omega), if_neg (show ¬ tk T L i = 27 from fun e => ho ⟨15, 27, e, rfl, rfl⟩), lz_e, if_pos rfl, if_pos rfl]
  · obtain ⟨e, -, rfl⟩ := ho
    rw [f_X11_test_L9, h.reads (c := 27) (u := 27) rfl (by omega), if_pos e, lz_e, if_neg (show ¬ (1 : Int32) = 0 by decide)]
theorem product_ok {H : Nat} (hr : EW T L N p d (fun M => RA 10 3 (nI d) M) (fun M => RB 10 69 0 M) false H) : EW T L N p d (f_X4_product RA 3 (nI d)) (f_X11_product RB 69) false (H + 1) := chain_ok opP stepA_P stepB_P hr
theorem sum_ok {H : Nat} (hr : EW T L N p d (fun M => RA 9 3 (nI d) M) (fun M => RB 9 69 0 M) false H) : EW T L N p d (f_X4_sum RA 3 (nI d)) (f_X11_sum RB 69 0) false (H + 1) := chain_ok opS stepA_S stepB_S hr
theorem both_ok {H : Nat} (hr : EW T L N p d (fun M => RA 7 3 (nI d) M) (fun M => RB 7 69 0 M) true H) : EW T L N p d (f_X4_both RA 3 (nI d)) (f_X11_both RB 69) true (H + 1) := chain_ok opA stepA_A stepB_A hr
theorem test_ok {H : Nat} (hr : EW T L N p d (fun M => RA 6 3 (nI d) M) (fun M => RB 6 69 0 M) true H) : EW T L N p d (f_X4_test RA 3 (nI d)) (f_X11_test RB 69 0) true (H + 1) := chain_ok opO stepA_O stepB_O hr
/-! the end mark behind a sum -/
theorem bd2_bd1 {α β γ δ : Type} (x : Option α) (f : α → Option (β × γ)) (g : β → γ → Option δ) : bd2 (bd1 x f) g = bd1 x fun a => bd2 (f a) g := by cases x <;> rfl
theorem bd2_bd2 {α α' β γ δ : Type} (x : Option (α × α')) (f : α → α' → Option (β × γ)) (g : β → γ → Option δ) : bd2 (bd2 x f) g = bd2 x fun a b => bd2 (f a b) g := by cases x <;> rfl
theorem bd2_ite {β γ δ : Type} {c : Prop} {dc : Decidable c} (x y : Option (β × γ)) (g : β → γ → Option δ) : bd2 (if c then x else y) g = if c then bd2 x g else bd2 y g := by split <;> rfl
def mark (x : Int32) (M : Mm) : Option (Int32 × Mm) := if x = 0 then some ((0 : Int32), M) else bd1 (f_X11_put 69 61 M) fun M' => some ((1 : Int32), M')
theorem mark_0 (M : Mm) : mark 0 M = some (0, M) := rfl
theorem mark_1 (M : Mm) : mark 1 M = bd1 (f_X11_put 69 61 M) fun M' => some ((1 : Int32), M') := rfl
theorem sumL_mark : ∀ (n : Nat) (M : Mm), f_X11_sum_L9 RB 69 1 n M = bd2 (f_X11_sum_L9 RB 69 0 n M) mark := by
  intro n
  induction n with
  | zero => intro M; rfl
  | succ n ih =>
    intro M
    rw [f_X11_sum_L9, f_X11_sum_L9]
    simp only [lz_e, bd2_ite, bd2_bd1, bd2_bd2, bd2_e, mark_0, mark_1, ih, if_neg (show ¬ (1 : Int32) = 0 by decide), if_true]
theorem sum_mark (M : Mm) : f_X11_sum RB 69 1 M = bd2 (f_X11_sum RB 69 0 M) mark := by
  rw [f_X11_sum, f_X11_sum]
  simp only [bd2_ite, bd2_bd2, bd2_e, mark_0, sumL_mark]
theorem testL_mark : ∀ (n : Nat) (M : Mm), f_X11_test_L9 RB 69 1 n M = bd2 (f_X11_test_L9 RB 69 0 n M) mark := by
  intro n
  induction n with
  | zero => intro M; rfl
  | succ n ih =>
    intro M
    rw [f_X11_test_L9, f_X11_test_L9]
    simp only [lz_e, bd2_ite, bd2_bd1, bd2_bd2, bd2_e, mark_0, mark_1, ih, if_neg (show ¬ (1 : Int32) = 0 by decide), if_true]
theorem test_mark (M : Mm) : f_X11_test RB 69 1 M = bd2 (f_X11_test RB 69 0 M) mark := by
  rw [f_X11_test, f_X11_test]
  simp only [bd2_ite, bd2_bd2, bd2_e, mark_0, testL_mark]
theorem cmp_op : ∀ t, t < 47 → 42 ≤ t → ∃ k, k < 5 ∧ t = 42 + k ∧ (tkO.getD t 0, nI (56 + k), 1) ∈ binT ∧ (if symI t = 60 then (56 : Int32) else if symI t = 62 then 57 else if symI t = 61 then 58 else if symI t = 256 then 59 else if symI t = 257 then 60 else -1) = nI (56 + k) ∧ nI (56 + k) ≠ -1 := by
  intro t h1 h2
  have : t = 42 ∨ t = 43 ∨ t = 44 ∨ t = 45 ∨ t = 46 := by omega
  rcases this with rfl | rfl | rfl | rfl | rfl
  · exact ⟨0, by decide, by decide, by decide, by decide, by decide⟩
  · exact ⟨1, by decide, by decide, by decide, by decide, by decide⟩
  · exact ⟨2, by decide, by decide, by decide, by decide, by decide⟩
  · exact ⟨3, by decide, by decide, by decide, by decide, by decide⟩
  · exact ⟨4, by decide, by decide, by decide, by decide, by decide⟩
theorem cmp_no : ∀ t, t < 47 → ¬ (42 ≤ t) → 30 ≤ t → (if symI t = 60 then (56 : Int32) else if symI t = 62 then 57 else if symI t = 61 then 58 else if symI t = 256 then 59 else if symI t = 257 then 60 else -1) = -1 := by decide +kernel
theorem single_ok (hd : d ≤ 8) (h8 : EW T L N p d (fun M => RA 8 3 (nI d) M) (fun M => RB 8 69 0 M) false (V d + 2)) (h7 : d < 8 → EW T L N p (d + 1) (fun M => RA 7 3 (nI (d + 1)) M) (fun M => RB 7 69 0 M) true (V (d + 1) + 3)) (h5 : d < 8 → EW T L N p (d + 1) (fun M => RA 5 3 (nI (d + 1)) M) (fun M => RB 5 69 0 M) true (V (d + 1) + 5)) : EW T L N p d (f_X4_single RA 3 (nI d)) (f_X11_single RB 69) true (V d + 3) := by
  intro i la sb s ea fa A B hA hB hl hs
  have hi := hA.le
  have hp := hA.1.2.2.2
  have hT := (tk_le T L i).1
  by_cases t1 : tk T L i = 25
  · have nA := hA.next (by omega)
    have hN4 := nA.le
    rw [f_X4_single, hA.kind, bd1_e, if_pos (tkc_n hT), if_pos (show nI (1001 + tk T L i) = 1026 by rw [t1]; rfl), f_X11_single, hB.reads (c := 25) (u := 25) rfl (by omega), if_pos t1, lz_e, if_neg (show ¬ (1 : Int32) = 0 by decide), n_suc]
    by_cases hd8 : d < 8
    · obtain ⟨B1, b1, b2, b3⟩ := hB.deepY hd8 (by omega) (by omega)
      rw [hA.entY (c := 1026) (u := 25) rfl (by omega) t1 hd8, bd2_e, if_neg (show ¬ (1 : Int32) = 0 by decide), b1, bd2_e, if_neg (show ¬ (1 : Int32) = 0 by decide)]
      obtain ⟨x, A2, B2, c1, c2, c3, c4, c5⟩ := h7 hd8 (i + 1) la sb s ea fa _ _ nA b2 (by omega) (by omega)
      have c1' : RA 7 3 (nI (d + 1)) (nxA A i) = some (x, A2) := c1
      have c2' : RB 7 69 0 B1 = some (x, B2) := c2
      rw [c1', c2', bd2_e, bd2_e]
      rcases c5 with ⟨rfl, hf⟩ | ⟨rfl, i1, la1, sb1, n1, g1, g2, g3, g4, g5, g6, g7, g8⟩
      · exact ⟨0, A2, B2, if_pos rfl, if_pos rfl, (nxA_fr p la A i).trans c3 (Nat.le_refl _), b3.trans c4 (Nat.le_refl _), Or.inl ⟨rfl, hf⟩⟩
      · have hi1 := g2.le
        obtain ⟨m1, m2⟩ := g2.emit (by omega) 13 0
        obtain ⟨q1, q2⟩ := (g3.dep (d' := d)).put (by omega) 25
        refine ⟨1, emA p la1 13 0 A2, puB sb1 25 (wr B2 69 17 (nI d)), ?_, ?_, ?_, ?_, Or.inr ⟨rfl, i1, la1 + 1, sb1 + 1, n1 + 1, by omega, m2, q2, by omega, by omega, by omega, by omega, fun τ hτ => ?_⟩⟩
        · rw [if_neg (show ¬ (1 : Int32) = 0 by decide), if_pos g2.okp, g2.ridp, m1, bd2_e, if_neg (show ¬ (1 : Int32) = 0 by decide)]
        · rw [if_neg (show ¬ (1 : Int32) = 0 by decide), g3.wdep hd8, lz_e, q1, bd1_e]
        · exact ((nxA_fr p la A i).trans c3 (Nat.le_refl _)).trans (emA_fr _ _ _ _ _) (by omega)
        · exact ((b3.trans c4 (Nat.le_refl _)).trans (FrB.w69 (sb := sb1) (by omega)) (by omega)).trans (puB_fr _ _ _) (by omega)
        · have k1 := (g8 τ (by unfold V at hτ ⊢; omega)).fr hp (emA_fr p la1 13 0 A2) ((FrB.w69 (sb := sb1) (c := 17) (v := nI d) (by omega)).trans (puB_fr sb1 25 _) (Nat.le_refl _))
          obtain ⟨o1, -, -⟩ := emA_op p la1 13 0 A2
          refine k1.app (Seg.one (Or.inr (Or.inr (Or.inr (Or.inl ⟨τ, o1, puB_at _ _ _, rfl, rfl, rfl⟩)))) ?_)
          show τ.length + 1 ≤ 60
          omega
    · refine ⟨0, rfA A (tst T L i), B, ?_, ?_, rfA_fr _ _ _ _, FrB.refl _ _, Or.inl ⟨rfl, fail_at hA hB⟩⟩
      · rw [hA.entN (c := 1026) (u := 25) rfl (by omega) (Or.inr (by omega)), bd2_e, if_pos rfl]
      · rw [hB.deepN (by omega), bd2_e, if_pos rfl]
  · have n25 : ¬ nI (1001 + tk T L i) = 1026 := fun e => t1 ((teq (u := 25) hT (by omega)).mp e)
    rw [f_X4_single, hA.kind, bd1_e, if_pos (tkc_n hT), if_neg n25, bd1_e, if_pos (tkc_n hT), f_X11_single, hB.reads (c := 25) (u := 25) rfl (by omega), if_neg t1, lz_e, if_pos rfl, hB.sees (c := 91) (u := 34) rfl (by omega), lz_e, n_suc]
    by_cases t2 : tk T L i = 34
    · have nA := hA.next (by omega)
      have hN4 := nA.le
      rw [if_pos (show nI (1001 + tk T L i) = 1035 by rw [t2]; rfl), if_pos t2, if_neg (show ¬ (1 : Int32) = 0 by decide)]
      by_cases hd8 : d < 8
      · obtain ⟨B1, b1, b2, b3⟩ := hB.deepY hd8 (by omega) (by omega)
        rw [hA.entY (c := 1035) (u := 34) rfl (by omega) t2 hd8, bd2_e, if_neg (show ¬ (1 : Int32) = 0 by decide), b1, bd2_e, if_neg (show ¬ (1 : Int32) = 0 by decide)]
        obtain ⟨x, A2, B2, c1, c2, c3, c4, c5⟩ := h5 hd8 (i + 1) la sb s ea fa _ _ nA b2 (by omega) (by omega)
        have c1' : RA 5 3 (nI (d + 1)) (nxA A i) = some (x, A2) := c1
        have c2' : RB 5 69 0 B1 = some (x, B2) := c2
        rw [c1', c2', bd2_e, bd2_e]
        have f1 := (nxA_fr p la A i).trans c3 (Nat.le_refl _)
        have f2 := b3.trans c4 (Nat.le_refl _)
        rcases c5 with ⟨rfl, hf⟩ | ⟨rfl, i1, la1, sb1, n1, g1, g2, g3, g4, g5, g6, g7, g8⟩
        · exact ⟨0, A2, B2, if_pos rfl, if_pos rfl, f1, f2, Or.inl ⟨rfl, hf⟩⟩
        · have hi1 := g2.le
          rw [if_neg (show ¬ (1 : Int32) = 0 by decide), if_neg (show ¬ (1 : Int32) = 0 by decide)]
          by_cases t2 : tk T L i1 = 35
          · have nA2 := g2.next (by omega)
            have := nA2.le
            obtain ⟨B3, r1, r2, r3⟩ := g3.shalY (c := 93) (u := 35) rfl (by omega) t2 hd8 (by omega)
            refine ⟨1, nxA A2 i1, B3, ?_, ?_, f1.trans (nxA_fr p la A2 i1) (Nat.le_refl _), f2.trans r3 (by omega), Or.inr ⟨rfl, i1 + 1, la1, sb1, n1, by omega, nA2, r2, g4, g5, by omega, by omega, fun τ hτ => ?_⟩⟩
            · rw [g2.expY (c := 1036) (u := 35) rfl (by omega) t2, bd2_e, if_neg (show ¬ (1 : Int32) = 0 by decide)]
            · rw [r1, bd2_e, if_neg (show ¬ (1 : Int32) = 0 by decide)]
            · exact (g8 τ (by unfold V at hτ ⊢; omega)).fr hp (nxA_fr p la1 A2 i1) r3
          · refine ⟨0, rfA A2 (tst T L i1), B2, ?_, ?_, f1.trans (rfA_fr p la _ _) (Nat.le_refl _), f2, Or.inl ⟨rfl, fail_at g2 g3⟩⟩
            · rw [g2.expN (c := 1036) (u := 35) rfl (by omega) t2, bd2_e, if_pos rfl]
            · rw [g3.shalN (c := 93) (u := 35) rfl (by omega) t2, bd2_e, if_pos rfl]
      · refine ⟨0, rfA A (tst T L i), B, ?_, ?_, rfA_fr _ _ _ _, FrB.refl _ _, Or.inl ⟨rfl, fail_at hA hB⟩⟩
        · rw [hA.entN (c := 1035) (u := 34) rfl (by omega) (Or.inr (by omega)), bd2_e, if_pos rfl]
        · rw [hB.deepN (by omega), bd2_e, if_pos rfl]
    · have n34 : ¬ nI (1001 + tk T L i) = 1035 := fun e => t2 ((teq (u := 34) hT (by omega)).mp e)
      rw [if_neg n34, if_neg t2, if_pos rfl]
      obtain ⟨x, A2, B2, c1, c2, f1, f2, c5⟩ := h8 i la sb s ea fa _ _ hA hB hl hs
      have c1' : RA 8 3 (nI d) A = some (x, A2) := c1
      have c2' : RB 8 69 0 B = some (x, B2) := c2
      rw [c1', c2', bd2_e, bd2_e]
      rcases c5 with ⟨rfl, hf⟩ | ⟨rfl, i1, la1, sb1, n1, g1, g2, g3, g4, g5, g6, g7, g8⟩
      · exact ⟨0, A2, B2, if_pos rfl, if_pos rfl, f1, f2, Or.inl ⟨rfl, hf⟩⟩
      · have hi1 := g2.le
        have hT1 := (tk_le T L i1).1
        have hk := kdB_n hT1
        rw [if_neg (show ¬ (1 : Int32) = 0 by decide), if_neg (show ¬ (1 : Int32) = 0 by decide), g2.kind, bd1_e, if_pos (tkc_n hT1), gr_n hT1, g3.kd]
        by_cases t3 : 42 ≤ tk T L i1 ∧ tk T L i1 < 47
        · obtain ⟨k, k1, k2, k3, k4, k5⟩ := cmp_op _ t3.2 t3.1
          have nA2 := g2.next (by omega)
          have hi2 := nA2.le
          obtain ⟨B3, r1, r2, r3⟩ := g3.adv (by omega) (by omega)
          rw [if_pos ((gr_4 _ hT1).2.2.mpr t3), if_pos (hk.2.1.mpr (by omega)), g3.is (by omega), isB_s (by omega) (by omega), k4, g2.nx, lz_e, lz_e, if_neg k5, r1, bd1_e]
          obtain ⟨x, A4, B4, c1, c2, c3, c4, c5⟩ := h8 (i1 + 1) la1 sb1 s ea fa _ _ nA2 r2 (by omega) (by omega)
          have c1' : RA 8 3 (nI d) (nxA A2 i1) = some (x, A4) := c1
          have c2' : RB 8 69 0 B3 = some (x, B4) := c2
          rw [c1', c2', bd2_e, bd2_e]
          have f3 := f1.trans ((nxA_fr p la1 A2 i1).trans c3 (Nat.le_refl _)) (by omega)
          have f4 := f2.trans ((r3.frB (sb := sb1)).trans c4 (Nat.le_refl _)) (by omega)
          rcases c5 with ⟨rfl, hf⟩ | ⟨rfl, i2, la2, sb2, n2, j1, j2, j3, j4, j5, j6, j7, j8⟩
          · exact ⟨0, A4, B4, if_pos rfl, if_pos rfl, f3, f4, Or.inl ⟨rfl, hf⟩⟩
          · have hi3 := j2.le
            obtain ⟨m1, m2⟩ := j2.emit (by omega) (tkO.getD (tk T L i1) 0) 0
            obtain ⟨q1, q2⟩ := j3.put (by omega) (nI (56 + k))
            refine ⟨1, emA p la2 (tkO.getD (tk T L i1) 0) 0 A4, puB sb2 (nI (56 + k)) B4, ?_, ?_, f3.trans (emA_fr _ _ _ _ _) (by omega), f4.trans (puB_fr _ _ _) (by omega), Or.inr ⟨rfl, i2, la2 + 1, sb2 + 1, n1 + n2 + 1, by omega, m2, q2, by omega, by omega, by omega, by omega, fun τ hτ => ?_⟩⟩
            · rw [if_neg (show ¬ (1 : Int32) = 0 by decide), if_pos j2.okp, if_pos (tkc_n hT1), j2.ridp, op_n hT1, m1, bd2_e, if_neg (show ¬ (1 : Int32) = 0 by decide)]
            · rw [if_neg (show ¬ (1 : Int32) = 0 by decide), q1, bd1_e]
            · have e1 := (g8 τ (by omega)).fr hp (((nxA_fr p la1 A2 i1).trans c3 (Nat.le_refl _)).trans (emA_fr p la2 (tkO.getD (tk T L i1) 0) 0 _) (by omega)) (((r3.frB (sb := sb1)).trans c4 (Nat.le_refl _)).trans (puB_fr sb2 (nI (56 + k)) _) (by omega))
              have e2 := (j8 (false :: τ) (by show τ.length + 1 + _ ≤ 60; omega)).fr hp (emA_fr p la2 (tkO.getD (tk T L i1) 0) 0 _) (puB_fr sb2 (nI (56 + k)) _)
              obtain ⟨o1, -, -⟩ := emA_op p la2 (tkO.getD (tk T L i1) 0) 0 A4
              refine (e1.app e2).app (Seg.one (Or.inr (Or.inr (Or.inr (Or.inr ⟨_, _, 1, false, false, τ, k3, o1, puB_at _ _ _, rfl, rfl, rfl⟩)))) ?_)
              show τ.length + 1 ≤ 60
              omega
        · rw [if_neg (fun e => t3 ((gr_4 _ hT1).2.2.mp e)), g2.refuse, bd2_e]
          have e : (if kdB (tk T L i1) = 4 then (if B2 69 16 = 60 then (56 : Int32) else if B2 69 16 = 62 then 57 else if B2 69 16 = 61 then 58 else if B2 69 16 = 256 then 59 else if B2 69 16 = 257 then 60 else -1) else -1) = -1 := by
            by_cases z : 30 ≤ tk T L i1 ∧ tk T L i1 < 47
            · rw [if_pos (hk.2.1.mpr z), g3.is (by omega), isB_s z.1 z.2]
              exact cmp_no _ z.2 (by omega) z.1
            · rw [if_neg (fun e => z (hk.2.1.mp e))]
          rw [e, lz_e, if_pos rfl]
          exact ⟨0, rfA A2 (tst T L i1), B2, rfl, rfl, f1.trans (rfA_fr p la _ _) (Nat.le_refl _), f2, Or.inl ⟨rfl, fail_at g2 g3⟩⟩
end CH
