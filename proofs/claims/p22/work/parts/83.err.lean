/-! needs 30 31 32 33 39 50 51 52 53 54 64 82 -/
/-! the class's parser: its place goes on, its error stays none or becomes 1 (printed by gen_err.py) -/
def Er (A : Mm) : Prop := (A 3 5 = 0 ∧ A 3 6 = -1) ∨ (A 3 5 = 1 ∧ 0 ≤ (A 3 6).toInt)
def Cu (T : Nat → Int32) (L N p : Nat) (nc : Int32) (nr : Nat → Int32) (A : Mm) (i : Nat) : Prop := StA T L N p A ∧ i ≤ N ∧ A 3 4 = nI i ∧ Er A ∧ A 3 2 = nc ∧ A 9 = nr
def RcP (T : Nat → Int32) (L N p : Nat) (nc : Int32) (nr : Nat → Int32) (rec : Nat → Nat → Int32 → Mm → Option (Int32 × Mm)) : Prop := ∀ (k : Nat) (a : Int32) (A : Mm) (x : Int32) (A' : Mm) (i : Nat), rec k 3 a A = some (x, A') → Cu T L N p nc nr A i → ((k = 2 ∨ k = 3 ∨ k = 4) → tk T L i < 49) → (k = 3 → tk T L i = 10) → ∃ j, i ≤ j ∧ Cu T L N p nc nr A' j
def Rq (T : Nat → Int32) (L : Nat) : Prop := ∀ i, tk T L i = 10 → tk T L (i + 1) = 48 → isB T L (tst T L (i + 1)) 48 ≤ (20 : Int32)
theorem lt_c {x c : Int32} {t u : Nat} (hk : x = nI (1001 + t)) (hs : x = c) (hc : c = nI (1001 + u)) (ht : t < 51) (hu : u < 49) : t < 49 := by
  have := (teq (t := t) (u := u) ht (by omega)).mp (hk.symm.trans (hs.trans hc))
  omega
theorem gr_49 : ∀ t, t < 51 → tkG.getD t 0 ≠ 0 → t < 49 := by decide +kernel
theorem lt_g {x g : Int32} {t : Nat} (hk : x = nI (1001 + t)) (hs : tkGr x = g) (hg : g ≠ 0) (ht : t < 51) : t < 49 := by
  subst hk
  rw [gr_n ht] at hs
  exact gr_49 t ht (by rw [hs]; exact hg)
theorem sw_49 : ∀ t, t < 51 → (tkSw (nI t) ≠ 0 → t < 49) ∧ (tkSw (nI t) = 8 → t = 10) := by decide +kernel
theorem lt_w {x y c : Int32} {t : Nat} (hk : x = nI (1001 + t)) (hs : y = tkSw (nI (tkN x))) (hc : y = c) (h0 : c ≠ 0) (ht : t < 51) : t < 49 := by
  subst hk
  rw [tkN_n ht] at hs
  exact (sw_49 t ht).1 (by rw [← hs, hc]; exact h0)
theorem sw_rep {x y : Int32} {t : Nat} (hk : x = nI (1001 + t)) (hs : y = tkSw (nI (tkN x))) (hc : y = 8) (ht : t < 51) : t = 10 := by
  subst hk
  rw [tkN_n ht] at hs
  exact (sw_49 t ht).2 (by rw [← hs, hc])
section CU
variable {T : Nat → Int32} {L N p : Nat} {nc : Int32} {nr : Nat → Int32}
theorem Er.congr {A A' : Mm} (h : Er A) (e5 : A' 3 5 = A 3 5) (e6 : A' 3 6 = A 3 6) : Er A' := by unfold Er; rw [e5, e6]; exact h
theorem Cu.st {A A' : Mm} {i : Nat} (h : Cu T L N p nc nr A i) (k : ∀ r c, r < 10 → A' r c = A r c) : Cu T L N p nc nr A' i :=
  ⟨h.1.ch (fun r c e => k r c (by omega)), h.2.1, (k 3 4 (by omega)).trans h.2.2.1, h.2.2.2.1.congr (k 3 5 (by omega)) (k 3 6 (by omega)), (k 3 2 (by omega)).trans h.2.2.2.2.1, (funext fun c => k 9 c (by omega)).trans h.2.2.2.2.2⟩
theorem Cu.hp {A : Mm} {i : Nat} (h : Cu T L N p nc nr A i) : p = 10 ∨ p = 16 ∨ p = 22 := h.1.2.2.2
theorem Cu.rid {A : Mm} {i : Nat} (h : Cu T L N p nc nr A i) : rid (A 3 3) = p := by
  have hp := h.hp
  rw [h.1.2.2.1]
  show (nI (p + 1)).toNatClampNeg - 1 = p
  rw [nI_clamp (by omega)]; omega
theorem Cu.kind {A : Mm} {i : Nat} (h : Cu T L N p nc nr A i) : f_X4_kind 3 A = some (nI (1001 + tk T L i)) := by
  have h1 : i ≤ 400 := by have := h.1.1.1; have := h.2.1; omega
  have hk := tk_le T L i
  rw [f_X4_kind, h.2.2.1, f_X6_kindOf, if_neg (show ¬ nI i < 0 by rw [i_lt, i_nI (by omega)]; show ¬ (i : Int) < 0; omega), if_neg (show ¬ (401 : Int32) ≤ nI i by rw [i_le, i_nI (by omega)]; show ¬ (401 : Int) ≤ (i : Int); omega), if_pos (inN (show i < 401 by omega)), ixn (by omega), show (3 + 1 + 1 : Nat) = 5 from rfl, (h.1.1.2.2.2 i h.2.1).1, if_neg (by rw [ixn (by omega)]; omega), bd1_e, if_neg (show ¬ (1 : Int32) = 0 by decide), if_pos (inN (show i < 401 by omega)), if_pos (tkc_n hk.1), bd1_e]
theorem cu_kind {A : Mm} {i : Nat} {x : Int32} (e : f_X4_kind 3 A = some x) (h : Cu T L N p nc nr A i) : x = nI (1001 + tk T L i) := by
  rw [h.kind] at e
  cases e; rfl
theorem Cu.nx {A : Mm} {i : Nat} (h : Cu T L N p nc nr A i) (ht : tk T L i < 49) : Cu T L N p nc nr (wr A 3 4 (A 3 4 + (1 : Int32))) (i + 1) := by
  refine ⟨h.1.ch (fun r c e => wr_o (by omega)), ?_, by rw [wr_at, h.2.2.1, n_suc], h.2.2.2.1.congr (wr_col (by decide)) (wr_col (by decide)), (wr_col (by decide)).trans h.2.2.2.2.1, (wr_ne (by decide)).trans h.2.2.2.2.2⟩
  have h1 := h.2.1
  have h2 := h.1.1.2.1
  by_cases e : i = N
  · subst e; omega
  · omega
theorem cu_ref {A A' : Mm} {i : Nat} {x : Int32} (e : f_X4_refuse 3 A = some (x, A')) (h : Cu T L N p nc nr A i) : x = 0 ∧ Cu T L N p nc nr A' i := by
  have h1 : StA T L N p (wr A 3 5 1) := h.1.ch (fun r c e => wr_o (by omega))
  have e2 : f_X4_refuse 3 A = some (0, rfA A (tst T L i)) := by
    rw [f_X4_refuse]
    simp only [lz_e]
    rw [wr_col (by decide), h.2.2.1, show (3 + 1 : Nat) = 4 from rfl, startA h1 h.2.1, bd1_e]
    rfl
  rw [e2] at e
  cases e
  obtain ⟨r5, r6⟩ := rfA_5 A (tst T L i)
  have o : ∀ r c, (r ≠ 3 ∨ (c ≠ 5 ∧ c ≠ 6)) → rfA A (tst T L i) r c = A r c := fun r c k => by unfold rfA; rw [wr_o (by omega), wr_o (by omega)]
  have hL := h.1.2.1.1
  have ht := tst_le T L i
  refine ⟨rfl, h.1.ch (fun r c k => o r c (by omega)), h.2.1, (o 3 4 (by omega)).trans h.2.2.1, Or.inr ⟨r5, ?_⟩, (o 3 2 (by omega)).trans h.2.2.2.2.1, (funext fun c => o 9 c (by omega)).trans h.2.2.2.2.2⟩
  rw [r6, i_nI (by omega)]
  omega
theorem cu_refR {A A' : Mm} {i : Nat} {x : Int32} (e : f_X4_refuse 3 A = some (x, A')) (h : Cu T L N p nc nr A i) : ∃ j, i ≤ j ∧ Cu T L N p nc nr A' j := ⟨i, Nat.le_refl _, (cu_ref e h).2⟩
theorem cu_exp {u : Nat} {c : Int32} {A A' : Mm} {i : Nat} {x : Int32} (e : f_X4_expect 3 c A = some (x, A')) (hc : c = nI (1001 + u)) (hu : u < 49) (h : Cu T L N p nc nr A i) : (x = 0 ∧ Cu T L N p nc nr A' i) ∨ (x = 1 ∧ tk T L i = u ∧ A' = wr A 3 4 (A 3 4 + (1 : Int32)) ∧ Cu T L N p nc nr A' (i + 1)) := by
  rw [f_X4_expect, h.kind, bd1_e] at e
  obtain ⟨-, e⟩ := it_s e
  obtain ⟨-, e⟩ := it_s e
  have hh := it_c e; clear e
  rcases hh with ⟨q, e⟩ | ⟨-, e⟩
  · obtain ⟨M, hM, e⟩ := lz_s e
    cases e
    have ht := (teq (t := tk T L i) (u := u) (tk_le T L i).1 (by omega)).mp (q.trans hc)
    subst hM
    exact Or.inr ⟨rfl, ht, rfl, h.nx (by omega)⟩
  · obtain ⟨x9, M, e1, e⟩ := bd2_s e
    cases e
    obtain ⟨r1, r2⟩ := cu_ref e1 h
    exact Or.inl ⟨r1, r2⟩
theorem cu_expR {u : Nat} {c : Int32} {A A' : Mm} {i : Nat} {x : Int32} (e : f_X4_expect 3 c A = some (x, A')) (hc : c = nI (1001 + u)) (hu : u < 49) (h : Cu T L N p nc nr A i) : ∃ j, i ≤ j ∧ Cu T L N p nc nr A' j := by
  rcases cu_exp e hc hu h with ⟨-, k⟩ | ⟨-, -, -, k⟩
  · exact ⟨i, Nat.le_refl _, k⟩
  · exact ⟨i + 1, by omega, k⟩
theorem cu_enter {u : Nat} {c a : Int32} {A A' : Mm} {i : Nat} {x : Int32} (e : f_X4_enter 3 c a A = some (x, A')) (hc : c = nI (1001 + u)) (hu : u < 49) (h : Cu T L N p nc nr A i) : ∃ j, i ≤ j ∧ Cu T L N p nc nr A' j := by
  rw [f_X4_enter, h.kind, bd1_e] at e
  obtain ⟨-, e⟩ := it_s e
  obtain ⟨-, e⟩ := it_s e
  have hh := it_c e; clear e
  rcases hh with ⟨q, e⟩ | ⟨-, e⟩
  · have hh := it_c e; clear e
    rcases hh with ⟨-, e⟩ | ⟨-, e⟩
    · obtain ⟨M, hM, e⟩ := lz_s e
      cases e
      have ht := (teq (t := tk T L i) (u := u) (tk_le T L i).1 (by omega)).mp (q.trans hc)
      subst hM
      exact ⟨i + 1, by omega, h.nx (by omega)⟩
    · obtain ⟨x9, M, e1, e⟩ := bd2_s e
      cases e
      exact cu_refR e1 h
  · obtain ⟨x9, M, e1, e⟩ := bd2_s e
    cases e
    exact cu_refR e1 h
theorem cu_emit {a b : Int32} {A A' : Mm} {i : Nat} {x : Int32} (e : f_X5_emit (rid (A 3 3)) a b A = some (x, A')) (h : Cu T L N p nc nr A i) : Cu T L N p nc nr A' i := by
  have hp := h.hp
  rw [h.rid, f_X5_emit] at e
  obtain ⟨M1, e1, e⟩ := bd1_s e
  cases e
  have hh := it_c e1; clear e1
  rcases hh with ⟨-, e⟩ | ⟨-, e⟩
  · cases e; exact h
  · obtain ⟨-, e⟩ := it_s e
    obtain ⟨M4, r4, e⟩ := lz_s e
    obtain ⟨-, e⟩ := it_s e
    obtain ⟨M7, r7, e⟩ := lz_s e
    obtain ⟨M9, r9, e⟩ := lz_s e
    cases e
    exact h.st (fun r c k => by rw [r9, wr_o (by omega), r7, wr_o (by omega), r4, wr_o (by omega)])
theorem cu_lead {v : Int32} {A A' : Mm} {i : Nat} (e : f_X5_leadHere (rid (A 3 3)) v A = some A') (h : Cu T L N p nc nr A i) : Cu T L N p nc nr A' i := by
  have hp := h.hp
  rw [h.rid, f_X5_leadHere] at e
  have hh := it_c e; clear e
  rcases hh with ⟨-, e⟩ | ⟨-, e⟩
  · cases e; exact h
  · have hh := it_c e; clear e
    rcases hh with ⟨-, e⟩ | ⟨-, e⟩
    · cases e; exact h
    · obtain ⟨-, e⟩ := it_s e
      obtain ⟨M4, r4, e⟩ := lz_s e
      cases e
      exact h.st (fun r c k => by rw [r4, wr_o (by omega)])
theorem cu_end {a : Int32} {A A' : Mm} {i : Nat} {x : Int32} (h : f_X4_end 3 a A = some (x, A')) (C : Cu T L N p nc nr A i) : ∃ j, i ≤ j ∧ Cu T L N p nc nr A' j := by
  rw [f_X4_end] at h
  obtain ⟨x1, M2, e, h⟩ := bd2_s h
  obtain ⟨j, l, C2⟩ := cu_expR (u := 36) e rfl (by decide) C
  have hh := it_c h; clear h
  rcases hh with ⟨-, h⟩ | ⟨-, h⟩
  · cases h; exact ⟨j, l, C2⟩
  · obtain ⟨-, h⟩ := it_s h
    obtain ⟨x7, M8, e2, h⟩ := bd2_s h
    have C3 := cu_emit e2 C2
    have hh := it_c h; clear h
    rcases hh with ⟨-, h⟩ | ⟨-, h⟩
    · cases h; exact ⟨j, l, C3⟩
    · cases h; exact ⟨j, l, C3⟩
theorem cu_lim {a : Int32} {A A' : Mm} {i : Nat} {x : Int32} (h : f_X4_limitedNumber 3 a A = some (x, A')) (C : Cu T L N p nc nr A i) (hq : tk T L i = 48 → isB T L (tst T L i) 48 ≤ a) : ∃ j, i ≤ j ∧ Cu T L N p nc nr A' j ∧ (¬ x = 0 → j = i + 1) := by
  rw [f_X4_limitedNumber] at h
  obtain ⟨x1, M2, e, h⟩ := bd2_s h
  rcases cu_exp (u := 48) e rfl (by decide) C with ⟨rfl, C2⟩ | ⟨rfl, ht, -, C2⟩
  · rw [if_pos rfl] at h
    cases h
    exact ⟨i, Nat.le_refl _, C2, fun z => absurd rfl z⟩
  · rw [if_neg (by decide)] at h
    obtain ⟨x6, e6, h⟩ := bd1_s h
    obtain ⟨M14, e14, h⟩ := bd1_s h
    have e7 : f_X6_numberAt 4 (nI i) M2 = some x6 := by rw [← C.2.2.1]; exact e6
    rw [numA C2.1 C.2.1 ht] at e7
    cases e7
    rw [if_pos (hq ht)] at e14
    cases e14
    cases h
    exact ⟨i + 1, by omega, C2, fun _ => rfl⟩
theorem cu_block_L15 {rec : Nat → Nat → Int32 → Mm → Option (Int32 × Mm)} (hR : RcP T L N p nc nr rec) (a1 : Int32) : ∀ (n : Nat) (v0 : Int32) (A : Mm) (x : Int32) (A' : Mm) (i : Nat), f_X4_block_L15 rec 3 a1 n v0 A = some (x, A') → Cu T L N p nc nr A i → ∃ j, i ≤ j ∧ Cu T L N p nc nr A' j := by
  intro n
  induction n with
  | zero => intro v0 A x A' i h C; rw [f_X4_block_L15] at h; cases h
  | succ n ih =>
    intro v0 A x A' i h C
    rw [f_X4_block_L15] at h
    have hh := it_c h; clear h
    rcases hh with ⟨q1, h⟩ | ⟨-, h⟩
    · skip
      obtain ⟨x7, M8, e, h⟩ := bd2_s h
      obtain ⟨i2, l3, C4⟩ := cu_expR (u := 31) e rfl (by decide) C
      clear e
      cases h
      exact ⟨_, (Nat.le_trans (Nat.le_refl _) l3), C4⟩
    · skip
      obtain ⟨x11, e, h⟩ := bd1_s h
      have k5 := cu_kind e C
      clear e
      obtain ⟨-, h⟩ := it_s h
      have hh := it_c h; clear h
      rcases hh with ⟨q6, h⟩ | ⟨-, h⟩
      · skip
        obtain ⟨x16, M17, e, h⟩ := bd2_s h
        obtain ⟨i7, l8, C9⟩ := cu_expR (u := 31) e rfl (by decide) C
        clear e
        cases h
        exact ⟨_, (Nat.le_trans (Nat.le_refl _) l8), C9⟩
      · skip
        obtain ⟨x20, M21, e, h⟩ := bd2_s h
        obtain ⟨i10, l11, C12⟩ := hR 1 _ _ _ _ _ e C (fun z => by omega) (fun z => by omega)
        clear e
        have hh := it_c h; clear h
        rcases hh with ⟨q13, h⟩ | ⟨-, h⟩
        · skip
          cases h
          exact ⟨_, (Nat.le_trans (Nat.le_refl _) l11), C12⟩
        · skip
          obtain ⟨x25, -, h⟩ := lz_s h
          obtain ⟨i9, l9, C9⟩ := ih _ _ _ _ _ h C12
          exact ⟨i9, Nat.le_trans (Nat.le_trans (Nat.le_refl _) l11) l9, C9⟩
theorem cu_block {rec : Nat → Nat → Int32 → Mm → Option (Int32 × Mm)} (hR : RcP T L N p nc nr rec) {a1 : Int32} {A A' : Mm} {x : Int32} {i : Nat} (h : f_X4_block rec 3 a1 A = some (x, A')) (C : Cu T L N p nc nr A i) : ∃ j, i ≤ j ∧ Cu T L N p nc nr A' j := by
  rw [f_X4_block] at h
  obtain ⟨x1, M2, e, h⟩ := bd2_s h
  obtain ⟨i1, l2, C3⟩ := cu_enter (u := 30) e rfl (by decide) C
  clear e
  have hh := it_c h; clear h
  rcases hh with ⟨q4, h⟩ | ⟨-, h⟩
  · skip
    cases h
    exact ⟨_, (Nat.le_trans (Nat.le_refl _) l2), C3⟩
  · skip
    obtain ⟨i9, l9, C9⟩ := cu_block_L15 hR _ _ _ _ _ _ _ h C3
    exact ⟨i9, Nat.le_trans (Nat.le_trans (Nat.le_refl _) l2) l9, C9⟩
theorem cu_sentence {rec : Nat → Nat → Int32 → Mm → Option (Int32 × Mm)} (hR : RcP T L N p nc nr rec) {a1 : Int32} {A A' : Mm} {x : Int32} {i : Nat} (h : f_X4_sentence rec 3 a1 A = some (x, A')) (C : Cu T L N p nc nr A i) : ∃ j, i ≤ j ∧ Cu T L N p nc nr A' j := by
  rw [f_X4_sentence] at h
  obtain ⟨x1, e, h⟩ := bd1_s h
  have k1 := cu_kind e C
  clear e
  obtain ⟨-, h⟩ := it_s h
  obtain ⟨-, h⟩ := it_s h
  obtain ⟨x6, es, h⟩ := lz_s h
  have hh := it_c h; clear h
  rcases hh with ⟨q2, h⟩ | ⟨-, h⟩
  · skip
    obtain ⟨M9, rfl, h⟩ := lz_s h
    have C3 := C.nx (lt_w k1 es q2 (by decide) (tk_le T L _).1)
    obtain ⟨x11, M12, e, h⟩ := bd2_s h
    obtain ⟨i4, l5, C6⟩ := hR 8 _ _ _ _ _ e C3 (fun z => by omega) (fun z => by omega)
    clear e
    have hh := it_c h; clear h
    rcases hh with ⟨q7, h⟩ | ⟨-, h⟩
    · skip
      cases h
      exact ⟨_, (Nat.le_trans (Nat.le_succ_of_le (Nat.le_refl _)) l5), C6⟩
    · skip
      obtain ⟨x16, M17, e, h⟩ := bd2_s h
      obtain ⟨i8, l9, C10⟩ := cu_expR (u := 37) e rfl (by decide) C6
      clear e
      have hh := it_c h; clear h
      rcases hh with ⟨q11, h⟩ | ⟨-, h⟩
      · skip
        cases h
        exact ⟨_, (Nat.le_trans (Nat.le_trans (Nat.le_succ_of_le (Nat.le_refl _)) l5) l9), C10⟩
      · skip
        obtain ⟨x21, M22, e, h⟩ := bd2_s h
        obtain ⟨i12, l13, C14⟩ := hR 8 _ _ _ _ _ e C10 (fun z => by omega) (fun z => by omega)
        clear e
        have hh := it_c h; clear h
        rcases hh with ⟨q15, h⟩ | ⟨-, h⟩
        · skip
          cases h
          exact ⟨_, (Nat.le_trans (Nat.le_trans (Nat.le_trans (Nat.le_succ_of_le (Nat.le_refl _)) l5) l9) l13), C14⟩
        · skip
          obtain ⟨x26, M27, e, h⟩ := bd2_s h
          obtain ⟨i16, l17, C18⟩ := cu_end e C14
          clear e
          have hh := it_c h; clear h
          rcases hh with ⟨q19, h⟩ | ⟨-, h⟩
          · skip
            cases h
            exact ⟨_, (Nat.le_trans (Nat.le_trans (Nat.le_trans (Nat.le_trans (Nat.le_succ_of_le (Nat.le_refl _)) l5) l9) l13) l17), C18⟩
          · skip
            cases h
            exact ⟨_, (Nat.le_trans (Nat.le_trans (Nat.le_trans (Nat.le_trans (Nat.le_succ_of_le (Nat.le_refl _)) l5) l9) l13) l17), C18⟩
  · skip
    have hh := it_c h; clear h
    rcases hh with ⟨q20, h⟩ | ⟨-, h⟩
    · skip
      obtain ⟨M32, rfl, h⟩ := lz_s h
      have C21 := C.nx (lt_w k1 es q20 (by decide) (tk_le T L _).1)
      obtain ⟨x34, M35, e, h⟩ := bd2_s h
      obtain ⟨i22, l23, C24⟩ := hR 8 _ _ _ _ _ e C21 (fun z => by omega) (fun z => by omega)
      clear e
      have hh := it_c h; clear h
      rcases hh with ⟨q25, h⟩ | ⟨-, h⟩
      · skip
        cases h
        exact ⟨_, (Nat.le_trans (Nat.le_succ_of_le (Nat.le_refl _)) l23), C24⟩
      · skip
        obtain ⟨x39, M40, e, h⟩ := bd2_s h
        obtain ⟨i26, l27, C28⟩ := cu_end e C24
        clear e
        have hh := it_c h; clear h
        rcases hh with ⟨q29, h⟩ | ⟨-, h⟩
        · skip
          cases h
          exact ⟨_, (Nat.le_trans (Nat.le_trans (Nat.le_succ_of_le (Nat.le_refl _)) l23) l27), C28⟩
        · skip
          cases h
          exact ⟨_, (Nat.le_trans (Nat.le_trans (Nat.le_succ_of_le (Nat.le_refl _)) l23) l27), C28⟩
    · skip
      have hh := it_c h; clear h
      rcases hh with ⟨q30, h⟩ | ⟨-, h⟩
      · skip
        obtain ⟨M45, rfl, h⟩ := lz_s h
        have C31 := C.nx (lt_w k1 es q30 (by decide) (tk_le T L _).1)
        obtain ⟨x47, M48, e, h⟩ := bd2_s h
        obtain ⟨i32, l33, C34⟩ := cu_end e C31
        clear e
        cases h
        exact ⟨_, (Nat.le_trans (Nat.le_succ_of_le (Nat.le_refl _)) l33), C34⟩
      · skip
        have hh := it_c h; clear h
        rcases hh with ⟨q35, h⟩ | ⟨-, h⟩
        · skip
          obtain ⟨M52, rfl, h⟩ := lz_s h
          have C36 := C.nx (lt_w k1 es q35 (by decide) (tk_le T L _).1)
          obtain ⟨x54, M55, e, h⟩ := bd2_s h
          obtain ⟨i37, l38, C39⟩ := hR 8 _ _ _ _ _ e C36 (fun z => by omega) (fun z => by omega)
          clear e
          have hh := it_c h; clear h
          rcases hh with ⟨q40, h⟩ | ⟨-, h⟩
          · skip
            cases h
            exact ⟨_, (Nat.le_trans (Nat.le_succ_of_le (Nat.le_refl _)) l38), C39⟩
          · skip
            obtain ⟨x59, M60, e, h⟩ := bd2_s h
            obtain ⟨i41, l42, C43⟩ := cu_end e C39
            clear e
            have hh := it_c h; clear h
            rcases hh with ⟨q44, h⟩ | ⟨-, h⟩
            · skip
              cases h
              exact ⟨_, (Nat.le_trans (Nat.le_trans (Nat.le_succ_of_le (Nat.le_refl _)) l38) l42), C43⟩
            · skip
              cases h
              exact ⟨_, (Nat.le_trans (Nat.le_trans (Nat.le_succ_of_le (Nat.le_refl _)) l38) l42), C43⟩
        · skip
          have hh := it_c h; clear h
          rcases hh with ⟨q45, h⟩ | ⟨-, h⟩
          · skip
            obtain ⟨M65, rfl, h⟩ := lz_s h
            have C46 := C.nx (lt_w k1 es q45 (by decide) (tk_le T L _).1)
            obtain ⟨x67, M68, e, h⟩ := bd2_s h
            obtain ⟨i47, l48, C49⟩ := cu_end e C46
            clear e
            cases h
            exact ⟨_, (Nat.le_trans (Nat.le_succ_of_le (Nat.le_refl _)) l48), C49⟩
          · skip
            have hh := it_c h; clear h
            rcases hh with ⟨q50, h⟩ | ⟨-, h⟩
            · skip
              obtain ⟨M72, rfl, h⟩ := lz_s h
              have C51 := C.nx (lt_w k1 es q50 (by decide) (tk_le T L _).1)
              obtain ⟨x74, M75, e, h⟩ := bd2_s h
              obtain ⟨i52, l53, C54⟩ := hR 8 _ _ _ _ _ e C51 (fun z => by omega) (fun z => by omega)
              clear e
              have hh := it_c h; clear h
              rcases hh with ⟨q55, h⟩ | ⟨-, h⟩
              · skip
                cases h
                exact ⟨_, (Nat.le_trans (Nat.le_succ_of_le (Nat.le_refl _)) l53), C54⟩
              · skip
                obtain ⟨x79, M80, e, h⟩ := bd2_s h
                obtain ⟨i56, l57, C58⟩ := cu_end e C54
                clear e
                have hh := it_c h; clear h
                rcases hh with ⟨q59, h⟩ | ⟨-, h⟩
                · skip
                  cases h
                  exact ⟨_, (Nat.le_trans (Nat.le_trans (Nat.le_succ_of_le (Nat.le_refl _)) l53) l57), C58⟩
                · skip
                  cases h
                  exact ⟨_, (Nat.le_trans (Nat.le_trans (Nat.le_succ_of_le (Nat.le_refl _)) l53) l57), C58⟩
            · skip
              have hh := it_c h; clear h
              rcases hh with ⟨q60, h⟩ | ⟨-, h⟩
              · skip
                obtain ⟨x85, M86, e, h⟩ := bd2_s h
                obtain ⟨i61, l62, C63⟩ := hR 2 _ _ _ _ _ e C (fun _ => (lt_w k1 es q60 (by decide) (tk_le T L _).1)) (fun z => by omega)
                clear e
                cases h
                exact ⟨_, (Nat.le_trans (Nat.le_refl _) l62), C63⟩
              · skip
                have hh := it_c h; clear h
                rcases hh with ⟨q64, h⟩ | ⟨-, h⟩
                · skip
                  obtain ⟨x90, M91, e, h⟩ := bd2_s h
                  obtain ⟨i65, l66, C67⟩ := hR 3 _ _ _ _ _ e C (fun _ => (lt_w k1 es q64 (by decide) (tk_le T L _).1)) (fun _ => sw_rep k1 es q64 (tk_le T L _).1)
                  clear e
                  cases h
                  exact ⟨_, (Nat.le_trans (Nat.le_refl _) l66), C67⟩
                · skip
                  have hh := it_c h; clear h
                  rcases hh with ⟨q68, h⟩ | ⟨-, h⟩
                  · skip
                    obtain ⟨x95, M96, e, h⟩ := bd2_s h
                    obtain ⟨i69, l70, C71⟩ := hR 4 _ _ _ _ _ e C (fun _ => (lt_w k1 es q68 (by decide) (tk_le T L _).1)) (fun z => by omega)
                    clear e
                    cases h
                    exact ⟨_, (Nat.le_trans (Nat.le_refl _) l70), C71⟩
                  · skip
                    obtain ⟨x99, M100, e, h⟩ := bd2_s h
                    obtain ⟨i72, l73, C74⟩ := cu_refR e C
                    clear e
                    cases h
                    exact ⟨_, (Nat.le_trans (Nat.le_refl _) l73), C74⟩
theorem cu_choice {rec : Nat → Nat → Int32 → Mm → Option (Int32 × Mm)} (hR : RcP T L N p nc nr rec) {a1 : Int32} {A A' : Mm} {x : Int32} {i : Nat} (h : f_X4_choice rec 3 a1 A = some (x, A')) (C : Cu T L N p nc nr A i) (hP : tk T L i < 49) : ∃ j, i ≤ j ∧ Cu T L N p nc nr A' j := by
  rw [f_X4_choice] at h
  obtain ⟨M1, rfl, h⟩ := lz_s h
  have C1 := C.nx hP
  obtain ⟨x3, M4, e, h⟩ := bd2_s h
  obtain ⟨i2, l3, C4⟩ := hR 5 _ _ _ _ _ e C1 (fun z => by omega) (fun z => by omega)
  clear e
  have hh := it_c h; clear h
  rcases hh with ⟨q5, h⟩ | ⟨-, h⟩
  · skip
    cases h
    exact ⟨_, (Nat.le_trans (Nat.le_succ_of_le (Nat.le_refl _)) l3), C4⟩
  · skip
    obtain ⟨-, h⟩ := it_s h
    obtain ⟨-, h⟩ := it_s h
    obtain ⟨x10, M11, e, h⟩ := bd2_s h
    have C8 := cu_emit e C4
    clear e
    obtain ⟨x14, M15, e, h⟩ := bd2_s h
    obtain ⟨i9, l10, C11⟩ := hR 0 _ _ _ _ _ e C8 (fun z => by omega) (fun z => by omega)
    clear e
    have hh := it_c h; clear h
    rcases hh with ⟨q12, h⟩ | ⟨-, h⟩
    · skip
      cases h
      exact ⟨_, (Nat.le_trans (Nat.le_trans (Nat.le_succ_of_le (Nat.le_refl _)) l3) l10), C11⟩
    · skip
      obtain ⟨x19, e, h⟩ := bd1_s h
      have k13 := cu_kind e C11
      clear e
      obtain ⟨-, h⟩ := it_s h
      have hh := it_c h; clear h
      rcases hh with ⟨q14, h⟩ | ⟨-, h⟩
      · skip
        obtain ⟨M24, rfl, h⟩ := lz_s h
        have C15 := C11.nx (lt_c k13 q14 (u := 9) rfl (tk_le T L _).1 (by decide))
        obtain ⟨-, h⟩ := it_s h
        obtain ⟨-, h⟩ := it_s h
        obtain ⟨x28, M29, e, h⟩ := bd2_s h
        have C18 := cu_emit e C15
        clear e
        obtain ⟨-, h⟩ := it_s h
        obtain ⟨M33, e, h⟩ := bd1_s h
        have C19 := cu_lead e C18
        clear e
        obtain ⟨x36, M37, e, h⟩ := bd2_s h
        obtain ⟨i20, l21, C22⟩ := hR 0 _ _ _ _ _ e C19 (fun z => by omega) (fun z => by omega)
        clear e
        have hh := it_c h; clear h
        rcases hh with ⟨q23, h⟩ | ⟨-, h⟩
        · skip
          cases h
          exact ⟨_, (Nat.le_trans (Nat.le_succ_of_le (Nat.le_trans (Nat.le_trans (Nat.le_succ_of_le (Nat.le_refl _)) l3) l10)) l21), C22⟩
        · skip
          obtain ⟨-, h⟩ := it_s h
          obtain ⟨M42, e, h⟩ := bd1_s h
          have C24 := cu_lead e C22
          clear e
          cases h
          exact ⟨_, (Nat.le_trans (Nat.le_succ_of_le (Nat.le_trans (Nat.le_trans (Nat.le_succ_of_le (Nat.le_refl _)) l3) l10)) l21), C24⟩
      · skip
        obtain ⟨-, h⟩ := it_s h
        obtain ⟨M46, e, h⟩ := bd1_s h
        have C25 := cu_lead e C11
        clear e
        cases h
        exact ⟨_, (Nat.le_trans (Nat.le_trans (Nat.le_succ_of_le (Nat.le_refl _)) l3) l10), C25⟩
theorem cu_testedLoop {rec : Nat → Nat → Int32 → Mm → Option (Int32 × Mm)} (hR : RcP T L N p nc nr rec) {a1 : Int32} {A A' : Mm} {x : Int32} {i : Nat} (h : f_X4_testedLoop rec 3 a1 A = some (x, A')) (C : Cu T L N p nc nr A i) (hP : tk T L i < 49) : ∃ j, i ≤ j ∧ Cu T L N p nc nr A' j := by
  rw [f_X4_testedLoop] at h
  obtain ⟨M1, rfl, h⟩ := lz_s h
  have C1 := C.nx hP
  obtain ⟨-, h⟩ := it_s h
  obtain ⟨x4, M5, e, h⟩ := bd2_s h
  obtain ⟨i2, l3, C4⟩ := hR 5 _ _ _ _ _ e C1 (fun z => by omega) (fun z => by omega)
  clear e
  have hh := it_c h; clear h
  rcases hh with ⟨q5, h⟩ | ⟨-, h⟩
  · skip
    cases h
    exact ⟨_, (Nat.le_trans (Nat.le_succ_of_le (Nat.le_refl _)) l3), C4⟩
  · skip
    obtain ⟨-, h⟩ := it_s h
    obtain ⟨-, h⟩ := it_s h
    obtain ⟨x11, M12, e, h⟩ := bd2_s h
    have C8 := cu_emit e C4
    clear e
    obtain ⟨x15, M16, e, h⟩ := bd2_s h
    obtain ⟨i9, l10, C11⟩ := hR 0 _ _ _ _ _ e C8 (fun z => by omega) (fun z => by omega)
    clear e
    have hh := it_c h; clear h
    rcases hh with ⟨q12, h⟩ | ⟨-, h⟩
    · skip
      cases h
      exact ⟨_, (Nat.le_trans (Nat.le_trans (Nat.le_succ_of_le (Nat.le_refl _)) l3) l10), C11⟩
    · skip
      obtain ⟨-, h⟩ := it_s h
      obtain ⟨x21, M22, e, h⟩ := bd2_s h
      have C15 := cu_emit e C11
      clear e
      obtain ⟨-, h⟩ := it_s h
      obtain ⟨M26, e, h⟩ := bd1_s h
      have C16 := cu_lead e C15
      clear e
      cases h
      exact ⟨_, (Nat.le_trans (Nat.le_trans (Nat.le_succ_of_le (Nat.le_refl _)) l3) l10), C16⟩
theorem cu_countedLoop {rec : Nat → Nat → Int32 → Mm → Option (Int32 × Mm)} (hR : RcP T L N p nc nr rec) {a1 : Int32} {A A' : Mm} {x : Int32} {i : Nat} (h : f_X4_countedLoop rec 3 a1 A = some (x, A')) (C : Cu T L N p nc nr A i) (hP : tk T L i < 49) (hK : tk T L i = 10) (hQ : Rq T L) : ∃ j, i ≤ j ∧ Cu T L N p nc nr A' j := by
  rw [f_X4_countedLoop] at h
  obtain ⟨M1, rfl, h⟩ := lz_s h
  have C1 := C.nx hP
  obtain ⟨x3, M4, e, h⟩ := bd2_s h
  obtain ⟨i2, l3, C4, -⟩ := cu_lim e C1 (hQ _ hK)
  clear e
  have hh := it_c h; clear h
  rcases hh with ⟨q5, h⟩ | ⟨-, h⟩
  · skip
    cases h
    exact ⟨_, (Nat.le_trans (Nat.le_succ_of_le (Nat.le_refl _)) l3), C4⟩
  · skip
    obtain ⟨x8, -, h⟩ := bd1_s h
    obtain ⟨-, h⟩ := it_s h
    obtain ⟨x12, M13, e, h⟩ := bd2_s h
    have C8 := cu_emit e C4
    clear e
    obtain ⟨-, h⟩ := it_s h
    obtain ⟨x17, M18, e, h⟩ := bd2_s h
    have C11 := cu_emit e C8
    clear e
    obtain ⟨-, h⟩ := it_s h
    obtain ⟨-, h⟩ := it_s h
    obtain ⟨x23, M24, e, h⟩ := bd2_s h
    have C14 := cu_emit e C11
    clear e
    obtain ⟨-, h⟩ := it_s h
    obtain ⟨-, h⟩ := it_s h
    obtain ⟨x29, M30, e, h⟩ := bd2_s h
    have C17 := cu_emit e C14
    clear e
    obtain ⟨x33, M34, e, h⟩ := bd2_s h
    obtain ⟨i18, l19, C20⟩ := hR 0 _ _ _ _ _ e C17 (fun z => by omega) (fun z => by omega)
    clear e
    have hh := it_c h; clear h
    rcases hh with ⟨q21, h⟩ | ⟨-, h⟩
    · skip
      cases h
      exact ⟨_, (Nat.le_trans (Nat.le_trans (Nat.le_succ_of_le (Nat.le_refl _)) l3) l19), C20⟩
    · skip
      obtain ⟨-, h⟩ := it_s h
      obtain ⟨x39, M40, e, h⟩ := bd2_s h
      have C24 := cu_emit e C20
      clear e
      obtain ⟨-, h⟩ := it_s h
      obtain ⟨M44, e, h⟩ := bd1_s h
      have C25 := cu_lead e C24
      clear e
      cases h
      exact ⟨_, (Nat.le_trans (Nat.le_trans (Nat.le_succ_of_le (Nat.le_refl _)) l3) l19), C25⟩
theorem cu_test_L8 {rec : Nat → Nat → Int32 → Mm → Option (Int32 × Mm)} (hR : RcP T L N p nc nr rec) (a1 : Int32) : ∀ (n : Nat) (v0 v1 : Int32) (A : Mm) (x : Int32) (A' : Mm) (i : Nat), f_X4_test_L8 rec 3 a1 n v0 v1 A = some (x, A') → Cu T L N p nc nr A i → ∃ j, i ≤ j ∧ Cu T L N p nc nr A' j := by
  intro n
  induction n with
  | zero => intro v0 v1 A x A' i h C; rw [f_X4_test_L8] at h; cases h
  | succ n ih =>
    intro v0 v1 A x A' i h C
    rw [f_X4_test_L8] at h
    have hh := it_c h; clear h
    rcases hh with ⟨q1, h⟩ | ⟨-, h⟩
    · skip
      cases h
      exact ⟨_, (Nat.le_refl _), C⟩
    · skip
      have hh := it_c h; clear h
      rcases hh with ⟨q2, h⟩ | ⟨-, h⟩
      · skip
        cases h
        exact ⟨_, (Nat.le_refl _), C⟩
      · skip
        obtain ⟨x7, e, h⟩ := bd1_s h
        have k3 := cu_kind e C
        clear e
        obtain ⟨-, h⟩ := it_s h
        have hh := it_c h; clear h
        rcases hh with ⟨q4, h⟩ | ⟨-, h⟩
        · skip
          obtain ⟨M12, rfl, h⟩ := lz_s h
          have C5 := C.nx (lt_c k3 q4 (u := 27) rfl (tk_le T L _).1 (by decide))
          obtain ⟨x14, M15, e, h⟩ := bd2_s h
          obtain ⟨i6, l7, C8⟩ := hR 6 _ _ _ _ _ e C5 (fun z => by omega) (fun z => by omega)
          clear e
          obtain ⟨x26, M27, e, h⟩ := bd2_s h
          have zz : ∃ j, i6 ≤ j ∧ Cu T L N p nc nr M27 j := by
            clear h
            have h := e; clear e
            have hh := it_c h; clear h
            rcases hh with ⟨q12, h⟩ | ⟨-, h⟩
            · skip
              cases h
              exact ⟨_, (Nat.le_refl _), C8⟩
            · skip
              obtain ⟨-, h⟩ := it_s h
              obtain ⟨x21, M22, e, h⟩ := bd2_s h
              have C15 := cu_emit e C8
              clear e
              have hh := it_c h; clear h
              rcases hh with ⟨q16, h⟩ | ⟨-, h⟩
              · skip
                cases h
                exact ⟨_, (Nat.le_refl _), C15⟩
              · skip
                cases h
                exact ⟨_, (Nat.le_refl _), C15⟩
          obtain ⟨i9, l10, C11⟩ := zz
          clear e
          obtain ⟨x29, -, h⟩ := lz_s h
          obtain ⟨i9, l9, C9⟩ := ih _ _ _ _ _ _ h C11
          exact ⟨i9, Nat.le_trans (Nat.le_trans (Nat.le_trans (Nat.le_succ_of_le (Nat.le_refl _)) l7) l10) l9, C9⟩
        · skip
          cases h
          exact ⟨_, (Nat.le_refl _), C⟩
theorem cu_test {rec : Nat → Nat → Int32 → Mm → Option (Int32 × Mm)} (hR : RcP T L N p nc nr rec) {a1 : Int32} {A A' : Mm} {x : Int32} {i : Nat} (h : f_X4_test rec 3 a1 A = some (x, A')) (C : Cu T L N p nc nr A i) : ∃ j, i ≤ j ∧ Cu T L N p nc nr A' j := by
  rw [f_X4_test] at h
  obtain ⟨x1, M2, e, h⟩ := bd2_s h
  obtain ⟨i1, l2, C3⟩ := hR 6 _ _ _ _ _ e C (fun z => by omega) (fun z => by omega)
  clear e
  obtain ⟨x32, M33, e, h⟩ := bd2_s h
  obtain ⟨i4, l5, C6⟩ := cu_test_L8 hR _ _ _ _ _ _ _ _ e C3
  clear e
  obtain ⟨-, h⟩ := it_s h
  cases h
  exact ⟨_, (Nat.le_trans (Nat.le_trans (Nat.le_refl _) l2) l5), C6⟩
theorem cu_both_L8 {rec : Nat → Nat → Int32 → Mm → Option (Int32 × Mm)} (hR : RcP T L N p nc nr rec) (a1 : Int32) : ∀ (n : Nat) (v0 v1 : Int32) (A : Mm) (x : Int32) (A' : Mm) (i : Nat), f_X4_both_L8 rec 3 a1 n v0 v1 A = some (x, A') → Cu T L N p nc nr A i → ∃ j, i ≤ j ∧ Cu T L N p nc nr A' j := by
  intro n
  induction n with
  | zero => intro v0 v1 A x A' i h C; rw [f_X4_both_L8] at h; cases h
  | succ n ih =>
    intro v0 v1 A x A' i h C
    rw [f_X4_both_L8] at h
    have hh := it_c h; clear h
    rcases hh with ⟨q1, h⟩ | ⟨-, h⟩
    · skip
      cases h
      exact ⟨_, (Nat.le_refl _), C⟩
    · skip
      have hh := it_c h; clear h
      rcases hh with ⟨q2, h⟩ | ⟨-, h⟩
      · skip
        cases h
        exact ⟨_, (Nat.le_refl _), C⟩
      · skip
        obtain ⟨x7, e, h⟩ := bd1_s h
        have k3 := cu_kind e C
        clear e
        obtain ⟨-, h⟩ := it_s h
        have hh := it_c h; clear h
        rcases hh with ⟨q4, h⟩ | ⟨-, h⟩
        · skip
          obtain ⟨M12, rfl, h⟩ := lz_s h
          have C5 := C.nx (lt_c k3 q4 (u := 26) rfl (tk_le T L _).1 (by decide))
          obtain ⟨x14, M15, e, h⟩ := bd2_s h
          obtain ⟨i6, l7, C8⟩ := hR 7 _ _ _ _ _ e C5 (fun z => by omega) (fun z => by omega)
          clear e
          obtain ⟨x26, M27, e, h⟩ := bd2_s h
          have zz : ∃ j, i6 ≤ j ∧ Cu T L N p nc nr M27 j := by
            clear h
            have h := e; clear e
            have hh := it_c h; clear h
            rcases hh with ⟨q12, h⟩ | ⟨-, h⟩
            · skip
              cases h
              exact ⟨_, (Nat.le_refl _), C8⟩
            · skip
              obtain ⟨-, h⟩ := it_s h
              obtain ⟨x21, M22, e, h⟩ := bd2_s h
              have C15 := cu_emit e C8
              clear e
              have hh := it_c h; clear h
              rcases hh with ⟨q16, h⟩ | ⟨-, h⟩
              · skip
                cases h
                exact ⟨_, (Nat.le_refl _), C15⟩
              · skip
                cases h
                exact ⟨_, (Nat.le_refl _), C15⟩
          obtain ⟨i9, l10, C11⟩ := zz
          clear e
          obtain ⟨x29, -, h⟩ := lz_s h
          obtain ⟨i9, l9, C9⟩ := ih _ _ _ _ _ _ h C11
          exact ⟨i9, Nat.le_trans (Nat.le_trans (Nat.le_trans (Nat.le_succ_of_le (Nat.le_refl _)) l7) l10) l9, C9⟩
        · skip
          cases h
          exact ⟨_, (Nat.le_refl _), C⟩
theorem cu_both {rec : Nat → Nat → Int32 → Mm → Option (Int32 × Mm)} (hR : RcP T L N p nc nr rec) {a1 : Int32} {A A' : Mm} {x : Int32} {i : Nat} (h : f_X4_both rec 3 a1 A = some (x, A')) (C : Cu T L N p nc nr A i) : ∃ j, i ≤ j ∧ Cu T L N p nc nr A' j := by
  rw [f_X4_both] at h
  obtain ⟨x1, M2, e, h⟩ := bd2_s h
  obtain ⟨i1, l2, C3⟩ := hR 7 _ _ _ _ _ e C (fun z => by omega) (fun z => by omega)
  clear e
  obtain ⟨x32, M33, e, h⟩ := bd2_s h
  obtain ⟨i4, l5, C6⟩ := cu_both_L8 hR _ _ _ _ _ _ _ _ e C3
  clear e
  obtain ⟨-, h⟩ := it_s h
  cases h
  exact ⟨_, (Nat.le_trans (Nat.le_trans (Nat.le_refl _) l2) l5), C6⟩
theorem cu_single {rec : Nat → Nat → Int32 → Mm → Option (Int32 × Mm)} (hR : RcP T L N p nc nr rec) {a1 : Int32} {A A' : Mm} {x : Int32} {i : Nat} (h : f_X4_single rec 3 a1 A = some (x, A')) (C : Cu T L N p nc nr A i) : ∃ j, i ≤ j ∧ Cu T L N p nc nr A' j := by
  rw [f_X4_single] at h
  obtain ⟨x1, e, h⟩ := bd1_s h
  have k1 := cu_kind e C
  clear e
  obtain ⟨-, h⟩ := it_s h
  have hh := it_c h; clear h
  rcases hh with ⟨q2, h⟩ | ⟨-, h⟩
  · skip
    obtain ⟨x54, M55, e, h⟩ := bd2_s h
    obtain ⟨i3, l4, C5⟩ := cu_enter (u := 25) e rfl (by decide) C
    clear e
    have hh := it_c h; clear h
    rcases hh with ⟨q6, h⟩ | ⟨-, h⟩
    · skip
      cases h
      exact ⟨_, (Nat.le_trans (Nat.le_refl _) l4), C5⟩
    · skip
      obtain ⟨x59, M60, e, h⟩ := bd2_s h
      obtain ⟨i7, l8, C9⟩ := hR 7 _ _ _ _ _ e C5 (fun z => by omega) (fun z => by omega)
      clear e
      have hh := it_c h; clear h
      rcases hh with ⟨q10, h⟩ | ⟨-, h⟩
      · skip
        cases h
        exact ⟨_, (Nat.le_trans (Nat.le_trans (Nat.le_refl _) l4) l8), C9⟩
      · skip
        obtain ⟨-, h⟩ := it_s h
        obtain ⟨x65, M66, e, h⟩ := bd2_s h
        have C13 := cu_emit e C9
        clear e
        have hh := it_c h; clear h
        rcases hh with ⟨q14, h⟩ | ⟨-, h⟩
        · skip
          cases h
          exact ⟨_, (Nat.le_trans (Nat.le_trans (Nat.le_refl _) l4) l8), C13⟩
        · skip
          cases h
          exact ⟨_, (Nat.le_trans (Nat.le_trans (Nat.le_refl _) l4) l8), C13⟩
  · skip
    obtain ⟨x6, e, h⟩ := bd1_s h
    have k15 := cu_kind e C
    clear e
    obtain ⟨-, h⟩ := it_s h
    have hh := it_c h; clear h
    rcases hh with ⟨q16, h⟩ | ⟨-, h⟩
    · skip
      obtain ⟨x39, M40, e, h⟩ := bd2_s h
      obtain ⟨i17, l18, C19⟩ := cu_enter (u := 34) e rfl (by decide) C
      clear e
      have hh := it_c h; clear h
      rcases hh with ⟨q20, h⟩ | ⟨-, h⟩
      · skip
        cases h
        exact ⟨_, (Nat.le_trans (Nat.le_refl _) l18), C19⟩
      · skip
        obtain ⟨x44, M45, e, h⟩ := bd2_s h
        obtain ⟨i21, l22, C23⟩ := hR 5 _ _ _ _ _ e C19 (fun z => by omega) (fun z => by omega)
        clear e
        have hh := it_c h; clear h
        rcases hh with ⟨q24, h⟩ | ⟨-, h⟩
        · skip
          cases h
          exact ⟨_, (Nat.le_trans (Nat.le_trans (Nat.le_refl _) l18) l22), C23⟩
        · skip
          obtain ⟨x49, M50, e, h⟩ := bd2_s h
          obtain ⟨i25, l26, C27⟩ := cu_expR (u := 35) e rfl (by decide) C23
          clear e
          have hh := it_c h; clear h
          rcases hh with ⟨q28, h⟩ | ⟨-, h⟩
          · skip
            cases h
            exact ⟨_, (Nat.le_trans (Nat.le_trans (Nat.le_trans (Nat.le_refl _) l18) l22) l26), C27⟩
          · skip
            cases h
            exact ⟨_, (Nat.le_trans (Nat.le_trans (Nat.le_trans (Nat.le_refl _) l18) l22) l26), C27⟩
    · skip
      obtain ⟨x11, M12, e, h⟩ := bd2_s h
      obtain ⟨i29, l30, C31⟩ := hR 8 _ _ _ _ _ e C (fun z => by omega) (fun z => by omega)
      clear e
      have hh := it_c h; clear h
      rcases hh with ⟨q32, h⟩ | ⟨-, h⟩
      · skip
        cases h
        exact ⟨_, (Nat.le_trans (Nat.le_refl _) l30), C31⟩
      · skip
        obtain ⟨x16, e, h⟩ := bd1_s h
        have k33 := cu_kind e C31
        clear e
        obtain ⟨-, h⟩ := it_s h
        have hh := it_c h; clear h
        rcases hh with ⟨q34, h⟩ | ⟨-, h⟩
        · skip
          obtain ⟨M21, rfl, h⟩ := lz_s h
          have C35 := C31.nx (lt_g k33 q34 (by decide) (tk_le T L _).1)
          obtain ⟨x23, M24, e, h⟩ := bd2_s h
          obtain ⟨i36, l37, C38⟩ := hR 8 _ _ _ _ _ e C35 (fun z => by omega) (fun z => by omega)
          clear e
          have hh := it_c h; clear h
          rcases hh with ⟨q39, h⟩ | ⟨-, h⟩
          · skip
            cases h
            exact ⟨_, (Nat.le_trans (Nat.le_succ_of_le (Nat.le_trans (Nat.le_refl _) l30)) l37), C38⟩
          · skip
            obtain ⟨-, h⟩ := it_s h
            obtain ⟨-, h⟩ := it_s h
            obtain ⟨x30, M31, e, h⟩ := bd2_s h
            have C42 := cu_emit e C38
            clear e
            have hh := it_c h; clear h
            rcases hh with ⟨q43, h⟩ | ⟨-, h⟩
            · skip
              cases h
              exact ⟨_, (Nat.le_trans (Nat.le_succ_of_le (Nat.le_trans (Nat.le_refl _) l30)) l37), C42⟩
            · skip
              cases h
              exact ⟨_, (Nat.le_trans (Nat.le_succ_of_le (Nat.le_trans (Nat.le_refl _) l30)) l37), C42⟩
        · skip
          obtain ⟨x35, M36, e, h⟩ := bd2_s h
          obtain ⟨i44, l45, C46⟩ := cu_refR e C31
          clear e
          cases h
          exact ⟨_, (Nat.le_trans (Nat.le_trans (Nat.le_refl _) l30) l45), C46⟩
theorem cu_sum_L8 {rec : Nat → Nat → Int32 → Mm → Option (Int32 × Mm)} (hR : RcP T L N p nc nr rec) (a1 : Int32) : ∀ (n : Nat) (v0 v1 : Int32) (A : Mm) (x : Int32) (A' : Mm) (i : Nat), f_X4_sum_L8 rec 3 a1 n v0 v1 A = some (x, A') → Cu T L N p nc nr A i → ∃ j, i ≤ j ∧ Cu T L N p nc nr A' j := by
  intro n
  induction n with
  | zero => intro v0 v1 A x A' i h C; rw [f_X4_sum_L8] at h; cases h
  | succ n ih =>
    intro v0 v1 A x A' i h C
    rw [f_X4_sum_L8] at h
    have hh := it_c h; clear h
    rcases hh with ⟨q1, h⟩ | ⟨-, h⟩
    · skip
      cases h
      exact ⟨_, (Nat.le_refl _), C⟩
    · skip
      have hh := it_c h; clear h
      rcases hh with ⟨q2, h⟩ | ⟨-, h⟩
      · skip
        cases h
        exact ⟨_, (Nat.le_refl _), C⟩
      · skip
        obtain ⟨x7, e, h⟩ := bd1_s h
        have k3 := cu_kind e C
        clear e
        obtain ⟨-, h⟩ := it_s h
        have hh := it_c h; clear h
        rcases hh with ⟨q4, h⟩ | ⟨-, h⟩
        · skip
          obtain ⟨x12, e, h⟩ := bd1_s h
          have k5 := cu_kind e C
          clear e
          obtain ⟨-, h⟩ := it_s h
          obtain ⟨M16, rfl, h⟩ := lz_s h
          have C6 := C.nx (lt_g k3 q4 (by decide) (tk_le T L _).1)
          obtain ⟨x18, M19, e, h⟩ := bd2_s h
          obtain ⟨i7, l8, C9⟩ := hR 9 _ _ _ _ _ e C6 (fun z => by omega) (fun z => by omega)
          clear e
          obtain ⟨x30, M31, e, h⟩ := bd2_s h
          have zz : ∃ j, i7 ≤ j ∧ Cu T L N p nc nr M31 j := by
            clear h
            have h := e; clear e
            have hh := it_c h; clear h
            rcases hh with ⟨q13, h⟩ | ⟨-, h⟩
            · skip
              cases h
              exact ⟨_, (Nat.le_refl _), C9⟩
            · skip
              obtain ⟨-, h⟩ := it_s h
              obtain ⟨x25, M26, e, h⟩ := bd2_s h
              have C16 := cu_emit e C9
              clear e
              have hh := it_c h; clear h
              rcases hh with ⟨q17, h⟩ | ⟨-, h⟩
              · skip
                cases h
                exact ⟨_, (Nat.le_refl _), C16⟩
              · skip
                cases h
                exact ⟨_, (Nat.le_refl _), C16⟩
          obtain ⟨i10, l11, C12⟩ := zz
          clear e
          obtain ⟨x33, -, h⟩ := lz_s h
          obtain ⟨i9, l9, C9⟩ := ih _ _ _ _ _ _ h C12
          exact ⟨i9, Nat.le_trans (Nat.le_trans (Nat.le_trans (Nat.le_succ_of_le (Nat.le_refl _)) l8) l11) l9, C9⟩
        · skip
          cases h
          exact ⟨_, (Nat.le_refl _), C⟩
theorem cu_sum {rec : Nat → Nat → Int32 → Mm → Option (Int32 × Mm)} (hR : RcP T L N p nc nr rec) {a1 : Int32} {A A' : Mm} {x : Int32} {i : Nat} (h : f_X4_sum rec 3 a1 A = some (x, A')) (C : Cu T L N p nc nr A i) : ∃ j, i ≤ j ∧ Cu T L N p nc nr A' j := by
  rw [f_X4_sum] at h
  obtain ⟨x1, M2, e, h⟩ := bd2_s h
  obtain ⟨i1, l2, C3⟩ := hR 9 _ _ _ _ _ e C (fun z => by omega) (fun z => by omega)
  clear e
  obtain ⟨x36, M37, e, h⟩ := bd2_s h
  obtain ⟨i4, l5, C6⟩ := cu_sum_L8 hR _ _ _ _ _ _ _ _ e C3
  clear e
  obtain ⟨-, h⟩ := it_s h
  cases h
  exact ⟨_, (Nat.le_trans (Nat.le_trans (Nat.le_refl _) l2) l5), C6⟩
theorem cu_product_L8 {rec : Nat → Nat → Int32 → Mm → Option (Int32 × Mm)} (hR : RcP T L N p nc nr rec) (a1 : Int32) : ∀ (n : Nat) (v0 v1 : Int32) (A : Mm) (x : Int32) (A' : Mm) (i : Nat), f_X4_product_L8 rec 3 a1 n v0 v1 A = some (x, A') → Cu T L N p nc nr A i → ∃ j, i ≤ j ∧ Cu T L N p nc nr A' j := by
  intro n
  induction n with
  | zero => intro v0 v1 A x A' i h C; rw [f_X4_product_L8] at h; cases h
  | succ n ih =>
    intro v0 v1 A x A' i h C
    rw [f_X4_product_L8] at h
    have hh := it_c h; clear h
    rcases hh with ⟨q1, h⟩ | ⟨-, h⟩
    · skip
      cases h
      exact ⟨_, (Nat.le_refl _), C⟩
    · skip
      have hh := it_c h; clear h
      rcases hh with ⟨q2, h⟩ | ⟨-, h⟩
      · skip
        cases h
        exact ⟨_, (Nat.le_refl _), C⟩
      · skip
        obtain ⟨x7, e, h⟩ := bd1_s h
        have k3 := cu_kind e C
        clear e
        obtain ⟨-, h⟩ := it_s h
        have hh := it_c h; clear h
        rcases hh with ⟨q4, h⟩ | ⟨-, h⟩
        · skip
          obtain ⟨x12, e, h⟩ := bd1_s h
          have k5 := cu_kind e C
          clear e
          obtain ⟨-, h⟩ := it_s h
          obtain ⟨M16, rfl, h⟩ := lz_s h
          have C6 := C.nx (lt_g k3 q4 (by decide) (tk_le T L _).1)
          obtain ⟨x18, M19, e, h⟩ := bd2_s h
          obtain ⟨i7, l8, C9⟩ := hR 10 _ _ _ _ _ e C6 (fun z => by omega) (fun z => by omega)
          clear e
          obtain ⟨x30, M31, e, h⟩ := bd2_s h
          have zz : ∃ j, i7 ≤ j ∧ Cu T L N p nc nr M31 j := by
            clear h
            have h := e; clear e
            have hh := it_c h; clear h
            rcases hh with ⟨q13, h⟩ | ⟨-, h⟩
            · skip
              cases h
              exact ⟨_, (Nat.le_refl _), C9⟩
            · skip
              obtain ⟨-, h⟩ := it_s h
              obtain ⟨x25, M26, e, h⟩ := bd2_s h
              have C16 := cu_emit e C9
              clear e
              have hh := it_c h; clear h
              rcases hh with ⟨q17, h⟩ | ⟨-, h⟩
              · skip
                cases h
                exact ⟨_, (Nat.le_refl _), C16⟩
              · skip
                cases h
                exact ⟨_, (Nat.le_refl _), C16⟩
          obtain ⟨i10, l11, C12⟩ := zz
          clear e
          obtain ⟨x33, -, h⟩ := lz_s h
          obtain ⟨i9, l9, C9⟩ := ih _ _ _ _ _ _ h C12
          exact ⟨i9, Nat.le_trans (Nat.le_trans (Nat.le_trans (Nat.le_succ_of_le (Nat.le_refl _)) l8) l11) l9, C9⟩
        · skip
          cases h
          exact ⟨_, (Nat.le_refl _), C⟩
theorem cu_product {rec : Nat → Nat → Int32 → Mm → Option (Int32 × Mm)} (hR : RcP T L N p nc nr rec) {a1 : Int32} {A A' : Mm} {x : Int32} {i : Nat} (h : f_X4_product rec 3 a1 A = some (x, A')) (C : Cu T L N p nc nr A i) : ∃ j, i ≤ j ∧ Cu T L N p nc nr A' j := by
  rw [f_X4_product] at h
  obtain ⟨x1, M2, e, h⟩ := bd2_s h
  obtain ⟨i1, l2, C3⟩ := hR 10 _ _ _ _ _ e C (fun z => by omega) (fun z => by omega)
  clear e
  obtain ⟨x36, M37, e, h⟩ := bd2_s h
  obtain ⟨i4, l5, C6⟩ := cu_product_L8 hR _ _ _ _ _ _ _ _ e C3
  clear e
  obtain ⟨-, h⟩ := it_s h
  cases h
  exact ⟨_, (Nat.le_trans (Nat.le_trans (Nat.le_refl _) l2) l5), C6⟩
theorem cu_value {rec : Nat → Nat → Int32 → Mm → Option (Int32 × Mm)} (hR : RcP T L N p nc nr rec) {a1 : Int32} {A A' : Mm} {x : Int32} {i : Nat} (h : f_X4_value rec 3 a1 A = some (x, A')) (C : Cu T L N p nc nr A i) : ∃ j, i ≤ j ∧ Cu T L N p nc nr A' j := by
  rw [f_X4_value] at h
  obtain ⟨x1, e, h⟩ := bd1_s h
  have k1 := cu_kind e C
  clear e
  obtain ⟨-, h⟩ := it_s h
  have hh := it_c h; clear h
  rcases hh with ⟨q2, h⟩ | ⟨-, h⟩
  · skip
    obtain ⟨M91, rfl, h⟩ := lz_s h
    have C3 := C.nx (lt_c k1 q2 (u := 48) rfl (tk_le T L _).1 (by decide))
    obtain ⟨-, h⟩ := it_s h
    obtain ⟨x94, -, h⟩ := bd1_s h
    obtain ⟨x97, M98, e, h⟩ := bd2_s h
    have C6 := cu_emit e C3
    clear e
    cases h
    exact ⟨_, (Nat.le_succ_of_le (Nat.le_refl _)), C6⟩
  · skip
    obtain ⟨-, h⟩ := it_s h
    have hh := it_c h; clear h
    rcases hh with ⟨q7, h⟩ | ⟨-, h⟩
    · skip
      obtain ⟨M83, rfl, h⟩ := lz_s h
      have C8 := C.nx (lt_g k1 q7 (by decide) (tk_le T L _).1)
      obtain ⟨-, h⟩ := it_s h
      obtain ⟨-, h⟩ := it_s h
      obtain ⟨x87, M88, e, h⟩ := bd2_s h
      have C11 := cu_emit e C8
      clear e
      cases h
      exact ⟨_, (Nat.le_succ_of_le (Nat.le_refl _)), C11⟩
    · skip
      obtain ⟨-, h⟩ := it_s h
      have hh := it_c h; clear h
      rcases hh with ⟨q12, h⟩ | ⟨-, h⟩
      · skip
        obtain ⟨x67, M68, e, h⟩ := bd2_s h
        obtain ⟨i13, l14, C15⟩ := cu_enter (u := 39) e rfl (by decide) C
        clear e
        have hh := it_c h; clear h
        rcases hh with ⟨q16, h⟩ | ⟨-, h⟩
        · skip
          cases h
          exact ⟨_, (Nat.le_trans (Nat.le_refl _) l14), C15⟩
        · skip
          obtain ⟨x72, M73, e, h⟩ := bd2_s h
          obtain ⟨i17, l18, C19⟩ := hR 10 _ _ _ _ _ e C15 (fun z => by omega) (fun z => by omega)
          clear e
          have hh := it_c h; clear h
          rcases hh with ⟨q20, h⟩ | ⟨-, h⟩
          · skip
            cases h
            exact ⟨_, (Nat.le_trans (Nat.le_trans (Nat.le_refl _) l14) l18), C19⟩
          · skip
            obtain ⟨-, h⟩ := it_s h
            obtain ⟨x78, M79, e, h⟩ := bd2_s h
            have C23 := cu_emit e C19
            clear e
            have hh := it_c h; clear h
            rcases hh with ⟨q24, h⟩ | ⟨-, h⟩
            · skip
              cases h
              exact ⟨_, (Nat.le_trans (Nat.le_trans (Nat.le_refl _) l14) l18), C23⟩
            · skip
              cases h
              exact ⟨_, (Nat.le_trans (Nat.le_trans (Nat.le_refl _) l14) l18), C23⟩
      · skip
        obtain ⟨-, h⟩ := it_s h
        have hh := it_c h; clear h
        rcases hh with ⟨q25, h⟩ | ⟨-, h⟩
        · skip
          obtain ⟨x52, M53, e, h⟩ := bd2_s h
          obtain ⟨i26, l27, C28⟩ := cu_enter (u := 32) e rfl (by decide) C
          clear e
          have hh := it_c h; clear h
          rcases hh with ⟨q29, h⟩ | ⟨-, h⟩
          · skip
            cases h
            exact ⟨_, (Nat.le_trans (Nat.le_refl _) l27), C28⟩
          · skip
            obtain ⟨x57, M58, e, h⟩ := bd2_s h
            obtain ⟨i30, l31, C32⟩ := hR 8 _ _ _ _ _ e C28 (fun z => by omega) (fun z => by omega)
            clear e
            have hh := it_c h; clear h
            rcases hh with ⟨q33, h⟩ | ⟨-, h⟩
            · skip
              cases h
              exact ⟨_, (Nat.le_trans (Nat.le_trans (Nat.le_refl _) l27) l31), C32⟩
            · skip
              obtain ⟨x62, M63, e, h⟩ := bd2_s h
              obtain ⟨i34, l35, C36⟩ := cu_expR (u := 33) e rfl (by decide) C32
              clear e
              have hh := it_c h; clear h
              rcases hh with ⟨q37, h⟩ | ⟨-, h⟩
              · skip
                cases h
                exact ⟨_, (Nat.le_trans (Nat.le_trans (Nat.le_trans (Nat.le_refl _) l27) l31) l35), C36⟩
              · skip
                cases h
                exact ⟨_, (Nat.le_trans (Nat.le_trans (Nat.le_trans (Nat.le_refl _) l27) l31) l35), C36⟩
        · skip
          obtain ⟨-, h⟩ := it_s h
          have hh := it_c h; clear h
          rcases hh with ⟨q38, h⟩ | ⟨-, h⟩
          · skip
            obtain ⟨M18, rfl, h⟩ := lz_s h
            have C39 := C.nx (lt_g k1 q38 (by decide) (tk_le T L _).1)
            obtain ⟨x20, M21, e, h⟩ := bd2_s h
            obtain ⟨i40, l41, C42⟩ := cu_enter (u := 32) e rfl (by decide) C39
            clear e
            have hh := it_c h; clear h
            rcases hh with ⟨q43, h⟩ | ⟨-, h⟩
            · skip
              cases h
              exact ⟨_, (Nat.le_trans (Nat.le_succ_of_le (Nat.le_refl _)) l41), C42⟩
            · skip
              obtain ⟨x25, M26, e, h⟩ := bd2_s h
              obtain ⟨i44, l45, C46⟩ := hR 8 _ _ _ _ _ e C42 (fun z => by omega) (fun z => by omega)
              clear e
              have hh := it_c h; clear h
              rcases hh with ⟨q47, h⟩ | ⟨-, h⟩
              · skip
                cases h
                exact ⟨_, (Nat.le_trans (Nat.le_trans (Nat.le_succ_of_le (Nat.le_refl _)) l41) l45), C46⟩
              · skip
                obtain ⟨x30, M31, e, h⟩ := bd2_s h
                obtain ⟨i48, l49, C50⟩ := cu_expR (u := 37) e rfl (by decide) C46
                clear e
                have hh := it_c h; clear h
                rcases hh with ⟨q51, h⟩ | ⟨-, h⟩
                · skip
                  cases h
                  exact ⟨_, (Nat.le_trans (Nat.le_trans (Nat.le_trans (Nat.le_succ_of_le (Nat.le_refl _)) l41) l45) l49), C50⟩
                · skip
                  obtain ⟨x35, M36, e, h⟩ := bd2_s h
                  obtain ⟨i52, l53, C54⟩ := hR 8 _ _ _ _ _ e C50 (fun z => by omega) (fun z => by omega)
                  clear e
                  have hh := it_c h; clear h
                  rcases hh with ⟨q55, h⟩ | ⟨-, h⟩
                  · skip
                    cases h
                    exact ⟨_, (Nat.le_trans (Nat.le_trans (Nat.le_trans (Nat.le_trans (Nat.le_succ_of_le (Nat.le_refl _)) l41) l45) l49) l53), C54⟩
                  · skip
                    obtain ⟨x40, M41, e, h⟩ := bd2_s h
                    obtain ⟨i56, l57, C58⟩ := cu_expR (u := 33) e rfl (by decide) C54
                    clear e
                    have hh := it_c h; clear h
                    rcases hh with ⟨q59, h⟩ | ⟨-, h⟩
                    · skip
                      cases h
                      exact ⟨_, (Nat.le_trans (Nat.le_trans (Nat.le_trans (Nat.le_trans (Nat.le_trans (Nat.le_succ_of_le (Nat.le_refl _)) l41) l45) l49) l53) l57), C58⟩
                    · skip
                      obtain ⟨-, h⟩ := it_s h
                      obtain ⟨-, h⟩ := it_s h
                      obtain ⟨x47, M48, e, h⟩ := bd2_s h
                      have C62 := cu_emit e C58
                      clear e
                      have hh := it_c h; clear h
                      rcases hh with ⟨q63, h⟩ | ⟨-, h⟩
                      · skip
                        cases h
                        exact ⟨_, (Nat.le_trans (Nat.le_trans (Nat.le_trans (Nat.le_trans (Nat.le_trans (Nat.le_succ_of_le (Nat.le_refl _)) l41) l45) l49) l53) l57), C62⟩
                      · skip
                        cases h
                        exact ⟨_, (Nat.le_trans (Nat.le_trans (Nat.le_trans (Nat.le_trans (Nat.le_trans (Nat.le_succ_of_le (Nat.le_refl _)) l41) l45) l49) l53) l57), C62⟩
          · skip
            obtain ⟨x14, M15, e, h⟩ := bd2_s h
            obtain ⟨i64, l65, C66⟩ := cu_refR e C
            clear e
            cases h
            exact ⟨_, (Nat.le_trans (Nat.le_refl _) l65), C66⟩
theorem cu_P4 (hQ : Rq T L) : ∀ n, RcP T L N p nc nr (f_P4 n) := by
  intro n
  induction n with
  | zero => intro k a A x A' i e; rw [f_P4] at e; cases e
  | succ n ih =>
    intro k a A x A' i e C h1 h2
    rw [f_P4] at e
    have hh := it_c e; clear e
    rcases hh with ⟨q, e⟩ | ⟨-, e⟩
    · exact cu_block ih e C
    have hh := it_c e; clear e
    rcases hh with ⟨q, e⟩ | ⟨-, e⟩
    · exact cu_sentence ih e C
    have hh := it_c e; clear e
    rcases hh with ⟨q, e⟩ | ⟨-, e⟩
    · exact cu_choice ih e C (h1 (by omega))
    have hh := it_c e; clear e
    rcases hh with ⟨q, e⟩ | ⟨-, e⟩
    · exact cu_countedLoop ih e C (h1 (by omega)) (h2 q) hQ
    have hh := it_c e; clear e
    rcases hh with ⟨q, e⟩ | ⟨-, e⟩
    · exact cu_testedLoop ih e C (h1 (by omega))
    have hh := it_c e; clear e
    rcases hh with ⟨q, e⟩ | ⟨-, e⟩
    · exact cu_test ih e C
    have hh := it_c e; clear e
    rcases hh with ⟨q, e⟩ | ⟨-, e⟩
    · exact cu_both ih e C
    have hh := it_c e; clear e
    rcases hh with ⟨q, e⟩ | ⟨-, e⟩
    · exact cu_single ih e C
    have hh := it_c e; clear e
    rcases hh with ⟨q, e⟩ | ⟨-, e⟩
    · exact cu_sum ih e C
    have hh := it_c e; clear e
    rcases hh with ⟨q, e⟩ | ⟨-, e⟩
    · exact cu_product ih e C
    have hh := it_c e; clear e
    rcases hh with ⟨q, e⟩ | ⟨-, e⟩
    · exact cu_value ih e C
    cases e
/-! names -/
theorem cu_nameL {j m : Nat} (hj : j ≤ N) (hm : m ≤ 4) (hd : ∀ w, w < m → ∃ q, q ≤ N ∧ nr w = nI q ∧ dup T L q j = false) {A A' : Mm} {i : Nat} (C : Cu T L N p (nI m) nr A i) : ∀ (n v : Nat), v ≤ m → f_X4_noteName_L2 3 (nI j) n (nI v) A = some A' → A' = A := by
  intro n
  induction n with
  | zero => intro v _ h; rw [f_X4_noteName_L2] at h; cases h
  | succ n ih =>
    intro v hv h
    rw [f_X4_noteName_L2] at h
    have hh := it_c h; clear h
    rcases hh with ⟨-, h⟩ | ⟨q, h⟩
    · cases h; rfl
    · rw [C.2.2.2.2.1, n_le (by omega) (by omega)] at q
      obtain ⟨w, w1, w2, w3⟩ := hd v (by omega)
      obtain ⟨-, h⟩ := it_s h
      obtain ⟨x3, e3, h⟩ := bd1_s h
      have e9 : A (3 + 6) (ix (nI v)) = nI w := by
        rw [ixn (by omega), show (3 + 6 : Nat) = 9 from rfl, C.2.2.2.2.2]; exact w2
      rw [e9, show (3 + 1 : Nat) = 4 from rfl, sameA C.1 w1 hj, w3, if_neg (by decide)] at e3
      cases e3
      obtain ⟨M, e, h⟩ := bd1_s h
      rw [if_pos rfl] at e
      cases e
      obtain ⟨z, ez, h⟩ := lz_s h
      rw [ez, n_suc] at h
      exact ih (v + 1) (by omega) h
theorem cu_name {j m : Nat} (hj : j ≤ N) (hm : m < 4) (hd : ∀ w, w < m → ∃ q, q ≤ N ∧ nr w = nI q ∧ dup T L q j = false) {A A' : Mm} {i : Nat} (C : Cu T L N p (nI m) nr A i) (h : f_X4_noteName 3 (nI j) A = some A') : Cu T L N p (nI (m + 1)) (fun c => if c = m then nI j else nr c) A' i := by
  rw [f_X4_noteName] at h
  obtain ⟨M, e, h2⟩ := bd1_s h
  clear h
  have := cu_nameL hj (by omega) hd C FU 0 (Nat.zero_le _) e
  subst this
  rw [C.2.2.2.2.1, if_neg (show ¬ (4 : Int32) ≤ nI m from fun e => by have := (n_le (a := 4) (by omega) (by omega)).mp e; omega)] at h2
  obtain ⟨-, h2⟩ := it_s h2
  obtain ⟨M1, r1, h2⟩ := lz_s h2
  obtain ⟨M2, r2, h2⟩ := lz_s h2
  cases h2
  rw [ixn (by omega), show (3 + 6 : Nat) = 9 from rfl] at r1
  have o1 : ∀ r c, r ≠ 9 → M1 r c = M r c := fun r c k => by rw [r1, wr_r k]
  have o2 : ∀ r c, (r ≠ 3 ∨ c ≠ 2) → r ≠ 9 → A' r c = M r c := fun r c k k9 => by rw [r2, wr_o k, o1 r c k9]
  refine ⟨C.1.ch (fun r c k => o2 r c (by omega) (by omega)), C.2.1, (o2 3 4 (by decide) (by decide)).trans C.2.2.1, C.2.2.2.1.congr (o2 3 5 (by decide) (by decide)) (o2 3 6 (by decide) (by decide)), ?_, ?_⟩
  · rw [r2, wr_at, o1 3 2 (by decide), C.2.2.2.2.1, n_suc]
  · funext c
    rw [r2, wr_r (by decide), r1, wr_i, C.2.2.2.2.2]
end CU
/-! a gang, a text -/
def Aq (T : Nat → Int32) (L : Nat) : Prop := ∀ i, tk T L i = 1 → tk T L (i + 1) = 48 → isB T L (tst T L (i + 1)) 48 ≤ (7 : Int32) ∧ (tk T L (i + 2) = 48 → isB T L (tst T L (i + 2)) 48 ≤ (7 : Int32))
def Gq (T : Nat → Int32) (L : Nat) : Prop := ∀ i, 0 < i → tk T L i = 0 → dup T L 1 (i + 1) = false ∧ ∀ k, i < k → tk T L k ≠ 0
section CG
variable {T : Nat → Int32} {L N p : Nat} {nr : Nat → Int32}
theorem cu_gang (hQ : Rq T L) (hA : Aq T L) {m i : Nat} {A A' : Mm} {x : Int32} (h : f_X4_oneGang 3 A = some (x, A')) (C : Cu T L N p (nI m) nr A i) (hi : tk T L i = 0) (hm : m < 4) (hd : ∀ w, w < m → ∃ q, q ≤ N ∧ nr w = nI q ∧ dup T L q (i + 1) = false) :
    ∃ j m' nr', i < j ∧ Cu T L N p (nI m') nr' A' j ∧ (¬ x = 0 → m' = m + 1 ∧ nr' = fun c => if c = m then nI (i + 1) else nr c) := by
  rw [f_X4_oneGang] at h
  obtain ⟨M1, r1, h⟩ := lz_s h
  have C1 := C.nx (by omega)
  rw [← r1] at C1
  obtain ⟨x3, M4, e, h⟩ := bd2_s h
  rcases cu_exp (u := 47) e rfl (by decide) C1 with ⟨rfl, C4⟩ | ⟨rfl, t4, -, C4⟩
  · rw [if_pos rfl] at h
    cases h
    exact ⟨i + 1, m, nr, by omega, C4, fun z => absurd rfl z⟩
  rw [if_neg (by decide)] at h
  obtain ⟨M8, e8, h⟩ := bd1_s h
  rw [C1.2.2.1] at e8
  have C8 := cu_name C1.2.1 hm hd C4 e8
  obtain ⟨x11, M12, e11, h⟩ := bd2_s h
  rcases cu_exp (u := 1) e11 rfl (by decide) C8 with ⟨rfl, C12⟩ | ⟨rfl, t12, -, C12⟩
  · rw [if_pos rfl] at h
    cases h
    exact ⟨_, _, _, by omega, C12, fun z => absurd rfl z⟩
  rw [if_neg (by decide)] at h
  obtain ⟨x16, M17, e16, h⟩ := bd2_s h
  obtain ⟨j1, l1, C17, y1⟩ := cu_lim e16 C12 (fun z => (hA _ t12 z).1)
  have hh := it_c h; clear h
  rcases hh with ⟨q, h⟩ | ⟨q, h⟩
  · cases h
    exact ⟨_, _, _, by omega, C17, fun z => absurd rfl z⟩
  have z1 := y1 q
  subst z1
  obtain ⟨x21, M22, e21, h⟩ := bd2_s h
  have t17 : tk T L (i + 1 + 1 + 1) = 48 := by
    rw [f_X4_limitedNumber] at e16
    obtain ⟨a1, B1, b1, e16⟩ := bd2_s e16
    rcases cu_exp (u := 48) b1 rfl (by decide) C12 with ⟨rfl, -⟩ | ⟨rfl, t, -, -⟩
    · rw [if_pos rfl] at e16
      cases e16
      exact absurd rfl q
    · exact t
  obtain ⟨j2, l2, C22, -⟩ := cu_lim e21 C17 (fun z => (hA _ t12 t17).2 z)
  have hh := it_c h; clear h
  rcases hh with ⟨-, h⟩ | ⟨-, h⟩
  · cases h
    exact ⟨_, _, _, by omega, C22, fun z => absurd rfl z⟩
  obtain ⟨-, h⟩ := it_s h
  obtain ⟨x27, -, h⟩ := bd1_s h
  obtain ⟨x30, -, h⟩ := bd1_s h
  obtain ⟨M33, e33, h⟩ := bd1_s h
  have C33 : Cu T L N p (nI (m + 1)) (fun c => if c = m then nI (i + 1) else nr c) M33 j2 := by
    have hp := C22.hp
    rw [C22.rid, f_X5_addGang] at e33
    have hh := it_c e33; clear e33
    rcases hh with ⟨-, e⟩ | ⟨-, e⟩
    · cases e; exact C22
    obtain ⟨x2, -, e⟩ := lz_s e
    have hh := it_c e; clear e
    rcases hh with ⟨-, e⟩ | ⟨-, e⟩
    · cases e; exact C22
    obtain ⟨-, e⟩ := it_s e
    obtain ⟨N1, s1, e⟩ := lz_s e
    obtain ⟨-, e⟩ := it_s e
    obtain ⟨N2, s2, e⟩ := lz_s e
    obtain ⟨-, e⟩ := it_s e
    obtain ⟨N3, s3, e⟩ := lz_s e
    obtain ⟨N4, s4, e⟩ := lz_s e
    cases e
    exact C22.st (fun r c k => by rw [s4, wr_o (by omega), s3, wr_o (by omega), s2, wr_o (by omega), s1, wr_o (by omega)])
  obtain ⟨x36, M37, e36, h⟩ := bd2_s h
  obtain ⟨j3, l3, C37⟩ := cu_P4 hQ 100 0 _ _ _ _ _ e36 C33 (fun z => by omega) (fun z => by omega)
  have hh := it_c h; clear h
  rcases hh with ⟨-, h⟩ | ⟨-, h⟩
  · cases h
    exact ⟨_, _, _, by omega, C37, fun z => absurd rfl z⟩
  obtain ⟨-, h⟩ := it_s h
  obtain ⟨x42, M43, e42, h⟩ := bd2_s h
  have C43 := cu_emit e42 C37
  have hh := it_c h; clear h
  rcases hh with ⟨-, h⟩ | ⟨-, h⟩
  · cases h
    exact ⟨_, _, _, by omega, C43, fun z => absurd rfl z⟩
  · cases h
    exact ⟨_, _, _, by omega, C43, fun _ => ⟨rfl, rfl⟩⟩
def Gs (T : Nat → Int32) (L m i : Nat) (nr : Nat → Int32) : Prop := (m = 0 ∧ i = 0) ∨ (m = 1 ∧ 0 < i ∧ nr 0 = nI 1) ∨ (m = 2 ∧ ∃ k, 0 < k ∧ k < i ∧ tk T L k = 0)
theorem cu_text (hQ : Rq T L) (hA : Aq T L) (hG : Gq T L) {i1 i3 : Nat} : ∀ (n : Nat) (v4 v5 : Int32) (A : Mm) (x : Int32) (A' : Mm) (i m : Nat) (nr : Nat → Int32), f_X4_parse_L47 3 i1 i3 n v4 v5 A = some (x, A') → Cu T L N p (nI m) nr A i → (¬ v4 = 0 → Gs T L m i nr) → ∃ j nc' nr', Cu T L N p nc' nr' A' j := by
  intro n
  induction n with
  | zero => intro v4 v5 A x A' i m nr h; rw [f_X4_parse_L47] at h; cases h
  | succ n ih =>
    intro v4 v5 A x A' i m nr h C hS
    rw [f_X4_parse_L47] at h
    have hh := it_c h; clear h
    rcases hh with ⟨-, h⟩ | ⟨-, h⟩
    · cases h; exact ⟨_, _, _, C⟩
    have hh := it_c h; clear h
    rcases hh with ⟨-, h⟩ | ⟨qv, h⟩
    · cases h; exact ⟨_, _, _, C⟩
    obtain ⟨x20, e, h⟩ := bd1_s h
    have k1 := cu_kind e C
    clear e
    obtain ⟨-, h⟩ := it_s h
    have hh := it_c h; clear h
    rcases hh with ⟨q, h⟩ | ⟨-, h⟩
    · have ht : tk T L i = 0 := (teq (t := tk T L i) (u := 0) (tk_le T L i).1 (by omega)).mp (k1.symm.trans q)
      obtain ⟨x25, M26, e25, h⟩ := bd2_s h
      obtain ⟨x29, -, h⟩ := lz_s h
      have hs := hS qv
      have hN := C.2.1
      have hd : m < 4 ∧ ∀ w, w < m → ∃ q, q ≤ N ∧ nr w = nI q ∧ dup T L q (i + 1) = false := by
        rcases hs with ⟨a, b⟩ | ⟨a, b, c⟩ | ⟨a, k, b, c, d⟩
        · subst a; exact ⟨by omega, fun w hw => absurd hw (Nat.not_lt_zero _)⟩
        · subst a
          refine ⟨by omega, fun w hw => ?_⟩
          have : w = 0 := by omega
          subst this
          exact ⟨1, by omega, c, (hG i b ht).1⟩
        · exact absurd ht ((hG k b d).2 i c)
      obtain ⟨j, m', nr', l, C26, y⟩ := cu_gang hQ hA e25 C ht hd.1 hd.2
      refine ih _ _ _ _ _ _ _ _ h C26 (fun z => ?_)
      obtain ⟨rfl, rfl⟩ := y z
      rcases hs with ⟨a, b⟩ | ⟨a, b, c⟩ | ⟨a, k, b, c, d⟩
      · subst a; subst b
        exact Or.inr (Or.inl ⟨rfl, l, if_pos rfl⟩)
      · subst a
        exact Or.inr (Or.inr ⟨rfl, i, b, l, ht⟩)
      · exact absurd ht ((hG k b d).2 i c)
    · cases h; exact ⟨_, _, _, C⟩
end CG
theorem parse_er {A B A' : Mm} {L p : Nat} (hL : L ≤ 2000) (hb : B 69 2 = nI L) (hy : ∀ k, k < L → Byt (A 1 k) (B 70 k)) (hp : p = 10 ∨ p = 16 ∨ p = 22) (hQ : Rq (B 70) L) (hA : Aq (B 70) L) (hG : Gq (B 70) L) (h : f_X4_parse 3 1 (nI L) p A = some A') : Er A' := by
  have him : imin (nI L) 2000 = nI L := by
    unfold imin
    rw [if_neg (show ¬ (2000 : Int32) < nI L from fun e => by have := (n_lt (a := 2000) (by omega) (by omega)).mp e; omega)]
  obtain ⟨A1, N, s1, s2, s3, s4⟩ := A_scans (A := A) (B := B) hL him hb hy
  have hok : okr 2 (wr A1 3 3 (nI (p + 1)) 3 3) := by
    rw [wr_at]
    refine ⟨?_, ?_⟩
    · rw [nI_clamp (by omega)]; omega
    · rw [nI_clamp (by omega)]; rcases hp with rfl | rfl | rfl <;> rfl
  have hrid : rid (wr A1 3 3 (nI (p + 1)) 3 3) = p := by
    rw [wr_at]
    show (nI (p + 1)).toNatClampNeg - 1 = p
    rw [nI_clamp (by omega)]; omega
  rw [f_X4_parse, show (3 + 1 : Nat) = 4 from rfl, s1, bd1_e, lz_e, if_pos hok, hrid, f_X5_clear] at h
  simp only [lz_e] at h
  rw [bd1_e] at h
  have hS : StA (B 70) L N p (tA p A1) := by
    refine ⟨⟨s2.1, s2.2.1, s2.2.2.1, fun j hj => ?_⟩, ⟨hL, ?_, ?_, fun k hk => ?_⟩, ?_, hp⟩
    · rw [tA_o (r := 5) (by omega) (by omega), tA_o (r := 6) (by omega) (by omega), tA_o (r := 7) (by omega) (by omega)]; exact s2.2.2.2 j hj
    · rw [tA_o (by omega) (by omega)]; exact s3.2.1
    · rw [tA_o (by omega) (by omega)]; exact s3.2.2.1
    · rw [tA_o (by omega) (by omega)]; exact s3.2.2.2.2 k hk
    · have : p ≠ 3 := by omega
      simp [tA, wr]; try omega
  have hC : Cu (B 70) L N p (nI 0) (tA p A1 9) (tA p A1) 0 := by
    have : p ≠ 3 := by omega
    refine ⟨hS, Nat.zero_le _, ?_, Or.inl ⟨?_, ?_⟩, ?_, rfl⟩
    · show tA p A1 3 4 = 0
      simp [tA, wr]
    · simp [tA, wr]
    · simp [tA, wr]
    · show tA p A1 3 2 = 0
      simp [tA, wr]
  obtain ⟨x32, M33, e, h⟩ := bd2_s h
  obtain ⟨j, nc', nr', C⟩ := cu_text hQ hA hG _ _ _ _ _ _ _ _ _ e hC (fun _ => Or.inl ⟨rfl, rfl⟩)
  have hh := it_c h; clear h
  rcases hh with ⟨-, h⟩ | ⟨-, h⟩
  · cases h; exact C.2.2.2.1
  obtain ⟨x35, -, h⟩ := bd1_s h
  obtain ⟨-, h⟩ := it_s h
  have hh := it_c h; clear h
  rcases hh with ⟨-, h⟩ | ⟨-, h⟩
  · cases h; exact C.2.2.2.1
  · obtain ⟨x40, M41, e, h⟩ := bd2_s h
    cases h
    exact (cu_ref e C).2.2.2.2.1
