/-! needs 30 31 44 45 46 47 82 83 85 -/
/-! hours keep the bounds and the sum of all bricks -/
def HrG (N q : Nat) (A : Mm) : Prop := 0 ≤ (A q 5).toInt ∧ 0 ≤ (A q 6).toInt ∧ (A q 5).toInt + (A q 6).toInt ≤ (A q 7).toInt ∧ (A q 7).toInt ≤ (N : Int)
def TA (b ng : Nat) (A : Mm) : Int32 := TB b A + sumL (fun g => A (b + 10 + 2 * g) 2) ng 0
def Inv (b ng N : Nat) (A : Mm) : Prop := BdC b A ∧ ∀ g, g < ng → BdG (b + 10 + 2 * g) A ∧ HrG N (b + 10 + 2 * g) A
theorem HrG.mono {N N' q : Nat} {A : Mm} (h : HrG N q A) (hN : N ≤ N') : HrG N' q A := ⟨h.1, h.2.1, h.2.2.1, by have := h.2.2.2; have : (N : Int) ≤ (N' : Int) := Int.ofNat_le.mpr hN; omega⟩
theorem HrG.congr {N q : Nat} {A A' : Mm} (h : HrG N q A) (e : A' q = A q) : HrG N q A' := by unfold HrG; rw [e]; exact h
theorem HrG.step {N q : Nat} {A A' : Mm} (h : HrG N q A) (hN : N < 1000000) (h7 : A' q 7 = A q 7 + 1) (h56 : (A' q 5 = A q 5 ∧ A' q 6 = A q 6) ∨ (A' q 5 = A q 5 + 1 ∧ A' q 6 = A q 6) ∨ (A' q 5 = A q 5 ∧ A' q 6 = A q 6 + 1)) : HrG (N + 1) q A' := by
  obtain ⟨h1, h2, h3, h4⟩ := h
  have z1 : (1 : Int32).toInt = 1 := rfl
  have e7 : (A q 7 + 1).toInt = (A q 7).toInt + 1 := i_add (by rw [z1]; omega) (by rw [z1]; omega)
  have e5 : (A q 5 + 1).toInt = (A q 5).toInt + 1 := i_add (by rw [z1]; omega) (by rw [z1]; omega)
  have e6 : (A q 6 + 1).toInt = (A q 6).toInt + 1 := i_add (by rw [z1]; omega) (by rw [z1]; omega)
  unfold HrG
  rw [h7, e7]
  rcases h56 with ⟨a, c⟩ | ⟨a, c⟩ | ⟨a, c⟩
  · rw [a, c]; exact ⟨h1, h2, by omega, by omega⟩
  · rw [a, c, e5]; exact ⟨by omega, h2, by omega, by omega⟩
  · rw [a, c, e6]; exact ⟨h1, by omega, by omega, by omega⟩
theorem TT.tb (b q : Nat) (A : Mm) : TT b q A = TB b A + A q 2 := by unfold TT TB; grind
section HB
variable {w b s ng p len : Nat} {oA rA cB : Nat → Int32} {S : PS}
theorem gangs_bd (hcl : ∀ a b e, S a b e → Lpt oA rA cB len S a b e) (hSl : ∀ a b e, S a b e → e.length ≤ 8) (hw : Wb w b) (hs : Ws s) (a1 a2 : Int32) {N : Nat} (hN : N < 1000000) : ∀ (k g n : Nat) (A B A' : Mm), g + k = ng → All b s ng p len oA rA cB S A B → f_X9_letPass_L9 w a1 a2 n (nI g) A = some A' → BdC b A → (∀ h, h < ng → BdG (b + 10 + 2 * h) A ∧ HrG (if h < g then N + 1 else N) (b + 10 + 2 * h) A) →
    BdC b A' ∧ (∀ h, h < ng → BdG (b + 10 + 2 * h) A' ∧ HrG (N + 1) (b + 10 + 2 * h) A') ∧ TA b ng A' = TA b ng A := by
  intro k
  induction k with
  | zero =>
    intro g n A B A' hg h hr hB hG
    cases n with
    | zero => rw [f_X9_letPass_L9] at hr; cases hr
    | succ n =>
      have hgn : g = ng := by omega
      subst hgn
      have h4 := h.2.2.2.2.2.1
      rw [f_X9_letPass_L9, hw.wbog, h.2.2.2.1, if_pos (by rw [n_le (by omega) (by omega)]; omega)] at hr
      cases hr
      exact ⟨hB, fun h' hh => ⟨(hG h' hh).1, by have := (hG h' hh).2; rw [if_pos hh] at this; exact this⟩, rfl⟩
  | succ k ih =>
    intro g n A B A' hg h hr hB hG
    cases n with
    | zero => rw [f_X9_letPass_L9] at hr; cases hr
    | succ n' =>
      obtain ⟨h1, h2, h3, h4, h5, h6, h7⟩ := h
      have g4 : g < 4 := by omega
      obtain ⟨A1, B1, c1, c2, c3, c4, c5, c6, c7, c8⟩ := hour_gang hcl hw hs g4 h1 h2 h3 (h7 g (by omega))
      have hw' := hw
      have hs' := hs
      unfold Wb at hw'
      unfold Ws at hs'
      have hAll : All b s ng p len oA rA cB S A1 B1 := by
        refine ⟨c3, c5, c6, by rw [c7.2 15 (by decide) (by decide) (by decide)]; exact h4, by rw [c8.2.1 9 (by decide)]; exact h5, h6, fun g' hg' => ?_⟩
        by_cases e : g' = g
        · subst e; exact c4
        · refine (h7 g' hg').same (c7.1 _ (by omega) (by omega) (by omega) (by omega) (by omega) (by omega) (by omega) (by omega) (by omega)) (c7.1 _ (by omega) (by omega) (by omega) (by omega) (by omega) (by omega) (by omega) (by omega) (by omega)) (fun k hk => c8.2.2.2.1 _ (by omega)) (fun k hk => c8.2.2.2.2 _ (by omega)) hSl
      rw [f_X9_letPass_L9, hw.wbog, h4, if_neg (by rw [n_le (by omega) (by omega)]; omega), if_pos (inN g4), ixn (by omega)] at hr
      rw [show b + 9 + 1 + 2 * g = b + 10 + 2 * g from rfl, c1, bd1_e, n_suc, lz_e] at hr
      have oth : ∀ h', h' < ng → h' ≠ g → A1 (b + 10 + 2 * h') = A (b + 10 + 2 * h') := fun h' hh e => c7.1 _ (by omega) (by omega) (by omega) (by omega) (by omega) (by omega) (by omega) (by omega) (by omega)
      obtain ⟨k1, k2, k3, k4⟩ := work_pa hw g4 c1
      obtain ⟨gG, gH⟩ := hG g (by omega)
      rw [if_neg (by omega)] at gH
      obtain ⟨m1, m2⟩ := k1 hB gG
      obtain ⟨z1, z2, z3⟩ := ih (g + 1) n' A1 B1 A' (by omega) hAll hr m1 (fun h' hh => by
        by_cases e : h' = g
        · subst e
          rw [if_pos (by omega)]
          exact ⟨m2, gH.step hN k3 k4⟩
        · obtain ⟨x1, x2⟩ := hG h' hh
          have eo := oth h' hh e
          refine ⟨x1.congr (fun j _ => by rw [eo]), ?_⟩
          have : (if h' < g + 1 then N + 1 else N) = (if h' < g then N + 1 else N) := by
            by_cases c : h' < g
            · rw [if_pos c, if_pos (by omega)]
            · rw [if_neg c, if_neg (by omega)]
          rw [this]
          exact x2.congr eo)
      refine ⟨z1, z2, z3.trans ?_⟩
      unfold TA
      rw [TT.tb, TT.tb] at k2
      have hsum := sumL_set (f := fun g' => A (b + 10 + 2 * g') 2) (g := fun g' => if g' < ng then A1 (b + 10 + 2 * g') 2 else A (b + 10 + 2 * g') 2) (c := g) (fun k hk => by
        show (if k < ng then A1 (b + 10 + 2 * k) 2 else A (b + 10 + 2 * k) 2) = A (b + 10 + 2 * k) 2
        by_cases c : k < ng
        · rw [if_pos c, oth k c hk]
        · rw [if_neg c]) ng 0 (by omega) (by omega)
      have hcong : sumL (fun g' => A1 (b + 10 + 2 * g') 2) ng 0 = sumL (fun g' => if g' < ng then A1 (b + 10 + 2 * g') 2 else A (b + 10 + 2 * g') 2) ng 0 := sumL_congr ng 0 (fun c _ hc => by
        show A1 (b + 10 + 2 * c) 2 = if c < ng then A1 (b + 10 + 2 * c) 2 else A (b + 10 + 2 * c) 2
        rw [if_pos (by omega)])
      rw [hcong, hsum]
      show _ + (_ + ((if g < ng then A1 (b + 10 + 2 * g) 2 else A (b + 10 + 2 * g) 2) - A (b + 10 + 2 * g) 2)) = _
      rw [if_pos (by omega)]
      grind
theorem hours_bd (hcl : ∀ a b e, S a b e → Lpt oA rA cB len S a b e) (hSl : ∀ a b e, S a b e → e.length ≤ 8) (hw : Wb w b) (hs : Ws s) {H : Nat} (hH : H < 100000) : ∀ (k i n N : Nat) (A B A' : Mm), i + k = H → All b s ng p len oA rA cB S A B → (A b 8).toInt + (k : Int) < 2147483646 → N + k < 1000000 → f_X9_letPass_L2 w (nI H) n (nI i) A = some A' → Inv b ng N A →
    Inv b ng (N + k) A' ∧ TA b ng A' = TA b ng A := by
  intro k
  induction k with
  | zero =>
    intro i n N A B A' hg h hd hN hr hI
    cases n with
    | zero => rw [f_X9_letPass_L2] at hr; cases hr
    | succ n =>
      rw [f_X9_letPass_L2, if_pos (by rw [n_le (by omega) (by omega)]; omega)] at hr
      cases hr
      exact ⟨hI, rfl⟩
  | succ k ih =>
    intro i n N A B A' hg h hd hN hr hI
    cases n with
    | zero => rw [f_X9_letPass_L2] at hr; cases hr
    | succ n =>
      have h6 := h.2.2.2.2.2.1
      have hw' := hw
      unfold Wb at hw'
      obtain ⟨A1, B1, c1, c2, c3, c4, c5, c6⟩ := gangs_run hcl hSl hw hs (nI H) (nI i) ng 0 FU FU A B (by omega) (by unfold FU; omega) (by unfold FU; omega) h
      obtain ⟨A2, B2, d1, d2, d3, d4, d5, d6⟩ := end_sim (by omega) hs c3.1 (by rw [c6]; omega)
      have hAll2 := c3.night hSl hw hs d3 d4 d5
      rw [c6] at d6
      obtain ⟨g1, g2, g3⟩ := gangs_bd hcl hSl hw hs (nI H) (nI i) (N := N) (by omega) ng 0 FU A B A1 (by omega) h c1 hI.1 (fun h' hh => by rw [if_neg (by omega)]; exact hI.2 h' hh)
      obtain ⟨n1, n2⟩ := end_bd d1 (by rw [c6]; exact h.1.2.2.2.2) g1
      have hrow : ∀ g, g < ng → A2 (b + 10 + 2 * g) = A1 (b + 10 + 2 * g) := fun g hg => d4.1 _ (by omega) (by omega) (by omega) (by omega) (by omega) (by omega) (by omega)
      rw [f_X9_letPass_L2, if_neg (by rw [n_le (by omega) (by omega)]; omega)] at hr
      rw [show ((0 : Int32) = nI 0) from rfl, c1, bd1_e, hw.wbog, d1, bd1_e, n_suc, lz_e] at hr
      obtain ⟨z1, z2⟩ := ih (i + 1) n (N + 1) A2 B2 A' (by omega) hAll2 (by omega) (by omega) hr ⟨n1, fun g hg => ⟨(g2 g hg).1.congr (fun j _ => by rw [hrow g hg]), (g2 g hg).2.congr (hrow g hg)⟩⟩
      rw [show N + 1 + k = N + (k + 1) by omega] at z1
      refine ⟨z1, z2.trans ?_⟩
      rw [← g3]
      unfold TA
      rw [n2, sumL_congr ng 0 (fun g _ hg => by show A2 (b + 10 + 2 * g) 2 = A1 (b + 10 + 2 * g) 2; rw [hrow g (by omega)])]
theorem pass_bd (hcl : ∀ a b e, S a b e → Lpt oA rA cB len S a b e) (hSl : ∀ a b e, S a b e → e.length ≤ 8) (hw : Wb w b) (hs : Ws s) {H N : Nat} {A B A' : Mm} (hH : H < 100000) (h : All b s ng p len oA rA cB S A B) (hd : (A b 8).toInt + (H : Int) < 2147483646) (hN : N + H < 1000000) (hr : f_X9_letPass w (nI H) A = some A') (hI : Inv b ng N A) : Inv b ng (N + H) A' ∧ TA b ng A' = TA b ng A := by
  rw [f_X9_letPass] at hr
  obtain ⟨M, hm, hr⟩ := bd1_s hr
  cases hr
  exact hours_bd hcl hSl hw hs hH H 0 FU N A B A' (by omega) h hd hN hm hI
end HB
