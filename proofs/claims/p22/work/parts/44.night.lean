/-! needs 30 31 -/
/-! a night of the stacks, cell by cell -/
def dW (br we tu : Nat → Int32) (rn sn : Int32) (c : Nat) : Int32 := if br c ≤ 0 then we c else f_X9_wetnessBehindNight (we c) (if tu c = 0 then 0 else 1) rn sn
def dL (br we tu : Nat → Int32) (rn sn : Int32) (c : Nat) : Int32 := if br c ≤ 0 then 0 else if dW br we tu rn sn c = 20 then br c / 10 else 0
def dT (br tu : Nat → Int32) (c : Nat) : Int32 := if br c ≤ 0 then tu c else 0
theorem dW_congr {br we tu br' we' tu' : Nat → Int32} {rn sn : Int32} {c : Nat} (h1 : br' c = br c) (h2 : we' c = we c) (h3 : tu' c = tu c) : dW br' we' tu' rn sn c = dW br we tu rn sn c := by unfold dW; rw [h1, h2, h3]
theorem dL_congr {br we tu br' we' tu' : Nat → Int32} {rn sn : Int32} {c : Nat} (h1 : br' c = br c) (h2 : we' c = we c) (h3 : tu' c = tu c) : dL br' we' tu' rn sn c = dL br we tu rn sn c := by unfold dL; rw [h1, dW_congr h1 h2 h3]
theorem dT_congr {br tu br' tu' : Nat → Int32} {c : Nat} (h1 : br' c = br c) (h3 : tu' c = tu c) : dT br' tu' c = dT br tu c := by unfold dT; rw [h1, h3]
def DryP (r4 r5 r6 o f rx : Nat) (rn sn : Int32) (k j : Nat) (A A' : Mm) : Prop :=
  (∀ c, j ≤ c → c < j + k → A' r4 c = A r4 c - dL (A r4) (A r5) (A r6) rn sn c ∧ A' r5 c = dW (A r4) (A r5) (A r6) rn sn c ∧ A' r6 c = dT (A r4) (A r6) c) ∧ (∀ i c, i = r4 ∨ i = r5 ∨ i = r6 → c < j ∨ j + k ≤ c → A' i c = A i c) ∧ (∀ i, i ≠ o → i ≠ rx → i ≠ r4 → i ≠ r5 → i ≠ r6 → A' i = A i) ∧ (∀ x, x ≠ f → A' o x = A o x) ∧ A' o f = A o f + sumL (dL (A r4) (A r5) (A r6) rn sn) k j
theorem DryP.step {r4 r5 r6 o f rx k j : Nat} {rn sn : Int32} {A A1 A' : Mm} (h4 : A1 r4 j = A r4 j - dL (A r4) (A r5) (A r6) rn sn j) (h5 : A1 r5 j = dW (A r4) (A r5) (A r6) rn sn j) (h6 : A1 r6 j = dT (A r4) (A r6) j) (hc : ∀ i c, i = r4 ∨ i = r5 ∨ i = r6 → c ≠ j → A1 i c = A i c) (ho : ∀ i, i ≠ o → i ≠ rx → i ≠ r4 → i ≠ r5 → i ≠ r6 → A1 i = A i) (hf : ∀ x, x ≠ f → A1 o x = A o x) (hF : A1 o f = A o f + dL (A r4) (A r5) (A r6) rn sn j) (h : DryP r4 r5 r6 o f rx rn sn k (j + 1) A1 A') : DryP r4 r5 r6 o f rx rn sn (k + 1) j A A' := by
  obtain ⟨k1, k2, k3, k4, k5⟩ := h
  refine ⟨fun c c1 c2 => ?_, fun i c hi hcc => ?_, fun i i0 ix i1 i2 i3 => (k3 i i0 ix i1 i2 i3).trans (ho i i0 ix i1 i2 i3), fun x hx => (k4 x hx).trans (hf x hx), ?_⟩
  · by_cases e : c = j
    · subst e
      rw [k2 r4 c (Or.inl rfl) (by omega), k2 r5 c (Or.inr (Or.inl rfl)) (by omega), k2 r6 c (Or.inr (Or.inr rfl)) (by omega)]
      exact ⟨h4, h5, h6⟩
    · have e4 := hc r4 c (Or.inl rfl) e
      have e5 := hc r5 c (Or.inr (Or.inl rfl)) e
      have e6 := hc r6 c (Or.inr (Or.inr rfl)) e
      obtain ⟨m1, m2, m3⟩ := k1 c (by omega) (by omega)
      rw [m1, m2, m3, dL_congr e4 e5 e6, dW_congr e4 e5 e6, dT_congr e4 e6, e4]
      exact ⟨rfl, rfl, rfl⟩
  · rw [k2 i c hi (by omega), hc i c hi (by omega)]
  · rw [k5, hF, Int32.add_assoc]
    congr 1
    show _ + _ = _ + _
    congr 1
    exact sumL_congr k (j + 1) (fun c c1 _ => dL_congr (hc r4 c (Or.inl rfl) (by omega)) (hc r5 c (Or.inr (Or.inl rfl)) (by omega)) (hc r6 c (Or.inr (Or.inr rfl)) (by omega)))
theorem n64 {j : Nat} (h : j < 64) : ¬ (64 : Int32) ≤ nI j := by rw [i_le, i_nI (by omega)]; show ¬ (64 : Int) ≤ (j : Int); omega
theorem dry_run {b : Nat} {rn sn : Int32} : ∀ (k j n : Nat) (A : Mm), j + k = 64 → k < n → 0 ≤ (A b 8).toInt → A (b + 7) (ix (A b 8 - A b 8 / (12 : Int32) * (12 : Int32))) = rn → A (b + 8) (ix (A b 8 - A b 8 / (12 : Int32) * (12 : Int32))) = sn →
    ∃ A', f_X1_dryStacks_L2 b n (nI j) A = some A' ∧ DryP (b + 4) (b + 5) (b + 6) b 12 b rn sn k j A A' := by
  intro k
  induction k with
  | zero =>
    intro j n A hj hn _ _ _
    obtain ⟨m, rfl⟩ : ∃ m, n = m + 1 := ⟨n - 1, by omega⟩
    have : j = 64 := by omega
    subst this
    exact ⟨A, by rw [f_X1_dryStacks_L2, if_pos (by decide)], fun c c1 c2 => by omega, fun _ _ _ _ => rfl, fun _ _ _ _ _ _ => rfl, fun _ _ => rfl, by show _ = _ + (0 : Int32); rw [Int32.add_zero]⟩
  | succ k ih =>
    intro j n A hj hn hd hrn hsn
    obtain ⟨m, rfl⟩ : ∃ m, n = m + 1 := ⟨n - 1, by omega⟩
    have h64 := n64 (j := j) (by omega)
    have hin : 0 ≤ (nI j).toInt ∧ (nI j).toInt < ((64 : Nat) : Int) := inN (by omega)
    have hx := ixn (j := j) (by omega)
    have hdd := day_in hd
    have hR : f_X1_rainOfDay b A = some rn := by rw [f_X1_rainOfDay, if_pos hdd, lz_e, hrn]
    have hS : f_X1_sunOfDay b A = some sn := by rw [f_X1_sunOfDay, if_pos hdd, lz_e, hsn]
    rw [f_X1_dryStacks_L2, if_neg h64]
    simp only [if_pos hin, hx, n_suc, lz_e]
    by_cases hb : A (b + 4) j ≤ 0
    · rw [if_pos hb, bd1_e]
      obtain ⟨A', a1, a2⟩ := ih (j + 1) m A (by omega) (by omega) hd hrn hsn
      refine ⟨A', a1, DryP.step (A1 := A) ?_ ?_ ?_ (fun _ _ _ _ => rfl) (fun _ _ _ _ _ _ => rfl) (fun _ _ => rfl) ?_ a2⟩
      · unfold dL; rw [if_pos hb]; simp
      · unfold dW; rw [if_pos hb]
      · unfold dT; rw [if_pos hb]
      · unfold dL; rw [if_pos hb, Int32.add_zero]
    · rw [if_neg hb, hR, bd1_e, hS, bd1_e]
      have eW : dW (A (b + 4)) (A (b + 5)) (A (b + 6)) rn sn j = f_X9_wetnessBehindNight (A (b + 5) j) (if A (b + 6) j = 0 then 0 else 1) rn sn := by unfold dW; rw [if_neg hb]
      rw [← eW]
      generalize hA2 : wr (wr A (b + 5) j (dW (A (b + 4)) (A (b + 5)) (A (b + 6)) rn sn j)) (b + 6) j 0 = A2
      have d5 : A2 (b + 5) j = dW (A (b + 4)) (A (b + 5)) (A (b + 6)) rn sn j := by rw [← hA2, wr_ne (by omega), wr_at]
      have d6 : A2 (b + 6) j = 0 := by rw [← hA2, wr_at]
      have d4 : A2 (b + 4) = A (b + 4) := by rw [← hA2, wr_ne (by omega), wr_ne (by omega)]
      have dc : ∀ i c, c ≠ j → A2 i c = A i c := by intro i c hc; rw [← hA2, wr_o (Or.inr hc), wr_o (Or.inr hc)]
      have dr : ∀ i, i ≠ b + 5 → i ≠ b + 6 → A2 i = A i := by intro i h1 h2; rw [← hA2, wr_ne h2, wr_ne h1]
      have eT : dT (A (b + 4)) (A (b + 6)) j = 0 := by unfold dT; rw [if_neg hb]
      rw [d5]
      by_cases h20 : dW (A (b + 4)) (A (b + 5)) (A (b + 6)) rn sn j = 20
      · have eL : dL (A (b + 4)) (A (b + 5)) (A (b + 6)) rn sn j = A (b + 4) j / 10 := by unfold dL; rw [if_neg hb, if_pos h20]
        rw [if_pos h20, bd1_e, d4]
        rw [wr_ne (show b ≠ b + 4 by omega), dr b (by omega) (by omega)]
        generalize hA3 : wr (wr A2 (b + 4) j (A (b + 4) j - A (b + 4) j / 10)) b 12 (A b 12 + A (b + 4) j / 10) = A3
        have f12 : A3 b 12 = A b 12 + A (b + 4) j / 10 := by rw [← hA3, wr_at]
        have fb : ∀ x, x ≠ 12 → A3 b x = A b x := by intro x hx; rw [← hA3, wr_col hx, wr_ne (by omega), dr b (by omega) (by omega)]
        have f4 : A3 (b + 4) j = A (b + 4) j - A (b + 4) j / 10 := by rw [← hA3, wr_ne (by omega), wr_at]
        have f5 : A3 (b + 5) j = dW (A (b + 4)) (A (b + 5)) (A (b + 6)) rn sn j := by rw [← hA3, wr_ne (by omega), wr_ne (by omega)]; exact d5
        have f6 : A3 (b + 6) j = 0 := by rw [← hA3, wr_ne (by omega), wr_ne (by omega)]; exact d6
        have fr : ∀ i, i ≠ b → i ≠ b + 4 → i ≠ b + 5 → i ≠ b + 6 → A3 i = A i := by intro i h0 h1 h2 h3; rw [← hA3, wr_ne h0, wr_ne h1, dr i h2 h3]
        obtain ⟨A', a1, a2⟩ := ih (j + 1) m A3 (by omega) (by omega) (by rw [fb 8 (by decide)]; exact hd) (by rw [fb 8 (by decide), fr (b + 7) (by omega) (by omega) (by omega) (by omega)]; exact hrn) (by rw [fb 8 (by decide), fr (b + 8) (by omega) (by omega) (by omega) (by omega)]; exact hsn)
        exact ⟨A', a1, DryP.step (A1 := A3) (by rw [f4, eL]) f5 (by rw [f6, eT]) (fun i c hi hc => by rw [← hA3, wr_ne (by omega), wr_o (Or.inr hc)]; exact dc i c hc) (fun i h0 _ h1 h2 h3 => fr i h0 h1 h2 h3) fb (by rw [f12, eL]) a2⟩
      · have eL : dL (A (b + 4)) (A (b + 5)) (A (b + 6)) rn sn j = 0 := by unfold dL; rw [if_neg hb, if_neg h20]
        rw [if_neg h20, bd1_e]
        obtain ⟨A', a1, a2⟩ := ih (j + 1) m A2 (by omega) (by omega) (by rw [dr b (by omega) (by omega)]; exact hd) (by rw [dr b (by omega) (by omega), dr (b + 7) (by omega) (by omega)]; exact hrn) (by rw [dr b (by omega) (by omega), dr (b + 8) (by omega) (by omega)]; exact hsn)
        exact ⟨A', a1, DryP.step (A1 := A2) (by rw [d4, eL]; simp) d5 (by rw [d6, eT]) (fun i c _ hc => dc i c hc) (fun i h0 _ h1 h2 h3 => dr i h2 h3) (fun x _ => by rw [dr b (by omega) (by omega)]) (by rw [dr b (by omega) (by omega), eL, Int32.add_zero]) a2⟩
/-- water, cell by cell -/
def dQ (pe wa : Nat → Int32) (mo : Int32) (c : Nat) : Int32 := f_X9_held ((wa c + mo) + (if pe c = 0 then (if c = 0 then 0 else 1) else 0)) 9
theorem water_run {b : Nat} {mo : Int32} : ∀ (k j n : Nat) (A : Mm), j + k = 64 → k < n →
    ∃ A', f_X1_moveWater_L16 b mo n (nI j) A = some A' ∧ (∀ c, j ≤ c → c < 64 → A' (b + 3) c = dQ (A (b + 1)) (A (b + 3)) mo c) ∧ (∀ c, c < j ∨ 64 ≤ c → A' (b + 3) c = A (b + 3) c) ∧ ∀ i, i ≠ b + 3 → A' i = A i := by
  intro k
  induction k with
  | zero =>
    intro j n A hj hn
    obtain ⟨m, rfl⟩ : ∃ m, n = m + 1 := ⟨n - 1, by omega⟩
    have : j = 64 := by omega
    subst this
    exact ⟨A, by rw [f_X1_moveWater_L16, if_pos (by decide)], fun c c1 c2 => by omega, fun _ _ => rfl, fun _ _ => rfl⟩
  | succ k ih =>
    intro j n A hj hn
    obtain ⟨m, rfl⟩ : ∃ m, n = m + 1 := ⟨n - 1, by omega⟩
    have h64 := n64 (j := j) (by omega)
    have hin : 0 ≤ (nI j).toInt ∧ (nI j).toInt < ((64 : Nat) : Int) := inN (by omega)
    have hx := ixn (j := j) (by omega)
    have h0 : (nI j = 0) = (j = 0) := propext (n_inj (b := 0) (by omega) (by decide))
    rw [f_X1_moveWater_L16, if_neg h64]
    simp only [if_pos hin, hx, n_suc, lz_e, h0]
    obtain ⟨A', a1, a2, a3, a4⟩ := ih (j + 1) m (wr A (b + 3) j (dQ (A (b + 1)) (A (b + 3)) mo j)) (by omega) (by omega)
    refine ⟨A', a1, fun c c1 c2 => ?_, fun c hc => ?_, fun i hi => ?_⟩
    · by_cases e : c = j
      · subst e
        rw [a3 c (by omega), wr_at]
      · rw [a2 c (by omega) c2]
        unfold dQ
        rw [wr_ne (show b + 1 ≠ b + 3 by omega), wr_col e]
    · rw [a3 c (by omega), wr_col (by omega)]
    · rw [a4 i hi, wr_ne hi]
/-- the reference's night -/
theorem behind_same {we tu rn sn : Int32} (h : tu = 0 ∨ tu = 1) : f_X11_held ((we + (2 : Int32) * rn) - sn * ((1 : Int32) + tu)) 20 = f_X9_wetnessBehindNight we (if tu = 0 then 0 else 1) rn sn := by
  unfold f_X9_wetnessBehindNight
  simp only [lz_e]
  show f_X9_held _ _ = _
  congr 1
  rcases h with rfl | rfl
  · rw [if_pos rfl, if_pos rfl]; grind
  · rw [if_neg (show ¬ (1 : Int32) = 0 by decide), if_neg (show ¬ (1 : Int32) = 0 by decide)]; grind
def dQB (pe wa : Nat → Int32) (rn sn : Int32) (c : Nat) : Int32 := f_X11_held (((wa c + rn / 2) - sn / 4) + (if c = 0 then 0 else if pe c = 0 then 1 else 0)) 9
theorem dQ_same (pe wa : Nat → Int32) (rn sn : Int32) (c : Nat) : dQB pe wa rn sn c = dQ pe wa (rn / 2 - sn / 4) c := by
  unfold dQB dQ
  show f_X9_held _ _ = _
  congr 1
  have e : (if c = 0 then (0 : Int32) else if pe c = 0 then 1 else 0) = (if pe c = 0 then (if c = 0 then 0 else 1) else 0) := by
    by_cases h : c = 0 <;> by_cases h2 : pe c = 0 <;> simp [h, h2]
  rw [e]; grind
theorem night_run {s : Nat} {rn sn : Int32} (hs : Ws s) : ∀ (k j n : Nat) (B : Mm), j + k = 64 → k < n → 0 ≤ (B s 0).toInt → B 72 (ix (B s 0 - B s 0 / (12 : Int32) * (12 : Int32))) = rn → B 73 (ix (B s 0 - B s 0 / (12 : Int32) * (12 : Int32))) = sn → (∀ c, j ≤ c → c < 64 → B (s + 5) c = 0 ∨ B (s + 5) c = 1) →
    ∃ B', f_X11_night_L29 69 s rn sn n (nI j) B = some B' ∧ DryP (s + 3) (s + 4) (s + 5) s 4 (s + 2) rn sn k j B B' ∧ (∀ c, j ≤ c → c < 64 → B' (s + 2) c = dQB (B (s + 1)) (B (s + 2)) rn sn c) ∧ ∀ c, c < j ∨ 64 ≤ c → B' (s + 2) c = B (s + 2) c := by
  unfold Ws at hs
  intro k
  induction k with
  | zero =>
    intro j n A hj hn _ _ _ _
    obtain ⟨m, rfl⟩ : ∃ m, n = m + 1 := ⟨n - 1, by omega⟩
    have : j = 64 := by omega
    subst this
    exact ⟨A, by rw [f_X11_night_L29, if_pos (by decide)], ⟨fun c c1 c2 => by omega, fun _ _ _ _ => rfl, fun _ _ _ _ _ _ => rfl, fun _ _ => rfl, by show _ = _ + (0 : Int32); rw [Int32.add_zero]⟩, fun c c1 c2 => by omega, fun _ _ => rfl⟩
  | succ k ih =>
    intro j n A hj hn hd hrn hsn htu
    obtain ⟨m, rfl⟩ : ∃ m, n = m + 1 := ⟨n - 1, by omega⟩
    have h64 := n64 (j := j) (by omega)
    have hin : 0 ≤ (nI j).toInt ∧ (nI j).toInt < ((64 : Nat) : Int) := inN (by omega)
    have hx := ixn (j := j) (by omega)
    have h0 : (nI j = 0) = (j = 0) := propext (n_inj (b := 0) (by omega) (by decide))
    have hdd := day_in hd
    have t0 := htu j (Nat.le_refl _) (by omega)
    have hBN : f_X11_behindNight 69 (A (s + 4) j) (A (s + 5) j) (A s 0) A = some (f_X9_wetnessBehindNight (A (s + 4) j) (if A (s + 5) j = 0 then 0 else 1) rn sn) := by
      rw [f_X11_behindNight, if_pos hdd, lz_e, if_pos hdd, lz_e, lz_e]
      rw [show (69 + 3 : Nat) = 72 from rfl, show (69 + 4 : Nat) = 73 from rfl, hrn, hsn, behind_same t0]
    -- one cell without its water
    have cell : ∃ A2, (if A (s + 3) j ≤ 0 then some A else bd1 (f_X11_behindNight 69 (A (s + 4) j) (A (s + 5) j) (A s 0) A) fun x13 => bd1 (if (wr (wr A (s + 4) j x13) (s + 5) j 0) (s + 4) j = 20 then some ((wr (wr A (s + 4) j x13) (s + 5) j 0) (s + 3) j / 10) else some 0) fun x26 => some (wr (wr (wr (wr A (s + 4) j x13) (s + 5) j 0) (s + 3) j ((wr (wr A (s + 4) j x13) (s + 5) j 0) (s + 3) j - x26)) s 4 ((wr (wr (wr A (s + 4) j x13) (s + 5) j 0) (s + 3) j ((wr (wr A (s + 4) j x13) (s + 5) j 0) (s + 3) j - x26)) s 4 + x26))) = some A2 ∧ A2 (s + 3) j = A (s + 3) j - dL (A (s + 3)) (A (s + 4)) (A (s + 5)) rn sn j ∧ A2 (s + 4) j = dW (A (s + 3)) (A (s + 4)) (A (s + 5)) rn sn j ∧ A2 (s + 5) j = dT (A (s + 3)) (A (s + 5)) j ∧ (∀ i c, i = s + 3 ∨ i = s + 4 ∨ i = s + 5 → c ≠ j → A2 i c = A i c) ∧ (∀ i, i ≠ s → i ≠ s + 3 → i ≠ s + 4 → i ≠ s + 5 → A2 i = A i) ∧ (∀ x, x ≠ 4 → A2 s x = A s x) ∧ A2 s 4 = A s 4 + dL (A (s + 3)) (A (s + 4)) (A (s + 5)) rn sn j := by
      by_cases hb : A (s + 3) j ≤ 0
      · refine ⟨A, by rw [if_pos hb], ?_, ?_, ?_, fun _ _ _ _ => rfl, fun _ _ _ _ _ => rfl, fun _ _ => rfl, ?_⟩
        · unfold dL; rw [if_pos hb]; simp
        · unfold dW; rw [if_pos hb]
        · unfold dT; rw [if_pos hb]
        · unfold dL; rw [if_pos hb, Int32.add_zero]
      · have eW : dW (A (s + 3)) (A (s + 4)) (A (s + 5)) rn sn j = f_X9_wetnessBehindNight (A (s + 4) j) (if A (s + 5) j = 0 then 0 else 1) rn sn := by unfold dW; rw [if_neg hb]
        have eT : dT (A (s + 3)) (A (s + 5)) j = 0 := by unfold dT; rw [if_neg hb]
        have eL : dL (A (s + 3)) (A (s + 4)) (A (s + 5)) rn sn j = if dW (A (s + 3)) (A (s + 4)) (A (s + 5)) rn sn j = 20 then A (s + 3) j / 10 else 0 := by unfold dL; rw [if_neg hb]
        rw [if_neg hb, hBN, bd1_e, ← eW]
        generalize hx5 : dW (A (s + 3)) (A (s + 4)) (A (s + 5)) rn sn j = x5 at *
        have r4 : wr (wr A (s + 4) j x5) (s + 5) j 0 (s + 4) j = x5 := by rw [wr_ne (by omega), wr_at]
        have r3 : wr (wr A (s + 4) j x5) (s + 5) j 0 (s + 3) j = A (s + 3) j := by rw [wr_ne (by omega), wr_ne (by omega)]
        have e26 : (if x5 = 20 then some (A (s + 3) j / 10) else some (0 : Int32)) = some (dL (A (s + 3)) (A (s + 4)) (A (s + 5)) rn sn j) := by rw [eL]; split <;> rfl
        rw [r4, r3, e26, bd1_e]
        generalize dL (A (s + 3)) (A (s + 4)) (A (s + 5)) rn sn j = l5 at *
        refine ⟨_, rfl, ?_, ?_, ?_, ?_, ?_, ?_, ?_⟩
        · rw [wr_ne (by omega), wr_at]
        · rw [wr_ne (by omega), wr_ne (by omega), wr_ne (by omega), wr_at]
        · rw [wr_ne (by omega), wr_ne (by omega), wr_at, eT]
        · intro i c hi hc
          rw [wr_ne (by omega), wr_o (Or.inr hc), wr_o (Or.inr hc), wr_o (Or.inr hc)]
        · intro i i0 i1 i2 i3
          rw [wr_ne i0, wr_ne i1, wr_ne i3, wr_ne i2]
        · intro x hx
          rw [wr_col hx, wr_ne (by omega), wr_ne (by omega), wr_ne (by omega)]
        · rw [wr_at, wr_ne (by omega), wr_ne (by omega), wr_ne (by omega)]
    obtain ⟨A2, c1, c2, c3, c4, c5, c6, c7, c8⟩ := cell
    rw [f_X11_night_L29, if_neg h64]
    simp only [if_pos hin, hx, n_suc, lz_e, h0]
    rw [c1, bd1_e]
    have ew : A2 (s + 2) = A (s + 2) := c6 _ (by omega) (by omega) (by omega) (by omega)
    have ep : A2 (s + 1) = A (s + 1) := c6 _ (by omega) (by omega) (by omega) (by omega)
    have e41 : (if j = 0 then some (0 : Int32) else if A2 (s + 1) j = 0 then some 1 else some 0) = some (if j = 0 then 0 else if A (s + 1) j = 0 then 1 else 0) := by
      rw [ep]; split
      · rfl
      · split <;> rfl
    rw [e41, bd1_e, ew]
    generalize hA3 : wr A2 (s + 2) j (f_X11_held (A (s + 2) j + rn / 2 - sn / 4 + if j = 0 then 0 else if A (s + 1) j = 0 then 1 else 0) 9) = A3
    have d2 : A3 (s + 2) j = dQB (A (s + 1)) (A (s + 2)) rn sn j := by rw [← hA3, wr_at]; rfl
    have d2c : ∀ c, c ≠ j → A3 (s + 2) c = A (s + 2) c := by intro c hc; rw [← hA3, wr_col hc, ew]
    have dr : ∀ i, i ≠ s + 2 → A3 i = A2 i := by intro i hi; rw [← hA3, wr_ne hi]
    obtain ⟨B', a1, a2, a3, a4⟩ := ih (j + 1) m A3 (by omega) (by omega) (by rw [dr s (by omega), c7 0 (by decide)]; exact hd) (by rw [dr s (by omega), c7 0 (by decide), dr 72 (by omega), c6 72 (by omega) (by omega) (by omega) (by omega)]; exact hrn) (by rw [dr s (by omega), c7 0 (by decide), dr 73 (by omega), c6 73 (by omega) (by omega) (by omega) (by omega)]; exact hsn) (fun c h1 h2 => by rw [dr (s + 5) (by omega), c5 (s + 5) c (Or.inr (Or.inr rfl)) (by omega)]; exact htu c (by omega) h2)
    refine ⟨B', a1, DryP.step (A1 := A3) (by rw [dr _ (by omega)]; exact c2) (by rw [dr _ (by omega)]; exact c3) (by rw [dr _ (by omega)]; exact c4) (fun i c hi hc => by rw [dr i (by omega)]; exact c5 i c hi hc) (fun i h0 h9 h1 h2 h3 => by rw [dr i h9]; exact c6 i h0 h1 h2 h3) (fun x hx => by rw [dr s (by omega)]; exact c7 x hx) (by rw [dr s (by omega)]; exact c8) a2, fun c h1 h2 => ?_, fun c hc => ?_⟩
    · by_cases e : c = j
      · subst e
        rw [a4 c (by omega)]; exact d2
      · rw [a3 c (by omega) h2]
        unfold dQB
        rw [d2c c e, dr (s + 1) (by omega), ep]
    · rw [a4 c (by omega), d2c c (by omega)]
