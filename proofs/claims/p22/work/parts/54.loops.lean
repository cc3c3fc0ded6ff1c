/-! needs 30 31 32 50 51 52 53 54 55 -/
/-! chains of operations beside each other -/
section GL
variable {T : Nat → Int32} {L N p d H : Nat} {t : Bool} {FA FB : Mm → Option (Int32 × Mm)} {LA : Nat → Int32 → Int32 → Mm → Option (Int32 × Mm)} {LB : Nat → Mm → Option (Int32 × Mm)} {Op : Nat → Int32 → Int32 → Prop}
def OpOk (t : Bool) (Op : Nat → Int32 → Int32 → Prop) : Prop := ∀ u x y, Op u x y → u < 49 ∧ ∃ k, (x, y, k) ∈ binT ∧ binK k t t = t
def StepA (T : Nat → Int32) (L N p : Nat) (FA : Mm → Option (Int32 × Mm)) (LA : Nat → Int32 → Int32 → Mm → Option (Int32 × Mm)) (Op : Nat → Int32 → Int32 → Prop) : Prop :=
  (∀ n c M, LA (n + 1) 0 c M = some (0, M)) ∧
  (∀ (n c i la : Nat) (ea fa : Int32) (A : Mm), AtA T L N p i la ea fa A → c < 400 → (¬ ∃ x y, Op (tk T L i) x y) → LA (n + 1) 1 (nI c) A = some (1, A)) ∧
  (∀ (n c i la : Nat) (ea fa : Int32) (A : Mm) (x y : Int32), AtA T L N p i la ea fa A → c < 400 → Op (tk T L i) x y → LA (n + 1) 1 (nI c) A = bd2 (FA (nxA A i)) fun x14 M15 => bd2 (if x14 = 0 then some ((0 : Int32), M15) else (if okr 2 (M15 3 3) then (bd2 (f_X5_emit (rid (M15 3 3)) x (0 : Int32) M15) fun x21 M22 => if x21 = 0 then some ((0 : Int32), M22) else some ((1 : Int32), M22)) else none)) fun x26 M27 => LA n x26 (nI (c + 1)) M27)
def StepB (T : Nat → Int32) (L : Nat) (FB : Mm → Option (Int32 × Mm)) (LB : Nat → Mm → Option (Int32 × Mm)) (Op : Nat → Int32 → Int32 → Prop) : Prop :=
  (∀ (n i d sb s : Nat) (ea fa : Int32) (B : Mm), AtB T L i d sb s ea fa B → (¬ ∃ x y, Op (tk T L i) x y) → LB (n + 1) B = some (1, B)) ∧
  (∀ (n i d sb s : Nat) (ea fa : Int32) (B : Mm) (x y : Int32), AtB T L i d sb s ea fa B → Op (tk T L i) x y → LB (n + 1) B = bd1 (f_X11_advance 69 B) fun M => bd2 (FB M) fun x M' => if x = 0 then some ((0 : Int32), M') else bd1 (f_X11_put 69 y M') fun M'' => LB n M'')
theorem loop_ok (hop : OpOk t Op) (hA : StepA T L N p FA LA Op) (hB : StepB T L FB LB Op) (hr : EW T L N p d FA FB t H) {i la sb s : Nat} {ea fa : Int32} (hl : la + 10 ≤ 2 * i) (hs : sb ≤ 4 * i) : ∀ (k i1 c nA nB la1 sb1 n1 : Nat) (A1 B1 : Mm), 400 - i1 ≤ k → k + 1 < nA → k < nB → c < i1 → i < i1 → AtA T L N p i1 la1 ea fa A1 → AtB T L i1 d sb1 s ea fa B1 → la < la1 → sb < sb1 → la1 + i ≤ la + i1 → sb1 + 2 * i ≤ sb + 2 * i1 → (∀ τ : List Bool, τ.length + (H + 1) ≤ 60 → Seg (A1 (p + 1)) (A1 (p + 2)) (B1 75) n1 la sb τ la1 sb1 (t :: τ)) → ∃ x A' B', LA nA 1 (nI c) A1 = some (x, A') ∧ LB nB B1 = some (x, B') ∧ FrA p la1 A1 A' ∧ FrB sb1 B1 B' ∧ ((x = 0 ∧ Fail A' B') ∨ (x = 1 ∧ EOk T L N p i d la sb s ea fa t (H + 1) A' B')) := by
  intro k
  induction k with
  | zero =>
    intro i1 c nA nB la1 sb1 n1 A1 B1 hk hnA hnB hc h1 h2 h3 h4 h5 h6 h7 h8
    obtain ⟨m, rfl⟩ : ∃ m, nA = m + 1 := ⟨nA - 1, by omega⟩
    obtain ⟨m', rfl⟩ : ∃ m, nB = m + 1 := ⟨nB - 1, by omega⟩
    have hi1 := h2.le
    have hno : ¬ ∃ x y, Op (tk T L i1) x y := by
      rintro ⟨x, y, ho⟩
      have := (hop _ _ _ ho).1
      have := (h2.next this).le
      omega
    exact ⟨1, A1, B1, hA.2.1 m c i1 la1 ea fa A1 h2 (by omega) hno, hB.1 m' i1 d sb1 s ea fa B1 h3 hno, FrA.refl _ _ _, FrB.refl _ _, Or.inr ⟨rfl, i1, la1, sb1, n1, h1, h2, h3, h4, h5, h6, h7, h8⟩⟩
  | succ k ih =>
    intro i1 c nA nB la1 sb1 n1 A1 B1 hk hnA hnB hc h1 h2 h3 h4 h5 h6 h7 h8
    obtain ⟨m, rfl⟩ : ∃ m, nA = m + 1 := ⟨nA - 1, by omega⟩
    obtain ⟨m', rfl⟩ : ∃ m, nB = m + 1 := ⟨nB - 1, by omega⟩
    have hi1 := h2.le
    have hp := h2.1.2.2.2
    by_cases ho : ∃ x y, Op (tk T L i1) x y
    · obtain ⟨x, y, ho⟩ := ho
      obtain ⟨hu, kk, hb, hK⟩ := hop _ _ _ ho
      have nA1 := h2.next hu
      have hi2 := nA1.le
      obtain ⟨B2, b1, b2, b3⟩ := h3.adv hu (by omega)
      obtain ⟨v, A3, B3, c1, c2, c3, c4, c5⟩ := hr (i1 + 1) la1 sb1 s ea fa _ _ nA1 b2 (by omega) (by omega)
      rw [hA.2.2 m c i1 la1 ea fa A1 x y h2 (by omega) ho, hB.2 m' i1 d sb1 s ea fa B1 x y h3 ho, c1, bd2_e, b1, bd1_e, c2, bd2_e]
      have f1 := (nxA_fr p la1 A1 i1).trans c3 (Nat.le_refl _)
      have f2 := (b3.frB (sb := sb1)).trans c4 (Nat.le_refl _)
      rcases c5 with ⟨rfl, hf⟩ | ⟨rfl, i2, la2, sb2, n2, g1, g2, g3, g4, g5, g6, g7, g8⟩
      · obtain ⟨m2, rfl⟩ : ∃ m2, m = m2 + 1 := ⟨m - 1, by omega⟩
        exact ⟨0, A3, B3, by rw [if_pos rfl, bd2_e]; exact hA.1 _ _ _, if_pos rfl, f1, f2, Or.inl ⟨rfl, hf⟩⟩
      · have hi3 := g2.le
        obtain ⟨m1, m2⟩ := g2.emit (by omega) x 0
        obtain ⟨q1, q2⟩ := g3.put (by omega) y
        rw [if_neg (show ¬ (1 : Int32) = 0 by decide), if_pos g2.okp, g2.ridp, m1, bd2_e, if_neg (show ¬ (1 : Int32) = 0 by decide), bd2_e, if_neg (show ¬ (1 : Int32) = 0 by decide), q1, bd1_e]
        obtain ⟨z, A', B', r1, r2, r3, r4, r5⟩ := ih i2 (c + 1) m m' (la2 + 1) (sb2 + 1) (n1 + n2 + 1) _ _ (by omega) (by omega) (by omega) (by omega) (by omega) m2 q2 (by omega) (by omega) (by omega) (by omega) (fun τ hτ => by
          have k1 := (h8 τ hτ).fr hp (f1.trans (emA_fr p la2 x 0 A3) (by omega)) (f2.trans (puB_fr sb2 y B3) (by omega))
          have k2 := (g8 (t :: τ) (by show τ.length + 1 + H ≤ 60; omega)).fr hp (emA_fr p la2 x 0 A3) (puB_fr sb2 y B3)
          obtain ⟨o1, -, -⟩ := emA_op p la2 x 0 A3
          refine (k1.app k2).app (Seg.one (Or.inr (Or.inr (Or.inr (Or.inr ⟨x, y, kk, t, t, τ, hb, o1, puB_at _ _ _, rfl, rfl, by rw [hK]⟩)))) ?_)
          show τ.length + 1 ≤ 60
          omega)
        exact ⟨z, A', B', r1, r2, (f1.trans (emA_fr p la2 x 0 A3) (by omega)).trans r3 (by omega), (f2.trans (puB_fr sb2 y B3) (by omega)).trans r4 (by omega), r5⟩
    · exact ⟨1, A1, B1, hA.2.1 m c i1 la1 ea fa A1 h2 (by omega) ho, hB.1 m' i1 d sb1 s ea fa B1 h3 ho, FrA.refl _ _ _, FrB.refl _ _, Or.inr ⟨rfl, i1, la1, sb1, n1, h1, h2, h3, h4, h5, h6, h7, h8⟩⟩
theorem chain_ok (hop : OpOk t Op) (hA : StepA T L N p FA LA Op) (hB : StepB T L FB LB Op) (hr : EW T L N p d FA FB t H) : EW T L N p d (fun M => bd2 (FA M) fun x1 M2 => bd2 (LA FU x1 (0 : Int32) M2) fun x32 M33 => if (x32 = 0 ∨ x32 = 1) then some (x32, M33) else none) (fun M => bd2 (FB M) fun x1 M2 => if (x1 = 0) then (some ((0 : Int32), M2)) else (LB FU M2)) t (H + 1) := by
  intro i la sb s ea fa A B a1 a2 hl hs
  obtain ⟨v, A1, B1, c1, c2, c3, c4, c5⟩ := hr i la sb s ea fa A B a1 a2 hl hs
  show ∃ x A' B', (bd2 (FA A) fun x1 M2 => bd2 (LA FU x1 (0 : Int32) M2) fun x32 M33 => if (x32 = 0 ∨ x32 = 1) then some (x32, M33) else none) = some (x, A') ∧ (bd2 (FB B) fun x1 M2 => if (x1 = 0) then (some ((0 : Int32), M2)) else (LB FU M2)) = some (x, B') ∧ _
  rw [c1, c2, bd2_e, bd2_e]
  rcases c5 with ⟨rfl, hf⟩ | ⟨rfl, i2, la2, sb2, n2, g1, g2, g3, g4, g5, g6, g7, g8⟩
  · refine ⟨0, A1, B1, ?_, if_pos rfl, c3, c4, Or.inl ⟨rfl, hf⟩⟩
    rw [show FU = 1099999 + 1 from rfl, hA.1, bd2_e, if_pos (Or.inl rfl)]
  · obtain ⟨z, A', B', r1, r2, r3, r4, r5⟩ := loop_ok hop hA hB hr hl hs 400 i2 0 FU FU la2 sb2 n2 A1 B1 (by omega) (by unfold FU; omega) (by unfold FU; omega) (by omega) g1 g2 g3 g4 g5 g6 g7 (fun τ hτ => g8 τ (by omega))
    have r1' : LA FU 1 0 A1 = some (z, A') := r1
    refine ⟨z, A', B', ?_, ?_, c3.trans r3 (by omega), c4.trans r4 (by omega), r5⟩
    · rw [r1', bd2_e, if_pos]
      rcases r5 with ⟨e, -⟩ | ⟨e, -⟩
      · exact Or.inl e
      · exact Or.inr e
    · rw [if_neg (show ¬ (1 : Int32) = 0 by decide), r2]
end GL
