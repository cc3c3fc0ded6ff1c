/-! needs 30 31 32 39 50 51 52 53 54 55 56 57 -/
/-! sums and tests, to the depth of 8 -/
theorem exp_all (T : Nat → Int32) (L N p : Nat) : ∀ n d, d ≤ 8 →
    (7 * (9 - d) + 1 ≤ n → EW T L N p d (fun M => f_P4 n 10 3 (nI d) M) (fun M => f_P11 n 10 69 0 M) false (V d)) ∧
    (7 * (9 - d) + 2 ≤ n → EW T L N p d (fun M => f_P4 n 9 3 (nI d) M) (fun M => f_P11 n 9 69 0 M) false (V d + 1)) ∧
    (7 * (9 - d) + 3 ≤ n → EW T L N p d (fun M => f_P4 n 8 3 (nI d) M) (fun M => f_P11 n 8 69 0 M) false (V d + 2)) ∧
    (7 * (9 - d) + 4 ≤ n → EW T L N p d (fun M => f_P4 n 7 3 (nI d) M) (fun M => f_P11 n 7 69 0 M) true (V d + 3)) ∧
    (7 * (9 - d) + 5 ≤ n → EW T L N p d (fun M => f_P4 n 6 3 (nI d) M) (fun M => f_P11 n 6 69 0 M) true (V d + 4)) ∧
    (7 * (9 - d) + 6 ≤ n → EW T L N p d (fun M => f_P4 n 5 3 (nI d) M) (fun M => f_P11 n 5 69 0 M) true (V d + 5)) := by
  intro n
  induction n with
  | zero => intro d hd; exact ⟨fun h => by omega, fun h => by omega, fun h => by omega, fun h => by omega, fun h => by omega, fun h => by omega⟩
  | succ n ih =>
    intro d hd
    obtain ⟨i1, i2, i3, i4, i5, i6⟩ := ih d hd
    refine ⟨fun h => ?_, fun h => ?_, fun h => ?_, fun h => ?_, fun h => ?_, fun h => ?_⟩
    · exact value_ok (RA := f_P4 n) (RB := f_P11 n) hd (fun h8 => (ih (d + 1) (by omega)).2.2.1 (by omega)) (fun h8 => (ih (d + 1) (by omega)).1 (by omega))
    · exact product_ok (RA := f_P4 n) (RB := f_P11 n) (i1 (by omega))
    · exact sum_ok (RA := f_P4 n) (RB := f_P11 n) (i2 (by omega))
    · exact single_ok (RA := f_P4 n) (RB := f_P11 n) hd (i3 (by omega)) (fun h8 => (ih (d + 1) (by omega)).2.2.2.1 (by omega)) (fun h8 => (ih (d + 1) (by omega)).2.2.2.2.2 (by omega))
    · exact both_ok (RA := f_P4 n) (RB := f_P11 n) (i4 (by omega))
    · exact test_ok (RA := f_P4 n) (RB := f_P11 n) (i5 (by omega))
/-- with the end mark behind it -/
def MOk (T : Nat → Int32) (L N p i d la sb s : Nat) (ea fa : Int32) (t : Bool) (A B : Mm) : Prop := ∃ i' la' sb' n, i < i' ∧ AtA T L N p i' la' ea fa A ∧ AtB T L i' d (sb' + 1) s ea fa B ∧ B 75 sb' = 61 ∧ la < la' ∧ sb < sb' ∧ la' + i ≤ la + i' ∧ sb' + 2 * i ≤ sb + 2 * i' ∧ Seg (A (p + 1)) (A (p + 2)) (B 75) n la sb [] la' sb' [t]
def MW (T : Nat → Int32) (L N p d : Nat) (FA FB : Mm → Option (Int32 × Mm)) (t : Bool) : Prop := ∀ (i la sb s : Nat) (ea fa : Int32) (A B : Mm), AtA T L N p i la ea fa A → AtB T L i d sb s ea fa B → la + 10 ≤ 2 * i → sb ≤ 4 * i → ∃ x A' B', FA A = some (x, A') ∧ FB B = some (x, B') ∧ FrA p la A A' ∧ FrB sb B B' ∧ ((x = 0 ∧ Fail A' B') ∨ (x = 1 ∧ MOk T L N p i d la sb s ea fa t A' B'))
theorem mark_ok {T : Nat → Int32} {L N p d H : Nat} {t : Bool} {FA FB : Mm → Option (Int32 × Mm)} (hr : EW T L N p d FA FB t H) (hH : H ≤ 60) : MW T L N p d FA (fun M => bd2 (FB M) mark) t := by
  intro i la sb s ea fa A B hA hB hl hs
  obtain ⟨x, A', B', c1, c2, c3, c4, c5⟩ := hr i la sb s ea fa A B hA hB hl hs
  have hi := hA.le
  rcases c5 with ⟨rfl, hf⟩ | ⟨rfl, i1, la1, sb1, n1, g1, g2, g3, g4, g5, g6, g7, g8⟩
  · exact ⟨0, A', B', c1, by show bd2 (FB B) mark = _; rw [c2, bd2_e]; rfl, c3, c4, Or.inl ⟨rfl, hf⟩⟩
  · have hi1 := g2.le
    have hp := hA.1.2.2.2
    obtain ⟨q1, q2⟩ := g3.put (by omega) 61
    refine ⟨1, A', puB sb1 61 B', c1, ?_, c3, c4.trans (puB_fr _ _ _) (by omega), Or.inr ⟨rfl, i1, la1, sb1, n1, g1, g2, q2, puB_at _ _ _, g4, g5, g6, g7, ?_⟩⟩
    · show bd2 (FB B) mark = _
      rw [c2, bd2_e, mark_1, q1, bd1_e]
    · exact (g8 [] (by show 0 + H ≤ 60; omega)).fr hp (FrA.refl p la1 A') (puB_fr sb1 61 B')
theorem sum1 (T : Nat → Int32) (L N p : Nat) {n d : Nat} (hd : d ≤ 8) (h : 7 * (9 - d) + 3 ≤ n) : MW T L N p d (fun M => f_P4 n 8 3 (nI d) M) (fun M => f_P11 n 8 69 1 M) false := by
  obtain ⟨m, rfl⟩ : ∃ m, n = m + 1 := ⟨n - 1, by omega⟩
  have e : (fun M => f_P11 (m + 1) 8 69 1 M) = fun M => bd2 (f_P11 (m + 1) 8 69 0 M) mark := funext fun M => sum_mark (RB := f_P11 m) M
  rw [e]
  exact mark_ok ((exp_all T L N p (m + 1) d hd).2.2.1 h) (by unfold V; omega)
theorem test1 (T : Nat → Int32) (L N p : Nat) {n d : Nat} (hd : d ≤ 8) (h : 7 * (9 - d) + 6 ≤ n) : MW T L N p d (fun M => f_P4 n 5 3 (nI d) M) (fun M => f_P11 n 5 69 1 M) true := by
  obtain ⟨m, rfl⟩ : ∃ m, n = m + 1 := ⟨n - 1, by omega⟩
  have e : (fun M => f_P11 (m + 1) 5 69 1 M) = fun M => bd2 (f_P11 (m + 1) 5 69 0 M) mark := funext fun M => test_mark (RB := f_P11 m) M
  rw [e]
  exact mark_ok ((exp_all T L N p (m + 1) d hd).2.2.2.2.2 h) (by unfold V; omega)
/-! a stretch of both codes with all its points -/
def Good (P : PS) (la sb la' sb' : Nat) (e : List Nat) (oA rA cB : Nat → Int32) : Prop := ∀ (oF rF cF : Nat → Int32) (len : Nat) (S : PS), (∀ j, la ≤ j → j < la' → oF j = oA j ∧ rF j = rA j) → (∀ j, sb ≤ j → j < sb' → cF j = cB j) → la' < len → len ≤ 800 → sb' < 4000 → (∀ a b f, P a b f → S a b f) → S la' sb' e → S la sb e ∧ ∀ a b f, P a b f → Lpt oF rF cF len S a b f ∧ f.length ≤ 8
def PO (P Q : PS) : PS := fun a b f => P a b f ∨ Q a b f
def P0 : PS := fun _ _ _ => False
def P1 (a0 b0 : Nat) (f0 : List Nat) : PS := fun a b f => a = a0 ∧ b = b0 ∧ f = f0
theorem Good.nil (la sb : Nat) (e : List Nat) (oA rA cB : Nat → Int32) : Good P0 la sb la sb e oA rA cB := fun _ _ _ _ _ _ _ _ _ _ _ h => ⟨h, fun _ _ _ x => x.elim⟩
theorem Good.app {P Q : PS} {la sb la1 sb1 la2 sb2 : Nat} {e : List Nat} {oA rA cB oB rB cC : Nat → Int32} (h : Good P la sb la1 sb1 e oA rA cB) (k : Good Q la1 sb1 la2 sb2 e oB rB cC) (h1 : la ≤ la1) (h2 : la1 ≤ la2) (h3 : sb ≤ sb1) (h4 : sb1 ≤ sb2) (h5 : ∀ j, la ≤ j → j < la1 → oB j = oA j ∧ rB j = rA j) (h6 : ∀ j, sb ≤ j → j < sb1 → cC j = cB j) : Good (PO P Q) la sb la2 sb2 e oB rB cC := by
  intro oF rF cF len S g1 g2 g3 g4 g5 g6 g7
  obtain ⟨k1, k2⟩ := k oF rF cF len S (fun j a b => g1 j (by omega) b) (fun j a b => g2 j (by omega) b) g3 g4 g5 (fun a b f x => g6 a b f (Or.inr x)) g7
  obtain ⟨m1, m2⟩ := h oF rF cF len S (fun j a b => ⟨(g1 j a (by omega)).1.trans (h5 j a b).1, (g1 j a (by omega)).2.trans (h5 j a b).2⟩) (fun j a b => (g2 j a (by omega)).trans (h6 j a b)) (by omega) g4 (by omega) (fun a b f x => g6 a b f (Or.inl x)) k1
  exact ⟨m1, fun a b f x => x.elim (m2 a b f) (k2 a b f)⟩
theorem Good.fr {P : PS} {p la sb la' sb' : Nat} {e : List Nat} {A1 A2 B1 B2 : Mm} (h : Good P la sb la' sb' e (A1 (p + 1)) (A1 (p + 2)) (B1 75)) (hp : p = 10 ∨ p = 16 ∨ p = 22) (k : FrA p la' A1 A2) (m : FrB sb' B1 B2) : Good P la sb la' sb' e (A2 (p + 1)) (A2 (p + 2)) (B2 75) := by
  intro oF rF cF len S g1 g2 g3 g4 g5 g6 g7
  refine h oF rF cF len S (fun j a b => ?_) (fun j a b => ?_) g3 g4 g5 g6 g7
  · rw [← k.1 (p + 1) j (by omega) (by omega) (by omega), ← k.1 (p + 2) j (by omega) (by omega) (by omega)]; exact g1 j a b
  · rw [← m 75 j (by omega) (by omega)]; exact g2 j a b
/-- a sentence, or a block, in both -/
def SOk (T : Nat → Int32) (L N p i d la sb : Nat) (e : List Nat) (A B : Mm) : Prop := ∃ i' la' sb' ea fa P, i < i' ∧ AtA T L N p i' la' ea fa A ∧ AtB T L i' d sb' e.length ea fa B ∧ la ≤ la' ∧ sb ≤ sb' ∧ la' + 2 * i ≤ la + 2 * i' ∧ sb' + 4 * i ≤ sb + 4 * i' ∧ Good P la sb la' sb' e (A (p + 1)) (A (p + 2)) (B 75)
def SPost (T : Nat → Int32) (L N p i d la sb : Nat) (e : List Nat) (A B : Mm) (x : Int32) (A' B' : Mm) : Prop := FrA p la A A' ∧ FrB sb B B' ∧ ((x = 0 ∧ Fail A' B') ∨ (x = 1 ∧ SOk T L N p i d la sb e A' B'))
theorem Seg.fin {oA rA cB oF rF cF : Nat → Int32} {n a b : Nat} {τ : List Bool} {a' b' : Nat} {τ' : List Bool} (h : Seg oA rA cB n a b τ a' b' τ') {la la' sb sb' : Nat} (g1 : ∀ j, la ≤ j → j < la' → oF j = oA j ∧ rF j = rA j) (g2 : ∀ j, sb ≤ j → j < sb' → cF j = cB j) (h1 : la ≤ a) (h2 : a' ≤ la') (h3 : sb ≤ b) (h4 : b' ≤ sb') : Seg oF rF cF n a b τ a' b' τ' :=
  h.congr (fun j x y => g1 j (by omega) (by omega)) (fun j x y => g2 j (by omega) (by omega))
