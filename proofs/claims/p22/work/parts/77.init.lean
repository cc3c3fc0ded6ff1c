/-! needs 30 31 32 33 34 35 36 37 38 39 40 41 42 43 44 45 46 47 50 51 52 53 54 55 56 57 58 59 60 61 62 63 64 65 66 67 68 69 70 71 72 73 74 75 76 77 78 79 80 -/
/-! the start, and a step of the law in one memory -/
theorem fillC_4 : ∀ k, k < 12 → fillC 4 12 k = 4 := by decide
theorem rel_0 : Rel 0 M0 M0 := by
  refine ⟨0, 22, 0, M0 23, M0 24, M0 74, fun _ _ _ => False, ⟨⟨fun k hk => ⟨rfl, rfl, rfl, rfl, rfl⟩, ⟨rfl, rfl, rfl, rfl, rfl, rfl⟩, fun k hk => ⟨rfl, rfl⟩, fun k hk => ?_, ?_⟩, ⟨Or.inr (Or.inr rfl), rfl, rfl, by decide, rfl, rfl⟩, rfl, rfl, rfl, by decide, fun g hg => absurd hg (Nat.not_lt_zero _)⟩, fun _ _ _ h => h.elim, ⟨16, rfl, Or.inr (Or.inl rfl), by decide⟩, ?_, ⟨0, by decide, rfl, rfl, fun k hk => absurd hk (Nat.not_lt_zero _)⟩, ⟨0, by decide, rfl, rfl, fun k hk => absurd hk (Nat.not_lt_zero _)⟩, fun k hk => ?_, rfl⟩
  · show (0 ≤ (0 : Int32).toInt ∧ (0 : Int32).toInt ≤ 99) ∧ ((0 : Int32) = 0 ∨ (0 : Int32) = 1) ∧ ((0 : Int32) = 0 → (0 : Int32) = 0)
    exact ⟨by decide, Or.inl rfl, fun _ => rfl⟩
  · show 0 ≤ (0 : Int32).toInt
    decide
  · show (0 : Int32).toInt ≤ 0
    decide
  · show (0 ≤ (0 : Int32).toInt ∧ (0 : Int32).toInt ≤ 9) ∧ (0 ≤ (fillC 4 12 k).toInt ∧ (fillC 4 12 k).toInt ≤ 9)
    rw [fillC_4 k hk]
    exact ⟨by decide, by decide⟩
