/-! needs 30 31 32 33 34 35 36 37 38 39 40 41 42 43 44 45 46 47 50 51 52 53 54 55 56 57 58 59 60 61 62 63 64 65 66 67 68 69 70 71 72 73 74 75 76 77 78 79 80 -/
/-! the start, and a step of the law in one memory -/
theorem fillC_4 : ∀ k, k < 12 → fillC 4 12 k = 4 := by decide
theorem rel_0 : Rel 0 M0 M0 := by
  refine ⟨0, 22, 0, M0 23, M0 24, M0 74, fun _ _ _ => False, ⟨⟨fun k hk => ⟨rfl, rfl, rfl, rfl, rfl⟩, ⟨rfl, rfl, rfl, rfl, rfl, rfl⟩, fun k hk => ⟨rfl, rfl⟩, fun k hk => ?_, ?_⟩, ⟨Or.inr (Or.inr rfl), rfl, rfl, by decide, rfl, rfl⟩, rfl, rfl, rfl, by decide, fun g hg => absurd hg (Nat.not_lt_zero _)⟩, fun _ _ _ h => h.elim, ⟨16, rfl, Or.inr (Or.inl rfl), by decide⟩, ?_, ⟨0, by decide, rfl, rfl, fun k hk => absurd hk (Nat.not_lt_zero _)⟩, ⟨0, by decide, rfl, rfl, fun k hk => absurd hk (Nat.not_lt_zero _)⟩, fun k hk => ?_, rfl⟩
  · show (0 ≤ (0 : Int32).toInt ∧ (0 : Int32).toInt ≤ 99) ∧ ((0 : Int32) = 0 ∨ (0 : Int32) = 1) ∧ ((0 : Int32) = 0 → (0 : Int32) = 0)
    exact ⟨by decide, Or.inl rfl, fun _ => rfl⟩
  · show 0 ≤ (0 : Int32).toInt
    decide
  · show (0 : Int32).toInt ≤ 0
    decide
  · show (0 ≤ (0 : Int32).toInt ∧ (0 : Int32).toInt ≤ 9) ∧ (0 ≤ (fillC 4 12 k).toInt ∧ (fillC 4 12 k).toInt ≤ 9)
    rw [fillC_4 k hk]
    exact ⟨by decide, by decide⟩
theorem Rel.mid {H : Nat} {M A' : Mm} (hR : Rel H M M) (h : CF M A') : Rel H M A' := hR.congr (fun _ _ _ => rfl) (fun r h1 _ => h r (by omega)) (fun c _ => by rw [h 69 (Nat.le_refl _)])
theorem Rel.fin {H : Nat} {A B : Mm} (hR : Rel H A B) (h : RF A B) : Rel H B B := hR.congr (fun r h1 _ => h r (by omega)) (fun _ _ _ => rfl) (fun _ _ => rfl)
theorem op_step {H H' : Nat} {fA fB : Mm → Option (Int32 × Mm)} (h : OpR H H' fA fB) {M : Mm} (hR : Rel H M M) : ∃ k M1 v M2, fA M = some (k, M1) ∧ fB M1 = some (v, M2) ∧ M2 69 0 = k ∧ (k = 0 → M2 28 0 = v) ∧ Rel H' M2 M2 := by
  obtain ⟨k, A', v, B', c1, -, -, -, -, c6, -⟩ := h M M hR
  obtain ⟨k2, A2, v2, B2, d1, d2, d3, d4, d5, d6, d7⟩ := h M A' (hR.mid c6)
  rw [c1] at d1
  cases d1
  exact ⟨k, A', v2, B2, c1, d2, d3, fun e => by rw [d7 28 (by decide)]; exact d4 e, d5.fin d7⟩
theorem teach_step {H : Nat} {M : Mm} (hR : Rel H M M) : ∃ x M1 M2, f_X9_teach 0 M = some (x, M1) ∧ f_X11_teach 69 M1 = some (x, M2) ∧ Rel H M2 M2 := by
  obtain ⟨x, A', B', c1, -, -, c4, -⟩ := teach_ok hR
  obtain ⟨x2, A2, B2, d1, d2, d3, d4, d5⟩ := teach_ok (hR.mid c4)
  rw [c1] at d1
  cases d1
  exact ⟨x, A', B2, c1, d2, d3.fin d5⟩
theorem draw_step {H : Nat} {M : Mm} (hR : Rel H M M) : ∃ x M1 M2, f_X9_draw 0 M = some (x, M1) ∧ f_X11_draw 69 M1 = some (x, M2) ∧ Rel H M2 M2 := by
  obtain ⟨x, A', B', c1, -, -, c4, -⟩ := draw_ok hR
  obtain ⟨x2, A2, B2, d1, d2, d3, d4, d5⟩ := draw_ok (hR.mid c4)
  rw [c1] at d1
  cases d1
  exact ⟨x, A', B2, c1, d2, d3.fin d5⟩
theorem errorAt_step {H : Nat} {M : Mm} (hR : Rel H M M) : ∃ M2, f_X11_errorAt 69 M = some (f_X9_errorAt 0 M, M2) ∧ Rel H M2 M2 := by
  obtain ⟨c1, c2⟩ := errorAt_ok hR
  exact ⟨_, c1, c2.fin (RF.wr M (by decide))⟩
theorem share_step {H : Nat} {M : Mm} (hR : Rel H M M) : ∃ x M2, f_X9_share 0 M = some x ∧ f_X11_share 69 M = some (x, M2) ∧ Rel H M2 M2 := by
  obtain ⟨x, c1, c2, c3⟩ := share_ok hR
  exact ⟨x, _, c1, c2, c3.fin (RF.wr M (by decide))⟩
theorem digest_step {H : Nat} {M : Mm} (hR : Rel H M M) : ∃ x M2, f_X9_digest 0 M = some x ∧ f_X11_digest 69 M = some (x, M2) ∧ Rel H M2 M2 := by
  obtain ⟨x, B', c1, c2, c3, c4⟩ := digest_ok hR
  exact ⟨x, B', c1, c2, c3.fin c4⟩
theorem opr_mono {H H' H2 : Nat} {fA fB : Mm → Option (Int32 × Mm)} (h : OpR H H' fA fB) (hh : H' ≤ H2) : OpR H H2 fA fB := by
  intro A B hR
  obtain ⟨k, A', v, B', c1, c2, c3, c4, c5, c6, c7⟩ := h A B hR
  exact ⟨k, A', v, B', c1, c2, c3, c4, c5.mono hh, c6, c7⟩
