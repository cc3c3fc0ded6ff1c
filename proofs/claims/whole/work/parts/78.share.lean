/-! needs 30 31 32 33 34 35 36 37 38 39 40 41 42 43 44 45 46 47 50 70 72 73 74 75 -/
/-! share in both: a quotient of two ints, the lower not 0, is a number -/
theorem asm64 (s : Bool) (e t : Nat) : FP.Core.assemble FP.Core.b64 s e t = (s.toNat * 2048 + e) * 4503599627370496 + t := rfl
theorem asm_lt {s : Bool} {e t : Nat} (he : e < 2048) (ht : t < 4503599627370496) : FP.Core.assemble FP.Core.b64 s e t < 18446744073709551616 := by
  rw [asm64]
  have : s.toNat ≤ 1 := by cases s <;> decide
  omega
theorem dec_asm {s : Bool} {e t : Nat} (he : e < 2047) (ht : t < 4503599627370496) : ∃ s' c q, FP.Core.decode FP.Core.b64 (FP.Core.assemble FP.Core.b64 s e t) = .fin s' c q ∧ (e ≠ 0 → c ≠ 0) := by
  have hE : FP.Core.fieldE FP.Core.b64 (FP.Core.assemble FP.Core.b64 s e t) = e := by
    rw [asm64]
    show ((s.toNat * 2048 + e) * 4503599627370496 + t) / 4503599627370496 % 2048 = e
    omega
  unfold FP.Core.decode
  rw [hE, if_neg (show ¬ e = FP.Core.b64.exps - 1 from fun x => by rw [show FP.Core.b64.exps - 1 = 2047 from rfl] at x; omega)]
  by_cases h0 : e = 0
  · rw [if_pos h0]; exact ⟨_, _, _, rfl, fun h => absurd h0 h⟩
  · rw [if_neg h0]
    refine ⟨_, _, _, rfl, fun _ h => ?_⟩
    rw [show FP.Core.b64.tails = 4503599627370496 from rfl] at h
    omega
theorem lead1 {n : Nat} (h : n ≠ 0) : FP.Core.leading n 1 = (n.log2 : Int) := by
  unfold FP.Core.leading
  have h1 : Nat.log2 1 = 0 := by decide
  rw [h1]
  have hk : ((n.log2 : Nat) : Int) - ((0 : Nat) : Int) = ((n.log2 : Nat) : Int) := by omega
  rw [hk]
  have h2 : (-((n.log2 : Nat) : Int)).toNat = 0 := by omega
  have h3 : (((n.log2 : Nat) : Int)).toNat = n.log2 := by omega
  show (if 1 * 2 ^ (((n.log2 : Nat) : Int)).toNat ≤ n * 2 ^ (-((n.log2 : Nat) : Int)).toNat then ((n.log2 : Nat) : Int) else ((n.log2 : Nat) : Int) - 1) = _
  rw [h2, h3, Nat.pow_zero, Nat.mul_one, Nat.one_mul, if_pos (Nat.log2_self_le h)]
theorem near1 (m : Nat) : FP.Core.nearest m 1 = m := by
  unfold FP.Core.nearest
  rw [if_pos (by rw [Nat.mod_one]; decide), Nat.div_one]
theorem int_fin (v : Int32) : ∃ s c q, FP.Core.decode FP.Core.b64 (FP.i2d v).toNat = .fin s c q ∧ (v ≠ 0 → c ≠ 0) := by
  show ∃ s c q, FP.Core.decode FP.Core.b64 (UInt64.ofNat (FP.Core.encode FP.Core.b64 (FP.Core.roundRatio FP.Core.b64 (decide (v.toInt < 0)) v.toInt.natAbs 1 0))).toNat = .fin s c q ∧ (v ≠ 0 → c ≠ 0)
  have hn : v.toInt.natAbs ≤ 2147483648 := by have := i_rng v; omega
  have hv : v ≠ 0 → v.toInt.natAbs ≠ 0 := fun h e => h (Int32.toInt_inj.mp (by rw [show (0 : Int32).toInt = 0 from rfl]; omega))
  generalize decide (v.toInt < 0) = s
  generalize v.toInt.natAbs = n at hn hv
  unfold FP.Core.roundRatio
  by_cases h0 : n = 0
  · rw [if_pos h0]
    have e : FP.Core.encode FP.Core.b64 (.fin s 0 FP.Core.b64.qmin) = FP.Core.assemble FP.Core.b64 s 0 0 := by
      show (if 0 < FP.Core.b64.tails then FP.Core.assemble FP.Core.b64 s 0 0 else FP.Core.assemble FP.Core.b64 s ((FP.Core.b64.qmin - FP.Core.b64.qmin).toNat + 1) (0 - FP.Core.b64.tails)) = _
      rw [if_pos (by decide)]
    rw [e, UInt64.toNat_ofNat_of_lt' (asm_lt (by decide) (by decide))]
    obtain ⟨s', c, q, h1, -⟩ := dec_asm (s := s) (e := 0) (t := 0) (by decide) (by decide)
    exact ⟨s', c, q, h1, fun h => absurd h0 (hv h)⟩
  · rw [if_neg h0]
    have hL1 : 2 ^ n.log2 ≤ n := Nat.log2_self_le h0
    have hL2 : n < 2 ^ (n.log2 + 1) := Nat.lt_log2_self
    have hL3 : n.log2 < 32 := by
      refine Nat.lt_of_not_le fun h => ?_
      have : 2 ^ 32 ≤ 2 ^ n.log2 := Nat.pow_le_pow_right (by decide) h
      omega
    have hq : FP.Core.quantum FP.Core.b64 n 1 0 = (n.log2 : Int) - 52 := by
      unfold FP.Core.quantum
      rw [lead1 h0, show FP.Core.b64.qmin = -1074 from rfl, show ((FP.Core.b64.p : Int) - 1) = 52 from rfl]
      omega
    rw [hq]
    generalize hLd : n.log2 = L at *
    unfold FP.Core.roundAt FP.Core.unitsNum FP.Core.unitsDen
    rw [show (0 - ((L : Int) - 52)).toNat = 52 - L by omega, show (((L : Int) - 52) - 0).toNat = L - 52 by omega]
    by_cases hL : L ≤ 52
    · rw [show L - 52 = 0 by omega, Nat.pow_zero, Nat.mul_one, near1]
      have m1 : 4503599627370496 ≤ n * 2 ^ (52 - L) := by
        have : 2 ^ L * 2 ^ (52 - L) ≤ n * 2 ^ (52 - L) := Nat.mul_le_mul_right _ hL1
        rw [← Nat.pow_add, show L + (52 - L) = 52 by omega] at this
        exact this
      have m2 : n * 2 ^ (52 - L) < 9007199254740992 := by
        have : n * 2 ^ (52 - L) < 2 ^ (L + 1) * 2 ^ (52 - L) := Nat.mul_lt_mul_of_pos_right hL2 (Nat.two_pow_pos _)
        rw [← Nat.pow_add, show L + 1 + (52 - L) = 53 by omega] at this
        exact this
      generalize n * 2 ^ (52 - L) = m at m1 m2
      unfold FP.Core.settle
      rw [if_pos (show m < 2 ^ FP.Core.b64.p from m2)]
      unfold FP.Core.bound
      rw [if_pos (show (L : Int) - 52 ≤ FP.Core.b64.qmax by rw [show FP.Core.b64.qmax = 971 from rfl]; omega)]
      have e : FP.Core.encode FP.Core.b64 (.fin s m ((L : Int) - 52)) = FP.Core.assemble FP.Core.b64 s (L + 1023) (m - 4503599627370496) := by
        show (if m < FP.Core.b64.tails then FP.Core.assemble FP.Core.b64 s 0 m else FP.Core.assemble FP.Core.b64 s ((((L : Int) - 52) - FP.Core.b64.qmin).toNat + 1) (m - FP.Core.b64.tails)) = _
        rw [if_neg (show ¬ m < FP.Core.b64.tails from fun x => by rw [show FP.Core.b64.tails = 4503599627370496 from rfl] at x; omega), show FP.Core.b64.qmin = -1074 from rfl, show FP.Core.b64.tails = 4503599627370496 from rfl, show (((L : Int) - 52) - (-1074)).toNat + 1 = L + 1023 by omega]
      rw [e, UInt64.toNat_ofNat_of_lt' (asm_lt (by omega) (by omega))]
      obtain ⟨s', c, q, h1, h2⟩ := dec_asm (s := s) (e := L + 1023) (t := m - 4503599627370496) (by omega) (by omega)
      exact ⟨s', c, q, h1, fun _ => h2 (by omega)⟩
    · exact absurd hL3 (by omega)
/-- what rounding writes is no NaN -/
theorem rr_bits (s : Bool) (num den : Nat) (e : Int) : FP.Core.encode FP.Core.b64 (FP.Core.roundRatio FP.Core.b64 s num den e) < 18446744073709551616 ∧ FP.Core.encode FP.Core.b64 (FP.Core.roundRatio FP.Core.b64 s num den e) % 9223372036854775808 ≤ 9218868437227405312 := by
  have asmb : ∀ (E t : Nat), (E < 2047 ∧ t < 4503599627370496) ∨ (E = 2047 ∧ t = 0) → FP.Core.assemble FP.Core.b64 s E t < 18446744073709551616 ∧ FP.Core.assemble FP.Core.b64 s E t % 9223372036854775808 ≤ 9218868437227405312 := by
    intro E t h
    rw [asm64]
    have : s.toNat ≤ 1 := by cases s <;> decide
    omega
  have finb : ∀ (c : Nat) (q : Int), c < 9007199254740992 → -1074 ≤ q → q ≤ 971 → FP.Core.encode FP.Core.b64 (.fin s c q) < 18446744073709551616 ∧ FP.Core.encode FP.Core.b64 (.fin s c q) % 9223372036854775808 ≤ 9218868437227405312 := by
    intro c q h1 h2 h3
    show (if c < FP.Core.b64.tails then FP.Core.assemble FP.Core.b64 s 0 c else FP.Core.assemble FP.Core.b64 s ((q - FP.Core.b64.qmin).toNat + 1) (c - FP.Core.b64.tails)) < _ ∧ (if c < FP.Core.b64.tails then FP.Core.assemble FP.Core.b64 s 0 c else FP.Core.assemble FP.Core.b64 s ((q - FP.Core.b64.qmin).toNat + 1) (c - FP.Core.b64.tails)) % _ ≤ _
    rw [show FP.Core.b64.tails = 4503599627370496 from rfl, show FP.Core.b64.qmin = -1074 from rfl]
    by_cases hc : c < 4503599627370496
    · rw [if_pos hc]; exact asmb 0 c (Or.inl ⟨by decide, hc⟩)
    · rw [if_neg hc]; exact asmb _ _ (Or.inl ⟨by omega, by omega⟩)
  have infb : FP.Core.encode FP.Core.b64 (.inf s) < 18446744073709551616 ∧ FP.Core.encode FP.Core.b64 (.inf s) % 9223372036854775808 ≤ 9218868437227405312 := asmb 2047 0 (Or.inr ⟨rfl, rfl⟩)
  have boundb : ∀ (c : Nat) (q : Int), c < 9007199254740992 → -1074 ≤ q → FP.Core.encode FP.Core.b64 (FP.Core.bound FP.Core.b64 s c q) < 18446744073709551616 ∧ FP.Core.encode FP.Core.b64 (FP.Core.bound FP.Core.b64 s c q) % 9223372036854775808 ≤ 9218868437227405312 := by
    intro c q h1 h2
    unfold FP.Core.bound
    by_cases h : q ≤ FP.Core.b64.qmax
    · rw [if_pos h]; rw [show FP.Core.b64.qmax = 971 from rfl] at h; exact finb c q h1 h2 h
    · rw [if_neg h]; exact infb
  unfold FP.Core.roundRatio
  by_cases h0 : num = 0
  · rw [if_pos h0]; exact finb 0 _ (by decide) (by decide) (by decide)
  · rw [if_neg h0]
    have hq : -1074 ≤ FP.Core.quantum FP.Core.b64 num den e := by
      unfold FP.Core.quantum
      rw [show FP.Core.b64.qmin = -1074 from rfl]
      exact Int.le_max_left _ _
    generalize FP.Core.quantum FP.Core.b64 num den e = q at hq
    unfold FP.Core.roundAt
    generalize FP.Core.nearest (FP.Core.unitsNum num e q) (FP.Core.unitsDen den e q) = c
    unfold FP.Core.settle
    by_cases hc : c < 2 ^ FP.Core.b64.p
    · rw [if_pos hc]; exact boundb c q hc hq
    · rw [if_neg hc]; exact boundb _ _ (by decide) (by omega)
theorem div_num (a b : Int32) (h : b ≠ 0) : FP.ddiv (FP.i2d a) (FP.i2d b) &&& 0x7fffffffffffffff ≤ 0x7ff0000000000000 := by
  obtain ⟨s, c, q, h1, -⟩ := int_fin a
  obtain ⟨t, d, r, h2, h3⟩ := int_fin b
  have e : FP.ddiv (FP.i2d a) (FP.i2d b) = UInt64.ofNat (FP.Core.encode FP.Core.b64 (FP.Core.roundRatio FP.Core.b64 (s != t) c d (q - r))) := by
    show UInt64.ofNat (FP.Core.encode FP.Core.b64 (FP.Core.quotient FP.Core.b64 (FP.Core.decode FP.Core.b64 (FP.i2d a).toNat) (FP.Core.decode FP.Core.b64 (FP.i2d b).toNat))) = _
    rw [h1, h2]
    show UInt64.ofNat (FP.Core.encode FP.Core.b64 (if d = 0 then (if c = 0 then .nan else .inf (s != t)) else FP.Core.roundRatio FP.Core.b64 (s != t) c d (q - r))) = _
    rw [if_neg (h3 h)]
  obtain ⟨b1, b2⟩ := rr_bits (s != t) c d (q - r)
  rw [e, UInt64.le_iff_toNat_le, UInt64.toNat_and, UInt64.toNat_ofNat_of_lt' b1]
  show _ &&& (2 ^ 63 - 1) ≤ 9218868437227405312
  rw [Nat.and_two_pow_sub_one_eq_mod]
  exact b2
theorem share_ok {H : Nat} {A B : Mm} (h : Rel H A B) : ∃ x, f_X9_share 0 A = some x ∧ f_X11_share 69 B = some (x, wr B 69 0 0) ∧ Rel H A (wr B 69 0 0) := by
  have hS : SimS 29 83 A B := by obtain ⟨_, _, _, _, _, _, _, ⟨r0, _⟩, _⟩ := h; exact r0.2.1
  have e1 : wr B 69 0 0 (69 + 14) 5 = A 29 13 := (wr_r (by decide)).trans hS.2.2.2.2.2.symm
  have e2 : wr B 69 0 0 (69 + 14) 2 = A 29 10 := (wr_r (by decide)).trans hS.2.2.1.symm
  by_cases z : A 29 13 = 0
  · refine ⟨FP.dconst0, ?_, ?_, h.b0 0⟩
    · rw [f_X9_share, show (0 + 29 : Nat) = 29 from rfl, if_pos z]
    · rw [f_X11_share, lz_e, e1, if_pos z]
  · refine ⟨FP.ddiv (FP.i2d (A 29 10)) (FP.i2d (A 29 13)), ?_, ?_, h.b0 0⟩
    · rw [f_X9_share, show (0 + 29 : Nat) = 29 from rfl, if_neg z, if_pos (div_num _ _ z)]
    · rw [f_X11_share, lz_e, e1, e2, if_neg z, if_pos (div_num _ _ z)]
