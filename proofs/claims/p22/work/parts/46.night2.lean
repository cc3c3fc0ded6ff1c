/-! needs 30 31 32 33 34 35 36 37 38 39 40 41 42 43 44 45 -/
def NiA (b : Nat) (A A' : Mm) : Prop := (∀ i, i ≠ b → i ≠ b + 1 → i ≠ b + 2 → i ≠ b + 3 → i ≠ b + 4 → i ≠ b + 5 → i ≠ b + 6 → A' i = A i) ∧ ∀ j, j ≠ 8 → j ≠ 9 → j ≠ 12 → A' b j = A b j
def NiB (s : Nat) (B B' : Mm) : Prop := (∀ i, i ≠ 82 → i ≠ s → i ≠ s + 1 → i ≠ s + 2 → i ≠ s + 3 → i ≠ s + 4 → i ≠ s + 5 → B' i = B i) ∧ ∀ j, j ≠ 0 → j ≠ 1 → j ≠ 4 → B' s j = B s j
theorem dQ_congr {pe wa pe' wa' : Nat → Int32} {mo : Int32} {c : Nat} (h1 : pe' c = pe c) (h2 : wa' c = wa c) : dQ pe' wa' mo c = dQ pe wa mo c := by unfold dQ; rw [h1, h2]
theorem night_sim {b s : Nat} {A B : Mm} (hb : b = 29 ∨ b = 47) (hs : Ws s) (h : Bgs b s A B) (hd : (A b 8).toInt < 2147483646) :
    ∃ A2 A3 B2, f_X1_dryStacks b A = some A2 ∧ f_X1_moveWater b A2 = some A3 ∧ f_X11_night_L29 69 s (B 72 (ix (B s 0 - B s 0 / (12 : Int32) * (12 : Int32)))) (B 73 (ix (B s 0 - B s 0 / (12 : Int32) * (12 : Int32)))) FU 0 B = some B2 ∧ Bgs b s A3 B2 ∧ NiA b A A3 ∧ NiB s B B2 ∧ A3 b 8 = A b 8 ∧ A3 b 9 = A b 9 ∧ A3 (b + 2) = A (b + 2) ∧ B2 82 = B 82 := by
  obtain ⟨hC, ⟨s0, s1, s2, s3, s4, s5⟩, hW, hI, hday⟩ := h
  have hs' := hs
  unfold Ws at hs'
  have hdd := day_in hday
  obtain ⟨w1, w2⟩ := hW _ (ix_lt hdd)
  obtain ⟨mF, hF⟩ := FU_gt (n := 64) (by omega)
  obtain ⟨A2, a1, a2, a3, a4, a5, a6⟩ := dry_run (b := b) 64 0 FU A (by omega) (by unfold FU; omega) hday rfl rfl
  have r8 : A2 b 8 = A b 8 := a5 8 (by decide)
  have r7 : A2 (b + 7) = A (b + 7) := a4 _ (by omega) (by omega) (by omega) (by omega) (by omega)
  have r88 : A2 (b + 8) = A (b + 8) := a4 _ (by omega) (by omega) (by omega) (by omega) (by omega)
  have r3 : A2 (b + 3) = A (b + 3) := a4 _ (by omega) (by omega) (by omega) (by omega) (by omega)
  have r1 : A2 (b + 1) = A (b + 1) := a4 _ (by omega) (by omega) (by omega) (by omega) (by omega)
  obtain ⟨A3, c1, c2, c3, c4⟩ := water_run (b := b) (mo := A (b + 7) (ix (A b 8 - A b 8 / (12 : Int32) * (12 : Int32))) / 2 - A (b + 8) (ix (A b 8 - A b 8 / (12 : Int32) * (12 : Int32))) / 4) 64 0 FU A2 (by omega) (by unfold FU; omega)
  rw [s0] at w1 w2
  obtain ⟨B2, d1, ⟨e1, e2, e3, e4, e5⟩, d3, d4⟩ := night_run (s := s) hs 64 0 FU B (by omega) (by unfold FU; omega) (by rw [← s0]; exact hday) rfl rfl (fun c _ hc => by rw [← (hC c hc).2.2.2.2]; exact (hI c hc).2.1)
  have f1 : f_X1_dryStacks b A = some A2 := by
    rw [f_X1_dryStacks]
    rw [show ((0 : Int32) = nI 0) from rfl, a1, bd1_e]
  have f2 : f_X1_moveWater b A2 = some A3 := by
    rw [f_X1_moveWater, f_X1_rainOfDay, f_X1_sunOfDay, r8, r7, r88, if_pos hdd, if_pos hdd, lz_e, lz_e, bd1_e, bd1_e, lz_e]
    rw [show ((0 : Int32) = nI 0) from rfl, c1, bd1_e]
  -- what stands in the cells then
  have rows : ∀ c, c < 64 → dL (A (b + 4)) (A (b + 5)) (A (b + 6)) (A (b + 7) (ix (A b 8 - A b 8 / (12 : Int32) * (12 : Int32)))) (A (b + 8) (ix (A b 8 - A b 8 / (12 : Int32) * (12 : Int32)))) c = dL (B (s + 3)) (B (s + 4)) (B (s + 5)) (B 72 (ix (B s 0 - B s 0 / (12 : Int32) * (12 : Int32)))) (B 73 (ix (B s 0 - B s 0 / (12 : Int32) * (12 : Int32)))) c ∧ dW (A (b + 4)) (A (b + 5)) (A (b + 6)) (A (b + 7) (ix (A b 8 - A b 8 / (12 : Int32) * (12 : Int32)))) (A (b + 8) (ix (A b 8 - A b 8 / (12 : Int32) * (12 : Int32)))) c = dW (B (s + 3)) (B (s + 4)) (B (s + 5)) (B 72 (ix (B s 0 - B s 0 / (12 : Int32) * (12 : Int32)))) (B 73 (ix (B s 0 - B s 0 / (12 : Int32) * (12 : Int32)))) c ∧ dT (A (b + 4)) (A (b + 6)) c = dT (B (s + 3)) (B (s + 5)) c := by
    intro c hc
    obtain ⟨x1, x2, x3, x4, x5⟩ := hC c hc
    rw [s0, w1, w2]
    exact ⟨dL_congr x3 x4 x5, dW_congr x3 x4 x5, dT_congr x3 x5⟩
  have g4 : ∀ i, i ≠ b + 3 → A3 i = A2 i := c4
  refine ⟨A2, A3, B2, f1, f2, ?_, ⟨?_, ?_, ?_, ?_, ?_⟩, ⟨?_, ?_⟩, ⟨?_, ?_⟩, ?_, ?_, ?_, ?_⟩
  · rw [show ((0 : Int32) = nI 0) from rfl]; exact d1
  · intro c hc
    obtain ⟨x1, x2, x3, x4, x5⟩ := hC c hc
    obtain ⟨y1, y2, y3⟩ := rows c hc
    obtain ⟨p1, p2, p3⟩ := a2 c (by omega) (by omega)
    obtain ⟨q1, q2, q3⟩ := e1 c (by omega) (by omega)
    refine ⟨?_, ?_, ?_, ?_, ?_⟩
    · rw [g4 (b + 1) (by omega), r1, e3 (s + 1) (by omega) (by omega) (by omega) (by omega) (by omega)]; exact x1
    · rw [c2 c (by omega) hc, d3 c (by omega) hc, dQ_same, r1, r3, s0, w1, w2]
      exact dQ_congr x1 x2
    · rw [g4 (b + 4) (by omega), p1, q1, y1, x3]
    · rw [g4 (b + 5) (by omega), p2, q2, y2]
    · rw [g4 (b + 6) (by omega), p3, q3, y3]
  · refine ⟨?_, ?_, ?_, ?_, ?_, ?_⟩
    · rw [g4 b (by omega), a5 8 (by decide), e4 0 (by decide)]; exact s0
    · rw [g4 b (by omega), a5 9 (by decide), e4 1 (by decide)]; exact s1
    · rw [g4 b (by omega), a5 10 (by decide), e4 2 (by decide)]; exact s2
    · rw [g4 b (by omega), a5 11 (by decide), e4 3 (by decide)]; exact s3
    · rw [g4 b (by omega), a6, e5, s4]
      exact congrArg (fun z => B s 4 + z) (sumL_congr 64 0 (fun c _ hc => (rows c (by omega)).1))
    · rw [g4 b (by omega), a5 13 (by decide), e4 5 (by decide)]; exact s5
  · intro k hk
    rw [g4 (b + 7) (by omega), g4 (b + 8) (by omega), r7, r88, e3 72 (by omega) (by omega) (by omega) (by omega) (by omega), e3 73 (by omega) (by omega) (by omega) (by omega) (by omega)]
    exact hW k hk
  · intro c hc
    obtain ⟨i1, i2, i3⟩ := hI c hc
    obtain ⟨p1, p2, p3⟩ := a2 c (by omega) (by omega)
    rw [g4 (b + 4) (by omega), g4 (b + 5) (by omega), g4 (b + 6) (by omega), p1, p2, p3]
    unfold dL dT
    by_cases hz : A (b + 4) c ≤ 0
    · rw [if_pos hz, if_pos hz, show A (b + 4) c - (0 : Int32) = A (b + 4) c by simp]
      refine ⟨i1, i2, fun h => ?_⟩
      unfold dW
      rw [if_pos hz]; exact i3 h
    · rw [if_neg hz, if_neg hz]
      have hp : 0 < (A (b + 4) c).toInt := by rw [i_le] at hz; exact Int.not_le.mp hz
      have e10 : (A (b + 4) c / (10 : Int32)).toInt = (A (b + 4) c).toInt / 10 := i_div (by omega) (by decide)
      have e0 : ((0 : Int32)).toInt = 0 := rfl
      refine ⟨?_, Or.inl rfl, fun h => ?_⟩
      · split
        · rw [i_sub (by rw [e10]; omega) (by rw [e10]; omega), e10]; omega
        · rw [i_sub (by rw [e0]; omega) (by rw [e0]; omega), e0]; omega
      · exfalso
        rw [i_eq, e0] at h
        revert h
        split
        · rw [i_sub (by rw [e10]; omega) (by rw [e10]; omega), e10]; omega
        · rw [i_sub (by rw [e0]; omega) (by rw [e0]; omega), e0]; omega
  · rw [g4 b (by omega), r8]; exact hday
  · intro i i0 i1 i2 i3 i4 i5 i6
    rw [g4 i i3, a4 i i0 i0 i4 i5 i6]
  · intro j j0 j1 j2
    rw [g4 b (by omega), a5 j j2]
  · intro i _ i0 i1 i2 i3 i4 i5
    exact e3 i i0 i2 i3 i4 i5
  · intro j j0 j1 j2
    exact e4 j j2
  · rw [g4 b (by omega), r8]
  · rw [g4 b (by omega), a5 9 (by decide)]
  · rw [g4 (b + 2) (by omega), a4 _ (by omega) (by omega) (by omega) (by omega) (by omega)]
  · exact e3 82 (by omega) (by omega) (by omega) (by omega) (by omega)
theorem rise_sim {b s : Nat} {A B : Mm} (hb : b = 29 ∨ b = 47) (hs : Ws s) (h : Bgs b s A B) :
    ∃ A' B', f_X1_rise b A = some A' ∧ f_X11_rise 69 s B = some B' ∧ Bgs b s A' B' ∧ NiA b A A' ∧ NiB s B B' ∧ A' b = A b ∧ B' s = B s := by
  obtain ⟨hC, hSS, hW, hI, hday⟩ := h
  have hs' := hs
  unfold Ws at hs'
  have x64 : ix (64 : Int32) = 64 := rfl
  obtain ⟨A', a1, a2, a3, a4⟩ := rise_A (b := b) 64 0 FU (wrow A (b + 2) (va_cpy (A (b + 1)) (A (b + 2)) 0 0 64)) (by omega) (by unfold FU; omega)
  obtain ⟨B', b1, b2, b3, b4⟩ := rise_B hs 63 1 FU (wrow B 82 (va_cpy (B (s + 1)) (B 82) 0 0 64)) (by omega) (by omega) (by unfold FU; omega)
  rw [wrow_at, wrow_r (show b + 1 ≠ b + 2 by omega), wrow_r (show b + 3 ≠ b + 2 by omega)] at a2
  rw [wrow_at, wrow_r (show s + 1 ≠ 82 by omega), wrow_r (show s + 2 ≠ 82 by omega)] at b2
  rw [wrow_r (show b + 1 ≠ b + 2 by omega)] at a3
  rw [wrow_r (show s + 1 ≠ 82 by omega)] at b3
  have dA : ∀ i, i ≠ b + 1 → i ≠ b + 2 → A' i = A i := by intro i h1 h2; rw [a4 i h1, wrow_r h2]
  have dB : ∀ i, i ≠ s + 1 → i ≠ 82 → B' i = B i := by intro i h1 h2; rw [b4 i h1, wrow_r h2]
  have hP : ∀ c, c < 64 → va_cpy (A (b + 1)) (A (b + 2)) 0 0 64 c = va_cpy (B (s + 1)) (B 82) 0 0 64 c := by
    intro c hc
    rw [cpy_lt hc, cpy_lt hc]; exact (hC c hc).1
  refine ⟨A', B', ?_, ?_, ⟨?_, ?_, ?_, ?_, ?_⟩, ⟨?_, ?_⟩, ⟨?_, ?_⟩, dA b (by omega) (by omega), dB s (by omega) (by omega)⟩
  · rw [f_X1_rise, if_pos (by decide), x64, lz_e, show ((0 : Int32) = nI 0) from rfl, a1, bd1_e]
  · rw [f_X11_rise, if_pos (by decide), x64, lz_e, show ((1 : Int32) = nI 1) from rfl]
    show bd1 (f_X11_rise_L17 69 s FU (nI 1) (wrow B 82 (va_cpy (B (s + 1)) (B 82) 0 0 64))) _ = _
    rw [b1, bd1_e]
  · intro c hc
    obtain ⟨x1, x2, x3, x4, x5⟩ := hC c hc
    refine ⟨?_, ?_, ?_, ?_, ?_⟩
    · rw [a2 c (by omega) hc, inc_congr hc hP x2, x1]
      by_cases z : c = 0
      · subst z
        rw [b3 0 (by omega)]
        unfold inc
        rw [if_pos rfl, Int32.add_zero]
      · rw [b2 c (by omega) hc]
    · rw [dA (b + 3) (by omega) (by omega), dB (s + 2) (by omega) (by omega)]; exact x2
    · rw [dA (b + 4) (by omega) (by omega), dB (s + 3) (by omega) (by omega)]; exact x3
    · rw [dA (b + 5) (by omega) (by omega), dB (s + 4) (by omega) (by omega)]; exact x4
    · rw [dA (b + 6) (by omega) (by omega), dB (s + 5) (by omega) (by omega)]; exact x5
  · unfold SimS
    rw [dA b (by omega) (by omega), dB s (by omega) (by omega)]; exact hSS
  · intro k hk
    rw [dA (b + 7) (by omega) (by omega), dA (b + 8) (by omega) (by omega), dB 72 (by omega) (by omega), dB 73 (by omega) (by omega)]
    exact hW k hk
  · intro c hc
    rw [dA (b + 4) (by omega) (by omega), dA (b + 5) (by omega) (by omega), dA (b + 6) (by omega) (by omega)]
    exact hI c hc
  · rw [dA b (by omega) (by omega)]; exact hday
  · intro i i0 i1 i2 i3 i4 i5 i6
    exact dA i i1 i2
  · intro j _ _ _
    rw [dA b (by omega) (by omega)]
  · intro i h82 i0 i1 i2 i3 i4 i5
    exact dB i i1 h82
  · intro j _ _ _
    rw [dB s (by omega) (by omega)]
theorem NiA.trans {b : Nat} {A B C : Mm} (h : NiA b A B) (k : NiA b B C) : NiA b A C := ⟨fun i h0 h1 h2 h3 h4 h5 h6 => (k.1 i h0 h1 h2 h3 h4 h5 h6).trans (h.1 i h0 h1 h2 h3 h4 h5 h6), fun j h1 h2 h3 => (k.2 j h1 h2 h3).trans (h.2 j h1 h2 h3)⟩
theorem NiB.trans {s : Nat} {A B C : Mm} (h : NiB s A B) (k : NiB s B C) : NiB s A C := ⟨fun i h0 h1 h2 h3 h4 h5 h6 => (k.1 i h0 h1 h2 h3 h4 h5 h6).trans (h.1 i h0 h1 h2 h3 h4 h5 h6), fun j h1 h2 h3 => (k.2 j h1 h2 h3).trans (h.2 j h1 h2 h3)⟩
theorem Bgs.time {b s : Nat} {A B A' B' : Mm} (hb : b = 29 ∨ b = 47) (hs : Ws s) (h : Bgs b s A B) (hA : ∀ i, i ≠ b → A' i = A i) (hB : ∀ i, i ≠ s → B' i = B i) (hS : SimS b s A' B') (hd : 0 ≤ (A' b 8).toInt) : Bgs b s A' B' := by
  obtain ⟨hC, hSS, hW, hI, hday⟩ := h
  unfold Ws at hs
  refine ⟨?_, hS, ?_, ?_, hd⟩
  · intro c hc
    rw [hA (b + 1) (by omega), hA (b + 3) (by omega), hA (b + 4) (by omega), hA (b + 5) (by omega), hA (b + 6) (by omega), hB (s + 1) (by omega), hB (s + 2) (by omega), hB (s + 3) (by omega), hB (s + 4) (by omega), hB (s + 5) (by omega)]
    exact hC c hc
  · intro k hk
    rw [hA (b + 7) (by omega), hA (b + 8) (by omega), hB 72 (by omega), hB 73 (by omega)]
    exact hW k hk
  · intro c hc
    rw [hA (b + 4) (by omega), hA (b + 5) (by omega), hA (b + 6) (by omega)]
    exact hI c hc
theorem end_sim {b s : Nat} {A B : Mm} (hb : b = 29 ∨ b = 47) (hs : Ws s) (h : Bgs b s A B) (hd : (A b 8).toInt < 2147483646) :
    ∃ A' B', f_X1_endHour b A = some A' ∧ (if wr B s 1 (B s 1 + 1) s 1 = (10 : Int32) then f_X11_night 69 s (wr B s 1 (B s 1 + 1)) else some (wr B s 1 (B s 1 + 1))) = some B' ∧ Bgs b s A' B' ∧ NiA b A A' ∧ NiB s B B' ∧ (A' b 8).toInt ≤ (A b 8).toInt + 1 := by
  have hSS := h.2.1
  have hday := h.2.2.2.2
  obtain ⟨s0, s1, s2, s3, s4, s5⟩ := hSS
  have h1 : Bgs b s (wr A b 9 (A b 9 + 1)) (wr B s 1 (B s 1 + 1)) := by
    refine h.time hb hs (fun i hi => wr_ne hi) (fun i hi => wr_ne hi) ?_ (by rw [wr_col (by decide)]; exact hday)
    unfold SimS
    rw [wr_at, wr_at, wr_col (by decide), wr_col (by decide), wr_col (by decide), wr_col (by decide), wr_col (by decide), wr_col (by decide), wr_col (by decide), wr_col (by decide), wr_col (by decide), wr_col (by decide), s1]
    exact ⟨s0, rfl, s2, s3, s4, s5⟩
  have nA : NiA b A (wr A b 9 (A b 9 + 1)) := ⟨fun i hi _ _ _ _ _ _ => wr_ne hi, fun j _ h9 _ => wr_col h9⟩
  have nB : NiB s B (wr B s 1 (B s 1 + 1)) := ⟨fun i _ hi _ _ _ _ _ => wr_ne hi, fun j _ h9 _ => wr_col h9⟩
  rw [f_X1_endHour, lz_e]
  have e8 : (wr A b 9 (A b 9 + 1)) b 8 = A b 8 := wr_col (by decide)
  have e9 : (wr A b 9 (A b 9 + 1)) b 9 = (wr B s 1 (B s 1 + 1)) s 1 := h1.2.1.2.1
  generalize wr A b 9 (A b 9 + 1) = A1 at *
  generalize wr B s 1 (B s 1 + 1) = B1 at *
  by_cases h10 : A1 b 9 = (10 : Int32)
  · rw [if_pos h10, if_pos (e9 ▸ h10)]
    obtain ⟨A2, A3, B2, c1, c2, c3, c4, c5, c6, c7, c8, -, -⟩ := night_sim hb hs h1 (by rw [e8]; exact hd)
    have t0 := h1.2.1.1
    have hdd : 0 ≤ (B1 s 0 - B1 s 0 / (12 : Int32) * (12 : Int32)).toInt ∧ (B1 s 0 - B1 s 0 / (12 : Int32) * (12 : Int32)).toInt < ((12 : Nat) : Int) := by rw [← t0]; exact day_in h1.2.2.2.2
    have hN : f_X11_night 69 s B1 = bd1 (if (B2 s 0 + (1 : Int32)) - (B2 s 0 + (1 : Int32)) / (4 : Int32) * (4 : Int32) = 0 then f_X11_rise 69 s B2 else some B2) fun M60 => some (wr (wr M60 s 0 (M60 s 0 + 1)) s 1 0) := by
      rw [f_X11_night, if_pos hdd, lz_e, if_pos hdd, lz_e]
      rw [show (69 + 3 : Nat) = 72 from rfl, show (69 + 4 : Nat) = 73 from rfl, c3, bd1_e, lz_e, bd1_id]
      rfl
    have hA : (bd1 (f_X1_dryStacks b A1) fun M4 => bd1 (f_X1_moveWater b M4) fun M7 => lz (((M7 b 8) + (1 : Int32)) - ((M7 b 8) + (1 : Int32)) / (4 : Int32) * (4 : Int32)) fun x10 => bd1 (if (x10 = 0) then (bd1 (f_X1_rise b M7) fun M14 => some (M14)) else (some (M7))) fun M17 => lz (wr M17 b 8 ((M17 b 8) + (1 : Int32))) fun M18 => lz (wr M18 b 9 (0 : Int32)) fun M20 => some M20) = bd1 (if (A3 b 8 + (1 : Int32)) - (A3 b 8 + (1 : Int32)) / (4 : Int32) * (4 : Int32) = 0 then f_X1_rise b A3 else some A3) fun M60 => some (wr (wr M60 b 8 (M60 b 8 + 1)) b 9 0) := by
      rw [c1, bd1_e, c2, bd1_e, lz_e, bd1_id]
      rfl
    have mid : ∃ A4 B4, (if (A3 b 8 + (1 : Int32)) - (A3 b 8 + (1 : Int32)) / (4 : Int32) * (4 : Int32) = 0 then f_X1_rise b A3 else some A3) = some A4 ∧ (if (B2 s 0 + (1 : Int32)) - (B2 s 0 + (1 : Int32)) / (4 : Int32) * (4 : Int32) = 0 then f_X11_rise 69 s B2 else some B2) = some B4 ∧ Bgs b s A4 B4 ∧ NiA b A1 A4 ∧ NiB s B1 B4 ∧ A4 b 8 = A b 8 := by
      have q0 := c4.2.1.1
      by_cases h4 : (A3 b 8 + (1 : Int32)) - (A3 b 8 + (1 : Int32)) / (4 : Int32) * (4 : Int32) = 0
      · obtain ⟨A4, B4, d1, d2, d3, d4, d5, d6, d7⟩ := rise_sim hb hs c4
        exact ⟨A4, B4, by rw [if_pos h4]; exact d1, by rw [← q0, if_pos h4]; exact d2, d3, c5.trans d4, c6.trans d5, by rw [d6, c7, e8]⟩
      · exact ⟨A3, B2, by rw [if_neg h4], by rw [← q0, if_neg h4], c4, c5, c6, by rw [c7, e8]⟩
    obtain ⟨A4, B4, d1, d2, d3, d4, d5, d6⟩ := mid
    rw [hA, hN, d1, d2, bd1_e, bd1_e]
    have hday' := d3.2.2.2.2
    have e1 : (A4 b 8 + 1).toInt = (A4 b 8).toInt + 1 := i_add (by show -2147483648 ≤ (A4 b 8).toInt + 1; omega) (by show (A4 b 8).toInt + 1 < 2147483648; rw [d6]; omega)
    refine ⟨_, _, rfl, rfl, ?_, nA.trans (d4.trans ⟨fun i hi _ _ _ _ _ _ => by rw [wr_ne hi, wr_ne hi], fun j h8 h9 _ => by rw [wr_col h9, wr_col h8]⟩), nB.trans (d5.trans ⟨fun i _ hi _ _ _ _ _ => by rw [wr_ne hi, wr_ne hi], fun j h8 h9 _ => by rw [wr_col h9, wr_col h8]⟩), ?_⟩
    · refine d3.time hb hs (fun i hi => by rw [wr_ne hi, wr_ne hi]) (fun i hi => by rw [wr_ne hi, wr_ne hi]) ?_ (by rw [wr_col (by decide), wr_at, e1]; omega)
      obtain ⟨z0, z1, z2, z3, z4, z5⟩ := d3.2.1
      have z0' : A4 b 8 + 1 = B4 s 0 + 1 := by rw [z0]
      unfold SimS
      refine ⟨?_, ?_, ?_, ?_, ?_, ?_⟩ <;> simp (disch := omega) only [wr_at, wr_col] <;> assumption
    · rw [wr_col (by decide), wr_at, e1, d6]; omega
  · rw [if_neg h10, if_neg (e9 ▸ h10)]
    exact ⟨A1, B1, rfl, rfl, h1, nA, nB, by rw [e8]; omega⟩
