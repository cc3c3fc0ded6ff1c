/-! needs 30 31 32 33 34 35 36 37 38 39 40 41 42 43 44 45 46 47 50 82 -/
/-! the other acts, an hour of one gang -/
theorem turn_pa {w b q g : Nat} {pa r : Int32} {A A' : Mm} (hA : AtG w b q g A) (h : f_X8_turn w pa A = some (r, A')) : Pa w b q r A A' := by
  have hN := hA.ne
  rw [f_X8_turn] at h
  simp only [hA.rid, hA.1.wbog] at h
  obtain ⟨-, h⟩ := it_s h
  obtain ⟨-, h⟩ := it_s h
  obtain ⟨x3, e3, h⟩ := lz_s h
  obtain ⟨hx3, h⟩ := it_s h
  obtain ⟨M2, hm, h⟩ := bd1_s h
  obtain ⟨-, h⟩ := it_s h
  obtain ⟨x26, M3, he, h⟩ := bd2_s h
  cases h
  have k2 : Pa w b q 0 A M2 := by
    have hh := it_c hm; clear hm; rcases hh with ⟨hsp, hm⟩ | ⟨hsp, hm⟩
    · cases hm; exact Pa.refl _ _ _ _ _
    · have hpos := hsp
      have hpos := pos_i hpos
      obtain ⟨-, hm⟩ := it_s hm
      obtain ⟨M18, e, hm⟩ := lz_s hm
      cases hm
      subst e
      have hq := hN.2.2.2.1 6 (by omega)
      refine ⟨fun bc bg => ⟨bc.at (c := ix x3) (fun i k hi hk => wr_o (Or.inr hk)) (fun hc => ?_) (fun _ => by rw [wr_ne (by omega)]; exact bc.2), bg.congr (fun j _ => by rw [wr_ne hq])⟩, ?_, Hs.same (fun j _ => by rw [wr_ne hq]) 0, by rw [wr_ne (fun z => hN.2.2.2.2.2.1 6 (by omega) z.symm)]⟩
      · obtain ⟨b1, b2, b3, b4, b5⟩ := bc.1 _ hc
        rw [wr_ne (show b + 1 ≠ b + 6 by omega), wr_ne (show b + 3 ≠ b + 6 by omega), wr_ne (show b + 4 ≠ b + 6 by omega), wr_ne (show b + 5 ≠ b + 6 by omega)]
        refine ⟨b1, b2, b3, b4, fun z => ?_⟩
        rw [z] at hpos
        exact absurd hpos (by decide)
      · unfold TT
        rw [wr_ne (show b + 4 ≠ b + 6 by omega), wr_ne (show b ≠ b + 6 by omega), wr_ne hq]
  exact k2.comp (eh_pa (hA.pa k2) he)
theorem le_of_pos {a x y : Int32} (h : a = imin x y) : a.toInt ≤ x.toInt ∧ a.toInt ≤ y.toInt := by rw [h]; exact ⟨(imin_b x y).1, (imin_b x y).2.1⟩
theorem z_int : (0 : Int32).toInt = 0 := rfl
theorem load_pa {w b q g : Nat} {pa r : Int32} {A A' : Mm} (hA : AtG w b q g A) (h : f_X8_load w pa A = some (r, A')) : Pa w b q r A A' := by
  have hN := hA.ne
  rw [f_X8_load] at h
  simp only [hA.rid, hA.1.wbog] at h
  obtain ⟨-, h⟩ := it_s h
  obtain ⟨-, h⟩ := it_s h
  obtain ⟨x3, e3, h⟩ := lz_s h
  obtain ⟨x6, M1, hp, h⟩ := bd2_s h
  have k1 := (pop_w hp).pa hA 0
  have A1 := hA.pa k1
  simp only [A1.rid] at h
  obtain ⟨hx3, h⟩ := it_s h
  obtain ⟨-, h⟩ := it_s h
  obtain ⟨x12, e12, h⟩ := lz_s h
  obtain ⟨M2, hm, h⟩ := bd1_s h
  obtain ⟨x26, M3, he, h⟩ := bd2_s h
  cases h
  have hc : ix x3 < 64 := ix_lt hx3
  generalize hM : imin x6 x12 = a at hm he
  have k2 : Pa w b q 0 M1 M2 := by
    have hh := it_c hm; clear hm; rcases hh with ⟨hsp, hm⟩ | ⟨hsp, hm⟩
    · cases hm; exact Pa.refl _ _ _ _ _
    · have hpos := hsp
      have hpos := pos_i hpos
      obtain ⟨-, hm⟩ := it_s hm
      obtain ⟨-, hm⟩ := it_s hm
      obtain ⟨M18, h18, hm⟩ := bd1_s hm
      obtain ⟨M21, h21, hm⟩ := bd1_s hm
      cases hm
      rw [f_X2_addToCart] at h18
      obtain ⟨x, hx, h18⟩ := bd1_s h18
      obtain ⟨M5, e5, h18⟩ := lz_s h18
      obtain ⟨M6, e6, h18⟩ := lz_s h18
      cases h18
      obtain ⟨M', t1, t2, t3, t4, t5, t6⟩ := take_run (b := b) (c := ix x3) (a := x3) (m := a) (A := M18) hx3 rfl
      have ht : M2 = M' := Option.some.inj (h21.symm.trans t1)
      subst ht
      have r0 : ∀ i, i ≠ q → M18 i = M1 i := fun i hi => by rw [e6, wr_ne hi, e5, wr_ne hi]
      have rb : ∀ k, k < 10 → M18 (b + k) = M1 (b + k) := fun k hk => r0 _ (fun z => hN.2.2.2.1 k hk z.symm)
      have rq : M2 q = M18 q := t2 q (hN.2.2.2.1 4 (by omega)) (hN.2.2.2.1 5 (by omega)) (hN.2.2.2.1 6 (by omega))
      have q2 : M18 q 2 = M1 q 2 + a := by rw [e6, wr_at, e5, wr_col (by decide)]
      have q3 : M18 q 3 = x := by rw [e6, wr_col (by decide), e5, wr_at]
      have qj : ∀ j, j ≠ 2 → j ≠ 3 → M18 q j = M1 q j := fun j h2 h3 => by rw [e6, wr_col h2, e5, wr_col h3]
      have i1 := le_of_pos hM.symm
      have i2 := le_of_pos e12
      rw [rb 4 (by omega)] at t4 t5 t6
      rw [rb 5 (by omega)] at t5
      rw [rb 6 (by omega)] at t6
      refine ⟨fun bc bg => ?_, ?_, ?_, ?_⟩
      · obtain ⟨b1, b2, b3, b4, b5⟩ := bc.1 _ hc
        obtain ⟨g1, g2, g3, g4, g5⟩ := bg
        have s40 : ((40 : Int32) - M1 q 2).toInt = 40 - (M1 q 2).toInt := i_sub (by have : (40 : Int32).toInt = 40 := rfl; omega) (by have : (40 : Int32).toInt = 40 := rfl; omega)
        rw [s40] at i2
        have sb : (M1 (b + 4) (ix x3) - a).toInt = (M1 (b + 4) (ix x3)).toInt - a.toInt := i_sub (by omega) (by omega)
        have sq : (M1 q 2 + a).toInt = (M1 q 2).toInt + a.toInt := i_add (by omega) (by omega)
        refine ⟨bc.at (c := ix x3) (fun i k hi hk => by rw [t3 _ _ hk, rb i (by omega)]) (fun _ => ?_) (fun hz => ?_), ?_⟩
        · rw [t2 (b + 1) (by omega) (by omega) (by omega), t2 (b + 3) (by omega) (by omega) (by omega), rb 1 (by omega), rb 3 (by omega), t4, t5, t6, sb]
          refine ⟨b1, b2, by omega, ?_, fun z => ⟨by rw [if_pos z], by rw [if_pos z]⟩⟩
          split
          · decide
          · exact b4
        · rw [t2 (b + 1) (by omega) (by omega) (by omega), rb 1 (by omega)]; exact bc.2
        · unfold BdG
          rw [rq, qj 0 (by decide) (by decide), qj 1 (by decide) (by decide), q2, q3, sq]
          refine ⟨g1, g2, by omega, mix_b hx ⟨g3.1, by omega⟩ g4 ⟨hpos, by omega⟩ b4, fun z => ?_⟩
          have := congrArg Int32.toInt z
          rw [sq, z_int] at this
          omega
      · unfold TT
        have s := TT.stack (b := b) (q := q) (c := ix x3) (a := -a) (A := M1) (A' := M2) hc (fun k hk => by rw [t3 _ _ hk, rb 4 (by omega)]) (by rw [t4]; grind)
        have f : M2 b = M1 b := by rw [t2 b (by omega) (by omega) (by omega)]; exact rb 0 (by omega)
        rw [s, f, rq, q2]
        grind
      · exact Hs.same (fun j _ => by rw [rq, qj j (by omega) (by omega)]) 0
      · rw [t2 w (fun z => hN.2.2.2.2.2.1 4 (by omega) z.symm) (fun z => hN.2.2.2.2.2.1 5 (by omega) z.symm) (fun z => hN.2.2.2.2.2.1 6 (by omega) z.symm), r0 w (fun z => hN.1 z.symm)]
  exact k1.comp (k2.comp (eh_pa (A1.pa k2) he))
theorem unload_pa {w b q g : Nat} {pa r : Int32} {A A' : Mm} (hA : AtG w b q g A) (h : f_X8_unload w pa A = some (r, A')) : Pa w b q r A A' := by
  have hN := hA.ne
  rw [f_X8_unload] at h
  simp only [hA.rid, hA.1.wbog] at h
  obtain ⟨-, h⟩ := it_s h
  obtain ⟨-, h⟩ := it_s h
  obtain ⟨x3, e3, h⟩ := lz_s h
  obtain ⟨a, ha, h⟩ := bd1_s h
  obtain ⟨M2, hm, h⟩ := bd1_s h
  obtain ⟨x26, M3, he, h⟩ := bd2_s h
  cases h
  have k2 : Pa w b q 0 A M2 := by
    have hh := it_c hm; clear hm; rcases hh with ⟨hsp, hm⟩ | ⟨hsp, hm⟩
    · cases hm; exact Pa.refl _ _ _ _ _
    · have hpos := hsp
      have hpos := pos_i hpos
      obtain ⟨M1, h1, hm⟩ := bd1_s hm
      -- what went out of the cart
      have j1 : (∀ i, i ≠ b → (∀ k, k < 10 → i ≠ b + k) → M1 i = A i) ∧ (∀ j, j ≠ 10 → j ≠ 11 → M1 b j = A b j) ∧ sumL (M1 (b + 4)) 64 0 + M1 b 10 + M1 b 11 = sumL (A (b + 4)) 64 0 + A b 10 + A b 11 + a ∧ (BdC b A → BdG q A → a.toInt ≤ (A q 2).toInt ∧ BdC b M1) := by
        by_cases hz : x3 = 0
        · rw [if_pos hz] at ha h1
          obtain ⟨-, ha⟩ := it_s ha
          cases ha
          obtain ⟨-, h1⟩ := it_s h1
          have hh := it_c h1; clear h1; rcases hh with ⟨hsp, h1⟩ | ⟨hsp, h1⟩
          · obtain ⟨M5, e5, h1⟩ := lz_s h1
            cases h1
            subst e5
            refine ⟨fun i hi _ => wr_ne hi, fun j _ hj => wr_col hj, ?_, fun bc _ => ⟨Int.le_refl _, bc.congr (fun i hi => wr_ne (by omega))⟩⟩
            rw [wr_ne (show b + 4 ≠ b by omega), wr_at, wr_col (show 10 ≠ 11 by decide)]
            grind
          · obtain ⟨M5, e5, h1⟩ := lz_s h1
            cases h1
            subst e5
            refine ⟨fun i hi _ => wr_ne hi, fun j hj _ => wr_col hj, ?_, fun bc _ => ⟨Int.le_refl _, bc.congr (fun i hi => wr_ne (by omega))⟩⟩
            rw [wr_ne (show b + 4 ≠ b by omega), wr_at, wr_col (show 11 ≠ 10 by decide)]
            grind
        · rw [if_neg hz] at ha h1
          obtain ⟨-, ha⟩ := it_s ha
          obtain ⟨-, ha⟩ := it_s ha
          obtain ⟨x10, e10, ha⟩ := lz_s ha
          cases ha
          obtain ⟨-, h1⟩ := it_s h1
          obtain ⟨M5, e5, h1⟩ := bd1_s h1
          cases h1
          obtain ⟨hx3, x, hx, e⟩ := ats_w e5
          have hc : ix x3 < 64 := ix_lt hx3
          have i1 := le_of_pos e10
          refine ⟨fun i _ hi => by rw [e, wr_ne (hi 4 (by omega)), wr_ne (hi 5 (by omega))], fun j _ _ => by rw [e, wr_ne (by omega), wr_ne (by omega)], ?_, fun bc bg => ?_⟩
          · have s := TT.stack (b := b) (q := q) (c := ix x3) (a := a) (A := A) (A' := M1) hc (fun k hk => by rw [e, wr_col hk, wr_ne (by omega)]) (by rw [e, wr_at])
            have f : ∀ j, M1 b j = A b j := fun j => by rw [e, wr_ne (by omega), wr_ne (by omega)]
            rw [s, f, f]
            grind
          · obtain ⟨b1, b2, b3, b4, b5⟩ := bc.1 _ hc
            obtain ⟨g1, g2, g3, g4, g5⟩ := bg
            have s99 : ((99 : Int32) - A (b + 4) (ix x3)).toInt = 99 - (A (b + 4) (ix x3)).toInt := i_sub (by have : (99 : Int32).toInt = 99 := rfl; omega) (by have : (99 : Int32).toInt = 99 := rfl; omega)
            rw [s99] at i1
            exact ⟨i1.1, bc.more ⟨hpos, by omega⟩ g4 hx (by omega) hc e⟩
      obtain ⟨r1, r2, r3, r4⟩ := j1
      have w1 : M1 w = A w := r1 w hN.2.2.2.2.1 (fun k hk z => hN.2.2.2.2.2.1 k (by omega) z.symm)
      have q1 : M1 q = A q := r1 q hN.2.2.1 (fun k hk => hN.2.2.2.1 k hk)
      obtain ⟨-, hm⟩ := it_s hm
      rw [w1, hA.rid] at hm
      obtain ⟨M4, h4, hm⟩ := bd1_s hm
      cases hm
      obtain ⟨M', t1, t2, t3, t4, t5⟩ := cart_run (q := q) (m := a) (A := M1)
      have ht : M2 = M' := Option.some.inj (h4.symm.trans t1)
      subst ht
      have rb : ∀ k, k < 10 → M2 (b + k) = M1 (b + k) := fun k hk => t2 _ (fun z => hN.2.2.2.1 k hk z.symm)
      have rb0 : M2 b = M1 b := rb 0 (by omega)
      rw [q1] at t4 t5
      refine ⟨fun bc bg => ?_, ?_, Hs.same (fun j hj => by rw [t3 j (by omega) (by omega), q1]) 0, by rw [t2 w (fun z => hN.1 z.symm), w1]⟩
      · obtain ⟨ac, bc1⟩ := r4 bc bg
        refine ⟨bc1.congr (fun i hi => rb i (by omega)), ?_⟩
        obtain ⟨g1, g2, g3, g4, g5⟩ := bg
        unfold BdG
        have sq : (A q 2 - a).toInt = (A q 2).toInt - a.toInt := i_sub (by omega) (by omega)
        rw [t3 0 (by decide) (by decide), t3 1 (by decide) (by decide), t4, t5, sq, q1]
        refine ⟨g1, g2, by omega, ?_, fun z => by rw [if_pos z]⟩
        split
        · decide
        · exact g4
      · unfold TT
        rw [rb 4 (by omega), rb0, t4, r2 12 (by decide) (by decide), r2 13 (by decide) (by decide)]
        grind
  exact k2.comp (eh_pa (hA.pa k2) he)
theorem rest_pa {w b q g : Nat} {pa r : Int32} {A A' : Mm} (hA : AtG w b q g A) (h : f_X8_rest w pa A = some (r, A')) : Pa w b q r A A' := by
  rw [f_X8_rest] at h
  simp only [hA.rid] at h
  obtain ⟨-, h⟩ := it_s h
  obtain ⟨x2, M1, hp, h⟩ := bd2_s h
  have k1 := (pop_w hp).pa hA 0
  have A1 := hA.pa k1
  obtain ⟨M6, e6, h⟩ := lz_s h
  have k2 : Pa w b q 0 M1 M6 := by
    subst e6
    exact Pa.own A1 (fun i h1 _ => wr_ne h1) (fun j hj => wr_col (by omega)) (Hs.same (fun j hj => wr_col (by omega)) 0)
  have A2 := A1.pa k2
  obtain ⟨-, h⟩ := it_s h
  rw [A2.rid] at h
  obtain ⟨M9, e9, h⟩ := lz_s h
  cases h
  subst e9
  exact k1.comp (k2.comp (nine_pa A2 _))
theorem ic_in {x y v : Int32} (e : v = f_X9_isCell x y) (h : ¬ v = 0) : (0 ≤ x.toInt ∧ x.toInt ≤ 7) ∧ (0 ≤ y.toInt ∧ y.toInt ≤ 7) := by
  have := (isCell_run x y).1
  rw [← e] at this
  by_cases c : (0 ≤ x.toInt ∧ x.toInt ≤ 7) ∧ (0 ≤ y.toInt ∧ y.toInt ≤ 7)
  · exact c
  · rw [if_neg c] at this; exact absurd this h
theorem mis_pa {w b q g : Nat} {A : Mm} (hA : AtG w b q g A) : Pa w b q 1 A (wr A q 6 (A q 6 + 1)) :=
  Pa.own hA (fun i h1 _ => wr_ne h1) (fun j hj => wr_col (by omega)) ⟨wr_col (by decide), Or.inr ⟨rfl, Or.inr ⟨wr_col (by decide), wr_at _ _ _ _⟩⟩⟩
theorem mv_pa {w b q g : Nat} {nx ny c x5 x1 : Int32} {A A' : Mm} (hA : AtG w b q g A) (hn : BdG q A → (0 ≤ nx.toInt ∧ nx.toInt ≤ 7) ∧ (0 ≤ ny.toInt ∧ ny.toInt ≤ 7)) (h : (if (A (wbog w + 3) (ix c) = (9 : Int32)) then (if okr 1 (A w 1) then (lz (wr A q 6 ((A q 6) + (1 : Int32))) fun M80 => some (M80)) else none) else (if okr 1 (A w 1) then (lz (wr A q 0 nx) fun M74 => if okr 1 (M74 w 1) then (lz (wr M74 (rid (M74 w 1)) 1 ny) fun M77 => some (M77)) else none) else none)) = some A') : Pa w b q 1 A A' := by
  have hN := hA.ne
  have hh := it_c h; clear h; rcases hh with ⟨hsp, h⟩ | ⟨hsp, h⟩
  · obtain ⟨-, h⟩ := it_s h
    obtain ⟨M5, e, h⟩ := lz_s h
    cases h
    subst e
    exact mis_pa hA
  · obtain ⟨-, h⟩ := it_s h
    obtain ⟨M5, e, h⟩ := lz_s h
    obtain ⟨-, h⟩ := it_s h
    have ew : M5 w = A w := by rw [e, wr_ne (fun z => hN.1 z.symm)]
    rw [ew, hA.rid] at h
    obtain ⟨M6, e6, h⟩ := lz_s h
    cases h
    have f : ∀ i, i ≠ q → A' i = A i := fun i hi => by rw [e6, wr_ne hi, e, wr_ne hi]
    have fb : ∀ k, k < 10 → A' (b + k) = A (b + k) := fun k hk => f _ (fun z => hN.2.2.2.1 k hk z.symm)
    have fj : ∀ j, j ≠ 0 → j ≠ 1 → A' q j = A q j := fun j h0 h1 => by rw [e6, wr_col h1, e, wr_col h0]
    refine ⟨fun bc bg => ⟨bc.congr (fun i hi => fb i (by omega)), ?_⟩, ?_, Hs.same (fun j hj => fj j (by omega) (by omega)) 1, by rw [f w (fun z => hN.1 z.symm)]⟩
    · obtain ⟨n1, n2⟩ := hn bg
      obtain ⟨g1, g2, g3, g4, g5⟩ := bg
      unfold BdG
      rw [fj 2 (by decide) (by decide), fj 3 (by decide) (by decide), e6, wr_at, wr_col (show 0 ≠ 1 by decide), e, wr_at]
      exact ⟨n1, n2, g3, g4, g5⟩
    · unfold TT
      rw [fb 4 (by omega), show A' b = A b from fb 0 (by omega), fj 2 (by decide) (by decide)]
theorem go_pa {w b q g : Nat} {pa r : Int32} {A A' : Mm} (hA : AtG w b q g A) (h : f_X8_go w pa A = some (r, A')) : Pa w b q r A A' := by
  rw [f_X8_go] at h
  obtain ⟨x1, M2, hp, h⟩ := bd2_s h
  have k0 := (pop_w hp).pa hA 0
  have A2 := hA.pa k0
  obtain ⟨x5, M6, hp6, h⟩ := bd2_s h
  have k1 := k0.comp ((pop_w hp6).pa A2 0)
  have A6 := hA.pa k1
  obtain ⟨x9, e9, h⟩ := lz_s h
  have hh := it_c h; clear h; rcases hh with ⟨hsp, h⟩ | ⟨hsp, h⟩
  · obtain ⟨-, h⟩ := it_s h
    rw [A6.rid] at h
    obtain ⟨M92, e, h⟩ := lz_s h
    have k2 := mis_pa A6
    rw [← e] at k2
    have A92 := A6.pa k2
    obtain ⟨-, h⟩ := it_s h
    rw [A92.rid] at h
    obtain ⟨M95, e95, h⟩ := lz_s h
    cases h
    have k3 := nine_pa (v := pa + 1) A92 1
    rw [← e95] at k3
    refine k1.comp ⟨fun x y => k3.1 (k2.1 x y).1 (k2.1 x y).2, k3.2.1.trans k2.2.1, ⟨?_, Or.inr ⟨rfl, Or.inr ⟨?_, ?_⟩⟩⟩, k3.2.2.2.trans k2.2.2.2⟩
    · rw [e95, wr_col (by decide), e, wr_col (by decide)]
    · rw [e95, wr_col (by decide), e, wr_col (by decide)]
    · rw [e95, wr_col (by decide), e, wr_at]
  · have h0 := hsp
    have hc := ic_in e9 h0
    obtain ⟨-, h⟩ := it_s h
    have hh := it_c h; clear h; rcases hh with ⟨hsp, h⟩ | ⟨hsp, h⟩
    · obtain ⟨-, h⟩ := it_s h
      have hh := it_c h; clear h; rcases hh with ⟨hsp, h⟩ | ⟨hsp, h⟩
      · obtain ⟨x83, M84, h84, h⟩ := bd2_s h
        obtain ⟨k2, hr⟩ := ho_pa A6 h84
        have hh := it_c h; clear h; rcases hh with ⟨hsp, h⟩ | ⟨hsp, h⟩
        · have hz := hsp
          subst hz
          have A84 := A6.pa k2
          obtain ⟨-, h⟩ := it_s h
          rw [A84.rid] at h
          obtain ⟨M89, e89, h⟩ := lz_s h
          cases h
          subst e89
          exact k1.comp (k2.comp (nine_pa A84 _))
        · have hz := hsp
          cases h
          rcases hr with rfl | rfl
          · exact absurd rfl hz
          · exact k1.comp k2
      · simp only [A6.rid] at h
        obtain ⟨-, h⟩ := it_s h
        obtain ⟨-, h⟩ := it_s h
        obtain ⟨dx, ex, h⟩ := lz_s h
        obtain ⟨nx, enx, h⟩ := lz_s h
        obtain ⟨-, h⟩ := it_s h
        obtain ⟨ny, hny, h⟩ := bd1_s h
        obtain ⟨c, ec, h⟩ := lz_s h
        obtain ⟨-, h⟩ := it_s h
        obtain ⟨M3, hm, h⟩ := bd1_s h
        cases h
        refine k1.comp (mv_pa A6 (x5 := x5) (x1 := x1) (fun hG => ?_) hm)
        refine ⟨by rw [enx, ex]; exact (sgn_run hc.1 hG.1).2, ?_⟩
        have hh := it_c hny; clear hny; rcases hh with ⟨hsp, hny⟩ | ⟨hsp, hny⟩
        · obtain ⟨-, hny⟩ := it_s hny
          obtain ⟨-, hny⟩ := it_s hny
          obtain ⟨dy, ey, hny⟩ := lz_s hny
          cases hny
          rw [ey]; exact (sgn_run hc.2 hG.2.1).2
        · obtain ⟨-, hny⟩ := it_s hny
          cases hny
          exact hG.2.1
    · simp only [A6.rid] at h
      obtain ⟨-, h⟩ := it_s h
      obtain ⟨-, h⟩ := it_s h
      obtain ⟨dx, ex, h⟩ := lz_s h
      obtain ⟨nx, enx, h⟩ := lz_s h
      obtain ⟨-, h⟩ := it_s h
      obtain ⟨ny, hny, h⟩ := bd1_s h
      obtain ⟨c, ec, h⟩ := lz_s h
      obtain ⟨-, h⟩ := it_s h
      obtain ⟨M3, hm, h⟩ := bd1_s h
      cases h
      refine k1.comp (mv_pa A6 (x5 := x5) (x1 := x1) (fun hG => ?_) hm)
      refine ⟨by rw [enx, ex]; exact (sgn_run hc.1 hG.1).2, ?_⟩
      have hh := it_c hny; clear hny; rcases hh with ⟨hsp, hny⟩ | ⟨hsp, hny⟩
      · obtain ⟨-, hny⟩ := it_s hny
        obtain ⟨-, hny⟩ := it_s hny
        obtain ⟨dy, ey, hny⟩ := lz_s hny
        cases hny
        rw [ey]; exact (sgn_run hc.2 hG.2.1).2
      · obtain ⟨-, hny⟩ := it_s hny
        cases hny
        exact hG.2.1
theorem br_pa {w b q g : Nat} {pa a2 r : Int32} {A A' : Mm} (hA : AtG w b q g A) (h : f_X8_branch w pa a2 A = some (r, A')) : Pa w b q r A A' := by
  rw [f_X8_branch] at h
  obtain ⟨x1, M2, h2, h⟩ := bd2_s h
  obtain ⟨k2, hr⟩ := ho_pa hA h2
  have hh := it_c h; clear h; rcases hh with ⟨hsp, h⟩ | ⟨hsp, h⟩
  · have hz := hsp
    subst hz
    have A2 := hA.pa k2
    obtain ⟨-, h⟩ := it_s h
    rw [A2.rid] at h
    obtain ⟨x7, M8, h8, h⟩ := bd2_s h
    have k3 := (pop_w h8).pa A2 0
    obtain ⟨x13, -, h⟩ := lz_s h
    obtain ⟨M15, e15, h⟩ := lz_s h
    cases h
    subst e15
    exact k2.comp (k3.comp (nine_pa (A2.pa k3) _))
  · have hz := hsp
    cases h
    rcases hr with rfl | rfl
    · exact absurd rfl hz
    · exact k2
theorem rep_pa {w b q g c : Nat} {v : Int32} {A : Mm} (hA : AtG w b q g A) (r : Int32) : Pa w b q r A (wr A (q + 1) c v) :=
  Pa.own hA (fun i _ h1 => wr_ne h1) (fun j hj => by rw [wr_ne (by omega)]) (Hs.same (fun j hj => by rw [wr_ne (by omega)]) r)
theorem begin_pa {w b q g : Nat} {pa a2 r : Int32} {A A' : Mm} (hA : AtG w b q g A) (h : f_X8_beginRepeat w pa a2 A = some (r, A')) : Pa w b q r A A' := by
  rw [f_X8_beginRepeat] at h
  obtain ⟨x1, M2, h2, h⟩ := bd2_s h
  have k1 := (pop_w h2).pa hA 0
  have A2 := hA.pa k1
  obtain ⟨M13, hm, h⟩ := bd1_s h
  have k2 : Pa w b q 0 M2 M13 := by
    have hh := it_c hm; clear hm; rcases hh with ⟨hsp, hm⟩ | ⟨hsp, hm⟩
    · cases hm; exact Pa.refl _ _ _ _ _
    · obtain ⟨-, hm⟩ := it_s hm
      have hh := it_c hm; clear hm; rcases hh with ⟨hsp, hm⟩ | ⟨hsp, hm⟩
      · cases hm; exact Pa.refl _ _ _ _ _
      · obtain ⟨-, hm⟩ := it_s hm
        obtain ⟨-, hm⟩ := it_s hm
        rw [A2.rid] at hm
        obtain ⟨M11, e, hm⟩ := lz_s hm
        cases hm
        subst e
        exact rep_pa A2 0
  have A13 := A2.pa k2
  obtain ⟨-, h⟩ := it_s h
  rw [A13.rid] at h
  obtain ⟨M15, e15, h⟩ := lz_s h
  cases h
  subst e15
  exact k1.comp (k2.comp (nine_pa A13 _))
theorem again_pa {w b q g : Nat} {pa a2 r : Int32} {A A' : Mm} (hA : AtG w b q g A) (h : f_X8_repeat w pa a2 A = some (r, A')) : Pa w b q r A A' := by
  rw [f_X8_repeat] at h
  obtain ⟨x1, M2, h2, h⟩ := bd2_s h
  obtain ⟨k2, hr⟩ := ho_pa hA h2
  have hh := it_c h; clear h; rcases hh with ⟨hsp, h⟩ | ⟨hsp, h⟩
  · have hz := hsp
    subst hz
    have A2 := hA.pa k2
    obtain ⟨x6, M7, h7, h⟩ := bd2_s h
    have k3 := k2.comp ((pop_w h7).pa A2 0)
    have A7 := hA.pa k3
    obtain ⟨M34, hm, h⟩ := bd1_s h
    cases h
    refine k3.comp ?_
    simp only [A7.rid] at hm
    have hh := it_c hm; clear hm; rcases hh with ⟨hsp, hm⟩ | ⟨hsp, hm⟩
    · obtain ⟨-, hm⟩ := it_s hm
      obtain ⟨M13, e, hm⟩ := lz_s hm
      cases hm; subst e
      exact nine_pa A7 _
    · obtain ⟨-, hm⟩ := it_s hm
      have hh := it_c hm; clear hm; rcases hh with ⟨hsp, hm⟩ | ⟨hsp, hm⟩
      · obtain ⟨-, hm⟩ := it_s hm
        obtain ⟨M13, e, hm⟩ := lz_s hm
        cases hm; subst e
        exact nine_pa A7 _
      · obtain ⟨-, hm⟩ := it_s hm
        obtain ⟨-, hm⟩ := it_s hm
        have hh := it_c hm; clear hm; rcases hh with ⟨hsp, hm⟩ | ⟨hsp, hm⟩
        · obtain ⟨-, hm⟩ := it_s hm
          obtain ⟨M13, e, hm⟩ := lz_s hm
          cases hm; subst e
          exact nine_pa A7 _
        · obtain ⟨-, hm⟩ := it_s hm
          obtain ⟨-, hm⟩ := it_s hm
          obtain ⟨-, hm⟩ := it_s hm
          obtain ⟨M29, e, hm⟩ := lz_s hm
          have k4 := rep_pa (c := ix x6) (v := M7 (q + 1) (ix x6) - 1) A7 0
          rw [← e] at k4
          have A29 := A7.pa k4
          obtain ⟨-, hm⟩ := it_s hm
          rw [A29.rid] at hm
          obtain ⟨M32, e32, hm⟩ := lz_s hm
          cases hm; subst e32
          exact k4.comp (nine_pa A29 _)
  · have hz := hsp
    cases h
    rcases hr with rfl | rfl
    · exact absurd rfl hz
    · exact k2
theorem co_pa {w b q g : Nat} {a r : Int32} {A A' : Mm} (hA : AtG w b q g A) (h : f_X8_carryOut w a A = some (r, A')) : Pa w b q r A A' := by
  rw [f_X8_carryOut] at h
  obtain ⟨-, h⟩ := it_s h
  obtain ⟨x2, -, h⟩ := bd1_s h
  obtain ⟨-, h⟩ := it_s h
  obtain ⟨x6, -, h⟩ := bd1_s h
  simp only [bd2_id] at h
  have hh := it_c h; clear h; rcases hh with ⟨hsp, h⟩ | ⟨hsp, h⟩
  · exact go_pa hA h
  have hh := it_c h; clear h; rcases hh with ⟨hsp, h⟩ | ⟨hsp, h⟩
  · exact cut_pa hA h
  have hh := it_c h; clear h; rcases hh with ⟨hsp, h⟩ | ⟨hsp, h⟩
  · exact turn_pa hA h
  have hh := it_c h; clear h; rcases hh with ⟨hsp, h⟩ | ⟨hsp, h⟩
  · exact load_pa hA h
  have hh := it_c h; clear h; rcases hh with ⟨hsp, h⟩ | ⟨hsp, h⟩
  · exact unload_pa hA h
  have hh := it_c h; clear h; rcases hh with ⟨hsp, h⟩ | ⟨hsp, h⟩
  · exact rest_pa hA h
  have hh := it_c h; clear h; rcases hh with ⟨hsp, h⟩ | ⟨hsp, h⟩
  · exact br_pa hA h
  have hh := it_c h; clear h; rcases hh with ⟨hsp, h⟩ | ⟨hsp, h⟩
  · exact begin_pa hA h
  have hh := it_c h; clear h; rcases hh with ⟨hsp, h⟩ | ⟨hsp, h⟩
  · exact again_pa hA h
  have hh := it_c h; clear h; rcases hh with ⟨hsp, h⟩ | ⟨hsp, h⟩
  · obtain ⟨-, h⟩ := it_s h
    rw [hA.rid] at h
    obtain ⟨M56, e, h⟩ := lz_s h
    cases h; subst e
    exact nine_pa hA _
  · obtain ⟨-, h⟩ := it_s h
    rw [hA.rid] at h
    obtain ⟨M59, e, h⟩ := lz_s h
    have ew : M59 w = A w := by rw [e, wr_ne (fun z => hA.ne.1 z.symm)]
    rw [ew, hA.rid] at h
    obtain ⟨-, h⟩ := it_s h
    obtain ⟨M62, e62, h⟩ := lz_s h
    cases h
    refine Pa.own hA (fun i h1 _ => by rw [e62, wr_ne h1, e, wr_ne h1]) (fun j hj => by rw [e62, wr_col (by omega), e, wr_col (by omega)]) ⟨by rw [e62, wr_col (by decide), e, wr_col (by decide)], Or.inr ⟨rfl, Or.inl ⟨by rw [e62, wr_at, e, wr_col (by decide)], by rw [e62, wr_col (by decide), e, wr_col (by decide)]⟩⟩⟩
theorem loop_pa {w b q g : Nat} : ∀ (n : Nat) (v i : Int32) (A A' : Mm), AtG w b q g A → f_X8_workHour_L51 w q n v i A = some A' → (v = 0 → Pa w b q 1 A A') ∧ (¬ v = 0 → A' = A) := by
  intro n
  induction n with
  | zero => intro v i A A' _ h; rw [f_X8_workHour_L51] at h; cases h
  | succ n ih =>
    intro v i A A' hA h
    rw [f_X8_workHour_L51] at h
    have hh := it_c h; clear h; rcases hh with ⟨hsp, h⟩ | ⟨hsp, h⟩
    · cases h; exact ⟨fun _ => Pa.refl _ _ _ _ _, fun _ => rfl⟩
    · have hh := it_c h; clear h; rcases hh with ⟨hsp, h⟩ | ⟨hsp, h⟩
      · have hv := hsp
        refine ⟨fun _ => ?_, fun z => absurd hv z⟩
        obtain ⟨x12, M13, h13, h⟩ := bd2_s h
        have k1 := (rs_w h13).pa hA 0
        have A13 := hA.pa k1
        obtain ⟨x16, M17, h17, h⟩ := bd2_s h
        have k2 := co_pa A13 h17
        have A17 := A13.pa k2
        obtain ⟨x20, -, h⟩ := lz_s h
        obtain ⟨j1, j2⟩ := ih _ _ _ _ A17 h
        by_cases hz : x16 = 0
        · subst hz
          exact k1.comp (k2.comp (j1 rfl))
        · rw [j2 hz]
          refine k1.comp ⟨k2.1, k2.2.1, ⟨k2.2.2.1.1, ?_⟩, k2.2.2.2⟩
          rcases k2.2.2.1.2 with h | ⟨-, h⟩
          · exact Or.inl h
          · exact Or.inr ⟨rfl, h⟩
      · have hv := hsp
        cases h
        exact ⟨fun z => absurd z hv, fun _ => rfl⟩
/-- an hour of a gang -/
theorem work_pa {w b g : Nat} {A A' : Mm} (hw : Wb w b) (hg : g < 4) (h : f_X8_workHour w (b + 10 + 2 * g) A = some A') : (BdC b A → BdG (b + 10 + 2 * g) A → BdC b A' ∧ BdG (b + 10 + 2 * g) A') ∧ TT b (b + 10 + 2 * g) A' = TT b (b + 10 + 2 * g) A ∧ A' (b + 10 + 2 * g) 7 = A (b + 10 + 2 * g) 7 + 1 ∧ ((A' (b + 10 + 2 * g) 5 = A (b + 10 + 2 * g) 5 ∧ A' (b + 10 + 2 * g) 6 = A (b + 10 + 2 * g) 6) ∨ (A' (b + 10 + 2 * g) 5 = A (b + 10 + 2 * g) 5 + 1 ∧ A' (b + 10 + 2 * g) 6 = A (b + 10 + 2 * g) 6) ∨ (A' (b + 10 + 2 * g) 5 = A (b + 10 + 2 * g) 5 ∧ A' (b + 10 + 2 * g) 6 = A (b + 10 + 2 * g) 6 + 1)) := by
  generalize hq : b + 10 + 2 * g = q at *
  rw [f_X8_workHour] at h
  obtain ⟨M1, e1, h⟩ := lz_s h
  have A1 : AtG w b q g M1 := ⟨hw, hg, hq.symm, by rw [e1, wr_at]⟩
  have hN := A1.ne
  have f1 : ∀ i, i ≠ w → M1 i = A i := fun i hi => by rw [e1, wr_ne hi]
  obtain ⟨-, h⟩ := it_s h
  rw [A1.rid] at h
  obtain ⟨M4, e4, h⟩ := lz_s h
  have f4 : ∀ i, i ≠ q → M4 i = M1 i := fun i hi => by rw [e4, wr_ne hi]
  have A4 : AtG w b q g M4 := ⟨hw, hg, hq.symm, by rw [f4 w (fun z => hN.1 z.symm)]; exact A1.2.2.2⟩
  have c4 : ∀ j, j ≠ 7 → M4 q j = A q j := fun j hj => by rw [e4, wr_col hj, f1 q hN.1]
  have c7 : M4 q 7 = A q 7 + 1 := by rw [e4, wr_at, f1 q hN.1]
  have b4 : ∀ k, k < 10 → M4 (b + k) = A (b + k) := fun k hk => by rw [f4 _ (fun z => hN.2.2.2.1 k hk z.symm), f1 _ (hN.2.2.2.2.2.1 k (by omega))]
  have b40 : M4 b = A b := b4 0 (by omega)
  have P4 : (BdC b A → BdG q A → BdC b M4 ∧ BdG q M4) ∧ TT b q M4 = TT b q A := by
    refine ⟨fun x y => ⟨x.congr (fun i hi => b4 i (by omega)), y.congr (fun j hj => c4 j (by omega))⟩, ?_⟩
    unfold TT
    rw [b4 4 (by omega), b40, c4 2 (by decide)]
  obtain ⟨-, h⟩ := it_s h
  have fin : Pa w b q 1 M4 A' → (BdC b A → BdG q A → BdC b A' ∧ BdG q A') ∧ TT b q A' = TT b q A ∧ A' q 7 = A q 7 + 1 ∧ ((A' q 5 = A q 5 ∧ A' q 6 = A q 6) ∨ (A' q 5 = A q 5 + 1 ∧ A' q 6 = A q 6) ∨ (A' q 5 = A q 5 ∧ A' q 6 = A q 6 + 1)) := by
    intro k
    obtain ⟨k1, k2, ⟨k3, k4⟩, -⟩ := k
    rw [c4 5 (by decide), c4 6 (by decide)] at k4
    refine ⟨fun x y => k1 (P4.1 x y).1 (P4.1 x y).2, k2.trans P4.2, k3.trans c7, ?_⟩
    rcases k4 with h | ⟨-, h⟩
    · exact Or.inl h
    · exact Or.inr h
  have hh := it_c h; clear h; rcases hh with ⟨hsp, h⟩ | ⟨hsp, h⟩
  · obtain ⟨M8, e8, h⟩ := lz_s h
    have k8 : Pa w b q 0 M4 M8 := by
      subst e8
      exact Wk.pa A4 ⟨fun i hi _ => wr_ne hi, fun j _ hj => wr_col hj⟩ 0
    have A8 := A4.pa k8
    obtain ⟨M23, h23, h⟩ := bd1_s h
    cases h
    exact fin (k8.comp ((loop_pa _ _ _ _ _ A8 h23).1 rfl))
  · obtain ⟨-, h⟩ := it_s h
    rw [A4.rid] at h
    obtain ⟨M25, e25, h⟩ := lz_s h
    cases h
    subst e25
    exact fin (Pa.own A4 (fun i h1 _ => wr_ne h1) (fun j hj => wr_col (by omega)) (Hs.same (fun j hj => wr_col (by omega)) 1))
