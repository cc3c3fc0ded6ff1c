/-! needs 30 31 32 33 34 35 36 37 38 39 43 50 51 52 53 54 55 56 57 58 59 60 61 62 63 64 65 66 67 -/
/-! a whole text beside a text -/
section TE
variable {T : Nat → Int32} {L N p i la sb s d many : Nat} {ea fa : Int32} {A B : Mm} {P : PS}
theorem text_loop {i1 i3 : Nat} : ∀ (k i many la sb nA nB : Nat) (ea fa : Int32) (P : PS) (A B : Mm), 400 - i ≤ k → k + 1 < nA → k < nB → TxS T L N p i many la sb ea fa P A B → ∃ x y A' B', f_X4_parse_L47 3 i1 i3 nA 1 (nI many) A = some (x, A') ∧ f_X11_text_L0 69 nB B = some (y, B') ∧ FtA p A A' ∧ FtB B B' ∧ ((x = 0 ∧ y = 0 ∧ Fail A' B') ∨ (x = 1 ∧ ∃ i' many' la' sb' ea' fa' P', TxS T L N p i' many' la' sb' ea' fa' P' A' B' ∧ y = if tk T L i' = 49 then 1 else 0)) := by
  intro k
  induction k with
  | zero =>
    intro i many la sb nA nB ea fa P A B hk hnA hnB h
    obtain ⟨m, rfl⟩ : ∃ m, nA = m + 1 := ⟨nA - 1, by omega⟩
    obtain ⟨m', rfl⟩ : ∃ m, nB = m + 1 := ⟨nB - 1, by omega⟩
    have hA := h.1
    have hB := h.2.1
    have hi := hA.le
    have hm := h.2.2.2.2.1
    have hT := (tk_le T L i).1
    have hkd := kdB_n hT
    have h0 : tk T L i ≠ 0 := fun e => by have := (hA.next (by omega)).le; omega
    refine ⟨1, _, A, B, ?_, ?_, FtA.refl _ _, FtB.refl _, Or.inr ⟨rfl, i, many, la, sb, ea, fa, P, h, rfl⟩⟩
    · rw [f_X4_parse_L47, if_neg (c400 (by omega)), if_neg (show ¬ (1 : Int32) = 0 by decide), hA.kind, bd1_e, if_pos (tkc_n hT), if_neg (show ¬ nI (1001 + tk T L i) = 1001 from fun e => h0 ((teq (u := 0) hT (by omega)).mp e))]
    · rw [f_X11_text_L0, hB.reads (c := 0) (u := 0) rfl (by omega), lz_e, if_neg h0, if_pos rfl, hB.kd]
      by_cases z : tk T L i = 49
      · rw [if_pos (hkd.2.2.2.mpr z), if_pos z]
      · rw [if_neg (fun e => z (hkd.2.2.2.mp e)), if_neg z]
  | succ k ih =>
    intro i many la sb nA nB ea fa P A B hk hnA hnB h
    obtain ⟨m, rfl⟩ : ∃ m, nA = m + 2 := ⟨nA - 2, by omega⟩
    obtain ⟨m', rfl⟩ : ∃ m, nB = m + 1 := ⟨nB - 1, by omega⟩
    have hA := h.1
    have hB := h.2.1
    have hi := hA.le
    have hm := h.2.2.2.2.1
    have hT := (tk_le T L i).1
    have hkd := kdB_n hT
    by_cases h0 : tk T L i = 0
    · obtain ⟨x, A1, B1, c1, c2, c3, c4, c5⟩ := gang_ok h h0
      rw [f_X4_parse_L47, if_neg (c400 (by omega)), if_neg (show ¬ (1 : Int32) = 0 by decide), hA.kind, bd1_e, if_pos (tkc_n hT), if_pos (show nI (1001 + tk T L i) = 1001 by rw [h0]; rfl), c1, bd2_e, n_suc, lz_e, f_X11_text_L0, hB.reads (c := 0) (u := 0) rfl (by omega), lz_e, if_pos h0, if_neg (show ¬ (1 : Int32) = 0 by decide), c2, bd2_e]
      rcases c5 with ⟨rfl, hf⟩ | ⟨rfl, i', la', sb', ea', fa', P', g1, g2⟩
      · refine ⟨0, 0, A1, B1, ?_, if_pos rfl, c3, c4, Or.inl ⟨rfl, rfl, hf⟩⟩
        rw [f_X4_parse_L47, if_pos (show (0 : Int32) = 0 from rfl)]; split <;> rfl
      · have hi' := g2.1.le
        rw [if_neg (show ¬ (1 : Int32) = 0 by decide)]
        obtain ⟨x, y, A', B', r1, r2, r3, r4, r5⟩ := ih i' (many + 1) la' sb' (m + 1) m' ea' fa' P' A1 B1 (by omega) (by omega) (by omega) g2
        exact ⟨x, y, A', B', r1, r2, c3.trans r3, c4.trans r4, r5⟩
    · refine ⟨1, _, A, B, ?_, ?_, FtA.refl _ _, FtB.refl _, Or.inr ⟨rfl, i, many, la, sb, ea, fa, P, h, rfl⟩⟩
      · rw [f_X4_parse_L47, if_neg (c400 (by omega)), if_neg (show ¬ (1 : Int32) = 0 by decide), hA.kind, bd1_e, if_pos (tkc_n hT), if_neg (show ¬ nI (1001 + tk T L i) = 1001 from fun e => h0 ((teq (u := 0) hT (by omega)).mp e))]
      · rw [f_X11_text_L0, hB.reads (c := 0) (u := 0) rfl (by omega), lz_e, if_neg h0, if_pos rfl, hB.kd]
        by_cases z : tk T L i = 49
        · rw [if_pos (hkd.2.2.2.mpr z), if_pos z]
        · rw [if_neg (fun e => z (hkd.2.2.2.mp e)), if_neg z]
/-- the class's parse and the reference's text, told -/
theorem text_ok {i1 i3 : Nat} (h : TxS T L N p 0 0 0 0 0 (-1) P A B) : ∃ y A' B', (bd2 (f_X4_parse_L47 3 i1 i3 FU (1 : Int32) (0 : Int32) A) fun x32 M33 => if (x32 = 0) then (some M33) else (bd1 (f_X4_kind 3 M33) fun x35 => if tkc x35 then (if (x35 = (1050 : Int32)) then (some M33) else (bd2 (f_X4_refuse 3 M33) fun x40 M41 => some M41)) else none)) = some A' ∧ f_X11_text 69 B = some (y, B') ∧ FtA p A A' ∧ FtB B B' ∧ ((y = 0 ∧ Fail A' B') ∨ (y = 1 ∧ ∃ i' many' la' sb' ea' fa' P', TxS T L N p i' many' la' sb' ea' fa' P' A' B')) := by
  obtain ⟨x, y, A', B', r1, r2, r3, r4, r5⟩ := text_loop (i1 := i1) (i3 := i3) 400 0 0 0 0 FU FU 0 (-1) P A B (by omega) (by unfold FU; omega) (by unfold FU; omega) h
  have r1' : f_X4_parse_L47 3 i1 i3 FU 1 0 A = some (x, A') := r1
  rw [r1', bd2_e]
  rcases r5 with ⟨rfl, rfl, hf⟩ | ⟨rfl, i', many', la', sb', ea', fa', P', g1, rfl⟩
  · exact ⟨0, A', B', if_pos rfl, r2, r3, r4, Or.inl ⟨rfl, hf⟩⟩
  · have hT := (tk_le T L i').1
    rw [if_neg (show ¬ (1 : Int32) = 0 by decide), g1.1.kind, bd1_e, if_pos (tkc_n hT)]
    by_cases z : tk T L i' = 49
    · rw [if_pos z] at r2
      exact ⟨1, A', B', if_pos (by rw [z]; rfl), r2, r3, r4, Or.inr ⟨rfl, i', many', la', sb', ea', fa', P', g1⟩⟩
    · rw [if_neg z] at r2
      refine ⟨0, rfA A' (tst T L i'), B', ?_, r2, r3.trans (rfA_fr p 0 _ _).ft, r4, Or.inl ⟨rfl, fail_at g1.1 g1.2.1⟩⟩
      rw [if_neg (show ¬ nI (1001 + tk T L i') = 1050 from fun e => z ((teq (u := 49) hT (by omega)).mp e)), g1.1.refuse, bd2_e]
end TE
