/-! needs 30 31 32 39 50 51 52 53 54 55 56 57 58 59 60 61 62 63 64 65 66 67 68 -/
/-! from the tape to the text's end, in both -/
def FtP (p : Nat) (A A' : Mm) : Prop := ∀ r c, (r < 3 ∨ 9 < r) → (r < p ∨ p + 5 < r) → A' r c = A r c
def FtQ (B B' : Mm) : Prop := ∀ r c, ¬ (r = 69 ∧ (c = 0 ∨ (11 ≤ c ∧ c ≤ 21))) → ¬ (75 ≤ r ∧ r ≤ 80) → B' r c = B r c
def tB (B : Mm) : Mm := wr (wr (wr (wr (wr (wr (wr (wr B 69 0 0) 69 11 0) 69 12 0) 69 13 0) 69 17 0) 69 18 0) 69 19 0) 69 20 0
def tA (p : Nat) (A : Mm) : Mm := wr (wr (wr (wr (wr (wr (wr A 3 3 (nI (p + 1))) p 2 0) p 6 0) 3 4 0) 3 2 0) 3 5 0) 3 6 (-1)
theorem tB_o {B : Mm} {r c : Nat} (h : ¬ (r = 69 ∧ (c = 0 ∨ (11 ≤ c ∧ c ≤ 20)))) : tB B r c = B r c := by
  unfold tB
  rw [wr_o (by omega), wr_o (by omega), wr_o (by omega), wr_o (by omega), wr_o (by omega), wr_o (by omega), wr_o (by omega), wr_o (by omega)]
theorem tB_0 (B : Mm) {c : Nat} (h : c = 0 ∨ c = 11 ∨ c = 12 ∨ c = 13 ∨ c = 17 ∨ c = 18 ∨ c = 19 ∨ c = 20) : tB B 69 c = 0 := by
  unfold tB
  rcases h with rfl | rfl | rfl | rfl | rfl | rfl | rfl | rfl <;> simp [wr]
theorem tA_o {p : Nat} {A : Mm} {r c : Nat} (h : r ≠ 3 ∨ (c ≠ 2 ∧ c ≠ 3 ∧ c ≠ 4 ∧ c ≠ 5 ∧ c ≠ 6)) (h2 : r ≠ p ∨ (c ≠ 2 ∧ c ≠ 6)) : tA p A r c = A r c := by
  unfold tA
  rw [wr_o (by omega), wr_o (by omega), wr_o (by omega), wr_o (by omega), wr_o (by omega), wr_o (by omega), wr_o (by omega)]
theorem tpos_0 (T : Nat → Int32) (L : Nat) : tpos T L 0 = 0 := rfl
theorem parse_ok {A B : Mm} {L p : Nat} (hL : L ≤ 2000) (hb : B 69 2 = nI L) (hy : ∀ k, k < L → Byt (A 1 k) (B 70 k)) (hp : p = 10 ∨ p = 16 ∨ p = 22) :
    ∃ y A' B1 B', f_X4_parse 3 1 (nI L) p A = some A' ∧ f_X11_advance 69 (tB B) = some B1 ∧ f_X11_text 69 B1 = some (y, B') ∧ FtP p A A' ∧ FtQ B B' ∧ B' 69 0 = 0 ∧ ((y = 0 ∧ Fail A' B' ∧ A' 3 5 = 1) ∨ (y = 1 ∧ ∃ N i many la sb ea fa P, TxS (B 70) L N p i many la sb ea fa P A' B')) := by
  have him : imin (nI L) 2000 = nI L := by
    unfold imin
    rw [if_neg (show ¬ (2000 : Int32) < nI L from fun e => by have := (n_lt (a := 2000) (by omega) (by omega)).mp e; omega)]
  obtain ⟨A1, N, s1, s2, s3, s4⟩ := A_scans (A := A) (B := B) hL him hb hy
  have e70 : tB B 70 = B 70 := funext fun c => tB_o (by omega)
  have hTB : TapB L (tB B) := ⟨hL, by rw [tB_o (by omega)]; exact hb, fun k hk => by rw [e70]; exact (hy k hk).1⟩
  obtain ⟨B1, a1, a2, a3⟩ := adv_tok (i := 0) hTB (by omega) (by rw [tB_0 B (by omega), e70, tpos_0]; rfl) (by rw [tB_0 B (by omega)]; rfl)
  rw [e70] at a3
  have hB1 : ∀ c, c < 12 ∨ 16 < c → B1 69 c = tB B 69 c := fun c h => a2 69 c (by omega)
  have hB70 : B1 70 = B 70 := (funext fun c => a2 70 c (by omega)).trans e70
  have h3 : ∀ c, tA p A1 3 c = if c = 2 ∨ c = 4 ∨ c = 5 then 0 else if c = 6 then -1 else if c = 3 then nI (p + 1) else A1 3 c := by
    intro c
    unfold tA
    simp only [wr]
    have : p ≠ 3 := by omega
    by_cases h2 : c = 2
    · subst h2; simp
    by_cases h4 : c = 4
    · subst h4; simp
    by_cases h5 : c = 5
    · subst h5; simp
    by_cases h6 : c = 6
    · subst h6; simp
    by_cases h33 : c = 3
    · subst h33; simp; try omega
    simp [h2, h4, h5, h6, h33]
    try omega
  have hp2 : tA p A1 p 2 = 0 := by
    unfold tA
    rw [wr_o (by omega), wr_o (by omega), wr_o (by omega), wr_o (by omega), wr_o (by omega), wr_at]
  have hp6 : tA p A1 p 6 = 0 := by
    unfold tA
    rw [wr_o (by omega), wr_o (by omega), wr_o (by omega), wr_o (by omega), wr_at]
  have hT : TxS (B 70) L N p 0 0 0 0 0 (-1) (fun _ _ _ => False) (tA p A1) B1 := by
    refine ⟨⟨⟨⟨s2.1, s2.2.1, s2.2.2.1, fun j hj => ?_⟩, ⟨hL, ?_, ?_, fun k hk => ?_⟩, ?_, hp⟩, Nat.zero_le _, ?_, hp2, ?_, ?_⟩, ⟨hB70, ⟨hL, ?_, fun k hk => ?_⟩, a3, ?_, ?_, ?_, ?_, fun e => absurd rfl e⟩, Nat.le_refl _, Nat.le_refl _, Nat.le_refl _, fun _ => rfl, ⟨?_, fun e => by omega⟩, ⟨?_, fun _ => 0, fun k hk => absurd hk (Nat.not_lt_zero _)⟩, ⟨⟨0, by omega, hp6⟩, fun _ => ⟨hp6, fun k hk => absurd hk (Nat.not_lt_zero _)⟩⟩, fun _ _ _ _ _ _ _ _ _ _ _ _ _ _ h => h.elim⟩
    · rw [tA_o (r := 5) (by omega) (by omega), tA_o (r := 6) (by omega) (by omega), tA_o (r := 7) (by omega) (by omega)]; exact s2.2.2.2 j hj
    · rw [tA_o (by omega) (by omega)]; exact s3.2.1
    · rw [tA_o (by omega) (by omega)]; exact s3.2.2.1
    · rw [tA_o (by omega) (by omega)]; exact s3.2.2.2.2 k hk
    · rw [h3, if_neg (by omega), if_neg (by omega), if_pos rfl]
    · rw [h3, if_pos (by omega)]; rfl
    · rw [h3, if_pos (by omega)]
    · rw [h3, if_neg (by omega), if_pos rfl]
    · rw [hB1 2 (by omega), tB_o (by omega)]; exact hb
    · rw [hB70]; exact (hy k hk).1
    · rw [hB1 11 (by omega), tB_0 B (by omega)]; rfl
    · rw [hB1 17 (by omega), tB_0 B (by omega)]; rfl
    · rw [hB1 18 (by omega), tB_0 B (by omega)]; rfl
    · rw [hB1 20 (by omega), tB_0 B (by omega)]
    · rw [hB1 19 (by omega), tB_0 B (by omega)]; rfl
    · rw [h3, if_pos (by omega)]; rfl
  obtain ⟨y, A', B', t1, t2, t3, t4, t5⟩ := text_ok (i1 := 1) (i3 := p) hT
  refine ⟨y, A', B1, B', ?_, a1, t2, fun r c h1 h2 => ?_, fun r c h1 h2 => ?_, ?_, ?_⟩
  · have hok : okr 2 (wr A1 3 3 (nI (p + 1)) 3 3) := by
      rw [wr_at]
      refine ⟨?_, ?_⟩
      · rw [nI_clamp (by omega)]; omega
      · rw [nI_clamp (by omega)]; rcases hp with rfl | rfl | rfl <;> rfl
    have hrid : rid (wr A1 3 3 (nI (p + 1)) 3 3) = p := by
      rw [wr_at]
      show (nI (p + 1)).toNatClampNeg - 1 = p
      rw [nI_clamp (by omega)]; omega
    rw [f_X4_parse, show (3 + 1 : Nat) = 4 from rfl, s1, bd1_e, lz_e, if_pos hok, hrid, f_X5_clear]
    simp only [lz_e]
    rw [bd1_e]
    exact t1
  · rw [t3 r c (by omega) (by omega) (by omega) (by omega), tA_o (by omega) (by omega), s4 r c (by omega)]
  · rw [t4 r c (by omega) (by omega), a2 r c (by omega), tB_o (by omega)]
  · rw [t4 69 0 (by omega) (by omega), hB1 0 (by omega), tB_0 B (by omega)]
  · rcases t5 with ⟨rfl, hf⟩ | ⟨rfl, i', many, la, sb, ea, fa, P', g⟩
    · exact Or.inl ⟨rfl, hf, hf.1⟩
    · exact Or.inr ⟨rfl, N, i', many, la, sb, ea, fa, P', g⟩
