/-! needs 30 31 32 50 51 52 53 54 -/
/-! sums beside each other -/
def Fail (A B : Mm) : Prop := A 3 5 = 1 ∧ A 3 6 = B 69 15
def EOk (T : Nat → Int32) (L N p i d la sb s : Nat) (ea fa : Int32) (t : Bool) (H : Nat) (A B : Mm) : Prop := ∃ i' la' sb' n, i < i' ∧ AtA T L N p i' la' ea fa A ∧ AtB T L i' d sb' s ea fa B ∧ la < la' ∧ sb < sb' ∧ la' + i ≤ la + i' ∧ sb' + 2 * i ≤ sb + 2 * i' ∧ ∀ τ : List Bool, τ.length + H ≤ 60 → Seg (A (p + 1)) (A (p + 2)) (B 75) n la sb τ la' sb' (t :: τ)
def EPost (T : Nat → Int32) (L N p i d la sb s : Nat) (ea fa : Int32) (t : Bool) (H : Nat) (A B : Mm) (x : Int32) (A' B' : Mm) : Prop := FrA p la A A' ∧ FrB sb B B' ∧ ((x = 0 ∧ Fail A' B') ∨ (x = 1 ∧ EOk T L N p i d la sb s ea fa t H A' B'))
abbrev Rc : Type := Nat → Nat → Int32 → Mm → Option (Int32 × Mm)
def EW (T : Nat → Int32) (L N p d : Nat) (FA FB : Mm → Option (Int32 × Mm)) (t : Bool) (H : Nat) : Prop := ∀ (i la sb s : Nat) (ea fa : Int32) (A B : Mm), AtA T L N p i la ea fa A → AtB T L i d sb s ea fa B → la + 10 ≤ 2 * i → sb ≤ 4 * i → ∃ x A' B', FA A = some (x, A') ∧ FB B = some (x, B') ∧ EPost T L N p i d la sb s ea fa t H A B x A' B'
theorem Seg.one {oA rA cB : Nat → Int32} {a b b1 : Nat} {τ τ1 : List Bool} (h : Ins oA rA cB a b τ b1 τ1) (hl : τ1.length ≤ 60) : Seg oA rA cB 1 a b τ (a + 1) b1 τ1 := ⟨b1, τ1, h, hl, rfl, rfl, rfl⟩
theorem Seg.fr {p n a b a' b' : Nat} {τ τ' : List Bool} {A1 A2 B1 B2 : Mm} (h : Seg (A1 (p + 1)) (A1 (p + 2)) (B1 75) n a b τ a' b' τ') (hp : p = 10 ∨ p = 16 ∨ p = 22) (k : FrA p a' A1 A2) (m : FrB b' B1 B2) : Seg (A2 (p + 1)) (A2 (p + 2)) (B2 75) n a b τ a' b' τ' :=
  h.congr (fun j h1 h2 => ⟨k.1 (p + 1) j (by omega) (by omega) (by omega), k.1 (p + 2) j (by omega) (by omega) (by omega)⟩) (fun j h1 h2 => m 75 j (by omega) (by omega))
def V (d : Nat) : Nat := 25 - 3 * d
theorem fail_at {T : Nat → Int32} {L N p i d la sb s : Nat} {ea fa : Int32} {A B : Mm} (hA : AtA T L N p i la ea fa A) (hB : AtB T L i d sb s ea fa B) : Fail (rfA A (tst T L i)) B := ⟨(rfA_5 _ _).1, by rw [(rfA_5 _ _).2, hB.st]⟩
def pairB (RB : Rc) (c : Int32) (B : Mm) : Option (Int32 × Mm) := bd1 (f_X11_advance 69 B) fun M54 => lz (f_X11_sees 69 (40 : Int32) M54) fun x57 => if (x57 = 0) then (some ((0 : Int32), M54)) else (bd2 (f_X11_deeper 69 M54) fun x61 M62 => if (x61 = 0) then (some ((0 : Int32), M62)) else (bd2 (RB 8 69 (0 : Int32) M62) fun x66 M67 => if (x66 = 0) then (some ((0 : Int32), M67)) else (bd2 (f_X11_passSymbol 69 (44 : Int32) M67) fun x71 M72 => if (x71 = 0) then (some ((0 : Int32), M72)) else (bd2 (RB 8 69 (0 : Int32) M72) fun x76 M77 => if (x76 = 0) then (some ((0 : Int32), M77)) else (bd2 (f_X11_shallower 69 (41 : Int32) M77) fun x81 M82 => if (x81 = 0) then (some ((0 : Int32), M82)) else (bd1 (f_X11_put 69 c M82) fun M86 => some ((1 : Int32), M86)))))))
section EV
variable {T : Nat → Int32} {L N p i d la sb s : Nat} {ea fa : Int32} {A B : Mm} {RA RB : Rc}
theorem AtB.wdep {d' : Nat} (h : AtB T L i (d' + 1) sb s ea fa B) (hd : d' < 8) : wr B 69 17 (B 69 17 - (1 : Int32)) = wr B 69 17 (nI d') := by
  rw [h.2.2.2.2.1, show nI (d' + 1) - 1 = nI d' from n_sub (b := 1) (by omega) (by omega)]
theorem val_num (hA : AtA T L N p i la ea fa A) (hB : AtB T L i d sb s ea fa B) (hl : la + 10 ≤ 2 * i) (hs : sb ≤ 4 * i) (hd : d ≤ 8) (ht : tk T L i = 48) : ∃ x A' B', f_X4_value RA 3 (nI d) A = some (x, A') ∧ f_X11_value RB 69 B = some (x, B') ∧ EPost T L N p i d la sb s ea fa false (V d) A B x A' B' := by
  have hi := hA.le
  have hp := hA.1.2.2.2
  have nA := hA.next (by omega)
  obtain ⟨m1, m2⟩ := nA.emit (by omega) 0 (isB T L (tst T L i) 48)
  obtain ⟨q1, q2⟩ := hB.put (by omega) 50
  have e16 : puB sb 50 B 69 16 = isB T L (tst T L i) 48 := by rw [q2.is (by omega), ht]
  obtain ⟨r1, r2⟩ := q2.put (by omega) (puB sb 50 B 69 16)
  have hN := hA.2.1
  have hN4 := nA.le
  obtain ⟨B', a1, a2, a3⟩ := r2.adv (by omega) (by omega)
  refine ⟨1, emA p la 0 (isB T L (tst T L i) 48) (nxA A i), B', ?_, ?_, ?_, ?_, Or.inr ⟨rfl, i + 1, la + 1, sb + 1 + 1, 1, by omega, m2, a2, by omega, by omega, by omega, by omega, fun τ hτ => ?_⟩⟩
  · rw [f_X4_value, hA.kind, bd1_e, ht, if_pos (tkc_n (by omega)), if_pos (show nI (1001 + 48) = 1049 from rfl), hA.nx, lz_e, if_pos nA.okp, nA.2.2.1, show nI (i + 1) - 1 = nI i from n_sub (b := 1) (by omega) (by omega), show (3 + 1 : Nat) = 4 from rfl, numA nA.1 hN ht, bd1_e, nA.ridp, m1, bd2_e]
  · rw [f_X11_value, hB.kd, ht, if_pos (show kdB 48 = 3 from rfl), q1, bd1_e, r1, bd1_e, a1, bd1_e]
  · exact (nxA_fr p la A i).trans (emA_fr _ _ _ _ _) (Nat.le_refl _)
  · exact ((puB_fr sb 50 B).trans (puB_fr _ _ _) (by omega)).trans a3.frB (Nat.le_refl sb)
  · have c1 : B' 75 sb = 50 := by rw [a3.row (by decide), puB_o (by omega) (by omega), puB_at]
    have c2 : B' 75 (sb + 1) = isB T L (tst T L i) 48 := by rw [a3.row (by decide), puB_at, e16]
    obtain ⟨o1, o2, -⟩ := emA_op p la 0 (isB T L (tst T L i) 48) (nxA A i)
    refine Seg.one (Or.inl ⟨o1, c1, c2.trans o2.symm, rfl, rfl⟩) ?_
    unfold V at hτ
    show τ.length + 1 ≤ 60
    omega
theorem rd_op : ∀ t, t < 25 → 12 ≤ t → tkG.getD t 0 = 1 ∧ tkO.getD t 0 = nI (16 + (t - 12)) := by decide +kernel
theorem val_read (hA : AtA T L N p i la ea fa A) (hB : AtB T L i d sb s ea fa B) (hl : la + 10 ≤ 2 * i) (hs : sb ≤ 4 * i) (hd : d ≤ 8) (ht : 12 ≤ tk T L i ∧ tk T L i ≤ 24) : ∃ x A' B', f_X4_value RA 3 (nI d) A = some (x, A') ∧ f_X11_value RB 69 B = some (x, B') ∧ EPost T L N p i d la sb s ea fa false (V d) A B x A' B' := by
  have hi := hA.le
  have hp := hA.1.2.2.2
  have nA := hA.next (by omega)
  obtain ⟨g1, g2⟩ := rd_op _ (show tk T L i < 25 by omega) ht.1
  obtain ⟨m1, m2⟩ := nA.emit (by omega) (nI (16 + (tk T L i - 12))) 0
  obtain ⟨q1, q2⟩ := hB.put (by omega) (B 69 16)
  have e16 : B 69 16 = nI (tk T L i) := by
    rw [hB.is (by omega)]; unfold isB; rw [if_pos (by omega)]
  have hN := hA.2.1
  have hN4 := nA.le
  obtain ⟨B', a1, a2, a3⟩ := q2.adv (by omega) (by omega)
  have hk := kdB_n (tk_le T L i).1
  refine ⟨1, emA p la (nI (16 + (tk T L i - 12))) 0 (nxA A i), B', ?_, ?_, ?_, ?_, Or.inr ⟨rfl, i + 1, la + 1, sb + 1, 1, by omega, m2, a2, by omega, by omega, by omega, by omega, fun τ hτ => ?_⟩⟩
  · rw [f_X4_value, hA.kind, bd1_e, if_pos (tkc_n (by omega)), if_neg (show ¬ nI (1001 + tk T L i) = 1049 from fun e => by have := (teq (u := 48) (by omega) (by omega)).mp e; omega), if_pos (tkc_n (by omega)), gr_n (by omega), g1, if_pos rfl, hA.nx, lz_e, if_pos nA.okp, if_pos (tkc_n (by omega)), op_n (by omega), g2, nA.ridp, m1, bd2_e]
  · rw [f_X11_value, hB.kd, if_neg (fun e => by have := hk.2.2.1.mp e; omega), if_pos (hk.1.mpr (by omega))]
    have e : f_X11_isIn (B 69 16) 12 24 = 1 := by
      rw [f_X11_isIn, e16, if_neg (show ¬ nI (tk T L i) < 12 from fun x => by have := (n_lt (b := 12) (by omega) (by omega)).mp x; omega), if_neg (show ¬ (24 : Int32) < nI (tk T L i) from fun x => by have := (n_lt (a := 24) (by omega) (by omega)).mp x; omega)]
    rw [e, lz_e, if_neg (show ¬ (1 : Int32) = 0 by decide), q1, bd1_e, a1, bd1_e]
  · exact (nxA_fr p la A i).trans (emA_fr _ _ _ _ _) (Nat.le_refl _)
  · exact (puB_fr sb _ B).trans a3.frB (Nat.le_refl sb)
  · have c1 : B' 75 sb = nI (12 + (tk T L i - 12)) := by rw [a3.row (by decide), puB_at, e16, show 12 + (tk T L i - 12) = tk T L i by omega]
    obtain ⟨o1, o2, -⟩ := emA_op p la (nI (16 + (tk T L i - 12))) 0 (nxA A i)
    refine Seg.one (Or.inr (Or.inl ⟨tk T L i - 12, by omega, o1, c1, rfl, rfl⟩)) ?_
    unfold V at hτ
    show τ.length + 1 ≤ 60
    omega
theorem val_minus (hA : AtA T L N p i la ea fa A) (hB : AtB T L i d sb s ea fa B) (hl : la + 10 ≤ 2 * i) (hs : sb ≤ 4 * i) (hd : d ≤ 8) (ht : tk T L i = 39) (hr : d < 8 → EW T L N p (d + 1) (fun M => RA 10 3 (nI (d + 1)) M) (fun M => RB 10 69 0 M) false (V (d + 1))) : ∃ x A' B', f_X4_value RA 3 (nI d) A = some (x, A') ∧ f_X11_value RB 69 B = some (x, B') ∧ EPost T L N p i d la sb s ea fa false (V d) A B x A' B' := by
  have hi := hA.le
  have hp := hA.1.2.2.2
  have nA := hA.next (by omega)
  have hN4 := nA.le
  rw [f_X4_value, hA.kind, bd1_e, ht, if_pos (tkc_n (by omega)), if_neg (by decide), if_pos (tkc_n (by omega)), if_neg (by decide), if_pos (tkc_n (by omega)), if_pos (by decide), f_X11_value, hB.kd, ht, if_neg (by decide), if_neg (by decide), hB.sees (c := 45) (u := 39) rfl (by omega), if_pos ht, lz_e, if_neg (show ¬ (1 : Int32) = 0 by decide), n_suc]
  by_cases hd8 : d < 8
  · obtain ⟨B1, b1, b2, b3⟩ := hB.deepY hd8 (by omega) (by omega)
    rw [hA.entY (c := 1040) (u := 39) rfl (by omega) ht hd8, bd2_e, if_neg (show ¬ (1 : Int32) = 0 by decide), b1, bd2_e, if_neg (show ¬ (1 : Int32) = 0 by decide)]
    obtain ⟨x, A2, B2, c1, c2, c3, c4, c5⟩ := hr hd8 (i + 1) la sb s ea fa _ _ nA b2 (by omega) (by omega)
    have c1' : RA 10 3 (nI (d + 1)) (nxA A i) = some (x, A2) := c1
    have c2' : RB 10 69 0 B1 = some (x, B2) := c2
    rw [c1', c2', bd2_e, bd2_e]
    rcases c5 with ⟨rfl, hf⟩ | ⟨rfl, i1, la1, sb1, n1, g1, g2, g3, g4, g5, g6, g7, g8⟩
    · exact ⟨0, A2, B2, if_pos rfl, if_pos rfl, (nxA_fr p la A i).trans c3 (Nat.le_refl _), b3.trans c4 (Nat.le_refl _), Or.inl ⟨rfl, hf⟩⟩
    · have hi1 := g2.le
      obtain ⟨m1, m2⟩ := g2.emit (by omega) 1 0
      obtain ⟨q1, q2⟩ := (g3.dep (d' := d)).put (by omega) 51
      refine ⟨1, emA p la1 1 0 A2, puB sb1 51 (wr B2 69 17 (nI d)), ?_, ?_, ?_, ?_, Or.inr ⟨rfl, i1, la1 + 1, sb1 + 1, n1 + 1, by omega, m2, q2, by omega, by omega, by omega, by omega, fun τ hτ => ?_⟩⟩
      · rw [if_neg (show ¬ (1 : Int32) = 0 by decide), if_pos g2.okp, g2.ridp, m1, bd2_e, if_neg (show ¬ (1 : Int32) = 0 by decide)]
      · rw [if_neg (show ¬ (1 : Int32) = 0 by decide), g3.wdep hd8, lz_e, q1, bd1_e]
      · exact ((nxA_fr p la A i).trans c3 (Nat.le_refl _)).trans (emA_fr _ _ _ _ _) (by omega)
      · exact ((b3.trans c4 (Nat.le_refl _)).trans (FrB.w69 (sb := sb1) (by omega)) (by omega)).trans (puB_fr _ _ _) (by omega)
      · have k1 := (g8 τ (by unfold V at hτ ⊢; omega)).fr hp (emA_fr p la1 1 0 A2) ((FrB.w69 (sb := sb1) (c := 17) (v := nI d) (by omega)).trans (puB_fr sb1 51 _) (Nat.le_refl _))
        obtain ⟨o1, -, -⟩ := emA_op p la1 1 0 A2
        refine k1.app (Seg.one (Or.inr (Or.inr (Or.inl ⟨false, τ, o1, puB_at _ _ _, rfl, rfl, rfl⟩))) ?_)
        unfold V at hτ
        show τ.length + 1 ≤ 60
        omega
  · refine ⟨0, rfA A (tst T L i), B, ?_, ?_, rfA_fr _ _ _ _, FrB.refl _ _, Or.inl ⟨rfl, fail_at hA hB⟩⟩
    · rw [hA.entN (c := 1040) (u := 39) rfl (by omega) (Or.inr (by omega)), bd2_e, if_pos rfl]
    · rw [hB.deepN (by omega), bd2_e, if_pos rfl]
theorem val_paren (hA : AtA T L N p i la ea fa A) (hB : AtB T L i d sb s ea fa B) (hl : la + 10 ≤ 2 * i) (hs : sb ≤ 4 * i) (hd : d ≤ 8) (ht : tk T L i = 32) (hr : d < 8 → EW T L N p (d + 1) (fun M => RA 8 3 (nI (d + 1)) M) (fun M => RB 8 69 0 M) false (V (d + 1) + 2)) : ∃ x A' B', f_X4_value RA 3 (nI d) A = some (x, A') ∧ f_X11_value RB 69 B = some (x, B') ∧ EPost T L N p i d la sb s ea fa false (V d) A B x A' B' := by
  have hi := hA.le
  have hp := hA.1.2.2.2
  have nA := hA.next (by omega)
  have hN4 := nA.le
  rw [f_X4_value, hA.kind, bd1_e, ht, if_pos (tkc_n (by omega)), if_neg (by decide), if_pos (tkc_n (by omega)), if_neg (by decide), if_pos (tkc_n (by omega)), if_neg (by decide), if_pos (tkc_n (by omega)), if_pos (by decide), f_X11_value, hB.kd, ht, if_neg (by decide), if_neg (by decide), hB.sees (c := 45) (u := 39) rfl (by omega), if_neg (by omega), lz_e, if_pos rfl, hB.sees (c := 40) (u := 32) rfl (by omega), if_pos ht, lz_e, if_neg (show ¬ (1 : Int32) = 0 by decide), n_suc]
  by_cases hd8 : d < 8
  · obtain ⟨B1, b1, b2, b3⟩ := hB.deepY hd8 (by omega) (by omega)
    rw [hA.entY (c := 1033) (u := 32) rfl (by omega) ht hd8, bd2_e, if_neg (show ¬ (1 : Int32) = 0 by decide), b1, bd2_e, if_neg (show ¬ (1 : Int32) = 0 by decide)]
    obtain ⟨x, A2, B2, c1, c2, c3, c4, c5⟩ := hr hd8 (i + 1) la sb s ea fa _ _ nA b2 (by omega) (by omega)
    have c1' : RA 8 3 (nI (d + 1)) (nxA A i) = some (x, A2) := c1
    have c2' : RB 8 69 0 B1 = some (x, B2) := c2
    rw [c1', c2', bd2_e, bd2_e]
    have f1 := (nxA_fr p la A i).trans c3 (Nat.le_refl _)
    have f2 := b3.trans c4 (Nat.le_refl _)
    rcases c5 with ⟨rfl, hf⟩ | ⟨rfl, i1, la1, sb1, n1, g1, g2, g3, g4, g5, g6, g7, g8⟩
    · exact ⟨0, A2, B2, if_pos rfl, if_pos rfl, f1, f2, Or.inl ⟨rfl, hf⟩⟩
    · have hi1 := g2.le
      rw [if_neg (show ¬ (1 : Int32) = 0 by decide), if_neg (show ¬ (1 : Int32) = 0 by decide)]
      by_cases t2 : tk T L i1 = 33
      · have nA2 := g2.next (by omega)
        have := nA2.le
        obtain ⟨B3, r1, r2, r3⟩ := g3.shalY (c := 41) (u := 33) rfl (by omega) t2 hd8 (by omega)
        refine ⟨1, nxA A2 i1, B3, ?_, ?_, f1.trans (nxA_fr p la A2 i1) (Nat.le_refl _), f2.trans r3 (by omega), Or.inr ⟨rfl, i1 + 1, la1, sb1, n1, by omega, nA2, r2, g4, g5, by omega, by omega, fun τ hτ => ?_⟩⟩
        · rw [g2.expY (c := 1034) (u := 33) rfl (by omega) t2, bd2_e, if_neg (show ¬ (1 : Int32) = 0 by decide)]
        · rw [r1, bd2_e, if_neg (show ¬ (1 : Int32) = 0 by decide)]
        · exact (g8 τ (by unfold V at hτ ⊢; omega)).fr hp (nxA_fr p la1 A2 i1) r3
      · refine ⟨0, rfA A2 (tst T L i1), B2, ?_, ?_, f1.trans (rfA_fr p la _ _) (Nat.le_refl _), f2, Or.inl ⟨rfl, fail_at g2 g3⟩⟩
        · rw [g2.expN (c := 1034) (u := 33) rfl (by omega) t2, bd2_e, if_pos rfl]
        · rw [g3.shalN (c := 41) (u := 33) rfl (by omega) t2, bd2_e, if_pos rfl]
  · refine ⟨0, rfA A (tst T L i), B, ?_, ?_, rfA_fr _ _ _ _, FrB.refl _ _, Or.inl ⟨rfl, fail_at hA hB⟩⟩
    · rw [hA.entN (c := 1033) (u := 32) rfl (by omega) (Or.inr (by omega)), bd2_e, if_pos rfl]
    · rw [hB.deepN (by omega), bd2_e, if_pos rfl]
theorem val_pair (hA : AtA T L N p i la ea fa A) (hB : AtB T L i d sb s ea fa B) (hl : la + 10 ≤ 2 * i) (hs : sb ≤ 4 * i) (hd : d ≤ 8) (ht : tk T L i = 28 ∨ tk T L i = 29) (hr : d < 8 → EW T L N p (d + 1) (fun M => RA 8 3 (nI (d + 1)) M) (fun M => RB 8 69 0 M) false (V (d + 1) + 2)) : ∃ x A' B', f_X4_value RA 3 (nI d) A = some (x, A') ∧ f_X11_value RB 69 B = some (x, B') ∧ EPost T L N p i d la sb s ea fa false (V d) A B x A' B' := by
  have hi := hA.le
  have hp := hA.1.2.2.2
  have nA := hA.next (by omega)
  have hN4 := nA.le
  have e16 : B 69 16 = nI (tk T L i) := by
    rw [hB.is (by omega)]; unfold isB; rw [if_pos (by omega)]
  have eB : f_X11_value RB 69 B = pairB RB (B 69 16) B := by
    have hk := kdB_n (tk_le T L i).1
    have e : f_X11_isIn (B 69 16) 12 24 = 0 := by
      rw [f_X11_isIn, e16, if_neg (show ¬ nI (tk T L i) < 12 from fun x => by have := (n_lt (b := 12) (by omega) (by omega)).mp x; omega), if_pos (show (24 : Int32) < nI (tk T L i) from (n_lt (a := 24) (by omega) (by omega)).mpr (by omega))]
    rw [f_X11_value, hB.kd, if_neg (fun e => by have := hk.2.2.1.mp e; omega), if_pos (hk.1.mpr (by omega)), e, lz_e, if_pos rfl, hB.sees (c := 45) (u := 39) rfl (by omega), if_neg (show ¬ tk T L i = 39 by omega), lz_e, if_pos rfl, hB.sees (c := 40) (u := 32) rfl (by omega), if_neg (show ¬ tk T L i = 32 by omega), lz_e, if_pos rfl, hB.reads (c := 28) (u := 28) rfl (by omega), hB.reads (c := 29) (u := 29) rfl (by omega), lz_e]
    rcases ht with z | z
    · rw [if_pos z, if_neg (show ¬ (1 : Int32) = 0 by decide)]; rfl
    · rw [if_neg (show ¬ tk T L i = 28 by omega), if_pos rfl, if_pos z, lz_e, if_neg (show ¬ (1 : Int32) = 0 by decide)]; rfl
  have hgr : tkGr (nI (1001 + tk T L i)) = 2 := by rw [gr_n (by omega)]; rcases ht with z | z <;> rw [z] <;> rfl
  obtain ⟨y, hy1, hy2⟩ : ∃ y, tkOp (nI (1001 + tk T L i)) = y ∧ (y, nI (tk T L i), 0) ∈ binT := by
    rw [op_n (by omega)]
    rcases ht with z | z <;> rw [z]
    · exact ⟨6, rfl, by decide⟩
    · exact ⟨7, rfl, by decide⟩
  obtain ⟨B0, b1, b2, b3⟩ := hB.adv (by omega) (by omega)
  have fB0 : FrB sb B B0 := b3.frB
  rw [eB, pairB, b1, bd1_e, b2.sees (c := 40) (u := 32) rfl (by omega), lz_e, f_X4_value, hA.kind, bd1_e, if_pos (tkc_n (by omega)), if_neg (show ¬ nI (1001 + tk T L i) = 1049 from fun e => by have := (teq (u := 48) (by omega) (by omega)).mp e; omega), if_pos (tkc_n (by omega)), hgr, if_neg (by decide), if_pos (tkc_n (by omega)), if_neg (show ¬ nI (1001 + tk T L i) = 1040 from fun e => by have := (teq (u := 39) (by omega) (by omega)).mp e; omega), if_pos (tkc_n (by omega)), if_neg (show ¬ nI (1001 + tk T L i) = 1033 from fun e => by have := (teq (u := 32) (by omega) (by omega)).mp e; omega), if_pos (tkc_n (by omega)), if_pos rfl, hA.nx, lz_e, n_suc]
  by_cases t0 : tk T L (i + 1) = 32
  · rw [if_pos t0, if_neg (show ¬ (1 : Int32) = 0 by decide)]
    by_cases hd8 : d < 8
    · have nA1 := nA.next (by omega)
      have hN5 := nA1.le
      obtain ⟨B1, d1, d2, d3⟩ := b2.deepY hd8 (by omega) (by omega)
      rw [nA.entY (c := 1033) (u := 32) rfl (by omega) t0 hd8, bd2_e, if_neg (show ¬ (1 : Int32) = 0 by decide), d1, bd2_e, if_neg (show ¬ (1 : Int32) = 0 by decide)]
      obtain ⟨x, A2, B2, c1, c2, c3, c4, c5⟩ := hr hd8 (i + 1 + 1) la sb s ea fa _ _ nA1 d2 (by omega) (by omega)
      have c1' : RA 8 3 (nI (d + 1)) (nxA (nxA A i) (i + 1)) = some (x, A2) := c1
      have c2' : RB 8 69 0 B1 = some (x, B2) := c2
      rw [c1', c2', bd2_e, bd2_e]
      have f1 := ((nxA_fr p la A i).trans (nxA_fr p la _ (i + 1)) (Nat.le_refl _)).trans c3 (Nat.le_refl _)
      have f2 := (fB0.trans d3 (Nat.le_refl _)).trans c4 (Nat.le_refl _)
      rcases c5 with ⟨rfl, hf⟩ | ⟨rfl, i1, la1, sb1, n1, g1, g2, g3, g4, g5, g6, g7, g8⟩
      · exact ⟨0, A2, B2, if_pos rfl, if_pos rfl, f1, f2, Or.inl ⟨rfl, hf⟩⟩
      · have hi1 := g2.le
        rw [if_neg (show ¬ (1 : Int32) = 0 by decide), if_neg (show ¬ (1 : Int32) = 0 by decide)]
        by_cases t2 : tk T L i1 = 37
        · have nA2 := g2.next (by omega)
          have hi2 := nA2.le
          obtain ⟨B3, r1, r2, r3⟩ := g3.passY (c := 44) (u := 37) rfl (by omega) t2 (by omega)
          rw [g2.expY (c := 1038) (u := 37) rfl (by omega) t2, bd2_e, if_neg (show ¬ (1 : Int32) = 0 by decide), r1, bd2_e, if_neg (show ¬ (1 : Int32) = 0 by decide)]
          obtain ⟨x, A4, B4, c1, c2, c3, c4, c5⟩ := hr hd8 (i1 + 1) la1 sb1 s ea fa _ _ nA2 r2 (by omega) (by omega)
          have c1' : RA 8 3 (nI (d + 1)) (nxA A2 i1) = some (x, A4) := c1
          have c2' : RB 8 69 0 B3 = some (x, B4) := c2
          rw [c1', c2', bd2_e, bd2_e]
          have f3 := f1.trans ((nxA_fr p la1 A2 i1).trans c3 (Nat.le_refl _)) (by omega)
          have f4 := f2.trans (r3.trans c4 (Nat.le_refl _)) (by omega)
          rcases c5 with ⟨rfl, hf⟩ | ⟨rfl, i2, la2, sb2, n2, j1, j2, j3, j4, j5, j6, j7, j8⟩
          · exact ⟨0, A4, B4, if_pos rfl, if_pos rfl, f3, f4, Or.inl ⟨rfl, hf⟩⟩
          · have hi3 := j2.le
            rw [if_neg (show ¬ (1 : Int32) = 0 by decide), if_neg (show ¬ (1 : Int32) = 0 by decide)]
            by_cases t3 : tk T L i2 = 33
            · have nA4 := j2.next (by omega)
              have hi4 := nA4.le
              obtain ⟨B5, s1, s2, s3⟩ := j3.shalY (c := 41) (u := 33) rfl (by omega) t3 hd8 (by omega)
              obtain ⟨m1, m2⟩ := nA4.emit (by omega) y 0
              obtain ⟨q1, q2⟩ := s2.put (by omega) (B 69 16)
              refine ⟨1, emA p la2 y 0 (nxA A4 i2), puB sb2 (B 69 16) B5, ?_, ?_, f3.trans ((nxA_fr p la2 A4 i2).trans (emA_fr _ _ _ _ _) (Nat.le_refl _)) (by omega), f4.trans (s3.trans (puB_fr _ _ _) (Nat.le_refl _)) (by omega), Or.inr ⟨rfl, i2 + 1, la2 + 1, sb2 + 1, n1 + n2 + 1, by omega, m2, q2, by omega, by omega, by omega, by omega, fun τ hτ => ?_⟩⟩
              · rw [j2.expY (c := 1034) (u := 33) rfl (by omega) t3, bd2_e, if_neg (show ¬ (1 : Int32) = 0 by decide), if_pos nA4.okp, if_pos (tkc_n (by omega)), nA4.ridp, hy1, m1, bd2_e, if_neg (show ¬ (1 : Int32) = 0 by decide)]
              · rw [s1, bd2_e, if_neg (show ¬ (1 : Int32) = 0 by decide), q1, bd1_e]
              · have hh : τ.length + 1 + (V (d + 1) + 2) ≤ 60 := by unfold V at hτ ⊢; omega
                have k1 := (g8 τ (by omega)).fr hp (((nxA_fr p la1 A2 i1).trans c3 (Nat.le_refl _)).trans ((nxA_fr p la2 A4 i2).trans (emA_fr p la2 y 0 _) (Nat.le_refl _)) (by omega)) ((r3.trans c4 (Nat.le_refl _)).trans (s3.trans (puB_fr sb2 (B 69 16) _) (Nat.le_refl _)) (by omega))
                have k2 := (j8 (false :: τ) (by show τ.length + 1 + _ ≤ 60; omega)).fr hp ((nxA_fr p la2 A4 i2).trans (emA_fr p la2 y 0 _) (Nat.le_refl _)) (s3.trans (puB_fr sb2 (B 69 16) _) (Nat.le_refl _))
                obtain ⟨o1, -, -⟩ := emA_op p la2 y 0 (nxA A4 i2)
                refine (k1.app k2).app (Seg.one (Or.inr (Or.inr (Or.inr (Or.inr ⟨y, nI (tk T L i), 0, false, false, τ, hy2, o1, (puB_at _ _ _).trans e16, rfl, rfl, rfl⟩)))) ?_)
                show τ.length + 1 ≤ 60
                omega
            · refine ⟨0, rfA A4 (tst T L i2), B4, ?_, ?_, f3.trans (rfA_fr p la _ _) (Nat.le_refl _), f4, Or.inl ⟨rfl, fail_at j2 j3⟩⟩
              · rw [j2.expN (c := 1034) (u := 33) rfl (by omega) t3, bd2_e, if_pos rfl]
              · rw [j3.shalN (c := 41) (u := 33) rfl (by omega) t3, bd2_e, if_pos rfl]
        · refine ⟨0, rfA A2 (tst T L i1), B2, ?_, ?_, f1.trans (rfA_fr p la _ _) (Nat.le_refl _), f2, Or.inl ⟨rfl, fail_at g2 g3⟩⟩
          · rw [g2.expN (c := 1038) (u := 37) rfl (by omega) t2, bd2_e, if_pos rfl]
          · rw [g3.passN (c := 44) (u := 37) rfl (by omega) t2, bd2_e, if_pos rfl]
    · refine ⟨0, rfA (nxA A i) (tst T L (i + 1)), B0, ?_, ?_, (nxA_fr p la A i).trans (rfA_fr _ _ _ _) (Nat.le_refl _), fB0, Or.inl ⟨rfl, fail_at nA b2⟩⟩
      · rw [nA.entN (c := 1033) (u := 32) rfl (by omega) (Or.inr (by omega)), bd2_e, if_pos rfl]
      · rw [b2.deepN (by omega), bd2_e, if_pos rfl]
  · refine ⟨0, rfA (nxA A i) (tst T L (i + 1)), B0, ?_, ?_, (nxA_fr p la A i).trans (rfA_fr _ _ _ _) (Nat.le_refl _), fB0, Or.inl ⟨rfl, fail_at nA b2⟩⟩
    · rw [nA.entN (c := 1033) (u := 32) rfl (by omega) (Or.inl t0), bd2_e, if_pos rfl]
    · rw [if_neg t0, if_pos rfl]
theorem gr_else : ∀ t, t < 51 → (t < 12 ∨ 24 < t) → t ≠ 28 → t ≠ 29 → tkG.getD t 0 ≠ 1 ∧ tkG.getD t 0 ≠ 2 := by decide +kernel
theorem val_else (hA : AtA T L N p i la ea fa A) (hB : AtB T L i d sb s ea fa B) (h1 : tk T L i < 12 ∨ 24 < tk T L i) (h2 : tk T L i ≠ 28) (h3 : tk T L i ≠ 29) (h4 : tk T L i ≠ 48) (h5 : tk T L i ≠ 39) (h6 : tk T L i ≠ 32) : ∃ x A' B', f_X4_value RA 3 (nI d) A = some (x, A') ∧ f_X11_value RB 69 B = some (x, B') ∧ EPost T L N p i d la sb s ea fa false (V d) A B x A' B' := by
  have hk := kdB_n (tk_le T L i).1
  have hT := (tk_le T L i).1
  obtain ⟨g1, g2⟩ := gr_else _ hT h1 h2 h3
  have n48 : ¬ nI (1001 + tk T L i) = 1049 := fun e => h4 ((teq (u := 48) hT (by omega)).mp e)
  have n39 : ¬ nI (1001 + tk T L i) = 1040 := fun e => h5 ((teq (u := 39) hT (by omega)).mp e)
  have n32 : ¬ nI (1001 + tk T L i) = 1033 := fun e => h6 ((teq (u := 32) hT (by omega)).mp e)
  refine ⟨0, rfA A (tst T L i), B, ?_, ?_, rfA_fr _ _ _ _, FrB.refl _ _, Or.inl ⟨rfl, fail_at hA hB⟩⟩
  · rw [f_X4_value, hA.kind, bd1_e, if_pos (tkc_n hT), if_neg n48, if_pos (tkc_n hT), gr_n hT, if_neg g1, if_pos (tkc_n hT), if_neg n39, if_pos (tkc_n hT), if_neg n32, if_pos (tkc_n hT), if_neg g2, hA.refuse, bd2_e]
  · rw [f_X11_value, hB.kd, if_neg (fun e => h4 (hk.2.2.1.mp e))]
    by_cases z : tk T L i < 30 ∨ tk T L i = 47
    · have e : f_X11_isIn (B 69 16) 12 24 = 0 := by
        by_cases z1 : tk T L i < 30
        · rw [f_X11_isIn, show B 69 16 = nI (tk T L i) by rw [hB.is (by omega)]; unfold isB; rw [if_pos z1]]
          by_cases z2 : tk T L i < 12
          · rw [if_pos (show nI (tk T L i) < 12 from (n_lt (b := 12) (by omega) (by omega)).mpr z2)]
          · rw [if_neg (show ¬ nI (tk T L i) < 12 from fun x => z2 ((n_lt (b := 12) (by omega) (by omega)).mp x)), if_pos (show (24 : Int32) < nI (tk T L i) from (n_lt (a := 24) (by omega) (by omega)).mpr (by omega))]
        · have z3 : tk T L i = 47 := by omega
          rw [show B 69 16 = -1 by rw [hB.is (by omega), z3]; rfl]
          decide
      rw [if_pos (hk.1.mpr z), e, lz_e, if_pos rfl, hB.sees (c := 45) (u := 39) rfl (by omega), if_neg h5, lz_e, if_pos rfl, hB.sees (c := 40) (u := 32) rfl (by omega), if_neg h6, lz_e, if_pos rfl, hB.reads (c := 28) (u := 28) rfl (by omega), if_neg h2, lz_e, if_pos rfl, hB.reads (c := 29) (u := 29) rfl (by omega), if_neg h3, lz_e, if_pos rfl]
    · rw [if_neg (fun e => z (hk.1.mp e)), hB.sees (c := 45) (u := 39) rfl (by omega), if_neg h5, lz_e, if_pos rfl, hB.sees (c := 40) (u := 32) rfl (by omega), if_neg h6, lz_e, if_pos rfl, hB.reads (c := 28) (u := 28) rfl (by omega), if_neg h2, lz_e, if_pos rfl, hB.reads (c := 29) (u := 29) rfl (by omega), if_neg h3, lz_e, if_pos rfl]
theorem value_ok (hd : d ≤ 8) (hr : d < 8 → EW T L N p (d + 1) (fun M => RA 8 3 (nI (d + 1)) M) (fun M => RB 8 69 0 M) false (V (d + 1) + 2)) (hv : d < 8 → EW T L N p (d + 1) (fun M => RA 10 3 (nI (d + 1)) M) (fun M => RB 10 69 0 M) false (V (d + 1))) : EW T L N p d (f_X4_value RA 3 (nI d)) (f_X11_value RB 69) false (V d) := by
  intro i la sb s ea fa A B hA hB hl hs
  by_cases h1 : tk T L i = 48
  · exact val_num hA hB hl hs hd h1
  by_cases h2 : 12 ≤ tk T L i ∧ tk T L i ≤ 24
  · exact val_read hA hB hl hs hd h2
  by_cases h3 : tk T L i = 39
  · exact val_minus hA hB hl hs hd h3 hv
  by_cases h4 : tk T L i = 32
  · exact val_paren hA hB hl hs hd h4 hr
  by_cases h5 : tk T L i = 28 ∨ tk T L i = 29
  · exact val_pair hA hB hl hs hd h5 hr
  exact val_else hA hB (by omega) (by omega) (by omega) h1 h3 h4
end EV
