/-! needs 30 31 32 39 50 51 52 53 54 55 56 57 58 59 60 61 62 -/
/-! blocks beside each other -/
def isSt (t : Nat) : Prop := 2 ≤ t ∧ t ≤ 11 ∧ t ≠ 9
def CW (T : Nat → Int32) (L N p d k0 : Nat) (FA FB : Mm → Option (Int32 × Mm)) : Prop := ∀ (i la sb : Nat) (e : List Nat) (ea fa : Int32) (A B : Mm), tk T L i = k0 → AtA T L N p i la ea fa A → AtB T L (i + 1) d sb e.length ea fa B → la + 10 ≤ 2 * i → sb ≤ 4 * i → e.length < d → (∀ x, x ∈ e → x < d) → ∃ x A' B', FA A = some (x, A') ∧ FB B = some (x, B') ∧ SPost T L N p i d la sb e A B x A' B'
def SW (T : Nat → Int32) (L N p d : Nat) (FA FB : Mm → Option (Int32 × Mm)) : Prop := (∀ (i la sb : Nat) (e : List Nat) (ea fa : Int32) (A B : Mm), isSt (tk T L i) → AtA T L N p i la ea fa A → AtB T L i d sb e.length ea fa B → la + 10 ≤ 2 * i → sb ≤ 4 * i → e.length < d → (∀ x, x ∈ e → x < d) → ∃ x A' B', FA A = some (x, A') ∧ FB B = some (x, B') ∧ SPost T L N p i d la sb e A B x A' B') ∧ (∀ (i la : Nat) (ea fa : Int32) (A : Mm), ¬ isSt (tk T L i) → AtA T L N p i la ea fa A → FA A = some (0, rfA A (tst T L i)))
theorem SPost.pre {T : Nat → Int32} {L N p i d la sb : Nat} {e : List Nat} {A A1 B B1 A' B' : Mm} {x : Int32} (h : SPost T L N p i d la sb e A1 B1 x A' B') (k : FrA p la A A1) (m : FrB sb B B1) : SPost T L N p i d la sb e A B x A' B' := ⟨k.trans h.1 (Nat.le_refl _), m.trans h.2.1 (Nat.le_refl _), h.2.2⟩
section BL
variable {T : Nat → Int32} {L N p d : Nat} {RA RB : Rc}
theorem sw_n {t w : Nat} (h : t < 51) : tkSw (nI (tkN (nI (1001 + t)))) = tkW.getD t 0 := by
  unfold tkSw; rw [tkN_n h, ixn (by omega)]
theorem w_no : ∀ t, t < 51 → ¬ (2 ≤ t ∧ t ≤ 11 ∧ t ≠ 9) → tkW.getD t 0 = 0 := by decide +kernel
theorem sent_no {i la : Nat} {ea fa : Int32} {A : Mm} (ht : ¬ isSt (tk T L i)) (hA : AtA T L N p i la ea fa A) : f_X4_sentence RA 3 (nI d) A = some (0, rfA A (tst T L i)) := by
  have hT := (tk_le T L i).1
  rw [f_X4_sentence, hA.kind, bd1_e, if_pos (tkc_n hT), tkN_n hT, if_pos (inN (show tk T L i < 51 by omega))]
  have e : tkSw (nI (tk T L i)) = 0 := by unfold tkSw; rw [ixn (by omega)]; exact w_no _ hT ht
  rw [e, lz_e, if_neg (by decide), if_neg (by decide), if_neg (by decide), if_neg (by decide), if_neg (by decide), if_neg (by decide), if_neg (by decide), if_neg (by decide), if_neg (by decide), hA.refuse, bd2_e]
theorem sentence_ok (hd : d ≤ 8) (h8 : MW T L N p d (fun M => RA 8 3 (nI d) M) (fun M => RB 8 69 1 M) false) (h2 : CW T L N p d 8 (fun M => RA 2 3 (nI d) M) (fun M => RB 2 69 0 M)) (h3 : CW T L N p d 10 (fun M => RA 3 3 (nI d) M) (fun M => RB 3 69 0 M)) (h4 : CW T L N p d 11 (fun M => RA 4 3 (nI d) M) (fun M => RB 4 69 0 M)) : SW T L N p d (f_X4_sentence RA 3 (nI d)) (f_X11_sentence RB 69) := by
  refine ⟨?_, fun i la ea fa A ht hA => sent_no ht hA⟩
  intro i la sb e ea fa A B hst hA hB hl hs he1 he2
  have hi := hA.le
  have hT := (tk_le T L i).1
  have nA := hA.next (by have := hst.2.1; omega)
  have hi1 := nA.le
  obtain ⟨B1, b1, b2, b3⟩ := hB.adv (by have := hst.2.1; omega) (by omega)
  have e16 : B 69 16 = nI (tk T L i) := by
    rw [hB.is (by have := hst.2.1; omega)]; unfold isB; rw [if_pos (by have := hst.2.1; omega)]
  have hd' : Bhd T L N p i d la sb e ea fa (nxA A i) B1 := ⟨nA, b2, hl, hs, hd, he1, he2⟩
  have fA := nxA_fr p la A i
  have fB : FrB sb B B1 := b3.frB
  have eS : ∀ w : Int32, tkW.getD (tk T L i) 0 = w → tkSw (nI (tk T L i)) = w := fun w h => by unfold tkSw; rw [ixn (by omega)]; exact h
  obtain ⟨s1, s2, s3⟩ := hst
  rw [f_X4_sentence, hA.kind, bd1_e, if_pos (tkc_n hT), tkN_n hT, if_pos (inN (show tk T L i < 51 by omega)), f_X11_sentence, b1, bd1_e, e16]
  have cases9 : tk T L i = 2 ∨ tk T L i = 3 ∨ tk T L i = 4 ∨ tk T L i = 5 ∨ tk T L i = 6 ∨ tk T L i = 7 ∨ tk T L i = 8 ∨ tk T L i = 10 ∨ tk T L i = 11 := by omega
  rcases cases9 with t | t | t | t | t | t | t | t | t
  · rw [eS 1 (by rw [t]; rfl), lz_e, if_pos rfl, hA.nx, lz_e, if_pos (by rw [t]; rfl)]
    obtain ⟨x, A', B', c1, c2, c3⟩ := go_ok hd' h8
    exact ⟨x, A', B', c1, c2, c3.pre fA fB⟩
  · rw [eS 2 (by rw [t]; rfl), lz_e, if_neg (by decide), if_pos rfl, hA.nx, lz_e, if_neg (by rw [t]; decide), if_pos (by rw [t]; rfl), t]
    obtain ⟨x, A', B', c1, c2, c3⟩ := act1 hd' (c := 30) (y := 3) (by decide) h8
    exact ⟨x, A', B', c1, c2, c3.pre fA fB⟩
  · rw [eS 3 (by rw [t]; rfl), lz_e, if_neg (by decide), if_neg (by decide), if_pos rfl, hA.nx, lz_e, if_neg (by rw [t]; decide), if_neg (by rw [t]; decide), if_pos (by rw [t]; rfl), t]
    obtain ⟨x, A', B', c1, c2, c3⟩ := act0 hd' (c := 31) (y := 4) (by decide)
    exact ⟨x, A', B', by rw [c1, bd2_e], c2, c3.pre fA fB⟩
  · rw [eS 4 (by rw [t]; rfl), lz_e, if_neg (by decide), if_neg (by decide), if_neg (by decide), if_pos rfl, hA.nx, lz_e, if_neg (by rw [t]; decide), if_neg (by rw [t]; decide), if_neg (by rw [t]; decide), if_pos (by rw [t]; rfl), t]
    obtain ⟨x, A', B', c1, c2, c3⟩ := act1 hd' (c := 32) (y := 5) (by decide) h8
    exact ⟨x, A', B', c1, c2, c3.pre fA fB⟩
  · rw [eS 5 (by rw [t]; rfl), lz_e, if_neg (by decide), if_neg (by decide), if_neg (by decide), if_neg (by decide), if_pos rfl, hA.nx, lz_e, if_neg (by rw [t]; decide), if_neg (by rw [t]; decide), if_neg (by rw [t]; decide), if_neg (by rw [t]; decide), if_pos (by rw [t]; rfl), t]
    obtain ⟨x, A', B', c1, c2, c3⟩ := act0 hd' (c := 33) (y := 6) (by decide)
    exact ⟨x, A', B', by rw [c1, bd2_e], c2, c3.pre fA fB⟩
  · rw [eS 6 (by rw [t]; rfl), lz_e, if_neg (by decide), if_neg (by decide), if_neg (by decide), if_neg (by decide), if_neg (by decide), if_pos rfl, hA.nx, lz_e, if_neg (by rw [t]; decide), if_neg (by rw [t]; decide), if_neg (by rw [t]; decide), if_neg (by rw [t]; decide), if_neg (by rw [t]; decide), if_pos (by rw [t]; rfl), t]
    obtain ⟨x, A', B', c1, c2, c3⟩ := act1 hd' (c := 34) (y := 7) (by decide) h8
    exact ⟨x, A', B', c1, c2, c3.pre fA fB⟩
  · rw [eS 7 (by rw [t]; rfl), lz_e, if_neg (by decide), if_neg (by decide), if_neg (by decide), if_neg (by decide), if_neg (by decide), if_neg (by decide), if_pos rfl, if_neg (by rw [t]; decide), if_neg (by rw [t]; decide), if_neg (by rw [t]; decide), if_neg (by rw [t]; decide), if_neg (by rw [t]; decide), if_neg (by rw [t]; decide), if_pos (by rw [t]; rfl)]
    obtain ⟨x, A', B', c1, c2, c3⟩ := h2 i la sb e ea fa A B1 t hA b2 hl hs he1 he2
    have c1' : RA 2 3 (nI d) A = some (x, A') := c1
    have c2' : RB 2 69 0 B1 = some (x, B') := c2
    exact ⟨x, A', B', by rw [c1', bd2_e], by rw [c2', bd2_e], c3.pre (FrA.refl _ _ _) fB⟩
  · rw [eS 8 (by rw [t]; rfl), lz_e, if_neg (by decide), if_neg (by decide), if_neg (by decide), if_neg (by decide), if_neg (by decide), if_neg (by decide), if_neg (by decide), if_pos rfl, if_neg (by rw [t]; decide), if_neg (by rw [t]; decide), if_neg (by rw [t]; decide), if_neg (by rw [t]; decide), if_neg (by rw [t]; decide), if_neg (by rw [t]; decide), if_neg (by rw [t]; decide), if_neg (by rw [t]; decide), if_pos (by rw [t]; rfl)]
    obtain ⟨x, A', B', c1, c2, c3⟩ := h3 i la sb e ea fa A B1 t hA b2 hl hs he1 he2
    have c1' : RA 3 3 (nI d) A = some (x, A') := c1
    have c2' : RB 3 69 0 B1 = some (x, B') := c2
    exact ⟨x, A', B', by rw [c1', bd2_e], by rw [c2', bd2_e], c3.pre (FrA.refl _ _ _) fB⟩
  · rw [eS 9 (by rw [t]; rfl), lz_e, if_neg (by decide), if_neg (by decide), if_neg (by decide), if_neg (by decide), if_neg (by decide), if_neg (by decide), if_neg (by decide), if_neg (by decide), if_pos rfl, if_neg (by rw [t]; decide), if_neg (by rw [t]; decide), if_neg (by rw [t]; decide), if_neg (by rw [t]; decide), if_neg (by rw [t]; decide), if_neg (by rw [t]; decide), if_neg (by rw [t]; decide), if_neg (by rw [t]; decide), if_neg (by rw [t]; decide)]
    obtain ⟨x, A', B', c1, c2, c3⟩ := h4 i la sb e ea fa A B1 t hA b2 hl hs he1 he2
    have c1' : RA 4 3 (nI d) A = some (x, A') := c1
    have c2' : RB 4 69 0 B1 = some (x, B') := c2
    exact ⟨x, A', B', by rw [c1', bd2_e], by rw [c2', bd2_e], c3.pre (FrA.refl _ _ _) fB⟩
/-- the reference's loop of a block asks for a sentence, or for the end -/
theorem L18_yes {n i sb s : Nat} {ea fa : Int32} {B : Mm} (h : AtB T L i d sb s ea fa B) (ht : isSt (tk T L i)) : f_X11_block_L18 RB 69 (n + 1) B = bd2 (RB 1 69 0 B) fun x30 M31 => if (x30 = 0) then (some ((0 : Int32), M31)) else (f_X11_block_L18 RB 69 n M31) := by
  obtain ⟨s1, s2, s3⟩ := ht
  have hk := kdB_n (tk_le T L i).1
  have e16 : B 69 16 = nI (tk T L i) := by rw [h.is (by omega)]; unfold isB; rw [if_pos (by omega)]
  rw [f_X11_block_L18, h.kd, if_pos (hk.1.mpr (by omega)), e16, if_neg (show ¬ nI (tk T L i) < 2 from fun x => by have := (n_lt (b := 2) (by omega) (by omega)).mp x; omega), if_neg (show ¬ (11 : Int32) < nI (tk T L i) from fun x => by have := (n_lt (a := 11) (by omega) (by omega)).mp x; omega), if_neg (show ¬ nI (tk T L i) = 9 from fun x => s3 ((n_inj (b := 9) (by omega) (by omega)).mp x))]
theorem L18_no {n i sb s : Nat} {ea fa : Int32} {B : Mm} (h : AtB T L i d sb s ea fa B) (ht : ¬ isSt (tk T L i)) : f_X11_block_L18 RB 69 (n + 1) B = f_X11_shallower 69 125 B := by
  have hk := kdB_n (tk_le T L i).1
  rw [f_X11_block_L18, h.kd]
  simp only [bd2_id]
  by_cases z : tk T L i < 30
  · have e16 : B 69 16 = nI (tk T L i) := by rw [h.is (by omega)]; unfold isB; rw [if_pos (by omega)]
    rw [if_pos (hk.1.mpr (by omega)), e16]
    by_cases z1 : tk T L i < 2
    · rw [if_pos (show nI (tk T L i) < 2 from (n_lt (b := 2) (by omega) (by omega)).mpr z1)]
    · rw [if_neg (show ¬ nI (tk T L i) < 2 from fun x => z1 ((n_lt (b := 2) (by omega) (by omega)).mp x))]
      by_cases z2 : 11 < tk T L i
      · rw [if_pos (show (11 : Int32) < nI (tk T L i) from (n_lt (a := 11) (by omega) (by omega)).mpr z2)]
      · have z3 : tk T L i = 9 := by
          by_cases z3 : tk T L i = 9
          · exact z3
          · exact absurd ⟨by omega, by omega, z3⟩ ht
        rw [if_neg (show ¬ (11 : Int32) < nI (tk T L i) from fun x => z2 ((n_lt (a := 11) (by omega) (by omega)).mp x)), if_pos (by rw [z3]; rfl)]
  · by_cases z1 : tk T L i = 47
    · have e16 : B 69 16 = -1 := by rw [h.is (by omega), z1]; rfl
      rw [if_pos (hk.1.mpr (by omega)), e16, if_pos (by decide)]
    · rw [if_neg (fun x => by have := hk.1.mp x; omega)]
theorem block_loop (hd : d < 8) (hsw : SW T L N p (d + 1) (fun M => RA 1 3 (nI (d + 1)) M) (fun M => RB 1 69 0 M)) {la sb : Nat} {e : List Nat} (he1 : e.length ≤ d) (he2 : ∀ x, x ∈ e → x ≤ d) : ∀ (k i c nA nB la1 sb1 : Nat) (ea fa : Int32) (P : PS) (A B : Mm), 400 - i ≤ k → k < nA → k < nB → c < i → AtA T L N p i la1 ea fa A → AtB T L i (d + 1) sb1 e.length ea fa B → la1 + 10 ≤ 2 * i → sb1 ≤ 4 * i → la ≤ la1 → sb ≤ sb1 → Good P la sb la1 sb1 e (A (p + 1)) (A (p + 2)) (B 75) → ∃ x A' B', f_X4_block_L15 RA 3 (nI d) nA (nI c) A = some (x, A') ∧ f_X11_block_L18 RB 69 nB B = some (x, B') ∧ FrA p la1 A A' ∧ FrB sb1 B B' ∧ ((x = 0 ∧ Fail A' B') ∨ (x = 1 ∧ ∃ i' la' sb' ea' fa' P', i < i' ∧ AtA T L N p i' la' ea' fa' A' ∧ AtB T L i' d sb' e.length ea' fa' B' ∧ la1 ≤ la' ∧ sb1 ≤ sb' ∧ la' + 2 * i + 2 ≤ la1 + 2 * i' ∧ sb' + 4 * i + 4 ≤ sb1 + 4 * i' ∧ Good P' la sb la' sb' e (A' (p + 1)) (A' (p + 2)) (B' 75))) := by
  intro k
  induction k with
  | zero =>
    intro i c nA nB la1 sb1 ea fa P A B hk hnA hnB hc hA hB hl hs h1 h2 hG
    obtain ⟨m, rfl⟩ : ∃ m, nA = m + 1 := ⟨nA - 1, by omega⟩
    obtain ⟨m', rfl⟩ : ∃ m, nB = m + 1 := ⟨nB - 1, by omega⟩
    have hi := hA.le
    have hT := (tk_le T L i).1
    have h49 : ¬ tk T L i < 49 := fun h => by have := (hA.next h).le; omega
    have hno : ¬ isSt (tk T L i) := fun h => by have := h.2.1; omega
    refine ⟨0, rfA A (tst T L i), B, ?_, ?_, rfA_fr _ _ _ _, FrB.refl _ _, Or.inl ⟨rfl, fail_at hA hB⟩⟩
    · have e1 : RA 1 3 (nI (d + 1)) A = _ := hsw.2 i la1 ea fa A hno hA
      rw [f_X4_block_L15, if_neg (c400 (by omega)), hA.kind, bd1_e, if_pos (tkc_n hT), if_neg (show ¬ nI (1001 + tk T L i) = 1032 from fun h => by have := (teq (u := 31) hT (by omega)).mp h; omega), n_suc, e1, bd2_e, if_pos rfl]
    · rw [L18_no hB hno, hB.shalN (c := 125) (u := 31) rfl (by omega) (by omega)]
  | succ k ih =>
    intro i c nA nB la1 sb1 ea fa P A B hk hnA hnB hc hA hB hl hs h1 h2 hG
    obtain ⟨m, rfl⟩ : ∃ m, nA = m + 1 := ⟨nA - 1, by omega⟩
    obtain ⟨m', rfl⟩ : ∃ m, nB = m + 1 := ⟨nB - 1, by omega⟩
    have hi := hA.le
    have hp := hA.1.2.2.2
    have hT := (tk_le T L i).1
    rw [f_X4_block_L15, if_neg (c400 (by omega)), hA.kind, bd1_e, if_pos (tkc_n hT), n_suc, n_suc]
    by_cases t1 : tk T L i = 31
    · have nA1 := hA.next (by omega)
      have hi1 := nA1.le
      obtain ⟨B3, r1, r2, r3⟩ := hB.shalY (c := 125) (u := 31) rfl (by omega) t1 hd (by omega)
      refine ⟨1, nxA A i, B3, ?_, ?_, nxA_fr _ _ _ _, r3, Or.inr ⟨rfl, i + 1, la1, sb1, ea, fa, P, by omega, nA1, r2, Nat.le_refl _, Nat.le_refl _, by omega, by omega, hG.fr hp (nxA_fr p la1 A i) r3⟩⟩
      · rw [if_pos (show nI (1001 + tk T L i) = 1032 by rw [t1]; rfl), hA.expY (c := 1032) (u := 31) rfl (by omega) t1, bd2_e]
      · rw [L18_no hB (fun h => by have := h.2.1; omega), r1]
    · rw [if_neg (show ¬ nI (1001 + tk T L i) = 1032 from fun h => t1 ((teq (u := 31) hT (by omega)).mp h))]
      by_cases hs9 : isSt (tk T L i)
      · obtain ⟨x, A1, B1, c1, c2, c3, c4, c5⟩ := hsw.1 i la1 sb1 e ea fa A B hs9 hA hB hl hs (by omega) (fun x hx => by have := he2 x hx; omega)
        have c1' : RA 1 3 (nI (d + 1)) A = some (x, A1) := c1
        have c2' : RB 1 69 0 B = some (x, B1) := c2
        rw [c1', bd2_e, L18_yes hB hs9, c2', bd2_e]
        rcases c5 with ⟨rfl, hf⟩ | ⟨rfl, i1, la2, sb2, ea1, fa1, P2, g1, g2, g3, g4, g5, g6, g7, g8⟩
        · exact ⟨0, A1, B1, if_pos rfl, if_pos rfl, c3, c4, Or.inl ⟨rfl, hf⟩⟩
        · have hi1 := g2.le
          rw [if_neg (show ¬ (1 : Int32) = 0 by decide), if_neg (show ¬ (1 : Int32) = 0 by decide), lz_e]
          obtain ⟨x, A', B', r1, r2, r3, r4, r5⟩ := ih i1 (c + 1) m m' la2 sb2 ea1 fa1 (PO P P2) A1 B1 (by omega) (by omega) (by omega) (by omega) g2 g3 (by omega) (by omega) (by omega) (by omega) (hG.app g8 h1 g4 h2 g5 (fun j a b => c3.op hp (by omega)) (fun j a b => c4.at (by omega)))
          refine ⟨x, A', B', r1, r2, c3.trans r3 (by omega), c4.trans r4 (by omega), ?_⟩
          rcases r5 with r5 | ⟨rfl, i', la', sb', ea', fa', P', u1, u2, u3, u4, u5, u6, u7, u8⟩
          · exact Or.inl r5
          · exact Or.inr ⟨rfl, i', la', sb', ea', fa', P', by omega, u2, u3, by omega, by omega, by omega, by omega, u8⟩
      · have e1 : RA 1 3 (nI (d + 1)) A = _ := hsw.2 i la1 ea fa A hs9 hA
        refine ⟨0, rfA A (tst T L i), B, ?_, ?_, rfA_fr _ _ _ _, FrB.refl _ _, Or.inl ⟨rfl, fail_at hA hB⟩⟩
        · rw [e1, bd2_e, if_pos rfl]
        · rw [L18_no hB hs9, hB.shalN (c := 125) (u := 31) rfl (by omega) t1]
theorem block_ok (hd : d ≤ 8) (hsw : d < 8 → SW T L N p (d + 1) (fun M => RA 1 3 (nI (d + 1)) M) (fun M => RB 1 69 0 M)) : BW T L N p d (f_X4_block RA 3 (nI d)) (f_X11_block RB 69) := by
  intro i la sb e ea fa A B hA hB hl hs he1 he2
  have hi := hA.le
  have hp := hA.1.2.2.2
  rw [f_X4_block, f_X11_block, hB.sees (c := 123) (u := 30) rfl (by omega), lz_e]
  by_cases t1 : tk T L i = 30
  · rw [if_pos t1, if_neg (show ¬ (1 : Int32) = 0 by decide)]
    by_cases hd8 : d < 8
    · have nA := hA.next (by omega)
      have hi1 := nA.le
      obtain ⟨B1, b1, b2, b3⟩ := hB.deepY hd8 (by omega) (by omega)
      rw [hA.entY (c := 1031) (u := 30) rfl (by omega) t1 hd8, bd2_e, if_neg (show ¬ (1 : Int32) = 0 by decide), b1, bd2_e, if_neg (show ¬ (1 : Int32) = 0 by decide)]
      obtain ⟨x, A', B', r1, r2, r3, r4, r5⟩ := block_loop (RA := RA) (RB := RB) hd8 (hsw hd8) he1 he2 400 (i + 1) 0 FU FU la sb ea fa P0 _ _ (by omega) (by unfold FU; omega) (by unfold FU; omega) (by omega) nA b2 (by omega) (by omega) (Nat.le_refl _) (Nat.le_refl _) (Good.nil _ _ _ _ _ _)
      refine ⟨x, A', B', r1, r2, (nxA_fr p la A i).trans r3 (Nat.le_refl _), b3.trans r4 (Nat.le_refl _), ?_⟩
      rcases r5 with r5 | ⟨rfl, i', la', sb', ea', fa', P', u1, u2, u3, u4, u5, u6, u7, u8⟩
      · exact Or.inl r5
      · exact Or.inr ⟨rfl, i', la', sb', ea', fa', P', by omega, u2, u3, u4, u5, by omega, by omega, u8⟩
    · refine ⟨0, rfA A (tst T L i), B, ?_, ?_, rfA_fr _ _ _ _, FrB.refl _ _, Or.inl ⟨rfl, fail_at hA hB⟩⟩
      · rw [hA.entN (c := 1031) (u := 30) rfl (by omega) (Or.inr (by omega)), bd2_e, if_pos rfl]
      · rw [hB.deepN (by omega), bd2_e, if_pos rfl]
  · refine ⟨0, rfA A (tst T L i), B, ?_, ?_, rfA_fr _ _ _ _, FrB.refl _ _, Or.inl ⟨rfl, fail_at hA hB⟩⟩
    · rw [hA.entN (c := 1031) (u := 30) rfl (by omega) (Or.inl t1), bd2_e, if_pos rfl]
    · rw [if_neg t1, if_pos rfl]
end BL
/-- blocks and sentences to the depth of 8 -/
theorem blk_all (T : Nat → Int32) (L N p : Nat) : ∀ n d, d ≤ 8 →
    (7 * (9 - d) + 2 ≤ n → BW T L N p d (fun M => f_P4 n 0 3 (nI d) M) (fun M => f_P11 n 0 69 0 M)) ∧
    (7 * (9 - d) + 7 ≤ n → CW T L N p d 8 (fun M => f_P4 n 2 3 (nI d) M) (fun M => f_P11 n 2 69 0 M)) ∧
    (7 * (9 - d) + 7 ≤ n → CW T L N p d 10 (fun M => f_P4 n 3 3 (nI d) M) (fun M => f_P11 n 3 69 0 M)) ∧
    (7 * (9 - d) + 7 ≤ n → CW T L N p d 11 (fun M => f_P4 n 4 3 (nI d) M) (fun M => f_P11 n 4 69 0 M)) ∧
    (7 * (9 - d) + 8 ≤ n → SW T L N p d (fun M => f_P4 n 1 3 (nI d) M) (fun M => f_P11 n 1 69 0 M)) := by
  intro n
  induction n with
  | zero => intro d hd; exact ⟨fun h => by omega, fun h => by omega, fun h => by omega, fun h => by omega, fun h => by omega⟩
  | succ n ih =>
    intro d hd
    obtain ⟨i1, i2, i3, i4, i5⟩ := ih d hd
    refine ⟨fun h => ?_, fun h => ?_, fun h => ?_, fun h => ?_, fun h => ?_⟩
    · exact block_ok (RA := f_P4 n) (RB := f_P11 n) hd (fun h8 => (ih (d + 1) (by omega)).2.2.2.2 (by omega))
    · intro i la sb e ea fa A B ht hA hB hl hs he1 he2
      exact choice_ok (RA := f_P4 n) (RB := f_P11 n) ht hA hB hl hs hd he1 he2 (test1 T L N p hd (by omega)) (i1 (by omega))
    · intro i la sb e ea fa A B ht hA hB hl hs he1 he2
      exact repeat_ok (RA := f_P4 n) (RB := f_P11 n) ht hA hB hl hs hd he1 he2 (i1 (by omega))
    · intro i la sb e ea fa A B ht hA hB hl hs he1 he2
      exact while_ok (RA := f_P4 n) (RB := f_P11 n) ht hA hB hl hs hd he1 he2 (test1 T L N p hd (by omega)) (i1 (by omega))
    · exact sentence_ok (RA := f_P4 n) (RB := f_P11 n) hd (sum1 T L N p hd (by omega)) (i2 (by omega)) (i3 (by omega)) (i4 (by omega))
