/-! needs 30 31 32 39 50 51 52 53 54 55 56 57 58 59 60 61 62 63 64 65 -/
section GB
variable {T : Nat → Int32} {L N p i la sb s d many : Nat} {ea fa : Int32} {A B : Mm}
theorem lm_0 {v k ea fa : Int32} {st : Nat} (h : lmE v k ea = 0) : ea = 0 ∧ lmF v k ea fa st = fa ∧ v ≤ k := by
  unfold lmE at h
  unfold lmF
  by_cases z : v ≤ k
  · rw [if_pos z] at h ⊢; exact ⟨h, rfl, z⟩
  · rw [if_neg z] at h
    by_cases y : ea = 0
    · rw [if_pos y] at h; exact absurd h (by decide)
    · rw [if_neg y] at h; exact absurd h y
/-- a coordinate in the reference -/
theorem crdB {r m : Nat} (hr : 75 < r ∧ r ≤ 80) (h : AtB T L i d sb s ea fa B) (ht : tk T L i = 48) (hi : i < 400) : ∃ B', (∀ K : Mm → Option (Int32 × Mm), (bd1 (if (wr B r m (B 69 16)) 69 16 < (8 : Int32) then some (wr B r m (B 69 16)) else bd1 (f_X11_fault 69 3 (wr B r m (B 69 16))) fun M46 => some M46) fun M49 => bd1 (f_X11_advance 69 M49) K) = K B') ∧ AtB T L (i + 1) d sb s (lmE (isB T L (tst T L i) 48) 7 ea) (lmF (isB T L (tst T L i) 48) 7 ea fa (tst T L i)) B' ∧ B' r m = isB T L (tst T L i) 48 ∧ (∀ a c, a ≠ 69 → ¬ (a = r ∧ c = m) → B' a c = B a c) ∧ B' 69 19 = B 69 19 ∧ FtB B B' := by
  have e16 : B 69 16 = isB T L (tst T L i) 48 := by rw [h.is (by omega), ht]
  have h1 : AtB T L i d sb s ea fa (wr B r m (B 69 16)) := h.ch (fun a c x _ => wr_o (by omega))
  have e16' : wr B r m (B 69 16) 69 16 = isB T L (tst T L i) 48 := by rw [wr_ne (by omega)]; exact e16
  obtain ⟨B2, b1, b2, b3⟩ := limB (k := 7) (c := (wr B r m (B 69 16)) 69 16 < (8 : Int32)) (dc := by infer_instance) h1 (by rw [e16']; exact lt8)
  obtain ⟨B3, c1, c2, c3⟩ := b2.adv (by omega) hi
  refine ⟨B3, fun K => by rw [b1, bd1_e, c1, bd1_e], c2, ?_, ?_, ?_, ?_⟩
  · rw [c3.row (by omega), b3 r m (by omega), wr_at, e16]
  · intro a c x y
    rw [c3.row x, b3 a c (by omega), wr_o (by omega)]
  · rw [c3 69 19 (by omega), b3 69 19 (by omega), wr_o (by omega)]
  · intro a c x y
    rw [c3 a c (by omega), b3 a c (by omega), wr_o (by omega)]
theorem cellIn {x y : Int32} (hx : 0 ≤ x.toInt ∧ x.toInt ≤ 7) (hy : 0 ≤ y.toInt ∧ y.toInt ≤ 7) : f_X9_isCell x y = 1 := by
  have w : ∀ z : Int32, 0 ≤ z.toInt ∧ z.toInt ≤ 7 → f_X9_isWithin z 0 7 = 1 := fun z hz => by
    rw [f_X9_isWithin, if_neg (show ¬ z < 0 by rw [i_lt]; show ¬ z.toInt < 0; omega), if_neg (show ¬ (7 : Int32) < z by rw [i_lt]; show ¬ (7 : Int) < z.toInt; omega)]
  rw [f_X9_isCell, w x hx, lz_e, if_neg (by decide), w y hy, lz_e, if_neg (by decide)]
theorem addG {g : Nat} (hA : AtA T L N p i la ea fa A) (hg : A p 6 = nI g) (hg4 : g ≤ 4) (x y : Int32) : ∃ A', f_X5_addGang p x y A = some A' ∧ AtA T L N p i la ea fa A' ∧ FtA p A A' ∧ (∃ g', g' ≤ 4 ∧ A' p 6 = nI g') ∧ (∀ r c, (r < p ∨ r = p + 1 ∨ r = p + 2) → A' r c = A r c) ∧ (g < 4 → (0 ≤ x.toInt ∧ x.toInt ≤ 7) → (0 ≤ y.toInt ∧ y.toInt ≤ 7) → A' p 6 = nI (g + 1) ∧ A' (p + 3) g = nI la ∧ A' (p + 4) g = x ∧ A' (p + 5) g = y ∧ ∀ k, k < g → A' (p + 3) k = A (p + 3) k ∧ A' (p + 4) k = A (p + 4) k ∧ A' (p + 5) k = A (p + 5) k) := by
  have hp := hA.1.2.2.2
  rw [f_X5_addGang, hg]
  by_cases z : 4 ≤ g
  · rw [if_pos (show (4 : Int32) ≤ nI g from (n_le (a := 4) (by omega) (by omega)).mpr z)]
    exact ⟨A, rfl, hA, FtA.refl _ _, ⟨g, hg4, hg⟩, fun _ _ _ => rfl, fun h => by omega⟩
  · rw [if_neg (show ¬ (4 : Int32) ≤ nI g from fun e => z ((n_le (a := 4) (by omega) (by omega)).mp e))]
    simp only [lz_e]
    by_cases zc : f_X9_isCell x y = 0
    · rw [if_pos zc]
      exact ⟨A, rfl, hA, FtA.refl _ _, ⟨g, hg4, hg⟩, fun _ _ _ => rfl, fun h hx hy => by rw [cellIn hx hy] at zc; exact absurd zc (by decide)⟩
    · rw [if_neg zc, if_pos (inN (show g < 4 by omega)), ixn (show g < 2147483648 by omega), wr_ne (show p ≠ p + 3 by omega), hg, if_pos (inN (show g < 4 by omega)), ixn (show g < 2147483648 by omega), wr_ne (show p ≠ p + 4 by omega), wr_ne (show p ≠ p + 3 by omega), hg, if_pos (inN (show g < 4 by omega)), ixn (show g < 2147483648 by omega), wr_ne (show p ≠ p + 5 by omega), wr_ne (show p ≠ p + 4 by omega), wr_ne (show p ≠ p + 3 by omega), hg, n_suc, hA.2.2.2.1]
      refine ⟨_, rfl, hA.ch (fun r c h => by rw [wr_o (by omega), wr_o (by omega), wr_o (by omega), wr_o (by omega)]), fun r c h1 h2 h3 h4 => by rw [wr_o (by omega), wr_o (by omega), wr_o (by omega), wr_o (by omega)], ⟨g + 1, by omega, wr_at _ _ _ _⟩, fun r c h => by rw [wr_o (by omega), wr_o (by omega), wr_o (by omega), wr_o (by omega)], fun h hx hy => ⟨wr_at _ _ _ _, ?_, ?_, ?_, fun k hk => ⟨?_, ?_, ?_⟩⟩⟩
      · rw [wr_ne (by omega), wr_ne (by omega), wr_ne (by omega), wr_at]
      · rw [wr_ne (by omega), wr_ne (by omega), wr_at]
      · rw [wr_ne (by omega), wr_at]
      · rw [wr_o (by omega), wr_o (by omega), wr_o (by omega), wr_o (by omega)]
      · rw [wr_o (by omega), wr_o (by omega), wr_o (by omega), wr_o (by omega)]
      · rw [wr_o (by omega), wr_o (by omega), wr_o (by omega), wr_o (by omega)]
def GOut (T : Nat → Int32) (L N p i many : Nat) (A B : Mm) (x : Int32) (A' B' : Mm) : Prop := FtA p A A' ∧ FtB B B' ∧ ((x = 0 ∧ Fail A' B') ∨ (x = 1 ∧ ∃ i' la' sb' ea' fa' P', i < i' ∧ TxS T L N p i' (many + 1) la' sb' ea' fa' P' A' B'))
/-- a gang's head behind its coordinates, its block and its end -/
theorem gang_end {P : PS} {x y : Nat} {e1 f1 : Int32} (hA : AtA T L N p (i + 5) la e1 f1 A) (hB : AtB T L (i + 5) 0 sb 0 e1 f1 B) (hl : la ≤ 2 * i) (hs : sb ≤ 4 * i) (hm : 7 * many ≤ i) (hf : e1 = 0 → f1 = -1) (h19 : B 69 19 = nI (many + 1)) (h4 : 4 < many + 1 → e1 ≠ 0) (hN : NmR T L N (many + 1) A B) (hg : (∃ g, g ≤ 4 ∧ A p 6 = nI g)) (hG : e1 = 0 → A p 6 = nI (many + 1) ∧ ∀ k, k < many + 1 → ∃ a b x y, A (p + 3) k = nI a ∧ A (p + 4) k = nI x ∧ A (p + 5) k = nI y ∧ B 78 k = nI b ∧ B 79 k = nI x ∧ B 80 k = nI y ∧ x < 8 ∧ y < 8 ∧ (P a b [] ∨ (a = la ∧ b = sb))) (hT : TG P la sb (A (p + 1)) (A (p + 2)) (B 75)) : ∃ x A' B', (bd2 (f_P4 100 0 3 (0 : Int32) A) fun x36 M37 => if (x36 = 0) then (some ((0 : Int32), M37)) else (if okr 2 (M37 3 3) then (bd2 (f_X5_emit (rid (M37 3 3)) (39 : Int32) (0 : Int32) M37) fun x42 M43 => if (x42 = 0) then (some ((0 : Int32), M43)) else (some ((1 : Int32), M43))) else none)) = some (x, A') ∧ (bd2 (f_P11 100 0 69 0 B) fun x71 M72 => if (x71 = 0) then (some ((0 : Int32), M72)) else (bd1 (f_X11_put 69 (40 : Int32) M72) fun M76 => some ((1 : Int32), M76))) = some (x, B') ∧ GOut T L N p i many A B x A' B' := by
  have hi := hA.le
  have hp := hA.1.2.2.2
  obtain ⟨x, A1, B1, c1, c2, c3, c4, c5⟩ := (blk_all T L N p 100 0 (by omega)).1 (by omega) (i + 5) la sb [] e1 f1 A B hA hB (by omega) (by omega) (Nat.le_refl _) (fun x hx => by cases hx)
  have c1' : f_P4 100 0 3 (0 : Int32) A = some (x, A1) := c1
  have c2' : f_P11 100 0 69 0 B = some (x, B1) := c2
  rw [c1', bd2_e, c2', bd2_e]
  rcases c5 with ⟨rfl, hff⟩ | ⟨rfl, i2, la2, sb2, ea2, fa2, Q, j1, j2, j3, j4, j5, j6, j7, j8⟩
  · exact ⟨0, A1, B1, if_pos rfl, if_pos rfl, c3.ft, c4.ft, Or.inl ⟨rfl, hff⟩⟩
  · have hi2 := j2.le
    obtain ⟨m1, m2⟩ := j2.emit (by omega) 39 0
    obtain ⟨q1, q2⟩ := j3.put (by omega) 40
    have fA := c3.trans (emA_fr p la2 39 0 A1) (by omega)
    have fB := c4.trans (puB_fr sb2 40 B1) (by omega)
    rw [if_neg (show ¬ (1 : Int32) = 0 by decide), if_pos j2.okp, j2.ridp, m1, bd2_e, if_neg (show ¬ (1 : Int32) = 0 by decide), if_neg (show ¬ (1 : Int32) = 0 by decide), q1, bd1_e]
    -- the points of the gang
    have hGood : ∀ (oF rF cF : Nat → Int32) (len : Nat) (S : PS), (∀ j, j < la2 + 1 → oF j = emA p la2 39 0 A1 (p + 1) j ∧ rF j = emA p la2 39 0 A1 (p + 2) j) → (∀ j, j < sb2 + 1 → cF j = puB sb2 40 B1 75 j) → la2 + 1 ≤ len → len ≤ 800 → sb2 + 1 ≤ 4000 → (∀ a b f, PO Q (P1 la2 sb2 []) a b f → S a b f) → S la sb [] ∧ ∀ a b f, PO Q (P1 la2 sb2 []) a b f → Lpt oF rF cF len S a b f ∧ f.length ≤ 8 := by
      intro oF rF cF len S k1 k2 k3 k4 k5 k6
      have hS : S la2 sb2 [] := k6 _ _ _ (Or.inr ⟨rfl, rfl, rfl⟩)
      obtain ⟨g1, g2⟩ := j8 oF rF cF len S (fun j a b => by
        rw [(k1 j (by omega)).1, (k1 j (by omega)).2]; exact (emA_fr p la2 39 0 A1).op hp b) (fun j a b => by rw [k2 j (by omega)]; exact (puB_fr sb2 40 B1).at b) (by omega) k4 (by omega) (fun a b f hf => k6 a b f (Or.inl hf)) hS
      refine ⟨g1, fun a b f hf => ?_⟩
      rcases hf with hf | ⟨rfl, rfl, rfl⟩
      · exact g2 a b f hf
      · refine ⟨Or.inl ⟨by omega, by omega, ?_, ?_⟩, by show 0 ≤ 8; omega⟩
        · rw [(k1 a (by omega)).1, (emA_op p a 39 0 A1).1]
        · rw [k2 b (by omega), puB_at]
    have hen : PO Q (P1 la2 sb2 []) la sb [] := (hGood _ _ _ (la2 + 1) (PO Q (P1 la2 sb2 [])) (fun _ _ => ⟨rfl, rfl⟩) (fun _ _ => rfl) (Nat.le_refl _) (by omega) (by omega) (fun _ _ _ h => h)).1
    have e5 : emA p la2 39 0 A1 3 5 = ea2 := m2.2.2.2.2.1
    have e5' : A 3 5 = e1 := hA.2.2.2.2.1
    have e6 : emA p la2 39 0 A1 3 6 = fa2 := m2.2.2.2.2.2
    have e6' : A 3 6 = f1 := hA.2.2.2.2.2
    have her : ea2 = 0 → e1 = 0 ∧ fa2 = f1 := fun h => by
      have := fA.2 (by omega) (by rw [e5]; exact h)
      rw [e5', e6, e6'] at this; exact this
    have kA : ∀ r c, (r = p ∧ c = 6) ∨ (p + 2 < r ∧ r ≤ p + 5) → emA p la2 39 0 A1 r c = A r c := fun r c h => fA.1 r c (by omega) (by omega) (by omega)
    have kB : ∀ r c, 76 ≤ r → puB sb2 40 B1 r c = B r c := fun r c h => fB r c (by omega) (by omega)
    refine ⟨1, emA p la2 39 0 A1, puB sb2 40 B1, rfl, rfl, fA.ft, fB.ft, Or.inr ⟨rfl, i2, la2 + 1, sb2 + 1, ea2, fa2, PO P (PO Q (P1 la2 sb2 [])), by omega, m2, q2, by omega, by omega, by omega, fun h => ?_, ⟨?_, fun h x => h4 h (her x).1⟩, ?_, ⟨?_, fun h => ?_⟩, ?_⟩⟩
    · rw [(her h).2]; exact hf (her h).1
    · rw [fB 69 19 (by omega) (by omega)]; exact h19
    · exact hN.keep (fA.1 3 2 (by omega) (by omega) (by omega)) (fun c => fA.1 9 c (by omega) (by omega) (by omega)) (fun c _ => ⟨kB 76 c (by omega), kB 77 c (by omega)⟩)
    · obtain ⟨g, g1, g2⟩ := hg
      exact ⟨g, g1, by rw [kA p 6 (by omega)]; exact g2⟩
    · obtain ⟨g1, g2⟩ := hG (her h).1
      refine ⟨by rw [kA p 6 (by omega)]; exact g1, fun k hk => ?_⟩
      obtain ⟨a, b, x, y, u1, u2, u3, u4, u5, u6, u7, u8, u9⟩ := g2 k hk
      refine ⟨a, b, x, y, by rw [kA _ k (by omega)]; exact u1, by rw [kA _ k (by omega)]; exact u2, by rw [kA _ k (by omega)]; exact u3, by rw [kB _ k (by omega)]; exact u4, by rw [kB _ k (by omega)]; exact u5, by rw [kB _ k (by omega)]; exact u6, u7, u8, ?_⟩
      rcases u9 with u9 | ⟨rfl, rfl⟩
      · exact Or.inl u9
      · exact Or.inr hen
    · intro oF rF cF len S k1 k2 k3 k4 k5 k6 a b f hf'
      rcases hf' with hf' | hf'
      · exact hT oF rF cF len S (fun j hj => by
          rw [(k1 j (by omega)).1, (k1 j (by omega)).2]; exact fA.op hp hj) (fun j hj => by rw [k2 j (by omega)]; exact fB.at hj) (by omega) k4 (by omega) (fun a b f h => k6 a b f (Or.inl h)) a b f hf'
      · exact (hGood oF rF cF len S k1 k2 k3 k4 k5 (fun a b f h => k6 a b f (Or.inr h))).2 a b f hf'
end GB
