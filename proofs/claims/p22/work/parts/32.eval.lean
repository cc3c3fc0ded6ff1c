/-! needs 30 31 -/
/-! sums in the two programs, instruction by instruction; a true in the row of the waiting values: 0 or 1 -/
def binT : List (Int32 × Int32 × Nat) := [(2, 52, 0), (3, 53, 0), (4, 54, 0), (5, 55, 0), (6, 28, 0), (7, 29, 0), (8, 56, 1), (9, 57, 1), (10, 58, 1), (11, 59, 1), (12, 60, 1), (14, 26, 2), (15, 27, 2)]
def binK (k : Nat) (t u : Bool) : Bool := if k = 0 then false else if k = 1 then true else t && u
def Ins (oA rA cB : Nat → Int32) (a b : Nat) (τ : List Bool) (b1 : Nat) (τ1 : List Bool) : Prop :=
  (oA a = 0 ∧ cB b = 50 ∧ cB (b + 1) = rA a ∧ b1 = b + 2 ∧ τ1 = false :: τ) ∨
  (∃ k, k < 13 ∧ oA a = nI (16 + k) ∧ cB b = nI (12 + k) ∧ b1 = b + 1 ∧ τ1 = false :: τ) ∨
  (∃ t τ0, oA a = 1 ∧ cB b = 51 ∧ b1 = b + 1 ∧ τ = t :: τ0 ∧ τ1 = false :: τ0) ∨
  (∃ τ0, oA a = 13 ∧ cB b = 25 ∧ b1 = b + 1 ∧ τ = true :: τ0 ∧ τ1 = true :: τ0) ∨
  (∃ x y k t u τ0, (x, y, k) ∈ binT ∧ oA a = x ∧ cB b = y ∧ b1 = b + 1 ∧ τ = t :: u :: τ0 ∧ τ1 = binK k t u :: τ0)
def Seg (oA rA cB : Nat → Int32) : Nat → Nat → Nat → List Bool → Nat → Nat → List Bool → Prop
  | 0, a, b, τ, a', b', τ' => a = a' ∧ b = b' ∧ τ = τ'
  | n + 1, a, b, τ, a', b', τ' => ∃ b1 τ1, Ins oA rA cB a b τ b1 τ1 ∧ τ1.length ≤ 60 ∧ Seg oA rA cB n (a + 1) b1 τ1 a' b' τ'
/-- the waiting values: A's row from base on, B's row from 0 on -/
def Vals (vA vB : Nat → Int32) (base : Nat) : List Bool → Prop
  | [] => True
  | t :: τ => vA (base + τ.length) = vB τ.length ∧ (t = true → vB τ.length = 0 ∨ vB τ.length = 1) ∧ Vals vA vB base τ
theorem Vals.congr {vA vB uA uB : Nat → Int32} {base : Nat} : ∀ {τ : List Bool}, (∀ j, j < τ.length → uA (base + j) = vA (base + j) ∧ uB j = vB j) → Vals vA vB base τ → Vals uA uB base τ
  | [], _, _ => trivial
  | t :: τ, h, hv => by
    obtain ⟨h1, h2, h3⟩ := hv
    obtain ⟨e1, e2⟩ := h τ.length (Nat.lt_succ_self _)
    exact ⟨by rw [e1, e2]; exact h1, by rw [e2]; exact h2, Vals.congr (fun j hj => h j (Nat.lt_succ_of_lt hj)) h3⟩
theorem Seg.len {oA rA cB : Nat → Int32} : ∀ {n a b : Nat} {τ : List Bool} {a' b' : Nat} {τ' : List Bool}, Seg oA rA cB n a b τ a' b' τ' → a' = a + n ∧ b + n ≤ b'
  | 0, a, b, τ, a', b', τ', h => by obtain ⟨rfl, rfl, rfl⟩ := h; omega
  | n + 1, a, b, τ, a', b', τ', h => by
    obtain ⟨b1, τ1, h1, h2, h3⟩ := h
    have := h3.len
    have : b + 1 ≤ b1 := by
      rcases h1 with ⟨-, -, -, e, -⟩ | ⟨k, -, -, -, e, -⟩ | ⟨t, τ0, -, -, e, -⟩ | ⟨τ0, -, -, e, -⟩ | ⟨x, y, k, t, u, τ0, -, -, -, e, -⟩ <;> omega
    omega
theorem Seg.app {oA rA cB : Nat → Int32} : ∀ {n m a b : Nat} {τ : List Bool} {a1 b1 : Nat} {τ1 : List Bool} {a2 b2 : Nat} {τ2 : List Bool}, Seg oA rA cB n a b τ a1 b1 τ1 → Seg oA rA cB m a1 b1 τ1 a2 b2 τ2 → Seg oA rA cB (n + m) a b τ a2 b2 τ2
  | 0, m, a, b, τ, a1, b1, τ1, a2, b2, τ2, h, k => by obtain ⟨rfl, rfl, rfl⟩ := h; rw [Nat.zero_add]; exact k
  | n + 1, m, a, b, τ, a1, b1, τ1, a2, b2, τ2, h, k => by
    obtain ⟨c, σ, h1, h2, h3⟩ := h
    rw [Nat.add_right_comm]
    exact ⟨c, σ, h1, h2, h3.app k⟩
theorem Ins.congr {oA rA cB oA' rA' cB' : Nat → Int32} {a b b1 : Nat} {τ τ1 : List Bool} (h : Ins oA rA cB a b τ b1 τ1) (h1 : oA' a = oA a) (h2 : rA' a = rA a) (h3 : ∀ j, b ≤ j → j < b1 → cB' j = cB j) : Ins oA' rA' cB' a b τ b1 τ1 := by
  unfold Ins
  rw [h1, h2]
  rcases h with ⟨e1, e2, e3, e, e4⟩ | ⟨k, e1, e2, e3, e, e4⟩ | ⟨t, τ0, e1, e2, e, e4⟩ | ⟨τ0, e1, e2, e, e4⟩ | ⟨x, y, k, t, u, τ0, e0, e1, e2, e, e4⟩
  · exact Or.inl ⟨e1, by rw [h3 b (by omega) (by omega)]; exact e2, by rw [h3 (b + 1) (by omega) (by omega)]; exact e3, e, e4⟩
  · exact Or.inr (Or.inl ⟨k, e1, e2, by rw [h3 b (by omega) (by omega)]; exact e3, e, e4⟩)
  · exact Or.inr (Or.inr (Or.inl ⟨t, τ0, e1, by rw [h3 b (by omega) (by omega)]; exact e2, e, e4⟩))
  · exact Or.inr (Or.inr (Or.inr (Or.inl ⟨τ0, e1, by rw [h3 b (by omega) (by omega)]; exact e2, e, e4⟩)))
  · exact Or.inr (Or.inr (Or.inr (Or.inr ⟨x, y, k, t, u, τ0, e0, e1, by rw [h3 b (by omega) (by omega)]; exact e2, e, e4⟩)))
theorem Ins.pos {oA rA cB : Nat → Int32} {a b b1 : Nat} {τ τ1 : List Bool} (h : Ins oA rA cB a b τ b1 τ1) : b < b1 ∧ (oA a).toInt ≤ 28 := by
  rcases h with ⟨e1, e2, e3, e, e4⟩ | ⟨k, e1, e2, e3, e, e4⟩ | ⟨t, τ0, e1, e2, e, e4⟩ | ⟨τ0, e1, e2, e, e4⟩ | ⟨x, y, k, t, u, τ0, e0, e1, e2, e, e4⟩
  · exact ⟨by omega, by rw [e1]; decide⟩
  · refine ⟨by omega, ?_⟩
    rw [e2, i_nI (by omega)]; omega
  · exact ⟨by omega, by rw [e1]; decide⟩
  · exact ⟨by omega, by rw [e1]; decide⟩
  · refine ⟨by omega, ?_⟩
    rw [e1]
    have : ∀ q ∈ binT, q.1.toInt ≤ 28 := by decide
    exact this _ e0
theorem Seg.congr {oA rA cB oA' rA' cB' : Nat → Int32} : ∀ {n a b : Nat} {τ : List Bool} {a' b' : Nat} {τ' : List Bool}, Seg oA rA cB n a b τ a' b' τ' → (∀ j, a ≤ j → j < a' → oA' j = oA j ∧ rA' j = rA j) → (∀ j, b ≤ j → j < b' → cB' j = cB j) → Seg oA' rA' cB' n a b τ a' b' τ'
  | 0, a, b, τ, a', b', τ', h, _, _ => h
  | n + 1, a, b, τ, a', b', τ', h, hA, hB => by
    obtain ⟨b1, τ1, h1, h2, h3⟩ := h
    have q := h3.len
    have p := h1.pos
    exact ⟨b1, τ1, h1.congr (hA a (by omega) (by omega)).1 (hA a (by omega) (by omega)).2 (fun j h1 h2 => hB j h1 (by omega)), h2, h3.congr (fun j h1 h2 => hA j (by omega) h2) (fun j h1 h2 => hB j (by omega) h2)⟩
theorem Seg.low {oA rA cB : Nat → Int32} : ∀ {n a b : Nat} {τ : List Bool} {a' b' : Nat} {τ' : List Bool}, Seg oA rA cB n a b τ a' b' τ' → ∀ j, a ≤ j → j < a' → (oA j).toInt ≤ 28
  | 0, a, b, τ, a', b', τ', h, j, h1, h2 => by obtain ⟨rfl, -, -⟩ := h; omega
  | n + 1, a, b, τ, a', b', τ', h, j, h1, h2 => by
    obtain ⟨b1, τ1, i1, i2, i3⟩ := h
    by_cases e : j = a
    · subst e; exact i1.pos.2
    · exact i3.low j (by omega) h2
/-! one operation -/
theorem bin_same : ∀ {x y : Int32} {k : Nat}, (x, y, k) ∈ binT → ∀ (l r : Int32) (A B : Mm), ∃ v, f_X8_join x l r A = some v ∧ f_X11_apply y l r B = some v ∧ (k = 1 → v = 0 ∨ v = 1) ∧ (k = 2 → (l = 0 ∨ l = 1) → (r = 0 ∨ r = 1) → v = 0 ∨ v = 1) := by
  intro x y k h l r A B
  simp only [binT, List.mem_cons, List.not_mem_nil, or_false, Prod.mk.injEq] at h
  rcases h with ⟨rfl, rfl, rfl⟩ | ⟨rfl, rfl, rfl⟩ | ⟨rfl, rfl, rfl⟩ | ⟨rfl, rfl, rfl⟩ | ⟨rfl, rfl, rfl⟩ | ⟨rfl, rfl, rfl⟩ | ⟨rfl, rfl, rfl⟩ | ⟨rfl, rfl, rfl⟩ | ⟨rfl, rfl, rfl⟩ | ⟨rfl, rfl, rfl⟩ | ⟨rfl, rfl, rfl⟩ | ⟨rfl, rfl, rfl⟩ | ⟨rfl, rfl, rfl⟩
  · exact ⟨_, rfl, rfl, (fun e => by cases e), (fun e => by cases e)⟩
  · exact ⟨_, rfl, rfl, (fun e => by cases e), (fun e => by cases e)⟩
  · exact ⟨_, rfl, rfl, (fun e => by cases e), (fun e => by cases e)⟩
  · by_cases hr : r = 0
    · exact ⟨0, by subst hr; rfl, by subst hr; rfl, (fun e => by cases e), (fun e => by cases e)⟩
    · refine ⟨l / r, ?_, ?_, (fun e => by cases e), (fun e => by cases e)⟩
      · show (if r = 0 then _ else _) = _
        rw [if_neg hr, if_pos hr]
      · show (if r = 0 then _ else _) = _
        rw [if_neg hr, if_pos hr]
  · exact ⟨_, rfl, rfl, (fun e => by cases e), (fun e => by cases e)⟩
  · exact ⟨_, rfl, rfl, (fun e => by cases e), (fun e => by cases e)⟩
  · refine ⟨if r ≤ l then 0 else 1, ?_, ?_, (fun _ => by split <;> simp), (fun e => by cases e)⟩
    · show (if r ≤ l then some 0 else some 1) = _
      split <;> rfl
    · show some (f_X11_flag (if r ≤ l then 0 else 1)) = _
      split <;> rfl
  · refine ⟨if l ≤ r then 0 else 1, ?_, ?_, (fun _ => by split <;> simp), (fun e => by cases e)⟩
    · show (if l ≤ r then some 0 else some 1) = _
      split <;> rfl
    · show some (f_X11_flag (if l ≤ r then 0 else 1)) = _
      split <;> rfl
  · refine ⟨if l = r then 1 else 0, ?_, ?_, (fun _ => by split <;> simp), (fun e => by cases e)⟩
    · show (if l = r then some 1 else some 0) = _
      split <;> rfl
    · show some (f_X11_flag (if l = r then 1 else 0)) = _
      split <;> rfl
  · refine ⟨if r < l then 0 else 1, ?_, ?_, (fun _ => by split <;> simp), (fun e => by cases e)⟩
    · show (if r < l then some 0 else some 1) = _
      split <;> rfl
    · show some (f_X11_flag (if r < l then 0 else 1)) = _
      split <;> rfl
  · refine ⟨if l < r then 0 else 1, ?_, ?_, (fun _ => by split <;> simp), (fun e => by cases e)⟩
    · show (if l < r then some 0 else some 1) = _
      split <;> rfl
    · show some (f_X11_flag (if l < r then 0 else 1)) = _
      split <;> rfl
  · refine ⟨l &&& r, rfl, rfl, (fun e => by cases e), fun _ h1 h2 => ?_⟩
    rcases h1 with rfl | rfl <;> rcases h2 with rfl | rfl <;> decide
  · refine ⟨l ||| r, rfl, rfl, (fun e => by cases e), fun _ h1 h2 => ?_⟩
    rcases h1 with rfl | rfl <;> rcases h2 with rfl | rfl <;> decide
