/-! needs 30 31 32 33 34 35 36 37 38 -/
/-! sentences: the points of the two programs that go together -/
def rk (oA : Nat → Int32) (a : Nat) : Nat := if oA a = 38 ∨ (oA a = 0 ∧ oA (a + 1) = 36) then 801 - a else 0
abbrev PS : Type := Nat → Nat → List Nat → Prop
def Lpt (oA rA cB : Nat → Int32) (len : Nat) (S : PS) (a b : Nat) (e : List Nat) : Prop :=
  (a < len ∧ b < 4000 ∧ oA a = 39 ∧ cB b = 40) ∨
  (a < len ∧ b + 1 < 4000 ∧ oA a = 38 ∧ cB b = 41 ∧ ∃ a' b', rA a = nI a' ∧ cB (b + 1) = nI b' ∧ S a' b' e ∧ rk oA a' < rk oA a) ∨
  (a + 1 < len ∧ b + 2 < 4000 ∧ oA a = 0 ∧ oA (a + 1) = 36 ∧ cB b = 42 ∧ ∃ d, rA (a + 1) = nI d ∧ d < 9 ∧ ¬ d ∈ e ∧ e.length < 8 ∧ cB (b + 1) = nI e.length ∧ cB (b + 2) = rA a ∧ S (a + 2) (b + 3) (d :: e) ∧ rk oA (a + 2) < rk oA a) ∨
  (a + 1 < len ∧ b + 2 < 4000 ∧ oA a = 0 ∧ oA (a + 1) = 37 ∧ cB b = 43 ∧ ∃ d e0, e = d :: e0 ∧ rA a = nI d ∧ d < 9 ∧ ¬ d ∈ e0 ∧ e0.length < 8 ∧ cB (b + 1) = nI e0.length ∧ S (a + 2) (b + 3) e ∧ ∃ a' b', rA (a + 1) = nI a' ∧ cB (b + 2) = nI b' ∧ S a' b' e0) ∨
  (∃ n a1 b1 t, a1 < len ∧ b1 < 3999 ∧ (cB b = 8 ∨ cB b = 11) ∧ Seg oA rA cB n a (b + 2) [] a1 b1 [t] ∧ cB b1 = 61 ∧ oA a1 = 35 ∧ S (a1 + 1) (b1 + 1) e ∧ ∃ a' b', rA a1 = nI a' ∧ cB (b + 1) = nI b' ∧ S a' b' e) ∨
  (∃ n a1 b1 m a2 b2 t u, a2 < len ∧ b2 < 3999 ∧ cB b = 2 ∧ Seg oA rA cB n a (b + 1) [] a1 b1 [t] ∧ cB b1 = 61 ∧ Seg oA rA cB m a1 (b1 + 1) [] a2 b2 [u] ∧ cB b2 = 61 ∧ oA a2 = 29 ∧ S (a2 + 1) (b2 + 1) e) ∨
  (∃ n a1 b1 t x y, (x, y) ∈ [((30 : Int32), (3 : Int32)), (32, 5), (34, 7)] ∧ a1 < len ∧ b1 < 3999 ∧ cB b = y ∧ Seg oA rA cB n a (b + 1) [] a1 b1 [t] ∧ cB b1 = 61 ∧ oA a1 = x ∧ S (a1 + 1) (b1 + 1) e) ∨
  (∃ x y, (x, y) ∈ [((31 : Int32), (4 : Int32)), (33, 6)] ∧ a < len ∧ b + 1 < 4000 ∧ oA a = x ∧ cB b = y ∧ S (a + 1) (b + 1) e)
/-- the counters of the loops that a point stands in -/
def Rep (q s g : Nat) : List Nat → Mm → Mm → Prop
  | [], _, _ => True
  | d :: e, A, B => A (q + 1) d = B (s + 7) (8 * g + e.length) ∧ Rep q s g e A B
theorem Rep.congr {q s g : Nat} {A B A' B' : Mm} : ∀ {e : List Nat}, (∀ d, d ∈ e → A' (q + 1) d = A (q + 1) d) → (∀ k, k < e.length → B' (s + 7) (8 * g + k) = B (s + 7) (8 * g + k)) → Rep q s g e A B → Rep q s g e A' B'
  | [], _, _, _ => trivial
  | d :: e, hA, hB, h => ⟨by rw [hA d List.mem_cons_self, hB e.length (Nat.lt_succ_self _)]; exact h.1, Rep.congr (fun x hx => hA x (List.mem_cons_of_mem _ hx)) (fun k hk => hB k (Nat.lt_succ_of_lt hk)) h.2⟩
/-! the class: a sentence's operation -/
theorem arg_run {b p len a : Nat} {oA rA : Nat → Int32} {A : Mm} (hP : Prg b p len oA rA A) (h : a < len) : f_X5_argumentAt p (nI a) A = some (rA a) := by
  have hl := hP.2.2.2.1
  rw [f_X5_argumentAt, if_neg (by rw [i_lt, i_nI (by omega)]; show ¬ (a : Int) < 0; omega), hP.2.2.1, if_neg (by rw [n_le (by omega) (by omega)]; omega), if_pos (inN (show a < 800 by omega)), ixn (by omega), hP.2.2.2.2.2]
theorem op_run {b p len a : Nat} {oA rA : Nat → Int32} {A : Mm} (hP : Prg b p len oA rA A) (h : a < len) : f_X5_opAt p (nI a) A = some (oA a) := by
  have hl := hP.2.2.2.1
  rw [f_X5_opAt, if_neg (by rw [i_lt, i_nI (by omega)]; show ¬ (a : Int) < 0; omega), hP.2.2.1, if_neg (by rw [n_le (by omega) (by omega)]; omega), if_pos (inN (show a < 800 by omega)), ixn (by omega), hP.2.2.2.2.1]
theorem bd2_id {α β : Type} (x : Option (α × β)) : (bd2 x fun a b => some (a, b)) = x := by
  cases x with
  | none => rfl
  | some a => rfl
theorem bd1_id {α : Type} (x : Option α) : (bd1 x fun a => some a) = x := by
  cases x with
  | none => rfl
  | some a => rfl
theorem co_run {w b p len a : Nat} {oA rA : Nat → Int32} {A : Mm} (hw : Wb w b) (hP : Prg b p len oA rA A) (h : a < len) : f_X8_carryOut w (nI a) A =
    if oA a = (29 : Int32) then f_X8_go w (nI a) A else if oA a = (30 : Int32) then f_X8_cut w (nI a) A else if oA a = (31 : Int32) then f_X8_turn w (nI a) A else if oA a = (32 : Int32) then f_X8_load w (nI a) A else if oA a = (33 : Int32) then f_X8_unload w (nI a) A else if oA a = (34 : Int32) then f_X8_rest w (nI a) A else if oA a = (35 : Int32) then f_X8_branch w (nI a) (rA a) A else if oA a = (36 : Int32) then f_X8_beginRepeat w (nI a) (rA a) A else if oA a = (37 : Int32) then f_X8_repeat w (nI a) (rA a) A else if oA a = (38 : Int32) then (if okr 1 (A w 1) then some ((0 : Int32), wr A (rid (A w 1)) 9 (rA a)) else none) else (if okr 1 (A w 1) then (lz (wr A (rid (A w 1)) 4 (1 : Int32)) fun M59 => if okr 1 (M59 w 1) then some ((1 : Int32), wr M59 (rid (M59 w 1)) 5 ((M59 (rid (M59 w 1)) 5) + (1 : Int32))) else none) else none) := by
  rw [f_X8_carryOut, hw.wbog, if_pos hP.okr, hP.rid, arg_run hP h, bd1_e, if_pos hP.okr, op_run hP h, bd1_e]
  simp only [bd2_id, lz_e]
/-- the sums ahead of a sentence -/
theorem A0_eqw (w : Nat) (A : Mm) : EqW w A (wr A w 3 0) := ⟨fun i h _ => wr_ne h, fun j h => wr_col h⟩
theorem rs_run {w b q g p len n pa pa' : Nat} {oA rA : Nat → Int32} {A A' : Mm} (hA : AtG w b q g A) (hpos : A q 9 = nI pa) (h0 : ∀ k, f_X8_reckonSums_L13 w (n + k) (nI pa) (wr A w 3 0) = f_X8_reckonSums_L13 w k (nI pa') A') (hn : n ≤ 800) (hP : Prg b p len oA rA A') (h1 : pa' < len) (h2 : 28 < (oA pa').toInt) : f_X8_reckonSums w A = some (nI pa', A') := by
  have hw := hA.1
  have hg := hA.2.1
  have hq := hA.2.2.1
  unfold Wb at hw
  have hA0 : AtG w b q g (wr A w 3 0) := ⟨hA.1, hA.2.1, hA.2.2.1, by rw [wr_col (by decide)]; exact hA.2.2.2⟩
  obtain ⟨m, hm⟩ := FU_gt (n := n) (by omega)
  rw [f_X8_reckonSums, lz_e, if_pos hA0.okr, hA0.rid, wr_ne (show q ≠ w by omega), hpos, hm, Nat.add_assoc, h0, Nat.add_comm 1 m, sA_stop hA.1 hP h1 h2, bd2_e]
/-! the reference: a sentence -/
section WK
variable {s g bb k : Nat} {v : Int32} {B : Mm} {cB : Nat → Int32}
theorem wk_end (hg : g < 4) (hpos : B (s + 6) (10 * g + 4) = nI bb) (hc : B 74 = cB) (hb : bb < 4000) (h : cB bb = 40) : f_X11_work_L47 69 s (nI g) (nI (10 * g)) (k + 1) v B = some (wr (wr B (s + 6) (10 * g + 5) 1) (s + 6) (10 * g + 6) (B (s + 6) (10 * g + 6) + 1)) := by
  rw [f_X11_work_L47, ga4, if_pos (inN (show 10 * g + 4 < 40 by omega)), ixn (by omega), hpos, lz_e, if_pos (inN hb), hc, ixn (show bb < 2147483648 by omega), h, if_pos rfl, ga5, if_pos (inN (show 10 * g + 5 < 40 by omega)), ixn (show 10 * g + 5 < 2147483648 by omega), lz_e, ga6, if_pos (inN (show 10 * g + 6 < 40 by omega)), if_pos (inN (show 10 * g + 6 < 40 by omega)), ixn (show 10 * g + 6 < 2147483648 by omega), lz_e, wr_col (show 10 * g + 6 ≠ 10 * g + 5 by omega)]
theorem wk_jump (hg : g < 4) (hpos : B (s + 6) (10 * g + 4) = nI bb) (hc : B 74 = cB) (hb : bb + 1 < 4000) (h : cB bb = 41) : f_X11_work_L47 69 s (nI g) (nI (10 * g)) (k + 1) v B = f_X11_work_L47 69 s (nI g) (nI (10 * g)) k v (posB s g (cB (bb + 1)) B) := by
  rw [f_X11_work_L47, ga4, if_pos (inN (show 10 * g + 4 < 40 by omega)), ixn (show 10 * g + 4 < 2147483648 by omega), hpos, lz_e, if_pos (inN (show bb < 4000 by omega)), hc, ixn (show bb < 2147483648 by omega), h, if_neg (by decide), if_pos rfl, n_suc, if_pos (inN hb), if_pos (inN (show 10 * g + 4 < 40 by omega)), ixn (show bb + 1 < 2147483648 by omega), lz_e]
  rfl
theorem wk_init {sl : Nat} (hg : g < 4) (hpos : B (s + 6) (10 * g + 4) = nI bb) (hc : B 74 = cB) (hb : bb + 2 < 4000) (h : cB bb = 42) (hs : cB (bb + 1) = nI sl) (hsl : sl < 8) : f_X11_work_L47 69 s (nI g) (nI (10 * g)) (k + 1) v B = f_X11_work_L47 69 s (nI g) (nI (10 * g)) k v (posB s g (nI (bb + 3)) (wr B (s + 7) (8 * g + sl) (cB (bb + 2)))) := by
  rw [f_X11_work_L47, ga4, if_pos (inN (show 10 * g + 4 < 40 by omega)), ixn (show 10 * g + 4 < 2147483648 by omega), hpos, lz_e, if_pos (inN (show bb < 4000 by omega)), hc, ixn (show bb < 2147483648 by omega), h, if_neg (by decide), if_neg (by decide), if_pos rfl, n_suc, if_pos (inN (show bb + 1 < 4000 by omega)), ga2, if_pos (inN hb), ixn (show bb + 1 < 2147483648 by omega), hs, g8 hg, n_add, if_pos (inN (show 8 * g + sl < 32 by omega)), ixn (show bb + 2 < 2147483648 by omega), ixn (show 8 * g + sl < 2147483648 by omega), lz_e, if_pos (inN (show 10 * g + 4 < 40 by omega)), ga3, lz_e]
  rfl
theorem n50 {c : Nat} (h : c ≤ 50) : (nI c = (50 : Int32)) ↔ c = 50 := n_inj (b := 50) (by omega) (by decide)
theorem wk_over (hg : g < 4) (hpos : B (s + 6) (10 * g + 4) = nI bb) (hc : B 74 = cB) (hb : bb < 4000) (h : cB bb = 8 ∨ cB bb = 11 ∨ cB bb = 43) : f_X11_work_L47 69 s (nI g) (nI (10 * g)) (k + 1) (nI 50) B = some (wr B (s + 6) (10 * g + 6) (B (s + 6) (10 * g + 6) + 1)) := by
  rw [f_X11_work_L47, ga4, if_pos (inN (show 10 * g + 4 < 40 by omega)), ixn (show 10 * g + 4 < 2147483648 by omega), hpos, lz_e, if_pos (inN hb), hc, ixn (show bb < 2147483648 by omega)]
  have e : ∀ x : Int32, x = 8 ∨ x = 11 ∨ x = 43 → ¬ x = 40 ∧ ¬ x = 41 ∧ ¬ x = 42 := by
    intro x hx; rcases hx with rfl | rfl | rfl <;> decide
  obtain ⟨e1, e2, e3⟩ := e _ h
  rw [if_neg e1, if_neg e2, if_neg e3]
  have f : (if cB bb = (8 : Int32) then some ((1 : Int32), B) else if cB bb = (11 : Int32) then some ((1 : Int32), B) else if cB bb = (43 : Int32) then some ((1 : Int32), B) else if cB bb = (2 : Int32) then (bd2 (f_X11_isThere 69 s (nI g) (nI bb + (1 : Int32)) B) fun x21 M22 => if x21 = 0 then some ((0 : Int32), M22) else some ((1 : Int32), M22)) else some ((0 : Int32), B)) = some ((1 : Int32), B) := by
    rcases h with h | h | h <;> rw [h] <;> rfl
  rw [f, bd2_e, if_neg (show ¬ (1 : Int32) = 0 by decide), if_pos (by rfl), ga6, if_pos (inN (show 10 * g + 6 < 40 by omega)), if_pos (inN (show 10 * g + 6 < 40 by omega)), ixn (show 10 * g + 6 < 2147483648 by omega), lz_e]
theorem wk_on {c : Nat} (hg : g < 4) (hpos : B (s + 6) (10 * g + 4) = nI bb) (hc : B 74 = cB) (hb : bb < 4000) (h : cB bb = 8 ∨ cB bb = 11 ∨ cB bb = 43) (h50 : c < 50) : f_X11_work_L47 69 s (nI g) (nI (10 * g)) (k + 1) (nI c) B = bd1 (f_X11_goOn 69 s (nI g) (cB bb) (nI bb) B) fun M => f_X11_work_L47 69 s (nI g) (nI (10 * g)) k (nI (c + 1)) M := by
  rw [f_X11_work_L47, ga4, if_pos (inN (show 10 * g + 4 < 40 by omega)), ixn (show 10 * g + 4 < 2147483648 by omega), hpos, lz_e, if_pos (inN hb), hc, ixn (show bb < 2147483648 by omega)]
  have e : ∀ x : Int32, x = 8 ∨ x = 11 ∨ x = 43 → ¬ x = 40 ∧ ¬ x = 41 ∧ ¬ x = 42 := by
    intro x hx; rcases hx with rfl | rfl | rfl <;> decide
  obtain ⟨e1, e2, e3⟩ := e _ h
  rw [if_neg e1, if_neg e2, if_neg e3]
  have f : (if cB bb = (8 : Int32) then some ((1 : Int32), B) else if cB bb = (11 : Int32) then some ((1 : Int32), B) else if cB bb = (43 : Int32) then some ((1 : Int32), B) else if cB bb = (2 : Int32) then (bd2 (f_X11_isThere 69 s (nI g) (nI bb + (1 : Int32)) B) fun x21 M22 => if x21 = 0 then some ((0 : Int32), M22) else some ((1 : Int32), M22)) else some ((0 : Int32), B)) = some ((1 : Int32), B) := by
    rcases h with h | h | h <;> rw [h] <;> rfl
  rw [f, bd2_e, if_neg (show ¬ (1 : Int32) = 0 by decide), if_neg (fun x => by have := (n50 (by omega)).mp x; omega), n_suc, lz_e]
theorem wk_act (hg : g < 4) (hpos : B (s + 6) (10 * g + 4) = nI bb) (hc : B 74 = cB) (hb : bb < 4000) (h : cB bb = 3 ∨ cB bb = 4 ∨ cB bb = 5 ∨ cB bb = 6 ∨ cB bb = 7) : f_X11_work_L47 69 s (nI g) (nI (10 * g)) (k + 1) v B = f_X11_act 69 s (nI g) (cB bb) (nI (bb + 1)) B := by
  rw [f_X11_work_L47, ga4, if_pos (inN (show 10 * g + 4 < 40 by omega)), ixn (show 10 * g + 4 < 2147483648 by omega), hpos, lz_e, if_pos (inN hb), hc, ixn (show bb < 2147483648 by omega)]
  have e : ∀ x : Int32, x = 3 ∨ x = 4 ∨ x = 5 ∨ x = 6 ∨ x = 7 → ¬ x = 40 ∧ ¬ x = 41 ∧ ¬ x = 42 ∧ ¬ x = 8 ∧ ¬ x = 11 ∧ ¬ x = 43 ∧ ¬ x = 2 := by
    intro x hx; rcases hx with rfl | rfl | rfl | rfl | rfl <;> decide
  obtain ⟨e1, e2, e3, e4, e5, e6, e7⟩ := e _ h
  rw [if_neg e1, if_neg e2, if_neg e3, if_neg e4, if_neg e5, if_neg e6, if_neg e7, bd2_e, if_pos rfl, n_suc, bd1_id]
theorem wk_go {x : Int32} {B1 : Mm} (hg : g < 4) (hpos : B (s + 6) (10 * g + 4) = nI bb) (hc : B 74 = cB) (hb : bb < 4000) (h : cB bb = 2) (ht : f_X11_isThere 69 s (nI g) (nI (bb + 1)) B = some (x, B1)) : f_X11_work_L47 69 s (nI g) (nI (10 * g)) (k + 1) v B = if x = 0 then f_X11_act 69 s (nI g) 2 (nI (bb + 1)) B1 else if v = (50 : Int32) then some (wr B1 (s + 6) (10 * g + 6) (B1 (s + 6) (10 * g + 6) + 1)) else bd1 (f_X11_goOn 69 s (nI g) 2 (nI bb) B1) fun M => f_X11_work_L47 69 s (nI g) (nI (10 * g)) k (v + 1) M := by
  rw [f_X11_work_L47, ga4, if_pos (inN (show 10 * g + 4 < 40 by omega)), ixn (show 10 * g + 4 < 2147483648 by omega), hpos, lz_e, if_pos (inN hb), hc, ixn (show bb < 2147483648 by omega), h, if_neg (by decide), if_neg (by decide), if_neg (by decide), if_neg (by decide), if_neg (by decide), if_neg (by decide), if_pos rfl, n_suc, ht, bd2_e]
  by_cases hx : x = 0
  · rw [if_pos hx, bd2_e, if_pos rfl, if_pos hx, bd1_id]
  · rw [if_neg hx, bd2_e, if_neg (show ¬ (1 : Int32) = 0 by decide), if_neg hx, lz_e, ga6, if_pos (inN (show 10 * g + 6 < 40 by omega)), if_pos (inN (show 10 * g + 6 < 40 by omega)), ixn (show 10 * g + 6 < 2147483648 by omega), lz_e]
end WK
