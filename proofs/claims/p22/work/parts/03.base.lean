/-! the world as one memory: cells by number, their numbers' layout fixed; refs by number + 1, 0 is null -/
abbrev Mm : Type := Nat → Nat → Int32
def wr (M : Mm) (i j : Nat) (v : Int32) : Mm := fun a b => if a = i ∧ b = j then v else M a b
def wrow (M : Mm) (i : Nat) (f : Nat → Int32) : Mm := fun a => if a = i then f else M a
abbrev GG : Type := va_G × (Nat → Nat) × (Nat → ClassId) × (List (Nat × Nat × List Int32) × List (Nat × Nat × (Nat → Int32)))
def ix (j : Int32) : Nat := j.toNatClampNeg
def kdL : List (Nat × Nat) := [(6, 0), (21, 2000), (21, 72), (7, 0), (8, 0), (23, 401), (20, 401), (20, 401), (21, 0), (20, 4), (2, 0), (20, 800), (20, 800), (20, 4), (20, 4), (20, 4), (2, 0), (20, 800), (20, 800), (20, 4), (20, 4), (20, 4), (2, 0), (20, 800), (20, 800), (20, 4), (20, 4), (20, 4), (99, 0), (0, 0), (20, 64), (20, 64), (20, 64), (20, 64), (20, 64), (20, 64), (20, 12), (20, 12), (22, 4), (1, 0), (20, 9), (1, 0), (20, 9), (1, 0), (20, 9), (1, 0), (20, 9), (0, 0), (20, 64), (20, 64), (20, 64), (20, 64), (20, 64), (20, 64), (20, 12), (20, 12), (22, 4), (1, 0), (20, 9), (1, 0), (20, 9), (1, 0), (20, 9), (1, 0), (20, 9), (3, 0), (20, 64), (3, 0), (20, 64)]
def kd (i : Nat) : Nat × Nat := kdL.getD i (99, 0)
abbrev CLS : List vw_C := [(RX1, TX1, 17), (RX2, TX2, 11), (RX5, TX5, 7), (RX8, TX8, 5), (RJ0, TJ0, 4), (RJ4, TJ4, 4), (RX9, TX9, 11), (RX4, TX4, 7), (RX6, TX6, 5)]
def TYS (G : GG) : List (ClassId × FieldType) := [(G.2.2.1 0, .int), (G.2.2.1 1, .byte), (G.2.2.1 2, .object "PeatBog$Gang"), (G.2.2.1 3, .object "PeatBog$Token")]
def rf (G : GG) (c : Int32) : Option Nat := if c.toNatClampNeg = 0 then none else some (G.2.1 (c.toNatClampNeg - 1))
def wbog (w : Nat) : Nat := if w = 65 then 29 else 47
def OBv (G : GG) (M : Mm) (i : Nat) : Nat → List Value
  | 0 => [.ref (G.2.1 (i + 1)), .ref (G.2.1 (i + 2)), .ref (G.2.1 (i + 3)), .ref (G.2.1 (i + 4)), .ref (G.2.1 (i + 5)), .ref (G.2.1 (i + 6)), .ref (G.2.1 (i + 7)), .ref (G.2.1 (i + 8)), .int (M i 8), .int (M i 9), .int (M i 10), .int (M i 11), .int (M i 12), .int (M i 13), .ref (G.2.1 (i + 9)), .int (M i 15), va_rf (rf G (M i 16))]
  | 1 => [.int (M i 0), .int (M i 1), .int (M i 2), .int (M i 3), .int (M i 4), .int (M i 5), .int (M i 6), .int (M i 7), .int (M i 8), .int (M i 9), .ref (G.2.1 (i + 1))]
  | 2 => [.ref (G.2.1 (i + 1)), .ref (G.2.1 (i + 2)), .int (M i 2), .ref (G.2.1 (i + 3)), .ref (G.2.1 (i + 4)), .ref (G.2.1 (i + 5)), .int (M i 6)]
  | 3 => [.ref (G.2.1 (wbog i)), va_rf (rf G (M i 1)), .ref (G.2.1 (i + 1)), .int (M i 3), .int (M i 4)]
  | 6 => [.ref (G.2.1 (i + 1)), .int (M i 1), .ref (G.2.1 (i + 2)), .int (M i 3), .int (M i 4), .ref (G.2.1 (i + 3)), va_rf (rf G (M i 6)), .ref (G.2.1 (i + 29)), .ref (G.2.1 (i + 65)), .ref (G.2.1 (i + 47)), .ref (G.2.1 (i + 67))]
  | 7 => [.ref (G.2.1 (i + 1)), .ref (G.2.1 (i + 6)), .int (M i 2), va_rf (rf G (M i 3)), .int (M i 4), .int (M i 5), .int (M i 6)]
  | 8 => [.ref (G.2.1 (i + 1)), .ref (G.2.1 (i + 2)), .ref (G.2.1 (i + 3)), va_rf (rf G (M i 3)), .int (M i 4)]
  | _ => []
def EN (G : GG) (M : Mm) (i : Nat) : va_E :=
  if (kd i).1 = 20 then .inl (G.2.2.1 0, (kd i).2, .inl (M i))
  else if (kd i).1 = 21 then .inl (G.2.2.1 1, (kd i).2, .inl (M i))
  else if (kd i).1 = 22 then .inl (G.2.2.1 2, (kd i).2, .inr (.inr (.inr (.inr (fun j => some (G.2.1 (i + 1 + 2 * j)))))))
  else if (kd i).1 = 23 then .inl (G.2.2.1 3, (kd i).2, .inr (.inr (.inr (.inr (fun j => rf G (M i j))))))
  else if (kd i).1 = 24 then .inl (G.2.2.1 4, (kd i).2, .inr (.inl (fun j => (M i j).toInt64)))
  else .inr ((kd i).1, OBv G M i (kd i).1)
def OKI (i : Nat) : Prop := i < 69 ∧ i ≠ 28
def pl (i : Nat) : Nat := if i < 28 then i else i - 1
def qi (k : Nat) : Nat := if k < 28 then k else k + 1
def idL : List Nat := List.range 28 ++ (List.range 40).map (fun j => j + 29)
def WL (G : GG) (M : Mm) : va_W := idL.map (fun i => (G.2.1 i, EN G M i))
theorem wr_ne {M : Mm} {i j a : Nat} {v : Int32} (h : a ≠ i) : wr M i j v a = M a := by funext b; simp [wr, h]
theorem wr_row (M : Mm) (i j : Nat) (v : Int32) : wr M i j v i = upd (M i) j v := by funext b; simp [wr, upd]
theorem wrow_ne {M : Mm} {i a : Nat} {f : Nat → Int32} (h : a ≠ i) : wrow M i f a = M a := by simp [wrow, h]
theorem OBv_congr {G : GG} {M M' : Mm} {i : Nat} (h : M' i = M i) : ∀ c, OBv G M' i c = OBv G M i c := by
  intro c; unfold OBv; split <;> simp [h]
theorem EN_congr {G : GG} {M M' : Mm} {i : Nat} (h : M' i = M i) : EN G M' i = EN G M i := by
  unfold EN; rw [h, OBv_congr h]
theorem kd_28 : kd 28 = (99, 0) := by decide
theorem kd_lt {i k : Nat} (h : (kd i).1 = k) (hk : k < 99 := by decide) : OKI i := by
  by_cases hi : i < 69
  · refine ⟨hi, fun e => ?_⟩
    subst e
    rw [kd_28] at h
    simp at h
    omega
  · exfalso
    have : kd i = (99, 0) := by
      unfold kd
      rw [List.getD_eq_getElem?_getD, List.getElem?_eq_none (Nat.le_trans (Nat.le_of_ble_eq_true rfl : kdL.length ≤ 69) (Nat.not_lt.mp hi))]
      rfl
    rw [this] at h
    simp at h
    omega
theorem kd_lt2 {i t N : Nat} (h : kd i = (t, N)) (hk : t < 99 := by decide) : OKI i := kd_lt (k := t) (by rw [h]) hk
theorem idL_at : ∀ k, k < 69 → k ≠ 28 → idL[pl k]? = some k := by decide
theorem idL_qi : ∀ k, k < 68 → idL[k]? = some (qi k) ∧ (qi k < 69 ∧ qi k ≠ 28) ∧ pl (qi k) = k := by decide
theorem idL_len : idL.length = 68 := by decide
theorem pl_qi0 : ∀ i, i < 69 → i ≠ 28 → pl i < 68 ∧ qi (pl i) = i := by decide
theorem pl_qi {i : Nat} (h : OKI i) : pl i < 68 ∧ qi (pl i) = i := pl_qi0 i h.1 h.2
theorem WL_len (G : GG) (M : Mm) : (WL G M).length = 68 := by rw [WL, List.length_map, idL_len]
theorem WL_get {G : GG} {M : Mm} {i : Nat} (h : OKI i) : (WL G M)[pl i]? = some (G.2.1 i, EN G M i) := by
  rw [WL, List.getElem?_map, idL_at i h.1 h.2]; rfl
theorem WL_qi {G : GG} {M : Mm} {k : Nat} (h : k < 68) : (WL G M)[k]? = some (G.2.1 (qi k), EN G M (qi k)) := by
  rw [WL, List.getElem?_map, (idL_qi k h).1]; rfl
theorem WL_set {G : GG} {M M' : Mm} {i : Nat} {en : va_E} (he : EN G M' i = en) (ho : ∀ j, j ≠ i → M' j = M j) (hi : OKI i := by first | exact kd_lt2 ‹_› | exact kd_lt ‹_›) : (WL G M).set (pl i) (G.2.1 i, en) = WL G M' := by
  apply List.ext_getElem?
  intro j
  rw [List.getElem?_set]
  by_cases hj : pl i = j
  · subst hj
    rw [if_pos rfl, WL_get (M := M') hi, he, if_pos (by rw [WL_len]; exact (pl_qi hi).1)]
  · rw [if_neg hj]
    by_cases hl : j < 68
    · rw [WL_qi hl, WL_qi hl, EN_congr (ho (qi j) (fun e => hj (by rw [← e]; exact (idL_qi j hl).2.2)))]
    · rw [List.getElem?_eq_none (by rw [WL_len]; omega), List.getElem?_eq_none (by rw [WL_len]; omega)]
theorem EN_int {G : GG} {M : Mm} {i n : Nat} (h : kd i = (20, n)) : EN G M i = .inl (G.2.2.1 0, n, .inl (M i)) := by simp [EN, h]
theorem EN_byte {G : GG} {M : Mm} {i n : Nat} (h : kd i = (21, n)) : EN G M i = .inl (G.2.2.1 1, n, .inl (M i)) := by simp [EN, h]
theorem EN_gang {G : GG} {M : Mm} {i n : Nat} (h : kd i = (22, n)) : EN G M i = .inl (G.2.2.1 2, n, .inr (.inr (.inr (.inr (fun j => some (G.2.1 (i + 1 + 2 * j))))))) := by simp [EN, h]
theorem EN_tok {G : GG} {M : Mm} {i n : Nat} (h : kd i = (23, n)) : EN G M i = .inl (G.2.2.1 3, n, .inr (.inr (.inr (.inr (fun j => rf G (M i j)))))) := by simp [EN, h]
theorem EN_out {G : GG} {M : Mm} {i n : Nat} (h : kd i = (24, n)) : EN G M i = .inl (G.2.2.1 4, n, .inr (.inl (fun j => (M i j).toInt64))) := by simp [EN, h]
theorem EN_obj {G : GG} {M : Mm} {i k : Nat} (h : (kd i).1 = k) (hk : k < 20 := by decide) : EN G M i = .inr (k, OBv G M i k) := by
  unfold EN
  rw [h, if_neg (by omega), if_neg (by omega), if_neg (by omega), if_neg (by omega), if_neg (by omega)]
def AF (G : GG) (sz : Nat) : Nat → Prop := fun q => (∃ i, OKI i ∧ q = G.2.1 i) ∨ sz ≤ q
def GI (G : GG) : Prop := ∀ i j, OKI i → OKI j → G.2.1 i = G.2.1 j → i = j
def tkNm : List String := ["GANG", "AT", "GO", "CUT", "TURN", "LOAD", "UNLOAD", "WAIT", "IF", "ELSE", "REPEAT", "WHILE", "X", "Y", "PEAT", "BRICKS", "WET", "WATER", "CART", "DAMP", "DAY", "HOUR", "RAIN", "SUN", "BARN", "NOT", "AND", "OR", "MIN", "MAX", "LEFT_BRACE", "RIGHT_BRACE", "LEFT_PAREN", "RIGHT_PAREN", "LEFT_BRACKET", "RIGHT_BRACKET", "SEMICOLON", "COMMA", "PLUS", "MINUS", "TIMES", "BY", "LESS", "MORE", "EQUAL", "AT_MOST", "AT_LEAST", "NAME", "NUMBER", "END", "WRONG"]
def tkG : List Int32 := [0, 0, 0, 0, 0, 0, 0, 0, 0, 0, 0, 0, 1, 1, 1, 1, 1, 1, 1, 1, 1, 1, 1, 1, 1, 0, 0, 0, 2, 2, 0, 0, 0, 0, 0, 0, 0, 0, 3, 3, 4, 4, 5, 5, 5, 5, 5, 0, 0, 0, 0]
def tkO : List Int32 := [0, 0, 0, 0, 0, 0, 0, 0, 0, 0, 0, 0, 16, 17, 18, 19, 20, 21, 22, 23, 24, 25, 26, 27, 28, 0, 0, 0, 6, 7, 0, 0, 0, 0, 0, 0, 0, 0, 2, 3, 4, 5, 8, 9, 10, 11, 12, 0, 0, 0, 0]
def tkW : List Int32 := [0, 0, 1, 2, 3, 4, 5, 6, 7, 0, 8, 9, 0, 0, 0, 0, 0, 0, 0, 0, 0, 0, 0, 0, 0, 0, 0, 0, 0, 0, 0, 0, 0, 0, 0, 0, 0, 0, 0, 0, 0, 0, 0, 0, 0, 0, 0, 0, 0, 0, 0]
def txB : List (List Int32) := [[103, 97, 110, 103], [97, 116], [103, 111], [99, 117, 116], [116, 117, 114, 110], [108, 111, 97, 100], [117, 110, 108, 111, 97, 100], [119, 97, 105, 116], [105, 102], [101, 108, 115, 101], [114, 101, 112, 101, 97, 116], [119, 104, 105, 108, 101], [120], [121], [112, 101, 97, 116], [98, 114, 105, 99, 107, 115], [119, 101, 116], [119, 97, 116, 101, 114], [99, 97, 114, 116], [100, 97, 109, 112], [100, 97, 121], [104, 111, 117, 114], [114, 97, 105, 110], [115, 117, 110], [98, 97, 114, 110], [110, 111, 116], [97, 110, 100], [111, 114], [109, 105, 110], [109, 97, 120], [123], [125], [40], [41], [91], [93], [59], [44], [43], [45], [42], [47], [60], [62], [61], [60, 61], [62, 61], []]
def tkT (i : Nat) : Nat := if i < 47 then i else 47

def TKP (G : GG) (A : Nat → Prop) (U : State) (H : Heap) : Prop :=
  (∀ i, i < 51 → va_Z "PeatBog$Token" (tkNm.getD i "") "LPeatBog$Token;" (.ref (G.2.1 (1000 + i))) A U H ∧ va_O "PeatBog$Token" (G.2.1 (1000 + i)) A U H ∧ va_OF "java/lang/Enum" "ordinal" "I" (.int (nI i)) (G.2.1 (1000 + i)) A U H ∧ va_OF "PeatBog$Token" "group" "I" (.int (tkG.getD i 0)) (G.2.1 (1000 + i)) A U H ∧ va_OF "PeatBog$Token" "op" "I" (.int (tkO.getD i 0)) (G.2.1 (1000 + i)) A U H ∧ va_OF "PeatBog$Token" "text" "Ljava/lang/String;" (.ref (G.2.1 (2000 + tkT i))) (G.2.1 (1000 + i)) A U H) ∧
  (∀ i, i < 48 → va_O "java/lang/String" (G.2.1 (2000 + i)) A U H ∧ va_OF "java/lang/String" "coder" "B" (.int 0) (G.2.1 (2000 + i)) A U H ∧ va_OF "java/lang/String" "value" "[B" (.ref (G.2.1 (3000 + i))) (G.2.1 (2000 + i)) A U H ∧ va_T .byte (G.2.1 (3000 + i)) (txB.getD i []).length (fun j => .int ((txB.getD i []).getD j 0)) A U H) ∧
  va_Z "PeatBog$Token" "ALL" "[LPeatBog$Token;" (.ref (G.2.1 1900)) A U H ∧ va_T (.object "PeatBog$Token") (G.2.1 1900) 51 (fun j => .ref (G.2.1 (1000 + j))) A U H ∧
  va_Z "PeatBog$1" "$SwitchMap$PeatBog$Token" "[I" (.ref (G.2.1 1901)) A U H ∧ va_T .int (G.2.1 1901) 51 (fun j => .int (tkW.getD j 0)) A U H ∧
  True ∧ True ∧
  va_Z "java/lang/String" "COMPACT_STRINGS" "Z" (.int 1) A U H ∧ va_Zq "jdk/internal/util/Preconditions" "SIOOBE_FORMATTER" "Ljava/util/function/BiFunction;" A U H
theorem TKP.moved {G : GG} {A : Nat → Prop} {u U : State} {H : Heap} (hvm : u.vm.Alike U.vm) (h : TKP G A u H) : TKP G A U H := by
  obtain ⟨h1, h2, h3, h4, h5, h6, -, -, h9, h10⟩ := h
  refine ⟨fun i hi => ?_, fun i hi => ?_, h3.moved hvm, h4.moved hvm, h5.moved hvm, h6.moved hvm, trivial, trivial, h9.moved hvm, va_Zq.moved hvm h10⟩
  · obtain ⟨a, b, c, d, e, f⟩ := h1 i hi
    exact ⟨a.moved hvm, b.moved hvm, c.moved hvm, d.moved hvm, e.moved hvm, f.moved hvm⟩
  · obtain ⟨a, b, c, d⟩ := h2 i hi
    exact ⟨a.moved hvm, b.moved hvm, c.moved hvm, d.moved hvm⟩
theorem TKP.kept {G : GG} {A : Nat → Prop} {U : State} {H H1 : Heap} (h : TKP G A U H) (hq : ∀ a : Nat, a < H.size → ¬ A a → H1[a]? = H[a]?) : TKP G A U H1 := by
  obtain ⟨h1, h2, h3, h4, h5, h6, -, -, h9, h10⟩ := h
  refine ⟨fun i hi => ?_, fun i hi => ?_, h3.kept hq, h4.kept hq, h5.kept hq, h6.kept hq, trivial, trivial, h9.kept hq, h10.kept hq⟩
  · obtain ⟨a, b, c, d, e, f⟩ := h1 i hi
    exact ⟨a.kept hq, b.kept hq, c.kept hq, d.kept hq, e.kept hq, f.kept hq⟩
  · obtain ⟨a, b, c, d⟩ := h2 i hi
    exact ⟨a.kept hq, b.kept hq, c.kept hq, d.kept hq⟩
theorem TKP.narrow {G : GG} {A B : Nat → Prop} {U : State} {H : Heap} (h : TKP G A U H) (hq : ∀ a, B a → A a) : TKP G B U H := by
  obtain ⟨h1, h2, h3, h4, h5, h6, -, -, h9, h10⟩ := h
  refine ⟨fun i hi => ?_, fun i hi => ?_, h3.narrow hq, h4.narrow hq, h5.narrow hq, h6.narrow hq, trivial, trivial, h9.narrow hq, h10.narrow hq⟩
  · obtain ⟨a, b, c, d, e, f⟩ := h1 i hi
    exact ⟨a.narrow hq, b.narrow hq, c.narrow hq, d.narrow hq, e.narrow hq, f.narrow hq⟩
  · obtain ⟨a, b, c, d⟩ := h2 i hi
    exact ⟨a.narrow hq, b.narrow hq, c.narrow hq, d.narrow hq⟩
/-- texts (their object, their bytes) and rows of whole numbers that stand, outside A -/
def STR (a v : Nat) (L : List Int32) (A : Nat → Prop) (U : State) (H : Heap) : Prop := va_O "java/lang/String" a A U H ∧ va_OF "java/lang/String" "coder" "B" (.int 0) a A U H ∧ va_OF "java/lang/String" "value" "[B" (.ref v) a A U H ∧ va_T .byte v L.length (fun j => .int (L.getD j 0)) A U H
def ROW (a N : Nat) (f : Nat → Int32) (A : Nat → Prop) (U : State) (H : Heap) : Prop := va_T .int a N (fun j => .int (f j)) A U H
def STS (G : GG) (A : Nat → Prop) (U : State) (H : Heap) : Prop := (∀ q ∈ G.2.2.2.1, STR q.1 q.2.1 q.2.2 A U H) ∧ ∀ q ∈ G.2.2.2.2, ROW q.1 q.2.1 q.2.2 A U H
theorem STS.moved {G : GG} {A : Nat → Prop} {u U : State} {H : Heap} (hvm : u.vm.Alike U.vm) (h : STS G A u H) : STS G A U H := ⟨fun q hq => by
  obtain ⟨a, b, c, d⟩ := h.1 q hq
  exact ⟨a.moved hvm, b.moved hvm, c.moved hvm, d.moved hvm⟩, fun q hq => va_T.moved hvm (h.2 q hq)⟩
theorem STS.kept {G : GG} {A : Nat → Prop} {U : State} {H H1 : Heap} (h : STS G A U H) (hq : ∀ a : Nat, a < H.size → ¬ A a → H1[a]? = H[a]?) : STS G A U H1 := ⟨fun q hm => by
  obtain ⟨a, b, c, d⟩ := h.1 q hm
  exact ⟨a.kept hq, b.kept hq, c.kept hq, d.kept hq⟩, fun q hm => va_T.kept (h.2 q hm) hq⟩
theorem STS.narrow {G : GG} {A B : Nat → Prop} {U : State} {H : Heap} (h : STS G A U H) (hq : ∀ a, B a → A a) : STS G B U H := ⟨fun q hm => by
  obtain ⟨a, b, c, d⟩ := h.1 q hm
  exact ⟨a.narrow hq, b.narrow hq, c.narrow hq, d.narrow hq⟩, fun q hm => va_T.narrow (h.2 q hm) hq⟩
def TKI (G : GG) : Prop := ∀ i j, i < 51 → j < 51 → G.2.1 (1000 + i) = G.2.1 (1000 + j) → i = j
def OKG (G : GG) (U : State) : Prop := GI G ∧ va_K G.1 CLS (TYS G) U ∧ (∀ w ∈ NTL, va_Nw w U) ∧ TKI G ∧ TKP G (AF G U.heap.size) U U.heap ∧ STS G (AF G U.heap.size) U U.heap
def BVo (b : Bool) (o : Option Value) : Prop := b = true → ∃ v : Int32, o = some (.int v) ∧ (v = 0 ∨ v = 1)
def QO (G : GG) (M' : Mm) (b : Bool) (o : Option Value) (sz : Nat) : Array Value → State → Outcome → State → Prop := fun _ st oc t => oc = .returned o ∧ va_P G.1 CLS (WL G M') t.heap ∧ va_F (AF G sz) st t ∧ BVo b o
def Mo (b : Bool) (l : Launch) (y : MethodName) (ws : List Cond) (rm : Room) (mc ms : Nat) (vs : List Value) (G : GG) (M : Mm) (o : Option Value) (M' : Mm) : Prop :=
  ∀ sz, Met l y ws rm (va_Pc vs (fun U => U.heap.size = sz ∧ va_P G.1 CLS (WL G M) U.heap ∧ OKG G U)) (QO G M' b o sz) mc ms (AF G sz)
abbrev WS (y : MethodName) (cc : ByteArray) (n : Nat) (ret : Option FieldType) : List Cond := .code y cc n ret :: TBL
abbrev RM (f k n lo : Nat) : Room := { frames := f, cells := k, slots := n, locals := lo }
theorem WL_at {G : GG} {M : Mm} {k : Nat} {q : Nat × va_E} (hk : (WL G M)[k]? = some q) : k < 68 ∧ q.1 = G.2.1 (qi k) := by
  by_cases hl : k < 68
  · rw [WL_qi hl] at hk
    cases hk
    exact ⟨hl, rfl⟩
  · rw [List.getElem?_eq_none (by rw [WL_len]; omega)] at hk
    cases hk
theorem WL_D {G : GG} {M : Mm} {sz : Nat} (h : GI G) : va_D (AF G sz) (WL G M) := by
  constructor
  · intro i j p q hi hj e
    obtain ⟨h1, e1⟩ := WL_at hi
    obtain ⟨h2, e2⟩ := WL_at hj
    have := h _ _ (idL_qi i h1).2.1 (idL_qi j h2).2.1 (by rw [← e1, ← e2]; exact e)
    rw [← (idL_qi i h1).2.2, this, (idL_qi j h2).2.2]
  · intro k q hk
    obtain ⟨h1, e1⟩ := WL_at hk
    exact Or.inl ⟨qi k, (idL_qi k h1).2.1, e1⟩
def isNest : Cond → Bool
  | .fieldLinkNest .. => true
  | .methodLinkNest .. => true
  | _ => false
theorem ntl_all : NTL.all isNest = true := by decide +kernel
theorem ntl_fm : ∀ w ∈ NTL, (∃ a i b n d h, w = .fieldLinkNest a i b n d h) ∨ (∃ a i x h, w = .methodLinkNest a i x h) := by
  intro w hw
  have h := List.all_eq_true.mp ntl_all w hw
  cases w <;> first | (exact Or.inl ⟨_, _, _, _, _, _, rfl⟩) | (exact Or.inr ⟨_, _, _, _, rfl⟩) | (simp [isNest] at h)
theorem OKG.calling {G : GG} {U : State} {g : JFrame} {mk : MethodId} {a : Array Value} (h : OKG G U) : OKG G (U.calling g mk a) :=
  ⟨h.1, va_K.moved (u := U) (U := U.calling g mk a) (Vm.Alike.refl U.vm) h.2.1, fun w hw => by
    rcases ntl_fm w hw with ⟨_, _, _, _, _, _, e⟩ | ⟨_, _, _, _, e⟩ <;> (have h2 := h.2.2.1 w hw; subst e; exact va_Nw.same rfl (U := U.calling g mk a) (u := U) rfl h2), h.2.2.2.1,
    TKP.moved (u := U) (U := U.calling g mk a) (H := U.heap) (Vm.Alike.refl U.vm) h.2.2.2.2.1, STS.moved (u := U) (U := U.calling g mk a) (H := U.heap) (Vm.Alike.refl U.vm) h.2.2.2.2.2⟩
theorem OKG.step {G : GG} {s U : State} {H : Heap} {locs : List Loc} (hS : va_S (AF G s.heap.size) s.heap H locs) (hU : U.heap = H) (hW : s.WarmedH U.vm) (h : OKG G s) : OKG G U :=
  ⟨h.1, va_K.moved hW.alike h.2.1, fun w hw => by
    rcases ntl_fm w hw with ⟨_, _, _, _, _, _, e⟩ | ⟨_, _, _, _, e⟩
    · have h2 := h.2.2.1 w hw; subst e; exact va_Nw.warmF hW h2
    · have h2 := h.2.2.1 w hw; subst e; exact va_Nw.warmM hW h2, h.2.2.2.1, by
    subst hU
    exact TKP.moved hW.alike ((h.2.2.2.2.1.kept hS.2.1).narrow (fun q hq => hq.imp id (fun h2 => Nat.le_trans hS.1 h2))), by
    subst hU
    exact STS.moved hW.alike ((h.2.2.2.2.2.kept hS.2.1).narrow (fun q hq => hq.imp id (fun h2 => Nat.le_trans hS.1 h2)))⟩
def imin (x y : Int32) : Int32 := if y < x then y else x
def imax (x y : Int32) : Int32 := if x < y then y else x
section XR
variable {p : Program} {l : Launch} {e : Env} {R : Room} {s : State} {m : MethodId} {args : Array Value} {below : List Frame} {meth : Method} {c : Code} {cc : ByteArray} {nL : Nat} {own : String} {G : GG} {Q : State → Prop} {k n : Nat} {M : Mm} {pc : Nat} {lv lv' : List (Nat × Value)} {st : List Value} {ret : Option FieldType}
def XJ (p : Program) (l : Launch) (e : Env) (R : Room) (s : State) (m : MethodId) (args : Array Value) (below : List Frame) (meth : Method) (c : Code) (G : GG) (nL : Nat) (Q : State → Prop) (k n : Nat) (M : Mm) (pc : Nat) (lv : List (Nat × Value)) (st : List Value) : Prop :=
  ∀ (H : Heap) (locs : List Loc) (ls : Array Slot), va_P G.1 CLS (WL G M) H → va_S (AF G s.heap.size) s.heap H locs → lv_has ls nL lv → W p l e R s m args below meth c H locs k n Q (F0 m pc ls st)
def CX (p : Program) (s : State) (m : MethodId) (args : Array Value) (meth : Method) (c : Code) (cc : ByteArray) (nL : Nat) (own : String) (ret : Option FieldType) (G : GG) : Prop :=
  p.tables.exec = Jvm.exec ∧ c.code = cc ∧ c.maxLocals = nL ∧ s.vm.findClass own = some m.cls ∧ (∀ w ∈ TBL, w.before args s = true) ∧ meth.locks = false ∧ meth.sig.returnType = ret ∧ OKG G s
theorem x_sub (ks : List Nat) (h : lv_pick lv ks = lv') (K : XJ p l e R s m args below meth c G nL Q k n M pc lv' st) : XJ p l e R s m args below meth c G nL Q k n M pc lv st := fun H locs ls hP hS hl => K H locs ls hP hS (lv_sub hl ks h)
theorem x_iload_n (hC : CX p s m args meth c cc nL own ret G) {kk : Fin 4} {i : Nat} {x : Int32} (hd : decode cc pc = .ok (.iload_n kk, 1)) (hi : (kk : Nat) = i) (j : Nat) (hj : lv[j]? = some (i, .int x)) (K : XJ p l e R s m args below meth c G nL Q k n M (pc + 1) lv (.int x :: st)) : XJ p l e R s m args below meth c G nL Q k n M pc lv st := by
  obtain ⟨hx, hb, -⟩ := hC
  exact fun H locs ls hP hS hl => lv_iload_n hx hb hd hi (lv_at hl j hj) (K H locs ls hP hS hl)
theorem x_iload (hC : CX p s m args meth c cc nL own ret G) {i : Nat} {x : Int32} (hd : decode cc pc = .ok (.iload i, 2)) (j : Nat) (hj : lv[j]? = some (i, .int x)) (K : XJ p l e R s m args below meth c G nL Q k n M (pc + 2) lv (.int x :: st)) : XJ p l e R s m args below meth c G nL Q k n M pc lv st := by
  obtain ⟨hx, hb, -⟩ := hC
  exact fun H locs ls hP hS hl => lv_iload hx hb hd (lv_at hl j hj) (K H locs ls hP hS hl)
theorem x_aload_n (hC : CX p s m args meth c cc nL own ret G) {kk : Fin 4} {i x : Nat} (hd : decode cc pc = .ok (.aload_n kk, 1)) (hi : (kk : Nat) = i) (j : Nat) (hj : lv[j]? = some (i, .ref x)) (K : XJ p l e R s m args below meth c G nL Q k n M (pc + 1) lv (.ref x :: st)) : XJ p l e R s m args below meth c G nL Q k n M pc lv st := by
  obtain ⟨hx, hb, -⟩ := hC
  exact fun H locs ls hP hS hl => lv_aload_n hx hb hd hi (lv_at hl j hj) (K H locs ls hP hS hl)
theorem x_aload (hC : CX p s m args meth c cc nL own ret G) {i x : Nat} (hd : decode cc pc = .ok (.aload i, 2)) (j : Nat) (hj : lv[j]? = some (i, .ref x)) (K : XJ p l e R s m args below meth c G nL Q k n M (pc + 2) lv (.ref x :: st)) : XJ p l e R s m args below meth c G nL Q k n M pc lv st := by
  obtain ⟨hx, hb, -⟩ := hC
  exact fun H locs ls hP hS hl => lv_aload hx hb hd (lv_at hl j hj) (K H locs ls hP hS hl)
theorem x_istore_n (hC : CX p s m args meth c cc nL own ret G) {kk : Fin 4} {i : Nat} {x : Int32} (lv' : List (Nat × Value)) (hd : decode cc pc = .ok (.istore_n kk, 1)) (hi : (kk : Nat) = i) (hn : i < nL) (hl' : (i, Value.int x) :: lv.filter (fun q => !(q.1 == i) && !(q.1 + 1 == i && q.2.category == 2)) = lv') (K : XJ p l e R s m args below meth c G nL Q k n M (pc + 1) lv' st) : XJ p l e R s m args below meth c G nL Q k n M pc lv (.int x :: st) := by
  obtain ⟨hx, hb, -⟩ := hC
  exact fun H locs ls hP hS hl => lv_istore_n hx hb hd hi hl hn hl' (fun ls' hl2 => K H locs ls' hP hS hl2)
theorem x_istore (hC : CX p s m args meth c cc nL own ret G) {i : Nat} {x : Int32} (lv' : List (Nat × Value)) (hd : decode cc pc = .ok (.istore i, 2)) (hn : i < nL) (hl' : (i, Value.int x) :: lv.filter (fun q => !(q.1 == i) && !(q.1 + 1 == i && q.2.category == 2)) = lv') (K : XJ p l e R s m args below meth c G nL Q k n M (pc + 2) lv' st) : XJ p l e R s m args below meth c G nL Q k n M pc lv (.int x :: st) := by
  obtain ⟨hx, hb, -⟩ := hC
  exact fun H locs ls hP hS hl => lv_istore hx hb hd hl hn hl' (fun ls' hl2 => K H locs ls' hP hS hl2)
theorem x_iinc (hC : CX p s m args meth c cc nL own ret G) {i : Nat} {d : Int} {x v : Int32} (lv' : List (Nat × Value)) (hd : decode cc pc = .ok (.iinc i d, 3)) (j : Nat) (hj : lv[j]? = some (i, .int x)) (hv : x + Int32.ofInt d = v) (hn : i < nL) (hl' : (i, Value.int v) :: lv.filter (fun q => !(q.1 == i) && !(q.1 + 1 == i && q.2.category == 2)) = lv') (K : XJ p l e R s m args below meth c G nL Q k n M (pc + 3) lv' st) : XJ p l e R s m args below meth c G nL Q k n M pc lv st := by
  obtain ⟨hx, hb, -⟩ := hC
  exact fun H locs ls hP hS hl => lv_iinc hx hb hd hl hj hv hn hl' (fun ls' hl2 => K H locs ls' hP hS hl2)
theorem x_iconst (hC : CX p s m args meth c cc nL own ret G) {d : Int} (v : Int32) (hd : decode cc pc = .ok (.iconst d, 1)) (hv : Int32.ofInt d = v) (K : XJ p l e R s m args below meth c G nL Q k n M (pc + 1) lv (.int v :: st)) : XJ p l e R s m args below meth c G nL Q k n M pc lv st := by
  obtain ⟨hx, hb, -⟩ := hC
  exact fun H locs ls hP hS hl => lv_iconst hx hb hd hv (K H locs ls hP hS hl)
theorem x_bipush (hC : CX p s m args meth c cc nL own ret G) {d : Int} (v : Int32) (hd : decode cc pc = .ok (.bipush d, 2)) (hv : (Int8.ofInt d).toInt32 = v) (K : XJ p l e R s m args below meth c G nL Q k n M (pc + 2) lv (.int v :: st)) : XJ p l e R s m args below meth c G nL Q k n M pc lv st := by
  obtain ⟨hx, hb, -⟩ := hC
  exact fun H locs ls hP hS hl => lv_bipush hx hb hd hv (K H locs ls hP hS hl)
theorem x_sipush (hC : CX p s m args meth c cc nL own ret G) {d : Int} (v : Int32) (hd : decode cc pc = .ok (.sipush d, 3)) (hv : (Int16.ofInt d).toInt32 = v) (K : XJ p l e R s m args below meth c G nL Q k n M (pc + 3) lv (.int v :: st)) : XJ p l e R s m args below meth c G nL Q k n M pc lv st := by
  obtain ⟨hx, hb, -⟩ := hC
  exact fun H locs ls hP hS hl => lv_sipush hx hb hd hv (K H locs ls hP hS hl)
theorem x_iadd (hC : CX p s m args meth c cc nL own ret G) {x y : Int32} (hd : decode cc pc = .ok (.iadd, 1)) (K : XJ p l e R s m args below meth c G nL Q k n M (pc + 1) lv (.int (x + y) :: st)) : XJ p l e R s m args below meth c G nL Q k n M pc lv (.int y :: .int x :: st) := by
  obtain ⟨hx, hb, -⟩ := hC
  exact fun H locs ls hP hS hl => lv_iadd hx hb hd (K H locs ls hP hS hl)
theorem x_isub (hC : CX p s m args meth c cc nL own ret G) {x y : Int32} (hd : decode cc pc = .ok (.isub, 1)) (K : XJ p l e R s m args below meth c G nL Q k n M (pc + 1) lv (.int (x - y) :: st)) : XJ p l e R s m args below meth c G nL Q k n M pc lv (.int y :: .int x :: st) := by
  obtain ⟨hx, hb, -⟩ := hC
  exact fun H locs ls hP hS hl => lv_isub hx hb hd (K H locs ls hP hS hl)
theorem x_imul (hC : CX p s m args meth c cc nL own ret G) {x y : Int32} (hd : decode cc pc = .ok (.imul, 1)) (K : XJ p l e R s m args below meth c G nL Q k n M (pc + 1) lv (.int (x * y) :: st)) : XJ p l e R s m args below meth c G nL Q k n M pc lv (.int y :: .int x :: st) := by
  obtain ⟨hx, hb, -⟩ := hC
  exact fun H locs ls hP hS hl => lv_imul hx hb hd (K H locs ls hP hS hl)
theorem x_iand (hC : CX p s m args meth c cc nL own ret G) {x y : Int32} (hd : decode cc pc = .ok (.iand, 1)) (K : XJ p l e R s m args below meth c G nL Q k n M (pc + 1) lv (.int (x &&& y) :: st)) : XJ p l e R s m args below meth c G nL Q k n M pc lv (.int y :: .int x :: st) := by
  obtain ⟨hx, hb, -⟩ := hC
  exact fun H locs ls hP hS hl => lv_iand hx hb hd (K H locs ls hP hS hl)
theorem x_ior (hC : CX p s m args meth c cc nL own ret G) {x y : Int32} (hd : decode cc pc = .ok (.ior, 1)) (K : XJ p l e R s m args below meth c G nL Q k n M (pc + 1) lv (.int (x ||| y) :: st)) : XJ p l e R s m args below meth c G nL Q k n M pc lv (.int y :: .int x :: st) := by
  obtain ⟨hx, hb, -⟩ := hC
  exact fun H locs ls hP hS hl => lv_ior hx hb hd (K H locs ls hP hS hl)
theorem x_ishr (hC : CX p s m args meth c cc nL own ret G) {x y : Int32} (hd : decode cc pc = .ok (.ishr, 1)) (K : XJ p l e R s m args below meth c G nL Q k n M (pc + 1) lv (.int (x >>> (y &&& 31)) :: st)) : XJ p l e R s m args below meth c G nL Q k n M pc lv (.int y :: .int x :: st) := by
  obtain ⟨hx, hb, -⟩ := hC
  exact fun H locs ls hP hS hl => lv_ishr hx hb hd (K H locs ls hP hS hl)
theorem x_ineg (hC : CX p s m args meth c cc nL own ret G) {x : Int32} (hd : decode cc pc = .ok (.ineg, 1)) (K : XJ p l e R s m args below meth c G nL Q k n M (pc + 1) lv (.int (-x) :: st)) : XJ p l e R s m args below meth c G nL Q k n M pc lv (.int x :: st) := by
  obtain ⟨hx, hb, -⟩ := hC
  exact fun H locs ls hP hS hl => lv_ineg hx hb hd (K H locs ls hP hS hl)
theorem x_idiv (hC : CX p s m args meth c cc nL own ret G) {x y : Int32} (hd : decode cc pc = .ok (.idiv, 1)) (hne : ¬ y = 0) (K : XJ p l e R s m args below meth c G nL Q k n M (pc + 1) lv (.int (x / y) :: st)) : XJ p l e R s m args below meth c G nL Q k n M pc lv (.int y :: .int x :: st) := by
  obtain ⟨hx, hb, -⟩ := hC
  exact fun H locs ls hP hS hl => lv_idiv hx hb hd hne (K H locs ls hP hS hl)
theorem x_irem (hC : CX p s m args meth c cc nL own ret G) {x y : Int32} (hd : decode cc pc = .ok (.irem, 1)) (hne : ¬ y = 0) (K : XJ p l e R s m args below meth c G nL Q k n M (pc + 1) lv (.int (x - x / y * y) :: st)) : XJ p l e R s m args below meth c G nL Q k n M pc lv (.int y :: .int x :: st) := by
  obtain ⟨hx, hb, -⟩ := hC
  exact fun H locs ls hP hS hl => lv_irem hx hb hd hne (K H locs ls hP hS hl)
theorem x_goto (hC : CX p s m args meth c cc nL own ret G) {off : Int} (tgt : Nat) (hd : decode cc pc = .ok (.goto off, 3)) (ht : (pc : Int) + off = (tgt : Int)) (K : XJ p l e R s m args below meth c G nL Q k n M tgt lv st) : XJ p l e R s m args below meth c G nL Q k n M pc lv st := by
  obtain ⟨hx, hb, -⟩ := hC
  exact fun H locs ls hP hS hl => lv_goto hx hb hd ht (K H locs ls hP hS hl)
theorem x_dup (hC : CX p s m args meth c cc nL own ret G) {va : Value} (hd : decode cc pc = .ok (.dup, 1)) (hva : va.category = 1) (K : XJ p l e R s m args below meth c G nL Q k n M (pc + 1) lv (va :: va :: st)) : XJ p l e R s m args below meth c G nL Q k n M pc lv (va :: st) := by
  obtain ⟨hx, hb, -⟩ := hC
  exact fun H locs ls hP hS hl => lv_dup hx hb hd hva (K H locs ls hP hS hl)
theorem x_dup2 (hC : CX p s m args meth c cc nL own ret G) {va vb : Value} (hd : decode cc pc = .ok (.dup2, 1)) (hva : va.category = 1) (hvb : vb.category = 1) (K : XJ p l e R s m args below meth c G nL Q k n M (pc + 1) lv (va :: vb :: va :: vb :: st)) : XJ p l e R s m args below meth c G nL Q k n M pc lv (va :: vb :: st) := by
  obtain ⟨hx, hb, -⟩ := hC
  exact fun H locs ls hP hS hl => lv_dup2_11 hx hb hd hva hvb (K H locs ls hP hS hl)
theorem x_pop (hC : CX p s m args meth c cc nL own ret G) {va : Value} (hd : decode cc pc = .ok (.pop, 1)) (hva : va.category = 1) (K : XJ p l e R s m args below meth c G nL Q k n M (pc + 1) lv st) : XJ p l e R s m args below meth c G nL Q k n M pc lv (va :: st) := by
  obtain ⟨hx, hb, -⟩ := hC
  exact fun H locs ls hP hS hl => lv_pop hx hb hd hva (K H locs ls hP hS hl)
theorem x_icmp_eq (hC : CX p s m args meth c cc nL own ret G) {x y : Int32} {off : Int} (tgt : Nat) (hd : decode cc pc = .ok (.if_icmp .eq off, 3)) (ht : (pc : Int) + off = (tgt : Int)) (kt : x = y → XJ p l e R s m args below meth c G nL Q k n M tgt lv st) (kf : ¬ x = y → XJ p l e R s m args below meth c G nL Q k n M (pc + 3) lv st) : XJ p l e R s m args below meth c G nL Q k n M pc lv (.int y :: .int x :: st) := by
  obtain ⟨hx, hb, -⟩ := hC
  exact fun H locs ls hP hS hl => lv_icmp_eq hx hb hd ht (fun h => kt h H locs ls hP hS hl) (fun h => kf h H locs ls hP hS hl)
theorem x_icmp_ne (hC : CX p s m args meth c cc nL own ret G) {x y : Int32} {off : Int} (tgt : Nat) (hd : decode cc pc = .ok (.if_icmp .ne off, 3)) (ht : (pc : Int) + off = (tgt : Int)) (kt : ¬ x = y → XJ p l e R s m args below meth c G nL Q k n M tgt lv st) (kf : x = y → XJ p l e R s m args below meth c G nL Q k n M (pc + 3) lv st) : XJ p l e R s m args below meth c G nL Q k n M pc lv (.int y :: .int x :: st) := by
  obtain ⟨hx, hb, -⟩ := hC
  exact fun H locs ls hP hS hl => lv_icmp_ne hx hb hd ht (fun h => kt h H locs ls hP hS hl) (fun h => kf h H locs ls hP hS hl)
theorem x_icmp_lt (hC : CX p s m args meth c cc nL own ret G) {x y : Int32} {off : Int} (tgt : Nat) (hd : decode cc pc = .ok (.if_icmp .lt off, 3)) (ht : (pc : Int) + off = (tgt : Int)) (kt : x < y → XJ p l e R s m args below meth c G nL Q k n M tgt lv st) (kf : ¬ x < y → XJ p l e R s m args below meth c G nL Q k n M (pc + 3) lv st) : XJ p l e R s m args below meth c G nL Q k n M pc lv (.int y :: .int x :: st) := by
  obtain ⟨hx, hb, -⟩ := hC
  exact fun H locs ls hP hS hl => lv_icmp_lt hx hb hd ht (fun h => kt h H locs ls hP hS hl) (fun h => kf h H locs ls hP hS hl)
theorem x_icmp_ge (hC : CX p s m args meth c cc nL own ret G) {x y : Int32} {off : Int} (tgt : Nat) (hd : decode cc pc = .ok (.if_icmp .ge off, 3)) (ht : (pc : Int) + off = (tgt : Int)) (kt : y ≤ x → XJ p l e R s m args below meth c G nL Q k n M tgt lv st) (kf : ¬ y ≤ x → XJ p l e R s m args below meth c G nL Q k n M (pc + 3) lv st) : XJ p l e R s m args below meth c G nL Q k n M pc lv (.int y :: .int x :: st) := by
  obtain ⟨hx, hb, -⟩ := hC
  exact fun H locs ls hP hS hl => lv_icmp_ge hx hb hd ht (fun h => kt h H locs ls hP hS hl) (fun h => kf h H locs ls hP hS hl)
theorem x_icmp_gt (hC : CX p s m args meth c cc nL own ret G) {x y : Int32} {off : Int} (tgt : Nat) (hd : decode cc pc = .ok (.if_icmp .gt off, 3)) (ht : (pc : Int) + off = (tgt : Int)) (kt : y < x → XJ p l e R s m args below meth c G nL Q k n M tgt lv st) (kf : ¬ y < x → XJ p l e R s m args below meth c G nL Q k n M (pc + 3) lv st) : XJ p l e R s m args below meth c G nL Q k n M pc lv (.int y :: .int x :: st) := by
  obtain ⟨hx, hb, -⟩ := hC
  exact fun H locs ls hP hS hl => lv_icmp_gt hx hb hd ht (fun h => kt h H locs ls hP hS hl) (fun h => kf h H locs ls hP hS hl)
theorem x_icmp_le (hC : CX p s m args meth c cc nL own ret G) {x y : Int32} {off : Int} (tgt : Nat) (hd : decode cc pc = .ok (.if_icmp .le off, 3)) (ht : (pc : Int) + off = (tgt : Int)) (kt : x ≤ y → XJ p l e R s m args below meth c G nL Q k n M tgt lv st) (kf : ¬ x ≤ y → XJ p l e R s m args below meth c G nL Q k n M (pc + 3) lv st) : XJ p l e R s m args below meth c G nL Q k n M pc lv (.int y :: .int x :: st) := by
  obtain ⟨hx, hb, -⟩ := hC
  exact fun H locs ls hP hS hl => lv_icmp_le hx hb hd ht (fun h => kt h H locs ls hP hS hl) (fun h => kf h H locs ls hP hS hl)
theorem x_if_eq (hC : CX p s m args meth c cc nL own ret G) {x : Int32} {off : Int} (tgt : Nat) (hd : decode cc pc = .ok (.ifCond .eq off, 3)) (ht : (pc : Int) + off = (tgt : Int)) (kt : x = 0 → XJ p l e R s m args below meth c G nL Q k n M tgt lv st) (kf : ¬ x = 0 → XJ p l e R s m args below meth c G nL Q k n M (pc + 3) lv st) : XJ p l e R s m args below meth c G nL Q k n M pc lv (.int x :: st) := by
  obtain ⟨hx, hb, -⟩ := hC
  exact fun H locs ls hP hS hl => lv_if_eq hx hb hd ht (fun h => kt h H locs ls hP hS hl) (fun h => kf h H locs ls hP hS hl)
theorem x_if_ne (hC : CX p s m args meth c cc nL own ret G) {x : Int32} {off : Int} (tgt : Nat) (hd : decode cc pc = .ok (.ifCond .ne off, 3)) (ht : (pc : Int) + off = (tgt : Int)) (kt : ¬ x = 0 → XJ p l e R s m args below meth c G nL Q k n M tgt lv st) (kf : x = 0 → XJ p l e R s m args below meth c G nL Q k n M (pc + 3) lv st) : XJ p l e R s m args below meth c G nL Q k n M pc lv (.int x :: st) := by
  obtain ⟨hx, hb, -⟩ := hC
  exact fun H locs ls hP hS hl => lv_if_ne hx hb hd ht (fun h => kt h H locs ls hP hS hl) (fun h => kf h H locs ls hP hS hl)
theorem x_if_lt (hC : CX p s m args meth c cc nL own ret G) {x : Int32} {off : Int} (tgt : Nat) (hd : decode cc pc = .ok (.ifCond .lt off, 3)) (ht : (pc : Int) + off = (tgt : Int)) (kt : x < 0 → XJ p l e R s m args below meth c G nL Q k n M tgt lv st) (kf : ¬ x < 0 → XJ p l e R s m args below meth c G nL Q k n M (pc + 3) lv st) : XJ p l e R s m args below meth c G nL Q k n M pc lv (.int x :: st) := by
  obtain ⟨hx, hb, -⟩ := hC
  exact fun H locs ls hP hS hl => lv_if_lt hx hb hd ht (fun h => kt h H locs ls hP hS hl) (fun h => kf h H locs ls hP hS hl)
theorem x_if_ge (hC : CX p s m args meth c cc nL own ret G) {x : Int32} {off : Int} (tgt : Nat) (hd : decode cc pc = .ok (.ifCond .ge off, 3)) (ht : (pc : Int) + off = (tgt : Int)) (kt : 0 ≤ x → XJ p l e R s m args below meth c G nL Q k n M tgt lv st) (kf : ¬ 0 ≤ x → XJ p l e R s m args below meth c G nL Q k n M (pc + 3) lv st) : XJ p l e R s m args below meth c G nL Q k n M pc lv (.int x :: st) := by
  obtain ⟨hx, hb, -⟩ := hC
  exact fun H locs ls hP hS hl => lv_if_ge hx hb hd ht (fun h => kt h H locs ls hP hS hl) (fun h => kf h H locs ls hP hS hl)
theorem x_if_gt (hC : CX p s m args meth c cc nL own ret G) {x : Int32} {off : Int} (tgt : Nat) (hd : decode cc pc = .ok (.ifCond .gt off, 3)) (ht : (pc : Int) + off = (tgt : Int)) (kt : 0 < x → XJ p l e R s m args below meth c G nL Q k n M tgt lv st) (kf : ¬ 0 < x → XJ p l e R s m args below meth c G nL Q k n M (pc + 3) lv st) : XJ p l e R s m args below meth c G nL Q k n M pc lv (.int x :: st) := by
  obtain ⟨hx, hb, -⟩ := hC
  exact fun H locs ls hP hS hl => lv_if_gt hx hb hd ht (fun h => kt h H locs ls hP hS hl) (fun h => kf h H locs ls hP hS hl)
theorem x_if_le (hC : CX p s m args meth c cc nL own ret G) {x : Int32} {off : Int} (tgt : Nat) (hd : decode cc pc = .ok (.ifCond .le off, 3)) (ht : (pc : Int) + off = (tgt : Int)) (kt : x ≤ 0 → XJ p l e R s m args below meth c G nL Q k n M tgt lv st) (kf : ¬ x ≤ 0 → XJ p l e R s m args below meth c G nL Q k n M (pc + 3) lv st) : XJ p l e R s m args below meth c G nL Q k n M pc lv (.int x :: st) := by
  obtain ⟨hx, hb, -⟩ := hC
  exact fun H locs ls hP hS hl => lv_if_le hx hb hd ht (fun h => kt h H locs ls hP hS hl) (fun h => kf h H locs ls hP hS hl)
/-- a field read, the class ci's place kf -/
theorem x_get (hC : CX p s m args meth c cc nL own ret G) {C : String} {T : u_T} {N ci index i : Nat} {fs : List Value} {v : Value} (kf : Nat) (hin : ∀ w ∈ u_ws C T N, w ∈ TBL) (hc : CLS[ci]? = some (C, T, N)) (hk : kf < N) (hlink : Cond.fieldLink own index C (T kf).2.1 (T kf).2.2.1 ∈ TBL) (hTC : (T kf).1 = C) (hi : (kd i).1 = ci) (hci : ci < 20) (hfs : OBv G M i ci = fs) (hv : fs[kf]? = some v) (hd : decode cc pc = .ok (.getfield index, 3)) (K : XJ p l e R s m args below meth c G nL Q k n M (pc + 3) lv (v :: st)) : XJ p l e R s m args below meth c G nL Q k n M pc lv (.ref (G.2.1 i) :: st) := by
  obtain ⟨hx, hb, hml, hown, hts, hlk, hrt, hG⟩ := hC
  exact fun H locs ls hP hS hl => va_get hx hb hts hin hown hG.2.1 hP (pl i) ((WL_get (kd_lt hi (by omega))).trans (by rw [EN_obj hi hci, hfs])) hc kf hk (hts _ hlink) (fun x h => by rw [← hTC]; exact h) hv hd (K H locs ls hP hS hl)
theorem x_getN (hC : CX p s m args meth c cc nL own ret G) {C host : String} {T : u_T} {N ci index i : Nat} {fs : List Value} {v : Value} (kf : Nat) (hin : ∀ w ∈ u_ws C T N, w ∈ TBL) (hc : CLS[ci]? = some (C, T, N)) (hk : kf < N) (hlink : Cond.fieldLinkNest own index C (T kf).2.1 (T kf).2.2.1 host ∈ NTL) (hTC : (T kf).1 = C) (hi : (kd i).1 = ci) (hci : ci < 20) (hfs : OBv G M i ci = fs) (hv : fs[kf]? = some v) (hd : decode cc pc = .ok (.getfield index, 3)) (K : XJ p l e R s m args below meth c G nL Q k n M (pc + 3) lv (v :: st)) : XJ p l e R s m args below meth c G nL Q k n M pc lv (.ref (G.2.1 i) :: st) := by
  obtain ⟨hx, hb, hml, hown, hts, hlk, hrt, hG⟩ := hC
  exact fun H locs ls hP hS hl => va_getN hx hb hts hin hown hG.2.1 hP (pl i) ((WL_get (kd_lt hi (by omega))).trans (by rw [EN_obj hi hci, hfs])) hc kf hk (va_Nw.use rfl (hG.2.2.1 _ hlink)) (fun x h => by rw [← hTC]; exact h) hv hd (K H locs ls hP hS hl)
/-- a field of whole numbers (or a ref by its number) written -/
theorem x_put (hC : CX p s m args meth c cc nL own ret G) {C : String} {T : u_T} {N ci index i : Nat} {v : Value} {M' : Mm} {ty0 : Nat → FieldType} {ty : FieldType} (kf : Nat) (hin : ∀ w ∈ u_ws C T N, w ∈ TBL) (hty : ∀ k, k < N → parseFieldDescriptor (T k).2.2.1 = some (ty0 k)) (hnm : ∀ a, a < N → ∀ b, b < N → a ≠ b → (T a).2.1 ≠ (T b).2.1) (hc : CLS[ci]? = some (C, T, N)) (hk : kf < N) (hlink : Cond.fieldLink own index C (T kf).2.1 (T kf).2.2.1 ∈ TBL) (hTC : (T kf).1 = C) (hfin : (T kf).2.2.2 = false) (hdt : parseFieldDescriptor (T kf).2.2.1 = some ty) (hnv : narrow ty v = v) (hfit : fits ty v = true) (hi : (kd i).1 = ci) (hci : ci < 20) (hlen : kf < (OBv G M i ci).length) (hset : OBv G M' i ci = (OBv G M i ci).set kf v) (ho : ∀ j, j ≠ i → M' j = M j) (hd : decode cc pc = .ok (.putfield index, 3)) (K : XJ p l e R s m args below meth c G nL Q k n M' (pc + 3) lv st) : XJ p l e R s m args below meth c G nL Q k n M pc lv (v :: .ref (G.2.1 i) :: st) := by
  obtain ⟨hx, hb, hml, hown, hts, hlk, hrt, hG⟩ := hC
  refine fun H locs ls hP hS hl => va_put hx hb hts hin ty0 hty hnm hown hG.2.1 hP (WL_D hG.1) hS (pl i) ((WL_get (kd_lt hi (by omega))).trans (by rw [EN_obj hi hci])) hc kf hk (hts _ hlink) (fun x h => by rw [← hTC]; exact h) hfin hdt hnv hfit hlen hd (fun H1 locs1 hP1 hD1 hS1 => ?_)
  rw [WL_set (M' := M') (by rw [EN_obj hi hci, hset]) ho (kd_lt hi (by omega))] at hP1
  exact K H1 locs1 ls hP1 hS1 hl
theorem x_putN (hC : CX p s m args meth c cc nL own ret G) {C host : String} {T : u_T} {N ci index i : Nat} {v : Value} {M' : Mm} {ty0 : Nat → FieldType} {ty : FieldType} (kf : Nat) (hin : ∀ w ∈ u_ws C T N, w ∈ TBL) (hty : ∀ k, k < N → parseFieldDescriptor (T k).2.2.1 = some (ty0 k)) (hnm : ∀ a, a < N → ∀ b, b < N → a ≠ b → (T a).2.1 ≠ (T b).2.1) (hc : CLS[ci]? = some (C, T, N)) (hk : kf < N) (hlink : Cond.fieldLinkNest own index C (T kf).2.1 (T kf).2.2.1 host ∈ NTL) (hTC : (T kf).1 = C) (hfin : (T kf).2.2.2 = false) (hdt : parseFieldDescriptor (T kf).2.2.1 = some ty) (hnv : narrow ty v = v) (hfit : fits ty v = true) (hi : (kd i).1 = ci) (hci : ci < 20) (hlen : kf < (OBv G M i ci).length) (hset : OBv G M' i ci = (OBv G M i ci).set kf v) (ho : ∀ j, j ≠ i → M' j = M j) (hd : decode cc pc = .ok (.putfield index, 3)) (K : XJ p l e R s m args below meth c G nL Q k n M' (pc + 3) lv st) : XJ p l e R s m args below meth c G nL Q k n M pc lv (v :: .ref (G.2.1 i) :: st) := by
  obtain ⟨hx, hb, hml, hown, hts, hlk, hrt, hG⟩ := hC
  refine fun H locs ls hP hS hl => va_putN hx hb hts hin ty0 hty hnm hown hG.2.1 hP (WL_D hG.1) hS (pl i) ((WL_get (kd_lt hi (by omega))).trans (by rw [EN_obj hi hci])) hc kf hk (va_Nw.use rfl (hG.2.2.1 _ hlink)) (fun x h => by rw [← hTC]; exact h) hfin hdt hnv hfit hlen hd (fun H1 locs1 hP1 hD1 hS1 => ?_)
  rw [WL_set (M' := M') (by rw [EN_obj hi hci, hset]) ho (kd_lt hi (by omega))] at hP1
  exact K H1 locs1 ls hP1 hS1 hl
theorem inx {j : Int32} {N : Nat} (h : 0 ≤ j.toInt ∧ j.toInt < (N : Int)) : vp_in j N := vp_in_iff.mpr h
theorem x_iald (hC : CX p s m args meth c cc nL own ret G) {i N : Nat} {j : Int32} (hi : kd i = (20, N)) (hj : 0 ≤ j.toInt ∧ j.toInt < (N : Int)) (hd : decode cc pc = .ok (.iaload, 1)) (K : XJ p l e R s m args below meth c G nL Q k n M (pc + 1) lv (.int (M i (ix j)) :: st)) : XJ p l e R s m args below meth c G nL Q k n M pc lv (.int j :: .ref (G.2.1 i) :: st) := by
  obtain ⟨hx, hb, hml, hown, hts, hlk, hrt, hG⟩ := hC
  exact fun H locs ls hP hS hl => va_iald hx hb hG.2.1 hP (pl i) 0 ((WL_get (kd_lt2 hi)).trans (by rw [EN_int hi])) rfl (inx hj) hd (K H locs ls hP hS hl)
theorem x_bald (hC : CX p s m args meth c cc nL own ret G) {i N : Nat} {j : Int32} (hi : kd i = (21, N)) (hj : 0 ≤ j.toInt ∧ j.toInt < (N : Int)) (hd : decode cc pc = .ok (.baload, 1)) (K : XJ p l e R s m args below meth c G nL Q k n M (pc + 1) lv (.int (M i (ix j)) :: st)) : XJ p l e R s m args below meth c G nL Q k n M pc lv (.int j :: .ref (G.2.1 i) :: st) := by
  obtain ⟨hx, hb, hml, hown, hts, hlk, hrt, hG⟩ := hC
  exact fun H locs ls hP hS hl => va_bald hx hb hG.2.1 hP (pl i) 1 ((WL_get (kd_lt2 hi)).trans (by rw [EN_byte hi])) rfl (inx hj) hd (K H locs ls hP hS hl)
theorem x_gald (hC : CX p s m args meth c cc nL own ret G) {i N : Nat} {j : Int32} (hi : kd i = (22, N)) (hj : 0 ≤ j.toInt ∧ j.toInt < (N : Int)) (hd : decode cc pc = .ok (.aaload, 1)) (K : XJ p l e R s m args below meth c G nL Q k n M (pc + 1) lv (.ref (G.2.1 (i + 1 + 2 * ix j)) :: st)) : XJ p l e R s m args below meth c G nL Q k n M pc lv (.int j :: .ref (G.2.1 i) :: st) := by
  obtain ⟨hx, hb, hml, hown, hts, hlk, hrt, hG⟩ := hC
  exact fun H locs ls hP hS hl => va_aldq (f := fun j => some (G.2.1 (i + 1 + 2 * j))) hx hb hG.2.1 hP (pl i) 2 ((WL_get (kd_lt2 hi)).trans (by rw [EN_gang hi])) rfl (inx hj) hd (K H locs ls hP hS hl)
theorem x_tald (hC : CX p s m args meth c cc nL own ret G) {i N : Nat} {j : Int32} (hi : kd i = (23, N)) (hj : 0 ≤ j.toInt ∧ j.toInt < (N : Int)) (hd : decode cc pc = .ok (.aaload, 1)) (K : XJ p l e R s m args below meth c G nL Q k n M (pc + 1) lv (va_rf (rf G (M i (ix j))) :: st)) : XJ p l e R s m args below meth c G nL Q k n M pc lv (.int j :: .ref (G.2.1 i) :: st) := by
  obtain ⟨hx, hb, hml, hown, hts, hlk, hrt, hG⟩ := hC
  exact fun H locs ls hP hS hl => va_aldq (f := fun j => rf G (M i j)) hx hb hG.2.1 hP (pl i) 3 ((WL_get (kd_lt2 hi)).trans (by rw [EN_tok hi])) rfl (inx hj) hd (K H locs ls hP hS hl)
theorem x_iast (hC : CX p s m args meth c cc nL own ret G) {i N : Nat} {j x : Int32} {M' : Mm} (hi : kd i = (20, N)) (hj : 0 ≤ j.toInt ∧ j.toInt < (N : Int)) (hM : M' = wr M i (ix j) x) (hd : decode cc pc = .ok (.iastore, 1)) (K : XJ p l e R s m args below meth c G nL Q k n M' (pc + 1) lv st) : XJ p l e R s m args below meth c G nL Q k n M pc lv (.int x :: .int j :: .ref (G.2.1 i) :: st) := by
  obtain ⟨hx, hb, hml, hown, hts, hlk, hrt, hG⟩ := hC
  refine fun H locs ls hP hS hl => va_iast hx hb hG.2.1 hP (WL_D hG.1) hS (pl i) 0 ((WL_get (kd_lt2 hi)).trans (by rw [EN_int hi])) rfl (inx hj) hd (fun H1 locs1 hP1 hD1 hS1 => ?_)
  subst hM
  rw [WL_set (M' := wr M i (ix j) x) (by rw [EN_int hi, wr_row]; rfl) (fun a ha => wr_ne ha)] at hP1
  exact K H1 locs1 ls hP1 hS1 hl
theorem x_bast (hC : CX p s m args meth c cc nL own ret G) {i N : Nat} {j x : Int32} {M' : Mm} (hi : kd i = (21, N)) (hj : 0 ≤ j.toInt ∧ j.toInt < (N : Int)) (hM : M' = wr M i (ix j) x.toInt8.toInt32) (hd : decode cc pc = .ok (.bastore, 1)) (K : XJ p l e R s m args below meth c G nL Q k n M' (pc + 1) lv st) : XJ p l e R s m args below meth c G nL Q k n M pc lv (.int x :: .int j :: .ref (G.2.1 i) :: st) := by
  obtain ⟨hx, hb, hml, hown, hts, hlk, hrt, hG⟩ := hC
  refine fun H locs ls hP hS hl => va_bast hx hb hG.2.1 hP (WL_D hG.1) hS (pl i) 1 ((WL_get (kd_lt2 hi)).trans (by rw [EN_byte hi])) rfl (inx hj) hd (fun H1 locs1 hP1 hD1 hS1 => ?_)
  subst hM
  rw [vp_nar_byte, WL_set (M' := wr M i (ix j) x.toInt8.toInt32) (by rw [EN_byte hi, wr_row]; rfl) (fun a ha => wr_ne ha)] at hP1
  exact K H1 locs1 ls hP1 hS1 hl
theorem x_alen (hC : CX p s m args meth c cc nL own ret G) {i N : Nat} (v : Int32) (hi : kd i = (20, N)) (hv : Int32.ofNat N = v) (hd : decode cc pc = .ok (.arraylength, 1)) (K : XJ p l e R s m args below meth c G nL Q k n M (pc + 1) lv (.int v :: st)) : XJ p l e R s m args below meth c G nL Q k n M pc lv (.ref (G.2.1 i) :: st) := by
  obtain ⟨hx, hb, hml, hown, hts, hlk, hrt, hG⟩ := hC
  exact fun H locs ls hP hS hl => va_alen hx hb hG.2.1 hP (pl i) 0 ((WL_get (kd_lt2 hi)).trans (by rw [EN_int hi])) rfl hv hd (K H locs ls hP hS hl)
theorem x_alenb (hC : CX p s m args meth c cc nL own ret G) {i N : Nat} (v : Int32) (hi : kd i = (21, N)) (hv : Int32.ofNat N = v) (hd : decode cc pc = .ok (.arraylength, 1)) (K : XJ p l e R s m args below meth c G nL Q k n M (pc + 1) lv (.int v :: st)) : XJ p l e R s m args below meth c G nL Q k n M pc lv (.ref (G.2.1 i) :: st) := by
  obtain ⟨hx, hb, hml, hown, hts, hlk, hrt, hG⟩ := hC
  exact fun H locs ls hP hS hl => va_alen hx hb hG.2.1 hP (pl i) 1 ((WL_get (kd_lt2 hi)).trans (by rw [EN_byte hi])) rfl hv hd (K H locs ls hP hS hl)
theorem x_alent (hC : CX p s m args meth c cc nL own ret G) {i N : Nat} (v : Int32) (hi : kd i = (23, N)) (hv : Int32.ofNat N = v) (hd : decode cc pc = .ok (.arraylength, 1)) (K : XJ p l e R s m args below meth c G nL Q k n M (pc + 1) lv (.int v :: st)) : XJ p l e R s m args below meth c G nL Q k n M pc lv (.ref (G.2.1 i) :: st) := by
  obtain ⟨hx, hb, hml, hown, hts, hlk, hrt, hG⟩ := hC
  exact fun H locs ls hP hS hl => va_alen hx hb hG.2.1 hP (pl i) 3 ((WL_get (kd_lt2 hi)).trans (by rw [EN_tok hi])) rfl hv hd (K H locs ls hP hS hl)
theorem x_astore_n (hC : CX p s m args meth c cc nL own ret G) {kk : Fin 4} {i : Nat} {x : Nat} (lv' : List (Nat × Value)) (hd : decode cc pc = .ok (.astore_n kk, 1)) (hi : (kk : Nat) = i) (hn : i < nL) (hl' : (i, Value.ref x) :: lv.filter (fun q => !(q.1 == i) && !(q.1 + 1 == i && q.2.category == 2)) = lv') (K : XJ p l e R s m args below meth c G nL Q k n M (pc + 1) lv' st) : XJ p l e R s m args below meth c G nL Q k n M pc lv (.ref x :: st) := by
  obtain ⟨hx, hb, -⟩ := hC
  exact fun H locs ls hP hS hl => lv_astore_n hx hb hd hi hl hn hl' (fun ls' hl2 => K H locs ls' hP hS hl2)
theorem x_astore (hC : CX p s m args meth c cc nL own ret G) {i : Nat} {x : Nat} (lv' : List (Nat × Value)) (hd : decode cc pc = .ok (.astore i, 2)) (hn : i < nL) (hl' : (i, Value.ref x) :: lv.filter (fun q => !(q.1 == i) && !(q.1 + 1 == i && q.2.category == 2)) = lv') (K : XJ p l e R s m args below meth c G nL Q k n M (pc + 2) lv' st) : XJ p l e R s m args below meth c G nL Q k n M pc lv (.ref x :: st) := by
  obtain ⟨hx, hb, -⟩ := hC
  exact fun H locs ls hP hS hl => lv_astore hx hb hd hl hn hl' (fun ls' hl2 => K H locs ls' hP hS hl2)
theorem x_tableIn (hC : CX p s m args meth c cc nL own ret G) {dflt lo hi : Int} {offs : Array Int} {len : Nat} {x : Int32} {off : Int} (tgt : Nat) (hd : decode cc pc = .ok (.tableswitch dflt lo hi offs, len)) (h1 : ¬ x.toInt < lo) (h2 : ¬ hi < x.toInt) (ho : offs[(x.toInt - lo).toNat]? = some off) (ht : (pc : Int) + off = (tgt : Int)) (K : XJ p l e R s m args below meth c G nL Q k n M tgt lv st) : XJ p l e R s m args below meth c G nL Q k n M pc lv (.int x :: st) := by
  obtain ⟨hx, hb, -⟩ := hC
  exact fun H locs ls hP hS hl => lv_tableIn hx hb hd h1 h2 ho ht (K H locs ls hP hS hl)
theorem x_tableOut (hC : CX p s m args meth c cc nL own ret G) {dflt lo hi : Int} {offs : Array Int} {len : Nat} {x : Int32} (tgt : Nat) (hd : decode cc pc = .ok (.tableswitch dflt lo hi offs, len)) (h : x.toInt < lo ∨ hi < x.toInt) (ht : (pc : Int) + dflt = (tgt : Int)) (K : XJ p l e R s m args below meth c G nL Q k n M tgt lv st) : XJ p l e R s m args below meth c G nL Q k n M pc lv (.int x :: st) := by
  obtain ⟨hx, hb, -⟩ := hC
  exact fun H locs ls hP hS hl => lv_tableOut hx hb hd h ht (K H locs ls hP hS hl)
theorem x_lookup (hC : CX p s m args meth c cc nL own ret G) {dflt : Int} {ps : Array (Int × Int)} {len : Nat} {x : Int32} {off : Int} (tgt : Nat) (hd : decode cc pc = .ok (.lookupswitch dflt ps, len)) (hp : (ps.toList.zip (ps.toList.drop 1)).all (fun (a, next) => a.1 < next.1) = true) (ho : Op.lookupswitch.offset ps.toList dflt x.toInt = off) (ht : (pc : Int) + off = (tgt : Int)) (K : XJ p l e R s m args below meth c G nL Q k n M tgt lv st) : XJ p l e R s m args below meth c G nL Q k n M pc lv (.int x :: st) := by
  obtain ⟨hx, hb, -⟩ := hC
  exact fun H locs ls hP hS hl => lv_lookup hx hb hd hp ho ht (K H locs ls hP hS hl)
theorem x_mmin (hC : CX p s m args meth c cc nL own ret G) {index : Nat} {x y : Int32} (hlink : Cond.methodLink own index Lib.Math.min.name ∈ TBL) (hstat : Cond.static Lib.Math.min.name ∈ TBL) (hini : Cond.initialized "java/lang/Math" ∈ TBL) (hcode : Cond.code Lib.Math.min.name Lib.Math.min.code 2 (some .int) ∈ TBL) (hf : 1 ≤ R.frames) (hlo : (st.map fun v => v.category).sum + 13 ≤ R.locals) (hcs : k ≤ R.cells ∧ n ≤ R.slots) (hd : decode cc pc = .ok (.invokestatic index, 3)) (K : XJ p l e R s m args below meth c G nL Q k n M (pc + 3) lv (.int (imin x y) :: st)) : XJ p l e R s m args below meth c G nL Q k n M pc lv (.int y :: .int x :: st) := by
  obtain ⟨hx, hb, hml, hown, hts, hlk, hrt, hG⟩ := hC
  exact fun H locs ls hP hS hl => va_mmin hx hb (hml.trans hl.1.symm) hown (hts _ hlink) (hts _ hstat) (hts _ hini) (hts _ hcode) hf hlo hcs.1 hcs.2 hd (K H locs ls hP hS hl)
theorem x_mmax (hC : CX p s m args meth c cc nL own ret G) {index : Nat} {x y : Int32} (hlink : Cond.methodLink own index Lib.Math.max.name ∈ TBL) (hstat : Cond.static Lib.Math.max.name ∈ TBL) (hini : Cond.initialized "java/lang/Math" ∈ TBL) (hcode : Cond.code Lib.Math.max.name Lib.Math.max.code 2 (some .int) ∈ TBL) (hf : 1 ≤ R.frames) (hlo : (st.map fun v => v.category).sum + 13 ≤ R.locals) (hcs : k ≤ R.cells ∧ n ≤ R.slots) (hd : decode cc pc = .ok (.invokestatic index, 3)) (K : XJ p l e R s m args below meth c G nL Q k n M (pc + 3) lv (.int (imax x y) :: st)) : XJ p l e R s m args below meth c G nL Q k n M pc lv (.int y :: .int x :: st) := by
  obtain ⟨hx, hb, hml, hown, hts, hlk, hrt, hG⟩ := hC
  exact fun H locs ls hP hS hl => va_mmax hx hb (hml.trans hl.1.symm) hown (hts _ hlink) (hts _ hstat) (hts _ hini) (hts _ hcode) hf hlo hcs.1 hcs.2 hd (K H locs ls hP hS hl)
/-- System.arraycopy from the start of one row of ints to the start of another -/
theorem x_copy (hC : CX p s m args meth c cc nL own ret G) {index i0 i1 n0 n1 : Nat} {x : Int32} {M' : Mm} (hlink : Cond.methodLink own index arraycopyName ∈ TBL) (hnat : Cond.native arraycopyName ∈ TBL) (hstat : Cond.static arraycopyName ∈ TBL) (hini : Cond.initialized "java/lang/System" ∈ TBL) (h0 : kd i0 = (20, n0)) (h1 : kd i1 = (20, n1)) (hz : 0 ≤ x.toInt ∧ x.toInt ≤ (n0 : Int) ∧ x.toInt ≤ (n1 : Int)) (hM : M' = wrow M i1 (va_cpy (M i0) (M i1) 0 0 (ix x))) (hf : 1 ≤ R.frames) (hlo : (st.map fun v => v.category).sum + (nativeFrameWords "java/lang/System" "arraycopy" 5 + 11) ≤ R.locals) (hd : decode cc pc = .ok (.invokestatic index, 3)) (K : XJ p l e R s m args below meth c G nL Q k n M' (pc + 3) lv st) : XJ p l e R s m args below meth c G nL Q k n M pc lv (.int x :: .int 0 :: .ref (G.2.1 i1) :: .int 0 :: .ref (G.2.1 i0) :: st) := by
  obtain ⟨hx, hb, hml, hown, hts, hlk, hrt, hG⟩ := hC
  have hxx : ((x.toNatClampNeg : Nat) : Int) = x.toInt := Int.toNat_of_nonneg hz.1
  have z0 : (0 : Int32).toNatClampNeg = 0 := rfl
  refine fun H locs ls hP hS hl => va_copyi hx hb (hml.trans hl.1.symm) hown (hts _ hlink) (hts _ hnat) (hts _ hstat) (hts _ hini) hG.2.1 hP (WL_D hG.1) hS (pl i0) (pl i1) 0 0 (ty := .int) ((WL_get (kd_lt2 h0)).trans (by rw [EN_int h0])) ((WL_get (kd_lt2 h1)).trans (by rw [EN_int h1])) rfl rfl rfl (by decide) (by decide) (fun h => by have := Int32.lt_iff_toInt_lt.mp h; simp at this; omega) (by rw [z0]; omega) (by rw [z0]; omega) (fun _ _ => rfl) hf hlo hd (fun H1 locs1 hP1 hD1 hS1 => ?_)
  subst hM
  rw [WL_set (M' := wrow M i1 (va_cpy (M i0) (M i1) 0 0 (ix x))) (by rw [EN_int h1]; simp [wrow, ix, z0]) (fun a ha => wrow_ne ha)] at hP1
  exact K H1 locs1 ls hP1 hS1 hl
/-- ends -/
theorem x_iret (hC : CX p s m args meth c cc nL own ret G) {v : Int32} (hret : ret = some .int) (hd : decode cc pc = .ok (.ireturn, 1)) : XJ p l e R s m args below meth c G nL (MQ below (QO G M false (some (.int v)) s.heap.size) args s k n (AF G s.heap.size)) k n M pc lv [.int v] := by
  obtain ⟨hx, hb, hml, hown, hts, hlk, hrt, hG⟩ := hC
  exact fun H locs ls hP hS hl => W.iret hx hb (hrt.trans hret) (fun t ht hW => ⟨rfl, by rw [ht]; exact hP, hS.F ht, fun h => by cases h⟩) hS.2.2 hd hlk
theorem x_zret (hC : CX p s m args meth c cc nL own ret G) {v : Int32} (hret : ret = some .boolean) (hv : v = 0 ∨ v = 1) (hd : decode cc pc = .ok (.ireturn, 1)) : XJ p l e R s m args below meth c G nL (MQ below (QO G M true (some (.int v)) s.heap.size) args s k n (AF G s.heap.size)) k n M pc lv [.int v] := by
  obtain ⟨hx, hb, hml, hown, hts, hlk, hrt, hG⟩ := hC
  exact fun H locs ls hP hS hl => W.zret hx hb (hrt.trans hret) (by rcases hv with rfl | rfl <;> rfl) (fun t ht hW => ⟨rfl, by rw [ht]; exact hP, hS.F ht, fun _ => ⟨v, rfl, hv⟩⟩) hS.2.2 hd hlk
theorem x_vret (hC : CX p s m args meth c cc nL own ret G) (hret : ret = none) (hd : decode cc pc = .ok (.return_, 1)) : XJ p l e R s m args below meth c G nL (MQ below (QO G M false none s.heap.size) args s k n (AF G s.heap.size)) k n M pc lv [] := by
  obtain ⟨hx, hb, hml, hown, hts, hlk, hrt, hG⟩ := hC
  exact fun H locs ls hP hS hl => W.vret hx hb (hrt.trans hret) (fun t ht hW => ⟨rfl, by rw [ht]; exact hP, hS.F ht, fun h => by cases h⟩) hS.2.2 hd hlk
/-- a method's contract out of its walk -/
theorem Mo.of {b : Bool} {y : MethodName} {rm : Room} {mc ms : Nat} {vs : List Value} {o : Option Value} {M' : Mm} {maxL : Nat} (hy : plainName y.cls = true) (hlen : (lg_sl vs).length ≤ maxL)
    (body : ∀ (p : Program) (e : Env) (s : State) (m : MethodId) (args : Array Value) (below : List Frame) (meth : Method) (c : Code), CX p s m args meth c cc maxL y.cls ret G → XJ p l e rm s m args below meth c G maxL (MQ below (QO G M' b o s.heap.size) args s mc ms (AF G s.heap.size)) 0 0 M 0 (lv_args 0 vs) []) : Mo b l y (WS y cc maxL ret) rm mc ms vs G M o M' := by
  intro sz
  refine Met.ofW (cc := cc) (maxL := maxL) (ret := ret) hy rfl ?_
  intro p e s m args below meth c s₁ B hml hv
  obtain ⟨rfl, hsz, hP, hG⟩ := hv
  have hts := atoms_spec (ws := WS y cc maxL ret) B.pre
  have hC : CX p s m vs.toArray meth c cc maxL y.cls ret G := ⟨B.exec, B.bytes, hml, findClass_of_methodNamed B.named, fun w h => hts w (List.mem_cons_of_mem _ h), B.notSynchronized, B.returns, hG⟩
  have hl := lv_entry vs (n := maxL) hlen
  rw [lg_entry_eq]
  subst hsz
  exact body p e s m vs.toArray below meth c hC s.heap [] _ hP va_S.rf hl
/-- calls: what a run of the callee gives -/
theorem x_run {mc ms : Nat} {M' : Mm} {b : Bool} {o : Option Value} {st0 : List Value} {As : Array Value} (hr : ∀ (H : Heap) (locs : List Loc) (ls : Array Slot), va_P G.1 CLS (WL G M) H → va_S (AF G s.heap.size) s.heap H locs → lv_has ls nL lv → va_Run p l e R s m args below meth c H locs k n mc ms (F0 m pc ls st0) st (QO G M' b o H.size As) (AF G H.size))
    (K : BVo b o → XJ p l e R s m args below meth c G nL Q (k + mc) (n + ms) M' (pc + 3) lv (o.toList ++ st)) : XJ p l e R s m args below meth c G nL Q k n M pc lv st0 := by
  intro H locs ls hP hS hl T hT X
  have hsub : ∀ q, AF G H.size q → AF G s.heap.size q := fun q h => h.imp id (fun h2 => Nat.le_trans hS.1 h2)
  obtain ⟨v, st₀, t, T', L, h0, X', hL, e1, e2, ⟨hv, hp, ⟨hz, hk⟩, hbv⟩, stp⟩ := hr H locs ls hP hS hl T hT X
  cases hv
  rw [h0] at hz hk
  obtain ⟨t2, a1, b1⟩ := K hbv T'.heap (locs ++ L) ls (by rw [e1]; exact hp)
    ⟨Nat.le_trans hS.1 (by rw [e1]; exact hz), fun q h1 h2 => by rw [e1, hk q (Nat.lt_of_lt_of_le h1 hS.1) (fun z => h2 (hsub q z))]; exact hS.2.1 q h1 h2, fun q hq => by
      rcases List.mem_append.mp hq with h | h
      · exact hS.2.2 q h
      · exact hsub _ (hL q h)⟩ hl T' rfl X'
  exact ⟨t2, stp t2 a1, b1⟩
theorem mo_blind {G : GG} {M : Mm} {vs : List Value} {sz : Nat} : FrameBlind (va_Pc vs (fun U => U.heap.size = sz ∧ va_P G.1 CLS (WL G M) U.heap ∧ OKG G U)) := fun a U g mk h => ⟨h.1, h.2.1, h.2.2.1, h.2.2.2.calling⟩
theorem ws_good {y : MethodName} {cy : ByteArray} {maxL : Nat} {r : Option FieldType} (h : Cond.code y cy maxL r ∈ TBL) : GoodIn TBL (WS y cy maxL r) := fun w hw => by
  rcases List.mem_cons.mp hw with rfl | hw
  · exact tbl_self _ h
  · exact tbl_self _ hw
/-- invokevirtual of an own method on the object i -/
theorem x_callV (hC : CX p s m args meth c cc nL own ret G) {y : MethodName} {cy : ByteArray} {maxL index nA mc ms i ci : Nat} {r : Option FieldType} {rm : Room} {As : List Value} {st0 : List Value} {M' : Mm} {b : Bool} {o : Option Value} {q : vw_C} (hM : Mo b l y (WS y cy maxL r) rm mc ms (.ref (G.2.1 i) :: As) G M o M') (hcode : Cond.code y cy maxL r ∈ TBL) (hlink : Cond.methodLink own index y ∈ TBL) (hinst : Cond.instanceMethod y ∈ TBL) (hsel : Cond.selects q.1 y y ∈ TBL) (hini : Cond.initialized y.cls ∈ TBL) (hy : y.cls ≠ "java/lang/invoke/MethodHandle" ∧ y.cls ≠ "java/lang/invoke/VarHandle" ∧ (parseMethodDescriptor y.desc).map (fun d => d.parameters.length) = some nA) (hnA : As.length = nA) (hrc : rm.cells = mc ∧ rm.slots = ms) (hR : rm.frames + 1 ≤ R.frames ∧ 8 + (maxL + 11) + rm.locals ≤ R.locals) (hi : (kd i).1 = ci) (hci : ci < 20) (hq : CLS[ci]? = some q) (hst : st0 = As.reverse ++ .ref (G.2.1 i) :: st) (hcat : (st.map fun v => v.category).sum ≤ 8) (hcs : k + mc ≤ R.cells ∧ n + ms ≤ R.slots) (hd : decode cc pc = .ok (.invokevirtual index, 3))
    (K : BVo b o → XJ p l e R s m args below meth c G nL Q (k + mc) (n + ms) M' (pc + 3) lv (o.toList ++ st)) : XJ p l e R s m args below meth c G nL Q k n M pc lv st0 := by
  obtain ⟨hx, hb, hml, hown, hts, hlk, hrt, hG⟩ := hC
  refine x_run (As := (Value.ref (G.2.1 i) :: As).toArray) (fun H locs ls hP hS hl => ?_) K
  have hrecv := va_recv hG.2.1 hP hq ((WL_get (kd_lt hi (by omega))).trans (by rw [EN_obj hi hci]))
  refine va_runV (C := q.1) (bytes := cy) (maxL := maxL) (ret := r) (n := nA) (nL := nL) (Ts := TBL) (b := G.2.1 i) ⟨hx, hb, hml, hown, hts⟩ (hM H.size) ⟨⟨hrc.1, hrc.2, hR.1, hR.2, pay_in hts (ws_good hcode), List.mem_cons_self, hts _ hcode, hts _ hini, ⟨hy.1, hy.2.1⟩, fun sig h => ?_, hts _ hlink⟩, hts _ hinst, hts _ hsel⟩ ⟨mo_blind, hrecv, fun U hU hW => ⟨rfl, by rw [hU], by rw [hU]; exact hP, hG.step hS hU hW⟩⟩ rfl hnA hl.1 hst (lv_room hcat) hd hcs
  have h2 := hy.2.2
  rw [h] at h2
  exact (Option.some.inj h2).symm
theorem x_callS (hC : CX p s m args meth c cc nL own ret G) {y : MethodName} {cy : ByteArray} {maxL index nA mc ms : Nat} {r : Option FieldType} {rm : Room} {As : List Value} {st0 : List Value} {M' : Mm} {b : Bool} {o : Option Value} (hM : Mo b l y (WS y cy maxL r) rm mc ms As G M o M') (hcode : Cond.code y cy maxL r ∈ TBL) (hlink : Cond.methodLink own index y ∈ TBL) (hstat : Cond.static y ∈ TBL) (hini : Cond.initialized y.cls ∈ TBL) (hy : y.cls ≠ "java/lang/invoke/MethodHandle" ∧ y.cls ≠ "java/lang/invoke/VarHandle" ∧ (parseMethodDescriptor y.desc).map (fun d => d.parameters.length) = some nA) (hnA : As.length = nA) (hrc : rm.cells = mc ∧ rm.slots = ms) (hR : rm.frames + 1 ≤ R.frames ∧ 8 + (maxL + 11) + rm.locals ≤ R.locals) (hst : st0 = As.reverse ++ st) (hcat : (st.map fun v => v.category).sum ≤ 8) (hcs : k + mc ≤ R.cells ∧ n + ms ≤ R.slots) (hd : decode cc pc = .ok (.invokestatic index, 3))
    (K : BVo b o → XJ p l e R s m args below meth c G nL Q (k + mc) (n + ms) M' (pc + 3) lv (o.toList ++ st)) : XJ p l e R s m args below meth c G nL Q k n M pc lv st0 := by
  obtain ⟨hx, hb, hml, hown, hts, hlk, hrt, hG⟩ := hC
  refine x_run (As := As.toArray) (fun H locs ls hP hS hl => ?_) K
  refine va_runS (bytes := cy) (maxL := maxL) (ret := r) (n := nA) (nL := nL) (Ts := TBL) ⟨hx, hb, hml, hown, hts⟩ (hM H.size) ⟨⟨hrc.1, hrc.2, hR.1, hR.2, pay_in hts (ws_good hcode), List.mem_cons_self, hts _ hcode, hts _ hini, ⟨hy.1, hy.2.1⟩, fun sig h => ?_, hts _ hlink⟩, hts _ hstat⟩ ⟨mo_blind, fun U hU hW => ⟨rfl, by rw [hU], by rw [hU]; exact hP, hG.step hS hU hW⟩⟩ rfl hnA hl.1 hst (lv_room hcat) hd hcs
  have h2 := hy.2.2
  rw [h] at h2
  exact (Option.some.inj h2).symm
end XR
/-! the plain terms: what a walk's hypothesis says at a check, a branch, a call -/
theorem it_s {β : Type} {c : Prop} {dc : Decidable c} {X : Option β} {r : β} (h : @ite _ c dc X none = some r) : c ∧ X = some r := by
  by_cases hc : c
  · rw [if_pos hc] at h; exact ⟨hc, h⟩
  · rw [if_neg hc] at h; cases h
theorem ie_s {β : Type} {c : Prop} {dc : Decidable c} {X Y r : β} (h : @ite _ c dc X Y = r) : (c → X = r) ∧ (¬ c → Y = r) := ⟨fun hc => by rw [if_pos hc] at h; exact h, fun hc => by rw [if_neg hc] at h; exact h⟩
def lz {α β : Type} (x : α) (f : α → β) : β := f x
theorem lz_s {α β : Type} {x : α} {f : α → β} {r : β} (h : lz x f = r) : ∃ y, y = x ∧ f y = r := ⟨x, rfl, h⟩
def bd1 {α β : Type} (x : Option α) (f : α → Option β) : Option β := match x with | none => none | some a => f a
theorem bd1_s {α β : Type} {x : Option α} {f : α → Option β} {r : β} (h : bd1 x f = some r) : ∃ a, x = some a ∧ f a = some r := by
  cases x with
  | none => cases h
  | some a => exact ⟨a, rfl, h⟩
def bd2 {α α' β : Type} (x : Option (α × α')) (f : α → α' → Option β) : Option β := match x with | none => none | some a => f a.1 a.2
theorem bd2_s {α α' β : Type} {x : Option (α × α')} {f : α → α' → Option β} {r : β} (h : bd2 x f = some r) : ∃ a b, x = some (a, b) ∧ f a b = some r := by
  cases x with
  | none => cases h
  | some a => exact ⟨a.1, a.2, rfl, h⟩
def bd3 {α α' α'' β : Type} (x : Option (α × α' × α'')) (f : α → α' → α'' → Option β) : Option β := match x with | none => none | some a => f a.1 a.2.1 a.2.2
theorem bd3_s {α α' α'' β : Type} {x : Option (α × α' × α'')} {f : α → α' → α'' → Option β} {r : β} (h : bd3 x f = some r) : ∃ a b d, x = some (a, b, d) ∧ f a b d = some r := by
  cases x with
  | none => cases h
  | some a => exact ⟨a.1, a.2.1, a.2.2, rfl, h⟩
