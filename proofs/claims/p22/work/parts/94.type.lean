/-! a text typed -/
theorem shl_or {a b : Nat} (ha : a < 8388608) (hb : b < 256) : (nI a <<< ((8 : Int32) &&& 31)) ||| nI b = nI (256 * a + b) := by
  rw [show ((8 : Int32) &&& 31) = 8 from rfl]
  apply Int32.toBitVec_inj.mp
  rw [Int32.toBitVec_or, Int32.toBitVec_shiftLeft]
  show (BitVec.ofNat 32 a <<< ((8 : Int32).toBitVec.smod 32)) ||| BitVec.ofNat 32 b = BitVec.ofNat 32 (256 * a + b)
  rw [show ((8 : Int32).toBitVec.smod 32) = 8#32 from by decide, BitVec.shiftLeft_eq']
  apply BitVec.eq_of_toNat_eq
  rw [BitVec.toNat_or, BitVec.toNat_shiftLeft, BitVec.toNat_ofNat, BitVec.toNat_ofNat, BitVec.toNat_ofNat, BitVec.toNat_ofNat, show 8 % 2 ^ 32 = 8 from rfl]
  rw [Nat.mod_eq_of_lt (show a < 2 ^ 32 by omega), Nat.mod_eq_of_lt (show b < 2 ^ 32 by omega), Nat.mod_eq_of_lt (show 256 * a + b < 2 ^ 32 by omega), Nat.shiftLeft_eq, Nat.mod_eq_of_lt (show a * 2 ^ 8 < 2 ^ 32 by omega), ← Nat.shiftLeft_eq, ← Nat.shiftLeft_add_eq_or_of_lt (show b < 2 ^ 8 by omega), Nat.shiftLeft_eq]
  omega
theorem u_n {w : Nat} (h : w < 2147483648) : (nI w).toUInt32.toNat = w := by
  have e := u_nat (nI w)
  have hl := (nI w).toUInt32.toNat_lt
  rw [i_nI h] at e
  by_cases c : (nI w).toUInt32.toNat < 2147483648
  · rw [if_pos c] at e; omega
  · rw [if_neg c] at e; omega
theorem byt_w {w t c : Nat} (hw : w < 2147483648) (ht : t < 4) (hc : w / 2 ^ (24 - 8 * t) % 256 = c) (h7 : c < 128) : bytA (nI w) (nI (24 - 8 * t)) = nI c := by
  have B := byt_ok (nI w) t ht
  have hk : ((nI (24 - 8 * t)).toUInt32 &&& Int32.toUInt32 31).toNat % 32 = 24 - 8 * t := by
    have : t = 0 ∨ t = 1 ∨ t = 2 ∨ t = 3 := by omega
    rcases this with rfl | rfl | rfl | rfl <;> decide
  have U := us_n (nI w) (nI (24 - 8 * t)) (24 - 8 * t) hk
  rw [u_n hw, hc] at U
  rcases B.2 with ⟨-, e⟩ | ⟨e, -⟩
  · rw [e, i_eq, U, i_nI (by omega)]
  · omega
theorem ch7 {L : List Int32} (hb : ∀ k, k < L.length → b7 (L.getD k 0)) (j : Nat) : b7 (chT L j) := by
  unfold chT
  by_cases c : j < L.length
  · rw [if_pos c]; exact hb j c
  · rw [if_neg c]; exact ⟨by decide, by decide⟩
theorem wd_n {L : List Int32} {j c0 c1 c2 c3 : Nat} (h0 : chT L (j + 0) = nI c0) (h1 : chT L (j + 1) = nI c1) (h2 : chT L (j + 2) = nI c2) (h3 : chT L (j + 3) = nI c3) (b0 : c0 < 128) (b1 : c1 < 128) (b2 : c2 < 128) (b3 : c3 < 128) : wdT L j 4 = nI (256 * (256 * (256 * (256 * 0 + c0) + c1) + c2) + c3) := by
  show (((((((((0 : Int32) <<< ((8 : Int32) &&& 31)) ||| chT L (j + 0)) <<< ((8 : Int32) &&& 31)) ||| chT L (j + 1)) <<< ((8 : Int32) &&& 31)) ||| chT L (j + 2)) <<< ((8 : Int32) &&& 31)) ||| chT L (j + 3)) = _
  rw [h0, h1, h2, h3, show (0 : Int32) = nI 0 from rfl, shl_or (by omega) (by omega), shl_or (by omega) (by omega), shl_or (by omega) (by omega), shl_or (by omega) (by omega)]
theorem wd_b {L : List Int32} (hb : ∀ k, k < L.length → b7 (L.getD k 0)) {j t : Nat} (ht : t < 4) : bytA (wdT L j 4) (nI (24 - 8 * t)) = chT L (j + t) := by
  have hx : ∀ i, ∃ c, chT L i = nI c ∧ c < 128 := fun i => by
    have h := ch7 hb i
    have h2 := ix_int h.1
    have h3 := h.2
    exact ⟨ix (chT L i), (n_ix h.1).symm, by omega⟩
  obtain ⟨c0, e0, b0⟩ := hx (j + 0)
  obtain ⟨c1, e1, b1⟩ := hx (j + 1)
  obtain ⟨c2, e2, b2⟩ := hx (j + 2)
  obtain ⟨c3, e3, b3⟩ := hx (j + 3)
  rw [wd_n e0 e1 e2 e3 b0 b1 b2 b3]
  have : t = 0 ∨ t = 1 ∨ t = 2 ∨ t = 3 := by omega
  rcases this with rfl | rfl | rfl | rfl
  · rw [e0]; exact byt_w (by omega) (by omega) (by show _ / 16777216 % 256 = _; omega) b0
  · rw [e1]; exact byt_w (by omega) (by omega) (by show _ / 65536 % 256 = _; omega) b1
  · rw [e2]; exact byt_w (by omega) (by omega) (by show _ / 256 % 256 = _; omega) b2
  · rw [e3]; exact byt_w (by omega) (by omega) (by show _ / 1 % 256 = _; omega) b3
/-! the tape, changed -/
theorem LV.tape {H ng L : Nat} {A A' : Mm} (h : LV H ng A) (hA : ∀ r c, r ≠ 1 → ¬ (r = 0 ∧ c = 1) → A' r c = A r c) (hL : L ≤ 2000) (h1 : A' 0 1 = nI L) (hb : ∀ k, k < L → b7 (A' 1 k)) : LV H ng A' := by
  obtain ⟨⟨B, hB⟩, h2, h3, h4⟩ := h
  refine ⟨⟨wr (wrow B 70 (A' 1)) 69 2 (nI L), hB.tape (fun r c e1 _ e3 => hA r c e1 e3) (fun r c e1 _ e3 => ?_) ⟨L, hL, h1, wr_at _ _ _ _, fun k hk => ?_⟩⟩, by rw [hA 29 15 (by omega) (by omega)]; exact h2, h3, h4.congr h3 (fun r _ hr => funext fun c => hA r c (by omega) (by omega))⟩
  · rw [wr_o (by omega), wrow_ne e1]
  · rw [wr_ne (by decide), wrow_at]
    have := hb k hk
    exact ⟨⟨this.1, by have := this.2; omega⟩, Or.inl ⟨by have := this.2; omega, rfl⟩⟩
/-! the receiver -/
theorem rc_g {p : Program} {s : State} {m : MethodId} {args : Array Value} {meth : Method} {c : Code} {cc : ByteArray} {nL : Nat} {own : String} {ret : Option FieldType} {D : DG} {A : Nat → Prop} (hC : CY p s m args meth c cc nL own ret D A) {X ws : va_W} {G : GG} {M : Mm} (hw : ws = X ++ WL G M) : ∀ (H : Heap) (locs : List Loc), va_P D.1 CLS ws H → va_S A s.heap H locs → ∃ cell : Cell, H[G.2.1 0]? = some cell ∧ cell.vm.isStatics = false ∧ s.vm.findClass RX9 = some cell.cls := by
  obtain ⟨hx, hb, hml, hown, hts, hlk, hrt, hG, hA⟩ := hC
  intro H locs hP _
  refine va_recv hG.1 hP (q := (RX9, TX9, 11)) (q0 := X.length + 0) (ci := 6) (fs := OBv G M 0 6) rfl ?_
  subst hw
  rw [List.getElem?_append_right (by omega), show X.length + 0 - X.length = 0 by omega]
  exact (WL_qi (G := G) (M := M) (k := 0) (by decide)).trans (by rw [show qi 0 = 0 from rfl, EN_obj (i := 0) (k := 6) rfl])
def TI (L : List Int32) (B M : Mm) (i : Nat) : Prop := M 0 1 = nI i ∧ (∀ k, k < i → M 1 k = chT L k) ∧ ∀ r c, r ≠ 1 → ¬ (r = 0 ∧ c = 1) → M r c = B r c
theorem TI.feed {L : List Int32} {B M M' : Mm} {i : Nat} (hb : ∀ k, k < L.length → b7 (L.getD k 0)) (h : TI L B M i) (e1 : M' 0 1 = nI (i + 20)) (e2 : ∀ r j, ¬ (r = 1 ∧ i ≤ j) → ¬ (r = 0 ∧ j = 1) → M' r j = M r j) (e3 : ∀ q t, q < 5 → t < 4 → M' 1 (i + (4 * q + t)) = bytA (ar5 (wdT L i 4) (wdT L (i + 4) 4) (wdT L (i + 8) 4) (wdT L (i + 12) 4) (wdT L (i + 16) 4) q) (nI (24 - 8 * t))) : TI L B M' (i + 20) := by
  refine ⟨e1, fun k hk => ?_, fun r c h1 h2 => (e2 r c (by omega) h2).trans (h.2.2 r c h1 h2)⟩
  by_cases c : k < i
  · rw [e2 1 k (by omega) (by omega)]; exact h.2.1 k c
  · obtain ⟨d, rfl⟩ : ∃ d, k = i + d := ⟨k - i, by omega⟩
    have := e3 (d / 4) (d % 4) (by omega) (by omega)
    rw [show 4 * (d / 4) + d % 4 = d by omega] at this
    rw [this]
    have hq : d / 4 = 0 ∨ d / 4 = 1 ∨ d / 4 = 2 ∨ d / 4 = 3 ∨ d / 4 = 4 := by omega
    unfold ar5
    rcases hq with z | z | z | z | z <;> rw [z]
    · rw [if_pos rfl, wd_b hb (by omega), show i + d % 4 = i + d by omega]
    · rw [if_neg (by decide), if_pos rfl, wd_b hb (by omega), show i + 4 + d % 4 = i + d by omega]
    · rw [if_neg (by decide), if_neg (by decide), if_pos rfl, wd_b hb (by omega), show i + 8 + d % 4 = i + d by omega]
    · rw [if_neg (by decide), if_neg (by decide), if_neg (by decide), if_pos rfl, wd_b hb (by omega), show i + 12 + d % 4 = i + d by omega]
    · rw [if_neg (by decide), if_neg (by decide), if_neg (by decide), if_neg (by decide), wd_b hb (by omega), show i + 16 + d % 4 = i + d by omega]
theorem dL_type_13 : decode cL_type 13 = .ok (.iload_n 3, 1) := by decide +kernel
theorem dL_type_14 : decode cL_type 14 = .ok (.aload_n 1, 1) := by decide +kernel
theorem dL_type_15 : decode cL_type 15 = .ok (.invokevirtual 9, 3) := by decide +kernel
theorem dL_type_18 : decode cL_type 18 = .ok (.if_icmp .ge 50, 3) := by decide +kernel
theorem dL_type_21 : decode cL_type 21 = .ok (.aload_n 0, 1) := by decide +kernel
theorem dL_type_22 : decode cL_type 22 = .ok (.aload_n 1, 1) := by decide +kernel
theorem dL_type_23 : decode cL_type 23 = .ok (.iload_n 3, 1) := by decide +kernel
theorem dL_type_24 : decode cL_type 24 = .ok (.invokestatic 25, 3) := by decide +kernel
theorem dL_type_27 : decode cL_type 27 = .ok (.aload_n 1, 1) := by decide +kernel
theorem dL_type_28 : decode cL_type 28 = .ok (.iload_n 3, 1) := by decide +kernel
theorem dL_type_29 : decode cL_type 29 = .ok (.iconst 4, 1) := by decide +kernel
theorem dL_type_30 : decode cL_type 30 = .ok (.iadd, 1) := by decide +kernel
theorem dL_type_31 : decode cL_type 31 = .ok (.invokestatic 25, 3) := by decide +kernel
theorem dL_type_34 : decode cL_type 34 = .ok (.aload_n 1, 1) := by decide +kernel
theorem dL_type_35 : decode cL_type 35 = .ok (.iload_n 3, 1) := by decide +kernel
theorem dL_type_36 : decode cL_type 36 = .ok (.bipush 8, 2) := by decide +kernel
theorem dL_type_38 : decode cL_type 38 = .ok (.iadd, 1) := by decide +kernel
theorem dL_type_39 : decode cL_type 39 = .ok (.invokestatic 25, 3) := by decide +kernel
theorem dL_type_42 : decode cL_type 42 = .ok (.aload_n 1, 1) := by decide +kernel
theorem dL_type_43 : decode cL_type 43 = .ok (.iload_n 3, 1) := by decide +kernel
theorem dL_type_44 : decode cL_type 44 = .ok (.bipush 12, 2) := by decide +kernel
theorem dL_type_46 : decode cL_type 46 = .ok (.iadd, 1) := by decide +kernel
theorem dL_type_47 : decode cL_type 47 = .ok (.invokestatic 25, 3) := by decide +kernel
theorem dL_type_50 : decode cL_type 50 = .ok (.aload_n 1, 1) := by decide +kernel
theorem dL_type_51 : decode cL_type 51 = .ok (.iload_n 3, 1) := by decide +kernel
theorem dL_type_52 : decode cL_type 52 = .ok (.bipush 16, 2) := by decide +kernel
theorem dL_type_54 : decode cL_type 54 = .ok (.iadd, 1) := by decide +kernel
theorem dL_type_55 : decode cL_type 55 = .ok (.invokestatic 25, 3) := by decide +kernel
theorem dL_type_58 : decode cL_type 58 = .ok (.invokevirtual 31, 3) := by decide +kernel
theorem dL_type_61 : decode cL_type 61 = .ok (.pop, 1) := by decide +kernel
theorem dL_type_62 : decode cL_type 62 = .ok (.iinc 3 20, 3) := by decide +kernel
theorem dL_type_65 : decode cL_type 65 = .ok (.goto (-52), 3) := by decide +kernel
theorem l_tyi {p : Program} {l : Launch} {e : Env} {s : State} {m : MethodId} {args : Array Value} {below : List Frame} {meth : Method} {c : Code} {D : DG} {F : EF} {A : Nat → Prop} {Q : State → Prop} {k n : Nat} (hC : CY p s m args meth c cL_type 4 RL none D A) (hE : ENV F A s s.heap) {a va : Nat} {L : List Int32} {G : GG} {B : Mm} (hg : GO D F G) (hm : (a, va, L) ∈ F.1) (hb : ∀ k, k < L.length → b7 (L.getD k 0)) (hL : L.length ≤ 300) {M : Mm} {i : Nat} (hi : i < L.length) (hI : TI L B M i) (hk : k + 0 ≤ 0) (hn : n + 0 ≤ 0) (K : ∀ (M1 : Mm) (_ : TI L B M1 (i + 20)), XC p l e (RM 9 0 0 260) s m args below meth c D A 4 Q (k + 0) (n + 0) ([] ++ WL G M1) 13 [(3, .int (nI (i + 20))), (2, .int (nI L.length)), (0, .ref (G.2.1 0)), (1, .ref a)] []) : XC p l e (RM 9 0 0 260) s m args below meth c D A 4 Q (k) (n) ([] ++ WL G M) 13 [(3, .int (nI i)), (2, .int (nI L.length)), (0, .ref (G.2.1 0)), (1, .ref a)] [] := by
  refine cx_iload_n hC dL_type_13 rfl 0 rfl ?_
  refine cx_aload_n hC dL_type_14 rfl 3 rfl ?_
  refine cy_callV hC (E := RJ0) (y := yJ0_length_8abf5) (cy := cJ0_length_8abf5) (maxL := 1) (nA := 0) (r := (some .int)) (rm := (RM 2 0 0 20)) (mc := 0) (ms := 0) (As := []) (wr := ([] ++ WL G M)) (j_slen l D F hm) [] (wz_r [] 0) rfl (wz_R rfl rfl rfl) (by decide +kernel) (by decide) (by decide +kernel) (rc_str hE hm) (ef_sub hC hE [] rfl) kc_yJ0_length_8abf5 km_L_9 ki_yJ0_length_8abf5 kv_yJ0_length_8abf5 kn_RJ0 ky_yJ0_length_8abf5 rfl ⟨rfl, rfl⟩ ⟨Nat.le_of_ble_eq_true rfl, Nat.le_of_ble_eq_true rfl⟩ rfl (Nat.le_of_ble_eq_true rfl) ⟨by show k + 0 + 0 ≤ 0; omega, by show n + 0 + 0 ≤ 0; omega⟩ dL_type_15 (fun o w1 h => ?_)
  obtain ⟨rfl, rfl⟩ := h
  refine cx_cnt (k' := k + 0) (n' := n + 0) (by omega) (by omega) ?_
  refine cx_at (ws' := ([] ++ WL G M)) (st' := [.int (nI L.length), .int (nI i)]) rfl rfl ?_
  refine cx_icmp_ge hC 68 dL_type_18 (by decide) (fun h => absurd h (fun h => by have := (n_le (by omega) (by omega)).mp h; omega)) (fun _ => ?_)
  refine cx_aload_n hC dL_type_21 rfl 2 rfl ?_
  refine cx_aload_n hC dL_type_22 rfl 3 rfl ?_
  refine cx_iload_n hC dL_type_23 rfl 0 rfl ?_
  refine cy_callS hC (y := yL_word) (cy := cL_word) (maxL := 4) (nA := 2) (r := (some .int)) (rm := (RM 6 0 0 120)) (mc := 0) (ms := 0) (As := [.ref a, .int (nI i)]) (wr := ([] ++ WL G M)) (l_word l D F hm hb (by omega) (jj := i) (by omega)) [] (wz_r [] 0) rfl (wz_R rfl rfl rfl) (by decide +kernel) (by decide) (by decide +kernel) (ef_sub hC hE [] rfl) kc_yL_word km_L_25 kt_yL_word kn_RL ky_yL_word rfl ⟨rfl, rfl⟩ ⟨Nat.le_of_ble_eq_true rfl, Nat.le_of_ble_eq_true rfl⟩ rfl (Nat.le_of_ble_eq_true rfl) ⟨by show k + 0 + 0 ≤ 0; omega, by show n + 0 + 0 ≤ 0; omega⟩ dL_type_24 (fun o w1 h => ?_)
  obtain ⟨rfl, rfl⟩ := h
  refine cx_cnt (k' := k + 0) (n' := n + 0) (by omega) (by omega) ?_
  refine cx_at (ws' := ([] ++ WL G M)) (st' := [.int (wdT L (i) 4), .ref (G.2.1 0)]) rfl rfl ?_
  refine cx_aload_n hC dL_type_27 rfl 3 rfl ?_
  refine cx_iload_n hC dL_type_28 rfl 0 rfl ?_
  refine cx_iconst hC (4 : Int32) dL_type_29 (by decide) ?_
  refine cx_iadd hC dL_type_30 ?_
  refine cx_topi (y := (nI (i + 4))) ((n_add i 4).symm) ?_
  refine cy_callS hC (y := yL_word) (cy := cL_word) (maxL := 4) (nA := 2) (r := (some .int)) (rm := (RM 6 0 0 120)) (mc := 0) (ms := 0) (As := [.ref a, .int (nI (i + 4))]) (wr := ([] ++ WL G M)) (l_word l D F hm hb (by omega) (jj := i + 4) (by omega)) [] (wz_r [] 0) rfl (wz_R rfl rfl rfl) (by decide +kernel) (by decide) (by decide +kernel) (ef_sub hC hE [] rfl) kc_yL_word km_L_25 kt_yL_word kn_RL ky_yL_word rfl ⟨rfl, rfl⟩ ⟨Nat.le_of_ble_eq_true rfl, Nat.le_of_ble_eq_true rfl⟩ rfl (Nat.le_of_ble_eq_true rfl) ⟨by show k + 0 + 0 ≤ 0; omega, by show n + 0 + 0 ≤ 0; omega⟩ dL_type_31 (fun o w1 h => ?_)
  obtain ⟨rfl, rfl⟩ := h
  refine cx_cnt (k' := k + 0) (n' := n + 0) (by omega) (by omega) ?_
  refine cx_at (ws' := ([] ++ WL G M)) (st' := [.int (wdT L (i + 4) 4), .int (wdT L (i) 4), .ref (G.2.1 0)]) rfl rfl ?_
  refine cx_aload_n hC dL_type_34 rfl 3 rfl ?_
  refine cx_iload_n hC dL_type_35 rfl 0 rfl ?_
  refine cx_bipush hC (8 : Int32) dL_type_36 (by decide) ?_
  refine cx_iadd hC dL_type_38 ?_
  refine cx_topi (y := (nI (i + 8))) ((n_add i 8).symm) ?_
  refine cy_callS hC (y := yL_word) (cy := cL_word) (maxL := 4) (nA := 2) (r := (some .int)) (rm := (RM 6 0 0 120)) (mc := 0) (ms := 0) (As := [.ref a, .int (nI (i + 8))]) (wr := ([] ++ WL G M)) (l_word l D F hm hb (by omega) (jj := i + 8) (by omega)) [] (wz_r [] 0) rfl (wz_R rfl rfl rfl) (by decide +kernel) (by decide) (by decide +kernel) (ef_sub hC hE [] rfl) kc_yL_word km_L_25 kt_yL_word kn_RL ky_yL_word rfl ⟨rfl, rfl⟩ ⟨Nat.le_of_ble_eq_true rfl, Nat.le_of_ble_eq_true rfl⟩ rfl (Nat.le_of_ble_eq_true rfl) ⟨by show k + 0 + 0 ≤ 0; omega, by show n + 0 + 0 ≤ 0; omega⟩ dL_type_39 (fun o w1 h => ?_)
  obtain ⟨rfl, rfl⟩ := h
  refine cx_cnt (k' := k + 0) (n' := n + 0) (by omega) (by omega) ?_
  refine cx_at (ws' := ([] ++ WL G M)) (st' := [.int (wdT L (i + 8) 4), .int (wdT L (i + 4) 4), .int (wdT L (i) 4), .ref (G.2.1 0)]) rfl rfl ?_
  refine cx_aload_n hC dL_type_42 rfl 3 rfl ?_
  refine cx_iload_n hC dL_type_43 rfl 0 rfl ?_
  refine cx_bipush hC (12 : Int32) dL_type_44 (by decide) ?_
  refine cx_iadd hC dL_type_46 ?_
  refine cx_topi (y := (nI (i + 12))) ((n_add i 12).symm) ?_
  refine cy_callS hC (y := yL_word) (cy := cL_word) (maxL := 4) (nA := 2) (r := (some .int)) (rm := (RM 6 0 0 120)) (mc := 0) (ms := 0) (As := [.ref a, .int (nI (i + 12))]) (wr := ([] ++ WL G M)) (l_word l D F hm hb (by omega) (jj := i + 12) (by omega)) [] (wz_r [] 0) rfl (wz_R rfl rfl rfl) (by decide +kernel) (by decide) (by decide +kernel) (ef_sub hC hE [] rfl) kc_yL_word km_L_25 kt_yL_word kn_RL ky_yL_word rfl ⟨rfl, rfl⟩ ⟨Nat.le_of_ble_eq_true rfl, Nat.le_of_ble_eq_true rfl⟩ rfl (Nat.le_of_ble_eq_true rfl) ⟨by show k + 0 + 0 ≤ 0; omega, by show n + 0 + 0 ≤ 0; omega⟩ dL_type_47 (fun o w1 h => ?_)
  obtain ⟨rfl, rfl⟩ := h
  refine cx_cnt (k' := k + 0) (n' := n + 0) (by omega) (by omega) ?_
  refine cx_at (ws' := ([] ++ WL G M)) (st' := [.int (wdT L (i + 12) 4), .int (wdT L (i + 8) 4), .int (wdT L (i + 4) 4), .int (wdT L (i) 4), .ref (G.2.1 0)]) rfl rfl ?_
  refine cx_aload_n hC dL_type_50 rfl 3 rfl ?_
  refine cx_iload_n hC dL_type_51 rfl 0 rfl ?_
  refine cx_bipush hC (16 : Int32) dL_type_52 (by decide) ?_
  refine cx_iadd hC dL_type_54 ?_
  refine cx_topi (y := (nI (i + 16))) ((n_add i 16).symm) ?_
  refine cy_callS hC (y := yL_word) (cy := cL_word) (maxL := 4) (nA := 2) (r := (some .int)) (rm := (RM 6 0 0 120)) (mc := 0) (ms := 0) (As := [.ref a, .int (nI (i + 16))]) (wr := ([] ++ WL G M)) (l_word l D F hm hb (by omega) (jj := i + 16) (by omega)) [] (wz_r [] 0) rfl (wz_R rfl rfl rfl) (by decide +kernel) (by decide) (by decide +kernel) (ef_sub hC hE [] rfl) kc_yL_word km_L_25 kt_yL_word kn_RL ky_yL_word rfl ⟨rfl, rfl⟩ ⟨Nat.le_of_ble_eq_true rfl, Nat.le_of_ble_eq_true rfl⟩ rfl (Nat.le_of_ble_eq_true rfl) ⟨by show k + 0 + 0 ≤ 0; omega, by show n + 0 + 0 ≤ 0; omega⟩ dL_type_55 (fun o w1 h => ?_)
  obtain ⟨rfl, rfl⟩ := h
  refine cx_cnt (k' := k + 0) (n' := n + 0) (by omega) (by omega) ?_
  refine cx_at (ws' := ([] ++ WL G M)) (st' := [.int (wdT L (i + 16) 4), .int (wdT L (i + 12) 4), .int (wdT L (i + 8) 4), .int (wdT L (i + 4) 4), .int (wdT L (i) 4), .ref (G.2.1 0)]) rfl rfl ?_
  obtain ⟨M1, hf, e1, e2, e3⟩ := feedA (a := wdT L i 4) (b := wdT L (i + 4) 4) (c := wdT L (i + 8) 4) (d := wdT L (i + 12) 4) (e := wdT L (i + 16) 4) hI.1 (by omega)
  refine cy_callV hC (E := RX9) (y := yX9_feed) (cy := cX9_feed) (maxL := 6) (nA := 5) (r := (some .int)) (rm := (RM 1 0 0 22)) (mc := 0) (ms := 0) (As := [.int (wdT L (i) 4), .int (wdT L (i + 4) 4), .int (wdT L (i + 8) 4), .int (wdT L (i + 12) 4), .int (wdT L (i + 16) 4)]) (wr := []) (yo_mo (c_X9_feed l G M (i0 := 0) rfl _ _ _ _ _ (hf)) hg) (wz_i 0) (List.range 0) (wz_C rfl rfl) (wz_X rfl rfl) (by decide +kernel) (by decide +kernel) (by decide +kernel) (rc_g hC rfl) (ef_sub hC hE (wz_i 0) (wz_C rfl rfl)) kc_yX9_feed km_L_31 ki_yX9_feed kv_yX9_feed kn_RX9 ky_yX9_feed rfl ⟨rfl, rfl⟩ ⟨Nat.le_of_ble_eq_true rfl, Nat.le_of_ble_eq_true rfl⟩ rfl (Nat.le_of_ble_eq_true rfl) ⟨by show k + 0 + 0 ≤ 0; omega, by show n + 0 + 0 ≤ 0; omega⟩ dL_type_58 (fun o w1 h => ?_)
  obtain ⟨rfl, rfl, -⟩ := h
  refine cx_cnt (k' := k + 0) (n' := n + 0) (by omega) (by omega) ?_
  refine cx_at (ws' := ([] ++ WL G M1)) (st' := [.int (nI (i + 20))]) rfl rfl ?_
  refine cx_pop hC dL_type_61 rfl ?_
  refine cx_iinc hC [(3, .int (nI (i + 20))), (2, .int (nI L.length)), (0, .ref (G.2.1 0)), (1, .ref a)] dL_type_62 0 rfl (v := (nI (i + 20))) (n_add i 20) (Nat.le_of_ble_eq_true rfl) rfl ?_
  refine cx_goto hC 13 dL_type_65 (by decide) ?_
  refine cx_widen (k' := k + 0) (n' := n + 0) (by omega) (by omega) ?_
  exact K M1 (hI.feed hb e1 e2 e3)
theorem l_tys {p : Program} {l : Launch} {e : Env} {s : State} {m : MethodId} {args : Array Value} {below : List Frame} {meth : Method} {c : Code} {D : DG} {F : EF} {A : Nat → Prop} {Q : State → Prop} {k n : Nat} {a va : Nat} {L : List Int32} {G : GG} {B : Mm} (hg : GO D F G) (hm : (a, va, L) ∈ F.1) (hb : ∀ k, k < L.length → b7 (L.getD k 0)) (hL : L.length ≤ 300) (hC : CY p s m args meth c cL_type 4 RL none D A) (hE : ENV F A s s.heap) (hk : k ≤ 0) (hn : n ≤ 0) (K : ∀ M1 j, L.length ≤ j → j ≤ 320 → TI L B M1 j → XC p l e (RM 9 0 0 260) s m args below meth c D A 4 Q k n ([] ++ WL G M1) 13 [(3, .int (nI j)), (2, .int (nI L.length)), (0, .ref (G.2.1 0)), (1, .ref a)] []) : ∀ r i M, L.length ≤ i + 20 * r → i ≤ 320 → TI L B M i → XC p l e (RM 9 0 0 260) s m args below meth c D A 4 Q k n ([] ++ WL G M) 13 [(3, .int (nI i)), (2, .int (nI L.length)), (0, .ref (G.2.1 0)), (1, .ref a)] [] := by
  intro r
  induction r with
  | zero => intro i M h hi hI; exact K M i (by omega) hi hI
  | succ r ih =>
    intro i M h hi hI
    by_cases c : i < L.length
    · refine l_tyi hC hE hg hm hb hL c hI (by omega) (by omega) (fun M1 h1 => ?_)
      exact ih (i + 20) M1 (by omega) (by omega) h1
    · exact K M i (by omega) hi hI
theorem dL_type_0 : decode cL_type 0 = .ok (.aload_n 0, 1) := by decide +kernel
theorem dL_type_1 : decode cL_type 1 = .ok (.iconst 3, 1) := by decide +kernel
theorem dL_type_2 : decode cL_type 2 = .ok (.invokevirtual 19, 3) := by decide +kernel
theorem dL_type_5 : decode cL_type 5 = .ok (.aload_n 1, 1) := by decide +kernel
theorem dL_type_6 : decode cL_type 6 = .ok (.invokevirtual 9, 3) := by decide +kernel
theorem dL_type_9 : decode cL_type 9 = .ok (.iadd, 1) := by decide +kernel
theorem dL_type_10 : decode cL_type 10 = .ok (.istore_n 2, 1) := by decide +kernel
theorem dL_type_11 : decode cL_type 11 = .ok (.iconst 0, 1) := by decide +kernel
theorem dL_type_12 : decode cL_type 12 = .ok (.istore_n 3, 1) := by decide +kernel
theorem dL_type_68 : decode cL_type 68 = .ok (.aload_n 0, 1) := by decide +kernel
theorem dL_type_69 : decode cL_type 69 = .ok (.iload_n 2, 1) := by decide +kernel
theorem dL_type_70 : decode cL_type 70 = .ok (.invokevirtual 35, 3) := by decide +kernel
theorem dL_type_73 : decode cL_type 73 = .ok (.pop, 1) := by decide +kernel
theorem dL_type_74 : decode cL_type 74 = .ok (.return_, 1) := by decide +kernel
theorem l_type (l : Launch) (D : DG) (F : EF) {H ng : Nat} {a va : Nat} {L : List Int32} {G : GG} {B : Mm} (hg : GO D F G) (hm : (a, va, L) ∈ F.1) (hb : ∀ k, k < L.length → b7 (L.getD k 0)) (hL : L.length ≤ 300) (hV : LV H ng B) (h0 : B 0 1 = nI 0) : Yo l yL_type (WS yL_type cL_type 4 none) (RM 9 0 0 260) 0 0 [.ref (G.2.1 0), .ref a] D F (WL G B) (fun o w => o = none ∧ ∃ M, w = WL G M ∧ M 0 1 = nI L.length ∧ (∀ k, k < L.length → M 1 k = L.getD k 0) ∧ ∀ r c, r ≠ 1 → ¬ (r = 0 ∧ c = 1) → M r c = B r c) := by
  have hcnt : f_X9_count 0 (nI 3) B = some (0, nI 0, B) := by rw [count_v hV (k := 3) (by decide), show cvA ng B 3 = B 0 1 from rfl, h0]
  refine Yo.of (cc := cL_type) (maxL := 4) (ret := none) (by decide) (Nat.le_of_ble_eq_true rfl) ?_
  intro p e s m args below meth c hC hE hmn
  show XC p l e (RM 9 0 0 260) s m args below meth c D _ 4 _ 0 0 (WL G B) 0 [(0, .ref (G.2.1 0)), (1, .ref a)] []
  refine cx_at (ws' := ([] ++ WL G B)) (st' := []) rfl rfl ?_
  refine cx_aload_n hC dL_type_0 rfl 0 rfl ?_
  refine cx_iconst hC (3 : Int32) dL_type_1 (by decide) ?_
  refine cx_topi (y := (nI 3)) (rfl) ?_
  refine cy_callV hC (E := RX9) (y := yX9_count) (cy := cX9_count) (maxL := 2) (nA := 1) (r := (some .int)) (rm := (RM 2 0 0 46)) (mc := 0) (ms := 0) (As := [.int (nI 3)]) (wr := []) (yo_mo (c_X9_count l G B (i0 := 0) rfl _ (hcnt)) hg) (wz_i 0) (List.range 0) (wz_C rfl rfl) (wz_X rfl rfl) (by decide +kernel) (by decide +kernel) (by decide +kernel) (rc_g hC rfl) (ef_sub hC hE (wz_i 0) (wz_C rfl rfl)) kc_yX9_count km_L_19 ki_yX9_count kv_yX9_count kn_RX9 ky_yX9_count rfl ⟨rfl, rfl⟩ ⟨Nat.le_of_ble_eq_true rfl, Nat.le_of_ble_eq_true rfl⟩ rfl (Nat.le_of_ble_eq_true rfl) ⟨Nat.le_of_ble_eq_true rfl, Nat.le_of_ble_eq_true rfl⟩ dL_type_2 (fun o w1 h => ?_)
  obtain ⟨rfl, rfl, -⟩ := h
  refine cx_at (ws' := ([] ++ WL G B)) (st' := [.int (nI 0)]) rfl rfl ?_
  refine cx_aload_n hC dL_type_5 rfl 1 rfl ?_
  refine cy_callV hC (E := RJ0) (y := yJ0_length_8abf5) (cy := cJ0_length_8abf5) (maxL := 1) (nA := 0) (r := (some .int)) (rm := (RM 2 0 0 20)) (mc := 0) (ms := 0) (As := []) (wr := ([] ++ WL G B)) (j_slen l D F hm) [] (wz_r [] 0) rfl (wz_R rfl rfl rfl) (by decide +kernel) (by decide) (by decide +kernel) (rc_str hE hm) (ef_sub hC hE [] rfl) kc_yJ0_length_8abf5 km_L_9 ki_yJ0_length_8abf5 kv_yJ0_length_8abf5 kn_RJ0 ky_yJ0_length_8abf5 rfl ⟨rfl, rfl⟩ ⟨Nat.le_of_ble_eq_true rfl, Nat.le_of_ble_eq_true rfl⟩ rfl (Nat.le_of_ble_eq_true rfl) ⟨Nat.le_of_ble_eq_true rfl, Nat.le_of_ble_eq_true rfl⟩ dL_type_6 (fun o w1 h => ?_)
  obtain ⟨rfl, rfl⟩ := h
  refine cx_at (ws' := ([] ++ WL G B)) (st' := [.int (nI L.length), .int (nI 0)]) rfl rfl ?_
  refine cx_iadd hC dL_type_9 ?_
  refine cx_topi (y := (nI L.length)) (by rw [n_add, Nat.zero_add]) ?_
  refine cx_istore_n hC [(2, .int (nI L.length)), (0, .ref (G.2.1 0)), (1, .ref a)] dL_type_10 rfl (Nat.le_of_ble_eq_true rfl) rfl ?_
  refine cx_iconst hC (0 : Int32) dL_type_11 (by decide) ?_
  refine cx_topi (y := (nI 0)) (rfl) ?_
  refine cx_istore_n hC [(3, .int (nI 0)), (2, .int (nI L.length)), (0, .ref (G.2.1 0)), (1, .ref a)] dL_type_12 rfl (Nat.le_of_ble_eq_true rfl) rfl ?_
  refine l_tys hg hm hb hL hC hE (by decide) (by decide) (fun M j hj hj2 hI => ?_) 15 0 B (by omega) (by omega) ⟨h0, fun k hk => absurd hk (Nat.not_lt_zero _), fun _ _ _ _ => rfl⟩
  refine cx_cnt (k' := 0) (n' := 0) rfl rfl ?_
  refine cx_iload_n hC dL_type_13 rfl 0 rfl ?_
  refine cx_aload_n hC dL_type_14 rfl 3 rfl ?_
  refine cy_callV hC (E := RJ0) (y := yJ0_length_8abf5) (cy := cJ0_length_8abf5) (maxL := 1) (nA := 0) (r := (some .int)) (rm := (RM 2 0 0 20)) (mc := 0) (ms := 0) (As := []) (wr := ([] ++ WL G M)) (j_slen l D F hm) [] (wz_r [] 0) rfl (wz_R rfl rfl rfl) (by decide +kernel) (by decide) (by decide +kernel) (rc_str hE hm) (ef_sub hC hE [] rfl) kc_yJ0_length_8abf5 km_L_9 ki_yJ0_length_8abf5 kv_yJ0_length_8abf5 kn_RJ0 ky_yJ0_length_8abf5 rfl ⟨rfl, rfl⟩ ⟨Nat.le_of_ble_eq_true rfl, Nat.le_of_ble_eq_true rfl⟩ rfl (Nat.le_of_ble_eq_true rfl) ⟨Nat.le_of_ble_eq_true rfl, Nat.le_of_ble_eq_true rfl⟩ dL_type_15 (fun o w1 h => ?_)
  obtain ⟨rfl, rfl⟩ := h
  refine cx_at (ws' := ([] ++ WL G M)) (st' := [.int (nI L.length), .int (nI j)]) rfl rfl ?_
  refine cx_icmp_ge hC 68 dL_type_18 (by decide) (fun _ => ?_) (fun h => absurd ((n_le (by omega) (by omega)).mpr hj) h)
  refine cx_aload_n hC dL_type_68 rfl 2 rfl ?_
  refine cx_iload_n hC dL_type_69 rfl 1 rfl ?_
  have hf : f_X9_trim 0 (nI L.length) M = some (0, nI L.length, wr M 0 1 (nI L.length)) := by rw [f_X9_trim, if_neg (by rw [i_lt, i_nI (by omega)]; show ¬ _ < (0 : Int); omega), hI.1, if_pos ((n_le (by omega) (by omega)).mpr hj), lz_e]
  refine cy_callV hC (E := RX9) (y := yX9_trim) (cy := cX9_trim) (maxL := 2) (nA := 1) (r := (some .int)) (rm := (RM 0 0 0 0)) (mc := 0) (ms := 0) (As := [.int (nI L.length)]) (wr := []) (yo_mo (c_X9_trim l G M (i0 := 0) rfl _ (hf)) hg) (wz_i 0) (List.range 0) (wz_C rfl rfl) (wz_X rfl rfl) (by decide +kernel) (by decide +kernel) (by decide +kernel) (rc_g hC rfl) (ef_sub hC hE (wz_i 0) (wz_C rfl rfl)) kc_yX9_trim km_L_35 ki_yX9_trim kv_yX9_trim kn_RX9 ky_yX9_trim rfl ⟨rfl, rfl⟩ ⟨Nat.le_of_ble_eq_true rfl, Nat.le_of_ble_eq_true rfl⟩ rfl (Nat.le_of_ble_eq_true rfl) ⟨Nat.le_of_ble_eq_true rfl, Nat.le_of_ble_eq_true rfl⟩ dL_type_70 (fun o w1 h => ?_)
  obtain ⟨rfl, rfl, -⟩ := h
  refine cx_at (ws' := ([] ++ WL G (wr M 0 1 (nI L.length)))) (st' := [.int (nI L.length)]) rfl rfl ?_
  refine cx_pop hC dL_type_73 rfl ?_
  exact cy_vret hC (⟨rfl, _, rfl, wr_at _ _ _ _, fun k hk => (congrFun (wr_ne (show (1 : Nat) ≠ 0 by decide)) k).trans ((hI.2.1 k (by omega)).trans (by unfold chT; rw [if_pos hk])), fun r c h1 h2 => (wr_o (by omega)).trans (hI.2.2 r c h1 h2)⟩) rfl dL_type_74
