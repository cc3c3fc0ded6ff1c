/-! texts of the JDK -/
theorem dfJ4 : ∀ j, j < 4 → defaultValue (tyJ4 j) = vp_V [.null, .int 0, .int 0, .int 0] j := by
  intro j hj
  have : j = 0 ∨ j = 1 ∨ j = 2 ∨ j = 3 := by omega
  rcases this with rfl | rfl | rfl | rfl <;> rfl
theorem dfJ0 : ∀ j, j < 4 → defaultValue (tyJ0 j) = vp_V [.null, .int 0, .int 0, .int 0] j := by
  intro j hj
  have : j = 0 ∨ j = 1 ∨ j = 2 ∨ j = 3 := by omega
  rcases this with rfl | rfl | rfl | rfl <;> rfl
theorem shl_0 (x : Int32) : x <<< ((0 : Int32) &&& 31) = x := by
  rw [show ((0 : Int32) &&& 31) = 0 from rfl]; simp
theorem shr_0 (x : Int32) : x >>> ((0 : Int32) &&& 31) = x := by
  rw [show ((0 : Int32) &&& 31) = 0 from rfl]; simp
def b7 (x : Int32) : Prop := 0 ≤ x.toInt ∧ x.toInt ≤ 127
theorem c255_n : ∀ k, k < 128 → ((nI k &&& (255 : Int32)).toUInt32 % 65536).toInt32 = nI k := by decide +kernel
theorem c255 {x : Int32} (h : b7 x) : ((x &&& (255 : Int32)).toUInt32 % 65536).toInt32 = x := by
  have e : nI (ix x) = x := n_ix h.1
  have h2 : ix x < 128 := by
    have := ix_int h.1
    have := h.2
    omega
  have := c255_n (ix x) h2
  rw [e] at this; exact this
theorem ft7 {x : Int32} (h : b7 x) : fits .byte (.int x) = true := by
  show (decide ((-128 : Int32) ≤ x) && decide (x ≤ (127 : Int32))) = true
  rw [decide_eq_true (by rw [i_le]; show (-128 : Int) ≤ _; have := h.1; omega), decide_eq_true (by rw [i_le]; exact h.2)]
  rfl
theorem b8 {x : Int32} (h : b7 x) : x.toInt8.toInt32 = x := by
  have e : nI (ix x) = x := n_ix h.1
  have h2 : ix x < 128 := by
    have := ix_int h.1
    have := h.2
    omega
  have hd : ∀ k, k < 128 → (nI k).toInt8.toInt32 = nI k := by decide +kernel
  have := hd (ix x) h2
  rw [e] at this; exact this
theorem imax_n {a b : Nat} (ha : a < 2147483648) (hb : b < 2147483648) : imax (nI a) (nI b) = nI (if a < b then b else a) := by
  unfold imax
  by_cases h : a < b
  · rw [if_pos h, if_pos ((n_lt ha hb).mpr h)]
  · rw [if_neg h, if_neg (fun e => h ((n_lt ha hb).mp e))]
theorem imin_n {a b : Nat} (ha : a < 2147483648) (hb : b < 2147483648) : imin (nI a) (nI b) = nI (if b < a then b else a) := by
  unfold imin
  by_cases h : b < a
  · rw [if_pos h, if_pos ((n_lt hb ha).mpr h)]
  · rw [if_neg h, if_neg (fun e => h ((n_lt hb ha).mp e))]
theorem cx_at {p : Program} {l : Launch} {e : Env} {R : Room} {s : State} {m : MethodId} {args : Array Value} {below : List Frame} {meth : Method} {c : Code} {nL : Nat} {D : DG} {A : Nat → Prop} {Q : State → Prop} {k n : Nat} {ws ws' : va_W} {pc : Nat} {lv : List (Nat × Value)} {st st' : List Value} (h1 : ws = ws') (h2 : st = st') (K : XC p l e R s m args below meth c D A nL Q k n ws' pc lv st') : XC p l e R s m args below meth c D A nL Q k n ws pc lv st := by
  rw [h1, h2]; exact K
theorem cx_keep {p : Program} {l : Launch} {e : Env} {R : Room} {s : State} {m : MethodId} {args : Array Value} {below : List Frame} {meth : Method} {c : Code} {nL : Nat} {D : DG} {A : Nat → Prop} {Q : State → Prop} {k n : Nat} {ws ws' : va_W} {pc : Nat} {lv : List (Nat × Value)} {st : List Value} (is : List Nat) (h : is.map (fun i => ws[i]?) = ws'.map some) (hn : va_nd is = true) (K : XC p l e R s m args below meth c D A nL Q k n ws' pc lv st) : XC p l e R s m args below meth c D A nL Q k n ws pc lv st :=
  fun H locs ls hP hD hS hl => K H locs ls (hP.sub is (va_fm h)) (hD.sub is hn h) hS hl
theorem j_coder (l : Launch) (D : DG) (F : EF) {a v : Nat} {L : List Int32} (hm : (a, v, L) ∈ F.1) : Yo l yJ0_coder_7d493 (WS yJ0_coder_7d493 cJ0_coder_7d493 1 (some .byte)) (RM 1 0 0 0) 0 0 [.ref a] D F [] (fun o w => o = some (.int (0)) ∧ w = []) := by
  refine Yo.of (cc := cJ0_coder_7d493) (maxL := 1) (ret := (some .byte)) (by decide) (Nat.le_of_ble_eq_true rfl) ?_
  intro p e s m args below meth c hC hE hmn
  show XC p l e (RM 1 0 0 0) s m args below meth c D _ 1 _ 0 0 [] 0 [(0, .ref a)] []
  refine cx_gets hC hE.1 (tb_3 (List.mem_of_getElem? (i := 11) rfl) : Cond.fieldLink RJ0 38 "java/lang/String" "COMPACT_STRINGS" "Z" ∈ TBL) dJ0_coder_7d493_0 ?_
  refine cx_if_eq hC 13 dJ0_coder_7d493_3 (by decide) (fun h => absurd h (by decide)) (fun _ => ?_)
  refine cx_aload_n hC dJ0_coder_7d493_6 rfl 0 rfl ?_
  refine cx_getO hC (hE.2.2.2.2.1 _ hm).2.1 (tb_26 (List.mem_of_getElem? (i := 37) rfl) : Cond.fieldLink RJ0 15 "java/lang/String" "coder" "B" ∈ TBL) dJ0_coder_7d493_7 ?_
  refine cx_goto hC 14 dJ0_coder_7d493_10 (by decide) ?_
  exact cy_cret hC (⟨rfl, rfl⟩) rfl (rfl) dJ0_coder_7d493_14
theorem j_isL (l : Launch) (D : DG) (F : EF) {a v : Nat} {L : List Int32} (hm : (a, v, L) ∈ F.1) : Yo l yJ0_isLatin1_aae02 (WS yJ0_isLatin1_aae02 cJ0_isLatin1_aae02 1 (some .boolean)) (RM 1 0 0 0) 0 0 [.ref a] D F [] (fun o w => o = some (.int (1)) ∧ w = []) := by
  refine Yo.of (cc := cJ0_isLatin1_aae02) (maxL := 1) (ret := (some .boolean)) (by decide) (Nat.le_of_ble_eq_true rfl) ?_
  intro p e s m args below meth c hC hE hmn
  show XC p l e (RM 1 0 0 0) s m args below meth c D _ 1 _ 0 0 [] 0 [(0, .ref a)] []
  refine cx_gets hC hE.1 (tb_3 (List.mem_of_getElem? (i := 11) rfl) : Cond.fieldLink RJ0 38 "java/lang/String" "COMPACT_STRINGS" "Z" ∈ TBL) dJ0_isLatin1_aae02_0 ?_
  refine cx_if_eq hC 17 dJ0_isLatin1_aae02_3 (by decide) (fun h => absurd h (by decide)) (fun _ => ?_)
  refine cx_aload_n hC dJ0_isLatin1_aae02_6 rfl 0 rfl ?_
  refine cx_getO hC (hE.2.2.2.2.1 _ hm).2.1 (tb_26 (List.mem_of_getElem? (i := 37) rfl) : Cond.fieldLink RJ0 15 "java/lang/String" "coder" "B" ∈ TBL) dJ0_isLatin1_aae02_7 ?_
  refine cx_if_ne hC 17 dJ0_isLatin1_aae02_10 (by decide) (fun h => absurd (rfl) h) (fun _ => ?_)
  refine cx_iconst hC (1 : Int32) dJ0_isLatin1_aae02_13 (by decide) ?_
  refine cx_goto hC 18 dJ0_isLatin1_aae02_14 (by decide) ?_
  exact cy_cret hC (⟨rfl, rfl⟩) rfl (rfl) dJ0_isLatin1_aae02_18
theorem j_slen (l : Launch) (D : DG) (F : EF) {a v : Nat} {L : List Int32} (hm : (a, v, L) ∈ F.1) : Yo l yJ0_length_8abf5 (WS yJ0_length_8abf5 cJ0_length_8abf5 1 (some .int)) (RM 2 0 0 20) 0 0 [.ref a] D F [] (fun o w => o = some (.int (nI L.length)) ∧ w = []) := by
  refine Yo.of (cc := cJ0_length_8abf5) (maxL := 1) (ret := (some .int)) (by decide) (Nat.le_of_ble_eq_true rfl) ?_
  intro p e s m args below meth c hC hE hmn
  show XC p l e (RM 2 0 0 20) s m args below meth c D _ 1 _ 0 0 [] 0 [(0, .ref a)] []
  refine cx_aload_n hC dJ0_length_8abf5_0 rfl 0 rfl ?_
  refine cx_getO hC (hE.2.2.2.2.1 _ hm).2.2.1 (tb_26 (List.mem_of_getElem? (i := 36) rfl) : Cond.fieldLink RJ0 9 "java/lang/String" "value" "[B" ∈ TBL) dJ0_length_8abf5_1 ?_
  refine cx_tlen hC (hE.2.2.2.2.1 _ hm).2.2.2 (nI L.length) rfl dJ0_length_8abf5_4 ?_
  refine cx_aload_n hC dJ0_length_8abf5_5 rfl 0 rfl ?_
  refine cy_callV hC (E := RJ0) (y := yJ0_coder_7d493) (cy := cJ0_coder_7d493) (maxL := 1) (nA := 0) (r := (some .byte)) (rm := (RM 1 0 0 0)) (mc := 0) (ms := 0) (As := []) (wr := []) (j_coder l D F hm) [] [] rfl rfl rfl rfl (by decide) (rc_str hE hm) (ef_sub hC hE [] rfl) kc_yJ0_coder_7d493 km_J0_335 ki_yJ0_coder_7d493 kv_yJ0_coder_7d493 kn_RJ0 ky_yJ0_coder_7d493 rfl ⟨rfl, rfl⟩ ⟨Nat.le_of_ble_eq_true rfl, Nat.le_of_ble_eq_true rfl⟩ rfl (Nat.le_of_ble_eq_true rfl) ⟨Nat.le_of_ble_eq_true rfl, Nat.le_of_ble_eq_true rfl⟩ dJ0_length_8abf5_6 (fun o w1 h => ?_)
  obtain ⟨rfl, rfl⟩ := h
  refine cx_at (ws' := []) (st' := [.int 0, .int (nI L.length)]) rfl rfl ?_
  refine cx_ishr hC dJ0_length_8abf5_9 ?_
  refine cx_topi (y := (nI L.length)) ((shr_0 _).symm) ?_
  exact cy_iret hC (⟨rfl, rfl⟩) rfl dJ0_length_8abf5_10
theorem j_pci0 (l : Launch) (D : DG) (F : EF) {i n : Nat} (hi : i < n) (hn : n < 2147483648) : Yo l yJ3_checkIndex_8e157 (WS yJ3_checkIndex_8e157 cJ3_checkIndex_8e157 3 (some .int)) (RM 1 0 0 0) 0 0 [.int (nI i), .int (nI n), .null] D F [] (fun o w => o = some (.int (nI i)) ∧ w = []) := by
  have h1 : ¬ nI i < 0 := fun h => by have := i_lt.mp h; rw [i_nI (by omega)] at this; have z : (0 : Int32).toInt = 0 := rfl; omega
  have h2 : nI i < nI n := (n_lt (by omega) hn).mpr hi
  refine Yo.of (cc := cJ3_checkIndex_8e157) (maxL := 3) (ret := (some .int)) (by decide) (Nat.le_of_ble_eq_true rfl) ?_
  intro p e s m args below meth c hC hE hmn
  show XC p l e (RM 1 0 0 0) s m args below meth c D _ 3 _ 0 0 [] 0 [(0, .int (nI i)), (1, .int (nI n)), (2, .null)] []
  refine cx_iload_n hC dJ3_checkIndex_8e157_0 rfl 0 rfl ?_
  refine cx_if_lt hC 9 dJ3_checkIndex_8e157_1 (by decide) (fun h => absurd h (h1)) (fun _ => ?_)
  refine cx_iload_n hC dJ3_checkIndex_8e157_4 rfl 0 rfl ?_
  refine cx_iload_n hC dJ3_checkIndex_8e157_5 rfl 1 rfl ?_
  refine cx_icmp_lt hC 16 dJ3_checkIndex_8e157_6 (by decide) (fun _ => ?_) (fun h => absurd (h2) h)
  refine cx_iload_n hC dJ3_checkIndex_8e157_16 rfl 0 rfl ?_
  exact cy_iret hC (⟨rfl, rfl⟩) rfl dJ3_checkIndex_8e157_17
theorem j_pci1 (l : Launch) (D : DG) (F : EF) {i n t : Nat} (hi : i < n) (hn : n < 2147483648) : Yo l yJ3_checkIndex_8e157 (WS yJ3_checkIndex_8e157 cJ3_checkIndex_8e157 3 (some .int)) (RM 1 0 0 0) 0 0 [.int (nI i), .int (nI n), .ref t] D F [] (fun o w => o = some (.int (nI i)) ∧ w = []) := by
  have h1 : ¬ nI i < 0 := fun h => by have := i_lt.mp h; rw [i_nI (by omega)] at this; have z : (0 : Int32).toInt = 0 := rfl; omega
  have h2 : nI i < nI n := (n_lt (by omega) hn).mpr hi
  refine Yo.of (cc := cJ3_checkIndex_8e157) (maxL := 3) (ret := (some .int)) (by decide) (Nat.le_of_ble_eq_true rfl) ?_
  intro p e s m args below meth c hC hE hmn
  show XC p l e (RM 1 0 0 0) s m args below meth c D _ 3 _ 0 0 [] 0 [(0, .int (nI i)), (1, .int (nI n)), (2, .ref t)] []
  refine cx_iload_n hC dJ3_checkIndex_8e157_0 rfl 0 rfl ?_
  refine cx_if_lt hC 9 dJ3_checkIndex_8e157_1 (by decide) (fun h => absurd h (h1)) (fun _ => ?_)
  refine cx_iload_n hC dJ3_checkIndex_8e157_4 rfl 0 rfl ?_
  refine cx_iload_n hC dJ3_checkIndex_8e157_5 rfl 1 rfl ?_
  refine cx_icmp_lt hC 16 dJ3_checkIndex_8e157_6 (by decide) (fun _ => ?_) (fun h => absurd (h2) h)
  refine cx_iload_n hC dJ3_checkIndex_8e157_16 rfl 0 rfl ?_
  exact cy_iret hC (⟨rfl, rfl⟩) rfl dJ3_checkIndex_8e157_17
theorem j_chk (l : Launch) (D : DG) (F : EF) {i n : Nat} (hi : i < n) (hn : n < 2147483648) : Yo l yJ0_checkIndex_df160 (WS yJ0_checkIndex_df160 cJ0_checkIndex_df160 2 none) (RM 2 0 0 22) 0 0 [.int (nI i), .int (nI n)] D F [] (fun o w => o = none ∧ w = []) := by
  refine Yo.of (cc := cJ0_checkIndex_df160) (maxL := 2) (ret := none) (by decide) (Nat.le_of_ble_eq_true rfl) ?_
  intro p e s m args below meth c hC hE hmn
  show XC p l e (RM 2 0 0 22) s m args below meth c D _ 2 _ 0 0 [] 0 [(0, .int (nI i)), (1, .int (nI n))] []
  rcases hE.2.1 with hz | ⟨t, hz⟩
  · refine cx_iload_n hC dJ0_checkIndex_df160_0 rfl 0 rfl ?_
    refine cx_iload_n hC dJ0_checkIndex_df160_1 rfl 1 rfl ?_
    refine cx_gets hC hz (tb_3 (List.mem_of_getElem? (i := 26) rfl) : Cond.fieldLink RJ0 1053 "jdk/internal/util/Preconditions" "SIOOBE_FORMATTER" "Ljava/util/function/BiFunction;" ∈ TBL) dJ0_checkIndex_df160_2 ?_
    refine cy_callS hC (y := yJ3_checkIndex_8e157) (cy := cJ3_checkIndex_8e157) (maxL := 3) (nA := 3) (r := (some .int)) (rm := (RM 1 0 0 0)) (mc := 0) (ms := 0) (As := [.int (nI i), .int (nI n), .null]) (wr := []) (j_pci0 l D F hi hn) [] [] rfl rfl rfl rfl (by decide) (ef_sub hC hE [] rfl) kc_yJ3_checkIndex_8e157 km_J0_1059 kt_yJ3_checkIndex_8e157 kn_RJ3 ky_yJ3_checkIndex_8e157 rfl ⟨rfl, rfl⟩ ⟨Nat.le_of_ble_eq_true rfl, Nat.le_of_ble_eq_true rfl⟩ rfl (Nat.le_of_ble_eq_true rfl) ⟨Nat.le_of_ble_eq_true rfl, Nat.le_of_ble_eq_true rfl⟩ dJ0_checkIndex_df160_5 (fun o w1 h => ?_)
    obtain ⟨rfl, rfl⟩ := h
    refine cx_at (ws' := []) (st' := [.int (nI i)]) rfl rfl ?_
    refine cx_pop hC dJ0_checkIndex_df160_8 rfl ?_
    exact cy_vret hC ⟨rfl, rfl⟩ rfl dJ0_checkIndex_df160_9
  · refine cx_iload_n hC dJ0_checkIndex_df160_0 rfl 0 rfl ?_
    refine cx_iload_n hC dJ0_checkIndex_df160_1 rfl 1 rfl ?_
    refine cx_gets hC hz (tb_3 (List.mem_of_getElem? (i := 26) rfl) : Cond.fieldLink RJ0 1053 "jdk/internal/util/Preconditions" "SIOOBE_FORMATTER" "Ljava/util/function/BiFunction;" ∈ TBL) dJ0_checkIndex_df160_2 ?_
    refine cy_callS hC (y := yJ3_checkIndex_8e157) (cy := cJ3_checkIndex_8e157) (maxL := 3) (nA := 3) (r := (some .int)) (rm := (RM 1 0 0 0)) (mc := 0) (ms := 0) (As := [.int (nI i), .int (nI n), .ref t]) (wr := []) (j_pci1 l D F hi hn) [] [] rfl rfl rfl rfl (by decide) (ef_sub hC hE [] rfl) kc_yJ3_checkIndex_8e157 km_J0_1059 kt_yJ3_checkIndex_8e157 kn_RJ3 ky_yJ3_checkIndex_8e157 rfl ⟨rfl, rfl⟩ ⟨Nat.le_of_ble_eq_true rfl, Nat.le_of_ble_eq_true rfl⟩ rfl (Nat.le_of_ble_eq_true rfl) ⟨Nat.le_of_ble_eq_true rfl, Nat.le_of_ble_eq_true rfl⟩ dJ0_checkIndex_df160_5 (fun o w1 h => ?_)
    obtain ⟨rfl, rfl⟩ := h
    refine cx_at (ws' := []) (st' := [.int (nI i)]) rfl rfl ?_
    refine cx_pop hC dJ0_checkIndex_df160_8 rfl ?_
    exact cy_vret hC ⟨rfl, rfl⟩ rfl dJ0_checkIndex_df160_9
theorem nar7 {x : Int32} (h : b7 x) : narrow .char (.int x) = .int x := by
  have e : nI (ix x) = x := n_ix h.1
  have h2 : ix x < 128 := by
    have := ix_int h.1
    have := h.2
    omega
  have hd : ∀ k, k < 128 → narrow .char (.int (nI k)) = .int (nI k) := by decide +kernel
  have := hd (ix x) h2
  rw [e] at this; exact this
theorem j_l1c (l : Launch) (D : DG) (F : EF) {a v : Nat} {L : List Int32} (hm : (a, v, L) ∈ F.1) (hb : ∀ k, k < L.length → b7 (L.getD k 0)) {j : Nat} (hj : j < L.length) (hl : L.length < 2147483648) : Yo l yJ1_charAt_3b067 (WS yJ1_charAt_3b067 cJ1_charAt_3b067 2 (some .char)) (RM 3 0 0 43) 0 0 [.ref v, .int (nI j)] D F [] (fun o w => o = some (.int (L.getD j 0)) ∧ w = []) := by
  refine Yo.of (cc := cJ1_charAt_3b067) (maxL := 2) (ret := (some .char)) (by decide) (Nat.le_of_ble_eq_true rfl) ?_
  intro p e s m args below meth c hC hE hmn
  show XC p l e (RM 3 0 0 43) s m args below meth c D _ 2 _ 0 0 [] 0 [(0, .ref v), (1, .int (nI j))] []
  refine cx_iload_n hC dJ1_charAt_3b067_0 rfl 1 rfl ?_
  refine cx_aload_n hC dJ1_charAt_3b067_1 rfl 0 rfl ?_
  refine cx_tlen hC (hE.2.2.2.2.1 _ hm).2.2.2 (nI L.length) rfl dJ1_charAt_3b067_2 ?_
  refine cy_callS hC (y := yJ0_checkIndex_df160) (cy := cJ0_checkIndex_df160) (maxL := 2) (nA := 2) (r := none) (rm := (RM 2 0 0 22)) (mc := 0) (ms := 0) (As := [.int (nI j), .int (nI L.length)]) (wr := []) (j_chk l D F hj hl) [] [] rfl rfl rfl rfl (by decide) (ef_sub hC hE [] rfl) kc_yJ0_checkIndex_df160 km_J1_9 kt_yJ0_checkIndex_df160 kn_RJ0 ky_yJ0_checkIndex_df160 rfl ⟨rfl, rfl⟩ ⟨Nat.le_of_ble_eq_true rfl, Nat.le_of_ble_eq_true rfl⟩ rfl (Nat.le_of_ble_eq_true rfl) ⟨Nat.le_of_ble_eq_true rfl, Nat.le_of_ble_eq_true rfl⟩ dJ1_charAt_3b067_3 (fun o w1 h => ?_)
  obtain ⟨rfl, rfl⟩ := h
  refine cx_at (ws' := []) (st' := []) rfl rfl ?_
  refine cx_aload_n hC dJ1_charAt_3b067_6 rfl 0 rfl ?_
  refine cx_iload_n hC dJ1_charAt_3b067_7 rfl 1 rfl ?_
  refine cx_tb hC (N := L.length) (f := fun j => L.getD j 0) (hE.2.2.2.2.1 _ hm).2.2.2 (by rw [i_nI (by omega)]; omega) dJ1_charAt_3b067_8 ?_
  refine cx_topi (y := (L.getD j 0)) (by show L.getD j 0 = L.getD (ix (nI j)) 0; rw [ix_nI (by omega)]) ?_
  refine cx_sipush hC (255 : Int32) dJ1_charAt_3b067_9 (by decide) ?_
  refine cx_iand hC dJ1_charAt_3b067_12 ?_
  refine cx_i2c hC dJ1_charAt_3b067_13 ?_
  refine cx_topi (y := (L.getD j 0)) ((c255 (hb j hj)).symm) ?_
  exact cy_cret hC (⟨rfl, rfl⟩) rfl (nar7 (hb j hj)) dJ1_charAt_3b067_14
theorem j_charAt (l : Launch) (D : DG) (F : EF) {a v : Nat} {L : List Int32} (hm : (a, v, L) ∈ F.1) (hb : ∀ k, k < L.length → b7 (L.getD k 0)) {j : Nat} (hj : j < L.length) (hl : L.length < 2147483648) : Yo l yJ0_charAt_5068e (WS yJ0_charAt_5068e cJ0_charAt_5068e 2 (some .char)) (RM 4 0 0 64) 0 0 [.ref a, .int (nI j)] D F [] (fun o w => o = some (.int (L.getD j 0)) ∧ w = []) := by
  refine Yo.of (cc := cJ0_charAt_5068e) (maxL := 2) (ret := (some .char)) (by decide) (Nat.le_of_ble_eq_true rfl) ?_
  intro p e s m args below meth c hC hE hmn
  show XC p l e (RM 4 0 0 64) s m args below meth c D _ 2 _ 0 0 [] 0 [(0, .ref a), (1, .int (nI j))] []
  refine cx_aload_n hC dJ0_charAt_5068e_0 rfl 0 rfl ?_
  refine cy_callV hC (E := RJ0) (y := yJ0_isLatin1_aae02) (cy := cJ0_isLatin1_aae02) (maxL := 1) (nA := 0) (r := (some .boolean)) (rm := (RM 1 0 0 0)) (mc := 0) (ms := 0) (As := []) (wr := []) (j_isL l D F hm) [] [] rfl rfl rfl rfl (by decide) (rc_str hE hm) (ef_sub hC hE [] rfl) kc_yJ0_isLatin1_aae02 km_J0_492 ki_yJ0_isLatin1_aae02 kv_yJ0_isLatin1_aae02 kn_RJ0 ky_yJ0_isLatin1_aae02 rfl ⟨rfl, rfl⟩ ⟨Nat.le_of_ble_eq_true rfl, Nat.le_of_ble_eq_true rfl⟩ rfl (Nat.le_of_ble_eq_true rfl) ⟨Nat.le_of_ble_eq_true rfl, Nat.le_of_ble_eq_true rfl⟩ dJ0_charAt_5068e_1 (fun o w1 h => ?_)
  obtain ⟨rfl, rfl⟩ := h
  refine cx_at (ws' := []) (st' := [.int 1]) rfl rfl ?_
  refine cx_if_eq hC 16 dJ0_charAt_5068e_4 (by decide) (fun h => absurd h (by decide)) (fun _ => ?_)
  refine cx_aload_n hC dJ0_charAt_5068e_7 rfl 0 rfl ?_
  refine cx_getO hC (hE.2.2.2.2.1 _ hm).2.2.1 (tb_26 (List.mem_of_getElem? (i := 36) rfl) : Cond.fieldLink RJ0 9 "java/lang/String" "value" "[B" ∈ TBL) dJ0_charAt_5068e_8 ?_
  refine cx_iload_n hC dJ0_charAt_5068e_11 rfl 1 rfl ?_
  refine cy_callS hC (y := yJ1_charAt_3b067) (cy := cJ1_charAt_3b067) (maxL := 2) (nA := 2) (r := (some .char)) (rm := (RM 3 0 0 43)) (mc := 0) (ms := 0) (As := [.ref v, .int (nI j)]) (wr := []) (j_l1c l D F hm hb hj hl) [] [] rfl rfl rfl rfl (by decide) (ef_sub hC hE [] rfl) kc_yJ1_charAt_3b067 km_J0_495 kt_yJ1_charAt_3b067 kn_RJ1 ky_yJ1_charAt_3b067 rfl ⟨rfl, rfl⟩ ⟨Nat.le_of_ble_eq_true rfl, Nat.le_of_ble_eq_true rfl⟩ rfl (Nat.le_of_ble_eq_true rfl) ⟨Nat.le_of_ble_eq_true rfl, Nat.le_of_ble_eq_true rfl⟩ dJ0_charAt_5068e_12 (fun o w1 h => ?_)
  obtain ⟨rfl, rfl⟩ := h
  refine cx_at (ws' := []) (st' := [.int (L.getD j 0)]) rfl rfl ?_
  exact cy_cret hC (⟨rfl, rfl⟩) rfl (nar7 (hb j hj)) dJ0_charAt_5068e_15
theorem dJ0_getBytes_840e7_0 : decode cJ0_getBytes_840e7 0 = .ok (.aload_n 0, 1) := by decide +kernel
theorem dJ0_getBytes_840e7_1 : decode cJ0_getBytes_840e7 1 = .ok (.invokevirtual 335, 3) := by decide +kernel
theorem dJ0_getBytes_840e7_4 : decode cJ0_getBytes_840e7 4 = .ok (.iload_n 3, 1) := by decide +kernel
theorem dJ0_getBytes_840e7_5 : decode cJ0_getBytes_840e7 5 = .ok (.if_icmp .ne 23, 3) := by decide +kernel
theorem dJ0_getBytes_840e7_8 : decode cJ0_getBytes_840e7 8 = .ok (.aload_n 0, 1) := by decide +kernel
theorem dJ0_getBytes_840e7_9 : decode cJ0_getBytes_840e7 9 = .ok (.getfield 9, 3) := by decide +kernel
theorem dJ0_getBytes_840e7_12 : decode cJ0_getBytes_840e7 12 = .ok (.iconst 0, 1) := by decide +kernel
theorem dJ0_getBytes_840e7_13 : decode cJ0_getBytes_840e7 13 = .ok (.aload_n 1, 1) := by decide +kernel
theorem dJ0_getBytes_840e7_14 : decode cJ0_getBytes_840e7 14 = .ok (.iload_n 2, 1) := by decide +kernel
theorem dJ0_getBytes_840e7_15 : decode cJ0_getBytes_840e7 15 = .ok (.iload_n 3, 1) := by decide +kernel
theorem dJ0_getBytes_840e7_16 : decode cJ0_getBytes_840e7 16 = .ok (.ishl, 1) := by decide +kernel
theorem dJ0_getBytes_840e7_17 : decode cJ0_getBytes_840e7 17 = .ok (.aload_n 0, 1) := by decide +kernel
theorem dJ0_getBytes_840e7_18 : decode cJ0_getBytes_840e7 18 = .ok (.getfield 9, 3) := by decide +kernel
theorem dJ0_getBytes_840e7_21 : decode cJ0_getBytes_840e7 21 = .ok (.arraylength, 1) := by decide +kernel
theorem dJ0_getBytes_840e7_22 : decode cJ0_getBytes_840e7 22 = .ok (.invokestatic 212, 3) := by decide +kernel
theorem dJ0_getBytes_840e7_25 : decode cJ0_getBytes_840e7 25 = .ok (.goto 18, 3) := by decide +kernel
theorem dJ0_getBytes_840e7_43 : decode cJ0_getBytes_840e7 43 = .ok (.return_, 1) := by decide +kernel
theorem j_getB (l : Launch) (D : DG) (F : EF) {a v : Nat} {L : List Int32} (hm : (a, v, L) ∈ F.1) {b1 cap d : Nat} {g : Nat → Int32} (hb : ∀ k, k < L.length → b7 (L.getD k 0)) (hdc : d + L.length ≤ cap) (hcap : cap < 2147483648) : Yo l yJ0_getBytes_840e7 (WS yJ0_getBytes_840e7 cJ0_getBytes_840e7 4 none) (RM 2 0 0 40) 0 0 [.ref a, .ref b1, .int (nI d), .int 0] D F [(b1, .inl (D.2 1, cap, .inl (g)))] (fun o w => o = none ∧ w = [(b1, .inl (D.2 1, cap, .inl (va_cpy (fun k => L.getD k 0) g 0 d L.length)))]) := by
  refine Yo.of (cc := cJ0_getBytes_840e7) (maxL := 4) (ret := none) (by decide) (Nat.le_of_ble_eq_true rfl) ?_
  intro p e s m args below meth c hC hE hmn
  show XC p l e (RM 2 0 0 40) s m args below meth c D _ 4 _ 0 0 [(b1, .inl (D.2 1, cap, .inl (g)))] 0 [(0, .ref a), (1, .ref b1), (2, .int (nI d)), (3, .int 0)] []
  refine cx_aload_n hC dJ0_getBytes_840e7_0 rfl 0 rfl ?_
  refine cy_callV hC (E := RJ0) (y := yJ0_coder_7d493) (cy := cJ0_coder_7d493) (maxL := 1) (nA := 0) (r := (some .byte)) (rm := (RM 1 0 0 0)) (mc := 0) (ms := 0) (As := []) (wr := [(b1, .inl (D.2 1, cap, .inl (g)))]) (j_coder l D F hm) [] [0] rfl rfl rfl rfl (by decide) (rc_str hE hm) (ef_sub hC hE [] rfl) kc_yJ0_coder_7d493 km_J0_335 ki_yJ0_coder_7d493 kv_yJ0_coder_7d493 kn_RJ0 ky_yJ0_coder_7d493 rfl ⟨rfl, rfl⟩ ⟨Nat.le_of_ble_eq_true rfl, Nat.le_of_ble_eq_true rfl⟩ rfl (Nat.le_of_ble_eq_true rfl) ⟨Nat.le_of_ble_eq_true rfl, Nat.le_of_ble_eq_true rfl⟩ dJ0_getBytes_840e7_1 (fun o w1 h => ?_)
  obtain ⟨rfl, rfl⟩ := h
  refine cx_at (ws' := [(b1, .inl (D.2 1, cap, .inl (g)))]) (st' := [.int 0]) rfl rfl ?_
  refine cx_iload_n hC dJ0_getBytes_840e7_4 rfl 3 rfl ?_
  refine cx_icmp_ne hC 28 dJ0_getBytes_840e7_5 (by decide) (fun h => absurd (rfl) h) (fun _ => ?_)
  refine cx_aload_n hC dJ0_getBytes_840e7_8 rfl 0 rfl ?_
  refine cx_getO hC (hE.2.2.2.2.1 _ hm).2.2.1 (tb_26 (List.mem_of_getElem? (i := 36) rfl) : Cond.fieldLink RJ0 9 "java/lang/String" "value" "[B" ∈ TBL) dJ0_getBytes_840e7_9 ?_
  refine cx_iconst hC (0 : Int32) dJ0_getBytes_840e7_12 (by decide) ?_
  refine cx_aload_n hC dJ0_getBytes_840e7_13 rfl 1 rfl ?_
  refine cx_iload_n hC dJ0_getBytes_840e7_14 rfl 2 rfl ?_
  refine cx_iload_n hC dJ0_getBytes_840e7_15 rfl 3 rfl ?_
  refine cx_ishl hC dJ0_getBytes_840e7_16 ?_
  refine cx_topi (y := (nI d)) ((shl_0 _).symm) ?_
  refine cx_aload_n hC dJ0_getBytes_840e7_17 rfl 0 rfl ?_
  refine cx_getO hC (hE.2.2.2.2.1 _ hm).2.2.1 (tb_26 (List.mem_of_getElem? (i := 36) rfl) : Cond.fieldLink RJ0 9 "java/lang/String" "value" "[B" ∈ TBL) dJ0_getBytes_840e7_18 ?_
  refine cx_tlen hC (hE.2.2.2.2.1 _ hm).2.2.2 (nI L.length) rfl dJ0_getBytes_840e7_21 ?_
  refine cx_copyt hC 0 (f := fun k => L.getD k 0) (N := L.length) (d := d) [(b1, .inl (D.2 1, cap, .inl (va_cpy (fun k => L.getD k 0) (g) 0 (d) (L.length))))] km_J0_212 (hE.2.2.2.2.1 _ hm).2.2.2 rfl (rfl) (rfl) (Nat.le_refl _) (hdc) (hcap) (fun i hi => ft7 (hb i hi)) rfl (Nat.le_of_ble_eq_true rfl) (Nat.le_of_ble_eq_true rfl) dJ0_getBytes_840e7_22 ?_
  refine cx_goto hC 43 dJ0_getBytes_840e7_25 (by decide) ?_
  exact cy_vret hC (⟨rfl, rfl⟩) rfl dJ0_getBytes_840e7_43
