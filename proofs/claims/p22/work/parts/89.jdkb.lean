/-! a builder of texts -/
def SBI (Ls : List Int32) (cap : Nat) (f : Nat → Int32) : Prop := Ls.length ≤ cap ∧ cap ≤ 600 ∧ (∀ k, k < Ls.length → f k = Ls.getD k 0) ∧ ∀ k, b7 (f k)
theorem b7_0 : b7 0 := ⟨by decide, by decide⟩
theorem b7_L {L : List Int32} (h : ∀ k, k < L.length → b7 (L.getD k 0)) (k : Nat) : b7 (L.getD k 0) := by
  by_cases c : k < L.length
  · exact h k c
  · have : L.getD k 0 = 0 := by
      rw [List.getD_eq_getElem?_getD, List.getElem?_eq_none (by omega)]; rfl
    rw [this]; exact b7_0
theorem cpy7 {f g : Nat → Int32} {sp dp n : Nat} (hf : ∀ k, b7 (f k)) (hg : ∀ k, b7 (g k)) (k : Nat) : b7 (va_cpy f g sp dp n k) := by
  unfold va_cpy
  by_cases h : dp ≤ k ∧ k < dp + n
  · rw [if_pos h]; exact hf _
  · rw [if_neg h]; exact hg _
theorem SBI.grow {Ls : List Int32} {cap c2 : Nat} {f : Nat → Int32} (h : SBI Ls cap f) (h1 : cap ≤ c2) (h2 : c2 ≤ 600) : SBI Ls c2 (va_cpy f (fun _ => 0) 0 0 cap) := by
  obtain ⟨a1, a2, a3, a4⟩ := h
  refine ⟨by omega, h2, fun k hk => ?_, cpy7 a4 (fun _ => b7_0)⟩
  unfold va_cpy
  rw [if_pos ⟨Nat.zero_le _, by omega⟩, show 0 + (k - 0) = k by omega]
  exact a3 k hk
theorem SBI.app {Ls L : List Int32} {cap : Nat} {f : Nat → Int32} (h : SBI Ls cap f) (h1 : Ls.length + L.length ≤ cap) (hb : ∀ k, k < L.length → b7 (L.getD k 0)) : SBI (Ls ++ L) cap (va_cpy (fun k => L.getD k 0) f 0 Ls.length L.length) := by
  obtain ⟨a1, a2, a3, a4⟩ := h
  refine ⟨by rw [List.length_append]; exact h1, a2, fun k hk => ?_, cpy7 (b7_L hb) a4⟩
  rw [List.length_append] at hk
  unfold va_cpy
  rw [getA]
  by_cases c : k < Ls.length
  · rw [if_neg (by omega), if_pos c]; exact a3 k c
  · rw [if_pos ⟨by omega, by omega⟩, if_neg c, Nat.zero_add]
theorem dJ5_init_d00df_0 : decode cJ5_init_d00df 0 = .ok (.aload_n 0, 1) := by decide +kernel
theorem dJ5_init_d00df_1 : decode cJ5_init_d00df 1 = .ok (.invokespecial 3, 3) := by decide +kernel
theorem dJ5_init_d00df_4 : decode cJ5_init_d00df 4 = .ok (.getstatic 18, 3) := by decide +kernel
theorem dJ5_init_d00df_7 : decode cJ5_init_d00df 7 = .ok (.ifCond .eq 18, 3) := by decide +kernel
theorem dJ5_init_d00df_10 : decode cJ5_init_d00df 10 = .ok (.aload_n 0, 1) := by decide +kernel
theorem dJ5_init_d00df_11 : decode cJ5_init_d00df 11 = .ok (.iload_n 1, 1) := by decide +kernel
theorem dJ5_init_d00df_12 : decode cJ5_init_d00df 12 = .ok (.newarray .byte, 2) := by decide +kernel
theorem dJ5_init_d00df_14 : decode cJ5_init_d00df 14 = .ok (.putfield 15, 3) := by decide +kernel
theorem dJ5_init_d00df_17 : decode cJ5_init_d00df 17 = .ok (.aload_n 0, 1) := by decide +kernel
theorem dJ5_init_d00df_18 : decode cJ5_init_d00df 18 = .ok (.iconst 0, 1) := by decide +kernel
theorem dJ5_init_d00df_19 : decode cJ5_init_d00df 19 = .ok (.putfield 22, 3) := by decide +kernel
theorem dJ5_init_d00df_22 : decode cJ5_init_d00df 22 = .ok (.goto 16, 3) := by decide +kernel
theorem dJ5_init_d00df_38 : decode cJ5_init_d00df 38 = .ok (.return_, 1) := by decide +kernel
theorem j_sbi5 (l : Launch) (D : DG) (F : EF) {b : Nat} : Yo l yJ5_init_d00df (WS yJ5_init_d00df cJ5_init_d00df 2 none) (RM 1 1 16 12) 1 16 [.ref b, .int (16 : Int32)] D F [(b, .inr (5, [.null, .int 0, .int 0, .int 0]))] (fun o w => o = none ∧ ∃ v, w = [(b, .inr (5, [.ref v, .int 0, .int 0, .int (nI (0))])), (v, .inl (D.2 1, 16, .inl (fun _ => 0)))]) := by
  refine Yo.of (cc := cJ5_init_d00df) (maxL := 2) (ret := none) (by decide) (Nat.le_of_ble_eq_true rfl) ?_
  intro p e s m args below meth c hC hE hmn
  show XC p l e (RM 1 1 16 12) s m args below meth c D _ 2 _ 0 0 [(b, .inr (5, [.null, .int 0, .int 0, .int 0]))] 0 [(0, .ref b), (1, .int (16 : Int32))] []
  refine cx_aload_n hC dJ5_init_d00df_0 rfl 0 rfl ?_
  refine cx_obj hC (tb_22 (List.mem_of_getElem? (i := 17) rfl)) (tb_8 (List.mem_of_getElem? (i := 14) rfl)) (tb_8 (List.mem_of_getElem? (i := 15) rfl)) (Nat.le_of_ble_eq_true rfl) (Nat.le_of_ble_eq_true rfl) dJ5_init_d00df_1 ?_
  refine cx_gets hC hE.1 (tb_22 (List.mem_of_getElem? (i := 18) rfl) : Cond.fieldLink RJ5 18 "java/lang/String" "COMPACT_STRINGS" "Z" ∈ TBL) dJ5_init_d00df_4 ?_
  refine cx_if_eq hC 25 dJ5_init_d00df_7 (by decide) (fun h => absurd h (by decide)) (fun _ => ?_)
  refine cx_aload_n hC dJ5_init_d00df_10 rfl 0 rfl ?_
  refine cx_iload_n hC dJ5_init_d00df_11 rfl 1 rfl ?_
  refine cx_newbN hC (N := 16) (rfl) (by decide) ⟨Nat.le_of_ble_eq_true rfl, by show 0 + (16) ≤ 16; omega⟩ (tb_9 (List.mem_of_getElem? (i := 13) rfl)) dJ5_init_d00df_12 (fun q1 => ?_)
  refine cx_widen (k' := 1) (n' := 16) (Nat.le_of_ble_eq_true rfl) (by show 0 + (16) ≤ 16; omega) ?_
  refine cx_at (ws' := [(b, .inr (5, [.null, .int 0, .int 0, .int 0])), (q1, .inl (D.2 1, 16, .inl (fun _ => 0)))]) (st' := [.ref q1, .ref b]) rfl rfl ?_
  refine cx_putA hC 0 0 (C := RJ4) (T := TJ4) (N := 4) [(b, .inr (5, [.ref q1, .int 0, .int 0, .int 0])), (q1, .inl (D.2 1, 16, .inl (fun _ => 0)))] fw_5 tyJ4_ok nmJ4 rfl rfl (Nat.le_of_ble_eq_true rfl) (tb_22 (List.mem_of_getElem? (i := 26) rfl) : Cond.fieldLink RJ5 15 "java/lang/AbstractStringBuilder" "value" "[B" ∈ TBL) rfl rfl rfl rfl (Nat.le_of_ble_eq_true rfl) rfl dJ5_init_d00df_14 ?_
  refine cx_aload_n hC dJ5_init_d00df_17 rfl 0 rfl ?_
  refine cx_iconst hC (0 : Int32) dJ5_init_d00df_18 (by decide) ?_
  refine cx_putA hC 0 1 (C := RJ4) (T := TJ4) (N := 4) [(b, .inr (5, [.ref q1, .int (0 : Int32), .int 0, .int 0])), (q1, .inl (D.2 1, 16, .inl (fun _ => 0)))] fw_5 tyJ4_ok nmJ4 rfl rfl (Nat.le_of_ble_eq_true rfl) (tb_22 (List.mem_of_getElem? (i := 27) rfl) : Cond.fieldLink RJ5 22 "java/lang/AbstractStringBuilder" "coder" "B" ∈ TBL) rfl rfl rfl rfl (Nat.le_of_ble_eq_true rfl) rfl dJ5_init_d00df_19 ?_
  refine cx_goto hC 38 dJ5_init_d00df_22 (by decide) ?_
  exact cy_vret hC (⟨rfl, q1, rfl⟩) rfl dJ5_init_d00df_38
theorem dJ4_init_da8c8_0 : decode cJ4_init_da8c8 0 = .ok (.aload_n 0, 1) := by decide +kernel
theorem dJ4_init_da8c8_1 : decode cJ4_init_da8c8 1 = .ok (.bipush 16, 2) := by decide +kernel
theorem dJ4_init_da8c8_3 : decode cJ4_init_da8c8 3 = .ok (.invokespecial 1, 3) := by decide +kernel
theorem dJ4_init_da8c8_6 : decode cJ4_init_da8c8 6 = .ok (.return_, 1) := by decide +kernel
theorem j_sbi (l : Launch) (D : DG) (F : EF) {b : Nat} : Yo l yJ4_init_da8c8 (WS yJ4_init_da8c8 cJ4_init_da8c8 1 none) (RM 2 1 16 33) 1 16 [.ref b] D F [(b, .inr (5, [.null, .int 0, .int 0, .int 0]))] (fun o w => o = none ∧ ∃ v, w = [(b, .inr (5, [.ref v, .int 0, .int 0, .int (nI (0))])), (v, .inl (D.2 1, 16, .inl (fun _ => 0)))]) := by
  refine Yo.of (cc := cJ4_init_da8c8) (maxL := 1) (ret := none) (by decide) (Nat.le_of_ble_eq_true rfl) ?_
  intro p e s m args below meth c hC hE hmn
  show XC p l e (RM 2 1 16 33) s m args below meth c D _ 1 _ 0 0 [(b, .inr (5, [.null, .int 0, .int 0, .int 0]))] 0 [(0, .ref b)] []
  refine cx_aload_n hC dJ4_init_da8c8_0 rfl 0 rfl ?_
  refine cx_bipush hC (16 : Int32) dJ4_init_da8c8_1 (by decide) ?_
  refine cy_callI hC (y := yJ5_init_d00df) (cy := cJ5_init_d00df) (maxL := 2) (nA := 1) (rm := (RM 1 1 16 12)) (mc := 1) (ms := 16) (As := [.int (16 : Int32)]) (wr := []) (j_sbi5 l D F) [0] [] rfl rfl rfl rfl (by decide) (ef_sub hC hE [0] rfl) kc_yJ5_init_d00df km_J4_1 ki_yJ5_init_d00df kn_RJ5 rfl ky_yJ5_init_d00df rfl ⟨rfl, rfl⟩ ⟨Nat.le_of_ble_eq_true rfl, Nat.le_of_ble_eq_true rfl⟩ rfl (Nat.le_of_ble_eq_true rfl) ⟨Nat.le_of_ble_eq_true rfl, Nat.le_of_ble_eq_true rfl⟩ dJ4_init_da8c8_3 (fun o w1 h => ?_)
  obtain ⟨rfl, v1, rfl⟩ := h
  refine cx_at (ws' := [(b, .inr (5, [.ref v1, .int 0, .int 0, .int (nI (0))])), (v1, .inl (D.2 1, 16, .inl (fun _ => 0)))]) (st' := []) rfl rfl ?_
  exact cy_vret hC (⟨rfl, v1, rfl⟩) rfl dJ4_init_da8c8_6
theorem dJ5_isLatin1_aae02_0 : decode cJ5_isLatin1_aae02 0 = .ok (.getstatic 18, 3) := by decide +kernel
theorem dJ5_isLatin1_aae02_3 : decode cJ5_isLatin1_aae02 3 = .ok (.ifCond .eq 14, 3) := by decide +kernel
theorem dJ5_isLatin1_aae02_6 : decode cJ5_isLatin1_aae02 6 = .ok (.aload_n 0, 1) := by decide +kernel
theorem dJ5_isLatin1_aae02_7 : decode cJ5_isLatin1_aae02 7 = .ok (.getfield 22, 3) := by decide +kernel
theorem dJ5_isLatin1_aae02_10 : decode cJ5_isLatin1_aae02 10 = .ok (.ifCond .ne 7, 3) := by decide +kernel
theorem dJ5_isLatin1_aae02_13 : decode cJ5_isLatin1_aae02 13 = .ok (.iconst 1, 1) := by decide +kernel
theorem dJ5_isLatin1_aae02_14 : decode cJ5_isLatin1_aae02 14 = .ok (.goto 4, 3) := by decide +kernel
theorem dJ5_isLatin1_aae02_18 : decode cJ5_isLatin1_aae02 18 = .ok (.ireturn, 1) := by decide +kernel
theorem j_isLb (l : Launch) (D : DG) (F : EF) {b v cnt : Nat} : Yo l yJ5_isLatin1_aae02 (WS yJ5_isLatin1_aae02 cJ5_isLatin1_aae02 1 (some .boolean)) (RM 1 0 0 0) 0 0 [.ref b] D F [(b, .inr (5, [.ref v, .int 0, .int 0, .int (nI (cnt))]))] (fun o w => o = some (.int (1)) ∧ w = [(b, .inr (5, [.ref v, .int 0, .int 0, .int (nI (cnt))]))]) := by
  refine Yo.of (cc := cJ5_isLatin1_aae02) (maxL := 1) (ret := (some .boolean)) (by decide) (Nat.le_of_ble_eq_true rfl) ?_
  intro p e s m args below meth c hC hE hmn
  show XC p l e (RM 1 0 0 0) s m args below meth c D _ 1 _ 0 0 [(b, .inr (5, [.ref v, .int 0, .int 0, .int (nI (cnt))]))] 0 [(0, .ref b)] []
  refine cx_gets hC hE.1 (tb_22 (List.mem_of_getElem? (i := 18) rfl) : Cond.fieldLink RJ5 18 "java/lang/String" "COMPACT_STRINGS" "Z" ∈ TBL) dJ5_isLatin1_aae02_0 ?_
  refine cx_if_eq hC 17 dJ5_isLatin1_aae02_3 (by decide) (fun h => absurd h (by decide)) (fun _ => ?_)
  refine cx_aload_n hC dJ5_isLatin1_aae02_6 rfl 0 rfl ?_
  refine cx_getA hC 0 1 (C := RJ4) (T := TJ4) (N := 4) (v := .int 0) fw_5 rfl rfl (Nat.le_of_ble_eq_true rfl) (tb_22 (List.mem_of_getElem? (i := 27) rfl) : Cond.fieldLink RJ5 22 "java/lang/AbstractStringBuilder" "coder" "B" ∈ TBL) rfl dJ5_isLatin1_aae02_7 ?_
  refine cx_if_ne hC 17 dJ5_isLatin1_aae02_10 (by decide) (fun h => absurd (rfl) h) (fun _ => ?_)
  refine cx_iconst hC (1 : Int32) dJ5_isLatin1_aae02_13 (by decide) ?_
  refine cx_goto hC 18 dJ5_isLatin1_aae02_14 (by decide) ?_
  exact cy_cret hC (⟨rfl, rfl⟩) rfl (rfl) dJ5_isLatin1_aae02_18
theorem dJ5_inflateIfNeededFor_a7421_0 : decode cJ5_inflateIfNeededFor_a7421 0 = .ok (.getstatic 18, 3) := by decide +kernel
theorem dJ5_inflateIfNeededFor_a7421_3 : decode cJ5_inflateIfNeededFor_a7421 3 = .ok (.ifCond .eq 18, 3) := by decide +kernel
theorem dJ5_inflateIfNeededFor_a7421_6 : decode cJ5_inflateIfNeededFor_a7421 6 = .ok (.aload_n 0, 1) := by decide +kernel
theorem dJ5_inflateIfNeededFor_a7421_7 : decode cJ5_inflateIfNeededFor_a7421 7 = .ok (.getfield 22, 3) := by decide +kernel
theorem dJ5_inflateIfNeededFor_a7421_10 : decode cJ5_inflateIfNeededFor_a7421 10 = .ok (.aload_n 1, 1) := by decide +kernel
theorem dJ5_inflateIfNeededFor_a7421_11 : decode cJ5_inflateIfNeededFor_a7421 11 = .ok (.invokevirtual 40, 3) := by decide +kernel
theorem dJ5_inflateIfNeededFor_a7421_14 : decode cJ5_inflateIfNeededFor_a7421 14 = .ok (.if_icmp .eq 7, 3) := by decide +kernel
theorem dJ5_inflateIfNeededFor_a7421_21 : decode cJ5_inflateIfNeededFor_a7421 21 = .ok (.return_, 1) := by decide +kernel
theorem j_infl (l : Launch) (D : DG) (F : EF) {b v0 cnt : Nat} {a v : Nat} {L : List Int32} (hm : (a, v, L) ∈ F.1) : Yo l yJ5_inflateIfNeededFor_a7421 (WS yJ5_inflateIfNeededFor_a7421 cJ5_inflateIfNeededFor_a7421 2 none) (RM 2 0 0 20) 0 0 [.ref b, .ref a] D F [(b, .inr (5, [.ref v0, .int 0, .int 0, .int (nI (cnt))]))] (fun o w => o = none ∧ w = [(b, .inr (5, [.ref v0, .int 0, .int 0, .int (nI (cnt))]))]) := by
  refine Yo.of (cc := cJ5_inflateIfNeededFor_a7421) (maxL := 2) (ret := none) (by decide) (Nat.le_of_ble_eq_true rfl) ?_
  intro p e s m args below meth c hC hE hmn
  show XC p l e (RM 2 0 0 20) s m args below meth c D _ 2 _ 0 0 [(b, .inr (5, [.ref v0, .int 0, .int 0, .int (nI (cnt))]))] 0 [(0, .ref b), (1, .ref a)] []
  refine cx_gets hC hE.1 (tb_22 (List.mem_of_getElem? (i := 18) rfl) : Cond.fieldLink RJ5 18 "java/lang/String" "COMPACT_STRINGS" "Z" ∈ TBL) dJ5_inflateIfNeededFor_a7421_0 ?_
  refine cx_if_eq hC 21 dJ5_inflateIfNeededFor_a7421_3 (by decide) (fun h => absurd h (by decide)) (fun _ => ?_)
  refine cx_aload_n hC dJ5_inflateIfNeededFor_a7421_6 rfl 0 rfl ?_
  refine cx_getA hC 0 1 (C := RJ4) (T := TJ4) (N := 4) (v := .int 0) fw_5 rfl rfl (Nat.le_of_ble_eq_true rfl) (tb_22 (List.mem_of_getElem? (i := 27) rfl) : Cond.fieldLink RJ5 22 "java/lang/AbstractStringBuilder" "coder" "B" ∈ TBL) rfl dJ5_inflateIfNeededFor_a7421_7 ?_
  refine cx_aload_n hC dJ5_inflateIfNeededFor_a7421_10 rfl 1 rfl ?_
  refine cy_callV hC (E := RJ0) (y := yJ0_coder_7d493) (cy := cJ0_coder_7d493) (maxL := 1) (nA := 0) (r := (some .byte)) (rm := (RM 1 0 0 0)) (mc := 0) (ms := 0) (As := []) (wr := [(b, .inr (5, [.ref v0, .int 0, .int 0, .int (nI (cnt))]))]) (j_coder l D F hm) [] [0] rfl rfl rfl rfl (by decide) (rc_str hE hm) (ef_sub hC hE [] rfl) kc_yJ0_coder_7d493 km_J5_40 ki_yJ0_coder_7d493 kv_yJ0_coder_7d493 kn_RJ0 ky_yJ0_coder_7d493 rfl ⟨rfl, rfl⟩ ⟨Nat.le_of_ble_eq_true rfl, Nat.le_of_ble_eq_true rfl⟩ rfl (Nat.le_of_ble_eq_true rfl) ⟨Nat.le_of_ble_eq_true rfl, Nat.le_of_ble_eq_true rfl⟩ dJ5_inflateIfNeededFor_a7421_11 (fun o w1 h => ?_)
  obtain ⟨rfl, rfl⟩ := h
  refine cx_at (ws' := [(b, .inr (5, [.ref v0, .int 0, .int 0, .int (nI (cnt))]))]) (st' := [.int 0, .int 0]) rfl rfl ?_
  refine cx_icmp_eq hC 21 dJ5_inflateIfNeededFor_a7421_14 (by decide) (fun _ => ?_) (fun h => absurd (rfl) h)
  exact cy_vret hC (⟨rfl, rfl⟩) rfl dJ5_inflateIfNeededFor_a7421_21
theorem dJ8_newLength_cabcc_0 : decode cJ8_newLength_cabcc 0 = .ok (.iload_n 0, 1) := by decide +kernel
theorem dJ8_newLength_cabcc_1 : decode cJ8_newLength_cabcc 1 = .ok (.iload_n 1, 1) := by decide +kernel
theorem dJ8_newLength_cabcc_2 : decode cJ8_newLength_cabcc 2 = .ok (.iload_n 2, 1) := by decide +kernel
theorem dJ8_newLength_cabcc_3 : decode cJ8_newLength_cabcc 3 = .ok (.invokestatic 194, 3) := by decide +kernel
theorem dJ8_newLength_cabcc_6 : decode cJ8_newLength_cabcc 6 = .ok (.iadd, 1) := by decide +kernel
theorem dJ8_newLength_cabcc_7 : decode cJ8_newLength_cabcc 7 = .ok (.istore_n 3, 1) := by decide +kernel
theorem dJ8_newLength_cabcc_8 : decode cJ8_newLength_cabcc 8 = .ok (.iconst 0, 1) := by decide +kernel
theorem dJ8_newLength_cabcc_9 : decode cJ8_newLength_cabcc 9 = .ok (.iload_n 3, 1) := by decide +kernel
theorem dJ8_newLength_cabcc_10 : decode cJ8_newLength_cabcc 10 = .ok (.if_icmp .ge 11, 3) := by decide +kernel
theorem dJ8_newLength_cabcc_13 : decode cJ8_newLength_cabcc 13 = .ok (.iload_n 3, 1) := by decide +kernel
theorem dJ8_newLength_cabcc_14 : decode cJ8_newLength_cabcc 14 = .ok (.ldc 200, 2) := by decide +kernel
theorem dJ8_newLength_cabcc_16 : decode cJ8_newLength_cabcc 16 = .ok (.if_icmp .gt 5, 3) := by decide +kernel
theorem dJ8_newLength_cabcc_19 : decode cJ8_newLength_cabcc 19 = .ok (.iload_n 3, 1) := by decide +kernel
theorem dJ8_newLength_cabcc_20 : decode cJ8_newLength_cabcc 20 = .ok (.ireturn, 1) := by decide +kernel
theorem j_newL (l : Launch) (D : DG) (F : EF) {c0 g q gw : Nat} (hw : (if g < q then q else g) = gw) (h0 : 0 < c0 + gw) (hs : c0 + g + q + gw < 2147483639) : Yo l yJ8_newLength_cabcc (WS yJ8_newLength_cabcc cJ8_newLength_cabcc 4 (some .int)) (RM 1 0 0 14) 0 0 [.int (nI c0), .int (nI g), .int (nI q)] D F [] (fun o w => o = some (.int (nI (c0 + gw))) ∧ w = []) := by
  have h1 : ¬ nI (c0 + gw) ≤ 0 := fun h => by have := i_le.mp h; rw [i_nI (by omega)] at this; have z : (0 : Int32).toInt = 0 := rfl; omega
  have h2 : ¬ (2147483639 : Int32) < nI (c0 + gw) := fun h => by have := i_lt.mp h; rw [i_nI (by omega)] at this; have z : (2147483639 : Int32).toInt = 2147483639 := rfl; omega
  refine Yo.of (cc := cJ8_newLength_cabcc) (maxL := 4) (ret := (some .int)) (by decide) (Nat.le_of_ble_eq_true rfl) ?_
  intro p e s m args below meth c hC hE hmn
  show XC p l e (RM 1 0 0 14) s m args below meth c D _ 4 _ 0 0 [] 0 [(0, .int (nI c0)), (1, .int (nI g)), (2, .int (nI q))] []
  refine cx_iload_n hC dJ8_newLength_cabcc_0 rfl 0 rfl ?_
  refine cx_iload_n hC dJ8_newLength_cabcc_1 rfl 1 rfl ?_
  refine cx_iload_n hC dJ8_newLength_cabcc_2 rfl 2 rfl ?_
  refine cx_mmax hC km_J8_194 kt_Mmax kn_Math kc_Mmax (Nat.le_of_ble_eq_true rfl) (Nat.le_of_ble_eq_true rfl) ⟨Nat.le_of_ble_eq_true rfl, Nat.le_of_ble_eq_true rfl⟩ dJ8_newLength_cabcc_3 ?_
  refine cx_topi (y := (nI gw)) (by rw [imax_n (by omega) (by omega), hw]) ?_
  refine cx_iadd hC dJ8_newLength_cabcc_6 ?_
  refine cx_topi (y := (nI (c0 + gw))) ((n_add _ _).symm) ?_
  refine cx_istore_n hC [(3, .int (nI (c0 + gw))), (0, .int (nI c0)), (1, .int (nI g)), (2, .int (nI q))] dJ8_newLength_cabcc_7 rfl (Nat.le_of_ble_eq_true rfl) rfl ?_
  refine cx_iconst hC (0 : Int32) dJ8_newLength_cabcc_8 (by decide) ?_
  refine cx_iload_n hC dJ8_newLength_cabcc_9 rfl 0 rfl ?_
  refine cx_icmp_ge hC 21 dJ8_newLength_cabcc_10 (by decide) (fun h => absurd h (h1)) (fun _ => ?_)
  refine cx_iload_n hC dJ8_newLength_cabcc_13 rfl 0 rfl ?_
  refine cx_ldc hC (2147483639 : Int32) kx_J8_200 dJ8_newLength_cabcc_14 ?_
  refine cx_icmp_gt hC 21 dJ8_newLength_cabcc_16 (by decide) (fun h => absurd h (h2)) (fun _ => ?_)
  refine cx_iload_n hC dJ8_newLength_cabcc_19 rfl 0 rfl ?_
  exact cy_iret hC (⟨rfl, rfl⟩) rfl dJ8_newLength_cabcc_20
theorem dJ5_newCapacity_0f7a4_0 : decode cJ5_newCapacity_0f7a4 0 = .ok (.aload_n 0, 1) := by decide +kernel
theorem dJ5_newCapacity_0f7a4_1 : decode cJ5_newCapacity_0f7a4 1 = .ok (.getfield 15, 3) := by decide +kernel
theorem dJ5_newCapacity_0f7a4_4 : decode cJ5_newCapacity_0f7a4 4 = .ok (.arraylength, 1) := by decide +kernel
theorem dJ5_newCapacity_0f7a4_5 : decode cJ5_newCapacity_0f7a4 5 = .ok (.istore_n 2, 1) := by decide +kernel
theorem dJ5_newCapacity_0f7a4_6 : decode cJ5_newCapacity_0f7a4 6 = .ok (.iload_n 1, 1) := by decide +kernel
theorem dJ5_newCapacity_0f7a4_7 : decode cJ5_newCapacity_0f7a4 7 = .ok (.aload_n 0, 1) := by decide +kernel
theorem dJ5_newCapacity_0f7a4_8 : decode cJ5_newCapacity_0f7a4 8 = .ok (.getfield 22, 3) := by decide +kernel
theorem dJ5_newCapacity_0f7a4_11 : decode cJ5_newCapacity_0f7a4 11 = .ok (.ishl, 1) := by decide +kernel
theorem dJ5_newCapacity_0f7a4_12 : decode cJ5_newCapacity_0f7a4 12 = .ok (.istore_n 3, 1) := by decide +kernel
theorem dJ5_newCapacity_0f7a4_13 : decode cJ5_newCapacity_0f7a4 13 = .ok (.iload_n 3, 1) := by decide +kernel
theorem dJ5_newCapacity_0f7a4_14 : decode cJ5_newCapacity_0f7a4 14 = .ok (.iload_n 2, 1) := by decide +kernel
theorem dJ5_newCapacity_0f7a4_15 : decode cJ5_newCapacity_0f7a4 15 = .ok (.isub, 1) := by decide +kernel
theorem dJ5_newCapacity_0f7a4_16 : decode cJ5_newCapacity_0f7a4 16 = .ok (.istore 4, 2) := by decide +kernel
theorem dJ5_newCapacity_0f7a4_18 : decode cJ5_newCapacity_0f7a4 18 = .ok (.iload_n 2, 1) := by decide +kernel
theorem dJ5_newCapacity_0f7a4_19 : decode cJ5_newCapacity_0f7a4 19 = .ok (.iload 4, 2) := by decide +kernel
theorem dJ5_newCapacity_0f7a4_21 : decode cJ5_newCapacity_0f7a4 21 = .ok (.iload_n 2, 1) := by decide +kernel
theorem dJ5_newCapacity_0f7a4_22 : decode cJ5_newCapacity_0f7a4 22 = .ok (.iconst 2, 1) := by decide +kernel
theorem dJ5_newCapacity_0f7a4_23 : decode cJ5_newCapacity_0f7a4 23 = .ok (.aload_n 0, 1) := by decide +kernel
theorem dJ5_newCapacity_0f7a4_24 : decode cJ5_newCapacity_0f7a4 24 = .ok (.getfield 22, 3) := by decide +kernel
theorem dJ5_newCapacity_0f7a4_27 : decode cJ5_newCapacity_0f7a4 27 = .ok (.ishl, 1) := by decide +kernel
theorem dJ5_newCapacity_0f7a4_28 : decode cJ5_newCapacity_0f7a4 28 = .ok (.iadd, 1) := by decide +kernel
theorem dJ5_newCapacity_0f7a4_29 : decode cJ5_newCapacity_0f7a4 29 = .ok (.invokestatic 114, 3) := by decide +kernel
theorem dJ5_newCapacity_0f7a4_32 : decode cJ5_newCapacity_0f7a4 32 = .ok (.istore 5, 2) := by decide +kernel
theorem dJ5_newCapacity_0f7a4_34 : decode cJ5_newCapacity_0f7a4 34 = .ok (.iload 5, 2) := by decide +kernel
theorem dJ5_newCapacity_0f7a4_36 : decode cJ5_newCapacity_0f7a4 36 = .ok (.ldc 39, 2) := by decide +kernel
theorem dJ5_newCapacity_0f7a4_38 : decode cJ5_newCapacity_0f7a4 38 = .ok (.if_icmp .ne 13, 3) := by decide +kernel
theorem dJ5_newCapacity_0f7a4_51 : decode cJ5_newCapacity_0f7a4 51 = .ok (.iload 5, 2) := by decide +kernel
theorem dJ5_newCapacity_0f7a4_53 : decode cJ5_newCapacity_0f7a4 53 = .ok (.aload_n 0, 1) := by decide +kernel
theorem dJ5_newCapacity_0f7a4_54 : decode cJ5_newCapacity_0f7a4 54 = .ok (.getfield 22, 3) := by decide +kernel
theorem dJ5_newCapacity_0f7a4_57 : decode cJ5_newCapacity_0f7a4 57 = .ok (.ishr, 1) := by decide +kernel
theorem dJ5_newCapacity_0f7a4_58 : decode cJ5_newCapacity_0f7a4 58 = .ok (.ireturn, 1) := by decide +kernel
theorem j_newC (l : Launch) (D : DG) (F : EF) {b v cap cnt mn gw : Nat} {f : Nat → Int32} (hw : (if mn - cap < cap + 2 then cap + 2 else mn - cap) = gw) (h1 : cap < mn) (h2 : mn ≤ 300) : Yo l yJ5_newCapacity_0f7a4 (WS yJ5_newCapacity_0f7a4 cJ5_newCapacity_0f7a4 6 (some .int)) (RM 2 0 0 37) 0 0 [.ref b, .int (nI mn)] D F [(b, .inr (5, [.ref v, .int 0, .int 0, .int (nI (cnt))])), (v, .inl (D.2 1, cap, .inl (f)))] (fun o w => o = some (.int (nI (cap + gw))) ∧ w = [(b, .inr (5, [.ref v, .int 0, .int 0, .int (nI (cnt))])), (v, .inl (D.2 1, cap, .inl (f)))]) := by
  have hw2 : gw ≤ 302 := by rw [← hw]; split <;> omega
  have hw3 : 0 < gw := by rw [← hw]; split <;> omega
  have h3 : ¬ nI (cap + gw) = 2147483647 := fun h => by have := i_eq.mp h; rw [i_nI (by omega)] at this; have z : (2147483647 : Int32).toInt = 2147483647 := rfl; omega
  refine Yo.of (cc := cJ5_newCapacity_0f7a4) (maxL := 6) (ret := (some .int)) (by decide) (Nat.le_of_ble_eq_true rfl) ?_
  intro p e s m args below meth c hC hE hmn
  show XC p l e (RM 2 0 0 37) s m args below meth c D _ 6 _ 0 0 [(b, .inr (5, [.ref v, .int 0, .int 0, .int (nI (cnt))])), (v, .inl (D.2 1, cap, .inl (f)))] 0 [(0, .ref b), (1, .int (nI mn))] []
  refine cx_aload_n hC dJ5_newCapacity_0f7a4_0 rfl 0 rfl ?_
  refine cx_getA hC 0 0 (C := RJ4) (T := TJ4) (N := 4) (v := .ref v) fw_5 rfl rfl (Nat.le_of_ble_eq_true rfl) (tb_22 (List.mem_of_getElem? (i := 26) rfl) : Cond.fieldLink RJ5 15 "java/lang/AbstractStringBuilder" "value" "[B" ∈ TBL) rfl dJ5_newCapacity_0f7a4_1 ?_
  refine cx_alenC hC 1 1 (nI (cap)) rfl rfl rfl dJ5_newCapacity_0f7a4_4 ?_
  refine cx_istore_n hC [(2, .int (nI (cap))), (0, .ref b), (1, .int (nI mn))] dJ5_newCapacity_0f7a4_5 rfl (Nat.le_of_ble_eq_true rfl) rfl ?_
  refine cx_iload_n hC dJ5_newCapacity_0f7a4_6 rfl 2 rfl ?_
  refine cx_aload_n hC dJ5_newCapacity_0f7a4_7 rfl 1 rfl ?_
  refine cx_getA hC 0 1 (C := RJ4) (T := TJ4) (N := 4) (v := .int 0) fw_5 rfl rfl (Nat.le_of_ble_eq_true rfl) (tb_22 (List.mem_of_getElem? (i := 27) rfl) : Cond.fieldLink RJ5 22 "java/lang/AbstractStringBuilder" "coder" "B" ∈ TBL) rfl dJ5_newCapacity_0f7a4_8 ?_
  refine cx_ishl hC dJ5_newCapacity_0f7a4_11 ?_
  refine cx_topi (y := (nI mn)) ((shl_0 _).symm) ?_
  refine cx_istore_n hC [(3, .int (nI mn)), (2, .int (nI (cap))), (0, .ref b), (1, .int (nI mn))] dJ5_newCapacity_0f7a4_12 rfl (Nat.le_of_ble_eq_true rfl) rfl ?_
  refine cx_iload_n hC dJ5_newCapacity_0f7a4_13 rfl 0 rfl ?_
  refine cx_iload_n hC dJ5_newCapacity_0f7a4_14 rfl 1 rfl ?_
  refine cx_isub hC dJ5_newCapacity_0f7a4_15 ?_
  refine cx_topi (y := (nI (mn - cap))) ((n_sub (by omega) (by omega)).symm) ?_
  refine cx_istore hC [(4, .int (nI (mn - cap))), (3, .int (nI mn)), (2, .int (nI (cap))), (0, .ref b), (1, .int (nI mn))] dJ5_newCapacity_0f7a4_16 (Nat.le_of_ble_eq_true rfl) rfl ?_
  refine cx_iload_n hC dJ5_newCapacity_0f7a4_18 rfl 2 rfl ?_
  refine cx_iload hC dJ5_newCapacity_0f7a4_19 0 rfl ?_
  refine cx_iload_n hC dJ5_newCapacity_0f7a4_21 rfl 2 rfl ?_
  refine cx_iconst hC (2 : Int32) dJ5_newCapacity_0f7a4_22 (by decide) ?_
  refine cx_aload_n hC dJ5_newCapacity_0f7a4_23 rfl 3 rfl ?_
  refine cx_getA hC 0 1 (C := RJ4) (T := TJ4) (N := 4) (v := .int 0) fw_5 rfl rfl (Nat.le_of_ble_eq_true rfl) (tb_22 (List.mem_of_getElem? (i := 27) rfl) : Cond.fieldLink RJ5 22 "java/lang/AbstractStringBuilder" "coder" "B" ∈ TBL) rfl dJ5_newCapacity_0f7a4_24 ?_
  refine cx_ishl hC dJ5_newCapacity_0f7a4_27 ?_
  refine cx_topi (y := (2 : Int32)) ((shl_0 _).symm) ?_
  refine cx_iadd hC dJ5_newCapacity_0f7a4_28 ?_
  refine cx_topi (y := (nI (cap + 2))) ((n_add cap 2).symm) ?_
  refine cy_callS hC (y := yJ8_newLength_cabcc) (cy := cJ8_newLength_cabcc) (maxL := 4) (nA := 3) (r := (some .int)) (rm := (RM 1 0 0 14)) (mc := 0) (ms := 0) (As := [.int (nI (cap)), .int (nI (mn - cap)), .int (nI (cap + 2))]) (wr := [(b, .inr (5, [.ref v, .int 0, .int 0, .int (nI (cnt))])), (v, .inl (D.2 1, cap, .inl (f)))]) (j_newL l D F (c0 := cap) (g := mn - cap) (q := cap + 2) (gw := gw) hw (by omega) (by omega)) [] [0, 1] rfl rfl rfl rfl (by decide) (ef_sub hC hE [] rfl) kc_yJ8_newLength_cabcc km_J5_114 kt_yJ8_newLength_cabcc kn_RJ8 ky_yJ8_newLength_cabcc rfl ⟨rfl, rfl⟩ ⟨Nat.le_of_ble_eq_true rfl, Nat.le_of_ble_eq_true rfl⟩ rfl (Nat.le_of_ble_eq_true rfl) ⟨Nat.le_of_ble_eq_true rfl, Nat.le_of_ble_eq_true rfl⟩ dJ5_newCapacity_0f7a4_29 (fun o w1 h => ?_)
  obtain ⟨rfl, rfl⟩ := h
  refine cx_at (ws' := [(b, .inr (5, [.ref v, .int 0, .int 0, .int (nI (cnt))])), (v, .inl (D.2 1, cap, .inl (f)))]) (st' := [.int (nI (cap + gw))]) rfl rfl ?_
  refine cx_istore hC [(5, .int (nI (cap + gw))), (4, .int (nI (mn - cap))), (3, .int (nI mn)), (2, .int (nI (cap))), (0, .ref b), (1, .int (nI mn))] dJ5_newCapacity_0f7a4_32 (Nat.le_of_ble_eq_true rfl) rfl ?_
  refine cx_iload hC dJ5_newCapacity_0f7a4_34 0 rfl ?_
  refine cx_ldc hC (2147483647 : Int32) kx_J5_39 dJ5_newCapacity_0f7a4_36 ?_
  refine cx_icmp_ne hC 51 dJ5_newCapacity_0f7a4_38 (by decide) (fun _ => ?_) (fun h => absurd h (h3))
  refine cx_iload hC dJ5_newCapacity_0f7a4_51 0 rfl ?_
  refine cx_aload_n hC dJ5_newCapacity_0f7a4_53 rfl 4 rfl ?_
  refine cx_getA hC 0 1 (C := RJ4) (T := TJ4) (N := 4) (v := .int 0) fw_5 rfl rfl (Nat.le_of_ble_eq_true rfl) (tb_22 (List.mem_of_getElem? (i := 27) rfl) : Cond.fieldLink RJ5 22 "java/lang/AbstractStringBuilder" "coder" "B" ∈ TBL) rfl dJ5_newCapacity_0f7a4_54 ?_
  refine cx_ishr hC dJ5_newCapacity_0f7a4_57 ?_
  refine cx_topi (y := (nI (cap + gw))) ((shr_0 _).symm) ?_
  exact cy_iret hC (⟨rfl, rfl⟩) rfl dJ5_newCapacity_0f7a4_58
theorem dJ7_checkLength_df160_0 : decode cJ7_checkLength_df160 0 = .ok (.iload_n 1, 1) := by decide +kernel
theorem dJ7_checkLength_df160_1 : decode cJ7_checkLength_df160 1 = .ok (.iload_n 0, 1) := by decide +kernel
theorem dJ7_checkLength_df160_2 : decode cJ7_checkLength_df160 2 = .ok (.if_icmp .ge 35, 3) := by decide +kernel
theorem dJ7_checkLength_df160_37 : decode cJ7_checkLength_df160 37 = .ok (.return_, 1) := by decide +kernel
theorem j_ckL (l : Launch) (D : DG) (F : EF) {i n : Nat} (hin : i ≤ n) (hn : n < 2147483648) : Yo l yJ7_checkLength_df160 (WS yJ7_checkLength_df160 cJ7_checkLength_df160 2 none) (RM 1 0 0 0) 0 0 [.int (nI i), .int (nI n)] D F [] (fun o w => o = none ∧ w = []) := by
  refine Yo.of (cc := cJ7_checkLength_df160) (maxL := 2) (ret := none) (by decide) (Nat.le_of_ble_eq_true rfl) ?_
  intro p e s m args below meth c hC hE hmn
  show XC p l e (RM 1 0 0 0) s m args below meth c D _ 2 _ 0 0 [] 0 [(0, .int (nI i)), (1, .int (nI n))] []
  refine cx_iload_n hC dJ7_checkLength_df160_0 rfl 1 rfl ?_
  refine cx_iload_n hC dJ7_checkLength_df160_1 rfl 0 rfl ?_
  refine cx_icmp_ge hC 37 dJ7_checkLength_df160_2 (by decide) (fun _ => ?_) (fun h => absurd ((n_le (by omega) (by omega)).mpr hin) h)
  exact cy_vret hC (⟨rfl, rfl⟩) rfl dJ7_checkLength_df160_37
theorem dJ7_copyOf_9075b_0 : decode cJ7_copyOf_9075b 0 = .ok (.iload_n 1, 1) := by decide +kernel
theorem dJ7_copyOf_9075b_1 : decode cJ7_copyOf_9075b 1 = .ok (.aload_n 0, 1) := by decide +kernel
theorem dJ7_copyOf_9075b_2 : decode cJ7_copyOf_9075b 2 = .ok (.arraylength, 1) := by decide +kernel
theorem dJ7_copyOf_9075b_3 : decode cJ7_copyOf_9075b 3 = .ok (.if_icmp .ne 11, 3) := by decide +kernel
theorem dJ7_copyOf_9075b_14 : decode cJ7_copyOf_9075b 14 = .ok (.iload_n 1, 1) := by decide +kernel
theorem dJ7_copyOf_9075b_15 : decode cJ7_copyOf_9075b 15 = .ok (.newarray .byte, 2) := by decide +kernel
theorem dJ7_copyOf_9075b_17 : decode cJ7_copyOf_9075b 17 = .ok (.astore_n 2, 1) := by decide +kernel
theorem dJ7_copyOf_9075b_18 : decode cJ7_copyOf_9075b 18 = .ok (.aload_n 0, 1) := by decide +kernel
theorem dJ7_copyOf_9075b_19 : decode cJ7_copyOf_9075b 19 = .ok (.iconst 0, 1) := by decide +kernel
theorem dJ7_copyOf_9075b_20 : decode cJ7_copyOf_9075b 20 = .ok (.aload_n 2, 1) := by decide +kernel
theorem dJ7_copyOf_9075b_21 : decode cJ7_copyOf_9075b 21 = .ok (.iconst 0, 1) := by decide +kernel
theorem dJ7_copyOf_9075b_22 : decode cJ7_copyOf_9075b 22 = .ok (.aload_n 0, 1) := by decide +kernel
theorem dJ7_copyOf_9075b_23 : decode cJ7_copyOf_9075b 23 = .ok (.arraylength, 1) := by decide +kernel
theorem dJ7_copyOf_9075b_24 : decode cJ7_copyOf_9075b 24 = .ok (.iload_n 1, 1) := by decide +kernel
theorem dJ7_copyOf_9075b_25 : decode cJ7_copyOf_9075b 25 = .ok (.invokestatic 304, 3) := by decide +kernel
theorem dJ7_copyOf_9075b_28 : decode cJ7_copyOf_9075b 28 = .ok (.invokestatic 150, 3) := by decide +kernel
theorem dJ7_copyOf_9075b_31 : decode cJ7_copyOf_9075b 31 = .ok (.aload_n 2, 1) := by decide +kernel
theorem dJ7_copyOf_9075b_32 : decode cJ7_copyOf_9075b 32 = .ok (.areturn, 1) := by decide +kernel
theorem j_cpO (l : Launch) (D : DG) (F : EF) {v cap N : Nat} {f : Nat → Int32} (h1 : cap < N) (h2 : N ≤ 600) (hf : ∀ k, b7 (f k)) : Yo l yJ7_copyOf_9075b (WS yJ7_copyOf_9075b cJ7_copyOf_9075b 3 (some (.array .byte))) (RM 1 1 600 40) 1 600 [.ref v, .int (nI N)] D F [(v, .inl (D.2 1, cap, .inl (f)))] (fun o w => ∃ q, o = some (.ref q) ∧ w = [(v, .inl (D.2 1, cap, .inl (f))), (q, .inl (D.2 1, N, .inl (va_cpy (f) (fun _ => 0) 0 0 (cap))))]) := by
  refine Yo.of (cc := cJ7_copyOf_9075b) (maxL := 3) (ret := (some (.array .byte))) (by decide) (Nat.le_of_ble_eq_true rfl) ?_
  intro p e s m args below meth c hC hE hmn
  show XC p l e (RM 1 1 600 40) s m args below meth c D _ 3 _ 0 0 [(v, .inl (D.2 1, cap, .inl (f)))] 0 [(0, .ref v), (1, .int (nI N))] []
  refine cx_iload_n hC dJ7_copyOf_9075b_0 rfl 1 rfl ?_
  refine cx_aload_n hC dJ7_copyOf_9075b_1 rfl 0 rfl ?_
  refine cx_alenC hC 0 1 (nI (cap)) rfl rfl rfl dJ7_copyOf_9075b_2 ?_
  refine cx_icmp_ne hC 14 dJ7_copyOf_9075b_3 (by decide) (fun _ => ?_) (fun h => absurd h (fun h => by have := (n_inj (by omega) (by omega)).mp h; omega))
  refine cx_iload_n hC dJ7_copyOf_9075b_14 rfl 1 rfl ?_
  refine cx_newbN hC (N := N) (rfl) (by omega) ⟨Nat.le_of_ble_eq_true rfl, by show 0 + (N) ≤ 600; omega⟩ (tb_9 (List.mem_of_getElem? (i := 13) rfl)) dJ7_copyOf_9075b_15 (fun q1 => ?_)
  refine cx_widen (k' := 1) (n' := 600) (Nat.le_of_ble_eq_true rfl) (by show 0 + (N) ≤ 600; omega) ?_
  refine cx_at (ws' := [(v, .inl (D.2 1, cap, .inl (f))), (q1, .inl (D.2 1, N, .inl (fun _ => 0)))]) (st' := [.ref q1]) rfl rfl ?_
  refine cx_astore_n hC [(2, .ref q1), (0, .ref v), (1, .int (nI N))] dJ7_copyOf_9075b_17 rfl (Nat.le_of_ble_eq_true rfl) rfl ?_
  refine cx_aload_n hC dJ7_copyOf_9075b_18 rfl 1 rfl ?_
  refine cx_iconst hC (0 : Int32) dJ7_copyOf_9075b_19 (by decide) ?_
  refine cx_aload_n hC dJ7_copyOf_9075b_20 rfl 0 rfl ?_
  refine cx_iconst hC (0 : Int32) dJ7_copyOf_9075b_21 (by decide) ?_
  refine cx_aload_n hC dJ7_copyOf_9075b_22 rfl 1 rfl ?_
  refine cx_alenC hC 0 1 (nI (cap)) rfl rfl rfl dJ7_copyOf_9075b_23 ?_
  refine cx_iload_n hC dJ7_copyOf_9075b_24 rfl 2 rfl ?_
  refine cx_mmin hC km_J7_304 kt_Mmin kn_Math kc_Mmin (Nat.le_of_ble_eq_true rfl) (Nat.le_of_ble_eq_true rfl) ⟨Nat.le_of_ble_eq_true rfl, Nat.le_of_ble_eq_true rfl⟩ dJ7_copyOf_9075b_25 ?_
  refine cx_topi (y := (nI cap)) (by rw [imin_n (by omega) (by omega), if_neg (by omega)]) ?_
  refine cx_copyb hC 0 1 (N := cap) [(v, .inl (D.2 1, cap, .inl (f))), (q1, .inl (D.2 1, N, .inl (va_cpy (f) (fun _ => 0) 0 0 (cap))))] km_J7_150 rfl rfl (rfl) (Nat.le_refl _) (by omega) (by omega) (fun i hi => ft7 (hf i)) rfl (Nat.le_of_ble_eq_true rfl) (Nat.le_of_ble_eq_true rfl) dJ7_copyOf_9075b_28 ?_
  refine cx_aload_n hC dJ7_copyOf_9075b_31 rfl 0 rfl ?_
  exact cy_aret hC (⟨q1, rfl, rfl⟩) rfl (Or.inr ⟨_, rfl⟩) dJ7_copyOf_9075b_32
theorem dJ5_ensureCapacityInternal_d00df_0 : decode cJ5_ensureCapacityInternal_d00df 0 = .ok (.aload_n 0, 1) := by decide +kernel
theorem dJ5_ensureCapacityInternal_d00df_1 : decode cJ5_ensureCapacityInternal_d00df 1 = .ok (.getfield 15, 3) := by decide +kernel
theorem dJ5_ensureCapacityInternal_d00df_4 : decode cJ5_ensureCapacityInternal_d00df 4 = .ok (.arraylength, 1) := by decide +kernel
theorem dJ5_ensureCapacityInternal_d00df_5 : decode cJ5_ensureCapacityInternal_d00df 5 = .ok (.aload_n 0, 1) := by decide +kernel
theorem dJ5_ensureCapacityInternal_d00df_6 : decode cJ5_ensureCapacityInternal_d00df 6 = .ok (.getfield 22, 3) := by decide +kernel
theorem dJ5_ensureCapacityInternal_d00df_9 : decode cJ5_ensureCapacityInternal_d00df 9 = .ok (.ishr, 1) := by decide +kernel
theorem dJ5_ensureCapacityInternal_d00df_10 : decode cJ5_ensureCapacityInternal_d00df 10 = .ok (.istore_n 2, 1) := by decide +kernel
theorem dJ5_ensureCapacityInternal_d00df_11 : decode cJ5_ensureCapacityInternal_d00df 11 = .ok (.iload_n 1, 1) := by decide +kernel
theorem dJ5_ensureCapacityInternal_d00df_12 : decode cJ5_ensureCapacityInternal_d00df 12 = .ok (.iload_n 2, 1) := by decide +kernel
theorem dJ5_ensureCapacityInternal_d00df_13 : decode cJ5_ensureCapacityInternal_d00df 13 = .ok (.isub, 1) := by decide +kernel
theorem dJ5_ensureCapacityInternal_d00df_14 : decode cJ5_ensureCapacityInternal_d00df 14 = .ok (.ifCond .le 24, 3) := by decide +kernel
theorem dJ5_ensureCapacityInternal_d00df_38 : decode cJ5_ensureCapacityInternal_d00df 38 = .ok (.return_, 1) := by decide +kernel
theorem dJ5_ensureCapacityInternal_d00df_17 : decode cJ5_ensureCapacityInternal_d00df 17 = .ok (.aload_n 0, 1) := by decide +kernel
theorem dJ5_ensureCapacityInternal_d00df_18 : decode cJ5_ensureCapacityInternal_d00df 18 = .ok (.aload_n 0, 1) := by decide +kernel
theorem dJ5_ensureCapacityInternal_d00df_19 : decode cJ5_ensureCapacityInternal_d00df 19 = .ok (.getfield 15, 3) := by decide +kernel
theorem dJ5_ensureCapacityInternal_d00df_22 : decode cJ5_ensureCapacityInternal_d00df 22 = .ok (.aload_n 0, 1) := by decide +kernel
theorem dJ5_ensureCapacityInternal_d00df_23 : decode cJ5_ensureCapacityInternal_d00df 23 = .ok (.iload_n 1, 1) := by decide +kernel
theorem dJ5_ensureCapacityInternal_d00df_24 : decode cJ5_ensureCapacityInternal_d00df 24 = .ok (.invokevirtual 104, 3) := by decide +kernel
theorem dJ5_ensureCapacityInternal_d00df_27 : decode cJ5_ensureCapacityInternal_d00df 27 = .ok (.aload_n 0, 1) := by decide +kernel
theorem dJ5_ensureCapacityInternal_d00df_28 : decode cJ5_ensureCapacityInternal_d00df 28 = .ok (.getfield 22, 3) := by decide +kernel
theorem dJ5_ensureCapacityInternal_d00df_31 : decode cJ5_ensureCapacityInternal_d00df 31 = .ok (.ishl, 1) := by decide +kernel
theorem dJ5_ensureCapacityInternal_d00df_32 : decode cJ5_ensureCapacityInternal_d00df 32 = .ok (.invokestatic 108, 3) := by decide +kernel
theorem dJ5_ensureCapacityInternal_d00df_35 : decode cJ5_ensureCapacityInternal_d00df 35 = .ok (.putfield 15, 3) := by decide +kernel
theorem j_ens (l : Launch) (D : DG) (F : EF) {b v cap mn : Nat} {f : Nat → Int32} {Ls : List Int32} (hI : SBI Ls cap f) (h2 : mn ≤ 300) : Yo l yJ5_ensureCapacityInternal_d00df (WS yJ5_ensureCapacityInternal_d00df cJ5_ensureCapacityInternal_d00df 3 none) (RM 3 1 600 62) 1 600 [.ref b, .int (nI mn)] D F [(b, .inr (5, [.ref v, .int 0, .int 0, .int (nI (Ls.length))])), (v, .inl (D.2 1, cap, .inl (f)))] (fun o w => o = none ∧ ∃ v' cap' f', w = [(b, .inr (5, [.ref v', .int 0, .int 0, .int (nI (Ls.length))])), (v', .inl (D.2 1, cap', .inl (f')))] ∧ SBI Ls cap' f' ∧ mn ≤ cap') := by
  refine Yo.of (cc := cJ5_ensureCapacityInternal_d00df) (maxL := 3) (ret := none) (by decide) (Nat.le_of_ble_eq_true rfl) ?_
  intro p e s m args below meth c hC hE hmn
  show XC p l e (RM 3 1 600 62) s m args below meth c D _ 3 _ 0 0 [(b, .inr (5, [.ref v, .int 0, .int 0, .int (nI (Ls.length))])), (v, .inl (D.2 1, cap, .inl (f)))] 0 [(0, .ref b), (1, .int (nI mn))] []
  by_cases hc : mn ≤ cap
  · have hcap := hI.2.1
    have h1 : nI mn - nI cap ≤ 0 := by rw [i_le, i_sub (by rw [i_nI (by omega), i_nI (by omega)]; omega) (by rw [i_nI (by omega), i_nI (by omega)]; omega), i_nI (by omega), i_nI (by omega)]; have z : (0 : Int32).toInt = 0 := rfl; omega
    refine cx_aload_n hC dJ5_ensureCapacityInternal_d00df_0 rfl 0 rfl ?_
    refine cx_getA hC 0 0 (C := RJ4) (T := TJ4) (N := 4) (v := .ref v) fw_5 rfl rfl (Nat.le_of_ble_eq_true rfl) (tb_22 (List.mem_of_getElem? (i := 26) rfl) : Cond.fieldLink RJ5 15 "java/lang/AbstractStringBuilder" "value" "[B" ∈ TBL) rfl dJ5_ensureCapacityInternal_d00df_1 ?_
    refine cx_alenC hC 1 1 (nI (cap)) rfl rfl rfl dJ5_ensureCapacityInternal_d00df_4 ?_
    refine cx_aload_n hC dJ5_ensureCapacityInternal_d00df_5 rfl 0 rfl ?_
    refine cx_getA hC 0 1 (C := RJ4) (T := TJ4) (N := 4) (v := .int 0) fw_5 rfl rfl (Nat.le_of_ble_eq_true rfl) (tb_22 (List.mem_of_getElem? (i := 27) rfl) : Cond.fieldLink RJ5 22 "java/lang/AbstractStringBuilder" "coder" "B" ∈ TBL) rfl dJ5_ensureCapacityInternal_d00df_6 ?_
    refine cx_ishr hC dJ5_ensureCapacityInternal_d00df_9 ?_
    refine cx_topi (y := (nI cap)) ((shr_0 _).symm) ?_
    refine cx_istore_n hC [(2, .int (nI cap)), (0, .ref b), (1, .int (nI mn))] dJ5_ensureCapacityInternal_d00df_10 rfl (Nat.le_of_ble_eq_true rfl) rfl ?_
    refine cx_iload_n hC dJ5_ensureCapacityInternal_d00df_11 rfl 2 rfl ?_
    refine cx_iload_n hC dJ5_ensureCapacityInternal_d00df_12 rfl 0 rfl ?_
    refine cx_isub hC dJ5_ensureCapacityInternal_d00df_13 ?_
    refine cx_if_le hC 38 dJ5_ensureCapacityInternal_d00df_14 (by decide) (fun _ => ?_) (fun h => absurd (h1) h)
    refine cx_widen (k' := 1) (n' := 600) (Nat.le_of_ble_eq_true rfl) (Nat.le_of_ble_eq_true rfl) ?_
    exact cy_vret hC (⟨rfl, v, cap, f, rfl, hI, hc⟩) rfl dJ5_ensureCapacityInternal_d00df_38
  · have hcap := hI.2.1
    have hc : cap < mn := by omega
    obtain ⟨w, hw⟩ : ∃ w, (if mn - cap < cap + 2 then cap + 2 else mn - cap) = w := ⟨_, rfl⟩
    have hw2 : cap + w ≤ 600 := by rw [← hw]; split <;> omega
    have hw3 : mn ≤ cap + w := by rw [← hw]; split <;> omega
    have h1 : ¬ nI mn - nI cap ≤ 0 := by rw [i_le, i_sub (by rw [i_nI (by omega), i_nI (by omega)]; omega) (by rw [i_nI (by omega), i_nI (by omega)]; omega), i_nI (by omega), i_nI (by omega)]; have z : (0 : Int32).toInt = 0 := rfl; omega
    refine cx_aload_n hC dJ5_ensureCapacityInternal_d00df_0 rfl 0 rfl ?_
    refine cx_getA hC 0 0 (C := RJ4) (T := TJ4) (N := 4) (v := .ref v) fw_5 rfl rfl (Nat.le_of_ble_eq_true rfl) (tb_22 (List.mem_of_getElem? (i := 26) rfl) : Cond.fieldLink RJ5 15 "java/lang/AbstractStringBuilder" "value" "[B" ∈ TBL) rfl dJ5_ensureCapacityInternal_d00df_1 ?_
    refine cx_alenC hC 1 1 (nI (cap)) rfl rfl rfl dJ5_ensureCapacityInternal_d00df_4 ?_
    refine cx_aload_n hC dJ5_ensureCapacityInternal_d00df_5 rfl 0 rfl ?_
    refine cx_getA hC 0 1 (C := RJ4) (T := TJ4) (N := 4) (v := .int 0) fw_5 rfl rfl (Nat.le_of_ble_eq_true rfl) (tb_22 (List.mem_of_getElem? (i := 27) rfl) : Cond.fieldLink RJ5 22 "java/lang/AbstractStringBuilder" "coder" "B" ∈ TBL) rfl dJ5_ensureCapacityInternal_d00df_6 ?_
    refine cx_ishr hC dJ5_ensureCapacityInternal_d00df_9 ?_
    refine cx_topi (y := (nI cap)) ((shr_0 _).symm) ?_
    refine cx_istore_n hC [(2, .int (nI cap)), (0, .ref b), (1, .int (nI mn))] dJ5_ensureCapacityInternal_d00df_10 rfl (Nat.le_of_ble_eq_true rfl) rfl ?_
    refine cx_iload_n hC dJ5_ensureCapacityInternal_d00df_11 rfl 2 rfl ?_
    refine cx_iload_n hC dJ5_ensureCapacityInternal_d00df_12 rfl 0 rfl ?_
    refine cx_isub hC dJ5_ensureCapacityInternal_d00df_13 ?_
    refine cx_if_le hC 38 dJ5_ensureCapacityInternal_d00df_14 (by decide) (fun h => absurd h (h1)) (fun _ => ?_)
    refine cx_aload_n hC dJ5_ensureCapacityInternal_d00df_17 rfl 1 rfl ?_
    refine cx_aload_n hC dJ5_ensureCapacityInternal_d00df_18 rfl 1 rfl ?_
    refine cx_getA hC 0 0 (C := RJ4) (T := TJ4) (N := 4) (v := .ref v) fw_5 rfl rfl (Nat.le_of_ble_eq_true rfl) (tb_22 (List.mem_of_getElem? (i := 26) rfl) : Cond.fieldLink RJ5 15 "java/lang/AbstractStringBuilder" "value" "[B" ∈ TBL) rfl dJ5_ensureCapacityInternal_d00df_19 ?_
    refine cx_aload_n hC dJ5_ensureCapacityInternal_d00df_22 rfl 1 rfl ?_
    refine cx_iload_n hC dJ5_ensureCapacityInternal_d00df_23 rfl 2 rfl ?_
    refine cy_callV hC (E := RJ4) (y := yJ5_newCapacity_0f7a4) (cy := cJ5_newCapacity_0f7a4) (maxL := 6) (nA := 1) (r := (some .int)) (rm := (RM 2 0 0 37)) (mc := 0) (ms := 0) (As := [.int (nI mn)]) (wr := []) (j_newC l D F (gw := w) hw hc h2) [0, 1] [] rfl rfl rfl rfl (by decide) (rc_sb hC (q0 := 0) rfl) (ef_sub hC hE [0, 1] rfl) kc_yJ5_newCapacity_0f7a4 km_J5_104 ki_yJ5_newCapacity_0f7a4 (xtb (List.mem_of_getElem? (i := 1) rfl) : Cond.selects RJ4 yJ5_newCapacity_0f7a4 yJ5_newCapacity_0f7a4 ∈ TBL) kn_RJ5 ky_yJ5_newCapacity_0f7a4 rfl ⟨rfl, rfl⟩ ⟨Nat.le_of_ble_eq_true rfl, Nat.le_of_ble_eq_true rfl⟩ rfl (Nat.le_of_ble_eq_true rfl) ⟨Nat.le_of_ble_eq_true rfl, Nat.le_of_ble_eq_true rfl⟩ dJ5_ensureCapacityInternal_d00df_24 (fun o w1 h => ?_)
    obtain ⟨rfl, rfl⟩ := h
    refine cx_at (ws' := [(b, .inr (5, [.ref v, .int 0, .int 0, .int (nI (Ls.length))])), (v, .inl (D.2 1, cap, .inl (f)))]) (st' := [.int (nI (cap + w)), .ref v, .ref b]) rfl rfl ?_
    refine cx_aload_n hC dJ5_ensureCapacityInternal_d00df_27 rfl 1 rfl ?_
    refine cx_getA hC 0 1 (C := RJ4) (T := TJ4) (N := 4) (v := .int 0) fw_5 rfl rfl (Nat.le_of_ble_eq_true rfl) (tb_22 (List.mem_of_getElem? (i := 27) rfl) : Cond.fieldLink RJ5 22 "java/lang/AbstractStringBuilder" "coder" "B" ∈ TBL) rfl dJ5_ensureCapacityInternal_d00df_28 ?_
    refine cx_ishl hC dJ5_ensureCapacityInternal_d00df_31 ?_
    refine cx_topi (y := (nI (cap + w))) ((shl_0 _).symm) ?_
    refine cy_callS hC (y := yJ7_copyOf_9075b) (cy := cJ7_copyOf_9075b) (maxL := 3) (nA := 2) (r := (some (.array .byte))) (rm := (RM 1 1 600 40)) (mc := 1) (ms := 600) (As := [.ref v, .int (nI (cap + w))]) (wr := [(b, .inr (5, [.ref v, .int 0, .int 0, .int (nI (Ls.length))]))]) (j_cpO l D F (N := cap + w) (by omega) hw2 hI.2.2.2) [1] [0] rfl rfl rfl rfl (by decide) (ef_sub hC hE [1] rfl) kc_yJ7_copyOf_9075b km_J5_108 kt_yJ7_copyOf_9075b kn_RJ7 ky_yJ7_copyOf_9075b rfl ⟨rfl, rfl⟩ ⟨Nat.le_of_ble_eq_true rfl, Nat.le_of_ble_eq_true rfl⟩ rfl (Nat.le_of_ble_eq_true rfl) ⟨Nat.le_of_ble_eq_true rfl, Nat.le_of_ble_eq_true rfl⟩ dJ5_ensureCapacityInternal_d00df_32 (fun o w1 h => ?_)
    obtain ⟨q9, rfl, rfl⟩ := h
    refine cx_at (ws' := [(b, .inr (5, [.ref v, .int 0, .int 0, .int (nI (Ls.length))])), (v, .inl (D.2 1, cap, .inl (f))), (q9, .inl (D.2 1, cap + w, .inl (va_cpy (f) (fun _ => 0) 0 0 (cap))))]) (st' := [.ref q9, .ref b]) rfl rfl ?_
    refine cx_putA hC 0 0 (C := RJ4) (T := TJ4) (N := 4) [(b, .inr (5, [.ref q9, .int 0, .int 0, .int (nI (Ls.length))])), (v, .inl (D.2 1, cap, .inl (f))), (q9, .inl (D.2 1, cap + w, .inl (va_cpy (f) (fun _ => 0) 0 0 (cap))))] fw_5 tyJ4_ok nmJ4 rfl rfl (Nat.le_of_ble_eq_true rfl) (tb_22 (List.mem_of_getElem? (i := 26) rfl) : Cond.fieldLink RJ5 15 "java/lang/AbstractStringBuilder" "value" "[B" ∈ TBL) rfl rfl rfl rfl (Nat.le_of_ble_eq_true rfl) rfl dJ5_ensureCapacityInternal_d00df_35 ?_
    refine cx_keep (ws' := [(b, .inr (5, [.ref q9, .int 0, .int 0, .int (nI (Ls.length))])), (q9, .inl (D.2 1, cap + w, .inl (va_cpy (f) (fun _ => 0) 0 0 (cap))))]) [0, 2] rfl rfl ?_
    refine cx_widen (k' := 1) (n' := 600) (Nat.le_of_ble_eq_true rfl) (Nat.le_of_ble_eq_true rfl) ?_
    exact cy_vret hC (⟨rfl, q9, cap + w, _, rfl, hI.grow (by omega) hw2, hw3⟩) rfl dJ5_ensureCapacityInternal_d00df_38
theorem dJ5_putStringAt_47b60_0 : decode cJ5_putStringAt_47b60 0 = .ok (.aload_n 0, 1) := by decide +kernel
theorem dJ5_putStringAt_47b60_1 : decode cJ5_putStringAt_47b60 1 = .ok (.aload_n 2, 1) := by decide +kernel
theorem dJ5_putStringAt_47b60_2 : decode cJ5_putStringAt_47b60 2 = .ok (.invokevirtual 397, 3) := by decide +kernel
theorem dJ5_putStringAt_47b60_5 : decode cJ5_putStringAt_47b60 5 = .ok (.aload_n 2, 1) := by decide +kernel
theorem dJ5_putStringAt_47b60_6 : decode cJ5_putStringAt_47b60 6 = .ok (.aload_n 0, 1) := by decide +kernel
theorem dJ5_putStringAt_47b60_7 : decode cJ5_putStringAt_47b60 7 = .ok (.getfield 15, 3) := by decide +kernel
theorem dJ5_putStringAt_47b60_10 : decode cJ5_putStringAt_47b60 10 = .ok (.iload_n 1, 1) := by decide +kernel
theorem dJ5_putStringAt_47b60_11 : decode cJ5_putStringAt_47b60 11 = .ok (.aload_n 0, 1) := by decide +kernel
theorem dJ5_putStringAt_47b60_12 : decode cJ5_putStringAt_47b60 12 = .ok (.getfield 22, 3) := by decide +kernel
theorem dJ5_putStringAt_47b60_15 : decode cJ5_putStringAt_47b60 15 = .ok (.invokevirtual 399, 3) := by decide +kernel
theorem dJ5_putStringAt_47b60_18 : decode cJ5_putStringAt_47b60 18 = .ok (.return_, 1) := by decide +kernel
theorem j_put (l : Launch) (D : DG) (F : EF) {b v cap : Nat} {f : Nat → Int32} {Ls : List Int32} {a va : Nat} {L : List Int32} (hm : (a, va, L) ∈ F.1) (hb : ∀ k, k < L.length → b7 (L.getD k 0)) {d : Nat} (hd : d + L.length ≤ cap) (hc : cap ≤ 600) : Yo l yJ5_putStringAt_47b60 (WS yJ5_putStringAt_47b60 cJ5_putStringAt_47b60 3 none) (RM 3 0 0 63) 0 0 [.ref b, .int (nI d), .ref a] D F [(b, .inr (5, [.ref v, .int 0, .int 0, .int (nI (Ls.length))])), (v, .inl (D.2 1, cap, .inl (f)))] (fun o w => o = none ∧ w = [(b, .inr (5, [.ref v, .int 0, .int 0, .int (nI (Ls.length))])), (v, .inl (D.2 1, cap, .inl (va_cpy (fun k => L.getD k 0) (f) 0 d L.length)))]) := by
  refine Yo.of (cc := cJ5_putStringAt_47b60) (maxL := 3) (ret := none) (by decide) (Nat.le_of_ble_eq_true rfl) ?_
  intro p e s m args below meth c hC hE hmn
  show XC p l e (RM 3 0 0 63) s m args below meth c D _ 3 _ 0 0 [(b, .inr (5, [.ref v, .int 0, .int 0, .int (nI (Ls.length))])), (v, .inl (D.2 1, cap, .inl (f)))] 0 [(0, .ref b), (1, .int (nI d)), (2, .ref a)] []
  refine cx_aload_n hC dJ5_putStringAt_47b60_0 rfl 0 rfl ?_
  refine cx_aload_n hC dJ5_putStringAt_47b60_1 rfl 2 rfl ?_
  refine cy_callV hC (E := RJ4) (y := yJ5_inflateIfNeededFor_a7421) (cy := cJ5_inflateIfNeededFor_a7421) (maxL := 2) (nA := 1) (r := none) (rm := (RM 2 0 0 20)) (mc := 0) (ms := 0) (As := [.ref a]) (wr := [(v, .inl (D.2 1, cap, .inl (f)))]) (j_infl l D F hm) [0] [1] rfl rfl rfl rfl (by decide) (rc_sb hC (q0 := 0) rfl) (ef_sub hC hE [0] rfl) kc_yJ5_inflateIfNeededFor_a7421 km_J5_397 ki_yJ5_inflateIfNeededFor_a7421 (xtb (List.mem_of_getElem? (i := 3) rfl) : Cond.selects RJ4 yJ5_inflateIfNeededFor_a7421 yJ5_inflateIfNeededFor_a7421 ∈ TBL) kn_RJ5 ky_yJ5_inflateIfNeededFor_a7421 rfl ⟨rfl, rfl⟩ ⟨Nat.le_of_ble_eq_true rfl, Nat.le_of_ble_eq_true rfl⟩ rfl (Nat.le_of_ble_eq_true rfl) ⟨Nat.le_of_ble_eq_true rfl, Nat.le_of_ble_eq_true rfl⟩ dJ5_putStringAt_47b60_2 (fun o w1 h => ?_)
  obtain ⟨rfl, rfl⟩ := h
  refine cx_at (ws' := [(v, .inl (D.2 1, cap, .inl (f))), (b, .inr (5, [.ref v, .int 0, .int 0, .int (nI (Ls.length))]))]) (st' := []) rfl rfl ?_
  refine cx_aload_n hC dJ5_putStringAt_47b60_5 rfl 2 rfl ?_
  refine cx_aload_n hC dJ5_putStringAt_47b60_6 rfl 0 rfl ?_
  refine cx_getA hC 1 0 (C := RJ4) (T := TJ4) (N := 4) (v := .ref v) fw_5 rfl rfl (Nat.le_of_ble_eq_true rfl) (tb_22 (List.mem_of_getElem? (i := 26) rfl) : Cond.fieldLink RJ5 15 "java/lang/AbstractStringBuilder" "value" "[B" ∈ TBL) rfl dJ5_putStringAt_47b60_7 ?_
  refine cx_iload_n hC dJ5_putStringAt_47b60_10 rfl 1 rfl ?_
  refine cx_aload_n hC dJ5_putStringAt_47b60_11 rfl 0 rfl ?_
  refine cx_getA hC 1 1 (C := RJ4) (T := TJ4) (N := 4) (v := .int 0) fw_5 rfl rfl (Nat.le_of_ble_eq_true rfl) (tb_22 (List.mem_of_getElem? (i := 27) rfl) : Cond.fieldLink RJ5 22 "java/lang/AbstractStringBuilder" "coder" "B" ∈ TBL) rfl dJ5_putStringAt_47b60_12 ?_
  refine cy_callV hC (E := RJ0) (y := yJ0_getBytes_840e7) (cy := cJ0_getBytes_840e7) (maxL := 4) (nA := 3) (r := none) (rm := (RM 2 0 0 40)) (mc := 0) (ms := 0) (As := [.ref v, .int (nI d), .int 0]) (wr := [(b, .inr (5, [.ref v, .int 0, .int 0, .int (nI (Ls.length))]))]) (j_getB l D F hm hb hd (by omega)) [0] [1] rfl rfl rfl rfl (by decide) (rc_str hE hm) (ef_sub hC hE [0] rfl) kc_yJ0_getBytes_840e7 km_J5_399 ki_yJ0_getBytes_840e7 kv_yJ0_getBytes_840e7 kn_RJ0 ky_yJ0_getBytes_840e7 rfl ⟨rfl, rfl⟩ ⟨Nat.le_of_ble_eq_true rfl, Nat.le_of_ble_eq_true rfl⟩ rfl (Nat.le_of_ble_eq_true rfl) ⟨Nat.le_of_ble_eq_true rfl, Nat.le_of_ble_eq_true rfl⟩ dJ5_putStringAt_47b60_15 (fun o w1 h => ?_)
  obtain ⟨rfl, rfl⟩ := h
  refine cx_at (ws' := [(b, .inr (5, [.ref v, .int 0, .int 0, .int (nI (Ls.length))])), (v, .inl (D.2 1, cap, .inl (va_cpy (fun k => L.getD k 0) (f) 0 d L.length)))]) (st' := []) rfl rfl ?_
  refine cx_keep (ws' := [(b, .inr (5, [.ref v, .int 0, .int 0, .int (nI (Ls.length))])), (v, .inl (D.2 1, cap, .inl (va_cpy (fun k => L.getD k 0) (f) 0 d L.length)))]) [0, 1] rfl rfl ?_
  exact cy_vret hC (⟨rfl, rfl⟩) rfl dJ5_putStringAt_47b60_18
theorem dJ5_append_cf1ce_0 : decode cJ5_append_cf1ce 0 = .ok (.aload_n 1, 1) := by decide +kernel
theorem dJ5_append_cf1ce_1 : decode cJ5_append_cf1ce 1 = .ok (.ifnonnull 8, 3) := by decide +kernel
theorem dJ5_append_cf1ce_9 : decode cJ5_append_cf1ce 9 = .ok (.aload_n 1, 1) := by decide +kernel
theorem dJ5_append_cf1ce_10 : decode cJ5_append_cf1ce 10 = .ok (.invokevirtual 32, 3) := by decide +kernel
theorem dJ5_append_cf1ce_13 : decode cJ5_append_cf1ce 13 = .ok (.istore_n 2, 1) := by decide +kernel
theorem dJ5_append_cf1ce_14 : decode cJ5_append_cf1ce 14 = .ok (.aload_n 0, 1) := by decide +kernel
theorem dJ5_append_cf1ce_15 : decode cJ5_append_cf1ce 15 = .ok (.aload_n 0, 1) := by decide +kernel
theorem dJ5_append_cf1ce_16 : decode cJ5_append_cf1ce 16 = .ok (.getfield 79, 3) := by decide +kernel
theorem dJ5_append_cf1ce_19 : decode cJ5_append_cf1ce 19 = .ok (.iload_n 2, 1) := by decide +kernel
theorem dJ5_append_cf1ce_20 : decode cJ5_append_cf1ce 20 = .ok (.iadd, 1) := by decide +kernel
theorem dJ5_append_cf1ce_21 : decode cJ5_append_cf1ce 21 = .ok (.invokevirtual 100, 3) := by decide +kernel
theorem dJ5_append_cf1ce_24 : decode cJ5_append_cf1ce 24 = .ok (.aload_n 0, 1) := by decide +kernel
theorem dJ5_append_cf1ce_25 : decode cJ5_append_cf1ce 25 = .ok (.aload_n 0, 1) := by decide +kernel
theorem dJ5_append_cf1ce_26 : decode cJ5_append_cf1ce 26 = .ok (.getfield 79, 3) := by decide +kernel
theorem dJ5_append_cf1ce_29 : decode cJ5_append_cf1ce 29 = .ok (.aload_n 1, 1) := by decide +kernel
theorem dJ5_append_cf1ce_30 : decode cJ5_append_cf1ce 30 = .ok (.invokevirtual 208, 3) := by decide +kernel
theorem dJ5_append_cf1ce_33 : decode cJ5_append_cf1ce 33 = .ok (.aload_n 0, 1) := by decide +kernel
theorem dJ5_append_cf1ce_34 : decode cJ5_append_cf1ce 34 = .ok (.dup, 1) := by decide +kernel
theorem dJ5_append_cf1ce_35 : decode cJ5_append_cf1ce 35 = .ok (.getfield 79, 3) := by decide +kernel
theorem dJ5_append_cf1ce_38 : decode cJ5_append_cf1ce 38 = .ok (.iload_n 2, 1) := by decide +kernel
theorem dJ5_append_cf1ce_39 : decode cJ5_append_cf1ce 39 = .ok (.iadd, 1) := by decide +kernel
theorem dJ5_append_cf1ce_40 : decode cJ5_append_cf1ce 40 = .ok (.putfield 79, 3) := by decide +kernel
theorem dJ5_append_cf1ce_43 : decode cJ5_append_cf1ce 43 = .ok (.aload_n 0, 1) := by decide +kernel
theorem dJ5_append_cf1ce_44 : decode cJ5_append_cf1ce 44 = .ok (.areturn, 1) := by decide +kernel
theorem j_ap5 (l : Launch) (D : DG) (F : EF) {b v cap : Nat} {f : Nat → Int32} {Ls : List Int32} {a va : Nat} {L : List Int32} (hm : (a, va, L) ∈ F.1) (hb : ∀ k, k < L.length → b7 (L.getD k 0)) (hI : SBI Ls cap f) (hn : Ls.length + L.length ≤ 300) : Yo l yJ5_append_cf1ce (WS yJ5_append_cf1ce cJ5_append_cf1ce 3 (some (.object "java/lang/AbstractStringBuilder"))) (RM 4 1 600 85) 1 600 [.ref b, .ref a] D F [(b, .inr (5, [.ref v, .int 0, .int 0, .int (nI (Ls.length))])), (v, .inl (D.2 1, cap, .inl (f)))] (fun o w => o = some (.ref b) ∧ ∃ v' cap' f', w = [(b, .inr (5, [.ref v', .int 0, .int 0, .int (nI ((Ls ++ L).length))])), (v', .inl (D.2 1, cap', .inl (f')))] ∧ SBI (Ls ++ L) cap' f') := by
  refine Yo.of (cc := cJ5_append_cf1ce) (maxL := 3) (ret := (some (.object "java/lang/AbstractStringBuilder"))) (by decide) (Nat.le_of_ble_eq_true rfl) ?_
  intro p e s m args below meth c hC hE hmn
  show XC p l e (RM 4 1 600 85) s m args below meth c D _ 3 _ 0 0 [(b, .inr (5, [.ref v, .int 0, .int 0, .int (nI (Ls.length))])), (v, .inl (D.2 1, cap, .inl (f)))] 0 [(0, .ref b), (1, .ref a)] []
  refine cx_aload_n hC dJ5_append_cf1ce_0 rfl 1 rfl ?_
  refine cx_ifnonnull hC 9 dJ5_append_cf1ce_1 (by decide) ?_
  refine cx_aload_n hC dJ5_append_cf1ce_9 rfl 1 rfl ?_
  refine cy_callV hC (E := RJ0) (y := yJ0_length_8abf5) (cy := cJ0_length_8abf5) (maxL := 1) (nA := 0) (r := (some .int)) (rm := (RM 2 0 0 20)) (mc := 0) (ms := 0) (As := []) (wr := [(b, .inr (5, [.ref v, .int 0, .int 0, .int (nI (Ls.length))])), (v, .inl (D.2 1, cap, .inl (f)))]) (j_slen l D F hm) [] [0, 1] rfl rfl rfl rfl (by decide) (rc_str hE hm) (ef_sub hC hE [] rfl) kc_yJ0_length_8abf5 km_J5_32 ki_yJ0_length_8abf5 kv_yJ0_length_8abf5 kn_RJ0 ky_yJ0_length_8abf5 rfl ⟨rfl, rfl⟩ ⟨Nat.le_of_ble_eq_true rfl, Nat.le_of_ble_eq_true rfl⟩ rfl (Nat.le_of_ble_eq_true rfl) ⟨Nat.le_of_ble_eq_true rfl, Nat.le_of_ble_eq_true rfl⟩ dJ5_append_cf1ce_10 (fun o w1 h => ?_)
  obtain ⟨rfl, rfl⟩ := h
  refine cx_at (ws' := [(b, .inr (5, [.ref v, .int 0, .int 0, .int (nI (Ls.length))])), (v, .inl (D.2 1, cap, .inl (f)))]) (st' := [.int (nI L.length)]) rfl rfl ?_
  refine cx_istore_n hC [(2, .int (nI L.length)), (0, .ref b), (1, .ref a)] dJ5_append_cf1ce_13 rfl (Nat.le_of_ble_eq_true rfl) rfl ?_
  refine cx_aload_n hC dJ5_append_cf1ce_14 rfl 1 rfl ?_
  refine cx_aload_n hC dJ5_append_cf1ce_15 rfl 1 rfl ?_
  refine cx_getA hC 0 3 (C := RJ4) (T := TJ4) (N := 4) (v := .int (nI (Ls.length))) fw_5 rfl rfl (Nat.le_of_ble_eq_true rfl) (tb_22 (List.mem_of_getElem? (i := 29) rfl) : Cond.fieldLink RJ5 79 "java/lang/AbstractStringBuilder" "count" "I" ∈ TBL) rfl dJ5_append_cf1ce_16 ?_
  refine cx_iload_n hC dJ5_append_cf1ce_19 rfl 0 rfl ?_
  refine cx_iadd hC dJ5_append_cf1ce_20 ?_
  refine cx_topi (y := (nI (Ls.length + L.length))) ((n_add _ _).symm) ?_
  refine cy_callV hC (E := RJ4) (y := yJ5_ensureCapacityInternal_d00df) (cy := cJ5_ensureCapacityInternal_d00df) (maxL := 3) (nA := 1) (r := none) (rm := (RM 3 1 600 62)) (mc := 1) (ms := 600) (As := [.int (nI (Ls.length + L.length))]) (wr := []) (j_ens l D F (mn := Ls.length + L.length) hI hn) [0, 1] [] rfl rfl rfl rfl (by decide) (rc_sb hC (q0 := 0) rfl) (ef_sub hC hE [0, 1] rfl) kc_yJ5_ensureCapacityInternal_d00df km_J5_100 ki_yJ5_ensureCapacityInternal_d00df (xtb (List.mem_of_getElem? (i := 0) rfl) : Cond.selects RJ4 yJ5_ensureCapacityInternal_d00df yJ5_ensureCapacityInternal_d00df ∈ TBL) kn_RJ5 ky_yJ5_ensureCapacityInternal_d00df rfl ⟨rfl, rfl⟩ ⟨Nat.le_of_ble_eq_true rfl, Nat.le_of_ble_eq_true rfl⟩ rfl (Nat.le_of_ble_eq_true rfl) ⟨Nat.le_of_ble_eq_true rfl, Nat.le_of_ble_eq_true rfl⟩ dJ5_append_cf1ce_21 (fun o w1 h => ?_)
  obtain ⟨rfl, v1, c1, f1, rfl, hI1, hc1⟩ := h
  refine cx_at (ws' := [(b, .inr (5, [.ref v1, .int 0, .int 0, .int (nI (Ls.length))])), (v1, .inl (D.2 1, c1, .inl (f1)))]) (st' := []) rfl rfl ?_
  refine cx_aload_n hC dJ5_append_cf1ce_24 rfl 1 rfl ?_
  refine cx_aload_n hC dJ5_append_cf1ce_25 rfl 1 rfl ?_
  refine cx_getA hC 0 3 (C := RJ4) (T := TJ4) (N := 4) (v := .int (nI (Ls.length))) fw_5 rfl rfl (Nat.le_of_ble_eq_true rfl) (tb_22 (List.mem_of_getElem? (i := 29) rfl) : Cond.fieldLink RJ5 79 "java/lang/AbstractStringBuilder" "count" "I" ∈ TBL) rfl dJ5_append_cf1ce_26 ?_
  refine cx_aload_n hC dJ5_append_cf1ce_29 rfl 2 rfl ?_
  refine cy_callV hC (E := RJ4) (y := yJ5_putStringAt_47b60) (cy := cJ5_putStringAt_47b60) (maxL := 3) (nA := 2) (r := none) (rm := (RM 3 0 0 63)) (mc := 0) (ms := 0) (As := [.int (nI (Ls.length)), .ref a]) (wr := []) (j_put l D F hm hb (d := Ls.length) hc1 hI1.2.1) [0, 1] [] rfl rfl rfl rfl (by decide) (rc_sb hC (q0 := 0) rfl) (ef_sub hC hE [0, 1] rfl) kc_yJ5_putStringAt_47b60 km_J5_208 ki_yJ5_putStringAt_47b60 (xtb (List.mem_of_getElem? (i := 2) rfl) : Cond.selects RJ4 yJ5_putStringAt_47b60 yJ5_putStringAt_47b60 ∈ TBL) kn_RJ5 ky_yJ5_putStringAt_47b60 rfl ⟨rfl, rfl⟩ ⟨Nat.le_of_ble_eq_true rfl, Nat.le_of_ble_eq_true rfl⟩ rfl (Nat.le_of_ble_eq_true rfl) ⟨Nat.le_of_ble_eq_true rfl, Nat.le_of_ble_eq_true rfl⟩ dJ5_append_cf1ce_30 (fun o w1 h => ?_)
  obtain ⟨rfl, rfl⟩ := h
  refine cx_at (ws' := [(b, .inr (5, [.ref v1, .int 0, .int 0, .int (nI (Ls.length))])), (v1, .inl (D.2 1, c1, .inl (va_cpy (fun k => L.getD k 0) (f1) 0 Ls.length L.length)))]) (st' := []) rfl rfl ?_
  refine cx_aload_n hC dJ5_append_cf1ce_33 rfl 1 rfl ?_
  refine cx_dup hC dJ5_append_cf1ce_34 rfl ?_
  refine cx_getA hC 0 3 (C := RJ4) (T := TJ4) (N := 4) (v := .int (nI (Ls.length))) fw_5 rfl rfl (Nat.le_of_ble_eq_true rfl) (tb_22 (List.mem_of_getElem? (i := 29) rfl) : Cond.fieldLink RJ5 79 "java/lang/AbstractStringBuilder" "count" "I" ∈ TBL) rfl dJ5_append_cf1ce_35 ?_
  refine cx_iload_n hC dJ5_append_cf1ce_38 rfl 0 rfl ?_
  refine cx_iadd hC dJ5_append_cf1ce_39 ?_
  refine cx_topi (y := (nI ((Ls ++ L).length))) (by rw [List.length_append]; exact (n_add _ _).symm) ?_
  refine cx_putA hC 0 3 (C := RJ4) (T := TJ4) (N := 4) [(b, .inr (5, [.ref v1, .int 0, .int 0, .int (nI ((Ls ++ L).length))])), (v1, .inl (D.2 1, c1, .inl (va_cpy (fun k => L.getD k 0) (f1) 0 Ls.length L.length)))] fw_5 tyJ4_ok nmJ4 rfl rfl (Nat.le_of_ble_eq_true rfl) (tb_22 (List.mem_of_getElem? (i := 29) rfl) : Cond.fieldLink RJ5 79 "java/lang/AbstractStringBuilder" "count" "I" ∈ TBL) rfl rfl rfl rfl (Nat.le_of_ble_eq_true rfl) rfl dJ5_append_cf1ce_40 ?_
  refine cx_aload_n hC dJ5_append_cf1ce_43 rfl 1 rfl ?_
  exact cy_aret hC (⟨rfl, v1, c1, _, rfl, hI1.app hc1 hb⟩) rfl (Or.inl ⟨_, rfl⟩) dJ5_append_cf1ce_44
theorem dJ4_append_15ec4_0 : decode cJ4_append_15ec4 0 = .ok (.aload_n 0, 1) := by decide +kernel
theorem dJ4_append_15ec4_1 : decode cJ4_append_15ec4 1 = .ok (.aload_n 1, 1) := by decide +kernel
theorem dJ4_append_15ec4_2 : decode cJ4_append_15ec4 2 = .ok (.invokespecial 29, 3) := by decide +kernel
theorem dJ4_append_15ec4_5 : decode cJ4_append_15ec4 5 = .ok (.pop, 1) := by decide +kernel
theorem dJ4_append_15ec4_6 : decode cJ4_append_15ec4 6 = .ok (.aload_n 0, 1) := by decide +kernel
theorem dJ4_append_15ec4_7 : decode cJ4_append_15ec4 7 = .ok (.areturn, 1) := by decide +kernel
theorem j_apS (l : Launch) (D : DG) (F : EF) {b v cap : Nat} {f : Nat → Int32} {Ls : List Int32} {a va : Nat} {L : List Int32} (hm : (a, va, L) ∈ F.1) (hb : ∀ k, k < L.length → b7 (L.getD k 0)) (hI : SBI Ls cap f) (hn : Ls.length + L.length ≤ 300) : Yo l yJ4_append_15ec4 (WS yJ4_append_15ec4 cJ4_append_15ec4 2 (some (.object "java/lang/StringBuilder"))) (RM 5 1 600 107) 1 600 [.ref b, .ref a] D F [(b, .inr (5, [.ref v, .int 0, .int 0, .int (nI (Ls.length))])), (v, .inl (D.2 1, cap, .inl (f)))] (fun o w => o = some (.ref b) ∧ ∃ v' cap' f', w = [(b, .inr (5, [.ref v', .int 0, .int 0, .int (nI ((Ls ++ L).length))])), (v', .inl (D.2 1, cap', .inl (f')))] ∧ SBI (Ls ++ L) cap' f') := by
  refine Yo.of (cc := cJ4_append_15ec4) (maxL := 2) (ret := (some (.object "java/lang/StringBuilder"))) (by decide) (Nat.le_of_ble_eq_true rfl) ?_
  intro p e s m args below meth c hC hE hmn
  show XC p l e (RM 5 1 600 107) s m args below meth c D _ 2 _ 0 0 [(b, .inr (5, [.ref v, .int 0, .int 0, .int (nI (Ls.length))])), (v, .inl (D.2 1, cap, .inl (f)))] 0 [(0, .ref b), (1, .ref a)] []
  refine cx_aload_n hC dJ4_append_15ec4_0 rfl 0 rfl ?_
  refine cx_aload_n hC dJ4_append_15ec4_1 rfl 1 rfl ?_
  refine cy_callSU hC (ci := 5) (C := RJ4) (T := TJ4) (N := 4) (y := yJ5_append_cf1ce) (cy := cJ5_append_cf1ce) (maxL := 3) (nA := 1) (r := (some (.object "java/lang/AbstractStringBuilder"))) (rm := (RM 4 1 600 85)) (mc := 1) (ms := 600) (As := [.ref a]) (wr := []) (j_ap5 l D F hm hb hI hn) [0, 1] [] rfl rfl rfl rfl (by decide) rfl (rc_sb hC (q0 := 0) rfl) (ef_sub hC hE [0, 1] rfl) kc_yJ5_append_cf1ce km_J4_29 (tb_27 (List.mem_of_getElem? (i := 8) rfl) : Cond.sameMethod yJ5_append_cf1ce.cls yJ5_append_cf1ce.cls yJ5_append_cf1ce.name yJ5_append_cf1ce.desc ∈ TBL) (tb_22 (List.mem_of_getElem? (i := 38) rfl) : Cond.superclass RJ4 RJ5 ∈ TBL) ki_yJ5_append_cf1ce kn_RJ5 (by decide +kernel) rfl ⟨rfl, rfl⟩ ⟨Nat.le_of_ble_eq_true rfl, Nat.le_of_ble_eq_true rfl⟩ rfl (Nat.le_of_ble_eq_true rfl) ⟨Nat.le_of_ble_eq_true rfl, Nat.le_of_ble_eq_true rfl⟩ dJ4_append_15ec4_2 (fun o w1 h => ?_)
  obtain ⟨rfl, v1, c1, f1, rfl, hI1⟩ := h
  refine cx_at (ws' := [(b, .inr (5, [.ref v1, .int 0, .int 0, .int (nI ((Ls ++ L).length))])), (v1, .inl (D.2 1, c1, .inl (f1)))]) (st' := [.ref b]) rfl rfl ?_
  refine cx_pop hC dJ4_append_15ec4_5 rfl ?_
  refine cx_aload_n hC dJ4_append_15ec4_6 rfl 0 rfl ?_
  exact cy_aret hC (⟨rfl, v1, c1, f1, rfl, hI1⟩) rfl (Or.inl ⟨_, rfl⟩) dJ4_append_15ec4_7
