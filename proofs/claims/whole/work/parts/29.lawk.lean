/-! rows of the law: its script, its out, its calls -/
theorem kw_yL_advise : Cond.codeWith yL_advise cL_advise 4 (some .int) [(0, 9, 12, 19)] ∈ TBL := tb_24 (List.mem_of_getElem? (i := 8) rfl)
theorem kt_yL_advise : Cond.static yL_advise ∈ TBL := tb_24 (List.mem_of_getElem? (i := 7) rfl)
theorem ky_yL_advise : yL_advise.cls ≠ "java/lang/invoke/MethodHandle" ∧ yL_advise.cls ≠ "java/lang/invoke/VarHandle" ∧ (parseMethodDescriptor yL_advise.desc).map (fun d => d.parameters.length) = some 3 := by decide +kernel
theorem kml_121 : Cond.methodLink RL 121 yL_advise ∈ TBL := tb_24 (List.mem_of_getElem? (i := 6) rfl)
theorem kw_yL_byteAt : Cond.codeWith yL_byteAt cL_byteAt 4 (some .int) [(0, 9, 12, 24)] ∈ TBL := tb_24 (List.mem_of_getElem? (i := 15) rfl)
theorem kt_yL_byteAt : Cond.static yL_byteAt ∈ TBL := tb_24 (List.mem_of_getElem? (i := 14) rfl)
theorem ky_yL_byteAt : yL_byteAt.cls ≠ "java/lang/invoke/MethodHandle" ∧ yL_byteAt.cls ≠ "java/lang/invoke/VarHandle" ∧ (parseMethodDescriptor yL_byteAt.desc).map (fun d => d.parameters.length) = some 3 := by decide +kernel
theorem kml_128 : Cond.methodLink RL 128 yL_byteAt ∈ TBL := tb_24 (List.mem_of_getElem? (i := 13) rfl)
theorem kw_yL_cell : Cond.codeWith yL_cell cL_cell 6 (some .int) [(0, 12, 15, 24)] ∈ TBL := tb_19 (List.mem_of_getElem? (i := 30) rfl)
theorem kt_yL_cell : Cond.static yL_cell ∈ TBL := tb_19 (List.mem_of_getElem? (i := 29) rfl)
theorem ky_yL_cell : yL_cell.cls ≠ "java/lang/invoke/MethodHandle" ∧ yL_cell.cls ≠ "java/lang/invoke/VarHandle" ∧ (parseMethodDescriptor yL_cell.desc).map (fun d => d.parameters.length) = some 5 := by decide +kernel
theorem kml_102 : Cond.methodLink RL 102 yL_cell ∈ TBL := tb_19 (List.mem_of_getElem? (i := 28) rfl)
theorem kw_yL_count : Cond.codeWith yL_count cL_count 4 (some .int) [(0, 9, 12, 24)] ∈ TBL := tb_18 (List.mem_of_getElem? (i := 20) rfl)
theorem kt_yL_count : Cond.static yL_count ∈ TBL := tb_18 (List.mem_of_getElem? (i := 19) rfl)
theorem ky_yL_count : yL_count.cls ≠ "java/lang/invoke/MethodHandle" ∧ yL_count.cls ≠ "java/lang/invoke/VarHandle" ∧ (parseMethodDescriptor yL_count.desc).map (fun d => d.parameters.length) = some 3 := by decide +kernel
theorem kml_88 : Cond.methodLink RL 88 yL_count ∈ TBL := tb_18 (List.mem_of_getElem? (i := 18) rfl)
theorem kw_yL_done : Cond.codeWith yL_done cL_done 4 (some .int) [(0, 9, 12, 24)] ∈ TBL := tb_24 (List.mem_of_getElem? (i := 1) rfl)
theorem kt_yL_done : Cond.static yL_done ∈ TBL := tb_24 (List.mem_of_getElem? (i := 0) rfl)
theorem ky_yL_done : yL_done.cls ≠ "java/lang/invoke/MethodHandle" ∧ yL_done.cls ≠ "java/lang/invoke/VarHandle" ∧ (parseMethodDescriptor yL_done.desc).map (fun d => d.parameters.length) = some 3 := by decide +kernel
theorem kml_118 : Cond.methodLink RL 118 yL_done ∈ TBL := tb_23 (List.mem_of_getElem? (i := 39) rfl)
theorem kw_yL_dries : Cond.codeWith yL_dries cL_dries 5 (some .int) [(0, 10, 13, 24)] ∈ TBL := tb_23 (List.mem_of_getElem? (i := 33) rfl)
theorem kt_yL_dries : Cond.static yL_dries ∈ TBL := tb_23 (List.mem_of_getElem? (i := 32) rfl)
theorem ky_yL_dries : yL_dries.cls ≠ "java/lang/invoke/MethodHandle" ∧ yL_dries.cls ≠ "java/lang/invoke/VarHandle" ∧ (parseMethodDescriptor yL_dries.desc).map (fun d => d.parameters.length) = some 4 := by decide +kernel
theorem kml_115 : Cond.methodLink RL 115 yL_dries ∈ TBL := tb_23 (List.mem_of_getElem? (i := 31) rfl)
theorem kw_yL_feed : Cond.codeWith yL_feed cL_feed 8 (some .int) [(0, 16, 19, 13)] ∈ TBL := tb_16 (List.mem_of_getElem? (i := 11) rfl)
theorem kt_yL_feed : Cond.static yL_feed ∈ TBL := tb_16 (List.mem_of_getElem? (i := 10) rfl)
theorem ky_yL_feed : yL_feed.cls ≠ "java/lang/invoke/MethodHandle" ∧ yL_feed.cls ≠ "java/lang/invoke/VarHandle" ∧ (parseMethodDescriptor yL_feed.desc).map (fun d => d.parameters.length) = some 7 := by decide +kernel
theorem kml_66 : Cond.methodLink RL 66 yL_feed ∈ TBL := tb_16 (List.mem_of_getElem? (i := 9) rfl)
theorem kw_yL_foresee : Cond.codeWith yL_foresee cL_foresee 5 (some .int) [(0, 10, 13, 19), (0, 10, 17, 24)] ∈ TBL := tb_23 (List.mem_of_getElem? (i := 17) rfl)
theorem kt_yL_foresee : Cond.static yL_foresee ∈ TBL := tb_23 (List.mem_of_getElem? (i := 16) rfl)
theorem ky_yL_foresee : yL_foresee.cls ≠ "java/lang/invoke/MethodHandle" ∧ yL_foresee.cls ≠ "java/lang/invoke/VarHandle" ∧ (parseMethodDescriptor yL_foresee.desc).map (fun d => d.parameters.length) = some 4 := by decide +kernel
theorem kml_112 : Cond.methodLink RL 112 yL_foresee ∈ TBL := tb_23 (List.mem_of_getElem? (i := 15) rfl)
theorem kw_yL_gang : Cond.codeWith yL_gang cL_gang 5 (some .int) [(0, 10, 13, 24)] ∈ TBL := tb_19 (List.mem_of_getElem? (i := 37) rfl)
theorem kt_yL_gang : Cond.static yL_gang ∈ TBL := tb_19 (List.mem_of_getElem? (i := 36) rfl)
theorem ky_yL_gang : yL_gang.cls ≠ "java/lang/invoke/MethodHandle" ∧ yL_gang.cls ≠ "java/lang/invoke/VarHandle" ∧ (parseMethodDescriptor yL_gang.desc).map (fun d => d.parameters.length) = some 4 := by decide +kernel
theorem kml_105 : Cond.methodLink RL 105 yL_gang ∈ TBL := tb_19 (List.mem_of_getElem? (i := 35) rfl)
theorem kw_yL_pass : Cond.codeWith yL_pass cL_pass 4 (some .int) [(0, 9, 12, 19)] ∈ TBL := tb_20 (List.mem_of_getElem? (i := 4) rfl)
theorem kt_yL_pass : Cond.static yL_pass ∈ TBL := tb_20 (List.mem_of_getElem? (i := 3) rfl)
theorem ky_yL_pass : yL_pass.cls ≠ "java/lang/invoke/MethodHandle" ∧ yL_pass.cls ≠ "java/lang/invoke/VarHandle" ∧ (parseMethodDescriptor yL_pass.desc).map (fun d => d.parameters.length) = some 3 := by decide +kernel
theorem kml_109 : Cond.methodLink RL 109 yL_pass ∈ TBL := tb_20 (List.mem_of_getElem? (i := 2) rfl)
theorem kw_yL_set : Cond.codeWith yL_set cL_set 7 (some .int) [(0, 14, 17, 24), (0, 14, 21, 19)] ∈ TBL := tb_19 (List.mem_of_getElem? (i := 9) rfl)
theorem kt_yL_set : Cond.static yL_set ∈ TBL := tb_19 (List.mem_of_getElem? (i := 8) rfl)
theorem ky_yL_set : yL_set.cls ≠ "java/lang/invoke/MethodHandle" ∧ yL_set.cls ≠ "java/lang/invoke/VarHandle" ∧ (parseMethodDescriptor yL_set.desc).map (fun d => d.parameters.length) = some 6 := by decide +kernel
theorem kml_95 : Cond.methodLink RL 95 yL_set ∈ TBL := tb_19 (List.mem_of_getElem? (i := 7) rfl)
theorem kw_yL_setWeather : Cond.codeWith yL_setWeather cL_setWeather 6 (some .int) [(0, 12, 15, 24), (0, 12, 19, 19)] ∈ TBL := tb_19 (List.mem_of_getElem? (i := 2) rfl)
theorem kt_yL_setWeather : Cond.static yL_setWeather ∈ TBL := tb_19 (List.mem_of_getElem? (i := 1) rfl)
theorem ky_yL_setWeather : yL_setWeather.cls ≠ "java/lang/invoke/MethodHandle" ∧ yL_setWeather.cls ≠ "java/lang/invoke/VarHandle" ∧ (parseMethodDescriptor yL_setWeather.desc).map (fun d => d.parameters.length) = some 5 := by decide +kernel
theorem kml_91 : Cond.methodLink RL 91 yL_setWeather ∈ TBL := tb_19 (List.mem_of_getElem? (i := 0) rfl)
theorem kw_yL_stack : Cond.codeWith yL_stack cL_stack 7 (some .int) [(0, 14, 17, 24), (0, 14, 21, 19), (0, 14, 25, 13)] ∈ TBL := tb_19 (List.mem_of_getElem? (i := 17) rfl)
theorem kt_yL_stack : Cond.static yL_stack ∈ TBL := tb_19 (List.mem_of_getElem? (i := 16) rfl)
theorem ky_yL_stack : yL_stack.cls ≠ "java/lang/invoke/MethodHandle" ∧ yL_stack.cls ≠ "java/lang/invoke/VarHandle" ∧ (parseMethodDescriptor yL_stack.desc).map (fun d => d.parameters.length) = some 6 := by decide +kernel
theorem kml_99 : Cond.methodLink RL 99 yL_stack ∈ TBL := tb_19 (List.mem_of_getElem? (i := 15) rfl)
theorem kw_yL_trim : Cond.codeWith yL_trim cL_trim 4 (some .int) [(0, 9, 12, 19)] ∈ TBL := tb_17 (List.mem_of_getElem? (i := 38) rfl)
theorem kt_yL_trim : Cond.static yL_trim ∈ TBL := tb_17 (List.mem_of_getElem? (i := 37) rfl)
theorem ky_yL_trim : yL_trim.cls ≠ "java/lang/invoke/MethodHandle" ∧ yL_trim.cls ≠ "java/lang/invoke/VarHandle" ∧ (parseMethodDescriptor yL_trim.desc).map (fun d => d.parameters.length) = some 3 := by decide +kernel
theorem kml_76 : Cond.methodLink RL 76 yL_trim ∈ TBL := tb_17 (List.mem_of_getElem? (i := 36) rfl)
theorem kn_RLx : Cond.initialized RL ∈ TBL := tb_2 (List.mem_of_getElem? (i := 29) rfl)
theorem lg_self (x : Int64) : lg_cmp x x = 0 := by
  unfold lg_cmp
  rw [if_neg (show ¬ x > x from Int64.lt_irrefl), if_pos rfl]
section LW
variable {p : Program} {l : Launch} {e : Env} {R : Room} {s : State} {m : MethodId} {args : Array Value} {below : List Frame} {meth : Method} {c : Code} {cc : ByteArray} {nL : Nat} {own : String} {G : GG} {Q : State → Prop} {k n : Nat} {M : Mm} {pc : Nat} {lv lv' : List (Nat × Value)} {st : List Value} {ret : Option FieldType}
theorem x_sld (hC : CX p s m args meth c cc nL own ret G) {b L i : Nat} {xs : Nat → Int32} (hX : va_X b L xs s s.heap) (hbl : b < s.heap.size) (hbA : ¬ AF G s.heap.size b) (hi : i < L) (hL : L ≤ 3072) (hd : decode cc pc = .ok (.iaload, 1)) (K : XJ p l e R s m args below meth c G nL Q k n M (pc + 1) lv (.int (xs i) :: st)) : XJ p l e R s m args below meth c G nL Q k n M pc lv (.int (nI i) :: .ref b :: st) := by
  obtain ⟨hx, hb, hml, hown, hts, hlk, hrt, hG⟩ := hC
  have hc : (nI i).toNatClampNeg = i := nI_clamp (by omega)
  have ht : (nI i).toInt = (i : Int) := Int32.toInt_ofNat_of_lt (by omega)
  refine fun H locs ls hP hS hl => va_sld hx hb hX hbl hbA hS (i := nI i) (inx ⟨by rw [ht]; omega, by rw [ht]; omega⟩) hd ?_
  rw [hc]
  exact K H locs ls hP hS hl
theorem x_slen (hC : CX p s m args meth c cc nL own ret G) {b L : Nat} {xs : Nat → Int32} (hX : va_X b L xs s s.heap) (hbl : b < s.heap.size) (hbA : ¬ AF G s.heap.size b) (hd : decode cc pc = .ok (.arraylength, 1)) (K : XJ p l e R s m args below meth c G nL Q k n M (pc + 1) lv (.int (nI L) :: st)) : XJ p l e R s m args below meth c G nL Q k n M pc lv (.ref b :: st) := by
  obtain ⟨hx, hb, hml, hown, hts, hlk, hrt, hG⟩ := hC
  exact fun H locs ls hP hS hl => va_slen hx hb hX hbl hbA hS hd (K H locs ls hP hS hl)
theorem x_outld (hC : CX p s m args meth c cc nL own ret G) (hd : decode cc pc = .ok (.laload, 1)) (K : XJ p l e R s m args below meth c G nL Q k n M (pc + 1) lv (.long (M 28 0).toInt64 :: st)) : XJ p l e R s m args below meth c G nL Q k n M pc lv (.int (0 : Int32) :: .ref (G.2.1 28) :: st) := by
  obtain ⟨hx, hb, hml, hown, hts, hlk, hrt, hG⟩ := hC
  exact fun H locs ls hP hS hl => va_lald hx hb hG.2.1 hP 28 4 (n := 1) (f := fun j => (M 28 j).toInt64) ((WL_get (by decide)).trans (by rw [EN_out (n := 1) rfl])) rfl (inx (by decide)) hd (K H locs ls hP hS hl)
theorem x_lcmp (hC : CX p s m args meth c cc nL own ret G) {x y : Int64} (hd : decode cc pc = .ok (.lcmp, 1)) (K : XJ p l e R s m args below meth c G nL Q k n M (pc + 1) lv (.int (lg_cmp x y) :: st)) : XJ p l e R s m args below meth c G nL Q k n M pc lv (.long y :: .long x :: st) := by
  obtain ⟨hx, hb, -⟩ := hC
  exact fun H locs ls hP hS hl => W.lcmp hx hb hd (K H locs ls hP hS hl)
theorem x_dcmp (hC : CX p s m args meth c cc nL own ret G) {x y : UInt64} {op : CmpOp} (hd : decode cc pc = .ok (.dcmp op, 1)) (K : XJ p l e R s m args below meth c G nL Q k n M (pc + 1) lv (.int (Op.cmpValue (FP.dcmp x y) op) :: st)) : XJ p l e R s m args below meth c G nL Q k n M pc lv (.double y :: .double x :: st) := by
  obtain ⟨hx, hb, -⟩ := hC
  exact fun H locs ls hP hS hl => lv_dcmp hx hb hd (K H locs ls hP hS hl)
theorem x_dload (hC : CX p s m args meth c cc nL own ret G) {i : Nat} {x : UInt64} (hd : decode cc pc = .ok (.dload i, 2)) (j : Nat) (hj : lv[j]? = some (i, .double x)) (K : XJ p l e R s m args below meth c G nL Q k n M (pc + 2) lv (.double x :: st)) : XJ p l e R s m args below meth c G nL Q k n M pc lv st := by
  obtain ⟨hx, hb, -⟩ := hC
  exact fun H locs ls hP hS hl => lv_dload hx hb hd (lv_at hl j hj) (K H locs ls hP hS hl)
theorem x_dstore (hC : CX p s m args meth c cc nL own ret G) {i : Nat} {x : UInt64} (lv' : List (Nat × Value)) (hd : decode cc pc = .ok (.dstore i, 2)) (hn : i + 1 < nL) (hl' : (i, Value.double x) :: lv.filter (fun q => !(q.1 == i) && (!(q.1 == i + 1) && !(q.1 + 1 == i && q.2.category == 2))) = lv') (K : XJ p l e R s m args below meth c G nL Q k n M (pc + 2) lv' st) : XJ p l e R s m args below meth c G nL Q k n M pc lv (.double x :: st) := by
  obtain ⟨hx, hb, -⟩ := hC
  exact fun H locs ls hP hS hl => lv_dstore hx hb hd hl hn hl' (fun ls' hl2 => K H locs ls' hP hS hl2)
theorem x_callSW (hC : CX p s m args meth c cc nL own ret G) {y : MethodName} {cy : ByteArray} {maxL index nA mc ms : Nat} {r : Option FieldType} {hh : List (Nat × Nat × Nat × Nat)} {rm : Room} {As : List Value} {st0 : List Value} {M' : Mm} {b : Bool} {o : Option Value} (hM : Mo b l y (.codeWith y cy maxL r hh :: TBL) rm mc ms As G M o M') (hcode : Cond.codeWith y cy maxL r hh ∈ TBL) (hlink : Cond.methodLink own index y ∈ TBL) (hstat : Cond.static y ∈ TBL) (hini : Cond.initialized y.cls ∈ TBL) (hy : y.cls ≠ "java/lang/invoke/MethodHandle" ∧ y.cls ≠ "java/lang/invoke/VarHandle" ∧ (parseMethodDescriptor y.desc).map (fun d => d.parameters.length) = some nA) (hnA : As.length = nA) (hrc : rm.cells = mc ∧ rm.slots = ms) (hR : rm.frames + 1 ≤ R.frames ∧ 8 + (maxL + 11) + rm.locals ≤ R.locals) (hst : st0 = As.reverse ++ st) (hcat : (st.map fun v => v.category).sum ≤ 8) (hcs : k + mc ≤ R.cells ∧ n + ms ≤ R.slots) (hd : decode cc pc = .ok (.invokestatic index, 3))
    (K : BVo b o → XJ p l e R s m args below meth c G nL Q (k + mc) (n + ms) M' (pc + 3) lv (o.toList ++ st)) : XJ p l e R s m args below meth c G nL Q k n M pc lv st0 := by
  obtain ⟨hx, hb, hml, hown, hts, hlk, hrt, hG⟩ := hC
  refine x_run (As := As.toArray) (fun H locs ls hP hS hl => ?_) K
  refine vx_runSW (bytes := cy) (maxL := maxL) (ret := r) (hh := hh) (n := nA) (nL := nL) (Ts := TBL) ⟨hx, hb, hml, hown, hts⟩ (hM H.size) ⟨⟨hrc.1, hrc.2, hR.1, hR.2, pay_in hts (fun w hw => by
    rcases List.mem_cons.mp hw with rfl | hw
    · exact tbl_self _ hcode
    · exact tbl_self _ hw), List.mem_cons_self⟩, hts _ hcode, hts _ hini, ⟨hy.1, hy.2.1⟩, fun sig h => ?_, hts _ hlink, hts _ hstat⟩ ⟨mo_blind, fun U hU hW => ⟨rfl, by rw [hU], by rw [hU]; exact hP, hG.step hS hU hW⟩⟩ rfl hnA hl.1 hst (lv_room hcat) hd hcs
  have h2 := hy.2.2
  rw [h] at h2
  exact (Option.some.inj h2).symm
end LW
theorem num_cmp {v : UInt64} (h : v &&& 0x7fffffffffffffff ≤ 0x7ff0000000000000) : FP.dcmp v v = some .eq := by
  have hn : v.toNat % 9223372036854775808 ≤ 9218868437227405312 := by
    rw [UInt64.le_iff_toNat_le, UInt64.toNat_and] at h
    have h' : v.toNat &&& (2 ^ 63 - 1) ≤ 9218868437227405312 := h
    rw [Nat.and_two_pow_sub_one_eq_mod] at h'
    exact h'
  show FP.Core.order (FP.Core.decode FP.Core.b64 v.toNat) (FP.Core.decode FP.Core.b64 v.toNat) = some .eq
  have hself : ∀ d : FP.Core.Datum, d ≠ .nan → FP.Core.order d d = some .eq := by
    intro d hd
    cases d with
    | nan => exact absurd rfl hd
    | inf s => show some (compare _ _) = _; rw [Int.compare_eq_eq.mpr rfl]
    | fin s c q => show some (compare _ _) = _; rw [Int.compare_eq_eq.mpr rfl]
  refine hself _ fun hd => ?_
  unfold FP.Core.decode at hd
  by_cases h1 : FP.Core.fieldE FP.Core.b64 v.toNat = FP.Core.b64.exps - 1
  · rw [if_pos h1] at hd
    by_cases h2 : FP.Core.fieldT FP.Core.b64 v.toNat = 0
    · rw [if_pos h2] at hd; cases hd
    · have e1 : v.toNat / 4503599627370496 % 2048 = 2047 := h1
      have e2 : ¬ v.toNat % 4503599627370496 = 0 := h2
      omega
  · rw [if_neg h1] at hd
    by_cases h2 : FP.Core.fieldE FP.Core.b64 v.toNat = 0
    · rw [if_pos h2] at hd; cases hd
    · rw [if_neg h2] at hd; cases hd
