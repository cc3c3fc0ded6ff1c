/-! orders told -/
def lwT : List (Nat × String × List Int32) := [(66, "", []), (71, "go ", [103, 111, 32]), (80, ",", [44]), (86, "cut ", [99, 117, 116, 32]), (88, "turn", [116, 117, 114, 110]), (90, "load ", [108, 111, 97, 100, 32]), (92, "unload", [117, 110, 108, 111, 97, 100]), (94, "wait ", [119, 97, 105, 116, 32]), (96, ";", [59]), (102, "gang a at ", [103, 97, 110, 103, 32, 97, 32, 97, 116, 32]), (104, " ", [32]), (106, "{repeat 3{", [123, 114, 101, 112, 101, 97, 116, 32, 51, 123]), (116, "}}gang b at ", [125, 125, 103, 97, 110, 103, 32, 98, 32, 97, 116, 32]), (118, "{while day<9{if bricks>5{load bricks;go 0,0;unload;}else{go hour,day;cut peat;}}}", [123, 119, 104, 105, 108, 101, 32, 100, 97, 121, 60, 57, 123, 105, 102, 32, 98, 114, 105, 99, 107, 115, 62, 53, 123, 108, 111, 97, 100, 32, 98, 114, 105, 99, 107, 115, 59, 103, 111, 32, 48, 44, 48, 59, 117, 110, 108, 111, 97, 100, 59, 125, 101, 108, 115, 101, 123, 103, 111, 32, 104, 111, 117, 114, 44, 100, 97, 121, 59, 99, 117, 116, 32, 112, 101, 97, 116, 59, 125, 125, 125]), (120, "}", [125])]
def LTX (F : EF) : Prop := ∀ t ∈ lwT, ∃ q v, (t.1, t.2.1, q) ∈ F.2.2.1 ∧ (q, v, t.2.2) ∈ F.1
theorem sbi0 : SBI [] 16 (fun _ => 0) := ⟨Nat.zero_le _, by decide, fun k hk => absurd hk (Nat.not_lt_zero _), fun _ => b7_0⟩
theorem lit7 {L : List Int32} (h : L.all (fun x => decide (0 ≤ x.toInt) && decide (x.toInt ≤ 127)) = true) : ∀ k, k < L.length → b7 (L.getD k 0) := by
  intro k hk
  simp only [Bool.and_eq_true, decide_eq_true_eq, List.all_eq_true] at h
  rw [List.getD_eq_getElem?_getD, List.getElem?_eq_getElem hk]
  exact h _ (List.getElem_mem hk)
theorem dg_le (u : Nat) : (dgT u).length ≤ 2 := by
  by_cases h : u < 10
  · rw [dg_1 h]; decide
  · rw [dg_2 h]; decide
theorem dL_told_5 : decode cL_told 5 = .ok (.iload_n 2, 1) := by decide +kernel
theorem dL_told_6 : decode cL_told 6 = .ok (.aload_n 0, 1) := by decide +kernel
theorem dL_told_7 : decode cL_told 7 = .ok (.arraylength, 1) := by decide +kernel
theorem dL_told_8 : decode cL_told 8 = .ok (.if_icmp .ge 192, 3) := by decide +kernel
theorem dL_told_11 : decode cL_told 11 = .ok (.aload_n 0, 1) := by decide +kernel
theorem dL_told_12 : decode cL_told 12 = .ok (.iload_n 2, 1) := by decide +kernel
theorem dL_told_13 : decode cL_told 13 = .ok (.iaload, 1) := by decide +kernel
theorem dL_told_14 : decode cL_told 14 = .ok (.ifCond .ne 42, 3) := by decide +kernel
theorem dL_told_17 : decode cL_told 17 = .ok (.new 68, 3) := by decide +kernel
theorem dL_told_20 : decode cL_told 20 = .ok (.dup, 1) := by decide +kernel
theorem dL_told_21 : decode cL_told 21 = .ok (.invokespecial 70, 3) := by decide +kernel
theorem dL_told_24 : decode cL_told 24 = .ok (.ldc 71, 2) := by decide +kernel
theorem dL_told_26 : decode cL_told 26 = .ok (.invokevirtual 73, 3) := by decide +kernel
theorem dL_told_29 : decode cL_told 29 = .ok (.aload_n 0, 1) := by decide +kernel
theorem dL_told_30 : decode cL_told 30 = .ok (.iload_n 2, 1) := by decide +kernel
theorem dL_told_31 : decode cL_told 31 = .ok (.iconst 1, 1) := by decide +kernel
theorem dL_told_32 : decode cL_told 32 = .ok (.iadd, 1) := by decide +kernel
theorem dL_told_33 : decode cL_told 33 = .ok (.iaload, 1) := by decide +kernel
theorem dL_told_34 : decode cL_told 34 = .ok (.invokevirtual 77, 3) := by decide +kernel
theorem dL_told_37 : decode cL_told 37 = .ok (.ldc 80, 2) := by decide +kernel
theorem dL_told_39 : decode cL_told 39 = .ok (.invokevirtual 73, 3) := by decide +kernel
theorem dL_told_42 : decode cL_told 42 = .ok (.aload_n 0, 1) := by decide +kernel
theorem dL_told_43 : decode cL_told 43 = .ok (.iload_n 2, 1) := by decide +kernel
theorem dL_told_44 : decode cL_told 44 = .ok (.iconst 2, 1) := by decide +kernel
theorem dL_told_45 : decode cL_told 45 = .ok (.iadd, 1) := by decide +kernel
theorem dL_told_46 : decode cL_told 46 = .ok (.iaload, 1) := by decide +kernel
theorem dL_told_47 : decode cL_told 47 = .ok (.invokevirtual 77, 3) := by decide +kernel
theorem dL_told_50 : decode cL_told 50 = .ok (.invokevirtual 82, 3) := by decide +kernel
theorem dL_told_53 : decode cL_told 53 = .ok (.goto 116, 3) := by decide +kernel
theorem dL_told_56 : decode cL_told 56 = .ok (.aload_n 0, 1) := by decide +kernel
theorem dL_told_57 : decode cL_told 57 = .ok (.iload_n 2, 1) := by decide +kernel
theorem dL_told_58 : decode cL_told 58 = .ok (.iaload, 1) := by decide +kernel
theorem dL_told_59 : decode cL_told 59 = .ok (.iconst 1, 1) := by decide +kernel
theorem dL_told_60 : decode cL_told 60 = .ok (.if_icmp .ne 29, 3) := by decide +kernel
theorem dL_told_63 : decode cL_told 63 = .ok (.new 68, 3) := by decide +kernel
theorem dL_told_66 : decode cL_told 66 = .ok (.dup, 1) := by decide +kernel
theorem dL_told_67 : decode cL_told 67 = .ok (.invokespecial 70, 3) := by decide +kernel
theorem dL_told_70 : decode cL_told 70 = .ok (.ldc 86, 2) := by decide +kernel
theorem dL_told_72 : decode cL_told 72 = .ok (.invokevirtual 73, 3) := by decide +kernel
theorem dL_told_75 : decode cL_told 75 = .ok (.aload_n 0, 1) := by decide +kernel
theorem dL_told_76 : decode cL_told 76 = .ok (.iload_n 2, 1) := by decide +kernel
theorem dL_told_77 : decode cL_told 77 = .ok (.iconst 1, 1) := by decide +kernel
theorem dL_told_78 : decode cL_told 78 = .ok (.iadd, 1) := by decide +kernel
theorem dL_told_79 : decode cL_told 79 = .ok (.iaload, 1) := by decide +kernel
theorem dL_told_80 : decode cL_told 80 = .ok (.invokevirtual 77, 3) := by decide +kernel
theorem dL_told_83 : decode cL_told 83 = .ok (.invokevirtual 82, 3) := by decide +kernel
theorem dL_told_86 : decode cL_told 86 = .ok (.goto 83, 3) := by decide +kernel
theorem dL_told_89 : decode cL_told 89 = .ok (.aload_n 0, 1) := by decide +kernel
theorem dL_told_90 : decode cL_told 90 = .ok (.iload_n 2, 1) := by decide +kernel
theorem dL_told_91 : decode cL_told 91 = .ok (.iaload, 1) := by decide +kernel
theorem dL_told_92 : decode cL_told 92 = .ok (.iconst 2, 1) := by decide +kernel
theorem dL_told_93 : decode cL_told 93 = .ok (.if_icmp .ne 8, 3) := by decide +kernel
theorem dL_told_96 : decode cL_told 96 = .ok (.ldc 88, 2) := by decide +kernel
theorem dL_told_98 : decode cL_told 98 = .ok (.goto 71, 3) := by decide +kernel
theorem dL_told_101 : decode cL_told 101 = .ok (.aload_n 0, 1) := by decide +kernel
theorem dL_told_102 : decode cL_told 102 = .ok (.iload_n 2, 1) := by decide +kernel
theorem dL_told_103 : decode cL_told 103 = .ok (.iaload, 1) := by decide +kernel
theorem dL_told_104 : decode cL_told 104 = .ok (.iconst 3, 1) := by decide +kernel
theorem dL_told_105 : decode cL_told 105 = .ok (.if_icmp .ne 29, 3) := by decide +kernel
theorem dL_told_108 : decode cL_told 108 = .ok (.new 68, 3) := by decide +kernel
theorem dL_told_111 : decode cL_told 111 = .ok (.dup, 1) := by decide +kernel
theorem dL_told_112 : decode cL_told 112 = .ok (.invokespecial 70, 3) := by decide +kernel
theorem dL_told_115 : decode cL_told 115 = .ok (.ldc 90, 2) := by decide +kernel
theorem dL_told_117 : decode cL_told 117 = .ok (.invokevirtual 73, 3) := by decide +kernel
theorem dL_told_120 : decode cL_told 120 = .ok (.aload_n 0, 1) := by decide +kernel
theorem dL_told_121 : decode cL_told 121 = .ok (.iload_n 2, 1) := by decide +kernel
theorem dL_told_122 : decode cL_told 122 = .ok (.iconst 1, 1) := by decide +kernel
theorem dL_told_123 : decode cL_told 123 = .ok (.iadd, 1) := by decide +kernel
theorem dL_told_124 : decode cL_told 124 = .ok (.iaload, 1) := by decide +kernel
theorem dL_told_125 : decode cL_told 125 = .ok (.invokevirtual 77, 3) := by decide +kernel
theorem dL_told_128 : decode cL_told 128 = .ok (.invokevirtual 82, 3) := by decide +kernel
theorem dL_told_131 : decode cL_told 131 = .ok (.goto 38, 3) := by decide +kernel
theorem dL_told_134 : decode cL_told 134 = .ok (.aload_n 0, 1) := by decide +kernel
theorem dL_told_135 : decode cL_told 135 = .ok (.iload_n 2, 1) := by decide +kernel
theorem dL_told_136 : decode cL_told 136 = .ok (.iaload, 1) := by decide +kernel
theorem dL_told_137 : decode cL_told 137 = .ok (.iconst 4, 1) := by decide +kernel
theorem dL_told_138 : decode cL_told 138 = .ok (.if_icmp .ne 8, 3) := by decide +kernel
theorem dL_told_141 : decode cL_told 141 = .ok (.ldc 92, 2) := by decide +kernel
theorem dL_told_143 : decode cL_told 143 = .ok (.goto 26, 3) := by decide +kernel
theorem dL_told_146 : decode cL_told 146 = .ok (.new 68, 3) := by decide +kernel
theorem dL_told_149 : decode cL_told 149 = .ok (.dup, 1) := by decide +kernel
theorem dL_told_150 : decode cL_told 150 = .ok (.invokespecial 70, 3) := by decide +kernel
theorem dL_told_153 : decode cL_told 153 = .ok (.ldc 94, 2) := by decide +kernel
theorem dL_told_155 : decode cL_told 155 = .ok (.invokevirtual 73, 3) := by decide +kernel
theorem dL_told_158 : decode cL_told 158 = .ok (.aload_n 0, 1) := by decide +kernel
theorem dL_told_159 : decode cL_told 159 = .ok (.iload_n 2, 1) := by decide +kernel
theorem dL_told_160 : decode cL_told 160 = .ok (.iconst 1, 1) := by decide +kernel
theorem dL_told_161 : decode cL_told 161 = .ok (.iadd, 1) := by decide +kernel
theorem dL_told_162 : decode cL_told 162 = .ok (.iaload, 1) := by decide +kernel
theorem dL_told_163 : decode cL_told 163 = .ok (.invokevirtual 77, 3) := by decide +kernel
theorem dL_told_166 : decode cL_told 166 = .ok (.invokevirtual 82, 3) := by decide +kernel
theorem t_1o {p : Program} {l : Launch} {e : Env} {s : State} {m : MethodId} {args : Array Value} {below : List Frame} {meth : Method} {c : Code} {D : DG} {F : EF} {A : Nat → Prop} {Q : State → Prop} {k n : Nat} (hC : CY p s m args meth c cL_told 4 RL (some (.object "java/lang/String")) D A) (hE : ENV F A s s.heap) {st xt Nt : Nat} {gt : Nat → Int32} {a : Nat} {g : Nat → Int32} (hmo : (a, 18, g) ∈ F.2.1) (hT : LTX F) {i o1 o2 o3 : Nat} (hi : i < 6) (h1 : g (3 * i) = nI o1) (h2 : g (3 * i + 1) = nI o2) (h3 : g (3 * i + 2) = nI o3) (b1 : o1 < 6) (b2 : o2 < 45) (b3 : o3 < 8) (hk : k + 8 ≤ 120) (hn : n + 3024 ≤ 60000) (K1 : ∀ (s1 x1 N1 : Nat) (g1 : Nat → Int32) (_ : N1 = (oneT o1 o2 o3).length) (_ : ∀ k, k < N1 → g1 k = (oneT o1 o2 o3).getD k 0), XC p l e (RM 9 120 60000 260) s m args below meth c D A 4 Q (k + 8) (n + 3024) [(s1, .inr (4, [.ref x1, .int 0, .int 0, .int 0])), (x1, .inl (D.2 1, N1, .inl (g1))), (st, .inr (4, [.ref xt, .int 0, .int 0, .int 0])), (xt, .inl (D.2 1, Nt, .inl (gt)))] 169 [(2, .int (nI (3 * i))), (1, .ref st), (0, .ref a)] [.ref s1]) (K2 : ∀ (q v : Nat) (_ : (q, v, oneT o1 o2 o3) ∈ F.1), XC p l e (RM 9 120 60000 260) s m args below meth c D A 4 Q (k + 8) (n + 3024) [(st, .inr (4, [.ref xt, .int 0, .int 0, .int 0])), (xt, .inl (D.2 1, Nt, .inl (gt)))] 169 [(2, .int (nI (3 * i))), (1, .ref st), (0, .ref a)] [.ref q]) : XC p l e (RM 9 120 60000 260) s m args below meth c D A 4 Q (k) (n) [(st, .inr (4, [.ref xt, .int 0, .int 0, .int 0])), (xt, .inl (D.2 1, Nt, .inl (gt)))] 5 [(2, .int (nI (3 * i))), (1, .ref st), (0, .ref a)] [] := by
  refine cx_iload_n hC dL_told_5 rfl 0 rfl ?_
  refine cx_aload_n hC dL_told_6 rfl 2 rfl ?_
  refine cx_tlen hC (hE.2.2.2.2.2.1 _ hmo) (nI 18) rfl dL_told_7 ?_
  refine cx_icmp_ge hC 200 dL_told_8 (by decide) (fun h => absurd h (fun h => by have := (n_le (a := 18) (by omega) (by omega)).mp h; omega)) (fun _ => ?_)
  refine cx_aload_n hC dL_told_11 rfl 2 rfl ?_
  refine cx_iload_n hC dL_told_12 rfl 0 rfl ?_
  refine cx_ti hC (N := 18) (f := g) (hE.2.2.2.2.2.1 _ hmo) (by rw [i_nI (by omega)]; omega) dL_told_13 ?_
  refine cx_topi (y := (nI o1)) (by rw [ix_nI (by omega)]; exact h1.symm) ?_
  by_cases cc : o1 = 0
  · skip
    obtain ⟨t71, tv71, hr71, hm71⟩ := hT _ (List.mem_of_getElem? (i := 1) rfl : (71, "go ", [103, 111, 32]) ∈ lwT)
    obtain ⟨t80, tv80, hr80, hm80⟩ := hT _ (List.mem_of_getElem? (i := 2) rfl : (80, ",", [44]) ∈ lwT)
    refine cx_if_ne hC 56 dL_told_14 (by decide) (fun h => absurd (by rw [cc]; rfl) h) (fun _ => ?_)
    refine cx_new hC (C := RJ4) (T := TJ4) (N := 4) (ci := 5) tyJ4 [.null, .int 0, .int 0, .int 0] fw_5 tyJ4_ok (tb_22 (List.mem_of_getElem? (i := 9) rfl)) (tb_22 (List.mem_of_getElem? (i := 10) rfl)) kn_RJ4 rfl dfJ4 ⟨by show k + 0 + 1 ≤ 120; omega, by show n + 0 + 4 ≤ 60000; omega⟩ dL_told_17 (fun q1 => ?_)
    refine cx_at (ws' := [(st, .inr (4, [.ref xt, .int 0, .int 0, .int 0])), (xt, .inl (D.2 1, Nt, .inl (gt))), (q1, .inr (5, [.null, .int 0, .int 0, .int 0]))]) (st' := [.ref q1]) rfl rfl ?_
    refine cx_dup hC dL_told_20 rfl ?_
    refine cy_callI hC (y := yJ4_init_da8c8) (cy := cJ4_init_da8c8) (maxL := 1) (nA := 0) (rm := (RM 2 1 16 33)) (mc := 1) (ms := 16) (As := []) (wr := [(st, .inr (4, [.ref xt, .int 0, .int 0, .int 0])), (xt, .inl (D.2 1, Nt, .inl (gt)))]) (j_sbi l D F) [2] [0, 1] rfl rfl rfl rfl (by decide) (ef_sub hC hE [2] rfl) kc_yJ4_init_da8c8 km_L_70 ki_yJ4_init_da8c8 kn_RJ4 rfl ky_yJ4_init_da8c8 rfl ⟨rfl, rfl⟩ ⟨Nat.le_of_ble_eq_true rfl, Nat.le_of_ble_eq_true rfl⟩ rfl (Nat.le_of_ble_eq_true rfl) ⟨by show k + 1 + 1 ≤ 120; omega, by show n + 4 + 16 ≤ 60000; omega⟩ dL_told_21 (fun o w1 h => ?_)
    obtain ⟨rfl, v1, rfl⟩ := h
    refine cx_cnt (k' := k + 2) (n' := n + 20) (by omega) (by omega) ?_
    refine cx_at (ws' := [(st, .inr (4, [.ref xt, .int 0, .int 0, .int 0])), (xt, .inl (D.2 1, Nt, .inl (gt))), (q1, .inr (5, [.ref v1, .int 0, .int 0, .int (nI (([] : List Int32).length))])), (v1, .inl (D.2 1, 16, .inl (fun _ => 0)))]) (st' := [.ref q1]) rfl rfl ?_
    refine cx_ldcS hC (hE.2.2.2.2.2.2.1 _ hr71) dL_told_24 ?_
    refine cy_callV hC (E := RJ4) (y := yJ4_append_15ec4) (cy := cJ4_append_15ec4) (maxL := 2) (nA := 1) (r := (some (.object "java/lang/StringBuilder"))) (rm := (RM 5 1 600 107)) (mc := 1) (ms := 600) (As := [.ref t71]) (wr := [(st, .inr (4, [.ref xt, .int 0, .int 0, .int 0])), (xt, .inl (D.2 1, Nt, .inl (gt)))]) (j_apS l D F (L := [103, 111, 32]) (Ls := ([] : List Int32)) hm71 (lit7 (by decide)) sbi0 (by simp only [List.length_append, List.length_cons, List.length_nil]; have := dg_le o2; have := dg_le o3; omega)) [2, 3] [0, 1] rfl rfl rfl rfl (by decide) (rc_sb hC (q0 := 2) rfl) (ef_sub hC hE [2, 3] rfl) kc_yJ4_append_15ec4 km_L_73 ki_yJ4_append_15ec4 kv_yJ4_append_15ec4 kn_RJ4 ky_yJ4_append_15ec4 rfl ⟨rfl, rfl⟩ ⟨Nat.le_of_ble_eq_true rfl, Nat.le_of_ble_eq_true rfl⟩ rfl (Nat.le_of_ble_eq_true rfl) ⟨by show k + 2 + 1 ≤ 120; omega, by show n + 20 + 600 ≤ 60000; omega⟩ dL_told_26 (fun o w1 h => ?_)
    obtain ⟨rfl, v2, c2, f2, rfl, hI2⟩ := h
    refine cx_cnt (k' := k + 3) (n' := n + 620) (by omega) (by omega) ?_
    refine cx_at (ws' := [(st, .inr (4, [.ref xt, .int 0, .int 0, .int 0])), (xt, .inl (D.2 1, Nt, .inl (gt))), (q1, .inr (5, [.ref v2, .int 0, .int 0, .int (nI ((([] : List Int32) ++ [103, 111, 32]).length))])), (v2, .inl (D.2 1, c2, .inl (f2)))]) (st' := [.ref q1]) rfl rfl ?_
    refine cx_aload_n hC dL_told_29 rfl 2 rfl ?_
    refine cx_iload_n hC dL_told_30 rfl 0 rfl ?_
    refine cx_iconst hC (1 : Int32) dL_told_31 (by decide) ?_
    refine cx_iadd hC dL_told_32 ?_
    refine cx_topi (y := (nI (3 * i + 1))) ((n_suc _).symm) ?_
    refine cx_ti hC (N := 18) (f := g) (hE.2.2.2.2.2.1 _ hmo) (by rw [i_nI (by omega)]; omega) dL_told_33 ?_
    refine cx_topi (y := (nI o2)) (by rw [ix_nI (by omega)]; exact h2.symm) ?_
    refine cy_callV hC (E := RJ4) (y := yJ4_append_bf812) (cy := cJ4_append_bf812) (maxL := 2) (nA := 1) (r := (some (.object "java/lang/StringBuilder"))) (rm := (RM 5 1 600 107)) (mc := 1) (ms := 600) (As := [.int (nI o2)]) (wr := [(st, .inr (4, [.ref xt, .int 0, .int 0, .int 0])), (xt, .inl (D.2 1, Nt, .inl (gt)))]) (j_apI l D F (u := o2) (Ls := (([] : List Int32) ++ [103, 111, 32])) (by omega) hI2 (by simp only [List.length_append, List.length_cons, List.length_nil]; have := dg_le o2; have := dg_le o3; omega)) [2, 3] [0, 1] rfl rfl rfl rfl (by decide) (rc_sb hC (q0 := 2) rfl) (ef_sub hC hE [2, 3] rfl) kc_yJ4_append_bf812 km_L_77 ki_yJ4_append_bf812 kv_yJ4_append_bf812 kn_RJ4 ky_yJ4_append_bf812 rfl ⟨rfl, rfl⟩ ⟨Nat.le_of_ble_eq_true rfl, Nat.le_of_ble_eq_true rfl⟩ rfl (Nat.le_of_ble_eq_true rfl) ⟨by show k + 3 + 1 ≤ 120; omega, by show n + 620 + 600 ≤ 60000; omega⟩ dL_told_34 (fun o w1 h => ?_)
    obtain ⟨rfl, v3, c3, f3, rfl, hI3⟩ := h
    refine cx_cnt (k' := k + 4) (n' := n + 1220) (by omega) (by omega) ?_
    refine cx_at (ws' := [(st, .inr (4, [.ref xt, .int 0, .int 0, .int 0])), (xt, .inl (D.2 1, Nt, .inl (gt))), (q1, .inr (5, [.ref v3, .int 0, .int 0, .int (nI (((([] : List Int32) ++ [103, 111, 32]) ++ dgT o2).length))])), (v3, .inl (D.2 1, c3, .inl (f3)))]) (st' := [.ref q1]) rfl rfl ?_
    refine cx_ldcS hC (hE.2.2.2.2.2.2.1 _ hr80) dL_told_37 ?_
    refine cy_callV hC (E := RJ4) (y := yJ4_append_15ec4) (cy := cJ4_append_15ec4) (maxL := 2) (nA := 1) (r := (some (.object "java/lang/StringBuilder"))) (rm := (RM 5 1 600 107)) (mc := 1) (ms := 600) (As := [.ref t80]) (wr := [(st, .inr (4, [.ref xt, .int 0, .int 0, .int 0])), (xt, .inl (D.2 1, Nt, .inl (gt)))]) (j_apS l D F (L := [44]) (Ls := ((([] : List Int32) ++ [103, 111, 32]) ++ dgT o2)) hm80 (lit7 (by decide)) hI3 (by simp only [List.length_append, List.length_cons, List.length_nil]; have := dg_le o2; have := dg_le o3; omega)) [2, 3] [0, 1] rfl rfl rfl rfl (by decide) (rc_sb hC (q0 := 2) rfl) (ef_sub hC hE [2, 3] rfl) kc_yJ4_append_15ec4 km_L_73 ki_yJ4_append_15ec4 kv_yJ4_append_15ec4 kn_RJ4 ky_yJ4_append_15ec4 rfl ⟨rfl, rfl⟩ ⟨Nat.le_of_ble_eq_true rfl, Nat.le_of_ble_eq_true rfl⟩ rfl (Nat.le_of_ble_eq_true rfl) ⟨by show k + 4 + 1 ≤ 120; omega, by show n + 1220 + 600 ≤ 60000; omega⟩ dL_told_39 (fun o w1 h => ?_)
    obtain ⟨rfl, v4, c4, f4, rfl, hI4⟩ := h
    refine cx_cnt (k' := k + 5) (n' := n + 1820) (by omega) (by omega) ?_
    refine cx_at (ws' := [(st, .inr (4, [.ref xt, .int 0, .int 0, .int 0])), (xt, .inl (D.2 1, Nt, .inl (gt))), (q1, .inr (5, [.ref v4, .int 0, .int 0, .int (nI ((((([] : List Int32) ++ [103, 111, 32]) ++ dgT o2) ++ [44]).length))])), (v4, .inl (D.2 1, c4, .inl (f4)))]) (st' := [.ref q1]) rfl rfl ?_
    refine cx_aload_n hC dL_told_42 rfl 2 rfl ?_
    refine cx_iload_n hC dL_told_43 rfl 0 rfl ?_
    refine cx_iconst hC (2 : Int32) dL_told_44 (by decide) ?_
    refine cx_iadd hC dL_told_45 ?_
    refine cx_topi (y := (nI (3 * i + 2))) ((n_add _ 2).symm) ?_
    refine cx_ti hC (N := 18) (f := g) (hE.2.2.2.2.2.1 _ hmo) (by rw [i_nI (by omega)]; omega) dL_told_46 ?_
    refine cx_topi (y := (nI o3)) (by rw [ix_nI (by omega)]; exact h3.symm) ?_
    refine cy_callV hC (E := RJ4) (y := yJ4_append_bf812) (cy := cJ4_append_bf812) (maxL := 2) (nA := 1) (r := (some (.object "java/lang/StringBuilder"))) (rm := (RM 5 1 600 107)) (mc := 1) (ms := 600) (As := [.int (nI o3)]) (wr := [(st, .inr (4, [.ref xt, .int 0, .int 0, .int 0])), (xt, .inl (D.2 1, Nt, .inl (gt)))]) (j_apI l D F (u := o3) (Ls := (((([] : List Int32) ++ [103, 111, 32]) ++ dgT o2) ++ [44])) (by omega) hI4 (by simp only [List.length_append, List.length_cons, List.length_nil]; have := dg_le o2; have := dg_le o3; omega)) [2, 3] [0, 1] rfl rfl rfl rfl (by decide) (rc_sb hC (q0 := 2) rfl) (ef_sub hC hE [2, 3] rfl) kc_yJ4_append_bf812 km_L_77 ki_yJ4_append_bf812 kv_yJ4_append_bf812 kn_RJ4 ky_yJ4_append_bf812 rfl ⟨rfl, rfl⟩ ⟨Nat.le_of_ble_eq_true rfl, Nat.le_of_ble_eq_true rfl⟩ rfl (Nat.le_of_ble_eq_true rfl) ⟨by show k + 5 + 1 ≤ 120; omega, by show n + 1820 + 600 ≤ 60000; omega⟩ dL_told_47 (fun o w1 h => ?_)
    obtain ⟨rfl, v5, c5, f5, rfl, hI5⟩ := h
    refine cx_cnt (k' := k + 6) (n' := n + 2420) (by omega) (by omega) ?_
    refine cx_at (ws' := [(st, .inr (4, [.ref xt, .int 0, .int 0, .int 0])), (xt, .inl (D.2 1, Nt, .inl (gt))), (q1, .inr (5, [.ref v5, .int 0, .int 0, .int (nI (((((([] : List Int32) ++ [103, 111, 32]) ++ dgT o2) ++ [44]) ++ dgT o3).length))])), (v5, .inl (D.2 1, c5, .inl (f5)))]) (st' := [.ref q1]) rfl rfl ?_
    refine cy_callV hC (E := RJ4) (y := yJ4_toString_0e30d) (cy := cJ4_toString_0e30d) (maxL := 1) (nA := 0) (r := (some (.object "java/lang/String"))) (rm := (RM 6 2 604 131)) (mc := 2) (ms := 604) (As := []) (wr := [(st, .inr (4, [.ref xt, .int 0, .int 0, .int 0])), (xt, .inl (D.2 1, Nt, .inl (gt)))]) (j_toS l D F (Ls := ((((([] : List Int32) ++ [103, 111, 32]) ++ dgT o2) ++ [44]) ++ dgT o3)) hI5) [2, 3] [0, 1] rfl rfl rfl rfl (by decide) (rc_sb hC (q0 := 2) rfl) (ef_sub hC hE [2, 3] rfl) kc_yJ4_toString_0e30d km_L_82 ki_yJ4_toString_0e30d kv_yJ4_toString_0e30d kn_RJ4 ky_yJ4_toString_0e30d rfl ⟨rfl, rfl⟩ ⟨Nat.le_of_ble_eq_true rfl, Nat.le_of_ble_eq_true rfl⟩ rfl (Nat.le_of_ble_eq_true rfl) ⟨by show k + 6 + 2 ≤ 120; omega, by show n + 2420 + 604 ≤ 60000; omega⟩ dL_told_50 (fun o w1 h => ?_)
    obtain ⟨s1, x1, N1, g1, rfl, rfl, hN1, hg1⟩ := h
    refine cx_cnt (k' := k + 8) (n' := n + 3024) (by omega) (by omega) ?_
    refine cx_at (ws' := [(st, .inr (4, [.ref xt, .int 0, .int 0, .int 0])), (xt, .inl (D.2 1, Nt, .inl (gt))), (q1, .inr (5, [.ref v5, .int 0, .int 0, .int (nI (((((([] : List Int32) ++ [103, 111, 32]) ++ dgT o2) ++ [44]) ++ dgT o3).length))])), (v5, .inl (D.2 1, c5, .inl (f5))), (s1, .inr (4, [.ref x1, .int 0, .int 0, .int 0])), (x1, .inl (D.2 1, N1, .inl (g1)))]) (st' := [.ref s1]) rfl rfl ?_
    refine cx_goto hC 169 dL_told_53 (by decide) ?_
    refine cx_keep (ws' := [(s1, .inr (4, [.ref x1, .int 0, .int 0, .int 0])), (x1, .inl (D.2 1, N1, .inl (g1))), (st, .inr (4, [.ref xt, .int 0, .int 0, .int 0])), (xt, .inl (D.2 1, Nt, .inl (gt)))]) [4, 5, 0, 1] rfl rfl ?_
    have eL : ((((([] : List Int32) ++ [103, 111, 32]) ++ dgT o2) ++ [44]) ++ dgT o3) = oneT o1 o2 o3 := by rw [cc]; rfl
    refine cx_widen (k' := k + 8) (n' := n + 3024) (by omega) (by omega) ?_
    exact K1 s1 x1 N1 g1 (by rw [← eL]; exact hN1) (fun k hk => by rw [← eL]; exact hg1 k (by rw [← hN1]; exact hk))
  · skip
    refine cx_if_ne hC 56 dL_told_14 (by decide) (fun _ => ?_) (fun h => absurd h (fun h => cc ((n_inj (b := 0) (by omega) (by omega)).mp h)))
    refine cx_aload_n hC dL_told_56 rfl 2 rfl ?_
    refine cx_iload_n hC dL_told_57 rfl 0 rfl ?_
    refine cx_ti hC (N := 18) (f := g) (hE.2.2.2.2.2.1 _ hmo) (by rw [i_nI (by omega)]; omega) dL_told_58 ?_
    refine cx_topi (y := (nI o1)) (by rw [ix_nI (by omega)]; exact h1.symm) ?_
    refine cx_iconst hC (1 : Int32) dL_told_59 (by decide) ?_
    have c0 := cc; clear cc
    by_cases cc : o1 = 1
    · skip
      obtain ⟨t86, tv86, hr86, hm86⟩ := hT _ (List.mem_of_getElem? (i := 3) rfl : (86, "cut ", [99, 117, 116, 32]) ∈ lwT)
      refine cx_icmp_ne hC 89 dL_told_60 (by decide) (fun h => absurd (by rw [cc]; rfl) h) (fun _ => ?_)
      refine cx_new hC (C := RJ4) (T := TJ4) (N := 4) (ci := 5) tyJ4 [.null, .int 0, .int 0, .int 0] fw_5 tyJ4_ok (tb_22 (List.mem_of_getElem? (i := 9) rfl)) (tb_22 (List.mem_of_getElem? (i := 10) rfl)) kn_RJ4 rfl dfJ4 ⟨by show k + 0 + 1 ≤ 120; omega, by show n + 0 + 4 ≤ 60000; omega⟩ dL_told_63 (fun q2 => ?_)
      refine cx_at (ws' := [(st, .inr (4, [.ref xt, .int 0, .int 0, .int 0])), (xt, .inl (D.2 1, Nt, .inl (gt))), (q2, .inr (5, [.null, .int 0, .int 0, .int 0]))]) (st' := [.ref q2]) rfl rfl ?_
      refine cx_dup hC dL_told_66 rfl ?_
      refine cy_callI hC (y := yJ4_init_da8c8) (cy := cJ4_init_da8c8) (maxL := 1) (nA := 0) (rm := (RM 2 1 16 33)) (mc := 1) (ms := 16) (As := []) (wr := [(st, .inr (4, [.ref xt, .int 0, .int 0, .int 0])), (xt, .inl (D.2 1, Nt, .inl (gt)))]) (j_sbi l D F) [2] [0, 1] rfl rfl rfl rfl (by decide) (ef_sub hC hE [2] rfl) kc_yJ4_init_da8c8 km_L_70 ki_yJ4_init_da8c8 kn_RJ4 rfl ky_yJ4_init_da8c8 rfl ⟨rfl, rfl⟩ ⟨Nat.le_of_ble_eq_true rfl, Nat.le_of_ble_eq_true rfl⟩ rfl (Nat.le_of_ble_eq_true rfl) ⟨by show k + 1 + 1 ≤ 120; omega, by show n + 4 + 16 ≤ 60000; omega⟩ dL_told_67 (fun o w1 h => ?_)
      obtain ⟨rfl, v7, rfl⟩ := h
      refine cx_cnt (k' := k + 2) (n' := n + 20) (by omega) (by omega) ?_
      refine cx_at (ws' := [(st, .inr (4, [.ref xt, .int 0, .int 0, .int 0])), (xt, .inl (D.2 1, Nt, .inl (gt))), (q2, .inr (5, [.ref v7, .int 0, .int 0, .int (nI (([] : List Int32).length))])), (v7, .inl (D.2 1, 16, .inl (fun _ => 0)))]) (st' := [.ref q2]) rfl rfl ?_
      refine cx_ldcS hC (hE.2.2.2.2.2.2.1 _ hr86) dL_told_70 ?_
      refine cy_callV hC (E := RJ4) (y := yJ4_append_15ec4) (cy := cJ4_append_15ec4) (maxL := 2) (nA := 1) (r := (some (.object "java/lang/StringBuilder"))) (rm := (RM 5 1 600 107)) (mc := 1) (ms := 600) (As := [.ref t86]) (wr := [(st, .inr (4, [.ref xt, .int 0, .int 0, .int 0])), (xt, .inl (D.2 1, Nt, .inl (gt)))]) (j_apS l D F (L := [99, 117, 116, 32]) (Ls := ([] : List Int32)) hm86 (lit7 (by decide)) sbi0 (by simp only [List.length_append, List.length_cons, List.length_nil]; have := dg_le o2; have := dg_le o3; omega)) [2, 3] [0, 1] rfl rfl rfl rfl (by decide) (rc_sb hC (q0 := 2) rfl) (ef_sub hC hE [2, 3] rfl) kc_yJ4_append_15ec4 km_L_73 ki_yJ4_append_15ec4 kv_yJ4_append_15ec4 kn_RJ4 ky_yJ4_append_15ec4 rfl ⟨rfl, rfl⟩ ⟨Nat.le_of_ble_eq_true rfl, Nat.le_of_ble_eq_true rfl⟩ rfl (Nat.le_of_ble_eq_true rfl) ⟨by show k + 2 + 1 ≤ 120; omega, by show n + 20 + 600 ≤ 60000; omega⟩ dL_told_72 (fun o w1 h => ?_)
      obtain ⟨rfl, v8, c8, f8, rfl, hI8⟩ := h
      refine cx_cnt (k' := k + 3) (n' := n + 620) (by omega) (by omega) ?_
      refine cx_at (ws' := [(st, .inr (4, [.ref xt, .int 0, .int 0, .int 0])), (xt, .inl (D.2 1, Nt, .inl (gt))), (q2, .inr (5, [.ref v8, .int 0, .int 0, .int (nI ((([] : List Int32) ++ [99, 117, 116, 32]).length))])), (v8, .inl (D.2 1, c8, .inl (f8)))]) (st' := [.ref q2]) rfl rfl ?_
      refine cx_aload_n hC dL_told_75 rfl 2 rfl ?_
      refine cx_iload_n hC dL_told_76 rfl 0 rfl ?_
      refine cx_iconst hC (1 : Int32) dL_told_77 (by decide) ?_
      refine cx_iadd hC dL_told_78 ?_
      refine cx_topi (y := (nI (3 * i + 1))) ((n_suc _).symm) ?_
      refine cx_ti hC (N := 18) (f := g) (hE.2.2.2.2.2.1 _ hmo) (by rw [i_nI (by omega)]; omega) dL_told_79 ?_
      refine cx_topi (y := (nI o2)) (by rw [ix_nI (by omega)]; exact h2.symm) ?_
      refine cy_callV hC (E := RJ4) (y := yJ4_append_bf812) (cy := cJ4_append_bf812) (maxL := 2) (nA := 1) (r := (some (.object "java/lang/StringBuilder"))) (rm := (RM 5 1 600 107)) (mc := 1) (ms := 600) (As := [.int (nI o2)]) (wr := [(st, .inr (4, [.ref xt, .int 0, .int 0, .int 0])), (xt, .inl (D.2 1, Nt, .inl (gt)))]) (j_apI l D F (u := o2) (Ls := (([] : List Int32) ++ [99, 117, 116, 32])) (by omega) hI8 (by simp only [List.length_append, List.length_cons, List.length_nil]; have := dg_le o2; have := dg_le o3; omega)) [2, 3] [0, 1] rfl rfl rfl rfl (by decide) (rc_sb hC (q0 := 2) rfl) (ef_sub hC hE [2, 3] rfl) kc_yJ4_append_bf812 km_L_77 ki_yJ4_append_bf812 kv_yJ4_append_bf812 kn_RJ4 ky_yJ4_append_bf812 rfl ⟨rfl, rfl⟩ ⟨Nat.le_of_ble_eq_true rfl, Nat.le_of_ble_eq_true rfl⟩ rfl (Nat.le_of_ble_eq_true rfl) ⟨by show k + 3 + 1 ≤ 120; omega, by show n + 620 + 600 ≤ 60000; omega⟩ dL_told_80 (fun o w1 h => ?_)
      obtain ⟨rfl, v9, c9, f9, rfl, hI9⟩ := h
      refine cx_cnt (k' := k + 4) (n' := n + 1220) (by omega) (by omega) ?_
      refine cx_at (ws' := [(st, .inr (4, [.ref xt, .int 0, .int 0, .int 0])), (xt, .inl (D.2 1, Nt, .inl (gt))), (q2, .inr (5, [.ref v9, .int 0, .int 0, .int (nI (((([] : List Int32) ++ [99, 117, 116, 32]) ++ dgT o2).length))])), (v9, .inl (D.2 1, c9, .inl (f9)))]) (st' := [.ref q2]) rfl rfl ?_
      refine cy_callV hC (E := RJ4) (y := yJ4_toString_0e30d) (cy := cJ4_toString_0e30d) (maxL := 1) (nA := 0) (r := (some (.object "java/lang/String"))) (rm := (RM 6 2 604 131)) (mc := 2) (ms := 604) (As := []) (wr := [(st, .inr (4, [.ref xt, .int 0, .int 0, .int 0])), (xt, .inl (D.2 1, Nt, .inl (gt)))]) (j_toS l D F (Ls := ((([] : List Int32) ++ [99, 117, 116, 32]) ++ dgT o2)) hI9) [2, 3] [0, 1] rfl rfl rfl rfl (by decide) (rc_sb hC (q0 := 2) rfl) (ef_sub hC hE [2, 3] rfl) kc_yJ4_toString_0e30d km_L_82 ki_yJ4_toString_0e30d kv_yJ4_toString_0e30d kn_RJ4 ky_yJ4_toString_0e30d rfl ⟨rfl, rfl⟩ ⟨Nat.le_of_ble_eq_true rfl, Nat.le_of_ble_eq_true rfl⟩ rfl (Nat.le_of_ble_eq_true rfl) ⟨by show k + 4 + 2 ≤ 120; omega, by show n + 1220 + 604 ≤ 60000; omega⟩ dL_told_83 (fun o w1 h => ?_)
      obtain ⟨s1, x1, N1, g1, rfl, rfl, hN1, hg1⟩ := h
      refine cx_cnt (k' := k + 6) (n' := n + 1824) (by omega) (by omega) ?_
      refine cx_at (ws' := [(st, .inr (4, [.ref xt, .int 0, .int 0, .int 0])), (xt, .inl (D.2 1, Nt, .inl (gt))), (q2, .inr (5, [.ref v9, .int 0, .int 0, .int (nI (((([] : List Int32) ++ [99, 117, 116, 32]) ++ dgT o2).length))])), (v9, .inl (D.2 1, c9, .inl (f9))), (s1, .inr (4, [.ref x1, .int 0, .int 0, .int 0])), (x1, .inl (D.2 1, N1, .inl (g1)))]) (st' := [.ref s1]) rfl rfl ?_
      refine cx_goto hC 169 dL_told_86 (by decide) ?_
      refine cx_keep (ws' := [(s1, .inr (4, [.ref x1, .int 0, .int 0, .int 0])), (x1, .inl (D.2 1, N1, .inl (g1))), (st, .inr (4, [.ref xt, .int 0, .int 0, .int 0])), (xt, .inl (D.2 1, Nt, .inl (gt)))]) [4, 5, 0, 1] rfl rfl ?_
      have eL : ((([] : List Int32) ++ [99, 117, 116, 32]) ++ dgT o2) = oneT o1 o2 o3 := by rw [cc]; rfl
      refine cx_widen (k' := k + 8) (n' := n + 3024) (by omega) (by omega) ?_
      exact K1 s1 x1 N1 g1 (by rw [← eL]; exact hN1) (fun k hk => by rw [← eL]; exact hg1 k (by rw [← hN1]; exact hk))
    · skip
      refine cx_icmp_ne hC 89 dL_told_60 (by decide) (fun _ => ?_) (fun h => absurd h (fun h => cc ((n_inj (b := 1) (by omega) (by omega)).mp h)))
      refine cx_aload_n hC dL_told_89 rfl 2 rfl ?_
      refine cx_iload_n hC dL_told_90 rfl 0 rfl ?_
      refine cx_ti hC (N := 18) (f := g) (hE.2.2.2.2.2.1 _ hmo) (by rw [i_nI (by omega)]; omega) dL_told_91 ?_
      refine cx_topi (y := (nI o1)) (by rw [ix_nI (by omega)]; exact h1.symm) ?_
      refine cx_iconst hC (2 : Int32) dL_told_92 (by decide) ?_
      have c1 := cc; clear cc
      by_cases cc : o1 = 2
      · skip
        obtain ⟨t88, tv88, hr88, hm88⟩ := hT _ (List.mem_of_getElem? (i := 4) rfl : (88, "turn", [116, 117, 114, 110]) ∈ lwT)
        refine cx_icmp_ne hC 101 dL_told_93 (by decide) (fun h => absurd (by rw [cc]; rfl) h) (fun _ => ?_)
        refine cx_ldcS hC (hE.2.2.2.2.2.2.1 _ hr88) dL_told_96 ?_
        refine cx_goto hC 169 dL_told_98 (by decide) ?_
        have eL : [116, 117, 114, 110] = oneT o1 o2 o3 := by rw [cc]; rfl
        refine cx_widen (k' := k + 8) (n' := n + 3024) (by omega) (by omega) ?_
        exact K2 t88 tv88 (by rw [← eL]; exact hm88)
      · skip
        refine cx_icmp_ne hC 101 dL_told_93 (by decide) (fun _ => ?_) (fun h => absurd h (fun h => cc ((n_inj (b := 2) (by omega) (by omega)).mp h)))
        refine cx_aload_n hC dL_told_101 rfl 2 rfl ?_
        refine cx_iload_n hC dL_told_102 rfl 0 rfl ?_
        refine cx_ti hC (N := 18) (f := g) (hE.2.2.2.2.2.1 _ hmo) (by rw [i_nI (by omega)]; omega) dL_told_103 ?_
        refine cx_topi (y := (nI o1)) (by rw [ix_nI (by omega)]; exact h1.symm) ?_
        refine cx_iconst hC (3 : Int32) dL_told_104 (by decide) ?_
        have c2 := cc; clear cc
        by_cases cc : o1 = 3
        · skip
          obtain ⟨t90, tv90, hr90, hm90⟩ := hT _ (List.mem_of_getElem? (i := 5) rfl : (90, "load ", [108, 111, 97, 100, 32]) ∈ lwT)
          refine cx_icmp_ne hC 134 dL_told_105 (by decide) (fun h => absurd (by rw [cc]; rfl) h) (fun _ => ?_)
          refine cx_new hC (C := RJ4) (T := TJ4) (N := 4) (ci := 5) tyJ4 [.null, .int 0, .int 0, .int 0] fw_5 tyJ4_ok (tb_22 (List.mem_of_getElem? (i := 9) rfl)) (tb_22 (List.mem_of_getElem? (i := 10) rfl)) kn_RJ4 rfl dfJ4 ⟨by show k + 0 + 1 ≤ 120; omega, by show n + 0 + 4 ≤ 60000; omega⟩ dL_told_108 (fun q3 => ?_)
          refine cx_at (ws' := [(st, .inr (4, [.ref xt, .int 0, .int 0, .int 0])), (xt, .inl (D.2 1, Nt, .inl (gt))), (q3, .inr (5, [.null, .int 0, .int 0, .int 0]))]) (st' := [.ref q3]) rfl rfl ?_
          refine cx_dup hC dL_told_111 rfl ?_
          refine cy_callI hC (y := yJ4_init_da8c8) (cy := cJ4_init_da8c8) (maxL := 1) (nA := 0) (rm := (RM 2 1 16 33)) (mc := 1) (ms := 16) (As := []) (wr := [(st, .inr (4, [.ref xt, .int 0, .int 0, .int 0])), (xt, .inl (D.2 1, Nt, .inl (gt)))]) (j_sbi l D F) [2] [0, 1] rfl rfl rfl rfl (by decide) (ef_sub hC hE [2] rfl) kc_yJ4_init_da8c8 km_L_70 ki_yJ4_init_da8c8 kn_RJ4 rfl ky_yJ4_init_da8c8 rfl ⟨rfl, rfl⟩ ⟨Nat.le_of_ble_eq_true rfl, Nat.le_of_ble_eq_true rfl⟩ rfl (Nat.le_of_ble_eq_true rfl) ⟨by show k + 1 + 1 ≤ 120; omega, by show n + 4 + 16 ≤ 60000; omega⟩ dL_told_112 (fun o w1 h => ?_)
          obtain ⟨rfl, v11, rfl⟩ := h
          refine cx_cnt (k' := k + 2) (n' := n + 20) (by omega) (by omega) ?_
          refine cx_at (ws' := [(st, .inr (4, [.ref xt, .int 0, .int 0, .int 0])), (xt, .inl (D.2 1, Nt, .inl (gt))), (q3, .inr (5, [.ref v11, .int 0, .int 0, .int (nI (([] : List Int32).length))])), (v11, .inl (D.2 1, 16, .inl (fun _ => 0)))]) (st' := [.ref q3]) rfl rfl ?_
          refine cx_ldcS hC (hE.2.2.2.2.2.2.1 _ hr90) dL_told_115 ?_
          refine cy_callV hC (E := RJ4) (y := yJ4_append_15ec4) (cy := cJ4_append_15ec4) (maxL := 2) (nA := 1) (r := (some (.object "java/lang/StringBuilder"))) (rm := (RM 5 1 600 107)) (mc := 1) (ms := 600) (As := [.ref t90]) (wr := [(st, .inr (4, [.ref xt, .int 0, .int 0, .int 0])), (xt, .inl (D.2 1, Nt, .inl (gt)))]) (j_apS l D F (L := [108, 111, 97, 100, 32]) (Ls := ([] : List Int32)) hm90 (lit7 (by decide)) sbi0 (by simp only [List.length_append, List.length_cons, List.length_nil]; have := dg_le o2; have := dg_le o3; omega)) [2, 3] [0, 1] rfl rfl rfl rfl (by decide) (rc_sb hC (q0 := 2) rfl) (ef_sub hC hE [2, 3] rfl) kc_yJ4_append_15ec4 km_L_73 ki_yJ4_append_15ec4 kv_yJ4_append_15ec4 kn_RJ4 ky_yJ4_append_15ec4 rfl ⟨rfl, rfl⟩ ⟨Nat.le_of_ble_eq_true rfl, Nat.le_of_ble_eq_true rfl⟩ rfl (Nat.le_of_ble_eq_true rfl) ⟨by show k + 2 + 1 ≤ 120; omega, by show n + 20 + 600 ≤ 60000; omega⟩ dL_told_117 (fun o w1 h => ?_)
          obtain ⟨rfl, v12, c12, f12, rfl, hI12⟩ := h
          refine cx_cnt (k' := k + 3) (n' := n + 620) (by omega) (by omega) ?_
          refine cx_at (ws' := [(st, .inr (4, [.ref xt, .int 0, .int 0, .int 0])), (xt, .inl (D.2 1, Nt, .inl (gt))), (q3, .inr (5, [.ref v12, .int 0, .int 0, .int (nI ((([] : List Int32) ++ [108, 111, 97, 100, 32]).length))])), (v12, .inl (D.2 1, c12, .inl (f12)))]) (st' := [.ref q3]) rfl rfl ?_
          refine cx_aload_n hC dL_told_120 rfl 2 rfl ?_
          refine cx_iload_n hC dL_told_121 rfl 0 rfl ?_
          refine cx_iconst hC (1 : Int32) dL_told_122 (by decide) ?_
          refine cx_iadd hC dL_told_123 ?_
          refine cx_topi (y := (nI (3 * i + 1))) ((n_suc _).symm) ?_
          refine cx_ti hC (N := 18) (f := g) (hE.2.2.2.2.2.1 _ hmo) (by rw [i_nI (by omega)]; omega) dL_told_124 ?_
          refine cx_topi (y := (nI o2)) (by rw [ix_nI (by omega)]; exact h2.symm) ?_
          refine cy_callV hC (E := RJ4) (y := yJ4_append_bf812) (cy := cJ4_append_bf812) (maxL := 2) (nA := 1) (r := (some (.object "java/lang/StringBuilder"))) (rm := (RM 5 1 600 107)) (mc := 1) (ms := 600) (As := [.int (nI o2)]) (wr := [(st, .inr (4, [.ref xt, .int 0, .int 0, .int 0])), (xt, .inl (D.2 1, Nt, .inl (gt)))]) (j_apI l D F (u := o2) (Ls := (([] : List Int32) ++ [108, 111, 97, 100, 32])) (by omega) hI12 (by simp only [List.length_append, List.length_cons, List.length_nil]; have := dg_le o2; have := dg_le o3; omega)) [2, 3] [0, 1] rfl rfl rfl rfl (by decide) (rc_sb hC (q0 := 2) rfl) (ef_sub hC hE [2, 3] rfl) kc_yJ4_append_bf812 km_L_77 ki_yJ4_append_bf812 kv_yJ4_append_bf812 kn_RJ4 ky_yJ4_append_bf812 rfl ⟨rfl, rfl⟩ ⟨Nat.le_of_ble_eq_true rfl, Nat.le_of_ble_eq_true rfl⟩ rfl (Nat.le_of_ble_eq_true rfl) ⟨by show k + 3 + 1 ≤ 120; omega, by show n + 620 + 600 ≤ 60000; omega⟩ dL_told_125 (fun o w1 h => ?_)
          obtain ⟨rfl, v13, c13, f13, rfl, hI13⟩ := h
          refine cx_cnt (k' := k + 4) (n' := n + 1220) (by omega) (by omega) ?_
          refine cx_at (ws' := [(st, .inr (4, [.ref xt, .int 0, .int 0, .int 0])), (xt, .inl (D.2 1, Nt, .inl (gt))), (q3, .inr (5, [.ref v13, .int 0, .int 0, .int (nI (((([] : List Int32) ++ [108, 111, 97, 100, 32]) ++ dgT o2).length))])), (v13, .inl (D.2 1, c13, .inl (f13)))]) (st' := [.ref q3]) rfl rfl ?_
          refine cy_callV hC (E := RJ4) (y := yJ4_toString_0e30d) (cy := cJ4_toString_0e30d) (maxL := 1) (nA := 0) (r := (some (.object "java/lang/String"))) (rm := (RM 6 2 604 131)) (mc := 2) (ms := 604) (As := []) (wr := [(st, .inr (4, [.ref xt, .int 0, .int 0, .int 0])), (xt, .inl (D.2 1, Nt, .inl (gt)))]) (j_toS l D F (Ls := ((([] : List Int32) ++ [108, 111, 97, 100, 32]) ++ dgT o2)) hI13) [2, 3] [0, 1] rfl rfl rfl rfl (by decide) (rc_sb hC (q0 := 2) rfl) (ef_sub hC hE [2, 3] rfl) kc_yJ4_toString_0e30d km_L_82 ki_yJ4_toString_0e30d kv_yJ4_toString_0e30d kn_RJ4 ky_yJ4_toString_0e30d rfl ⟨rfl, rfl⟩ ⟨Nat.le_of_ble_eq_true rfl, Nat.le_of_ble_eq_true rfl⟩ rfl (Nat.le_of_ble_eq_true rfl) ⟨by show k + 4 + 2 ≤ 120; omega, by show n + 1220 + 604 ≤ 60000; omega⟩ dL_told_128 (fun o w1 h => ?_)
          obtain ⟨s1, x1, N1, g1, rfl, rfl, hN1, hg1⟩ := h
          refine cx_cnt (k' := k + 6) (n' := n + 1824) (by omega) (by omega) ?_
          refine cx_at (ws' := [(st, .inr (4, [.ref xt, .int 0, .int 0, .int 0])), (xt, .inl (D.2 1, Nt, .inl (gt))), (q3, .inr (5, [.ref v13, .int 0, .int 0, .int (nI (((([] : List Int32) ++ [108, 111, 97, 100, 32]) ++ dgT o2).length))])), (v13, .inl (D.2 1, c13, .inl (f13))), (s1, .inr (4, [.ref x1, .int 0, .int 0, .int 0])), (x1, .inl (D.2 1, N1, .inl (g1)))]) (st' := [.ref s1]) rfl rfl ?_
          refine cx_goto hC 169 dL_told_131 (by decide) ?_
          refine cx_keep (ws' := [(s1, .inr (4, [.ref x1, .int 0, .int 0, .int 0])), (x1, .inl (D.2 1, N1, .inl (g1))), (st, .inr (4, [.ref xt, .int 0, .int 0, .int 0])), (xt, .inl (D.2 1, Nt, .inl (gt)))]) [4, 5, 0, 1] rfl rfl ?_
          have eL : ((([] : List Int32) ++ [108, 111, 97, 100, 32]) ++ dgT o2) = oneT o1 o2 o3 := by rw [cc]; rfl
          refine cx_widen (k' := k + 8) (n' := n + 3024) (by omega) (by omega) ?_
          exact K1 s1 x1 N1 g1 (by rw [← eL]; exact hN1) (fun k hk => by rw [← eL]; exact hg1 k (by rw [← hN1]; exact hk))
        · skip
          refine cx_icmp_ne hC 134 dL_told_105 (by decide) (fun _ => ?_) (fun h => absurd h (fun h => cc ((n_inj (b := 3) (by omega) (by omega)).mp h)))
          refine cx_aload_n hC dL_told_134 rfl 2 rfl ?_
          refine cx_iload_n hC dL_told_135 rfl 0 rfl ?_
          refine cx_ti hC (N := 18) (f := g) (hE.2.2.2.2.2.1 _ hmo) (by rw [i_nI (by omega)]; omega) dL_told_136 ?_
          refine cx_topi (y := (nI o1)) (by rw [ix_nI (by omega)]; exact h1.symm) ?_
          refine cx_iconst hC (4 : Int32) dL_told_137 (by decide) ?_
          have c3 := cc; clear cc
          by_cases cc : o1 = 4
          · skip
            obtain ⟨t92, tv92, hr92, hm92⟩ := hT _ (List.mem_of_getElem? (i := 6) rfl : (92, "unload", [117, 110, 108, 111, 97, 100]) ∈ lwT)
            refine cx_icmp_ne hC 146 dL_told_138 (by decide) (fun h => absurd (by rw [cc]; rfl) h) (fun _ => ?_)
            refine cx_ldcS hC (hE.2.2.2.2.2.2.1 _ hr92) dL_told_141 ?_
            refine cx_goto hC 169 dL_told_143 (by decide) ?_
            have eL : [117, 110, 108, 111, 97, 100] = oneT o1 o2 o3 := by rw [cc]; rfl
            refine cx_widen (k' := k + 8) (n' := n + 3024) (by omega) (by omega) ?_
            exact K2 t92 tv92 (by rw [← eL]; exact hm92)
          · skip
            have c4 := cc; clear cc
            have cc : o1 = 5 := by omega
            obtain ⟨t94, tv94, hr94, hm94⟩ := hT _ (List.mem_of_getElem? (i := 7) rfl : (94, "wait ", [119, 97, 105, 116, 32]) ∈ lwT)
            refine cx_icmp_ne hC 146 dL_told_138 (by decide) (fun _ => ?_) (fun h => absurd h (fun h => c4 ((n_inj (b := 4) (by omega) (by omega)).mp h)))
            refine cx_new hC (C := RJ4) (T := TJ4) (N := 4) (ci := 5) tyJ4 [.null, .int 0, .int 0, .int 0] fw_5 tyJ4_ok (tb_22 (List.mem_of_getElem? (i := 9) rfl)) (tb_22 (List.mem_of_getElem? (i := 10) rfl)) kn_RJ4 rfl dfJ4 ⟨by show k + 0 + 1 ≤ 120; omega, by show n + 0 + 4 ≤ 60000; omega⟩ dL_told_146 (fun q4 => ?_)
            refine cx_at (ws' := [(st, .inr (4, [.ref xt, .int 0, .int 0, .int 0])), (xt, .inl (D.2 1, Nt, .inl (gt))), (q4, .inr (5, [.null, .int 0, .int 0, .int 0]))]) (st' := [.ref q4]) rfl rfl ?_
            refine cx_dup hC dL_told_149 rfl ?_
            refine cy_callI hC (y := yJ4_init_da8c8) (cy := cJ4_init_da8c8) (maxL := 1) (nA := 0) (rm := (RM 2 1 16 33)) (mc := 1) (ms := 16) (As := []) (wr := [(st, .inr (4, [.ref xt, .int 0, .int 0, .int 0])), (xt, .inl (D.2 1, Nt, .inl (gt)))]) (j_sbi l D F) [2] [0, 1] rfl rfl rfl rfl (by decide) (ef_sub hC hE [2] rfl) kc_yJ4_init_da8c8 km_L_70 ki_yJ4_init_da8c8 kn_RJ4 rfl ky_yJ4_init_da8c8 rfl ⟨rfl, rfl⟩ ⟨Nat.le_of_ble_eq_true rfl, Nat.le_of_ble_eq_true rfl⟩ rfl (Nat.le_of_ble_eq_true rfl) ⟨by show k + 1 + 1 ≤ 120; omega, by show n + 4 + 16 ≤ 60000; omega⟩ dL_told_150 (fun o w1 h => ?_)
            obtain ⟨rfl, v15, rfl⟩ := h
            refine cx_cnt (k' := k + 2) (n' := n + 20) (by omega) (by omega) ?_
            refine cx_at (ws' := [(st, .inr (4, [.ref xt, .int 0, .int 0, .int 0])), (xt, .inl (D.2 1, Nt, .inl (gt))), (q4, .inr (5, [.ref v15, .int 0, .int 0, .int (nI (([] : List Int32).length))])), (v15, .inl (D.2 1, 16, .inl (fun _ => 0)))]) (st' := [.ref q4]) rfl rfl ?_
            refine cx_ldcS hC (hE.2.2.2.2.2.2.1 _ hr94) dL_told_153 ?_
            refine cy_callV hC (E := RJ4) (y := yJ4_append_15ec4) (cy := cJ4_append_15ec4) (maxL := 2) (nA := 1) (r := (some (.object "java/lang/StringBuilder"))) (rm := (RM 5 1 600 107)) (mc := 1) (ms := 600) (As := [.ref t94]) (wr := [(st, .inr (4, [.ref xt, .int 0, .int 0, .int 0])), (xt, .inl (D.2 1, Nt, .inl (gt)))]) (j_apS l D F (L := [119, 97, 105, 116, 32]) (Ls := ([] : List Int32)) hm94 (lit7 (by decide)) sbi0 (by simp only [List.length_append, List.length_cons, List.length_nil]; have := dg_le o2; have := dg_le o3; omega)) [2, 3] [0, 1] rfl rfl rfl rfl (by decide) (rc_sb hC (q0 := 2) rfl) (ef_sub hC hE [2, 3] rfl) kc_yJ4_append_15ec4 km_L_73 ki_yJ4_append_15ec4 kv_yJ4_append_15ec4 kn_RJ4 ky_yJ4_append_15ec4 rfl ⟨rfl, rfl⟩ ⟨Nat.le_of_ble_eq_true rfl, Nat.le_of_ble_eq_true rfl⟩ rfl (Nat.le_of_ble_eq_true rfl) ⟨by show k + 2 + 1 ≤ 120; omega, by show n + 20 + 600 ≤ 60000; omega⟩ dL_told_155 (fun o w1 h => ?_)
            obtain ⟨rfl, v16, c16, f16, rfl, hI16⟩ := h
            refine cx_cnt (k' := k + 3) (n' := n + 620) (by omega) (by omega) ?_
            refine cx_at (ws' := [(st, .inr (4, [.ref xt, .int 0, .int 0, .int 0])), (xt, .inl (D.2 1, Nt, .inl (gt))), (q4, .inr (5, [.ref v16, .int 0, .int 0, .int (nI ((([] : List Int32) ++ [119, 97, 105, 116, 32]).length))])), (v16, .inl (D.2 1, c16, .inl (f16)))]) (st' := [.ref q4]) rfl rfl ?_
            refine cx_aload_n hC dL_told_158 rfl 2 rfl ?_
            refine cx_iload_n hC dL_told_159 rfl 0 rfl ?_
            refine cx_iconst hC (1 : Int32) dL_told_160 (by decide) ?_
            refine cx_iadd hC dL_told_161 ?_
            refine cx_topi (y := (nI (3 * i + 1))) ((n_suc _).symm) ?_
            refine cx_ti hC (N := 18) (f := g) (hE.2.2.2.2.2.1 _ hmo) (by rw [i_nI (by omega)]; omega) dL_told_162 ?_
            refine cx_topi (y := (nI o2)) (by rw [ix_nI (by omega)]; exact h2.symm) ?_
            refine cy_callV hC (E := RJ4) (y := yJ4_append_bf812) (cy := cJ4_append_bf812) (maxL := 2) (nA := 1) (r := (some (.object "java/lang/StringBuilder"))) (rm := (RM 5 1 600 107)) (mc := 1) (ms := 600) (As := [.int (nI o2)]) (wr := [(st, .inr (4, [.ref xt, .int 0, .int 0, .int 0])), (xt, .inl (D.2 1, Nt, .inl (gt)))]) (j_apI l D F (u := o2) (Ls := (([] : List Int32) ++ [119, 97, 105, 116, 32])) (by omega) hI16 (by simp only [List.length_append, List.length_cons, List.length_nil]; have := dg_le o2; have := dg_le o3; omega)) [2, 3] [0, 1] rfl rfl rfl rfl (by decide) (rc_sb hC (q0 := 2) rfl) (ef_sub hC hE [2, 3] rfl) kc_yJ4_append_bf812 km_L_77 ki_yJ4_append_bf812 kv_yJ4_append_bf812 kn_RJ4 ky_yJ4_append_bf812 rfl ⟨rfl, rfl⟩ ⟨Nat.le_of_ble_eq_true rfl, Nat.le_of_ble_eq_true rfl⟩ rfl (Nat.le_of_ble_eq_true rfl) ⟨by show k + 3 + 1 ≤ 120; omega, by show n + 620 + 600 ≤ 60000; omega⟩ dL_told_163 (fun o w1 h => ?_)
            obtain ⟨rfl, v17, c17, f17, rfl, hI17⟩ := h
            refine cx_cnt (k' := k + 4) (n' := n + 1220) (by omega) (by omega) ?_
            refine cx_at (ws' := [(st, .inr (4, [.ref xt, .int 0, .int 0, .int 0])), (xt, .inl (D.2 1, Nt, .inl (gt))), (q4, .inr (5, [.ref v17, .int 0, .int 0, .int (nI (((([] : List Int32) ++ [119, 97, 105, 116, 32]) ++ dgT o2).length))])), (v17, .inl (D.2 1, c17, .inl (f17)))]) (st' := [.ref q4]) rfl rfl ?_
            refine cy_callV hC (E := RJ4) (y := yJ4_toString_0e30d) (cy := cJ4_toString_0e30d) (maxL := 1) (nA := 0) (r := (some (.object "java/lang/String"))) (rm := (RM 6 2 604 131)) (mc := 2) (ms := 604) (As := []) (wr := [(st, .inr (4, [.ref xt, .int 0, .int 0, .int 0])), (xt, .inl (D.2 1, Nt, .inl (gt)))]) (j_toS l D F (Ls := ((([] : List Int32) ++ [119, 97, 105, 116, 32]) ++ dgT o2)) hI17) [2, 3] [0, 1] rfl rfl rfl rfl (by decide) (rc_sb hC (q0 := 2) rfl) (ef_sub hC hE [2, 3] rfl) kc_yJ4_toString_0e30d km_L_82 ki_yJ4_toString_0e30d kv_yJ4_toString_0e30d kn_RJ4 ky_yJ4_toString_0e30d rfl ⟨rfl, rfl⟩ ⟨Nat.le_of_ble_eq_true rfl, Nat.le_of_ble_eq_true rfl⟩ rfl (Nat.le_of_ble_eq_true rfl) ⟨by show k + 4 + 2 ≤ 120; omega, by show n + 1220 + 604 ≤ 60000; omega⟩ dL_told_166 (fun o w1 h => ?_)
            obtain ⟨s1, x1, N1, g1, rfl, rfl, hN1, hg1⟩ := h
            refine cx_cnt (k' := k + 6) (n' := n + 1824) (by omega) (by omega) ?_
            refine cx_at (ws' := [(st, .inr (4, [.ref xt, .int 0, .int 0, .int 0])), (xt, .inl (D.2 1, Nt, .inl (gt))), (q4, .inr (5, [.ref v17, .int 0, .int 0, .int (nI (((([] : List Int32) ++ [119, 97, 105, 116, 32]) ++ dgT o2).length))])), (v17, .inl (D.2 1, c17, .inl (f17))), (s1, .inr (4, [.ref x1, .int 0, .int 0, .int 0])), (x1, .inl (D.2 1, N1, .inl (g1)))]) (st' := [.ref s1]) rfl rfl ?_
            refine cx_keep (ws' := [(s1, .inr (4, [.ref x1, .int 0, .int 0, .int 0])), (x1, .inl (D.2 1, N1, .inl (g1))), (st, .inr (4, [.ref xt, .int 0, .int 0, .int 0])), (xt, .inl (D.2 1, Nt, .inl (gt)))]) [4, 5, 0, 1] rfl rfl ?_
            have eL : ((([] : List Int32) ++ [119, 97, 105, 116, 32]) ++ dgT o2) = oneT o1 o2 o3 := by rw [cc]; rfl
            refine cx_widen (k' := k + 8) (n' := n + 3024) (by omega) (by omega) ?_
            exact K1 s1 x1 N1 g1 (by rw [← eL]; exact hN1) (fun k hk => by rw [← eL]; exact hg1 k (by rw [← hN1]; exact hk))
theorem t_1x {p : Program} {l : Launch} {e : Env} {s : State} {m : MethodId} {args : Array Value} {below : List Frame} {meth : Method} {c : Code} {D : DG} {F : EF} {A : Nat → Prop} {Q : State → Prop} {k n : Nat} (hC : CY p s m args meth c cL_told 4 RL (some (.object "java/lang/String")) D A) (hE : ENV F A s s.heap) {st : Nat} {a : Nat} {g : Nat → Int32} (hmo : (a, 18, g) ∈ F.2.1) (hT : LTX F) {i o1 o2 o3 : Nat} (hi : i < 6) (h1 : g (3 * i) = nI o1) (h2 : g (3 * i + 1) = nI o2) (h3 : g (3 * i + 2) = nI o3) (b1 : o1 < 6) (b2 : o2 < 45) (b3 : o3 < 8) (hk : k + 8 ≤ 120) (hn : n + 3024 ≤ 60000) (K1 : ∀ (s1 x1 N1 : Nat) (g1 : Nat → Int32) (_ : N1 = (oneT o1 o2 o3).length) (_ : ∀ k, k < N1 → g1 k = (oneT o1 o2 o3).getD k 0), XC p l e (RM 9 120 60000 260) s m args below meth c D A 4 Q (k + 8) (n + 3024) [(s1, .inr (4, [.ref x1, .int 0, .int 0, .int 0])), (x1, .inl (D.2 1, N1, .inl (g1)))] 169 [(2, .int (nI (3 * i))), (1, .ref st), (0, .ref a)] [.ref s1]) (K2 : ∀ (q v : Nat) (_ : (q, v, oneT o1 o2 o3) ∈ F.1), XC p l e (RM 9 120 60000 260) s m args below meth c D A 4 Q (k + 8) (n + 3024) [] 169 [(2, .int (nI (3 * i))), (1, .ref st), (0, .ref a)] [.ref q]) : XC p l e (RM 9 120 60000 260) s m args below meth c D A 4 Q (k) (n) [] 5 [(2, .int (nI (3 * i))), (1, .ref st), (0, .ref a)] [] := by
  refine cx_iload_n hC dL_told_5 rfl 0 rfl ?_
  refine cx_aload_n hC dL_told_6 rfl 2 rfl ?_
  refine cx_tlen hC (hE.2.2.2.2.2.1 _ hmo) (nI 18) rfl dL_told_7 ?_
  refine cx_icmp_ge hC 200 dL_told_8 (by decide) (fun h => absurd h (fun h => by have := (n_le (a := 18) (by omega) (by omega)).mp h; omega)) (fun _ => ?_)
  refine cx_aload_n hC dL_told_11 rfl 2 rfl ?_
  refine cx_iload_n hC dL_told_12 rfl 0 rfl ?_
  refine cx_ti hC (N := 18) (f := g) (hE.2.2.2.2.2.1 _ hmo) (by rw [i_nI (by omega)]; omega) dL_told_13 ?_
  refine cx_topi (y := (nI o1)) (by rw [ix_nI (by omega)]; exact h1.symm) ?_
  by_cases cc : o1 = 0
  · skip
    obtain ⟨t71, tv71, hr71, hm71⟩ := hT _ (List.mem_of_getElem? (i := 1) rfl : (71, "go ", [103, 111, 32]) ∈ lwT)
    obtain ⟨t80, tv80, hr80, hm80⟩ := hT _ (List.mem_of_getElem? (i := 2) rfl : (80, ",", [44]) ∈ lwT)
    refine cx_if_ne hC 56 dL_told_14 (by decide) (fun h => absurd (by rw [cc]; rfl) h) (fun _ => ?_)
    refine cx_new hC (C := RJ4) (T := TJ4) (N := 4) (ci := 5) tyJ4 [.null, .int 0, .int 0, .int 0] fw_5 tyJ4_ok (tb_22 (List.mem_of_getElem? (i := 9) rfl)) (tb_22 (List.mem_of_getElem? (i := 10) rfl)) kn_RJ4 rfl dfJ4 ⟨by show k + 0 + 1 ≤ 120; omega, by show n + 0 + 4 ≤ 60000; omega⟩ dL_told_17 (fun q1 => ?_)
    refine cx_at (ws' := [(q1, .inr (5, [.null, .int 0, .int 0, .int 0]))]) (st' := [.ref q1]) rfl rfl ?_
    refine cx_dup hC dL_told_20 rfl ?_
    refine cy_callI hC (y := yJ4_init_da8c8) (cy := cJ4_init_da8c8) (maxL := 1) (nA := 0) (rm := (RM 2 1 16 33)) (mc := 1) (ms := 16) (As := []) (wr := []) (j_sbi l D F) [0] [] rfl rfl rfl rfl (by decide) (ef_sub hC hE [0] rfl) kc_yJ4_init_da8c8 km_L_70 ki_yJ4_init_da8c8 kn_RJ4 rfl ky_yJ4_init_da8c8 rfl ⟨rfl, rfl⟩ ⟨Nat.le_of_ble_eq_true rfl, Nat.le_of_ble_eq_true rfl⟩ rfl (Nat.le_of_ble_eq_true rfl) ⟨by show k + 1 + 1 ≤ 120; omega, by show n + 4 + 16 ≤ 60000; omega⟩ dL_told_21 (fun o w1 h => ?_)
    obtain ⟨rfl, v1, rfl⟩ := h
    refine cx_cnt (k' := k + 2) (n' := n + 20) (by omega) (by omega) ?_
    refine cx_at (ws' := [(q1, .inr (5, [.ref v1, .int 0, .int 0, .int (nI (([] : List Int32).length))])), (v1, .inl (D.2 1, 16, .inl (fun _ => 0)))]) (st' := [.ref q1]) rfl rfl ?_
    refine cx_ldcS hC (hE.2.2.2.2.2.2.1 _ hr71) dL_told_24 ?_
    refine cy_callV hC (E := RJ4) (y := yJ4_append_15ec4) (cy := cJ4_append_15ec4) (maxL := 2) (nA := 1) (r := (some (.object "java/lang/StringBuilder"))) (rm := (RM 5 1 600 107)) (mc := 1) (ms := 600) (As := [.ref t71]) (wr := []) (j_apS l D F (L := [103, 111, 32]) (Ls := ([] : List Int32)) hm71 (lit7 (by decide)) sbi0 (by simp only [List.length_append, List.length_cons, List.length_nil]; have := dg_le o2; have := dg_le o3; omega)) [0, 1] [] rfl rfl rfl rfl (by decide) (rc_sb hC (q0 := 0) rfl) (ef_sub hC hE [0, 1] rfl) kc_yJ4_append_15ec4 km_L_73 ki_yJ4_append_15ec4 kv_yJ4_append_15ec4 kn_RJ4 ky_yJ4_append_15ec4 rfl ⟨rfl, rfl⟩ ⟨Nat.le_of_ble_eq_true rfl, Nat.le_of_ble_eq_true rfl⟩ rfl (Nat.le_of_ble_eq_true rfl) ⟨by show k + 2 + 1 ≤ 120; omega, by show n + 20 + 600 ≤ 60000; omega⟩ dL_told_26 (fun o w1 h => ?_)
    obtain ⟨rfl, v2, c2, f2, rfl, hI2⟩ := h
    refine cx_cnt (k' := k + 3) (n' := n + 620) (by omega) (by omega) ?_
    refine cx_at (ws' := [(q1, .inr (5, [.ref v2, .int 0, .int 0, .int (nI ((([] : List Int32) ++ [103, 111, 32]).length))])), (v2, .inl (D.2 1, c2, .inl (f2)))]) (st' := [.ref q1]) rfl rfl ?_
    refine cx_aload_n hC dL_told_29 rfl 2 rfl ?_
    refine cx_iload_n hC dL_told_30 rfl 0 rfl ?_
    refine cx_iconst hC (1 : Int32) dL_told_31 (by decide) ?_
    refine cx_iadd hC dL_told_32 ?_
    refine cx_topi (y := (nI (3 * i + 1))) ((n_suc _).symm) ?_
    refine cx_ti hC (N := 18) (f := g) (hE.2.2.2.2.2.1 _ hmo) (by rw [i_nI (by omega)]; omega) dL_told_33 ?_
    refine cx_topi (y := (nI o2)) (by rw [ix_nI (by omega)]; exact h2.symm) ?_
    refine cy_callV hC (E := RJ4) (y := yJ4_append_bf812) (cy := cJ4_append_bf812) (maxL := 2) (nA := 1) (r := (some (.object "java/lang/StringBuilder"))) (rm := (RM 5 1 600 107)) (mc := 1) (ms := 600) (As := [.int (nI o2)]) (wr := []) (j_apI l D F (u := o2) (Ls := (([] : List Int32) ++ [103, 111, 32])) (by omega) hI2 (by simp only [List.length_append, List.length_cons, List.length_nil]; have := dg_le o2; have := dg_le o3; omega)) [0, 1] [] rfl rfl rfl rfl (by decide) (rc_sb hC (q0 := 0) rfl) (ef_sub hC hE [0, 1] rfl) kc_yJ4_append_bf812 km_L_77 ki_yJ4_append_bf812 kv_yJ4_append_bf812 kn_RJ4 ky_yJ4_append_bf812 rfl ⟨rfl, rfl⟩ ⟨Nat.le_of_ble_eq_true rfl, Nat.le_of_ble_eq_true rfl⟩ rfl (Nat.le_of_ble_eq_true rfl) ⟨by show k + 3 + 1 ≤ 120; omega, by show n + 620 + 600 ≤ 60000; omega⟩ dL_told_34 (fun o w1 h => ?_)
    obtain ⟨rfl, v3, c3, f3, rfl, hI3⟩ := h
    refine cx_cnt (k' := k + 4) (n' := n + 1220) (by omega) (by omega) ?_
    refine cx_at (ws' := [(q1, .inr (5, [.ref v3, .int 0, .int 0, .int (nI (((([] : List Int32) ++ [103, 111, 32]) ++ dgT o2).length))])), (v3, .inl (D.2 1, c3, .inl (f3)))]) (st' := [.ref q1]) rfl rfl ?_
    refine cx_ldcS hC (hE.2.2.2.2.2.2.1 _ hr80) dL_told_37 ?_
    refine cy_callV hC (E := RJ4) (y := yJ4_append_15ec4) (cy := cJ4_append_15ec4) (maxL := 2) (nA := 1) (r := (some (.object "java/lang/StringBuilder"))) (rm := (RM 5 1 600 107)) (mc := 1) (ms := 600) (As := [.ref t80]) (wr := []) (j_apS l D F (L := [44]) (Ls := ((([] : List Int32) ++ [103, 111, 32]) ++ dgT o2)) hm80 (lit7 (by decide)) hI3 (by simp only [List.length_append, List.length_cons, List.length_nil]; have := dg_le o2; have := dg_le o3; omega)) [0, 1] [] rfl rfl rfl rfl (by decide) (rc_sb hC (q0 := 0) rfl) (ef_sub hC hE [0, 1] rfl) kc_yJ4_append_15ec4 km_L_73 ki_yJ4_append_15ec4 kv_yJ4_append_15ec4 kn_RJ4 ky_yJ4_append_15ec4 rfl ⟨rfl, rfl⟩ ⟨Nat.le_of_ble_eq_true rfl, Nat.le_of_ble_eq_true rfl⟩ rfl (Nat.le_of_ble_eq_true rfl) ⟨by show k + 4 + 1 ≤ 120; omega, by show n + 1220 + 600 ≤ 60000; omega⟩ dL_told_39 (fun o w1 h => ?_)
    obtain ⟨rfl, v4, c4, f4, rfl, hI4⟩ := h
    refine cx_cnt (k' := k + 5) (n' := n + 1820) (by omega) (by omega) ?_
    refine cx_at (ws' := [(q1, .inr (5, [.ref v4, .int 0, .int 0, .int (nI ((((([] : List Int32) ++ [103, 111, 32]) ++ dgT o2) ++ [44]).length))])), (v4, .inl (D.2 1, c4, .inl (f4)))]) (st' := [.ref q1]) rfl rfl ?_
    refine cx_aload_n hC dL_told_42 rfl 2 rfl ?_
    refine cx_iload_n hC dL_told_43 rfl 0 rfl ?_
    refine cx_iconst hC (2 : Int32) dL_told_44 (by decide) ?_
    refine cx_iadd hC dL_told_45 ?_
    refine cx_topi (y := (nI (3 * i + 2))) ((n_add _ 2).symm) ?_
    refine cx_ti hC (N := 18) (f := g) (hE.2.2.2.2.2.1 _ hmo) (by rw [i_nI (by omega)]; omega) dL_told_46 ?_
    refine cx_topi (y := (nI o3)) (by rw [ix_nI (by omega)]; exact h3.symm) ?_
    refine cy_callV hC (E := RJ4) (y := yJ4_append_bf812) (cy := cJ4_append_bf812) (maxL := 2) (nA := 1) (r := (some (.object "java/lang/StringBuilder"))) (rm := (RM 5 1 600 107)) (mc := 1) (ms := 600) (As := [.int (nI o3)]) (wr := []) (j_apI l D F (u := o3) (Ls := (((([] : List Int32) ++ [103, 111, 32]) ++ dgT o2) ++ [44])) (by omega) hI4 (by simp only [List.length_append, List.length_cons, List.length_nil]; have := dg_le o2; have := dg_le o3; omega)) [0, 1] [] rfl rfl rfl rfl (by decide) (rc_sb hC (q0 := 0) rfl) (ef_sub hC hE [0, 1] rfl) kc_yJ4_append_bf812 km_L_77 ki_yJ4_append_bf812 kv_yJ4_append_bf812 kn_RJ4 ky_yJ4_append_bf812 rfl ⟨rfl, rfl⟩ ⟨Nat.le_of_ble_eq_true rfl, Nat.le_of_ble_eq_true rfl⟩ rfl (Nat.le_of_ble_eq_true rfl) ⟨by show k + 5 + 1 ≤ 120; omega, by show n + 1820 + 600 ≤ 60000; omega⟩ dL_told_47 (fun o w1 h => ?_)
    obtain ⟨rfl, v5, c5, f5, rfl, hI5⟩ := h
    refine cx_cnt (k' := k + 6) (n' := n + 2420) (by omega) (by omega) ?_
    refine cx_at (ws' := [(q1, .inr (5, [.ref v5, .int 0, .int 0, .int (nI (((((([] : List Int32) ++ [103, 111, 32]) ++ dgT o2) ++ [44]) ++ dgT o3).length))])), (v5, .inl (D.2 1, c5, .inl (f5)))]) (st' := [.ref q1]) rfl rfl ?_
    refine cy_callV hC (E := RJ4) (y := yJ4_toString_0e30d) (cy := cJ4_toString_0e30d) (maxL := 1) (nA := 0) (r := (some (.object "java/lang/String"))) (rm := (RM 6 2 604 131)) (mc := 2) (ms := 604) (As := []) (wr := []) (j_toS l D F (Ls := ((((([] : List Int32) ++ [103, 111, 32]) ++ dgT o2) ++ [44]) ++ dgT o3)) hI5) [0, 1] [] rfl rfl rfl rfl (by decide) (rc_sb hC (q0 := 0) rfl) (ef_sub hC hE [0, 1] rfl) kc_yJ4_toString_0e30d km_L_82 ki_yJ4_toString_0e30d kv_yJ4_toString_0e30d kn_RJ4 ky_yJ4_toString_0e30d rfl ⟨rfl, rfl⟩ ⟨Nat.le_of_ble_eq_true rfl, Nat.le_of_ble_eq_true rfl⟩ rfl (Nat.le_of_ble_eq_true rfl) ⟨by show k + 6 + 2 ≤ 120; omega, by show n + 2420 + 604 ≤ 60000; omega⟩ dL_told_50 (fun o w1 h => ?_)
    obtain ⟨s1, x1, N1, g1, rfl, rfl, hN1, hg1⟩ := h
    refine cx_cnt (k' := k + 8) (n' := n + 3024) (by omega) (by omega) ?_
    refine cx_at (ws' := [(q1, .inr (5, [.ref v5, .int 0, .int 0, .int (nI (((((([] : List Int32) ++ [103, 111, 32]) ++ dgT o2) ++ [44]) ++ dgT o3).length))])), (v5, .inl (D.2 1, c5, .inl (f5))), (s1, .inr (4, [.ref x1, .int 0, .int 0, .int 0])), (x1, .inl (D.2 1, N1, .inl (g1)))]) (st' := [.ref s1]) rfl rfl ?_
    refine cx_goto hC 169 dL_told_53 (by decide) ?_
    refine cx_keep (ws' := [(s1, .inr (4, [.ref x1, .int 0, .int 0, .int 0])), (x1, .inl (D.2 1, N1, .inl (g1)))]) [2, 3] rfl rfl ?_
    have eL : ((((([] : List Int32) ++ [103, 111, 32]) ++ dgT o2) ++ [44]) ++ dgT o3) = oneT o1 o2 o3 := by rw [cc]; rfl
    refine cx_widen (k' := k + 8) (n' := n + 3024) (by omega) (by omega) ?_
    exact K1 s1 x1 N1 g1 (by rw [← eL]; exact hN1) (fun k hk => by rw [← eL]; exact hg1 k (by rw [← hN1]; exact hk))
  · skip
    refine cx_if_ne hC 56 dL_told_14 (by decide) (fun _ => ?_) (fun h => absurd h (fun h => cc ((n_inj (b := 0) (by omega) (by omega)).mp h)))
    refine cx_aload_n hC dL_told_56 rfl 2 rfl ?_
    refine cx_iload_n hC dL_told_57 rfl 0 rfl ?_
    refine cx_ti hC (N := 18) (f := g) (hE.2.2.2.2.2.1 _ hmo) (by rw [i_nI (by omega)]; omega) dL_told_58 ?_
    refine cx_topi (y := (nI o1)) (by rw [ix_nI (by omega)]; exact h1.symm) ?_
    refine cx_iconst hC (1 : Int32) dL_told_59 (by decide) ?_
    have c0 := cc; clear cc
    by_cases cc : o1 = 1
    · skip
      obtain ⟨t86, tv86, hr86, hm86⟩ := hT _ (List.mem_of_getElem? (i := 3) rfl : (86, "cut ", [99, 117, 116, 32]) ∈ lwT)
      refine cx_icmp_ne hC 89 dL_told_60 (by decide) (fun h => absurd (by rw [cc]; rfl) h) (fun _ => ?_)
      refine cx_new hC (C := RJ4) (T := TJ4) (N := 4) (ci := 5) tyJ4 [.null, .int 0, .int 0, .int 0] fw_5 tyJ4_ok (tb_22 (List.mem_of_getElem? (i := 9) rfl)) (tb_22 (List.mem_of_getElem? (i := 10) rfl)) kn_RJ4 rfl dfJ4 ⟨by show k + 0 + 1 ≤ 120; omega, by show n + 0 + 4 ≤ 60000; omega⟩ dL_told_63 (fun q2 => ?_)
      refine cx_at (ws' := [(q2, .inr (5, [.null, .int 0, .int 0, .int 0]))]) (st' := [.ref q2]) rfl rfl ?_
      refine cx_dup hC dL_told_66 rfl ?_
      refine cy_callI hC (y := yJ4_init_da8c8) (cy := cJ4_init_da8c8) (maxL := 1) (nA := 0) (rm := (RM 2 1 16 33)) (mc := 1) (ms := 16) (As := []) (wr := []) (j_sbi l D F) [0] [] rfl rfl rfl rfl (by decide) (ef_sub hC hE [0] rfl) kc_yJ4_init_da8c8 km_L_70 ki_yJ4_init_da8c8 kn_RJ4 rfl ky_yJ4_init_da8c8 rfl ⟨rfl, rfl⟩ ⟨Nat.le_of_ble_eq_true rfl, Nat.le_of_ble_eq_true rfl⟩ rfl (Nat.le_of_ble_eq_true rfl) ⟨by show k + 1 + 1 ≤ 120; omega, by show n + 4 + 16 ≤ 60000; omega⟩ dL_told_67 (fun o w1 h => ?_)
      obtain ⟨rfl, v7, rfl⟩ := h
      refine cx_cnt (k' := k + 2) (n' := n + 20) (by omega) (by omega) ?_
      refine cx_at (ws' := [(q2, .inr (5, [.ref v7, .int 0, .int 0, .int (nI (([] : List Int32).length))])), (v7, .inl (D.2 1, 16, .inl (fun _ => 0)))]) (st' := [.ref q2]) rfl rfl ?_
      refine cx_ldcS hC (hE.2.2.2.2.2.2.1 _ hr86) dL_told_70 ?_
      refine cy_callV hC (E := RJ4) (y := yJ4_append_15ec4) (cy := cJ4_append_15ec4) (maxL := 2) (nA := 1) (r := (some (.object "java/lang/StringBuilder"))) (rm := (RM 5 1 600 107)) (mc := 1) (ms := 600) (As := [.ref t86]) (wr := []) (j_apS l D F (L := [99, 117, 116, 32]) (Ls := ([] : List Int32)) hm86 (lit7 (by decide)) sbi0 (by simp only [List.length_append, List.length_cons, List.length_nil]; have := dg_le o2; have := dg_le o3; omega)) [0, 1] [] rfl rfl rfl rfl (by decide) (rc_sb hC (q0 := 0) rfl) (ef_sub hC hE [0, 1] rfl) kc_yJ4_append_15ec4 km_L_73 ki_yJ4_append_15ec4 kv_yJ4_append_15ec4 kn_RJ4 ky_yJ4_append_15ec4 rfl ⟨rfl, rfl⟩ ⟨Nat.le_of_ble_eq_true rfl, Nat.le_of_ble_eq_true rfl⟩ rfl (Nat.le_of_ble_eq_true rfl) ⟨by show k + 2 + 1 ≤ 120; omega, by show n + 20 + 600 ≤ 60000; omega⟩ dL_told_72 (fun o w1 h => ?_)
      obtain ⟨rfl, v8, c8, f8, rfl, hI8⟩ := h
      refine cx_cnt (k' := k + 3) (n' := n + 620) (by omega) (by omega) ?_
      refine cx_at (ws' := [(q2, .inr (5, [.ref v8, .int 0, .int 0, .int (nI ((([] : List Int32) ++ [99, 117, 116, 32]).length))])), (v8, .inl (D.2 1, c8, .inl (f8)))]) (st' := [.ref q2]) rfl rfl ?_
      refine cx_aload_n hC dL_told_75 rfl 2 rfl ?_
      refine cx_iload_n hC dL_told_76 rfl 0 rfl ?_
      refine cx_iconst hC (1 : Int32) dL_told_77 (by decide) ?_
      refine cx_iadd hC dL_told_78 ?_
      refine cx_topi (y := (nI (3 * i + 1))) ((n_suc _).symm) ?_
      refine cx_ti hC (N := 18) (f := g) (hE.2.2.2.2.2.1 _ hmo) (by rw [i_nI (by omega)]; omega) dL_told_79 ?_
      refine cx_topi (y := (nI o2)) (by rw [ix_nI (by omega)]; exact h2.symm) ?_
      refine cy_callV hC (E := RJ4) (y := yJ4_append_bf812) (cy := cJ4_append_bf812) (maxL := 2) (nA := 1) (r := (some (.object "java/lang/StringBuilder"))) (rm := (RM 5 1 600 107)) (mc := 1) (ms := 600) (As := [.int (nI o2)]) (wr := []) (j_apI l D F (u := o2) (Ls := (([] : List Int32) ++ [99, 117, 116, 32])) (by omega) hI8 (by simp only [List.length_append, List.length_cons, List.length_nil]; have := dg_le o2; have := dg_le o3; omega)) [0, 1] [] rfl rfl rfl rfl (by decide) (rc_sb hC (q0 := 0) rfl) (ef_sub hC hE [0, 1] rfl) kc_yJ4_append_bf812 km_L_77 ki_yJ4_append_bf812 kv_yJ4_append_bf812 kn_RJ4 ky_yJ4_append_bf812 rfl ⟨rfl, rfl⟩ ⟨Nat.le_of_ble_eq_true rfl, Nat.le_of_ble_eq_true rfl⟩ rfl (Nat.le_of_ble_eq_true rfl) ⟨by show k + 3 + 1 ≤ 120; omega, by show n + 620 + 600 ≤ 60000; omega⟩ dL_told_80 (fun o w1 h => ?_)
      obtain ⟨rfl, v9, c9, f9, rfl, hI9⟩ := h
      refine cx_cnt (k' := k + 4) (n' := n + 1220) (by omega) (by omega) ?_
      refine cx_at (ws' := [(q2, .inr (5, [.ref v9, .int 0, .int 0, .int (nI (((([] : List Int32) ++ [99, 117, 116, 32]) ++ dgT o2).length))])), (v9, .inl (D.2 1, c9, .inl (f9)))]) (st' := [.ref q2]) rfl rfl ?_
      refine cy_callV hC (E := RJ4) (y := yJ4_toString_0e30d) (cy := cJ4_toString_0e30d) (maxL := 1) (nA := 0) (r := (some (.object "java/lang/String"))) (rm := (RM 6 2 604 131)) (mc := 2) (ms := 604) (As := []) (wr := []) (j_toS l D F (Ls := ((([] : List Int32) ++ [99, 117, 116, 32]) ++ dgT o2)) hI9) [0, 1] [] rfl rfl rfl rfl (by decide) (rc_sb hC (q0 := 0) rfl) (ef_sub hC hE [0, 1] rfl) kc_yJ4_toString_0e30d km_L_82 ki_yJ4_toString_0e30d kv_yJ4_toString_0e30d kn_RJ4 ky_yJ4_toString_0e30d rfl ⟨rfl, rfl⟩ ⟨Nat.le_of_ble_eq_true rfl, Nat.le_of_ble_eq_true rfl⟩ rfl (Nat.le_of_ble_eq_true rfl) ⟨by show k + 4 + 2 ≤ 120; omega, by show n + 1220 + 604 ≤ 60000; omega⟩ dL_told_83 (fun o w1 h => ?_)
      obtain ⟨s1, x1, N1, g1, rfl, rfl, hN1, hg1⟩ := h
      refine cx_cnt (k' := k + 6) (n' := n + 1824) (by omega) (by omega) ?_
      refine cx_at (ws' := [(q2, .inr (5, [.ref v9, .int 0, .int 0, .int (nI (((([] : List Int32) ++ [99, 117, 116, 32]) ++ dgT o2).length))])), (v9, .inl (D.2 1, c9, .inl (f9))), (s1, .inr (4, [.ref x1, .int 0, .int 0, .int 0])), (x1, .inl (D.2 1, N1, .inl (g1)))]) (st' := [.ref s1]) rfl rfl ?_
      refine cx_goto hC 169 dL_told_86 (by decide) ?_
      refine cx_keep (ws' := [(s1, .inr (4, [.ref x1, .int 0, .int 0, .int 0])), (x1, .inl (D.2 1, N1, .inl (g1)))]) [2, 3] rfl rfl ?_
      have eL : ((([] : List Int32) ++ [99, 117, 116, 32]) ++ dgT o2) = oneT o1 o2 o3 := by rw [cc]; rfl
      refine cx_widen (k' := k + 8) (n' := n + 3024) (by omega) (by omega) ?_
      exact K1 s1 x1 N1 g1 (by rw [← eL]; exact hN1) (fun k hk => by rw [← eL]; exact hg1 k (by rw [← hN1]; exact hk))
    · skip
      refine cx_icmp_ne hC 89 dL_told_60 (by decide) (fun _ => ?_) (fun h => absurd h (fun h => cc ((n_inj (b := 1) (by omega) (by omega)).mp h)))
      refine cx_aload_n hC dL_told_89 rfl 2 rfl ?_
      refine cx_iload_n hC dL_told_90 rfl 0 rfl ?_
      refine cx_ti hC (N := 18) (f := g) (hE.2.2.2.2.2.1 _ hmo) (by rw [i_nI (by omega)]; omega) dL_told_91 ?_
      refine cx_topi (y := (nI o1)) (by rw [ix_nI (by omega)]; exact h1.symm) ?_
      refine cx_iconst hC (2 : Int32) dL_told_92 (by decide) ?_
      have c1 := cc; clear cc
      by_cases cc : o1 = 2
      · skip
        obtain ⟨t88, tv88, hr88, hm88⟩ := hT _ (List.mem_of_getElem? (i := 4) rfl : (88, "turn", [116, 117, 114, 110]) ∈ lwT)
        refine cx_icmp_ne hC 101 dL_told_93 (by decide) (fun h => absurd (by rw [cc]; rfl) h) (fun _ => ?_)
        refine cx_ldcS hC (hE.2.2.2.2.2.2.1 _ hr88) dL_told_96 ?_
        refine cx_goto hC 169 dL_told_98 (by decide) ?_
        have eL : [116, 117, 114, 110] = oneT o1 o2 o3 := by rw [cc]; rfl
        refine cx_widen (k' := k + 8) (n' := n + 3024) (by omega) (by omega) ?_
        exact K2 t88 tv88 (by rw [← eL]; exact hm88)
      · skip
        refine cx_icmp_ne hC 101 dL_told_93 (by decide) (fun _ => ?_) (fun h => absurd h (fun h => cc ((n_inj (b := 2) (by omega) (by omega)).mp h)))
        refine cx_aload_n hC dL_told_101 rfl 2 rfl ?_
        refine cx_iload_n hC dL_told_102 rfl 0 rfl ?_
        refine cx_ti hC (N := 18) (f := g) (hE.2.2.2.2.2.1 _ hmo) (by rw [i_nI (by omega)]; omega) dL_told_103 ?_
        refine cx_topi (y := (nI o1)) (by rw [ix_nI (by omega)]; exact h1.symm) ?_
        refine cx_iconst hC (3 : Int32) dL_told_104 (by decide) ?_
        have c2 := cc; clear cc
        by_cases cc : o1 = 3
        · skip
          obtain ⟨t90, tv90, hr90, hm90⟩ := hT _ (List.mem_of_getElem? (i := 5) rfl : (90, "load ", [108, 111, 97, 100, 32]) ∈ lwT)
          refine cx_icmp_ne hC 134 dL_told_105 (by decide) (fun h => absurd (by rw [cc]; rfl) h) (fun _ => ?_)
          refine cx_new hC (C := RJ4) (T := TJ4) (N := 4) (ci := 5) tyJ4 [.null, .int 0, .int 0, .int 0] fw_5 tyJ4_ok (tb_22 (List.mem_of_getElem? (i := 9) rfl)) (tb_22 (List.mem_of_getElem? (i := 10) rfl)) kn_RJ4 rfl dfJ4 ⟨by show k + 0 + 1 ≤ 120; omega, by show n + 0 + 4 ≤ 60000; omega⟩ dL_told_108 (fun q3 => ?_)
          refine cx_at (ws' := [(q3, .inr (5, [.null, .int 0, .int 0, .int 0]))]) (st' := [.ref q3]) rfl rfl ?_
          refine cx_dup hC dL_told_111 rfl ?_
          refine cy_callI hC (y := yJ4_init_da8c8) (cy := cJ4_init_da8c8) (maxL := 1) (nA := 0) (rm := (RM 2 1 16 33)) (mc := 1) (ms := 16) (As := []) (wr := []) (j_sbi l D F) [0] [] rfl rfl rfl rfl (by decide) (ef_sub hC hE [0] rfl) kc_yJ4_init_da8c8 km_L_70 ki_yJ4_init_da8c8 kn_RJ4 rfl ky_yJ4_init_da8c8 rfl ⟨rfl, rfl⟩ ⟨Nat.le_of_ble_eq_true rfl, Nat.le_of_ble_eq_true rfl⟩ rfl (Nat.le_of_ble_eq_true rfl) ⟨by show k + 1 + 1 ≤ 120; omega, by show n + 4 + 16 ≤ 60000; omega⟩ dL_told_112 (fun o w1 h => ?_)
          obtain ⟨rfl, v11, rfl⟩ := h
          refine cx_cnt (k' := k + 2) (n' := n + 20) (by omega) (by omega) ?_
          refine cx_at (ws' := [(q3, .inr (5, [.ref v11, .int 0, .int 0, .int (nI (([] : List Int32).length))])), (v11, .inl (D.2 1, 16, .inl (fun _ => 0)))]) (st' := [.ref q3]) rfl rfl ?_
          refine cx_ldcS hC (hE.2.2.2.2.2.2.1 _ hr90) dL_told_115 ?_
          refine cy_callV hC (E := RJ4) (y := yJ4_append_15ec4) (cy := cJ4_append_15ec4) (maxL := 2) (nA := 1) (r := (some (.object "java/lang/StringBuilder"))) (rm := (RM 5 1 600 107)) (mc := 1) (ms := 600) (As := [.ref t90]) (wr := []) (j_apS l D F (L := [108, 111, 97, 100, 32]) (Ls := ([] : List Int32)) hm90 (lit7 (by decide)) sbi0 (by simp only [List.length_append, List.length_cons, List.length_nil]; have := dg_le o2; have := dg_le o3; omega)) [0, 1] [] rfl rfl rfl rfl (by decide) (rc_sb hC (q0 := 0) rfl) (ef_sub hC hE [0, 1] rfl) kc_yJ4_append_15ec4 km_L_73 ki_yJ4_append_15ec4 kv_yJ4_append_15ec4 kn_RJ4 ky_yJ4_append_15ec4 rfl ⟨rfl, rfl⟩ ⟨Nat.le_of_ble_eq_true rfl, Nat.le_of_ble_eq_true rfl⟩ rfl (Nat.le_of_ble_eq_true rfl) ⟨by show k + 2 + 1 ≤ 120; omega, by show n + 20 + 600 ≤ 60000; omega⟩ dL_told_117 (fun o w1 h => ?_)
          obtain ⟨rfl, v12, c12, f12, rfl, hI12⟩ := h
          refine cx_cnt (k' := k + 3) (n' := n + 620) (by omega) (by omega) ?_
          refine cx_at (ws' := [(q3, .inr (5, [.ref v12, .int 0, .int 0, .int (nI ((([] : List Int32) ++ [108, 111, 97, 100, 32]).length))])), (v12, .inl (D.2 1, c12, .inl (f12)))]) (st' := [.ref q3]) rfl rfl ?_
          refine cx_aload_n hC dL_told_120 rfl 2 rfl ?_
          refine cx_iload_n hC dL_told_121 rfl 0 rfl ?_
          refine cx_iconst hC (1 : Int32) dL_told_122 (by decide) ?_
          refine cx_iadd hC dL_told_123 ?_
          refine cx_topi (y := (nI (3 * i + 1))) ((n_suc _).symm) ?_
          refine cx_ti hC (N := 18) (f := g) (hE.2.2.2.2.2.1 _ hmo) (by rw [i_nI (by omega)]; omega) dL_told_124 ?_
          refine cx_topi (y := (nI o2)) (by rw [ix_nI (by omega)]; exact h2.symm) ?_
          refine cy_callV hC (E := RJ4) (y := yJ4_append_bf812) (cy := cJ4_append_bf812) (maxL := 2) (nA := 1) (r := (some (.object "java/lang/StringBuilder"))) (rm := (RM 5 1 600 107)) (mc := 1) (ms := 600) (As := [.int (nI o2)]) (wr := []) (j_apI l D F (u := o2) (Ls := (([] : List Int32) ++ [108, 111, 97, 100, 32])) (by omega) hI12 (by simp only [List.length_append, List.length_cons, List.length_nil]; have := dg_le o2; have := dg_le o3; omega)) [0, 1] [] rfl rfl rfl rfl (by decide) (rc_sb hC (q0 := 0) rfl) (ef_sub hC hE [0, 1] rfl) kc_yJ4_append_bf812 km_L_77 ki_yJ4_append_bf812 kv_yJ4_append_bf812 kn_RJ4 ky_yJ4_append_bf812 rfl ⟨rfl, rfl⟩ ⟨Nat.le_of_ble_eq_true rfl, Nat.le_of_ble_eq_true rfl⟩ rfl (Nat.le_of_ble_eq_true rfl) ⟨by show k + 3 + 1 ≤ 120; omega, by show n + 620 + 600 ≤ 60000; omega⟩ dL_told_125 (fun o w1 h => ?_)
          obtain ⟨rfl, v13, c13, f13, rfl, hI13⟩ := h
          refine cx_cnt (k' := k + 4) (n' := n + 1220) (by omega) (by omega) ?_
          refine cx_at (ws' := [(q3, .inr (5, [.ref v13, .int 0, .int 0, .int (nI (((([] : List Int32) ++ [108, 111, 97, 100, 32]) ++ dgT o2).length))])), (v13, .inl (D.2 1, c13, .inl (f13)))]) (st' := [.ref q3]) rfl rfl ?_
          refine cy_callV hC (E := RJ4) (y := yJ4_toString_0e30d) (cy := cJ4_toString_0e30d) (maxL := 1) (nA := 0) (r := (some (.object "java/lang/String"))) (rm := (RM 6 2 604 131)) (mc := 2) (ms := 604) (As := []) (wr := []) (j_toS l D F (Ls := ((([] : List Int32) ++ [108, 111, 97, 100, 32]) ++ dgT o2)) hI13) [0, 1] [] rfl rfl rfl rfl (by decide) (rc_sb hC (q0 := 0) rfl) (ef_sub hC hE [0, 1] rfl) kc_yJ4_toString_0e30d km_L_82 ki_yJ4_toString_0e30d kv_yJ4_toString_0e30d kn_RJ4 ky_yJ4_toString_0e30d rfl ⟨rfl, rfl⟩ ⟨Nat.le_of_ble_eq_true rfl, Nat.le_of_ble_eq_true rfl⟩ rfl (Nat.le_of_ble_eq_true rfl) ⟨by show k + 4 + 2 ≤ 120; omega, by show n + 1220 + 604 ≤ 60000; omega⟩ dL_told_128 (fun o w1 h => ?_)
          obtain ⟨s1, x1, N1, g1, rfl, rfl, hN1, hg1⟩ := h
          refine cx_cnt (k' := k + 6) (n' := n + 1824) (by omega) (by omega) ?_
          refine cx_at (ws' := [(q3, .inr (5, [.ref v13, .int 0, .int 0, .int (nI (((([] : List Int32) ++ [108, 111, 97, 100, 32]) ++ dgT o2).length))])), (v13, .inl (D.2 1, c13, .inl (f13))), (s1, .inr (4, [.ref x1, .int 0, .int 0, .int 0])), (x1, .inl (D.2 1, N1, .inl (g1)))]) (st' := [.ref s1]) rfl rfl ?_
          refine cx_goto hC 169 dL_told_131 (by decide) ?_
          refine cx_keep (ws' := [(s1, .inr (4, [.ref x1, .int 0, .int 0, .int 0])), (x1, .inl (D.2 1, N1, .inl (g1)))]) [2, 3] rfl rfl ?_
          have eL : ((([] : List Int32) ++ [108, 111, 97, 100, 32]) ++ dgT o2) = oneT o1 o2 o3 := by rw [cc]; rfl
          refine cx_widen (k' := k + 8) (n' := n + 3024) (by omega) (by omega) ?_
          exact K1 s1 x1 N1 g1 (by rw [← eL]; exact hN1) (fun k hk => by rw [← eL]; exact hg1 k (by rw [← hN1]; exact hk))
        · skip
          refine cx_icmp_ne hC 134 dL_told_105 (by decide) (fun _ => ?_) (fun h => absurd h (fun h => cc ((n_inj (b := 3) (by omega) (by omega)).mp h)))
          refine cx_aload_n hC dL_told_134 rfl 2 rfl ?_
          refine cx_iload_n hC dL_told_135 rfl 0 rfl ?_
          refine cx_ti hC (N := 18) (f := g) (hE.2.2.2.2.2.1 _ hmo) (by rw [i_nI (by omega)]; omega) dL_told_136 ?_
          refine cx_topi (y := (nI o1)) (by rw [ix_nI (by omega)]; exact h1.symm) ?_
          refine cx_iconst hC (4 : Int32) dL_told_137 (by decide) ?_
          have c3 := cc; clear cc
          by_cases cc : o1 = 4
          · skip
            obtain ⟨t92, tv92, hr92, hm92⟩ := hT _ (List.mem_of_getElem? (i := 6) rfl : (92, "unload", [117, 110, 108, 111, 97, 100]) ∈ lwT)
            refine cx_icmp_ne hC 146 dL_told_138 (by decide) (fun h => absurd (by rw [cc]; rfl) h) (fun _ => ?_)
            refine cx_ldcS hC (hE.2.2.2.2.2.2.1 _ hr92) dL_told_141 ?_
            refine cx_goto hC 169 dL_told_143 (by decide) ?_
            have eL : [117, 110, 108, 111, 97, 100] = oneT o1 o2 o3 := by rw [cc]; rfl
            refine cx_widen (k' := k + 8) (n' := n + 3024) (by omega) (by omega) ?_
            exact K2 t92 tv92 (by rw [← eL]; exact hm92)
          · skip
            have c4 := cc; clear cc
            have cc : o1 = 5 := by omega
            obtain ⟨t94, tv94, hr94, hm94⟩ := hT _ (List.mem_of_getElem? (i := 7) rfl : (94, "wait ", [119, 97, 105, 116, 32]) ∈ lwT)
            refine cx_icmp_ne hC 146 dL_told_138 (by decide) (fun _ => ?_) (fun h => absurd h (fun h => c4 ((n_inj (b := 4) (by omega) (by omega)).mp h)))
            refine cx_new hC (C := RJ4) (T := TJ4) (N := 4) (ci := 5) tyJ4 [.null, .int 0, .int 0, .int 0] fw_5 tyJ4_ok (tb_22 (List.mem_of_getElem? (i := 9) rfl)) (tb_22 (List.mem_of_getElem? (i := 10) rfl)) kn_RJ4 rfl dfJ4 ⟨by show k + 0 + 1 ≤ 120; omega, by show n + 0 + 4 ≤ 60000; omega⟩ dL_told_146 (fun q4 => ?_)
            refine cx_at (ws' := [(q4, .inr (5, [.null, .int 0, .int 0, .int 0]))]) (st' := [.ref q4]) rfl rfl ?_
            refine cx_dup hC dL_told_149 rfl ?_
            refine cy_callI hC (y := yJ4_init_da8c8) (cy := cJ4_init_da8c8) (maxL := 1) (nA := 0) (rm := (RM 2 1 16 33)) (mc := 1) (ms := 16) (As := []) (wr := []) (j_sbi l D F) [0] [] rfl rfl rfl rfl (by decide) (ef_sub hC hE [0] rfl) kc_yJ4_init_da8c8 km_L_70 ki_yJ4_init_da8c8 kn_RJ4 rfl ky_yJ4_init_da8c8 rfl ⟨rfl, rfl⟩ ⟨Nat.le_of_ble_eq_true rfl, Nat.le_of_ble_eq_true rfl⟩ rfl (Nat.le_of_ble_eq_true rfl) ⟨by show k + 1 + 1 ≤ 120; omega, by show n + 4 + 16 ≤ 60000; omega⟩ dL_told_150 (fun o w1 h => ?_)
            obtain ⟨rfl, v15, rfl⟩ := h
            refine cx_cnt (k' := k + 2) (n' := n + 20) (by omega) (by omega) ?_
            refine cx_at (ws' := [(q4, .inr (5, [.ref v15, .int 0, .int 0, .int (nI (([] : List Int32).length))])), (v15, .inl (D.2 1, 16, .inl (fun _ => 0)))]) (st' := [.ref q4]) rfl rfl ?_
            refine cx_ldcS hC (hE.2.2.2.2.2.2.1 _ hr94) dL_told_153 ?_
            refine cy_callV hC (E := RJ4) (y := yJ4_append_15ec4) (cy := cJ4_append_15ec4) (maxL := 2) (nA := 1) (r := (some (.object "java/lang/StringBuilder"))) (rm := (RM 5 1 600 107)) (mc := 1) (ms := 600) (As := [.ref t94]) (wr := []) (j_apS l D F (L := [119, 97, 105, 116, 32]) (Ls := ([] : List Int32)) hm94 (lit7 (by decide)) sbi0 (by simp only [List.length_append, List.length_cons, List.length_nil]; have := dg_le o2; have := dg_le o3; omega)) [0, 1] [] rfl rfl rfl rfl (by decide) (rc_sb hC (q0 := 0) rfl) (ef_sub hC hE [0, 1] rfl) kc_yJ4_append_15ec4 km_L_73 ki_yJ4_append_15ec4 kv_yJ4_append_15ec4 kn_RJ4 ky_yJ4_append_15ec4 rfl ⟨rfl, rfl⟩ ⟨Nat.le_of_ble_eq_true rfl, Nat.le_of_ble_eq_true rfl⟩ rfl (Nat.le_of_ble_eq_true rfl) ⟨by show k + 2 + 1 ≤ 120; omega, by show n + 20 + 600 ≤ 60000; omega⟩ dL_told_155 (fun o w1 h => ?_)
            obtain ⟨rfl, v16, c16, f16, rfl, hI16⟩ := h
            refine cx_cnt (k' := k + 3) (n' := n + 620) (by omega) (by omega) ?_
            refine cx_at (ws' := [(q4, .inr (5, [.ref v16, .int 0, .int 0, .int (nI ((([] : List Int32) ++ [119, 97, 105, 116, 32]).length))])), (v16, .inl (D.2 1, c16, .inl (f16)))]) (st' := [.ref q4]) rfl rfl ?_
            refine cx_aload_n hC dL_told_158 rfl 2 rfl ?_
            refine cx_iload_n hC dL_told_159 rfl 0 rfl ?_
            refine cx_iconst hC (1 : Int32) dL_told_160 (by decide) ?_
            refine cx_iadd hC dL_told_161 ?_
            refine cx_topi (y := (nI (3 * i + 1))) ((n_suc _).symm) ?_
            refine cx_ti hC (N := 18) (f := g) (hE.2.2.2.2.2.1 _ hmo) (by rw [i_nI (by omega)]; omega) dL_told_162 ?_
            refine cx_topi (y := (nI o2)) (by rw [ix_nI (by omega)]; exact h2.symm) ?_
            refine cy_callV hC (E := RJ4) (y := yJ4_append_bf812) (cy := cJ4_append_bf812) (maxL := 2) (nA := 1) (r := (some (.object "java/lang/StringBuilder"))) (rm := (RM 5 1 600 107)) (mc := 1) (ms := 600) (As := [.int (nI o2)]) (wr := []) (j_apI l D F (u := o2) (Ls := (([] : List Int32) ++ [119, 97, 105, 116, 32])) (by omega) hI16 (by simp only [List.length_append, List.length_cons, List.length_nil]; have := dg_le o2; have := dg_le o3; omega)) [0, 1] [] rfl rfl rfl rfl (by decide) (rc_sb hC (q0 := 0) rfl) (ef_sub hC hE [0, 1] rfl) kc_yJ4_append_bf812 km_L_77 ki_yJ4_append_bf812 kv_yJ4_append_bf812 kn_RJ4 ky_yJ4_append_bf812 rfl ⟨rfl, rfl⟩ ⟨Nat.le_of_ble_eq_true rfl, Nat.le_of_ble_eq_true rfl⟩ rfl (Nat.le_of_ble_eq_true rfl) ⟨by show k + 3 + 1 ≤ 120; omega, by show n + 620 + 600 ≤ 60000; omega⟩ dL_told_163 (fun o w1 h => ?_)
            obtain ⟨rfl, v17, c17, f17, rfl, hI17⟩ := h
            refine cx_cnt (k' := k + 4) (n' := n + 1220) (by omega) (by omega) ?_
            refine cx_at (ws' := [(q4, .inr (5, [.ref v17, .int 0, .int 0, .int (nI (((([] : List Int32) ++ [119, 97, 105, 116, 32]) ++ dgT o2).length))])), (v17, .inl (D.2 1, c17, .inl (f17)))]) (st' := [.ref q4]) rfl rfl ?_
            refine cy_callV hC (E := RJ4) (y := yJ4_toString_0e30d) (cy := cJ4_toString_0e30d) (maxL := 1) (nA := 0) (r := (some (.object "java/lang/String"))) (rm := (RM 6 2 604 131)) (mc := 2) (ms := 604) (As := []) (wr := []) (j_toS l D F (Ls := ((([] : List Int32) ++ [119, 97, 105, 116, 32]) ++ dgT o2)) hI17) [0, 1] [] rfl rfl rfl rfl (by decide) (rc_sb hC (q0 := 0) rfl) (ef_sub hC hE [0, 1] rfl) kc_yJ4_toString_0e30d km_L_82 ki_yJ4_toString_0e30d kv_yJ4_toString_0e30d kn_RJ4 ky_yJ4_toString_0e30d rfl ⟨rfl, rfl⟩ ⟨Nat.le_of_ble_eq_true rfl, Nat.le_of_ble_eq_true rfl⟩ rfl (Nat.le_of_ble_eq_true rfl) ⟨by show k + 4 + 2 ≤ 120; omega, by show n + 1220 + 604 ≤ 60000; omega⟩ dL_told_166 (fun o w1 h => ?_)
            obtain ⟨s1, x1, N1, g1, rfl, rfl, hN1, hg1⟩ := h
            refine cx_cnt (k' := k + 6) (n' := n + 1824) (by omega) (by omega) ?_
            refine cx_at (ws' := [(q4, .inr (5, [.ref v17, .int 0, .int 0, .int (nI (((([] : List Int32) ++ [119, 97, 105, 116, 32]) ++ dgT o2).length))])), (v17, .inl (D.2 1, c17, .inl (f17))), (s1, .inr (4, [.ref x1, .int 0, .int 0, .int 0])), (x1, .inl (D.2 1, N1, .inl (g1)))]) (st' := [.ref s1]) rfl rfl ?_
            refine cx_keep (ws' := [(s1, .inr (4, [.ref x1, .int 0, .int 0, .int 0])), (x1, .inl (D.2 1, N1, .inl (g1)))]) [2, 3] rfl rfl ?_
            have eL : ((([] : List Int32) ++ [119, 97, 105, 116, 32]) ++ dgT o2) = oneT o1 o2 o3 := by rw [cc]; rfl
            refine cx_widen (k' := k + 8) (n' := n + 3024) (by omega) (by omega) ?_
            exact K1 s1 x1 N1 g1 (by rw [← eL]; exact hN1) (fun k hk => by rw [← eL]; exact hg1 k (by rw [← hN1]; exact hk))
theorem dL_told_169 : decode cL_told 169 = .ok (.astore_n 3, 1) := by decide +kernel
theorem dL_told_170 : decode cL_told 170 = .ok (.new 68, 3) := by decide +kernel
theorem dL_told_173 : decode cL_told 173 = .ok (.dup, 1) := by decide +kernel
theorem dL_told_174 : decode cL_told 174 = .ok (.invokespecial 70, 3) := by decide +kernel
theorem dL_told_177 : decode cL_told 177 = .ok (.aload_n 1, 1) := by decide +kernel
theorem dL_told_178 : decode cL_told 178 = .ok (.invokevirtual 73, 3) := by decide +kernel
theorem dL_told_181 : decode cL_told 181 = .ok (.aload_n 3, 1) := by decide +kernel
theorem dL_told_182 : decode cL_told 182 = .ok (.invokevirtual 73, 3) := by decide +kernel
theorem dL_told_185 : decode cL_told 185 = .ok (.ldc 96, 2) := by decide +kernel
theorem dL_told_187 : decode cL_told 187 = .ok (.invokevirtual 73, 3) := by decide +kernel
theorem dL_told_190 : decode cL_told 190 = .ok (.invokevirtual 82, 3) := by decide +kernel
theorem dL_told_193 : decode cL_told 193 = .ok (.astore_n 1, 1) := by decide +kernel
theorem dL_told_194 : decode cL_told 194 = .ok (.iinc 2 3, 3) := by decide +kernel
theorem dL_told_197 : decode cL_told 197 = .ok (.goto (-192), 3) := by decide +kernel
theorem t_2oo {p : Program} {l : Launch} {e : Env} {s : State} {m : MethodId} {args : Array Value} {below : List Frame} {meth : Method} {c : Code} {D : DG} {F : EF} {A : Nat → Prop} {Q : State → Prop} {k n : Nat} (hC : CY p s m args meth c cL_told 4 RL (some (.object "java/lang/String")) D A) (hE : ENV F A s s.heap) {a st xt so xo i : Nat} {Lt Lo : List Int32} (hT : LTX F) (hi : i < 6) (hbt : ∀ k, k < Lt.length → b7 (Lt.getD k 0)) (hbo : ∀ k, k < Lo.length → b7 (Lo.getD k 0)) (hlt : Lt.length ≤ 50) (hlo : Lo.length ≤ 8) {Nt : Nat} {gt : Nat → Int32} (hNt : Nt = Lt.length) (hgt : ∀ k, k < Nt → gt k = Lt.getD k 0) {No : Nat} {go : Nat → Int32} (hNo : No = Lo.length) (hgo : ∀ k, k < No → go k = Lo.getD k 0)  (hk : k + 7 ≤ 120) (hn : n + 2424 ≤ 60000) (K : ∀ (s2 x2 N2 : Nat) (g2 : Nat → Int32) (_ : N2 = (Lt ++ (Lo ++ [59])).length) (_ : ∀ k, k < N2 → g2 k = (Lt ++ (Lo ++ [59])).getD k 0), XC p l e (RM 9 120 60000 260) s m args below meth c D A 4 Q (k + 7) (n + 2424) [(s2, .inr (4, [.ref x2, .int 0, .int 0, .int 0])), (x2, .inl (D.2 1, N2, .inl (g2)))] 5 [(2, .int (nI (3 * (i + 1)))), (1, .ref s2), (0, .ref a)] []) : XC p l e (RM 9 120 60000 260) s m args below meth c D A 4 Q (k) (n) [(so, .inr (4, [.ref xo, .int 0, .int 0, .int 0])), (xo, .inl (D.2 1, No, .inl (go))), (st, .inr (4, [.ref xt, .int 0, .int 0, .int 0])), (xt, .inl (D.2 1, Nt, .inl (gt)))] 169 [(2, .int (nI (3 * i))), (1, .ref st), (0, .ref a)] [.ref so] := by
  obtain ⟨t96, tv96, hr96, hm96⟩ := hT _ (List.mem_of_getElem? (i := 8) rfl : (96, ";", [59]) ∈ lwT)
  refine cx_astore_n hC [(3, .ref so), (2, .int (nI (3 * i))), (1, .ref st), (0, .ref a)] dL_told_169 rfl (Nat.le_of_ble_eq_true rfl) rfl ?_
  refine cx_new hC (C := RJ4) (T := TJ4) (N := 4) (ci := 5) tyJ4 [.null, .int 0, .int 0, .int 0] fw_5 tyJ4_ok (tb_22 (List.mem_of_getElem? (i := 9) rfl)) (tb_22 (List.mem_of_getElem? (i := 10) rfl)) kn_RJ4 rfl dfJ4 ⟨by show k + 0 + 1 ≤ 120; omega, by show n + 0 + 4 ≤ 60000; omega⟩ dL_told_170 (fun q1 => ?_)
  refine cx_at (ws' := [(so, .inr (4, [.ref xo, .int 0, .int 0, .int 0])), (xo, .inl (D.2 1, No, .inl (go))), (st, .inr (4, [.ref xt, .int 0, .int 0, .int 0])), (xt, .inl (D.2 1, Nt, .inl (gt))), (q1, .inr (5, [.null, .int 0, .int 0, .int 0]))]) (st' := [.ref q1]) rfl rfl ?_
  refine cx_dup hC dL_told_173 rfl ?_
  refine cy_callI hC (y := yJ4_init_da8c8) (cy := cJ4_init_da8c8) (maxL := 1) (nA := 0) (rm := (RM 2 1 16 33)) (mc := 1) (ms := 16) (As := []) (wr := [(so, .inr (4, [.ref xo, .int 0, .int 0, .int 0])), (xo, .inl (D.2 1, No, .inl (go))), (st, .inr (4, [.ref xt, .int 0, .int 0, .int 0])), (xt, .inl (D.2 1, Nt, .inl (gt)))]) (j_sbi l D F) [4] [0, 1, 2, 3] rfl rfl rfl rfl (by decide) (ef_sub hC hE [4] rfl) kc_yJ4_init_da8c8 km_L_70 ki_yJ4_init_da8c8 kn_RJ4 rfl ky_yJ4_init_da8c8 rfl ⟨rfl, rfl⟩ ⟨Nat.le_of_ble_eq_true rfl, Nat.le_of_ble_eq_true rfl⟩ rfl (Nat.le_of_ble_eq_true rfl) ⟨by show k + 1 + 1 ≤ 120; omega, by show n + 4 + 16 ≤ 60000; omega⟩ dL_told_174 (fun o w1 h => ?_)
  obtain ⟨rfl, v1, rfl⟩ := h
  refine cx_cnt (k' := k + 2) (n' := n + 20) (by omega) (by omega) ?_
  refine cx_at (ws' := [(so, .inr (4, [.ref xo, .int 0, .int 0, .int 0])), (xo, .inl (D.2 1, No, .inl (go))), (st, .inr (4, [.ref xt, .int 0, .int 0, .int 0])), (xt, .inl (D.2 1, Nt, .inl (gt))), (q1, .inr (5, [.ref v1, .int 0, .int 0, .int (nI (([] : List Int32).length))])), (v1, .inl (D.2 1, 16, .inl (fun _ => 0)))]) (st' := [.ref q1]) rfl rfl ?_
  refine cx_aload_n hC dL_told_177 rfl 2 rfl ?_
  refine cy_callV hC (E := RJ4) (y := yJ4_append_15ec4) (cy := cJ4_append_15ec4) (maxL := 2) (nA := 1) (r := (some (.object "java/lang/StringBuilder"))) (rm := (RM 5 1 600 107)) (mc := 1) (ms := 600) (As := [.ref st]) (wr := [(so, .inr (4, [.ref xo, .int 0, .int 0, .int 0])), (xo, .inl (D.2 1, No, .inl (go))), (st, .inr (4, [.ref xt, .int 0, .int 0, .int 0])), (xt, .inl (D.2 1, Nt, .inl (gt)))]) (j_apS l D ((st, xt, Lt) :: F.1, F.2) (a := st) (va := xt) (L := Lt) (Ls := ([] : List Int32)) List.mem_cons_self (hbt) sbi0 (by simp only [List.length_append, List.length_cons, List.length_nil]; omega)) [4, 5] [0, 1, 2, 3] rfl rfl rfl rfl (by decide) (rc_sb hC (q0 := 4) rfl) (ef_own hC hE [4, 5] rfl (i := 2) (j := 3) rfl rfl hNt hgt (by decide) (by decide)) kc_yJ4_append_15ec4 km_L_73 ki_yJ4_append_15ec4 kv_yJ4_append_15ec4 kn_RJ4 ky_yJ4_append_15ec4 rfl ⟨rfl, rfl⟩ ⟨Nat.le_of_ble_eq_true rfl, Nat.le_of_ble_eq_true rfl⟩ rfl (Nat.le_of_ble_eq_true rfl) ⟨by show k + 2 + 1 ≤ 120; omega, by show n + 20 + 600 ≤ 60000; omega⟩ dL_told_178 (fun o w1 h => ?_)
  obtain ⟨rfl, v2, c2, f2, rfl, hI2⟩ := h
  refine cx_cnt (k' := k + 3) (n' := n + 620) (by omega) (by omega) ?_
  refine cx_at (ws' := [(so, .inr (4, [.ref xo, .int 0, .int 0, .int 0])), (xo, .inl (D.2 1, No, .inl (go))), (st, .inr (4, [.ref xt, .int 0, .int 0, .int 0])), (xt, .inl (D.2 1, Nt, .inl (gt))), (q1, .inr (5, [.ref v2, .int 0, .int 0, .int (nI ((([] : List Int32) ++ Lt).length))])), (v2, .inl (D.2 1, c2, .inl (f2)))]) (st' := [.ref q1]) rfl rfl ?_
  refine cx_aload_n hC dL_told_181 rfl 0 rfl ?_
  refine cy_callV hC (E := RJ4) (y := yJ4_append_15ec4) (cy := cJ4_append_15ec4) (maxL := 2) (nA := 1) (r := (some (.object "java/lang/StringBuilder"))) (rm := (RM 5 1 600 107)) (mc := 1) (ms := 600) (As := [.ref so]) (wr := [(so, .inr (4, [.ref xo, .int 0, .int 0, .int 0])), (xo, .inl (D.2 1, No, .inl (go))), (st, .inr (4, [.ref xt, .int 0, .int 0, .int 0])), (xt, .inl (D.2 1, Nt, .inl (gt)))]) (j_apS l D ((so, xo, Lo) :: F.1, F.2) (a := so) (va := xo) (L := Lo) (Ls := (([] : List Int32) ++ Lt)) List.mem_cons_self (hbo) hI2 (by simp only [List.length_append, List.length_cons, List.length_nil]; omega)) [4, 5] [0, 1, 2, 3] rfl rfl rfl rfl (by decide) (rc_sb hC (q0 := 4) rfl) (ef_own hC hE [4, 5] rfl (i := 0) (j := 1) rfl rfl hNo hgo (by decide) (by decide)) kc_yJ4_append_15ec4 km_L_73 ki_yJ4_append_15ec4 kv_yJ4_append_15ec4 kn_RJ4 ky_yJ4_append_15ec4 rfl ⟨rfl, rfl⟩ ⟨Nat.le_of_ble_eq_true rfl, Nat.le_of_ble_eq_true rfl⟩ rfl (Nat.le_of_ble_eq_true rfl) ⟨by show k + 3 + 1 ≤ 120; omega, by show n + 620 + 600 ≤ 60000; omega⟩ dL_told_182 (fun o w1 h => ?_)
  obtain ⟨rfl, v3, c3, f3, rfl, hI3⟩ := h
  refine cx_cnt (k' := k + 4) (n' := n + 1220) (by omega) (by omega) ?_
  refine cx_at (ws' := [(so, .inr (4, [.ref xo, .int 0, .int 0, .int 0])), (xo, .inl (D.2 1, No, .inl (go))), (st, .inr (4, [.ref xt, .int 0, .int 0, .int 0])), (xt, .inl (D.2 1, Nt, .inl (gt))), (q1, .inr (5, [.ref v3, .int 0, .int 0, .int (nI (((([] : List Int32) ++ Lt) ++ Lo).length))])), (v3, .inl (D.2 1, c3, .inl (f3)))]) (st' := [.ref q1]) rfl rfl ?_
  refine cx_ldcS hC (hE.2.2.2.2.2.2.1 _ hr96) dL_told_185 ?_
  refine cy_callV hC (E := RJ4) (y := yJ4_append_15ec4) (cy := cJ4_append_15ec4) (maxL := 2) (nA := 1) (r := (some (.object "java/lang/StringBuilder"))) (rm := (RM 5 1 600 107)) (mc := 1) (ms := 600) (As := [.ref t96]) (wr := [(so, .inr (4, [.ref xo, .int 0, .int 0, .int 0])), (xo, .inl (D.2 1, No, .inl (go))), (st, .inr (4, [.ref xt, .int 0, .int 0, .int 0])), (xt, .inl (D.2 1, Nt, .inl (gt)))]) (j_apS l D F (L := [59]) (Ls := ((([] : List Int32) ++ Lt) ++ Lo)) hm96 (lit7 (by decide)) hI3 (by simp only [List.length_append, List.length_cons, List.length_nil]; omega)) [4, 5] [0, 1, 2, 3] rfl rfl rfl rfl (by decide) (rc_sb hC (q0 := 4) rfl) (ef_sub hC hE [4, 5] rfl) kc_yJ4_append_15ec4 km_L_73 ki_yJ4_append_15ec4 kv_yJ4_append_15ec4 kn_RJ4 ky_yJ4_append_15ec4 rfl ⟨rfl, rfl⟩ ⟨Nat.le_of_ble_eq_true rfl, Nat.le_of_ble_eq_true rfl⟩ rfl (Nat.le_of_ble_eq_true rfl) ⟨by show k + 4 + 1 ≤ 120; omega, by show n + 1220 + 600 ≤ 60000; omega⟩ dL_told_187 (fun o w1 h => ?_)
  obtain ⟨rfl, v4, c4, f4, rfl, hI4⟩ := h
  refine cx_cnt (k' := k + 5) (n' := n + 1820) (by omega) (by omega) ?_
  refine cx_at (ws' := [(so, .inr (4, [.ref xo, .int 0, .int 0, .int 0])), (xo, .inl (D.2 1, No, .inl (go))), (st, .inr (4, [.ref xt, .int 0, .int 0, .int 0])), (xt, .inl (D.2 1, Nt, .inl (gt))), (q1, .inr (5, [.ref v4, .int 0, .int 0, .int (nI ((((([] : List Int32) ++ Lt) ++ Lo) ++ [59]).length))])), (v4, .inl (D.2 1, c4, .inl (f4)))]) (st' := [.ref q1]) rfl rfl ?_
  refine cy_callV hC (E := RJ4) (y := yJ4_toString_0e30d) (cy := cJ4_toString_0e30d) (maxL := 1) (nA := 0) (r := (some (.object "java/lang/String"))) (rm := (RM 6 2 604 131)) (mc := 2) (ms := 604) (As := []) (wr := [(so, .inr (4, [.ref xo, .int 0, .int 0, .int 0])), (xo, .inl (D.2 1, No, .inl (go))), (st, .inr (4, [.ref xt, .int 0, .int 0, .int 0])), (xt, .inl (D.2 1, Nt, .inl (gt)))]) (j_toS l D F (Ls := (((([] : List Int32) ++ Lt) ++ Lo) ++ [59])) hI4) [4, 5] [0, 1, 2, 3] rfl rfl rfl rfl (by decide) (rc_sb hC (q0 := 4) rfl) (ef_sub hC hE [4, 5] rfl) kc_yJ4_toString_0e30d km_L_82 ki_yJ4_toString_0e30d kv_yJ4_toString_0e30d kn_RJ4 ky_yJ4_toString_0e30d rfl ⟨rfl, rfl⟩ ⟨Nat.le_of_ble_eq_true rfl, Nat.le_of_ble_eq_true rfl⟩ rfl (Nat.le_of_ble_eq_true rfl) ⟨by show k + 5 + 2 ≤ 120; omega, by show n + 1820 + 604 ≤ 60000; omega⟩ dL_told_190 (fun o w1 h => ?_)
  obtain ⟨s2, x2, N2, g2, rfl, rfl, hN2, hg2⟩ := h
  refine cx_cnt (k' := k + 7) (n' := n + 2424) (by omega) (by omega) ?_
  refine cx_at (ws' := [(so, .inr (4, [.ref xo, .int 0, .int 0, .int 0])), (xo, .inl (D.2 1, No, .inl (go))), (st, .inr (4, [.ref xt, .int 0, .int 0, .int 0])), (xt, .inl (D.2 1, Nt, .inl (gt))), (q1, .inr (5, [.ref v4, .int 0, .int 0, .int (nI ((((([] : List Int32) ++ Lt) ++ Lo) ++ [59]).length))])), (v4, .inl (D.2 1, c4, .inl (f4))), (s2, .inr (4, [.ref x2, .int 0, .int 0, .int 0])), (x2, .inl (D.2 1, N2, .inl (g2)))]) (st' := [.ref s2]) rfl rfl ?_
  refine cx_astore_n hC [(1, .ref s2), (3, .ref so), (2, .int (nI (3 * i))), (0, .ref a)] dL_told_193 rfl (Nat.le_of_ble_eq_true rfl) rfl ?_
  refine cx_iinc hC [(2, .int (nI (3 * (i + 1)))), (1, .ref s2), (3, .ref so), (0, .ref a)] dL_told_194 2 rfl (v := (nI (3 * (i + 1)))) (by rw [show 3 * (i + 1) = 3 * i + 3 by omega]; exact n_add _ 3) (Nat.le_of_ble_eq_true rfl) rfl ?_
  refine cx_goto hC 5 dL_told_197 (by decide) ?_
  refine cx_keep (ws' := [(s2, .inr (4, [.ref x2, .int 0, .int 0, .int 0])), (x2, .inl (D.2 1, N2, .inl (g2)))]) [6, 7] rfl rfl ?_
  refine cx_sub [0, 1, 3] (lv' := [(2, .int (nI (3 * (i + 1)))), (1, .ref s2), (0, .ref a)]) rfl ?_
  have eL : ((([] : List Int32) ++ Lt) ++ Lo) ++ [59] = Lt ++ (Lo ++ [59]) := List.append_assoc Lt Lo [59]
  refine cx_widen (k' := k + 7) (n' := n + 2424) (by omega) (by omega) ?_
  exact K s2 x2 N2 g2 (by rw [← eL]; exact hN2) (fun k hk => by rw [← eL]; exact hg2 k (by rw [← hN2]; exact hk))
theorem t_2ox {p : Program} {l : Launch} {e : Env} {s : State} {m : MethodId} {args : Array Value} {below : List Frame} {meth : Method} {c : Code} {D : DG} {F : EF} {A : Nat → Prop} {Q : State → Prop} {k n : Nat} (hC : CY p s m args meth c cL_told 4 RL (some (.object "java/lang/String")) D A) (hE : ENV F A s s.heap) {a st xt so xo i : Nat} {Lt Lo : List Int32} (hT : LTX F) (hi : i < 6) (hbt : ∀ k, k < Lt.length → b7 (Lt.getD k 0)) (hbo : ∀ k, k < Lo.length → b7 (Lo.getD k 0)) (hlt : Lt.length ≤ 50) (hlo : Lo.length ≤ 8) {Nt : Nat} {gt : Nat → Int32} (hNt : Nt = Lt.length) (hgt : ∀ k, k < Nt → gt k = Lt.getD k 0) (hmx : (so, xo, Lo) ∈ F.1)  (hk : k + 7 ≤ 120) (hn : n + 2424 ≤ 60000) (K : ∀ (s2 x2 N2 : Nat) (g2 : Nat → Int32) (_ : N2 = (Lt ++ (Lo ++ [59])).length) (_ : ∀ k, k < N2 → g2 k = (Lt ++ (Lo ++ [59])).getD k 0), XC p l e (RM 9 120 60000 260) s m args below meth c D A 4 Q (k + 7) (n + 2424) [(s2, .inr (4, [.ref x2, .int 0, .int 0, .int 0])), (x2, .inl (D.2 1, N2, .inl (g2)))] 5 [(2, .int (nI (3 * (i + 1)))), (1, .ref s2), (0, .ref a)] []) : XC p l e (RM 9 120 60000 260) s m args below meth c D A 4 Q (k) (n) [(st, .inr (4, [.ref xt, .int 0, .int 0, .int 0])), (xt, .inl (D.2 1, Nt, .inl (gt)))] 169 [(2, .int (nI (3 * i))), (1, .ref st), (0, .ref a)] [.ref so] := by
  obtain ⟨t96, tv96, hr96, hm96⟩ := hT _ (List.mem_of_getElem? (i := 8) rfl : (96, ";", [59]) ∈ lwT)
  refine cx_astore_n hC [(3, .ref so), (2, .int (nI (3 * i))), (1, .ref st), (0, .ref a)] dL_told_169 rfl (Nat.le_of_ble_eq_true rfl) rfl ?_
  refine cx_new hC (C := RJ4) (T := TJ4) (N := 4) (ci := 5) tyJ4 [.null, .int 0, .int 0, .int 0] fw_5 tyJ4_ok (tb_22 (List.mem_of_getElem? (i := 9) rfl)) (tb_22 (List.mem_of_getElem? (i := 10) rfl)) kn_RJ4 rfl dfJ4 ⟨by show k + 0 + 1 ≤ 120; omega, by show n + 0 + 4 ≤ 60000; omega⟩ dL_told_170 (fun q1 => ?_)
  refine cx_at (ws' := [(st, .inr (4, [.ref xt, .int 0, .int 0, .int 0])), (xt, .inl (D.2 1, Nt, .inl (gt))), (q1, .inr (5, [.null, .int 0, .int 0, .int 0]))]) (st' := [.ref q1]) rfl rfl ?_
  refine cx_dup hC dL_told_173 rfl ?_
  refine cy_callI hC (y := yJ4_init_da8c8) (cy := cJ4_init_da8c8) (maxL := 1) (nA := 0) (rm := (RM 2 1 16 33)) (mc := 1) (ms := 16) (As := []) (wr := [(st, .inr (4, [.ref xt, .int 0, .int 0, .int 0])), (xt, .inl (D.2 1, Nt, .inl (gt)))]) (j_sbi l D F) [2] [0, 1] rfl rfl rfl rfl (by decide) (ef_sub hC hE [2] rfl) kc_yJ4_init_da8c8 km_L_70 ki_yJ4_init_da8c8 kn_RJ4 rfl ky_yJ4_init_da8c8 rfl ⟨rfl, rfl⟩ ⟨Nat.le_of_ble_eq_true rfl, Nat.le_of_ble_eq_true rfl⟩ rfl (Nat.le_of_ble_eq_true rfl) ⟨by show k + 1 + 1 ≤ 120; omega, by show n + 4 + 16 ≤ 60000; omega⟩ dL_told_174 (fun o w1 h => ?_)
  obtain ⟨rfl, v1, rfl⟩ := h
  refine cx_cnt (k' := k + 2) (n' := n + 20) (by omega) (by omega) ?_
  refine cx_at (ws' := [(st, .inr (4, [.ref xt, .int 0, .int 0, .int 0])), (xt, .inl (D.2 1, Nt, .inl (gt))), (q1, .inr (5, [.ref v1, .int 0, .int 0, .int (nI (([] : List Int32).length))])), (v1, .inl (D.2 1, 16, .inl (fun _ => 0)))]) (st' := [.ref q1]) rfl rfl ?_
  refine cx_aload_n hC dL_told_177 rfl 2 rfl ?_
  refine cy_callV hC (E := RJ4) (y := yJ4_append_15ec4) (cy := cJ4_append_15ec4) (maxL := 2) (nA := 1) (r := (some (.object "java/lang/StringBuilder"))) (rm := (RM 5 1 600 107)) (mc := 1) (ms := 600) (As := [.ref st]) (wr := [(st, .inr (4, [.ref xt, .int 0, .int 0, .int 0])), (xt, .inl (D.2 1, Nt, .inl (gt)))]) (j_apS l D ((st, xt, Lt) :: F.1, F.2) (a := st) (va := xt) (L := Lt) (Ls := ([] : List Int32)) List.mem_cons_self (hbt) sbi0 (by simp only [List.length_append, List.length_cons, List.length_nil]; omega)) [2, 3] [0, 1] rfl rfl rfl rfl (by decide) (rc_sb hC (q0 := 2) rfl) (ef_own hC hE [2, 3] rfl (i := 0) (j := 1) rfl rfl hNt hgt (by decide) (by decide)) kc_yJ4_append_15ec4 km_L_73 ki_yJ4_append_15ec4 kv_yJ4_append_15ec4 kn_RJ4 ky_yJ4_append_15ec4 rfl ⟨rfl, rfl⟩ ⟨Nat.le_of_ble_eq_true rfl, Nat.le_of_ble_eq_true rfl⟩ rfl (Nat.le_of_ble_eq_true rfl) ⟨by show k + 2 + 1 ≤ 120; omega, by show n + 20 + 600 ≤ 60000; omega⟩ dL_told_178 (fun o w1 h => ?_)
  obtain ⟨rfl, v2, c2, f2, rfl, hI2⟩ := h
  refine cx_cnt (k' := k + 3) (n' := n + 620) (by omega) (by omega) ?_
  refine cx_at (ws' := [(st, .inr (4, [.ref xt, .int 0, .int 0, .int 0])), (xt, .inl (D.2 1, Nt, .inl (gt))), (q1, .inr (5, [.ref v2, .int 0, .int 0, .int (nI ((([] : List Int32) ++ Lt).length))])), (v2, .inl (D.2 1, c2, .inl (f2)))]) (st' := [.ref q1]) rfl rfl ?_
  refine cx_aload_n hC dL_told_181 rfl 0 rfl ?_
  refine cy_callV hC (E := RJ4) (y := yJ4_append_15ec4) (cy := cJ4_append_15ec4) (maxL := 2) (nA := 1) (r := (some (.object "java/lang/StringBuilder"))) (rm := (RM 5 1 600 107)) (mc := 1) (ms := 600) (As := [.ref so]) (wr := [(st, .inr (4, [.ref xt, .int 0, .int 0, .int 0])), (xt, .inl (D.2 1, Nt, .inl (gt)))]) (j_apS l D F (L := Lo) (Ls := (([] : List Int32) ++ Lt)) hmx (hbo) hI2 (by simp only [List.length_append, List.length_cons, List.length_nil]; omega)) [2, 3] [0, 1] rfl rfl rfl rfl (by decide) (rc_sb hC (q0 := 2) rfl) (ef_sub hC hE [2, 3] rfl) kc_yJ4_append_15ec4 km_L_73 ki_yJ4_append_15ec4 kv_yJ4_append_15ec4 kn_RJ4 ky_yJ4_append_15ec4 rfl ⟨rfl, rfl⟩ ⟨Nat.le_of_ble_eq_true rfl, Nat.le_of_ble_eq_true rfl⟩ rfl (Nat.le_of_ble_eq_true rfl) ⟨by show k + 3 + 1 ≤ 120; omega, by show n + 620 + 600 ≤ 60000; omega⟩ dL_told_182 (fun o w1 h => ?_)
  obtain ⟨rfl, v3, c3, f3, rfl, hI3⟩ := h
  refine cx_cnt (k' := k + 4) (n' := n + 1220) (by omega) (by omega) ?_
  refine cx_at (ws' := [(st, .inr (4, [.ref xt, .int 0, .int 0, .int 0])), (xt, .inl (D.2 1, Nt, .inl (gt))), (q1, .inr (5, [.ref v3, .int 0, .int 0, .int (nI (((([] : List Int32) ++ Lt) ++ Lo).length))])), (v3, .inl (D.2 1, c3, .inl (f3)))]) (st' := [.ref q1]) rfl rfl ?_
  refine cx_ldcS hC (hE.2.2.2.2.2.2.1 _ hr96) dL_told_185 ?_
  refine cy_callV hC (E := RJ4) (y := yJ4_append_15ec4) (cy := cJ4_append_15ec4) (maxL := 2) (nA := 1) (r := (some (.object "java/lang/StringBuilder"))) (rm := (RM 5 1 600 107)) (mc := 1) (ms := 600) (As := [.ref t96]) (wr := [(st, .inr (4, [.ref xt, .int 0, .int 0, .int 0])), (xt, .inl (D.2 1, Nt, .inl (gt)))]) (j_apS l D F (L := [59]) (Ls := ((([] : List Int32) ++ Lt) ++ Lo)) hm96 (lit7 (by decide)) hI3 (by simp only [List.length_append, List.length_cons, List.length_nil]; omega)) [2, 3] [0, 1] rfl rfl rfl rfl (by decide) (rc_sb hC (q0 := 2) rfl) (ef_sub hC hE [2, 3] rfl) kc_yJ4_append_15ec4 km_L_73 ki_yJ4_append_15ec4 kv_yJ4_append_15ec4 kn_RJ4 ky_yJ4_append_15ec4 rfl ⟨rfl, rfl⟩ ⟨Nat.le_of_ble_eq_true rfl, Nat.le_of_ble_eq_true rfl⟩ rfl (Nat.le_of_ble_eq_true rfl) ⟨by show k + 4 + 1 ≤ 120; omega, by show n + 1220 + 600 ≤ 60000; omega⟩ dL_told_187 (fun o w1 h => ?_)
  obtain ⟨rfl, v4, c4, f4, rfl, hI4⟩ := h
  refine cx_cnt (k' := k + 5) (n' := n + 1820) (by omega) (by omega) ?_
  refine cx_at (ws' := [(st, .inr (4, [.ref xt, .int 0, .int 0, .int 0])), (xt, .inl (D.2 1, Nt, .inl (gt))), (q1, .inr (5, [.ref v4, .int 0, .int 0, .int (nI ((((([] : List Int32) ++ Lt) ++ Lo) ++ [59]).length))])), (v4, .inl (D.2 1, c4, .inl (f4)))]) (st' := [.ref q1]) rfl rfl ?_
  refine cy_callV hC (E := RJ4) (y := yJ4_toString_0e30d) (cy := cJ4_toString_0e30d) (maxL := 1) (nA := 0) (r := (some (.object "java/lang/String"))) (rm := (RM 6 2 604 131)) (mc := 2) (ms := 604) (As := []) (wr := [(st, .inr (4, [.ref xt, .int 0, .int 0, .int 0])), (xt, .inl (D.2 1, Nt, .inl (gt)))]) (j_toS l D F (Ls := (((([] : List Int32) ++ Lt) ++ Lo) ++ [59])) hI4) [2, 3] [0, 1] rfl rfl rfl rfl (by decide) (rc_sb hC (q0 := 2) rfl) (ef_sub hC hE [2, 3] rfl) kc_yJ4_toString_0e30d km_L_82 ki_yJ4_toString_0e30d kv_yJ4_toString_0e30d kn_RJ4 ky_yJ4_toString_0e30d rfl ⟨rfl, rfl⟩ ⟨Nat.le_of_ble_eq_true rfl, Nat.le_of_ble_eq_true rfl⟩ rfl (Nat.le_of_ble_eq_true rfl) ⟨by show k + 5 + 2 ≤ 120; omega, by show n + 1820 + 604 ≤ 60000; omega⟩ dL_told_190 (fun o w1 h => ?_)
  obtain ⟨s2, x2, N2, g2, rfl, rfl, hN2, hg2⟩ := h
  refine cx_cnt (k' := k + 7) (n' := n + 2424) (by omega) (by omega) ?_
  refine cx_at (ws' := [(st, .inr (4, [.ref xt, .int 0, .int 0, .int 0])), (xt, .inl (D.2 1, Nt, .inl (gt))), (q1, .inr (5, [.ref v4, .int 0, .int 0, .int (nI ((((([] : List Int32) ++ Lt) ++ Lo) ++ [59]).length))])), (v4, .inl (D.2 1, c4, .inl (f4))), (s2, .inr (4, [.ref x2, .int 0, .int 0, .int 0])), (x2, .inl (D.2 1, N2, .inl (g2)))]) (st' := [.ref s2]) rfl rfl ?_
  refine cx_astore_n hC [(1, .ref s2), (3, .ref so), (2, .int (nI (3 * i))), (0, .ref a)] dL_told_193 rfl (Nat.le_of_ble_eq_true rfl) rfl ?_
  refine cx_iinc hC [(2, .int (nI (3 * (i + 1)))), (1, .ref s2), (3, .ref so), (0, .ref a)] dL_told_194 2 rfl (v := (nI (3 * (i + 1)))) (by rw [show 3 * (i + 1) = 3 * i + 3 by omega]; exact n_add _ 3) (Nat.le_of_ble_eq_true rfl) rfl ?_
  refine cx_goto hC 5 dL_told_197 (by decide) ?_
  refine cx_keep (ws' := [(s2, .inr (4, [.ref x2, .int 0, .int 0, .int 0])), (x2, .inl (D.2 1, N2, .inl (g2)))]) [4, 5] rfl rfl ?_
  refine cx_sub [0, 1, 3] (lv' := [(2, .int (nI (3 * (i + 1)))), (1, .ref s2), (0, .ref a)]) rfl ?_
  have eL : ((([] : List Int32) ++ Lt) ++ Lo) ++ [59] = Lt ++ (Lo ++ [59]) := List.append_assoc Lt Lo [59]
  refine cx_widen (k' := k + 7) (n' := n + 2424) (by omega) (by omega) ?_
  exact K s2 x2 N2 g2 (by rw [← eL]; exact hN2) (fun k hk => by rw [← eL]; exact hg2 k (by rw [← hN2]; exact hk))
theorem t_2xo {p : Program} {l : Launch} {e : Env} {s : State} {m : MethodId} {args : Array Value} {below : List Frame} {meth : Method} {c : Code} {D : DG} {F : EF} {A : Nat → Prop} {Q : State → Prop} {k n : Nat} (hC : CY p s m args meth c cL_told 4 RL (some (.object "java/lang/String")) D A) (hE : ENV F A s s.heap) {a st xt so xo i : Nat} {Lt Lo : List Int32} (hT : LTX F) (hi : i < 6) (hbt : ∀ k, k < Lt.length → b7 (Lt.getD k 0)) (hbo : ∀ k, k < Lo.length → b7 (Lo.getD k 0)) (hlt : Lt.length ≤ 50) (hlo : Lo.length ≤ 8) (hmt : (st, xt, Lt) ∈ F.1) {No : Nat} {go : Nat → Int32} (hNo : No = Lo.length) (hgo : ∀ k, k < No → go k = Lo.getD k 0)  (hk : k + 7 ≤ 120) (hn : n + 2424 ≤ 60000) (K : ∀ (s2 x2 N2 : Nat) (g2 : Nat → Int32) (_ : N2 = (Lt ++ (Lo ++ [59])).length) (_ : ∀ k, k < N2 → g2 k = (Lt ++ (Lo ++ [59])).getD k 0), XC p l e (RM 9 120 60000 260) s m args below meth c D A 4 Q (k + 7) (n + 2424) [(s2, .inr (4, [.ref x2, .int 0, .int 0, .int 0])), (x2, .inl (D.2 1, N2, .inl (g2)))] 5 [(2, .int (nI (3 * (i + 1)))), (1, .ref s2), (0, .ref a)] []) : XC p l e (RM 9 120 60000 260) s m args below meth c D A 4 Q (k) (n) [(so, .inr (4, [.ref xo, .int 0, .int 0, .int 0])), (xo, .inl (D.2 1, No, .inl (go)))] 169 [(2, .int (nI (3 * i))), (1, .ref st), (0, .ref a)] [.ref so] := by
  obtain ⟨t96, tv96, hr96, hm96⟩ := hT _ (List.mem_of_getElem? (i := 8) rfl : (96, ";", [59]) ∈ lwT)
  refine cx_astore_n hC [(3, .ref so), (2, .int (nI (3 * i))), (1, .ref st), (0, .ref a)] dL_told_169 rfl (Nat.le_of_ble_eq_true rfl) rfl ?_
  refine cx_new hC (C := RJ4) (T := TJ4) (N := 4) (ci := 5) tyJ4 [.null, .int 0, .int 0, .int 0] fw_5 tyJ4_ok (tb_22 (List.mem_of_getElem? (i := 9) rfl)) (tb_22 (List.mem_of_getElem? (i := 10) rfl)) kn_RJ4 rfl dfJ4 ⟨by show k + 0 + 1 ≤ 120; omega, by show n + 0 + 4 ≤ 60000; omega⟩ dL_told_170 (fun q1 => ?_)
  refine cx_at (ws' := [(so, .inr (4, [.ref xo, .int 0, .int 0, .int 0])), (xo, .inl (D.2 1, No, .inl (go))), (q1, .inr (5, [.null, .int 0, .int 0, .int 0]))]) (st' := [.ref q1]) rfl rfl ?_
  refine cx_dup hC dL_told_173 rfl ?_
  refine cy_callI hC (y := yJ4_init_da8c8) (cy := cJ4_init_da8c8) (maxL := 1) (nA := 0) (rm := (RM 2 1 16 33)) (mc := 1) (ms := 16) (As := []) (wr := [(so, .inr (4, [.ref xo, .int 0, .int 0, .int 0])), (xo, .inl (D.2 1, No, .inl (go)))]) (j_sbi l D F) [2] [0, 1] rfl rfl rfl rfl (by decide) (ef_sub hC hE [2] rfl) kc_yJ4_init_da8c8 km_L_70 ki_yJ4_init_da8c8 kn_RJ4 rfl ky_yJ4_init_da8c8 rfl ⟨rfl, rfl⟩ ⟨Nat.le_of_ble_eq_true rfl, Nat.le_of_ble_eq_true rfl⟩ rfl (Nat.le_of_ble_eq_true rfl) ⟨by show k + 1 + 1 ≤ 120; omega, by show n + 4 + 16 ≤ 60000; omega⟩ dL_told_174 (fun o w1 h => ?_)
  obtain ⟨rfl, v1, rfl⟩ := h
  refine cx_cnt (k' := k + 2) (n' := n + 20) (by omega) (by omega) ?_
  refine cx_at (ws' := [(so, .inr (4, [.ref xo, .int 0, .int 0, .int 0])), (xo, .inl (D.2 1, No, .inl (go))), (q1, .inr (5, [.ref v1, .int 0, .int 0, .int (nI (([] : List Int32).length))])), (v1, .inl (D.2 1, 16, .inl (fun _ => 0)))]) (st' := [.ref q1]) rfl rfl ?_
  refine cx_aload_n hC dL_told_177 rfl 2 rfl ?_
  refine cy_callV hC (E := RJ4) (y := yJ4_append_15ec4) (cy := cJ4_append_15ec4) (maxL := 2) (nA := 1) (r := (some (.object "java/lang/StringBuilder"))) (rm := (RM 5 1 600 107)) (mc := 1) (ms := 600) (As := [.ref st]) (wr := [(so, .inr (4, [.ref xo, .int 0, .int 0, .int 0])), (xo, .inl (D.2 1, No, .inl (go)))]) (j_apS l D F (L := Lt) (Ls := ([] : List Int32)) hmt (hbt) sbi0 (by simp only [List.length_append, List.length_cons, List.length_nil]; omega)) [2, 3] [0, 1] rfl rfl rfl rfl (by decide) (rc_sb hC (q0 := 2) rfl) (ef_sub hC hE [2, 3] rfl) kc_yJ4_append_15ec4 km_L_73 ki_yJ4_append_15ec4 kv_yJ4_append_15ec4 kn_RJ4 ky_yJ4_append_15ec4 rfl ⟨rfl, rfl⟩ ⟨Nat.le_of_ble_eq_true rfl, Nat.le_of_ble_eq_true rfl⟩ rfl (Nat.le_of_ble_eq_true rfl) ⟨by show k + 2 + 1 ≤ 120; omega, by show n + 20 + 600 ≤ 60000; omega⟩ dL_told_178 (fun o w1 h => ?_)
  obtain ⟨rfl, v2, c2, f2, rfl, hI2⟩ := h
  refine cx_cnt (k' := k + 3) (n' := n + 620) (by omega) (by omega) ?_
  refine cx_at (ws' := [(so, .inr (4, [.ref xo, .int 0, .int 0, .int 0])), (xo, .inl (D.2 1, No, .inl (go))), (q1, .inr (5, [.ref v2, .int 0, .int 0, .int (nI ((([] : List Int32) ++ Lt).length))])), (v2, .inl (D.2 1, c2, .inl (f2)))]) (st' := [.ref q1]) rfl rfl ?_
  refine cx_aload_n hC dL_told_181 rfl 0 rfl ?_
  refine cy_callV hC (E := RJ4) (y := yJ4_append_15ec4) (cy := cJ4_append_15ec4) (maxL := 2) (nA := 1) (r := (some (.object "java/lang/StringBuilder"))) (rm := (RM 5 1 600 107)) (mc := 1) (ms := 600) (As := [.ref so]) (wr := [(so, .inr (4, [.ref xo, .int 0, .int 0, .int 0])), (xo, .inl (D.2 1, No, .inl (go)))]) (j_apS l D ((so, xo, Lo) :: F.1, F.2) (a := so) (va := xo) (L := Lo) (Ls := (([] : List Int32) ++ Lt)) List.mem_cons_self (hbo) hI2 (by simp only [List.length_append, List.length_cons, List.length_nil]; omega)) [2, 3] [0, 1] rfl rfl rfl rfl (by decide) (rc_sb hC (q0 := 2) rfl) (ef_own hC hE [2, 3] rfl (i := 0) (j := 1) rfl rfl hNo hgo (by decide) (by decide)) kc_yJ4_append_15ec4 km_L_73 ki_yJ4_append_15ec4 kv_yJ4_append_15ec4 kn_RJ4 ky_yJ4_append_15ec4 rfl ⟨rfl, rfl⟩ ⟨Nat.le_of_ble_eq_true rfl, Nat.le_of_ble_eq_true rfl⟩ rfl (Nat.le_of_ble_eq_true rfl) ⟨by show k + 3 + 1 ≤ 120; omega, by show n + 620 + 600 ≤ 60000; omega⟩ dL_told_182 (fun o w1 h => ?_)
  obtain ⟨rfl, v3, c3, f3, rfl, hI3⟩ := h
  refine cx_cnt (k' := k + 4) (n' := n + 1220) (by omega) (by omega) ?_
  refine cx_at (ws' := [(so, .inr (4, [.ref xo, .int 0, .int 0, .int 0])), (xo, .inl (D.2 1, No, .inl (go))), (q1, .inr (5, [.ref v3, .int 0, .int 0, .int (nI (((([] : List Int32) ++ Lt) ++ Lo).length))])), (v3, .inl (D.2 1, c3, .inl (f3)))]) (st' := [.ref q1]) rfl rfl ?_
  refine cx_ldcS hC (hE.2.2.2.2.2.2.1 _ hr96) dL_told_185 ?_
  refine cy_callV hC (E := RJ4) (y := yJ4_append_15ec4) (cy := cJ4_append_15ec4) (maxL := 2) (nA := 1) (r := (some (.object "java/lang/StringBuilder"))) (rm := (RM 5 1 600 107)) (mc := 1) (ms := 600) (As := [.ref t96]) (wr := [(so, .inr (4, [.ref xo, .int 0, .int 0, .int 0])), (xo, .inl (D.2 1, No, .inl (go)))]) (j_apS l D F (L := [59]) (Ls := ((([] : List Int32) ++ Lt) ++ Lo)) hm96 (lit7 (by decide)) hI3 (by simp only [List.length_append, List.length_cons, List.length_nil]; omega)) [2, 3] [0, 1] rfl rfl rfl rfl (by decide) (rc_sb hC (q0 := 2) rfl) (ef_sub hC hE [2, 3] rfl) kc_yJ4_append_15ec4 km_L_73 ki_yJ4_append_15ec4 kv_yJ4_append_15ec4 kn_RJ4 ky_yJ4_append_15ec4 rfl ⟨rfl, rfl⟩ ⟨Nat.le_of_ble_eq_true rfl, Nat.le_of_ble_eq_true rfl⟩ rfl (Nat.le_of_ble_eq_true rfl) ⟨by show k + 4 + 1 ≤ 120; omega, by show n + 1220 + 600 ≤ 60000; omega⟩ dL_told_187 (fun o w1 h => ?_)
  obtain ⟨rfl, v4, c4, f4, rfl, hI4⟩ := h
  refine cx_cnt (k' := k + 5) (n' := n + 1820) (by omega) (by omega) ?_
  refine cx_at (ws' := [(so, .inr (4, [.ref xo, .int 0, .int 0, .int 0])), (xo, .inl (D.2 1, No, .inl (go))), (q1, .inr (5, [.ref v4, .int 0, .int 0, .int (nI ((((([] : List Int32) ++ Lt) ++ Lo) ++ [59]).length))])), (v4, .inl (D.2 1, c4, .inl (f4)))]) (st' := [.ref q1]) rfl rfl ?_
  refine cy_callV hC (E := RJ4) (y := yJ4_toString_0e30d) (cy := cJ4_toString_0e30d) (maxL := 1) (nA := 0) (r := (some (.object "java/lang/String"))) (rm := (RM 6 2 604 131)) (mc := 2) (ms := 604) (As := []) (wr := [(so, .inr (4, [.ref xo, .int 0, .int 0, .int 0])), (xo, .inl (D.2 1, No, .inl (go)))]) (j_toS l D F (Ls := (((([] : List Int32) ++ Lt) ++ Lo) ++ [59])) hI4) [2, 3] [0, 1] rfl rfl rfl rfl (by decide) (rc_sb hC (q0 := 2) rfl) (ef_sub hC hE [2, 3] rfl) kc_yJ4_toString_0e30d km_L_82 ki_yJ4_toString_0e30d kv_yJ4_toString_0e30d kn_RJ4 ky_yJ4_toString_0e30d rfl ⟨rfl, rfl⟩ ⟨Nat.le_of_ble_eq_true rfl, Nat.le_of_ble_eq_true rfl⟩ rfl (Nat.le_of_ble_eq_true rfl) ⟨by show k + 5 + 2 ≤ 120; omega, by show n + 1820 + 604 ≤ 60000; omega⟩ dL_told_190 (fun o w1 h => ?_)
  obtain ⟨s2, x2, N2, g2, rfl, rfl, hN2, hg2⟩ := h
  refine cx_cnt (k' := k + 7) (n' := n + 2424) (by omega) (by omega) ?_
  refine cx_at (ws' := [(so, .inr (4, [.ref xo, .int 0, .int 0, .int 0])), (xo, .inl (D.2 1, No, .inl (go))), (q1, .inr (5, [.ref v4, .int 0, .int 0, .int (nI ((((([] : List Int32) ++ Lt) ++ Lo) ++ [59]).length))])), (v4, .inl (D.2 1, c4, .inl (f4))), (s2, .inr (4, [.ref x2, .int 0, .int 0, .int 0])), (x2, .inl (D.2 1, N2, .inl (g2)))]) (st' := [.ref s2]) rfl rfl ?_
  refine cx_astore_n hC [(1, .ref s2), (3, .ref so), (2, .int (nI (3 * i))), (0, .ref a)] dL_told_193 rfl (Nat.le_of_ble_eq_true rfl) rfl ?_
  refine cx_iinc hC [(2, .int (nI (3 * (i + 1)))), (1, .ref s2), (3, .ref so), (0, .ref a)] dL_told_194 2 rfl (v := (nI (3 * (i + 1)))) (by rw [show 3 * (i + 1) = 3 * i + 3 by omega]; exact n_add _ 3) (Nat.le_of_ble_eq_true rfl) rfl ?_
  refine cx_goto hC 5 dL_told_197 (by decide) ?_
  refine cx_keep (ws' := [(s2, .inr (4, [.ref x2, .int 0, .int 0, .int 0])), (x2, .inl (D.2 1, N2, .inl (g2)))]) [4, 5] rfl rfl ?_
  refine cx_sub [0, 1, 3] (lv' := [(2, .int (nI (3 * (i + 1)))), (1, .ref s2), (0, .ref a)]) rfl ?_
  have eL : ((([] : List Int32) ++ Lt) ++ Lo) ++ [59] = Lt ++ (Lo ++ [59]) := List.append_assoc Lt Lo [59]
  refine cx_widen (k' := k + 7) (n' := n + 2424) (by omega) (by omega) ?_
  exact K s2 x2 N2 g2 (by rw [← eL]; exact hN2) (fun k hk => by rw [← eL]; exact hg2 k (by rw [← hN2]; exact hk))
theorem t_2xx {p : Program} {l : Launch} {e : Env} {s : State} {m : MethodId} {args : Array Value} {below : List Frame} {meth : Method} {c : Code} {D : DG} {F : EF} {A : Nat → Prop} {Q : State → Prop} {k n : Nat} (hC : CY p s m args meth c cL_told 4 RL (some (.object "java/lang/String")) D A) (hE : ENV F A s s.heap) {a st xt so xo i : Nat} {Lt Lo : List Int32} (hT : LTX F) (hi : i < 6) (hbt : ∀ k, k < Lt.length → b7 (Lt.getD k 0)) (hbo : ∀ k, k < Lo.length → b7 (Lo.getD k 0)) (hlt : Lt.length ≤ 50) (hlo : Lo.length ≤ 8) (hmt : (st, xt, Lt) ∈ F.1) (hmx : (so, xo, Lo) ∈ F.1)  (hk : k + 7 ≤ 120) (hn : n + 2424 ≤ 60000) (K : ∀ (s2 x2 N2 : Nat) (g2 : Nat → Int32) (_ : N2 = (Lt ++ (Lo ++ [59])).length) (_ : ∀ k, k < N2 → g2 k = (Lt ++ (Lo ++ [59])).getD k 0), XC p l e (RM 9 120 60000 260) s m args below meth c D A 4 Q (k + 7) (n + 2424) [(s2, .inr (4, [.ref x2, .int 0, .int 0, .int 0])), (x2, .inl (D.2 1, N2, .inl (g2)))] 5 [(2, .int (nI (3 * (i + 1)))), (1, .ref s2), (0, .ref a)] []) : XC p l e (RM 9 120 60000 260) s m args below meth c D A 4 Q (k) (n) [] 169 [(2, .int (nI (3 * i))), (1, .ref st), (0, .ref a)] [.ref so] := by
  obtain ⟨t96, tv96, hr96, hm96⟩ := hT _ (List.mem_of_getElem? (i := 8) rfl : (96, ";", [59]) ∈ lwT)
  refine cx_astore_n hC [(3, .ref so), (2, .int (nI (3 * i))), (1, .ref st), (0, .ref a)] dL_told_169 rfl (Nat.le_of_ble_eq_true rfl) rfl ?_
  refine cx_new hC (C := RJ4) (T := TJ4) (N := 4) (ci := 5) tyJ4 [.null, .int 0, .int 0, .int 0] fw_5 tyJ4_ok (tb_22 (List.mem_of_getElem? (i := 9) rfl)) (tb_22 (List.mem_of_getElem? (i := 10) rfl)) kn_RJ4 rfl dfJ4 ⟨by show k + 0 + 1 ≤ 120; omega, by show n + 0 + 4 ≤ 60000; omega⟩ dL_told_170 (fun q1 => ?_)
  refine cx_at (ws' := [(q1, .inr (5, [.null, .int 0, .int 0, .int 0]))]) (st' := [.ref q1]) rfl rfl ?_
  refine cx_dup hC dL_told_173 rfl ?_
  refine cy_callI hC (y := yJ4_init_da8c8) (cy := cJ4_init_da8c8) (maxL := 1) (nA := 0) (rm := (RM 2 1 16 33)) (mc := 1) (ms := 16) (As := []) (wr := []) (j_sbi l D F) [0] [] rfl rfl rfl rfl (by decide) (ef_sub hC hE [0] rfl) kc_yJ4_init_da8c8 km_L_70 ki_yJ4_init_da8c8 kn_RJ4 rfl ky_yJ4_init_da8c8 rfl ⟨rfl, rfl⟩ ⟨Nat.le_of_ble_eq_true rfl, Nat.le_of_ble_eq_true rfl⟩ rfl (Nat.le_of_ble_eq_true rfl) ⟨by show k + 1 + 1 ≤ 120; omega, by show n + 4 + 16 ≤ 60000; omega⟩ dL_told_174 (fun o w1 h => ?_)
  obtain ⟨rfl, v1, rfl⟩ := h
  refine cx_cnt (k' := k + 2) (n' := n + 20) (by omega) (by omega) ?_
  refine cx_at (ws' := [(q1, .inr (5, [.ref v1, .int 0, .int 0, .int (nI (([] : List Int32).length))])), (v1, .inl (D.2 1, 16, .inl (fun _ => 0)))]) (st' := [.ref q1]) rfl rfl ?_
  refine cx_aload_n hC dL_told_177 rfl 2 rfl ?_
  refine cy_callV hC (E := RJ4) (y := yJ4_append_15ec4) (cy := cJ4_append_15ec4) (maxL := 2) (nA := 1) (r := (some (.object "java/lang/StringBuilder"))) (rm := (RM 5 1 600 107)) (mc := 1) (ms := 600) (As := [.ref st]) (wr := []) (j_apS l D F (L := Lt) (Ls := ([] : List Int32)) hmt (hbt) sbi0 (by simp only [List.length_append, List.length_cons, List.length_nil]; omega)) [0, 1] [] rfl rfl rfl rfl (by decide) (rc_sb hC (q0 := 0) rfl) (ef_sub hC hE [0, 1] rfl) kc_yJ4_append_15ec4 km_L_73 ki_yJ4_append_15ec4 kv_yJ4_append_15ec4 kn_RJ4 ky_yJ4_append_15ec4 rfl ⟨rfl, rfl⟩ ⟨Nat.le_of_ble_eq_true rfl, Nat.le_of_ble_eq_true rfl⟩ rfl (Nat.le_of_ble_eq_true rfl) ⟨by show k + 2 + 1 ≤ 120; omega, by show n + 20 + 600 ≤ 60000; omega⟩ dL_told_178 (fun o w1 h => ?_)
  obtain ⟨rfl, v2, c2, f2, rfl, hI2⟩ := h
  refine cx_cnt (k' := k + 3) (n' := n + 620) (by omega) (by omega) ?_
  refine cx_at (ws' := [(q1, .inr (5, [.ref v2, .int 0, .int 0, .int (nI ((([] : List Int32) ++ Lt).length))])), (v2, .inl (D.2 1, c2, .inl (f2)))]) (st' := [.ref q1]) rfl rfl ?_
  refine cx_aload_n hC dL_told_181 rfl 0 rfl ?_
  refine cy_callV hC (E := RJ4) (y := yJ4_append_15ec4) (cy := cJ4_append_15ec4) (maxL := 2) (nA := 1) (r := (some (.object "java/lang/StringBuilder"))) (rm := (RM 5 1 600 107)) (mc := 1) (ms := 600) (As := [.ref so]) (wr := []) (j_apS l D F (L := Lo) (Ls := (([] : List Int32) ++ Lt)) hmx (hbo) hI2 (by simp only [List.length_append, List.length_cons, List.length_nil]; omega)) [0, 1] [] rfl rfl rfl rfl (by decide) (rc_sb hC (q0 := 0) rfl) (ef_sub hC hE [0, 1] rfl) kc_yJ4_append_15ec4 km_L_73 ki_yJ4_append_15ec4 kv_yJ4_append_15ec4 kn_RJ4 ky_yJ4_append_15ec4 rfl ⟨rfl, rfl⟩ ⟨Nat.le_of_ble_eq_true rfl, Nat.le_of_ble_eq_true rfl⟩ rfl (Nat.le_of_ble_eq_true rfl) ⟨by show k + 3 + 1 ≤ 120; omega, by show n + 620 + 600 ≤ 60000; omega⟩ dL_told_182 (fun o w1 h => ?_)
  obtain ⟨rfl, v3, c3, f3, rfl, hI3⟩ := h
  refine cx_cnt (k' := k + 4) (n' := n + 1220) (by omega) (by omega) ?_
  refine cx_at (ws' := [(q1, .inr (5, [.ref v3, .int 0, .int 0, .int (nI (((([] : List Int32) ++ Lt) ++ Lo).length))])), (v3, .inl (D.2 1, c3, .inl (f3)))]) (st' := [.ref q1]) rfl rfl ?_
  refine cx_ldcS hC (hE.2.2.2.2.2.2.1 _ hr96) dL_told_185 ?_
  refine cy_callV hC (E := RJ4) (y := yJ4_append_15ec4) (cy := cJ4_append_15ec4) (maxL := 2) (nA := 1) (r := (some (.object "java/lang/StringBuilder"))) (rm := (RM 5 1 600 107)) (mc := 1) (ms := 600) (As := [.ref t96]) (wr := []) (j_apS l D F (L := [59]) (Ls := ((([] : List Int32) ++ Lt) ++ Lo)) hm96 (lit7 (by decide)) hI3 (by simp only [List.length_append, List.length_cons, List.length_nil]; omega)) [0, 1] [] rfl rfl rfl rfl (by decide) (rc_sb hC (q0 := 0) rfl) (ef_sub hC hE [0, 1] rfl) kc_yJ4_append_15ec4 km_L_73 ki_yJ4_append_15ec4 kv_yJ4_append_15ec4 kn_RJ4 ky_yJ4_append_15ec4 rfl ⟨rfl, rfl⟩ ⟨Nat.le_of_ble_eq_true rfl, Nat.le_of_ble_eq_true rfl⟩ rfl (Nat.le_of_ble_eq_true rfl) ⟨by show k + 4 + 1 ≤ 120; omega, by show n + 1220 + 600 ≤ 60000; omega⟩ dL_told_187 (fun o w1 h => ?_)
  obtain ⟨rfl, v4, c4, f4, rfl, hI4⟩ := h
  refine cx_cnt (k' := k + 5) (n' := n + 1820) (by omega) (by omega) ?_
  refine cx_at (ws' := [(q1, .inr (5, [.ref v4, .int 0, .int 0, .int (nI ((((([] : List Int32) ++ Lt) ++ Lo) ++ [59]).length))])), (v4, .inl (D.2 1, c4, .inl (f4)))]) (st' := [.ref q1]) rfl rfl ?_
  refine cy_callV hC (E := RJ4) (y := yJ4_toString_0e30d) (cy := cJ4_toString_0e30d) (maxL := 1) (nA := 0) (r := (some (.object "java/lang/String"))) (rm := (RM 6 2 604 131)) (mc := 2) (ms := 604) (As := []) (wr := []) (j_toS l D F (Ls := (((([] : List Int32) ++ Lt) ++ Lo) ++ [59])) hI4) [0, 1] [] rfl rfl rfl rfl (by decide) (rc_sb hC (q0 := 0) rfl) (ef_sub hC hE [0, 1] rfl) kc_yJ4_toString_0e30d km_L_82 ki_yJ4_toString_0e30d kv_yJ4_toString_0e30d kn_RJ4 ky_yJ4_toString_0e30d rfl ⟨rfl, rfl⟩ ⟨Nat.le_of_ble_eq_true rfl, Nat.le_of_ble_eq_true rfl⟩ rfl (Nat.le_of_ble_eq_true rfl) ⟨by show k + 5 + 2 ≤ 120; omega, by show n + 1820 + 604 ≤ 60000; omega⟩ dL_told_190 (fun o w1 h => ?_)
  obtain ⟨s2, x2, N2, g2, rfl, rfl, hN2, hg2⟩ := h
  refine cx_cnt (k' := k + 7) (n' := n + 2424) (by omega) (by omega) ?_
  refine cx_at (ws' := [(q1, .inr (5, [.ref v4, .int 0, .int 0, .int (nI ((((([] : List Int32) ++ Lt) ++ Lo) ++ [59]).length))])), (v4, .inl (D.2 1, c4, .inl (f4))), (s2, .inr (4, [.ref x2, .int 0, .int 0, .int 0])), (x2, .inl (D.2 1, N2, .inl (g2)))]) (st' := [.ref s2]) rfl rfl ?_
  refine cx_astore_n hC [(1, .ref s2), (3, .ref so), (2, .int (nI (3 * i))), (0, .ref a)] dL_told_193 rfl (Nat.le_of_ble_eq_true rfl) rfl ?_
  refine cx_iinc hC [(2, .int (nI (3 * (i + 1)))), (1, .ref s2), (3, .ref so), (0, .ref a)] dL_told_194 2 rfl (v := (nI (3 * (i + 1)))) (by rw [show 3 * (i + 1) = 3 * i + 3 by omega]; exact n_add _ 3) (Nat.le_of_ble_eq_true rfl) rfl ?_
  refine cx_goto hC 5 dL_told_197 (by decide) ?_
  refine cx_keep (ws' := [(s2, .inr (4, [.ref x2, .int 0, .int 0, .int 0])), (x2, .inl (D.2 1, N2, .inl (g2)))]) [2, 3] rfl rfl ?_
  refine cx_sub [0, 1, 3] (lv' := [(2, .int (nI (3 * (i + 1)))), (1, .ref s2), (0, .ref a)]) rfl ?_
  have eL : ((([] : List Int32) ++ Lt) ++ Lo) ++ [59] = Lt ++ (Lo ++ [59]) := List.append_assoc Lt Lo [59]
  refine cx_widen (k' := k + 7) (n' := n + 2424) (by omega) (by omega) ?_
  exact K s2 x2 N2 g2 (by rw [← eL]; exact hN2) (fun k hk => by rw [← eL]; exact hg2 k (by rw [← hN2]; exact hk))
theorem mem7 {L : List Int32} (h : ∀ c, c ∈ L → 0 ≤ c.toInt ∧ c.toInt ≤ 127) : ∀ k, k < L.length → b7 (L.getD k 0) := by
  intro k hk
  rw [List.getD_eq_getElem?_getD, List.getElem?_eq_getElem hk]
  exact h _ (List.getElem_mem hk)
def oo (g : Nat → Int32) (k : Nat) : Nat := ix (g k)
theorem oo_b {g : Nat → Int32} {n : Nat} (h : OKO g n) : ∀ k, k < n → (oo g (3 * k) < 6 ∧ oo g (3 * k + 1) < 45 ∧ oo g (3 * k + 2) < 8) ∧ g (3 * k) = nI (oo g (3 * k)) ∧ g (3 * k + 1) = nI (oo g (3 * k + 1)) ∧ g (3 * k + 2) = nI (oo g (3 * k + 2)) := by
  intro k hk
  obtain ⟨⟨a, a1, a2⟩, ⟨b, b1, b2⟩, ⟨d, d1, d2⟩⟩ := h k hk
  unfold oo
  rw [a2, b2, d2, ix_nI (by omega), ix_nI (by omega), ix_nI (by omega)]
  exact ⟨⟨a1, b1, d1⟩, rfl, rfl, rfl⟩
theorem tl_b {g : Nat → Int32} (h : OKO g 6) {i : Nat} (hi : i ≤ 6) : nb (tld (oo g) i) ∧ (tld (oo g) i).length ≤ 8 * i ∧ ∀ k, k < (tld (oo g) i).length → b7 ((tld (oo g) i).getD k 0) := by
  obtain ⟨h1, h2, h3⟩ := tld_nb (o := oo g) i (fun k hk => (oo_b h k (by omega)).1)
  exact ⟨h1, h2, mem7 h3⟩
theorem on_b {a b d : Nat} (ha : a < 6) (hb : b < 45) (hd : d < 8) : (oneT a b d).length ≤ 8 ∧ ∀ k, k < (oneT a b d).length → b7 ((oneT a b d).getD k 0) := by
  obtain ⟨-, h2, h3⟩ := nbT_of (one_B a ha b hb d hd)
  rw [List.length_append] at h2
  exact ⟨by omega, mem7 (fun c hc => h3 c (List.mem_append_left _ hc))⟩
theorem t_so {p : Program} {l : Launch} {e : Env} {s : State} {m : MethodId} {args : Array Value} {below : List Frame} {meth : Method} {c : Code} {D : DG} {F : EF} {A : Nat → Prop} {Q : State → Prop} {k n : Nat} {a : Nat} {g : Nat → Int32} {i : Nat} {st xt Nt : Nat} {gt : Nat → Int32} (hC : CY p s m args meth c cL_told 4 RL (some (.object "java/lang/String")) D A) (hE : ENV F A s s.heap) (hmo : (a, 18, g) ∈ F.2.1) (hT : LTX F) (hg : OKO g 6) (hi : i < 6) (hN : Nt = (tld (oo g) i).length) (hf : ∀ k, k < Nt → gt k = (tld (oo g) i).getD k 0) (hk : k + 15 ≤ 120) (hn : n + 5448 ≤ 60000) (K : ∀ s2 x2 N2 g2, N2 = (tld (oo g) (i + 1)).length → (∀ k, k < N2 → g2 k = (tld (oo g) (i + 1)).getD k 0) → XC p l e (RM 9 120 60000 260) s m args below meth c D A 4 Q (k + 15) (n + 5448) [(s2, .inr (4, [.ref x2, .int 0, .int 0, .int 0])), (x2, .inl (D.2 1, N2, .inl (g2)))] 5 [(2, .int (nI (3 * (i + 1)))), (1, .ref s2), (0, .ref a)] []) : XC p l e (RM 9 120 60000 260) s m args below meth c D A 4 Q k n [(st, .inr (4, [.ref xt, .int 0, .int 0, .int 0])), (xt, .inl (D.2 1, Nt, .inl (gt)))] 5 [(2, .int (nI (3 * i))), (1, .ref st), (0, .ref a)] [] := by
  obtain ⟨⟨b1, b2, b3⟩, e1, e2, e3⟩ := oo_b hg i hi
  obtain ⟨-, l1, l2⟩ := tl_b hg (i := i) (by omega)
  obtain ⟨m1, m2⟩ := on_b b1 b2 b3
  refine t_1o hC hE hmo hT hi e1 e2 e3 b1 b2 b3 (by omega) (by omega) (fun s1 x1 N1 g1 f1 f2 => ?_) (fun q v hq => ?_)
  · refine t_2oo hC hE hT hi l2 m2 (by omega) m1 hN hf f1 f2 (by omega) (by omega) (fun s2 x2 N2 g2 f3 f4 => ?_)
    exact cx_cnt (by omega) (by omega) (K s2 x2 N2 g2 f3 f4)
  · refine t_2ox hC hE hT hi l2 m2 (by omega) m1 hN hf hq (by omega) (by omega) (fun s2 x2 N2 g2 f3 f4 => ?_)
    exact cx_cnt (by omega) (by omega) (K s2 x2 N2 g2 f3 f4)
theorem t_sx {p : Program} {l : Launch} {e : Env} {s : State} {m : MethodId} {args : Array Value} {below : List Frame} {meth : Method} {c : Code} {D : DG} {F : EF} {A : Nat → Prop} {Q : State → Prop} {k n : Nat} {a : Nat} {g : Nat → Int32} {i : Nat} {st xt : Nat} (hC : CY p s m args meth c cL_told 4 RL (some (.object "java/lang/String")) D A) (hE : ENV F A s s.heap) (hmo : (a, 18, g) ∈ F.2.1) (hT : LTX F) (hg : OKO g 6) (hi : i < 6) (hmt : (st, xt, tld (oo g) i) ∈ F.1) (hk : k + 15 ≤ 120) (hn : n + 5448 ≤ 60000) (K : ∀ s2 x2 N2 g2, N2 = (tld (oo g) (i + 1)).length → (∀ k, k < N2 → g2 k = (tld (oo g) (i + 1)).getD k 0) → XC p l e (RM 9 120 60000 260) s m args below meth c D A 4 Q (k + 15) (n + 5448) [(s2, .inr (4, [.ref x2, .int 0, .int 0, .int 0])), (x2, .inl (D.2 1, N2, .inl (g2)))] 5 [(2, .int (nI (3 * (i + 1)))), (1, .ref s2), (0, .ref a)] []) : XC p l e (RM 9 120 60000 260) s m args below meth c D A 4 Q k n [] 5 [(2, .int (nI (3 * i))), (1, .ref st), (0, .ref a)] [] := by
  obtain ⟨⟨b1, b2, b3⟩, e1, e2, e3⟩ := oo_b hg i hi
  obtain ⟨-, l1, l2⟩ := tl_b hg (i := i) (by omega)
  obtain ⟨m1, m2⟩ := on_b b1 b2 b3
  refine t_1x hC hE hmo hT hi e1 e2 e3 b1 b2 b3 (by omega) (by omega) (fun s1 x1 N1 g1 f1 f2 => ?_) (fun q v hq => ?_)
  · refine t_2xo hC hE hT hi l2 m2 (by omega) m1 hmt f1 f2 (by omega) (by omega) (fun s2 x2 N2 g2 f3 f4 => ?_)
    exact cx_cnt (by omega) (by omega) (K s2 x2 N2 g2 f3 f4)
  · refine t_2xx hC hE hT hi l2 m2 (by omega) m1 hmt hq (by omega) (by omega) (fun s2 x2 N2 g2 f3 f4 => ?_)
    exact cx_cnt (by omega) (by omega) (K s2 x2 N2 g2 f3 f4)
set_option maxRecDepth 100000 in
theorem t_all {p : Program} {l : Launch} {e : Env} {s : State} {m : MethodId} {args : Array Value} {below : List Frame} {meth : Method} {c : Code} {D : DG} {F : EF} {A : Nat → Prop} {Q : State → Prop} {a : Nat} {g : Nat → Int32} (hC : CY p s m args meth c cL_told 4 RL (some (.object "java/lang/String")) D A) (hE : ENV F A s s.heap) (hmo : (a, 18, g) ∈ F.2.1) (hT : LTX F) (hg : OKO g 6) (K : ∀ s2 x2 N2 g2, N2 = (tld (oo g) 6).length → (∀ k, k < N2 → g2 k = (tld (oo g) 6).getD k 0) → XC p l e (RM 9 120 60000 260) s m args below meth c D A 4 Q 120 60000 [(s2, .inr (4, [.ref x2, .int 0, .int 0, .int 0])), (x2, .inl (D.2 1, N2, .inl (g2)))] 5 [(2, .int (nI (3 * 6))), (1, .ref s2), (0, .ref a)] []) : ∀ (r i k n st xt Nt : Nat) (gt : Nat → Int32), i + r = 6 → Nt = (tld (oo g) i).length → (∀ k, k < Nt → gt k = (tld (oo g) i).getD k 0) → k + 15 * r ≤ 120 → n + 5448 * r ≤ 60000 → XC p l e (RM 9 120 60000 260) s m args below meth c D A 4 Q k n [(st, .inr (4, [.ref xt, .int 0, .int 0, .int 0])), (xt, .inl (D.2 1, Nt, .inl (gt)))] 5 [(2, .int (nI (3 * i))), (1, .ref st), (0, .ref a)] [] := by
  intro r
  induction r with
  | zero =>
    intro i k n st xt Nt gt h hN hf hk hn
    obtain rfl : i = 6 := by omega
    exact cx_widen (by omega) (by omega) (K st xt Nt gt hN hf)
  | succ r ih =>
    intro i k n st xt Nt gt h hN hf hk hn
    refine t_so hC hE hmo hT hg (by omega) hN hf (by omega) (by omega) (fun s2 x2 N2 g2 f1 f2 => ?_)
    exact ih (i + 1) _ _ s2 x2 N2 g2 (by omega) f1 f2 (by omega) (by omega)
theorem dL_told_0 : decode cL_told 0 = .ok (.ldc 66, 2) := by decide +kernel
theorem dL_told_2 : decode cL_told 2 = .ok (.astore_n 1, 1) := by decide +kernel
theorem dL_told_3 : decode cL_told 3 = .ok (.iconst 0, 1) := by decide +kernel
theorem dL_told_4 : decode cL_told 4 = .ok (.istore_n 2, 1) := by decide +kernel
theorem dL_told_200 : decode cL_told 200 = .ok (.aload_n 1, 1) := by decide +kernel
theorem dL_told_201 : decode cL_told 201 = .ok (.areturn, 1) := by decide +kernel
theorem l_told (l : Launch) (D : DG) (F : EF) {a : Nat} {g : Nat → Int32} (hmo : (a, 18, g) ∈ F.2.1) (hT : LTX F) (hg : OKO g 6) : Yo l yL_told (WS yL_told cL_told 4 (some (.object "java/lang/String"))) (RM 9 120 60000 260) 120 60000 [.ref a] D F [] (fun o w => ∃ b x N gg, o = some (.ref b) ∧ w = [(b, .inr (4, [.ref x, .int 0, .int 0, .int 0])), (x, .inl (D.2 1, N, .inl (gg)))] ∧ N = (tld (oo g) 6).length ∧ ∀ k, k < N → gg k = (tld (oo g) 6).getD k 0) := by
  refine Yo.of (cc := cL_told) (maxL := 4) (ret := (some (.object "java/lang/String"))) (by decide) (Nat.le_of_ble_eq_true rfl) ?_
  intro p e s m args below meth c hC hE hmn
  show XC p l e (RM 9 120 60000 260) s m args below meth c D _ 4 _ 0 0 [] 0 [(0, .ref a)] []
  obtain ⟨t66, tv66, hr66, hm66⟩ := hT _ (List.mem_of_getElem? (i := 0) rfl : (66, "", []) ∈ lwT)
  refine cx_ldcS hC (hE.2.2.2.2.2.2.1 _ hr66) dL_told_0 ?_
  refine cx_astore_n hC [(1, .ref t66), (0, .ref a)] dL_told_2 rfl (Nat.le_of_ble_eq_true rfl) rfl ?_
  refine cx_iconst hC (0 : Int32) dL_told_3 (by decide) ?_
  refine cx_topi (y := (nI (3 * 0))) (rfl) ?_
  refine cx_istore_n hC [(2, .int (nI (3 * 0))), (1, .ref t66), (0, .ref a)] dL_told_4 rfl (Nat.le_of_ble_eq_true rfl) rfl ?_
  refine cx_sub [0, 1, 2] (lv' := [(2, .int (nI (3 * 0))), (1, .ref t66), (0, .ref a)]) rfl ?_
  refine t_sx hC hE hmo hT hg (i := 0) (by decide) hm66 (by decide) (by decide) (fun s2 x2 N2 g2 f1 f2 => ?_)
  refine t_all hC hE hmo hT hg (fun s9 x9 N9 g9 f3 f4 => ?_) 5 1 _ _ s2 x2 N2 g2 rfl f1 f2 (by decide) (by decide)
  refine cx_iload_n hC dL_told_5 rfl 0 rfl ?_
  refine cx_aload_n hC dL_told_6 rfl 2 rfl ?_
  refine cx_tlen hC (hE.2.2.2.2.2.1 _ hmo) (nI 18) rfl dL_told_7 ?_
  refine cx_icmp_ge hC 200 dL_told_8 (by decide) (fun _ => ?_) (fun h => absurd (by decide) h)
  refine cx_aload_n hC dL_told_200 rfl 1 rfl ?_
  exact cy_aret hC (⟨s9, x9, N9, g9, rfl, rfl, f3, f4⟩) rfl (Or.inl ⟨_, rfl⟩) dL_told_201
