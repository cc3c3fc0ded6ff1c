theorem kc_yJ0_charAt_5068e : Cond.code yJ0_charAt_5068e cJ0_charAt_5068e 2 (some .char) ∈ TBL := tb_10 (List.mem_of_getElem? (i := 28) rfl)
theorem ky_yJ0_charAt_5068e : yJ0_charAt_5068e.cls ≠ "java/lang/invoke/MethodHandle" ∧ yJ0_charAt_5068e.cls ≠ "java/lang/invoke/VarHandle" ∧ (parseMethodDescriptor yJ0_charAt_5068e.desc).map (fun d => d.parameters.length) = some 1 := by decide +kernel
theorem ki_yJ0_charAt_5068e : Cond.instanceMethod yJ0_charAt_5068e ∈ TBL := tb_10 (List.mem_of_getElem? (i := 26) rfl)
theorem kv_yJ0_charAt_5068e : Cond.selects RJ0 yJ0_charAt_5068e yJ0_charAt_5068e ∈ TBL := tb_10 (List.mem_of_getElem? (i := 27) rfl)
theorem kn_RJ0 : Cond.initialized RJ0 ∈ TBL := tb_3 (List.mem_of_getElem? (i := 7) rfl)
theorem kc_yJ0_checkIndex_df160 : Cond.code yJ0_checkIndex_df160 cJ0_checkIndex_df160 2 none ∈ TBL := tb_10 (List.mem_of_getElem? (i := 38) rfl)
theorem ky_yJ0_checkIndex_df160 : yJ0_checkIndex_df160.cls ≠ "java/lang/invoke/MethodHandle" ∧ yJ0_checkIndex_df160.cls ≠ "java/lang/invoke/VarHandle" ∧ (parseMethodDescriptor yJ0_checkIndex_df160.desc).map (fun d => d.parameters.length) = some 2 := by decide +kernel
theorem kt_yJ0_checkIndex_df160 : Cond.static yJ0_checkIndex_df160 ∈ TBL := tb_10 (List.mem_of_getElem? (i := 37) rfl)
theorem kc_yJ0_coder_7d493 : Cond.code yJ0_coder_7d493 cJ0_coder_7d493 1 (some .byte) ∈ TBL := tb_10 (List.mem_of_getElem? (i := 23) rfl)
theorem ky_yJ0_coder_7d493 : yJ0_coder_7d493.cls ≠ "java/lang/invoke/MethodHandle" ∧ yJ0_coder_7d493.cls ≠ "java/lang/invoke/VarHandle" ∧ (parseMethodDescriptor yJ0_coder_7d493.desc).map (fun d => d.parameters.length) = some 0 := by decide +kernel
theorem ki_yJ0_coder_7d493 : Cond.instanceMethod yJ0_coder_7d493 ∈ TBL := tb_10 (List.mem_of_getElem? (i := 21) rfl)
theorem kv_yJ0_coder_7d493 : Cond.selects RJ0 yJ0_coder_7d493 yJ0_coder_7d493 ∈ TBL := tb_10 (List.mem_of_getElem? (i := 22) rfl)
theorem kc_yJ0_isLatin1_aae02 : Cond.code yJ0_isLatin1_aae02 cJ0_isLatin1_aae02 1 (some .boolean) ∈ TBL := tb_10 (List.mem_of_getElem? (i := 32) rfl)
theorem ky_yJ0_isLatin1_aae02 : yJ0_isLatin1_aae02.cls ≠ "java/lang/invoke/MethodHandle" ∧ yJ0_isLatin1_aae02.cls ≠ "java/lang/invoke/VarHandle" ∧ (parseMethodDescriptor yJ0_isLatin1_aae02.desc).map (fun d => d.parameters.length) = some 0 := by decide +kernel
theorem ki_yJ0_isLatin1_aae02 : Cond.instanceMethod yJ0_isLatin1_aae02 ∈ TBL := tb_10 (List.mem_of_getElem? (i := 30) rfl)
theorem kv_yJ0_isLatin1_aae02 : Cond.selects RJ0 yJ0_isLatin1_aae02 yJ0_isLatin1_aae02 ∈ TBL := tb_10 (List.mem_of_getElem? (i := 31) rfl)
theorem kc_yJ0_length_8abf5 : Cond.code yJ0_length_8abf5 cJ0_length_8abf5 1 (some .int) ∈ TBL := tb_10 (List.mem_of_getElem? (i := 19) rfl)
theorem ky_yJ0_length_8abf5 : yJ0_length_8abf5.cls ≠ "java/lang/invoke/MethodHandle" ∧ yJ0_length_8abf5.cls ≠ "java/lang/invoke/VarHandle" ∧ (parseMethodDescriptor yJ0_length_8abf5.desc).map (fun d => d.parameters.length) = some 0 := by decide +kernel
theorem ki_yJ0_length_8abf5 : Cond.instanceMethod yJ0_length_8abf5 ∈ TBL := tb_10 (List.mem_of_getElem? (i := 17) rfl)
theorem kv_yJ0_length_8abf5 : Cond.selects RJ0 yJ0_length_8abf5 yJ0_length_8abf5 ∈ TBL := tb_10 (List.mem_of_getElem? (i := 18) rfl)
theorem kc_yJ1_charAt_3b067 : Cond.code yJ1_charAt_3b067 cJ1_charAt_3b067 2 (some .char) ∈ TBL := tb_10 (List.mem_of_getElem? (i := 35) rfl)
theorem ky_yJ1_charAt_3b067 : yJ1_charAt_3b067.cls ≠ "java/lang/invoke/MethodHandle" ∧ yJ1_charAt_3b067.cls ≠ "java/lang/invoke/VarHandle" ∧ (parseMethodDescriptor yJ1_charAt_3b067.desc).map (fun d => d.parameters.length) = some 2 := by decide +kernel
theorem kt_yJ1_charAt_3b067 : Cond.static yJ1_charAt_3b067 ∈ TBL := tb_10 (List.mem_of_getElem? (i := 34) rfl)
theorem kn_RJ1 : Cond.initialized RJ1 ∈ TBL := tb_3 (List.mem_of_getElem? (i := 8) rfl)
theorem kc_yJ2_charAt_3b067 : Cond.code yJ2_charAt_3b067 cJ2_charAt_3b067 2 (some .char) ∈ TBL := tb_11 (List.mem_of_getElem? (i := 5) rfl)
theorem ky_yJ2_charAt_3b067 : yJ2_charAt_3b067.cls ≠ "java/lang/invoke/MethodHandle" ∧ yJ2_charAt_3b067.cls ≠ "java/lang/invoke/VarHandle" ∧ (parseMethodDescriptor yJ2_charAt_3b067.desc).map (fun d => d.parameters.length) = some 2 := by decide +kernel
theorem kt_yJ2_charAt_3b067 : Cond.static yJ2_charAt_3b067 ∈ TBL := tb_11 (List.mem_of_getElem? (i := 4) rfl)
theorem kn_RJ2 : Cond.initialized RJ2 ∈ TBL := tb_3 (List.mem_of_getElem? (i := 10) rfl)
theorem kc_yJ2_checkIndex_2214a : Cond.code yJ2_checkIndex_2214a cJ2_checkIndex_2214a 2 none ∈ TBL := tb_11 (List.mem_of_getElem? (i := 8) rfl)
theorem ky_yJ2_checkIndex_2214a : yJ2_checkIndex_2214a.cls ≠ "java/lang/invoke/MethodHandle" ∧ yJ2_checkIndex_2214a.cls ≠ "java/lang/invoke/VarHandle" ∧ (parseMethodDescriptor yJ2_checkIndex_2214a.desc).map (fun d => d.parameters.length) = some 2 := by decide +kernel
theorem kt_yJ2_checkIndex_2214a : Cond.static yJ2_checkIndex_2214a ∈ TBL := tb_11 (List.mem_of_getElem? (i := 7) rfl)
theorem kc_yJ2_getChar_3b067 : Cond.code yJ2_getChar_3b067 cJ2_getChar_3b067 2 (some .char) ∈ TBL := tb_11 (List.mem_of_getElem? (i := 15) rfl)
theorem ky_yJ2_getChar_3b067 : yJ2_getChar_3b067.cls ≠ "java/lang/invoke/MethodHandle" ∧ yJ2_getChar_3b067.cls ≠ "java/lang/invoke/VarHandle" ∧ (parseMethodDescriptor yJ2_getChar_3b067.desc).map (fun d => d.parameters.length) = some 2 := by decide +kernel
theorem kt_yJ2_getChar_3b067 : Cond.static yJ2_getChar_3b067 ∈ TBL := tb_11 (List.mem_of_getElem? (i := 14) rfl)
theorem kc_yJ2_length_9d52b : Cond.code yJ2_length_9d52b cJ2_length_9d52b 1 (some .int) ∈ TBL := tb_11 (List.mem_of_getElem? (i := 11) rfl)
theorem ky_yJ2_length_9d52b : yJ2_length_9d52b.cls ≠ "java/lang/invoke/MethodHandle" ∧ yJ2_length_9d52b.cls ≠ "java/lang/invoke/VarHandle" ∧ (parseMethodDescriptor yJ2_length_9d52b.desc).map (fun d => d.parameters.length) = some 1 := by decide +kernel
theorem kt_yJ2_length_9d52b : Cond.static yJ2_length_9d52b ∈ TBL := tb_11 (List.mem_of_getElem? (i := 10) rfl)
theorem kc_yJ6_compare_7cf53 : Cond.code yJ6_compare_7cf53 cJ6_compare_7cf53 2 (some .int) ∈ TBL := tb_21 (List.mem_of_getElem? (i := 26) rfl)
theorem ky_yJ6_compare_7cf53 : yJ6_compare_7cf53.cls ≠ "java/lang/invoke/MethodHandle" ∧ yJ6_compare_7cf53.cls ≠ "java/lang/invoke/VarHandle" ∧ (parseMethodDescriptor yJ6_compare_7cf53.desc).map (fun d => d.parameters.length) = some 2 := by decide +kernel
theorem kt_yJ6_compare_7cf53 : Cond.static yJ6_compare_7cf53 ∈ TBL := tb_21 (List.mem_of_getElem? (i := 25) rfl)
theorem kn_RJ6 : Cond.initialized RJ6 ∈ TBL := tb_3 (List.mem_of_getElem? (i := 14) rfl)
theorem kc_yJ6_signum_0f7a4 : Cond.code yJ6_signum_0f7a4 cJ6_signum_0f7a4 1 (some .int) ∈ TBL := tb_33 (List.mem_of_getElem? (i := 19) rfl)
theorem ky_yJ6_signum_0f7a4 : yJ6_signum_0f7a4.cls ≠ "java/lang/invoke/MethodHandle" ∧ yJ6_signum_0f7a4.cls ≠ "java/lang/invoke/VarHandle" ∧ (parseMethodDescriptor yJ6_signum_0f7a4.desc).map (fun d => d.parameters.length) = some 1 := by decide +kernel
theorem kt_yJ6_signum_0f7a4 : Cond.static yJ6_signum_0f7a4 ∈ TBL := tb_33 (List.mem_of_getElem? (i := 18) rfl)
theorem kc_yJ9_max_7cf53 : Cond.code yJ9_max_7cf53 cJ9_max_7cf53 2 (some .int) ∈ TBL := tb_21 (List.mem_of_getElem? (i := 6) rfl)
theorem ky_yJ9_max_7cf53 : yJ9_max_7cf53.cls ≠ "java/lang/invoke/MethodHandle" ∧ yJ9_max_7cf53.cls ≠ "java/lang/invoke/VarHandle" ∧ (parseMethodDescriptor yJ9_max_7cf53.desc).map (fun d => d.parameters.length) = some 2 := by decide +kernel
theorem kt_yJ9_max_7cf53 : Cond.static yJ9_max_7cf53 ∈ TBL := tb_21 (List.mem_of_getElem? (i := 5) rfl)
theorem kn_RJ9 : Cond.initialized RJ9 ∈ TBL := tb_3 (List.mem_of_getElem? (i := 4) rfl)
theorem kc_yJ9_min_7cf53 : Cond.code yJ9_min_7cf53 cJ9_min_7cf53 2 (some .int) ∈ TBL := tb_9 (List.mem_of_getElem? (i := 29) rfl)
theorem ky_yJ9_min_7cf53 : yJ9_min_7cf53.cls ≠ "java/lang/invoke/MethodHandle" ∧ yJ9_min_7cf53.cls ≠ "java/lang/invoke/VarHandle" ∧ (parseMethodDescriptor yJ9_min_7cf53.desc).map (fun d => d.parameters.length) = some 2 := by decide +kernel
theorem kt_yJ9_min_7cf53 : Cond.static yJ9_min_7cf53 ∈ TBL := tb_9 (List.mem_of_getElem? (i := 28) rfl)
theorem kc_yX10_all : Cond.code yX10_all cX10_all 7 (some .int) ∈ TBL := tb_31 (List.mem_of_getElem? (i := 24) rfl)
theorem ky_yX10_all : yX10_all.cls ≠ "java/lang/invoke/MethodHandle" ∧ yX10_all.cls ≠ "java/lang/invoke/VarHandle" ∧ (parseMethodDescriptor yX10_all.desc).map (fun d => d.parameters.length) = some 1 := by decide +kernel
theorem ki_yX10_all : Cond.instanceMethod yX10_all ∈ TBL := tb_31 (List.mem_of_getElem? (i := 22) rfl)
theorem kv_yX10_all : Cond.selects RX10 yX10_all yX10_all ∈ TBL := tb_31 (List.mem_of_getElem? (i := 23) rfl)
theorem kn_RX10 : Cond.initialized RX10 ∈ TBL := tb_2 (List.mem_of_getElem? (i := 38) rfl)
theorem kc_yX10_become : Cond.code yX10_become cX10_become 2 none ∈ TBL := tb_34 (List.mem_of_getElem? (i := 18) rfl)
theorem ky_yX10_become : yX10_become.cls ≠ "java/lang/invoke/MethodHandle" ∧ yX10_become.cls ≠ "java/lang/invoke/VarHandle" ∧ (parseMethodDescriptor yX10_become.desc).map (fun d => d.parameters.length) = some 1 := by decide +kernel
theorem ki_yX10_become : Cond.instanceMethod yX10_become ∈ TBL := tb_34 (List.mem_of_getElem? (i := 16) rfl)
theorem kv_yX10_become : Cond.selects RX10 yX10_become yX10_become ∈ TBL := tb_34 (List.mem_of_getElem? (i := 17) rfl)
theorem kc_yX10_copy : Cond.code yX10_copy cX10_copy 2 none ∈ TBL := tb_34 (List.mem_of_getElem? (i := 21) rfl)
theorem ky_yX10_copy : yX10_copy.cls ≠ "java/lang/invoke/MethodHandle" ∧ yX10_copy.cls ≠ "java/lang/invoke/VarHandle" ∧ (parseMethodDescriptor yX10_copy.desc).map (fun d => d.parameters.length) = some 2 := by decide +kernel
theorem kt_yX10_copy : Cond.static yX10_copy ∈ TBL := tb_34 (List.mem_of_getElem? (i := 20) rfl)
theorem kc_yX10_init : Cond.code yX10_init cX10_init 1 none ∈ TBL := tb_24 (List.mem_of_getElem? (i := 29) rfl)
theorem ky_yX10_init : yX10_init.cls ≠ "java/lang/invoke/MethodHandle" ∧ yX10_init.cls ≠ "java/lang/invoke/VarHandle" ∧ (parseMethodDescriptor yX10_init.desc).map (fun d => d.parameters.length) = some 0 := by decide +kernel
theorem ki_yX10_init : Cond.instanceMethod yX10_init ∈ TBL := tb_24 (List.mem_of_getElem? (i := 28) rfl)
theorem kc_yX10_pile : Cond.code yX10_pile cX10_pile 4 none ∈ TBL := tb_32 (List.mem_of_getElem? (i := 6) rfl)
theorem ky_yX10_pile : yX10_pile.cls ≠ "java/lang/invoke/MethodHandle" ∧ yX10_pile.cls ≠ "java/lang/invoke/VarHandle" ∧ (parseMethodDescriptor yX10_pile.desc).map (fun d => d.parameters.length) = some 3 := by decide +kernel
theorem ki_yX10_pile : Cond.instanceMethod yX10_pile ∈ TBL := tb_32 (List.mem_of_getElem? (i := 4) rfl)
theorem kv_yX10_pile : Cond.selects RX10 yX10_pile yX10_pile ∈ TBL := tb_32 (List.mem_of_getElem? (i := 5) rfl)
theorem kc_yX10_take : Cond.code yX10_take cX10_take 3 none ∈ TBL := tb_33 (List.mem_of_getElem? (i := 32) rfl)
theorem ky_yX10_take : yX10_take.cls ≠ "java/lang/invoke/MethodHandle" ∧ yX10_take.cls ≠ "java/lang/invoke/VarHandle" ∧ (parseMethodDescriptor yX10_take.desc).map (fun d => d.parameters.length) = some 2 := by decide +kernel
theorem ki_yX10_take : Cond.instanceMethod yX10_take ∈ TBL := tb_33 (List.mem_of_getElem? (i := 30) rfl)
theorem kv_yX10_take : Cond.selects RX10 yX10_take yX10_take ∈ TBL := tb_33 (List.mem_of_getElem? (i := 31) rfl)
theorem kc_yX11_act : Cond.code yX11_act cX11_act 9 none ∈ TBL := tb_33 (List.mem_of_getElem? (i := 13) rfl)
theorem ky_yX11_act : yX11_act.cls ≠ "java/lang/invoke/MethodHandle" ∧ yX11_act.cls ≠ "java/lang/invoke/VarHandle" ∧ (parseMethodDescriptor yX11_act.desc).map (fun d => d.parameters.length) = some 4 := by decide +kernel
theorem ki_yX11_act : Cond.instanceMethod yX11_act ∈ TBL := tb_33 (List.mem_of_getElem? (i := 12) rfl)
theorem kv_yX11_act : Cond.selects RX11 yX11_act yX11_act ∈ TBL := tb_2 (List.mem_of_getElem? (i := 16) rfl)
theorem kn_RX11 : Cond.initialized RX11 ∈ TBL := tb_2 (List.mem_of_getElem? (i := 37) rfl)
theorem kc_yX11_advance : Cond.code yX11_advance cX11_advance 1 none ∈ TBL := tb_28 (List.mem_of_getElem? (i := 32) rfl)
theorem ky_yX11_advance : yX11_advance.cls ≠ "java/lang/invoke/MethodHandle" ∧ yX11_advance.cls ≠ "java/lang/invoke/VarHandle" ∧ (parseMethodDescriptor yX11_advance.desc).map (fun d => d.parameters.length) = some 0 := by decide +kernel
theorem ki_yX11_advance : Cond.instanceMethod yX11_advance ∈ TBL := tb_28 (List.mem_of_getElem? (i := 31) rfl)
theorem kv_yX11_advance : Cond.selects RX11 yX11_advance yX11_advance ∈ TBL := tb_1 (List.mem_of_getElem? (i := 15) rfl)
theorem kc_yX11_advise : Cond.code yX11_advise cX11_advise 8 (some .int) ∈ TBL := tb_34 (List.mem_of_getElem? (i := 34) rfl)
theorem ky_yX11_advise : yX11_advise.cls ≠ "java/lang/invoke/MethodHandle" ∧ yX11_advise.cls ≠ "java/lang/invoke/VarHandle" ∧ (parseMethodDescriptor yX11_advise.desc).map (fun d => d.parameters.length) = some 1 := by decide +kernel
theorem ki_yX11_advise : Cond.instanceMethod yX11_advise ∈ TBL := tb_34 (List.mem_of_getElem? (i := 32) rfl)
theorem kv_yX11_advise : Cond.selects RX11 yX11_advise yX11_advise ∈ TBL := tb_34 (List.mem_of_getElem? (i := 33) rfl)
theorem kc_yX11_apply : Cond.code yX11_apply cX11_apply 3 (some .int) ∈ TBL := tb_33 (List.mem_of_getElem? (i := 5) rfl)
theorem ky_yX11_apply : yX11_apply.cls ≠ "java/lang/invoke/MethodHandle" ∧ yX11_apply.cls ≠ "java/lang/invoke/VarHandle" ∧ (parseMethodDescriptor yX11_apply.desc).map (fun d => d.parameters.length) = some 3 := by decide +kernel
theorem kt_yX11_apply : Cond.static yX11_apply ∈ TBL := tb_33 (List.mem_of_getElem? (i := 4) rfl)
theorem kc_yX11_behindNight : Cond.code yX11_behindNight cX11_behindNight 4 (some .int) ∈ TBL := tb_34 (List.mem_of_getElem? (i := 1) rfl)
theorem ky_yX11_behindNight : yX11_behindNight.cls ≠ "java/lang/invoke/MethodHandle" ∧ yX11_behindNight.cls ≠ "java/lang/invoke/VarHandle" ∧ (parseMethodDescriptor yX11_behindNight.desc).map (fun d => d.parameters.length) = some 3 := by decide +kernel
theorem ki_yX11_behindNight : Cond.instanceMethod yX11_behindNight ∈ TBL := tb_34 (List.mem_of_getElem? (i := 0) rfl)
theorem kv_yX11_behindNight : Cond.selects RX11 yX11_behindNight yX11_behindNight ∈ TBL := tb_2 (List.mem_of_getElem? (i := 23) rfl)
theorem kc_yX11_block : Cond.code yX11_block cX11_block 1 (some .boolean) ∈ TBL := tb_30 (List.mem_of_getElem? (i := 0) rfl)
theorem ky_yX11_block : yX11_block.cls ≠ "java/lang/invoke/MethodHandle" ∧ yX11_block.cls ≠ "java/lang/invoke/VarHandle" ∧ (parseMethodDescriptor yX11_block.desc).map (fun d => d.parameters.length) = some 0 := by decide +kernel
theorem ki_yX11_block : Cond.instanceMethod yX11_block ∈ TBL := tb_29 (List.mem_of_getElem? (i := 39) rfl)
theorem kv_yX11_block : Cond.selects RX11 yX11_block yX11_block ∈ TBL := tb_1 (List.mem_of_getElem? (i := 29) rfl)
theorem kc_yX11_both : Cond.code yX11_both cX11_both 1 (some .boolean) ∈ TBL := tb_30 (List.mem_of_getElem? (i := 36) rfl)
theorem ky_yX11_both : yX11_both.cls ≠ "java/lang/invoke/MethodHandle" ∧ yX11_both.cls ≠ "java/lang/invoke/VarHandle" ∧ (parseMethodDescriptor yX11_both.desc).map (fun d => d.parameters.length) = some 0 := by decide +kernel
theorem ki_yX11_both : Cond.instanceMethod yX11_both ∈ TBL := tb_30 (List.mem_of_getElem? (i := 35) rfl)
theorem kv_yX11_both : Cond.selects RX11 yX11_both yX11_both ∈ TBL := tb_2 (List.mem_of_getElem? (i := 1) rfl)
theorem kc_yX11_branch : Cond.code yX11_branch cX11_branch 3 (some .boolean) ∈ TBL := tb_30 (List.mem_of_getElem? (i := 30) rfl)
theorem ky_yX11_branch : yX11_branch.cls ≠ "java/lang/invoke/MethodHandle" ∧ yX11_branch.cls ≠ "java/lang/invoke/VarHandle" ∧ (parseMethodDescriptor yX11_branch.desc).map (fun d => d.parameters.length) = some 0 := by decide +kernel
theorem ki_yX11_branch : Cond.instanceMethod yX11_branch ∈ TBL := tb_30 (List.mem_of_getElem? (i := 29) rfl)
theorem kv_yX11_branch : Cond.selects RX11 yX11_branch yX11_branch ∈ TBL := tb_1 (List.mem_of_getElem? (i := 39) rfl)
theorem kc_yX11_byteAt : Cond.code yX11_byteAt cX11_byteAt 2 (some .int) ∈ TBL := tb_35 (List.mem_of_getElem? (i := 11) rfl)
theorem ky_yX11_byteAt : yX11_byteAt.cls ≠ "java/lang/invoke/MethodHandle" ∧ yX11_byteAt.cls ≠ "java/lang/invoke/VarHandle" ∧ (parseMethodDescriptor yX11_byteAt.desc).map (fun d => d.parameters.length) = some 1 := by decide +kernel
theorem ki_yX11_byteAt : Cond.instanceMethod yX11_byteAt ∈ TBL := tb_35 (List.mem_of_getElem? (i := 9) rfl)
theorem kv_yX11_byteAt : Cond.selects RX11 yX11_byteAt yX11_byteAt ∈ TBL := tb_35 (List.mem_of_getElem? (i := 10) rfl)
theorem kc_yX11_byteOf : Cond.code yX11_byteOf cX11_byteOf 2 (some .int) ∈ TBL := tb_28 (List.mem_of_getElem? (i := 38) rfl)
theorem ky_yX11_byteOf : yX11_byteOf.cls ≠ "java/lang/invoke/MethodHandle" ∧ yX11_byteOf.cls ≠ "java/lang/invoke/VarHandle" ∧ (parseMethodDescriptor yX11_byteOf.desc).map (fun d => d.parameters.length) = some 1 := by decide +kernel
theorem ki_yX11_byteOf : Cond.instanceMethod yX11_byteOf ∈ TBL := tb_28 (List.mem_of_getElem? (i := 37) rfl)
theorem kv_yX11_byteOf : Cond.selects RX11 yX11_byteOf yX11_byteOf ∈ TBL := tb_1 (List.mem_of_getElem? (i := 17) rfl)
theorem kc_yX11_carts : Cond.code yX11_carts cX11_carts 3 (some .int) ∈ TBL := tb_31 (List.mem_of_getElem? (i := 27) rfl)
theorem ky_yX11_carts : yX11_carts.cls ≠ "java/lang/invoke/MethodHandle" ∧ yX11_carts.cls ≠ "java/lang/invoke/VarHandle" ∧ (parseMethodDescriptor yX11_carts.desc).map (fun d => d.parameters.length) = some 0 := by decide +kernel
theorem ki_yX11_carts : Cond.instanceMethod yX11_carts ∈ TBL := tb_31 (List.mem_of_getElem? (i := 26) rfl)
theorem kv_yX11_carts : Cond.selects RX11 yX11_carts yX11_carts ∈ TBL := tb_2 (List.mem_of_getElem? (i := 7) rfl)
theorem kc_yX11_cell : Cond.code yX11_cell cX11_cell 4 (some .int) ∈ TBL := tb_32 (List.mem_of_getElem? (i := 10) rfl)
theorem ky_yX11_cell : yX11_cell.cls ≠ "java/lang/invoke/MethodHandle" ∧ yX11_cell.cls ≠ "java/lang/invoke/VarHandle" ∧ (parseMethodDescriptor yX11_cell.desc).map (fun d => d.parameters.length) = some 3 := by decide +kernel
theorem ki_yX11_cell : Cond.instanceMethod yX11_cell ∈ TBL := tb_32 (List.mem_of_getElem? (i := 8) rfl)
theorem kv_yX11_cell : Cond.selects RX11 yX11_cell yX11_cell ∈ TBL := tb_32 (List.mem_of_getElem? (i := 9) rfl)
theorem kc_yX11_cellTold : Cond.code yX11_cellTold cX11_cellTold 3 (some .int) ∈ TBL := tb_32 (List.mem_of_getElem? (i := 13) rfl)
theorem ky_yX11_cellTold : yX11_cellTold.cls ≠ "java/lang/invoke/MethodHandle" ∧ yX11_cellTold.cls ≠ "java/lang/invoke/VarHandle" ∧ (parseMethodDescriptor yX11_cellTold.desc).map (fun d => d.parameters.length) = some 2 := by decide +kernel
theorem ki_yX11_cellTold : Cond.instanceMethod yX11_cellTold ∈ TBL := tb_32 (List.mem_of_getElem? (i := 12) rfl)
theorem kv_yX11_cellTold : Cond.selects RX11 yX11_cellTold yX11_cellTold ∈ TBL := tb_2 (List.mem_of_getElem? (i := 8) rfl)
theorem kc_yX11_count : Cond.code yX11_count cX11_count 2 (some .int) ∈ TBL := tb_31 (List.mem_of_getElem? (i := 17) rfl)
theorem ky_yX11_count : yX11_count.cls ≠ "java/lang/invoke/MethodHandle" ∧ yX11_count.cls ≠ "java/lang/invoke/VarHandle" ∧ (parseMethodDescriptor yX11_count.desc).map (fun d => d.parameters.length) = some 1 := by decide +kernel
theorem ki_yX11_count : Cond.instanceMethod yX11_count ∈ TBL := tb_31 (List.mem_of_getElem? (i := 15) rfl)
theorem kv_yX11_count : Cond.selects RX11 yX11_count yX11_count ∈ TBL := tb_31 (List.mem_of_getElem? (i := 16) rfl)
theorem kc_yX11_counted : Cond.code yX11_counted cX11_counted 7 (some .int) ∈ TBL := tb_31 (List.mem_of_getElem? (i := 20) rfl)
theorem ky_yX11_counted : yX11_counted.cls ≠ "java/lang/invoke/MethodHandle" ∧ yX11_counted.cls ≠ "java/lang/invoke/VarHandle" ∧ (parseMethodDescriptor yX11_counted.desc).map (fun d => d.parameters.length) = some 1 := by decide +kernel
theorem ki_yX11_counted : Cond.instanceMethod yX11_counted ∈ TBL := tb_31 (List.mem_of_getElem? (i := 19) rfl)
theorem kv_yX11_counted : Cond.selects RX11 yX11_counted yX11_counted ∈ TBL := tb_2 (List.mem_of_getElem? (i := 6) rfl)
theorem kc_yX11_cut : Cond.code yX11_cut cX11_cut 5 (some .boolean) ∈ TBL := tb_33 (List.mem_of_getElem? (i := 25) rfl)
theorem ky_yX11_cut : yX11_cut.cls ≠ "java/lang/invoke/MethodHandle" ∧ yX11_cut.cls ≠ "java/lang/invoke/VarHandle" ∧ (parseMethodDescriptor yX11_cut.desc).map (fun d => d.parameters.length) = some 3 := by decide +kernel
theorem ki_yX11_cut : Cond.instanceMethod yX11_cut ∈ TBL := tb_33 (List.mem_of_getElem? (i := 24) rfl)
theorem kv_yX11_cut : Cond.selects RX11 yX11_cut yX11_cut ∈ TBL := tb_2 (List.mem_of_getElem? (i := 19) rfl)
theorem kc_yX11_deeper : Cond.code yX11_deeper cX11_deeper 1 (some .boolean) ∈ TBL := tb_30 (List.mem_of_getElem? (i := 6) rfl)
theorem ky_yX11_deeper : yX11_deeper.cls ≠ "java/lang/invoke/MethodHandle" ∧ yX11_deeper.cls ≠ "java/lang/invoke/VarHandle" ∧ (parseMethodDescriptor yX11_deeper.desc).map (fun d => d.parameters.length) = some 0 := by decide +kernel
theorem ki_yX11_deeper : Cond.instanceMethod yX11_deeper ∈ TBL := tb_30 (List.mem_of_getElem? (i := 5) rfl)
theorem kv_yX11_deeper : Cond.selects RX11 yX11_deeper yX11_deeper ∈ TBL := tb_1 (List.mem_of_getElem? (i := 31) rfl)
theorem kc_yX11_digest : Cond.code yX11_digest cX11_digest 4 (some .long) ∈ TBL := tb_35 (List.mem_of_getElem? (i := 19) rfl)
theorem ky_yX11_digest : yX11_digest.cls ≠ "java/lang/invoke/MethodHandle" ∧ yX11_digest.cls ≠ "java/lang/invoke/VarHandle" ∧ (parseMethodDescriptor yX11_digest.desc).map (fun d => d.parameters.length) = some 0 := by decide +kernel
theorem ki_yX11_digest : Cond.instanceMethod yX11_digest ∈ TBL := tb_35 (List.mem_of_getElem? (i := 17) rfl)
theorem kv_yX11_digest : Cond.selects RX11 yX11_digest yX11_digest ∈ TBL := tb_35 (List.mem_of_getElem? (i := 18) rfl)
theorem kc_yX11_done : Cond.code yX11_done cX11_done 3 (some .int) ∈ TBL := tb_34 (List.mem_of_getElem? (i := 30) rfl)
theorem ky_yX11_done : yX11_done.cls ≠ "java/lang/invoke/MethodHandle" ∧ yX11_done.cls ≠ "java/lang/invoke/VarHandle" ∧ (parseMethodDescriptor yX11_done.desc).map (fun d => d.parameters.length) = some 1 := by decide +kernel
theorem ki_yX11_done : Cond.instanceMethod yX11_done ∈ TBL := tb_34 (List.mem_of_getElem? (i := 28) rfl)
theorem kv_yX11_done : Cond.selects RX11 yX11_done yX11_done ∈ TBL := tb_34 (List.mem_of_getElem? (i := 29) rfl)
theorem kc_yX11_draw : Cond.code yX11_draw cX11_draw 2 (some .int) ∈ TBL := tb_35 (List.mem_of_getElem? (i := 1) rfl)
theorem ky_yX11_draw : yX11_draw.cls ≠ "java/lang/invoke/MethodHandle" ∧ yX11_draw.cls ≠ "java/lang/invoke/VarHandle" ∧ (parseMethodDescriptor yX11_draw.desc).map (fun d => d.parameters.length) = some 0 := by decide +kernel
theorem ki_yX11_draw : Cond.instanceMethod yX11_draw ∈ TBL := tb_34 (List.mem_of_getElem? (i := 39) rfl)
theorem kv_yX11_draw : Cond.selects RX11 yX11_draw yX11_draw ∈ TBL := tb_35 (List.mem_of_getElem? (i := 0) rfl)
theorem kc_yX11_drawn : Cond.code yX11_drawn cX11_drawn 2 (some .int) ∈ TBL := tb_35 (List.mem_of_getElem? (i := 4) rfl)
theorem ky_yX11_drawn : yX11_drawn.cls ≠ "java/lang/invoke/MethodHandle" ∧ yX11_drawn.cls ≠ "java/lang/invoke/VarHandle" ∧ (parseMethodDescriptor yX11_drawn.desc).map (fun d => d.parameters.length) = some 1 := by decide +kernel
theorem ki_yX11_drawn : Cond.instanceMethod yX11_drawn ∈ TBL := tb_35 (List.mem_of_getElem? (i := 3) rfl)
theorem kv_yX11_drawn : Cond.selects RX11 yX11_drawn yX11_drawn ∈ TBL := tb_2 (List.mem_of_getElem? (i := 27) rfl)
theorem kc_yX11_dries : Cond.code yX11_dries cX11_dries 7 (some .int) ∈ TBL := tb_34 (List.mem_of_getElem? (i := 26) rfl)
theorem ky_yX11_dries : yX11_dries.cls ≠ "java/lang/invoke/MethodHandle" ∧ yX11_dries.cls ≠ "java/lang/invoke/VarHandle" ∧ (parseMethodDescriptor yX11_dries.desc).map (fun d => d.parameters.length) = some 2 := by decide +kernel
theorem ki_yX11_dries : Cond.instanceMethod yX11_dries ∈ TBL := tb_34 (List.mem_of_getElem? (i := 24) rfl)
theorem kv_yX11_dries : Cond.selects RX11 yX11_dries yX11_dries ∈ TBL := tb_34 (List.mem_of_getElem? (i := 25) rfl)
theorem kc_yX11_dryBehind : Cond.code yX11_dryBehind cX11_dryBehind 2 (some .int) ∈ TBL := tb_34 (List.mem_of_getElem? (i := 37) rfl)
theorem ky_yX11_dryBehind : yX11_dryBehind.cls ≠ "java/lang/invoke/MethodHandle" ∧ yX11_dryBehind.cls ≠ "java/lang/invoke/VarHandle" ∧ (parseMethodDescriptor yX11_dryBehind.desc).map (fun d => d.parameters.length) = some 1 := by decide +kernel
theorem ki_yX11_dryBehind : Cond.instanceMethod yX11_dryBehind ∈ TBL := tb_34 (List.mem_of_getElem? (i := 36) rfl)
theorem kv_yX11_dryBehind : Cond.selects RX11 yX11_dryBehind yX11_dryBehind ∈ TBL := tb_2 (List.mem_of_getElem? (i := 26) rfl)
theorem kc_yX11_errorAt : Cond.code yX11_errorAt cX11_errorAt 1 (some .int) ∈ TBL := tb_31 (List.mem_of_getElem? (i := 13) rfl)
theorem ky_yX11_errorAt : yX11_errorAt.cls ≠ "java/lang/invoke/MethodHandle" ∧ yX11_errorAt.cls ≠ "java/lang/invoke/VarHandle" ∧ (parseMethodDescriptor yX11_errorAt.desc).map (fun d => d.parameters.length) = some 0 := by decide +kernel
theorem ki_yX11_errorAt : Cond.instanceMethod yX11_errorAt ∈ TBL := tb_31 (List.mem_of_getElem? (i := 11) rfl)
theorem kv_yX11_errorAt : Cond.selects RX11 yX11_errorAt yX11_errorAt ∈ TBL := tb_31 (List.mem_of_getElem? (i := 12) rfl)
theorem kc_yX11_fault : Cond.code yX11_fault cX11_fault 2 none ∈ TBL := tb_29 (List.mem_of_getElem? (i := 34) rfl)
theorem ky_yX11_fault : yX11_fault.cls ≠ "java/lang/invoke/MethodHandle" ∧ yX11_fault.cls ≠ "java/lang/invoke/VarHandle" ∧ (parseMethodDescriptor yX11_fault.desc).map (fun d => d.parameters.length) = some 1 := by decide +kernel
theorem ki_yX11_fault : Cond.instanceMethod yX11_fault ∈ TBL := tb_29 (List.mem_of_getElem? (i := 33) rfl)
theorem kv_yX11_fault : Cond.selects RX11 yX11_fault yX11_fault ∈ TBL := tb_1 (List.mem_of_getElem? (i := 27) rfl)
theorem kc_yX11_feed : Cond.code yX11_feed cX11_feed 8 (some .int) ∈ TBL := tb_28 (List.mem_of_getElem? (i := 15) rfl)
theorem ky_yX11_feed : yX11_feed.cls ≠ "java/lang/invoke/MethodHandle" ∧ yX11_feed.cls ≠ "java/lang/invoke/VarHandle" ∧ (parseMethodDescriptor yX11_feed.desc).map (fun d => d.parameters.length) = some 5 := by decide +kernel
theorem ki_yX11_feed : Cond.instanceMethod yX11_feed ∈ TBL := tb_28 (List.mem_of_getElem? (i := 13) rfl)
theorem kv_yX11_feed : Cond.selects RX11 yX11_feed yX11_feed ∈ TBL := tb_28 (List.mem_of_getElem? (i := 14) rfl)
theorem kc_yX11_flag : Cond.code yX11_flag cX11_flag 1 (some .int) ∈ TBL := tb_33 (List.mem_of_getElem? (i := 10) rfl)
theorem ky_yX11_flag : yX11_flag.cls ≠ "java/lang/invoke/MethodHandle" ∧ yX11_flag.cls ≠ "java/lang/invoke/VarHandle" ∧ (parseMethodDescriptor yX11_flag.desc).map (fun d => d.parameters.length) = some 1 := by decide +kernel
theorem kt_yX11_flag : Cond.static yX11_flag ∈ TBL := tb_33 (List.mem_of_getElem? (i := 9) rfl)
theorem kc_yX11_foresee : Cond.code yX11_foresee cX11_foresee 3 (some .int) ∈ TBL := tb_34 (List.mem_of_getElem? (i := 14) rfl)
theorem ky_yX11_foresee : yX11_foresee.cls ≠ "java/lang/invoke/MethodHandle" ∧ yX11_foresee.cls ≠ "java/lang/invoke/VarHandle" ∧ (parseMethodDescriptor yX11_foresee.desc).map (fun d => d.parameters.length) = some 2 := by decide +kernel
theorem ki_yX11_foresee : Cond.instanceMethod yX11_foresee ∈ TBL := tb_34 (List.mem_of_getElem? (i := 12) rfl)
theorem kv_yX11_foresee : Cond.selects RX11 yX11_foresee yX11_foresee ∈ TBL := tb_34 (List.mem_of_getElem? (i := 13) rfl)
theorem kc_yX11_gang : Cond.code yX11_gang cX11_gang 2 (some .boolean) ∈ TBL := tb_29 (List.mem_of_getElem? (i := 28) rfl)
theorem ky_yX11_gang : yX11_gang.cls ≠ "java/lang/invoke/MethodHandle" ∧ yX11_gang.cls ≠ "java/lang/invoke/VarHandle" ∧ (parseMethodDescriptor yX11_gang.desc).map (fun d => d.parameters.length) = some 0 := by decide +kernel
theorem ki_yX11_gang : Cond.instanceMethod yX11_gang ∈ TBL := tb_29 (List.mem_of_getElem? (i := 27) rfl)
theorem kv_yX11_gang : Cond.selects RX11 yX11_gang yX11_gang ∈ TBL := tb_1 (List.mem_of_getElem? (i := 25) rfl)
theorem kc_yX11_gangTold : Cond.code yX11_gangTold cX11_gangTold 3 (some .int) ∈ TBL := tb_32 (List.mem_of_getElem? (i := 20) rfl)
theorem ky_yX11_gangTold : yX11_gangTold.cls ≠ "java/lang/invoke/MethodHandle" ∧ yX11_gangTold.cls ≠ "java/lang/invoke/VarHandle" ∧ (parseMethodDescriptor yX11_gangTold.desc).map (fun d => d.parameters.length) = some 2 := by decide +kernel
theorem ki_yX11_gangTold : Cond.instanceMethod yX11_gangTold ∈ TBL := tb_32 (List.mem_of_getElem? (i := 19) rfl)
theorem kv_yX11_gangTold : Cond.selects RX11 yX11_gangTold yX11_gangTold ∈ TBL := tb_2 (List.mem_of_getElem? (i := 9) rfl)
theorem kc_yX11_gang_ : Cond.code yX11_gang_ cX11_gang_ 3 (some .int) ∈ TBL := tb_32 (List.mem_of_getElem? (i := 17) rfl)
theorem ky_yX11_gang_ : yX11_gang_.cls ≠ "java/lang/invoke/MethodHandle" ∧ yX11_gang_.cls ≠ "java/lang/invoke/VarHandle" ∧ (parseMethodDescriptor yX11_gang_.desc).map (fun d => d.parameters.length) = some 2 := by decide +kernel
theorem ki_yX11_gang_ : Cond.instanceMethod yX11_gang_ ∈ TBL := tb_32 (List.mem_of_getElem? (i := 15) rfl)
theorem kv_yX11_gang_ : Cond.selects RX11 yX11_gang_ yX11_gang_ ∈ TBL := tb_32 (List.mem_of_getElem? (i := 16) rfl)
theorem kc_yX11_go : Cond.code yX11_go cX11_go 9 (some .boolean) ∈ TBL := tb_33 (List.mem_of_getElem? (i := 16) rfl)
theorem ky_yX11_go : yX11_go.cls ≠ "java/lang/invoke/MethodHandle" ∧ yX11_go.cls ≠ "java/lang/invoke/VarHandle" ∧ (parseMethodDescriptor yX11_go.desc).map (fun d => d.parameters.length) = some 3 := by decide +kernel
theorem ki_yX11_go : Cond.instanceMethod yX11_go ∈ TBL := tb_33 (List.mem_of_getElem? (i := 15) rfl)
theorem kv_yX11_go : Cond.selects RX11 yX11_go yX11_go ∈ TBL := tb_2 (List.mem_of_getElem? (i := 17) rfl)
theorem kc_yX11_goOn : Cond.code yX11_goOn cX11_goOn 8 none ∈ TBL := tb_33 (List.mem_of_getElem? (i := 35) rfl)
theorem ky_yX11_goOn : yX11_goOn.cls ≠ "java/lang/invoke/MethodHandle" ∧ yX11_goOn.cls ≠ "java/lang/invoke/VarHandle" ∧ (parseMethodDescriptor yX11_goOn.desc).map (fun d => d.parameters.length) = some 4 := by decide +kernel
theorem ki_yX11_goOn : Cond.instanceMethod yX11_goOn ∈ TBL := tb_33 (List.mem_of_getElem? (i := 34) rfl)
theorem kv_yX11_goOn : Cond.selects RX11 yX11_goOn yX11_goOn ∈ TBL := tb_2 (List.mem_of_getElem? (i := 21) rfl)
theorem kc_yX11_held : Cond.code yX11_held cX11_held 2 (some .int) ∈ TBL := tb_34 (List.mem_of_getElem? (i := 4) rfl)
theorem ky_yX11_held : yX11_held.cls ≠ "java/lang/invoke/MethodHandle" ∧ yX11_held.cls ≠ "java/lang/invoke/VarHandle" ∧ (parseMethodDescriptor yX11_held.desc).map (fun d => d.parameters.length) = some 2 := by decide +kernel
theorem kt_yX11_held : Cond.static yX11_held ∈ TBL := tb_34 (List.mem_of_getElem? (i := 3) rfl)
theorem kc_yX11_hour : Cond.code yX11_hour cX11_hour 3 none ∈ TBL := tb_32 (List.mem_of_getElem? (i := 30) rfl)
theorem ky_yX11_hour : yX11_hour.cls ≠ "java/lang/invoke/MethodHandle" ∧ yX11_hour.cls ≠ "java/lang/invoke/VarHandle" ∧ (parseMethodDescriptor yX11_hour.desc).map (fun d => d.parameters.length) = some 1 := by decide +kernel
theorem ki_yX11_hour : Cond.instanceMethod yX11_hour ∈ TBL := tb_32 (List.mem_of_getElem? (i := 29) rfl)
theorem kv_yX11_hour : Cond.selects RX11 yX11_hour yX11_hour ∈ TBL := tb_2 (List.mem_of_getElem? (i := 11) rfl)
theorem kc_yX11_hours : Cond.code yX11_hours cX11_hours 4 none ∈ TBL := tb_32 (List.mem_of_getElem? (i := 27) rfl)
theorem ky_yX11_hours : yX11_hours.cls ≠ "java/lang/invoke/MethodHandle" ∧ yX11_hours.cls ≠ "java/lang/invoke/VarHandle" ∧ (parseMethodDescriptor yX11_hours.desc).map (fun d => d.parameters.length) = some 2 := by decide +kernel
theorem ki_yX11_hours : Cond.instanceMethod yX11_hours ∈ TBL := tb_32 (List.mem_of_getElem? (i := 26) rfl)
theorem kv_yX11_hours : Cond.selects RX11 yX11_hours yX11_hours ∈ TBL := tb_2 (List.mem_of_getElem? (i := 10) rfl)
theorem kc_yX11_init : Cond.code yX11_init cX11_init 2 none ∈ TBL := tb_24 (List.mem_of_getElem? (i := 24) rfl)
theorem ky_yX11_init : yX11_init.cls ≠ "java/lang/invoke/MethodHandle" ∧ yX11_init.cls ≠ "java/lang/invoke/VarHandle" ∧ (parseMethodDescriptor yX11_init.desc).map (fun d => d.parameters.length) = some 0 := by decide +kernel
theorem ki_yX11_init : Cond.instanceMethod yX11_init ∈ TBL := tb_24 (List.mem_of_getElem? (i := 23) rfl)
theorem kc_yX11_isCell : Cond.code yX11_isCell cX11_isCell 2 (some .boolean) ∈ TBL := tb_31 (List.mem_of_getElem? (i := 38) rfl)
theorem ky_yX11_isCell : yX11_isCell.cls ≠ "java/lang/invoke/MethodHandle" ∧ yX11_isCell.cls ≠ "java/lang/invoke/VarHandle" ∧ (parseMethodDescriptor yX11_isCell.desc).map (fun d => d.parameters.length) = some 2 := by decide +kernel
theorem kt_yX11_isCell : Cond.static yX11_isCell ∈ TBL := tb_31 (List.mem_of_getElem? (i := 37) rfl)
theorem kc_yX11_isDigit : Cond.code yX11_isDigit cX11_isDigit 2 (some .boolean) ∈ TBL := tb_29 (List.mem_of_getElem? (i := 4) rfl)
theorem ky_yX11_isDigit : yX11_isDigit.cls ≠ "java/lang/invoke/MethodHandle" ∧ yX11_isDigit.cls ≠ "java/lang/invoke/VarHandle" ∧ (parseMethodDescriptor yX11_isDigit.desc).map (fun d => d.parameters.length) = some 1 := by decide +kernel
theorem ki_yX11_isDigit : Cond.instanceMethod yX11_isDigit ∈ TBL := tb_29 (List.mem_of_getElem? (i := 3) rfl)
theorem kv_yX11_isDigit : Cond.selects RX11 yX11_isDigit yX11_isDigit ∈ TBL := tb_1 (List.mem_of_getElem? (i := 19) rfl)
theorem kc_yX11_isGangIn : Cond.code yX11_isGangIn cX11_isGangIn 3 (some .boolean) ∈ TBL := tb_35 (List.mem_of_getElem? (i := 7) rfl)
theorem ky_yX11_isGangIn : yX11_isGangIn.cls ≠ "java/lang/invoke/MethodHandle" ∧ yX11_isGangIn.cls ≠ "java/lang/invoke/VarHandle" ∧ (parseMethodDescriptor yX11_isGangIn.desc).map (fun d => d.parameters.length) = some 1 := by decide +kernel
theorem ki_yX11_isGangIn : Cond.instanceMethod yX11_isGangIn ∈ TBL := tb_35 (List.mem_of_getElem? (i := 6) rfl)
theorem kv_yX11_isGangIn : Cond.selects RX11 yX11_isGangIn yX11_isGangIn ∈ TBL := tb_2 (List.mem_of_getElem? (i := 28) rfl)
theorem kc_yX11_isIn : Cond.code yX11_isIn cX11_isIn 3 (some .boolean) ∈ TBL := tb_28 (List.mem_of_getElem? (i := 25) rfl)
theorem ky_yX11_isIn : yX11_isIn.cls ≠ "java/lang/invoke/MethodHandle" ∧ yX11_isIn.cls ≠ "java/lang/invoke/VarHandle" ∧ (parseMethodDescriptor yX11_isIn.desc).map (fun d => d.parameters.length) = some 3 := by decide +kernel
theorem kt_yX11_isIn : Cond.static yX11_isIn ∈ TBL := tb_28 (List.mem_of_getElem? (i := 24) rfl)
theorem kc_yX11_isLetter : Cond.code yX11_isLetter cX11_isLetter 2 (some .boolean) ∈ TBL := tb_28 (List.mem_of_getElem? (i := 35) rfl)
theorem ky_yX11_isLetter : yX11_isLetter.cls ≠ "java/lang/invoke/MethodHandle" ∧ yX11_isLetter.cls ≠ "java/lang/invoke/VarHandle" ∧ (parseMethodDescriptor yX11_isLetter.desc).map (fun d => d.parameters.length) = some 1 := by decide +kernel
theorem ki_yX11_isLetter : Cond.instanceMethod yX11_isLetter ∈ TBL := tb_28 (List.mem_of_getElem? (i := 34) rfl)
theorem kv_yX11_isLetter : Cond.selects RX11 yX11_isLetter yX11_isLetter ∈ TBL := tb_1 (List.mem_of_getElem? (i := 16) rfl)
theorem kc_yX11_isNameOf : Cond.code yX11_isNameOf cX11_isNameOf 3 (some .boolean) ∈ TBL := tb_29 (List.mem_of_getElem? (i := 31) rfl)
theorem ky_yX11_isNameOf : yX11_isNameOf.cls ≠ "java/lang/invoke/MethodHandle" ∧ yX11_isNameOf.cls ≠ "java/lang/invoke/VarHandle" ∧ (parseMethodDescriptor yX11_isNameOf.desc).map (fun d => d.parameters.length) = some 1 := by decide +kernel
theorem ki_yX11_isNameOf : Cond.instanceMethod yX11_isNameOf ∈ TBL := tb_29 (List.mem_of_getElem? (i := 30) rfl)
theorem kv_yX11_isNameOf : Cond.selects RX11 yX11_isNameOf yX11_isNameOf ∈ TBL := tb_1 (List.mem_of_getElem? (i := 26) rfl)
theorem kc_yX11_isSymbol : Cond.code yX11_isSymbol cX11_isSymbol 1 (some .boolean) ∈ TBL := tb_29 (List.mem_of_getElem? (i := 19) rfl)
theorem ky_yX11_isSymbol : yX11_isSymbol.cls ≠ "java/lang/invoke/MethodHandle" ∧ yX11_isSymbol.cls ≠ "java/lang/invoke/VarHandle" ∧ (parseMethodDescriptor yX11_isSymbol.desc).map (fun d => d.parameters.length) = some 1 := by decide +kernel
theorem kt_yX11_isSymbol : Cond.static yX11_isSymbol ∈ TBL := tb_29 (List.mem_of_getElem? (i := 18) rfl)
theorem kc_yX11_isThere : Cond.code yX11_isThere cX11_isThere 6 (some .boolean) ∈ TBL := tb_32 (List.mem_of_getElem? (i := 36) rfl)
theorem ky_yX11_isThere : yX11_isThere.cls ≠ "java/lang/invoke/MethodHandle" ∧ yX11_isThere.cls ≠ "java/lang/invoke/VarHandle" ∧ (parseMethodDescriptor yX11_isThere.desc).map (fun d => d.parameters.length) = some 3 := by decide +kernel
theorem ki_yX11_isThere : Cond.instanceMethod yX11_isThere ∈ TBL := tb_32 (List.mem_of_getElem? (i := 35) rfl)
theorem kv_yX11_isThere : Cond.selects RX11 yX11_isThere yX11_isThere ∈ TBL := tb_2 (List.mem_of_getElem? (i := 13) rfl)
theorem kc_yX11_isWord : Cond.code yX11_isWord cX11_isWord 3 (some .boolean) ∈ TBL := tb_29 (List.mem_of_getElem? (i := 8) rfl)
theorem ky_yX11_isWord : yX11_isWord.cls ≠ "java/lang/invoke/MethodHandle" ∧ yX11_isWord.cls ≠ "java/lang/invoke/VarHandle" ∧ (parseMethodDescriptor yX11_isWord.desc).map (fun d => d.parameters.length) = some 1 := by decide +kernel
theorem ki_yX11_isWord : Cond.instanceMethod yX11_isWord ∈ TBL := tb_29 (List.mem_of_getElem? (i := 7) rfl)
theorem kv_yX11_isWord : Cond.selects RX11 yX11_isWord yX11_isWord ∈ TBL := tb_1 (List.mem_of_getElem? (i := 20) rfl)
theorem kc_yX11_learn : Cond.code yX11_learn cX11_learn 2 none ∈ TBL := tb_31 (List.mem_of_getElem? (i := 8) rfl)
theorem ky_yX11_learn : yX11_learn.cls ≠ "java/lang/invoke/MethodHandle" ∧ yX11_learn.cls ≠ "java/lang/invoke/VarHandle" ∧ (parseMethodDescriptor yX11_learn.desc).map (fun d => d.parameters.length) = some 0 := by decide +kernel
theorem ki_yX11_learn : Cond.instanceMethod yX11_learn ∈ TBL := tb_31 (List.mem_of_getElem? (i := 7) rfl)
theorem kv_yX11_learn : Cond.selects RX11 yX11_learn yX11_learn ∈ TBL := tb_2 (List.mem_of_getElem? (i := 5) rfl)
theorem kc_yX11_load : Cond.code yX11_load cX11_load 6 (some .boolean) ∈ TBL := tb_33 (List.mem_of_getElem? (i := 28) rfl)
theorem ky_yX11_load : yX11_load.cls ≠ "java/lang/invoke/MethodHandle" ∧ yX11_load.cls ≠ "java/lang/invoke/VarHandle" ∧ (parseMethodDescriptor yX11_load.desc).map (fun d => d.parameters.length) = some 4 := by decide +kernel
theorem ki_yX11_load : Cond.instanceMethod yX11_load ∈ TBL := tb_33 (List.mem_of_getElem? (i := 27) rfl)
theorem kv_yX11_load : Cond.selects RX11 yX11_load yX11_load ∈ TBL := tb_2 (List.mem_of_getElem? (i := 20) rfl)
theorem kc_yX11_loop : Cond.code yX11_loop cX11_loop 2 (some .boolean) ∈ TBL := tb_31 (List.mem_of_getElem? (i := 5) rfl)
theorem ky_yX11_loop : yX11_loop.cls ≠ "java/lang/invoke/MethodHandle" ∧ yX11_loop.cls ≠ "java/lang/invoke/VarHandle" ∧ (parseMethodDescriptor yX11_loop.desc).map (fun d => d.parameters.length) = some 0 := by decide +kernel
theorem ki_yX11_loop : Cond.instanceMethod yX11_loop ∈ TBL := tb_31 (List.mem_of_getElem? (i := 4) rfl)
theorem kv_yX11_loop : Cond.selects RX11 yX11_loop yX11_loop ∈ TBL := tb_2 (List.mem_of_getElem? (i := 4) rfl)
theorem kc_yX11_night : Cond.code yX11_night cX11_night 6 none ∈ TBL := tb_33 (List.mem_of_getElem? (i := 38) rfl)
theorem ky_yX11_night : yX11_night.cls ≠ "java/lang/invoke/MethodHandle" ∧ yX11_night.cls ≠ "java/lang/invoke/VarHandle" ∧ (parseMethodDescriptor yX11_night.desc).map (fun d => d.parameters.length) = some 1 := by decide +kernel
theorem ki_yX11_night : Cond.instanceMethod yX11_night ∈ TBL := tb_33 (List.mem_of_getElem? (i := 37) rfl)
theorem kv_yX11_night : Cond.selects RX11 yX11_night yX11_night ∈ TBL := tb_2 (List.mem_of_getElem? (i := 22) rfl)
theorem kc_yX11_no : Cond.code yX11_no cX11_no 2 (some .int) ∈ TBL := tb_28 (List.mem_of_getElem? (i := 18) rfl)
theorem ky_yX11_no : yX11_no.cls ≠ "java/lang/invoke/MethodHandle" ∧ yX11_no.cls ≠ "java/lang/invoke/VarHandle" ∧ (parseMethodDescriptor yX11_no.desc).map (fun d => d.parameters.length) = some 1 := by decide +kernel
theorem ki_yX11_no : Cond.instanceMethod yX11_no ∈ TBL := tb_28 (List.mem_of_getElem? (i := 17) rfl)
theorem kv_yX11_no : Cond.selects RX11 yX11_no yX11_no ∈ TBL := tb_1 (List.mem_of_getElem? (i := 14) rfl)
theorem kc_yX11_number : Cond.code yX11_number cX11_number 2 none ∈ TBL := tb_29 (List.mem_of_getElem? (i := 13) rfl)
theorem ky_yX11_number : yX11_number.cls ≠ "java/lang/invoke/MethodHandle" ∧ yX11_number.cls ≠ "java/lang/invoke/VarHandle" ∧ (parseMethodDescriptor yX11_number.desc).map (fun d => d.parameters.length) = some 0 := by decide +kernel
theorem ki_yX11_number : Cond.instanceMethod yX11_number ∈ TBL := tb_29 (List.mem_of_getElem? (i := 12) rfl)
theorem kv_yX11_number : Cond.selects RX11 yX11_number yX11_number ∈ TBL := tb_1 (List.mem_of_getElem? (i := 21) rfl)
theorem kc_yX11_pass : Cond.code yX11_pass cX11_pass 3 (some .int) ∈ TBL := tb_32 (List.mem_of_getElem? (i := 24) rfl)
theorem ky_yX11_pass : yX11_pass.cls ≠ "java/lang/invoke/MethodHandle" ∧ yX11_pass.cls ≠ "java/lang/invoke/VarHandle" ∧ (parseMethodDescriptor yX11_pass.desc).map (fun d => d.parameters.length) = some 1 := by decide +kernel
theorem ki_yX11_pass : Cond.instanceMethod yX11_pass ∈ TBL := tb_32 (List.mem_of_getElem? (i := 22) rfl)
theorem kv_yX11_pass : Cond.selects RX11 yX11_pass yX11_pass ∈ TBL := tb_32 (List.mem_of_getElem? (i := 23) rfl)
theorem kc_yX11_passSymbol : Cond.code yX11_passSymbol cX11_passSymbol 2 (some .boolean) ∈ TBL := tb_30 (List.mem_of_getElem? (i := 27) rfl)
theorem ky_yX11_passSymbol : yX11_passSymbol.cls ≠ "java/lang/invoke/MethodHandle" ∧ yX11_passSymbol.cls ≠ "java/lang/invoke/VarHandle" ∧ (parseMethodDescriptor yX11_passSymbol.desc).map (fun d => d.parameters.length) = some 1 := by decide +kernel
theorem ki_yX11_passSymbol : Cond.instanceMethod yX11_passSymbol ∈ TBL := tb_30 (List.mem_of_getElem? (i := 26) rfl)
theorem kv_yX11_passSymbol : Cond.selects RX11 yX11_passSymbol yX11_passSymbol ∈ TBL := tb_1 (List.mem_of_getElem? (i := 38) rfl)
theorem kc_yX11_passWord : Cond.code yX11_passWord cX11_passWord 2 (some .boolean) ∈ TBL := tb_29 (List.mem_of_getElem? (i := 37) rfl)
theorem ky_yX11_passWord : yX11_passWord.cls ≠ "java/lang/invoke/MethodHandle" ∧ yX11_passWord.cls ≠ "java/lang/invoke/VarHandle" ∧ (parseMethodDescriptor yX11_passWord.desc).map (fun d => d.parameters.length) = some 1 := by decide +kernel
theorem ki_yX11_passWord : Cond.instanceMethod yX11_passWord ∈ TBL := tb_29 (List.mem_of_getElem? (i := 36) rfl)
theorem kv_yX11_passWord : Cond.selects RX11 yX11_passWord yX11_passWord ∈ TBL := tb_1 (List.mem_of_getElem? (i := 28) rfl)
theorem kc_yX11_product : Cond.code yX11_product cX11_product 2 (some .boolean) ∈ TBL := tb_30 (List.mem_of_getElem? (i := 18) rfl)
theorem ky_yX11_product : yX11_product.cls ≠ "java/lang/invoke/MethodHandle" ∧ yX11_product.cls ≠ "java/lang/invoke/VarHandle" ∧ (parseMethodDescriptor yX11_product.desc).map (fun d => d.parameters.length) = some 0 := by decide +kernel
theorem ki_yX11_product : Cond.instanceMethod yX11_product ∈ TBL := tb_30 (List.mem_of_getElem? (i := 17) rfl)
theorem kv_yX11_product : Cond.selects RX11 yX11_product yX11_product ∈ TBL := tb_1 (List.mem_of_getElem? (i := 35) rfl)
theorem kc_yX11_put : Cond.code yX11_put cX11_put 2 none ∈ TBL := tb_30 (List.mem_of_getElem? (i := 12) rfl)
theorem ky_yX11_put : yX11_put.cls ≠ "java/lang/invoke/MethodHandle" ∧ yX11_put.cls ≠ "java/lang/invoke/VarHandle" ∧ (parseMethodDescriptor yX11_put.desc).map (fun d => d.parameters.length) = some 1 := by decide +kernel
theorem ki_yX11_put : Cond.instanceMethod yX11_put ∈ TBL := tb_30 (List.mem_of_getElem? (i := 11) rfl)
theorem kv_yX11_put : Cond.selects RX11 yX11_put yX11_put ∈ TBL := tb_1 (List.mem_of_getElem? (i := 33) rfl)
theorem kc_yX11_reads : Cond.code yX11_reads cX11_reads 2 (some .boolean) ∈ TBL := tb_29 (List.mem_of_getElem? (i := 25) rfl)
theorem ky_yX11_reads : yX11_reads.cls ≠ "java/lang/invoke/MethodHandle" ∧ yX11_reads.cls ≠ "java/lang/invoke/VarHandle" ∧ (parseMethodDescriptor yX11_reads.desc).map (fun d => d.parameters.length) = some 1 := by decide +kernel
theorem ki_yX11_reads : Cond.instanceMethod yX11_reads ∈ TBL := tb_29 (List.mem_of_getElem? (i := 24) rfl)
theorem kv_yX11_reads : Cond.selects RX11 yX11_reads yX11_reads ∈ TBL := tb_1 (List.mem_of_getElem? (i := 24) rfl)
theorem kc_yX11_reckon : Cond.code yX11_reckon cX11_reckon 7 (some .int) ∈ TBL := tb_32 (List.mem_of_getElem? (i := 39) rfl)
theorem ky_yX11_reckon : yX11_reckon.cls ≠ "java/lang/invoke/MethodHandle" ∧ yX11_reckon.cls ≠ "java/lang/invoke/VarHandle" ∧ (parseMethodDescriptor yX11_reckon.desc).map (fun d => d.parameters.length) = some 3 := by decide +kernel
theorem ki_yX11_reckon : Cond.instanceMethod yX11_reckon ∈ TBL := tb_32 (List.mem_of_getElem? (i := 38) rfl)
theorem kv_yX11_reckon : Cond.selects RX11 yX11_reckon yX11_reckon ∈ TBL := tb_2 (List.mem_of_getElem? (i := 14) rfl)
theorem kc_yX11_repeat : Cond.code yX11_repeat cX11_repeat 2 (some .boolean) ∈ TBL := tb_31 (List.mem_of_getElem? (i := 2) rfl)
theorem ky_yX11_repeat : yX11_repeat.cls ≠ "java/lang/invoke/MethodHandle" ∧ yX11_repeat.cls ≠ "java/lang/invoke/VarHandle" ∧ (parseMethodDescriptor yX11_repeat.desc).map (fun d => d.parameters.length) = some 0 := by decide +kernel
theorem ki_yX11_repeat : Cond.instanceMethod yX11_repeat ∈ TBL := tb_31 (List.mem_of_getElem? (i := 1) rfl)
theorem kv_yX11_repeat : Cond.selects RX11 yX11_repeat yX11_repeat ∈ TBL := tb_2 (List.mem_of_getElem? (i := 3) rfl)
theorem kc_yX11_rise : Cond.code yX11_rise cX11_rise 3 none ∈ TBL := tb_34 (List.mem_of_getElem? (i := 7) rfl)
theorem ky_yX11_rise : yX11_rise.cls ≠ "java/lang/invoke/MethodHandle" ∧ yX11_rise.cls ≠ "java/lang/invoke/VarHandle" ∧ (parseMethodDescriptor yX11_rise.desc).map (fun d => d.parameters.length) = some 1 := by decide +kernel
theorem ki_yX11_rise : Cond.instanceMethod yX11_rise ∈ TBL := tb_34 (List.mem_of_getElem? (i := 6) rfl)
theorem kv_yX11_rise : Cond.selects RX11 yX11_rise yX11_rise ∈ TBL := tb_2 (List.mem_of_getElem? (i := 24) rfl)
theorem kc_yX11_sees : Cond.code yX11_sees cX11_sees 2 (some .boolean) ∈ TBL := tb_30 (List.mem_of_getElem? (i := 3) rfl)
theorem ky_yX11_sees : yX11_sees.cls ≠ "java/lang/invoke/MethodHandle" ∧ yX11_sees.cls ≠ "java/lang/invoke/VarHandle" ∧ (parseMethodDescriptor yX11_sees.desc).map (fun d => d.parameters.length) = some 1 := by decide +kernel
theorem ki_yX11_sees : Cond.instanceMethod yX11_sees ∈ TBL := tb_30 (List.mem_of_getElem? (i := 2) rfl)
theorem kv_yX11_sees : Cond.selects RX11 yX11_sees yX11_sees ∈ TBL := tb_1 (List.mem_of_getElem? (i := 30) rfl)
theorem kc_yX11_sentence : Cond.code yX11_sentence cX11_sentence 2 (some .boolean) ∈ TBL := tb_30 (List.mem_of_getElem? (i := 9) rfl)
theorem ky_yX11_sentence : yX11_sentence.cls ≠ "java/lang/invoke/MethodHandle" ∧ yX11_sentence.cls ≠ "java/lang/invoke/VarHandle" ∧ (parseMethodDescriptor yX11_sentence.desc).map (fun d => d.parameters.length) = some 0 := by decide +kernel
theorem ki_yX11_sentence : Cond.instanceMethod yX11_sentence ∈ TBL := tb_30 (List.mem_of_getElem? (i := 8) rfl)
theorem kv_yX11_sentence : Cond.selects RX11 yX11_sentence yX11_sentence ∈ TBL := tb_1 (List.mem_of_getElem? (i := 32) rfl)
theorem kc_yX11_set : Cond.code yX11_set cX11_set 7 (some .int) ∈ TBL := tb_31 (List.mem_of_getElem? (i := 35) rfl)
theorem ky_yX11_set : yX11_set.cls ≠ "java/lang/invoke/MethodHandle" ∧ yX11_set.cls ≠ "java/lang/invoke/VarHandle" ∧ (parseMethodDescriptor yX11_set.desc).map (fun d => d.parameters.length) = some 4 := by decide +kernel
theorem ki_yX11_set : Cond.instanceMethod yX11_set ∈ TBL := tb_31 (List.mem_of_getElem? (i := 33) rfl)
theorem kv_yX11_set : Cond.selects RX11 yX11_set yX11_set ∈ TBL := tb_31 (List.mem_of_getElem? (i := 34) rfl)
theorem kc_yX11_setWeather : Cond.code yX11_setWeather cX11_setWeather 5 (some .int) ∈ TBL := tb_31 (List.mem_of_getElem? (i := 31) rfl)
theorem ky_yX11_setWeather : yX11_setWeather.cls ≠ "java/lang/invoke/MethodHandle" ∧ yX11_setWeather.cls ≠ "java/lang/invoke/VarHandle" ∧ (parseMethodDescriptor yX11_setWeather.desc).map (fun d => d.parameters.length) = some 3 := by decide +kernel
theorem ki_yX11_setWeather : Cond.instanceMethod yX11_setWeather ∈ TBL := tb_31 (List.mem_of_getElem? (i := 29) rfl)
theorem kv_yX11_setWeather : Cond.selects RX11 yX11_setWeather yX11_setWeather ∈ TBL := tb_31 (List.mem_of_getElem? (i := 30) rfl)
theorem kc_yX11_shallower : Cond.code yX11_shallower cX11_shallower 2 (some .boolean) ∈ TBL := tb_30 (List.mem_of_getElem? (i := 24) rfl)
theorem ky_yX11_shallower : yX11_shallower.cls ≠ "java/lang/invoke/MethodHandle" ∧ yX11_shallower.cls ≠ "java/lang/invoke/VarHandle" ∧ (parseMethodDescriptor yX11_shallower.desc).map (fun d => d.parameters.length) = some 1 := by decide +kernel
theorem ki_yX11_shallower : Cond.instanceMethod yX11_shallower ∈ TBL := tb_30 (List.mem_of_getElem? (i := 23) rfl)
theorem kv_yX11_shallower : Cond.selects RX11 yX11_shallower yX11_shallower ∈ TBL := tb_1 (List.mem_of_getElem? (i := 37) rfl)
theorem kc_yX11_share : Cond.code yX11_share cX11_share 1 (some .double) ∈ TBL := tb_35 (List.mem_of_getElem? (i := 15) rfl)
theorem ky_yX11_share : yX11_share.cls ≠ "java/lang/invoke/MethodHandle" ∧ yX11_share.cls ≠ "java/lang/invoke/VarHandle" ∧ (parseMethodDescriptor yX11_share.desc).map (fun d => d.parameters.length) = some 0 := by decide +kernel
theorem ki_yX11_share : Cond.instanceMethod yX11_share ∈ TBL := tb_35 (List.mem_of_getElem? (i := 13) rfl)
theorem kv_yX11_share : Cond.selects RX11 yX11_share yX11_share ∈ TBL := tb_35 (List.mem_of_getElem? (i := 14) rfl)
theorem kc_yX11_single : Cond.code yX11_single cX11_single 2 (some .boolean) ∈ TBL := tb_30 (List.mem_of_getElem? (i := 39) rfl)
theorem ky_yX11_single : yX11_single.cls ≠ "java/lang/invoke/MethodHandle" ∧ yX11_single.cls ≠ "java/lang/invoke/VarHandle" ∧ (parseMethodDescriptor yX11_single.desc).map (fun d => d.parameters.length) = some 0 := by decide +kernel
theorem ki_yX11_single : Cond.instanceMethod yX11_single ∈ TBL := tb_30 (List.mem_of_getElem? (i := 38) rfl)
theorem kv_yX11_single : Cond.selects RX11 yX11_single yX11_single ∈ TBL := tb_2 (List.mem_of_getElem? (i := 2) rfl)
theorem kc_yX11_stack : Cond.code yX11_stack cX11_stack 6 (some .int) ∈ TBL := tb_32 (List.mem_of_getElem? (i := 2) rfl)
theorem ky_yX11_stack : yX11_stack.cls ≠ "java/lang/invoke/MethodHandle" ∧ yX11_stack.cls ≠ "java/lang/invoke/VarHandle" ∧ (parseMethodDescriptor yX11_stack.desc).map (fun d => d.parameters.length) = some 4 := by decide +kernel
theorem ki_yX11_stack : Cond.instanceMethod yX11_stack ∈ TBL := tb_32 (List.mem_of_getElem? (i := 0) rfl)
theorem kv_yX11_stack : Cond.selects RX11 yX11_stack yX11_stack ∈ TBL := tb_32 (List.mem_of_getElem? (i := 1) rfl)
theorem kc_yX11_sum : Cond.code yX11_sum cX11_sum 3 (some .boolean) ∈ TBL := tb_30 (List.mem_of_getElem? (i := 15) rfl)
theorem ky_yX11_sum : yX11_sum.cls ≠ "java/lang/invoke/MethodHandle" ∧ yX11_sum.cls ≠ "java/lang/invoke/VarHandle" ∧ (parseMethodDescriptor yX11_sum.desc).map (fun d => d.parameters.length) = some 1 := by decide +kernel
theorem ki_yX11_sum : Cond.instanceMethod yX11_sum ∈ TBL := tb_30 (List.mem_of_getElem? (i := 14) rfl)
theorem kv_yX11_sum : Cond.selects RX11 yX11_sum yX11_sum ∈ TBL := tb_1 (List.mem_of_getElem? (i := 34) rfl)
theorem kc_yX11_symbol : Cond.code yX11_symbol cX11_symbol 2 none ∈ TBL := tb_29 (List.mem_of_getElem? (i := 16) rfl)
theorem ky_yX11_symbol : yX11_symbol.cls ≠ "java/lang/invoke/MethodHandle" ∧ yX11_symbol.cls ≠ "java/lang/invoke/VarHandle" ∧ (parseMethodDescriptor yX11_symbol.desc).map (fun d => d.parameters.length) = some 0 := by decide +kernel
theorem ki_yX11_symbol : Cond.instanceMethod yX11_symbol ∈ TBL := tb_29 (List.mem_of_getElem? (i := 15) rfl)
theorem kv_yX11_symbol : Cond.selects RX11 yX11_symbol yX11_symbol ∈ TBL := tb_1 (List.mem_of_getElem? (i := 22) rfl)
theorem kc_yX11_teach : Cond.code yX11_teach cX11_teach 1 (some .int) ∈ TBL := tb_28 (List.mem_of_getElem? (i := 29) rfl)
theorem ky_yX11_teach : yX11_teach.cls ≠ "java/lang/invoke/MethodHandle" ∧ yX11_teach.cls ≠ "java/lang/invoke/VarHandle" ∧ (parseMethodDescriptor yX11_teach.desc).map (fun d => d.parameters.length) = some 0 := by decide +kernel
theorem ki_yX11_teach : Cond.instanceMethod yX11_teach ∈ TBL := tb_28 (List.mem_of_getElem? (i := 27) rfl)
theorem kv_yX11_teach : Cond.selects RX11 yX11_teach yX11_teach ∈ TBL := tb_28 (List.mem_of_getElem? (i := 28) rfl)
theorem kc_yX11_test : Cond.code yX11_test cX11_test 2 (some .boolean) ∈ TBL := tb_30 (List.mem_of_getElem? (i := 33) rfl)
theorem ky_yX11_test : yX11_test.cls ≠ "java/lang/invoke/MethodHandle" ∧ yX11_test.cls ≠ "java/lang/invoke/VarHandle" ∧ (parseMethodDescriptor yX11_test.desc).map (fun d => d.parameters.length) = some 1 := by decide +kernel
theorem ki_yX11_test : Cond.instanceMethod yX11_test ∈ TBL := tb_30 (List.mem_of_getElem? (i := 32) rfl)
theorem kv_yX11_test : Cond.selects RX11 yX11_test yX11_test ∈ TBL := tb_2 (List.mem_of_getElem? (i := 0) rfl)
theorem kc_yX11_text : Cond.code yX11_text cX11_text 1 (some .boolean) ∈ TBL := tb_29 (List.mem_of_getElem? (i := 22) rfl)
theorem ky_yX11_text : yX11_text.cls ≠ "java/lang/invoke/MethodHandle" ∧ yX11_text.cls ≠ "java/lang/invoke/VarHandle" ∧ (parseMethodDescriptor yX11_text.desc).map (fun d => d.parameters.length) = some 0 := by decide +kernel
theorem ki_yX11_text : Cond.instanceMethod yX11_text ∈ TBL := tb_29 (List.mem_of_getElem? (i := 21) rfl)
theorem kv_yX11_text : Cond.selects RX11 yX11_text yX11_text ∈ TBL := tb_1 (List.mem_of_getElem? (i := 23) rfl)
theorem kc_yX11_thrown : Cond.code yX11_thrown cX11_thrown 1 (some .int) ∈ TBL := tb_28 (List.mem_of_getElem? (i := 11) rfl)
theorem ky_yX11_thrown : yX11_thrown.cls ≠ "java/lang/invoke/MethodHandle" ∧ yX11_thrown.cls ≠ "java/lang/invoke/VarHandle" ∧ (parseMethodDescriptor yX11_thrown.desc).map (fun d => d.parameters.length) = some 0 := by decide +kernel
theorem ki_yX11_thrown : Cond.instanceMethod yX11_thrown ∈ TBL := tb_28 (List.mem_of_getElem? (i := 9) rfl)
theorem kv_yX11_thrown : Cond.selects RX11 yX11_thrown yX11_thrown ∈ TBL := tb_28 (List.mem_of_getElem? (i := 10) rfl)
theorem kc_yX11_told : Cond.code yX11_told cX11_told 6 (some .int) ∈ TBL := tb_33 (List.mem_of_getElem? (i := 2) rfl)
theorem ky_yX11_told : yX11_told.cls ≠ "java/lang/invoke/MethodHandle" ∧ yX11_told.cls ≠ "java/lang/invoke/VarHandle" ∧ (parseMethodDescriptor yX11_told.desc).map (fun d => d.parameters.length) = some 3 := by decide +kernel
theorem ki_yX11_told : Cond.instanceMethod yX11_told ∈ TBL := tb_33 (List.mem_of_getElem? (i := 1) rfl)
theorem kv_yX11_told : Cond.selects RX11 yX11_told yX11_told ∈ TBL := tb_2 (List.mem_of_getElem? (i := 15) rfl)
theorem kc_yX11_trim : Cond.code yX11_trim cX11_trim 2 (some .int) ∈ TBL := tb_28 (List.mem_of_getElem? (i := 22) rfl)
theorem ky_yX11_trim : yX11_trim.cls ≠ "java/lang/invoke/MethodHandle" ∧ yX11_trim.cls ≠ "java/lang/invoke/VarHandle" ∧ (parseMethodDescriptor yX11_trim.desc).map (fun d => d.parameters.length) = some 1 := by decide +kernel
theorem ki_yX11_trim : Cond.instanceMethod yX11_trim ∈ TBL := tb_28 (List.mem_of_getElem? (i := 20) rfl)
theorem kv_yX11_trim : Cond.selects RX11 yX11_trim yX11_trim ∈ TBL := tb_28 (List.mem_of_getElem? (i := 21) rfl)
theorem kc_yX11_unload : Cond.code yX11_unload cX11_unload 5 (some .boolean) ∈ TBL := tb_33 (List.mem_of_getElem? (i := 22) rfl)
theorem ky_yX11_unload : yX11_unload.cls ≠ "java/lang/invoke/MethodHandle" ∧ yX11_unload.cls ≠ "java/lang/invoke/VarHandle" ∧ (parseMethodDescriptor yX11_unload.desc).map (fun d => d.parameters.length) = some 3 := by decide +kernel
theorem ki_yX11_unload : Cond.instanceMethod yX11_unload ∈ TBL := tb_33 (List.mem_of_getElem? (i := 21) rfl)
theorem kv_yX11_unload : Cond.selects RX11 yX11_unload yX11_unload ∈ TBL := tb_2 (List.mem_of_getElem? (i := 18) rfl)
theorem kc_yX11_value : Cond.code yX11_value cX11_value 2 (some .boolean) ∈ TBL := tb_30 (List.mem_of_getElem? (i := 21) rfl)
theorem ky_yX11_value : yX11_value.cls ≠ "java/lang/invoke/MethodHandle" ∧ yX11_value.cls ≠ "java/lang/invoke/VarHandle" ∧ (parseMethodDescriptor yX11_value.desc).map (fun d => d.parameters.length) = some 0 := by decide +kernel
theorem ki_yX11_value : Cond.instanceMethod yX11_value ∈ TBL := tb_30 (List.mem_of_getElem? (i := 20) rfl)
theorem kv_yX11_value : Cond.selects RX11 yX11_value yX11_value ∈ TBL := tb_1 (List.mem_of_getElem? (i := 36) rfl)
theorem kc_yX11_withPeat : Cond.code yX11_withPeat cX11_withPeat 4 (some .int) ∈ TBL := tb_34 (List.mem_of_getElem? (i := 10) rfl)
theorem ky_yX11_withPeat : yX11_withPeat.cls ≠ "java/lang/invoke/MethodHandle" ∧ yX11_withPeat.cls ≠ "java/lang/invoke/VarHandle" ∧ (parseMethodDescriptor yX11_withPeat.desc).map (fun d => d.parameters.length) = some 1 := by decide +kernel
theorem ki_yX11_withPeat : Cond.instanceMethod yX11_withPeat ∈ TBL := tb_34 (List.mem_of_getElem? (i := 9) rfl)
theorem kv_yX11_withPeat : Cond.selects RX11 yX11_withPeat yX11_withPeat ∈ TBL := tb_2 (List.mem_of_getElem? (i := 25) rfl)
theorem kc_yX11_word : Cond.code yX11_word cX11_word 2 none ∈ TBL := tb_29 (List.mem_of_getElem? (i := 1) rfl)
theorem ky_yX11_word : yX11_word.cls ≠ "java/lang/invoke/MethodHandle" ∧ yX11_word.cls ≠ "java/lang/invoke/VarHandle" ∧ (parseMethodDescriptor yX11_word.desc).map (fun d => d.parameters.length) = some 0 := by decide +kernel
theorem ki_yX11_word : Cond.instanceMethod yX11_word ∈ TBL := tb_29 (List.mem_of_getElem? (i := 0) rfl)
theorem kv_yX11_word : Cond.selects RX11 yX11_word yX11_word ∈ TBL := tb_1 (List.mem_of_getElem? (i := 18) rfl)
theorem kc_yX11_work : Cond.code yX11_work cX11_work 8 none ∈ TBL := tb_32 (List.mem_of_getElem? (i := 33) rfl)
theorem ky_yX11_work : yX11_work.cls ≠ "java/lang/invoke/MethodHandle" ∧ yX11_work.cls ≠ "java/lang/invoke/VarHandle" ∧ (parseMethodDescriptor yX11_work.desc).map (fun d => d.parameters.length) = some 2 := by decide +kernel
theorem ki_yX11_work : Cond.instanceMethod yX11_work ∈ TBL := tb_32 (List.mem_of_getElem? (i := 32) rfl)
theorem kv_yX11_work : Cond.selects RX11 yX11_work yX11_work ∈ TBL := tb_2 (List.mem_of_getElem? (i := 12) rfl)
theorem kc_yX1_addToStack : Cond.code yX1_addToStack cX1_addToStack 4 none ∈ TBL := tb_19 (List.mem_of_getElem? (i := 25) rfl)
theorem ky_yX1_addToStack : yX1_addToStack.cls ≠ "java/lang/invoke/MethodHandle" ∧ yX1_addToStack.cls ≠ "java/lang/invoke/VarHandle" ∧ (parseMethodDescriptor yX1_addToStack.desc).map (fun d => d.parameters.length) = some 3 := by decide +kernel
theorem ki_yX1_addToStack : Cond.instanceMethod yX1_addToStack ∈ TBL := tb_19 (List.mem_of_getElem? (i := 23) rfl)
theorem kv_yX1_addToStack : Cond.selects RX1 yX1_addToStack yX1_addToStack ∈ TBL := tb_19 (List.mem_of_getElem? (i := 24) rfl)
theorem kn_RX1 : Cond.initialized RX1 ∈ TBL := tb_2 (List.mem_of_getElem? (i := 34) rfl)
theorem kc_yX1_bricksInCarts : Cond.code yX1_bricksInCarts cX1_bricksInCarts 3 (some .int) ∈ TBL := tb_15 (List.mem_of_getElem? (i := 36) rfl)
theorem ky_yX1_bricksInCarts : yX1_bricksInCarts.cls ≠ "java/lang/invoke/MethodHandle" ∧ yX1_bricksInCarts.cls ≠ "java/lang/invoke/VarHandle" ∧ (parseMethodDescriptor yX1_bricksInCarts.desc).map (fun d => d.parameters.length) = some 0 := by decide +kernel
theorem ki_yX1_bricksInCarts : Cond.instanceMethod yX1_bricksInCarts ∈ TBL := tb_15 (List.mem_of_getElem? (i := 34) rfl)
theorem kv_yX1_bricksInCarts : Cond.selects RX1 yX1_bricksInCarts yX1_bricksInCarts ∈ TBL := tb_15 (List.mem_of_getElem? (i := 35) rfl)
theorem kc_yX1_copy : Cond.code yX1_copy cX1_copy 3 none ∈ TBL := tb_23 (List.mem_of_getElem? (i := 25) rfl)
theorem ky_yX1_copy : yX1_copy.cls ≠ "java/lang/invoke/MethodHandle" ∧ yX1_copy.cls ≠ "java/lang/invoke/VarHandle" ∧ (parseMethodDescriptor yX1_copy.desc).map (fun d => d.parameters.length) = some 1 := by decide +kernel
theorem ki_yX1_copy : Cond.instanceMethod yX1_copy ∈ TBL := tb_23 (List.mem_of_getElem? (i := 23) rfl)
theorem kv_yX1_copy : Cond.selects RX1 yX1_copy yX1_copy ∈ TBL := tb_23 (List.mem_of_getElem? (i := 24) rfl)
theorem kc_yX1_dryStacks : Cond.code yX1_dryStacks cX1_dryStacks 3 none ∈ TBL := tb_22 (List.mem_of_getElem? (i := 33) rfl)
theorem ky_yX1_dryStacks : yX1_dryStacks.cls ≠ "java/lang/invoke/MethodHandle" ∧ yX1_dryStacks.cls ≠ "java/lang/invoke/VarHandle" ∧ (parseMethodDescriptor yX1_dryStacks.desc).map (fun d => d.parameters.length) = some 0 := by decide +kernel
theorem ki_yX1_dryStacks : Cond.instanceMethod yX1_dryStacks ∈ TBL := tb_22 (List.mem_of_getElem? (i := 32) rfl)
theorem kv_yX1_dryStacks : Cond.selects RX1 yX1_dryStacks yX1_dryStacks ∈ TBL := tb_1 (List.mem_of_getElem? (i := 10) rfl)
theorem kc_yX1_employ : Cond.code yX1_employ cX1_employ 3 none ∈ TBL := tb_14 (List.mem_of_getElem? (i := 34) rfl)
theorem ky_yX1_employ : yX1_employ.cls ≠ "java/lang/invoke/MethodHandle" ∧ yX1_employ.cls ≠ "java/lang/invoke/VarHandle" ∧ (parseMethodDescriptor yX1_employ.desc).map (fun d => d.parameters.length) = some 1 := by decide +kernel
theorem ki_yX1_employ : Cond.instanceMethod yX1_employ ∈ TBL := tb_14 (List.mem_of_getElem? (i := 32) rfl)
theorem kv_yX1_employ : Cond.selects RX1 yX1_employ yX1_employ ∈ TBL := tb_14 (List.mem_of_getElem? (i := 33) rfl)
theorem kc_yX1_endHour : Cond.code yX1_endHour cX1_endHour 1 none ∈ TBL := tb_22 (List.mem_of_getElem? (i := 30) rfl)
theorem ky_yX1_endHour : yX1_endHour.cls ≠ "java/lang/invoke/MethodHandle" ∧ yX1_endHour.cls ≠ "java/lang/invoke/VarHandle" ∧ (parseMethodDescriptor yX1_endHour.desc).map (fun d => d.parameters.length) = some 0 := by decide +kernel
theorem ki_yX1_endHour : Cond.instanceMethod yX1_endHour ∈ TBL := tb_22 (List.mem_of_getElem? (i := 28) rfl)
theorem kv_yX1_endHour : Cond.selects RX1 yX1_endHour yX1_endHour ∈ TBL := tb_22 (List.mem_of_getElem? (i := 29) rfl)
theorem kc_yX1_floodedCells : Cond.code yX1_floodedCells cX1_floodedCells 3 (some .int) ∈ TBL := tb_16 (List.mem_of_getElem? (i := 0) rfl)
theorem ky_yX1_floodedCells : yX1_floodedCells.cls ≠ "java/lang/invoke/MethodHandle" ∧ yX1_floodedCells.cls ≠ "java/lang/invoke/VarHandle" ∧ (parseMethodDescriptor yX1_floodedCells.desc).map (fun d => d.parameters.length) = some 0 := by decide +kernel
theorem ki_yX1_floodedCells : Cond.instanceMethod yX1_floodedCells ∈ TBL := tb_15 (List.mem_of_getElem? (i := 38) rfl)
theorem kv_yX1_floodedCells : Cond.selects RX1 yX1_floodedCells yX1_floodedCells ∈ TBL := tb_15 (List.mem_of_getElem? (i := 39) rfl)
theorem kc_yX1_hasGangAt : Cond.code yX1_hasGangAt cX1_hasGangAt 3 (some .boolean) ∈ TBL := tb_15 (List.mem_of_getElem? (i := 16) rfl)
theorem ky_yX1_hasGangAt : yX1_hasGangAt.cls ≠ "java/lang/invoke/MethodHandle" ∧ yX1_hasGangAt.cls ≠ "java/lang/invoke/VarHandle" ∧ (parseMethodDescriptor yX1_hasGangAt.desc).map (fun d => d.parameters.length) = some 1 := by decide +kernel
theorem ki_yX1_hasGangAt : Cond.instanceMethod yX1_hasGangAt ∈ TBL := tb_15 (List.mem_of_getElem? (i := 14) rfl)
theorem kv_yX1_hasGangAt : Cond.selects RX1 yX1_hasGangAt yX1_hasGangAt ∈ TBL := tb_15 (List.mem_of_getElem? (i := 15) rfl)
theorem kc_yX1_init : Cond.code yX1_init cX1_init 3 none ∈ TBL := tb_5 (List.mem_of_getElem? (i := 26) rfl)
theorem ky_yX1_init : yX1_init.cls ≠ "java/lang/invoke/MethodHandle" ∧ yX1_init.cls ≠ "java/lang/invoke/VarHandle" ∧ (parseMethodDescriptor yX1_init.desc).map (fun d => d.parameters.length) = some 1 := by decide +kernel
theorem ki_yX1_init : Cond.instanceMethod yX1_init ∈ TBL := tb_5 (List.mem_of_getElem? (i := 25) rfl)
theorem kc_yX1_moveWater : Cond.code yX1_moveWater cX1_moveWater 4 none ∈ TBL := tb_23 (List.mem_of_getElem? (i := 5) rfl)
theorem ky_yX1_moveWater : yX1_moveWater.cls ≠ "java/lang/invoke/MethodHandle" ∧ yX1_moveWater.cls ≠ "java/lang/invoke/VarHandle" ∧ (parseMethodDescriptor yX1_moveWater.desc).map (fun d => d.parameters.length) = some 0 := by decide +kernel
theorem ki_yX1_moveWater : Cond.instanceMethod yX1_moveWater ∈ TBL := tb_23 (List.mem_of_getElem? (i := 4) rfl)
theorem kv_yX1_moveWater : Cond.selects RX1 yX1_moveWater yX1_moveWater ∈ TBL := tb_1 (List.mem_of_getElem? (i := 11) rfl)
theorem kc_yX1_neighboursWithPeat : Cond.code yX1_neighboursWithPeat cX1_neighboursWithPeat 5 (some .int) ∈ TBL := tb_23 (List.mem_of_getElem? (i := 14) rfl)
theorem ky_yX1_neighboursWithPeat : yX1_neighboursWithPeat.cls ≠ "java/lang/invoke/MethodHandle" ∧ yX1_neighboursWithPeat.cls ≠ "java/lang/invoke/VarHandle" ∧ (parseMethodDescriptor yX1_neighboursWithPeat.desc).map (fun d => d.parameters.length) = some 1 := by decide +kernel
theorem ki_yX1_neighboursWithPeat : Cond.instanceMethod yX1_neighboursWithPeat ∈ TBL := tb_23 (List.mem_of_getElem? (i := 13) rfl)
theorem kv_yX1_neighboursWithPeat : Cond.selects RX1 yX1_neighboursWithPeat yX1_neighboursWithPeat ∈ TBL := tb_1 (List.mem_of_getElem? (i := 13) rfl)
theorem kc_yX1_rainOfDay : Cond.code yX1_rainOfDay cX1_rainOfDay 1 (some .int) ∈ TBL := tb_20 (List.mem_of_getElem? (i := 32) rfl)
theorem ky_yX1_rainOfDay : yX1_rainOfDay.cls ≠ "java/lang/invoke/MethodHandle" ∧ yX1_rainOfDay.cls ≠ "java/lang/invoke/VarHandle" ∧ (parseMethodDescriptor yX1_rainOfDay.desc).map (fun d => d.parameters.length) = some 0 := by decide +kernel
theorem ki_yX1_rainOfDay : Cond.instanceMethod yX1_rainOfDay ∈ TBL := tb_20 (List.mem_of_getElem? (i := 30) rfl)
theorem kv_yX1_rainOfDay : Cond.selects RX1 yX1_rainOfDay yX1_rainOfDay ∈ TBL := tb_20 (List.mem_of_getElem? (i := 31) rfl)
theorem kc_yX1_rise : Cond.code yX1_rise cX1_rise 3 none ∈ TBL := tb_23 (List.mem_of_getElem? (i := 8) rfl)
theorem ky_yX1_rise : yX1_rise.cls ≠ "java/lang/invoke/MethodHandle" ∧ yX1_rise.cls ≠ "java/lang/invoke/VarHandle" ∧ (parseMethodDescriptor yX1_rise.desc).map (fun d => d.parameters.length) = some 0 := by decide +kernel
theorem ki_yX1_rise : Cond.instanceMethod yX1_rise ∈ TBL := tb_23 (List.mem_of_getElem? (i := 7) rfl)
theorem kv_yX1_rise : Cond.selects RX1 yX1_rise yX1_rise ∈ TBL := tb_1 (List.mem_of_getElem? (i := 12) rfl)
theorem kc_yX1_sunOfDay : Cond.code yX1_sunOfDay cX1_sunOfDay 1 (some .int) ∈ TBL := tb_20 (List.mem_of_getElem? (i := 36) rfl)
theorem ky_yX1_sunOfDay : yX1_sunOfDay.cls ≠ "java/lang/invoke/MethodHandle" ∧ yX1_sunOfDay.cls ≠ "java/lang/invoke/VarHandle" ∧ (parseMethodDescriptor yX1_sunOfDay.desc).map (fun d => d.parameters.length) = some 0 := by decide +kernel
theorem ki_yX1_sunOfDay : Cond.instanceMethod yX1_sunOfDay ∈ TBL := tb_20 (List.mem_of_getElem? (i := 34) rfl)
theorem kv_yX1_sunOfDay : Cond.selects RX1 yX1_sunOfDay yX1_sunOfDay ∈ TBL := tb_20 (List.mem_of_getElem? (i := 35) rfl)
theorem kc_yX1_takeFromStack : Cond.code yX1_takeFromStack cX1_takeFromStack 3 none ∈ TBL := tb_22 (List.mem_of_getElem? (i := 7) rfl)
theorem ky_yX1_takeFromStack : yX1_takeFromStack.cls ≠ "java/lang/invoke/MethodHandle" ∧ yX1_takeFromStack.cls ≠ "java/lang/invoke/VarHandle" ∧ (parseMethodDescriptor yX1_takeFromStack.desc).map (fun d => d.parameters.length) = some 2 := by decide +kernel
theorem ki_yX1_takeFromStack : Cond.instanceMethod yX1_takeFromStack ∈ TBL := tb_22 (List.mem_of_getElem? (i := 5) rfl)
theorem kv_yX1_takeFromStack : Cond.selects RX1 yX1_takeFromStack yX1_takeFromStack ∈ TBL := tb_22 (List.mem_of_getElem? (i := 6) rfl)
theorem kc_yX1_tellCell : Cond.code yX1_tellCell cX1_tellCell 3 (some .int) ∈ TBL := tb_16 (List.mem_of_getElem? (i := 4) rfl)
theorem ky_yX1_tellCell : yX1_tellCell.cls ≠ "java/lang/invoke/MethodHandle" ∧ yX1_tellCell.cls ≠ "java/lang/invoke/VarHandle" ∧ (parseMethodDescriptor yX1_tellCell.desc).map (fun d => d.parameters.length) = some 2 := by decide +kernel
theorem ki_yX1_tellCell : Cond.instanceMethod yX1_tellCell ∈ TBL := tb_16 (List.mem_of_getElem? (i := 2) rfl)
theorem kv_yX1_tellCell : Cond.selects RX1 yX1_tellCell yX1_tellCell ∈ TBL := tb_16 (List.mem_of_getElem? (i := 3) rfl)
theorem kc_yX2_addToCart : Cond.code yX2_addToCart cX2_addToCart 3 none ∈ TBL := tb_22 (List.mem_of_getElem? (i := 3) rfl)
theorem ky_yX2_addToCart : yX2_addToCart.cls ≠ "java/lang/invoke/MethodHandle" ∧ yX2_addToCart.cls ≠ "java/lang/invoke/VarHandle" ∧ (parseMethodDescriptor yX2_addToCart.desc).map (fun d => d.parameters.length) = some 2 := by decide +kernel
theorem ki_yX2_addToCart : Cond.instanceMethod yX2_addToCart ∈ TBL := tb_22 (List.mem_of_getElem? (i := 1) rfl)
theorem kv_yX2_addToCart : Cond.selects RX2 yX2_addToCart yX2_addToCart ∈ TBL := tb_22 (List.mem_of_getElem? (i := 2) rfl)
theorem kn_RX2 : Cond.initialized RX2 ∈ TBL := tb_2 (List.mem_of_getElem? (i := 35) rfl)
theorem kc_yX2_begin : Cond.code yX2_begin cX2_begin 4 none ∈ TBL := tb_14 (List.mem_of_getElem? (i := 38) rfl)
theorem ky_yX2_begin : yX2_begin.cls ≠ "java/lang/invoke/MethodHandle" ∧ yX2_begin.cls ≠ "java/lang/invoke/VarHandle" ∧ (parseMethodDescriptor yX2_begin.desc).map (fun d => d.parameters.length) = some 3 := by decide +kernel
theorem ki_yX2_begin : Cond.instanceMethod yX2_begin ∈ TBL := tb_14 (List.mem_of_getElem? (i := 36) rfl)
theorem kv_yX2_begin : Cond.selects RX2 yX2_begin yX2_begin ∈ TBL := tb_14 (List.mem_of_getElem? (i := 37) rfl)
theorem kc_yX2_copy : Cond.code yX2_copy cX2_copy 2 none ∈ TBL := tb_23 (List.mem_of_getElem? (i := 29) rfl)
theorem ky_yX2_copy : yX2_copy.cls ≠ "java/lang/invoke/MethodHandle" ∧ yX2_copy.cls ≠ "java/lang/invoke/VarHandle" ∧ (parseMethodDescriptor yX2_copy.desc).map (fun d => d.parameters.length) = some 1 := by decide +kernel
theorem ki_yX2_copy : Cond.instanceMethod yX2_copy ∈ TBL := tb_23 (List.mem_of_getElem? (i := 27) rfl)
theorem kv_yX2_copy : Cond.selects RX2 yX2_copy yX2_copy ∈ TBL := tb_23 (List.mem_of_getElem? (i := 28) rfl)
theorem kc_yX2_init : Cond.code yX2_init cX2_init 1 none ∈ TBL := tb_5 (List.mem_of_getElem? (i := 31) rfl)
theorem ky_yX2_init : yX2_init.cls ≠ "java/lang/invoke/MethodHandle" ∧ yX2_init.cls ≠ "java/lang/invoke/VarHandle" ∧ (parseMethodDescriptor yX2_init.desc).map (fun d => d.parameters.length) = some 0 := by decide +kernel
theorem ki_yX2_init : Cond.instanceMethod yX2_init ∈ TBL := tb_5 (List.mem_of_getElem? (i := 30) rfl)
theorem kc_yX2_takeFromCart : Cond.code yX2_takeFromCart cX2_takeFromCart 2 none ∈ TBL := tb_22 (List.mem_of_getElem? (i := 14) rfl)
theorem ky_yX2_takeFromCart : yX2_takeFromCart.cls ≠ "java/lang/invoke/MethodHandle" ∧ yX2_takeFromCart.cls ≠ "java/lang/invoke/VarHandle" ∧ (parseMethodDescriptor yX2_takeFromCart.desc).map (fun d => d.parameters.length) = some 1 := by decide +kernel
theorem ki_yX2_takeFromCart : Cond.instanceMethod yX2_takeFromCart ∈ TBL := tb_22 (List.mem_of_getElem? (i := 12) rfl)
theorem kv_yX2_takeFromCart : Cond.selects RX2 yX2_takeFromCart yX2_takeFromCart ∈ TBL := tb_22 (List.mem_of_getElem? (i := 13) rfl)
theorem kc_yX2_tell : Cond.code yX2_tell cX2_tell 2 (some .int) ∈ TBL := tb_16 (List.mem_of_getElem? (i := 8) rfl)
theorem ky_yX2_tell : yX2_tell.cls ≠ "java/lang/invoke/MethodHandle" ∧ yX2_tell.cls ≠ "java/lang/invoke/VarHandle" ∧ (parseMethodDescriptor yX2_tell.desc).map (fun d => d.parameters.length) = some 1 := by decide +kernel
theorem ki_yX2_tell : Cond.instanceMethod yX2_tell ∈ TBL := tb_16 (List.mem_of_getElem? (i := 6) rfl)
theorem kv_yX2_tell : Cond.selects RX2 yX2_tell yX2_tell ∈ TBL := tb_16 (List.mem_of_getElem? (i := 7) rfl)
theorem kc_yX4_block : Cond.code yX4_block cX4_block 3 (some .boolean) ∈ TBL := tb_13 (List.mem_of_getElem? (i := 6) rfl)
theorem ky_yX4_block : yX4_block.cls ≠ "java/lang/invoke/MethodHandle" ∧ yX4_block.cls ≠ "java/lang/invoke/VarHandle" ∧ (parseMethodDescriptor yX4_block.desc).map (fun d => d.parameters.length) = some 1 := by decide +kernel
theorem ki_yX4_block : Cond.instanceMethod yX4_block ∈ TBL := tb_13 (List.mem_of_getElem? (i := 5) rfl)
theorem kv_yX4_block : Cond.selects RX4 yX4_block yX4_block ∈ TBL := tb_0 (List.mem_of_getElem? (i := 16) rfl)
theorem kn_RX4 : Cond.initialized RX4 ∈ TBL := tb_2 (List.mem_of_getElem? (i := 31) rfl)
theorem kc_yX4_both : Cond.code yX4_both cX4_both 4 (some .boolean) ∈ TBL := tb_14 (List.mem_of_getElem? (i := 10) rfl)
theorem ky_yX4_both : yX4_both.cls ≠ "java/lang/invoke/MethodHandle" ∧ yX4_both.cls ≠ "java/lang/invoke/VarHandle" ∧ (parseMethodDescriptor yX4_both.desc).map (fun d => d.parameters.length) = some 1 := by decide +kernel
theorem ki_yX4_both : Cond.instanceMethod yX4_both ∈ TBL := tb_14 (List.mem_of_getElem? (i := 9) rfl)
theorem kv_yX4_both : Cond.selects RX4 yX4_both yX4_both ∈ TBL := tb_0 (List.mem_of_getElem? (i := 25) rfl)
theorem kc_yX4_choice : Cond.code yX4_choice cX4_choice 4 (some .boolean) ∈ TBL := tb_14 (List.mem_of_getElem? (i := 4) rfl)
theorem ky_yX4_choice : yX4_choice.cls ≠ "java/lang/invoke/MethodHandle" ∧ yX4_choice.cls ≠ "java/lang/invoke/VarHandle" ∧ (parseMethodDescriptor yX4_choice.desc).map (fun d => d.parameters.length) = some 1 := by decide +kernel
theorem ki_yX4_choice : Cond.instanceMethod yX4_choice ∈ TBL := tb_14 (List.mem_of_getElem? (i := 3) rfl)
theorem kv_yX4_choice : Cond.selects RX4 yX4_choice yX4_choice ∈ TBL := tb_0 (List.mem_of_getElem? (i := 23) rfl)
theorem kc_yX4_countedLoop : Cond.code yX4_countedLoop cX4_countedLoop 6 (some .boolean) ∈ TBL := tb_14 (List.mem_of_getElem? (i := 26) rfl)
theorem ky_yX4_countedLoop : yX4_countedLoop.cls ≠ "java/lang/invoke/MethodHandle" ∧ yX4_countedLoop.cls ≠ "java/lang/invoke/VarHandle" ∧ (parseMethodDescriptor yX4_countedLoop.desc).map (fun d => d.parameters.length) = some 1 := by decide +kernel
theorem ki_yX4_countedLoop : Cond.instanceMethod yX4_countedLoop ∈ TBL := tb_14 (List.mem_of_getElem? (i := 25) rfl)
theorem kv_yX4_countedLoop : Cond.selects RX4 yX4_countedLoop yX4_countedLoop ∈ TBL := tb_0 (List.mem_of_getElem? (i := 27) rfl)
theorem kc_yX4_end : Cond.code yX4_end cX4_end 2 (some .boolean) ∈ TBL := tb_14 (List.mem_of_getElem? (i := 0) rfl)
theorem ky_yX4_end : yX4_end.cls ≠ "java/lang/invoke/MethodHandle" ∧ yX4_end.cls ≠ "java/lang/invoke/VarHandle" ∧ (parseMethodDescriptor yX4_end.desc).map (fun d => d.parameters.length) = some 1 := by decide +kernel
theorem ki_yX4_end : Cond.instanceMethod yX4_end ∈ TBL := tb_13 (List.mem_of_getElem? (i := 39) rfl)
theorem kv_yX4_end : Cond.selects RX4 yX4_end yX4_end ∈ TBL := tb_0 (List.mem_of_getElem? (i := 22) rfl)
theorem kc_yX4_enter : Cond.code yX4_enter cX4_enter 3 (some .boolean) ∈ TBL := tb_13 (List.mem_of_getElem? (i := 10) rfl)
theorem ky_yX4_enter : yX4_enter.cls ≠ "java/lang/invoke/MethodHandle" ∧ yX4_enter.cls ≠ "java/lang/invoke/VarHandle" ∧ (parseMethodDescriptor yX4_enter.desc).map (fun d => d.parameters.length) = some 2 := by decide +kernel
theorem ki_yX4_enter : Cond.instanceMethod yX4_enter ∈ TBL := tb_13 (List.mem_of_getElem? (i := 9) rfl)
theorem kv_yX4_enter : Cond.selects RX4 yX4_enter yX4_enter ∈ TBL := tb_0 (List.mem_of_getElem? (i := 17) rfl)
theorem kc_yX4_expect : Cond.code yX4_expect cX4_expect 2 (some .boolean) ∈ TBL := tb_12 (List.mem_of_getElem? (i := 4) rfl)
theorem ky_yX4_expect : yX4_expect.cls ≠ "java/lang/invoke/MethodHandle" ∧ yX4_expect.cls ≠ "java/lang/invoke/VarHandle" ∧ (parseMethodDescriptor yX4_expect.desc).map (fun d => d.parameters.length) = some 1 := by decide +kernel
theorem ki_yX4_expect : Cond.instanceMethod yX4_expect ∈ TBL := tb_12 (List.mem_of_getElem? (i := 3) rfl)
theorem kv_yX4_expect : Cond.selects RX4 yX4_expect yX4_expect ∈ TBL := tb_0 (List.mem_of_getElem? (i := 10) rfl)
theorem kc_yX4_init : Cond.code yX4_init cX4_init 1 none ∈ TBL := tb_3 (List.mem_of_getElem? (i := 26) rfl)
theorem ky_yX4_init : yX4_init.cls ≠ "java/lang/invoke/MethodHandle" ∧ yX4_init.cls ≠ "java/lang/invoke/VarHandle" ∧ (parseMethodDescriptor yX4_init.desc).map (fun d => d.parameters.length) = some 0 := by decide +kernel
theorem ki_yX4_init : Cond.instanceMethod yX4_init ∈ TBL := tb_3 (List.mem_of_getElem? (i := 25) rfl)
theorem kc_yX4_kind : Cond.code yX4_kind cX4_kind 1 (some (.object "PeatBog$Token")) ∈ TBL := tb_11 (List.mem_of_getElem? (i := 32) rfl)
theorem ky_yX4_kind : yX4_kind.cls ≠ "java/lang/invoke/MethodHandle" ∧ yX4_kind.cls ≠ "java/lang/invoke/VarHandle" ∧ (parseMethodDescriptor yX4_kind.desc).map (fun d => d.parameters.length) = some 0 := by decide +kernel
theorem ki_yX4_kind : Cond.instanceMethod yX4_kind ∈ TBL := tb_11 (List.mem_of_getElem? (i := 31) rfl)
theorem kv_yX4_kind : Cond.selects RX4 yX4_kind yX4_kind ∈ TBL := tb_0 (List.mem_of_getElem? (i := 8) rfl)
theorem kc_yX4_limitedNumber : Cond.code yX4_limitedNumber cX4_limitedNumber 3 (some .boolean) ∈ TBL := tb_12 (List.mem_of_getElem? (i := 29) rfl)
theorem ky_yX4_limitedNumber : yX4_limitedNumber.cls ≠ "java/lang/invoke/MethodHandle" ∧ yX4_limitedNumber.cls ≠ "java/lang/invoke/VarHandle" ∧ (parseMethodDescriptor yX4_limitedNumber.desc).map (fun d => d.parameters.length) = some 1 := by decide +kernel
theorem ki_yX4_limitedNumber : Cond.instanceMethod yX4_limitedNumber ∈ TBL := tb_12 (List.mem_of_getElem? (i := 28) rfl)
theorem kv_yX4_limitedNumber : Cond.selects RX4 yX4_limitedNumber yX4_limitedNumber ∈ TBL := tb_0 (List.mem_of_getElem? (i := 15) rfl)
theorem kc_yX4_note : Cond.code yX4_note cX4_note 3 none ∈ TBL := tb_12 (List.mem_of_getElem? (i := 25) rfl)
theorem ky_yX4_note : yX4_note.cls ≠ "java/lang/invoke/MethodHandle" ∧ yX4_note.cls ≠ "java/lang/invoke/VarHandle" ∧ (parseMethodDescriptor yX4_note.desc).map (fun d => d.parameters.length) = some 2 := by decide +kernel
theorem ki_yX4_note : Cond.instanceMethod yX4_note ∈ TBL := tb_12 (List.mem_of_getElem? (i := 24) rfl)
theorem kv_yX4_note : Cond.selects RX4 yX4_note yX4_note ∈ TBL := tb_0 (List.mem_of_getElem? (i := 14) rfl)
theorem kc_yX4_noteName : Cond.code yX4_noteName cX4_noteName 3 none ∈ TBL := tb_12 (List.mem_of_getElem? (i := 14) rfl)
theorem ky_yX4_noteName : yX4_noteName.cls ≠ "java/lang/invoke/MethodHandle" ∧ yX4_noteName.cls ≠ "java/lang/invoke/VarHandle" ∧ (parseMethodDescriptor yX4_noteName.desc).map (fun d => d.parameters.length) = some 1 := by decide +kernel
theorem ki_yX4_noteName : Cond.instanceMethod yX4_noteName ∈ TBL := tb_12 (List.mem_of_getElem? (i := 13) rfl)
theorem kv_yX4_noteName : Cond.selects RX4 yX4_noteName yX4_noteName ∈ TBL := tb_0 (List.mem_of_getElem? (i := 12) rfl)
theorem kc_yX4_oneGang : Cond.code yX4_oneGang cX4_oneGang 4 (some .boolean) ∈ TBL := tb_12 (List.mem_of_getElem? (i := 0) rfl)
theorem ky_yX4_oneGang : yX4_oneGang.cls ≠ "java/lang/invoke/MethodHandle" ∧ yX4_oneGang.cls ≠ "java/lang/invoke/VarHandle" ∧ (parseMethodDescriptor yX4_oneGang.desc).map (fun d => d.parameters.length) = some 0 := by decide +kernel
theorem ki_yX4_oneGang : Cond.instanceMethod yX4_oneGang ∈ TBL := tb_11 (List.mem_of_getElem? (i := 39) rfl)
theorem kv_yX4_oneGang : Cond.selects RX4 yX4_oneGang yX4_oneGang ∈ TBL := tb_0 (List.mem_of_getElem? (i := 9) rfl)
theorem kc_yX4_parse : Cond.code yX4_parse cX4_parse 6 none ∈ TBL := tb_9 (List.mem_of_getElem? (i := 22) rfl)
theorem ky_yX4_parse : yX4_parse.cls ≠ "java/lang/invoke/MethodHandle" ∧ yX4_parse.cls ≠ "java/lang/invoke/VarHandle" ∧ (parseMethodDescriptor yX4_parse.desc).map (fun d => d.parameters.length) = some 3 := by decide +kernel
theorem ki_yX4_parse : Cond.instanceMethod yX4_parse ∈ TBL := tb_9 (List.mem_of_getElem? (i := 20) rfl)
theorem kv_yX4_parse : Cond.selects RX4 yX4_parse yX4_parse ∈ TBL := tb_9 (List.mem_of_getElem? (i := 21) rfl)
theorem kc_yX4_product : Cond.code yX4_product cX4_product 5 (some .boolean) ∈ TBL := tb_13 (List.mem_of_getElem? (i := 26) rfl)
theorem ky_yX4_product : yX4_product.cls ≠ "java/lang/invoke/MethodHandle" ∧ yX4_product.cls ≠ "java/lang/invoke/VarHandle" ∧ (parseMethodDescriptor yX4_product.desc).map (fun d => d.parameters.length) = some 1 := by decide +kernel
theorem ki_yX4_product : Cond.instanceMethod yX4_product ∈ TBL := tb_13 (List.mem_of_getElem? (i := 25) rfl)
theorem kv_yX4_product : Cond.selects RX4 yX4_product yX4_product ∈ TBL := tb_0 (List.mem_of_getElem? (i := 20) rfl)
theorem kc_yX4_refuse : Cond.code yX4_refuse cX4_refuse 1 (some .boolean) ∈ TBL := tb_12 (List.mem_of_getElem? (i := 7) rfl)
theorem ky_yX4_refuse : yX4_refuse.cls ≠ "java/lang/invoke/MethodHandle" ∧ yX4_refuse.cls ≠ "java/lang/invoke/VarHandle" ∧ (parseMethodDescriptor yX4_refuse.desc).map (fun d => d.parameters.length) = some 0 := by decide +kernel
theorem ki_yX4_refuse : Cond.instanceMethod yX4_refuse ∈ TBL := tb_12 (List.mem_of_getElem? (i := 6) rfl)
theorem kv_yX4_refuse : Cond.selects RX4 yX4_refuse yX4_refuse ∈ TBL := tb_0 (List.mem_of_getElem? (i := 11) rfl)
theorem kc_yX4_sentence : Cond.code yX4_sentence cX4_sentence 3 (some .boolean) ∈ TBL := tb_13 (List.mem_of_getElem? (i := 14) rfl)
theorem ky_yX4_sentence : yX4_sentence.cls ≠ "java/lang/invoke/MethodHandle" ∧ yX4_sentence.cls ≠ "java/lang/invoke/VarHandle" ∧ (parseMethodDescriptor yX4_sentence.desc).map (fun d => d.parameters.length) = some 1 := by decide +kernel
theorem ki_yX4_sentence : Cond.instanceMethod yX4_sentence ∈ TBL := tb_13 (List.mem_of_getElem? (i := 13) rfl)
theorem kv_yX4_sentence : Cond.selects RX4 yX4_sentence yX4_sentence ∈ TBL := tb_0 (List.mem_of_getElem? (i := 18) rfl)
theorem kc_yX4_single : Cond.code yX4_single cX4_single 3 (some .boolean) ∈ TBL := tb_14 (List.mem_of_getElem? (i := 13) rfl)
theorem ky_yX4_single : yX4_single.cls ≠ "java/lang/invoke/MethodHandle" ∧ yX4_single.cls ≠ "java/lang/invoke/VarHandle" ∧ (parseMethodDescriptor yX4_single.desc).map (fun d => d.parameters.length) = some 1 := by decide +kernel
theorem ki_yX4_single : Cond.instanceMethod yX4_single ∈ TBL := tb_14 (List.mem_of_getElem? (i := 12) rfl)
theorem kv_yX4_single : Cond.selects RX4 yX4_single yX4_single ∈ TBL := tb_0 (List.mem_of_getElem? (i := 26) rfl)
theorem kc_yX4_sum : Cond.code yX4_sum cX4_sum 5 (some .boolean) ∈ TBL := tb_13 (List.mem_of_getElem? (i := 23) rfl)
theorem ky_yX4_sum : yX4_sum.cls ≠ "java/lang/invoke/MethodHandle" ∧ yX4_sum.cls ≠ "java/lang/invoke/VarHandle" ∧ (parseMethodDescriptor yX4_sum.desc).map (fun d => d.parameters.length) = some 1 := by decide +kernel
theorem ki_yX4_sum : Cond.instanceMethod yX4_sum ∈ TBL := tb_13 (List.mem_of_getElem? (i := 22) rfl)
theorem kv_yX4_sum : Cond.selects RX4 yX4_sum yX4_sum ∈ TBL := tb_0 (List.mem_of_getElem? (i := 19) rfl)
theorem kc_yX4_test : Cond.code yX4_test cX4_test 4 (some .boolean) ∈ TBL := tb_14 (List.mem_of_getElem? (i := 7) rfl)
theorem ky_yX4_test : yX4_test.cls ≠ "java/lang/invoke/MethodHandle" ∧ yX4_test.cls ≠ "java/lang/invoke/VarHandle" ∧ (parseMethodDescriptor yX4_test.desc).map (fun d => d.parameters.length) = some 1 := by decide +kernel
theorem ki_yX4_test : Cond.instanceMethod yX4_test ∈ TBL := tb_14 (List.mem_of_getElem? (i := 6) rfl)
theorem kv_yX4_test : Cond.selects RX4 yX4_test yX4_test ∈ TBL := tb_0 (List.mem_of_getElem? (i := 24) rfl)
theorem kc_yX4_testedLoop : Cond.code yX4_testedLoop cX4_testedLoop 4 (some .boolean) ∈ TBL := tb_14 (List.mem_of_getElem? (i := 29) rfl)
theorem ky_yX4_testedLoop : yX4_testedLoop.cls ≠ "java/lang/invoke/MethodHandle" ∧ yX4_testedLoop.cls ≠ "java/lang/invoke/VarHandle" ∧ (parseMethodDescriptor yX4_testedLoop.desc).map (fun d => d.parameters.length) = some 1 := by decide +kernel
theorem ki_yX4_testedLoop : Cond.instanceMethod yX4_testedLoop ∈ TBL := tb_14 (List.mem_of_getElem? (i := 28) rfl)
theorem kv_yX4_testedLoop : Cond.selects RX4 yX4_testedLoop yX4_testedLoop ∈ TBL := tb_0 (List.mem_of_getElem? (i := 28) rfl)
theorem kc_yX4_value : Cond.code yX4_value cX4_value 3 (some .boolean) ∈ TBL := tb_13 (List.mem_of_getElem? (i := 29) rfl)
theorem ky_yX4_value : yX4_value.cls ≠ "java/lang/invoke/MethodHandle" ∧ yX4_value.cls ≠ "java/lang/invoke/VarHandle" ∧ (parseMethodDescriptor yX4_value.desc).map (fun d => d.parameters.length) = some 1 := by decide +kernel
theorem ki_yX4_value : Cond.instanceMethod yX4_value ∈ TBL := tb_13 (List.mem_of_getElem? (i := 28) rfl)
theorem kv_yX4_value : Cond.selects RX4 yX4_value yX4_value ∈ TBL := tb_0 (List.mem_of_getElem? (i := 21) rfl)
theorem kc_yX5_addGang : Cond.code yX5_addGang cX5_addGang 3 none ∈ TBL := tb_12 (List.mem_of_getElem? (i := 38) rfl)
theorem ky_yX5_addGang : yX5_addGang.cls ≠ "java/lang/invoke/MethodHandle" ∧ yX5_addGang.cls ≠ "java/lang/invoke/VarHandle" ∧ (parseMethodDescriptor yX5_addGang.desc).map (fun d => d.parameters.length) = some 2 := by decide +kernel
theorem ki_yX5_addGang : Cond.instanceMethod yX5_addGang ∈ TBL := tb_12 (List.mem_of_getElem? (i := 36) rfl)
theorem kv_yX5_addGang : Cond.selects RX5 yX5_addGang yX5_addGang ∈ TBL := tb_12 (List.mem_of_getElem? (i := 37) rfl)
theorem kn_RX5 : Cond.initialized RX5 ∈ TBL := tb_2 (List.mem_of_getElem? (i := 33) rfl)
theorem kc_yX5_argumentAt : Cond.code yX5_argumentAt cX5_argumentAt 2 (some .int) ∈ TBL := tb_21 (List.mem_of_getElem? (i := 13) rfl)
theorem ky_yX5_argumentAt : yX5_argumentAt.cls ≠ "java/lang/invoke/MethodHandle" ∧ yX5_argumentAt.cls ≠ "java/lang/invoke/VarHandle" ∧ (parseMethodDescriptor yX5_argumentAt.desc).map (fun d => d.parameters.length) = some 1 := by decide +kernel
theorem ki_yX5_argumentAt : Cond.instanceMethod yX5_argumentAt ∈ TBL := tb_21 (List.mem_of_getElem? (i := 11) rfl)
theorem kv_yX5_argumentAt : Cond.selects RX5 yX5_argumentAt yX5_argumentAt ∈ TBL := tb_21 (List.mem_of_getElem? (i := 12) rfl)
theorem kc_yX5_clear : Cond.code yX5_clear cX5_clear 1 none ∈ TBL := tb_11 (List.mem_of_getElem? (i := 29) rfl)
theorem ky_yX5_clear : yX5_clear.cls ≠ "java/lang/invoke/MethodHandle" ∧ yX5_clear.cls ≠ "java/lang/invoke/VarHandle" ∧ (parseMethodDescriptor yX5_clear.desc).map (fun d => d.parameters.length) = some 0 := by decide +kernel
theorem ki_yX5_clear : Cond.instanceMethod yX5_clear ∈ TBL := tb_11 (List.mem_of_getElem? (i := 27) rfl)
theorem kv_yX5_clear : Cond.selects RX5 yX5_clear yX5_clear ∈ TBL := tb_11 (List.mem_of_getElem? (i := 28) rfl)
theorem kc_yX5_emit : Cond.code yX5_emit cX5_emit 3 (some .boolean) ∈ TBL := tb_13 (List.mem_of_getElem? (i := 33) rfl)
theorem ky_yX5_emit : yX5_emit.cls ≠ "java/lang/invoke/MethodHandle" ∧ yX5_emit.cls ≠ "java/lang/invoke/VarHandle" ∧ (parseMethodDescriptor yX5_emit.desc).map (fun d => d.parameters.length) = some 2 := by decide +kernel
theorem ki_yX5_emit : Cond.instanceMethod yX5_emit ∈ TBL := tb_13 (List.mem_of_getElem? (i := 31) rfl)
theorem kv_yX5_emit : Cond.selects RX5 yX5_emit yX5_emit ∈ TBL := tb_13 (List.mem_of_getElem? (i := 32) rfl)
theorem kc_yX5_init : Cond.code yX5_init cX5_init 1 none ∈ TBL := tb_4 (List.mem_of_getElem? (i := 15) rfl)
theorem ky_yX5_init : yX5_init.cls ≠ "java/lang/invoke/MethodHandle" ∧ yX5_init.cls ≠ "java/lang/invoke/VarHandle" ∧ (parseMethodDescriptor yX5_init.desc).map (fun d => d.parameters.length) = some 0 := by decide +kernel
theorem ki_yX5_init : Cond.instanceMethod yX5_init ∈ TBL := tb_4 (List.mem_of_getElem? (i := 14) rfl)
theorem kc_yX5_leadHere : Cond.code yX5_leadHere cX5_leadHere 2 none ∈ TBL := tb_14 (List.mem_of_getElem? (i := 23) rfl)
theorem ky_yX5_leadHere : yX5_leadHere.cls ≠ "java/lang/invoke/MethodHandle" ∧ yX5_leadHere.cls ≠ "java/lang/invoke/VarHandle" ∧ (parseMethodDescriptor yX5_leadHere.desc).map (fun d => d.parameters.length) = some 1 := by decide +kernel
theorem ki_yX5_leadHere : Cond.instanceMethod yX5_leadHere ∈ TBL := tb_14 (List.mem_of_getElem? (i := 21) rfl)
theorem kv_yX5_leadHere : Cond.selects RX5 yX5_leadHere yX5_leadHere ∈ TBL := tb_14 (List.mem_of_getElem? (i := 22) rfl)
theorem kc_yX5_opAt : Cond.code yX5_opAt cX5_opAt 2 (some .int) ∈ TBL := tb_21 (List.mem_of_getElem? (i := 17) rfl)
theorem ky_yX5_opAt : yX5_opAt.cls ≠ "java/lang/invoke/MethodHandle" ∧ yX5_opAt.cls ≠ "java/lang/invoke/VarHandle" ∧ (parseMethodDescriptor yX5_opAt.desc).map (fun d => d.parameters.length) = some 1 := by decide +kernel
theorem ki_yX5_opAt : Cond.instanceMethod yX5_opAt ∈ TBL := tb_21 (List.mem_of_getElem? (i := 15) rfl)
theorem kv_yX5_opAt : Cond.selects RX5 yX5_opAt yX5_opAt ∈ TBL := tb_21 (List.mem_of_getElem? (i := 16) rfl)
theorem kc_yX6_behindBlanks : Cond.code yX6_behindBlanks cX6_behindBlanks 3 (some .int) ∈ TBL := tb_9 (List.mem_of_getElem? (i := 32) rfl)
theorem ky_yX6_behindBlanks : yX6_behindBlanks.cls ≠ "java/lang/invoke/MethodHandle" ∧ yX6_behindBlanks.cls ≠ "java/lang/invoke/VarHandle" ∧ (parseMethodDescriptor yX6_behindBlanks.desc).map (fun d => d.parameters.length) = some 1 := by decide +kernel
theorem ki_yX6_behindBlanks : Cond.instanceMethod yX6_behindBlanks ∈ TBL := tb_9 (List.mem_of_getElem? (i := 31) rfl)
theorem kv_yX6_behindBlanks : Cond.selects RX6 yX6_behindBlanks yX6_behindBlanks ∈ TBL := tb_0 (List.mem_of_getElem? (i := 0) rfl)
theorem kn_RX6 : Cond.initialized RX6 ∈ TBL := tb_2 (List.mem_of_getElem? (i := 32) rfl)
theorem kc_yX6_behindDigits : Cond.code yX6_behindDigits cX6_behindDigits 3 (some .int) ∈ TBL := tb_11 (List.mem_of_getElem? (i := 21) rfl)
theorem ky_yX6_behindDigits : yX6_behindDigits.cls ≠ "java/lang/invoke/MethodHandle" ∧ yX6_behindDigits.cls ≠ "java/lang/invoke/VarHandle" ∧ (parseMethodDescriptor yX6_behindDigits.desc).map (fun d => d.parameters.length) = some 1 := by decide +kernel
theorem ki_yX6_behindDigits : Cond.instanceMethod yX6_behindDigits ∈ TBL := tb_11 (List.mem_of_getElem? (i := 20) rfl)
theorem kv_yX6_behindDigits : Cond.selects RX6 yX6_behindDigits yX6_behindDigits ∈ TBL := tb_0 (List.mem_of_getElem? (i := 6) rfl)
theorem kc_yX6_behindWord : Cond.code yX6_behindWord cX6_behindWord 3 (some .int) ∈ TBL := tb_10 (List.mem_of_getElem? (i := 2) rfl)
theorem ky_yX6_behindWord : yX6_behindWord.cls ≠ "java/lang/invoke/MethodHandle" ∧ yX6_behindWord.cls ≠ "java/lang/invoke/VarHandle" ∧ (parseMethodDescriptor yX6_behindWord.desc).map (fun d => d.parameters.length) = some 1 := by decide +kernel
theorem ki_yX6_behindWord : Cond.instanceMethod yX6_behindWord ∈ TBL := tb_10 (List.mem_of_getElem? (i := 1) rfl)
theorem kv_yX6_behindWord : Cond.selects RX6 yX6_behindWord yX6_behindWord ∈ TBL := tb_0 (List.mem_of_getElem? (i := 3) rfl)
theorem kc_yX6_endOf : Cond.code yX6_endOf cX6_endOf 2 (some .int) ∈ TBL := tb_12 (List.mem_of_getElem? (i := 22) rfl)
theorem ky_yX6_endOf : yX6_endOf.cls ≠ "java/lang/invoke/MethodHandle" ∧ yX6_endOf.cls ≠ "java/lang/invoke/VarHandle" ∧ (parseMethodDescriptor yX6_endOf.desc).map (fun d => d.parameters.length) = some 1 := by decide +kernel
theorem ki_yX6_endOf : Cond.instanceMethod yX6_endOf ∈ TBL := tb_12 (List.mem_of_getElem? (i := 21) rfl)
theorem kv_yX6_endOf : Cond.selects RX6 yX6_endOf yX6_endOf ∈ TBL := tb_0 (List.mem_of_getElem? (i := 13) rfl)
theorem kc_yX6_init : Cond.code yX6_init cX6_init 1 none ∈ TBL := tb_3 (List.mem_of_getElem? (i := 31) rfl)
theorem ky_yX6_init : yX6_init.cls ≠ "java/lang/invoke/MethodHandle" ∧ yX6_init.cls ≠ "java/lang/invoke/VarHandle" ∧ (parseMethodDescriptor yX6_init.desc).map (fun d => d.parameters.length) = some 0 := by decide +kernel
theorem ki_yX6_init : Cond.instanceMethod yX6_init ∈ TBL := tb_3 (List.mem_of_getElem? (i := 30) rfl)
theorem kc_yX6_isDigit : Cond.code yX6_isDigit cX6_isDigit 2 (some .boolean) ∈ TBL := tb_10 (List.mem_of_getElem? (i := 5) rfl)
theorem ky_yX6_isDigit : yX6_isDigit.cls ≠ "java/lang/invoke/MethodHandle" ∧ yX6_isDigit.cls ≠ "java/lang/invoke/VarHandle" ∧ (parseMethodDescriptor yX6_isDigit.desc).map (fun d => d.parameters.length) = some 1 := by decide +kernel
theorem ki_yX6_isDigit : Cond.instanceMethod yX6_isDigit ∈ TBL := tb_10 (List.mem_of_getElem? (i := 4) rfl)
theorem kv_yX6_isDigit : Cond.selects RX6 yX6_isDigit yX6_isDigit ∈ TBL := tb_0 (List.mem_of_getElem? (i := 4) rfl)
theorem kc_yX6_isLetter : Cond.code yX6_isLetter cX6_isLetter 2 (some .boolean) ∈ TBL := tb_9 (List.mem_of_getElem? (i := 39) rfl)
theorem ky_yX6_isLetter : yX6_isLetter.cls ≠ "java/lang/invoke/MethodHandle" ∧ yX6_isLetter.cls ≠ "java/lang/invoke/VarHandle" ∧ (parseMethodDescriptor yX6_isLetter.desc).map (fun d => d.parameters.length) = some 1 := by decide +kernel
theorem ki_yX6_isLetter : Cond.instanceMethod yX6_isLetter ∈ TBL := tb_9 (List.mem_of_getElem? (i := 38) rfl)
theorem kv_yX6_isLetter : Cond.selects RX6 yX6_isLetter yX6_isLetter ∈ TBL := tb_0 (List.mem_of_getElem? (i := 2) rfl)
theorem kc_yX6_isSameText : Cond.code yX6_isSameText cX6_isSameText 7 (some .boolean) ∈ TBL := tb_12 (List.mem_of_getElem? (i := 18) rfl)
theorem ky_yX6_isSameText : yX6_isSameText.cls ≠ "java/lang/invoke/MethodHandle" ∧ yX6_isSameText.cls ≠ "java/lang/invoke/VarHandle" ∧ (parseMethodDescriptor yX6_isSameText.desc).map (fun d => d.parameters.length) = some 2 := by decide +kernel
theorem ki_yX6_isSameText : Cond.instanceMethod yX6_isSameText ∈ TBL := tb_12 (List.mem_of_getElem? (i := 16) rfl)
theorem kv_yX6_isSameText : Cond.selects RX6 yX6_isSameText yX6_isSameText ∈ TBL := tb_12 (List.mem_of_getElem? (i := 17) rfl)
theorem kc_yX6_kindOf : Cond.code yX6_kindOf cX6_kindOf 3 (some (.object "PeatBog$Token")) ∈ TBL := tb_11 (List.mem_of_getElem? (i := 36) rfl)
theorem ky_yX6_kindOf : yX6_kindOf.cls ≠ "java/lang/invoke/MethodHandle" ∧ yX6_kindOf.cls ≠ "java/lang/invoke/VarHandle" ∧ (parseMethodDescriptor yX6_kindOf.desc).map (fun d => d.parameters.length) = some 1 := by decide +kernel
theorem ki_yX6_kindOf : Cond.instanceMethod yX6_kindOf ∈ TBL := tb_11 (List.mem_of_getElem? (i := 34) rfl)
theorem kv_yX6_kindOf : Cond.selects RX6 yX6_kindOf yX6_kindOf ∈ TBL := tb_11 (List.mem_of_getElem? (i := 35) rfl)
theorem kc_yX6_numberAt : Cond.code yX6_numberAt cX6_numberAt 5 (some .int) ∈ TBL := tb_12 (List.mem_of_getElem? (i := 34) rfl)
theorem ky_yX6_numberAt : yX6_numberAt.cls ≠ "java/lang/invoke/MethodHandle" ∧ yX6_numberAt.cls ≠ "java/lang/invoke/VarHandle" ∧ (parseMethodDescriptor yX6_numberAt.desc).map (fun d => d.parameters.length) = some 1 := by decide +kernel
theorem ki_yX6_numberAt : Cond.instanceMethod yX6_numberAt ∈ TBL := tb_12 (List.mem_of_getElem? (i := 32) rfl)
theorem kv_yX6_numberAt : Cond.selects RX6 yX6_numberAt yX6_numberAt ∈ TBL := tb_12 (List.mem_of_getElem? (i := 33) rfl)
theorem kc_yX6_scan : Cond.code yX6_scan cX6_scan 6 none ∈ TBL := tb_9 (List.mem_of_getElem? (i := 26) rfl)
theorem ky_yX6_scan : yX6_scan.cls ≠ "java/lang/invoke/MethodHandle" ∧ yX6_scan.cls ≠ "java/lang/invoke/VarHandle" ∧ (parseMethodDescriptor yX6_scan.desc).map (fun d => d.parameters.length) = some 2 := by decide +kernel
theorem ki_yX6_scan : Cond.instanceMethod yX6_scan ∈ TBL := tb_9 (List.mem_of_getElem? (i := 24) rfl)
theorem kv_yX6_scan : Cond.selects RX6 yX6_scan yX6_scan ∈ TBL := tb_9 (List.mem_of_getElem? (i := 25) rfl)
theorem kc_yX6_scanSymbol : Cond.code yX6_scanSymbol cX6_scanSymbol 4 (some (.object "PeatBog$Token")) ∈ TBL := tb_11 (List.mem_of_getElem? (i := 25) rfl)
theorem ky_yX6_scanSymbol : yX6_scanSymbol.cls ≠ "java/lang/invoke/MethodHandle" ∧ yX6_scanSymbol.cls ≠ "java/lang/invoke/VarHandle" ∧ (parseMethodDescriptor yX6_scanSymbol.desc).map (fun d => d.parameters.length) = some 1 := by decide +kernel
theorem ki_yX6_scanSymbol : Cond.instanceMethod yX6_scanSymbol ∈ TBL := tb_11 (List.mem_of_getElem? (i := 24) rfl)
theorem kv_yX6_scanSymbol : Cond.selects RX6 yX6_scanSymbol yX6_scanSymbol ∈ TBL := tb_0 (List.mem_of_getElem? (i := 7) rfl)
theorem kc_yX6_scanToken : Cond.code yX6_scanToken cX6_scanToken 4 (some (.object "PeatBog$Token")) ∈ TBL := tb_9 (List.mem_of_getElem? (i := 35) rfl)
theorem ky_yX6_scanToken : yX6_scanToken.cls ≠ "java/lang/invoke/MethodHandle" ∧ yX6_scanToken.cls ≠ "java/lang/invoke/VarHandle" ∧ (parseMethodDescriptor yX6_scanToken.desc).map (fun d => d.parameters.length) = some 1 := by decide +kernel
theorem ki_yX6_scanToken : Cond.instanceMethod yX6_scanToken ∈ TBL := tb_9 (List.mem_of_getElem? (i := 34) rfl)
theorem kv_yX6_scanToken : Cond.selects RX6 yX6_scanToken yX6_scanToken ∈ TBL := tb_0 (List.mem_of_getElem? (i := 1) rfl)
theorem kc_yX6_startOf : Cond.code yX6_startOf cX6_startOf 2 (some .int) ∈ TBL := tb_12 (List.mem_of_getElem? (i := 11) rfl)
theorem ky_yX6_startOf : yX6_startOf.cls ≠ "java/lang/invoke/MethodHandle" ∧ yX6_startOf.cls ≠ "java/lang/invoke/VarHandle" ∧ (parseMethodDescriptor yX6_startOf.desc).map (fun d => d.parameters.length) = some 1 := by decide +kernel
theorem ki_yX6_startOf : Cond.instanceMethod yX6_startOf ∈ TBL := tb_12 (List.mem_of_getElem? (i := 9) rfl)
theorem kv_yX6_startOf : Cond.selects RX6 yX6_startOf yX6_startOf ∈ TBL := tb_12 (List.mem_of_getElem? (i := 10) rfl)
theorem kc_yX7_find : Cond.code yX7_find cX7_find 8 (some (.object "PeatBog$Token")) ∈ TBL := tb_10 (List.mem_of_getElem? (i := 10) rfl)
theorem ky_yX7_find : yX7_find.cls ≠ "java/lang/invoke/MethodHandle" ∧ yX7_find.cls ≠ "java/lang/invoke/VarHandle" ∧ (parseMethodDescriptor yX7_find.desc).map (fun d => d.parameters.length) = some 4 := by decide +kernel
theorem kt_yX7_find : Cond.static yX7_find ∈ TBL := tb_10 (List.mem_of_getElem? (i := 9) rfl)
theorem kn_RX7 : Cond.initialized RX7 ∈ TBL := tb_3 (List.mem_of_getElem? (i := 6) rfl)
theorem kc_yX7_isWritten : Cond.code yX7_isWritten cX7_isWritten 5 (some .boolean) ∈ TBL := tb_10 (List.mem_of_getElem? (i := 15) rfl)
theorem ky_yX7_isWritten : yX7_isWritten.cls ≠ "java/lang/invoke/MethodHandle" ∧ yX7_isWritten.cls ≠ "java/lang/invoke/VarHandle" ∧ (parseMethodDescriptor yX7_isWritten.desc).map (fun d => d.parameters.length) = some 3 := by decide +kernel
theorem ki_yX7_isWritten : Cond.instanceMethod yX7_isWritten ∈ TBL := tb_10 (List.mem_of_getElem? (i := 13) rfl)
theorem kv_yX7_isWritten : Cond.selects RX7 yX7_isWritten yX7_isWritten ∈ TBL := tb_0 (List.mem_of_getElem? (i := 5) rfl)
theorem kc_yX8_beginRepeat : Cond.code yX8_beginRepeat cX8_beginRepeat 4 (some .boolean) ∈ TBL := tb_22 (List.mem_of_getElem? (i := 23) rfl)
theorem ky_yX8_beginRepeat : yX8_beginRepeat.cls ≠ "java/lang/invoke/MethodHandle" ∧ yX8_beginRepeat.cls ≠ "java/lang/invoke/VarHandle" ∧ (parseMethodDescriptor yX8_beginRepeat.desc).map (fun d => d.parameters.length) = some 2 := by decide +kernel
theorem ki_yX8_beginRepeat : Cond.instanceMethod yX8_beginRepeat ∈ TBL := tb_22 (List.mem_of_getElem? (i := 22) rfl)
theorem kv_yX8_beginRepeat : Cond.selects RX8 yX8_beginRepeat yX8_beginRepeat ∈ TBL := tb_1 (List.mem_of_getElem? (i := 8) rfl)
theorem kn_RX8 : Cond.initialized RX8 ∈ TBL := tb_2 (List.mem_of_getElem? (i := 36) rfl)
theorem kc_yX8_branch : Cond.code yX8_branch cX8_branch 3 (some .boolean) ∈ TBL := tb_22 (List.mem_of_getElem? (i := 20) rfl)
theorem ky_yX8_branch : yX8_branch.cls ≠ "java/lang/invoke/MethodHandle" ∧ yX8_branch.cls ≠ "java/lang/invoke/VarHandle" ∧ (parseMethodDescriptor yX8_branch.desc).map (fun d => d.parameters.length) = some 2 := by decide +kernel
theorem ki_yX8_branch : Cond.instanceMethod yX8_branch ∈ TBL := tb_22 (List.mem_of_getElem? (i := 19) rfl)
theorem kv_yX8_branch : Cond.selects RX8 yX8_branch yX8_branch ∈ TBL := tb_1 (List.mem_of_getElem? (i := 7) rfl)
theorem kc_yX8_carryOut : Cond.code yX8_carryOut cX8_carryOut 3 (some .boolean) ∈ TBL := tb_21 (List.mem_of_getElem? (i := 9) rfl)
theorem ky_yX8_carryOut : yX8_carryOut.cls ≠ "java/lang/invoke/MethodHandle" ∧ yX8_carryOut.cls ≠ "java/lang/invoke/VarHandle" ∧ (parseMethodDescriptor yX8_carryOut.desc).map (fun d => d.parameters.length) = some 1 := by decide +kernel
theorem ki_yX8_carryOut : Cond.instanceMethod yX8_carryOut ∈ TBL := tb_21 (List.mem_of_getElem? (i := 8) rfl)
theorem kv_yX8_carryOut : Cond.selects RX8 yX8_carryOut yX8_carryOut ∈ TBL := tb_0 (List.mem_of_getElem? (i := 38) rfl)
theorem kc_yX8_cut : Cond.code yX8_cut cX8_cut 5 (some .boolean) ∈ TBL := tb_21 (List.mem_of_getElem? (i := 29) rfl)
theorem ky_yX8_cut : yX8_cut.cls ≠ "java/lang/invoke/MethodHandle" ∧ yX8_cut.cls ≠ "java/lang/invoke/VarHandle" ∧ (parseMethodDescriptor yX8_cut.desc).map (fun d => d.parameters.length) = some 1 := by decide +kernel
theorem ki_yX8_cut : Cond.instanceMethod yX8_cut ∈ TBL := tb_21 (List.mem_of_getElem? (i := 28) rfl)
theorem kv_yX8_cut : Cond.selects RX8 yX8_cut yX8_cut ∈ TBL := tb_1 (List.mem_of_getElem? (i := 1) rfl)
theorem kc_yX8_endHour : Cond.code yX8_endHour cX8_endHour 3 (some .boolean) ∈ TBL := tb_21 (List.mem_of_getElem? (i := 33) rfl)
theorem ky_yX8_endHour : yX8_endHour.cls ≠ "java/lang/invoke/MethodHandle" ∧ yX8_endHour.cls ≠ "java/lang/invoke/VarHandle" ∧ (parseMethodDescriptor yX8_endHour.desc).map (fun d => d.parameters.length) = some 2 := by decide +kernel
theorem ki_yX8_endHour : Cond.instanceMethod yX8_endHour ∈ TBL := tb_21 (List.mem_of_getElem? (i := 32) rfl)
theorem kv_yX8_endHour : Cond.selects RX8 yX8_endHour yX8_endHour ∈ TBL := tb_1 (List.mem_of_getElem? (i := 2) rfl)
theorem kc_yX8_go : Cond.code yX8_go cX8_go 6 (some .boolean) ∈ TBL := tb_21 (List.mem_of_getElem? (i := 20) rfl)
theorem ky_yX8_go : yX8_go.cls ≠ "java/lang/invoke/MethodHandle" ∧ yX8_go.cls ≠ "java/lang/invoke/VarHandle" ∧ (parseMethodDescriptor yX8_go.desc).map (fun d => d.parameters.length) = some 1 := by decide +kernel
theorem ki_yX8_go : Cond.instanceMethod yX8_go ∈ TBL := tb_21 (List.mem_of_getElem? (i := 19) rfl)
theorem kv_yX8_go : Cond.selects RX8 yX8_go yX8_go ∈ TBL := tb_0 (List.mem_of_getElem? (i := 39) rfl)
theorem kc_yX8_init : Cond.code yX8_init cX8_init 2 none ∈ TBL := tb_8 (List.mem_of_getElem? (i := 3) rfl)
theorem ky_yX8_init : yX8_init.cls ≠ "java/lang/invoke/MethodHandle" ∧ yX8_init.cls ≠ "java/lang/invoke/VarHandle" ∧ (parseMethodDescriptor yX8_init.desc).map (fun d => d.parameters.length) = some 1 := by decide +kernel
theorem ki_yX8_init : Cond.instanceMethod yX8_init ∈ TBL := tb_8 (List.mem_of_getElem? (i := 2) rfl)
theorem kc_yX8_isHourOver : Cond.code yX8_isHourOver cX8_isHourOver 1 (some .boolean) ∈ TBL := tb_21 (List.mem_of_getElem? (i := 23) rfl)
theorem ky_yX8_isHourOver : yX8_isHourOver.cls ≠ "java/lang/invoke/MethodHandle" ∧ yX8_isHourOver.cls ≠ "java/lang/invoke/VarHandle" ∧ (parseMethodDescriptor yX8_isHourOver.desc).map (fun d => d.parameters.length) = some 0 := by decide +kernel
theorem ki_yX8_isHourOver : Cond.instanceMethod yX8_isHourOver ∈ TBL := tb_21 (List.mem_of_getElem? (i := 22) rfl)
theorem kv_yX8_isHourOver : Cond.selects RX8 yX8_isHourOver yX8_isHourOver ∈ TBL := tb_1 (List.mem_of_getElem? (i := 0) rfl)
theorem kc_yX8_join : Cond.code yX8_join cX8_join 3 (some .int) ∈ TBL := tb_21 (List.mem_of_getElem? (i := 2) rfl)
theorem ky_yX8_join : yX8_join.cls ≠ "java/lang/invoke/MethodHandle" ∧ yX8_join.cls ≠ "java/lang/invoke/VarHandle" ∧ (parseMethodDescriptor yX8_join.desc).map (fun d => d.parameters.length) = some 3 := by decide +kernel
theorem kt_yX8_join : Cond.static yX8_join ∈ TBL := tb_21 (List.mem_of_getElem? (i := 1) rfl)
theorem kc_yX8_load : Cond.code yX8_load cX8_load 4 (some .boolean) ∈ TBL := tb_21 (List.mem_of_getElem? (i := 39) rfl)
theorem ky_yX8_load : yX8_load.cls ≠ "java/lang/invoke/MethodHandle" ∧ yX8_load.cls ≠ "java/lang/invoke/VarHandle" ∧ (parseMethodDescriptor yX8_load.desc).map (fun d => d.parameters.length) = some 1 := by decide +kernel
theorem ki_yX8_load : Cond.instanceMethod yX8_load ∈ TBL := tb_21 (List.mem_of_getElem? (i := 38) rfl)
theorem kv_yX8_load : Cond.selects RX8 yX8_load yX8_load ∈ TBL := tb_1 (List.mem_of_getElem? (i := 4) rfl)
theorem kc_yX8_pop : Cond.code yX8_pop cX8_pop 1 (some .int) ∈ TBL := tb_20 (List.mem_of_getElem? (i := 39) rfl)
theorem ky_yX8_pop : yX8_pop.cls ≠ "java/lang/invoke/MethodHandle" ∧ yX8_pop.cls ≠ "java/lang/invoke/VarHandle" ∧ (parseMethodDescriptor yX8_pop.desc).map (fun d => d.parameters.length) = some 0 := by decide +kernel
theorem ki_yX8_pop : Cond.instanceMethod yX8_pop ∈ TBL := tb_20 (List.mem_of_getElem? (i := 38) rfl)
theorem kv_yX8_pop : Cond.selects RX8 yX8_pop yX8_pop ∈ TBL := tb_0 (List.mem_of_getElem? (i := 37) rfl)
theorem kc_yX8_push : Cond.code yX8_push cX8_push 2 none ∈ TBL := tb_20 (List.mem_of_getElem? (i := 25) rfl)
theorem ky_yX8_push : yX8_push.cls ≠ "java/lang/invoke/MethodHandle" ∧ yX8_push.cls ≠ "java/lang/invoke/VarHandle" ∧ (parseMethodDescriptor yX8_push.desc).map (fun d => d.parameters.length) = some 1 := by decide +kernel
theorem ki_yX8_push : Cond.instanceMethod yX8_push ∈ TBL := tb_20 (List.mem_of_getElem? (i := 24) rfl)
theorem kv_yX8_push : Cond.selects RX8 yX8_push yX8_push ∈ TBL := tb_0 (List.mem_of_getElem? (i := 35) rfl)
theorem kc_yX8_read : Cond.code yX8_read cX8_read 3 (some .int) ∈ TBL := tb_20 (List.mem_of_getElem? (i := 28) rfl)
theorem ky_yX8_read : yX8_read.cls ≠ "java/lang/invoke/MethodHandle" ∧ yX8_read.cls ≠ "java/lang/invoke/VarHandle" ∧ (parseMethodDescriptor yX8_read.desc).map (fun d => d.parameters.length) = some 1 := by decide +kernel
theorem ki_yX8_read : Cond.instanceMethod yX8_read ∈ TBL := tb_20 (List.mem_of_getElem? (i := 27) rfl)
theorem kv_yX8_read : Cond.selects RX8 yX8_read yX8_read ∈ TBL := tb_0 (List.mem_of_getElem? (i := 36) rfl)
theorem kc_yX8_reckon : Cond.code yX8_reckon cX8_reckon 5 none ∈ TBL := tb_20 (List.mem_of_getElem? (i := 22) rfl)
theorem ky_yX8_reckon : yX8_reckon.cls ≠ "java/lang/invoke/MethodHandle" ∧ yX8_reckon.cls ≠ "java/lang/invoke/VarHandle" ∧ (parseMethodDescriptor yX8_reckon.desc).map (fun d => d.parameters.length) = some 2 := by decide +kernel
theorem ki_yX8_reckon : Cond.instanceMethod yX8_reckon ∈ TBL := tb_20 (List.mem_of_getElem? (i := 21) rfl)
theorem kv_yX8_reckon : Cond.selects RX8 yX8_reckon yX8_reckon ∈ TBL := tb_0 (List.mem_of_getElem? (i := 34) rfl)
theorem kc_yX8_reckonSums : Cond.code yX8_reckonSums cX8_reckonSums 2 (some .int) ∈ TBL := tb_20 (List.mem_of_getElem? (i := 19) rfl)
theorem ky_yX8_reckonSums : yX8_reckonSums.cls ≠ "java/lang/invoke/MethodHandle" ∧ yX8_reckonSums.cls ≠ "java/lang/invoke/VarHandle" ∧ (parseMethodDescriptor yX8_reckonSums.desc).map (fun d => d.parameters.length) = some 0 := by decide +kernel
theorem ki_yX8_reckonSums : Cond.instanceMethod yX8_reckonSums ∈ TBL := tb_20 (List.mem_of_getElem? (i := 18) rfl)
theorem kv_yX8_reckonSums : Cond.selects RX8 yX8_reckonSums yX8_reckonSums ∈ TBL := tb_0 (List.mem_of_getElem? (i := 33) rfl)
theorem kc_yX8_repeat : Cond.code yX8_repeat cX8_repeat 4 (some .boolean) ∈ TBL := tb_22 (List.mem_of_getElem? (i := 26) rfl)
theorem ky_yX8_repeat : yX8_repeat.cls ≠ "java/lang/invoke/MethodHandle" ∧ yX8_repeat.cls ≠ "java/lang/invoke/VarHandle" ∧ (parseMethodDescriptor yX8_repeat.desc).map (fun d => d.parameters.length) = some 2 := by decide +kernel
theorem ki_yX8_repeat : Cond.instanceMethod yX8_repeat ∈ TBL := tb_22 (List.mem_of_getElem? (i := 25) rfl)
theorem kv_yX8_repeat : Cond.selects RX8 yX8_repeat yX8_repeat ∈ TBL := tb_1 (List.mem_of_getElem? (i := 9) rfl)
theorem kc_yX8_rest : Cond.code yX8_rest cX8_rest 2 (some .boolean) ∈ TBL := tb_22 (List.mem_of_getElem? (i := 17) rfl)
theorem ky_yX8_rest : yX8_rest.cls ≠ "java/lang/invoke/MethodHandle" ∧ yX8_rest.cls ≠ "java/lang/invoke/VarHandle" ∧ (parseMethodDescriptor yX8_rest.desc).map (fun d => d.parameters.length) = some 1 := by decide +kernel
theorem ki_yX8_rest : Cond.instanceMethod yX8_rest ∈ TBL := tb_22 (List.mem_of_getElem? (i := 16) rfl)
theorem kv_yX8_rest : Cond.selects RX8 yX8_rest yX8_rest ∈ TBL := tb_1 (List.mem_of_getElem? (i := 6) rfl)
theorem kc_yX8_turn : Cond.code yX8_turn cX8_turn 3 (some .boolean) ∈ TBL := tb_21 (List.mem_of_getElem? (i := 36) rfl)
theorem ky_yX8_turn : yX8_turn.cls ≠ "java/lang/invoke/MethodHandle" ∧ yX8_turn.cls ≠ "java/lang/invoke/VarHandle" ∧ (parseMethodDescriptor yX8_turn.desc).map (fun d => d.parameters.length) = some 1 := by decide +kernel
theorem ki_yX8_turn : Cond.instanceMethod yX8_turn ∈ TBL := tb_21 (List.mem_of_getElem? (i := 35) rfl)
theorem kv_yX8_turn : Cond.selects RX8 yX8_turn yX8_turn ∈ TBL := tb_1 (List.mem_of_getElem? (i := 3) rfl)
theorem kc_yX8_unload : Cond.code yX8_unload cX8_unload 4 (some .boolean) ∈ TBL := tb_22 (List.mem_of_getElem? (i := 10) rfl)
theorem ky_yX8_unload : yX8_unload.cls ≠ "java/lang/invoke/MethodHandle" ∧ yX8_unload.cls ≠ "java/lang/invoke/VarHandle" ∧ (parseMethodDescriptor yX8_unload.desc).map (fun d => d.parameters.length) = some 1 := by decide +kernel
theorem ki_yX8_unload : Cond.instanceMethod yX8_unload ∈ TBL := tb_22 (List.mem_of_getElem? (i := 9) rfl)
theorem kv_yX8_unload : Cond.selects RX8 yX8_unload yX8_unload ∈ TBL := tb_1 (List.mem_of_getElem? (i := 5) rfl)
theorem kc_yX8_workHour : Cond.code yX8_workHour cX8_workHour 4 none ∈ TBL := tb_20 (List.mem_of_getElem? (i := 15) rfl)
theorem ky_yX8_workHour : yX8_workHour.cls ≠ "java/lang/invoke/MethodHandle" ∧ yX8_workHour.cls ≠ "java/lang/invoke/VarHandle" ∧ (parseMethodDescriptor yX8_workHour.desc).map (fun d => d.parameters.length) = some 1 := by decide +kernel
theorem ki_yX8_workHour : Cond.instanceMethod yX8_workHour ∈ TBL := tb_20 (List.mem_of_getElem? (i := 13) rfl)
theorem kv_yX8_workHour : Cond.selects RX8 yX8_workHour yX8_workHour ∈ TBL := tb_20 (List.mem_of_getElem? (i := 14) rfl)
theorem kc_yX9_advise : Cond.code yX9_advise cX9_advise 5 (some .int) ∈ TBL := tb_24 (List.mem_of_getElem? (i := 12) rfl)
theorem ky_yX9_advise : yX9_advise.cls ≠ "java/lang/invoke/MethodHandle" ∧ yX9_advise.cls ≠ "java/lang/invoke/VarHandle" ∧ (parseMethodDescriptor yX9_advise.desc).map (fun d => d.parameters.length) = some 1 := by decide +kernel
theorem ki_yX9_advise : Cond.instanceMethod yX9_advise ∈ TBL := tb_24 (List.mem_of_getElem? (i := 10) rfl)
theorem kv_yX9_advise : Cond.selects RX9 yX9_advise yX9_advise ∈ TBL := tb_24 (List.mem_of_getElem? (i := 11) rfl)
theorem kn_RX9 : Cond.initialized RX9 ∈ TBL := tb_2 (List.mem_of_getElem? (i := 30) rfl)
theorem kc_yX9_append : Cond.code yX9_append cX9_append 3 none ∈ TBL := tb_17 (List.mem_of_getElem? (i := 35) rfl)
theorem ky_yX9_append : yX9_append.cls ≠ "java/lang/invoke/MethodHandle" ∧ yX9_append.cls ≠ "java/lang/invoke/VarHandle" ∧ (parseMethodDescriptor yX9_append.desc).map (fun d => d.parameters.length) = some 1 := by decide +kernel
theorem ki_yX9_append : Cond.instanceMethod yX9_append ∈ TBL := tb_17 (List.mem_of_getElem? (i := 34) rfl)
theorem kv_yX9_append : Cond.selects RX9 yX9_append yX9_append ∈ TBL := tb_0 (List.mem_of_getElem? (i := 32) rfl)
theorem kc_yX9_byteAt : Cond.code yX9_byteAt cX9_byteAt 2 (some .int) ∈ TBL := tb_24 (List.mem_of_getElem? (i := 19) rfl)
theorem ky_yX9_byteAt : yX9_byteAt.cls ≠ "java/lang/invoke/MethodHandle" ∧ yX9_byteAt.cls ≠ "java/lang/invoke/VarHandle" ∧ (parseMethodDescriptor yX9_byteAt.desc).map (fun d => d.parameters.length) = some 1 := by decide +kernel
theorem ki_yX9_byteAt : Cond.instanceMethod yX9_byteAt ∈ TBL := tb_24 (List.mem_of_getElem? (i := 17) rfl)
theorem kv_yX9_byteAt : Cond.selects RX9 yX9_byteAt yX9_byteAt ∈ TBL := tb_24 (List.mem_of_getElem? (i := 18) rfl)
theorem kc_yX9_cell : Cond.code yX9_cell cX9_cell 4 (some .int) ∈ TBL := tb_19 (List.mem_of_getElem? (i := 34) rfl)
theorem ky_yX9_cell : yX9_cell.cls ≠ "java/lang/invoke/MethodHandle" ∧ yX9_cell.cls ≠ "java/lang/invoke/VarHandle" ∧ (parseMethodDescriptor yX9_cell.desc).map (fun d => d.parameters.length) = some 3 := by decide +kernel
theorem ki_yX9_cell : Cond.instanceMethod yX9_cell ∈ TBL := tb_19 (List.mem_of_getElem? (i := 32) rfl)
theorem kv_yX9_cell : Cond.selects RX9 yX9_cell yX9_cell ∈ TBL := tb_19 (List.mem_of_getElem? (i := 33) rfl)
theorem kc_yX9_cellAt : Cond.code yX9_cellAt cX9_cellAt 2 (some .int) ∈ TBL := tb_15 (List.mem_of_getElem? (i := 9) rfl)
theorem ky_yX9_cellAt : yX9_cellAt.cls ≠ "java/lang/invoke/MethodHandle" ∧ yX9_cellAt.cls ≠ "java/lang/invoke/VarHandle" ∧ (parseMethodDescriptor yX9_cellAt.desc).map (fun d => d.parameters.length) = some 2 := by decide +kernel
theorem kt_yX9_cellAt : Cond.static yX9_cellAt ∈ TBL := tb_15 (List.mem_of_getElem? (i := 8) rfl)
theorem kc_yX9_count : Cond.code yX9_count cX9_count 2 (some .int) ∈ TBL := tb_18 (List.mem_of_getElem? (i := 25) rfl)
theorem ky_yX9_count : yX9_count.cls ≠ "java/lang/invoke/MethodHandle" ∧ yX9_count.cls ≠ "java/lang/invoke/VarHandle" ∧ (parseMethodDescriptor yX9_count.desc).map (fun d => d.parameters.length) = some 1 := by decide +kernel
theorem ki_yX9_count : Cond.instanceMethod yX9_count ∈ TBL := tb_18 (List.mem_of_getElem? (i := 23) rfl)
theorem kv_yX9_count : Cond.selects RX9 yX9_count yX9_count ∈ TBL := tb_18 (List.mem_of_getElem? (i := 24) rfl)
theorem kc_yX9_counted : Cond.code yX9_counted cX9_counted 2 (some .int) ∈ TBL := tb_15 (List.mem_of_getElem? (i := 29) rfl)
theorem ky_yX9_counted : yX9_counted.cls ≠ "java/lang/invoke/MethodHandle" ∧ yX9_counted.cls ≠ "java/lang/invoke/VarHandle" ∧ (parseMethodDescriptor yX9_counted.desc).map (fun d => d.parameters.length) = some 1 := by decide +kernel
theorem ki_yX9_counted : Cond.instanceMethod yX9_counted ∈ TBL := tb_15 (List.mem_of_getElem? (i := 28) rfl)
theorem kv_yX9_counted : Cond.selects RX9 yX9_counted yX9_counted ∈ TBL := tb_0 (List.mem_of_getElem? (i := 30) rfl)
theorem kc_yX9_digest : Cond.code yX9_digest cX9_digest 5 (some .long) ∈ TBL := tb_15 (List.mem_of_getElem? (i := 24) rfl)
theorem ky_yX9_digest : yX9_digest.cls ≠ "java/lang/invoke/MethodHandle" ∧ yX9_digest.cls ≠ "java/lang/invoke/VarHandle" ∧ (parseMethodDescriptor yX9_digest.desc).map (fun d => d.parameters.length) = some 0 := by decide +kernel
theorem ki_yX9_digest : Cond.instanceMethod yX9_digest ∈ TBL := tb_15 (List.mem_of_getElem? (i := 22) rfl)
theorem kv_yX9_digest : Cond.selects RX9 yX9_digest yX9_digest ∈ TBL := tb_15 (List.mem_of_getElem? (i := 23) rfl)
theorem kc_yX9_done : Cond.code yX9_done cX9_done 3 (some .int) ∈ TBL := tb_24 (List.mem_of_getElem? (i := 5) rfl)
theorem ky_yX9_done : yX9_done.cls ≠ "java/lang/invoke/MethodHandle" ∧ yX9_done.cls ≠ "java/lang/invoke/VarHandle" ∧ (parseMethodDescriptor yX9_done.desc).map (fun d => d.parameters.length) = some 1 := by decide +kernel
theorem ki_yX9_done : Cond.instanceMethod yX9_done ∈ TBL := tb_24 (List.mem_of_getElem? (i := 3) rfl)
theorem kv_yX9_done : Cond.selects RX9 yX9_done yX9_done ∈ TBL := tb_24 (List.mem_of_getElem? (i := 4) rfl)
theorem kc_yX9_draw : Cond.code yX9_draw cX9_draw 4 (some .int) ∈ TBL := tb_15 (List.mem_of_getElem? (i := 6) rfl)
theorem ky_yX9_draw : yX9_draw.cls ≠ "java/lang/invoke/MethodHandle" ∧ yX9_draw.cls ≠ "java/lang/invoke/VarHandle" ∧ (parseMethodDescriptor yX9_draw.desc).map (fun d => d.parameters.length) = some 0 := by decide +kernel
theorem ki_yX9_draw : Cond.instanceMethod yX9_draw ∈ TBL := tb_15 (List.mem_of_getElem? (i := 4) rfl)
theorem kv_yX9_draw : Cond.selects RX9 yX9_draw yX9_draw ∈ TBL := tb_15 (List.mem_of_getElem? (i := 5) rfl)
theorem kc_yX9_dries : Cond.code yX9_dries cX9_dries 8 (some .int) ∈ TBL := tb_23 (List.mem_of_getElem? (i := 37) rfl)
theorem ky_yX9_dries : yX9_dries.cls ≠ "java/lang/invoke/MethodHandle" ∧ yX9_dries.cls ≠ "java/lang/invoke/VarHandle" ∧ (parseMethodDescriptor yX9_dries.desc).map (fun d => d.parameters.length) = some 2 := by decide +kernel
theorem ki_yX9_dries : Cond.instanceMethod yX9_dries ∈ TBL := tb_23 (List.mem_of_getElem? (i := 35) rfl)
theorem kv_yX9_dries : Cond.selects RX9 yX9_dries yX9_dries ∈ TBL := tb_23 (List.mem_of_getElem? (i := 36) rfl)
theorem kc_yX9_errorAt : Cond.code yX9_errorAt cX9_errorAt 1 (some .int) ∈ TBL := tb_15 (List.mem_of_getElem? (i := 2) rfl)
theorem ky_yX9_errorAt : yX9_errorAt.cls ≠ "java/lang/invoke/MethodHandle" ∧ yX9_errorAt.cls ≠ "java/lang/invoke/VarHandle" ∧ (parseMethodDescriptor yX9_errorAt.desc).map (fun d => d.parameters.length) = some 0 := by decide +kernel
theorem ki_yX9_errorAt : Cond.instanceMethod yX9_errorAt ∈ TBL := tb_15 (List.mem_of_getElem? (i := 0) rfl)
theorem kv_yX9_errorAt : Cond.selects RX9 yX9_errorAt yX9_errorAt ∈ TBL := tb_15 (List.mem_of_getElem? (i := 1) rfl)
theorem kc_yX9_feed : Cond.code yX9_feed cX9_feed 6 (some .int) ∈ TBL := tb_16 (List.mem_of_getElem? (i := 16) rfl)
theorem ky_yX9_feed : yX9_feed.cls ≠ "java/lang/invoke/MethodHandle" ∧ yX9_feed.cls ≠ "java/lang/invoke/VarHandle" ∧ (parseMethodDescriptor yX9_feed.desc).map (fun d => d.parameters.length) = some 5 := by decide +kernel
theorem ki_yX9_feed : Cond.instanceMethod yX9_feed ∈ TBL := tb_16 (List.mem_of_getElem? (i := 14) rfl)
theorem kv_yX9_feed : Cond.selects RX9 yX9_feed yX9_feed ∈ TBL := tb_16 (List.mem_of_getElem? (i := 15) rfl)
theorem kc_yX9_foresee : Cond.code yX9_foresee cX9_foresee 3 (some .int) ∈ TBL := tb_23 (List.mem_of_getElem? (i := 21) rfl)
theorem ky_yX9_foresee : yX9_foresee.cls ≠ "java/lang/invoke/MethodHandle" ∧ yX9_foresee.cls ≠ "java/lang/invoke/VarHandle" ∧ (parseMethodDescriptor yX9_foresee.desc).map (fun d => d.parameters.length) = some 2 := by decide +kernel
theorem ki_yX9_foresee : Cond.instanceMethod yX9_foresee ∈ TBL := tb_23 (List.mem_of_getElem? (i := 19) rfl)
theorem kv_yX9_foresee : Cond.selects RX9 yX9_foresee yX9_foresee ∈ TBL := tb_23 (List.mem_of_getElem? (i := 20) rfl)
theorem kc_yX9_gang : Cond.code yX9_gang cX9_gang 3 (some .int) ∈ TBL := tb_20 (List.mem_of_getElem? (i := 1) rfl)
theorem ky_yX9_gang : yX9_gang.cls ≠ "java/lang/invoke/MethodHandle" ∧ yX9_gang.cls ≠ "java/lang/invoke/VarHandle" ∧ (parseMethodDescriptor yX9_gang.desc).map (fun d => d.parameters.length) = some 2 := by decide +kernel
theorem ki_yX9_gang : Cond.instanceMethod yX9_gang ∈ TBL := tb_19 (List.mem_of_getElem? (i := 39) rfl)
theorem kv_yX9_gang : Cond.selects RX9 yX9_gang yX9_gang ∈ TBL := tb_20 (List.mem_of_getElem? (i := 0) rfl)
theorem kc_yX9_held : Cond.code yX9_held cX9_held 2 (some .int) ∈ TBL := tb_23 (List.mem_of_getElem? (i := 0) rfl)
theorem ky_yX9_held : yX9_held.cls ≠ "java/lang/invoke/MethodHandle" ∧ yX9_held.cls ≠ "java/lang/invoke/VarHandle" ∧ (parseMethodDescriptor yX9_held.desc).map (fun d => d.parameters.length) = some 2 := by decide +kernel
theorem kt_yX9_held : Cond.static yX9_held ∈ TBL := tb_22 (List.mem_of_getElem? (i := 39) rfl)
theorem kc_yX9_init : Cond.code yX9_init cX9_init 1 none ∈ TBL := tb_3 (List.mem_of_getElem? (i := 19) rfl)
theorem ky_yX9_init : yX9_init.cls ≠ "java/lang/invoke/MethodHandle" ∧ yX9_init.cls ≠ "java/lang/invoke/VarHandle" ∧ (parseMethodDescriptor yX9_init.desc).map (fun d => d.parameters.length) = some 0 := by decide +kernel
theorem ki_yX9_init : Cond.instanceMethod yX9_init ∈ TBL := tb_3 (List.mem_of_getElem? (i := 18) rfl)
theorem kc_yX9_isCell : Cond.code yX9_isCell cX9_isCell 2 (some .boolean) ∈ TBL := tb_13 (List.mem_of_getElem? (i := 0) rfl)
theorem ky_yX9_isCell : yX9_isCell.cls ≠ "java/lang/invoke/MethodHandle" ∧ yX9_isCell.cls ≠ "java/lang/invoke/VarHandle" ∧ (parseMethodDescriptor yX9_isCell.desc).map (fun d => d.parameters.length) = some 2 := by decide +kernel
theorem kt_yX9_isCell : Cond.static yX9_isCell ∈ TBL := tb_12 (List.mem_of_getElem? (i := 39) rfl)
theorem kc_yX9_isWithin : Cond.code yX9_isWithin cX9_isWithin 3 (some .boolean) ∈ TBL := tb_13 (List.mem_of_getElem? (i := 3) rfl)
theorem ky_yX9_isWithin : yX9_isWithin.cls ≠ "java/lang/invoke/MethodHandle" ∧ yX9_isWithin.cls ≠ "java/lang/invoke/VarHandle" ∧ (parseMethodDescriptor yX9_isWithin.desc).map (fun d => d.parameters.length) = some 3 := by decide +kernel
theorem kt_yX9_isWithin : Cond.static yX9_isWithin ∈ TBL := tb_13 (List.mem_of_getElem? (i := 2) rfl)
theorem kc_yX9_letPass : Cond.code yX9_letPass cX9_letPass 4 none ∈ TBL := tb_20 (List.mem_of_getElem? (i := 11) rfl)
theorem ky_yX9_letPass : yX9_letPass.cls ≠ "java/lang/invoke/MethodHandle" ∧ yX9_letPass.cls ≠ "java/lang/invoke/VarHandle" ∧ (parseMethodDescriptor yX9_letPass.desc).map (fun d => d.parameters.length) = some 2 := by decide +kernel
theorem kt_yX9_letPass : Cond.static yX9_letPass ∈ TBL := tb_20 (List.mem_of_getElem? (i := 10) rfl)
theorem kc_yX9_mixed : Cond.code yX9_mixed cX9_mixed 5 (some .int) ∈ TBL := tb_19 (List.mem_of_getElem? (i := 27) rfl)
theorem ky_yX9_mixed : yX9_mixed.cls ≠ "java/lang/invoke/MethodHandle" ∧ yX9_mixed.cls ≠ "java/lang/invoke/VarHandle" ∧ (parseMethodDescriptor yX9_mixed.desc).map (fun d => d.parameters.length) = some 4 := by decide +kernel
theorem kt_yX9_mixed : Cond.static yX9_mixed ∈ TBL := tb_19 (List.mem_of_getElem? (i := 26) rfl)
theorem kc_yX9_pass : Cond.code yX9_pass cX9_pass 3 (some .int) ∈ TBL := tb_20 (List.mem_of_getElem? (i := 8) rfl)
theorem ky_yX9_pass : yX9_pass.cls ≠ "java/lang/invoke/MethodHandle" ∧ yX9_pass.cls ≠ "java/lang/invoke/VarHandle" ∧ (parseMethodDescriptor yX9_pass.desc).map (fun d => d.parameters.length) = some 1 := by decide +kernel
theorem ki_yX9_pass : Cond.instanceMethod yX9_pass ∈ TBL := tb_20 (List.mem_of_getElem? (i := 6) rfl)
theorem kv_yX9_pass : Cond.selects RX9 yX9_pass yX9_pass ∈ TBL := tb_20 (List.mem_of_getElem? (i := 7) rfl)
theorem kc_yX9_set : Cond.code yX9_set cX9_set 7 (some .int) ∈ TBL := tb_19 (List.mem_of_getElem? (i := 13) rfl)
theorem ky_yX9_set : yX9_set.cls ≠ "java/lang/invoke/MethodHandle" ∧ yX9_set.cls ≠ "java/lang/invoke/VarHandle" ∧ (parseMethodDescriptor yX9_set.desc).map (fun d => d.parameters.length) = some 4 := by decide +kernel
theorem ki_yX9_set : Cond.instanceMethod yX9_set ∈ TBL := tb_19 (List.mem_of_getElem? (i := 11) rfl)
theorem kv_yX9_set : Cond.selects RX9 yX9_set yX9_set ∈ TBL := tb_19 (List.mem_of_getElem? (i := 12) rfl)
theorem kc_yX9_setWeather : Cond.code yX9_setWeather cX9_setWeather 5 (some .int) ∈ TBL := tb_19 (List.mem_of_getElem? (i := 6) rfl)
theorem ky_yX9_setWeather : yX9_setWeather.cls ≠ "java/lang/invoke/MethodHandle" ∧ yX9_setWeather.cls ≠ "java/lang/invoke/VarHandle" ∧ (parseMethodDescriptor yX9_setWeather.desc).map (fun d => d.parameters.length) = some 3 := by decide +kernel
theorem ki_yX9_setWeather : Cond.instanceMethod yX9_setWeather ∈ TBL := tb_19 (List.mem_of_getElem? (i := 4) rfl)
theorem kv_yX9_setWeather : Cond.selects RX9 yX9_setWeather yX9_setWeather ∈ TBL := tb_19 (List.mem_of_getElem? (i := 5) rfl)
theorem kc_yX9_share : Cond.code yX9_share cX9_share 1 (some .double) ∈ TBL := tb_15 (List.mem_of_getElem? (i := 20) rfl)
theorem ky_yX9_share : yX9_share.cls ≠ "java/lang/invoke/MethodHandle" ∧ yX9_share.cls ≠ "java/lang/invoke/VarHandle" ∧ (parseMethodDescriptor yX9_share.desc).map (fun d => d.parameters.length) = some 0 := by decide +kernel
theorem ki_yX9_share : Cond.instanceMethod yX9_share ∈ TBL := tb_15 (List.mem_of_getElem? (i := 18) rfl)
theorem kv_yX9_share : Cond.selects RX9 yX9_share yX9_share ∈ TBL := tb_15 (List.mem_of_getElem? (i := 19) rfl)
theorem kc_yX9_signOf : Cond.code yX9_signOf cX9_signOf 3 (some .char) ∈ TBL := tb_15 (List.mem_of_getElem? (i := 12) rfl)
theorem ky_yX9_signOf : yX9_signOf.cls ≠ "java/lang/invoke/MethodHandle" ∧ yX9_signOf.cls ≠ "java/lang/invoke/VarHandle" ∧ (parseMethodDescriptor yX9_signOf.desc).map (fun d => d.parameters.length) = some 1 := by decide +kernel
theorem ki_yX9_signOf : Cond.instanceMethod yX9_signOf ∈ TBL := tb_15 (List.mem_of_getElem? (i := 11) rfl)
theorem kv_yX9_signOf : Cond.selects RX9 yX9_signOf yX9_signOf ∈ TBL := tb_0 (List.mem_of_getElem? (i := 29) rfl)
theorem kc_yX9_stack : Cond.code yX9_stack cX9_stack 6 (some .int) ∈ TBL := tb_19 (List.mem_of_getElem? (i := 21) rfl)
theorem ky_yX9_stack : yX9_stack.cls ≠ "java/lang/invoke/MethodHandle" ∧ yX9_stack.cls ≠ "java/lang/invoke/VarHandle" ∧ (parseMethodDescriptor yX9_stack.desc).map (fun d => d.parameters.length) = some 4 := by decide +kernel
theorem ki_yX9_stack : Cond.instanceMethod yX9_stack ∈ TBL := tb_19 (List.mem_of_getElem? (i := 19) rfl)
theorem kv_yX9_stack : Cond.selects RX9 yX9_stack yX9_stack ∈ TBL := tb_19 (List.mem_of_getElem? (i := 20) rfl)
theorem kc_yX9_sumOf : Cond.code yX9_sumOf cX9_sumOf 6 (some .int) ∈ TBL := tb_15 (List.mem_of_getElem? (i := 32) rfl)
theorem ky_yX9_sumOf : yX9_sumOf.cls ≠ "java/lang/invoke/MethodHandle" ∧ yX9_sumOf.cls ≠ "java/lang/invoke/VarHandle" ∧ (parseMethodDescriptor yX9_sumOf.desc).map (fun d => d.parameters.length) = some 1 := by decide +kernel
theorem kt_yX9_sumOf : Cond.static yX9_sumOf ∈ TBL := tb_15 (List.mem_of_getElem? (i := 31) rfl)
theorem kc_yX9_teach : Cond.code yX9_teach cX9_teach 2 (some .int) ∈ TBL := tb_9 (List.mem_of_getElem? (i := 18) rfl)
theorem ky_yX9_teach : yX9_teach.cls ≠ "java/lang/invoke/MethodHandle" ∧ yX9_teach.cls ≠ "java/lang/invoke/VarHandle" ∧ (parseMethodDescriptor yX9_teach.desc).map (fun d => d.parameters.length) = some 0 := by decide +kernel
theorem ki_yX9_teach : Cond.instanceMethod yX9_teach ∈ TBL := tb_9 (List.mem_of_getElem? (i := 16) rfl)
theorem kv_yX9_teach : Cond.selects RX9 yX9_teach yX9_teach ∈ TBL := tb_9 (List.mem_of_getElem? (i := 17) rfl)
theorem kc_yX9_trim : Cond.code yX9_trim cX9_trim 2 (some .int) ∈ TBL := tb_18 (List.mem_of_getElem? (i := 3) rfl)
theorem ky_yX9_trim : yX9_trim.cls ≠ "java/lang/invoke/MethodHandle" ∧ yX9_trim.cls ≠ "java/lang/invoke/VarHandle" ∧ (parseMethodDescriptor yX9_trim.desc).map (fun d => d.parameters.length) = some 1 := by decide +kernel
theorem ki_yX9_trim : Cond.instanceMethod yX9_trim ∈ TBL := tb_18 (List.mem_of_getElem? (i := 1) rfl)
theorem kv_yX9_trim : Cond.selects RX9 yX9_trim yX9_trim ∈ TBL := tb_18 (List.mem_of_getElem? (i := 2) rfl)
theorem kc_yX9_wetnessBehindNight : Cond.code yX9_wetnessBehindNight cX9_wetnessBehindNight 5 (some .int) ∈ TBL := tb_22 (List.mem_of_getElem? (i := 37) rfl)
theorem ky_yX9_wetnessBehindNight : yX9_wetnessBehindNight.cls ≠ "java/lang/invoke/MethodHandle" ∧ yX9_wetnessBehindNight.cls ≠ "java/lang/invoke/VarHandle" ∧ (parseMethodDescriptor yX9_wetnessBehindNight.desc).map (fun d => d.parameters.length) = some 4 := by decide +kernel
theorem kt_yX9_wetnessBehindNight : Cond.static yX9_wetnessBehindNight ∈ TBL := tb_22 (List.mem_of_getElem? (i := 36) rfl)
theorem kn_Math : Cond.initialized "java/lang/Math" ∈ TBL := tb_3 (List.mem_of_getElem? (i := 4) rfl)
theorem kn_System : Cond.initialized "java/lang/System" ∈ TBL := tb_3 (List.mem_of_getElem? (i := 12) rfl)
theorem kt_Mmin : Cond.static Lib.Math.min.name ∈ TBL := tb_9 (List.mem_of_getElem? (i := 28) rfl)
theorem kc_Mmin : Cond.code Lib.Math.min.name Lib.Math.min.code 2 (some .int) ∈ TBL := tb_9 (List.mem_of_getElem? (i := 29) rfl)
theorem kt_Mmax : Cond.static Lib.Math.max.name ∈ TBL := tb_21 (List.mem_of_getElem? (i := 5) rfl)
theorem kc_Mmax : Cond.code Lib.Math.max.name Lib.Math.max.code 2 (some .int) ∈ TBL := tb_21 (List.mem_of_getElem? (i := 6) rfl)
theorem kt_copy : Cond.static arraycopyName ∈ TBL := tb_23 (List.mem_of_getElem? (i := 10) rfl)
theorem ka_copy : Cond.native arraycopyName ∈ TBL := tb_23 (List.mem_of_getElem? (i := 11) rfl)
theorem km_X9_42 : Cond.methodLink RX9 42 yX1_init ∈ TBL := tb_5 (List.mem_of_getElem? (i := 24) rfl)
theorem km_X9_51 : Cond.methodLink RX9 51 yX8_init ∈ TBL := tb_8 (List.mem_of_getElem? (i := 1) rfl)
theorem km_X9_74 : Cond.methodLink RX9 74 yX9_append ∈ TBL := tb_17 (List.mem_of_getElem? (i := 33) rfl)
theorem km_X9_83 : Cond.methodLink RX9 83 yX4_parse ∈ TBL := tb_9 (List.mem_of_getElem? (i := 19) rfl)
theorem km_X9_91 : Cond.methodLink RX9 91 yX1_employ ∈ TBL := tb_14 (List.mem_of_getElem? (i := 31) rfl)
theorem km_X9_99 : Cond.methodLink RX9 99 yX9_counted ∈ TBL := tb_15 (List.mem_of_getElem? (i := 27) rfl)
theorem km_X9_122 : Cond.methodLink RX9 122 yX9_sumOf ∈ TBL := tb_15 (List.mem_of_getElem? (i := 30) rfl)
theorem km_X9_126 : Cond.methodLink RX9 126 yX1_bricksInCarts ∈ TBL := tb_15 (List.mem_of_getElem? (i := 33) rfl)
theorem km_X9_139 : Cond.methodLink RX9 139 yX1_floodedCells ∈ TBL := tb_15 (List.mem_of_getElem? (i := 37) rfl)
theorem km_X9_144 : Cond.methodLink RX9 144 yX9_isWithin ∈ TBL := tb_13 (List.mem_of_getElem? (i := 1) rfl)
theorem km_X9_156 : Cond.methodLink RX9 156 yX9_isCell ∈ TBL := tb_19 (List.mem_of_getElem? (i := 14) rfl)
theorem km_X9_162 : Cond.methodLink RX9 162 yX9_cellAt ∈ TBL := tb_15 (List.mem_of_getElem? (i := 7) rfl)
theorem km_X9_175 : Cond.methodLink RX9 175 yX1_addToStack ∈ TBL := tb_19 (List.mem_of_getElem? (i := 22) rfl)
theorem km_X9_181 : Cond.methodLink RX9 181 yX1_tellCell ∈ TBL := tb_16 (List.mem_of_getElem? (i := 1) rfl)
theorem km_X9_192 : Cond.methodLink RX9 192 yX2_tell ∈ TBL := tb_16 (List.mem_of_getElem? (i := 5) rfl)
theorem km_X9_199 : Cond.methodLink RX9 199 yX9_letPass ∈ TBL := tb_20 (List.mem_of_getElem? (i := 9) rfl)
theorem km_X9_204 : Cond.methodLink RX9 204 yX8_workHour ∈ TBL := tb_20 (List.mem_of_getElem? (i := 12) rfl)
theorem km_X9_208 : Cond.methodLink RX9 208 yX1_endHour ∈ TBL := tb_22 (List.mem_of_getElem? (i := 27) rfl)
theorem km_X9_215 : Cond.methodLink RX9 215 yX1_copy ∈ TBL := tb_23 (List.mem_of_getElem? (i := 22) rfl)
theorem km_X9_224 : Cond.methodLink RX9 224 yX9_wetnessBehindNight ∈ TBL := tb_23 (List.mem_of_getElem? (i := 38) rfl)
theorem km_X9_228 : Cond.methodLink RX9 228 yX9_held ∈ TBL := tb_22 (List.mem_of_getElem? (i := 38) rfl)
theorem km_X9_231 : Cond.methodLink RX9 231 yJ9_min_7cf53 ∈ TBL := tb_23 (List.mem_of_getElem? (i := 1) rfl)
theorem km_X9_236 : Cond.methodLink RX9 236 yJ9_max_7cf53 ∈ TBL := tb_23 (List.mem_of_getElem? (i := 2) rfl)
theorem km_X9_245 : Cond.methodLink RX9 245 yX9_signOf ∈ TBL := tb_15 (List.mem_of_getElem? (i := 10) rfl)
theorem km_X9_249 : Cond.methodLink RX9 249 yX1_hasGangAt ∈ TBL := tb_15 (List.mem_of_getElem? (i := 13) rfl)
theorem km_X1_69 : Cond.methodLink RX1 69 arraycopyName ∈ TBL := tb_23 (List.mem_of_getElem? (i := 9) rfl)
theorem km_X1_75 : Cond.methodLink RX1 75 yX2_copy ∈ TBL := tb_23 (List.mem_of_getElem? (i := 26) rfl)
theorem km_X1_91 : Cond.methodLink RX1 91 yX2_begin ∈ TBL := tb_14 (List.mem_of_getElem? (i := 35) rfl)
theorem km_X1_112 : Cond.methodLink RX1 112 yX1_dryStacks ∈ TBL := tb_22 (List.mem_of_getElem? (i := 31) rfl)
theorem km_X1_115 : Cond.methodLink RX1 115 yX1_moveWater ∈ TBL := tb_23 (List.mem_of_getElem? (i := 3) rfl)
theorem km_X1_118 : Cond.methodLink RX1 118 yX1_rise ∈ TBL := tb_23 (List.mem_of_getElem? (i := 6) rfl)
theorem km_X1_121 : Cond.methodLink RX1 121 yX1_rainOfDay ∈ TBL := tb_22 (List.mem_of_getElem? (i := 34) rfl)
theorem km_X1_125 : Cond.methodLink RX1 125 yX1_sunOfDay ∈ TBL := tb_22 (List.mem_of_getElem? (i := 35) rfl)
theorem km_X1_135 : Cond.methodLink RX1 135 yX1_neighboursWithPeat ∈ TBL := tb_23 (List.mem_of_getElem? (i := 12) rfl)
theorem km_X2_47 : Cond.methodLink RX2 47 arraycopyName ∈ TBL := tb_23 (List.mem_of_getElem? (i := 30) rfl)
theorem km_X4_36 : Cond.methodLink RX4 36 yX6_scan ∈ TBL := tb_9 (List.mem_of_getElem? (i := 23) rfl)
theorem km_X4_40 : Cond.methodLink RX4 40 yX5_clear ∈ TBL := tb_11 (List.mem_of_getElem? (i := 26) rfl)
theorem km_X4_49 : Cond.methodLink RX4 49 yX4_kind ∈ TBL := tb_11 (List.mem_of_getElem? (i := 30) rfl)
theorem km_X4_59 : Cond.methodLink RX4 59 yX4_oneGang ∈ TBL := tb_11 (List.mem_of_getElem? (i := 38) rfl)
theorem km_X4_66 : Cond.methodLink RX4 66 yX4_refuse ∈ TBL := tb_12 (List.mem_of_getElem? (i := 5) rfl)
theorem km_X4_69 : Cond.methodLink RX4 69 yX6_kindOf ∈ TBL := tb_11 (List.mem_of_getElem? (i := 33) rfl)
theorem km_X4_73 : Cond.methodLink RX4 73 yX6_startOf ∈ TBL := tb_12 (List.mem_of_getElem? (i := 8) rfl)
theorem km_X4_80 : Cond.methodLink RX4 80 yX4_expect ∈ TBL := tb_12 (List.mem_of_getElem? (i := 2) rfl)
theorem km_X4_84 : Cond.methodLink RX4 84 yX4_noteName ∈ TBL := tb_12 (List.mem_of_getElem? (i := 12) rfl)
theorem km_X4_91 : Cond.methodLink RX4 91 yX4_limitedNumber ∈ TBL := tb_12 (List.mem_of_getElem? (i := 27) rfl)
theorem km_X4_95 : Cond.methodLink RX4 95 yX6_numberAt ∈ TBL := tb_12 (List.mem_of_getElem? (i := 31) rfl)
theorem km_X4_98 : Cond.methodLink RX4 98 yX5_addGang ∈ TBL := tb_12 (List.mem_of_getElem? (i := 35) rfl)
theorem km_X4_102 : Cond.methodLink RX4 102 yX4_block ∈ TBL := tb_13 (List.mem_of_getElem? (i := 4) rfl)
theorem km_X4_107 : Cond.methodLink RX4 107 yX5_emit ∈ TBL := tb_13 (List.mem_of_getElem? (i := 30) rfl)
theorem km_X4_111 : Cond.methodLink RX4 111 yX6_isSameText ∈ TBL := tb_12 (List.mem_of_getElem? (i := 15) rfl)
theorem km_X4_114 : Cond.methodLink RX4 114 yX4_note ∈ TBL := tb_12 (List.mem_of_getElem? (i := 23) rfl)
theorem km_X4_123 : Cond.methodLink RX4 123 yX4_enter ∈ TBL := tb_13 (List.mem_of_getElem? (i := 8) rfl)
theorem km_X4_130 : Cond.methodLink RX4 130 yX4_sentence ∈ TBL := tb_13 (List.mem_of_getElem? (i := 12) rfl)
theorem km_X4_142 : Cond.methodLink RX4 142 yX4_sum ∈ TBL := tb_13 (List.mem_of_getElem? (i := 21) rfl)
theorem km_X4_148 : Cond.methodLink RX4 148 yX4_end ∈ TBL := tb_13 (List.mem_of_getElem? (i := 38) rfl)
theorem km_X4_151 : Cond.methodLink RX4 151 yX4_choice ∈ TBL := tb_14 (List.mem_of_getElem? (i := 2) rfl)
theorem km_X4_154 : Cond.methodLink RX4 154 yX4_countedLoop ∈ TBL := tb_14 (List.mem_of_getElem? (i := 24) rfl)
theorem km_X4_157 : Cond.methodLink RX4 157 yX4_testedLoop ∈ TBL := tb_14 (List.mem_of_getElem? (i := 27) rfl)
theorem km_X4_163 : Cond.methodLink RX4 163 yX4_test ∈ TBL := tb_14 (List.mem_of_getElem? (i := 5) rfl)
theorem km_X4_172 : Cond.methodLink RX4 172 yX5_leadHere ∈ TBL := tb_14 (List.mem_of_getElem? (i := 20) rfl)
theorem km_X4_175 : Cond.methodLink RX4 175 yX4_both ∈ TBL := tb_14 (List.mem_of_getElem? (i := 8) rfl)
theorem km_X4_181 : Cond.methodLink RX4 181 yX4_single ∈ TBL := tb_14 (List.mem_of_getElem? (i := 11) rfl)
theorem km_X4_202 : Cond.methodLink RX4 202 yX4_product ∈ TBL := tb_13 (List.mem_of_getElem? (i := 24) rfl)
theorem km_X4_205 : Cond.methodLink RX4 205 yX4_value ∈ TBL := tb_13 (List.mem_of_getElem? (i := 27) rfl)
theorem km_X6_32 : Cond.methodLink RX6 32 yJ9_min_7cf53 ∈ TBL := tb_9 (List.mem_of_getElem? (i := 27) rfl)
theorem km_X6_38 : Cond.methodLink RX6 38 yX6_behindBlanks ∈ TBL := tb_9 (List.mem_of_getElem? (i := 30) rfl)
theorem km_X6_42 : Cond.methodLink RX6 42 yX6_scanToken ∈ TBL := tb_9 (List.mem_of_getElem? (i := 33) rfl)
theorem km_X6_53 : Cond.methodLink RX6 53 yX6_isLetter ∈ TBL := tb_9 (List.mem_of_getElem? (i := 37) rfl)
theorem km_X6_57 : Cond.methodLink RX6 57 yX6_behindWord ∈ TBL := tb_10 (List.mem_of_getElem? (i := 0) rfl)
theorem km_X6_63 : Cond.methodLink RX6 63 yX7_find ∈ TBL := tb_10 (List.mem_of_getElem? (i := 8) rfl)
theorem km_X6_67 : Cond.methodLink RX6 67 yX6_isDigit ∈ TBL := tb_10 (List.mem_of_getElem? (i := 3) rfl)
theorem km_X6_70 : Cond.methodLink RX6 70 yX6_behindDigits ∈ TBL := tb_11 (List.mem_of_getElem? (i := 19) rfl)
theorem km_X6_76 : Cond.methodLink RX6 76 yX6_scanSymbol ∈ TBL := tb_11 (List.mem_of_getElem? (i := 23) rfl)
theorem km_X6_79 : Cond.methodLink RX6 79 yX6_endOf ∈ TBL := tb_12 (List.mem_of_getElem? (i := 20) rfl)
theorem km_X6_82 : Cond.methodLink RX6 82 yX6_startOf ∈ TBL := tb_12 (List.mem_of_getElem? (i := 19) rfl)
theorem km_X7_193 : Cond.methodLink RX7 193 yX7_isWritten ∈ TBL := tb_10 (List.mem_of_getElem? (i := 12) rfl)
theorem km_X7_197 : Cond.methodLink RX7 197 yJ0_length_8abf5 ∈ TBL := tb_10 (List.mem_of_getElem? (i := 16) rfl)
theorem km_X7_203 : Cond.methodLink RX7 203 yJ0_charAt_5068e ∈ TBL := tb_10 (List.mem_of_getElem? (i := 25) rfl)
theorem km_X8_45 : Cond.methodLink RX8 45 yX8_reckonSums ∈ TBL := tb_20 (List.mem_of_getElem? (i := 17) rfl)
theorem km_X8_49 : Cond.methodLink RX8 49 yX8_carryOut ∈ TBL := tb_21 (List.mem_of_getElem? (i := 7) rfl)
theorem km_X8_73 : Cond.methodLink RX8 73 yX8_reckon ∈ TBL := tb_20 (List.mem_of_getElem? (i := 20) rfl)
theorem km_X8_77 : Cond.methodLink RX8 77 yX8_push ∈ TBL := tb_20 (List.mem_of_getElem? (i := 23) rfl)
theorem km_X8_81 : Cond.methodLink RX8 81 yX8_read ∈ TBL := tb_20 (List.mem_of_getElem? (i := 26) rfl)
theorem km_X8_85 : Cond.methodLink RX8 85 yX8_pop ∈ TBL := tb_20 (List.mem_of_getElem? (i := 37) rfl)
theorem km_X8_88 : Cond.methodLink RX8 88 yX8_join ∈ TBL := tb_21 (List.mem_of_getElem? (i := 0) rfl)
theorem km_X8_126 : Cond.methodLink RX8 126 yX1_rainOfDay ∈ TBL := tb_20 (List.mem_of_getElem? (i := 29) rfl)
theorem km_X8_129 : Cond.methodLink RX8 129 yX1_sunOfDay ∈ TBL := tb_20 (List.mem_of_getElem? (i := 33) rfl)
theorem km_X8_135 : Cond.methodLink RX8 135 yJ9_min_7cf53 ∈ TBL := tb_21 (List.mem_of_getElem? (i := 3) rfl)
theorem km_X8_140 : Cond.methodLink RX8 140 yJ9_max_7cf53 ∈ TBL := tb_21 (List.mem_of_getElem? (i := 4) rfl)
theorem km_X8_143 : Cond.methodLink RX8 143 yX5_argumentAt ∈ TBL := tb_21 (List.mem_of_getElem? (i := 10) rfl)
theorem km_X8_146 : Cond.methodLink RX8 146 yX5_opAt ∈ TBL := tb_21 (List.mem_of_getElem? (i := 14) rfl)
theorem km_X8_149 : Cond.methodLink RX8 149 yX8_go ∈ TBL := tb_21 (List.mem_of_getElem? (i := 18) rfl)
theorem km_X8_152 : Cond.methodLink RX8 152 yX8_cut ∈ TBL := tb_21 (List.mem_of_getElem? (i := 27) rfl)
theorem km_X8_155 : Cond.methodLink RX8 155 yX8_turn ∈ TBL := tb_21 (List.mem_of_getElem? (i := 34) rfl)
theorem km_X8_158 : Cond.methodLink RX8 158 yX8_load ∈ TBL := tb_21 (List.mem_of_getElem? (i := 37) rfl)
theorem km_X8_161 : Cond.methodLink RX8 161 yX8_unload ∈ TBL := tb_22 (List.mem_of_getElem? (i := 8) rfl)
theorem km_X8_164 : Cond.methodLink RX8 164 yX8_rest ∈ TBL := tb_22 (List.mem_of_getElem? (i := 15) rfl)
theorem km_X8_167 : Cond.methodLink RX8 167 yX8_branch ∈ TBL := tb_22 (List.mem_of_getElem? (i := 18) rfl)
theorem km_X8_171 : Cond.methodLink RX8 171 yX8_beginRepeat ∈ TBL := tb_22 (List.mem_of_getElem? (i := 21) rfl)
theorem km_X8_174 : Cond.methodLink RX8 174 yX8_repeat ∈ TBL := tb_22 (List.mem_of_getElem? (i := 24) rfl)
theorem km_X8_184 : Cond.methodLink RX8 184 yX8_isHourOver ∈ TBL := tb_21 (List.mem_of_getElem? (i := 21) rfl)
theorem km_X8_197 : Cond.methodLink RX8 197 yJ6_compare_7cf53 ∈ TBL := tb_21 (List.mem_of_getElem? (i := 24) rfl)
theorem km_X8_205 : Cond.methodLink RX8 205 yX1_addToStack ∈ TBL := tb_21 (List.mem_of_getElem? (i := 30) rfl)
theorem km_X8_209 : Cond.methodLink RX8 209 yX8_endHour ∈ TBL := tb_21 (List.mem_of_getElem? (i := 31) rfl)
theorem km_X8_215 : Cond.methodLink RX8 215 yX2_addToCart ∈ TBL := tb_22 (List.mem_of_getElem? (i := 0) rfl)
theorem km_X8_218 : Cond.methodLink RX8 218 yX1_takeFromStack ∈ TBL := tb_22 (List.mem_of_getElem? (i := 4) rfl)
theorem km_X8_224 : Cond.methodLink RX8 224 yX2_takeFromCart ∈ TBL := tb_22 (List.mem_of_getElem? (i := 11) rfl)
theorem km_L_7 : Cond.methodLink RL 7 yX9_feed ∈ TBL := tb_16 (List.mem_of_getElem? (i := 13) rfl)
theorem km_L_15 : Cond.methodLink RL 15 yX9_trim ∈ TBL := tb_18 (List.mem_of_getElem? (i := 0) rfl)
theorem km_L_21 : Cond.methodLink RL 21 yX9_count ∈ TBL := tb_18 (List.mem_of_getElem? (i := 22) rfl)
theorem km_L_26 : Cond.methodLink RL 26 yX9_setWeather ∈ TBL := tb_19 (List.mem_of_getElem? (i := 3) rfl)
theorem km_L_30 : Cond.methodLink RL 30 yX9_set ∈ TBL := tb_19 (List.mem_of_getElem? (i := 10) rfl)
theorem km_L_34 : Cond.methodLink RL 34 yX9_stack ∈ TBL := tb_19 (List.mem_of_getElem? (i := 18) rfl)
theorem km_L_37 : Cond.methodLink RL 37 yX9_cell ∈ TBL := tb_19 (List.mem_of_getElem? (i := 31) rfl)
theorem km_L_40 : Cond.methodLink RL 40 yX9_gang ∈ TBL := tb_19 (List.mem_of_getElem? (i := 38) rfl)
theorem km_L_44 : Cond.methodLink RL 44 yX9_pass ∈ TBL := tb_20 (List.mem_of_getElem? (i := 5) rfl)
theorem km_L_47 : Cond.methodLink RL 47 yX9_foresee ∈ TBL := tb_23 (List.mem_of_getElem? (i := 18) rfl)
theorem km_L_50 : Cond.methodLink RL 50 yX9_dries ∈ TBL := tb_23 (List.mem_of_getElem? (i := 34) rfl)
theorem km_L_53 : Cond.methodLink RL 53 yX9_done ∈ TBL := tb_24 (List.mem_of_getElem? (i := 2) rfl)
theorem km_L_56 : Cond.methodLink RL 56 yX9_advise ∈ TBL := tb_24 (List.mem_of_getElem? (i := 9) rfl)
theorem km_L_59 : Cond.methodLink RL 59 yX9_byteAt ∈ TBL := tb_24 (List.mem_of_getElem? (i := 16) rfl)
theorem km_L_62 : Cond.methodLink RL 62 yX9_init ∈ TBL := tb_3 (List.mem_of_getElem? (i := 17) rfl)
theorem km_L_65 : Cond.methodLink RL 65 yX11_init ∈ TBL := tb_24 (List.mem_of_getElem? (i := 22) rfl)
theorem km_L_66 : Cond.methodLink RL 66 yL_feed ∈ TBL := tb_16 (List.mem_of_getElem? (i := 9) rfl)
theorem km_L_71 : Cond.methodLink RL 71 yX11_feed ∈ TBL := tb_28 (List.mem_of_getElem? (i := 12) rfl)
theorem km_L_72 : Cond.methodLink RL 72 yX11_thrown ∈ TBL := tb_28 (List.mem_of_getElem? (i := 8) rfl)
theorem km_L_76 : Cond.methodLink RL 76 yL_trim ∈ TBL := tb_17 (List.mem_of_getElem? (i := 36) rfl)
theorem km_L_79 : Cond.methodLink RL 79 yX11_trim ∈ TBL := tb_28 (List.mem_of_getElem? (i := 19) rfl)
theorem km_L_80 : Cond.methodLink RL 80 yX9_teach ∈ TBL := tb_9 (List.mem_of_getElem? (i := 15) rfl)
theorem km_L_83 : Cond.methodLink RL 83 yX11_teach ∈ TBL := tb_28 (List.mem_of_getElem? (i := 26) rfl)
theorem km_L_84 : Cond.methodLink RL 84 yX9_errorAt ∈ TBL := tb_14 (List.mem_of_getElem? (i := 39) rfl)
theorem km_L_87 : Cond.methodLink RL 87 yX11_errorAt ∈ TBL := tb_31 (List.mem_of_getElem? (i := 10) rfl)
theorem km_L_88 : Cond.methodLink RL 88 yL_count ∈ TBL := tb_18 (List.mem_of_getElem? (i := 18) rfl)
theorem km_L_90 : Cond.methodLink RL 90 yX11_count ∈ TBL := tb_31 (List.mem_of_getElem? (i := 14) rfl)
theorem km_L_91 : Cond.methodLink RL 91 yL_setWeather ∈ TBL := tb_19 (List.mem_of_getElem? (i := 0) rfl)
theorem km_L_94 : Cond.methodLink RL 94 yX11_setWeather ∈ TBL := tb_31 (List.mem_of_getElem? (i := 28) rfl)
theorem km_L_95 : Cond.methodLink RL 95 yL_set ∈ TBL := tb_19 (List.mem_of_getElem? (i := 7) rfl)
theorem km_L_98 : Cond.methodLink RL 98 yX11_set ∈ TBL := tb_31 (List.mem_of_getElem? (i := 32) rfl)
theorem km_L_99 : Cond.methodLink RL 99 yL_stack ∈ TBL := tb_19 (List.mem_of_getElem? (i := 15) rfl)
theorem km_L_101 : Cond.methodLink RL 101 yX11_stack ∈ TBL := tb_31 (List.mem_of_getElem? (i := 39) rfl)
theorem km_L_102 : Cond.methodLink RL 102 yL_cell ∈ TBL := tb_19 (List.mem_of_getElem? (i := 28) rfl)
theorem km_L_104 : Cond.methodLink RL 104 yX11_cell ∈ TBL := tb_32 (List.mem_of_getElem? (i := 7) rfl)
theorem km_L_105 : Cond.methodLink RL 105 yL_gang ∈ TBL := tb_19 (List.mem_of_getElem? (i := 35) rfl)
theorem km_L_108 : Cond.methodLink RL 108 yX11_gang_ ∈ TBL := tb_32 (List.mem_of_getElem? (i := 14) rfl)
theorem km_L_109 : Cond.methodLink RL 109 yL_pass ∈ TBL := tb_20 (List.mem_of_getElem? (i := 2) rfl)
theorem km_L_111 : Cond.methodLink RL 111 yX11_pass ∈ TBL := tb_32 (List.mem_of_getElem? (i := 21) rfl)
theorem km_L_112 : Cond.methodLink RL 112 yL_foresee ∈ TBL := tb_23 (List.mem_of_getElem? (i := 15) rfl)
theorem km_L_114 : Cond.methodLink RL 114 yX11_foresee ∈ TBL := tb_34 (List.mem_of_getElem? (i := 11) rfl)
theorem km_L_115 : Cond.methodLink RL 115 yL_dries ∈ TBL := tb_23 (List.mem_of_getElem? (i := 31) rfl)
theorem km_L_117 : Cond.methodLink RL 117 yX11_dries ∈ TBL := tb_34 (List.mem_of_getElem? (i := 23) rfl)
theorem km_L_118 : Cond.methodLink RL 118 yL_done ∈ TBL := tb_23 (List.mem_of_getElem? (i := 39) rfl)
theorem km_L_120 : Cond.methodLink RL 120 yX11_done ∈ TBL := tb_34 (List.mem_of_getElem? (i := 27) rfl)
theorem km_L_121 : Cond.methodLink RL 121 yL_advise ∈ TBL := tb_24 (List.mem_of_getElem? (i := 6) rfl)
theorem km_L_123 : Cond.methodLink RL 123 yX11_advise ∈ TBL := tb_34 (List.mem_of_getElem? (i := 31) rfl)
theorem km_L_124 : Cond.methodLink RL 124 yX9_draw ∈ TBL := tb_15 (List.mem_of_getElem? (i := 3) rfl)
theorem km_L_127 : Cond.methodLink RL 127 yX11_draw ∈ TBL := tb_34 (List.mem_of_getElem? (i := 38) rfl)
theorem km_L_128 : Cond.methodLink RL 128 yL_byteAt ∈ TBL := tb_24 (List.mem_of_getElem? (i := 13) rfl)
theorem km_L_130 : Cond.methodLink RL 130 yX11_byteAt ∈ TBL := tb_35 (List.mem_of_getElem? (i := 8) rfl)
theorem km_L_131 : Cond.methodLink RL 131 yX9_share ∈ TBL := tb_15 (List.mem_of_getElem? (i := 17) rfl)
theorem km_L_135 : Cond.methodLink RL 135 yX11_share ∈ TBL := tb_35 (List.mem_of_getElem? (i := 12) rfl)
theorem km_L_136 : Cond.methodLink RL 136 yX9_digest ∈ TBL := tb_15 (List.mem_of_getElem? (i := 21) rfl)
theorem km_L_140 : Cond.methodLink RL 140 yX11_digest ∈ TBL := tb_35 (List.mem_of_getElem? (i := 16) rfl)
theorem km_X11_72 : Cond.methodLink RX11 72 yX11_isIn ∈ TBL := tb_28 (List.mem_of_getElem? (i := 23) rfl)
theorem km_X11_79 : Cond.methodLink RX11 79 yX11_byteOf ∈ TBL := tb_28 (List.mem_of_getElem? (i := 36) rfl)
theorem km_X11_98 : Cond.methodLink RX11 98 yX11_isLetter ∈ TBL := tb_28 (List.mem_of_getElem? (i := 33) rfl)
theorem km_X11_102 : Cond.methodLink RX11 102 yX11_word ∈ TBL := tb_28 (List.mem_of_getElem? (i := 39) rfl)
theorem km_X11_105 : Cond.methodLink RX11 105 yX11_isDigit ∈ TBL := tb_29 (List.mem_of_getElem? (i := 2) rfl)
theorem km_X11_108 : Cond.methodLink RX11 108 yX11_number ∈ TBL := tb_29 (List.mem_of_getElem? (i := 11) rfl)
theorem km_X11_111 : Cond.methodLink RX11 111 yX11_symbol ∈ TBL := tb_29 (List.mem_of_getElem? (i := 14) rfl)
theorem km_X11_118 : Cond.methodLink RX11 118 yX11_isWord ∈ TBL := tb_29 (List.mem_of_getElem? (i := 6) rfl)
theorem km_X11_122 : Cond.methodLink RX11 122 yJ0_length_8abf5 ∈ TBL := tb_29 (List.mem_of_getElem? (i := 9) rfl)
theorem km_X11_127 : Cond.methodLink RX11 127 yJ0_charAt_5068e ∈ TBL := tb_29 (List.mem_of_getElem? (i := 10) rfl)
theorem km_X11_131 : Cond.methodLink RX11 131 yX11_isSymbol ∈ TBL := tb_29 (List.mem_of_getElem? (i := 17) rfl)
theorem km_X11_134 : Cond.methodLink RX11 134 yX11_sees ∈ TBL := tb_30 (List.mem_of_getElem? (i := 1) rfl)
theorem km_X11_137 : Cond.methodLink RX11 137 yX11_advance ∈ TBL := tb_28 (List.mem_of_getElem? (i := 30) rfl)
theorem km_X11_140 : Cond.methodLink RX11 140 yX11_reads ∈ TBL := tb_29 (List.mem_of_getElem? (i := 23) rfl)
theorem km_X11_155 : Cond.methodLink RX11 155 yX11_gang ∈ TBL := tb_29 (List.mem_of_getElem? (i := 26) rfl)
theorem km_X11_162 : Cond.methodLink RX11 162 yX11_isNameOf ∈ TBL := tb_29 (List.mem_of_getElem? (i := 29) rfl)
theorem km_X11_165 : Cond.methodLink RX11 165 yX11_fault ∈ TBL := tb_29 (List.mem_of_getElem? (i := 32) rfl)
theorem km_X11_169 : Cond.methodLink RX11 169 yX11_passWord ∈ TBL := tb_29 (List.mem_of_getElem? (i := 35) rfl)
theorem km_X11_172 : Cond.methodLink RX11 172 yX11_block ∈ TBL := tb_29 (List.mem_of_getElem? (i := 38) rfl)
theorem km_X11_175 : Cond.methodLink RX11 175 yX11_put ∈ TBL := tb_30 (List.mem_of_getElem? (i := 10) rfl)
theorem km_X11_178 : Cond.methodLink RX11 178 yX11_deeper ∈ TBL := tb_30 (List.mem_of_getElem? (i := 4) rfl)
theorem km_X11_181 : Cond.methodLink RX11 181 yX11_sentence ∈ TBL := tb_30 (List.mem_of_getElem? (i := 7) rfl)
theorem km_X11_184 : Cond.methodLink RX11 184 yX11_shallower ∈ TBL := tb_30 (List.mem_of_getElem? (i := 22) rfl)
theorem km_X11_187 : Cond.methodLink RX11 187 yX11_sum ∈ TBL := tb_30 (List.mem_of_getElem? (i := 13) rfl)
theorem km_X11_191 : Cond.methodLink RX11 191 yX11_passSymbol ∈ TBL := tb_30 (List.mem_of_getElem? (i := 25) rfl)
theorem km_X11_194 : Cond.methodLink RX11 194 yX11_branch ∈ TBL := tb_30 (List.mem_of_getElem? (i := 28) rfl)
theorem km_X11_197 : Cond.methodLink RX11 197 yX11_repeat ∈ TBL := tb_31 (List.mem_of_getElem? (i := 0) rfl)
theorem km_X11_200 : Cond.methodLink RX11 200 yX11_loop ∈ TBL := tb_31 (List.mem_of_getElem? (i := 3) rfl)
theorem km_X11_203 : Cond.methodLink RX11 203 yX11_test ∈ TBL := tb_30 (List.mem_of_getElem? (i := 31) rfl)
theorem km_X11_209 : Cond.methodLink RX11 209 yX11_both ∈ TBL := tb_30 (List.mem_of_getElem? (i := 34) rfl)
theorem km_X11_212 : Cond.methodLink RX11 212 yX11_single ∈ TBL := tb_30 (List.mem_of_getElem? (i := 37) rfl)
theorem km_X11_215 : Cond.methodLink RX11 215 yX11_product ∈ TBL := tb_30 (List.mem_of_getElem? (i := 16) rfl)
theorem km_X11_218 : Cond.methodLink RX11 218 yX11_value ∈ TBL := tb_30 (List.mem_of_getElem? (i := 19) rfl)
theorem km_X11_221 : Cond.methodLink RX11 221 yX11_no ∈ TBL := tb_28 (List.mem_of_getElem? (i := 16) rfl)
theorem km_X11_224 : Cond.methodLink RX11 224 yX11_text ∈ TBL := tb_29 (List.mem_of_getElem? (i := 20) rfl)
theorem km_X11_227 : Cond.methodLink RX11 227 yX11_learn ∈ TBL := tb_31 (List.mem_of_getElem? (i := 6) rfl)
theorem km_X11_230 : Cond.methodLink RX11 230 arraycopyName ∈ TBL := tb_31 (List.mem_of_getElem? (i := 9) rfl)
theorem km_X11_256 : Cond.methodLink RX11 256 yJ9_min_7cf53 ∈ TBL := tb_33 (List.mem_of_getElem? (i := 6) rfl)
theorem km_X11_262 : Cond.methodLink RX11 262 yJ9_max_7cf53 ∈ TBL := tb_33 (List.mem_of_getElem? (i := 7) rfl)
theorem km_X11_265 : Cond.methodLink RX11 265 yX11_flag ∈ TBL := tb_33 (List.mem_of_getElem? (i := 8) rfl)
theorem km_X11_269 : Cond.methodLink RX11 269 yX11_told ∈ TBL := tb_33 (List.mem_of_getElem? (i := 0) rfl)
theorem km_X11_273 : Cond.methodLink RX11 273 yX11_apply ∈ TBL := tb_33 (List.mem_of_getElem? (i := 3) rfl)
theorem km_X11_283 : Cond.methodLink RX11 283 yX11_isThere ∈ TBL := tb_32 (List.mem_of_getElem? (i := 34) rfl)
theorem km_X11_287 : Cond.methodLink RX11 287 yX11_act ∈ TBL := tb_33 (List.mem_of_getElem? (i := 11) rfl)
theorem km_X11_291 : Cond.methodLink RX11 291 yX11_goOn ∈ TBL := tb_33 (List.mem_of_getElem? (i := 33) rfl)
theorem km_X11_294 : Cond.methodLink RX11 294 yX11_reckon ∈ TBL := tb_32 (List.mem_of_getElem? (i := 37) rfl)
theorem km_X11_297 : Cond.methodLink RX11 297 yX11_go ∈ TBL := tb_33 (List.mem_of_getElem? (i := 14) rfl)
theorem km_X11_303 : Cond.methodLink RX11 303 yX11_unload ∈ TBL := tb_33 (List.mem_of_getElem? (i := 20) rfl)
theorem km_X11_306 : Cond.methodLink RX11 306 yX11_cut ∈ TBL := tb_33 (List.mem_of_getElem? (i := 23) rfl)
theorem km_X11_309 : Cond.methodLink RX11 309 yX11_load ∈ TBL := tb_33 (List.mem_of_getElem? (i := 26) rfl)
theorem km_X11_313 : Cond.methodLink RX11 313 yX11_isCell ∈ TBL := tb_31 (List.mem_of_getElem? (i := 36) rfl)
theorem km_X11_317 : Cond.methodLink RX11 317 yJ6_signum_0f7a4 ∈ TBL := tb_33 (List.mem_of_getElem? (i := 17) rfl)
theorem km_X11_322 : Cond.methodLink RX11 322 yX10_pile ∈ TBL := tb_32 (List.mem_of_getElem? (i := 3) rfl)
theorem km_X11_328 : Cond.methodLink RX11 328 yX10_take ∈ TBL := tb_33 (List.mem_of_getElem? (i := 29) rfl)
theorem km_X11_335 : Cond.methodLink RX11 335 yX11_held ∈ TBL := tb_34 (List.mem_of_getElem? (i := 2) rfl)
theorem km_X11_338 : Cond.methodLink RX11 338 yX11_behindNight ∈ TBL := tb_33 (List.mem_of_getElem? (i := 39) rfl)
theorem km_X11_344 : Cond.methodLink RX11 344 yX11_rise ∈ TBL := tb_34 (List.mem_of_getElem? (i := 5) rfl)
theorem km_X11_348 : Cond.methodLink RX11 348 yX11_withPeat ∈ TBL := tb_34 (List.mem_of_getElem? (i := 8) rfl)
theorem km_X11_351 : Cond.methodLink RX11 351 yX11_work ∈ TBL := tb_32 (List.mem_of_getElem? (i := 31) rfl)
theorem km_X11_355 : Cond.methodLink RX11 355 yX11_night ∈ TBL := tb_33 (List.mem_of_getElem? (i := 36) rfl)
theorem km_X11_358 : Cond.methodLink RX11 358 yX11_hour ∈ TBL := tb_32 (List.mem_of_getElem? (i := 28) rfl)
theorem km_X11_363 : Cond.methodLink RX11 363 yX10_all ∈ TBL := tb_31 (List.mem_of_getElem? (i := 21) rfl)
theorem km_X11_367 : Cond.methodLink RX11 367 yX11_carts ∈ TBL := tb_31 (List.mem_of_getElem? (i := 25) rfl)
theorem km_X11_370 : Cond.methodLink RX11 370 yX11_counted ∈ TBL := tb_31 (List.mem_of_getElem? (i := 18) rfl)
theorem km_X11_373 : Cond.methodLink RX11 373 yX11_cellTold ∈ TBL := tb_32 (List.mem_of_getElem? (i := 11) rfl)
theorem km_X11_376 : Cond.methodLink RX11 376 yX11_gangTold ∈ TBL := tb_32 (List.mem_of_getElem? (i := 18) rfl)
theorem km_X11_379 : Cond.methodLink RX11 379 yX11_hours ∈ TBL := tb_32 (List.mem_of_getElem? (i := 25) rfl)
theorem km_X11_382 : Cond.methodLink RX11 382 yX10_become ∈ TBL := tb_34 (List.mem_of_getElem? (i := 15) rfl)
theorem km_X11_385 : Cond.methodLink RX11 385 yX11_dryBehind ∈ TBL := tb_34 (List.mem_of_getElem? (i := 35) rfl)
theorem km_X11_388 : Cond.methodLink RX11 388 yX11_isGangIn ∈ TBL := tb_35 (List.mem_of_getElem? (i := 5) rfl)
theorem km_X11_391 : Cond.methodLink RX11 391 yX11_drawn ∈ TBL := tb_35 (List.mem_of_getElem? (i := 2) rfl)
theorem km_X10_33 : Cond.methodLink RX10 33 arraycopyName ∈ TBL := tb_34 (List.mem_of_getElem? (i := 22) rfl)
theorem km_X10_58 : Cond.methodLink RX10 58 yX10_copy ∈ TBL := tb_34 (List.mem_of_getElem? (i := 19) rfl)
theorem km_J0_335 : Cond.methodLink RJ0 335 yJ0_coder_7d493 ∈ TBL := tb_10 (List.mem_of_getElem? (i := 20) rfl)
theorem km_J0_492 : Cond.methodLink RJ0 492 yJ0_isLatin1_aae02 ∈ TBL := tb_10 (List.mem_of_getElem? (i := 29) rfl)
theorem km_J0_495 : Cond.methodLink RJ0 495 yJ1_charAt_3b067 ∈ TBL := tb_10 (List.mem_of_getElem? (i := 33) rfl)
theorem km_J0_498 : Cond.methodLink RJ0 498 yJ2_charAt_3b067 ∈ TBL := tb_11 (List.mem_of_getElem? (i := 3) rfl)
theorem km_J0_1059 : Cond.methodLink RJ0 1059 yJ3_checkIndex_8e157 ∈ TBL := tb_11 (List.mem_of_getElem? (i := 0) rfl)
theorem km_J1_9 : Cond.methodLink RJ1 9 yJ0_checkIndex_df160 ∈ TBL := tb_10 (List.mem_of_getElem? (i := 36) rfl)
theorem km_J2_48 : Cond.methodLink RJ2 48 yJ2_length_9d52b ∈ TBL := tb_11 (List.mem_of_getElem? (i := 9) rfl)
theorem km_J2_67 : Cond.methodLink RJ2 67 yJ2_checkIndex_2214a ∈ TBL := tb_11 (List.mem_of_getElem? (i := 6) rfl)
theorem km_J2_71 : Cond.methodLink RJ2 71 yJ2_getChar_3b067 ∈ TBL := tb_11 (List.mem_of_getElem? (i := 13) rfl)
theorem km_J2_414 : Cond.methodLink RJ2 414 yJ0_checkIndex_df160 ∈ TBL := tb_11 (List.mem_of_getElem? (i := 12) rfl)
theorem kmn_X9_28 : Cond.methodLinkNest RX9 28 yX4_init "PeatBog" ∈ NTL := nt_0 (List.mem_of_getElem? (i := 0) rfl)
theorem kmn_X9_35 : Cond.methodLinkNest RX9 35 yX5_init "PeatBog" ∈ NTL := nt_0 (List.mem_of_getElem? (i := 13) rfl)
theorem kmn_X1_68 : Cond.methodLinkNest RX1 68 yX2_init "PeatBog" ∈ NTL := nt_0 (List.mem_of_getElem? (i := 14) rfl)
theorem kmn_X1_104 : Cond.methodLinkNest RX1 104 yX9_cellAt "PeatBog" ∈ NTL := nt_1 (List.mem_of_getElem? (i := 20) rfl)
theorem kmn_X1_108 : Cond.methodLinkNest RX1 108 yX9_mixed "PeatBog" ∈ NTL := nt_1 (List.mem_of_getElem? (i := 21) rfl)
theorem kmn_X1_128 : Cond.methodLinkNest RX1 128 yX9_wetnessBehindNight "PeatBog" ∈ NTL := nt_1 (List.mem_of_getElem? (i := 25) rfl)
theorem kmn_X1_132 : Cond.methodLinkNest RX1 132 yX9_held "PeatBog" ∈ NTL := nt_1 (List.mem_of_getElem? (i := 26) rfl)
theorem kmn_X2_53 : Cond.methodLinkNest RX2 53 yX9_mixed "PeatBog" ∈ NTL := nt_1 (List.mem_of_getElem? (i := 24) rfl)
theorem kmn_X4_11 : Cond.methodLinkNest RX4 11 yX6_init "PeatBog" ∈ NTL := nt_0 (List.mem_of_getElem? (i := 1) rfl)
theorem kmn_X4_24 : Cond.methodLinkNest RX4 24 yX5_init "PeatBog" ∈ NTL := nt_0 (List.mem_of_getElem? (i := 2) rfl)
theorem kmn_X5_34 : Cond.methodLinkNest RX5 34 yX9_isCell "PeatBog" ∈ NTL := nt_1 (List.mem_of_getElem? (i := 19) rfl)
theorem kmn_X8_98 : Cond.methodLinkNest RX8 98 yX9_cellAt "PeatBog" ∈ NTL := nt_1 (List.mem_of_getElem? (i := 22) rfl)
theorem kmn_X8_191 : Cond.methodLinkNest RX8 191 yX9_isCell "PeatBog" ∈ NTL := nt_1 (List.mem_of_getElem? (i := 23) rfl)
theorem kmn_X11_52 : Cond.methodLinkNest RX11 52 yX10_init "PeatBogModel" ∈ NTL := nt_1 (List.mem_of_getElem? (i := 27) rfl)
theorem kx_X8_44 : Cond.constant RX8 44 1000000 ∈ TBL := tb_20 (List.mem_of_getElem? (i := 16) rfl)
def iushr (x y : Int32) : Int32 := (x.toUInt32 >>> (y.toUInt32 &&& Int32.toUInt32 31)).toInt32
theorem kd_eta {i t : Nat} (h : (kd i).1 = t) : kd i = (t, (kd i).2) := by rw [← h]
section XE
variable {p : Program} {l : Launch} {e : Env} {R : Room} {s : State} {m : MethodId} {args : Array Value} {below : List Frame} {meth : Method} {c : Code} {cc : ByteArray} {nL : Nat} {own : String} {G : GG} {Q : State → Prop} {k n : Nat} {M : Mm} {pc : Nat} {lv lv' : List (Nat × Value)} {st : List Value} {ret : Option FieldType}
theorem x_join {M' : Mm} {pc' : Nat} {st' : List Value} (h : XJ p l e R s m args below meth c G nL Q k n M' pc' lv' st') (g : XJ p l e R s m args below meth c G nL Q k n M' pc' lv' st' → XJ p l e R s m args below meth c G nL Q k n M pc lv st) : XJ p l e R s m args below meth c G nL Q k n M pc lv st := g h
theorem x_joinB {P : Prop} {M' : Mm} {pc' : Nat} {st' : List Value} (h : P → XJ p l e R s m args below meth c G nL Q k n M' pc' lv' st') (g : (P → XJ p l e R s m args below meth c G nL Q k n M' pc' lv' st') → XJ p l e R s m args below meth c G nL Q k n M pc lv st) : XJ p l e R s m args below meth c G nL Q k n M pc lv st := g h
theorem x_topi {x y : Int32} (h : y = x) (K : XJ p l e R s m args below meth c G nL Q k n M pc lv (.int y :: st)) : XJ p l e R s m args below meth c G nL Q k n M pc lv (.int x :: st) := h ▸ K
theorem x_callSN (hC : CX p s m args meth c cc nL own ret G) {y : MethodName} {cy : ByteArray} {maxL index nA mc ms : Nat} {host : String} {r : Option FieldType} {rm : Room} {As : List Value} {st0 : List Value} {M' : Mm} {b : Bool} {o : Option Value} (hM : Mo b l y (WS y cy maxL r) rm mc ms As G M o M') (hcode : Cond.code y cy maxL r ∈ TBL) (hlink : Cond.methodLinkNest own index y host ∈ NTL) (hstat : Cond.static y ∈ TBL) (hini : Cond.initialized y.cls ∈ TBL) (hy : y.cls ≠ "java/lang/invoke/MethodHandle" ∧ y.cls ≠ "java/lang/invoke/VarHandle" ∧ (parseMethodDescriptor y.desc).map (fun d => d.parameters.length) = some nA) (hnA : As.length = nA) (hrc : rm.cells = mc ∧ rm.slots = ms) (hR : rm.frames + 1 ≤ R.frames ∧ 8 + (maxL + 11) + rm.locals ≤ R.locals) (hst : st0 = As.reverse ++ st) (hcat : (st.map fun v => v.category).sum ≤ 8) (hcs : k + mc ≤ R.cells ∧ n + ms ≤ R.slots) (hd : decode cc pc = .ok (.invokestatic index, 3))
    (K : BVo b o → XJ p l e R s m args below meth c G nL Q (k + mc) (n + ms) M' (pc + 3) lv (o.toList ++ st)) : XJ p l e R s m args below meth c G nL Q k n M pc lv st0 := by
  obtain ⟨hx, hb, hml, hown, hts, hlk, hrt, hG⟩ := hC
  refine x_run (As := As.toArray) (fun H locs ls hP hS hl => ?_) K
  refine va_runSN (bytes := cy) (maxL := maxL) (ret := r) (n := nA) (nL := nL) (Ts := TBL) (host := host) ⟨hx, hb, hml, hown, hts⟩ (hM H.size) ⟨⟨⟨hrc.1, hrc.2, hR.1, hR.2, pay_in hts (ws_good hcode), List.mem_cons_self⟩, hts _ hcode, hts _ hini, ⟨hy.1, hy.2.1⟩, fun sig h => ?_, va_Nw.use rfl (hG.2.2.1 _ hlink)⟩, hts _ hstat, trivial⟩ ⟨mo_blind, fun U hU hW => ⟨rfl, by rw [hU], by rw [hU]; exact hP, hG.step hS hU hW⟩⟩ rfl hnA hl.1 hst (lv_room hcat) hd hcs
  have h2 := hy.2.2
  rw [h] at h2
  exact (Option.some.inj h2).symm
theorem x_i2b (hC : CX p s m args meth c cc nL own ret G) {x : Int32} (hd : decode cc pc = .ok (.i2b, 1)) (K : XJ p l e R s m args below meth c G nL Q k n M (pc + 1) lv (.int (x.toInt8.toInt32) :: st)) : XJ p l e R s m args below meth c G nL Q k n M pc lv (.int x :: st) := by
  obtain ⟨hx, hb, -⟩ := hC
  exact fun H locs ls hP hS hl => lv_i2b hx hb hd rfl (K H locs ls hP hS hl)
theorem x_i2c (hC : CX p s m args meth c cc nL own ret G) {x : Int32} (hd : decode cc pc = .ok (.i2c, 1)) (K : XJ p l e R s m args below meth c G nL Q k n M (pc + 1) lv (.int ((x.toUInt32 % 65536).toInt32) :: st)) : XJ p l e R s m args below meth c G nL Q k n M pc lv (.int x :: st) := by
  obtain ⟨hx, hb, -⟩ := hC
  exact fun H locs ls hP hS hl => lv_i2c hx hb hd rfl (K H locs ls hP hS hl)
theorem x_iushr (hC : CX p s m args meth c cc nL own ret G) {x y : Int32} (hd : decode cc pc = .ok (.iushr, 1)) (K : XJ p l e R s m args below meth c G nL Q k n M (pc + 1) lv (.int (iushr x y) :: st)) : XJ p l e R s m args below meth c G nL Q k n M pc lv (.int y :: .int x :: st) := by
  obtain ⟨hx, hb, -⟩ := hC
  exact fun H locs ls hP hS hl => lv_iushr hx hb hd rfl (K H locs ls hP hS hl)
theorem x_ldc (hC : CX p s m args meth c cc nL own ret G) {index : Nat} (v : Int32) (hw : Cond.constant own index v ∈ TBL) (hd : decode cc pc = .ok (.ldc index, 2)) (K : XJ p l e R s m args below meth c G nL Q k n M (pc + 2) lv (.int v :: st)) : XJ p l e R s m args below meth c G nL Q k n M pc lv st := by
  obtain ⟨hx, hb, hml, hown, hts, hlk, hrt, hG⟩ := hC
  exact fun H locs ls hP hS hl => lv_ldc hx hb hown (hts _ hw) hd (K H locs ls hP hS hl)
theorem x_cret (hC : CX p s m args meth c cc nL own ret G) {v : Int32} {ty : FieldType} (hret : ret = some ty) (hn : narrow ty (.int v) = .int v) (hd : decode cc pc = .ok (.ireturn, 1)) : XJ p l e R s m args below meth c G nL (MQ below (QO G M false (some (.int v)) s.heap.size) args s k n (AF G s.heap.size)) k n M pc lv [.int v] := by
  obtain ⟨hx, hb, hml, hown, hts, hlk, hrt, hG⟩ := hC
  exact fun H locs ls hP hS hl => W.zret hx hb (hrt.trans hret) hn (fun t ht hW => ⟨rfl, by rw [ht]; exact hP, hS.F ht, fun h => by cases h⟩) hS.2.2 hd hlk
end XE
theorem ne_toI {x : Int32} {y : Int32} {z : Int} (h : ¬ x = y) (hz : y.toInt = z) : x.toInt ≠ z := fun e => h (Int32.toInt_inj.mp (e.trans hz.symm))
def FU : Nat := 1100000
def bd4 {α1 α2 α3 α4 β : Type} (x : Option (α1 × α2 × α3 × α4)) (f : α1 → α2 → α3 → α4 → Option β) : Option β := match x with | none => none | some a => f a.1 a.2.1 a.2.2.1 a.2.2.2
theorem bd4_s {α1 α2 α3 α4 β : Type} {x : Option (α1 × α2 × α3 × α4)} {f : α1 → α2 → α3 → α4 → Option β} {r : β} (h : bd4 x f = some r) : ∃ a b d t, x = some (a, b, d, t) ∧ f a b d t = some r := by
  cases x with
  | none => cases h
  | some a => exact ⟨a.1, a.2.1, a.2.2.1, a.2.2.2, rfl, h⟩
def bd5 {α1 α2 α3 α4 α5 β : Type} (x : Option (α1 × α2 × α3 × α4 × α5)) (f : α1 → α2 → α3 → α4 → α5 → Option β) : Option β := match x with | none => none | some a => f a.1 a.2.1 a.2.2.1 a.2.2.2.1 a.2.2.2.2
theorem bd5_s {α1 α2 α3 α4 α5 β : Type} {x : Option (α1 × α2 × α3 × α4 × α5)} {f : α1 → α2 → α3 → α4 → α5 → Option β} {r : β} (h : bd5 x f = some r) : ∃ a b d t u, x = some (a, b, d, t, u) ∧ f a b d t u = some r := by
  cases x with
  | none => cases h
  | some a => exact ⟨a.1, a.2.1, a.2.2.1, a.2.2.2.1, a.2.2.2.2, rfl, h⟩
def RMn (n : Nat) : Room := RM (n + 20) 0 0 (40 * n + 1000)
theorem rn_f {f n : Nat} (h : f ≤ 20) : f + 1 ≤ (RMn (n + 1)).frames := by show f + 1 ≤ n + 1 + 20; omega
theorem rn_l {a n : Nat} (h : a ≤ 1000) : a ≤ (RMn (n + 1)).locals := by show a ≤ 40 * (n + 1) + 1000; omega
theorem rn_gf {n : Nat} : (RMn n).frames + 1 ≤ (RMn (n + 1)).frames := by show n + 20 + 1 ≤ n + 1 + 20; omega
theorem rn_gl {m n : Nat} (h : m ≤ 21) : 8 + (m + 11) + (RMn n).locals ≤ (RMn (n + 1)).locals := by show 8 + (m + 11) + (40 * n + 1000) ≤ 40 * (n + 1) + 1000; omega

