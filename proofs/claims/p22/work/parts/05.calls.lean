theorem kc_yJ0_charAt_5068e : Cond.code yJ0_charAt_5068e cJ0_charAt_5068e 2 (some .char) ∈ TBL := tb_3 (List.mem_of_getElem? (i := 15) rfl)
theorem ky_yJ0_charAt_5068e : yJ0_charAt_5068e.cls ≠ "java/lang/invoke/MethodHandle" ∧ yJ0_charAt_5068e.cls ≠ "java/lang/invoke/VarHandle" ∧ (parseMethodDescriptor yJ0_charAt_5068e.desc).map (fun d => d.parameters.length) = some 1 := by decide +kernel
theorem ki_yJ0_charAt_5068e : Cond.instanceMethod yJ0_charAt_5068e ∈ TBL := tb_3 (List.mem_of_getElem? (i := 13) rfl)
theorem kv_yJ0_charAt_5068e : Cond.selects RJ0 yJ0_charAt_5068e yJ0_charAt_5068e ∈ TBL := tb_3 (List.mem_of_getElem? (i := 14) rfl)
theorem kn_RJ0 : Cond.initialized RJ0 ∈ TBL := tb_1 (List.mem_of_getElem? (i := 29) rfl)
theorem kc_yJ0_checkBoundsBeginEnd_23922 : Cond.code yJ0_checkBoundsBeginEnd_23922 cJ0_checkBoundsBeginEnd_23922 3 none ∈ TBL := tb_24 (List.mem_of_getElem? (i := 8) rfl)
theorem ky_yJ0_checkBoundsBeginEnd_23922 : yJ0_checkBoundsBeginEnd_23922.cls ≠ "java/lang/invoke/MethodHandle" ∧ yJ0_checkBoundsBeginEnd_23922.cls ≠ "java/lang/invoke/VarHandle" ∧ (parseMethodDescriptor yJ0_checkBoundsBeginEnd_23922.desc).map (fun d => d.parameters.length) = some 3 := by decide +kernel
theorem kt_yJ0_checkBoundsBeginEnd_23922 : Cond.static yJ0_checkBoundsBeginEnd_23922 ∈ TBL := tb_24 (List.mem_of_getElem? (i := 7) rfl)
theorem kc_yJ0_checkBoundsOffCount_cabcc : Cond.code yJ0_checkBoundsOffCount_cabcc cJ0_checkBoundsOffCount_cabcc 3 (some .int) ∈ TBL := tb_24 (List.mem_of_getElem? (i := 37) rfl)
theorem ky_yJ0_checkBoundsOffCount_cabcc : yJ0_checkBoundsOffCount_cabcc.cls ≠ "java/lang/invoke/MethodHandle" ∧ yJ0_checkBoundsOffCount_cabcc.cls ≠ "java/lang/invoke/VarHandle" ∧ (parseMethodDescriptor yJ0_checkBoundsOffCount_cabcc.desc).map (fun d => d.parameters.length) = some 3 := by decide +kernel
theorem kt_yJ0_checkBoundsOffCount_cabcc : Cond.static yJ0_checkBoundsOffCount_cabcc ∈ TBL := tb_24 (List.mem_of_getElem? (i := 36) rfl)
theorem kc_yJ0_checkIndex_df160 : Cond.code yJ0_checkIndex_df160 cJ0_checkIndex_df160 2 none ∈ TBL := tb_3 (List.mem_of_getElem? (i := 25) rfl)
theorem ky_yJ0_checkIndex_df160 : yJ0_checkIndex_df160.cls ≠ "java/lang/invoke/MethodHandle" ∧ yJ0_checkIndex_df160.cls ≠ "java/lang/invoke/VarHandle" ∧ (parseMethodDescriptor yJ0_checkIndex_df160.desc).map (fun d => d.parameters.length) = some 2 := by decide +kernel
theorem kt_yJ0_checkIndex_df160 : Cond.static yJ0_checkIndex_df160 ∈ TBL := tb_3 (List.mem_of_getElem? (i := 24) rfl)
theorem kc_yJ0_coder_7d493 : Cond.code yJ0_coder_7d493 cJ0_coder_7d493 1 (some .byte) ∈ TBL := tb_3 (List.mem_of_getElem? (i := 10) rfl)
theorem ky_yJ0_coder_7d493 : yJ0_coder_7d493.cls ≠ "java/lang/invoke/MethodHandle" ∧ yJ0_coder_7d493.cls ≠ "java/lang/invoke/VarHandle" ∧ (parseMethodDescriptor yJ0_coder_7d493.desc).map (fun d => d.parameters.length) = some 0 := by decide +kernel
theorem ki_yJ0_coder_7d493 : Cond.instanceMethod yJ0_coder_7d493 ∈ TBL := tb_3 (List.mem_of_getElem? (i := 8) rfl)
theorem kv_yJ0_coder_7d493 : Cond.selects RJ0 yJ0_coder_7d493 yJ0_coder_7d493 ∈ TBL := tb_3 (List.mem_of_getElem? (i := 9) rfl)
theorem kc_yJ0_getBytes_840e7 : Cond.code yJ0_getBytes_840e7 cJ0_getBytes_840e7 4 none ∈ TBL := tb_25 (List.mem_of_getElem? (i := 4) rfl)
theorem ky_yJ0_getBytes_840e7 : yJ0_getBytes_840e7.cls ≠ "java/lang/invoke/MethodHandle" ∧ yJ0_getBytes_840e7.cls ≠ "java/lang/invoke/VarHandle" ∧ (parseMethodDescriptor yJ0_getBytes_840e7.desc).map (fun d => d.parameters.length) = some 3 := by decide +kernel
theorem ki_yJ0_getBytes_840e7 : Cond.instanceMethod yJ0_getBytes_840e7 ∈ TBL := tb_25 (List.mem_of_getElem? (i := 2) rfl)
theorem kv_yJ0_getBytes_840e7 : Cond.selects RJ0 yJ0_getBytes_840e7 yJ0_getBytes_840e7 ∈ TBL := tb_25 (List.mem_of_getElem? (i := 3) rfl)
theorem kc_yJ0_init_81219 : Cond.code yJ0_init_81219 cJ0_init_81219 2 none ∈ TBL := tb_25 (List.mem_of_getElem? (i := 38) rfl)
theorem ky_yJ0_init_81219 : yJ0_init_81219.cls ≠ "java/lang/invoke/MethodHandle" ∧ yJ0_init_81219.cls ≠ "java/lang/invoke/VarHandle" ∧ (parseMethodDescriptor yJ0_init_81219.desc).map (fun d => d.parameters.length) = some 1 := by decide +kernel
theorem ki_yJ0_init_81219 : Cond.instanceMethod yJ0_init_81219 ∈ TBL := tb_25 (List.mem_of_getElem? (i := 37) rfl)
theorem kc_yJ0_init_db425 : Cond.code yJ0_init_db425 cJ0_init_db425 5 none ∈ TBL := tb_26 (List.mem_of_getElem? (i := 1) rfl)
theorem ky_yJ0_init_db425 : yJ0_init_db425.cls ≠ "java/lang/invoke/MethodHandle" ∧ yJ0_init_db425.cls ≠ "java/lang/invoke/VarHandle" ∧ (parseMethodDescriptor yJ0_init_db425.desc).map (fun d => d.parameters.length) = some 2 := by decide +kernel
theorem ki_yJ0_init_db425 : Cond.instanceMethod yJ0_init_db425 ∈ TBL := tb_26 (List.mem_of_getElem? (i := 0) rfl)
theorem kc_yJ0_isLatin1_aae02 : Cond.code yJ0_isLatin1_aae02 cJ0_isLatin1_aae02 1 (some .boolean) ∈ TBL := tb_3 (List.mem_of_getElem? (i := 19) rfl)
theorem ky_yJ0_isLatin1_aae02 : yJ0_isLatin1_aae02.cls ≠ "java/lang/invoke/MethodHandle" ∧ yJ0_isLatin1_aae02.cls ≠ "java/lang/invoke/VarHandle" ∧ (parseMethodDescriptor yJ0_isLatin1_aae02.desc).map (fun d => d.parameters.length) = some 0 := by decide +kernel
theorem ki_yJ0_isLatin1_aae02 : Cond.instanceMethod yJ0_isLatin1_aae02 ∈ TBL := tb_3 (List.mem_of_getElem? (i := 17) rfl)
theorem kv_yJ0_isLatin1_aae02 : Cond.selects RJ0 yJ0_isLatin1_aae02 yJ0_isLatin1_aae02 ∈ TBL := tb_3 (List.mem_of_getElem? (i := 18) rfl)
theorem kc_yJ0_length_8abf5 : Cond.code yJ0_length_8abf5 cJ0_length_8abf5 1 (some .int) ∈ TBL := tb_3 (List.mem_of_getElem? (i := 6) rfl)
theorem ky_yJ0_length_8abf5 : yJ0_length_8abf5.cls ≠ "java/lang/invoke/MethodHandle" ∧ yJ0_length_8abf5.cls ≠ "java/lang/invoke/VarHandle" ∧ (parseMethodDescriptor yJ0_length_8abf5.desc).map (fun d => d.parameters.length) = some 0 := by decide +kernel
theorem ki_yJ0_length_8abf5 : Cond.instanceMethod yJ0_length_8abf5 ∈ TBL := tb_3 (List.mem_of_getElem? (i := 4) rfl)
theorem kv_yJ0_length_8abf5 : Cond.selects RJ0 yJ0_length_8abf5 yJ0_length_8abf5 ∈ TBL := tb_3 (List.mem_of_getElem? (i := 5) rfl)
theorem kc_yJ1_charAt_3b067 : Cond.code yJ1_charAt_3b067 cJ1_charAt_3b067 2 (some .char) ∈ TBL := tb_3 (List.mem_of_getElem? (i := 22) rfl)
theorem ky_yJ1_charAt_3b067 : yJ1_charAt_3b067.cls ≠ "java/lang/invoke/MethodHandle" ∧ yJ1_charAt_3b067.cls ≠ "java/lang/invoke/VarHandle" ∧ (parseMethodDescriptor yJ1_charAt_3b067.desc).map (fun d => d.parameters.length) = some 2 := by decide +kernel
theorem kt_yJ1_charAt_3b067 : Cond.static yJ1_charAt_3b067 ∈ TBL := tb_3 (List.mem_of_getElem? (i := 21) rfl)
theorem kn_RJ1 : Cond.initialized RJ1 ∈ TBL := tb_1 (List.mem_of_getElem? (i := 36) rfl)
theorem kc_yJ1_inflate_0e8fd : Cond.code yJ1_inflate_0e8fd cJ1_inflate_0e8fd 5 none ∈ TBL := tb_24 (List.mem_of_getElem? (i := 28) rfl)
theorem ky_yJ1_inflate_0e8fd : yJ1_inflate_0e8fd.cls ≠ "java/lang/invoke/MethodHandle" ∧ yJ1_inflate_0e8fd.cls ≠ "java/lang/invoke/VarHandle" ∧ (parseMethodDescriptor yJ1_inflate_0e8fd.desc).map (fun d => d.parameters.length) = some 5 := by decide +kernel
theorem kt_yJ1_inflate_0e8fd : Cond.static yJ1_inflate_0e8fd ∈ TBL := tb_24 (List.mem_of_getElem? (i := 27) rfl)
theorem kc_yJ2_charAt_3b067 : Cond.code yJ2_charAt_3b067 cJ2_charAt_3b067 2 (some .char) ∈ TBL := tb_3 (List.mem_of_getElem? (i := 32) rfl)
theorem ky_yJ2_charAt_3b067 : yJ2_charAt_3b067.cls ≠ "java/lang/invoke/MethodHandle" ∧ yJ2_charAt_3b067.cls ≠ "java/lang/invoke/VarHandle" ∧ (parseMethodDescriptor yJ2_charAt_3b067.desc).map (fun d => d.parameters.length) = some 2 := by decide +kernel
theorem kt_yJ2_charAt_3b067 : Cond.static yJ2_charAt_3b067 ∈ TBL := tb_3 (List.mem_of_getElem? (i := 31) rfl)
theorem kn_RJ2 : Cond.initialized RJ2 ∈ TBL := tb_1 (List.mem_of_getElem? (i := 30) rfl)
theorem kc_yJ2_checkBoundsBeginEnd_d044e : Cond.code yJ2_checkBoundsBeginEnd_d044e cJ2_checkBoundsBeginEnd_d044e 3 none ∈ TBL := tb_24 (List.mem_of_getElem? (i := 5) rfl)
theorem ky_yJ2_checkBoundsBeginEnd_d044e : yJ2_checkBoundsBeginEnd_d044e.cls ≠ "java/lang/invoke/MethodHandle" ∧ yJ2_checkBoundsBeginEnd_d044e.cls ≠ "java/lang/invoke/VarHandle" ∧ (parseMethodDescriptor yJ2_checkBoundsBeginEnd_d044e.desc).map (fun d => d.parameters.length) = some 3 := by decide +kernel
theorem kt_yJ2_checkBoundsBeginEnd_d044e : Cond.static yJ2_checkBoundsBeginEnd_d044e ∈ TBL := tb_24 (List.mem_of_getElem? (i := 4) rfl)
theorem kc_yJ2_checkBoundsOffCount_d044e : Cond.code yJ2_checkBoundsOffCount_d044e cJ2_checkBoundsOffCount_d044e 3 none ∈ TBL := tb_24 (List.mem_of_getElem? (i := 34) rfl)
theorem ky_yJ2_checkBoundsOffCount_d044e : yJ2_checkBoundsOffCount_d044e.cls ≠ "java/lang/invoke/MethodHandle" ∧ yJ2_checkBoundsOffCount_d044e.cls ≠ "java/lang/invoke/VarHandle" ∧ (parseMethodDescriptor yJ2_checkBoundsOffCount_d044e.desc).map (fun d => d.parameters.length) = some 3 := by decide +kernel
theorem kt_yJ2_checkBoundsOffCount_d044e : Cond.static yJ2_checkBoundsOffCount_d044e ∈ TBL := tb_24 (List.mem_of_getElem? (i := 33) rfl)
theorem kc_yJ2_checkIndex_2214a : Cond.code yJ2_checkIndex_2214a cJ2_checkIndex_2214a 2 none ∈ TBL := tb_3 (List.mem_of_getElem? (i := 35) rfl)
theorem ky_yJ2_checkIndex_2214a : yJ2_checkIndex_2214a.cls ≠ "java/lang/invoke/MethodHandle" ∧ yJ2_checkIndex_2214a.cls ≠ "java/lang/invoke/VarHandle" ∧ (parseMethodDescriptor yJ2_checkIndex_2214a.desc).map (fun d => d.parameters.length) = some 2 := by decide +kernel
theorem kt_yJ2_checkIndex_2214a : Cond.static yJ2_checkIndex_2214a ∈ TBL := tb_3 (List.mem_of_getElem? (i := 34) rfl)
theorem kc_yJ2_coderFromArrayLen_85cad : Cond.code yJ2_coderFromArrayLen_85cad cJ2_coderFromArrayLen_85cad 2 (some .byte) ∈ TBL := tb_26 (List.mem_of_getElem? (i := 35) rfl)
theorem ky_yJ2_coderFromArrayLen_85cad : yJ2_coderFromArrayLen_85cad.cls ≠ "java/lang/invoke/MethodHandle" ∧ yJ2_coderFromArrayLen_85cad.cls ≠ "java/lang/invoke/VarHandle" ∧ (parseMethodDescriptor yJ2_coderFromArrayLen_85cad.desc).map (fun d => d.parameters.length) = some 2 := by decide +kernel
theorem kt_yJ2_coderFromArrayLen_85cad : Cond.static yJ2_coderFromArrayLen_85cad ∈ TBL := tb_26 (List.mem_of_getElem? (i := 34) rfl)
theorem kc_yJ2_compress_39247 : Cond.code yJ2_compress_39247 cJ2_compress_39247 6 (some (.array .byte)) ∈ TBL := tb_26 (List.mem_of_getElem? (i := 28) rfl)
theorem ky_yJ2_compress_39247 : yJ2_compress_39247.cls ≠ "java/lang/invoke/MethodHandle" ∧ yJ2_compress_39247.cls ≠ "java/lang/invoke/VarHandle" ∧ (parseMethodDescriptor yJ2_compress_39247.desc).map (fun d => d.parameters.length) = some 3 := by decide +kernel
theorem kt_yJ2_compress_39247 : Cond.static yJ2_compress_39247 ∈ TBL := tb_26 (List.mem_of_getElem? (i := 27) rfl)
theorem kc_yJ2_compress_5af95 : Cond.code yJ2_compress_5af95 cJ2_compress_5af95 7 (some .int) ∈ TBL := tb_26 (List.mem_of_getElem? (i := 31) rfl)
theorem ky_yJ2_compress_5af95 : yJ2_compress_5af95.cls ≠ "java/lang/invoke/MethodHandle" ∧ yJ2_compress_5af95.cls ≠ "java/lang/invoke/VarHandle" ∧ (parseMethodDescriptor yJ2_compress_5af95.desc).map (fun d => d.parameters.length) = some 5 := by decide +kernel
theorem kt_yJ2_compress_5af95 : Cond.static yJ2_compress_5af95 ∈ TBL := tb_26 (List.mem_of_getElem? (i := 30) rfl)
theorem kc_yJ2_getChar_3b067 : Cond.code yJ2_getChar_3b067 cJ2_getChar_3b067 2 (some .char) ∈ TBL := tb_4 (List.mem_of_getElem? (i := 2) rfl)
theorem ky_yJ2_getChar_3b067 : yJ2_getChar_3b067.cls ≠ "java/lang/invoke/MethodHandle" ∧ yJ2_getChar_3b067.cls ≠ "java/lang/invoke/VarHandle" ∧ (parseMethodDescriptor yJ2_getChar_3b067.desc).map (fun d => d.parameters.length) = some 2 := by decide +kernel
theorem kt_yJ2_getChar_3b067 : Cond.static yJ2_getChar_3b067 ∈ TBL := tb_4 (List.mem_of_getElem? (i := 1) rfl)
theorem kc_yJ2_getChars_46870 : Cond.code yJ2_getChars_46870 cJ2_getChars_46870 5 (some .int) ∈ TBL := tb_25 (List.mem_of_getElem? (i := 24) rfl)
theorem ky_yJ2_getChars_46870 : yJ2_getChars_46870.cls ≠ "java/lang/invoke/MethodHandle" ∧ yJ2_getChars_46870.cls ≠ "java/lang/invoke/VarHandle" ∧ (parseMethodDescriptor yJ2_getChars_46870.desc).map (fun d => d.parameters.length) = some 4 := by decide +kernel
theorem kt_yJ2_getChars_46870 : Cond.static yJ2_getChars_46870 ∈ TBL := tb_25 (List.mem_of_getElem? (i := 23) rfl)
theorem kc_yJ2_getChars_ba4f3 : Cond.code yJ2_getChars_ba4f3 cJ2_getChars_ba4f3 7 (some .int) ∈ TBL := tb_25 (List.mem_of_getElem? (i := 27) rfl)
theorem ky_yJ2_getChars_ba4f3 : yJ2_getChars_ba4f3.cls ≠ "java/lang/invoke/MethodHandle" ∧ yJ2_getChars_ba4f3.cls ≠ "java/lang/invoke/VarHandle" ∧ (parseMethodDescriptor yJ2_getChars_ba4f3.desc).map (fun d => d.parameters.length) = some 3 := by decide +kernel
theorem kt_yJ2_getChars_ba4f3 : Cond.static yJ2_getChars_ba4f3 ∈ TBL := tb_25 (List.mem_of_getElem? (i := 26) rfl)
theorem kc_yJ2_inflate_0e8fd : Cond.code yJ2_inflate_0e8fd cJ2_inflate_0e8fd 6 none ∈ TBL := tb_24 (List.mem_of_getElem? (i := 31) rfl)
theorem ky_yJ2_inflate_0e8fd : yJ2_inflate_0e8fd.cls ≠ "java/lang/invoke/MethodHandle" ∧ yJ2_inflate_0e8fd.cls ≠ "java/lang/invoke/VarHandle" ∧ (parseMethodDescriptor yJ2_inflate_0e8fd.desc).map (fun d => d.parameters.length) = some 5 := by decide +kernel
theorem kt_yJ2_inflate_0e8fd : Cond.static yJ2_inflate_0e8fd ∈ TBL := tb_24 (List.mem_of_getElem? (i := 30) rfl)
theorem kc_yJ2_length_9d52b : Cond.code yJ2_length_9d52b cJ2_length_9d52b 1 (some .int) ∈ TBL := tb_3 (List.mem_of_getElem? (i := 38) rfl)
theorem ky_yJ2_length_9d52b : yJ2_length_9d52b.cls ≠ "java/lang/invoke/MethodHandle" ∧ yJ2_length_9d52b.cls ≠ "java/lang/invoke/VarHandle" ∧ (parseMethodDescriptor yJ2_length_9d52b.desc).map (fun d => d.parameters.length) = some 1 := by decide +kernel
theorem kt_yJ2_length_9d52b : Cond.static yJ2_length_9d52b ∈ TBL := tb_3 (List.mem_of_getElem? (i := 37) rfl)
theorem kc_yJ2_newBytesFor_77867 : Cond.code yJ2_newBytesFor_77867 cJ2_newBytesFor_77867 1 (some (.array .byte)) ∈ TBL := tb_22 (List.mem_of_getElem? (i := 21) rfl)
theorem ky_yJ2_newBytesFor_77867 : yJ2_newBytesFor_77867.cls ≠ "java/lang/invoke/MethodHandle" ∧ yJ2_newBytesFor_77867.cls ≠ "java/lang/invoke/VarHandle" ∧ (parseMethodDescriptor yJ2_newBytesFor_77867.desc).map (fun d => d.parameters.length) = some 1 := by decide +kernel
theorem kt_yJ2_newBytesFor_77867 : Cond.static yJ2_newBytesFor_77867 ∈ TBL := tb_22 (List.mem_of_getElem? (i := 20) rfl)
theorem kc_yJ2_newBytesLength_0f7a4 : Cond.code yJ2_newBytesLength_0f7a4 cJ2_newBytesLength_0f7a4 1 (some .int) ∈ TBL := tb_22 (List.mem_of_getElem? (i := 24) rfl)
theorem ky_yJ2_newBytesLength_0f7a4 : yJ2_newBytesLength_0f7a4.cls ≠ "java/lang/invoke/MethodHandle" ∧ yJ2_newBytesLength_0f7a4.cls ≠ "java/lang/invoke/VarHandle" ∧ (parseMethodDescriptor yJ2_newBytesLength_0f7a4.desc).map (fun d => d.parameters.length) = some 1 := by decide +kernel
theorem kt_yJ2_newBytesLength_0f7a4 : Cond.static yJ2_newBytesLength_0f7a4 ∈ TBL := tb_22 (List.mem_of_getElem? (i := 23) rfl)
theorem kc_yJ2_putChar_b72d1 : Cond.code yJ2_putChar_b72d1 cJ2_putChar_b72d1 3 none ∈ TBL := tb_24 (List.mem_of_getElem? (i := 14) rfl)
theorem ky_yJ2_putChar_b72d1 : yJ2_putChar_b72d1.cls ≠ "java/lang/invoke/MethodHandle" ∧ yJ2_putChar_b72d1.cls ≠ "java/lang/invoke/VarHandle" ∧ (parseMethodDescriptor yJ2_putChar_b72d1.desc).map (fun d => d.parameters.length) = some 3 := by decide +kernel
theorem kt_yJ2_putChar_b72d1 : Cond.static yJ2_putChar_b72d1 ∈ TBL := tb_24 (List.mem_of_getElem? (i := 13) rfl)
theorem kc_yJ2_putCharsAt_cd4e5 : Cond.code yJ2_putCharsAt_cd4e5 cJ2_putCharsAt_cd4e5 7 (some .int) ∈ TBL := tb_24 (List.mem_of_getElem? (i := 2) rfl)
theorem ky_yJ2_putCharsAt_cd4e5 : yJ2_putCharsAt_cd4e5.cls ≠ "java/lang/invoke/MethodHandle" ∧ yJ2_putCharsAt_cd4e5.cls ≠ "java/lang/invoke/VarHandle" ∧ (parseMethodDescriptor yJ2_putCharsAt_cd4e5.desc).map (fun d => d.parameters.length) = some 6 := by decide +kernel
theorem kt_yJ2_putCharsAt_cd4e5 : Cond.static yJ2_putCharsAt_cd4e5 ∈ TBL := tb_24 (List.mem_of_getElem? (i := 1) rfl)
theorem kc_yJ4_append_15ec4 : Cond.code yJ4_append_15ec4 cJ4_append_15ec4 2 (some (.object "java/lang/StringBuilder")) ∈ TBL := tb_23 (List.mem_of_getElem? (i := 2) rfl)
theorem ky_yJ4_append_15ec4 : yJ4_append_15ec4.cls ≠ "java/lang/invoke/MethodHandle" ∧ yJ4_append_15ec4.cls ≠ "java/lang/invoke/VarHandle" ∧ (parseMethodDescriptor yJ4_append_15ec4.desc).map (fun d => d.parameters.length) = some 1 := by decide +kernel
theorem ki_yJ4_append_15ec4 : Cond.instanceMethod yJ4_append_15ec4 ∈ TBL := tb_23 (List.mem_of_getElem? (i := 0) rfl)
theorem kv_yJ4_append_15ec4 : Cond.selects RJ4 yJ4_append_15ec4 yJ4_append_15ec4 ∈ TBL := tb_23 (List.mem_of_getElem? (i := 1) rfl)
theorem kn_RJ4 : Cond.initialized RJ4 ∈ TBL := tb_1 (List.mem_of_getElem? (i := 28) rfl)
theorem kc_yJ4_append_bf812 : Cond.code yJ4_append_bf812 cJ4_append_bf812 2 (some (.object "java/lang/StringBuilder")) ∈ TBL := tb_25 (List.mem_of_getElem? (i := 10) rfl)
theorem ky_yJ4_append_bf812 : yJ4_append_bf812.cls ≠ "java/lang/invoke/MethodHandle" ∧ yJ4_append_bf812.cls ≠ "java/lang/invoke/VarHandle" ∧ (parseMethodDescriptor yJ4_append_bf812.desc).map (fun d => d.parameters.length) = some 1 := by decide +kernel
theorem ki_yJ4_append_bf812 : Cond.instanceMethod yJ4_append_bf812 ∈ TBL := tb_25 (List.mem_of_getElem? (i := 8) rfl)
theorem kv_yJ4_append_bf812 : Cond.selects RJ4 yJ4_append_bf812 yJ4_append_bf812 ∈ TBL := tb_25 (List.mem_of_getElem? (i := 9) rfl)
theorem kc_yJ4_init_da8c8 : Cond.code yJ4_init_da8c8 cJ4_init_da8c8 1 none ∈ TBL := tb_22 (List.mem_of_getElem? (i := 13) rfl)
theorem ky_yJ4_init_da8c8 : yJ4_init_da8c8.cls ≠ "java/lang/invoke/MethodHandle" ∧ yJ4_init_da8c8.cls ≠ "java/lang/invoke/VarHandle" ∧ (parseMethodDescriptor yJ4_init_da8c8.desc).map (fun d => d.parameters.length) = some 0 := by decide +kernel
theorem ki_yJ4_init_da8c8 : Cond.instanceMethod yJ4_init_da8c8 ∈ TBL := tb_22 (List.mem_of_getElem? (i := 12) rfl)
theorem kc_yJ4_toString_0e30d : Cond.code yJ4_toString_0e30d cJ4_toString_0e30d 1 (some (.object "java/lang/String")) ∈ TBL := tb_25 (List.mem_of_getElem? (i := 33) rfl)
theorem ky_yJ4_toString_0e30d : yJ4_toString_0e30d.cls ≠ "java/lang/invoke/MethodHandle" ∧ yJ4_toString_0e30d.cls ≠ "java/lang/invoke/VarHandle" ∧ (parseMethodDescriptor yJ4_toString_0e30d.desc).map (fun d => d.parameters.length) = some 0 := by decide +kernel
theorem ki_yJ4_toString_0e30d : Cond.instanceMethod yJ4_toString_0e30d ∈ TBL := tb_25 (List.mem_of_getElem? (i := 31) rfl)
theorem kv_yJ4_toString_0e30d : Cond.selects RJ4 yJ4_toString_0e30d yJ4_toString_0e30d ∈ TBL := tb_25 (List.mem_of_getElem? (i := 32) rfl)
theorem kc_yJ5_appendNull_278bc : Cond.code yJ5_appendNull_278bc cJ5_appendNull_278bc 3 (some (.object "java/lang/AbstractStringBuilder")) ∈ TBL := tb_23 (List.mem_of_getElem? (i := 8) rfl)
theorem ky_yJ5_appendNull_278bc : yJ5_appendNull_278bc.cls ≠ "java/lang/invoke/MethodHandle" ∧ yJ5_appendNull_278bc.cls ≠ "java/lang/invoke/VarHandle" ∧ (parseMethodDescriptor yJ5_appendNull_278bc.desc).map (fun d => d.parameters.length) = some 0 := by decide +kernel
theorem ki_yJ5_appendNull_278bc : Cond.instanceMethod yJ5_appendNull_278bc ∈ TBL := tb_23 (List.mem_of_getElem? (i := 7) rfl)
theorem kn_RJ5 : Cond.initialized RJ5 ∈ TBL := tb_1 (List.mem_of_getElem? (i := 27) rfl)
theorem kc_yJ5_append_c97b9 : Cond.code yJ5_append_c97b9 cJ5_append_c97b9 4 (some (.object "java/lang/AbstractStringBuilder")) ∈ TBL := tb_25 (List.mem_of_getElem? (i := 13) rfl)
theorem ky_yJ5_append_c97b9 : yJ5_append_c97b9.cls ≠ "java/lang/invoke/MethodHandle" ∧ yJ5_append_c97b9.cls ≠ "java/lang/invoke/VarHandle" ∧ (parseMethodDescriptor yJ5_append_c97b9.desc).map (fun d => d.parameters.length) = some 1 := by decide +kernel
theorem ki_yJ5_append_c97b9 : Cond.instanceMethod yJ5_append_c97b9 ∈ TBL := tb_25 (List.mem_of_getElem? (i := 12) rfl)
theorem kc_yJ5_append_cf1ce : Cond.code yJ5_append_cf1ce cJ5_append_cf1ce 3 (some (.object "java/lang/AbstractStringBuilder")) ∈ TBL := tb_23 (List.mem_of_getElem? (i := 5) rfl)
theorem ky_yJ5_append_cf1ce : yJ5_append_cf1ce.cls ≠ "java/lang/invoke/MethodHandle" ∧ yJ5_append_cf1ce.cls ≠ "java/lang/invoke/VarHandle" ∧ (parseMethodDescriptor yJ5_append_cf1ce.desc).map (fun d => d.parameters.length) = some 1 := by decide +kernel
theorem ki_yJ5_append_cf1ce : Cond.instanceMethod yJ5_append_cf1ce ∈ TBL := tb_23 (List.mem_of_getElem? (i := 4) rfl)
theorem kc_yJ5_ensureCapacityInternal_d00df : Cond.code yJ5_ensureCapacityInternal_d00df cJ5_ensureCapacityInternal_d00df 3 none ∈ TBL := tb_23 (List.mem_of_getElem? (i := 11) rfl)
theorem ky_yJ5_ensureCapacityInternal_d00df : yJ5_ensureCapacityInternal_d00df.cls ≠ "java/lang/invoke/MethodHandle" ∧ yJ5_ensureCapacityInternal_d00df.cls ≠ "java/lang/invoke/VarHandle" ∧ (parseMethodDescriptor yJ5_ensureCapacityInternal_d00df.desc).map (fun d => d.parameters.length) = some 1 := by decide +kernel
theorem ki_yJ5_ensureCapacityInternal_d00df : Cond.instanceMethod yJ5_ensureCapacityInternal_d00df ∈ TBL := tb_23 (List.mem_of_getElem? (i := 10) rfl)
theorem kc_yJ5_getValue_6d5f1 : Cond.code yJ5_getValue_6d5f1 cJ5_getValue_6d5f1 1 (some (.array .byte)) ∈ TBL := tb_26 (List.mem_of_getElem? (i := 7) rfl)
theorem ky_yJ5_getValue_6d5f1 : yJ5_getValue_6d5f1.cls ≠ "java/lang/invoke/MethodHandle" ∧ yJ5_getValue_6d5f1.cls ≠ "java/lang/invoke/VarHandle" ∧ (parseMethodDescriptor yJ5_getValue_6d5f1.desc).map (fun d => d.parameters.length) = some 0 := by decide +kernel
theorem ki_yJ5_getValue_6d5f1 : Cond.instanceMethod yJ5_getValue_6d5f1 ∈ TBL := tb_26 (List.mem_of_getElem? (i := 4) rfl)
theorem kc_yJ5_inflateIfNeededFor_a7421 : Cond.code yJ5_inflateIfNeededFor_a7421 cJ5_inflateIfNeededFor_a7421 2 none ∈ TBL := tb_24 (List.mem_of_getElem? (i := 21) rfl)
theorem ky_yJ5_inflateIfNeededFor_a7421 : yJ5_inflateIfNeededFor_a7421.cls ≠ "java/lang/invoke/MethodHandle" ∧ yJ5_inflateIfNeededFor_a7421.cls ≠ "java/lang/invoke/VarHandle" ∧ (parseMethodDescriptor yJ5_inflateIfNeededFor_a7421.desc).map (fun d => d.parameters.length) = some 1 := by decide +kernel
theorem ki_yJ5_inflateIfNeededFor_a7421 : Cond.instanceMethod yJ5_inflateIfNeededFor_a7421 ∈ TBL := tb_24 (List.mem_of_getElem? (i := 20) rfl)
theorem kc_yJ5_inflate_da8c8 : Cond.code yJ5_inflate_da8c8 cJ5_inflate_da8c8 2 none ∈ TBL := tb_24 (List.mem_of_getElem? (i := 25) rfl)
theorem ky_yJ5_inflate_da8c8 : yJ5_inflate_da8c8.cls ≠ "java/lang/invoke/MethodHandle" ∧ yJ5_inflate_da8c8.cls ≠ "java/lang/invoke/VarHandle" ∧ (parseMethodDescriptor yJ5_inflate_da8c8.desc).map (fun d => d.parameters.length) = some 0 := by decide +kernel
theorem ki_yJ5_inflate_da8c8 : Cond.instanceMethod yJ5_inflate_da8c8 ∈ TBL := tb_24 (List.mem_of_getElem? (i := 24) rfl)
theorem kc_yJ5_init_d00df : Cond.code yJ5_init_d00df cJ5_init_d00df 2 none ∈ TBL := tb_22 (List.mem_of_getElem? (i := 16) rfl)
theorem ky_yJ5_init_d00df : yJ5_init_d00df.cls ≠ "java/lang/invoke/MethodHandle" ∧ yJ5_init_d00df.cls ≠ "java/lang/invoke/VarHandle" ∧ (parseMethodDescriptor yJ5_init_d00df.desc).map (fun d => d.parameters.length) = some 1 := by decide +kernel
theorem ki_yJ5_init_d00df : Cond.instanceMethod yJ5_init_d00df ∈ TBL := tb_22 (List.mem_of_getElem? (i := 15) rfl)
theorem kc_yJ5_isLatin1_aae02 : Cond.code yJ5_isLatin1_aae02 cJ5_isLatin1_aae02 1 (some .boolean) ∈ TBL := tb_23 (List.mem_of_getElem? (i := 39) rfl)
theorem ky_yJ5_isLatin1_aae02 : yJ5_isLatin1_aae02.cls ≠ "java/lang/invoke/MethodHandle" ∧ yJ5_isLatin1_aae02.cls ≠ "java/lang/invoke/VarHandle" ∧ (parseMethodDescriptor yJ5_isLatin1_aae02.desc).map (fun d => d.parameters.length) = some 0 := by decide +kernel
theorem ki_yJ5_isLatin1_aae02 : Cond.instanceMethod yJ5_isLatin1_aae02 ∈ TBL := tb_23 (List.mem_of_getElem? (i := 36) rfl)
theorem kc_yJ5_length_8abf5 : Cond.code yJ5_length_8abf5 cJ5_length_8abf5 1 (some .int) ∈ TBL := tb_26 (List.mem_of_getElem? (i := 15) rfl)
theorem ky_yJ5_length_8abf5 : yJ5_length_8abf5.cls ≠ "java/lang/invoke/MethodHandle" ∧ yJ5_length_8abf5.cls ≠ "java/lang/invoke/VarHandle" ∧ (parseMethodDescriptor yJ5_length_8abf5.desc).map (fun d => d.parameters.length) = some 0 := by decide +kernel
theorem ki_yJ5_length_8abf5 : Cond.instanceMethod yJ5_length_8abf5 ∈ TBL := tb_26 (List.mem_of_getElem? (i := 9) rfl)
theorem kc_yJ5_newCapacity_0f7a4 : Cond.code yJ5_newCapacity_0f7a4 cJ5_newCapacity_0f7a4 6 (some .int) ∈ TBL := tb_23 (List.mem_of_getElem? (i := 14) rfl)
theorem ky_yJ5_newCapacity_0f7a4 : yJ5_newCapacity_0f7a4.cls ≠ "java/lang/invoke/MethodHandle" ∧ yJ5_newCapacity_0f7a4.cls ≠ "java/lang/invoke/VarHandle" ∧ (parseMethodDescriptor yJ5_newCapacity_0f7a4.desc).map (fun d => d.parameters.length) = some 1 := by decide +kernel
theorem ki_yJ5_newCapacity_0f7a4 : Cond.instanceMethod yJ5_newCapacity_0f7a4 ∈ TBL := tb_23 (List.mem_of_getElem? (i := 13) rfl)
theorem kc_yJ5_putStringAt_47b60 : Cond.code yJ5_putStringAt_47b60 cJ5_putStringAt_47b60 3 none ∈ TBL := tb_24 (List.mem_of_getElem? (i := 18) rfl)
theorem ky_yJ5_putStringAt_47b60 : yJ5_putStringAt_47b60.cls ≠ "java/lang/invoke/MethodHandle" ∧ yJ5_putStringAt_47b60.cls ≠ "java/lang/invoke/VarHandle" ∧ (parseMethodDescriptor yJ5_putStringAt_47b60.desc).map (fun d => d.parameters.length) = some 2 := by decide +kernel
theorem ki_yJ5_putStringAt_47b60 : Cond.instanceMethod yJ5_putStringAt_47b60 ∈ TBL := tb_24 (List.mem_of_getElem? (i := 17) rfl)
theorem kc_yJ6_compare_7cf53 : Cond.code yJ6_compare_7cf53 cJ6_compare_7cf53 2 (some .int) ∈ TBL := tb_12 (List.mem_of_getElem? (i := 29) rfl)
theorem ky_yJ6_compare_7cf53 : yJ6_compare_7cf53.cls ≠ "java/lang/invoke/MethodHandle" ∧ yJ6_compare_7cf53.cls ≠ "java/lang/invoke/VarHandle" ∧ (parseMethodDescriptor yJ6_compare_7cf53.desc).map (fun d => d.parameters.length) = some 2 := by decide +kernel
theorem kt_yJ6_compare_7cf53 : Cond.static yJ6_compare_7cf53 ∈ TBL := tb_12 (List.mem_of_getElem? (i := 28) rfl)
theorem kn_RJ6 : Cond.initialized RJ6 ∈ TBL := tb_1 (List.mem_of_getElem? (i := 37) rfl)
theorem kc_yJ6_getChars_ba4f3 : Cond.code yJ6_getChars_ba4f3 cJ6_getChars_ba4f3 7 (some .int) ∈ TBL := tb_25 (List.mem_of_getElem? (i := 19) rfl)
theorem ky_yJ6_getChars_ba4f3 : yJ6_getChars_ba4f3.cls ≠ "java/lang/invoke/MethodHandle" ∧ yJ6_getChars_ba4f3.cls ≠ "java/lang/invoke/VarHandle" ∧ (parseMethodDescriptor yJ6_getChars_ba4f3.desc).map (fun d => d.parameters.length) = some 3 := by decide +kernel
theorem kt_yJ6_getChars_ba4f3 : Cond.static yJ6_getChars_ba4f3 ∈ TBL := tb_25 (List.mem_of_getElem? (i := 18) rfl)
theorem kc_yJ6_stringSize_0f7a4 : Cond.code yJ6_stringSize_0f7a4 cJ6_stringSize_0f7a4 4 (some .int) ∈ TBL := tb_25 (List.mem_of_getElem? (i := 16) rfl)
theorem ky_yJ6_stringSize_0f7a4 : yJ6_stringSize_0f7a4.cls ≠ "java/lang/invoke/MethodHandle" ∧ yJ6_stringSize_0f7a4.cls ≠ "java/lang/invoke/VarHandle" ∧ (parseMethodDescriptor yJ6_stringSize_0f7a4.desc).map (fun d => d.parameters.length) = some 1 := by decide +kernel
theorem kt_yJ6_stringSize_0f7a4 : Cond.static yJ6_stringSize_0f7a4 ∈ TBL := tb_25 (List.mem_of_getElem? (i := 15) rfl)
theorem kc_yJ7_checkLength_df160 : Cond.code yJ7_checkLength_df160 cJ7_checkLength_df160 2 none ∈ TBL := tb_26 (List.mem_of_getElem? (i := 25) rfl)
theorem ky_yJ7_checkLength_df160 : yJ7_checkLength_df160.cls ≠ "java/lang/invoke/MethodHandle" ∧ yJ7_checkLength_df160.cls ≠ "java/lang/invoke/VarHandle" ∧ (parseMethodDescriptor yJ7_checkLength_df160.desc).map (fun d => d.parameters.length) = some 2 := by decide +kernel
theorem kt_yJ7_checkLength_df160 : Cond.static yJ7_checkLength_df160 ∈ TBL := tb_26 (List.mem_of_getElem? (i := 24) rfl)
theorem kn_RJ7 : Cond.initialized RJ7 ∈ TBL := tb_1 (List.mem_of_getElem? (i := 33) rfl)
theorem kc_yJ7_copyOfRangeByte_39247 : Cond.code yJ7_copyOfRangeByte_39247 cJ7_copyOfRangeByte_39247 5 (some (.array .byte)) ∈ TBL := tb_26 (List.mem_of_getElem? (i := 22) rfl)
theorem ky_yJ7_copyOfRangeByte_39247 : yJ7_copyOfRangeByte_39247.cls ≠ "java/lang/invoke/MethodHandle" ∧ yJ7_copyOfRangeByte_39247.cls ≠ "java/lang/invoke/VarHandle" ∧ (parseMethodDescriptor yJ7_copyOfRangeByte_39247.desc).map (fun d => d.parameters.length) = some 3 := by decide +kernel
theorem kt_yJ7_copyOfRangeByte_39247 : Cond.static yJ7_copyOfRangeByte_39247 ∈ TBL := tb_26 (List.mem_of_getElem? (i := 21) rfl)
theorem kc_yJ7_copyOfRange_39247 : Cond.code yJ7_copyOfRange_39247 cJ7_copyOfRange_39247 3 (some (.array .byte)) ∈ TBL := tb_26 (List.mem_of_getElem? (i := 19) rfl)
theorem ky_yJ7_copyOfRange_39247 : yJ7_copyOfRange_39247.cls ≠ "java/lang/invoke/MethodHandle" ∧ yJ7_copyOfRange_39247.cls ≠ "java/lang/invoke/VarHandle" ∧ (parseMethodDescriptor yJ7_copyOfRange_39247.desc).map (fun d => d.parameters.length) = some 3 := by decide +kernel
theorem kt_yJ7_copyOfRange_39247 : Cond.static yJ7_copyOfRange_39247 ∈ TBL := tb_26 (List.mem_of_getElem? (i := 18) rfl)
theorem kc_yJ7_copyOf_9075b : Cond.code yJ7_copyOf_9075b cJ7_copyOf_9075b 3 (some (.array .byte)) ∈ TBL := tb_23 (List.mem_of_getElem? (i := 26) rfl)
theorem ky_yJ7_copyOf_9075b : yJ7_copyOf_9075b.cls ≠ "java/lang/invoke/MethodHandle" ∧ yJ7_copyOf_9075b.cls ≠ "java/lang/invoke/VarHandle" ∧ (parseMethodDescriptor yJ7_copyOf_9075b.desc).map (fun d => d.parameters.length) = some 2 := by decide +kernel
theorem kt_yJ7_copyOf_9075b : Cond.static yJ7_copyOf_9075b ∈ TBL := tb_23 (List.mem_of_getElem? (i := 25) rfl)
theorem kc_yJ8_hugeLength_7cf53 : Cond.code yJ8_hugeLength_7cf53 cJ8_hugeLength_7cf53 3 (some .int) ∈ TBL := tb_23 (List.mem_of_getElem? (i := 22) rfl)
theorem ky_yJ8_hugeLength_7cf53 : yJ8_hugeLength_7cf53.cls ≠ "java/lang/invoke/MethodHandle" ∧ yJ8_hugeLength_7cf53.cls ≠ "java/lang/invoke/VarHandle" ∧ (parseMethodDescriptor yJ8_hugeLength_7cf53.desc).map (fun d => d.parameters.length) = some 2 := by decide +kernel
theorem kt_yJ8_hugeLength_7cf53 : Cond.static yJ8_hugeLength_7cf53 ∈ TBL := tb_23 (List.mem_of_getElem? (i := 21) rfl)
theorem kn_RJ8 : Cond.initialized RJ8 ∈ TBL := tb_1 (List.mem_of_getElem? (i := 31) rfl)
theorem kc_yJ8_newLength_cabcc : Cond.code yJ8_newLength_cabcc cJ8_newLength_cabcc 4 (some .int) ∈ TBL := tb_23 (List.mem_of_getElem? (i := 17) rfl)
theorem ky_yJ8_newLength_cabcc : yJ8_newLength_cabcc.cls ≠ "java/lang/invoke/MethodHandle" ∧ yJ8_newLength_cabcc.cls ≠ "java/lang/invoke/VarHandle" ∧ (parseMethodDescriptor yJ8_newLength_cabcc.desc).map (fun d => d.parameters.length) = some 3 := by decide +kernel
theorem kt_yJ8_newLength_cabcc : Cond.static yJ8_newLength_cabcc ∈ TBL := tb_23 (List.mem_of_getElem? (i := 16) rfl)
theorem kc_yJ9_max_7cf53 : Cond.code yJ9_max_7cf53 cJ9_max_7cf53 2 (some .int) ∈ TBL := tb_12 (List.mem_of_getElem? (i := 9) rfl)
theorem ky_yJ9_max_7cf53 : yJ9_max_7cf53.cls ≠ "java/lang/invoke/MethodHandle" ∧ yJ9_max_7cf53.cls ≠ "java/lang/invoke/VarHandle" ∧ (parseMethodDescriptor yJ9_max_7cf53.desc).map (fun d => d.parameters.length) = some 2 := by decide +kernel
theorem kt_yJ9_max_7cf53 : Cond.static yJ9_max_7cf53 ∈ TBL := tb_12 (List.mem_of_getElem? (i := 8) rfl)
theorem kn_RJ9 : Cond.initialized RJ9 ∈ TBL := tb_1 (List.mem_of_getElem? (i := 32) rfl)
theorem kc_yJ9_min_7cf53 : Cond.code yJ9_min_7cf53 cJ9_min_7cf53 2 (some .int) ∈ TBL := tb_2 (List.mem_of_getElem? (i := 15) rfl)
theorem ky_yJ9_min_7cf53 : yJ9_min_7cf53.cls ≠ "java/lang/invoke/MethodHandle" ∧ yJ9_min_7cf53.cls ≠ "java/lang/invoke/VarHandle" ∧ (parseMethodDescriptor yJ9_min_7cf53.desc).map (fun d => d.parameters.length) = some 2 := by decide +kernel
theorem kt_yJ9_min_7cf53 : Cond.static yJ9_min_7cf53 ∈ TBL := tb_2 (List.mem_of_getElem? (i := 14) rfl)
theorem kc_yL_below : Cond.code yL_below cL_below 2 (some .int) ∈ TBL := tb_15 (List.mem_of_getElem? (i := 9) rfl)
theorem ky_yL_below : yL_below.cls ≠ "java/lang/invoke/MethodHandle" ∧ yL_below.cls ≠ "java/lang/invoke/VarHandle" ∧ (parseMethodDescriptor yL_below.desc).map (fun d => d.parameters.length) = some 2 := by decide +kernel
theorem kt_yL_below : Cond.static yL_below ∈ TBL := tb_15 (List.mem_of_getElem? (i := 8) rfl)
theorem kn_RL : Cond.initialized RL ∈ TBL := tb_1 (List.mem_of_getElem? (i := 13) rfl)
theorem kc_yL_bog : Cond.code yL_bog cL_bog 5 (some (.object "PeatBog")) ∈ TBL := tb_15 (List.mem_of_getElem? (i := 36) rfl)
theorem ky_yL_bog : yL_bog.cls ≠ "java/lang/invoke/MethodHandle" ∧ yL_bog.cls ≠ "java/lang/invoke/VarHandle" ∧ (parseMethodDescriptor yL_bog.desc).map (fun d => d.parameters.length) = some 1 := by decide +kernel
theorem kt_yL_bog : Cond.static yL_bog ∈ TBL := tb_15 (List.mem_of_getElem? (i := 35) rfl)
theorem kc_yL_cell : Cond.code yL_cell cL_cell 2 (some .int) ∈ TBL := tb_15 (List.mem_of_getElem? (i := 13) rfl)
theorem ky_yL_cell : yL_cell.cls ≠ "java/lang/invoke/MethodHandle" ∧ yL_cell.cls ≠ "java/lang/invoke/VarHandle" ∧ (parseMethodDescriptor yL_cell.desc).map (fun d => d.parameters.length) = some 2 := by decide +kernel
theorem kt_yL_cell : Cond.static yL_cell ∈ TBL := tb_15 (List.mem_of_getElem? (i := 12) rfl)
theorem kc_yL_orders : Cond.code yL_orders cL_orders 5 (some (.array .int)) ∈ TBL := tb_22 (List.mem_of_getElem? (i := 5) rfl)
theorem ky_yL_orders : yL_orders.cls ≠ "java/lang/invoke/MethodHandle" ∧ yL_orders.cls ≠ "java/lang/invoke/VarHandle" ∧ (parseMethodDescriptor yL_orders.desc).map (fun d => d.parameters.length) = some 2 := by decide +kernel
theorem kt_yL_orders : Cond.static yL_orders ∈ TBL := tb_22 (List.mem_of_getElem? (i := 4) rfl)
theorem kc_yL_rainOf : Cond.code yL_rainOf cL_rainOf 2 (some .int) ∈ TBL := tb_21 (List.mem_of_getElem? (i := 31) rfl)
theorem ky_yL_rainOf : yL_rainOf.cls ≠ "java/lang/invoke/MethodHandle" ∧ yL_rainOf.cls ≠ "java/lang/invoke/VarHandle" ∧ (parseMethodDescriptor yL_rainOf.desc).map (fun d => d.parameters.length) = some 2 := by decide +kernel
theorem kt_yL_rainOf : Cond.static yL_rainOf ∈ TBL := tb_21 (List.mem_of_getElem? (i := 30) rfl)
theorem kc_yL_sunOf : Cond.code yL_sunOf cL_sunOf 2 (some .int) ∈ TBL := tb_21 (List.mem_of_getElem? (i := 34) rfl)
theorem ky_yL_sunOf : yL_sunOf.cls ≠ "java/lang/invoke/MethodHandle" ∧ yL_sunOf.cls ≠ "java/lang/invoke/VarHandle" ∧ (parseMethodDescriptor yL_sunOf.desc).map (fun d => d.parameters.length) = some 2 := by decide +kernel
theorem kt_yL_sunOf : Cond.static yL_sunOf ∈ TBL := tb_21 (List.mem_of_getElem? (i := 33) rfl)
theorem kc_yL_told : Cond.code yL_told cL_told 4 (some (.object "java/lang/String")) ∈ TBL := tb_22 (List.mem_of_getElem? (i := 8) rfl)
theorem ky_yL_told : yL_told.cls ≠ "java/lang/invoke/MethodHandle" ∧ yL_told.cls ≠ "java/lang/invoke/VarHandle" ∧ (parseMethodDescriptor yL_told.desc).map (fun d => d.parameters.length) = some 1 := by decide +kernel
theorem kt_yL_told : Cond.static yL_told ∈ TBL := tb_22 (List.mem_of_getElem? (i := 7) rfl)
theorem kc_yL_type : Cond.code yL_type cL_type 4 none ∈ TBL := tb_15 (List.mem_of_getElem? (i := 17) rfl)
theorem ky_yL_type : yL_type.cls ≠ "java/lang/invoke/MethodHandle" ∧ yL_type.cls ≠ "java/lang/invoke/VarHandle" ∧ (parseMethodDescriptor yL_type.desc).map (fun d => d.parameters.length) = some 2 := by decide +kernel
theorem kt_yL_type : Cond.static yL_type ∈ TBL := tb_15 (List.mem_of_getElem? (i := 16) rfl)
theorem kc_yL_word : Cond.code yL_word cL_word 4 (some .int) ∈ TBL := tb_15 (List.mem_of_getElem? (i := 21) rfl)
theorem ky_yL_word : yL_word.cls ≠ "java/lang/invoke/MethodHandle" ∧ yL_word.cls ≠ "java/lang/invoke/VarHandle" ∧ (parseMethodDescriptor yL_word.desc).map (fun d => d.parameters.length) = some 2 := by decide +kernel
theorem kt_yL_word : Cond.static yL_word ∈ TBL := tb_15 (List.mem_of_getElem? (i := 20) rfl)
theorem kc_yX1_addToStack : Cond.code yX1_addToStack cX1_addToStack 4 none ∈ TBL := tb_10 (List.mem_of_getElem? (i := 28) rfl)
theorem ky_yX1_addToStack : yX1_addToStack.cls ≠ "java/lang/invoke/MethodHandle" ∧ yX1_addToStack.cls ≠ "java/lang/invoke/VarHandle" ∧ (parseMethodDescriptor yX1_addToStack.desc).map (fun d => d.parameters.length) = some 3 := by decide +kernel
theorem ki_yX1_addToStack : Cond.instanceMethod yX1_addToStack ∈ TBL := tb_10 (List.mem_of_getElem? (i := 26) rfl)
theorem kv_yX1_addToStack : Cond.selects RX1 yX1_addToStack yX1_addToStack ∈ TBL := tb_10 (List.mem_of_getElem? (i := 27) rfl)
theorem kn_RX1 : Cond.initialized RX1 ∈ TBL := tb_1 (List.mem_of_getElem? (i := 18) rfl)
theorem kc_yX1_bricksInCarts : Cond.code yX1_bricksInCarts cX1_bricksInCarts 3 (some .int) ∈ TBL := tb_9 (List.mem_of_getElem? (i := 24) rfl)
theorem ky_yX1_bricksInCarts : yX1_bricksInCarts.cls ≠ "java/lang/invoke/MethodHandle" ∧ yX1_bricksInCarts.cls ≠ "java/lang/invoke/VarHandle" ∧ (parseMethodDescriptor yX1_bricksInCarts.desc).map (fun d => d.parameters.length) = some 0 := by decide +kernel
theorem ki_yX1_bricksInCarts : Cond.instanceMethod yX1_bricksInCarts ∈ TBL := tb_9 (List.mem_of_getElem? (i := 22) rfl)
theorem kv_yX1_bricksInCarts : Cond.selects RX1 yX1_bricksInCarts yX1_bricksInCarts ∈ TBL := tb_9 (List.mem_of_getElem? (i := 23) rfl)
theorem kc_yX1_copy : Cond.code yX1_copy cX1_copy 3 none ∈ TBL := tb_14 (List.mem_of_getElem? (i := 26) rfl)
theorem ky_yX1_copy : yX1_copy.cls ≠ "java/lang/invoke/MethodHandle" ∧ yX1_copy.cls ≠ "java/lang/invoke/VarHandle" ∧ (parseMethodDescriptor yX1_copy.desc).map (fun d => d.parameters.length) = some 1 := by decide +kernel
theorem ki_yX1_copy : Cond.instanceMethod yX1_copy ∈ TBL := tb_14 (List.mem_of_getElem? (i := 24) rfl)
theorem kv_yX1_copy : Cond.selects RX1 yX1_copy yX1_copy ∈ TBL := tb_14 (List.mem_of_getElem? (i := 25) rfl)
theorem kc_yX1_dryStacks : Cond.code yX1_dryStacks cX1_dryStacks 3 none ∈ TBL := tb_13 (List.mem_of_getElem? (i := 37) rfl)
theorem ky_yX1_dryStacks : yX1_dryStacks.cls ≠ "java/lang/invoke/MethodHandle" ∧ yX1_dryStacks.cls ≠ "java/lang/invoke/VarHandle" ∧ (parseMethodDescriptor yX1_dryStacks.desc).map (fun d => d.parameters.length) = some 0 := by decide +kernel
theorem ki_yX1_dryStacks : Cond.instanceMethod yX1_dryStacks ∈ TBL := tb_13 (List.mem_of_getElem? (i := 35) rfl)
theorem kv_yX1_dryStacks : Cond.selects RX1 yX1_dryStacks yX1_dryStacks ∈ TBL := tb_1 (List.mem_of_getElem? (i := 8) rfl)
theorem kc_yX1_employ : Cond.code yX1_employ cX1_employ 3 none ∈ TBL := tb_7 (List.mem_of_getElem? (i := 22) rfl)
theorem ky_yX1_employ : yX1_employ.cls ≠ "java/lang/invoke/MethodHandle" ∧ yX1_employ.cls ≠ "java/lang/invoke/VarHandle" ∧ (parseMethodDescriptor yX1_employ.desc).map (fun d => d.parameters.length) = some 1 := by decide +kernel
theorem ki_yX1_employ : Cond.instanceMethod yX1_employ ∈ TBL := tb_7 (List.mem_of_getElem? (i := 20) rfl)
theorem kv_yX1_employ : Cond.selects RX1 yX1_employ yX1_employ ∈ TBL := tb_7 (List.mem_of_getElem? (i := 21) rfl)
theorem kc_yX1_endHour : Cond.code yX1_endHour cX1_endHour 1 none ∈ TBL := tb_13 (List.mem_of_getElem? (i := 33) rfl)
theorem ky_yX1_endHour : yX1_endHour.cls ≠ "java/lang/invoke/MethodHandle" ∧ yX1_endHour.cls ≠ "java/lang/invoke/VarHandle" ∧ (parseMethodDescriptor yX1_endHour.desc).map (fun d => d.parameters.length) = some 0 := by decide +kernel
theorem ki_yX1_endHour : Cond.instanceMethod yX1_endHour ∈ TBL := tb_13 (List.mem_of_getElem? (i := 31) rfl)
theorem kv_yX1_endHour : Cond.selects RX1 yX1_endHour yX1_endHour ∈ TBL := tb_13 (List.mem_of_getElem? (i := 32) rfl)
theorem kc_yX1_floodedCells : Cond.code yX1_floodedCells cX1_floodedCells 3 (some .int) ∈ TBL := tb_9 (List.mem_of_getElem? (i := 28) rfl)
theorem ky_yX1_floodedCells : yX1_floodedCells.cls ≠ "java/lang/invoke/MethodHandle" ∧ yX1_floodedCells.cls ≠ "java/lang/invoke/VarHandle" ∧ (parseMethodDescriptor yX1_floodedCells.desc).map (fun d => d.parameters.length) = some 0 := by decide +kernel
theorem ki_yX1_floodedCells : Cond.instanceMethod yX1_floodedCells ∈ TBL := tb_9 (List.mem_of_getElem? (i := 26) rfl)
theorem kv_yX1_floodedCells : Cond.selects RX1 yX1_floodedCells yX1_floodedCells ∈ TBL := tb_9 (List.mem_of_getElem? (i := 27) rfl)
theorem kc_yX1_init : Cond.code yX1_init cX1_init 3 none ∈ TBL := tb_18 (List.mem_of_getElem? (i := 1) rfl)
theorem ky_yX1_init : yX1_init.cls ≠ "java/lang/invoke/MethodHandle" ∧ yX1_init.cls ≠ "java/lang/invoke/VarHandle" ∧ (parseMethodDescriptor yX1_init.desc).map (fun d => d.parameters.length) = some 1 := by decide +kernel
theorem ki_yX1_init : Cond.instanceMethod yX1_init ∈ TBL := tb_18 (List.mem_of_getElem? (i := 0) rfl)
theorem kc_yX1_moveWater : Cond.code yX1_moveWater cX1_moveWater 4 none ∈ TBL := tb_14 (List.mem_of_getElem? (i := 9) rfl)
theorem ky_yX1_moveWater : yX1_moveWater.cls ≠ "java/lang/invoke/MethodHandle" ∧ yX1_moveWater.cls ≠ "java/lang/invoke/VarHandle" ∧ (parseMethodDescriptor yX1_moveWater.desc).map (fun d => d.parameters.length) = some 0 := by decide +kernel
theorem ki_yX1_moveWater : Cond.instanceMethod yX1_moveWater ∈ TBL := tb_14 (List.mem_of_getElem? (i := 8) rfl)
theorem kv_yX1_moveWater : Cond.selects RX1 yX1_moveWater yX1_moveWater ∈ TBL := tb_1 (List.mem_of_getElem? (i := 9) rfl)
theorem kc_yX1_neighboursWithPeat : Cond.code yX1_neighboursWithPeat cX1_neighboursWithPeat 5 (some .int) ∈ TBL := tb_14 (List.mem_of_getElem? (i := 18) rfl)
theorem ky_yX1_neighboursWithPeat : yX1_neighboursWithPeat.cls ≠ "java/lang/invoke/MethodHandle" ∧ yX1_neighboursWithPeat.cls ≠ "java/lang/invoke/VarHandle" ∧ (parseMethodDescriptor yX1_neighboursWithPeat.desc).map (fun d => d.parameters.length) = some 1 := by decide +kernel
theorem ki_yX1_neighboursWithPeat : Cond.instanceMethod yX1_neighboursWithPeat ∈ TBL := tb_14 (List.mem_of_getElem? (i := 17) rfl)
theorem kv_yX1_neighboursWithPeat : Cond.selects RX1 yX1_neighboursWithPeat yX1_neighboursWithPeat ∈ TBL := tb_1 (List.mem_of_getElem? (i := 11) rfl)
theorem kc_yX1_rainOfDay : Cond.code yX1_rainOfDay cX1_rainOfDay 1 (some .int) ∈ TBL := tb_11 (List.mem_of_getElem? (i := 35) rfl)
theorem ky_yX1_rainOfDay : yX1_rainOfDay.cls ≠ "java/lang/invoke/MethodHandle" ∧ yX1_rainOfDay.cls ≠ "java/lang/invoke/VarHandle" ∧ (parseMethodDescriptor yX1_rainOfDay.desc).map (fun d => d.parameters.length) = some 0 := by decide +kernel
theorem ki_yX1_rainOfDay : Cond.instanceMethod yX1_rainOfDay ∈ TBL := tb_11 (List.mem_of_getElem? (i := 33) rfl)
theorem kv_yX1_rainOfDay : Cond.selects RX1 yX1_rainOfDay yX1_rainOfDay ∈ TBL := tb_11 (List.mem_of_getElem? (i := 34) rfl)
theorem kc_yX1_rise : Cond.code yX1_rise cX1_rise 3 none ∈ TBL := tb_14 (List.mem_of_getElem? (i := 12) rfl)
theorem ky_yX1_rise : yX1_rise.cls ≠ "java/lang/invoke/MethodHandle" ∧ yX1_rise.cls ≠ "java/lang/invoke/VarHandle" ∧ (parseMethodDescriptor yX1_rise.desc).map (fun d => d.parameters.length) = some 0 := by decide +kernel
theorem ki_yX1_rise : Cond.instanceMethod yX1_rise ∈ TBL := tb_14 (List.mem_of_getElem? (i := 11) rfl)
theorem kv_yX1_rise : Cond.selects RX1 yX1_rise yX1_rise ∈ TBL := tb_1 (List.mem_of_getElem? (i := 10) rfl)
theorem kc_yX1_sunOfDay : Cond.code yX1_sunOfDay cX1_sunOfDay 1 (some .int) ∈ TBL := tb_11 (List.mem_of_getElem? (i := 39) rfl)
theorem ky_yX1_sunOfDay : yX1_sunOfDay.cls ≠ "java/lang/invoke/MethodHandle" ∧ yX1_sunOfDay.cls ≠ "java/lang/invoke/VarHandle" ∧ (parseMethodDescriptor yX1_sunOfDay.desc).map (fun d => d.parameters.length) = some 0 := by decide +kernel
theorem ki_yX1_sunOfDay : Cond.instanceMethod yX1_sunOfDay ∈ TBL := tb_11 (List.mem_of_getElem? (i := 37) rfl)
theorem kv_yX1_sunOfDay : Cond.selects RX1 yX1_sunOfDay yX1_sunOfDay ∈ TBL := tb_11 (List.mem_of_getElem? (i := 38) rfl)
theorem kc_yX1_takeFromStack : Cond.code yX1_takeFromStack cX1_takeFromStack 3 none ∈ TBL := tb_13 (List.mem_of_getElem? (i := 10) rfl)
theorem ky_yX1_takeFromStack : yX1_takeFromStack.cls ≠ "java/lang/invoke/MethodHandle" ∧ yX1_takeFromStack.cls ≠ "java/lang/invoke/VarHandle" ∧ (parseMethodDescriptor yX1_takeFromStack.desc).map (fun d => d.parameters.length) = some 2 := by decide +kernel
theorem ki_yX1_takeFromStack : Cond.instanceMethod yX1_takeFromStack ∈ TBL := tb_13 (List.mem_of_getElem? (i := 8) rfl)
theorem kv_yX1_takeFromStack : Cond.selects RX1 yX1_takeFromStack yX1_takeFromStack ∈ TBL := tb_13 (List.mem_of_getElem? (i := 9) rfl)
theorem kc_yX1_tellCell : Cond.code yX1_tellCell cX1_tellCell 3 (some .int) ∈ TBL := tb_10 (List.mem_of_getElem? (i := 38) rfl)
theorem ky_yX1_tellCell : yX1_tellCell.cls ≠ "java/lang/invoke/MethodHandle" ∧ yX1_tellCell.cls ≠ "java/lang/invoke/VarHandle" ∧ (parseMethodDescriptor yX1_tellCell.desc).map (fun d => d.parameters.length) = some 2 := by decide +kernel
theorem ki_yX1_tellCell : Cond.instanceMethod yX1_tellCell ∈ TBL := tb_10 (List.mem_of_getElem? (i := 36) rfl)
theorem kv_yX1_tellCell : Cond.selects RX1 yX1_tellCell yX1_tellCell ∈ TBL := tb_10 (List.mem_of_getElem? (i := 37) rfl)
theorem kc_yX2_addToCart : Cond.code yX2_addToCart cX2_addToCart 3 none ∈ TBL := tb_13 (List.mem_of_getElem? (i := 6) rfl)
theorem ky_yX2_addToCart : yX2_addToCart.cls ≠ "java/lang/invoke/MethodHandle" ∧ yX2_addToCart.cls ≠ "java/lang/invoke/VarHandle" ∧ (parseMethodDescriptor yX2_addToCart.desc).map (fun d => d.parameters.length) = some 2 := by decide +kernel
theorem ki_yX2_addToCart : Cond.instanceMethod yX2_addToCart ∈ TBL := tb_13 (List.mem_of_getElem? (i := 4) rfl)
theorem kv_yX2_addToCart : Cond.selects RX2 yX2_addToCart yX2_addToCart ∈ TBL := tb_13 (List.mem_of_getElem? (i := 5) rfl)
theorem kn_RX2 : Cond.initialized RX2 ∈ TBL := tb_1 (List.mem_of_getElem? (i := 19) rfl)
theorem kc_yX2_begin : Cond.code yX2_begin cX2_begin 4 none ∈ TBL := tb_7 (List.mem_of_getElem? (i := 26) rfl)
theorem ky_yX2_begin : yX2_begin.cls ≠ "java/lang/invoke/MethodHandle" ∧ yX2_begin.cls ≠ "java/lang/invoke/VarHandle" ∧ (parseMethodDescriptor yX2_begin.desc).map (fun d => d.parameters.length) = some 3 := by decide +kernel
theorem ki_yX2_begin : Cond.instanceMethod yX2_begin ∈ TBL := tb_7 (List.mem_of_getElem? (i := 24) rfl)
theorem kv_yX2_begin : Cond.selects RX2 yX2_begin yX2_begin ∈ TBL := tb_7 (List.mem_of_getElem? (i := 25) rfl)
theorem kc_yX2_copy : Cond.code yX2_copy cX2_copy 2 none ∈ TBL := tb_14 (List.mem_of_getElem? (i := 30) rfl)
theorem ky_yX2_copy : yX2_copy.cls ≠ "java/lang/invoke/MethodHandle" ∧ yX2_copy.cls ≠ "java/lang/invoke/VarHandle" ∧ (parseMethodDescriptor yX2_copy.desc).map (fun d => d.parameters.length) = some 1 := by decide +kernel
theorem ki_yX2_copy : Cond.instanceMethod yX2_copy ∈ TBL := tb_14 (List.mem_of_getElem? (i := 28) rfl)
theorem kv_yX2_copy : Cond.selects RX2 yX2_copy yX2_copy ∈ TBL := tb_14 (List.mem_of_getElem? (i := 29) rfl)
theorem kc_yX2_init : Cond.code yX2_init cX2_init 1 none ∈ TBL := tb_18 (List.mem_of_getElem? (i := 6) rfl)
theorem ky_yX2_init : yX2_init.cls ≠ "java/lang/invoke/MethodHandle" ∧ yX2_init.cls ≠ "java/lang/invoke/VarHandle" ∧ (parseMethodDescriptor yX2_init.desc).map (fun d => d.parameters.length) = some 0 := by decide +kernel
theorem ki_yX2_init : Cond.instanceMethod yX2_init ∈ TBL := tb_18 (List.mem_of_getElem? (i := 5) rfl)
theorem kc_yX2_takeFromCart : Cond.code yX2_takeFromCart cX2_takeFromCart 2 none ∈ TBL := tb_13 (List.mem_of_getElem? (i := 17) rfl)
theorem ky_yX2_takeFromCart : yX2_takeFromCart.cls ≠ "java/lang/invoke/MethodHandle" ∧ yX2_takeFromCart.cls ≠ "java/lang/invoke/VarHandle" ∧ (parseMethodDescriptor yX2_takeFromCart.desc).map (fun d => d.parameters.length) = some 1 := by decide +kernel
theorem ki_yX2_takeFromCart : Cond.instanceMethod yX2_takeFromCart ∈ TBL := tb_13 (List.mem_of_getElem? (i := 15) rfl)
theorem kv_yX2_takeFromCart : Cond.selects RX2 yX2_takeFromCart yX2_takeFromCart ∈ TBL := tb_13 (List.mem_of_getElem? (i := 16) rfl)
theorem kc_yX2_tell : Cond.code yX2_tell cX2_tell 2 (some .int) ∈ TBL := tb_11 (List.mem_of_getElem? (i := 6) rfl)
theorem ky_yX2_tell : yX2_tell.cls ≠ "java/lang/invoke/MethodHandle" ∧ yX2_tell.cls ≠ "java/lang/invoke/VarHandle" ∧ (parseMethodDescriptor yX2_tell.desc).map (fun d => d.parameters.length) = some 1 := by decide +kernel
theorem ki_yX2_tell : Cond.instanceMethod yX2_tell ∈ TBL := tb_11 (List.mem_of_getElem? (i := 4) rfl)
theorem kv_yX2_tell : Cond.selects RX2 yX2_tell yX2_tell ∈ TBL := tb_11 (List.mem_of_getElem? (i := 5) rfl)
theorem kc_yX4_block : Cond.code yX4_block cX4_block 3 (some .boolean) ∈ TBL := tb_5 (List.mem_of_getElem? (i := 34) rfl)
theorem ky_yX4_block : yX4_block.cls ≠ "java/lang/invoke/MethodHandle" ∧ yX4_block.cls ≠ "java/lang/invoke/VarHandle" ∧ (parseMethodDescriptor yX4_block.desc).map (fun d => d.parameters.length) = some 1 := by decide +kernel
theorem ki_yX4_block : Cond.instanceMethod yX4_block ∈ TBL := tb_5 (List.mem_of_getElem? (i := 33) rfl)
theorem kv_yX4_block : Cond.selects RX4 yX4_block yX4_block ∈ TBL := tb_0 (List.mem_of_getElem? (i := 16) rfl)
theorem kn_RX4 : Cond.initialized RX4 ∈ TBL := tb_1 (List.mem_of_getElem? (i := 15) rfl)
theorem kc_yX4_both : Cond.code yX4_both cX4_both 4 (some .boolean) ∈ TBL := tb_6 (List.mem_of_getElem? (i := 38) rfl)
theorem ky_yX4_both : yX4_both.cls ≠ "java/lang/invoke/MethodHandle" ∧ yX4_both.cls ≠ "java/lang/invoke/VarHandle" ∧ (parseMethodDescriptor yX4_both.desc).map (fun d => d.parameters.length) = some 1 := by decide +kernel
theorem ki_yX4_both : Cond.instanceMethod yX4_both ∈ TBL := tb_6 (List.mem_of_getElem? (i := 37) rfl)
theorem kv_yX4_both : Cond.selects RX4 yX4_both yX4_both ∈ TBL := tb_0 (List.mem_of_getElem? (i := 25) rfl)
theorem kc_yX4_choice : Cond.code yX4_choice cX4_choice 4 (some .boolean) ∈ TBL := tb_6 (List.mem_of_getElem? (i := 32) rfl)
theorem ky_yX4_choice : yX4_choice.cls ≠ "java/lang/invoke/MethodHandle" ∧ yX4_choice.cls ≠ "java/lang/invoke/VarHandle" ∧ (parseMethodDescriptor yX4_choice.desc).map (fun d => d.parameters.length) = some 1 := by decide +kernel
theorem ki_yX4_choice : Cond.instanceMethod yX4_choice ∈ TBL := tb_6 (List.mem_of_getElem? (i := 31) rfl)
theorem kv_yX4_choice : Cond.selects RX4 yX4_choice yX4_choice ∈ TBL := tb_0 (List.mem_of_getElem? (i := 23) rfl)
theorem kc_yX4_countedLoop : Cond.code yX4_countedLoop cX4_countedLoop 6 (some .boolean) ∈ TBL := tb_7 (List.mem_of_getElem? (i := 14) rfl)
theorem ky_yX4_countedLoop : yX4_countedLoop.cls ≠ "java/lang/invoke/MethodHandle" ∧ yX4_countedLoop.cls ≠ "java/lang/invoke/VarHandle" ∧ (parseMethodDescriptor yX4_countedLoop.desc).map (fun d => d.parameters.length) = some 1 := by decide +kernel
theorem ki_yX4_countedLoop : Cond.instanceMethod yX4_countedLoop ∈ TBL := tb_7 (List.mem_of_getElem? (i := 13) rfl)
theorem kv_yX4_countedLoop : Cond.selects RX4 yX4_countedLoop yX4_countedLoop ∈ TBL := tb_0 (List.mem_of_getElem? (i := 27) rfl)
theorem kc_yX4_end : Cond.code yX4_end cX4_end 2 (some .boolean) ∈ TBL := tb_6 (List.mem_of_getElem? (i := 28) rfl)
theorem ky_yX4_end : yX4_end.cls ≠ "java/lang/invoke/MethodHandle" ∧ yX4_end.cls ≠ "java/lang/invoke/VarHandle" ∧ (parseMethodDescriptor yX4_end.desc).map (fun d => d.parameters.length) = some 1 := by decide +kernel
theorem ki_yX4_end : Cond.instanceMethod yX4_end ∈ TBL := tb_6 (List.mem_of_getElem? (i := 27) rfl)
theorem kv_yX4_end : Cond.selects RX4 yX4_end yX4_end ∈ TBL := tb_0 (List.mem_of_getElem? (i := 22) rfl)
theorem kc_yX4_enter : Cond.code yX4_enter cX4_enter 3 (some .boolean) ∈ TBL := tb_5 (List.mem_of_getElem? (i := 38) rfl)
theorem ky_yX4_enter : yX4_enter.cls ≠ "java/lang/invoke/MethodHandle" ∧ yX4_enter.cls ≠ "java/lang/invoke/VarHandle" ∧ (parseMethodDescriptor yX4_enter.desc).map (fun d => d.parameters.length) = some 2 := by decide +kernel
theorem ki_yX4_enter : Cond.instanceMethod yX4_enter ∈ TBL := tb_5 (List.mem_of_getElem? (i := 37) rfl)
theorem kv_yX4_enter : Cond.selects RX4 yX4_enter yX4_enter ∈ TBL := tb_0 (List.mem_of_getElem? (i := 17) rfl)
theorem kc_yX4_expect : Cond.code yX4_expect cX4_expect 2 (some .boolean) ∈ TBL := tb_4 (List.mem_of_getElem? (i := 32) rfl)
theorem ky_yX4_expect : yX4_expect.cls ≠ "java/lang/invoke/MethodHandle" ∧ yX4_expect.cls ≠ "java/lang/invoke/VarHandle" ∧ (parseMethodDescriptor yX4_expect.desc).map (fun d => d.parameters.length) = some 1 := by decide +kernel
theorem ki_yX4_expect : Cond.instanceMethod yX4_expect ∈ TBL := tb_4 (List.mem_of_getElem? (i := 31) rfl)
theorem kv_yX4_expect : Cond.selects RX4 yX4_expect yX4_expect ∈ TBL := tb_0 (List.mem_of_getElem? (i := 10) rfl)
theorem kc_yX4_init : Cond.code yX4_init cX4_init 1 none ∈ TBL := tb_16 (List.mem_of_getElem? (i := 4) rfl)
theorem ky_yX4_init : yX4_init.cls ≠ "java/lang/invoke/MethodHandle" ∧ yX4_init.cls ≠ "java/lang/invoke/VarHandle" ∧ (parseMethodDescriptor yX4_init.desc).map (fun d => d.parameters.length) = some 0 := by decide +kernel
theorem ki_yX4_init : Cond.instanceMethod yX4_init ∈ TBL := tb_16 (List.mem_of_getElem? (i := 3) rfl)
theorem kc_yX4_kind : Cond.code yX4_kind cX4_kind 1 (some (.object "PeatBog$Token")) ∈ TBL := tb_4 (List.mem_of_getElem? (i := 20) rfl)
theorem ky_yX4_kind : yX4_kind.cls ≠ "java/lang/invoke/MethodHandle" ∧ yX4_kind.cls ≠ "java/lang/invoke/VarHandle" ∧ (parseMethodDescriptor yX4_kind.desc).map (fun d => d.parameters.length) = some 0 := by decide +kernel
theorem ki_yX4_kind : Cond.instanceMethod yX4_kind ∈ TBL := tb_4 (List.mem_of_getElem? (i := 18) rfl)
theorem kv_yX4_kind : Cond.selects RX4 yX4_kind yX4_kind ∈ TBL := tb_0 (List.mem_of_getElem? (i := 8) rfl)
theorem kc_yX4_limitedNumber : Cond.code yX4_limitedNumber cX4_limitedNumber 3 (some .boolean) ∈ TBL := tb_5 (List.mem_of_getElem? (i := 17) rfl)
theorem ky_yX4_limitedNumber : yX4_limitedNumber.cls ≠ "java/lang/invoke/MethodHandle" ∧ yX4_limitedNumber.cls ≠ "java/lang/invoke/VarHandle" ∧ (parseMethodDescriptor yX4_limitedNumber.desc).map (fun d => d.parameters.length) = some 1 := by decide +kernel
theorem ki_yX4_limitedNumber : Cond.instanceMethod yX4_limitedNumber ∈ TBL := tb_5 (List.mem_of_getElem? (i := 16) rfl)
theorem kv_yX4_limitedNumber : Cond.selects RX4 yX4_limitedNumber yX4_limitedNumber ∈ TBL := tb_0 (List.mem_of_getElem? (i := 15) rfl)
theorem kc_yX4_note : Cond.code yX4_note cX4_note 3 none ∈ TBL := tb_5 (List.mem_of_getElem? (i := 13) rfl)
theorem ky_yX4_note : yX4_note.cls ≠ "java/lang/invoke/MethodHandle" ∧ yX4_note.cls ≠ "java/lang/invoke/VarHandle" ∧ (parseMethodDescriptor yX4_note.desc).map (fun d => d.parameters.length) = some 2 := by decide +kernel
theorem ki_yX4_note : Cond.instanceMethod yX4_note ∈ TBL := tb_5 (List.mem_of_getElem? (i := 12) rfl)
theorem kv_yX4_note : Cond.selects RX4 yX4_note yX4_note ∈ TBL := tb_0 (List.mem_of_getElem? (i := 14) rfl)
theorem kc_yX4_noteName : Cond.code yX4_noteName cX4_noteName 3 none ∈ TBL := tb_5 (List.mem_of_getElem? (i := 2) rfl)
theorem ky_yX4_noteName : yX4_noteName.cls ≠ "java/lang/invoke/MethodHandle" ∧ yX4_noteName.cls ≠ "java/lang/invoke/VarHandle" ∧ (parseMethodDescriptor yX4_noteName.desc).map (fun d => d.parameters.length) = some 1 := by decide +kernel
theorem ki_yX4_noteName : Cond.instanceMethod yX4_noteName ∈ TBL := tb_5 (List.mem_of_getElem? (i := 1) rfl)
theorem kv_yX4_noteName : Cond.selects RX4 yX4_noteName yX4_noteName ∈ TBL := tb_0 (List.mem_of_getElem? (i := 12) rfl)
theorem kc_yX4_oneGang : Cond.code yX4_oneGang cX4_oneGang 4 (some .boolean) ∈ TBL := tb_4 (List.mem_of_getElem? (i := 28) rfl)
theorem ky_yX4_oneGang : yX4_oneGang.cls ≠ "java/lang/invoke/MethodHandle" ∧ yX4_oneGang.cls ≠ "java/lang/invoke/VarHandle" ∧ (parseMethodDescriptor yX4_oneGang.desc).map (fun d => d.parameters.length) = some 0 := by decide +kernel
theorem ki_yX4_oneGang : Cond.instanceMethod yX4_oneGang ∈ TBL := tb_4 (List.mem_of_getElem? (i := 27) rfl)
theorem kv_yX4_oneGang : Cond.selects RX4 yX4_oneGang yX4_oneGang ∈ TBL := tb_0 (List.mem_of_getElem? (i := 9) rfl)
theorem kc_yX4_parse : Cond.code yX4_parse cX4_parse 6 none ∈ TBL := tb_2 (List.mem_of_getElem? (i := 8) rfl)
theorem ky_yX4_parse : yX4_parse.cls ≠ "java/lang/invoke/MethodHandle" ∧ yX4_parse.cls ≠ "java/lang/invoke/VarHandle" ∧ (parseMethodDescriptor yX4_parse.desc).map (fun d => d.parameters.length) = some 3 := by decide +kernel
theorem ki_yX4_parse : Cond.instanceMethod yX4_parse ∈ TBL := tb_2 (List.mem_of_getElem? (i := 6) rfl)
theorem kv_yX4_parse : Cond.selects RX4 yX4_parse yX4_parse ∈ TBL := tb_2 (List.mem_of_getElem? (i := 7) rfl)
theorem kc_yX4_product : Cond.code yX4_product cX4_product 5 (some .boolean) ∈ TBL := tb_6 (List.mem_of_getElem? (i := 14) rfl)
theorem ky_yX4_product : yX4_product.cls ≠ "java/lang/invoke/MethodHandle" ∧ yX4_product.cls ≠ "java/lang/invoke/VarHandle" ∧ (parseMethodDescriptor yX4_product.desc).map (fun d => d.parameters.length) = some 1 := by decide +kernel
theorem ki_yX4_product : Cond.instanceMethod yX4_product ∈ TBL := tb_6 (List.mem_of_getElem? (i := 13) rfl)
theorem kv_yX4_product : Cond.selects RX4 yX4_product yX4_product ∈ TBL := tb_0 (List.mem_of_getElem? (i := 20) rfl)
theorem kc_yX4_refuse : Cond.code yX4_refuse cX4_refuse 1 (some .boolean) ∈ TBL := tb_4 (List.mem_of_getElem? (i := 35) rfl)
theorem ky_yX4_refuse : yX4_refuse.cls ≠ "java/lang/invoke/MethodHandle" ∧ yX4_refuse.cls ≠ "java/lang/invoke/VarHandle" ∧ (parseMethodDescriptor yX4_refuse.desc).map (fun d => d.parameters.length) = some 0 := by decide +kernel
theorem ki_yX4_refuse : Cond.instanceMethod yX4_refuse ∈ TBL := tb_4 (List.mem_of_getElem? (i := 34) rfl)
theorem kv_yX4_refuse : Cond.selects RX4 yX4_refuse yX4_refuse ∈ TBL := tb_0 (List.mem_of_getElem? (i := 11) rfl)
theorem kc_yX4_sentence : Cond.code yX4_sentence cX4_sentence 3 (some .boolean) ∈ TBL := tb_6 (List.mem_of_getElem? (i := 2) rfl)
theorem ky_yX4_sentence : yX4_sentence.cls ≠ "java/lang/invoke/MethodHandle" ∧ yX4_sentence.cls ≠ "java/lang/invoke/VarHandle" ∧ (parseMethodDescriptor yX4_sentence.desc).map (fun d => d.parameters.length) = some 1 := by decide +kernel
theorem ki_yX4_sentence : Cond.instanceMethod yX4_sentence ∈ TBL := tb_6 (List.mem_of_getElem? (i := 1) rfl)
theorem kv_yX4_sentence : Cond.selects RX4 yX4_sentence yX4_sentence ∈ TBL := tb_0 (List.mem_of_getElem? (i := 18) rfl)
theorem kc_yX4_single : Cond.code yX4_single cX4_single 3 (some .boolean) ∈ TBL := tb_7 (List.mem_of_getElem? (i := 1) rfl)
theorem ky_yX4_single : yX4_single.cls ≠ "java/lang/invoke/MethodHandle" ∧ yX4_single.cls ≠ "java/lang/invoke/VarHandle" ∧ (parseMethodDescriptor yX4_single.desc).map (fun d => d.parameters.length) = some 1 := by decide +kernel
theorem ki_yX4_single : Cond.instanceMethod yX4_single ∈ TBL := tb_7 (List.mem_of_getElem? (i := 0) rfl)
theorem kv_yX4_single : Cond.selects RX4 yX4_single yX4_single ∈ TBL := tb_0 (List.mem_of_getElem? (i := 26) rfl)
theorem kc_yX4_sum : Cond.code yX4_sum cX4_sum 5 (some .boolean) ∈ TBL := tb_6 (List.mem_of_getElem? (i := 11) rfl)
theorem ky_yX4_sum : yX4_sum.cls ≠ "java/lang/invoke/MethodHandle" ∧ yX4_sum.cls ≠ "java/lang/invoke/VarHandle" ∧ (parseMethodDescriptor yX4_sum.desc).map (fun d => d.parameters.length) = some 1 := by decide +kernel
theorem ki_yX4_sum : Cond.instanceMethod yX4_sum ∈ TBL := tb_6 (List.mem_of_getElem? (i := 10) rfl)
theorem kv_yX4_sum : Cond.selects RX4 yX4_sum yX4_sum ∈ TBL := tb_0 (List.mem_of_getElem? (i := 19) rfl)
theorem kc_yX4_test : Cond.code yX4_test cX4_test 4 (some .boolean) ∈ TBL := tb_6 (List.mem_of_getElem? (i := 35) rfl)
theorem ky_yX4_test : yX4_test.cls ≠ "java/lang/invoke/MethodHandle" ∧ yX4_test.cls ≠ "java/lang/invoke/VarHandle" ∧ (parseMethodDescriptor yX4_test.desc).map (fun d => d.parameters.length) = some 1 := by decide +kernel
theorem ki_yX4_test : Cond.instanceMethod yX4_test ∈ TBL := tb_6 (List.mem_of_getElem? (i := 34) rfl)
theorem kv_yX4_test : Cond.selects RX4 yX4_test yX4_test ∈ TBL := tb_0 (List.mem_of_getElem? (i := 24) rfl)
theorem kc_yX4_testedLoop : Cond.code yX4_testedLoop cX4_testedLoop 4 (some .boolean) ∈ TBL := tb_7 (List.mem_of_getElem? (i := 17) rfl)
theorem ky_yX4_testedLoop : yX4_testedLoop.cls ≠ "java/lang/invoke/MethodHandle" ∧ yX4_testedLoop.cls ≠ "java/lang/invoke/VarHandle" ∧ (parseMethodDescriptor yX4_testedLoop.desc).map (fun d => d.parameters.length) = some 1 := by decide +kernel
theorem ki_yX4_testedLoop : Cond.instanceMethod yX4_testedLoop ∈ TBL := tb_7 (List.mem_of_getElem? (i := 16) rfl)
theorem kv_yX4_testedLoop : Cond.selects RX4 yX4_testedLoop yX4_testedLoop ∈ TBL := tb_0 (List.mem_of_getElem? (i := 28) rfl)
theorem kc_yX4_value : Cond.code yX4_value cX4_value 3 (some .boolean) ∈ TBL := tb_6 (List.mem_of_getElem? (i := 17) rfl)
theorem ky_yX4_value : yX4_value.cls ≠ "java/lang/invoke/MethodHandle" ∧ yX4_value.cls ≠ "java/lang/invoke/VarHandle" ∧ (parseMethodDescriptor yX4_value.desc).map (fun d => d.parameters.length) = some 1 := by decide +kernel
theorem ki_yX4_value : Cond.instanceMethod yX4_value ∈ TBL := tb_6 (List.mem_of_getElem? (i := 16) rfl)
theorem kv_yX4_value : Cond.selects RX4 yX4_value yX4_value ∈ TBL := tb_0 (List.mem_of_getElem? (i := 21) rfl)
theorem kc_yX5_addGang : Cond.code yX5_addGang cX5_addGang 3 none ∈ TBL := tb_5 (List.mem_of_getElem? (i := 26) rfl)
theorem ky_yX5_addGang : yX5_addGang.cls ≠ "java/lang/invoke/MethodHandle" ∧ yX5_addGang.cls ≠ "java/lang/invoke/VarHandle" ∧ (parseMethodDescriptor yX5_addGang.desc).map (fun d => d.parameters.length) = some 2 := by decide +kernel
theorem ki_yX5_addGang : Cond.instanceMethod yX5_addGang ∈ TBL := tb_5 (List.mem_of_getElem? (i := 24) rfl)
theorem kv_yX5_addGang : Cond.selects RX5 yX5_addGang yX5_addGang ∈ TBL := tb_5 (List.mem_of_getElem? (i := 25) rfl)
theorem kn_RX5 : Cond.initialized RX5 ∈ TBL := tb_1 (List.mem_of_getElem? (i := 17) rfl)
theorem kc_yX5_argumentAt : Cond.code yX5_argumentAt cX5_argumentAt 2 (some .int) ∈ TBL := tb_12 (List.mem_of_getElem? (i := 16) rfl)
theorem ky_yX5_argumentAt : yX5_argumentAt.cls ≠ "java/lang/invoke/MethodHandle" ∧ yX5_argumentAt.cls ≠ "java/lang/invoke/VarHandle" ∧ (parseMethodDescriptor yX5_argumentAt.desc).map (fun d => d.parameters.length) = some 1 := by decide +kernel
theorem ki_yX5_argumentAt : Cond.instanceMethod yX5_argumentAt ∈ TBL := tb_12 (List.mem_of_getElem? (i := 14) rfl)
theorem kv_yX5_argumentAt : Cond.selects RX5 yX5_argumentAt yX5_argumentAt ∈ TBL := tb_12 (List.mem_of_getElem? (i := 15) rfl)
theorem kc_yX5_clear : Cond.code yX5_clear cX5_clear 1 none ∈ TBL := tb_4 (List.mem_of_getElem? (i := 16) rfl)
theorem ky_yX5_clear : yX5_clear.cls ≠ "java/lang/invoke/MethodHandle" ∧ yX5_clear.cls ≠ "java/lang/invoke/VarHandle" ∧ (parseMethodDescriptor yX5_clear.desc).map (fun d => d.parameters.length) = some 0 := by decide +kernel
theorem ki_yX5_clear : Cond.instanceMethod yX5_clear ∈ TBL := tb_4 (List.mem_of_getElem? (i := 14) rfl)
theorem kv_yX5_clear : Cond.selects RX5 yX5_clear yX5_clear ∈ TBL := tb_4 (List.mem_of_getElem? (i := 15) rfl)
theorem kc_yX5_emit : Cond.code yX5_emit cX5_emit 3 (some .boolean) ∈ TBL := tb_6 (List.mem_of_getElem? (i := 21) rfl)
theorem ky_yX5_emit : yX5_emit.cls ≠ "java/lang/invoke/MethodHandle" ∧ yX5_emit.cls ≠ "java/lang/invoke/VarHandle" ∧ (parseMethodDescriptor yX5_emit.desc).map (fun d => d.parameters.length) = some 2 := by decide +kernel
theorem ki_yX5_emit : Cond.instanceMethod yX5_emit ∈ TBL := tb_6 (List.mem_of_getElem? (i := 19) rfl)
theorem kv_yX5_emit : Cond.selects RX5 yX5_emit yX5_emit ∈ TBL := tb_6 (List.mem_of_getElem? (i := 20) rfl)
theorem kc_yX5_init : Cond.code yX5_init cX5_init 1 none ∈ TBL := tb_16 (List.mem_of_getElem? (i := 31) rfl)
theorem ky_yX5_init : yX5_init.cls ≠ "java/lang/invoke/MethodHandle" ∧ yX5_init.cls ≠ "java/lang/invoke/VarHandle" ∧ (parseMethodDescriptor yX5_init.desc).map (fun d => d.parameters.length) = some 0 := by decide +kernel
theorem ki_yX5_init : Cond.instanceMethod yX5_init ∈ TBL := tb_16 (List.mem_of_getElem? (i := 30) rfl)
theorem kc_yX5_leadHere : Cond.code yX5_leadHere cX5_leadHere 2 none ∈ TBL := tb_7 (List.mem_of_getElem? (i := 11) rfl)
theorem ky_yX5_leadHere : yX5_leadHere.cls ≠ "java/lang/invoke/MethodHandle" ∧ yX5_leadHere.cls ≠ "java/lang/invoke/VarHandle" ∧ (parseMethodDescriptor yX5_leadHere.desc).map (fun d => d.parameters.length) = some 1 := by decide +kernel
theorem ki_yX5_leadHere : Cond.instanceMethod yX5_leadHere ∈ TBL := tb_7 (List.mem_of_getElem? (i := 9) rfl)
theorem kv_yX5_leadHere : Cond.selects RX5 yX5_leadHere yX5_leadHere ∈ TBL := tb_7 (List.mem_of_getElem? (i := 10) rfl)
theorem kc_yX5_opAt : Cond.code yX5_opAt cX5_opAt 2 (some .int) ∈ TBL := tb_12 (List.mem_of_getElem? (i := 20) rfl)
theorem ky_yX5_opAt : yX5_opAt.cls ≠ "java/lang/invoke/MethodHandle" ∧ yX5_opAt.cls ≠ "java/lang/invoke/VarHandle" ∧ (parseMethodDescriptor yX5_opAt.desc).map (fun d => d.parameters.length) = some 1 := by decide +kernel
theorem ki_yX5_opAt : Cond.instanceMethod yX5_opAt ∈ TBL := tb_12 (List.mem_of_getElem? (i := 18) rfl)
theorem kv_yX5_opAt : Cond.selects RX5 yX5_opAt yX5_opAt ∈ TBL := tb_12 (List.mem_of_getElem? (i := 19) rfl)
theorem kc_yX6_behindBlanks : Cond.code yX6_behindBlanks cX6_behindBlanks 3 (some .int) ∈ TBL := tb_2 (List.mem_of_getElem? (i := 19) rfl)
theorem ky_yX6_behindBlanks : yX6_behindBlanks.cls ≠ "java/lang/invoke/MethodHandle" ∧ yX6_behindBlanks.cls ≠ "java/lang/invoke/VarHandle" ∧ (parseMethodDescriptor yX6_behindBlanks.desc).map (fun d => d.parameters.length) = some 1 := by decide +kernel
theorem ki_yX6_behindBlanks : Cond.instanceMethod yX6_behindBlanks ∈ TBL := tb_2 (List.mem_of_getElem? (i := 17) rfl)
theorem kv_yX6_behindBlanks : Cond.selects RX6 yX6_behindBlanks yX6_behindBlanks ∈ TBL := tb_0 (List.mem_of_getElem? (i := 0) rfl)
theorem kn_RX6 : Cond.initialized RX6 ∈ TBL := tb_1 (List.mem_of_getElem? (i := 16) rfl)
theorem kc_yX6_behindDigits : Cond.code yX6_behindDigits cX6_behindDigits 3 (some .int) ∈ TBL := tb_4 (List.mem_of_getElem? (i := 8) rfl)
theorem ky_yX6_behindDigits : yX6_behindDigits.cls ≠ "java/lang/invoke/MethodHandle" ∧ yX6_behindDigits.cls ≠ "java/lang/invoke/VarHandle" ∧ (parseMethodDescriptor yX6_behindDigits.desc).map (fun d => d.parameters.length) = some 1 := by decide +kernel
theorem ki_yX6_behindDigits : Cond.instanceMethod yX6_behindDigits ∈ TBL := tb_4 (List.mem_of_getElem? (i := 7) rfl)
theorem kv_yX6_behindDigits : Cond.selects RX6 yX6_behindDigits yX6_behindDigits ∈ TBL := tb_0 (List.mem_of_getElem? (i := 6) rfl)
theorem kc_yX6_behindWord : Cond.code yX6_behindWord cX6_behindWord 3 (some .int) ∈ TBL := tb_2 (List.mem_of_getElem? (i := 29) rfl)
theorem ky_yX6_behindWord : yX6_behindWord.cls ≠ "java/lang/invoke/MethodHandle" ∧ yX6_behindWord.cls ≠ "java/lang/invoke/VarHandle" ∧ (parseMethodDescriptor yX6_behindWord.desc).map (fun d => d.parameters.length) = some 1 := by decide +kernel
theorem ki_yX6_behindWord : Cond.instanceMethod yX6_behindWord ∈ TBL := tb_2 (List.mem_of_getElem? (i := 28) rfl)
theorem kv_yX6_behindWord : Cond.selects RX6 yX6_behindWord yX6_behindWord ∈ TBL := tb_0 (List.mem_of_getElem? (i := 3) rfl)
theorem kc_yX6_endOf : Cond.code yX6_endOf cX6_endOf 2 (some .int) ∈ TBL := tb_5 (List.mem_of_getElem? (i := 10) rfl)
theorem ky_yX6_endOf : yX6_endOf.cls ≠ "java/lang/invoke/MethodHandle" ∧ yX6_endOf.cls ≠ "java/lang/invoke/VarHandle" ∧ (parseMethodDescriptor yX6_endOf.desc).map (fun d => d.parameters.length) = some 1 := by decide +kernel
theorem ki_yX6_endOf : Cond.instanceMethod yX6_endOf ∈ TBL := tb_5 (List.mem_of_getElem? (i := 9) rfl)
theorem kv_yX6_endOf : Cond.selects RX6 yX6_endOf yX6_endOf ∈ TBL := tb_0 (List.mem_of_getElem? (i := 13) rfl)
theorem kc_yX6_init : Cond.code yX6_init cX6_init 1 none ∈ TBL := tb_16 (List.mem_of_getElem? (i := 8) rfl)
theorem ky_yX6_init : yX6_init.cls ≠ "java/lang/invoke/MethodHandle" ∧ yX6_init.cls ≠ "java/lang/invoke/VarHandle" ∧ (parseMethodDescriptor yX6_init.desc).map (fun d => d.parameters.length) = some 0 := by decide +kernel
theorem ki_yX6_init : Cond.instanceMethod yX6_init ∈ TBL := tb_16 (List.mem_of_getElem? (i := 7) rfl)
theorem kc_yX6_isDigit : Cond.code yX6_isDigit cX6_isDigit 2 (some .boolean) ∈ TBL := tb_2 (List.mem_of_getElem? (i := 32) rfl)
theorem ky_yX6_isDigit : yX6_isDigit.cls ≠ "java/lang/invoke/MethodHandle" ∧ yX6_isDigit.cls ≠ "java/lang/invoke/VarHandle" ∧ (parseMethodDescriptor yX6_isDigit.desc).map (fun d => d.parameters.length) = some 1 := by decide +kernel
theorem ki_yX6_isDigit : Cond.instanceMethod yX6_isDigit ∈ TBL := tb_2 (List.mem_of_getElem? (i := 31) rfl)
theorem kv_yX6_isDigit : Cond.selects RX6 yX6_isDigit yX6_isDigit ∈ TBL := tb_0 (List.mem_of_getElem? (i := 4) rfl)
theorem kc_yX6_isLetter : Cond.code yX6_isLetter cX6_isLetter 2 (some .boolean) ∈ TBL := tb_2 (List.mem_of_getElem? (i := 26) rfl)
theorem ky_yX6_isLetter : yX6_isLetter.cls ≠ "java/lang/invoke/MethodHandle" ∧ yX6_isLetter.cls ≠ "java/lang/invoke/VarHandle" ∧ (parseMethodDescriptor yX6_isLetter.desc).map (fun d => d.parameters.length) = some 1 := by decide +kernel
theorem ki_yX6_isLetter : Cond.instanceMethod yX6_isLetter ∈ TBL := tb_2 (List.mem_of_getElem? (i := 25) rfl)
theorem kv_yX6_isLetter : Cond.selects RX6 yX6_isLetter yX6_isLetter ∈ TBL := tb_0 (List.mem_of_getElem? (i := 2) rfl)
theorem kc_yX6_isSameText : Cond.code yX6_isSameText cX6_isSameText 7 (some .boolean) ∈ TBL := tb_5 (List.mem_of_getElem? (i := 6) rfl)
theorem ky_yX6_isSameText : yX6_isSameText.cls ≠ "java/lang/invoke/MethodHandle" ∧ yX6_isSameText.cls ≠ "java/lang/invoke/VarHandle" ∧ (parseMethodDescriptor yX6_isSameText.desc).map (fun d => d.parameters.length) = some 2 := by decide +kernel
theorem ki_yX6_isSameText : Cond.instanceMethod yX6_isSameText ∈ TBL := tb_5 (List.mem_of_getElem? (i := 4) rfl)
theorem kv_yX6_isSameText : Cond.selects RX6 yX6_isSameText yX6_isSameText ∈ TBL := tb_5 (List.mem_of_getElem? (i := 5) rfl)
theorem kc_yX6_kindOf : Cond.code yX6_kindOf cX6_kindOf 3 (some (.object "PeatBog$Token")) ∈ TBL := tb_4 (List.mem_of_getElem? (i := 24) rfl)
theorem ky_yX6_kindOf : yX6_kindOf.cls ≠ "java/lang/invoke/MethodHandle" ∧ yX6_kindOf.cls ≠ "java/lang/invoke/VarHandle" ∧ (parseMethodDescriptor yX6_kindOf.desc).map (fun d => d.parameters.length) = some 1 := by decide +kernel
theorem ki_yX6_kindOf : Cond.instanceMethod yX6_kindOf ∈ TBL := tb_4 (List.mem_of_getElem? (i := 22) rfl)
theorem kv_yX6_kindOf : Cond.selects RX6 yX6_kindOf yX6_kindOf ∈ TBL := tb_4 (List.mem_of_getElem? (i := 23) rfl)
theorem kc_yX6_numberAt : Cond.code yX6_numberAt cX6_numberAt 5 (some .int) ∈ TBL := tb_5 (List.mem_of_getElem? (i := 22) rfl)
theorem ky_yX6_numberAt : yX6_numberAt.cls ≠ "java/lang/invoke/MethodHandle" ∧ yX6_numberAt.cls ≠ "java/lang/invoke/VarHandle" ∧ (parseMethodDescriptor yX6_numberAt.desc).map (fun d => d.parameters.length) = some 1 := by decide +kernel
theorem ki_yX6_numberAt : Cond.instanceMethod yX6_numberAt ∈ TBL := tb_5 (List.mem_of_getElem? (i := 20) rfl)
theorem kv_yX6_numberAt : Cond.selects RX6 yX6_numberAt yX6_numberAt ∈ TBL := tb_5 (List.mem_of_getElem? (i := 21) rfl)
theorem kc_yX6_scan : Cond.code yX6_scan cX6_scan 6 none ∈ TBL := tb_2 (List.mem_of_getElem? (i := 12) rfl)
theorem ky_yX6_scan : yX6_scan.cls ≠ "java/lang/invoke/MethodHandle" ∧ yX6_scan.cls ≠ "java/lang/invoke/VarHandle" ∧ (parseMethodDescriptor yX6_scan.desc).map (fun d => d.parameters.length) = some 2 := by decide +kernel
theorem ki_yX6_scan : Cond.instanceMethod yX6_scan ∈ TBL := tb_2 (List.mem_of_getElem? (i := 10) rfl)
theorem kv_yX6_scan : Cond.selects RX6 yX6_scan yX6_scan ∈ TBL := tb_2 (List.mem_of_getElem? (i := 11) rfl)
theorem kc_yX6_scanSymbol : Cond.code yX6_scanSymbol cX6_scanSymbol 4 (some (.object "PeatBog$Token")) ∈ TBL := tb_4 (List.mem_of_getElem? (i := 12) rfl)
theorem ky_yX6_scanSymbol : yX6_scanSymbol.cls ≠ "java/lang/invoke/MethodHandle" ∧ yX6_scanSymbol.cls ≠ "java/lang/invoke/VarHandle" ∧ (parseMethodDescriptor yX6_scanSymbol.desc).map (fun d => d.parameters.length) = some 1 := by decide +kernel
theorem ki_yX6_scanSymbol : Cond.instanceMethod yX6_scanSymbol ∈ TBL := tb_4 (List.mem_of_getElem? (i := 11) rfl)
theorem kv_yX6_scanSymbol : Cond.selects RX6 yX6_scanSymbol yX6_scanSymbol ∈ TBL := tb_0 (List.mem_of_getElem? (i := 7) rfl)
theorem kc_yX6_scanToken : Cond.code yX6_scanToken cX6_scanToken 4 (some (.object "PeatBog$Token")) ∈ TBL := tb_2 (List.mem_of_getElem? (i := 22) rfl)
theorem ky_yX6_scanToken : yX6_scanToken.cls ≠ "java/lang/invoke/MethodHandle" ∧ yX6_scanToken.cls ≠ "java/lang/invoke/VarHandle" ∧ (parseMethodDescriptor yX6_scanToken.desc).map (fun d => d.parameters.length) = some 1 := by decide +kernel
theorem ki_yX6_scanToken : Cond.instanceMethod yX6_scanToken ∈ TBL := tb_2 (List.mem_of_getElem? (i := 21) rfl)
theorem kv_yX6_scanToken : Cond.selects RX6 yX6_scanToken yX6_scanToken ∈ TBL := tb_0 (List.mem_of_getElem? (i := 1) rfl)
theorem kc_yX6_startOf : Cond.code yX6_startOf cX6_startOf 2 (some .int) ∈ TBL := tb_4 (List.mem_of_getElem? (i := 39) rfl)
theorem ky_yX6_startOf : yX6_startOf.cls ≠ "java/lang/invoke/MethodHandle" ∧ yX6_startOf.cls ≠ "java/lang/invoke/VarHandle" ∧ (parseMethodDescriptor yX6_startOf.desc).map (fun d => d.parameters.length) = some 1 := by decide +kernel
theorem ki_yX6_startOf : Cond.instanceMethod yX6_startOf ∈ TBL := tb_4 (List.mem_of_getElem? (i := 37) rfl)
theorem kv_yX6_startOf : Cond.selects RX6 yX6_startOf yX6_startOf ∈ TBL := tb_4 (List.mem_of_getElem? (i := 38) rfl)
theorem kc_yX7_find : Cond.code yX7_find cX7_find 8 (some (.object "PeatBog$Token")) ∈ TBL := tb_2 (List.mem_of_getElem? (i := 37) rfl)
theorem ky_yX7_find : yX7_find.cls ≠ "java/lang/invoke/MethodHandle" ∧ yX7_find.cls ≠ "java/lang/invoke/VarHandle" ∧ (parseMethodDescriptor yX7_find.desc).map (fun d => d.parameters.length) = some 4 := by decide +kernel
theorem kt_yX7_find : Cond.static yX7_find ∈ TBL := tb_2 (List.mem_of_getElem? (i := 36) rfl)
theorem kn_RX7 : Cond.initialized RX7 ∈ TBL := tb_1 (List.mem_of_getElem? (i := 39) rfl)
theorem kc_yX7_isWritten : Cond.code yX7_isWritten cX7_isWritten 5 (some .boolean) ∈ TBL := tb_3 (List.mem_of_getElem? (i := 2) rfl)
theorem ky_yX7_isWritten : yX7_isWritten.cls ≠ "java/lang/invoke/MethodHandle" ∧ yX7_isWritten.cls ≠ "java/lang/invoke/VarHandle" ∧ (parseMethodDescriptor yX7_isWritten.desc).map (fun d => d.parameters.length) = some 3 := by decide +kernel
theorem ki_yX7_isWritten : Cond.instanceMethod yX7_isWritten ∈ TBL := tb_3 (List.mem_of_getElem? (i := 0) rfl)
theorem kv_yX7_isWritten : Cond.selects RX7 yX7_isWritten yX7_isWritten ∈ TBL := tb_0 (List.mem_of_getElem? (i := 5) rfl)
theorem kc_yX8_beginRepeat : Cond.code yX8_beginRepeat cX8_beginRepeat 4 (some .boolean) ∈ TBL := tb_13 (List.mem_of_getElem? (i := 26) rfl)
theorem ky_yX8_beginRepeat : yX8_beginRepeat.cls ≠ "java/lang/invoke/MethodHandle" ∧ yX8_beginRepeat.cls ≠ "java/lang/invoke/VarHandle" ∧ (parseMethodDescriptor yX8_beginRepeat.desc).map (fun d => d.parameters.length) = some 2 := by decide +kernel
theorem ki_yX8_beginRepeat : Cond.instanceMethod yX8_beginRepeat ∈ TBL := tb_13 (List.mem_of_getElem? (i := 25) rfl)
theorem kv_yX8_beginRepeat : Cond.selects RX8 yX8_beginRepeat yX8_beginRepeat ∈ TBL := tb_1 (List.mem_of_getElem? (i := 6) rfl)
theorem kn_RX8 : Cond.initialized RX8 ∈ TBL := tb_1 (List.mem_of_getElem? (i := 20) rfl)
theorem kc_yX8_branch : Cond.code yX8_branch cX8_branch 3 (some .boolean) ∈ TBL := tb_13 (List.mem_of_getElem? (i := 23) rfl)
theorem ky_yX8_branch : yX8_branch.cls ≠ "java/lang/invoke/MethodHandle" ∧ yX8_branch.cls ≠ "java/lang/invoke/VarHandle" ∧ (parseMethodDescriptor yX8_branch.desc).map (fun d => d.parameters.length) = some 2 := by decide +kernel
theorem ki_yX8_branch : Cond.instanceMethod yX8_branch ∈ TBL := tb_13 (List.mem_of_getElem? (i := 22) rfl)
theorem kv_yX8_branch : Cond.selects RX8 yX8_branch yX8_branch ∈ TBL := tb_1 (List.mem_of_getElem? (i := 5) rfl)
theorem kc_yX8_carryOut : Cond.code yX8_carryOut cX8_carryOut 3 (some .boolean) ∈ TBL := tb_12 (List.mem_of_getElem? (i := 12) rfl)
theorem ky_yX8_carryOut : yX8_carryOut.cls ≠ "java/lang/invoke/MethodHandle" ∧ yX8_carryOut.cls ≠ "java/lang/invoke/VarHandle" ∧ (parseMethodDescriptor yX8_carryOut.desc).map (fun d => d.parameters.length) = some 1 := by decide +kernel
theorem ki_yX8_carryOut : Cond.instanceMethod yX8_carryOut ∈ TBL := tb_12 (List.mem_of_getElem? (i := 11) rfl)
theorem kv_yX8_carryOut : Cond.selects RX8 yX8_carryOut yX8_carryOut ∈ TBL := tb_0 (List.mem_of_getElem? (i := 36) rfl)
theorem kc_yX8_cut : Cond.code yX8_cut cX8_cut 5 (some .boolean) ∈ TBL := tb_12 (List.mem_of_getElem? (i := 32) rfl)
theorem ky_yX8_cut : yX8_cut.cls ≠ "java/lang/invoke/MethodHandle" ∧ yX8_cut.cls ≠ "java/lang/invoke/VarHandle" ∧ (parseMethodDescriptor yX8_cut.desc).map (fun d => d.parameters.length) = some 1 := by decide +kernel
theorem ki_yX8_cut : Cond.instanceMethod yX8_cut ∈ TBL := tb_12 (List.mem_of_getElem? (i := 31) rfl)
theorem kv_yX8_cut : Cond.selects RX8 yX8_cut yX8_cut ∈ TBL := tb_0 (List.mem_of_getElem? (i := 39) rfl)
theorem kc_yX8_endHour : Cond.code yX8_endHour cX8_endHour 3 (some .boolean) ∈ TBL := tb_12 (List.mem_of_getElem? (i := 36) rfl)
theorem ky_yX8_endHour : yX8_endHour.cls ≠ "java/lang/invoke/MethodHandle" ∧ yX8_endHour.cls ≠ "java/lang/invoke/VarHandle" ∧ (parseMethodDescriptor yX8_endHour.desc).map (fun d => d.parameters.length) = some 2 := by decide +kernel
theorem ki_yX8_endHour : Cond.instanceMethod yX8_endHour ∈ TBL := tb_12 (List.mem_of_getElem? (i := 35) rfl)
theorem kv_yX8_endHour : Cond.selects RX8 yX8_endHour yX8_endHour ∈ TBL := tb_1 (List.mem_of_getElem? (i := 0) rfl)
theorem kc_yX8_go : Cond.code yX8_go cX8_go 6 (some .boolean) ∈ TBL := tb_12 (List.mem_of_getElem? (i := 23) rfl)
theorem ky_yX8_go : yX8_go.cls ≠ "java/lang/invoke/MethodHandle" ∧ yX8_go.cls ≠ "java/lang/invoke/VarHandle" ∧ (parseMethodDescriptor yX8_go.desc).map (fun d => d.parameters.length) = some 1 := by decide +kernel
theorem ki_yX8_go : Cond.instanceMethod yX8_go ∈ TBL := tb_12 (List.mem_of_getElem? (i := 22) rfl)
theorem kv_yX8_go : Cond.selects RX8 yX8_go yX8_go ∈ TBL := tb_0 (List.mem_of_getElem? (i := 37) rfl)
theorem kc_yX8_init : Cond.code yX8_init cX8_init 2 none ∈ TBL := tb_20 (List.mem_of_getElem? (i := 17) rfl)
theorem ky_yX8_init : yX8_init.cls ≠ "java/lang/invoke/MethodHandle" ∧ yX8_init.cls ≠ "java/lang/invoke/VarHandle" ∧ (parseMethodDescriptor yX8_init.desc).map (fun d => d.parameters.length) = some 1 := by decide +kernel
theorem ki_yX8_init : Cond.instanceMethod yX8_init ∈ TBL := tb_20 (List.mem_of_getElem? (i := 16) rfl)
theorem kc_yX8_isHourOver : Cond.code yX8_isHourOver cX8_isHourOver 1 (some .boolean) ∈ TBL := tb_12 (List.mem_of_getElem? (i := 26) rfl)
theorem ky_yX8_isHourOver : yX8_isHourOver.cls ≠ "java/lang/invoke/MethodHandle" ∧ yX8_isHourOver.cls ≠ "java/lang/invoke/VarHandle" ∧ (parseMethodDescriptor yX8_isHourOver.desc).map (fun d => d.parameters.length) = some 0 := by decide +kernel
theorem ki_yX8_isHourOver : Cond.instanceMethod yX8_isHourOver ∈ TBL := tb_12 (List.mem_of_getElem? (i := 25) rfl)
theorem kv_yX8_isHourOver : Cond.selects RX8 yX8_isHourOver yX8_isHourOver ∈ TBL := tb_0 (List.mem_of_getElem? (i := 38) rfl)
theorem kc_yX8_join : Cond.code yX8_join cX8_join 3 (some .int) ∈ TBL := tb_12 (List.mem_of_getElem? (i := 5) rfl)
theorem ky_yX8_join : yX8_join.cls ≠ "java/lang/invoke/MethodHandle" ∧ yX8_join.cls ≠ "java/lang/invoke/VarHandle" ∧ (parseMethodDescriptor yX8_join.desc).map (fun d => d.parameters.length) = some 3 := by decide +kernel
theorem kt_yX8_join : Cond.static yX8_join ∈ TBL := tb_12 (List.mem_of_getElem? (i := 4) rfl)
theorem kc_yX8_load : Cond.code yX8_load cX8_load 4 (some .boolean) ∈ TBL := tb_13 (List.mem_of_getElem? (i := 2) rfl)
theorem ky_yX8_load : yX8_load.cls ≠ "java/lang/invoke/MethodHandle" ∧ yX8_load.cls ≠ "java/lang/invoke/VarHandle" ∧ (parseMethodDescriptor yX8_load.desc).map (fun d => d.parameters.length) = some 1 := by decide +kernel
theorem ki_yX8_load : Cond.instanceMethod yX8_load ∈ TBL := tb_13 (List.mem_of_getElem? (i := 1) rfl)
theorem kv_yX8_load : Cond.selects RX8 yX8_load yX8_load ∈ TBL := tb_1 (List.mem_of_getElem? (i := 2) rfl)
theorem kc_yX8_pop : Cond.code yX8_pop cX8_pop 1 (some .int) ∈ TBL := tb_12 (List.mem_of_getElem? (i := 2) rfl)
theorem ky_yX8_pop : yX8_pop.cls ≠ "java/lang/invoke/MethodHandle" ∧ yX8_pop.cls ≠ "java/lang/invoke/VarHandle" ∧ (parseMethodDescriptor yX8_pop.desc).map (fun d => d.parameters.length) = some 0 := by decide +kernel
theorem ki_yX8_pop : Cond.instanceMethod yX8_pop ∈ TBL := tb_12 (List.mem_of_getElem? (i := 1) rfl)
theorem kv_yX8_pop : Cond.selects RX8 yX8_pop yX8_pop ∈ TBL := tb_0 (List.mem_of_getElem? (i := 35) rfl)
theorem kc_yX8_push : Cond.code yX8_push cX8_push 2 none ∈ TBL := tb_11 (List.mem_of_getElem? (i := 28) rfl)
theorem ky_yX8_push : yX8_push.cls ≠ "java/lang/invoke/MethodHandle" ∧ yX8_push.cls ≠ "java/lang/invoke/VarHandle" ∧ (parseMethodDescriptor yX8_push.desc).map (fun d => d.parameters.length) = some 1 := by decide +kernel
theorem ki_yX8_push : Cond.instanceMethod yX8_push ∈ TBL := tb_11 (List.mem_of_getElem? (i := 27) rfl)
theorem kv_yX8_push : Cond.selects RX8 yX8_push yX8_push ∈ TBL := tb_0 (List.mem_of_getElem? (i := 33) rfl)
theorem kc_yX8_read : Cond.code yX8_read cX8_read 3 (some .int) ∈ TBL := tb_11 (List.mem_of_getElem? (i := 31) rfl)
theorem ky_yX8_read : yX8_read.cls ≠ "java/lang/invoke/MethodHandle" ∧ yX8_read.cls ≠ "java/lang/invoke/VarHandle" ∧ (parseMethodDescriptor yX8_read.desc).map (fun d => d.parameters.length) = some 1 := by decide +kernel
theorem ki_yX8_read : Cond.instanceMethod yX8_read ∈ TBL := tb_11 (List.mem_of_getElem? (i := 30) rfl)
theorem kv_yX8_read : Cond.selects RX8 yX8_read yX8_read ∈ TBL := tb_0 (List.mem_of_getElem? (i := 34) rfl)
theorem kc_yX8_reckon : Cond.code yX8_reckon cX8_reckon 5 none ∈ TBL := tb_11 (List.mem_of_getElem? (i := 25) rfl)
theorem ky_yX8_reckon : yX8_reckon.cls ≠ "java/lang/invoke/MethodHandle" ∧ yX8_reckon.cls ≠ "java/lang/invoke/VarHandle" ∧ (parseMethodDescriptor yX8_reckon.desc).map (fun d => d.parameters.length) = some 2 := by decide +kernel
theorem ki_yX8_reckon : Cond.instanceMethod yX8_reckon ∈ TBL := tb_11 (List.mem_of_getElem? (i := 24) rfl)
theorem kv_yX8_reckon : Cond.selects RX8 yX8_reckon yX8_reckon ∈ TBL := tb_0 (List.mem_of_getElem? (i := 32) rfl)
theorem kc_yX8_reckonSums : Cond.code yX8_reckonSums cX8_reckonSums 2 (some .int) ∈ TBL := tb_11 (List.mem_of_getElem? (i := 22) rfl)
theorem ky_yX8_reckonSums : yX8_reckonSums.cls ≠ "java/lang/invoke/MethodHandle" ∧ yX8_reckonSums.cls ≠ "java/lang/invoke/VarHandle" ∧ (parseMethodDescriptor yX8_reckonSums.desc).map (fun d => d.parameters.length) = some 0 := by decide +kernel
theorem ki_yX8_reckonSums : Cond.instanceMethod yX8_reckonSums ∈ TBL := tb_11 (List.mem_of_getElem? (i := 20) rfl)
theorem kv_yX8_reckonSums : Cond.selects RX8 yX8_reckonSums yX8_reckonSums ∈ TBL := tb_0 (List.mem_of_getElem? (i := 31) rfl)
theorem kc_yX8_repeat : Cond.code yX8_repeat cX8_repeat 4 (some .boolean) ∈ TBL := tb_13 (List.mem_of_getElem? (i := 29) rfl)
theorem ky_yX8_repeat : yX8_repeat.cls ≠ "java/lang/invoke/MethodHandle" ∧ yX8_repeat.cls ≠ "java/lang/invoke/VarHandle" ∧ (parseMethodDescriptor yX8_repeat.desc).map (fun d => d.parameters.length) = some 2 := by decide +kernel
theorem ki_yX8_repeat : Cond.instanceMethod yX8_repeat ∈ TBL := tb_13 (List.mem_of_getElem? (i := 28) rfl)
theorem kv_yX8_repeat : Cond.selects RX8 yX8_repeat yX8_repeat ∈ TBL := tb_1 (List.mem_of_getElem? (i := 7) rfl)
theorem kc_yX8_rest : Cond.code yX8_rest cX8_rest 2 (some .boolean) ∈ TBL := tb_13 (List.mem_of_getElem? (i := 20) rfl)
theorem ky_yX8_rest : yX8_rest.cls ≠ "java/lang/invoke/MethodHandle" ∧ yX8_rest.cls ≠ "java/lang/invoke/VarHandle" ∧ (parseMethodDescriptor yX8_rest.desc).map (fun d => d.parameters.length) = some 1 := by decide +kernel
theorem ki_yX8_rest : Cond.instanceMethod yX8_rest ∈ TBL := tb_13 (List.mem_of_getElem? (i := 19) rfl)
theorem kv_yX8_rest : Cond.selects RX8 yX8_rest yX8_rest ∈ TBL := tb_1 (List.mem_of_getElem? (i := 4) rfl)
theorem kc_yX8_turn : Cond.code yX8_turn cX8_turn 3 (some .boolean) ∈ TBL := tb_12 (List.mem_of_getElem? (i := 39) rfl)
theorem ky_yX8_turn : yX8_turn.cls ≠ "java/lang/invoke/MethodHandle" ∧ yX8_turn.cls ≠ "java/lang/invoke/VarHandle" ∧ (parseMethodDescriptor yX8_turn.desc).map (fun d => d.parameters.length) = some 1 := by decide +kernel
theorem ki_yX8_turn : Cond.instanceMethod yX8_turn ∈ TBL := tb_12 (List.mem_of_getElem? (i := 38) rfl)
theorem kv_yX8_turn : Cond.selects RX8 yX8_turn yX8_turn ∈ TBL := tb_1 (List.mem_of_getElem? (i := 1) rfl)
theorem kc_yX8_unload : Cond.code yX8_unload cX8_unload 4 (some .boolean) ∈ TBL := tb_13 (List.mem_of_getElem? (i := 13) rfl)
theorem ky_yX8_unload : yX8_unload.cls ≠ "java/lang/invoke/MethodHandle" ∧ yX8_unload.cls ≠ "java/lang/invoke/VarHandle" ∧ (parseMethodDescriptor yX8_unload.desc).map (fun d => d.parameters.length) = some 1 := by decide +kernel
theorem ki_yX8_unload : Cond.instanceMethod yX8_unload ∈ TBL := tb_13 (List.mem_of_getElem? (i := 12) rfl)
theorem kv_yX8_unload : Cond.selects RX8 yX8_unload yX8_unload ∈ TBL := tb_1 (List.mem_of_getElem? (i := 3) rfl)
theorem kc_yX8_workHour : Cond.code yX8_workHour cX8_workHour 4 none ∈ TBL := tb_11 (List.mem_of_getElem? (i := 17) rfl)
theorem ky_yX8_workHour : yX8_workHour.cls ≠ "java/lang/invoke/MethodHandle" ∧ yX8_workHour.cls ≠ "java/lang/invoke/VarHandle" ∧ (parseMethodDescriptor yX8_workHour.desc).map (fun d => d.parameters.length) = some 1 := by decide +kernel
theorem ki_yX8_workHour : Cond.instanceMethod yX8_workHour ∈ TBL := tb_11 (List.mem_of_getElem? (i := 15) rfl)
theorem kv_yX8_workHour : Cond.selects RX8 yX8_workHour yX8_workHour ∈ TBL := tb_11 (List.mem_of_getElem? (i := 16) rfl)
theorem kc_yX9_append : Cond.code yX9_append cX9_append 3 none ∈ TBL := tb_15 (List.mem_of_getElem? (i := 29) rfl)
theorem ky_yX9_append : yX9_append.cls ≠ "java/lang/invoke/MethodHandle" ∧ yX9_append.cls ≠ "java/lang/invoke/VarHandle" ∧ (parseMethodDescriptor yX9_append.desc).map (fun d => d.parameters.length) = some 1 := by decide +kernel
theorem ki_yX9_append : Cond.instanceMethod yX9_append ∈ TBL := tb_15 (List.mem_of_getElem? (i := 28) rfl)
theorem kv_yX9_append : Cond.selects RX9 yX9_append yX9_append ∈ TBL := tb_1 (List.mem_of_getElem? (i := 12) rfl)
theorem kn_RX9 : Cond.initialized RX9 ∈ TBL := tb_1 (List.mem_of_getElem? (i := 14) rfl)
theorem kc_yX9_cell : Cond.code yX9_cell cX9_cell 4 (some .int) ∈ TBL := tb_10 (List.mem_of_getElem? (i := 34) rfl)
theorem ky_yX9_cell : yX9_cell.cls ≠ "java/lang/invoke/MethodHandle" ∧ yX9_cell.cls ≠ "java/lang/invoke/VarHandle" ∧ (parseMethodDescriptor yX9_cell.desc).map (fun d => d.parameters.length) = some 3 := by decide +kernel
theorem ki_yX9_cell : Cond.instanceMethod yX9_cell ∈ TBL := tb_10 (List.mem_of_getElem? (i := 32) rfl)
theorem kv_yX9_cell : Cond.selects RX9 yX9_cell yX9_cell ∈ TBL := tb_10 (List.mem_of_getElem? (i := 33) rfl)
theorem kc_yX9_cellAt : Cond.code yX9_cellAt cX9_cellAt 2 (some .int) ∈ TBL := tb_10 (List.mem_of_getElem? (i := 10) rfl)
theorem ky_yX9_cellAt : yX9_cellAt.cls ≠ "java/lang/invoke/MethodHandle" ∧ yX9_cellAt.cls ≠ "java/lang/invoke/VarHandle" ∧ (parseMethodDescriptor yX9_cellAt.desc).map (fun d => d.parameters.length) = some 2 := by decide +kernel
theorem kt_yX9_cellAt : Cond.static yX9_cellAt ∈ TBL := tb_10 (List.mem_of_getElem? (i := 9) rfl)
theorem kc_yX9_count : Cond.code yX9_count cX9_count 2 (some .int) ∈ TBL := tb_7 (List.mem_of_getElem? (i := 34) rfl)
theorem ky_yX9_count : yX9_count.cls ≠ "java/lang/invoke/MethodHandle" ∧ yX9_count.cls ≠ "java/lang/invoke/VarHandle" ∧ (parseMethodDescriptor yX9_count.desc).map (fun d => d.parameters.length) = some 1 := by decide +kernel
theorem ki_yX9_count : Cond.instanceMethod yX9_count ∈ TBL := tb_7 (List.mem_of_getElem? (i := 32) rfl)
theorem kv_yX9_count : Cond.selects RX9 yX9_count yX9_count ∈ TBL := tb_7 (List.mem_of_getElem? (i := 33) rfl)
theorem kc_yX9_counted : Cond.code yX9_counted cX9_counted 2 (some .int) ∈ TBL := tb_9 (List.mem_of_getElem? (i := 17) rfl)
theorem ky_yX9_counted : yX9_counted.cls ≠ "java/lang/invoke/MethodHandle" ∧ yX9_counted.cls ≠ "java/lang/invoke/VarHandle" ∧ (parseMethodDescriptor yX9_counted.desc).map (fun d => d.parameters.length) = some 1 := by decide +kernel
theorem ki_yX9_counted : Cond.instanceMethod yX9_counted ∈ TBL := tb_9 (List.mem_of_getElem? (i := 15) rfl)
theorem kv_yX9_counted : Cond.selects RX9 yX9_counted yX9_counted ∈ TBL := tb_0 (List.mem_of_getElem? (i := 30) rfl)
theorem kc_yX9_digest : Cond.code yX9_digest cX9_digest 5 (some .long) ∈ TBL := tb_15 (List.mem_of_getElem? (i := 4) rfl)
theorem ky_yX9_digest : yX9_digest.cls ≠ "java/lang/invoke/MethodHandle" ∧ yX9_digest.cls ≠ "java/lang/invoke/VarHandle" ∧ (parseMethodDescriptor yX9_digest.desc).map (fun d => d.parameters.length) = some 0 := by decide +kernel
theorem ki_yX9_digest : Cond.instanceMethod yX9_digest ∈ TBL := tb_15 (List.mem_of_getElem? (i := 2) rfl)
theorem kv_yX9_digest : Cond.selects RX9 yX9_digest yX9_digest ∈ TBL := tb_15 (List.mem_of_getElem? (i := 3) rfl)
theorem kc_yX9_done : Cond.code yX9_done cX9_done 3 (some .int) ∈ TBL := tb_15 (List.mem_of_getElem? (i := 0) rfl)
theorem ky_yX9_done : yX9_done.cls ≠ "java/lang/invoke/MethodHandle" ∧ yX9_done.cls ≠ "java/lang/invoke/VarHandle" ∧ (parseMethodDescriptor yX9_done.desc).map (fun d => d.parameters.length) = some 1 := by decide +kernel
theorem ki_yX9_done : Cond.instanceMethod yX9_done ∈ TBL := tb_14 (List.mem_of_getElem? (i := 38) rfl)
theorem kv_yX9_done : Cond.selects RX9 yX9_done yX9_done ∈ TBL := tb_14 (List.mem_of_getElem? (i := 39) rfl)
theorem kc_yX9_dries : Cond.code yX9_dries cX9_dries 8 (some .int) ∈ TBL := tb_14 (List.mem_of_getElem? (i := 35) rfl)
theorem ky_yX9_dries : yX9_dries.cls ≠ "java/lang/invoke/MethodHandle" ∧ yX9_dries.cls ≠ "java/lang/invoke/VarHandle" ∧ (parseMethodDescriptor yX9_dries.desc).map (fun d => d.parameters.length) = some 2 := by decide +kernel
theorem ki_yX9_dries : Cond.instanceMethod yX9_dries ∈ TBL := tb_14 (List.mem_of_getElem? (i := 33) rfl)
theorem kv_yX9_dries : Cond.selects RX9 yX9_dries yX9_dries ∈ TBL := tb_14 (List.mem_of_getElem? (i := 34) rfl)
theorem kc_yX9_errorAt : Cond.code yX9_errorAt cX9_errorAt 1 (some .int) ∈ TBL := tb_7 (List.mem_of_getElem? (i := 30) rfl)
theorem ky_yX9_errorAt : yX9_errorAt.cls ≠ "java/lang/invoke/MethodHandle" ∧ yX9_errorAt.cls ≠ "java/lang/invoke/VarHandle" ∧ (parseMethodDescriptor yX9_errorAt.desc).map (fun d => d.parameters.length) = some 0 := by decide +kernel
theorem ki_yX9_errorAt : Cond.instanceMethod yX9_errorAt ∈ TBL := tb_7 (List.mem_of_getElem? (i := 28) rfl)
theorem kv_yX9_errorAt : Cond.selects RX9 yX9_errorAt yX9_errorAt ∈ TBL := tb_7 (List.mem_of_getElem? (i := 29) rfl)
theorem kc_yX9_feed : Cond.code yX9_feed cX9_feed 6 (some .int) ∈ TBL := tb_15 (List.mem_of_getElem? (i := 26) rfl)
theorem ky_yX9_feed : yX9_feed.cls ≠ "java/lang/invoke/MethodHandle" ∧ yX9_feed.cls ≠ "java/lang/invoke/VarHandle" ∧ (parseMethodDescriptor yX9_feed.desc).map (fun d => d.parameters.length) = some 5 := by decide +kernel
theorem ki_yX9_feed : Cond.instanceMethod yX9_feed ∈ TBL := tb_15 (List.mem_of_getElem? (i := 24) rfl)
theorem kv_yX9_feed : Cond.selects RX9 yX9_feed yX9_feed ∈ TBL := tb_15 (List.mem_of_getElem? (i := 25) rfl)
theorem kc_yX9_foresee : Cond.code yX9_foresee cX9_foresee 3 (some .int) ∈ TBL := tb_14 (List.mem_of_getElem? (i := 22) rfl)
theorem ky_yX9_foresee : yX9_foresee.cls ≠ "java/lang/invoke/MethodHandle" ∧ yX9_foresee.cls ≠ "java/lang/invoke/VarHandle" ∧ (parseMethodDescriptor yX9_foresee.desc).map (fun d => d.parameters.length) = some 2 := by decide +kernel
theorem ki_yX9_foresee : Cond.instanceMethod yX9_foresee ∈ TBL := tb_14 (List.mem_of_getElem? (i := 20) rfl)
theorem kv_yX9_foresee : Cond.selects RX9 yX9_foresee yX9_foresee ∈ TBL := tb_14 (List.mem_of_getElem? (i := 21) rfl)
theorem kc_yX9_gang : Cond.code yX9_gang cX9_gang 3 (some .int) ∈ TBL := tb_11 (List.mem_of_getElem? (i := 2) rfl)
theorem ky_yX9_gang : yX9_gang.cls ≠ "java/lang/invoke/MethodHandle" ∧ yX9_gang.cls ≠ "java/lang/invoke/VarHandle" ∧ (parseMethodDescriptor yX9_gang.desc).map (fun d => d.parameters.length) = some 2 := by decide +kernel
theorem ki_yX9_gang : Cond.instanceMethod yX9_gang ∈ TBL := tb_11 (List.mem_of_getElem? (i := 0) rfl)
theorem kv_yX9_gang : Cond.selects RX9 yX9_gang yX9_gang ∈ TBL := tb_11 (List.mem_of_getElem? (i := 1) rfl)
theorem kc_yX9_held : Cond.code yX9_held cX9_held 2 (some .int) ∈ TBL := tb_14 (List.mem_of_getElem? (i := 4) rfl)
theorem ky_yX9_held : yX9_held.cls ≠ "java/lang/invoke/MethodHandle" ∧ yX9_held.cls ≠ "java/lang/invoke/VarHandle" ∧ (parseMethodDescriptor yX9_held.desc).map (fun d => d.parameters.length) = some 2 := by decide +kernel
theorem kt_yX9_held : Cond.static yX9_held ∈ TBL := tb_14 (List.mem_of_getElem? (i := 3) rfl)
theorem kc_yX9_init : Cond.code yX9_init cX9_init 1 none ∈ TBL := tb_16 (List.mem_of_getElem? (i := 0) rfl)
theorem ky_yX9_init : yX9_init.cls ≠ "java/lang/invoke/MethodHandle" ∧ yX9_init.cls ≠ "java/lang/invoke/VarHandle" ∧ (parseMethodDescriptor yX9_init.desc).map (fun d => d.parameters.length) = some 0 := by decide +kernel
theorem ki_yX9_init : Cond.instanceMethod yX9_init ∈ TBL := tb_15 (List.mem_of_getElem? (i := 39) rfl)
theorem kc_yX9_isCell : Cond.code yX9_isCell cX9_isCell 2 (some .boolean) ∈ TBL := tb_5 (List.mem_of_getElem? (i := 28) rfl)
theorem ky_yX9_isCell : yX9_isCell.cls ≠ "java/lang/invoke/MethodHandle" ∧ yX9_isCell.cls ≠ "java/lang/invoke/VarHandle" ∧ (parseMethodDescriptor yX9_isCell.desc).map (fun d => d.parameters.length) = some 2 := by decide +kernel
theorem kt_yX9_isCell : Cond.static yX9_isCell ∈ TBL := tb_5 (List.mem_of_getElem? (i := 27) rfl)
theorem kc_yX9_isWithin : Cond.code yX9_isWithin cX9_isWithin 3 (some .boolean) ∈ TBL := tb_5 (List.mem_of_getElem? (i := 31) rfl)
theorem ky_yX9_isWithin : yX9_isWithin.cls ≠ "java/lang/invoke/MethodHandle" ∧ yX9_isWithin.cls ≠ "java/lang/invoke/VarHandle" ∧ (parseMethodDescriptor yX9_isWithin.desc).map (fun d => d.parameters.length) = some 3 := by decide +kernel
theorem kt_yX9_isWithin : Cond.static yX9_isWithin ∈ TBL := tb_5 (List.mem_of_getElem? (i := 30) rfl)
theorem kc_yX9_letPass : Cond.code yX9_letPass cX9_letPass 4 none ∈ TBL := tb_11 (List.mem_of_getElem? (i := 13) rfl)
theorem ky_yX9_letPass : yX9_letPass.cls ≠ "java/lang/invoke/MethodHandle" ∧ yX9_letPass.cls ≠ "java/lang/invoke/VarHandle" ∧ (parseMethodDescriptor yX9_letPass.desc).map (fun d => d.parameters.length) = some 2 := by decide +kernel
theorem kt_yX9_letPass : Cond.static yX9_letPass ∈ TBL := tb_11 (List.mem_of_getElem? (i := 12) rfl)
theorem kc_yX9_mixed : Cond.code yX9_mixed cX9_mixed 5 (some .int) ∈ TBL := tb_10 (List.mem_of_getElem? (i := 30) rfl)
theorem ky_yX9_mixed : yX9_mixed.cls ≠ "java/lang/invoke/MethodHandle" ∧ yX9_mixed.cls ≠ "java/lang/invoke/VarHandle" ∧ (parseMethodDescriptor yX9_mixed.desc).map (fun d => d.parameters.length) = some 4 := by decide +kernel
theorem kt_yX9_mixed : Cond.static yX9_mixed ∈ TBL := tb_10 (List.mem_of_getElem? (i := 29) rfl)
theorem kc_yX9_pass : Cond.code yX9_pass cX9_pass 3 (some .int) ∈ TBL := tb_11 (List.mem_of_getElem? (i := 10) rfl)
theorem ky_yX9_pass : yX9_pass.cls ≠ "java/lang/invoke/MethodHandle" ∧ yX9_pass.cls ≠ "java/lang/invoke/VarHandle" ∧ (parseMethodDescriptor yX9_pass.desc).map (fun d => d.parameters.length) = some 1 := by decide +kernel
theorem ki_yX9_pass : Cond.instanceMethod yX9_pass ∈ TBL := tb_11 (List.mem_of_getElem? (i := 8) rfl)
theorem kv_yX9_pass : Cond.selects RX9 yX9_pass yX9_pass ∈ TBL := tb_11 (List.mem_of_getElem? (i := 9) rfl)
theorem kc_yX9_set : Cond.code yX9_set cX9_set 7 (some .int) ∈ TBL := tb_22 (List.mem_of_getElem? (i := 2) rfl)
theorem ky_yX9_set : yX9_set.cls ≠ "java/lang/invoke/MethodHandle" ∧ yX9_set.cls ≠ "java/lang/invoke/VarHandle" ∧ (parseMethodDescriptor yX9_set.desc).map (fun d => d.parameters.length) = some 4 := by decide +kernel
theorem ki_yX9_set : Cond.instanceMethod yX9_set ∈ TBL := tb_22 (List.mem_of_getElem? (i := 0) rfl)
theorem kv_yX9_set : Cond.selects RX9 yX9_set yX9_set ∈ TBL := tb_22 (List.mem_of_getElem? (i := 1) rfl)
theorem kc_yX9_setWeather : Cond.code yX9_setWeather cX9_setWeather 5 (some .int) ∈ TBL := tb_21 (List.mem_of_getElem? (i := 38) rfl)
theorem ky_yX9_setWeather : yX9_setWeather.cls ≠ "java/lang/invoke/MethodHandle" ∧ yX9_setWeather.cls ≠ "java/lang/invoke/VarHandle" ∧ (parseMethodDescriptor yX9_setWeather.desc).map (fun d => d.parameters.length) = some 3 := by decide +kernel
theorem ki_yX9_setWeather : Cond.instanceMethod yX9_setWeather ∈ TBL := tb_21 (List.mem_of_getElem? (i := 36) rfl)
theorem kv_yX9_setWeather : Cond.selects RX9 yX9_setWeather yX9_setWeather ∈ TBL := tb_21 (List.mem_of_getElem? (i := 37) rfl)
theorem kc_yX9_stack : Cond.code yX9_stack cX9_stack 6 (some .int) ∈ TBL := tb_9 (List.mem_of_getElem? (i := 32) rfl)
theorem ky_yX9_stack : yX9_stack.cls ≠ "java/lang/invoke/MethodHandle" ∧ yX9_stack.cls ≠ "java/lang/invoke/VarHandle" ∧ (parseMethodDescriptor yX9_stack.desc).map (fun d => d.parameters.length) = some 4 := by decide +kernel
theorem ki_yX9_stack : Cond.instanceMethod yX9_stack ∈ TBL := tb_9 (List.mem_of_getElem? (i := 30) rfl)
theorem kv_yX9_stack : Cond.selects RX9 yX9_stack yX9_stack ∈ TBL := tb_9 (List.mem_of_getElem? (i := 31) rfl)
theorem kc_yX9_sumOf : Cond.code yX9_sumOf cX9_sumOf 6 (some .int) ∈ TBL := tb_9 (List.mem_of_getElem? (i := 20) rfl)
theorem ky_yX9_sumOf : yX9_sumOf.cls ≠ "java/lang/invoke/MethodHandle" ∧ yX9_sumOf.cls ≠ "java/lang/invoke/VarHandle" ∧ (parseMethodDescriptor yX9_sumOf.desc).map (fun d => d.parameters.length) = some 1 := by decide +kernel
theorem kt_yX9_sumOf : Cond.static yX9_sumOf ∈ TBL := tb_9 (List.mem_of_getElem? (i := 19) rfl)
theorem kc_yX9_teach : Cond.code yX9_teach cX9_teach 2 (some .int) ∈ TBL := tb_2 (List.mem_of_getElem? (i := 4) rfl)
theorem ky_yX9_teach : yX9_teach.cls ≠ "java/lang/invoke/MethodHandle" ∧ yX9_teach.cls ≠ "java/lang/invoke/VarHandle" ∧ (parseMethodDescriptor yX9_teach.desc).map (fun d => d.parameters.length) = some 0 := by decide +kernel
theorem ki_yX9_teach : Cond.instanceMethod yX9_teach ∈ TBL := tb_2 (List.mem_of_getElem? (i := 2) rfl)
theorem kv_yX9_teach : Cond.selects RX9 yX9_teach yX9_teach ∈ TBL := tb_2 (List.mem_of_getElem? (i := 3) rfl)
theorem kc_yX9_trim : Cond.code yX9_trim cX9_trim 2 (some .int) ∈ TBL := tb_15 (List.mem_of_getElem? (i := 33) rfl)
theorem ky_yX9_trim : yX9_trim.cls ≠ "java/lang/invoke/MethodHandle" ∧ yX9_trim.cls ≠ "java/lang/invoke/VarHandle" ∧ (parseMethodDescriptor yX9_trim.desc).map (fun d => d.parameters.length) = some 1 := by decide +kernel
theorem ki_yX9_trim : Cond.instanceMethod yX9_trim ∈ TBL := tb_15 (List.mem_of_getElem? (i := 31) rfl)
theorem kv_yX9_trim : Cond.selects RX9 yX9_trim yX9_trim ∈ TBL := tb_15 (List.mem_of_getElem? (i := 32) rfl)
theorem kc_yX9_wetnessBehindNight : Cond.code yX9_wetnessBehindNight cX9_wetnessBehindNight 5 (some .int) ∈ TBL := tb_14 (List.mem_of_getElem? (i := 1) rfl)
theorem ky_yX9_wetnessBehindNight : yX9_wetnessBehindNight.cls ≠ "java/lang/invoke/MethodHandle" ∧ yX9_wetnessBehindNight.cls ≠ "java/lang/invoke/VarHandle" ∧ (parseMethodDescriptor yX9_wetnessBehindNight.desc).map (fun d => d.parameters.length) = some 4 := by decide +kernel
theorem kt_yX9_wetnessBehindNight : Cond.static yX9_wetnessBehindNight ∈ TBL := tb_14 (List.mem_of_getElem? (i := 0) rfl)
theorem kn_Math : Cond.initialized "java/lang/Math" ∈ TBL := tb_1 (List.mem_of_getElem? (i := 32) rfl)
theorem kn_System : Cond.initialized "java/lang/System" ∈ TBL := tb_1 (List.mem_of_getElem? (i := 34) rfl)
theorem kt_Mmin : Cond.static Lib.Math.min.name ∈ TBL := tb_2 (List.mem_of_getElem? (i := 14) rfl)
theorem kc_Mmin : Cond.code Lib.Math.min.name Lib.Math.min.code 2 (some .int) ∈ TBL := tb_2 (List.mem_of_getElem? (i := 15) rfl)
theorem kt_Mmax : Cond.static Lib.Math.max.name ∈ TBL := tb_12 (List.mem_of_getElem? (i := 8) rfl)
theorem kc_Mmax : Cond.code Lib.Math.max.name Lib.Math.max.code 2 (some .int) ∈ TBL := tb_12 (List.mem_of_getElem? (i := 9) rfl)
theorem kt_copy : Cond.static arraycopyName ∈ TBL := tb_14 (List.mem_of_getElem? (i := 14) rfl)
theorem ka_copy : Cond.native arraycopyName ∈ TBL := tb_14 (List.mem_of_getElem? (i := 15) rfl)
theorem km_X9_42 : Cond.methodLink RX9 42 yX1_init ∈ TBL := tb_17 (List.mem_of_getElem? (i := 39) rfl)
theorem km_X9_51 : Cond.methodLink RX9 51 yX8_init ∈ TBL := tb_20 (List.mem_of_getElem? (i := 15) rfl)
theorem km_X9_74 : Cond.methodLink RX9 74 yX9_append ∈ TBL := tb_15 (List.mem_of_getElem? (i := 27) rfl)
theorem km_X9_83 : Cond.methodLink RX9 83 yX4_parse ∈ TBL := tb_2 (List.mem_of_getElem? (i := 5) rfl)
theorem km_X9_91 : Cond.methodLink RX9 91 yX1_employ ∈ TBL := tb_7 (List.mem_of_getElem? (i := 19) rfl)
theorem km_X9_99 : Cond.methodLink RX9 99 yX9_counted ∈ TBL := tb_9 (List.mem_of_getElem? (i := 14) rfl)
theorem km_X9_122 : Cond.methodLink RX9 122 yX9_sumOf ∈ TBL := tb_9 (List.mem_of_getElem? (i := 18) rfl)
theorem km_X9_126 : Cond.methodLink RX9 126 yX1_bricksInCarts ∈ TBL := tb_9 (List.mem_of_getElem? (i := 21) rfl)
theorem km_X9_139 : Cond.methodLink RX9 139 yX1_floodedCells ∈ TBL := tb_9 (List.mem_of_getElem? (i := 25) rfl)
theorem km_X9_144 : Cond.methodLink RX9 144 yX9_isWithin ∈ TBL := tb_5 (List.mem_of_getElem? (i := 29) rfl)
theorem km_X9_156 : Cond.methodLink RX9 156 yX9_isCell ∈ TBL := tb_9 (List.mem_of_getElem? (i := 33) rfl)
theorem km_X9_162 : Cond.methodLink RX9 162 yX9_cellAt ∈ TBL := tb_10 (List.mem_of_getElem? (i := 8) rfl)
theorem km_X9_175 : Cond.methodLink RX9 175 yX1_addToStack ∈ TBL := tb_10 (List.mem_of_getElem? (i := 25) rfl)
theorem km_X9_181 : Cond.methodLink RX9 181 yX1_tellCell ∈ TBL := tb_10 (List.mem_of_getElem? (i := 35) rfl)
theorem km_X9_192 : Cond.methodLink RX9 192 yX2_tell ∈ TBL := tb_11 (List.mem_of_getElem? (i := 3) rfl)
theorem km_X9_199 : Cond.methodLink RX9 199 yX9_letPass ∈ TBL := tb_11 (List.mem_of_getElem? (i := 11) rfl)
theorem km_X9_204 : Cond.methodLink RX9 204 yX8_workHour ∈ TBL := tb_11 (List.mem_of_getElem? (i := 14) rfl)
theorem km_X9_208 : Cond.methodLink RX9 208 yX1_endHour ∈ TBL := tb_13 (List.mem_of_getElem? (i := 30) rfl)
theorem km_X9_215 : Cond.methodLink RX9 215 yX1_copy ∈ TBL := tb_14 (List.mem_of_getElem? (i := 23) rfl)
theorem km_X9_224 : Cond.methodLink RX9 224 yX9_wetnessBehindNight ∈ TBL := tb_14 (List.mem_of_getElem? (i := 36) rfl)
theorem km_X9_228 : Cond.methodLink RX9 228 yX9_held ∈ TBL := tb_14 (List.mem_of_getElem? (i := 2) rfl)
theorem km_X9_231 : Cond.methodLink RX9 231 yJ9_min_7cf53 ∈ TBL := tb_14 (List.mem_of_getElem? (i := 5) rfl)
theorem km_X9_236 : Cond.methodLink RX9 236 yJ9_max_7cf53 ∈ TBL := tb_14 (List.mem_of_getElem? (i := 6) rfl)
theorem km_X1_69 : Cond.methodLink RX1 69 arraycopyName ∈ TBL := tb_14 (List.mem_of_getElem? (i := 13) rfl)
theorem km_X1_75 : Cond.methodLink RX1 75 yX2_copy ∈ TBL := tb_14 (List.mem_of_getElem? (i := 27) rfl)
theorem km_X1_91 : Cond.methodLink RX1 91 yX2_begin ∈ TBL := tb_7 (List.mem_of_getElem? (i := 23) rfl)
theorem km_X1_112 : Cond.methodLink RX1 112 yX1_dryStacks ∈ TBL := tb_13 (List.mem_of_getElem? (i := 34) rfl)
theorem km_X1_115 : Cond.methodLink RX1 115 yX1_moveWater ∈ TBL := tb_14 (List.mem_of_getElem? (i := 7) rfl)
theorem km_X1_118 : Cond.methodLink RX1 118 yX1_rise ∈ TBL := tb_14 (List.mem_of_getElem? (i := 10) rfl)
theorem km_X1_121 : Cond.methodLink RX1 121 yX1_rainOfDay ∈ TBL := tb_13 (List.mem_of_getElem? (i := 38) rfl)
theorem km_X1_125 : Cond.methodLink RX1 125 yX1_sunOfDay ∈ TBL := tb_13 (List.mem_of_getElem? (i := 39) rfl)
theorem km_X1_135 : Cond.methodLink RX1 135 yX1_neighboursWithPeat ∈ TBL := tb_14 (List.mem_of_getElem? (i := 16) rfl)
theorem km_X2_47 : Cond.methodLink RX2 47 arraycopyName ∈ TBL := tb_14 (List.mem_of_getElem? (i := 31) rfl)
theorem km_X4_36 : Cond.methodLink RX4 36 yX6_scan ∈ TBL := tb_2 (List.mem_of_getElem? (i := 9) rfl)
theorem km_X4_40 : Cond.methodLink RX4 40 yX5_clear ∈ TBL := tb_4 (List.mem_of_getElem? (i := 13) rfl)
theorem km_X4_49 : Cond.methodLink RX4 49 yX4_kind ∈ TBL := tb_4 (List.mem_of_getElem? (i := 17) rfl)
theorem km_X4_59 : Cond.methodLink RX4 59 yX4_oneGang ∈ TBL := tb_4 (List.mem_of_getElem? (i := 26) rfl)
theorem km_X4_66 : Cond.methodLink RX4 66 yX4_refuse ∈ TBL := tb_4 (List.mem_of_getElem? (i := 33) rfl)
theorem km_X4_69 : Cond.methodLink RX4 69 yX6_kindOf ∈ TBL := tb_4 (List.mem_of_getElem? (i := 21) rfl)
theorem km_X4_73 : Cond.methodLink RX4 73 yX6_startOf ∈ TBL := tb_4 (List.mem_of_getElem? (i := 36) rfl)
theorem km_X4_80 : Cond.methodLink RX4 80 yX4_expect ∈ TBL := tb_4 (List.mem_of_getElem? (i := 30) rfl)
theorem km_X4_84 : Cond.methodLink RX4 84 yX4_noteName ∈ TBL := tb_5 (List.mem_of_getElem? (i := 0) rfl)
theorem km_X4_91 : Cond.methodLink RX4 91 yX4_limitedNumber ∈ TBL := tb_5 (List.mem_of_getElem? (i := 15) rfl)
theorem km_X4_95 : Cond.methodLink RX4 95 yX6_numberAt ∈ TBL := tb_5 (List.mem_of_getElem? (i := 19) rfl)
theorem km_X4_98 : Cond.methodLink RX4 98 yX5_addGang ∈ TBL := tb_5 (List.mem_of_getElem? (i := 23) rfl)
theorem km_X4_102 : Cond.methodLink RX4 102 yX4_block ∈ TBL := tb_5 (List.mem_of_getElem? (i := 32) rfl)
theorem km_X4_107 : Cond.methodLink RX4 107 yX5_emit ∈ TBL := tb_6 (List.mem_of_getElem? (i := 18) rfl)
theorem km_X4_111 : Cond.methodLink RX4 111 yX6_isSameText ∈ TBL := tb_5 (List.mem_of_getElem? (i := 3) rfl)
theorem km_X4_114 : Cond.methodLink RX4 114 yX4_note ∈ TBL := tb_5 (List.mem_of_getElem? (i := 11) rfl)
theorem km_X4_123 : Cond.methodLink RX4 123 yX4_enter ∈ TBL := tb_5 (List.mem_of_getElem? (i := 36) rfl)
theorem km_X4_130 : Cond.methodLink RX4 130 yX4_sentence ∈ TBL := tb_6 (List.mem_of_getElem? (i := 0) rfl)
theorem km_X4_142 : Cond.methodLink RX4 142 yX4_sum ∈ TBL := tb_6 (List.mem_of_getElem? (i := 9) rfl)
theorem km_X4_148 : Cond.methodLink RX4 148 yX4_end ∈ TBL := tb_6 (List.mem_of_getElem? (i := 26) rfl)
theorem km_X4_151 : Cond.methodLink RX4 151 yX4_choice ∈ TBL := tb_6 (List.mem_of_getElem? (i := 30) rfl)
theorem km_X4_154 : Cond.methodLink RX4 154 yX4_countedLoop ∈ TBL := tb_7 (List.mem_of_getElem? (i := 12) rfl)
theorem km_X4_157 : Cond.methodLink RX4 157 yX4_testedLoop ∈ TBL := tb_7 (List.mem_of_getElem? (i := 15) rfl)
theorem km_X4_163 : Cond.methodLink RX4 163 yX4_test ∈ TBL := tb_6 (List.mem_of_getElem? (i := 33) rfl)
theorem km_X4_172 : Cond.methodLink RX4 172 yX5_leadHere ∈ TBL := tb_7 (List.mem_of_getElem? (i := 8) rfl)
theorem km_X4_175 : Cond.methodLink RX4 175 yX4_both ∈ TBL := tb_6 (List.mem_of_getElem? (i := 36) rfl)
theorem km_X4_181 : Cond.methodLink RX4 181 yX4_single ∈ TBL := tb_6 (List.mem_of_getElem? (i := 39) rfl)
theorem km_X4_202 : Cond.methodLink RX4 202 yX4_product ∈ TBL := tb_6 (List.mem_of_getElem? (i := 12) rfl)
theorem km_X4_205 : Cond.methodLink RX4 205 yX4_value ∈ TBL := tb_6 (List.mem_of_getElem? (i := 15) rfl)
theorem km_X6_32 : Cond.methodLink RX6 32 yJ9_min_7cf53 ∈ TBL := tb_2 (List.mem_of_getElem? (i := 13) rfl)
theorem km_X6_38 : Cond.methodLink RX6 38 yX6_behindBlanks ∈ TBL := tb_2 (List.mem_of_getElem? (i := 16) rfl)
theorem km_X6_42 : Cond.methodLink RX6 42 yX6_scanToken ∈ TBL := tb_2 (List.mem_of_getElem? (i := 20) rfl)
theorem km_X6_53 : Cond.methodLink RX6 53 yX6_isLetter ∈ TBL := tb_2 (List.mem_of_getElem? (i := 24) rfl)
theorem km_X6_57 : Cond.methodLink RX6 57 yX6_behindWord ∈ TBL := tb_2 (List.mem_of_getElem? (i := 27) rfl)
theorem km_X6_63 : Cond.methodLink RX6 63 yX7_find ∈ TBL := tb_2 (List.mem_of_getElem? (i := 35) rfl)
theorem km_X6_67 : Cond.methodLink RX6 67 yX6_isDigit ∈ TBL := tb_2 (List.mem_of_getElem? (i := 30) rfl)
theorem km_X6_70 : Cond.methodLink RX6 70 yX6_behindDigits ∈ TBL := tb_4 (List.mem_of_getElem? (i := 6) rfl)
theorem km_X6_76 : Cond.methodLink RX6 76 yX6_scanSymbol ∈ TBL := tb_4 (List.mem_of_getElem? (i := 10) rfl)
theorem km_X6_79 : Cond.methodLink RX6 79 yX6_endOf ∈ TBL := tb_5 (List.mem_of_getElem? (i := 8) rfl)
theorem km_X6_82 : Cond.methodLink RX6 82 yX6_startOf ∈ TBL := tb_5 (List.mem_of_getElem? (i := 7) rfl)
theorem km_X7_193 : Cond.methodLink RX7 193 yX7_isWritten ∈ TBL := tb_2 (List.mem_of_getElem? (i := 39) rfl)
theorem km_X7_197 : Cond.methodLink RX7 197 yJ0_length_8abf5 ∈ TBL := tb_3 (List.mem_of_getElem? (i := 3) rfl)
theorem km_X7_203 : Cond.methodLink RX7 203 yJ0_charAt_5068e ∈ TBL := tb_3 (List.mem_of_getElem? (i := 12) rfl)
theorem km_X8_45 : Cond.methodLink RX8 45 yX8_reckonSums ∈ TBL := tb_11 (List.mem_of_getElem? (i := 19) rfl)
theorem km_X8_49 : Cond.methodLink RX8 49 yX8_carryOut ∈ TBL := tb_12 (List.mem_of_getElem? (i := 10) rfl)
theorem km_X8_73 : Cond.methodLink RX8 73 yX8_reckon ∈ TBL := tb_11 (List.mem_of_getElem? (i := 23) rfl)
theorem km_X8_77 : Cond.methodLink RX8 77 yX8_push ∈ TBL := tb_11 (List.mem_of_getElem? (i := 26) rfl)
theorem km_X8_81 : Cond.methodLink RX8 81 yX8_read ∈ TBL := tb_11 (List.mem_of_getElem? (i := 29) rfl)
theorem km_X8_85 : Cond.methodLink RX8 85 yX8_pop ∈ TBL := tb_12 (List.mem_of_getElem? (i := 0) rfl)
theorem km_X8_88 : Cond.methodLink RX8 88 yX8_join ∈ TBL := tb_12 (List.mem_of_getElem? (i := 3) rfl)
theorem km_X8_126 : Cond.methodLink RX8 126 yX1_rainOfDay ∈ TBL := tb_11 (List.mem_of_getElem? (i := 32) rfl)
theorem km_X8_129 : Cond.methodLink RX8 129 yX1_sunOfDay ∈ TBL := tb_11 (List.mem_of_getElem? (i := 36) rfl)
theorem km_X8_135 : Cond.methodLink RX8 135 yJ9_min_7cf53 ∈ TBL := tb_12 (List.mem_of_getElem? (i := 6) rfl)
theorem km_X8_140 : Cond.methodLink RX8 140 yJ9_max_7cf53 ∈ TBL := tb_12 (List.mem_of_getElem? (i := 7) rfl)
theorem km_X8_143 : Cond.methodLink RX8 143 yX5_argumentAt ∈ TBL := tb_12 (List.mem_of_getElem? (i := 13) rfl)
theorem km_X8_146 : Cond.methodLink RX8 146 yX5_opAt ∈ TBL := tb_12 (List.mem_of_getElem? (i := 17) rfl)
theorem km_X8_149 : Cond.methodLink RX8 149 yX8_go ∈ TBL := tb_12 (List.mem_of_getElem? (i := 21) rfl)
theorem km_X8_152 : Cond.methodLink RX8 152 yX8_cut ∈ TBL := tb_12 (List.mem_of_getElem? (i := 30) rfl)
theorem km_X8_155 : Cond.methodLink RX8 155 yX8_turn ∈ TBL := tb_12 (List.mem_of_getElem? (i := 37) rfl)
theorem km_X8_158 : Cond.methodLink RX8 158 yX8_load ∈ TBL := tb_13 (List.mem_of_getElem? (i := 0) rfl)
theorem km_X8_161 : Cond.methodLink RX8 161 yX8_unload ∈ TBL := tb_13 (List.mem_of_getElem? (i := 11) rfl)
theorem km_X8_164 : Cond.methodLink RX8 164 yX8_rest ∈ TBL := tb_13 (List.mem_of_getElem? (i := 18) rfl)
theorem km_X8_167 : Cond.methodLink RX8 167 yX8_branch ∈ TBL := tb_13 (List.mem_of_getElem? (i := 21) rfl)
theorem km_X8_171 : Cond.methodLink RX8 171 yX8_beginRepeat ∈ TBL := tb_13 (List.mem_of_getElem? (i := 24) rfl)
theorem km_X8_174 : Cond.methodLink RX8 174 yX8_repeat ∈ TBL := tb_13 (List.mem_of_getElem? (i := 27) rfl)
theorem km_X8_184 : Cond.methodLink RX8 184 yX8_isHourOver ∈ TBL := tb_12 (List.mem_of_getElem? (i := 24) rfl)
theorem km_X8_197 : Cond.methodLink RX8 197 yJ6_compare_7cf53 ∈ TBL := tb_12 (List.mem_of_getElem? (i := 27) rfl)
theorem km_X8_205 : Cond.methodLink RX8 205 yX1_addToStack ∈ TBL := tb_12 (List.mem_of_getElem? (i := 33) rfl)
theorem km_X8_209 : Cond.methodLink RX8 209 yX8_endHour ∈ TBL := tb_12 (List.mem_of_getElem? (i := 34) rfl)
theorem km_X8_215 : Cond.methodLink RX8 215 yX2_addToCart ∈ TBL := tb_13 (List.mem_of_getElem? (i := 3) rfl)
theorem km_X8_218 : Cond.methodLink RX8 218 yX1_takeFromStack ∈ TBL := tb_13 (List.mem_of_getElem? (i := 7) rfl)
theorem km_X8_224 : Cond.methodLink RX8 224 yX2_takeFromCart ∈ TBL := tb_13 (List.mem_of_getElem? (i := 14) rfl)
theorem km_L_9 : Cond.methodLink RL 9 yJ0_length_8abf5 ∈ TBL := tb_15 (List.mem_of_getElem? (i := 18) rfl)
theorem km_L_15 : Cond.methodLink RL 15 yJ0_charAt_5068e ∈ TBL := tb_15 (List.mem_of_getElem? (i := 22) rfl)
theorem km_L_19 : Cond.methodLink RL 19 yX9_count ∈ TBL := tb_7 (List.mem_of_getElem? (i := 31) rfl)
theorem km_L_25 : Cond.methodLink RL 25 yL_word ∈ TBL := tb_15 (List.mem_of_getElem? (i := 19) rfl)
theorem km_L_31 : Cond.methodLink RL 31 yX9_feed ∈ TBL := tb_15 (List.mem_of_getElem? (i := 23) rfl)
theorem km_L_35 : Cond.methodLink RL 35 yX9_trim ∈ TBL := tb_15 (List.mem_of_getElem? (i := 30) rfl)
theorem km_L_38 : Cond.methodLink RL 38 yL_cell ∈ TBL := tb_15 (List.mem_of_getElem? (i := 11) rfl)
theorem km_L_42 : Cond.methodLink RL 42 yL_below ∈ TBL := tb_15 (List.mem_of_getElem? (i := 7) rfl)
theorem km_L_46 : Cond.methodLink RL 46 yX9_init ∈ TBL := tb_15 (List.mem_of_getElem? (i := 38) rfl)
theorem km_L_47 : Cond.methodLink RL 47 yL_rainOf ∈ TBL := tb_21 (List.mem_of_getElem? (i := 29) rfl)
theorem km_L_50 : Cond.methodLink RL 50 yL_sunOf ∈ TBL := tb_21 (List.mem_of_getElem? (i := 32) rfl)
theorem km_L_53 : Cond.methodLink RL 53 yX9_setWeather ∈ TBL := tb_21 (List.mem_of_getElem? (i := 35) rfl)
theorem km_L_57 : Cond.methodLink RL 57 yX9_set ∈ TBL := tb_21 (List.mem_of_getElem? (i := 39) rfl)
theorem km_L_61 : Cond.methodLink RL 61 yX9_cell ∈ TBL := tb_10 (List.mem_of_getElem? (i := 31) rfl)
theorem km_L_63 : Cond.methodLink RL 63 yX9_stack ∈ TBL := tb_9 (List.mem_of_getElem? (i := 29) rfl)
theorem km_L_70 : Cond.methodLink RL 70 yJ4_init_da8c8 ∈ TBL := tb_22 (List.mem_of_getElem? (i := 11) rfl)
theorem km_L_73 : Cond.methodLink RL 73 yJ4_append_15ec4 ∈ TBL := tb_22 (List.mem_of_getElem? (i := 39) rfl)
theorem km_L_77 : Cond.methodLink RL 77 yJ4_append_bf812 ∈ TBL := tb_25 (List.mem_of_getElem? (i := 7) rfl)
theorem km_L_82 : Cond.methodLink RL 82 yJ4_toString_0e30d ∈ TBL := tb_25 (List.mem_of_getElem? (i := 30) rfl)
theorem km_L_98 : Cond.methodLink RL 98 yL_bog ∈ TBL := tb_15 (List.mem_of_getElem? (i := 34) rfl)
theorem km_L_108 : Cond.methodLink RL 108 yL_orders ∈ TBL := tb_22 (List.mem_of_getElem? (i := 3) rfl)
theorem km_L_112 : Cond.methodLink RL 112 yL_told ∈ TBL := tb_22 (List.mem_of_getElem? (i := 6) rfl)
theorem km_L_122 : Cond.methodLink RL 122 yL_type ∈ TBL := tb_15 (List.mem_of_getElem? (i := 15) rfl)
theorem km_L_126 : Cond.methodLink RL 126 yX9_teach ∈ TBL := tb_2 (List.mem_of_getElem? (i := 1) rfl)
theorem km_L_129 : Cond.methodLink RL 129 yX9_errorAt ∈ TBL := tb_7 (List.mem_of_getElem? (i := 27) rfl)
theorem km_L_132 : Cond.methodLink RL 132 yX9_digest ∈ TBL := tb_15 (List.mem_of_getElem? (i := 1) rfl)
theorem km_L_136 : Cond.methodLink RL 136 yX9_foresee ∈ TBL := tb_14 (List.mem_of_getElem? (i := 19) rfl)
theorem km_L_139 : Cond.methodLink RL 139 yX9_dries ∈ TBL := tb_14 (List.mem_of_getElem? (i := 32) rfl)
theorem km_L_142 : Cond.methodLink RL 142 yX9_done ∈ TBL := tb_14 (List.mem_of_getElem? (i := 37) rfl)
theorem km_L_145 : Cond.methodLink RL 145 yX9_pass ∈ TBL := tb_11 (List.mem_of_getElem? (i := 7) rfl)
theorem km_L_148 : Cond.methodLink RL 148 yX9_gang ∈ TBL := tb_10 (List.mem_of_getElem? (i := 39) rfl)
theorem km_J5_26 : Cond.methodLink RJ5 26 yJ2_newBytesFor_77867 ∈ TBL := tb_22 (List.mem_of_getElem? (i := 19) rfl)
theorem km_J5_32 : Cond.methodLink RJ5 32 yJ0_length_8abf5 ∈ TBL := tb_24 (List.mem_of_getElem? (i := 15) rfl)
theorem km_J5_40 : Cond.methodLink RJ5 40 yJ0_coder_7d493 ∈ TBL := tb_24 (List.mem_of_getElem? (i := 22) rfl)
theorem km_J5_83 : Cond.methodLink RJ5 83 yJ5_isLatin1_aae02 ∈ TBL := tb_23 (List.mem_of_getElem? (i := 35) rfl)
theorem km_J5_100 : Cond.methodLink RJ5 100 yJ5_ensureCapacityInternal_d00df ∈ TBL := tb_23 (List.mem_of_getElem? (i := 9) rfl)
theorem km_J5_104 : Cond.methodLink RJ5 104 yJ5_newCapacity_0f7a4 ∈ TBL := tb_23 (List.mem_of_getElem? (i := 12) rfl)
theorem km_J5_108 : Cond.methodLink RJ5 108 yJ7_copyOf_9075b ∈ TBL := tb_23 (List.mem_of_getElem? (i := 24) rfl)
theorem km_J5_114 : Cond.methodLink RJ5 114 yJ8_newLength_cabcc ∈ TBL := tb_23 (List.mem_of_getElem? (i := 15) rfl)
theorem km_J5_125 : Cond.methodLink RJ5 125 yJ1_inflate_0e8fd ∈ TBL := tb_24 (List.mem_of_getElem? (i := 26) rfl)
theorem km_J5_195 : Cond.methodLink RJ5 195 yJ5_inflate_da8c8 ∈ TBL := tb_24 (List.mem_of_getElem? (i := 23) rfl)
theorem km_J5_204 : Cond.methodLink RJ5 204 yJ5_appendNull_278bc ∈ TBL := tb_23 (List.mem_of_getElem? (i := 6) rfl)
theorem km_J5_208 : Cond.methodLink RJ5 208 yJ5_putStringAt_47b60 ∈ TBL := tb_24 (List.mem_of_getElem? (i := 16) rfl)
theorem km_J5_226 : Cond.methodLink RJ5 226 yJ2_putCharsAt_cd4e5 ∈ TBL := tb_24 (List.mem_of_getElem? (i := 0) rfl)
theorem km_J5_245 : Cond.methodLink RJ5 245 yJ6_stringSize_0f7a4 ∈ TBL := tb_25 (List.mem_of_getElem? (i := 14) rfl)
theorem km_J5_248 : Cond.methodLink RJ5 248 yJ6_getChars_ba4f3 ∈ TBL := tb_25 (List.mem_of_getElem? (i := 17) rfl)
theorem km_J5_251 : Cond.methodLink RJ5 251 yJ2_getChars_46870 ∈ TBL := tb_25 (List.mem_of_getElem? (i := 22) rfl)
theorem km_J5_397 : Cond.methodLink RJ5 397 yJ5_inflateIfNeededFor_a7421 ∈ TBL := tb_24 (List.mem_of_getElem? (i := 19) rfl)
theorem km_J5_399 : Cond.methodLink RJ5 399 yJ0_getBytes_840e7 ∈ TBL := tb_25 (List.mem_of_getElem? (i := 1) rfl)
theorem km_J0_47 : Cond.methodLink RJ0 47 yJ2_coderFromArrayLen_85cad ∈ TBL := tb_26 (List.mem_of_getElem? (i := 33) rfl)
theorem km_J0_54 : Cond.methodLink RJ0 54 yJ7_copyOfRange_39247 ∈ TBL := tb_26 (List.mem_of_getElem? (i := 17) rfl)
theorem km_J0_106 : Cond.methodLink RJ0 106 yJ1_inflate_0e8fd ∈ TBL := tb_25 (List.mem_of_getElem? (i := 6) rfl)
theorem km_J0_212 : Cond.methodLink RJ0 212 arraycopyName ∈ TBL := tb_25 (List.mem_of_getElem? (i := 5) rfl)
theorem km_J0_335 : Cond.methodLink RJ0 335 yJ0_coder_7d493 ∈ TBL := tb_3 (List.mem_of_getElem? (i := 7) rfl)
theorem km_J0_489 : Cond.methodLink RJ0 489 yJ0_init_db425 ∈ TBL := tb_25 (List.mem_of_getElem? (i := 39) rfl)
theorem km_J0_492 : Cond.methodLink RJ0 492 yJ0_isLatin1_aae02 ∈ TBL := tb_3 (List.mem_of_getElem? (i := 16) rfl)
theorem km_J0_495 : Cond.methodLink RJ0 495 yJ1_charAt_3b067 ∈ TBL := tb_3 (List.mem_of_getElem? (i := 20) rfl)
theorem km_J0_498 : Cond.methodLink RJ0 498 yJ2_charAt_3b067 ∈ TBL := tb_3 (List.mem_of_getElem? (i := 30) rfl)
theorem km_J0_549 : Cond.methodLink RJ0 549 yJ5_length_8abf5 ∈ TBL := tb_26 (List.mem_of_getElem? (i := 8) rfl)
theorem km_J0_552 : Cond.methodLink RJ0 552 yJ5_getValue_6d5f1 ∈ TBL := tb_26 (List.mem_of_getElem? (i := 3) rfl)
theorem km_J0_1047 : Cond.methodLink RJ0 1047 yJ5_isLatin1_aae02 ∈ TBL := tb_26 (List.mem_of_getElem? (i := 16) rfl)
theorem km_J0_1051 : Cond.methodLink RJ0 1051 yJ2_compress_39247 ∈ TBL := tb_26 (List.mem_of_getElem? (i := 26) rfl)
theorem km_J0_1059 : Cond.methodLink RJ0 1059 yJ3_checkIndex_8e157 ∈ TBL := tb_3 (List.mem_of_getElem? (i := 27) rfl)
theorem km_J0_1062 : Cond.methodLink RJ0 1062 yJ3_checkFromToIndex_8c36e ∈ TBL := tb_24 (List.mem_of_getElem? (i := 9) rfl)
theorem km_J0_1065 : Cond.methodLink RJ0 1065 yJ3_checkFromIndexSize_8c36e ∈ TBL := tb_24 (List.mem_of_getElem? (i := 38) rfl)
theorem km_J4_1 : Cond.methodLink RJ4 1 yJ5_init_d00df ∈ TBL := tb_22 (List.mem_of_getElem? (i := 14) rfl)
theorem km_J4_29 : Cond.methodLink RJ4 29 yJ5_append_cf1ce ∈ TBL := tb_23 (List.mem_of_getElem? (i := 3) rfl)
theorem km_J4_53 : Cond.methodLink RJ4 53 yJ5_append_c97b9 ∈ TBL := tb_25 (List.mem_of_getElem? (i := 11) rfl)
theorem km_J4_137 : Cond.methodLink RJ4 137 yJ0_init_81219 ∈ TBL := tb_25 (List.mem_of_getElem? (i := 36) rfl)
theorem km_J4_343 : Cond.methodLink RJ4 343 yJ5_length_8abf5 ∈ TBL := tb_26 (List.mem_of_getElem? (i := 14) rfl)
theorem km_J1_9 : Cond.methodLink RJ1 9 yJ0_checkIndex_df160 ∈ TBL := tb_3 (List.mem_of_getElem? (i := 23) rfl)
theorem km_J1_240 : Cond.methodLink RJ1 240 yJ2_inflate_0e8fd ∈ TBL := tb_24 (List.mem_of_getElem? (i := 29) rfl)
theorem km_J2_11 : Cond.methodLink RJ2 11 yJ2_newBytesLength_0f7a4 ∈ TBL := tb_22 (List.mem_of_getElem? (i := 22) rfl)
theorem km_J2_48 : Cond.methodLink RJ2 48 yJ2_length_9d52b ∈ TBL := tb_3 (List.mem_of_getElem? (i := 36) rfl)
theorem km_J2_67 : Cond.methodLink RJ2 67 yJ2_checkIndex_2214a ∈ TBL := tb_3 (List.mem_of_getElem? (i := 33) rfl)
theorem km_J2_71 : Cond.methodLink RJ2 71 yJ2_getChar_3b067 ∈ TBL := tb_4 (List.mem_of_getElem? (i := 0) rfl)
theorem km_J2_96 : Cond.methodLink RJ2 96 yJ2_checkBoundsBeginEnd_d044e ∈ TBL := tb_24 (List.mem_of_getElem? (i := 3) rfl)
theorem km_J2_111 : Cond.methodLink RJ2 111 yJ2_putChar_b72d1 ∈ TBL := tb_24 (List.mem_of_getElem? (i := 12) rfl)
theorem km_J2_123 : Cond.methodLink RJ2 123 yJ2_compress_5af95 ∈ TBL := tb_26 (List.mem_of_getElem? (i := 29) rfl)
theorem km_J2_126 : Cond.methodLink RJ2 126 yJ7_copyOfRange_39247 ∈ TBL := tb_26 (List.mem_of_getElem? (i := 32) rfl)
theorem km_J2_173 : Cond.methodLink RJ2 173 yJ2_checkBoundsOffCount_d044e ∈ TBL := tb_24 (List.mem_of_getElem? (i := 32) rfl)
theorem km_J2_241 : Cond.methodLink RJ2 241 yJ0_checkBoundsBeginEnd_23922 ∈ TBL := tb_24 (List.mem_of_getElem? (i := 6) rfl)
theorem km_J2_393 : Cond.methodLink RJ2 393 yJ2_getChars_ba4f3 ∈ TBL := tb_25 (List.mem_of_getElem? (i := 25) rfl)
theorem km_J2_414 : Cond.methodLink RJ2 414 yJ0_checkIndex_df160 ∈ TBL := tb_3 (List.mem_of_getElem? (i := 39) rfl)
theorem km_J2_419 : Cond.methodLink RJ2 419 yJ0_checkBoundsOffCount_cabcc ∈ TBL := tb_24 (List.mem_of_getElem? (i := 35) rfl)
theorem km_J7_150 : Cond.methodLink RJ7 150 arraycopyName ∈ TBL := tb_23 (List.mem_of_getElem? (i := 34) rfl)
theorem km_J7_304 : Cond.methodLink RJ7 304 yJ9_min_7cf53 ∈ TBL := tb_23 (List.mem_of_getElem? (i := 33) rfl)
theorem km_J7_339 : Cond.methodLink RJ7 339 yJ7_copyOfRangeByte_39247 ∈ TBL := tb_26 (List.mem_of_getElem? (i := 20) rfl)
theorem km_J7_343 : Cond.methodLink RJ7 343 yJ7_checkLength_df160 ∈ TBL := tb_26 (List.mem_of_getElem? (i := 23) rfl)
theorem km_J8_194 : Cond.methodLink RJ8 194 yJ9_max_7cf53 ∈ TBL := tb_23 (List.mem_of_getElem? (i := 18) rfl)
theorem km_J8_201 : Cond.methodLink RJ8 201 yJ8_hugeLength_7cf53 ∈ TBL := tb_23 (List.mem_of_getElem? (i := 20) rfl)
theorem kmn_X9_28 : Cond.methodLinkNest RX9 28 yX4_init "PeatBog" ∈ NTL := nt_0 (List.mem_of_getElem? (i := 7) rfl)
theorem kmn_X9_35 : Cond.methodLinkNest RX9 35 yX5_init "PeatBog" ∈ NTL := nt_0 (List.mem_of_getElem? (i := 20) rfl)
theorem kmn_X1_68 : Cond.methodLinkNest RX1 68 yX2_init "PeatBog" ∈ NTL := nt_0 (List.mem_of_getElem? (i := 21) rfl)
theorem kmn_X1_108 : Cond.methodLinkNest RX1 108 yX9_mixed "PeatBog" ∈ NTL := nt_0 (List.mem_of_getElem? (i := 1) rfl)
theorem kmn_X1_128 : Cond.methodLinkNest RX1 128 yX9_wetnessBehindNight "PeatBog" ∈ NTL := nt_0 (List.mem_of_getElem? (i := 5) rfl)
theorem kmn_X1_132 : Cond.methodLinkNest RX1 132 yX9_held "PeatBog" ∈ NTL := nt_0 (List.mem_of_getElem? (i := 6) rfl)
theorem kmn_X2_53 : Cond.methodLinkNest RX2 53 yX9_mixed "PeatBog" ∈ NTL := nt_0 (List.mem_of_getElem? (i := 4) rfl)
theorem kmn_X4_11 : Cond.methodLinkNest RX4 11 yX6_init "PeatBog" ∈ NTL := nt_0 (List.mem_of_getElem? (i := 8) rfl)
theorem kmn_X4_24 : Cond.methodLinkNest RX4 24 yX5_init "PeatBog" ∈ NTL := nt_0 (List.mem_of_getElem? (i := 9) rfl)
theorem kmn_X5_34 : Cond.methodLinkNest RX5 34 yX9_isCell "PeatBog" ∈ NTL := nt_0 (List.mem_of_getElem? (i := 0) rfl)
theorem kmn_X8_98 : Cond.methodLinkNest RX8 98 yX9_cellAt "PeatBog" ∈ NTL := nt_0 (List.mem_of_getElem? (i := 2) rfl)
theorem kmn_X8_191 : Cond.methodLinkNest RX8 191 yX9_isCell "PeatBog" ∈ NTL := nt_0 (List.mem_of_getElem? (i := 3) rfl)
theorem kx_X8_44 : Cond.constant RX8 44 1000000 ∈ TBL := tb_11 (List.mem_of_getElem? (i := 18) rfl)
theorem kx_L_7 : Cond.constant RL 7 2147483647 ∈ TBL := tb_15 (List.mem_of_getElem? (i := 10) rfl)
theorem kx_L_8 : Cond.constant RL 8 790386105 ∈ TBL := tb_15 (List.mem_of_getElem? (i := 14) rfl)
theorem kx_J2_20 : Cond.constant RJ2 20 1073741823 ∈ TBL := tb_22 (List.mem_of_getElem? (i := 25) rfl)
theorem kx_J8_200 : Cond.constant RJ8 200 2147483639 ∈ TBL := tb_23 (List.mem_of_getElem? (i := 19) rfl)
theorem kx_J5_39 : Cond.constant RJ5 39 2147483647 ∈ TBL := tb_23 (List.mem_of_getElem? (i := 23) rfl)
def iushr (x y : Int32) : Int32 := (x.toUInt32 >>> (y.toUInt32 &&& Int32.toUInt32 31)).toInt32
theorem kd_eta {i t : Nat} (h : (kd i).1 = t) : kd i = (t, (kd i).2) := by rw [← h]
section XE
variable {p : Program} {l : Launch} {e : Env} {R : Room} {s : State} {m : MethodId} {args : Array Value} {below : List Frame} {meth : Method} {c : Code} {cc : ByteArray} {nL : Nat} {own : String} {G : GG} {Q : State → Prop} {k n : Nat} {M : Mm} {pc : Nat} {lv lv' : List (Nat × Value)} {st : List Value} {ret : Option FieldType}
theorem x_join {M' : Mm} {pc' : Nat} {st' : List Value} (h : XJ p l e R s m args below meth c G nL Q k n M' pc' lv' st') (g : XJ p l e R s m args below meth c G nL Q k n M' pc' lv' st' → XJ p l e R s m args below meth c G nL Q k n M pc lv st) : XJ p l e R s m args below meth c G nL Q k n M pc lv st := g h
theorem x_joinB {P : Prop} {M' : Mm} {pc' : Nat} {st' : List Value} (h : P → XJ p l e R s m args below meth c G nL Q k n M' pc' lv' st') (g : (P → XJ p l e R s m args below meth c G nL Q k n M' pc' lv' st') → XJ p l e R s m args below meth c G nL Q k n M pc lv st) : XJ p l e R s m args below meth c G nL Q k n M pc lv st := g h
theorem x_topi {x y : Int32} (h : y = x) (K : XJ p l e R s m args below meth c G nL Q k n M pc lv (.int y :: st)) : XJ p l e R s m args below meth c G nL Q k n M pc lv (.int x :: st) := h ▸ K
theorem x_callSN (hC : CX p s m args meth c cc nL own ret G) {y : MethodName} {cy : ByteArray} {maxL index nA mc ms : Nat} {host : String} {r : Option FieldType} {rm : Room} {As : List Value} {st0 : List Value} {M' : Mm} {b : Bool} {o : Option Value} (hM : Mo b l y (WS y cy maxL r) rm mc ms As G M o M') (hcode : Cond.code y cy maxL r ∈ TBL) (hlink : Cond.methodLinkNest own index y host ∈ NTL) (hstat : Cond.static y ∈ TBL) (hini : Cond.initialized y.cls ∈ TBL) (hy : y.cls ≠ "java/lang/invoke/MethodHandle" ∧ y.cls ≠ "java/lang/invoke/VarHandle" ∧ (parseMethodDescriptor y.desc).map (fun d => d.parameters.length) = some nA) (hnA : As.length = nA) (hrc : rm.cells = mc ∧ rm.slots = ms) (hR : rm.frames + 1 ≤ R.frames ∧ 8 + (maxL + 11) + rm.locals ≤ R.locals) (hst : st0 = As.reverse ++ st) (hcat : (st.map fun v => v.category).sum ≤ 8) (hcs : k + mc ≤ R.cells ∧ n + ms ≤ R.slots) (hd : decode cc pc = .ok (.invokestatic index, 3))
    (K : BVo b o → XJ p l e R s m args below meth c G nL Q (k + mc) (n + ms) M' (pc + 3) lv (o.toList ++ st)) : XJ p l e R s m args below meth c G nL Q k n M pc lv st0 := by
  obtain ⟨hx, hb, hml, hown, hts, hlk, hrt, hG⟩ := hC
  refine x_run (As := As.toArray) (fun H locs ls hP hS hl => ?_) K
  refine va_runSN (bytes := cy) (maxL := maxL) (ret := r) (n := nA) (nL := nL) (Ts := TBL) (host := host) ⟨hx, hb, hml, hown, hts⟩ (hM H.size) ⟨⟨⟨hrc.1, hrc.2, hR.1, hR.2, pay_in hts (ws_good hcode), List.mem_cons_self⟩, hts _ hcode, hts _ hini, ⟨hy.1, hy.2.1⟩, fun sig h => ?_, va_Nw.use rfl (hG.2.2.1 _ hlink)⟩, hts _ hstat, trivial⟩ ⟨mo_blind, fun U hU hW => ⟨rfl, by rw [hU], by rw [hU]; exact hP, hG.step hS hU hW⟩⟩ rfl hnA hl.1 hst (lv_room hcat) hd hcs
  have h2 := hy.2.2
  rw [h] at h2
  exact (Option.some.inj h2).symm
theorem x_i2b (hC : CX p s m args meth c cc nL own ret G) {x : Int32} (hd : decode cc pc = .ok (.i2b, 1)) (K : XJ p l e R s m args below meth c G nL Q k n M (pc + 1) lv (.int (x.toInt8.toInt32) :: st)) : XJ p l e R s m args below meth c G nL Q k n M pc lv (.int x :: st) := by
  obtain ⟨hx, hb, -⟩ := hC
  exact fun H locs ls hP hS hl => lv_i2b hx hb hd rfl (K H locs ls hP hS hl)
theorem x_i2c (hC : CX p s m args meth c cc nL own ret G) {x : Int32} (hd : decode cc pc = .ok (.i2c, 1)) (K : XJ p l e R s m args below meth c G nL Q k n M (pc + 1) lv (.int ((x.toUInt32 % 65536).toInt32) :: st)) : XJ p l e R s m args below meth c G nL Q k n M pc lv (.int x :: st) := by
  obtain ⟨hx, hb, -⟩ := hC
  exact fun H locs ls hP hS hl => lv_i2c hx hb hd rfl (K H locs ls hP hS hl)
theorem x_iushr (hC : CX p s m args meth c cc nL own ret G) {x y : Int32} (hd : decode cc pc = .ok (.iushr, 1)) (K : XJ p l e R s m args below meth c G nL Q k n M (pc + 1) lv (.int (iushr x y) :: st)) : XJ p l e R s m args below meth c G nL Q k n M pc lv (.int y :: .int x :: st) := by
  obtain ⟨hx, hb, -⟩ := hC
  exact fun H locs ls hP hS hl => lv_iushr hx hb hd rfl (K H locs ls hP hS hl)
theorem x_ldc (hC : CX p s m args meth c cc nL own ret G) {index : Nat} (v : Int32) (hw : Cond.constant own index v ∈ TBL) (hd : decode cc pc = .ok (.ldc index, 2)) (K : XJ p l e R s m args below meth c G nL Q k n M (pc + 2) lv (.int v :: st)) : XJ p l e R s m args below meth c G nL Q k n M pc lv st := by
  obtain ⟨hx, hb, hml, hown, hts, hlk, hrt, hG⟩ := hC
  exact fun H locs ls hP hS hl => lv_ldc hx hb hown (hts _ hw) hd (K H locs ls hP hS hl)
theorem x_cret (hC : CX p s m args meth c cc nL own ret G) {v : Int32} {ty : FieldType} (hret : ret = some ty) (hn : narrow ty (.int v) = .int v) (hd : decode cc pc = .ok (.ireturn, 1)) : XJ p l e R s m args below meth c G nL (MQ below (QO G M false (some (.int v)) s.heap.size) args s k n (AF G s.heap.size)) k n M pc lv [.int v] := by
  obtain ⟨hx, hb, hml, hown, hts, hlk, hrt, hG⟩ := hC
  exact fun H locs ls hP hS hl => W.zret hx hb (hrt.trans hret) hn (fun t ht hW => ⟨rfl, by rw [ht]; exact hP, hS.F ht, fun h => by cases h⟩) hS.2.2 hd hlk
end XE
theorem ne_toI {x : Int32} {y : Int32} {z : Int} (h : ¬ x = y) (hz : y.toInt = z) : x.toInt ≠ z := fun e => h (Int32.toInt_inj.mp (e.trans hz.symm))
def FU : Nat := 1100000
def bd4 {α1 α2 α3 α4 β : Type} (x : Option (α1 × α2 × α3 × α4)) (f : α1 → α2 → α3 → α4 → Option β) : Option β := match x with | none => none | some a => f a.1 a.2.1 a.2.2.1 a.2.2.2
theorem bd4_s {α1 α2 α3 α4 β : Type} {x : Option (α1 × α2 × α3 × α4)} {f : α1 → α2 → α3 → α4 → Option β} {r : β} (h : bd4 x f = some r) : ∃ a b d t, x = some (a, b, d, t) ∧ f a b d t = some r := by
  cases x with
  | none => cases h
  | some a => exact ⟨a.1, a.2.1, a.2.2.1, a.2.2.2, rfl, h⟩
def bd5 {α1 α2 α3 α4 α5 β : Type} (x : Option (α1 × α2 × α3 × α4 × α5)) (f : α1 → α2 → α3 → α4 → α5 → Option β) : Option β := match x with | none => none | some a => f a.1 a.2.1 a.2.2.1 a.2.2.2.1 a.2.2.2.2
theorem bd5_s {α1 α2 α3 α4 α5 β : Type} {x : Option (α1 × α2 × α3 × α4 × α5)} {f : α1 → α2 → α3 → α4 → α5 → Option β} {r : β} (h : bd5 x f = some r) : ∃ a b d t u, x = some (a, b, d, t, u) ∧ f a b d t u = some r := by
  cases x with
  | none => cases h
  | some a => exact ⟨a.1, a.2.1, a.2.2.1, a.2.2.2.1, a.2.2.2.2, rfl, h⟩
def RMn (n : Nat) : Room := RM (n + 20) 0 0 (40 * n + 1000)
theorem rn_f {f n : Nat} (h : f ≤ 20) : f + 1 ≤ (RMn (n + 1)).frames := by show f + 1 ≤ n + 1 + 20; omega
theorem rn_l {a n : Nat} (h : a ≤ 1000) : a ≤ (RMn (n + 1)).locals := by show a ≤ 40 * (n + 1) + 1000; omega
theorem rn_gf {n : Nat} : (RMn n).frames + 1 ≤ (RMn (n + 1)).frames := by show n + 20 + 1 ≤ n + 1 + 20; omega
theorem rn_gl {m n : Nat} (h : m ≤ 21) : 8 + (m + 11) + (RMn n).locals ≤ (RMn (n + 1)).locals := by show 8 + (m + 11) + (40 * n + 1000) ≤ 40 * (n + 1) + 1000; omega
theorem ex_no {C : Prop} {a : Int32} {x y : Int32 × Mm} (h : ¬ a = 0) (e : some (a, x) = some ((0 : Int32), y)) : C := absurd (congrArg Prod.fst (Option.some.inj e)) h

