theorem dX8_push_0 : decode cX8_push 0 = .ok (.aload_n 0, 1) := by decide +kernel
theorem dX8_push_1 : decode cX8_push 1 = .ok (.getfield 15, 3) := by decide +kernel
theorem dX8_push_4 : decode cX8_push 4 = .ok (.bipush 64, 2) := by decide +kernel
theorem dX8_push_6 : decode cX8_push 6 = .ok (.if_icmp .ge 23, 3) := by decide +kernel
theorem dX8_push_9 : decode cX8_push 9 = .ok (.aload_n 0, 1) := by decide +kernel
theorem dX8_push_10 : decode cX8_push 10 = .ok (.getfield 9, 3) := by decide +kernel
theorem dX8_push_13 : decode cX8_push 13 = .ok (.aload_n 0, 1) := by decide +kernel
theorem dX8_push_14 : decode cX8_push 14 = .ok (.getfield 15, 3) := by decide +kernel
theorem dX8_push_17 : decode cX8_push 17 = .ok (.iload_n 1, 1) := by decide +kernel
theorem dX8_push_18 : decode cX8_push 18 = .ok (.iastore, 1) := by decide +kernel
theorem dX8_push_19 : decode cX8_push 19 = .ok (.aload_n 0, 1) := by decide +kernel
theorem dX8_push_20 : decode cX8_push 20 = .ok (.dup, 1) := by decide +kernel
theorem dX8_push_21 : decode cX8_push 21 = .ok (.getfield 15, 3) := by decide +kernel
theorem dX8_push_24 : decode cX8_push 24 = .ok (.iconst 1, 1) := by decide +kernel
theorem dX8_push_25 : decode cX8_push 25 = .ok (.iadd, 1) := by decide +kernel
theorem dX8_push_26 : decode cX8_push 26 = .ok (.putfield 15, 3) := by decide +kernel
theorem dX8_push_29 : decode cX8_push 29 = .ok (.return_, 1) := by decide +kernel

def f_X8_push (i0 : Nat) (a1 : Int32) (M : Mm) : Option Mm :=
  if ((64 : Int32) ≤ (M i0 3)) then (some M) else (if 0 ≤ (M i0 3).toInt ∧ (M i0 3).toInt < ((64 : Nat) : Int) then (lz (wr M (i0 + 1) (ix (M i0 3)) a1) fun M3 => lz (wr M3 i0 3 ((M3 i0 3) + (1 : Int32))) fun M5 => some M5) else none)

set_option maxHeartbeats 4000000 in
set_option maxRecDepth 100000 in
theorem c_X8_push (l : Launch) (G : GG) (M : Mm) {i0 : Nat} (hi0 : (kd i0).1 = 3) (a1 : Int32) {M9 : Mm} (hr : f_X8_push i0 a1 M = some M9) : Mo false l yX8_push (WS yX8_push cX8_push 2 none) (RM 0 0 0 0) 0 0 [.ref (G.2.1 i0), .int a1] G M none M9 := by
  refine Mo.of (by decide +kernel) (Nat.le_of_ble_eq_true rfl) ?_
  intro p e s m args below meth c hC
  have hC : CX p s m args meth c cX8_push 2 RX8 none G := hC
  rw [f_X8_push] at hr
  show XJ p l e (RM 0 0 0 0) s m args below meth c G 2 _ 0 0 M 0 [(0, .ref (G.2.1 i0)), (1, .int a1)] []
  refine x_aload_n hC dX8_push_0 rfl 0 rfl ?_
  refine gf_X8_15 hC hi0 dX8_push_1 ?_
  refine x_bipush hC (64 : Int32) dX8_push_4 (by decide) ?_
  refine x_icmp_ge hC 29 dX8_push_6 (by decide) (fun h1 => ?_) (fun h1 => ?_)
  · have hr := (ie_s hr).1 h1
    cases hr
    exact x_vret hC rfl dX8_push_29
  · have hr := (ie_s hr).2 h1
    refine x_aload_n hC dX8_push_9 rfl 0 rfl ?_
    refine gf_X8_9 hC hi0 dX8_push_10 ?_
    refine x_aload_n hC dX8_push_13 rfl 0 rfl ?_
    refine gf_X8_15 hC hi0 dX8_push_14 ?_
    refine x_iload_n hC dX8_push_17 rfl 1 rfl ?_
    obtain ⟨h2, hr⟩ := it_s hr
    obtain ⟨M3, e4, hr⟩ := lz_s hr
    refine x_iast hC (kr_3_2 hi0) h2 e4 dX8_push_18 ?_
    refine x_aload_n hC dX8_push_19 rfl 0 rfl ?_
    refine x_dup hC dX8_push_20 rfl ?_
    refine gf_X8_15 hC hi0 dX8_push_21 ?_
    refine x_iconst hC (1 : Int32) dX8_push_24 (by decide) ?_
    refine x_iadd hC dX8_push_25 ?_
    obtain ⟨M5, e6, hr⟩ := lz_s hr
    refine pf_X8_15 hC hi0 e6 dX8_push_26 ?_
    cases hr
    exact x_vret hC rfl dX8_push_29

theorem dX8_read_0 : decode cX8_read 0 = .ok (.aload_n 0, 1) := by decide +kernel
theorem dX8_read_1 : decode cX8_read 1 = .ok (.getfield 32, 3) := by decide +kernel
theorem dX8_read_4 : decode cX8_read 4 = .ok (.getfield 92, 3) := by decide +kernel
theorem dX8_read_7 : decode cX8_read 7 = .ok (.aload_n 0, 1) := by decide +kernel
theorem dX8_read_8 : decode cX8_read 8 = .ok (.getfield 32, 3) := by decide +kernel
theorem dX8_read_11 : decode cX8_read 11 = .ok (.getfield 95, 3) := by decide +kernel
theorem dX8_read_14 : decode cX8_read 14 = .ok (.invokestatic 98, 3) := by decide +kernel
theorem dX8_read_17 : decode cX8_read 17 = .ok (.istore_n 2, 1) := by decide +kernel
theorem dX8_read_18 : decode cX8_read 18 = .ok (.iload_n 1, 1) := by decide +kernel
theorem dX8_read_19 : decode cX8_read 19 = .ok (.tableswitch 165 16 27 #[61, 69, 77, 87, 97, 107, 117, 125, 133, 141, 149, 157], 61) := by decide +kernel
theorem dX8_read_80 : decode cX8_read 80 = .ok (.aload_n 0, 1) := by decide +kernel
theorem dX8_read_81 : decode cX8_read 81 = .ok (.getfield 32, 3) := by decide +kernel
theorem dX8_read_84 : decode cX8_read 84 = .ok (.getfield 92, 3) := by decide +kernel
theorem dX8_read_87 : decode cX8_read 87 = .ok (.ireturn, 1) := by decide +kernel
theorem dX8_read_88 : decode cX8_read 88 = .ok (.aload_n 0, 1) := by decide +kernel
theorem dX8_read_89 : decode cX8_read 89 = .ok (.getfield 32, 3) := by decide +kernel
theorem dX8_read_92 : decode cX8_read 92 = .ok (.getfield 95, 3) := by decide +kernel
theorem dX8_read_95 : decode cX8_read 95 = .ok (.ireturn, 1) := by decide +kernel
theorem dX8_read_96 : decode cX8_read 96 = .ok (.aload_n 0, 1) := by decide +kernel
theorem dX8_read_97 : decode cX8_read 97 = .ok (.getfield 22, 3) := by decide +kernel
theorem dX8_read_100 : decode cX8_read 100 = .ok (.getfield 102, 3) := by decide +kernel
theorem dX8_read_103 : decode cX8_read 103 = .ok (.iload_n 2, 1) := by decide +kernel
theorem dX8_read_104 : decode cX8_read 104 = .ok (.iaload, 1) := by decide +kernel
theorem dX8_read_105 : decode cX8_read 105 = .ok (.ireturn, 1) := by decide +kernel
theorem dX8_read_106 : decode cX8_read 106 = .ok (.aload_n 0, 1) := by decide +kernel
theorem dX8_read_107 : decode cX8_read 107 = .ok (.getfield 22, 3) := by decide +kernel
theorem dX8_read_110 : decode cX8_read 110 = .ok (.getfield 105, 3) := by decide +kernel
theorem dX8_read_113 : decode cX8_read 113 = .ok (.iload_n 2, 1) := by decide +kernel
theorem dX8_read_114 : decode cX8_read 114 = .ok (.iaload, 1) := by decide +kernel
theorem dX8_read_115 : decode cX8_read 115 = .ok (.ireturn, 1) := by decide +kernel
theorem dX8_read_116 : decode cX8_read 116 = .ok (.aload_n 0, 1) := by decide +kernel
theorem dX8_read_117 : decode cX8_read 117 = .ok (.getfield 22, 3) := by decide +kernel
theorem dX8_read_120 : decode cX8_read 120 = .ok (.getfield 108, 3) := by decide +kernel
theorem dX8_read_123 : decode cX8_read 123 = .ok (.iload_n 2, 1) := by decide +kernel
theorem dX8_read_124 : decode cX8_read 124 = .ok (.iaload, 1) := by decide +kernel
theorem dX8_read_125 : decode cX8_read 125 = .ok (.ireturn, 1) := by decide +kernel
theorem dX8_read_126 : decode cX8_read 126 = .ok (.aload_n 0, 1) := by decide +kernel
theorem dX8_read_127 : decode cX8_read 127 = .ok (.getfield 22, 3) := by decide +kernel
theorem dX8_read_130 : decode cX8_read 130 = .ok (.getfield 111, 3) := by decide +kernel
theorem dX8_read_133 : decode cX8_read 133 = .ok (.iload_n 2, 1) := by decide +kernel
theorem dX8_read_134 : decode cX8_read 134 = .ok (.iaload, 1) := by decide +kernel
theorem dX8_read_135 : decode cX8_read 135 = .ok (.ireturn, 1) := by decide +kernel
theorem dX8_read_136 : decode cX8_read 136 = .ok (.aload_n 0, 1) := by decide +kernel
theorem dX8_read_137 : decode cX8_read 137 = .ok (.getfield 32, 3) := by decide +kernel
theorem dX8_read_140 : decode cX8_read 140 = .ok (.getfield 114, 3) := by decide +kernel
theorem dX8_read_143 : decode cX8_read 143 = .ok (.ireturn, 1) := by decide +kernel
theorem dX8_read_144 : decode cX8_read 144 = .ok (.aload_n 0, 1) := by decide +kernel
theorem dX8_read_145 : decode cX8_read 145 = .ok (.getfield 32, 3) := by decide +kernel
theorem dX8_read_148 : decode cX8_read 148 = .ok (.getfield 117, 3) := by decide +kernel
theorem dX8_read_151 : decode cX8_read 151 = .ok (.ireturn, 1) := by decide +kernel
theorem dX8_read_152 : decode cX8_read 152 = .ok (.aload_n 0, 1) := by decide +kernel
theorem dX8_read_153 : decode cX8_read 153 = .ok (.getfield 22, 3) := by decide +kernel
theorem dX8_read_156 : decode cX8_read 156 = .ok (.getfield 120, 3) := by decide +kernel
theorem dX8_read_159 : decode cX8_read 159 = .ok (.ireturn, 1) := by decide +kernel
theorem dX8_read_160 : decode cX8_read 160 = .ok (.aload_n 0, 1) := by decide +kernel
theorem dX8_read_161 : decode cX8_read 161 = .ok (.getfield 22, 3) := by decide +kernel
theorem dX8_read_164 : decode cX8_read 164 = .ok (.getfield 123, 3) := by decide +kernel
theorem dX8_read_167 : decode cX8_read 167 = .ok (.ireturn, 1) := by decide +kernel
theorem dX8_read_168 : decode cX8_read 168 = .ok (.aload_n 0, 1) := by decide +kernel
theorem dX8_read_169 : decode cX8_read 169 = .ok (.getfield 22, 3) := by decide +kernel
theorem dX8_read_172 : decode cX8_read 172 = .ok (.invokevirtual 126, 3) := by decide +kernel
theorem dX8_read_175 : decode cX8_read 175 = .ok (.ireturn, 1) := by decide +kernel
theorem dX8_read_176 : decode cX8_read 176 = .ok (.aload_n 0, 1) := by decide +kernel
theorem dX8_read_177 : decode cX8_read 177 = .ok (.getfield 22, 3) := by decide +kernel
theorem dX8_read_180 : decode cX8_read 180 = .ok (.invokevirtual 129, 3) := by decide +kernel
theorem dX8_read_183 : decode cX8_read 183 = .ok (.ireturn, 1) := by decide +kernel
theorem dX8_read_184 : decode cX8_read 184 = .ok (.aload_n 0, 1) := by decide +kernel
theorem dX8_read_185 : decode cX8_read 185 = .ok (.getfield 22, 3) := by decide +kernel
theorem dX8_read_188 : decode cX8_read 188 = .ok (.getfield 132, 3) := by decide +kernel
theorem dX8_read_191 : decode cX8_read 191 = .ok (.ireturn, 1) := by decide +kernel

def f_X8_read (i0 : Nat) (a1 : Int32) (M : Mm) : Option Int32 :=
  if okr 1 (M i0 1) then (if okr 1 (M i0 1) then (lz (f_X9_cellAt (M (rid (M i0 1)) 0) (M (rid (M i0 1)) 1)) fun x3 => if (a1 = (16 : Int32)) then (if okr 1 (M i0 1) then (some (M (rid (M i0 1)) 0)) else none) else (if (a1 = (17 : Int32)) then (if okr 1 (M i0 1) then (some (M (rid (M i0 1)) 1)) else none) else (if (a1 = (18 : Int32)) then (if 0 ≤ x3.toInt ∧ x3.toInt < ((64 : Nat) : Int) then (some (M ((wbog i0) + 1) (ix x3))) else none) else (if (a1 = (19 : Int32)) then (if 0 ≤ x3.toInt ∧ x3.toInt < ((64 : Nat) : Int) then (some (M ((wbog i0) + 4) (ix x3))) else none) else (if (a1 = (20 : Int32)) then (if 0 ≤ x3.toInt ∧ x3.toInt < ((64 : Nat) : Int) then (some (M ((wbog i0) + 5) (ix x3))) else none) else (if (a1 = (21 : Int32)) then (if 0 ≤ x3.toInt ∧ x3.toInt < ((64 : Nat) : Int) then (some (M ((wbog i0) + 3) (ix x3))) else none) else (if (a1 = (22 : Int32)) then (if okr 1 (M i0 1) then (some (M (rid (M i0 1)) 2)) else none) else (if (a1 = (23 : Int32)) then (if okr 1 (M i0 1) then (some (M (rid (M i0 1)) 3)) else none) else (if (a1 = (24 : Int32)) then (some (M (wbog i0) 8)) else (if (a1 = (25 : Int32)) then (some (M (wbog i0) 9)) else (if (a1 = (26 : Int32)) then (bd1 (f_X1_rainOfDay (wbog i0) M) fun x25 => some x25) else (if (a1 = (27 : Int32)) then (bd1 (f_X1_sunOfDay (wbog i0) M) fun x29 => some x29) else (some (M (wbog i0) 10)))))))))))))) else none) else none

set_option maxHeartbeats 4000000 in
set_option maxRecDepth 100000 in
theorem c_X8_read (l : Launch) (G : GG) (M : Mm) {i0 : Nat} (hi0 : (kd i0).1 = 3) (a1 : Int32) {r : Int32} (hr : f_X8_read i0 a1 M = some r) : Mo false l yX8_read (WS yX8_read cX8_read 3 (some .int)) (RM 1 0 0 21) 0 0 [.ref (G.2.1 i0), .int a1] G M (some (.int r)) M := by
  refine Mo.of (by decide +kernel) (Nat.le_of_ble_eq_true rfl) ?_
  intro p e s m args below meth c hC
  have hC : CX p s m args meth c cX8_read 3 RX8 (some .int) G := hC
  rw [f_X8_read] at hr
  show XJ p l e (RM 1 0 0 21) s m args below meth c G 3 _ 0 0 M 0 [(0, .ref (G.2.1 i0)), (1, .int a1)] []
  refine x_aload_n hC dX8_read_0 rfl 0 rfl ?_
  obtain ⟨h1, hr⟩ := it_s hr
  refine gf_X8_32 hC hi0 h1 dX8_read_1 ?_
  refine gf_X8_92 hC h1.2 dX8_read_4 ?_
  refine x_aload_n hC dX8_read_7 rfl 0 rfl ?_
  obtain ⟨h2, hr⟩ := it_s hr
  refine gf_X8_32 hC hi0 h2 dX8_read_8 ?_
  refine gf_X8_95 hC h2.2 dX8_read_11 ?_
  obtain ⟨x3, e4, hr⟩ := lz_s hr
  refine x_callSN (As := [.int (M (rid (M i0 1)) 0), .int (M (rid (M i0 1)) 1)]) hC (c_X9_cellAt l G M (M (rid (M i0 1)) 0) (M (rid (M i0 1)) 1) e4.symm) kc_yX9_cellAt kmn_X8_98 kt_yX9_cellAt kn_RX9 ky_yX9_cellAt rfl ⟨rfl, rfl⟩ ⟨(Nat.le_of_ble_eq_true rfl), (Nat.le_of_ble_eq_true rfl)⟩ rfl (Nat.le_of_ble_eq_true rfl) ⟨(Nat.le_of_ble_eq_true rfl), (Nat.le_of_ble_eq_true rfl)⟩ dX8_read_14 (fun b5 => ?_)
  refine x_istore_n hC [(2, .int x3), (0, .ref (G.2.1 i0)), (1, .int a1)] dX8_read_17 rfl (Nat.le_of_ble_eq_true rfl) rfl ?_
  refine x_iload_n hC dX8_read_18 rfl 2 rfl ?_
  by_cases s6 : a1 = (16 : Int32)
  · have hr := (ie_s hr).1 s6
    refine x_tableIn hC (off := 61) 80 dX8_read_19 (by rw [s6]; decide) (by rw [s6]; decide) (by rw [s6]; rfl) (by decide) ?_
    refine x_aload_n hC dX8_read_80 rfl 1 rfl ?_
    obtain ⟨h7, hr⟩ := it_s hr
    refine gf_X8_32 hC hi0 h7 dX8_read_81 ?_
    refine gf_X8_92 hC h7.2 dX8_read_84 ?_
    cases hr
    exact x_iret hC rfl dX8_read_87
  · have hr := (ie_s hr).2 s6
    by_cases s8 : a1 = (17 : Int32)
    · have hr := (ie_s hr).1 s8
      refine x_tableIn hC (off := 69) 88 dX8_read_19 (by rw [s8]; decide) (by rw [s8]; decide) (by rw [s8]; rfl) (by decide) ?_
      refine x_aload_n hC dX8_read_88 rfl 1 rfl ?_
      obtain ⟨h9, hr⟩ := it_s hr
      refine gf_X8_32 hC hi0 h9 dX8_read_89 ?_
      refine gf_X8_95 hC h9.2 dX8_read_92 ?_
      cases hr
      exact x_iret hC rfl dX8_read_95
    · have hr := (ie_s hr).2 s8
      by_cases s10 : a1 = (18 : Int32)
      · have hr := (ie_s hr).1 s10
        refine x_tableIn hC (off := 77) 96 dX8_read_19 (by rw [s10]; decide) (by rw [s10]; decide) (by rw [s10]; rfl) (by decide) ?_
        refine x_aload_n hC dX8_read_96 rfl 1 rfl ?_
        refine gf_X8_22 hC hi0 dX8_read_97 ?_
        refine gf_X8_102 hC (kr_3_0 hi0) dX8_read_100 ?_
        refine x_iload_n hC dX8_read_103 rfl 0 rfl ?_
        obtain ⟨h11, hr⟩ := it_s hr
        refine x_iald hC (kr_0_0 (kr_3_0 hi0)) h11 dX8_read_104 ?_
        cases hr
        exact x_iret hC rfl dX8_read_105
      · have hr := (ie_s hr).2 s10
        by_cases s12 : a1 = (19 : Int32)
        · have hr := (ie_s hr).1 s12
          refine x_tableIn hC (off := 87) 106 dX8_read_19 (by rw [s12]; decide) (by rw [s12]; decide) (by rw [s12]; rfl) (by decide) ?_
          refine x_aload_n hC dX8_read_106 rfl 1 rfl ?_
          refine gf_X8_22 hC hi0 dX8_read_107 ?_
          refine gf_X8_105 hC (kr_3_0 hi0) dX8_read_110 ?_
          refine x_iload_n hC dX8_read_113 rfl 0 rfl ?_
          obtain ⟨h13, hr⟩ := it_s hr
          refine x_iald hC (kr_0_3 (kr_3_0 hi0)) h13 dX8_read_114 ?_
          cases hr
          exact x_iret hC rfl dX8_read_115
        · have hr := (ie_s hr).2 s12
          by_cases s14 : a1 = (20 : Int32)
          · have hr := (ie_s hr).1 s14
            refine x_tableIn hC (off := 97) 116 dX8_read_19 (by rw [s14]; decide) (by rw [s14]; decide) (by rw [s14]; rfl) (by decide) ?_
            refine x_aload_n hC dX8_read_116 rfl 1 rfl ?_
            refine gf_X8_22 hC hi0 dX8_read_117 ?_
            refine gf_X8_108 hC (kr_3_0 hi0) dX8_read_120 ?_
            refine x_iload_n hC dX8_read_123 rfl 0 rfl ?_
            obtain ⟨h15, hr⟩ := it_s hr
            refine x_iald hC (kr_0_4 (kr_3_0 hi0)) h15 dX8_read_124 ?_
            cases hr
            exact x_iret hC rfl dX8_read_125
          · have hr := (ie_s hr).2 s14
            by_cases s16 : a1 = (21 : Int32)
            · have hr := (ie_s hr).1 s16
              refine x_tableIn hC (off := 107) 126 dX8_read_19 (by rw [s16]; decide) (by rw [s16]; decide) (by rw [s16]; rfl) (by decide) ?_
              refine x_aload_n hC dX8_read_126 rfl 1 rfl ?_
              refine gf_X8_22 hC hi0 dX8_read_127 ?_
              refine gf_X8_111 hC (kr_3_0 hi0) dX8_read_130 ?_
              refine x_iload_n hC dX8_read_133 rfl 0 rfl ?_
              obtain ⟨h17, hr⟩ := it_s hr
              refine x_iald hC (kr_0_2 (kr_3_0 hi0)) h17 dX8_read_134 ?_
              cases hr
              exact x_iret hC rfl dX8_read_135
            · have hr := (ie_s hr).2 s16
              by_cases s18 : a1 = (22 : Int32)
              · have hr := (ie_s hr).1 s18
                refine x_tableIn hC (off := 117) 136 dX8_read_19 (by rw [s18]; decide) (by rw [s18]; decide) (by rw [s18]; rfl) (by decide) ?_
                refine x_aload_n hC dX8_read_136 rfl 1 rfl ?_
                obtain ⟨h19, hr⟩ := it_s hr
                refine gf_X8_32 hC hi0 h19 dX8_read_137 ?_
                refine gf_X8_114 hC h19.2 dX8_read_140 ?_
                cases hr
                exact x_iret hC rfl dX8_read_143
              · have hr := (ie_s hr).2 s18
                by_cases s20 : a1 = (23 : Int32)
                · have hr := (ie_s hr).1 s20
                  refine x_tableIn hC (off := 125) 144 dX8_read_19 (by rw [s20]; decide) (by rw [s20]; decide) (by rw [s20]; rfl) (by decide) ?_
                  refine x_aload_n hC dX8_read_144 rfl 1 rfl ?_
                  obtain ⟨h21, hr⟩ := it_s hr
                  refine gf_X8_32 hC hi0 h21 dX8_read_145 ?_
                  refine gf_X8_117 hC h21.2 dX8_read_148 ?_
                  cases hr
                  exact x_iret hC rfl dX8_read_151
                · have hr := (ie_s hr).2 s20
                  by_cases s22 : a1 = (24 : Int32)
                  · have hr := (ie_s hr).1 s22
                    refine x_tableIn hC (off := 133) 152 dX8_read_19 (by rw [s22]; decide) (by rw [s22]; decide) (by rw [s22]; rfl) (by decide) ?_
                    refine x_aload_n hC dX8_read_152 rfl 1 rfl ?_
                    refine gf_X8_22 hC hi0 dX8_read_153 ?_
                    refine gf_X8_120 hC (kr_3_0 hi0) dX8_read_156 ?_
                    cases hr
                    exact x_iret hC rfl dX8_read_159
                  · have hr := (ie_s hr).2 s22
                    by_cases s23 : a1 = (25 : Int32)
                    · have hr := (ie_s hr).1 s23
                      refine x_tableIn hC (off := 141) 160 dX8_read_19 (by rw [s23]; decide) (by rw [s23]; decide) (by rw [s23]; rfl) (by decide) ?_
                      refine x_aload_n hC dX8_read_160 rfl 1 rfl ?_
                      refine gf_X8_22 hC hi0 dX8_read_161 ?_
                      refine gf_X8_123 hC (kr_3_0 hi0) dX8_read_164 ?_
                      cases hr
                      exact x_iret hC rfl dX8_read_167
                    · have hr := (ie_s hr).2 s23
                      by_cases s24 : a1 = (26 : Int32)
                      · have hr := (ie_s hr).1 s24
                        refine x_tableIn hC (off := 149) 168 dX8_read_19 (by rw [s24]; decide) (by rw [s24]; decide) (by rw [s24]; rfl) (by decide) ?_
                        refine x_aload_n hC dX8_read_168 rfl 1 rfl ?_
                        refine gf_X8_22 hC hi0 dX8_read_169 ?_
                        obtain ⟨x25, q26, hr⟩ := bd1_s hr
                        refine x_callV (ci := 0) (q := (RX1, TX1, 17)) (As := []) hC (c_X1_rainOfDay l G M (kr_3_0 hi0) q26) kc_yX1_rainOfDay km_X8_126 ki_yX1_rainOfDay kv_yX1_rainOfDay kn_RX1 ky_yX1_rainOfDay rfl ⟨rfl, rfl⟩ ⟨(Nat.le_of_ble_eq_true rfl), (Nat.le_of_ble_eq_true rfl)⟩ (kr_3_0 hi0) (by decide) rfl rfl (Nat.le_of_ble_eq_true rfl) ⟨(Nat.le_of_ble_eq_true rfl), (Nat.le_of_ble_eq_true rfl)⟩ dX8_read_172 (fun b27 => ?_)
                        cases hr
                        exact x_iret hC rfl dX8_read_175
                      · have hr := (ie_s hr).2 s24
                        by_cases s28 : a1 = (27 : Int32)
                        · have hr := (ie_s hr).1 s28
                          refine x_tableIn hC (off := 157) 176 dX8_read_19 (by rw [s28]; decide) (by rw [s28]; decide) (by rw [s28]; rfl) (by decide) ?_
                          refine x_aload_n hC dX8_read_176 rfl 1 rfl ?_
                          refine gf_X8_22 hC hi0 dX8_read_177 ?_
                          obtain ⟨x29, q30, hr⟩ := bd1_s hr
                          refine x_callV (ci := 0) (q := (RX1, TX1, 17)) (As := []) hC (c_X1_sunOfDay l G M (kr_3_0 hi0) q30) kc_yX1_sunOfDay km_X8_129 ki_yX1_sunOfDay kv_yX1_sunOfDay kn_RX1 ky_yX1_sunOfDay rfl ⟨rfl, rfl⟩ ⟨(Nat.le_of_ble_eq_true rfl), (Nat.le_of_ble_eq_true rfl)⟩ (kr_3_0 hi0) (by decide) rfl rfl (Nat.le_of_ble_eq_true rfl) ⟨(Nat.le_of_ble_eq_true rfl), (Nat.le_of_ble_eq_true rfl)⟩ dX8_read_180 (fun b31 => ?_)
                          cases hr
                          exact x_iret hC rfl dX8_read_183
                        · have hr := (ie_s hr).2 s28
                          refine x_tableOut hC 184 dX8_read_19 (by have := ne_toI s6 (z := 16) (by decide); have := ne_toI s8 (z := 17) (by decide); have := ne_toI s10 (z := 18) (by decide); have := ne_toI s12 (z := 19) (by decide); have := ne_toI s14 (z := 20) (by decide); have := ne_toI s16 (z := 21) (by decide); have := ne_toI s18 (z := 22) (by decide); have := ne_toI s20 (z := 23) (by decide); have := ne_toI s22 (z := 24) (by decide); have := ne_toI s23 (z := 25) (by decide); have := ne_toI s24 (z := 26) (by decide); have := ne_toI s28 (z := 27) (by decide); omega) (by decide) ?_
                          refine x_aload_n hC dX8_read_184 rfl 1 rfl ?_
                          refine gf_X8_22 hC hi0 dX8_read_185 ?_
                          refine gf_X8_132 hC (kr_3_0 hi0) dX8_read_188 ?_
                          cases hr
                          exact x_iret hC rfl dX8_read_191

theorem dX8_pop_0 : decode cX8_pop 0 = .ok (.aload_n 0, 1) := by decide +kernel
theorem dX8_pop_1 : decode cX8_pop 1 = .ok (.getfield 15, 3) := by decide +kernel
theorem dX8_pop_4 : decode cX8_pop 4 = .ok (.ifCond .ne 5, 3) := by decide +kernel
theorem dX8_pop_7 : decode cX8_pop 7 = .ok (.iconst 0, 1) := by decide +kernel
theorem dX8_pop_8 : decode cX8_pop 8 = .ok (.ireturn, 1) := by decide +kernel
theorem dX8_pop_9 : decode cX8_pop 9 = .ok (.aload_n 0, 1) := by decide +kernel
theorem dX8_pop_10 : decode cX8_pop 10 = .ok (.dup, 1) := by decide +kernel
theorem dX8_pop_11 : decode cX8_pop 11 = .ok (.getfield 15, 3) := by decide +kernel
theorem dX8_pop_14 : decode cX8_pop 14 = .ok (.iconst 1, 1) := by decide +kernel
theorem dX8_pop_15 : decode cX8_pop 15 = .ok (.isub, 1) := by decide +kernel
theorem dX8_pop_16 : decode cX8_pop 16 = .ok (.putfield 15, 3) := by decide +kernel
theorem dX8_pop_19 : decode cX8_pop 19 = .ok (.aload_n 0, 1) := by decide +kernel
theorem dX8_pop_20 : decode cX8_pop 20 = .ok (.getfield 9, 3) := by decide +kernel
theorem dX8_pop_23 : decode cX8_pop 23 = .ok (.aload_n 0, 1) := by decide +kernel
theorem dX8_pop_24 : decode cX8_pop 24 = .ok (.getfield 15, 3) := by decide +kernel
theorem dX8_pop_27 : decode cX8_pop 27 = .ok (.iaload, 1) := by decide +kernel
theorem dX8_pop_28 : decode cX8_pop 28 = .ok (.ireturn, 1) := by decide +kernel

def f_X8_pop (i0 : Nat) (M : Mm) : Option (Int32 × Mm) :=
  if ((M i0 3) = 0) then (some ((0 : Int32), M)) else (lz (wr M i0 3 ((M i0 3) - (1 : Int32))) fun M2 => if 0 ≤ (M2 i0 3).toInt ∧ (M2 i0 3).toInt < ((64 : Nat) : Int) then (some ((M2 (i0 + 1) (ix (M2 i0 3))), M2)) else none)

set_option maxHeartbeats 4000000 in
set_option maxRecDepth 100000 in
theorem c_X8_pop (l : Launch) (G : GG) (M : Mm) {i0 : Nat} (hi0 : (kd i0).1 = 3) {r : Int32} {M9 : Mm} (hr : f_X8_pop i0 M = some (r, M9)) : Mo false l yX8_pop (WS yX8_pop cX8_pop 1 (some .int)) (RM 0 0 0 0) 0 0 [.ref (G.2.1 i0)] G M (some (.int r)) M9 := by
  refine Mo.of (by decide +kernel) (Nat.le_of_ble_eq_true rfl) ?_
  intro p e s m args below meth c hC
  have hC : CX p s m args meth c cX8_pop 1 RX8 (some .int) G := hC
  rw [f_X8_pop] at hr
  show XJ p l e (RM 0 0 0 0) s m args below meth c G 1 _ 0 0 M 0 [(0, .ref (G.2.1 i0))] []
  refine x_aload_n hC dX8_pop_0 rfl 0 rfl ?_
  refine gf_X8_15 hC hi0 dX8_pop_1 ?_
  refine x_if_ne hC 9 dX8_pop_4 (by decide) (fun h1 => ?_) (fun h1 => ?_)
  · have hr := (ie_s hr).2 h1
    refine x_aload_n hC dX8_pop_9 rfl 0 rfl ?_
    refine x_dup hC dX8_pop_10 rfl ?_
    refine gf_X8_15 hC hi0 dX8_pop_11 ?_
    refine x_iconst hC (1 : Int32) dX8_pop_14 (by decide) ?_
    refine x_isub hC dX8_pop_15 ?_
    obtain ⟨M2, e3, hr⟩ := lz_s hr
    refine pf_X8_15 hC hi0 e3 dX8_pop_16 ?_
    refine x_aload_n hC dX8_pop_19 rfl 0 rfl ?_
    refine gf_X8_9 hC hi0 dX8_pop_20 ?_
    refine x_aload_n hC dX8_pop_23 rfl 0 rfl ?_
    refine gf_X8_15 hC hi0 dX8_pop_24 ?_
    obtain ⟨h4, hr⟩ := it_s hr
    refine x_iald hC (kr_3_2 hi0) h4 dX8_pop_27 ?_
    cases hr
    exact x_iret hC rfl dX8_pop_28
  · have hr := (ie_s hr).1 h1
    refine x_iconst hC (0 : Int32) dX8_pop_7 (by decide) ?_
    cases hr
    exact x_iret hC rfl dX8_pop_8

theorem dX8_join_0 : decode cX8_join 0 = .ok (.iload_n 0, 1) := by decide +kernel
theorem dX8_join_1 : decode cX8_join 1 = .ok (.tableswitch 162 2 14 #[67, 71, 75, 79, 91, 97, 103, 114, 125, 136, 147, 162, 158], 67) := by decide +kernel
theorem dX8_join_68 : decode cX8_join 68 = .ok (.iload_n 1, 1) := by decide +kernel
theorem dX8_join_69 : decode cX8_join 69 = .ok (.iload_n 2, 1) := by decide +kernel
theorem dX8_join_70 : decode cX8_join 70 = .ok (.iadd, 1) := by decide +kernel
theorem dX8_join_71 : decode cX8_join 71 = .ok (.ireturn, 1) := by decide +kernel
theorem dX8_join_72 : decode cX8_join 72 = .ok (.iload_n 1, 1) := by decide +kernel
theorem dX8_join_73 : decode cX8_join 73 = .ok (.iload_n 2, 1) := by decide +kernel
theorem dX8_join_74 : decode cX8_join 74 = .ok (.isub, 1) := by decide +kernel
theorem dX8_join_75 : decode cX8_join 75 = .ok (.ireturn, 1) := by decide +kernel
theorem dX8_join_76 : decode cX8_join 76 = .ok (.iload_n 1, 1) := by decide +kernel
theorem dX8_join_77 : decode cX8_join 77 = .ok (.iload_n 2, 1) := by decide +kernel
theorem dX8_join_78 : decode cX8_join 78 = .ok (.imul, 1) := by decide +kernel
theorem dX8_join_79 : decode cX8_join 79 = .ok (.ireturn, 1) := by decide +kernel
theorem dX8_join_80 : decode cX8_join 80 = .ok (.iload_n 2, 1) := by decide +kernel
theorem dX8_join_81 : decode cX8_join 81 = .ok (.ifCond .ne 7, 3) := by decide +kernel
theorem dX8_join_84 : decode cX8_join 84 = .ok (.iconst 0, 1) := by decide +kernel
theorem dX8_join_85 : decode cX8_join 85 = .ok (.goto 6, 3) := by decide +kernel
theorem dX8_join_88 : decode cX8_join 88 = .ok (.iload_n 1, 1) := by decide +kernel
theorem dX8_join_89 : decode cX8_join 89 = .ok (.iload_n 2, 1) := by decide +kernel
theorem dX8_join_90 : decode cX8_join 90 = .ok (.idiv, 1) := by decide +kernel
theorem dX8_join_91 : decode cX8_join 91 = .ok (.ireturn, 1) := by decide +kernel
theorem dX8_join_92 : decode cX8_join 92 = .ok (.iload_n 1, 1) := by decide +kernel
theorem dX8_join_93 : decode cX8_join 93 = .ok (.iload_n 2, 1) := by decide +kernel
theorem dX8_join_94 : decode cX8_join 94 = .ok (.invokestatic 135, 3) := by decide +kernel
theorem dX8_join_97 : decode cX8_join 97 = .ok (.ireturn, 1) := by decide +kernel
theorem dX8_join_98 : decode cX8_join 98 = .ok (.iload_n 1, 1) := by decide +kernel
theorem dX8_join_99 : decode cX8_join 99 = .ok (.iload_n 2, 1) := by decide +kernel
theorem dX8_join_100 : decode cX8_join 100 = .ok (.invokestatic 140, 3) := by decide +kernel
theorem dX8_join_103 : decode cX8_join 103 = .ok (.ireturn, 1) := by decide +kernel
theorem dX8_join_104 : decode cX8_join 104 = .ok (.iload_n 1, 1) := by decide +kernel
theorem dX8_join_105 : decode cX8_join 105 = .ok (.iload_n 2, 1) := by decide +kernel
theorem dX8_join_106 : decode cX8_join 106 = .ok (.if_icmp .ge 7, 3) := by decide +kernel
theorem dX8_join_109 : decode cX8_join 109 = .ok (.iconst 1, 1) := by decide +kernel
theorem dX8_join_110 : decode cX8_join 110 = .ok (.goto 4, 3) := by decide +kernel
theorem dX8_join_113 : decode cX8_join 113 = .ok (.iconst 0, 1) := by decide +kernel
theorem dX8_join_114 : decode cX8_join 114 = .ok (.ireturn, 1) := by decide +kernel
theorem dX8_join_115 : decode cX8_join 115 = .ok (.iload_n 1, 1) := by decide +kernel
theorem dX8_join_116 : decode cX8_join 116 = .ok (.iload_n 2, 1) := by decide +kernel
theorem dX8_join_117 : decode cX8_join 117 = .ok (.if_icmp .le 7, 3) := by decide +kernel
theorem dX8_join_120 : decode cX8_join 120 = .ok (.iconst 1, 1) := by decide +kernel
theorem dX8_join_121 : decode cX8_join 121 = .ok (.goto 4, 3) := by decide +kernel
theorem dX8_join_124 : decode cX8_join 124 = .ok (.iconst 0, 1) := by decide +kernel
theorem dX8_join_125 : decode cX8_join 125 = .ok (.ireturn, 1) := by decide +kernel
theorem dX8_join_126 : decode cX8_join 126 = .ok (.iload_n 1, 1) := by decide +kernel
theorem dX8_join_127 : decode cX8_join 127 = .ok (.iload_n 2, 1) := by decide +kernel
theorem dX8_join_128 : decode cX8_join 128 = .ok (.if_icmp .ne 7, 3) := by decide +kernel
theorem dX8_join_131 : decode cX8_join 131 = .ok (.iconst 1, 1) := by decide +kernel
theorem dX8_join_132 : decode cX8_join 132 = .ok (.goto 4, 3) := by decide +kernel
theorem dX8_join_135 : decode cX8_join 135 = .ok (.iconst 0, 1) := by decide +kernel
theorem dX8_join_136 : decode cX8_join 136 = .ok (.ireturn, 1) := by decide +kernel
theorem dX8_join_137 : decode cX8_join 137 = .ok (.iload_n 1, 1) := by decide +kernel
theorem dX8_join_138 : decode cX8_join 138 = .ok (.iload_n 2, 1) := by decide +kernel
theorem dX8_join_139 : decode cX8_join 139 = .ok (.if_icmp .gt 7, 3) := by decide +kernel
theorem dX8_join_142 : decode cX8_join 142 = .ok (.iconst 1, 1) := by decide +kernel
theorem dX8_join_143 : decode cX8_join 143 = .ok (.goto 4, 3) := by decide +kernel
theorem dX8_join_146 : decode cX8_join 146 = .ok (.iconst 0, 1) := by decide +kernel
theorem dX8_join_147 : decode cX8_join 147 = .ok (.ireturn, 1) := by decide +kernel
theorem dX8_join_148 : decode cX8_join 148 = .ok (.iload_n 1, 1) := by decide +kernel
theorem dX8_join_149 : decode cX8_join 149 = .ok (.iload_n 2, 1) := by decide +kernel
theorem dX8_join_150 : decode cX8_join 150 = .ok (.if_icmp .lt 7, 3) := by decide +kernel
theorem dX8_join_153 : decode cX8_join 153 = .ok (.iconst 1, 1) := by decide +kernel
theorem dX8_join_154 : decode cX8_join 154 = .ok (.goto 4, 3) := by decide +kernel
theorem dX8_join_157 : decode cX8_join 157 = .ok (.iconst 0, 1) := by decide +kernel
theorem dX8_join_158 : decode cX8_join 158 = .ok (.ireturn, 1) := by decide +kernel
theorem dX8_join_159 : decode cX8_join 159 = .ok (.iload_n 1, 1) := by decide +kernel
theorem dX8_join_160 : decode cX8_join 160 = .ok (.iload_n 2, 1) := by decide +kernel
theorem dX8_join_161 : decode cX8_join 161 = .ok (.iand, 1) := by decide +kernel
theorem dX8_join_162 : decode cX8_join 162 = .ok (.ireturn, 1) := by decide +kernel
theorem dX8_join_163 : decode cX8_join 163 = .ok (.iload_n 1, 1) := by decide +kernel
theorem dX8_join_164 : decode cX8_join 164 = .ok (.iload_n 2, 1) := by decide +kernel
theorem dX8_join_165 : decode cX8_join 165 = .ok (.ior, 1) := by decide +kernel
theorem dX8_join_166 : decode cX8_join 166 = .ok (.ireturn, 1) := by decide +kernel

def f_X8_join (a0 : Int32) (a1 : Int32) (a2 : Int32) (M : Mm) : Option Int32 :=
  if (a0 = (2 : Int32)) then (some (a1 + a2)) else (if (a0 = (3 : Int32)) then (some (a1 - a2)) else (if (a0 = (4 : Int32)) then (some (a1 * a2)) else (if (a0 = (5 : Int32)) then (if (a2 = 0) then (some (0 : Int32)) else (if ¬ (a2 = 0) then (some (a1 / a2)) else none)) else (if (a0 = (6 : Int32)) then (some (imin a1 a2)) else (if (a0 = (7 : Int32)) then (some (imax a1 a2)) else (if (a0 = (8 : Int32)) then (if (a2 ≤ a1) then (some (0 : Int32)) else (some (1 : Int32))) else (if (a0 = (9 : Int32)) then (if (a1 ≤ a2) then (some (0 : Int32)) else (some (1 : Int32))) else (if (a0 = (10 : Int32)) then (if (a1 = a2) then (some (1 : Int32)) else (some (0 : Int32))) else (if (a0 = (11 : Int32)) then (if (a2 < a1) then (some (0 : Int32)) else (some (1 : Int32))) else (if (a0 = (12 : Int32)) then (if (a1 < a2) then (some (0 : Int32)) else (some (1 : Int32))) else (if (a0 = (13 : Int32)) then (some (a1 ||| a2)) else (if (a0 = (14 : Int32)) then (some (a1 &&& a2)) else (some (a1 ||| a2))))))))))))))

set_option maxHeartbeats 4000000 in
set_option maxRecDepth 100000 in
theorem c_X8_join (l : Launch) (G : GG) (M : Mm) (a0 : Int32) (a1 : Int32) (a2 : Int32) {r : Int32} (hr : f_X8_join a0 a1 a2 M = some r) : Mo false l yX8_join (WS yX8_join cX8_join 3 (some .int)) (RM 1 0 0 40) 0 0 [.int a0, .int a1, .int a2] G M (some (.int r)) M := by
  refine Mo.of (by decide +kernel) (Nat.le_of_ble_eq_true rfl) ?_
  intro p e s m args below meth c hC
  have hC : CX p s m args meth c cX8_join 3 RX8 (some .int) G := hC
  rw [f_X8_join] at hr
  show XJ p l e (RM 1 0 0 40) s m args below meth c G 3 _ 0 0 M 0 [(0, .int a0), (1, .int a1), (2, .int a2)] []
  refine x_iload_n hC dX8_join_0 rfl 0 rfl ?_
  by_cases s1 : a0 = (2 : Int32)
  · have hr := (ie_s hr).1 s1
    refine x_tableIn hC (off := 67) 68 dX8_join_1 (by rw [s1]; decide) (by rw [s1]; decide) (by rw [s1]; rfl) (by decide) ?_
    refine x_iload_n hC dX8_join_68 rfl 1 rfl ?_
    refine x_iload_n hC dX8_join_69 rfl 2 rfl ?_
    refine x_iadd hC dX8_join_70 ?_
    cases hr
    exact x_iret hC rfl dX8_join_71
  · have hr := (ie_s hr).2 s1
    by_cases s2 : a0 = (3 : Int32)
    · have hr := (ie_s hr).1 s2
      refine x_tableIn hC (off := 71) 72 dX8_join_1 (by rw [s2]; decide) (by rw [s2]; decide) (by rw [s2]; rfl) (by decide) ?_
      refine x_iload_n hC dX8_join_72 rfl 1 rfl ?_
      refine x_iload_n hC dX8_join_73 rfl 2 rfl ?_
      refine x_isub hC dX8_join_74 ?_
      cases hr
      exact x_iret hC rfl dX8_join_75
    · have hr := (ie_s hr).2 s2
      by_cases s3 : a0 = (4 : Int32)
      · have hr := (ie_s hr).1 s3
        refine x_tableIn hC (off := 75) 76 dX8_join_1 (by rw [s3]; decide) (by rw [s3]; decide) (by rw [s3]; rfl) (by decide) ?_
        refine x_iload_n hC dX8_join_76 rfl 1 rfl ?_
        refine x_iload_n hC dX8_join_77 rfl 2 rfl ?_
        refine x_imul hC dX8_join_78 ?_
        cases hr
        exact x_iret hC rfl dX8_join_79
      · have hr := (ie_s hr).2 s3
        by_cases s4 : a0 = (5 : Int32)
        · have hr := (ie_s hr).1 s4
          refine x_tableIn hC (off := 79) 80 dX8_join_1 (by rw [s4]; decide) (by rw [s4]; decide) (by rw [s4]; rfl) (by decide) ?_
          refine x_iload_n hC dX8_join_80 rfl 2 rfl ?_
          refine x_if_ne hC 88 dX8_join_81 (by decide) (fun h5 => ?_) (fun h5 => ?_)
          · have hr := (ie_s hr).2 h5
            refine x_iload_n hC dX8_join_88 rfl 1 rfl ?_
            refine x_iload_n hC dX8_join_89 rfl 2 rfl ?_
            obtain ⟨h6, hr⟩ := it_s hr
            refine x_idiv hC dX8_join_90 h6 ?_
            cases hr
            exact x_iret hC rfl dX8_join_91
          · have hr := (ie_s hr).1 h5
            refine x_iconst hC (0 : Int32) dX8_join_84 (by decide) ?_
            refine x_goto hC 91 dX8_join_85 (by decide) ?_
            cases hr
            exact x_iret hC rfl dX8_join_91
        · have hr := (ie_s hr).2 s4
          by_cases s7 : a0 = (6 : Int32)
          · have hr := (ie_s hr).1 s7
            refine x_tableIn hC (off := 91) 92 dX8_join_1 (by rw [s7]; decide) (by rw [s7]; decide) (by rw [s7]; rfl) (by decide) ?_
            refine x_iload_n hC dX8_join_92 rfl 1 rfl ?_
            refine x_iload_n hC dX8_join_93 rfl 2 rfl ?_
            refine x_mmin hC km_X8_135 kt_Mmin kn_Math kc_Mmin (Nat.le_of_ble_eq_true rfl) (Nat.le_of_ble_eq_true rfl) ⟨(Nat.le_of_ble_eq_true rfl), (Nat.le_of_ble_eq_true rfl)⟩ dX8_join_94 ?_
            cases hr
            exact x_iret hC rfl dX8_join_97
          · have hr := (ie_s hr).2 s7
            by_cases s8 : a0 = (7 : Int32)
            · have hr := (ie_s hr).1 s8
              refine x_tableIn hC (off := 97) 98 dX8_join_1 (by rw [s8]; decide) (by rw [s8]; decide) (by rw [s8]; rfl) (by decide) ?_
              refine x_iload_n hC dX8_join_98 rfl 1 rfl ?_
              refine x_iload_n hC dX8_join_99 rfl 2 rfl ?_
              refine x_mmax hC km_X8_140 kt_Mmax kn_Math kc_Mmax (Nat.le_of_ble_eq_true rfl) (Nat.le_of_ble_eq_true rfl) ⟨(Nat.le_of_ble_eq_true rfl), (Nat.le_of_ble_eq_true rfl)⟩ dX8_join_100 ?_
              cases hr
              exact x_iret hC rfl dX8_join_103
            · have hr := (ie_s hr).2 s8
              by_cases s9 : a0 = (8 : Int32)
              · have hr := (ie_s hr).1 s9
                refine x_tableIn hC (off := 103) 104 dX8_join_1 (by rw [s9]; decide) (by rw [s9]; decide) (by rw [s9]; rfl) (by decide) ?_
                refine x_iload_n hC dX8_join_104 rfl 1 rfl ?_
                refine x_iload_n hC dX8_join_105 rfl 2 rfl ?_
                refine x_icmp_ge hC 113 dX8_join_106 (by decide) (fun h10 => ?_) (fun h10 => ?_)
                · have hr := (ie_s hr).1 h10
                  refine x_iconst hC (0 : Int32) dX8_join_113 (by decide) ?_
                  cases hr
                  exact x_iret hC rfl dX8_join_114
                · have hr := (ie_s hr).2 h10
                  refine x_iconst hC (1 : Int32) dX8_join_109 (by decide) ?_
                  refine x_goto hC 114 dX8_join_110 (by decide) ?_
                  cases hr
                  exact x_iret hC rfl dX8_join_114
              · have hr := (ie_s hr).2 s9
                by_cases s11 : a0 = (9 : Int32)
                · have hr := (ie_s hr).1 s11
                  refine x_tableIn hC (off := 114) 115 dX8_join_1 (by rw [s11]; decide) (by rw [s11]; decide) (by rw [s11]; rfl) (by decide) ?_
                  refine x_iload_n hC dX8_join_115 rfl 1 rfl ?_
                  refine x_iload_n hC dX8_join_116 rfl 2 rfl ?_
                  refine x_icmp_le hC 124 dX8_join_117 (by decide) (fun h12 => ?_) (fun h12 => ?_)
                  · have hr := (ie_s hr).1 h12
                    refine x_iconst hC (0 : Int32) dX8_join_124 (by decide) ?_
                    cases hr
                    exact x_iret hC rfl dX8_join_125
                  · have hr := (ie_s hr).2 h12
                    refine x_iconst hC (1 : Int32) dX8_join_120 (by decide) ?_
                    refine x_goto hC 125 dX8_join_121 (by decide) ?_
                    cases hr
                    exact x_iret hC rfl dX8_join_125
                · have hr := (ie_s hr).2 s11
                  by_cases s13 : a0 = (10 : Int32)
                  · have hr := (ie_s hr).1 s13
                    refine x_tableIn hC (off := 125) 126 dX8_join_1 (by rw [s13]; decide) (by rw [s13]; decide) (by rw [s13]; rfl) (by decide) ?_
                    refine x_iload_n hC dX8_join_126 rfl 1 rfl ?_
                    refine x_iload_n hC dX8_join_127 rfl 2 rfl ?_
                    refine x_icmp_ne hC 135 dX8_join_128 (by decide) (fun h14 => ?_) (fun h14 => ?_)
                    · have hr := (ie_s hr).2 h14
                      refine x_iconst hC (0 : Int32) dX8_join_135 (by decide) ?_
                      cases hr
                      exact x_iret hC rfl dX8_join_136
                    · have hr := (ie_s hr).1 h14
                      refine x_iconst hC (1 : Int32) dX8_join_131 (by decide) ?_
                      refine x_goto hC 136 dX8_join_132 (by decide) ?_
                      cases hr
                      exact x_iret hC rfl dX8_join_136
                  · have hr := (ie_s hr).2 s13
                    by_cases s15 : a0 = (11 : Int32)
                    · have hr := (ie_s hr).1 s15
                      refine x_tableIn hC (off := 136) 137 dX8_join_1 (by rw [s15]; decide) (by rw [s15]; decide) (by rw [s15]; rfl) (by decide) ?_
                      refine x_iload_n hC dX8_join_137 rfl 1 rfl ?_
                      refine x_iload_n hC dX8_join_138 rfl 2 rfl ?_
                      refine x_icmp_gt hC 146 dX8_join_139 (by decide) (fun h16 => ?_) (fun h16 => ?_)
                      · have hr := (ie_s hr).1 h16
                        refine x_iconst hC (0 : Int32) dX8_join_146 (by decide) ?_
                        cases hr
                        exact x_iret hC rfl dX8_join_147
                      · have hr := (ie_s hr).2 h16
                        refine x_iconst hC (1 : Int32) dX8_join_142 (by decide) ?_
                        refine x_goto hC 147 dX8_join_143 (by decide) ?_
                        cases hr
                        exact x_iret hC rfl dX8_join_147
                    · have hr := (ie_s hr).2 s15
                      by_cases s17 : a0 = (12 : Int32)
                      · have hr := (ie_s hr).1 s17
                        refine x_tableIn hC (off := 147) 148 dX8_join_1 (by rw [s17]; decide) (by rw [s17]; decide) (by rw [s17]; rfl) (by decide) ?_
                        refine x_iload_n hC dX8_join_148 rfl 1 rfl ?_
                        refine x_iload_n hC dX8_join_149 rfl 2 rfl ?_
                        refine x_icmp_lt hC 157 dX8_join_150 (by decide) (fun h18 => ?_) (fun h18 => ?_)
                        · have hr := (ie_s hr).1 h18
                          refine x_iconst hC (0 : Int32) dX8_join_157 (by decide) ?_
                          cases hr
                          exact x_iret hC rfl dX8_join_158
                        · have hr := (ie_s hr).2 h18
                          refine x_iconst hC (1 : Int32) dX8_join_153 (by decide) ?_
                          refine x_goto hC 158 dX8_join_154 (by decide) ?_
                          cases hr
                          exact x_iret hC rfl dX8_join_158
                      · have hr := (ie_s hr).2 s17
                        by_cases s19 : a0 = (13 : Int32)
                        · have hr := (ie_s hr).1 s19
                          refine x_tableIn hC (off := 162) 163 dX8_join_1 (by rw [s19]; decide) (by rw [s19]; decide) (by rw [s19]; rfl) (by decide) ?_
                          refine x_iload_n hC dX8_join_163 rfl 1 rfl ?_
                          refine x_iload_n hC dX8_join_164 rfl 2 rfl ?_
                          refine x_ior hC dX8_join_165 ?_
                          cases hr
                          exact x_iret hC rfl dX8_join_166
                        · have hr := (ie_s hr).2 s19
                          by_cases s20 : a0 = (14 : Int32)
                          · have hr := (ie_s hr).1 s20
                            refine x_tableIn hC (off := 158) 159 dX8_join_1 (by rw [s20]; decide) (by rw [s20]; decide) (by rw [s20]; rfl) (by decide) ?_
                            refine x_iload_n hC dX8_join_159 rfl 1 rfl ?_
                            refine x_iload_n hC dX8_join_160 rfl 2 rfl ?_
                            refine x_iand hC dX8_join_161 ?_
                            cases hr
                            exact x_iret hC rfl dX8_join_162
                          · have hr := (ie_s hr).2 s20
                            refine x_tableOut hC 163 dX8_join_1 (by have := ne_toI s1 (z := 2) (by decide); have := ne_toI s2 (z := 3) (by decide); have := ne_toI s3 (z := 4) (by decide); have := ne_toI s4 (z := 5) (by decide); have := ne_toI s7 (z := 6) (by decide); have := ne_toI s8 (z := 7) (by decide); have := ne_toI s9 (z := 8) (by decide); have := ne_toI s11 (z := 9) (by decide); have := ne_toI s13 (z := 10) (by decide); have := ne_toI s15 (z := 11) (by decide); have := ne_toI s17 (z := 12) (by decide); have := ne_toI s19 (z := 13) (by decide); have := ne_toI s20 (z := 14) (by decide); omega) (by decide) ?_
                            refine x_iload_n hC dX8_join_163 rfl 1 rfl ?_
                            refine x_iload_n hC dX8_join_164 rfl 2 rfl ?_
                            refine x_ior hC dX8_join_165 ?_
                            cases hr
                            exact x_iret hC rfl dX8_join_166

theorem dX8_reckon_0 : decode cX8_reckon 0 = .ok (.iload_n 1, 1) := by decide +kernel
theorem dX8_reckon_1 : decode cX8_reckon 1 = .ok (.ifCond .ne 11, 3) := by decide +kernel
theorem dX8_reckon_4 : decode cX8_reckon 4 = .ok (.aload_n 0, 1) := by decide +kernel
theorem dX8_reckon_5 : decode cX8_reckon 5 = .ok (.iload_n 2, 1) := by decide +kernel
theorem dX8_reckon_6 : decode cX8_reckon 6 = .ok (.invokevirtual 77, 3) := by decide +kernel
theorem dX8_reckon_9 : decode cX8_reckon 9 = .ok (.goto 85, 3) := by decide +kernel
theorem dX8_reckon_12 : decode cX8_reckon 12 = .ok (.iload_n 1, 1) := by decide +kernel
theorem dX8_reckon_13 : decode cX8_reckon 13 = .ok (.bipush 16, 2) := by decide +kernel
theorem dX8_reckon_15 : decode cX8_reckon 15 = .ok (.if_icmp .lt 15, 3) := by decide +kernel
theorem dX8_reckon_18 : decode cX8_reckon 18 = .ok (.aload_n 0, 1) := by decide +kernel
theorem dX8_reckon_19 : decode cX8_reckon 19 = .ok (.aload_n 0, 1) := by decide +kernel
theorem dX8_reckon_20 : decode cX8_reckon 20 = .ok (.iload_n 1, 1) := by decide +kernel
theorem dX8_reckon_21 : decode cX8_reckon 21 = .ok (.invokevirtual 81, 3) := by decide +kernel
theorem dX8_reckon_24 : decode cX8_reckon 24 = .ok (.invokevirtual 77, 3) := by decide +kernel
theorem dX8_reckon_27 : decode cX8_reckon 27 = .ok (.goto 67, 3) := by decide +kernel
theorem dX8_reckon_30 : decode cX8_reckon 30 = .ok (.iload_n 1, 1) := by decide +kernel
theorem dX8_reckon_31 : decode cX8_reckon 31 = .ok (.iconst 1, 1) := by decide +kernel
theorem dX8_reckon_32 : decode cX8_reckon 32 = .ok (.if_icmp .ne 15, 3) := by decide +kernel
theorem dX8_reckon_35 : decode cX8_reckon 35 = .ok (.aload_n 0, 1) := by decide +kernel
theorem dX8_reckon_36 : decode cX8_reckon 36 = .ok (.aload_n 0, 1) := by decide +kernel
theorem dX8_reckon_37 : decode cX8_reckon 37 = .ok (.invokevirtual 85, 3) := by decide +kernel
theorem dX8_reckon_40 : decode cX8_reckon 40 = .ok (.ineg, 1) := by decide +kernel
theorem dX8_reckon_41 : decode cX8_reckon 41 = .ok (.invokevirtual 77, 3) := by decide +kernel
theorem dX8_reckon_44 : decode cX8_reckon 44 = .ok (.goto 50, 3) := by decide +kernel
theorem dX8_reckon_47 : decode cX8_reckon 47 = .ok (.iload_n 1, 1) := by decide +kernel
theorem dX8_reckon_48 : decode cX8_reckon 48 = .ok (.bipush 13, 2) := by decide +kernel
theorem dX8_reckon_50 : decode cX8_reckon 50 = .ok (.if_icmp .ne 22, 3) := by decide +kernel
theorem dX8_reckon_53 : decode cX8_reckon 53 = .ok (.aload_n 0, 1) := by decide +kernel
theorem dX8_reckon_54 : decode cX8_reckon 54 = .ok (.aload_n 0, 1) := by decide +kernel
theorem dX8_reckon_55 : decode cX8_reckon 55 = .ok (.invokevirtual 85, 3) := by decide +kernel
theorem dX8_reckon_58 : decode cX8_reckon 58 = .ok (.ifCond .ne 7, 3) := by decide +kernel
theorem dX8_reckon_61 : decode cX8_reckon 61 = .ok (.iconst 1, 1) := by decide +kernel
theorem dX8_reckon_62 : decode cX8_reckon 62 = .ok (.goto 4, 3) := by decide +kernel
theorem dX8_reckon_65 : decode cX8_reckon 65 = .ok (.iconst 0, 1) := by decide +kernel
theorem dX8_reckon_66 : decode cX8_reckon 66 = .ok (.invokevirtual 77, 3) := by decide +kernel
theorem dX8_reckon_69 : decode cX8_reckon 69 = .ok (.goto 25, 3) := by decide +kernel
theorem dX8_reckon_72 : decode cX8_reckon 72 = .ok (.aload_n 0, 1) := by decide +kernel
theorem dX8_reckon_73 : decode cX8_reckon 73 = .ok (.invokevirtual 85, 3) := by decide +kernel
theorem dX8_reckon_76 : decode cX8_reckon 76 = .ok (.istore_n 3, 1) := by decide +kernel
theorem dX8_reckon_77 : decode cX8_reckon 77 = .ok (.aload_n 0, 1) := by decide +kernel
theorem dX8_reckon_78 : decode cX8_reckon 78 = .ok (.invokevirtual 85, 3) := by decide +kernel
theorem dX8_reckon_81 : decode cX8_reckon 81 = .ok (.istore 4, 2) := by decide +kernel
theorem dX8_reckon_83 : decode cX8_reckon 83 = .ok (.aload_n 0, 1) := by decide +kernel
theorem dX8_reckon_84 : decode cX8_reckon 84 = .ok (.iload_n 1, 1) := by decide +kernel
theorem dX8_reckon_85 : decode cX8_reckon 85 = .ok (.iload 4, 2) := by decide +kernel
theorem dX8_reckon_87 : decode cX8_reckon 87 = .ok (.iload_n 3, 1) := by decide +kernel
theorem dX8_reckon_88 : decode cX8_reckon 88 = .ok (.invokestatic 88, 3) := by decide +kernel
theorem dX8_reckon_91 : decode cX8_reckon 91 = .ok (.invokevirtual 77, 3) := by decide +kernel
theorem dX8_reckon_94 : decode cX8_reckon 94 = .ok (.return_, 1) := by decide +kernel

def f_X8_reckon (i0 : Nat) (a1 : Int32) (a2 : Int32) (M : Mm) : Option Mm :=
  if (a1 = 0) then (bd1 (f_X8_push i0 a2 M) fun M44 => some M44) else (if (a1 < (16 : Int32)) then (if (a1 = (1 : Int32)) then (bd2 (f_X8_pop i0 M) fun x31 M32 => bd1 (f_X8_push i0 (-x31) M32) fun M35 => some M35) else (if (a1 = (13 : Int32)) then (bd2 (f_X8_pop i0 M) fun x19 M20 => lz (if (x19 = 0) then ((1 : Int32)) else ((0 : Int32))) fun x25 => bd1 (f_X8_push i0 x25 M20) fun M28 => some M28) else (bd2 (f_X8_pop i0 M) fun x5 M6 => bd2 (f_X8_pop i0 M6) fun x9 M10 => bd1 (f_X8_join a1 x9 x5 M10) fun x13 => bd1 (f_X8_push i0 x13 M10) fun M16 => some M16))) else (bd1 (f_X8_read i0 a1 M) fun x38 => bd1 (f_X8_push i0 x38 M) fun M41 => some M41))

set_option maxHeartbeats 4000000 in
set_option maxRecDepth 100000 in
theorem c_X8_reckon (l : Launch) (G : GG) (M : Mm) {i0 : Nat} (hi0 : (kd i0).1 = 3) (a1 : Int32) (a2 : Int32) {M9 : Mm} (hr : f_X8_reckon i0 a1 a2 M = some M9) : Mo false l yX8_reckon (WS yX8_reckon cX8_reckon 5 none) (RM 2 0 0 62) 0 0 [.ref (G.2.1 i0), .int a1, .int a2] G M none M9 := by
  refine Mo.of (by decide +kernel) (Nat.le_of_ble_eq_true rfl) ?_
  intro p e s m args below meth c hC
  have hC : CX p s m args meth c cX8_reckon 5 RX8 none G := hC
  rw [f_X8_reckon] at hr
  show XJ p l e (RM 2 0 0 62) s m args below meth c G 5 _ 0 0 M 0 [(0, .ref (G.2.1 i0)), (1, .int a1), (2, .int a2)] []
  refine x_iload_n hC dX8_reckon_0 rfl 1 rfl ?_
  refine x_if_ne hC 12 dX8_reckon_1 (by decide) (fun h1 => ?_) (fun h1 => ?_)
  · have hr := (ie_s hr).2 h1
    refine x_iload_n hC dX8_reckon_12 rfl 1 rfl ?_
    refine x_bipush hC (16 : Int32) dX8_reckon_13 (by decide) ?_
    refine x_icmp_lt hC 30 dX8_reckon_15 (by decide) (fun h2 => ?_) (fun h2 => ?_)
    · have hr := (ie_s hr).1 h2
      refine x_iload_n hC dX8_reckon_30 rfl 1 rfl ?_
      refine x_iconst hC (1 : Int32) dX8_reckon_31 (by decide) ?_
      refine x_icmp_ne hC 47 dX8_reckon_32 (by decide) (fun h3 => ?_) (fun h3 => ?_)
      · have hr := (ie_s hr).2 h3
        refine x_iload_n hC dX8_reckon_47 rfl 1 rfl ?_
        refine x_bipush hC (13 : Int32) dX8_reckon_48 (by decide) ?_
        refine x_icmp_ne hC 72 dX8_reckon_50 (by decide) (fun h4 => ?_) (fun h4 => ?_)
        · have hr := (ie_s hr).2 h4
          refine x_aload_n hC dX8_reckon_72 rfl 0 rfl ?_
          obtain ⟨x5, M6, q7, hr⟩ := bd2_s hr
          refine x_callV (ci := 3) (q := (RX8, TX8, 5)) (As := []) hC (c_X8_pop l G M hi0 q7) kc_yX8_pop km_X8_85 ki_yX8_pop kv_yX8_pop kn_RX8 ky_yX8_pop rfl ⟨rfl, rfl⟩ ⟨(Nat.le_of_ble_eq_true rfl), (Nat.le_of_ble_eq_true rfl)⟩ hi0 (by decide) rfl rfl (Nat.le_of_ble_eq_true rfl) ⟨(Nat.le_of_ble_eq_true rfl), (Nat.le_of_ble_eq_true rfl)⟩ dX8_reckon_73 (fun b8 => ?_)
          refine x_istore_n hC [(3, .int x5), (0, .ref (G.2.1 i0)), (1, .int a1), (2, .int a2)] dX8_reckon_76 rfl (Nat.le_of_ble_eq_true rfl) rfl ?_
          refine x_aload_n hC dX8_reckon_77 rfl 1 rfl ?_
          obtain ⟨x9, M10, q11, hr⟩ := bd2_s hr
          refine x_callV (ci := 3) (q := (RX8, TX8, 5)) (As := []) hC (c_X8_pop l G M6 hi0 q11) kc_yX8_pop km_X8_85 ki_yX8_pop kv_yX8_pop kn_RX8 ky_yX8_pop rfl ⟨rfl, rfl⟩ ⟨(Nat.le_of_ble_eq_true rfl), (Nat.le_of_ble_eq_true rfl)⟩ hi0 (by decide) rfl rfl (Nat.le_of_ble_eq_true rfl) ⟨(Nat.le_of_ble_eq_true rfl), (Nat.le_of_ble_eq_true rfl)⟩ dX8_reckon_78 (fun b12 => ?_)
          refine x_istore hC [(4, .int x9), (3, .int x5), (0, .ref (G.2.1 i0)), (1, .int a1), (2, .int a2)] dX8_reckon_81  (Nat.le_of_ble_eq_true rfl) rfl ?_
          refine x_aload_n hC dX8_reckon_83 rfl 2 rfl ?_
          refine x_iload_n hC dX8_reckon_84 rfl 3 rfl ?_
          refine x_iload hC dX8_reckon_85 0 rfl ?_
          refine x_iload_n hC dX8_reckon_87 rfl 1 rfl ?_
          obtain ⟨x13, q14, hr⟩ := bd1_s hr
          refine x_callS (As := [.int a1, .int x9, .int x5]) hC (c_X8_join l G M10 a1 x9 x5 q14) kc_yX8_join km_X8_88 kt_yX8_join kn_RX8 ky_yX8_join rfl ⟨rfl, rfl⟩ ⟨(Nat.le_of_ble_eq_true rfl), (Nat.le_of_ble_eq_true rfl)⟩ rfl (Nat.le_of_ble_eq_true rfl) ⟨(Nat.le_of_ble_eq_true rfl), (Nat.le_of_ble_eq_true rfl)⟩ dX8_reckon_88 (fun b15 => ?_)
          obtain ⟨M16, q17, hr⟩ := bd1_s hr
          refine x_callV (ci := 3) (q := (RX8, TX8, 5)) (As := [.int x13]) hC (c_X8_push l G M10 hi0 x13 q17) kc_yX8_push km_X8_77 ki_yX8_push kv_yX8_push kn_RX8 ky_yX8_push rfl ⟨rfl, rfl⟩ ⟨(Nat.le_of_ble_eq_true rfl), (Nat.le_of_ble_eq_true rfl)⟩ hi0 (by decide) rfl rfl (Nat.le_of_ble_eq_true rfl) ⟨(Nat.le_of_ble_eq_true rfl), (Nat.le_of_ble_eq_true rfl)⟩ dX8_reckon_91 (fun b18 => ?_)
          cases hr
          exact x_vret hC rfl dX8_reckon_94
        · have hr := (ie_s hr).1 h4
          refine x_aload_n hC dX8_reckon_53 rfl 0 rfl ?_
          refine x_aload_n hC dX8_reckon_54 rfl 0 rfl ?_
          obtain ⟨x19, M20, q21, hr⟩ := bd2_s hr
          refine x_callV (ci := 3) (q := (RX8, TX8, 5)) (As := []) hC (c_X8_pop l G M hi0 q21) kc_yX8_pop km_X8_85 ki_yX8_pop kv_yX8_pop kn_RX8 ky_yX8_pop rfl ⟨rfl, rfl⟩ ⟨(Nat.le_of_ble_eq_true rfl), (Nat.le_of_ble_eq_true rfl)⟩ hi0 (by decide) rfl rfl (Nat.le_of_ble_eq_true rfl) ⟨(Nat.le_of_ble_eq_true rfl), (Nat.le_of_ble_eq_true rfl)⟩ dX8_reckon_55 (fun b22 => ?_)
          obtain ⟨x25, e26, hr⟩ := lz_s hr
          have q23 := e26.symm
          refine x_joinB (P := (x25 = 0 ∨ x25 = 1)) (M' := M20) (pc' := 66) (lv' := []) (st' := [.int x25, .ref (G.2.1 i0)]) ?_ ?_
          · intro b27
            obtain ⟨M28, q29, hr⟩ := bd1_s hr
            refine x_callV (ci := 3) (q := (RX8, TX8, 5)) (As := [.int x25]) hC (c_X8_push l G M20 hi0 x25 q29) kc_yX8_push km_X8_77 ki_yX8_push kv_yX8_push kn_RX8 ky_yX8_push rfl ⟨rfl, rfl⟩ ⟨(Nat.le_of_ble_eq_true rfl), (Nat.le_of_ble_eq_true rfl)⟩ hi0 (by decide) rfl rfl (Nat.le_of_ble_eq_true rfl) ⟨(Nat.le_of_ble_eq_true rfl), (Nat.le_of_ble_eq_true rfl)⟩ dX8_reckon_66 (fun b30 => ?_)
            refine x_goto hC 94 dX8_reckon_69 (by decide) ?_
            cases hr
            exact x_vret hC rfl dX8_reckon_94
          · intro kj
            refine x_if_ne hC 65 dX8_reckon_58 (by decide) (fun h24 => ?_) (fun h24 => ?_)
            · have q23 := (ie_s q23).2 h24
              refine x_iconst hC (0 : Int32) dX8_reckon_65 (by decide) ?_
              subst q23
              exact x_sub [] rfl (kj (Or.inl rfl))
            · have q23 := (ie_s q23).1 h24
              refine x_iconst hC (1 : Int32) dX8_reckon_61 (by decide) ?_
              refine x_goto hC 66 dX8_reckon_62 (by decide) ?_
              subst q23
              exact x_sub [] rfl (kj (Or.inr rfl))
      · have hr := (ie_s hr).1 h3
        refine x_aload_n hC dX8_reckon_35 rfl 0 rfl ?_
        refine x_aload_n hC dX8_reckon_36 rfl 0 rfl ?_
        obtain ⟨x31, M32, q33, hr⟩ := bd2_s hr
        refine x_callV (ci := 3) (q := (RX8, TX8, 5)) (As := []) hC (c_X8_pop l G M hi0 q33) kc_yX8_pop km_X8_85 ki_yX8_pop kv_yX8_pop kn_RX8 ky_yX8_pop rfl ⟨rfl, rfl⟩ ⟨(Nat.le_of_ble_eq_true rfl), (Nat.le_of_ble_eq_true rfl)⟩ hi0 (by decide) rfl rfl (Nat.le_of_ble_eq_true rfl) ⟨(Nat.le_of_ble_eq_true rfl), (Nat.le_of_ble_eq_true rfl)⟩ dX8_reckon_37 (fun b34 => ?_)
        refine x_ineg hC dX8_reckon_40 ?_
        obtain ⟨M35, q36, hr⟩ := bd1_s hr
        refine x_callV (ci := 3) (q := (RX8, TX8, 5)) (As := [.int (-x31)]) hC (c_X8_push l G M32 hi0 (-x31) q36) kc_yX8_push km_X8_77 ki_yX8_push kv_yX8_push kn_RX8 ky_yX8_push rfl ⟨rfl, rfl⟩ ⟨(Nat.le_of_ble_eq_true rfl), (Nat.le_of_ble_eq_true rfl)⟩ hi0 (by decide) rfl rfl (Nat.le_of_ble_eq_true rfl) ⟨(Nat.le_of_ble_eq_true rfl), (Nat.le_of_ble_eq_true rfl)⟩ dX8_reckon_41 (fun b37 => ?_)
        refine x_goto hC 94 dX8_reckon_44 (by decide) ?_
        cases hr
        exact x_vret hC rfl dX8_reckon_94
    · have hr := (ie_s hr).2 h2
      refine x_aload_n hC dX8_reckon_18 rfl 0 rfl ?_
      refine x_aload_n hC dX8_reckon_19 rfl 0 rfl ?_
      refine x_iload_n hC dX8_reckon_20 rfl 1 rfl ?_
      obtain ⟨x38, q39, hr⟩ := bd1_s hr
      refine x_callV (ci := 3) (q := (RX8, TX8, 5)) (As := [.int a1]) hC (c_X8_read l G M hi0 a1 q39) kc_yX8_read km_X8_81 ki_yX8_read kv_yX8_read kn_RX8 ky_yX8_read rfl ⟨rfl, rfl⟩ ⟨(Nat.le_of_ble_eq_true rfl), (Nat.le_of_ble_eq_true rfl)⟩ hi0 (by decide) rfl rfl (Nat.le_of_ble_eq_true rfl) ⟨(Nat.le_of_ble_eq_true rfl), (Nat.le_of_ble_eq_true rfl)⟩ dX8_reckon_21 (fun b40 => ?_)
      obtain ⟨M41, q42, hr⟩ := bd1_s hr
      refine x_callV (ci := 3) (q := (RX8, TX8, 5)) (As := [.int x38]) hC (c_X8_push l G M hi0 x38 q42) kc_yX8_push km_X8_77 ki_yX8_push kv_yX8_push kn_RX8 ky_yX8_push rfl ⟨rfl, rfl⟩ ⟨(Nat.le_of_ble_eq_true rfl), (Nat.le_of_ble_eq_true rfl)⟩ hi0 (by decide) rfl rfl (Nat.le_of_ble_eq_true rfl) ⟨(Nat.le_of_ble_eq_true rfl), (Nat.le_of_ble_eq_true rfl)⟩ dX8_reckon_24 (fun b43 => ?_)
      refine x_goto hC 94 dX8_reckon_27 (by decide) ?_
      cases hr
      exact x_vret hC rfl dX8_reckon_94
  · have hr := (ie_s hr).1 h1
    refine x_aload_n hC dX8_reckon_4 rfl 0 rfl ?_
    refine x_iload_n hC dX8_reckon_5 rfl 2 rfl ?_
    obtain ⟨M44, q45, hr⟩ := bd1_s hr
    refine x_callV (ci := 3) (q := (RX8, TX8, 5)) (As := [.int a2]) hC (c_X8_push l G M hi0 a2 q45) kc_yX8_push km_X8_77 ki_yX8_push kv_yX8_push kn_RX8 ky_yX8_push rfl ⟨rfl, rfl⟩ ⟨(Nat.le_of_ble_eq_true rfl), (Nat.le_of_ble_eq_true rfl)⟩ hi0 (by decide) rfl rfl (Nat.le_of_ble_eq_true rfl) ⟨(Nat.le_of_ble_eq_true rfl), (Nat.le_of_ble_eq_true rfl)⟩ dX8_reckon_6 (fun b46 => ?_)
    refine x_goto hC 94 dX8_reckon_9 (by decide) ?_
    cases hr
    exact x_vret hC rfl dX8_reckon_94

theorem dX8_reckonSums_0 : decode cX8_reckonSums 0 = .ok (.aload_n 0, 1) := by decide +kernel
theorem dX8_reckonSums_1 : decode cX8_reckonSums 1 = .ok (.iconst 0, 1) := by decide +kernel
theorem dX8_reckonSums_2 : decode cX8_reckonSums 2 = .ok (.putfield 15, 3) := by decide +kernel
theorem dX8_reckonSums_5 : decode cX8_reckonSums 5 = .ok (.aload_n 0, 1) := by decide +kernel
theorem dX8_reckonSums_6 : decode cX8_reckonSums 6 = .ok (.getfield 32, 3) := by decide +kernel
theorem dX8_reckonSums_9 : decode cX8_reckonSums 9 = .ok (.getfield 53, 3) := by decide +kernel
theorem dX8_reckonSums_12 : decode cX8_reckonSums 12 = .ok (.istore_n 1, 1) := by decide +kernel
theorem dX8_reckonSums_13 : decode cX8_reckonSums 13 = .ok (.iload_n 1, 1) := by decide +kernel
theorem dX8_reckonSums_14 : decode cX8_reckonSums 14 = .ok (.aload_n 0, 1) := by decide +kernel
theorem dX8_reckonSums_15 : decode cX8_reckonSums 15 = .ok (.getfield 22, 3) := by decide +kernel
theorem dX8_reckonSums_18 : decode cX8_reckonSums 18 = .ok (.getfield 56, 3) := by decide +kernel
theorem dX8_reckonSums_21 : decode cX8_reckonSums 21 = .ok (.getfield 60, 3) := by decide +kernel
theorem dX8_reckonSums_24 : decode cX8_reckonSums 24 = .ok (.if_icmp .ge 54, 3) := by decide +kernel
theorem dX8_reckonSums_27 : decode cX8_reckonSums 27 = .ok (.aload_n 0, 1) := by decide +kernel
theorem dX8_reckonSums_28 : decode cX8_reckonSums 28 = .ok (.getfield 22, 3) := by decide +kernel
theorem dX8_reckonSums_31 : decode cX8_reckonSums 31 = .ok (.getfield 56, 3) := by decide +kernel
theorem dX8_reckonSums_34 : decode cX8_reckonSums 34 = .ok (.getfield 65, 3) := by decide +kernel
theorem dX8_reckonSums_37 : decode cX8_reckonSums 37 = .ok (.iload_n 1, 1) := by decide +kernel
theorem dX8_reckonSums_38 : decode cX8_reckonSums 38 = .ok (.iaload, 1) := by decide +kernel
theorem dX8_reckonSums_39 : decode cX8_reckonSums 39 = .ok (.bipush 28, 2) := by decide +kernel
theorem dX8_reckonSums_41 : decode cX8_reckonSums 41 = .ok (.if_icmp .gt 37, 3) := by decide +kernel
theorem dX8_reckonSums_44 : decode cX8_reckonSums 44 = .ok (.aload_n 0, 1) := by decide +kernel
theorem dX8_reckonSums_45 : decode cX8_reckonSums 45 = .ok (.aload_n 0, 1) := by decide +kernel
theorem dX8_reckonSums_46 : decode cX8_reckonSums 46 = .ok (.getfield 22, 3) := by decide +kernel
theorem dX8_reckonSums_49 : decode cX8_reckonSums 49 = .ok (.getfield 56, 3) := by decide +kernel
theorem dX8_reckonSums_52 : decode cX8_reckonSums 52 = .ok (.getfield 65, 3) := by decide +kernel
theorem dX8_reckonSums_55 : decode cX8_reckonSums 55 = .ok (.iload_n 1, 1) := by decide +kernel
theorem dX8_reckonSums_56 : decode cX8_reckonSums 56 = .ok (.iaload, 1) := by decide +kernel
theorem dX8_reckonSums_57 : decode cX8_reckonSums 57 = .ok (.aload_n 0, 1) := by decide +kernel
theorem dX8_reckonSums_58 : decode cX8_reckonSums 58 = .ok (.getfield 22, 3) := by decide +kernel
theorem dX8_reckonSums_61 : decode cX8_reckonSums 61 = .ok (.getfield 56, 3) := by decide +kernel
theorem dX8_reckonSums_64 : decode cX8_reckonSums 64 = .ok (.getfield 70, 3) := by decide +kernel
theorem dX8_reckonSums_67 : decode cX8_reckonSums 67 = .ok (.iload_n 1, 1) := by decide +kernel
theorem dX8_reckonSums_68 : decode cX8_reckonSums 68 = .ok (.iaload, 1) := by decide +kernel
theorem dX8_reckonSums_69 : decode cX8_reckonSums 69 = .ok (.invokevirtual 73, 3) := by decide +kernel
theorem dX8_reckonSums_72 : decode cX8_reckonSums 72 = .ok (.iinc 1 1, 3) := by decide +kernel
theorem dX8_reckonSums_75 : decode cX8_reckonSums 75 = .ok (.goto (-62), 3) := by decide +kernel
theorem dX8_reckonSums_78 : decode cX8_reckonSums 78 = .ok (.iload_n 1, 1) := by decide +kernel
theorem dX8_reckonSums_79 : decode cX8_reckonSums 79 = .ok (.ireturn, 1) := by decide +kernel
def f_X8_reckonSums_L13 (i0 : Nat) : Nat → Int32 → Mm → Option (Int32 × Mm)
  | 0, _, _ => none
  | n + 1, v1, M =>
    if okr 2 (M (wbog i0) 16) then (if ((M (rid (M (wbog i0) 16)) 2) ≤ v1) then (some (v1, M)) else (if okr 2 (M (wbog i0) 16) then (if 0 ≤ v1.toInt ∧ v1.toInt < ((800 : Nat) : Int) then (if ((28 : Int32) < (M ((rid (M (wbog i0) 16)) + 1) (ix v1))) then (some (v1, M)) else (if okr 2 (M (wbog i0) 16) then (if 0 ≤ v1.toInt ∧ v1.toInt < ((800 : Nat) : Int) then (if okr 2 (M (wbog i0) 16) then (if 0 ≤ v1.toInt ∧ v1.toInt < ((800 : Nat) : Int) then (bd1 (f_X8_reckon i0 (M ((rid (M (wbog i0) 16)) + 1) (ix v1)) (M ((rid (M (wbog i0) 16)) + 2) (ix v1)) M) fun M13 => lz (v1 + (1 : Int32)) fun x16 => f_X8_reckonSums_L13 i0 n x16 M13) else none) else none) else none) else none)) else none) else none)) else none
def f_X8_reckonSums (i0 : Nat) (M : Mm) : Option (Int32 × Mm) :=
  lz (wr M i0 3 (0 : Int32)) fun M1 => if okr 1 (M1 i0 1) then (bd2 (f_X8_reckonSums_L13 i0 FU (M1 (rid (M1 i0 1)) 9) M1) fun x19 M20 => some (x19, M20)) else none
set_option maxHeartbeats 4000000 in
set_option maxRecDepth 100000 in
theorem l_X8_reckonSums_L13 {p : Program} {e : Env} {s : State} {m : MethodId} {args : Array Value} {below : List Frame} {meth : Method} {c : Code} {l : Launch} {G : GG} {Q : State → Prop} (hC : CX p s m args meth c cX8_reckonSums 2 RX8 (some .int) G) {i0 : Nat} (hi0 : (kd i0).1 = 3) : ∀ (n : Nat) (v1 : Int32) (M : Mm) {o1 : Int32} {M2 : Mm} (hr : f_X8_reckonSums_L13 i0 n v1 M = some (o1, M2)) (K : XJ p l e (RM 3 0 0 86) s m args below meth c G 2 Q 0 0 M2 78 [(1, .int o1)] []), XJ p l e (RM 3 0 0 86) s m args below meth c G 2 Q 0 0 M 13 [(0, .ref (G.2.1 i0)), (1, .int v1)] [] := by
  intro n
  induction n with
  | zero => intro v1 M o1 M2 hr K; rw [f_X8_reckonSums_L13] at hr; cases hr
  | succ n ih =>
    intro v1 M o1 M2 hr K
    rw [f_X8_reckonSums_L13] at hr
    refine x_iload_n hC dX8_reckonSums_13 rfl 1 rfl ?_
    refine x_aload_n hC dX8_reckonSums_14 rfl 0 rfl ?_
    refine gf_X8_22 hC hi0 dX8_reckonSums_15 ?_
    obtain ⟨h4, hr⟩ := it_s hr
    refine gf_X8_56 hC (kr_3_0 hi0) h4 dX8_reckonSums_18 ?_
    refine gf_X8_60 hC h4.2 dX8_reckonSums_21 ?_
    refine x_icmp_ge hC 78 dX8_reckonSums_24 (by decide) (fun h5 => ?_) (fun h5 => ?_)
    · have hr := (ie_s hr).1 h5
      cases hr
      exact x_sub [1] rfl K
    · have hr := (ie_s hr).2 h5
      refine x_aload_n hC dX8_reckonSums_27 rfl 0 rfl ?_
      refine gf_X8_22 hC hi0 dX8_reckonSums_28 ?_
      obtain ⟨h6, hr⟩ := it_s hr
      refine gf_X8_56 hC (kr_3_0 hi0) h6 dX8_reckonSums_31 ?_
      refine gf_X8_65 hC h6.2 dX8_reckonSums_34 ?_
      refine x_iload_n hC dX8_reckonSums_37 rfl 1 rfl ?_
      obtain ⟨h7, hr⟩ := it_s hr
      refine x_iald hC (kr_2_0 h6.2) h7 dX8_reckonSums_38 ?_
      refine x_bipush hC (28 : Int32) dX8_reckonSums_39 (by decide) ?_
      refine x_icmp_gt hC 78 dX8_reckonSums_41 (by decide) (fun h8 => ?_) (fun h8 => ?_)
      · have hr := (ie_s hr).1 h8
        cases hr
        exact x_sub [1] rfl K
      · have hr := (ie_s hr).2 h8
        refine x_aload_n hC dX8_reckonSums_44 rfl 0 rfl ?_
        refine x_aload_n hC dX8_reckonSums_45 rfl 0 rfl ?_
        refine gf_X8_22 hC hi0 dX8_reckonSums_46 ?_
        obtain ⟨h9, hr⟩ := it_s hr
        refine gf_X8_56 hC (kr_3_0 hi0) h9 dX8_reckonSums_49 ?_
        refine gf_X8_65 hC h9.2 dX8_reckonSums_52 ?_
        refine x_iload_n hC dX8_reckonSums_55 rfl 1 rfl ?_
        obtain ⟨h10, hr⟩ := it_s hr
        refine x_iald hC (kr_2_0 h9.2) h10 dX8_reckonSums_56 ?_
        refine x_aload_n hC dX8_reckonSums_57 rfl 0 rfl ?_
        refine gf_X8_22 hC hi0 dX8_reckonSums_58 ?_
        obtain ⟨h11, hr⟩ := it_s hr
        refine gf_X8_56 hC (kr_3_0 hi0) h11 dX8_reckonSums_61 ?_
        refine gf_X8_70 hC h11.2 dX8_reckonSums_64 ?_
        refine x_iload_n hC dX8_reckonSums_67 rfl 1 rfl ?_
        obtain ⟨h12, hr⟩ := it_s hr
        refine x_iald hC (kr_2_1 h11.2) h12 dX8_reckonSums_68 ?_
        obtain ⟨M13, q14, hr⟩ := bd1_s hr
        refine x_callV (ci := 3) (q := (RX8, TX8, 5)) (As := [.int (M ((rid (M (wbog i0) 16)) + 1) (ix v1)), .int (M ((rid (M (wbog i0) 16)) + 2) (ix v1))]) hC (c_X8_reckon l G M hi0 (M ((rid (M (wbog i0) 16)) + 1) (ix v1)) (M ((rid (M (wbog i0) 16)) + 2) (ix v1)) q14) kc_yX8_reckon km_X8_73 ki_yX8_reckon kv_yX8_reckon kn_RX8 ky_yX8_reckon rfl ⟨rfl, rfl⟩ ⟨(Nat.le_of_ble_eq_true rfl), (Nat.le_of_ble_eq_true rfl)⟩ hi0 (by decide) rfl rfl (Nat.le_of_ble_eq_true rfl) ⟨(Nat.le_of_ble_eq_true rfl), (Nat.le_of_ble_eq_true rfl)⟩ dX8_reckonSums_69 (fun b15 => ?_)
        obtain ⟨x16, e17, hr⟩ := lz_s hr
        refine x_iinc hC [(1, .int x16), (0, .ref (G.2.1 i0))] dX8_reckonSums_72 1 rfl (by rw [e17]; rfl) (Nat.le_of_ble_eq_true rfl) rfl ?_
        refine x_goto hC 13 dX8_reckonSums_75 (by decide) ?_
        exact x_sub [1, 0] rfl (ih x16 M13 hr K)
set_option maxHeartbeats 4000000 in
set_option maxRecDepth 100000 in
theorem c_X8_reckonSums (l : Launch) (G : GG) (M : Mm) {i0 : Nat} (hi0 : (kd i0).1 = 3) {r : Int32} {M9 : Mm} (hr : f_X8_reckonSums i0 M = some (r, M9)) : Mo false l yX8_reckonSums (WS yX8_reckonSums cX8_reckonSums 2 (some .int)) (RM 3 0 0 86) 0 0 [.ref (G.2.1 i0)] G M (some (.int r)) M9 := by
  refine Mo.of (by decide +kernel) (Nat.le_of_ble_eq_true rfl) ?_
  intro p e s m args below meth c hC
  have hC : CX p s m args meth c cX8_reckonSums 2 RX8 (some .int) G := hC
  rw [f_X8_reckonSums] at hr
  show XJ p l e (RM 3 0 0 86) s m args below meth c G 2 _ 0 0 M 0 [(0, .ref (G.2.1 i0))] []
  refine x_aload_n hC dX8_reckonSums_0 rfl 0 rfl ?_
  refine x_iconst hC (0 : Int32) dX8_reckonSums_1 (by decide) ?_
  obtain ⟨M1, e2, hr⟩ := lz_s hr
  refine pf_X8_15 hC hi0 e2 dX8_reckonSums_2 ?_
  refine x_aload_n hC dX8_reckonSums_5 rfl 0 rfl ?_
  obtain ⟨h3, hr⟩ := it_s hr
  refine gf_X8_32 hC hi0 h3 dX8_reckonSums_6 ?_
  refine gf_X8_53 hC h3.2 dX8_reckonSums_9 ?_
  refine x_istore_n hC [(1, .int (M1 (rid (M1 i0 1)) 9)), (0, .ref (G.2.1 i0))] dX8_reckonSums_12 rfl (Nat.le_of_ble_eq_true rfl) rfl ?_
  obtain ⟨x19, M20, q18, hr⟩ := bd2_s hr
  refine x_sub [1, 0] rfl (l_X8_reckonSums_L13 hC hi0 FU  (M1 (rid (M1 i0 1)) 9) M1 q18 ?_)
  refine x_iload_n hC dX8_reckonSums_78 rfl 0 rfl ?_
  cases hr
  exact x_iret hC rfl dX8_reckonSums_79

theorem dX8_isHourOver_0 : decode cX8_isHourOver 0 = .ok (.aload_n 0, 1) := by decide +kernel
theorem dX8_isHourOver_1 : decode cX8_isHourOver 1 = .ok (.getfield 19, 3) := by decide +kernel
theorem dX8_isHourOver_4 : decode cX8_isHourOver 4 = .ok (.bipush 50, 2) := by decide +kernel
theorem dX8_isHourOver_6 : decode cX8_isHourOver 6 = .ok (.if_icmp .lt 18, 3) := by decide +kernel
theorem dX8_isHourOver_9 : decode cX8_isHourOver 9 = .ok (.aload_n 0, 1) := by decide +kernel
theorem dX8_isHourOver_10 : decode cX8_isHourOver 10 = .ok (.getfield 32, 3) := by decide +kernel
theorem dX8_isHourOver_13 : decode cX8_isHourOver 13 = .ok (.dup, 1) := by decide +kernel
theorem dX8_isHourOver_14 : decode cX8_isHourOver 14 = .ok (.getfield 181, 3) := by decide +kernel
theorem dX8_isHourOver_17 : decode cX8_isHourOver 17 = .ok (.iconst 1, 1) := by decide +kernel
theorem dX8_isHourOver_18 : decode cX8_isHourOver 18 = .ok (.iadd, 1) := by decide +kernel
theorem dX8_isHourOver_19 : decode cX8_isHourOver 19 = .ok (.putfield 181, 3) := by decide +kernel
theorem dX8_isHourOver_22 : decode cX8_isHourOver 22 = .ok (.iconst 1, 1) := by decide +kernel
theorem dX8_isHourOver_23 : decode cX8_isHourOver 23 = .ok (.ireturn, 1) := by decide +kernel
theorem dX8_isHourOver_24 : decode cX8_isHourOver 24 = .ok (.aload_n 0, 1) := by decide +kernel
theorem dX8_isHourOver_25 : decode cX8_isHourOver 25 = .ok (.dup, 1) := by decide +kernel
theorem dX8_isHourOver_26 : decode cX8_isHourOver 26 = .ok (.getfield 19, 3) := by decide +kernel
theorem dX8_isHourOver_29 : decode cX8_isHourOver 29 = .ok (.iconst 1, 1) := by decide +kernel
theorem dX8_isHourOver_30 : decode cX8_isHourOver 30 = .ok (.iadd, 1) := by decide +kernel
theorem dX8_isHourOver_31 : decode cX8_isHourOver 31 = .ok (.putfield 19, 3) := by decide +kernel
theorem dX8_isHourOver_34 : decode cX8_isHourOver 34 = .ok (.iconst 0, 1) := by decide +kernel
theorem dX8_isHourOver_35 : decode cX8_isHourOver 35 = .ok (.ireturn, 1) := by decide +kernel

def f_X8_isHourOver (i0 : Nat) (M : Mm) : Option (Int32 × Mm) :=
  if ((M i0 4) < (50 : Int32)) then (lz (wr M i0 4 ((M i0 4) + (1 : Int32))) fun M2 => some ((0 : Int32), M2)) else (if okr 1 (M i0 1) then (lz (wr M (rid (M i0 1)) 5 ((M (rid (M i0 1)) 5) + (1 : Int32))) fun M5 => some ((1 : Int32), M5)) else none)

set_option maxHeartbeats 4000000 in
set_option maxRecDepth 100000 in
theorem c_X8_isHourOver (l : Launch) (G : GG) (M : Mm) {i0 : Nat} (hi0 : (kd i0).1 = 3) {r : Int32} {M9 : Mm} (hr : f_X8_isHourOver i0 M = some (r, M9)) : Mo true l yX8_isHourOver (WS yX8_isHourOver cX8_isHourOver 1 (some .boolean)) (RM 0 0 0 0) 0 0 [.ref (G.2.1 i0)] G M (some (.int r)) M9 := by
  refine Mo.of (by decide +kernel) (Nat.le_of_ble_eq_true rfl) ?_
  intro p e s m args below meth c hC
  have hC : CX p s m args meth c cX8_isHourOver 1 RX8 (some .boolean) G := hC
  rw [f_X8_isHourOver] at hr
  show XJ p l e (RM 0 0 0 0) s m args below meth c G 1 _ 0 0 M 0 [(0, .ref (G.2.1 i0))] []
  refine x_aload_n hC dX8_isHourOver_0 rfl 0 rfl ?_
  refine gf_X8_19 hC hi0 dX8_isHourOver_1 ?_
  refine x_bipush hC (50 : Int32) dX8_isHourOver_4 (by decide) ?_
  refine x_icmp_lt hC 24 dX8_isHourOver_6 (by decide) (fun h1 => ?_) (fun h1 => ?_)
  · have hr := (ie_s hr).1 h1
    refine x_aload_n hC dX8_isHourOver_24 rfl 0 rfl ?_
    refine x_dup hC dX8_isHourOver_25 rfl ?_
    refine gf_X8_19 hC hi0 dX8_isHourOver_26 ?_
    refine x_iconst hC (1 : Int32) dX8_isHourOver_29 (by decide) ?_
    refine x_iadd hC dX8_isHourOver_30 ?_
    obtain ⟨M2, e3, hr⟩ := lz_s hr
    refine pf_X8_19 hC hi0 e3 dX8_isHourOver_31 ?_
    refine x_iconst hC (0 : Int32) dX8_isHourOver_34 (by decide) ?_
    cases hr
    exact x_zret hC rfl (Or.inl rfl) dX8_isHourOver_35
  · have hr := (ie_s hr).2 h1
    refine x_aload_n hC dX8_isHourOver_9 rfl 0 rfl ?_
    obtain ⟨h4, hr⟩ := it_s hr
    refine gf_X8_32 hC hi0 h4 dX8_isHourOver_10 ?_
    refine x_dup hC dX8_isHourOver_13 rfl ?_
    refine gf_X8_181 hC h4.2 dX8_isHourOver_14 ?_
    refine x_iconst hC (1 : Int32) dX8_isHourOver_17 (by decide) ?_
    refine x_iadd hC dX8_isHourOver_18 ?_
    obtain ⟨M5, e6, hr⟩ := lz_s hr
    refine pf_X8_181 hC h4.2 e6 dX8_isHourOver_19 ?_
    refine x_iconst hC (1 : Int32) dX8_isHourOver_22 (by decide) ?_
    cases hr
    exact x_zret hC rfl (Or.inr rfl) dX8_isHourOver_23

theorem dX8_go_0 : decode cX8_go 0 = .ok (.aload_n 0, 1) := by decide +kernel
theorem dX8_go_1 : decode cX8_go 1 = .ok (.invokevirtual 85, 3) := by decide +kernel
theorem dX8_go_4 : decode cX8_go 4 = .ok (.istore_n 2, 1) := by decide +kernel
theorem dX8_go_5 : decode cX8_go 5 = .ok (.aload_n 0, 1) := by decide +kernel
theorem dX8_go_6 : decode cX8_go 6 = .ok (.invokevirtual 85, 3) := by decide +kernel
theorem dX8_go_9 : decode cX8_go 9 = .ok (.istore_n 3, 1) := by decide +kernel
theorem dX8_go_10 : decode cX8_go 10 = .ok (.iload_n 3, 1) := by decide +kernel
theorem dX8_go_11 : decode cX8_go 11 = .ok (.iload_n 2, 1) := by decide +kernel
theorem dX8_go_12 : decode cX8_go 12 = .ok (.invokestatic 191, 3) := by decide +kernel
theorem dX8_go_15 : decode cX8_go 15 = .ok (.ifCond .ne 28, 3) := by decide +kernel
theorem dX8_go_18 : decode cX8_go 18 = .ok (.aload_n 0, 1) := by decide +kernel
theorem dX8_go_19 : decode cX8_go 19 = .ok (.getfield 32, 3) := by decide +kernel
theorem dX8_go_22 : decode cX8_go 22 = .ok (.dup, 1) := by decide +kernel
theorem dX8_go_23 : decode cX8_go 23 = .ok (.getfield 194, 3) := by decide +kernel
theorem dX8_go_26 : decode cX8_go 26 = .ok (.iconst 1, 1) := by decide +kernel
theorem dX8_go_27 : decode cX8_go 27 = .ok (.iadd, 1) := by decide +kernel
theorem dX8_go_28 : decode cX8_go 28 = .ok (.putfield 194, 3) := by decide +kernel
theorem dX8_go_31 : decode cX8_go 31 = .ok (.aload_n 0, 1) := by decide +kernel
theorem dX8_go_32 : decode cX8_go 32 = .ok (.getfield 32, 3) := by decide +kernel
theorem dX8_go_35 : decode cX8_go 35 = .ok (.iload_n 1, 1) := by decide +kernel
theorem dX8_go_36 : decode cX8_go 36 = .ok (.iconst 1, 1) := by decide +kernel
theorem dX8_go_37 : decode cX8_go 37 = .ok (.iadd, 1) := by decide +kernel
theorem dX8_go_38 : decode cX8_go 38 = .ok (.putfield 53, 3) := by decide +kernel
theorem dX8_go_41 : decode cX8_go 41 = .ok (.iconst 1, 1) := by decide +kernel
theorem dX8_go_42 : decode cX8_go 42 = .ok (.ireturn, 1) := by decide +kernel
theorem dX8_go_43 : decode cX8_go 43 = .ok (.iload_n 3, 1) := by decide +kernel
theorem dX8_go_44 : decode cX8_go 44 = .ok (.aload_n 0, 1) := by decide +kernel
theorem dX8_go_45 : decode cX8_go 45 = .ok (.getfield 32, 3) := by decide +kernel
theorem dX8_go_48 : decode cX8_go 48 = .ok (.getfield 92, 3) := by decide +kernel
theorem dX8_go_51 : decode cX8_go 51 = .ok (.if_icmp .ne 35, 3) := by decide +kernel
theorem dX8_go_54 : decode cX8_go 54 = .ok (.iload_n 2, 1) := by decide +kernel
theorem dX8_go_55 : decode cX8_go 55 = .ok (.aload_n 0, 1) := by decide +kernel
theorem dX8_go_56 : decode cX8_go 56 = .ok (.getfield 32, 3) := by decide +kernel
theorem dX8_go_59 : decode cX8_go 59 = .ok (.getfield 95, 3) := by decide +kernel
theorem dX8_go_62 : decode cX8_go 62 = .ok (.if_icmp .ne 24, 3) := by decide +kernel
theorem dX8_go_65 : decode cX8_go 65 = .ok (.aload_n 0, 1) := by decide +kernel
theorem dX8_go_66 : decode cX8_go 66 = .ok (.invokevirtual 184, 3) := by decide +kernel
theorem dX8_go_69 : decode cX8_go 69 = .ok (.ifCond .eq 5, 3) := by decide +kernel
theorem dX8_go_72 : decode cX8_go 72 = .ok (.iconst 1, 1) := by decide +kernel
theorem dX8_go_73 : decode cX8_go 73 = .ok (.ireturn, 1) := by decide +kernel
theorem dX8_go_74 : decode cX8_go 74 = .ok (.aload_n 0, 1) := by decide +kernel
theorem dX8_go_75 : decode cX8_go 75 = .ok (.getfield 32, 3) := by decide +kernel
theorem dX8_go_78 : decode cX8_go 78 = .ok (.iload_n 1, 1) := by decide +kernel
theorem dX8_go_79 : decode cX8_go 79 = .ok (.iconst 1, 1) := by decide +kernel
theorem dX8_go_80 : decode cX8_go 80 = .ok (.iadd, 1) := by decide +kernel
theorem dX8_go_81 : decode cX8_go 81 = .ok (.putfield 53, 3) := by decide +kernel
theorem dX8_go_84 : decode cX8_go 84 = .ok (.iconst 0, 1) := by decide +kernel
theorem dX8_go_85 : decode cX8_go 85 = .ok (.ireturn, 1) := by decide +kernel
theorem dX8_go_86 : decode cX8_go 86 = .ok (.aload_n 0, 1) := by decide +kernel
theorem dX8_go_87 : decode cX8_go 87 = .ok (.getfield 32, 3) := by decide +kernel
theorem dX8_go_90 : decode cX8_go 90 = .ok (.getfield 92, 3) := by decide +kernel
theorem dX8_go_93 : decode cX8_go 93 = .ok (.iload_n 3, 1) := by decide +kernel
theorem dX8_go_94 : decode cX8_go 94 = .ok (.aload_n 0, 1) := by decide +kernel
theorem dX8_go_95 : decode cX8_go 95 = .ok (.getfield 32, 3) := by decide +kernel
theorem dX8_go_98 : decode cX8_go 98 = .ok (.getfield 92, 3) := by decide +kernel
theorem dX8_go_101 : decode cX8_go 101 = .ok (.invokestatic 197, 3) := by decide +kernel
theorem dX8_go_104 : decode cX8_go 104 = .ok (.iadd, 1) := by decide +kernel
theorem dX8_go_105 : decode cX8_go 105 = .ok (.istore 4, 2) := by decide +kernel
theorem dX8_go_107 : decode cX8_go 107 = .ok (.iload_n 3, 1) := by decide +kernel
theorem dX8_go_108 : decode cX8_go 108 = .ok (.aload_n 0, 1) := by decide +kernel
theorem dX8_go_109 : decode cX8_go 109 = .ok (.getfield 32, 3) := by decide +kernel
theorem dX8_go_112 : decode cX8_go 112 = .ok (.getfield 92, 3) := by decide +kernel
theorem dX8_go_115 : decode cX8_go 115 = .ok (.if_icmp .ne 25, 3) := by decide +kernel
theorem dX8_go_118 : decode cX8_go 118 = .ok (.aload_n 0, 1) := by decide +kernel
theorem dX8_go_119 : decode cX8_go 119 = .ok (.getfield 32, 3) := by decide +kernel
theorem dX8_go_122 : decode cX8_go 122 = .ok (.getfield 95, 3) := by decide +kernel
theorem dX8_go_125 : decode cX8_go 125 = .ok (.iload_n 2, 1) := by decide +kernel
theorem dX8_go_126 : decode cX8_go 126 = .ok (.aload_n 0, 1) := by decide +kernel
theorem dX8_go_127 : decode cX8_go 127 = .ok (.getfield 32, 3) := by decide +kernel
theorem dX8_go_130 : decode cX8_go 130 = .ok (.getfield 95, 3) := by decide +kernel
theorem dX8_go_133 : decode cX8_go 133 = .ok (.invokestatic 197, 3) := by decide +kernel
theorem dX8_go_136 : decode cX8_go 136 = .ok (.iadd, 1) := by decide +kernel
theorem dX8_go_137 : decode cX8_go 137 = .ok (.goto 10, 3) := by decide +kernel
theorem dX8_go_140 : decode cX8_go 140 = .ok (.aload_n 0, 1) := by decide +kernel
theorem dX8_go_141 : decode cX8_go 141 = .ok (.getfield 32, 3) := by decide +kernel
theorem dX8_go_144 : decode cX8_go 144 = .ok (.getfield 95, 3) := by decide +kernel
theorem dX8_go_147 : decode cX8_go 147 = .ok (.istore 5, 2) := by decide +kernel
theorem dX8_go_149 : decode cX8_go 149 = .ok (.aload_n 0, 1) := by decide +kernel
theorem dX8_go_150 : decode cX8_go 150 = .ok (.getfield 22, 3) := by decide +kernel
theorem dX8_go_153 : decode cX8_go 153 = .ok (.getfield 111, 3) := by decide +kernel
theorem dX8_go_156 : decode cX8_go 156 = .ok (.iload 4, 2) := by decide +kernel
theorem dX8_go_158 : decode cX8_go 158 = .ok (.iload 5, 2) := by decide +kernel
theorem dX8_go_160 : decode cX8_go 160 = .ok (.invokestatic 98, 3) := by decide +kernel
theorem dX8_go_163 : decode cX8_go 163 = .ok (.iaload, 1) := by decide +kernel
theorem dX8_go_164 : decode cX8_go 164 = .ok (.bipush 9, 2) := by decide +kernel
theorem dX8_go_166 : decode cX8_go 166 = .ok (.if_icmp .ne 19, 3) := by decide +kernel
theorem dX8_go_169 : decode cX8_go 169 = .ok (.aload_n 0, 1) := by decide +kernel
theorem dX8_go_170 : decode cX8_go 170 = .ok (.getfield 32, 3) := by decide +kernel
theorem dX8_go_173 : decode cX8_go 173 = .ok (.dup, 1) := by decide +kernel
theorem dX8_go_174 : decode cX8_go 174 = .ok (.getfield 194, 3) := by decide +kernel
theorem dX8_go_177 : decode cX8_go 177 = .ok (.iconst 1, 1) := by decide +kernel
theorem dX8_go_178 : decode cX8_go 178 = .ok (.iadd, 1) := by decide +kernel
theorem dX8_go_179 : decode cX8_go 179 = .ok (.putfield 194, 3) := by decide +kernel
theorem dX8_go_182 : decode cX8_go 182 = .ok (.goto 21, 3) := by decide +kernel
theorem dX8_go_185 : decode cX8_go 185 = .ok (.aload_n 0, 1) := by decide +kernel
theorem dX8_go_186 : decode cX8_go 186 = .ok (.getfield 32, 3) := by decide +kernel
theorem dX8_go_189 : decode cX8_go 189 = .ok (.iload 4, 2) := by decide +kernel
theorem dX8_go_191 : decode cX8_go 191 = .ok (.putfield 92, 3) := by decide +kernel
theorem dX8_go_194 : decode cX8_go 194 = .ok (.aload_n 0, 1) := by decide +kernel
theorem dX8_go_195 : decode cX8_go 195 = .ok (.getfield 32, 3) := by decide +kernel
theorem dX8_go_198 : decode cX8_go 198 = .ok (.iload 5, 2) := by decide +kernel
theorem dX8_go_200 : decode cX8_go 200 = .ok (.putfield 95, 3) := by decide +kernel
theorem dX8_go_203 : decode cX8_go 203 = .ok (.iconst 1, 1) := by decide +kernel
theorem dX8_go_204 : decode cX8_go 204 = .ok (.ireturn, 1) := by decide +kernel

def f_X8_go (i0 : Nat) (a1 : Int32) (M : Mm) : Option (Int32 × Mm) :=
  bd2 (f_X8_pop i0 M) fun x1 M2 => bd2 (f_X8_pop i0 M2) fun x5 M6 => lz (f_X9_isCell x5 x1) fun x9 => if (x9 = 0) then (if okr 1 (M6 i0 1) then (lz (wr M6 (rid (M6 i0 1)) 6 ((M6 (rid (M6 i0 1)) 6) + (1 : Int32))) fun M92 => if okr 1 (M92 i0 1) then (lz (wr M92 (rid (M92 i0 1)) 9 (a1 + (1 : Int32))) fun M95 => some ((1 : Int32), M95)) else none) else none) else (if okr 1 (M6 i0 1) then (if (x5 = (M6 (rid (M6 i0 1)) 0)) then (if okr 1 (M6 i0 1) then (if (x1 = (M6 (rid (M6 i0 1)) 1)) then (bd2 (f_X8_isHourOver i0 M6) fun x83 M84 => if (x83 = 0) then (if okr 1 (M84 i0 1) then (lz (wr M84 (rid (M84 i0 1)) 9 (a1 + (1 : Int32))) fun M89 => some ((0 : Int32), M89)) else none) else (some ((1 : Int32), M84))) else (if okr 1 (M6 i0 1) then (if okr 1 (M6 i0 1) then (lz (f_J6_compare_7cf53 x5 (M6 (rid (M6 i0 1)) 0)) fun x52 => lz ((M6 (rid (M6 i0 1)) 0) + x52) fun x55 => if okr 1 (M6 i0 1) then (bd1 (if (x5 = (M6 (rid (M6 i0 1)) 0)) then (if okr 1 (M6 i0 1) then (if okr 1 (M6 i0 1) then (lz (f_J6_compare_7cf53 x1 (M6 (rid (M6 i0 1)) 1)) fun x63 => some (((M6 (rid (M6 i0 1)) 1) + x63))) else none) else none) else (if okr 1 (M6 i0 1) then (some ((M6 (rid (M6 i0 1)) 1))) else none)) fun x66 => lz (f_X9_cellAt x55 x66) fun x67 => if 0 ≤ x67.toInt ∧ x67.toInt < ((64 : Nat) : Int) then (bd1 (if ((M6 ((wbog i0) + 3) (ix x67)) = (9 : Int32)) then (if okr 1 (M6 i0 1) then (lz (wr M6 (rid (M6 i0 1)) 6 ((M6 (rid (M6 i0 1)) 6) + (1 : Int32))) fun M80 => some (M80)) else none) else (if okr 1 (M6 i0 1) then (lz (wr M6 (rid (M6 i0 1)) 0 x55) fun M74 => if okr 1 (M74 i0 1) then (lz (wr M74 (rid (M74 i0 1)) 1 x66) fun M77 => some (M77)) else none) else none)) fun M82 => some ((1 : Int32), M82)) else none) else none) else none) else none)) else none) else (if okr 1 (M6 i0 1) then (if okr 1 (M6 i0 1) then (lz (f_J6_compare_7cf53 x5 (M6 (rid (M6 i0 1)) 0)) fun x17 => lz ((M6 (rid (M6 i0 1)) 0) + x17) fun x20 => if okr 1 (M6 i0 1) then (bd1 (if (x5 = (M6 (rid (M6 i0 1)) 0)) then (if okr 1 (M6 i0 1) then (if okr 1 (M6 i0 1) then (lz (f_J6_compare_7cf53 x1 (M6 (rid (M6 i0 1)) 1)) fun x28 => some (((M6 (rid (M6 i0 1)) 1) + x28))) else none) else none) else (if okr 1 (M6 i0 1) then (some ((M6 (rid (M6 i0 1)) 1))) else none)) fun x31 => lz (f_X9_cellAt x20 x31) fun x32 => if 0 ≤ x32.toInt ∧ x32.toInt < ((64 : Nat) : Int) then (bd1 (if ((M6 ((wbog i0) + 3) (ix x32)) = (9 : Int32)) then (if okr 1 (M6 i0 1) then (lz (wr M6 (rid (M6 i0 1)) 6 ((M6 (rid (M6 i0 1)) 6) + (1 : Int32))) fun M45 => some (M45)) else none) else (if okr 1 (M6 i0 1) then (lz (wr M6 (rid (M6 i0 1)) 0 x20) fun M39 => if okr 1 (M39 i0 1) then (lz (wr M39 (rid (M39 i0 1)) 1 x31) fun M42 => some (M42)) else none) else none)) fun M47 => some ((1 : Int32), M47)) else none) else none) else none) else none)) else none)

set_option maxHeartbeats 4000000 in
set_option maxRecDepth 100000 in
theorem c_X8_go (l : Launch) (G : GG) (M : Mm) {i0 : Nat} (hi0 : (kd i0).1 = 3) (a1 : Int32) {r : Int32} {M9 : Mm} (hr : f_X8_go i0 a1 M = some (r, M9)) : Mo true l yX8_go (WS yX8_go cX8_go 6 (some .boolean)) (RM 2 0 0 43) 0 0 [.ref (G.2.1 i0), .int a1] G M (some (.int r)) M9 := by
  refine Mo.of (by decide +kernel) (Nat.le_of_ble_eq_true rfl) ?_
  intro p e s m args below meth c hC
  have hC : CX p s m args meth c cX8_go 6 RX8 (some .boolean) G := hC
  rw [f_X8_go] at hr
  show XJ p l e (RM 2 0 0 43) s m args below meth c G 6 _ 0 0 M 0 [(0, .ref (G.2.1 i0)), (1, .int a1)] []
  refine x_aload_n hC dX8_go_0 rfl 0 rfl ?_
  obtain ⟨x1, M2, q3, hr⟩ := bd2_s hr
  refine x_callV (ci := 3) (q := (RX8, TX8, 5)) (As := []) hC (c_X8_pop l G M hi0 q3) kc_yX8_pop km_X8_85 ki_yX8_pop kv_yX8_pop kn_RX8 ky_yX8_pop rfl ⟨rfl, rfl⟩ ⟨(Nat.le_of_ble_eq_true rfl), (Nat.le_of_ble_eq_true rfl)⟩ hi0 (by decide) rfl rfl (Nat.le_of_ble_eq_true rfl) ⟨(Nat.le_of_ble_eq_true rfl), (Nat.le_of_ble_eq_true rfl)⟩ dX8_go_1 (fun b4 => ?_)
  refine x_istore_n hC [(2, .int x1), (0, .ref (G.2.1 i0)), (1, .int a1)] dX8_go_4 rfl (Nat.le_of_ble_eq_true rfl) rfl ?_
  refine x_aload_n hC dX8_go_5 rfl 1 rfl ?_
  obtain ⟨x5, M6, q7, hr⟩ := bd2_s hr
  refine x_callV (ci := 3) (q := (RX8, TX8, 5)) (As := []) hC (c_X8_pop l G M2 hi0 q7) kc_yX8_pop km_X8_85 ki_yX8_pop kv_yX8_pop kn_RX8 ky_yX8_pop rfl ⟨rfl, rfl⟩ ⟨(Nat.le_of_ble_eq_true rfl), (Nat.le_of_ble_eq_true rfl)⟩ hi0 (by decide) rfl rfl (Nat.le_of_ble_eq_true rfl) ⟨(Nat.le_of_ble_eq_true rfl), (Nat.le_of_ble_eq_true rfl)⟩ dX8_go_6 (fun b8 => ?_)
  refine x_istore_n hC [(3, .int x5), (2, .int x1), (0, .ref (G.2.1 i0)), (1, .int a1)] dX8_go_9 rfl (Nat.le_of_ble_eq_true rfl) rfl ?_
  refine x_iload_n hC dX8_go_10 rfl 0 rfl ?_
  refine x_iload_n hC dX8_go_11 rfl 1 rfl ?_
  obtain ⟨x9, e10, hr⟩ := lz_s hr
  refine x_callSN (As := [.int x5, .int x1]) hC (c_X9_isCell l G M6 x5 x1 e10.symm) kc_yX9_isCell kmn_X8_191 kt_yX9_isCell kn_RX9 ky_yX9_isCell rfl ⟨rfl, rfl⟩ ⟨(Nat.le_of_ble_eq_true rfl), (Nat.le_of_ble_eq_true rfl)⟩ rfl (Nat.le_of_ble_eq_true rfl) ⟨(Nat.le_of_ble_eq_true rfl), (Nat.le_of_ble_eq_true rfl)⟩ dX8_go_12 (fun b11 => ?_)
  refine x_if_ne hC 43 dX8_go_15 (by decide) (fun h12 => ?_) (fun h12 => ?_)
  · have hr := (ie_s hr).2 h12
    refine x_iload_n hC dX8_go_43 rfl 0 rfl ?_
    refine x_aload_n hC dX8_go_44 rfl 2 rfl ?_
    obtain ⟨h13, hr⟩ := it_s hr
    refine gf_X8_32 hC hi0 h13 dX8_go_45 ?_
    refine gf_X8_92 hC h13.2 dX8_go_48 ?_
    refine x_icmp_ne hC 86 dX8_go_51 (by decide) (fun h14 => ?_) (fun h14 => ?_)
    · have hr := (ie_s hr).2 h14
      refine x_aload_n hC dX8_go_86 rfl 2 rfl ?_
      obtain ⟨h15, hr⟩ := it_s hr
      refine gf_X8_32 hC hi0 h15 dX8_go_87 ?_
      refine gf_X8_92 hC h15.2 dX8_go_90 ?_
      refine x_iload_n hC dX8_go_93 rfl 0 rfl ?_
      refine x_aload_n hC dX8_go_94 rfl 2 rfl ?_
      obtain ⟨h16, hr⟩ := it_s hr
      refine gf_X8_32 hC hi0 h16 dX8_go_95 ?_
      refine gf_X8_92 hC h16.2 dX8_go_98 ?_
      obtain ⟨x17, e18, hr⟩ := lz_s hr
      refine x_callS (As := [.int x5, .int (M6 (rid (M6 i0 1)) 0)]) hC (c_J6_compare_7cf53 l G M6 x5 (M6 (rid (M6 i0 1)) 0) e18.symm) kc_yJ6_compare_7cf53 km_X8_197 kt_yJ6_compare_7cf53 kn_RJ6 ky_yJ6_compare_7cf53 rfl ⟨rfl, rfl⟩ ⟨(Nat.le_of_ble_eq_true rfl), (Nat.le_of_ble_eq_true rfl)⟩ rfl (Nat.le_of_ble_eq_true rfl) ⟨(Nat.le_of_ble_eq_true rfl), (Nat.le_of_ble_eq_true rfl)⟩ dX8_go_101 (fun b19 => ?_)
      refine x_iadd hC dX8_go_104 ?_
      obtain ⟨x20, e21, hr⟩ := lz_s hr
      refine x_topi e21 ?_
      refine x_istore hC [(4, .int x20), (3, .int x5), (2, .int x1), (0, .ref (G.2.1 i0)), (1, .int a1)] dX8_go_105  (Nat.le_of_ble_eq_true rfl) rfl ?_
      refine x_iload_n hC dX8_go_107 rfl 1 rfl ?_
      refine x_aload_n hC dX8_go_108 rfl 3 rfl ?_
      obtain ⟨h22, hr⟩ := it_s hr
      refine gf_X8_32 hC hi0 h22 dX8_go_109 ?_
      refine gf_X8_92 hC h22.2 dX8_go_112 ?_
      obtain ⟨x31, q23, hr⟩ := bd1_s hr
      refine x_join (M' := M6) (pc' := 147) (lv' := [(0, .ref (G.2.1 i0)), (4, .int x20)]) (st' := [.int x31]) ?_ ?_
      · refine x_istore hC [(5, .int x31), (0, .ref (G.2.1 i0)), (4, .int x20)] dX8_go_147  (Nat.le_of_ble_eq_true rfl) rfl ?_
        refine x_aload_n hC dX8_go_149 rfl 1 rfl ?_
        refine gf_X8_22 hC hi0 dX8_go_150 ?_
        refine gf_X8_111 hC (kr_3_0 hi0) dX8_go_153 ?_
        refine x_iload hC dX8_go_156 2 rfl ?_
        refine x_iload hC dX8_go_158 0 rfl ?_
        obtain ⟨x32, e33, hr⟩ := lz_s hr
        refine x_callSN (As := [.int x20, .int x31]) hC (c_X9_cellAt l G M6 x20 x31 e33.symm) kc_yX9_cellAt kmn_X8_98 kt_yX9_cellAt kn_RX9 ky_yX9_cellAt rfl ⟨rfl, rfl⟩ ⟨(Nat.le_of_ble_eq_true rfl), (Nat.le_of_ble_eq_true rfl)⟩ rfl (Nat.le_of_ble_eq_true rfl) ⟨(Nat.le_of_ble_eq_true rfl), (Nat.le_of_ble_eq_true rfl)⟩ dX8_go_160 (fun b34 => ?_)
        obtain ⟨h35, hr⟩ := it_s hr
        refine x_iald hC (kr_0_2 (kr_3_0 hi0)) h35 dX8_go_163 ?_
        refine x_bipush hC (9 : Int32) dX8_go_164 (by decide) ?_
        obtain ⟨M47, q36, hr⟩ := bd1_s hr
        refine x_join (M' := M47) (pc' := 203) (lv' := []) (st' := []) ?_ ?_
        · refine x_iconst hC (1 : Int32) dX8_go_203 (by decide) ?_
          cases hr
          exact x_zret hC rfl (Or.inr rfl) dX8_go_204
        · intro kj
          refine x_icmp_ne hC 185 dX8_go_166 (by decide) (fun h37 => ?_) (fun h37 => ?_)
          · have q36 := (ie_s q36).2 h37
            refine x_aload_n hC dX8_go_185 rfl 1 rfl ?_
            obtain ⟨h38, q36⟩ := it_s q36
            refine gf_X8_32 hC hi0 h38 dX8_go_186 ?_
            refine x_iload hC dX8_go_189 2 rfl ?_
            obtain ⟨M39, e40, q36⟩ := lz_s q36
            refine pf_X8_92 hC h38.2 e40 dX8_go_191 ?_
            refine x_aload_n hC dX8_go_194 rfl 1 rfl ?_
            obtain ⟨h41, q36⟩ := it_s q36
            refine gf_X8_32 hC hi0 h41 dX8_go_195 ?_
            refine x_iload hC dX8_go_198 0 rfl ?_
            obtain ⟨M42, e43, q36⟩ := lz_s q36
            refine pf_X8_95 hC h41.2 e43 dX8_go_200 ?_
            cases q36
            exact x_sub [] rfl kj
          · have q36 := (ie_s q36).1 h37
            refine x_aload_n hC dX8_go_169 rfl 1 rfl ?_
            obtain ⟨h44, q36⟩ := it_s q36
            refine gf_X8_32 hC hi0 h44 dX8_go_170 ?_
            refine x_dup hC dX8_go_173 rfl ?_
            refine gf_X8_194 hC h44.2 dX8_go_174 ?_
            refine x_iconst hC (1 : Int32) dX8_go_177 (by decide) ?_
            refine x_iadd hC dX8_go_178 ?_
            obtain ⟨M45, e46, q36⟩ := lz_s q36
            refine pf_X8_194 hC h44.2 e46 dX8_go_179 ?_
            refine x_goto hC 203 dX8_go_182 (by decide) ?_
            cases q36
            exact x_sub [] rfl kj
      · intro kj
        refine x_icmp_ne hC 140 dX8_go_115 (by decide) (fun h24 => ?_) (fun h24 => ?_)
        · have q23 := (ie_s q23).2 h24
          refine x_aload_n hC dX8_go_140 rfl 3 rfl ?_
          obtain ⟨h25, q23⟩ := it_s q23
          refine gf_X8_32 hC hi0 h25 dX8_go_141 ?_
          refine gf_X8_95 hC h25.2 dX8_go_144 ?_
          cases q23
          exact x_sub [3, 0] rfl kj
        · have q23 := (ie_s q23).1 h24
          refine x_aload_n hC dX8_go_118 rfl 3 rfl ?_
          obtain ⟨h26, q23⟩ := it_s q23
          refine gf_X8_32 hC hi0 h26 dX8_go_119 ?_
          refine gf_X8_95 hC h26.2 dX8_go_122 ?_
          refine x_iload_n hC dX8_go_125 rfl 2 rfl ?_
          refine x_aload_n hC dX8_go_126 rfl 3 rfl ?_
          obtain ⟨h27, q23⟩ := it_s q23
          refine gf_X8_32 hC hi0 h27 dX8_go_127 ?_
          refine gf_X8_95 hC h27.2 dX8_go_130 ?_
          obtain ⟨x28, e29, q23⟩ := lz_s q23
          refine x_callS (As := [.int x1, .int (M6 (rid (M6 i0 1)) 1)]) hC (c_J6_compare_7cf53 l G M6 x1 (M6 (rid (M6 i0 1)) 1) e29.symm) kc_yJ6_compare_7cf53 km_X8_197 kt_yJ6_compare_7cf53 kn_RJ6 ky_yJ6_compare_7cf53 rfl ⟨rfl, rfl⟩ ⟨(Nat.le_of_ble_eq_true rfl), (Nat.le_of_ble_eq_true rfl)⟩ rfl (Nat.le_of_ble_eq_true rfl) ⟨(Nat.le_of_ble_eq_true rfl), (Nat.le_of_ble_eq_true rfl)⟩ dX8_go_133 (fun b30 => ?_)
          refine x_iadd hC dX8_go_136 ?_
          refine x_goto hC 147 dX8_go_137 (by decide) ?_
          cases q23
          exact x_sub [3, 0] rfl kj
    · have hr := (ie_s hr).1 h14
      refine x_iload_n hC dX8_go_54 rfl 1 rfl ?_
      refine x_aload_n hC dX8_go_55 rfl 2 rfl ?_
      obtain ⟨h48, hr⟩ := it_s hr
      refine gf_X8_32 hC hi0 h48 dX8_go_56 ?_
      refine gf_X8_95 hC h48.2 dX8_go_59 ?_
      refine x_icmp_ne hC 86 dX8_go_62 (by decide) (fun h49 => ?_) (fun h49 => ?_)
      · have hr := (ie_s hr).2 h49
        refine x_aload_n hC dX8_go_86 rfl 2 rfl ?_
        obtain ⟨h50, hr⟩ := it_s hr
        refine gf_X8_32 hC hi0 h50 dX8_go_87 ?_
        refine gf_X8_92 hC h50.2 dX8_go_90 ?_
        refine x_iload_n hC dX8_go_93 rfl 0 rfl ?_
        refine x_aload_n hC dX8_go_94 rfl 2 rfl ?_
        obtain ⟨h51, hr⟩ := it_s hr
        refine gf_X8_32 hC hi0 h51 dX8_go_95 ?_
        refine gf_X8_92 hC h51.2 dX8_go_98 ?_
        obtain ⟨x52, e53, hr⟩ := lz_s hr
        refine x_callS (As := [.int x5, .int (M6 (rid (M6 i0 1)) 0)]) hC (c_J6_compare_7cf53 l G M6 x5 (M6 (rid (M6 i0 1)) 0) e53.symm) kc_yJ6_compare_7cf53 km_X8_197 kt_yJ6_compare_7cf53 kn_RJ6 ky_yJ6_compare_7cf53 rfl ⟨rfl, rfl⟩ ⟨(Nat.le_of_ble_eq_true rfl), (Nat.le_of_ble_eq_true rfl)⟩ rfl (Nat.le_of_ble_eq_true rfl) ⟨(Nat.le_of_ble_eq_true rfl), (Nat.le_of_ble_eq_true rfl)⟩ dX8_go_101 (fun b54 => ?_)
        refine x_iadd hC dX8_go_104 ?_
        obtain ⟨x55, e56, hr⟩ := lz_s hr
        refine x_topi e56 ?_
        refine x_istore hC [(4, .int x55), (3, .int x5), (2, .int x1), (0, .ref (G.2.1 i0)), (1, .int a1)] dX8_go_105  (Nat.le_of_ble_eq_true rfl) rfl ?_
        refine x_iload_n hC dX8_go_107 rfl 1 rfl ?_
        refine x_aload_n hC dX8_go_108 rfl 3 rfl ?_
        obtain ⟨h57, hr⟩ := it_s hr
        refine gf_X8_32 hC hi0 h57 dX8_go_109 ?_
        refine gf_X8_92 hC h57.2 dX8_go_112 ?_
        obtain ⟨x66, q58, hr⟩ := bd1_s hr
        refine x_join (M' := M6) (pc' := 147) (lv' := [(0, .ref (G.2.1 i0)), (4, .int x55)]) (st' := [.int x66]) ?_ ?_
        · refine x_istore hC [(5, .int x66), (0, .ref (G.2.1 i0)), (4, .int x55)] dX8_go_147  (Nat.le_of_ble_eq_true rfl) rfl ?_
          refine x_aload_n hC dX8_go_149 rfl 1 rfl ?_
          refine gf_X8_22 hC hi0 dX8_go_150 ?_
          refine gf_X8_111 hC (kr_3_0 hi0) dX8_go_153 ?_
          refine x_iload hC dX8_go_156 2 rfl ?_
          refine x_iload hC dX8_go_158 0 rfl ?_
          obtain ⟨x67, e68, hr⟩ := lz_s hr
          refine x_callSN (As := [.int x55, .int x66]) hC (c_X9_cellAt l G M6 x55 x66 e68.symm) kc_yX9_cellAt kmn_X8_98 kt_yX9_cellAt kn_RX9 ky_yX9_cellAt rfl ⟨rfl, rfl⟩ ⟨(Nat.le_of_ble_eq_true rfl), (Nat.le_of_ble_eq_true rfl)⟩ rfl (Nat.le_of_ble_eq_true rfl) ⟨(Nat.le_of_ble_eq_true rfl), (Nat.le_of_ble_eq_true rfl)⟩ dX8_go_160 (fun b69 => ?_)
          obtain ⟨h70, hr⟩ := it_s hr
          refine x_iald hC (kr_0_2 (kr_3_0 hi0)) h70 dX8_go_163 ?_
          refine x_bipush hC (9 : Int32) dX8_go_164 (by decide) ?_
          obtain ⟨M82, q71, hr⟩ := bd1_s hr
          refine x_join (M' := M82) (pc' := 203) (lv' := []) (st' := []) ?_ ?_
          · refine x_iconst hC (1 : Int32) dX8_go_203 (by decide) ?_
            cases hr
            exact x_zret hC rfl (Or.inr rfl) dX8_go_204
          · intro kj
            refine x_icmp_ne hC 185 dX8_go_166 (by decide) (fun h72 => ?_) (fun h72 => ?_)
            · have q71 := (ie_s q71).2 h72
              refine x_aload_n hC dX8_go_185 rfl 1 rfl ?_
              obtain ⟨h73, q71⟩ := it_s q71
              refine gf_X8_32 hC hi0 h73 dX8_go_186 ?_
              refine x_iload hC dX8_go_189 2 rfl ?_
              obtain ⟨M74, e75, q71⟩ := lz_s q71
              refine pf_X8_92 hC h73.2 e75 dX8_go_191 ?_
              refine x_aload_n hC dX8_go_194 rfl 1 rfl ?_
              obtain ⟨h76, q71⟩ := it_s q71
              refine gf_X8_32 hC hi0 h76 dX8_go_195 ?_
              refine x_iload hC dX8_go_198 0 rfl ?_
              obtain ⟨M77, e78, q71⟩ := lz_s q71
              refine pf_X8_95 hC h76.2 e78 dX8_go_200 ?_
              cases q71
              exact x_sub [] rfl kj
            · have q71 := (ie_s q71).1 h72
              refine x_aload_n hC dX8_go_169 rfl 1 rfl ?_
              obtain ⟨h79, q71⟩ := it_s q71
              refine gf_X8_32 hC hi0 h79 dX8_go_170 ?_
              refine x_dup hC dX8_go_173 rfl ?_
              refine gf_X8_194 hC h79.2 dX8_go_174 ?_
              refine x_iconst hC (1 : Int32) dX8_go_177 (by decide) ?_
              refine x_iadd hC dX8_go_178 ?_
              obtain ⟨M80, e81, q71⟩ := lz_s q71
              refine pf_X8_194 hC h79.2 e81 dX8_go_179 ?_
              refine x_goto hC 203 dX8_go_182 (by decide) ?_
              cases q71
              exact x_sub [] rfl kj
        · intro kj
          refine x_icmp_ne hC 140 dX8_go_115 (by decide) (fun h59 => ?_) (fun h59 => ?_)
          · have q58 := (ie_s q58).2 h59
            refine x_aload_n hC dX8_go_140 rfl 3 rfl ?_
            obtain ⟨h60, q58⟩ := it_s q58
            refine gf_X8_32 hC hi0 h60 dX8_go_141 ?_
            refine gf_X8_95 hC h60.2 dX8_go_144 ?_
            cases q58
            exact x_sub [3, 0] rfl kj
          · have q58 := (ie_s q58).1 h59
            refine x_aload_n hC dX8_go_118 rfl 3 rfl ?_
            obtain ⟨h61, q58⟩ := it_s q58
            refine gf_X8_32 hC hi0 h61 dX8_go_119 ?_
            refine gf_X8_95 hC h61.2 dX8_go_122 ?_
            refine x_iload_n hC dX8_go_125 rfl 2 rfl ?_
            refine x_aload_n hC dX8_go_126 rfl 3 rfl ?_
            obtain ⟨h62, q58⟩ := it_s q58
            refine gf_X8_32 hC hi0 h62 dX8_go_127 ?_
            refine gf_X8_95 hC h62.2 dX8_go_130 ?_
            obtain ⟨x63, e64, q58⟩ := lz_s q58
            refine x_callS (As := [.int x1, .int (M6 (rid (M6 i0 1)) 1)]) hC (c_J6_compare_7cf53 l G M6 x1 (M6 (rid (M6 i0 1)) 1) e64.symm) kc_yJ6_compare_7cf53 km_X8_197 kt_yJ6_compare_7cf53 kn_RJ6 ky_yJ6_compare_7cf53 rfl ⟨rfl, rfl⟩ ⟨(Nat.le_of_ble_eq_true rfl), (Nat.le_of_ble_eq_true rfl)⟩ rfl (Nat.le_of_ble_eq_true rfl) ⟨(Nat.le_of_ble_eq_true rfl), (Nat.le_of_ble_eq_true rfl)⟩ dX8_go_133 (fun b65 => ?_)
            refine x_iadd hC dX8_go_136 ?_
            refine x_goto hC 147 dX8_go_137 (by decide) ?_
            cases q58
            exact x_sub [3, 0] rfl kj
      · have hr := (ie_s hr).1 h49
        refine x_aload_n hC dX8_go_65 rfl 2 rfl ?_
        obtain ⟨x83, M84, q85, hr⟩ := bd2_s hr
        refine x_callV (ci := 3) (q := (RX8, TX8, 5)) (As := []) hC (c_X8_isHourOver l G M6 hi0 q85) kc_yX8_isHourOver km_X8_184 ki_yX8_isHourOver kv_yX8_isHourOver kn_RX8 ky_yX8_isHourOver rfl ⟨rfl, rfl⟩ ⟨(Nat.le_of_ble_eq_true rfl), (Nat.le_of_ble_eq_true rfl)⟩ hi0 (by decide) rfl rfl (Nat.le_of_ble_eq_true rfl) ⟨(Nat.le_of_ble_eq_true rfl), (Nat.le_of_ble_eq_true rfl)⟩ dX8_go_66 (fun b86 => ?_)
        refine x_if_eq hC 74 dX8_go_69 (by decide) (fun h87 => ?_) (fun h87 => ?_)
        · have hr := (ie_s hr).1 h87
          refine x_aload_n hC dX8_go_74 rfl 2 rfl ?_
          obtain ⟨h88, hr⟩ := it_s hr
          refine gf_X8_32 hC hi0 h88 dX8_go_75 ?_
          refine x_iload_n hC dX8_go_78 rfl 3 rfl ?_
          refine x_iconst hC (1 : Int32) dX8_go_79 (by decide) ?_
          refine x_iadd hC dX8_go_80 ?_
          obtain ⟨M89, e90, hr⟩ := lz_s hr
          refine pf_X8_53 hC h88.2 e90 dX8_go_81 ?_
          refine x_iconst hC (0 : Int32) dX8_go_84 (by decide) ?_
          cases hr
          exact x_zret hC rfl (Or.inl rfl) dX8_go_85
        · have hr := (ie_s hr).2 h87
          refine x_iconst hC (1 : Int32) dX8_go_72 (by decide) ?_
          cases hr
          exact x_zret hC rfl (Or.inr rfl) dX8_go_73
  · have hr := (ie_s hr).1 h12
    refine x_aload_n hC dX8_go_18 rfl 2 rfl ?_
    obtain ⟨h91, hr⟩ := it_s hr
    refine gf_X8_32 hC hi0 h91 dX8_go_19 ?_
    refine x_dup hC dX8_go_22 rfl ?_
    refine gf_X8_194 hC h91.2 dX8_go_23 ?_
    refine x_iconst hC (1 : Int32) dX8_go_26 (by decide) ?_
    refine x_iadd hC dX8_go_27 ?_
    obtain ⟨M92, e93, hr⟩ := lz_s hr
    refine pf_X8_194 hC h91.2 e93 dX8_go_28 ?_
    refine x_aload_n hC dX8_go_31 rfl 2 rfl ?_
    obtain ⟨h94, hr⟩ := it_s hr
    refine gf_X8_32 hC hi0 h94 dX8_go_32 ?_
    refine x_iload_n hC dX8_go_35 rfl 3 rfl ?_
    refine x_iconst hC (1 : Int32) dX8_go_36 (by decide) ?_
    refine x_iadd hC dX8_go_37 ?_
    obtain ⟨M95, e96, hr⟩ := lz_s hr
    refine pf_X8_53 hC h94.2 e96 dX8_go_38 ?_
    refine x_iconst hC (1 : Int32) dX8_go_41 (by decide) ?_
    cases hr
    exact x_zret hC rfl (Or.inr rfl) dX8_go_42

theorem dX8_endHour_0 : decode cX8_endHour 0 = .ok (.iload_n 2, 1) := by decide +kernel
theorem dX8_endHour_1 : decode cX8_endHour 1 = .ok (.ifCond .gt 16, 3) := by decide +kernel
theorem dX8_endHour_4 : decode cX8_endHour 4 = .ok (.aload_n 0, 1) := by decide +kernel
theorem dX8_endHour_5 : decode cX8_endHour 5 = .ok (.getfield 32, 3) := by decide +kernel
theorem dX8_endHour_8 : decode cX8_endHour 8 = .ok (.dup, 1) := by decide +kernel
theorem dX8_endHour_9 : decode cX8_endHour 9 = .ok (.getfield 194, 3) := by decide +kernel
theorem dX8_endHour_12 : decode cX8_endHour 12 = .ok (.iconst 1, 1) := by decide +kernel
theorem dX8_endHour_13 : decode cX8_endHour 13 = .ok (.iadd, 1) := by decide +kernel
theorem dX8_endHour_14 : decode cX8_endHour 14 = .ok (.putfield 194, 3) := by decide +kernel
theorem dX8_endHour_17 : decode cX8_endHour 17 = .ok (.aload_n 0, 1) := by decide +kernel
theorem dX8_endHour_18 : decode cX8_endHour 18 = .ok (.getfield 32, 3) := by decide +kernel
theorem dX8_endHour_21 : decode cX8_endHour 21 = .ok (.iload_n 1, 1) := by decide +kernel
theorem dX8_endHour_22 : decode cX8_endHour 22 = .ok (.iconst 1, 1) := by decide +kernel
theorem dX8_endHour_23 : decode cX8_endHour 23 = .ok (.iadd, 1) := by decide +kernel
theorem dX8_endHour_24 : decode cX8_endHour 24 = .ok (.putfield 53, 3) := by decide +kernel
theorem dX8_endHour_27 : decode cX8_endHour 27 = .ok (.iconst 1, 1) := by decide +kernel
theorem dX8_endHour_28 : decode cX8_endHour 28 = .ok (.ireturn, 1) := by decide +kernel

def f_X8_endHour (i0 : Nat) (a1 : Int32) (a2 : Int32) (M : Mm) : Option (Int32 × Mm) :=
  bd1 (if (0 < a2) then (some (M)) else (if okr 1 (M i0 1) then (lz (wr M (rid (M i0 1)) 6 ((M (rid (M i0 1)) 6) + (1 : Int32))) fun M4 => some (M4)) else none)) fun M6 => if okr 1 (M6 i0 1) then (lz (wr M6 (rid (M6 i0 1)) 9 (a1 + (1 : Int32))) fun M8 => some ((1 : Int32), M8)) else none

set_option maxHeartbeats 4000000 in
set_option maxRecDepth 100000 in
theorem c_X8_endHour (l : Launch) (G : GG) (M : Mm) {i0 : Nat} (hi0 : (kd i0).1 = 3) (a1 : Int32) (a2 : Int32) {r : Int32} {M9 : Mm} (hr : f_X8_endHour i0 a1 a2 M = some (r, M9)) : Mo true l yX8_endHour (WS yX8_endHour cX8_endHour 3 (some .boolean)) (RM 0 0 0 0) 0 0 [.ref (G.2.1 i0), .int a1, .int a2] G M (some (.int r)) M9 := by
  refine Mo.of (by decide +kernel) (Nat.le_of_ble_eq_true rfl) ?_
  intro p e s m args below meth c hC
  have hC : CX p s m args meth c cX8_endHour 3 RX8 (some .boolean) G := hC
  rw [f_X8_endHour] at hr
  show XJ p l e (RM 0 0 0 0) s m args below meth c G 3 _ 0 0 M 0 [(0, .ref (G.2.1 i0)), (1, .int a1), (2, .int a2)] []
  refine x_iload_n hC dX8_endHour_0 rfl 2 rfl ?_
  obtain ⟨M6, q1, hr⟩ := bd1_s hr
  refine x_join (M' := M6) (pc' := 17) (lv' := [(0, .ref (G.2.1 i0)), (1, .int a1)]) (st' := []) ?_ ?_
  · refine x_aload_n hC dX8_endHour_17 rfl 0 rfl ?_
    obtain ⟨h7, hr⟩ := it_s hr
    refine gf_X8_32 hC hi0 h7 dX8_endHour_18 ?_
    refine x_iload_n hC dX8_endHour_21 rfl 1 rfl ?_
    refine x_iconst hC (1 : Int32) dX8_endHour_22 (by decide) ?_
    refine x_iadd hC dX8_endHour_23 ?_
    obtain ⟨M8, e9, hr⟩ := lz_s hr
    refine pf_X8_53 hC h7.2 e9 dX8_endHour_24 ?_
    refine x_iconst hC (1 : Int32) dX8_endHour_27 (by decide) ?_
    cases hr
    exact x_zret hC rfl (Or.inr rfl) dX8_endHour_28
  · intro kj
    refine x_if_gt hC 17 dX8_endHour_1 (by decide) (fun h2 => ?_) (fun h2 => ?_)
    · have q1 := (ie_s q1).1 h2
      cases q1
      exact x_sub [0, 1] rfl kj
    · have q1 := (ie_s q1).2 h2
      refine x_aload_n hC dX8_endHour_4 rfl 0 rfl ?_
      obtain ⟨h3, q1⟩ := it_s q1
      refine gf_X8_32 hC hi0 h3 dX8_endHour_5 ?_
      refine x_dup hC dX8_endHour_8 rfl ?_
      refine gf_X8_194 hC h3.2 dX8_endHour_9 ?_
      refine x_iconst hC (1 : Int32) dX8_endHour_12 (by decide) ?_
      refine x_iadd hC dX8_endHour_13 ?_
      obtain ⟨M4, e5, q1⟩ := lz_s q1
      refine pf_X8_194 hC h3.2 e5 dX8_endHour_14 ?_
      cases q1
      exact x_sub [0, 1] rfl kj

theorem dX8_cut_0 : decode cX8_cut 0 = .ok (.aload_n 0, 1) := by decide +kernel
theorem dX8_cut_1 : decode cX8_cut 1 = .ok (.getfield 32, 3) := by decide +kernel
theorem dX8_cut_4 : decode cX8_cut 4 = .ok (.getfield 92, 3) := by decide +kernel
theorem dX8_cut_7 : decode cX8_cut 7 = .ok (.aload_n 0, 1) := by decide +kernel
theorem dX8_cut_8 : decode cX8_cut 8 = .ok (.getfield 32, 3) := by decide +kernel
theorem dX8_cut_11 : decode cX8_cut 11 = .ok (.getfield 95, 3) := by decide +kernel
theorem dX8_cut_14 : decode cX8_cut 14 = .ok (.invokestatic 98, 3) := by decide +kernel
theorem dX8_cut_17 : decode cX8_cut 17 = .ok (.istore_n 2, 1) := by decide +kernel
theorem dX8_cut_18 : decode cX8_cut 18 = .ok (.bipush 6, 2) := by decide +kernel
theorem dX8_cut_20 : decode cX8_cut 20 = .ok (.aload_n 0, 1) := by decide +kernel
theorem dX8_cut_21 : decode cX8_cut 21 = .ok (.getfield 22, 3) := by decide +kernel
theorem dX8_cut_24 : decode cX8_cut 24 = .ok (.getfield 102, 3) := by decide +kernel
theorem dX8_cut_27 : decode cX8_cut 27 = .ok (.iload_n 2, 1) := by decide +kernel
theorem dX8_cut_28 : decode cX8_cut 28 = .ok (.iaload, 1) := by decide +kernel
theorem dX8_cut_29 : decode cX8_cut 29 = .ok (.invokestatic 135, 3) := by decide +kernel
theorem dX8_cut_32 : decode cX8_cut 32 = .ok (.bipush 99, 2) := by decide +kernel
theorem dX8_cut_34 : decode cX8_cut 34 = .ok (.aload_n 0, 1) := by decide +kernel
theorem dX8_cut_35 : decode cX8_cut 35 = .ok (.getfield 22, 3) := by decide +kernel
theorem dX8_cut_38 : decode cX8_cut 38 = .ok (.getfield 105, 3) := by decide +kernel
theorem dX8_cut_41 : decode cX8_cut 41 = .ok (.iload_n 2, 1) := by decide +kernel
theorem dX8_cut_42 : decode cX8_cut 42 = .ok (.iaload, 1) := by decide +kernel
theorem dX8_cut_43 : decode cX8_cut 43 = .ok (.isub, 1) := by decide +kernel
theorem dX8_cut_44 : decode cX8_cut 44 = .ok (.invokestatic 135, 3) := by decide +kernel
theorem dX8_cut_47 : decode cX8_cut 47 = .ok (.istore_n 3, 1) := by decide +kernel
theorem dX8_cut_48 : decode cX8_cut 48 = .ok (.aload_n 0, 1) := by decide +kernel
theorem dX8_cut_49 : decode cX8_cut 49 = .ok (.invokevirtual 85, 3) := by decide +kernel
theorem dX8_cut_52 : decode cX8_cut 52 = .ok (.iload_n 3, 1) := by decide +kernel
theorem dX8_cut_53 : decode cX8_cut 53 = .ok (.invokestatic 135, 3) := by decide +kernel
theorem dX8_cut_56 : decode cX8_cut 56 = .ok (.istore 4, 2) := by decide +kernel
theorem dX8_cut_58 : decode cX8_cut 58 = .ok (.iload 4, 2) := by decide +kernel
theorem dX8_cut_60 : decode cX8_cut 60 = .ok (.ifCond .le 43, 3) := by decide +kernel
theorem dX8_cut_63 : decode cX8_cut 63 = .ok (.aload_n 0, 1) := by decide +kernel
theorem dX8_cut_64 : decode cX8_cut 64 = .ok (.getfield 22, 3) := by decide +kernel
theorem dX8_cut_67 : decode cX8_cut 67 = .ok (.getfield 102, 3) := by decide +kernel
theorem dX8_cut_70 : decode cX8_cut 70 = .ok (.iload_n 2, 1) := by decide +kernel
theorem dX8_cut_71 : decode cX8_cut 71 = .ok (.dup2, 1) := by decide +kernel
theorem dX8_cut_72 : decode cX8_cut 72 = .ok (.iaload, 1) := by decide +kernel
theorem dX8_cut_73 : decode cX8_cut 73 = .ok (.iload 4, 2) := by decide +kernel
theorem dX8_cut_75 : decode cX8_cut 75 = .ok (.isub, 1) := by decide +kernel
theorem dX8_cut_76 : decode cX8_cut 76 = .ok (.iastore, 1) := by decide +kernel
theorem dX8_cut_77 : decode cX8_cut 77 = .ok (.aload_n 0, 1) := by decide +kernel
theorem dX8_cut_78 : decode cX8_cut 78 = .ok (.getfield 22, 3) := by decide +kernel
theorem dX8_cut_81 : decode cX8_cut 81 = .ok (.dup, 1) := by decide +kernel
theorem dX8_cut_82 : decode cX8_cut 82 = .ok (.getfield 202, 3) := by decide +kernel
theorem dX8_cut_85 : decode cX8_cut 85 = .ok (.iload 4, 2) := by decide +kernel
theorem dX8_cut_87 : decode cX8_cut 87 = .ok (.iadd, 1) := by decide +kernel
theorem dX8_cut_88 : decode cX8_cut 88 = .ok (.putfield 202, 3) := by decide +kernel
theorem dX8_cut_91 : decode cX8_cut 91 = .ok (.aload_n 0, 1) := by decide +kernel
theorem dX8_cut_92 : decode cX8_cut 92 = .ok (.getfield 22, 3) := by decide +kernel
theorem dX8_cut_95 : decode cX8_cut 95 = .ok (.iload_n 2, 1) := by decide +kernel
theorem dX8_cut_96 : decode cX8_cut 96 = .ok (.iload 4, 2) := by decide +kernel
theorem dX8_cut_98 : decode cX8_cut 98 = .ok (.bipush 20, 2) := by decide +kernel
theorem dX8_cut_100 : decode cX8_cut 100 = .ok (.invokevirtual 205, 3) := by decide +kernel
theorem dX8_cut_103 : decode cX8_cut 103 = .ok (.aload_n 0, 1) := by decide +kernel
theorem dX8_cut_104 : decode cX8_cut 104 = .ok (.iload_n 1, 1) := by decide +kernel
theorem dX8_cut_105 : decode cX8_cut 105 = .ok (.iload 4, 2) := by decide +kernel
theorem dX8_cut_107 : decode cX8_cut 107 = .ok (.invokevirtual 209, 3) := by decide +kernel
theorem dX8_cut_110 : decode cX8_cut 110 = .ok (.ireturn, 1) := by decide +kernel

def f_X8_cut (i0 : Nat) (a1 : Int32) (M : Mm) : Option (Int32 × Mm) :=
  if okr 1 (M i0 1) then (if okr 1 (M i0 1) then (lz (f_X9_cellAt (M (rid (M i0 1)) 0) (M (rid (M i0 1)) 1)) fun x3 => if 0 ≤ x3.toInt ∧ x3.toInt < ((64 : Nat) : Int) then (if 0 ≤ x3.toInt ∧ x3.toInt < ((64 : Nat) : Int) then (lz (imin (imin (6 : Int32) (M ((wbog i0) + 1) (ix x3))) ((99 : Int32) - (M ((wbog i0) + 4) (ix x3)))) fun x8 => bd2 (f_X8_pop i0 M) fun x10 M11 => bd1 (if ((imin x10 x8) ≤ 0) then (some (M11)) else (if 0 ≤ x3.toInt ∧ x3.toInt < ((64 : Nat) : Int) then (if 0 ≤ x3.toInt ∧ x3.toInt < ((64 : Nat) : Int) then (lz (wr M11 ((wbog i0) + 1) (ix x3) ((M11 ((wbog i0) + 1) (ix x3)) - (imin x10 x8))) fun M18 => lz (wr M18 (wbog i0) 13 ((M18 (wbog i0) 13) + (imin x10 x8))) fun M20 => bd1 (f_X1_addToStack (wbog i0) x3 (imin x10 x8) (20 : Int32) M20) fun M22 => some (M22)) else none) else none)) fun M25 => bd2 (f_X8_endHour i0 a1 (imin x10 x8) M25) fun x26 M27 => some (x26, M27)) else none) else none) else none) else none

set_option maxHeartbeats 4000000 in
set_option maxRecDepth 100000 in
theorem c_X8_cut (l : Launch) (G : GG) (M : Mm) {i0 : Nat} (hi0 : (kd i0).1 = 3) (a1 : Int32) {r : Int32} {M9 : Mm} (hr : f_X8_cut i0 a1 M = some (r, M9)) : Mo true l yX8_cut (WS yX8_cut cX8_cut 5 (some .boolean)) (RM 2 0 0 47) 0 0 [.ref (G.2.1 i0), .int a1] G M (some (.int r)) M9 := by
  refine Mo.of (by decide +kernel) (Nat.le_of_ble_eq_true rfl) ?_
  intro p e s m args below meth c hC
  have hC : CX p s m args meth c cX8_cut 5 RX8 (some .boolean) G := hC
  rw [f_X8_cut] at hr
  show XJ p l e (RM 2 0 0 47) s m args below meth c G 5 _ 0 0 M 0 [(0, .ref (G.2.1 i0)), (1, .int a1)] []
  refine x_aload_n hC dX8_cut_0 rfl 0 rfl ?_
  obtain ⟨h1, hr⟩ := it_s hr
  refine gf_X8_32 hC hi0 h1 dX8_cut_1 ?_
  refine gf_X8_92 hC h1.2 dX8_cut_4 ?_
  refine x_aload_n hC dX8_cut_7 rfl 0 rfl ?_
  obtain ⟨h2, hr⟩ := it_s hr
  refine gf_X8_32 hC hi0 h2 dX8_cut_8 ?_
  refine gf_X8_95 hC h2.2 dX8_cut_11 ?_
  obtain ⟨x3, e4, hr⟩ := lz_s hr
  refine x_callSN (As := [.int (M (rid (M i0 1)) 0), .int (M (rid (M i0 1)) 1)]) hC (c_X9_cellAt l G M (M (rid (M i0 1)) 0) (M (rid (M i0 1)) 1) e4.symm) kc_yX9_cellAt kmn_X8_98 kt_yX9_cellAt kn_RX9 ky_yX9_cellAt rfl ⟨rfl, rfl⟩ ⟨(Nat.le_of_ble_eq_true rfl), (Nat.le_of_ble_eq_true rfl)⟩ rfl (Nat.le_of_ble_eq_true rfl) ⟨(Nat.le_of_ble_eq_true rfl), (Nat.le_of_ble_eq_true rfl)⟩ dX8_cut_14 (fun b5 => ?_)
  refine x_istore_n hC [(2, .int x3), (0, .ref (G.2.1 i0)), (1, .int a1)] dX8_cut_17 rfl (Nat.le_of_ble_eq_true rfl) rfl ?_
  refine x_bipush hC (6 : Int32) dX8_cut_18 (by decide) ?_
  refine x_aload_n hC dX8_cut_20 rfl 1 rfl ?_
  refine gf_X8_22 hC hi0 dX8_cut_21 ?_
  refine gf_X8_102 hC (kr_3_0 hi0) dX8_cut_24 ?_
  refine x_iload_n hC dX8_cut_27 rfl 0 rfl ?_
  obtain ⟨h6, hr⟩ := it_s hr
  refine x_iald hC (kr_0_0 (kr_3_0 hi0)) h6 dX8_cut_28 ?_
  refine x_mmin hC km_X8_135 kt_Mmin kn_Math kc_Mmin (Nat.le_of_ble_eq_true rfl) (Nat.le_of_ble_eq_true rfl) ⟨(Nat.le_of_ble_eq_true rfl), (Nat.le_of_ble_eq_true rfl)⟩ dX8_cut_29 ?_
  refine x_bipush hC (99 : Int32) dX8_cut_32 (by decide) ?_
  refine x_aload_n hC dX8_cut_34 rfl 1 rfl ?_
  refine gf_X8_22 hC hi0 dX8_cut_35 ?_
  refine gf_X8_105 hC (kr_3_0 hi0) dX8_cut_38 ?_
  refine x_iload_n hC dX8_cut_41 rfl 0 rfl ?_
  obtain ⟨h7, hr⟩ := it_s hr
  refine x_iald hC (kr_0_3 (kr_3_0 hi0)) h7 dX8_cut_42 ?_
  refine x_isub hC dX8_cut_43 ?_
  refine x_mmin hC km_X8_135 kt_Mmin kn_Math kc_Mmin (Nat.le_of_ble_eq_true rfl) (Nat.le_of_ble_eq_true rfl) ⟨(Nat.le_of_ble_eq_true rfl), (Nat.le_of_ble_eq_true rfl)⟩ dX8_cut_44 ?_
  obtain ⟨x8, e9, hr⟩ := lz_s hr
  refine x_topi e9 ?_
  refine x_istore_n hC [(3, .int x8), (2, .int x3), (0, .ref (G.2.1 i0)), (1, .int a1)] dX8_cut_47 rfl (Nat.le_of_ble_eq_true rfl) rfl ?_
  refine x_aload_n hC dX8_cut_48 rfl 2 rfl ?_
  obtain ⟨x10, M11, q12, hr⟩ := bd2_s hr
  refine x_callV (ci := 3) (q := (RX8, TX8, 5)) (As := []) hC (c_X8_pop l G M hi0 q12) kc_yX8_pop km_X8_85 ki_yX8_pop kv_yX8_pop kn_RX8 ky_yX8_pop rfl ⟨rfl, rfl⟩ ⟨(Nat.le_of_ble_eq_true rfl), (Nat.le_of_ble_eq_true rfl)⟩ hi0 (by decide) rfl rfl (Nat.le_of_ble_eq_true rfl) ⟨(Nat.le_of_ble_eq_true rfl), (Nat.le_of_ble_eq_true rfl)⟩ dX8_cut_49 (fun b13 => ?_)
  refine x_iload_n hC dX8_cut_52 rfl 0 rfl ?_
  refine x_mmin hC km_X8_135 kt_Mmin kn_Math kc_Mmin (Nat.le_of_ble_eq_true rfl) (Nat.le_of_ble_eq_true rfl) ⟨(Nat.le_of_ble_eq_true rfl), (Nat.le_of_ble_eq_true rfl)⟩ dX8_cut_53 ?_
  refine x_istore hC [(4, .int (imin x10 x8)), (3, .int x8), (2, .int x3), (0, .ref (G.2.1 i0)), (1, .int a1)] dX8_cut_56  (Nat.le_of_ble_eq_true rfl) rfl ?_
  refine x_iload hC dX8_cut_58 0 rfl ?_
  obtain ⟨M25, q14, hr⟩ := bd1_s hr
  refine x_join (M' := M25) (pc' := 103) (lv' := [(0, .ref (G.2.1 i0)), (1, .int a1), (4, .int (imin x10 x8))]) (st' := []) ?_ ?_
  · refine x_aload_n hC dX8_cut_103 rfl 0 rfl ?_
    refine x_iload_n hC dX8_cut_104 rfl 1 rfl ?_
    refine x_iload hC dX8_cut_105 2 rfl ?_
    obtain ⟨x26, M27, q28, hr⟩ := bd2_s hr
    refine x_callV (ci := 3) (q := (RX8, TX8, 5)) (As := [.int a1, .int (imin x10 x8)]) hC (c_X8_endHour l G M25 hi0 a1 (imin x10 x8) q28) kc_yX8_endHour km_X8_209 ki_yX8_endHour kv_yX8_endHour kn_RX8 ky_yX8_endHour rfl ⟨rfl, rfl⟩ ⟨(Nat.le_of_ble_eq_true rfl), (Nat.le_of_ble_eq_true rfl)⟩ hi0 (by decide) rfl rfl (Nat.le_of_ble_eq_true rfl) ⟨(Nat.le_of_ble_eq_true rfl), (Nat.le_of_ble_eq_true rfl)⟩ dX8_cut_107 (fun b29 => ?_)
    cases hr
    exact x_zret hC rfl (BV.out b29) dX8_cut_110
  · intro kj
    refine x_if_le hC 103 dX8_cut_60 (by decide) (fun h15 => ?_) (fun h15 => ?_)
    · have q14 := (ie_s q14).1 h15
      cases q14
      exact x_sub [3, 4, 0] rfl kj
    · have q14 := (ie_s q14).2 h15
      refine x_aload_n hC dX8_cut_63 rfl 3 rfl ?_
      refine gf_X8_22 hC hi0 dX8_cut_64 ?_
      refine gf_X8_102 hC (kr_3_0 hi0) dX8_cut_67 ?_
      refine x_iload_n hC dX8_cut_70 rfl 2 rfl ?_
      refine x_dup2 hC dX8_cut_71 rfl rfl ?_
      obtain ⟨h16, q14⟩ := it_s q14
      refine x_iald hC (kr_0_0 (kr_3_0 hi0)) h16 dX8_cut_72 ?_
      refine x_iload hC dX8_cut_73 0 rfl ?_
      refine x_isub hC dX8_cut_75 ?_
      obtain ⟨h17, q14⟩ := it_s q14
      obtain ⟨M18, e19, q14⟩ := lz_s q14
      refine x_iast hC (kr_0_0 (kr_3_0 hi0)) h17 e19 dX8_cut_76 ?_
      refine x_aload_n hC dX8_cut_77 rfl 3 rfl ?_
      refine gf_X8_22 hC hi0 dX8_cut_78 ?_
      refine x_dup hC dX8_cut_81 rfl ?_
      refine gf_X8_202 hC (kr_3_0 hi0) dX8_cut_82 ?_
      refine x_iload hC dX8_cut_85 0 rfl ?_
      refine x_iadd hC dX8_cut_87 ?_
      obtain ⟨M20, e21, q14⟩ := lz_s q14
      refine pf_X8_202 hC (kr_3_0 hi0) e21 dX8_cut_88 ?_
      refine x_aload_n hC dX8_cut_91 rfl 3 rfl ?_
      refine gf_X8_22 hC hi0 dX8_cut_92 ?_
      refine x_iload_n hC dX8_cut_95 rfl 2 rfl ?_
      refine x_iload hC dX8_cut_96 0 rfl ?_
      refine x_bipush hC (20 : Int32) dX8_cut_98 (by decide) ?_
      obtain ⟨M22, q23, q14⟩ := bd1_s q14
      refine x_callV (ci := 0) (q := (RX1, TX1, 17)) (As := [.int x3, .int (imin x10 x8), .int (20 : Int32)]) hC (c_X1_addToStack l G M20 (kr_3_0 hi0) x3 (imin x10 x8) (20 : Int32) q23) kc_yX1_addToStack km_X8_205 ki_yX1_addToStack kv_yX1_addToStack kn_RX1 ky_yX1_addToStack rfl ⟨rfl, rfl⟩ ⟨(Nat.le_of_ble_eq_true rfl), (Nat.le_of_ble_eq_true rfl)⟩ (kr_3_0 hi0) (by decide) rfl rfl (Nat.le_of_ble_eq_true rfl) ⟨(Nat.le_of_ble_eq_true rfl), (Nat.le_of_ble_eq_true rfl)⟩ dX8_cut_100 (fun b24 => ?_)
      cases q14
      exact x_sub [3, 4, 0] rfl kj

theorem dX8_turn_0 : decode cX8_turn 0 = .ok (.aload_n 0, 1) := by decide +kernel
theorem dX8_turn_1 : decode cX8_turn 1 = .ok (.getfield 32, 3) := by decide +kernel
theorem dX8_turn_4 : decode cX8_turn 4 = .ok (.getfield 92, 3) := by decide +kernel
theorem dX8_turn_7 : decode cX8_turn 7 = .ok (.aload_n 0, 1) := by decide +kernel
theorem dX8_turn_8 : decode cX8_turn 8 = .ok (.getfield 32, 3) := by decide +kernel
theorem dX8_turn_11 : decode cX8_turn 11 = .ok (.getfield 95, 3) := by decide +kernel
theorem dX8_turn_14 : decode cX8_turn 14 = .ok (.invokestatic 98, 3) := by decide +kernel
theorem dX8_turn_17 : decode cX8_turn 17 = .ok (.istore_n 2, 1) := by decide +kernel
theorem dX8_turn_18 : decode cX8_turn 18 = .ok (.aload_n 0, 1) := by decide +kernel
theorem dX8_turn_19 : decode cX8_turn 19 = .ok (.getfield 22, 3) := by decide +kernel
theorem dX8_turn_22 : decode cX8_turn 22 = .ok (.getfield 105, 3) := by decide +kernel
theorem dX8_turn_25 : decode cX8_turn 25 = .ok (.iload_n 2, 1) := by decide +kernel
theorem dX8_turn_26 : decode cX8_turn 26 = .ok (.iaload, 1) := by decide +kernel
theorem dX8_turn_27 : decode cX8_turn 27 = .ok (.ifCond .le 13, 3) := by decide +kernel
theorem dX8_turn_30 : decode cX8_turn 30 = .ok (.aload_n 0, 1) := by decide +kernel
theorem dX8_turn_31 : decode cX8_turn 31 = .ok (.getfield 22, 3) := by decide +kernel
theorem dX8_turn_34 : decode cX8_turn 34 = .ok (.getfield 212, 3) := by decide +kernel
theorem dX8_turn_37 : decode cX8_turn 37 = .ok (.iload_n 2, 1) := by decide +kernel
theorem dX8_turn_38 : decode cX8_turn 38 = .ok (.iconst 1, 1) := by decide +kernel
theorem dX8_turn_39 : decode cX8_turn 39 = .ok (.iastore, 1) := by decide +kernel
theorem dX8_turn_40 : decode cX8_turn 40 = .ok (.aload_n 0, 1) := by decide +kernel
theorem dX8_turn_41 : decode cX8_turn 41 = .ok (.iload_n 1, 1) := by decide +kernel
theorem dX8_turn_42 : decode cX8_turn 42 = .ok (.aload_n 0, 1) := by decide +kernel
theorem dX8_turn_43 : decode cX8_turn 43 = .ok (.getfield 22, 3) := by decide +kernel
theorem dX8_turn_46 : decode cX8_turn 46 = .ok (.getfield 105, 3) := by decide +kernel
theorem dX8_turn_49 : decode cX8_turn 49 = .ok (.iload_n 2, 1) := by decide +kernel
theorem dX8_turn_50 : decode cX8_turn 50 = .ok (.iaload, 1) := by decide +kernel
theorem dX8_turn_51 : decode cX8_turn 51 = .ok (.invokevirtual 209, 3) := by decide +kernel
theorem dX8_turn_54 : decode cX8_turn 54 = .ok (.ireturn, 1) := by decide +kernel

def f_X8_turn (i0 : Nat) (a1 : Int32) (M : Mm) : Option (Int32 × Mm) :=
  if okr 1 (M i0 1) then (if okr 1 (M i0 1) then (lz (f_X9_cellAt (M (rid (M i0 1)) 0) (M (rid (M i0 1)) 1)) fun x3 => if 0 ≤ x3.toInt ∧ x3.toInt < ((64 : Nat) : Int) then (bd1 (if ((M ((wbog i0) + 4) (ix x3)) ≤ 0) then (some (M)) else (if 0 ≤ x3.toInt ∧ x3.toInt < ((64 : Nat) : Int) then (lz (wr M ((wbog i0) + 6) (ix x3) (1 : Int32)) fun M10 => some (M10)) else none)) fun M12 => if 0 ≤ x3.toInt ∧ x3.toInt < ((64 : Nat) : Int) then (bd2 (f_X8_endHour i0 a1 (M12 ((wbog i0) + 4) (ix x3)) M12) fun x14 M15 => some (x14, M15)) else none) else none) else none) else none

set_option maxHeartbeats 4000000 in
set_option maxRecDepth 100000 in
theorem c_X8_turn (l : Launch) (G : GG) (M : Mm) {i0 : Nat} (hi0 : (kd i0).1 = 3) (a1 : Int32) {r : Int32} {M9 : Mm} (hr : f_X8_turn i0 a1 M = some (r, M9)) : Mo true l yX8_turn (WS yX8_turn cX8_turn 3 (some .boolean)) (RM 1 0 0 22) 0 0 [.ref (G.2.1 i0), .int a1] G M (some (.int r)) M9 := by
  refine Mo.of (by decide +kernel) (Nat.le_of_ble_eq_true rfl) ?_
  intro p e s m args below meth c hC
  have hC : CX p s m args meth c cX8_turn 3 RX8 (some .boolean) G := hC
  rw [f_X8_turn] at hr
  show XJ p l e (RM 1 0 0 22) s m args below meth c G 3 _ 0 0 M 0 [(0, .ref (G.2.1 i0)), (1, .int a1)] []
  refine x_aload_n hC dX8_turn_0 rfl 0 rfl ?_
  obtain ⟨h1, hr⟩ := it_s hr
  refine gf_X8_32 hC hi0 h1 dX8_turn_1 ?_
  refine gf_X8_92 hC h1.2 dX8_turn_4 ?_
  refine x_aload_n hC dX8_turn_7 rfl 0 rfl ?_
  obtain ⟨h2, hr⟩ := it_s hr
  refine gf_X8_32 hC hi0 h2 dX8_turn_8 ?_
  refine gf_X8_95 hC h2.2 dX8_turn_11 ?_
  obtain ⟨x3, e4, hr⟩ := lz_s hr
  refine x_callSN (As := [.int (M (rid (M i0 1)) 0), .int (M (rid (M i0 1)) 1)]) hC (c_X9_cellAt l G M (M (rid (M i0 1)) 0) (M (rid (M i0 1)) 1) e4.symm) kc_yX9_cellAt kmn_X8_98 kt_yX9_cellAt kn_RX9 ky_yX9_cellAt rfl ⟨rfl, rfl⟩ ⟨(Nat.le_of_ble_eq_true rfl), (Nat.le_of_ble_eq_true rfl)⟩ rfl (Nat.le_of_ble_eq_true rfl) ⟨(Nat.le_of_ble_eq_true rfl), (Nat.le_of_ble_eq_true rfl)⟩ dX8_turn_14 (fun b5 => ?_)
  refine x_istore_n hC [(2, .int x3), (0, .ref (G.2.1 i0)), (1, .int a1)] dX8_turn_17 rfl (Nat.le_of_ble_eq_true rfl) rfl ?_
  refine x_aload_n hC dX8_turn_18 rfl 1 rfl ?_
  refine gf_X8_22 hC hi0 dX8_turn_19 ?_
  refine gf_X8_105 hC (kr_3_0 hi0) dX8_turn_22 ?_
  refine x_iload_n hC dX8_turn_25 rfl 0 rfl ?_
  obtain ⟨h6, hr⟩ := it_s hr
  refine x_iald hC (kr_0_3 (kr_3_0 hi0)) h6 dX8_turn_26 ?_
  obtain ⟨M12, q7, hr⟩ := bd1_s hr
  refine x_join (M' := M12) (pc' := 40) (lv' := [(0, .ref (G.2.1 i0)), (1, .int a1), (2, .int x3)]) (st' := []) ?_ ?_
  · refine x_aload_n hC dX8_turn_40 rfl 0 rfl ?_
    refine x_iload_n hC dX8_turn_41 rfl 1 rfl ?_
    refine x_aload_n hC dX8_turn_42 rfl 0 rfl ?_
    refine gf_X8_22 hC hi0 dX8_turn_43 ?_
    refine gf_X8_105 hC (kr_3_0 hi0) dX8_turn_46 ?_
    refine x_iload_n hC dX8_turn_49 rfl 2 rfl ?_
    obtain ⟨h13, hr⟩ := it_s hr
    refine x_iald hC (kr_0_3 (kr_3_0 hi0)) h13 dX8_turn_50 ?_
    obtain ⟨x14, M15, q16, hr⟩ := bd2_s hr
    refine x_callV (ci := 3) (q := (RX8, TX8, 5)) (As := [.int a1, .int (M12 ((wbog i0) + 4) (ix x3))]) hC (c_X8_endHour l G M12 hi0 a1 (M12 ((wbog i0) + 4) (ix x3)) q16) kc_yX8_endHour km_X8_209 ki_yX8_endHour kv_yX8_endHour kn_RX8 ky_yX8_endHour rfl ⟨rfl, rfl⟩ ⟨(Nat.le_of_ble_eq_true rfl), (Nat.le_of_ble_eq_true rfl)⟩ hi0 (by decide) rfl rfl (Nat.le_of_ble_eq_true rfl) ⟨(Nat.le_of_ble_eq_true rfl), (Nat.le_of_ble_eq_true rfl)⟩ dX8_turn_51 (fun b17 => ?_)
    cases hr
    exact x_zret hC rfl (BV.out b17) dX8_turn_54
  · intro kj
    refine x_if_le hC 40 dX8_turn_27 (by decide) (fun h8 => ?_) (fun h8 => ?_)
    · have q7 := (ie_s q7).1 h8
      cases q7
      exact x_sub [1, 2, 0] rfl kj
    · have q7 := (ie_s q7).2 h8
      refine x_aload_n hC dX8_turn_30 rfl 1 rfl ?_
      refine gf_X8_22 hC hi0 dX8_turn_31 ?_
      refine gf_X8_212 hC (kr_3_0 hi0) dX8_turn_34 ?_
      refine x_iload_n hC dX8_turn_37 rfl 0 rfl ?_
      refine x_iconst hC (1 : Int32) dX8_turn_38 (by decide) ?_
      obtain ⟨h9, q7⟩ := it_s q7
      obtain ⟨M10, e11, q7⟩ := lz_s q7
      refine x_iast hC (kr_0_5 (kr_3_0 hi0)) h9 e11 dX8_turn_39 ?_
      cases q7
      exact x_sub [1, 2, 0] rfl kj

theorem dX8_load_0 : decode cX8_load 0 = .ok (.aload_n 0, 1) := by decide +kernel
theorem dX8_load_1 : decode cX8_load 1 = .ok (.getfield 32, 3) := by decide +kernel
theorem dX8_load_4 : decode cX8_load 4 = .ok (.getfield 92, 3) := by decide +kernel
theorem dX8_load_7 : decode cX8_load 7 = .ok (.aload_n 0, 1) := by decide +kernel
theorem dX8_load_8 : decode cX8_load 8 = .ok (.getfield 32, 3) := by decide +kernel
theorem dX8_load_11 : decode cX8_load 11 = .ok (.getfield 95, 3) := by decide +kernel
theorem dX8_load_14 : decode cX8_load 14 = .ok (.invokestatic 98, 3) := by decide +kernel
theorem dX8_load_17 : decode cX8_load 17 = .ok (.istore_n 2, 1) := by decide +kernel
theorem dX8_load_18 : decode cX8_load 18 = .ok (.aload_n 0, 1) := by decide +kernel
theorem dX8_load_19 : decode cX8_load 19 = .ok (.invokevirtual 85, 3) := by decide +kernel
theorem dX8_load_22 : decode cX8_load 22 = .ok (.aload_n 0, 1) := by decide +kernel
theorem dX8_load_23 : decode cX8_load 23 = .ok (.getfield 22, 3) := by decide +kernel
theorem dX8_load_26 : decode cX8_load 26 = .ok (.getfield 105, 3) := by decide +kernel
theorem dX8_load_29 : decode cX8_load 29 = .ok (.iload_n 2, 1) := by decide +kernel
theorem dX8_load_30 : decode cX8_load 30 = .ok (.iaload, 1) := by decide +kernel
theorem dX8_load_31 : decode cX8_load 31 = .ok (.bipush 40, 2) := by decide +kernel
theorem dX8_load_33 : decode cX8_load 33 = .ok (.aload_n 0, 1) := by decide +kernel
theorem dX8_load_34 : decode cX8_load 34 = .ok (.getfield 32, 3) := by decide +kernel
theorem dX8_load_37 : decode cX8_load 37 = .ok (.getfield 114, 3) := by decide +kernel
theorem dX8_load_40 : decode cX8_load 40 = .ok (.isub, 1) := by decide +kernel
theorem dX8_load_41 : decode cX8_load 41 = .ok (.invokestatic 135, 3) := by decide +kernel
theorem dX8_load_44 : decode cX8_load 44 = .ok (.invokestatic 135, 3) := by decide +kernel
theorem dX8_load_47 : decode cX8_load 47 = .ok (.istore_n 3, 1) := by decide +kernel
theorem dX8_load_48 : decode cX8_load 48 = .ok (.iload_n 3, 1) := by decide +kernel
theorem dX8_load_49 : decode cX8_load 49 = .ok (.ifCond .le 29, 3) := by decide +kernel
theorem dX8_load_52 : decode cX8_load 52 = .ok (.aload_n 0, 1) := by decide +kernel
theorem dX8_load_53 : decode cX8_load 53 = .ok (.getfield 32, 3) := by decide +kernel
theorem dX8_load_56 : decode cX8_load 56 = .ok (.iload_n 3, 1) := by decide +kernel
theorem dX8_load_57 : decode cX8_load 57 = .ok (.aload_n 0, 1) := by decide +kernel
theorem dX8_load_58 : decode cX8_load 58 = .ok (.getfield 22, 3) := by decide +kernel
theorem dX8_load_61 : decode cX8_load 61 = .ok (.getfield 108, 3) := by decide +kernel
theorem dX8_load_64 : decode cX8_load 64 = .ok (.iload_n 2, 1) := by decide +kernel
theorem dX8_load_65 : decode cX8_load 65 = .ok (.iaload, 1) := by decide +kernel
theorem dX8_load_66 : decode cX8_load 66 = .ok (.invokevirtual 215, 3) := by decide +kernel
theorem dX8_load_69 : decode cX8_load 69 = .ok (.aload_n 0, 1) := by decide +kernel
theorem dX8_load_70 : decode cX8_load 70 = .ok (.getfield 22, 3) := by decide +kernel
theorem dX8_load_73 : decode cX8_load 73 = .ok (.iload_n 2, 1) := by decide +kernel
theorem dX8_load_74 : decode cX8_load 74 = .ok (.iload_n 3, 1) := by decide +kernel
theorem dX8_load_75 : decode cX8_load 75 = .ok (.invokevirtual 218, 3) := by decide +kernel
theorem dX8_load_78 : decode cX8_load 78 = .ok (.aload_n 0, 1) := by decide +kernel
theorem dX8_load_79 : decode cX8_load 79 = .ok (.iload_n 1, 1) := by decide +kernel
theorem dX8_load_80 : decode cX8_load 80 = .ok (.iload_n 3, 1) := by decide +kernel
theorem dX8_load_81 : decode cX8_load 81 = .ok (.invokevirtual 209, 3) := by decide +kernel
theorem dX8_load_84 : decode cX8_load 84 = .ok (.ireturn, 1) := by decide +kernel

def f_X8_load (i0 : Nat) (a1 : Int32) (M : Mm) : Option (Int32 × Mm) :=
  if okr 1 (M i0 1) then (if okr 1 (M i0 1) then (lz (f_X9_cellAt (M (rid (M i0 1)) 0) (M (rid (M i0 1)) 1)) fun x3 => bd2 (f_X8_pop i0 M) fun x6 M7 => if 0 ≤ x3.toInt ∧ x3.toInt < ((64 : Nat) : Int) then (if okr 1 (M7 i0 1) then (lz (imin (M7 ((wbog i0) + 4) (ix x3)) ((40 : Int32) - (M7 (rid (M7 i0 1)) 2))) fun x12 => bd1 (if ((imin x6 x12) ≤ 0) then (some (M7)) else (if okr 1 (M7 i0 1) then (if 0 ≤ x3.toInt ∧ x3.toInt < ((64 : Nat) : Int) then (bd1 (f_X2_addToCart (rid (M7 i0 1)) (imin x6 x12) (M7 ((wbog i0) + 5) (ix x3)) M7) fun M18 => bd1 (f_X1_takeFromStack (wbog i0) x3 (imin x6 x12) M18) fun M21 => some (M21)) else none) else none)) fun M24 => bd2 (f_X8_endHour i0 a1 (imin x6 x12) M24) fun x25 M26 => some (x25, M26)) else none) else none) else none) else none

set_option maxHeartbeats 4000000 in
set_option maxRecDepth 100000 in
theorem c_X8_load (l : Launch) (G : GG) (M : Mm) {i0 : Nat} (hi0 : (kd i0).1 = 3) (a1 : Int32) {r : Int32} {M9 : Mm} (hr : f_X8_load i0 a1 M = some (r, M9)) : Mo true l yX8_load (WS yX8_load cX8_load 4 (some .boolean)) (RM 2 0 0 46) 0 0 [.ref (G.2.1 i0), .int a1] G M (some (.int r)) M9 := by
  refine Mo.of (by decide +kernel) (Nat.le_of_ble_eq_true rfl) ?_
  intro p e s m args below meth c hC
  have hC : CX p s m args meth c cX8_load 4 RX8 (some .boolean) G := hC
  rw [f_X8_load] at hr
  show XJ p l e (RM 2 0 0 46) s m args below meth c G 4 _ 0 0 M 0 [(0, .ref (G.2.1 i0)), (1, .int a1)] []
  refine x_aload_n hC dX8_load_0 rfl 0 rfl ?_
  obtain ⟨h1, hr⟩ := it_s hr
  refine gf_X8_32 hC hi0 h1 dX8_load_1 ?_
  refine gf_X8_92 hC h1.2 dX8_load_4 ?_
  refine x_aload_n hC dX8_load_7 rfl 0 rfl ?_
  obtain ⟨h2, hr⟩ := it_s hr
  refine gf_X8_32 hC hi0 h2 dX8_load_8 ?_
  refine gf_X8_95 hC h2.2 dX8_load_11 ?_
  obtain ⟨x3, e4, hr⟩ := lz_s hr
  refine x_callSN (As := [.int (M (rid (M i0 1)) 0), .int (M (rid (M i0 1)) 1)]) hC (c_X9_cellAt l G M (M (rid (M i0 1)) 0) (M (rid (M i0 1)) 1) e4.symm) kc_yX9_cellAt kmn_X8_98 kt_yX9_cellAt kn_RX9 ky_yX9_cellAt rfl ⟨rfl, rfl⟩ ⟨(Nat.le_of_ble_eq_true rfl), (Nat.le_of_ble_eq_true rfl)⟩ rfl (Nat.le_of_ble_eq_true rfl) ⟨(Nat.le_of_ble_eq_true rfl), (Nat.le_of_ble_eq_true rfl)⟩ dX8_load_14 (fun b5 => ?_)
  refine x_istore_n hC [(2, .int x3), (0, .ref (G.2.1 i0)), (1, .int a1)] dX8_load_17 rfl (Nat.le_of_ble_eq_true rfl) rfl ?_
  refine x_aload_n hC dX8_load_18 rfl 1 rfl ?_
  obtain ⟨x6, M7, q8, hr⟩ := bd2_s hr
  refine x_callV (ci := 3) (q := (RX8, TX8, 5)) (As := []) hC (c_X8_pop l G M hi0 q8) kc_yX8_pop km_X8_85 ki_yX8_pop kv_yX8_pop kn_RX8 ky_yX8_pop rfl ⟨rfl, rfl⟩ ⟨(Nat.le_of_ble_eq_true rfl), (Nat.le_of_ble_eq_true rfl)⟩ hi0 (by decide) rfl rfl (Nat.le_of_ble_eq_true rfl) ⟨(Nat.le_of_ble_eq_true rfl), (Nat.le_of_ble_eq_true rfl)⟩ dX8_load_19 (fun b9 => ?_)
  refine x_aload_n hC dX8_load_22 rfl 1 rfl ?_
  refine gf_X8_22 hC hi0 dX8_load_23 ?_
  refine gf_X8_105 hC (kr_3_0 hi0) dX8_load_26 ?_
  refine x_iload_n hC dX8_load_29 rfl 0 rfl ?_
  obtain ⟨h10, hr⟩ := it_s hr
  refine x_iald hC (kr_0_3 (kr_3_0 hi0)) h10 dX8_load_30 ?_
  refine x_bipush hC (40 : Int32) dX8_load_31 (by decide) ?_
  refine x_aload_n hC dX8_load_33 rfl 1 rfl ?_
  obtain ⟨h11, hr⟩ := it_s hr
  refine gf_X8_32 hC hi0 h11 dX8_load_34 ?_
  refine gf_X8_114 hC h11.2 dX8_load_37 ?_
  refine x_isub hC dX8_load_40 ?_
  refine x_mmin hC km_X8_135 kt_Mmin kn_Math kc_Mmin (Nat.le_of_ble_eq_true rfl) (Nat.le_of_ble_eq_true rfl) ⟨(Nat.le_of_ble_eq_true rfl), (Nat.le_of_ble_eq_true rfl)⟩ dX8_load_41 ?_
  obtain ⟨x12, e13, hr⟩ := lz_s hr
  refine x_topi e13 ?_
  refine x_mmin hC km_X8_135 kt_Mmin kn_Math kc_Mmin (Nat.le_of_ble_eq_true rfl) (Nat.le_of_ble_eq_true rfl) ⟨(Nat.le_of_ble_eq_true rfl), (Nat.le_of_ble_eq_true rfl)⟩ dX8_load_44 ?_
  refine x_istore_n hC [(3, .int (imin x6 x12)), (2, .int x3), (0, .ref (G.2.1 i0)), (1, .int a1)] dX8_load_47 rfl (Nat.le_of_ble_eq_true rfl) rfl ?_
  refine x_iload_n hC dX8_load_48 rfl 0 rfl ?_
  obtain ⟨M24, q14, hr⟩ := bd1_s hr
  refine x_join (M' := M24) (pc' := 78) (lv' := [(0, .ref (G.2.1 i0)), (1, .int a1), (3, .int (imin x6 x12))]) (st' := []) ?_ ?_
  · refine x_aload_n hC dX8_load_78 rfl 0 rfl ?_
    refine x_iload_n hC dX8_load_79 rfl 1 rfl ?_
    refine x_iload_n hC dX8_load_80 rfl 2 rfl ?_
    obtain ⟨x25, M26, q27, hr⟩ := bd2_s hr
    refine x_callV (ci := 3) (q := (RX8, TX8, 5)) (As := [.int a1, .int (imin x6 x12)]) hC (c_X8_endHour l G M24 hi0 a1 (imin x6 x12) q27) kc_yX8_endHour km_X8_209 ki_yX8_endHour kv_yX8_endHour kn_RX8 ky_yX8_endHour rfl ⟨rfl, rfl⟩ ⟨(Nat.le_of_ble_eq_true rfl), (Nat.le_of_ble_eq_true rfl)⟩ hi0 (by decide) rfl rfl (Nat.le_of_ble_eq_true rfl) ⟨(Nat.le_of_ble_eq_true rfl), (Nat.le_of_ble_eq_true rfl)⟩ dX8_load_81 (fun b28 => ?_)
    cases hr
    exact x_zret hC rfl (BV.out b28) dX8_load_84
  · intro kj
    refine x_if_le hC 78 dX8_load_49 (by decide) (fun h15 => ?_) (fun h15 => ?_)
    · have q14 := (ie_s q14).1 h15
      cases q14
      exact x_sub [2, 3, 0] rfl kj
    · have q14 := (ie_s q14).2 h15
      refine x_aload_n hC dX8_load_52 rfl 2 rfl ?_
      obtain ⟨h16, q14⟩ := it_s q14
      refine gf_X8_32 hC hi0 h16 dX8_load_53 ?_
      refine x_iload_n hC dX8_load_56 rfl 0 rfl ?_
      refine x_aload_n hC dX8_load_57 rfl 2 rfl ?_
      refine gf_X8_22 hC hi0 dX8_load_58 ?_
      refine gf_X8_108 hC (kr_3_0 hi0) dX8_load_61 ?_
      refine x_iload_n hC dX8_load_64 rfl 1 rfl ?_
      obtain ⟨h17, q14⟩ := it_s q14
      refine x_iald hC (kr_0_4 (kr_3_0 hi0)) h17 dX8_load_65 ?_
      obtain ⟨M18, q19, q14⟩ := bd1_s q14
      refine x_callV (ci := 1) (q := (RX2, TX2, 11)) (As := [.int (imin x6 x12), .int (M7 ((wbog i0) + 5) (ix x3))]) hC (c_X2_addToCart l G M7 h16.2 (imin x6 x12) (M7 ((wbog i0) + 5) (ix x3)) q19) kc_yX2_addToCart km_X8_215 ki_yX2_addToCart kv_yX2_addToCart kn_RX2 ky_yX2_addToCart rfl ⟨rfl, rfl⟩ ⟨(Nat.le_of_ble_eq_true rfl), (Nat.le_of_ble_eq_true rfl)⟩ h16.2 (by decide) rfl rfl (Nat.le_of_ble_eq_true rfl) ⟨(Nat.le_of_ble_eq_true rfl), (Nat.le_of_ble_eq_true rfl)⟩ dX8_load_66 (fun b20 => ?_)
      refine x_aload_n hC dX8_load_69 rfl 2 rfl ?_
      refine gf_X8_22 hC hi0 dX8_load_70 ?_
      refine x_iload_n hC dX8_load_73 rfl 1 rfl ?_
      refine x_iload_n hC dX8_load_74 rfl 0 rfl ?_
      obtain ⟨M21, q22, q14⟩ := bd1_s q14
      refine x_callV (ci := 0) (q := (RX1, TX1, 17)) (As := [.int x3, .int (imin x6 x12)]) hC (c_X1_takeFromStack l G M18 (kr_3_0 hi0) x3 (imin x6 x12) q22) kc_yX1_takeFromStack km_X8_218 ki_yX1_takeFromStack kv_yX1_takeFromStack kn_RX1 ky_yX1_takeFromStack rfl ⟨rfl, rfl⟩ ⟨(Nat.le_of_ble_eq_true rfl), (Nat.le_of_ble_eq_true rfl)⟩ (kr_3_0 hi0) (by decide) rfl rfl (Nat.le_of_ble_eq_true rfl) ⟨(Nat.le_of_ble_eq_true rfl), (Nat.le_of_ble_eq_true rfl)⟩ dX8_load_75 (fun b23 => ?_)
      cases q14
      exact x_sub [2, 3, 0] rfl kj

theorem dX8_unload_0 : decode cX8_unload 0 = .ok (.aload_n 0, 1) := by decide +kernel
theorem dX8_unload_1 : decode cX8_unload 1 = .ok (.getfield 32, 3) := by decide +kernel
theorem dX8_unload_4 : decode cX8_unload 4 = .ok (.getfield 92, 3) := by decide +kernel
theorem dX8_unload_7 : decode cX8_unload 7 = .ok (.aload_n 0, 1) := by decide +kernel
theorem dX8_unload_8 : decode cX8_unload 8 = .ok (.getfield 32, 3) := by decide +kernel
theorem dX8_unload_11 : decode cX8_unload 11 = .ok (.getfield 95, 3) := by decide +kernel
theorem dX8_unload_14 : decode cX8_unload 14 = .ok (.invokestatic 98, 3) := by decide +kernel
theorem dX8_unload_17 : decode cX8_unload 17 = .ok (.istore_n 2, 1) := by decide +kernel
theorem dX8_unload_18 : decode cX8_unload 18 = .ok (.iload_n 2, 1) := by decide +kernel
theorem dX8_unload_19 : decode cX8_unload 19 = .ok (.ifCond .ne 13, 3) := by decide +kernel
theorem dX8_unload_22 : decode cX8_unload 22 = .ok (.aload_n 0, 1) := by decide +kernel
theorem dX8_unload_23 : decode cX8_unload 23 = .ok (.getfield 32, 3) := by decide +kernel
theorem dX8_unload_26 : decode cX8_unload 26 = .ok (.getfield 114, 3) := by decide +kernel
theorem dX8_unload_29 : decode cX8_unload 29 = .ok (.goto 25, 3) := by decide +kernel
theorem dX8_unload_32 : decode cX8_unload 32 = .ok (.aload_n 0, 1) := by decide +kernel
theorem dX8_unload_33 : decode cX8_unload 33 = .ok (.getfield 32, 3) := by decide +kernel
theorem dX8_unload_36 : decode cX8_unload 36 = .ok (.getfield 114, 3) := by decide +kernel
theorem dX8_unload_39 : decode cX8_unload 39 = .ok (.bipush 99, 2) := by decide +kernel
theorem dX8_unload_41 : decode cX8_unload 41 = .ok (.aload_n 0, 1) := by decide +kernel
theorem dX8_unload_42 : decode cX8_unload 42 = .ok (.getfield 22, 3) := by decide +kernel
theorem dX8_unload_45 : decode cX8_unload 45 = .ok (.getfield 105, 3) := by decide +kernel
theorem dX8_unload_48 : decode cX8_unload 48 = .ok (.iload_n 2, 1) := by decide +kernel
theorem dX8_unload_49 : decode cX8_unload 49 = .ok (.iaload, 1) := by decide +kernel
theorem dX8_unload_50 : decode cX8_unload 50 = .ok (.isub, 1) := by decide +kernel
theorem dX8_unload_51 : decode cX8_unload 51 = .ok (.invokestatic 135, 3) := by decide +kernel
theorem dX8_unload_54 : decode cX8_unload 54 = .ok (.istore_n 3, 1) := by decide +kernel
theorem dX8_unload_55 : decode cX8_unload 55 = .ok (.iload_n 3, 1) := by decide +kernel
theorem dX8_unload_56 : decode cX8_unload 56 = .ok (.ifCond .le 74, 3) := by decide +kernel
theorem dX8_unload_59 : decode cX8_unload 59 = .ok (.iload_n 2, 1) := by decide +kernel
theorem dX8_unload_60 : decode cX8_unload 60 = .ok (.ifCond .eq 22, 3) := by decide +kernel
theorem dX8_unload_63 : decode cX8_unload 63 = .ok (.aload_n 0, 1) := by decide +kernel
theorem dX8_unload_64 : decode cX8_unload 64 = .ok (.getfield 22, 3) := by decide +kernel
theorem dX8_unload_67 : decode cX8_unload 67 = .ok (.iload_n 2, 1) := by decide +kernel
theorem dX8_unload_68 : decode cX8_unload 68 = .ok (.iload_n 3, 1) := by decide +kernel
theorem dX8_unload_69 : decode cX8_unload 69 = .ok (.aload_n 0, 1) := by decide +kernel
theorem dX8_unload_70 : decode cX8_unload 70 = .ok (.getfield 32, 3) := by decide +kernel
theorem dX8_unload_73 : decode cX8_unload 73 = .ok (.getfield 117, 3) := by decide +kernel
theorem dX8_unload_76 : decode cX8_unload 76 = .ok (.invokevirtual 205, 3) := by decide +kernel
theorem dX8_unload_79 : decode cX8_unload 79 = .ok (.goto 43, 3) := by decide +kernel
theorem dX8_unload_82 : decode cX8_unload 82 = .ok (.aload_n 0, 1) := by decide +kernel
theorem dX8_unload_83 : decode cX8_unload 83 = .ok (.getfield 32, 3) := by decide +kernel
theorem dX8_unload_86 : decode cX8_unload 86 = .ok (.getfield 117, 3) := by decide +kernel
theorem dX8_unload_89 : decode cX8_unload 89 = .ok (.iconst 5, 1) := by decide +kernel
theorem dX8_unload_90 : decode cX8_unload 90 = .ok (.if_icmp .gt 19, 3) := by decide +kernel
theorem dX8_unload_93 : decode cX8_unload 93 = .ok (.aload_n 0, 1) := by decide +kernel
theorem dX8_unload_94 : decode cX8_unload 94 = .ok (.getfield 22, 3) := by decide +kernel
theorem dX8_unload_97 : decode cX8_unload 97 = .ok (.dup, 1) := by decide +kernel
theorem dX8_unload_98 : decode cX8_unload 98 = .ok (.getfield 132, 3) := by decide +kernel
theorem dX8_unload_101 : decode cX8_unload 101 = .ok (.iload_n 3, 1) := by decide +kernel
theorem dX8_unload_102 : decode cX8_unload 102 = .ok (.iadd, 1) := by decide +kernel
theorem dX8_unload_103 : decode cX8_unload 103 = .ok (.putfield 132, 3) := by decide +kernel
theorem dX8_unload_106 : decode cX8_unload 106 = .ok (.goto 16, 3) := by decide +kernel
theorem dX8_unload_109 : decode cX8_unload 109 = .ok (.aload_n 0, 1) := by decide +kernel
theorem dX8_unload_110 : decode cX8_unload 110 = .ok (.getfield 22, 3) := by decide +kernel
theorem dX8_unload_113 : decode cX8_unload 113 = .ok (.dup, 1) := by decide +kernel
theorem dX8_unload_114 : decode cX8_unload 114 = .ok (.getfield 221, 3) := by decide +kernel
theorem dX8_unload_117 : decode cX8_unload 117 = .ok (.iload_n 3, 1) := by decide +kernel
theorem dX8_unload_118 : decode cX8_unload 118 = .ok (.iadd, 1) := by decide +kernel
theorem dX8_unload_119 : decode cX8_unload 119 = .ok (.putfield 221, 3) := by decide +kernel
theorem dX8_unload_122 : decode cX8_unload 122 = .ok (.aload_n 0, 1) := by decide +kernel
theorem dX8_unload_123 : decode cX8_unload 123 = .ok (.getfield 32, 3) := by decide +kernel
theorem dX8_unload_126 : decode cX8_unload 126 = .ok (.iload_n 3, 1) := by decide +kernel
theorem dX8_unload_127 : decode cX8_unload 127 = .ok (.invokevirtual 224, 3) := by decide +kernel
theorem dX8_unload_130 : decode cX8_unload 130 = .ok (.aload_n 0, 1) := by decide +kernel
theorem dX8_unload_131 : decode cX8_unload 131 = .ok (.iload_n 1, 1) := by decide +kernel
theorem dX8_unload_132 : decode cX8_unload 132 = .ok (.iload_n 3, 1) := by decide +kernel
theorem dX8_unload_133 : decode cX8_unload 133 = .ok (.invokevirtual 209, 3) := by decide +kernel
theorem dX8_unload_136 : decode cX8_unload 136 = .ok (.ireturn, 1) := by decide +kernel

def f_X8_unload (i0 : Nat) (a1 : Int32) (M : Mm) : Option (Int32 × Mm) :=
  if okr 1 (M i0 1) then (if okr 1 (M i0 1) then (lz (f_X9_cellAt (M (rid (M i0 1)) 0) (M (rid (M i0 1)) 1)) fun x3 => bd1 (if (x3 = 0) then (if okr 1 (M i0 1) then (some ((M (rid (M i0 1)) 2))) else none) else (if okr 1 (M i0 1) then (if 0 ≤ x3.toInt ∧ x3.toInt < ((64 : Nat) : Int) then (lz (imin (M (rid (M i0 1)) 2) ((99 : Int32) - (M ((wbog i0) + 4) (ix x3)))) fun x10 => some (x10)) else none) else none)) fun x13 => bd1 (if (x13 ≤ 0) then (some (M)) else (bd1 (if (x3 = 0) then (if okr 1 (M i0 1) then (if ((5 : Int32) < (M (rid (M i0 1)) 3)) then (lz (wr M (wbog i0) 11 ((M (wbog i0) 11) + x13)) fun M20 => some (M20)) else (lz (wr M (wbog i0) 10 ((M (wbog i0) 10) + x13)) fun M22 => some (M22))) else none) else (if okr 1 (M i0 1) then (bd1 (f_X1_addToStack (wbog i0) x3 x13 (M (rid (M i0 1)) 3) M) fun M25 => some (M25)) else none)) fun M28 => if okr 1 (M28 i0 1) then (bd1 (f_X2_takeFromCart (rid (M28 i0 1)) x13 M28) fun M30 => some (M30)) else none)) fun M33 => bd2 (f_X8_endHour i0 a1 x13 M33) fun x34 M35 => some (x34, M35)) else none) else none

set_option maxHeartbeats 4000000 in
set_option maxRecDepth 100000 in
theorem c_X8_unload (l : Launch) (G : GG) (M : Mm) {i0 : Nat} (hi0 : (kd i0).1 = 3) (a1 : Int32) {r : Int32} {M9 : Mm} (hr : f_X8_unload i0 a1 M = some (r, M9)) : Mo true l yX8_unload (WS yX8_unload cX8_unload 4 (some .boolean)) (RM 2 0 0 47) 0 0 [.ref (G.2.1 i0), .int a1] G M (some (.int r)) M9 := by
  refine Mo.of (by decide +kernel) (Nat.le_of_ble_eq_true rfl) ?_
  intro p e s m args below meth c hC
  have hC : CX p s m args meth c cX8_unload 4 RX8 (some .boolean) G := hC
  rw [f_X8_unload] at hr
  show XJ p l e (RM 2 0 0 47) s m args below meth c G 4 _ 0 0 M 0 [(0, .ref (G.2.1 i0)), (1, .int a1)] []
  refine x_aload_n hC dX8_unload_0 rfl 0 rfl ?_
  obtain ⟨h1, hr⟩ := it_s hr
  refine gf_X8_32 hC hi0 h1 dX8_unload_1 ?_
  refine gf_X8_92 hC h1.2 dX8_unload_4 ?_
  refine x_aload_n hC dX8_unload_7 rfl 0 rfl ?_
  obtain ⟨h2, hr⟩ := it_s hr
  refine gf_X8_32 hC hi0 h2 dX8_unload_8 ?_
  refine gf_X8_95 hC h2.2 dX8_unload_11 ?_
  obtain ⟨x3, e4, hr⟩ := lz_s hr
  refine x_callSN (As := [.int (M (rid (M i0 1)) 0), .int (M (rid (M i0 1)) 1)]) hC (c_X9_cellAt l G M (M (rid (M i0 1)) 0) (M (rid (M i0 1)) 1) e4.symm) kc_yX9_cellAt kmn_X8_98 kt_yX9_cellAt kn_RX9 ky_yX9_cellAt rfl ⟨rfl, rfl⟩ ⟨(Nat.le_of_ble_eq_true rfl), (Nat.le_of_ble_eq_true rfl)⟩ rfl (Nat.le_of_ble_eq_true rfl) ⟨(Nat.le_of_ble_eq_true rfl), (Nat.le_of_ble_eq_true rfl)⟩ dX8_unload_14 (fun b5 => ?_)
  refine x_istore_n hC [(2, .int x3), (0, .ref (G.2.1 i0)), (1, .int a1)] dX8_unload_17 rfl (Nat.le_of_ble_eq_true rfl) rfl ?_
  refine x_iload_n hC dX8_unload_18 rfl 0 rfl ?_
  obtain ⟨x13, q6, hr⟩ := bd1_s hr
  refine x_join (M' := M) (pc' := 54) (lv' := [(0, .ref (G.2.1 i0)), (1, .int a1), (2, .int x3)]) (st' := [.int x13]) ?_ ?_
  · refine x_istore_n hC [(3, .int x13), (0, .ref (G.2.1 i0)), (1, .int a1), (2, .int x3)] dX8_unload_54 rfl (Nat.le_of_ble_eq_true rfl) rfl ?_
    refine x_iload_n hC dX8_unload_55 rfl 0 rfl ?_
    obtain ⟨M33, q14, hr⟩ := bd1_s hr
    refine x_join (M' := M33) (pc' := 130) (lv' := [(0, .ref (G.2.1 i0)), (1, .int a1), (3, .int x13)]) (st' := []) ?_ ?_
    · refine x_aload_n hC dX8_unload_130 rfl 0 rfl ?_
      refine x_iload_n hC dX8_unload_131 rfl 1 rfl ?_
      refine x_iload_n hC dX8_unload_132 rfl 2 rfl ?_
      obtain ⟨x34, M35, q36, hr⟩ := bd2_s hr
      refine x_callV (ci := 3) (q := (RX8, TX8, 5)) (As := [.int a1, .int x13]) hC (c_X8_endHour l G M33 hi0 a1 x13 q36) kc_yX8_endHour km_X8_209 ki_yX8_endHour kv_yX8_endHour kn_RX8 ky_yX8_endHour rfl ⟨rfl, rfl⟩ ⟨(Nat.le_of_ble_eq_true rfl), (Nat.le_of_ble_eq_true rfl)⟩ hi0 (by decide) rfl rfl (Nat.le_of_ble_eq_true rfl) ⟨(Nat.le_of_ble_eq_true rfl), (Nat.le_of_ble_eq_true rfl)⟩ dX8_unload_133 (fun b37 => ?_)
      cases hr
      exact x_zret hC rfl (BV.out b37) dX8_unload_136
    · intro kj
      refine x_if_le hC 130 dX8_unload_56 (by decide) (fun h15 => ?_) (fun h15 => ?_)
      · have q14 := (ie_s q14).1 h15
        cases q14
        exact x_sub [1, 2, 0] rfl kj
      · have q14 := (ie_s q14).2 h15
        refine x_iload_n hC dX8_unload_59 rfl 3 rfl ?_
        obtain ⟨M28, q16, q14⟩ := bd1_s q14
        refine x_join (M' := M28) (pc' := 122) (lv' := [(0, .ref (G.2.1 i0)), (1, .int a1), (3, .int x13)]) (st' := []) ?_ ?_
        · refine x_aload_n hC dX8_unload_122 rfl 0 rfl ?_
          obtain ⟨h29, q14⟩ := it_s q14
          refine gf_X8_32 hC hi0 h29 dX8_unload_123 ?_
          refine x_iload_n hC dX8_unload_126 rfl 2 rfl ?_
          obtain ⟨M30, q31, q14⟩ := bd1_s q14
          refine x_callV (ci := 1) (q := (RX2, TX2, 11)) (As := [.int x13]) hC (c_X2_takeFromCart l G M28 h29.2 x13 q31) kc_yX2_takeFromCart km_X8_224 ki_yX2_takeFromCart kv_yX2_takeFromCart kn_RX2 ky_yX2_takeFromCart rfl ⟨rfl, rfl⟩ ⟨(Nat.le_of_ble_eq_true rfl), (Nat.le_of_ble_eq_true rfl)⟩ h29.2 (by decide) rfl rfl (Nat.le_of_ble_eq_true rfl) ⟨(Nat.le_of_ble_eq_true rfl), (Nat.le_of_ble_eq_true rfl)⟩ dX8_unload_127 (fun b32 => ?_)
          cases q14
          exact x_sub [0, 1, 2] rfl kj
        · intro kj
          refine x_if_eq hC 82 dX8_unload_60 (by decide) (fun h17 => ?_) (fun h17 => ?_)
          · have q16 := (ie_s q16).1 h17
            refine x_aload_n hC dX8_unload_82 rfl 1 rfl ?_
            obtain ⟨h18, q16⟩ := it_s q16
            refine gf_X8_32 hC hi0 h18 dX8_unload_83 ?_
            refine gf_X8_117 hC h18.2 dX8_unload_86 ?_
            refine x_iconst hC (5 : Int32) dX8_unload_89 (by decide) ?_
            refine x_icmp_gt hC 109 dX8_unload_90 (by decide) (fun h19 => ?_) (fun h19 => ?_)
            · have q16 := (ie_s q16).1 h19
              refine x_aload_n hC dX8_unload_109 rfl 1 rfl ?_
              refine gf_X8_22 hC hi0 dX8_unload_110 ?_
              refine x_dup hC dX8_unload_113 rfl ?_
              refine gf_X8_221 hC (kr_3_0 hi0) dX8_unload_114 ?_
              refine x_iload_n hC dX8_unload_117 rfl 0 rfl ?_
              refine x_iadd hC dX8_unload_118 ?_
              obtain ⟨M20, e21, q16⟩ := lz_s q16
              refine pf_X8_221 hC (kr_3_0 hi0) e21 dX8_unload_119 ?_
              cases q16
              exact x_sub [1, 2, 0] rfl kj
            · have q16 := (ie_s q16).2 h19
              refine x_aload_n hC dX8_unload_93 rfl 1 rfl ?_
              refine gf_X8_22 hC hi0 dX8_unload_94 ?_
              refine x_dup hC dX8_unload_97 rfl ?_
              refine gf_X8_132 hC (kr_3_0 hi0) dX8_unload_98 ?_
              refine x_iload_n hC dX8_unload_101 rfl 0 rfl ?_
              refine x_iadd hC dX8_unload_102 ?_
              obtain ⟨M22, e23, q16⟩ := lz_s q16
              refine pf_X8_132 hC (kr_3_0 hi0) e23 dX8_unload_103 ?_
              refine x_goto hC 122 dX8_unload_106 (by decide) ?_
              cases q16
              exact x_sub [1, 2, 0] rfl kj
          · have q16 := (ie_s q16).2 h17
            refine x_aload_n hC dX8_unload_63 rfl 1 rfl ?_
            refine gf_X8_22 hC hi0 dX8_unload_64 ?_
            refine x_iload_n hC dX8_unload_67 rfl 3 rfl ?_
            refine x_iload_n hC dX8_unload_68 rfl 0 rfl ?_
            refine x_aload_n hC dX8_unload_69 rfl 1 rfl ?_
            obtain ⟨h24, q16⟩ := it_s q16
            refine gf_X8_32 hC hi0 h24 dX8_unload_70 ?_
            refine gf_X8_117 hC h24.2 dX8_unload_73 ?_
            obtain ⟨M25, q26, q16⟩ := bd1_s q16
            refine x_callV (ci := 0) (q := (RX1, TX1, 17)) (As := [.int x3, .int x13, .int (M (rid (M i0 1)) 3)]) hC (c_X1_addToStack l G M (kr_3_0 hi0) x3 x13 (M (rid (M i0 1)) 3) q26) kc_yX1_addToStack km_X8_205 ki_yX1_addToStack kv_yX1_addToStack kn_RX1 ky_yX1_addToStack rfl ⟨rfl, rfl⟩ ⟨(Nat.le_of_ble_eq_true rfl), (Nat.le_of_ble_eq_true rfl)⟩ (kr_3_0 hi0) (by decide) rfl rfl (Nat.le_of_ble_eq_true rfl) ⟨(Nat.le_of_ble_eq_true rfl), (Nat.le_of_ble_eq_true rfl)⟩ dX8_unload_76 (fun b27 => ?_)
            refine x_goto hC 122 dX8_unload_79 (by decide) ?_
            cases q16
            exact x_sub [1, 2, 0] rfl kj
  · intro kj
    refine x_if_ne hC 32 dX8_unload_19 (by decide) (fun h7 => ?_) (fun h7 => ?_)
    · have q6 := (ie_s q6).2 h7
      refine x_aload_n hC dX8_unload_32 rfl 1 rfl ?_
      obtain ⟨h8, q6⟩ := it_s q6
      refine gf_X8_32 hC hi0 h8 dX8_unload_33 ?_
      refine gf_X8_114 hC h8.2 dX8_unload_36 ?_
      refine x_bipush hC (99 : Int32) dX8_unload_39 (by decide) ?_
      refine x_aload_n hC dX8_unload_41 rfl 1 rfl ?_
      refine gf_X8_22 hC hi0 dX8_unload_42 ?_
      refine gf_X8_105 hC (kr_3_0 hi0) dX8_unload_45 ?_
      refine x_iload_n hC dX8_unload_48 rfl 0 rfl ?_
      obtain ⟨h9, q6⟩ := it_s q6
      refine x_iald hC (kr_0_3 (kr_3_0 hi0)) h9 dX8_unload_49 ?_
      refine x_isub hC dX8_unload_50 ?_
      refine x_mmin hC km_X8_135 kt_Mmin kn_Math kc_Mmin (Nat.le_of_ble_eq_true rfl) (Nat.le_of_ble_eq_true rfl) ⟨(Nat.le_of_ble_eq_true rfl), (Nat.le_of_ble_eq_true rfl)⟩ dX8_unload_51 ?_
      obtain ⟨x10, e11, q6⟩ := lz_s q6
      refine x_topi e11 ?_
      cases q6
      exact x_sub [1, 2, 0] rfl kj
    · have q6 := (ie_s q6).1 h7
      refine x_aload_n hC dX8_unload_22 rfl 1 rfl ?_
      obtain ⟨h12, q6⟩ := it_s q6
      refine gf_X8_32 hC hi0 h12 dX8_unload_23 ?_
      refine gf_X8_114 hC h12.2 dX8_unload_26 ?_
      refine x_goto hC 54 dX8_unload_29 (by decide) ?_
      cases q6
      exact x_sub [1, 2, 0] rfl kj

theorem dX8_rest_0 : decode cX8_rest 0 = .ok (.aload_n 0, 1) := by decide +kernel
theorem dX8_rest_1 : decode cX8_rest 1 = .ok (.getfield 32, 3) := by decide +kernel
theorem dX8_rest_4 : decode cX8_rest 4 = .ok (.iconst 1, 1) := by decide +kernel
theorem dX8_rest_5 : decode cX8_rest 5 = .ok (.aload_n 0, 1) := by decide +kernel
theorem dX8_rest_6 : decode cX8_rest 6 = .ok (.invokevirtual 85, 3) := by decide +kernel
theorem dX8_rest_9 : decode cX8_rest 9 = .ok (.invokestatic 140, 3) := by decide +kernel
theorem dX8_rest_12 : decode cX8_rest 12 = .ok (.iconst 1, 1) := by decide +kernel
theorem dX8_rest_13 : decode cX8_rest 13 = .ok (.isub, 1) := by decide +kernel
theorem dX8_rest_14 : decode cX8_rest 14 = .ok (.putfield 41, 3) := by decide +kernel
theorem dX8_rest_17 : decode cX8_rest 17 = .ok (.aload_n 0, 1) := by decide +kernel
theorem dX8_rest_18 : decode cX8_rest 18 = .ok (.getfield 32, 3) := by decide +kernel
theorem dX8_rest_21 : decode cX8_rest 21 = .ok (.iload_n 1, 1) := by decide +kernel
theorem dX8_rest_22 : decode cX8_rest 22 = .ok (.iconst 1, 1) := by decide +kernel
theorem dX8_rest_23 : decode cX8_rest 23 = .ok (.iadd, 1) := by decide +kernel
theorem dX8_rest_24 : decode cX8_rest 24 = .ok (.putfield 53, 3) := by decide +kernel
theorem dX8_rest_27 : decode cX8_rest 27 = .ok (.iconst 1, 1) := by decide +kernel
theorem dX8_rest_28 : decode cX8_rest 28 = .ok (.ireturn, 1) := by decide +kernel

def f_X8_rest (i0 : Nat) (a1 : Int32) (M : Mm) : Option (Int32 × Mm) :=
  if okr 1 (M i0 1) then (bd2 (f_X8_pop i0 M) fun x2 M3 => lz (wr M3 (rid (M i0 1)) 8 ((imax (1 : Int32) x2) - (1 : Int32))) fun M6 => if okr 1 (M6 i0 1) then (lz (wr M6 (rid (M6 i0 1)) 9 (a1 + (1 : Int32))) fun M9 => some ((1 : Int32), M9)) else none) else none

set_option maxHeartbeats 4000000 in
set_option maxRecDepth 100000 in
theorem c_X8_rest (l : Launch) (G : GG) (M : Mm) {i0 : Nat} (hi0 : (kd i0).1 = 3) (a1 : Int32) {r : Int32} {M9 : Mm} (hr : f_X8_rest i0 a1 M = some (r, M9)) : Mo true l yX8_rest (WS yX8_rest cX8_rest 2 (some .boolean)) (RM 1 0 0 40) 0 0 [.ref (G.2.1 i0), .int a1] G M (some (.int r)) M9 := by
  refine Mo.of (by decide +kernel) (Nat.le_of_ble_eq_true rfl) ?_
  intro p e s m args below meth c hC
  have hC : CX p s m args meth c cX8_rest 2 RX8 (some .boolean) G := hC
  rw [f_X8_rest] at hr
  show XJ p l e (RM 1 0 0 40) s m args below meth c G 2 _ 0 0 M 0 [(0, .ref (G.2.1 i0)), (1, .int a1)] []
  refine x_aload_n hC dX8_rest_0 rfl 0 rfl ?_
  obtain ⟨h1, hr⟩ := it_s hr
  refine gf_X8_32 hC hi0 h1 dX8_rest_1 ?_
  refine x_iconst hC (1 : Int32) dX8_rest_4 (by decide) ?_
  refine x_aload_n hC dX8_rest_5 rfl 0 rfl ?_
  obtain ⟨x2, M3, q4, hr⟩ := bd2_s hr
  refine x_callV (ci := 3) (q := (RX8, TX8, 5)) (As := []) hC (c_X8_pop l G M hi0 q4) kc_yX8_pop km_X8_85 ki_yX8_pop kv_yX8_pop kn_RX8 ky_yX8_pop rfl ⟨rfl, rfl⟩ ⟨(Nat.le_of_ble_eq_true rfl), (Nat.le_of_ble_eq_true rfl)⟩ hi0 (by decide) rfl rfl (Nat.le_of_ble_eq_true rfl) ⟨(Nat.le_of_ble_eq_true rfl), (Nat.le_of_ble_eq_true rfl)⟩ dX8_rest_6 (fun b5 => ?_)
  refine x_mmax hC km_X8_140 kt_Mmax kn_Math kc_Mmax (Nat.le_of_ble_eq_true rfl) (Nat.le_of_ble_eq_true rfl) ⟨(Nat.le_of_ble_eq_true rfl), (Nat.le_of_ble_eq_true rfl)⟩ dX8_rest_9 ?_
  refine x_iconst hC (1 : Int32) dX8_rest_12 (by decide) ?_
  refine x_isub hC dX8_rest_13 ?_
  obtain ⟨M6, e7, hr⟩ := lz_s hr
  refine pf_X8_41 hC h1.2 e7 dX8_rest_14 ?_
  refine x_aload_n hC dX8_rest_17 rfl 0 rfl ?_
  obtain ⟨h8, hr⟩ := it_s hr
  refine gf_X8_32 hC hi0 h8 dX8_rest_18 ?_
  refine x_iload_n hC dX8_rest_21 rfl 1 rfl ?_
  refine x_iconst hC (1 : Int32) dX8_rest_22 (by decide) ?_
  refine x_iadd hC dX8_rest_23 ?_
  obtain ⟨M9, e10, hr⟩ := lz_s hr
  refine pf_X8_53 hC h8.2 e10 dX8_rest_24 ?_
  refine x_iconst hC (1 : Int32) dX8_rest_27 (by decide) ?_
  cases hr
  exact x_zret hC rfl (Or.inr rfl) dX8_rest_28

theorem dX8_branch_0 : decode cX8_branch 0 = .ok (.aload_n 0, 1) := by decide +kernel
theorem dX8_branch_1 : decode cX8_branch 1 = .ok (.invokevirtual 184, 3) := by decide +kernel
theorem dX8_branch_4 : decode cX8_branch 4 = .ok (.ifCond .eq 5, 3) := by decide +kernel
theorem dX8_branch_7 : decode cX8_branch 7 = .ok (.iconst 1, 1) := by decide +kernel
theorem dX8_branch_8 : decode cX8_branch 8 = .ok (.ireturn, 1) := by decide +kernel
theorem dX8_branch_9 : decode cX8_branch 9 = .ok (.aload_n 0, 1) := by decide +kernel
theorem dX8_branch_10 : decode cX8_branch 10 = .ok (.getfield 32, 3) := by decide +kernel
theorem dX8_branch_13 : decode cX8_branch 13 = .ok (.aload_n 0, 1) := by decide +kernel
theorem dX8_branch_14 : decode cX8_branch 14 = .ok (.invokevirtual 85, 3) := by decide +kernel
theorem dX8_branch_17 : decode cX8_branch 17 = .ok (.ifCond .eq 9, 3) := by decide +kernel
theorem dX8_branch_20 : decode cX8_branch 20 = .ok (.iload_n 1, 1) := by decide +kernel
theorem dX8_branch_21 : decode cX8_branch 21 = .ok (.iconst 1, 1) := by decide +kernel
theorem dX8_branch_22 : decode cX8_branch 22 = .ok (.iadd, 1) := by decide +kernel
theorem dX8_branch_23 : decode cX8_branch 23 = .ok (.goto 4, 3) := by decide +kernel
theorem dX8_branch_26 : decode cX8_branch 26 = .ok (.iload_n 2, 1) := by decide +kernel
theorem dX8_branch_27 : decode cX8_branch 27 = .ok (.putfield 53, 3) := by decide +kernel
theorem dX8_branch_30 : decode cX8_branch 30 = .ok (.iconst 0, 1) := by decide +kernel
theorem dX8_branch_31 : decode cX8_branch 31 = .ok (.ireturn, 1) := by decide +kernel

def f_X8_branch (i0 : Nat) (a1 : Int32) (a2 : Int32) (M : Mm) : Option (Int32 × Mm) :=
  bd2 (f_X8_isHourOver i0 M) fun x1 M2 => if (x1 = 0) then (if okr 1 (M2 i0 1) then (bd2 (f_X8_pop i0 M2) fun x7 M8 => lz (if (x7 = 0) then (a2) else ((a1 + (1 : Int32)))) fun x13 => lz (wr M8 (rid (M2 i0 1)) 9 x13) fun M15 => some ((0 : Int32), M15)) else none) else (some ((1 : Int32), M2))

set_option maxHeartbeats 4000000 in
set_option maxRecDepth 100000 in
theorem c_X8_branch (l : Launch) (G : GG) (M : Mm) {i0 : Nat} (hi0 : (kd i0).1 = 3) (a1 : Int32) (a2 : Int32) {r : Int32} {M9 : Mm} (hr : f_X8_branch i0 a1 a2 M = some (r, M9)) : Mo true l yX8_branch (WS yX8_branch cX8_branch 3 (some .boolean)) (RM 1 0 0 20) 0 0 [.ref (G.2.1 i0), .int a1, .int a2] G M (some (.int r)) M9 := by
  refine Mo.of (by decide +kernel) (Nat.le_of_ble_eq_true rfl) ?_
  intro p e s m args below meth c hC
  have hC : CX p s m args meth c cX8_branch 3 RX8 (some .boolean) G := hC
  rw [f_X8_branch] at hr
  show XJ p l e (RM 1 0 0 20) s m args below meth c G 3 _ 0 0 M 0 [(0, .ref (G.2.1 i0)), (1, .int a1), (2, .int a2)] []
  refine x_aload_n hC dX8_branch_0 rfl 0 rfl ?_
  obtain ⟨x1, M2, q3, hr⟩ := bd2_s hr
  refine x_callV (ci := 3) (q := (RX8, TX8, 5)) (As := []) hC (c_X8_isHourOver l G M hi0 q3) kc_yX8_isHourOver km_X8_184 ki_yX8_isHourOver kv_yX8_isHourOver kn_RX8 ky_yX8_isHourOver rfl ⟨rfl, rfl⟩ ⟨(Nat.le_of_ble_eq_true rfl), (Nat.le_of_ble_eq_true rfl)⟩ hi0 (by decide) rfl rfl (Nat.le_of_ble_eq_true rfl) ⟨(Nat.le_of_ble_eq_true rfl), (Nat.le_of_ble_eq_true rfl)⟩ dX8_branch_1 (fun b4 => ?_)
  refine x_if_eq hC 9 dX8_branch_4 (by decide) (fun h5 => ?_) (fun h5 => ?_)
  · have hr := (ie_s hr).1 h5
    refine x_aload_n hC dX8_branch_9 rfl 0 rfl ?_
    obtain ⟨h6, hr⟩ := it_s hr
    refine gf_X8_32 hC hi0 h6 dX8_branch_10 ?_
    refine x_aload_n hC dX8_branch_13 rfl 0 rfl ?_
    obtain ⟨x7, M8, q9, hr⟩ := bd2_s hr
    refine x_callV (ci := 3) (q := (RX8, TX8, 5)) (As := []) hC (c_X8_pop l G M2 hi0 q9) kc_yX8_pop km_X8_85 ki_yX8_pop kv_yX8_pop kn_RX8 ky_yX8_pop rfl ⟨rfl, rfl⟩ ⟨(Nat.le_of_ble_eq_true rfl), (Nat.le_of_ble_eq_true rfl)⟩ hi0 (by decide) rfl rfl (Nat.le_of_ble_eq_true rfl) ⟨(Nat.le_of_ble_eq_true rfl), (Nat.le_of_ble_eq_true rfl)⟩ dX8_branch_14 (fun b10 => ?_)
    obtain ⟨x13, e14, hr⟩ := lz_s hr
    have q11 := e14.symm
    refine x_join (M' := M8) (pc' := 27) (lv' := []) (st' := [.int x13, .ref (G.2.1 (rid (M2 i0 1)))]) ?_ ?_
    · obtain ⟨M15, e16, hr⟩ := lz_s hr
      refine pf_X8_53 hC h6.2 e16 dX8_branch_27 ?_
      refine x_iconst hC (0 : Int32) dX8_branch_30 (by decide) ?_
      cases hr
      exact x_zret hC rfl (Or.inl rfl) dX8_branch_31
    · intro kj
      refine x_if_eq hC 26 dX8_branch_17 (by decide) (fun h12 => ?_) (fun h12 => ?_)
      · have q11 := (ie_s q11).1 h12
        refine x_iload_n hC dX8_branch_26 rfl 2 rfl ?_
        subst q11
        exact x_sub [] rfl kj
      · have q11 := (ie_s q11).2 h12
        refine x_iload_n hC dX8_branch_20 rfl 1 rfl ?_
        refine x_iconst hC (1 : Int32) dX8_branch_21 (by decide) ?_
        refine x_iadd hC dX8_branch_22 ?_
        refine x_goto hC 27 dX8_branch_23 (by decide) ?_
        subst q11
        exact x_sub [] rfl kj
  · have hr := (ie_s hr).2 h5
    refine x_iconst hC (1 : Int32) dX8_branch_7 (by decide) ?_
    cases hr
    exact x_zret hC rfl (Or.inr rfl) dX8_branch_8

theorem dX8_beginRepeat_0 : decode cX8_beginRepeat 0 = .ok (.aload_n 0, 1) := by decide +kernel
theorem dX8_beginRepeat_1 : decode cX8_beginRepeat 1 = .ok (.invokevirtual 85, 3) := by decide +kernel
theorem dX8_beginRepeat_4 : decode cX8_beginRepeat 4 = .ok (.istore_n 3, 1) := by decide +kernel
theorem dX8_beginRepeat_5 : decode cX8_beginRepeat 5 = .ok (.iload_n 2, 1) := by decide +kernel
theorem dX8_beginRepeat_6 : decode cX8_beginRepeat 6 = .ok (.ifCond .lt 25, 3) := by decide +kernel
theorem dX8_beginRepeat_9 : decode cX8_beginRepeat 9 = .ok (.iload_n 2, 1) := by decide +kernel
theorem dX8_beginRepeat_10 : decode cX8_beginRepeat 10 = .ok (.aload_n 0, 1) := by decide +kernel
theorem dX8_beginRepeat_11 : decode cX8_beginRepeat 11 = .ok (.getfield 32, 3) := by decide +kernel
theorem dX8_beginRepeat_14 : decode cX8_beginRepeat 14 = .ok (.getfield 188, 3) := by decide +kernel
theorem dX8_beginRepeat_17 : decode cX8_beginRepeat 17 = .ok (.arraylength, 1) := by decide +kernel
theorem dX8_beginRepeat_18 : decode cX8_beginRepeat 18 = .ok (.if_icmp .ge 13, 3) := by decide +kernel
theorem dX8_beginRepeat_21 : decode cX8_beginRepeat 21 = .ok (.aload_n 0, 1) := by decide +kernel
theorem dX8_beginRepeat_22 : decode cX8_beginRepeat 22 = .ok (.getfield 32, 3) := by decide +kernel
theorem dX8_beginRepeat_25 : decode cX8_beginRepeat 25 = .ok (.getfield 188, 3) := by decide +kernel
theorem dX8_beginRepeat_28 : decode cX8_beginRepeat 28 = .ok (.iload_n 2, 1) := by decide +kernel
theorem dX8_beginRepeat_29 : decode cX8_beginRepeat 29 = .ok (.iload_n 3, 1) := by decide +kernel
theorem dX8_beginRepeat_30 : decode cX8_beginRepeat 30 = .ok (.iastore, 1) := by decide +kernel
theorem dX8_beginRepeat_31 : decode cX8_beginRepeat 31 = .ok (.aload_n 0, 1) := by decide +kernel
theorem dX8_beginRepeat_32 : decode cX8_beginRepeat 32 = .ok (.getfield 32, 3) := by decide +kernel
theorem dX8_beginRepeat_35 : decode cX8_beginRepeat 35 = .ok (.iload_n 1, 1) := by decide +kernel
theorem dX8_beginRepeat_36 : decode cX8_beginRepeat 36 = .ok (.iconst 1, 1) := by decide +kernel
theorem dX8_beginRepeat_37 : decode cX8_beginRepeat 37 = .ok (.iadd, 1) := by decide +kernel
theorem dX8_beginRepeat_38 : decode cX8_beginRepeat 38 = .ok (.putfield 53, 3) := by decide +kernel
theorem dX8_beginRepeat_41 : decode cX8_beginRepeat 41 = .ok (.iconst 0, 1) := by decide +kernel
theorem dX8_beginRepeat_42 : decode cX8_beginRepeat 42 = .ok (.ireturn, 1) := by decide +kernel

def f_X8_beginRepeat (i0 : Nat) (a1 : Int32) (a2 : Int32) (M : Mm) : Option (Int32 × Mm) :=
  bd2 (f_X8_pop i0 M) fun x1 M2 => bd1 (if (a2 < 0) then (some (M2)) else (if okr 1 (M2 i0 1) then (if ((9 : Int32) ≤ a2) then (some (M2)) else (if okr 1 (M2 i0 1) then (if 0 ≤ a2.toInt ∧ a2.toInt < ((9 : Nat) : Int) then (lz (wr M2 ((rid (M2 i0 1)) + 1) (ix a2) x1) fun M11 => some (M11)) else none) else none)) else none)) fun M13 => if okr 1 (M13 i0 1) then (lz (wr M13 (rid (M13 i0 1)) 9 (a1 + (1 : Int32))) fun M15 => some ((0 : Int32), M15)) else none

set_option maxHeartbeats 4000000 in
set_option maxRecDepth 100000 in
theorem c_X8_beginRepeat (l : Launch) (G : GG) (M : Mm) {i0 : Nat} (hi0 : (kd i0).1 = 3) (a1 : Int32) (a2 : Int32) {r : Int32} {M9 : Mm} (hr : f_X8_beginRepeat i0 a1 a2 M = some (r, M9)) : Mo true l yX8_beginRepeat (WS yX8_beginRepeat cX8_beginRepeat 4 (some .boolean)) (RM 1 0 0 20) 0 0 [.ref (G.2.1 i0), .int a1, .int a2] G M (some (.int r)) M9 := by
  refine Mo.of (by decide +kernel) (Nat.le_of_ble_eq_true rfl) ?_
  intro p e s m args below meth c hC
  have hC : CX p s m args meth c cX8_beginRepeat 4 RX8 (some .boolean) G := hC
  rw [f_X8_beginRepeat] at hr
  show XJ p l e (RM 1 0 0 20) s m args below meth c G 4 _ 0 0 M 0 [(0, .ref (G.2.1 i0)), (1, .int a1), (2, .int a2)] []
  refine x_aload_n hC dX8_beginRepeat_0 rfl 0 rfl ?_
  obtain ⟨x1, M2, q3, hr⟩ := bd2_s hr
  refine x_callV (ci := 3) (q := (RX8, TX8, 5)) (As := []) hC (c_X8_pop l G M hi0 q3) kc_yX8_pop km_X8_85 ki_yX8_pop kv_yX8_pop kn_RX8 ky_yX8_pop rfl ⟨rfl, rfl⟩ ⟨(Nat.le_of_ble_eq_true rfl), (Nat.le_of_ble_eq_true rfl)⟩ hi0 (by decide) rfl rfl (Nat.le_of_ble_eq_true rfl) ⟨(Nat.le_of_ble_eq_true rfl), (Nat.le_of_ble_eq_true rfl)⟩ dX8_beginRepeat_1 (fun b4 => ?_)
  refine x_istore_n hC [(3, .int x1), (0, .ref (G.2.1 i0)), (1, .int a1), (2, .int a2)] dX8_beginRepeat_4 rfl (Nat.le_of_ble_eq_true rfl) rfl ?_
  refine x_iload_n hC dX8_beginRepeat_5 rfl 3 rfl ?_
  obtain ⟨M13, q5, hr⟩ := bd1_s hr
  refine x_join (M' := M13) (pc' := 31) (lv' := [(0, .ref (G.2.1 i0)), (1, .int a1)]) (st' := []) ?_ ?_
  · refine x_aload_n hC dX8_beginRepeat_31 rfl 0 rfl ?_
    obtain ⟨h14, hr⟩ := it_s hr
    refine gf_X8_32 hC hi0 h14 dX8_beginRepeat_32 ?_
    refine x_iload_n hC dX8_beginRepeat_35 rfl 1 rfl ?_
    refine x_iconst hC (1 : Int32) dX8_beginRepeat_36 (by decide) ?_
    refine x_iadd hC dX8_beginRepeat_37 ?_
    obtain ⟨M15, e16, hr⟩ := lz_s hr
    refine pf_X8_53 hC h14.2 e16 dX8_beginRepeat_38 ?_
    refine x_iconst hC (0 : Int32) dX8_beginRepeat_41 (by decide) ?_
    cases hr
    exact x_zret hC rfl (Or.inl rfl) dX8_beginRepeat_42
  · intro kj
    refine x_if_lt hC 31 dX8_beginRepeat_6 (by decide) (fun h6 => ?_) (fun h6 => ?_)
    · have q5 := (ie_s q5).1 h6
      cases q5
      exact x_sub [1, 2] rfl kj
    · have q5 := (ie_s q5).2 h6
      refine x_iload_n hC dX8_beginRepeat_9 rfl 3 rfl ?_
      refine x_aload_n hC dX8_beginRepeat_10 rfl 1 rfl ?_
      obtain ⟨h7, q5⟩ := it_s q5
      refine gf_X8_32 hC hi0 h7 dX8_beginRepeat_11 ?_
      refine gf_X8_188 hC h7.2 dX8_beginRepeat_14 ?_
      refine x_alen hC (9 : Int32) (kr_1_10 h7.2) (by decide) dX8_beginRepeat_17 ?_
      refine x_icmp_ge hC 31 dX8_beginRepeat_18 (by decide) (fun h8 => ?_) (fun h8 => ?_)
      · have q5 := (ie_s q5).1 h8
        cases q5
        exact x_sub [1, 2] rfl kj
      · have q5 := (ie_s q5).2 h8
        refine x_aload_n hC dX8_beginRepeat_21 rfl 1 rfl ?_
        obtain ⟨h9, q5⟩ := it_s q5
        refine gf_X8_32 hC hi0 h9 dX8_beginRepeat_22 ?_
        refine gf_X8_188 hC h9.2 dX8_beginRepeat_25 ?_
        refine x_iload_n hC dX8_beginRepeat_28 rfl 3 rfl ?_
        refine x_iload_n hC dX8_beginRepeat_29 rfl 0 rfl ?_
        obtain ⟨h10, q5⟩ := it_s q5
        obtain ⟨M11, e12, q5⟩ := lz_s q5
        refine x_iast hC (kr_1_10 h9.2) h10 e12 dX8_beginRepeat_30 ?_
        cases q5
        exact x_sub [1, 2] rfl kj

theorem dX8_repeat_0 : decode cX8_repeat 0 = .ok (.aload_n 0, 1) := by decide +kernel
theorem dX8_repeat_1 : decode cX8_repeat 1 = .ok (.invokevirtual 184, 3) := by decide +kernel
theorem dX8_repeat_4 : decode cX8_repeat 4 = .ok (.ifCond .eq 5, 3) := by decide +kernel
theorem dX8_repeat_7 : decode cX8_repeat 7 = .ok (.iconst 1, 1) := by decide +kernel
theorem dX8_repeat_8 : decode cX8_repeat 8 = .ok (.ireturn, 1) := by decide +kernel
theorem dX8_repeat_9 : decode cX8_repeat 9 = .ok (.aload_n 0, 1) := by decide +kernel
theorem dX8_repeat_10 : decode cX8_repeat 10 = .ok (.invokevirtual 85, 3) := by decide +kernel
theorem dX8_repeat_13 : decode cX8_repeat 13 = .ok (.istore_n 3, 1) := by decide +kernel
theorem dX8_repeat_14 : decode cX8_repeat 14 = .ok (.iload_n 3, 1) := by decide +kernel
theorem dX8_repeat_15 : decode cX8_repeat 15 = .ok (.ifCond .lt 53, 3) := by decide +kernel
theorem dX8_repeat_18 : decode cX8_repeat 18 = .ok (.iload_n 3, 1) := by decide +kernel
theorem dX8_repeat_19 : decode cX8_repeat 19 = .ok (.aload_n 0, 1) := by decide +kernel
theorem dX8_repeat_20 : decode cX8_repeat 20 = .ok (.getfield 32, 3) := by decide +kernel
theorem dX8_repeat_23 : decode cX8_repeat 23 = .ok (.getfield 188, 3) := by decide +kernel
theorem dX8_repeat_26 : decode cX8_repeat 26 = .ok (.arraylength, 1) := by decide +kernel
theorem dX8_repeat_27 : decode cX8_repeat 27 = .ok (.if_icmp .ge 41, 3) := by decide +kernel
theorem dX8_repeat_30 : decode cX8_repeat 30 = .ok (.aload_n 0, 1) := by decide +kernel
theorem dX8_repeat_31 : decode cX8_repeat 31 = .ok (.getfield 32, 3) := by decide +kernel
theorem dX8_repeat_34 : decode cX8_repeat 34 = .ok (.getfield 188, 3) := by decide +kernel
theorem dX8_repeat_37 : decode cX8_repeat 37 = .ok (.iload_n 3, 1) := by decide +kernel
theorem dX8_repeat_38 : decode cX8_repeat 38 = .ok (.iaload, 1) := by decide +kernel
theorem dX8_repeat_39 : decode cX8_repeat 39 = .ok (.ifCond .le 29, 3) := by decide +kernel
theorem dX8_repeat_42 : decode cX8_repeat 42 = .ok (.aload_n 0, 1) := by decide +kernel
theorem dX8_repeat_43 : decode cX8_repeat 43 = .ok (.getfield 32, 3) := by decide +kernel
theorem dX8_repeat_46 : decode cX8_repeat 46 = .ok (.getfield 188, 3) := by decide +kernel
theorem dX8_repeat_49 : decode cX8_repeat 49 = .ok (.iload_n 3, 1) := by decide +kernel
theorem dX8_repeat_50 : decode cX8_repeat 50 = .ok (.dup2, 1) := by decide +kernel
theorem dX8_repeat_51 : decode cX8_repeat 51 = .ok (.iaload, 1) := by decide +kernel
theorem dX8_repeat_52 : decode cX8_repeat 52 = .ok (.iconst 1, 1) := by decide +kernel
theorem dX8_repeat_53 : decode cX8_repeat 53 = .ok (.isub, 1) := by decide +kernel
theorem dX8_repeat_54 : decode cX8_repeat 54 = .ok (.iastore, 1) := by decide +kernel
theorem dX8_repeat_55 : decode cX8_repeat 55 = .ok (.aload_n 0, 1) := by decide +kernel
theorem dX8_repeat_56 : decode cX8_repeat 56 = .ok (.getfield 32, 3) := by decide +kernel
theorem dX8_repeat_59 : decode cX8_repeat 59 = .ok (.iload_n 1, 1) := by decide +kernel
theorem dX8_repeat_60 : decode cX8_repeat 60 = .ok (.iconst 1, 1) := by decide +kernel
theorem dX8_repeat_61 : decode cX8_repeat 61 = .ok (.iadd, 1) := by decide +kernel
theorem dX8_repeat_62 : decode cX8_repeat 62 = .ok (.putfield 53, 3) := by decide +kernel
theorem dX8_repeat_65 : decode cX8_repeat 65 = .ok (.goto 11, 3) := by decide +kernel
theorem dX8_repeat_68 : decode cX8_repeat 68 = .ok (.aload_n 0, 1) := by decide +kernel
theorem dX8_repeat_69 : decode cX8_repeat 69 = .ok (.getfield 32, 3) := by decide +kernel
theorem dX8_repeat_72 : decode cX8_repeat 72 = .ok (.iload_n 2, 1) := by decide +kernel
theorem dX8_repeat_73 : decode cX8_repeat 73 = .ok (.putfield 53, 3) := by decide +kernel
theorem dX8_repeat_76 : decode cX8_repeat 76 = .ok (.iconst 0, 1) := by decide +kernel
theorem dX8_repeat_77 : decode cX8_repeat 77 = .ok (.ireturn, 1) := by decide +kernel

def f_X8_repeat (i0 : Nat) (a1 : Int32) (a2 : Int32) (M : Mm) : Option (Int32 × Mm) :=
  bd2 (f_X8_isHourOver i0 M) fun x1 M2 => if (x1 = 0) then (bd2 (f_X8_pop i0 M2) fun x6 M7 => bd1 (if (x6 < 0) then (if okr 1 (M7 i0 1) then (lz (wr M7 (rid (M7 i0 1)) 9 a2) fun M13 => some (M13)) else none) else (if okr 1 (M7 i0 1) then (if ((9 : Int32) ≤ x6) then (if okr 1 (M7 i0 1) then (lz (wr M7 (rid (M7 i0 1)) 9 a2) fun M18 => some (M18)) else none) else (if okr 1 (M7 i0 1) then (if 0 ≤ x6.toInt ∧ x6.toInt < ((9 : Nat) : Int) then (if ((M7 ((rid (M7 i0 1)) + 1) (ix x6)) ≤ 0) then (if okr 1 (M7 i0 1) then (lz (wr M7 (rid (M7 i0 1)) 9 a2) fun M24 => some (M24)) else none) else (if okr 1 (M7 i0 1) then (if 0 ≤ x6.toInt ∧ x6.toInt < ((9 : Nat) : Int) then (if 0 ≤ x6.toInt ∧ x6.toInt < ((9 : Nat) : Int) then (lz (wr M7 ((rid (M7 i0 1)) + 1) (ix x6) ((M7 ((rid (M7 i0 1)) + 1) (ix x6)) - (1 : Int32))) fun M29 => if okr 1 (M29 i0 1) then (lz (wr M29 (rid (M29 i0 1)) 9 (a1 + (1 : Int32))) fun M32 => some (M32)) else none) else none) else none) else none)) else none) else none)) else none)) fun M34 => some ((0 : Int32), M34)) else (some ((1 : Int32), M2))

set_option maxHeartbeats 4000000 in
set_option maxRecDepth 100000 in
theorem c_X8_repeat (l : Launch) (G : GG) (M : Mm) {i0 : Nat} (hi0 : (kd i0).1 = 3) (a1 : Int32) (a2 : Int32) {r : Int32} {M9 : Mm} (hr : f_X8_repeat i0 a1 a2 M = some (r, M9)) : Mo true l yX8_repeat (WS yX8_repeat cX8_repeat 4 (some .boolean)) (RM 1 0 0 20) 0 0 [.ref (G.2.1 i0), .int a1, .int a2] G M (some (.int r)) M9 := by
  refine Mo.of (by decide +kernel) (Nat.le_of_ble_eq_true rfl) ?_
  intro p e s m args below meth c hC
  have hC : CX p s m args meth c cX8_repeat 4 RX8 (some .boolean) G := hC
  rw [f_X8_repeat] at hr
  show XJ p l e (RM 1 0 0 20) s m args below meth c G 4 _ 0 0 M 0 [(0, .ref (G.2.1 i0)), (1, .int a1), (2, .int a2)] []
  refine x_aload_n hC dX8_repeat_0 rfl 0 rfl ?_
  obtain ⟨x1, M2, q3, hr⟩ := bd2_s hr
  refine x_callV (ci := 3) (q := (RX8, TX8, 5)) (As := []) hC (c_X8_isHourOver l G M hi0 q3) kc_yX8_isHourOver km_X8_184 ki_yX8_isHourOver kv_yX8_isHourOver kn_RX8 ky_yX8_isHourOver rfl ⟨rfl, rfl⟩ ⟨(Nat.le_of_ble_eq_true rfl), (Nat.le_of_ble_eq_true rfl)⟩ hi0 (by decide) rfl rfl (Nat.le_of_ble_eq_true rfl) ⟨(Nat.le_of_ble_eq_true rfl), (Nat.le_of_ble_eq_true rfl)⟩ dX8_repeat_1 (fun b4 => ?_)
  refine x_if_eq hC 9 dX8_repeat_4 (by decide) (fun h5 => ?_) (fun h5 => ?_)
  · have hr := (ie_s hr).1 h5
    refine x_aload_n hC dX8_repeat_9 rfl 0 rfl ?_
    obtain ⟨x6, M7, q8, hr⟩ := bd2_s hr
    refine x_callV (ci := 3) (q := (RX8, TX8, 5)) (As := []) hC (c_X8_pop l G M2 hi0 q8) kc_yX8_pop km_X8_85 ki_yX8_pop kv_yX8_pop kn_RX8 ky_yX8_pop rfl ⟨rfl, rfl⟩ ⟨(Nat.le_of_ble_eq_true rfl), (Nat.le_of_ble_eq_true rfl)⟩ hi0 (by decide) rfl rfl (Nat.le_of_ble_eq_true rfl) ⟨(Nat.le_of_ble_eq_true rfl), (Nat.le_of_ble_eq_true rfl)⟩ dX8_repeat_10 (fun b9 => ?_)
    refine x_istore_n hC [(3, .int x6), (0, .ref (G.2.1 i0)), (1, .int a1), (2, .int a2)] dX8_repeat_13 rfl (Nat.le_of_ble_eq_true rfl) rfl ?_
    refine x_iload_n hC dX8_repeat_14 rfl 0 rfl ?_
    obtain ⟨M34, q10, hr⟩ := bd1_s hr
    refine x_join (M' := M34) (pc' := 76) (lv' := []) (st' := []) ?_ ?_
    · refine x_iconst hC (0 : Int32) dX8_repeat_76 (by decide) ?_
      cases hr
      exact x_zret hC rfl (Or.inl rfl) dX8_repeat_77
    · intro kj
      refine x_if_lt hC 68 dX8_repeat_15 (by decide) (fun h11 => ?_) (fun h11 => ?_)
      · have q10 := (ie_s q10).1 h11
        refine x_aload_n hC dX8_repeat_68 rfl 1 rfl ?_
        obtain ⟨h12, q10⟩ := it_s q10
        refine gf_X8_32 hC hi0 h12 dX8_repeat_69 ?_
        refine x_iload_n hC dX8_repeat_72 rfl 3 rfl ?_
        obtain ⟨M13, e14, q10⟩ := lz_s q10
        refine pf_X8_53 hC h12.2 e14 dX8_repeat_73 ?_
        cases q10
        exact x_sub [] rfl kj
      · have q10 := (ie_s q10).2 h11
        refine x_iload_n hC dX8_repeat_18 rfl 0 rfl ?_
        refine x_aload_n hC dX8_repeat_19 rfl 1 rfl ?_
        obtain ⟨h15, q10⟩ := it_s q10
        refine gf_X8_32 hC hi0 h15 dX8_repeat_20 ?_
        refine gf_X8_188 hC h15.2 dX8_repeat_23 ?_
        refine x_alen hC (9 : Int32) (kr_1_10 h15.2) (by decide) dX8_repeat_26 ?_
        refine x_icmp_ge hC 68 dX8_repeat_27 (by decide) (fun h16 => ?_) (fun h16 => ?_)
        · have q10 := (ie_s q10).1 h16
          refine x_aload_n hC dX8_repeat_68 rfl 1 rfl ?_
          obtain ⟨h17, q10⟩ := it_s q10
          refine gf_X8_32 hC hi0 h17 dX8_repeat_69 ?_
          refine x_iload_n hC dX8_repeat_72 rfl 3 rfl ?_
          obtain ⟨M18, e19, q10⟩ := lz_s q10
          refine pf_X8_53 hC h17.2 e19 dX8_repeat_73 ?_
          cases q10
          exact x_sub [] rfl kj
        · have q10 := (ie_s q10).2 h16
          refine x_aload_n hC dX8_repeat_30 rfl 1 rfl ?_
          obtain ⟨h20, q10⟩ := it_s q10
          refine gf_X8_32 hC hi0 h20 dX8_repeat_31 ?_
          refine gf_X8_188 hC h20.2 dX8_repeat_34 ?_
          refine x_iload_n hC dX8_repeat_37 rfl 0 rfl ?_
          obtain ⟨h21, q10⟩ := it_s q10
          refine x_iald hC (kr_1_10 h20.2) h21 dX8_repeat_38 ?_
          refine x_if_le hC 68 dX8_repeat_39 (by decide) (fun h22 => ?_) (fun h22 => ?_)
          · have q10 := (ie_s q10).1 h22
            refine x_aload_n hC dX8_repeat_68 rfl 1 rfl ?_
            obtain ⟨h23, q10⟩ := it_s q10
            refine gf_X8_32 hC hi0 h23 dX8_repeat_69 ?_
            refine x_iload_n hC dX8_repeat_72 rfl 3 rfl ?_
            obtain ⟨M24, e25, q10⟩ := lz_s q10
            refine pf_X8_53 hC h23.2 e25 dX8_repeat_73 ?_
            cases q10
            exact x_sub [] rfl kj
          · have q10 := (ie_s q10).2 h22
            refine x_aload_n hC dX8_repeat_42 rfl 1 rfl ?_
            obtain ⟨h26, q10⟩ := it_s q10
            refine gf_X8_32 hC hi0 h26 dX8_repeat_43 ?_
            refine gf_X8_188 hC h26.2 dX8_repeat_46 ?_
            refine x_iload_n hC dX8_repeat_49 rfl 0 rfl ?_
            refine x_dup2 hC dX8_repeat_50 rfl rfl ?_
            obtain ⟨h27, q10⟩ := it_s q10
            refine x_iald hC (kr_1_10 h26.2) h27 dX8_repeat_51 ?_
            refine x_iconst hC (1 : Int32) dX8_repeat_52 (by decide) ?_
            refine x_isub hC dX8_repeat_53 ?_
            obtain ⟨h28, q10⟩ := it_s q10
            obtain ⟨M29, e30, q10⟩ := lz_s q10
            refine x_iast hC (kr_1_10 h26.2) h28 e30 dX8_repeat_54 ?_
            refine x_aload_n hC dX8_repeat_55 rfl 1 rfl ?_
            obtain ⟨h31, q10⟩ := it_s q10
            refine gf_X8_32 hC hi0 h31 dX8_repeat_56 ?_
            refine x_iload_n hC dX8_repeat_59 rfl 2 rfl ?_
            refine x_iconst hC (1 : Int32) dX8_repeat_60 (by decide) ?_
            refine x_iadd hC dX8_repeat_61 ?_
            obtain ⟨M32, e33, q10⟩ := lz_s q10
            refine pf_X8_53 hC h31.2 e33 dX8_repeat_62 ?_
            refine x_goto hC 76 dX8_repeat_65 (by decide) ?_
            cases q10
            exact x_sub [] rfl kj
  · have hr := (ie_s hr).2 h5
    refine x_iconst hC (1 : Int32) dX8_repeat_7 (by decide) ?_
    cases hr
    exact x_zret hC rfl (Or.inr rfl) dX8_repeat_8

theorem dX8_carryOut_0 : decode cX8_carryOut 0 = .ok (.aload_n 0, 1) := by decide +kernel
theorem dX8_carryOut_1 : decode cX8_carryOut 1 = .ok (.getfield 22, 3) := by decide +kernel
theorem dX8_carryOut_4 : decode cX8_carryOut 4 = .ok (.getfield 56, 3) := by decide +kernel
theorem dX8_carryOut_7 : decode cX8_carryOut 7 = .ok (.iload_n 1, 1) := by decide +kernel
theorem dX8_carryOut_8 : decode cX8_carryOut 8 = .ok (.invokevirtual 143, 3) := by decide +kernel
theorem dX8_carryOut_11 : decode cX8_carryOut 11 = .ok (.istore_n 2, 1) := by decide +kernel
theorem dX8_carryOut_12 : decode cX8_carryOut 12 = .ok (.aload_n 0, 1) := by decide +kernel
theorem dX8_carryOut_13 : decode cX8_carryOut 13 = .ok (.getfield 22, 3) := by decide +kernel
theorem dX8_carryOut_16 : decode cX8_carryOut 16 = .ok (.getfield 56, 3) := by decide +kernel
theorem dX8_carryOut_19 : decode cX8_carryOut 19 = .ok (.iload_n 1, 1) := by decide +kernel
theorem dX8_carryOut_20 : decode cX8_carryOut 20 = .ok (.invokevirtual 146, 3) := by decide +kernel
theorem dX8_carryOut_23 : decode cX8_carryOut 23 = .ok (.tableswitch 120 29 38 #[53, 59, 65, 71, 77, 83, 89, 96, 103, 110], 53) := by decide +kernel
theorem dX8_carryOut_76 : decode cX8_carryOut 76 = .ok (.aload_n 0, 1) := by decide +kernel
theorem dX8_carryOut_77 : decode cX8_carryOut 77 = .ok (.iload_n 1, 1) := by decide +kernel
theorem dX8_carryOut_78 : decode cX8_carryOut 78 = .ok (.invokevirtual 149, 3) := by decide +kernel
theorem dX8_carryOut_81 : decode cX8_carryOut 81 = .ok (.ireturn, 1) := by decide +kernel
theorem dX8_carryOut_82 : decode cX8_carryOut 82 = .ok (.aload_n 0, 1) := by decide +kernel
theorem dX8_carryOut_83 : decode cX8_carryOut 83 = .ok (.iload_n 1, 1) := by decide +kernel
theorem dX8_carryOut_84 : decode cX8_carryOut 84 = .ok (.invokevirtual 152, 3) := by decide +kernel
theorem dX8_carryOut_87 : decode cX8_carryOut 87 = .ok (.ireturn, 1) := by decide +kernel
theorem dX8_carryOut_88 : decode cX8_carryOut 88 = .ok (.aload_n 0, 1) := by decide +kernel
theorem dX8_carryOut_89 : decode cX8_carryOut 89 = .ok (.iload_n 1, 1) := by decide +kernel
theorem dX8_carryOut_90 : decode cX8_carryOut 90 = .ok (.invokevirtual 155, 3) := by decide +kernel
theorem dX8_carryOut_93 : decode cX8_carryOut 93 = .ok (.ireturn, 1) := by decide +kernel
theorem dX8_carryOut_94 : decode cX8_carryOut 94 = .ok (.aload_n 0, 1) := by decide +kernel
theorem dX8_carryOut_95 : decode cX8_carryOut 95 = .ok (.iload_n 1, 1) := by decide +kernel
theorem dX8_carryOut_96 : decode cX8_carryOut 96 = .ok (.invokevirtual 158, 3) := by decide +kernel
theorem dX8_carryOut_99 : decode cX8_carryOut 99 = .ok (.ireturn, 1) := by decide +kernel
theorem dX8_carryOut_100 : decode cX8_carryOut 100 = .ok (.aload_n 0, 1) := by decide +kernel
theorem dX8_carryOut_101 : decode cX8_carryOut 101 = .ok (.iload_n 1, 1) := by decide +kernel
theorem dX8_carryOut_102 : decode cX8_carryOut 102 = .ok (.invokevirtual 161, 3) := by decide +kernel
theorem dX8_carryOut_105 : decode cX8_carryOut 105 = .ok (.ireturn, 1) := by decide +kernel
theorem dX8_carryOut_106 : decode cX8_carryOut 106 = .ok (.aload_n 0, 1) := by decide +kernel
theorem dX8_carryOut_107 : decode cX8_carryOut 107 = .ok (.iload_n 1, 1) := by decide +kernel
theorem dX8_carryOut_108 : decode cX8_carryOut 108 = .ok (.invokevirtual 164, 3) := by decide +kernel
theorem dX8_carryOut_111 : decode cX8_carryOut 111 = .ok (.ireturn, 1) := by decide +kernel
theorem dX8_carryOut_112 : decode cX8_carryOut 112 = .ok (.aload_n 0, 1) := by decide +kernel
theorem dX8_carryOut_113 : decode cX8_carryOut 113 = .ok (.iload_n 1, 1) := by decide +kernel
theorem dX8_carryOut_114 : decode cX8_carryOut 114 = .ok (.iload_n 2, 1) := by decide +kernel
theorem dX8_carryOut_115 : decode cX8_carryOut 115 = .ok (.invokevirtual 167, 3) := by decide +kernel
theorem dX8_carryOut_118 : decode cX8_carryOut 118 = .ok (.ireturn, 1) := by decide +kernel
theorem dX8_carryOut_119 : decode cX8_carryOut 119 = .ok (.aload_n 0, 1) := by decide +kernel
theorem dX8_carryOut_120 : decode cX8_carryOut 120 = .ok (.iload_n 1, 1) := by decide +kernel
theorem dX8_carryOut_121 : decode cX8_carryOut 121 = .ok (.iload_n 2, 1) := by decide +kernel
theorem dX8_carryOut_122 : decode cX8_carryOut 122 = .ok (.invokevirtual 171, 3) := by decide +kernel
theorem dX8_carryOut_125 : decode cX8_carryOut 125 = .ok (.ireturn, 1) := by decide +kernel
theorem dX8_carryOut_126 : decode cX8_carryOut 126 = .ok (.aload_n 0, 1) := by decide +kernel
theorem dX8_carryOut_127 : decode cX8_carryOut 127 = .ok (.iload_n 1, 1) := by decide +kernel
theorem dX8_carryOut_128 : decode cX8_carryOut 128 = .ok (.iload_n 2, 1) := by decide +kernel
theorem dX8_carryOut_129 : decode cX8_carryOut 129 = .ok (.invokevirtual 174, 3) := by decide +kernel
theorem dX8_carryOut_132 : decode cX8_carryOut 132 = .ok (.ireturn, 1) := by decide +kernel
theorem dX8_carryOut_133 : decode cX8_carryOut 133 = .ok (.aload_n 0, 1) := by decide +kernel
theorem dX8_carryOut_134 : decode cX8_carryOut 134 = .ok (.getfield 32, 3) := by decide +kernel
theorem dX8_carryOut_137 : decode cX8_carryOut 137 = .ok (.iload_n 2, 1) := by decide +kernel
theorem dX8_carryOut_138 : decode cX8_carryOut 138 = .ok (.putfield 53, 3) := by decide +kernel
theorem dX8_carryOut_141 : decode cX8_carryOut 141 = .ok (.iconst 0, 1) := by decide +kernel
theorem dX8_carryOut_142 : decode cX8_carryOut 142 = .ok (.ireturn, 1) := by decide +kernel
theorem dX8_carryOut_143 : decode cX8_carryOut 143 = .ok (.aload_n 0, 1) := by decide +kernel
theorem dX8_carryOut_144 : decode cX8_carryOut 144 = .ok (.getfield 32, 3) := by decide +kernel
theorem dX8_carryOut_147 : decode cX8_carryOut 147 = .ok (.iconst 1, 1) := by decide +kernel
theorem dX8_carryOut_148 : decode cX8_carryOut 148 = .ok (.putfield 177, 3) := by decide +kernel
theorem dX8_carryOut_151 : decode cX8_carryOut 151 = .ok (.aload_n 0, 1) := by decide +kernel
theorem dX8_carryOut_152 : decode cX8_carryOut 152 = .ok (.getfield 32, 3) := by decide +kernel
theorem dX8_carryOut_155 : decode cX8_carryOut 155 = .ok (.dup, 1) := by decide +kernel
theorem dX8_carryOut_156 : decode cX8_carryOut 156 = .ok (.getfield 181, 3) := by decide +kernel
theorem dX8_carryOut_159 : decode cX8_carryOut 159 = .ok (.iconst 1, 1) := by decide +kernel
theorem dX8_carryOut_160 : decode cX8_carryOut 160 = .ok (.iadd, 1) := by decide +kernel
theorem dX8_carryOut_161 : decode cX8_carryOut 161 = .ok (.putfield 181, 3) := by decide +kernel
theorem dX8_carryOut_164 : decode cX8_carryOut 164 = .ok (.iconst 1, 1) := by decide +kernel
theorem dX8_carryOut_165 : decode cX8_carryOut 165 = .ok (.ireturn, 1) := by decide +kernel

def f_X8_carryOut (i0 : Nat) (a1 : Int32) (M : Mm) : Option (Int32 × Mm) :=
  if okr 2 (M (wbog i0) 16) then (bd1 (f_X5_argumentAt (rid (M (wbog i0) 16)) a1 M) fun x2 => if okr 2 (M (wbog i0) 16) then (bd1 (f_X5_opAt (rid (M (wbog i0) 16)) a1 M) fun x6 => if (x6 = (29 : Int32)) then (bd2 (f_X8_go i0 a1 M) fun x10 M11 => some (x10, M11)) else (if (x6 = (30 : Int32)) then (bd2 (f_X8_cut i0 a1 M) fun x15 M16 => some (x15, M16)) else (if (x6 = (31 : Int32)) then (bd2 (f_X8_turn i0 a1 M) fun x20 M21 => some (x20, M21)) else (if (x6 = (32 : Int32)) then (bd2 (f_X8_load i0 a1 M) fun x25 M26 => some (x25, M26)) else (if (x6 = (33 : Int32)) then (bd2 (f_X8_unload i0 a1 M) fun x30 M31 => some (x30, M31)) else (if (x6 = (34 : Int32)) then (bd2 (f_X8_rest i0 a1 M) fun x35 M36 => some (x35, M36)) else (if (x6 = (35 : Int32)) then (bd2 (f_X8_branch i0 a1 x2 M) fun x40 M41 => some (x40, M41)) else (if (x6 = (36 : Int32)) then (bd2 (f_X8_beginRepeat i0 a1 x2 M) fun x45 M46 => some (x45, M46)) else (if (x6 = (37 : Int32)) then (bd2 (f_X8_repeat i0 a1 x2 M) fun x50 M51 => some (x50, M51)) else (if (x6 = (38 : Int32)) then (if okr 1 (M i0 1) then (lz (wr M (rid (M i0 1)) 9 x2) fun M56 => some ((0 : Int32), M56)) else none) else (if okr 1 (M i0 1) then (lz (wr M (rid (M i0 1)) 4 (1 : Int32)) fun M59 => if okr 1 (M59 i0 1) then (lz (wr M59 (rid (M59 i0 1)) 5 ((M59 (rid (M59 i0 1)) 5) + (1 : Int32))) fun M62 => some ((1 : Int32), M62)) else none) else none))))))))))) else none) else none

set_option maxHeartbeats 4000000 in
set_option maxRecDepth 100000 in
theorem c_X8_carryOut (l : Launch) (G : GG) (M : Mm) {i0 : Nat} (hi0 : (kd i0).1 = 3) (a1 : Int32) {r : Int32} {M9 : Mm} (hr : f_X8_carryOut i0 a1 M = some (r, M9)) : Mo true l yX8_carryOut (WS yX8_carryOut cX8_carryOut 3 (some .boolean)) (RM 3 0 0 71) 0 0 [.ref (G.2.1 i0), .int a1] G M (some (.int r)) M9 := by
  refine Mo.of (by decide +kernel) (Nat.le_of_ble_eq_true rfl) ?_
  intro p e s m args below meth c hC
  have hC : CX p s m args meth c cX8_carryOut 3 RX8 (some .boolean) G := hC
  rw [f_X8_carryOut] at hr
  show XJ p l e (RM 3 0 0 71) s m args below meth c G 3 _ 0 0 M 0 [(0, .ref (G.2.1 i0)), (1, .int a1)] []
  refine x_aload_n hC dX8_carryOut_0 rfl 0 rfl ?_
  refine gf_X8_22 hC hi0 dX8_carryOut_1 ?_
  obtain ⟨h1, hr⟩ := it_s hr
  refine gf_X8_56 hC (kr_3_0 hi0) h1 dX8_carryOut_4 ?_
  refine x_iload_n hC dX8_carryOut_7 rfl 1 rfl ?_
  obtain ⟨x2, q3, hr⟩ := bd1_s hr
  refine x_callV (ci := 2) (q := (RX5, TX5, 7)) (As := [.int a1]) hC (c_X5_argumentAt l G M h1.2 a1 q3) kc_yX5_argumentAt km_X8_143 ki_yX5_argumentAt kv_yX5_argumentAt kn_RX5 ky_yX5_argumentAt rfl ⟨rfl, rfl⟩ ⟨(Nat.le_of_ble_eq_true rfl), (Nat.le_of_ble_eq_true rfl)⟩ h1.2 (by decide) rfl rfl (Nat.le_of_ble_eq_true rfl) ⟨(Nat.le_of_ble_eq_true rfl), (Nat.le_of_ble_eq_true rfl)⟩ dX8_carryOut_8 (fun b4 => ?_)
  refine x_istore_n hC [(2, .int x2), (0, .ref (G.2.1 i0)), (1, .int a1)] dX8_carryOut_11 rfl (Nat.le_of_ble_eq_true rfl) rfl ?_
  refine x_aload_n hC dX8_carryOut_12 rfl 1 rfl ?_
  refine gf_X8_22 hC hi0 dX8_carryOut_13 ?_
  obtain ⟨h5, hr⟩ := it_s hr
  refine gf_X8_56 hC (kr_3_0 hi0) h5 dX8_carryOut_16 ?_
  refine x_iload_n hC dX8_carryOut_19 rfl 2 rfl ?_
  obtain ⟨x6, q7, hr⟩ := bd1_s hr
  refine x_callV (ci := 2) (q := (RX5, TX5, 7)) (As := [.int a1]) hC (c_X5_opAt l G M h5.2 a1 q7) kc_yX5_opAt km_X8_146 ki_yX5_opAt kv_yX5_opAt kn_RX5 ky_yX5_opAt rfl ⟨rfl, rfl⟩ ⟨(Nat.le_of_ble_eq_true rfl), (Nat.le_of_ble_eq_true rfl)⟩ h5.2 (by decide) rfl rfl (Nat.le_of_ble_eq_true rfl) ⟨(Nat.le_of_ble_eq_true rfl), (Nat.le_of_ble_eq_true rfl)⟩ dX8_carryOut_20 (fun b8 => ?_)
  by_cases s9 : x6 = (29 : Int32)
  · have hr := (ie_s hr).1 s9
    refine x_tableIn hC (off := 53) 76 dX8_carryOut_23 (by rw [s9]; decide) (by rw [s9]; decide) (by rw [s9]; rfl) (by decide) ?_
    refine x_aload_n hC dX8_carryOut_76 rfl 1 rfl ?_
    refine x_iload_n hC dX8_carryOut_77 rfl 2 rfl ?_
    obtain ⟨x10, M11, q12, hr⟩ := bd2_s hr
    refine x_callV (ci := 3) (q := (RX8, TX8, 5)) (As := [.int a1]) hC (c_X8_go l G M hi0 a1 q12) kc_yX8_go km_X8_149 ki_yX8_go kv_yX8_go kn_RX8 ky_yX8_go rfl ⟨rfl, rfl⟩ ⟨(Nat.le_of_ble_eq_true rfl), (Nat.le_of_ble_eq_true rfl)⟩ hi0 (by decide) rfl rfl (Nat.le_of_ble_eq_true rfl) ⟨(Nat.le_of_ble_eq_true rfl), (Nat.le_of_ble_eq_true rfl)⟩ dX8_carryOut_78 (fun b13 => ?_)
    cases hr
    exact x_zret hC rfl (BV.out b13) dX8_carryOut_81
  · have hr := (ie_s hr).2 s9
    by_cases s14 : x6 = (30 : Int32)
    · have hr := (ie_s hr).1 s14
      refine x_tableIn hC (off := 59) 82 dX8_carryOut_23 (by rw [s14]; decide) (by rw [s14]; decide) (by rw [s14]; rfl) (by decide) ?_
      refine x_aload_n hC dX8_carryOut_82 rfl 1 rfl ?_
      refine x_iload_n hC dX8_carryOut_83 rfl 2 rfl ?_
      obtain ⟨x15, M16, q17, hr⟩ := bd2_s hr
      refine x_callV (ci := 3) (q := (RX8, TX8, 5)) (As := [.int a1]) hC (c_X8_cut l G M hi0 a1 q17) kc_yX8_cut km_X8_152 ki_yX8_cut kv_yX8_cut kn_RX8 ky_yX8_cut rfl ⟨rfl, rfl⟩ ⟨(Nat.le_of_ble_eq_true rfl), (Nat.le_of_ble_eq_true rfl)⟩ hi0 (by decide) rfl rfl (Nat.le_of_ble_eq_true rfl) ⟨(Nat.le_of_ble_eq_true rfl), (Nat.le_of_ble_eq_true rfl)⟩ dX8_carryOut_84 (fun b18 => ?_)
      cases hr
      exact x_zret hC rfl (BV.out b18) dX8_carryOut_87
    · have hr := (ie_s hr).2 s14
      by_cases s19 : x6 = (31 : Int32)
      · have hr := (ie_s hr).1 s19
        refine x_tableIn hC (off := 65) 88 dX8_carryOut_23 (by rw [s19]; decide) (by rw [s19]; decide) (by rw [s19]; rfl) (by decide) ?_
        refine x_aload_n hC dX8_carryOut_88 rfl 1 rfl ?_
        refine x_iload_n hC dX8_carryOut_89 rfl 2 rfl ?_
        obtain ⟨x20, M21, q22, hr⟩ := bd2_s hr
        refine x_callV (ci := 3) (q := (RX8, TX8, 5)) (As := [.int a1]) hC (c_X8_turn l G M hi0 a1 q22) kc_yX8_turn km_X8_155 ki_yX8_turn kv_yX8_turn kn_RX8 ky_yX8_turn rfl ⟨rfl, rfl⟩ ⟨(Nat.le_of_ble_eq_true rfl), (Nat.le_of_ble_eq_true rfl)⟩ hi0 (by decide) rfl rfl (Nat.le_of_ble_eq_true rfl) ⟨(Nat.le_of_ble_eq_true rfl), (Nat.le_of_ble_eq_true rfl)⟩ dX8_carryOut_90 (fun b23 => ?_)
        cases hr
        exact x_zret hC rfl (BV.out b23) dX8_carryOut_93
      · have hr := (ie_s hr).2 s19
        by_cases s24 : x6 = (32 : Int32)
        · have hr := (ie_s hr).1 s24
          refine x_tableIn hC (off := 71) 94 dX8_carryOut_23 (by rw [s24]; decide) (by rw [s24]; decide) (by rw [s24]; rfl) (by decide) ?_
          refine x_aload_n hC dX8_carryOut_94 rfl 1 rfl ?_
          refine x_iload_n hC dX8_carryOut_95 rfl 2 rfl ?_
          obtain ⟨x25, M26, q27, hr⟩ := bd2_s hr
          refine x_callV (ci := 3) (q := (RX8, TX8, 5)) (As := [.int a1]) hC (c_X8_load l G M hi0 a1 q27) kc_yX8_load km_X8_158 ki_yX8_load kv_yX8_load kn_RX8 ky_yX8_load rfl ⟨rfl, rfl⟩ ⟨(Nat.le_of_ble_eq_true rfl), (Nat.le_of_ble_eq_true rfl)⟩ hi0 (by decide) rfl rfl (Nat.le_of_ble_eq_true rfl) ⟨(Nat.le_of_ble_eq_true rfl), (Nat.le_of_ble_eq_true rfl)⟩ dX8_carryOut_96 (fun b28 => ?_)
          cases hr
          exact x_zret hC rfl (BV.out b28) dX8_carryOut_99
        · have hr := (ie_s hr).2 s24
          by_cases s29 : x6 = (33 : Int32)
          · have hr := (ie_s hr).1 s29
            refine x_tableIn hC (off := 77) 100 dX8_carryOut_23 (by rw [s29]; decide) (by rw [s29]; decide) (by rw [s29]; rfl) (by decide) ?_
            refine x_aload_n hC dX8_carryOut_100 rfl 1 rfl ?_
            refine x_iload_n hC dX8_carryOut_101 rfl 2 rfl ?_
            obtain ⟨x30, M31, q32, hr⟩ := bd2_s hr
            refine x_callV (ci := 3) (q := (RX8, TX8, 5)) (As := [.int a1]) hC (c_X8_unload l G M hi0 a1 q32) kc_yX8_unload km_X8_161 ki_yX8_unload kv_yX8_unload kn_RX8 ky_yX8_unload rfl ⟨rfl, rfl⟩ ⟨(Nat.le_of_ble_eq_true rfl), (Nat.le_of_ble_eq_true rfl)⟩ hi0 (by decide) rfl rfl (Nat.le_of_ble_eq_true rfl) ⟨(Nat.le_of_ble_eq_true rfl), (Nat.le_of_ble_eq_true rfl)⟩ dX8_carryOut_102 (fun b33 => ?_)
            cases hr
            exact x_zret hC rfl (BV.out b33) dX8_carryOut_105
          · have hr := (ie_s hr).2 s29
            by_cases s34 : x6 = (34 : Int32)
            · have hr := (ie_s hr).1 s34
              refine x_tableIn hC (off := 83) 106 dX8_carryOut_23 (by rw [s34]; decide) (by rw [s34]; decide) (by rw [s34]; rfl) (by decide) ?_
              refine x_aload_n hC dX8_carryOut_106 rfl 1 rfl ?_
              refine x_iload_n hC dX8_carryOut_107 rfl 2 rfl ?_
              obtain ⟨x35, M36, q37, hr⟩ := bd2_s hr
              refine x_callV (ci := 3) (q := (RX8, TX8, 5)) (As := [.int a1]) hC (c_X8_rest l G M hi0 a1 q37) kc_yX8_rest km_X8_164 ki_yX8_rest kv_yX8_rest kn_RX8 ky_yX8_rest rfl ⟨rfl, rfl⟩ ⟨(Nat.le_of_ble_eq_true rfl), (Nat.le_of_ble_eq_true rfl)⟩ hi0 (by decide) rfl rfl (Nat.le_of_ble_eq_true rfl) ⟨(Nat.le_of_ble_eq_true rfl), (Nat.le_of_ble_eq_true rfl)⟩ dX8_carryOut_108 (fun b38 => ?_)
              cases hr
              exact x_zret hC rfl (BV.out b38) dX8_carryOut_111
            · have hr := (ie_s hr).2 s34
              by_cases s39 : x6 = (35 : Int32)
              · have hr := (ie_s hr).1 s39
                refine x_tableIn hC (off := 89) 112 dX8_carryOut_23 (by rw [s39]; decide) (by rw [s39]; decide) (by rw [s39]; rfl) (by decide) ?_
                refine x_aload_n hC dX8_carryOut_112 rfl 1 rfl ?_
                refine x_iload_n hC dX8_carryOut_113 rfl 2 rfl ?_
                refine x_iload_n hC dX8_carryOut_114 rfl 0 rfl ?_
                obtain ⟨x40, M41, q42, hr⟩ := bd2_s hr
                refine x_callV (ci := 3) (q := (RX8, TX8, 5)) (As := [.int a1, .int x2]) hC (c_X8_branch l G M hi0 a1 x2 q42) kc_yX8_branch km_X8_167 ki_yX8_branch kv_yX8_branch kn_RX8 ky_yX8_branch rfl ⟨rfl, rfl⟩ ⟨(Nat.le_of_ble_eq_true rfl), (Nat.le_of_ble_eq_true rfl)⟩ hi0 (by decide) rfl rfl (Nat.le_of_ble_eq_true rfl) ⟨(Nat.le_of_ble_eq_true rfl), (Nat.le_of_ble_eq_true rfl)⟩ dX8_carryOut_115 (fun b43 => ?_)
                cases hr
                exact x_zret hC rfl (BV.out b43) dX8_carryOut_118
              · have hr := (ie_s hr).2 s39
                by_cases s44 : x6 = (36 : Int32)
                · have hr := (ie_s hr).1 s44
                  refine x_tableIn hC (off := 96) 119 dX8_carryOut_23 (by rw [s44]; decide) (by rw [s44]; decide) (by rw [s44]; rfl) (by decide) ?_
                  refine x_aload_n hC dX8_carryOut_119 rfl 1 rfl ?_
                  refine x_iload_n hC dX8_carryOut_120 rfl 2 rfl ?_
                  refine x_iload_n hC dX8_carryOut_121 rfl 0 rfl ?_
                  obtain ⟨x45, M46, q47, hr⟩ := bd2_s hr
                  refine x_callV (ci := 3) (q := (RX8, TX8, 5)) (As := [.int a1, .int x2]) hC (c_X8_beginRepeat l G M hi0 a1 x2 q47) kc_yX8_beginRepeat km_X8_171 ki_yX8_beginRepeat kv_yX8_beginRepeat kn_RX8 ky_yX8_beginRepeat rfl ⟨rfl, rfl⟩ ⟨(Nat.le_of_ble_eq_true rfl), (Nat.le_of_ble_eq_true rfl)⟩ hi0 (by decide) rfl rfl (Nat.le_of_ble_eq_true rfl) ⟨(Nat.le_of_ble_eq_true rfl), (Nat.le_of_ble_eq_true rfl)⟩ dX8_carryOut_122 (fun b48 => ?_)
                  cases hr
                  exact x_zret hC rfl (BV.out b48) dX8_carryOut_125
                · have hr := (ie_s hr).2 s44
                  by_cases s49 : x6 = (37 : Int32)
                  · have hr := (ie_s hr).1 s49
                    refine x_tableIn hC (off := 103) 126 dX8_carryOut_23 (by rw [s49]; decide) (by rw [s49]; decide) (by rw [s49]; rfl) (by decide) ?_
                    refine x_aload_n hC dX8_carryOut_126 rfl 1 rfl ?_
                    refine x_iload_n hC dX8_carryOut_127 rfl 2 rfl ?_
                    refine x_iload_n hC dX8_carryOut_128 rfl 0 rfl ?_
                    obtain ⟨x50, M51, q52, hr⟩ := bd2_s hr
                    refine x_callV (ci := 3) (q := (RX8, TX8, 5)) (As := [.int a1, .int x2]) hC (c_X8_repeat l G M hi0 a1 x2 q52) kc_yX8_repeat km_X8_174 ki_yX8_repeat kv_yX8_repeat kn_RX8 ky_yX8_repeat rfl ⟨rfl, rfl⟩ ⟨(Nat.le_of_ble_eq_true rfl), (Nat.le_of_ble_eq_true rfl)⟩ hi0 (by decide) rfl rfl (Nat.le_of_ble_eq_true rfl) ⟨(Nat.le_of_ble_eq_true rfl), (Nat.le_of_ble_eq_true rfl)⟩ dX8_carryOut_129 (fun b53 => ?_)
                    cases hr
                    exact x_zret hC rfl (BV.out b53) dX8_carryOut_132
                  · have hr := (ie_s hr).2 s49
                    by_cases s54 : x6 = (38 : Int32)
                    · have hr := (ie_s hr).1 s54
                      refine x_tableIn hC (off := 110) 133 dX8_carryOut_23 (by rw [s54]; decide) (by rw [s54]; decide) (by rw [s54]; rfl) (by decide) ?_
                      refine x_aload_n hC dX8_carryOut_133 rfl 1 rfl ?_
                      obtain ⟨h55, hr⟩ := it_s hr
                      refine gf_X8_32 hC hi0 h55 dX8_carryOut_134 ?_
                      refine x_iload_n hC dX8_carryOut_137 rfl 0 rfl ?_
                      obtain ⟨M56, e57, hr⟩ := lz_s hr
                      refine pf_X8_53 hC h55.2 e57 dX8_carryOut_138 ?_
                      refine x_iconst hC (0 : Int32) dX8_carryOut_141 (by decide) ?_
                      cases hr
                      exact x_zret hC rfl (Or.inl rfl) dX8_carryOut_142
                    · have hr := (ie_s hr).2 s54
                      refine x_tableOut hC 143 dX8_carryOut_23 (by have := ne_toI s9 (z := 29) (by decide); have := ne_toI s14 (z := 30) (by decide); have := ne_toI s19 (z := 31) (by decide); have := ne_toI s24 (z := 32) (by decide); have := ne_toI s29 (z := 33) (by decide); have := ne_toI s34 (z := 34) (by decide); have := ne_toI s39 (z := 35) (by decide); have := ne_toI s44 (z := 36) (by decide); have := ne_toI s49 (z := 37) (by decide); have := ne_toI s54 (z := 38) (by decide); omega) (by decide) ?_
                      refine x_aload_n hC dX8_carryOut_143 rfl 1 rfl ?_
                      obtain ⟨h58, hr⟩ := it_s hr
                      refine gf_X8_32 hC hi0 h58 dX8_carryOut_144 ?_
                      refine x_iconst hC (1 : Int32) dX8_carryOut_147 (by decide) ?_
                      obtain ⟨M59, e60, hr⟩ := lz_s hr
                      refine pf_X8_177 hC h58.2 (Or.inr rfl) e60 dX8_carryOut_148 ?_
                      refine x_aload_n hC dX8_carryOut_151 rfl 1 rfl ?_
                      obtain ⟨h61, hr⟩ := it_s hr
                      refine gf_X8_32 hC hi0 h61 dX8_carryOut_152 ?_
                      refine x_dup hC dX8_carryOut_155 rfl ?_
                      refine gf_X8_181 hC h61.2 dX8_carryOut_156 ?_
                      refine x_iconst hC (1 : Int32) dX8_carryOut_159 (by decide) ?_
                      refine x_iadd hC dX8_carryOut_160 ?_
                      obtain ⟨M62, e63, hr⟩ := lz_s hr
                      refine pf_X8_181 hC h61.2 e63 dX8_carryOut_161 ?_
                      refine x_iconst hC (1 : Int32) dX8_carryOut_164 (by decide) ?_
                      cases hr
                      exact x_zret hC rfl (Or.inr rfl) dX8_carryOut_165

theorem dX8_workHour_0 : decode cX8_workHour 0 = .ok (.aload_n 0, 1) := by decide +kernel
theorem dX8_workHour_1 : decode cX8_workHour 1 = .ok (.aload_n 1, 1) := by decide +kernel
theorem dX8_workHour_2 : decode cX8_workHour 2 = .ok (.putfield 32, 3) := by decide +kernel
theorem dX8_workHour_5 : decode cX8_workHour 5 = .ok (.aload_n 0, 1) := by decide +kernel
theorem dX8_workHour_6 : decode cX8_workHour 6 = .ok (.getfield 32, 3) := by decide +kernel
theorem dX8_workHour_9 : decode cX8_workHour 9 = .ok (.dup, 1) := by decide +kernel
theorem dX8_workHour_10 : decode cX8_workHour 10 = .ok (.getfield 36, 3) := by decide +kernel
theorem dX8_workHour_13 : decode cX8_workHour 13 = .ok (.iconst 1, 1) := by decide +kernel
theorem dX8_workHour_14 : decode cX8_workHour 14 = .ok (.iadd, 1) := by decide +kernel
theorem dX8_workHour_15 : decode cX8_workHour 15 = .ok (.putfield 36, 3) := by decide +kernel
theorem dX8_workHour_18 : decode cX8_workHour 18 = .ok (.aload_n 0, 1) := by decide +kernel
theorem dX8_workHour_19 : decode cX8_workHour 19 = .ok (.getfield 32, 3) := by decide +kernel
theorem dX8_workHour_22 : decode cX8_workHour 22 = .ok (.getfield 41, 3) := by decide +kernel
theorem dX8_workHour_25 : decode cX8_workHour 25 = .ok (.ifCond .le 17, 3) := by decide +kernel
theorem dX8_workHour_28 : decode cX8_workHour 28 = .ok (.aload_n 0, 1) := by decide +kernel
theorem dX8_workHour_29 : decode cX8_workHour 29 = .ok (.getfield 32, 3) := by decide +kernel
theorem dX8_workHour_32 : decode cX8_workHour 32 = .ok (.dup, 1) := by decide +kernel
theorem dX8_workHour_33 : decode cX8_workHour 33 = .ok (.getfield 41, 3) := by decide +kernel
theorem dX8_workHour_36 : decode cX8_workHour 36 = .ok (.iconst 1, 1) := by decide +kernel
theorem dX8_workHour_37 : decode cX8_workHour 37 = .ok (.isub, 1) := by decide +kernel
theorem dX8_workHour_38 : decode cX8_workHour 38 = .ok (.putfield 41, 3) := by decide +kernel
theorem dX8_workHour_41 : decode cX8_workHour 41 = .ok (.return_, 1) := by decide +kernel
theorem dX8_workHour_42 : decode cX8_workHour 42 = .ok (.aload_n 0, 1) := by decide +kernel
theorem dX8_workHour_43 : decode cX8_workHour 43 = .ok (.iconst 0, 1) := by decide +kernel
theorem dX8_workHour_44 : decode cX8_workHour 44 = .ok (.putfield 19, 3) := by decide +kernel
theorem dX8_workHour_47 : decode cX8_workHour 47 = .ok (.iconst 0, 1) := by decide +kernel
theorem dX8_workHour_48 : decode cX8_workHour 48 = .ok (.istore_n 2, 1) := by decide +kernel
theorem dX8_workHour_49 : decode cX8_workHour 49 = .ok (.iconst 0, 1) := by decide +kernel
theorem dX8_workHour_50 : decode cX8_workHour 50 = .ok (.istore_n 3, 1) := by decide +kernel
theorem dX8_workHour_51 : decode cX8_workHour 51 = .ok (.iload_n 3, 1) := by decide +kernel
theorem dX8_workHour_52 : decode cX8_workHour 52 = .ok (.ldc 44, 2) := by decide +kernel
theorem dX8_workHour_54 : decode cX8_workHour 54 = .ok (.if_icmp .ge 22, 3) := by decide +kernel
theorem dX8_workHour_57 : decode cX8_workHour 57 = .ok (.iload_n 2, 1) := by decide +kernel
theorem dX8_workHour_58 : decode cX8_workHour 58 = .ok (.ifCond .ne 18, 3) := by decide +kernel
theorem dX8_workHour_61 : decode cX8_workHour 61 = .ok (.aload_n 0, 1) := by decide +kernel
theorem dX8_workHour_62 : decode cX8_workHour 62 = .ok (.aload_n 0, 1) := by decide +kernel
theorem dX8_workHour_63 : decode cX8_workHour 63 = .ok (.invokevirtual 45, 3) := by decide +kernel
theorem dX8_workHour_66 : decode cX8_workHour 66 = .ok (.invokevirtual 49, 3) := by decide +kernel
theorem dX8_workHour_69 : decode cX8_workHour 69 = .ok (.istore_n 2, 1) := by decide +kernel
theorem dX8_workHour_70 : decode cX8_workHour 70 = .ok (.iinc 3 1, 3) := by decide +kernel
theorem dX8_workHour_73 : decode cX8_workHour 73 = .ok (.goto (-22), 3) := by decide +kernel
theorem dX8_workHour_76 : decode cX8_workHour 76 = .ok (.return_, 1) := by decide +kernel
def f_X8_workHour_L51 (i0 : Nat) (i1 : Nat) : Nat → Int32 → Int32 → Mm → Option (Mm)
  | 0, _, _, _ => none
  | n + 1, v2, v3, M =>
    if ((1000000 : Int32) ≤ v3) then (some (M)) else (if (v2 = 0) then (bd2 (f_X8_reckonSums i0 M) fun x12 M13 => bd2 (f_X8_carryOut i0 x12 M13) fun x16 M17 => lz (v3 + (1 : Int32)) fun x20 => f_X8_workHour_L51 i0 i1 n x16 x20 M17) else (some (M)))
def f_X8_workHour (i0 : Nat) (i1 : Nat) (M : Mm) : Option Mm :=
  lz (wr M i0 1 (nI (i1 + 1))) fun M1 => if okr 1 (M1 i0 1) then (lz (wr M1 (rid (M1 i0 1)) 7 ((M1 (rid (M1 i0 1)) 7) + (1 : Int32))) fun M4 => if okr 1 (M4 i0 1) then (if ((M4 (rid (M4 i0 1)) 8) ≤ 0) then (lz (wr M4 i0 4 (0 : Int32)) fun M8 => bd1 (f_X8_workHour_L51 i0 i1 FU (0 : Int32) (0 : Int32) M8) fun M23 => some M23) else (if okr 1 (M4 i0 1) then (lz (wr M4 (rid (M4 i0 1)) 8 ((M4 (rid (M4 i0 1)) 8) - (1 : Int32))) fun M25 => some M25) else none)) else none) else none
set_option maxHeartbeats 4000000 in
set_option maxRecDepth 100000 in
theorem l_X8_workHour_L51 {p : Program} {e : Env} {s : State} {m : MethodId} {args : Array Value} {below : List Frame} {meth : Method} {c : Code} {l : Launch} {G : GG} {Q : State → Prop} (hC : CX p s m args meth c cX8_workHour 4 RX8 none G) {i0 : Nat} {i1 : Nat} (hi0 : (kd i0).1 = 3) (hi1 : (kd i1).1 = 1) : ∀ (n : Nat) (v2 : Int32) (v3 : Int32) (M : Mm) {M2 : Mm} (hr : f_X8_workHour_L51 i0 i1 n v2 v3 M = some (M2)) (K : XJ p l e (RM 4 0 0 107) s m args below meth c G 4 Q 0 0 M2 76 [] []), XJ p l e (RM 4 0 0 107) s m args below meth c G 4 Q 0 0 M 51 [(0, .ref (G.2.1 i0)), (2, .int v2), (3, .int v3)] [] := by
  intro n
  induction n with
  | zero => intro v2 v3 M M2 hr K; rw [f_X8_workHour_L51] at hr; cases hr
  | succ n ih =>
    intro v2 v3 M M2 hr K
    rw [f_X8_workHour_L51] at hr
    refine x_iload_n hC dX8_workHour_51 rfl 2 rfl ?_
    refine x_ldc hC (1000000 : Int32) kx_X8_44 dX8_workHour_52 ?_
    refine x_icmp_ge hC 76 dX8_workHour_54 (by decide) (fun h10 => ?_) (fun h10 => ?_)
    · have hr := (ie_s hr).1 h10
      cases hr
      exact x_sub [] rfl K
    · have hr := (ie_s hr).2 h10
      refine x_iload_n hC dX8_workHour_57 rfl 1 rfl ?_
      refine x_if_ne hC 76 dX8_workHour_58 (by decide) (fun h11 => ?_) (fun h11 => ?_)
      · have hr := (ie_s hr).2 h11
        cases hr
        exact x_sub [] rfl K
      · have hr := (ie_s hr).1 h11
        refine x_aload_n hC dX8_workHour_61 rfl 0 rfl ?_
        refine x_aload_n hC dX8_workHour_62 rfl 0 rfl ?_
        obtain ⟨x12, M13, q14, hr⟩ := bd2_s hr
        refine x_callV (ci := 3) (q := (RX8, TX8, 5)) (As := []) hC (c_X8_reckonSums l G M hi0 q14) kc_yX8_reckonSums km_X8_45 ki_yX8_reckonSums kv_yX8_reckonSums kn_RX8 ky_yX8_reckonSums rfl ⟨rfl, rfl⟩ ⟨(Nat.le_of_ble_eq_true rfl), (Nat.le_of_ble_eq_true rfl)⟩ hi0 (by decide) rfl rfl (Nat.le_of_ble_eq_true rfl) ⟨(Nat.le_of_ble_eq_true rfl), (Nat.le_of_ble_eq_true rfl)⟩ dX8_workHour_63 (fun b15 => ?_)
        obtain ⟨x16, M17, q18, hr⟩ := bd2_s hr
        refine x_callV (ci := 3) (q := (RX8, TX8, 5)) (As := [.int x12]) hC (c_X8_carryOut l G M13 hi0 x12 q18) kc_yX8_carryOut km_X8_49 ki_yX8_carryOut kv_yX8_carryOut kn_RX8 ky_yX8_carryOut rfl ⟨rfl, rfl⟩ ⟨(Nat.le_of_ble_eq_true rfl), (Nat.le_of_ble_eq_true rfl)⟩ hi0 (by decide) rfl rfl (Nat.le_of_ble_eq_true rfl) ⟨(Nat.le_of_ble_eq_true rfl), (Nat.le_of_ble_eq_true rfl)⟩ dX8_workHour_66 (fun b19 => ?_)
        refine x_istore_n hC [(2, .int x16), (0, .ref (G.2.1 i0)), (3, .int v3)] dX8_workHour_69 rfl (Nat.le_of_ble_eq_true rfl) rfl ?_
        obtain ⟨x20, e21, hr⟩ := lz_s hr
        refine x_iinc hC [(3, .int x20), (2, .int x16), (0, .ref (G.2.1 i0))] dX8_workHour_70 2 rfl (by rw [e21]; rfl) (Nat.le_of_ble_eq_true rfl) rfl ?_
        refine x_goto hC 51 dX8_workHour_73 (by decide) ?_
        exact x_sub [2, 1, 0] rfl (ih x16 x20 M17 hr K)
set_option maxHeartbeats 4000000 in
set_option maxRecDepth 100000 in
theorem c_X8_workHour (l : Launch) (G : GG) (M : Mm) {i0 : Nat} (hi0 : (kd i0).1 = 3) {i1 : Nat} (hi1 : (kd i1).1 = 1) {M9 : Mm} (hr : f_X8_workHour i0 i1 M = some M9) : Mo false l yX8_workHour (WS yX8_workHour cX8_workHour 4 none) (RM 4 0 0 107) 0 0 [.ref (G.2.1 i0), .ref (G.2.1 i1)] G M none M9 := by
  refine Mo.of (by decide +kernel) (Nat.le_of_ble_eq_true rfl) ?_
  intro p e s m args below meth c hC
  have hC : CX p s m args meth c cX8_workHour 4 RX8 none G := hC
  rw [f_X8_workHour] at hr
  show XJ p l e (RM 4 0 0 107) s m args below meth c G 4 _ 0 0 M 0 [(0, .ref (G.2.1 i0)), (1, .ref (G.2.1 i1))] []
  refine x_aload_n hC dX8_workHour_0 rfl 0 rfl ?_
  refine x_aload_n hC dX8_workHour_1 rfl 1 rfl ?_
  obtain ⟨M1, e2, hr⟩ := lz_s hr
  refine pf_X8_32 hC hi0 (kd_lt hi1) e2 dX8_workHour_2 ?_
  refine x_aload_n hC dX8_workHour_5 rfl 0 rfl ?_
  obtain ⟨h3, hr⟩ := it_s hr
  refine gf_X8_32 hC hi0 h3 dX8_workHour_6 ?_
  refine x_dup hC dX8_workHour_9 rfl ?_
  refine gf_X8_36 hC h3.2 dX8_workHour_10 ?_
  refine x_iconst hC (1 : Int32) dX8_workHour_13 (by decide) ?_
  refine x_iadd hC dX8_workHour_14 ?_
  obtain ⟨M4, e5, hr⟩ := lz_s hr
  refine pf_X8_36 hC h3.2 e5 dX8_workHour_15 ?_
  refine x_aload_n hC dX8_workHour_18 rfl 0 rfl ?_
  obtain ⟨h6, hr⟩ := it_s hr
  refine gf_X8_32 hC hi0 h6 dX8_workHour_19 ?_
  refine gf_X8_41 hC h6.2 dX8_workHour_22 ?_
  refine x_if_le hC 42 dX8_workHour_25 (by decide) (fun h7 => ?_) (fun h7 => ?_)
  · have hr := (ie_s hr).1 h7
    refine x_aload_n hC dX8_workHour_42 rfl 0 rfl ?_
    refine x_iconst hC (0 : Int32) dX8_workHour_43 (by decide) ?_
    obtain ⟨M8, e9, hr⟩ := lz_s hr
    refine pf_X8_19 hC hi0 e9 dX8_workHour_44 ?_
    refine x_iconst hC (0 : Int32) dX8_workHour_47 (by decide) ?_
    refine x_istore_n hC [(2, .int (0 : Int32)), (0, .ref (G.2.1 i0)), (1, .ref (G.2.1 i1))] dX8_workHour_48 rfl (Nat.le_of_ble_eq_true rfl) rfl ?_
    refine x_iconst hC (0 : Int32) dX8_workHour_49 (by decide) ?_
    refine x_istore_n hC [(3, .int (0 : Int32)), (2, .int (0 : Int32)), (0, .ref (G.2.1 i0)), (1, .ref (G.2.1 i1))] dX8_workHour_50 rfl (Nat.le_of_ble_eq_true rfl) rfl ?_
    obtain ⟨M23, q22, hr⟩ := bd1_s hr
    refine x_sub [2, 1, 0] rfl (l_X8_workHour_L51 hC hi0 hi1 FU  (0 : Int32) (0 : Int32) M8 q22 ?_)
    cases hr
    exact x_vret hC rfl dX8_workHour_76
  · have hr := (ie_s hr).2 h7
    refine x_aload_n hC dX8_workHour_28 rfl 0 rfl ?_
    obtain ⟨h24, hr⟩ := it_s hr
    refine gf_X8_32 hC hi0 h24 dX8_workHour_29 ?_
    refine x_dup hC dX8_workHour_32 rfl ?_
    refine gf_X8_41 hC h24.2 dX8_workHour_33 ?_
    refine x_iconst hC (1 : Int32) dX8_workHour_36 (by decide) ?_
    refine x_isub hC dX8_workHour_37 ?_
    obtain ⟨M25, e26, hr⟩ := lz_s hr
    refine pf_X8_41 hC h24.2 e26 dX8_workHour_38 ?_
    cases hr
    exact x_vret hC rfl dX8_workHour_41
