theorem dX9_append_0 : decode cX9_append 0 = .ok (.bipush 24, 2) := by decide +kernel
theorem dX9_append_2 : decode cX9_append 2 = .ok (.istore_n 2, 1) := by decide +kernel
theorem dX9_append_3 : decode cX9_append 3 = .ok (.iload_n 2, 1) := by decide +kernel
theorem dX9_append_4 : decode cX9_append 4 = .ok (.ifCond .lt 42, 3) := by decide +kernel
theorem dX9_append_7 : decode cX9_append 7 = .ok (.aload_n 0, 1) := by decide +kernel
theorem dX9_append_8 : decode cX9_append 8 = .ok (.getfield 13, 3) := by decide +kernel
theorem dX9_append_11 : decode cX9_append 11 = .ok (.sipush 2000, 3) := by decide +kernel
theorem dX9_append_14 : decode cX9_append 14 = .ok (.if_icmp .ge 32, 3) := by decide +kernel
theorem dX9_append_17 : decode cX9_append 17 = .ok (.aload_n 0, 1) := by decide +kernel
theorem dX9_append_18 : decode cX9_append 18 = .ok (.getfield 9, 3) := by decide +kernel
theorem dX9_append_21 : decode cX9_append 21 = .ok (.aload_n 0, 1) := by decide +kernel
theorem dX9_append_22 : decode cX9_append 22 = .ok (.getfield 13, 3) := by decide +kernel
theorem dX9_append_25 : decode cX9_append 25 = .ok (.iload_n 1, 1) := by decide +kernel
theorem dX9_append_26 : decode cX9_append 26 = .ok (.iload_n 2, 1) := by decide +kernel
theorem dX9_append_27 : decode cX9_append 27 = .ok (.ishr, 1) := by decide +kernel
theorem dX9_append_28 : decode cX9_append 28 = .ok (.i2b, 1) := by decide +kernel
theorem dX9_append_29 : decode cX9_append 29 = .ok (.bastore, 1) := by decide +kernel
theorem dX9_append_30 : decode cX9_append 30 = .ok (.aload_n 0, 1) := by decide +kernel
theorem dX9_append_31 : decode cX9_append 31 = .ok (.dup, 1) := by decide +kernel
theorem dX9_append_32 : decode cX9_append 32 = .ok (.getfield 13, 3) := by decide +kernel
theorem dX9_append_35 : decode cX9_append 35 = .ok (.iconst 1, 1) := by decide +kernel
theorem dX9_append_36 : decode cX9_append 36 = .ok (.iadd, 1) := by decide +kernel
theorem dX9_append_37 : decode cX9_append 37 = .ok (.putfield 13, 3) := by decide +kernel
theorem dX9_append_40 : decode cX9_append 40 = .ok (.iinc 2 (-8), 3) := by decide +kernel
theorem dX9_append_43 : decode cX9_append 43 = .ok (.goto (-40), 3) := by decide +kernel
theorem dX9_append_46 : decode cX9_append 46 = .ok (.return_, 1) := by decide +kernel
def f_X9_append_L3 (i0 : Nat) (a1 : Int32) : Nat → Int32 → Mm → Option (Mm)
  | 0, _, _ => none
  | n + 1, v2, M =>
    if (v2 < 0) then (some (M)) else (if ((2000 : Int32) ≤ (M i0 1)) then (some (M)) else (if 0 ≤ (M i0 1).toInt ∧ (M i0 1).toInt < ((2000 : Nat) : Int) then (lz (wr M (i0 + 1) (ix (M i0 1)) ((a1 >>> (v2 &&& 31)).toInt8.toInt32).toInt8.toInt32) fun M4 => lz (wr M4 i0 1 ((M4 i0 1) + (1 : Int32))) fun M6 => lz (v2 + (-8 : Int32)) fun x8 => f_X9_append_L3 i0 a1 n x8 M6) else none))
def f_X9_append (i0 : Nat) (a1 : Int32) (M : Mm) : Option Mm :=
  bd1 (f_X9_append_L3 i0 a1 FU (24 : Int32) M) fun M11 => some M11
set_option maxHeartbeats 4000000 in
set_option maxRecDepth 100000 in
theorem l_X9_append_L3 {p : Program} {e : Env} {s : State} {m : MethodId} {args : Array Value} {below : List Frame} {meth : Method} {c : Code} {l : Launch} {G : GG} {Q : State → Prop} (hC : CX p s m args meth c cX9_append 3 RX9 none G) {i0 : Nat} (hi0 : (kd i0).1 = 6) (a1 : Int32) : ∀ (n : Nat) (v2 : Int32) (M : Mm) {M2 : Mm} (hr : f_X9_append_L3 i0 a1 n v2 M = some (M2)) (K : XJ p l e (RM 0 0 0 0) s m args below meth c G 3 Q 0 0 M2 46 [] []), XJ p l e (RM 0 0 0 0) s m args below meth c G 3 Q 0 0 M 3 [(0, .ref (G.2.1 i0)), (1, .int a1), (2, .int v2)] [] := by
  intro n
  induction n with
  | zero => intro v2 M M2 hr K; rw [f_X9_append_L3] at hr; cases hr
  | succ n ih =>
    intro v2 M M2 hr K
    rw [f_X9_append_L3] at hr
    refine x_iload_n hC dX9_append_3 rfl 2 rfl ?_
    refine x_if_lt hC 46 dX9_append_4 (by decide) (fun h1 => ?_) (fun h1 => ?_)
    · have hr := (ie_s hr).1 h1
      cases hr
      exact x_sub [] rfl K
    · have hr := (ie_s hr).2 h1
      refine x_aload_n hC dX9_append_7 rfl 0 rfl ?_
      refine gf_X9_13 hC hi0 dX9_append_8 ?_
      refine x_sipush hC (2000 : Int32) dX9_append_11 (by decide) ?_
      refine x_icmp_ge hC 46 dX9_append_14 (by decide) (fun h2 => ?_) (fun h2 => ?_)
      · have hr := (ie_s hr).1 h2
        cases hr
        exact x_sub [] rfl K
      · have hr := (ie_s hr).2 h2
        refine x_aload_n hC dX9_append_17 rfl 0 rfl ?_
        refine gf_X9_9 hC hi0 dX9_append_18 ?_
        refine x_aload_n hC dX9_append_21 rfl 0 rfl ?_
        refine gf_X9_13 hC hi0 dX9_append_22 ?_
        refine x_iload_n hC dX9_append_25 rfl 1 rfl ?_
        refine x_iload_n hC dX9_append_26 rfl 2 rfl ?_
        refine x_ishr hC dX9_append_27 ?_
        refine x_i2b hC dX9_append_28 ?_
        obtain ⟨h3, hr⟩ := it_s hr
        obtain ⟨M4, e5, hr⟩ := lz_s hr
        refine x_bast hC (kr_6_0 hi0) h3 e5 dX9_append_29 ?_
        refine x_aload_n hC dX9_append_30 rfl 0 rfl ?_
        refine x_dup hC dX9_append_31 rfl ?_
        refine gf_X9_13 hC hi0 dX9_append_32 ?_
        refine x_iconst hC (1 : Int32) dX9_append_35 (by decide) ?_
        refine x_iadd hC dX9_append_36 ?_
        obtain ⟨M6, e7, hr⟩ := lz_s hr
        refine pf_X9_13 hC hi0 e7 dX9_append_37 ?_
        obtain ⟨x8, e9, hr⟩ := lz_s hr
        refine x_iinc hC [(2, .int x8), (0, .ref (G.2.1 i0)), (1, .int a1)] dX9_append_40 2 rfl (by rw [e9]; rfl) (Nat.le_of_ble_eq_true rfl) rfl ?_
        refine x_goto hC 3 dX9_append_43 (by decide) ?_
        exact x_sub [1, 2, 0] rfl (ih x8 M6 hr K)
set_option maxHeartbeats 4000000 in
set_option maxRecDepth 100000 in
theorem c_X9_append (l : Launch) (G : GG) (M : Mm) {i0 : Nat} (hi0 : (kd i0).1 = 6) (a1 : Int32) {M9 : Mm} (hr : f_X9_append i0 a1 M = some M9) : Mo false l yX9_append (WS yX9_append cX9_append 3 none) (RM 0 0 0 0) 0 0 [.ref (G.2.1 i0), .int a1] G M none M9 := by
  refine Mo.of (by decide +kernel) (Nat.le_of_ble_eq_true rfl) ?_
  intro p e s m args below meth c hC
  have hC : CX p s m args meth c cX9_append 3 RX9 none G := hC
  rw [f_X9_append] at hr
  show XJ p l e (RM 0 0 0 0) s m args below meth c G 3 _ 0 0 M 0 [(0, .ref (G.2.1 i0)), (1, .int a1)] []
  refine x_bipush hC (24 : Int32) dX9_append_0 (by decide) ?_
  refine x_istore_n hC [(2, .int (24 : Int32)), (0, .ref (G.2.1 i0)), (1, .int a1)] dX9_append_2 rfl (Nat.le_of_ble_eq_true rfl) rfl ?_
  obtain ⟨M11, q10, hr⟩ := bd1_s hr
  refine x_sub [1, 2, 0] rfl (l_X9_append_L3 hC hi0 a1 FU  (24 : Int32) M q10 ?_)
  cases hr
  exact x_vret hC rfl dX9_append_46

theorem dX9_errorAt_0 : decode cX9_errorAt 0 = .ok (.aload_n 0, 1) := by decide +kernel
theorem dX9_errorAt_1 : decode cX9_errorAt 1 = .ok (.getfield 23, 3) := by decide +kernel
theorem dX9_errorAt_4 : decode cX9_errorAt 4 = .ok (.ireturn, 1) := by decide +kernel

def f_X9_errorAt (i0 : Nat) (M : Mm) : Int32 :=
  (M i0 4)

set_option maxHeartbeats 4000000 in
set_option maxRecDepth 100000 in
theorem c_X9_errorAt (l : Launch) (G : GG) (M : Mm) {i0 : Nat} (hi0 : (kd i0).1 = 6) {r : Int32} (hr : f_X9_errorAt i0 M = r) : Mo false l yX9_errorAt (WS yX9_errorAt cX9_errorAt 1 (some .int)) (RM 0 0 0 0) 0 0 [.ref (G.2.1 i0)] G M (some (.int r)) M := by
  refine Mo.of (by decide +kernel) (Nat.le_of_ble_eq_true rfl) ?_
  intro p e s m args below meth c hC
  have hC : CX p s m args meth c cX9_errorAt 1 RX9 (some .int) G := hC
  rw [f_X9_errorAt] at hr
  show XJ p l e (RM 0 0 0 0) s m args below meth c G 1 _ 0 0 M 0 [(0, .ref (G.2.1 i0))] []
  refine x_aload_n hC dX9_errorAt_0 rfl 0 rfl ?_
  refine gf_X9_23 hC hi0 dX9_errorAt_1 ?_
  subst hr
  exact x_iret hC rfl dX9_errorAt_4

theorem dX9_counted_0 : decode cX9_counted 0 = .ok (.iload_n 1, 1) := by decide +kernel
theorem dX9_counted_1 : decode cX9_counted 1 = .ok (.tableswitch 159 0 11 #[63, 71, 79, 87, 92, 97, 105, 113, 124, 132, 140, 148], 63) := by decide +kernel
theorem dX9_counted_64 : decode cX9_counted 64 = .ok (.aload_n 0, 1) := by decide +kernel
theorem dX9_counted_65 : decode cX9_counted 65 = .ok (.getfield 45, 3) := by decide +kernel
theorem dX9_counted_68 : decode cX9_counted 68 = .ok (.getfield 103, 3) := by decide +kernel
theorem dX9_counted_71 : decode cX9_counted 71 = .ok (.ireturn, 1) := by decide +kernel
theorem dX9_counted_72 : decode cX9_counted 72 = .ok (.aload_n 0, 1) := by decide +kernel
theorem dX9_counted_73 : decode cX9_counted 73 = .ok (.getfield 45, 3) := by decide +kernel
theorem dX9_counted_76 : decode cX9_counted 76 = .ok (.getfield 106, 3) := by decide +kernel
theorem dX9_counted_79 : decode cX9_counted 79 = .ok (.ireturn, 1) := by decide +kernel
theorem dX9_counted_80 : decode cX9_counted 80 = .ok (.aload_n 0, 1) := by decide +kernel
theorem dX9_counted_81 : decode cX9_counted 81 = .ok (.getfield 45, 3) := by decide +kernel
theorem dX9_counted_84 : decode cX9_counted 84 = .ok (.getfield 109, 3) := by decide +kernel
theorem dX9_counted_87 : decode cX9_counted 87 = .ok (.ireturn, 1) := by decide +kernel
theorem dX9_counted_88 : decode cX9_counted 88 = .ok (.aload_n 0, 1) := by decide +kernel
theorem dX9_counted_89 : decode cX9_counted 89 = .ok (.getfield 13, 3) := by decide +kernel
theorem dX9_counted_92 : decode cX9_counted 92 = .ok (.ireturn, 1) := by decide +kernel
theorem dX9_counted_93 : decode cX9_counted 93 = .ok (.aload_n 0, 1) := by decide +kernel
theorem dX9_counted_94 : decode cX9_counted 94 = .ok (.getfield 20, 3) := by decide +kernel
theorem dX9_counted_97 : decode cX9_counted 97 = .ok (.ireturn, 1) := by decide +kernel
theorem dX9_counted_98 : decode cX9_counted 98 = .ok (.aload_n 0, 1) := by decide +kernel
theorem dX9_counted_99 : decode cX9_counted 99 = .ok (.getfield 45, 3) := by decide +kernel
theorem dX9_counted_102 : decode cX9_counted 102 = .ok (.getfield 112, 3) := by decide +kernel
theorem dX9_counted_105 : decode cX9_counted 105 = .ok (.ireturn, 1) := by decide +kernel
theorem dX9_counted_106 : decode cX9_counted 106 = .ok (.aload_n 0, 1) := by decide +kernel
theorem dX9_counted_107 : decode cX9_counted 107 = .ok (.getfield 45, 3) := by decide +kernel
theorem dX9_counted_110 : decode cX9_counted 110 = .ok (.getfield 115, 3) := by decide +kernel
theorem dX9_counted_113 : decode cX9_counted 113 = .ok (.ireturn, 1) := by decide +kernel
theorem dX9_counted_114 : decode cX9_counted 114 = .ok (.aload_n 0, 1) := by decide +kernel
theorem dX9_counted_115 : decode cX9_counted 115 = .ok (.getfield 45, 3) := by decide +kernel
theorem dX9_counted_118 : decode cX9_counted 118 = .ok (.getfield 118, 3) := by decide +kernel
theorem dX9_counted_121 : decode cX9_counted 121 = .ok (.invokestatic 122, 3) := by decide +kernel
theorem dX9_counted_124 : decode cX9_counted 124 = .ok (.ireturn, 1) := by decide +kernel
theorem dX9_counted_125 : decode cX9_counted 125 = .ok (.aload_n 0, 1) := by decide +kernel
theorem dX9_counted_126 : decode cX9_counted 126 = .ok (.getfield 45, 3) := by decide +kernel
theorem dX9_counted_129 : decode cX9_counted 129 = .ok (.invokevirtual 126, 3) := by decide +kernel
theorem dX9_counted_132 : decode cX9_counted 132 = .ok (.ireturn, 1) := by decide +kernel
theorem dX9_counted_133 : decode cX9_counted 133 = .ok (.aload_n 0, 1) := by decide +kernel
theorem dX9_counted_134 : decode cX9_counted 134 = .ok (.getfield 45, 3) := by decide +kernel
theorem dX9_counted_137 : decode cX9_counted 137 = .ok (.getfield 130, 3) := by decide +kernel
theorem dX9_counted_140 : decode cX9_counted 140 = .ok (.ireturn, 1) := by decide +kernel
theorem dX9_counted_141 : decode cX9_counted 141 = .ok (.aload_n 0, 1) := by decide +kernel
theorem dX9_counted_142 : decode cX9_counted 142 = .ok (.getfield 45, 3) := by decide +kernel
theorem dX9_counted_145 : decode cX9_counted 145 = .ok (.getfield 133, 3) := by decide +kernel
theorem dX9_counted_148 : decode cX9_counted 148 = .ok (.ireturn, 1) := by decide +kernel
theorem dX9_counted_149 : decode cX9_counted 149 = .ok (.aload_n 0, 1) := by decide +kernel
theorem dX9_counted_150 : decode cX9_counted 150 = .ok (.getfield 45, 3) := by decide +kernel
theorem dX9_counted_153 : decode cX9_counted 153 = .ok (.getfield 136, 3) := by decide +kernel
theorem dX9_counted_156 : decode cX9_counted 156 = .ok (.invokestatic 122, 3) := by decide +kernel
theorem dX9_counted_159 : decode cX9_counted 159 = .ok (.ireturn, 1) := by decide +kernel
theorem dX9_counted_160 : decode cX9_counted 160 = .ok (.aload_n 0, 1) := by decide +kernel
theorem dX9_counted_161 : decode cX9_counted 161 = .ok (.getfield 45, 3) := by decide +kernel
theorem dX9_counted_164 : decode cX9_counted 164 = .ok (.invokevirtual 139, 3) := by decide +kernel
theorem dX9_counted_167 : decode cX9_counted 167 = .ok (.ireturn, 1) := by decide +kernel

def f_X9_counted (i0 : Nat) (a1 : Int32) (M : Mm) : Option Int32 :=
  if (a1 = (0 : Int32)) then (some (M (i0 + 29) 8)) else (if (a1 = (1 : Int32)) then (some (M (i0 + 29) 9)) else (if (a1 = (2 : Int32)) then (some (M (i0 + 29) 15)) else (if (a1 = (3 : Int32)) then (some (M i0 1)) else (if (a1 = (4 : Int32)) then (some (M i0 3)) else (if (a1 = (5 : Int32)) then (some (M (i0 + 29) 10)) else (if (a1 = (6 : Int32)) then (some (M (i0 + 29) 11)) else (if (a1 = (7 : Int32)) then (bd1 (f_X9_sumOf ((i0 + 29) + 4) M) fun x9 => some x9) else (if (a1 = (8 : Int32)) then (bd1 (f_X1_bricksInCarts (i0 + 29) M) fun x13 => some x13) else (if (a1 = (9 : Int32)) then (some (M (i0 + 29) 12)) else (if (a1 = (10 : Int32)) then (some (M (i0 + 29) 13)) else (if (a1 = (11 : Int32)) then (bd1 (f_X9_sumOf ((i0 + 29) + 1) M) fun x19 => some x19) else (bd1 (f_X1_floodedCells (i0 + 29) M) fun x22 => some x22))))))))))))

set_option maxHeartbeats 4000000 in
set_option maxRecDepth 100000 in
theorem c_X9_counted (l : Launch) (G : GG) (M : Mm) {i0 : Nat} (hi0 : (kd i0).1 = 6) (a1 : Int32) {r : Int32} (hr : f_X9_counted i0 a1 M = some r) : Mo false l yX9_counted (WS yX9_counted cX9_counted 2 (some .int)) (RM 1 0 0 25) 0 0 [.ref (G.2.1 i0), .int a1] G M (some (.int r)) M := by
  refine Mo.of (by decide +kernel) (Nat.le_of_ble_eq_true rfl) ?_
  intro p e s m args below meth c hC
  have hC : CX p s m args meth c cX9_counted 2 RX9 (some .int) G := hC
  rw [f_X9_counted] at hr
  show XJ p l e (RM 1 0 0 25) s m args below meth c G 2 _ 0 0 M 0 [(0, .ref (G.2.1 i0)), (1, .int a1)] []
  refine x_iload_n hC dX9_counted_0 rfl 1 rfl ?_
  by_cases s1 : a1 = (0 : Int32)
  · have hr := (ie_s hr).1 s1
    refine x_tableIn hC (off := 63) 64 dX9_counted_1 (by rw [s1]; decide) (by rw [s1]; decide) (by rw [s1]; rfl) (by decide) ?_
    refine x_aload_n hC dX9_counted_64 rfl 0 rfl ?_
    refine gf_X9_45 hC hi0 dX9_counted_65 ?_
    refine gf_X9_103 hC (kr_6_7 hi0) dX9_counted_68 ?_
    cases hr
    exact x_iret hC rfl dX9_counted_71
  · have hr := (ie_s hr).2 s1
    by_cases s2 : a1 = (1 : Int32)
    · have hr := (ie_s hr).1 s2
      refine x_tableIn hC (off := 71) 72 dX9_counted_1 (by rw [s2]; decide) (by rw [s2]; decide) (by rw [s2]; rfl) (by decide) ?_
      refine x_aload_n hC dX9_counted_72 rfl 0 rfl ?_
      refine gf_X9_45 hC hi0 dX9_counted_73 ?_
      refine gf_X9_106 hC (kr_6_7 hi0) dX9_counted_76 ?_
      cases hr
      exact x_iret hC rfl dX9_counted_79
    · have hr := (ie_s hr).2 s2
      by_cases s3 : a1 = (2 : Int32)
      · have hr := (ie_s hr).1 s3
        refine x_tableIn hC (off := 79) 80 dX9_counted_1 (by rw [s3]; decide) (by rw [s3]; decide) (by rw [s3]; rfl) (by decide) ?_
        refine x_aload_n hC dX9_counted_80 rfl 0 rfl ?_
        refine gf_X9_45 hC hi0 dX9_counted_81 ?_
        refine gf_X9_109 hC (kr_6_7 hi0) dX9_counted_84 ?_
        cases hr
        exact x_iret hC rfl dX9_counted_87
      · have hr := (ie_s hr).2 s3
        by_cases s4 : a1 = (3 : Int32)
        · have hr := (ie_s hr).1 s4
          refine x_tableIn hC (off := 87) 88 dX9_counted_1 (by rw [s4]; decide) (by rw [s4]; decide) (by rw [s4]; rfl) (by decide) ?_
          refine x_aload_n hC dX9_counted_88 rfl 0 rfl ?_
          refine gf_X9_13 hC hi0 dX9_counted_89 ?_
          cases hr
          exact x_iret hC rfl dX9_counted_92
        · have hr := (ie_s hr).2 s4
          by_cases s5 : a1 = (4 : Int32)
          · have hr := (ie_s hr).1 s5
            refine x_tableIn hC (off := 92) 93 dX9_counted_1 (by rw [s5]; decide) (by rw [s5]; decide) (by rw [s5]; rfl) (by decide) ?_
            refine x_aload_n hC dX9_counted_93 rfl 0 rfl ?_
            refine gf_X9_20 hC hi0 dX9_counted_94 ?_
            cases hr
            exact x_iret hC rfl dX9_counted_97
          · have hr := (ie_s hr).2 s5
            by_cases s6 : a1 = (5 : Int32)
            · have hr := (ie_s hr).1 s6
              refine x_tableIn hC (off := 97) 98 dX9_counted_1 (by rw [s6]; decide) (by rw [s6]; decide) (by rw [s6]; rfl) (by decide) ?_
              refine x_aload_n hC dX9_counted_98 rfl 0 rfl ?_
              refine gf_X9_45 hC hi0 dX9_counted_99 ?_
              refine gf_X9_112 hC (kr_6_7 hi0) dX9_counted_102 ?_
              cases hr
              exact x_iret hC rfl dX9_counted_105
            · have hr := (ie_s hr).2 s6
              by_cases s7 : a1 = (6 : Int32)
              · have hr := (ie_s hr).1 s7
                refine x_tableIn hC (off := 105) 106 dX9_counted_1 (by rw [s7]; decide) (by rw [s7]; decide) (by rw [s7]; rfl) (by decide) ?_
                refine x_aload_n hC dX9_counted_106 rfl 0 rfl ?_
                refine gf_X9_45 hC hi0 dX9_counted_107 ?_
                refine gf_X9_115 hC (kr_6_7 hi0) dX9_counted_110 ?_
                cases hr
                exact x_iret hC rfl dX9_counted_113
              · have hr := (ie_s hr).2 s7
                by_cases s8 : a1 = (7 : Int32)
                · have hr := (ie_s hr).1 s8
                  refine x_tableIn hC (off := 113) 114 dX9_counted_1 (by rw [s8]; decide) (by rw [s8]; decide) (by rw [s8]; rfl) (by decide) ?_
                  refine x_aload_n hC dX9_counted_114 rfl 0 rfl ?_
                  refine gf_X9_45 hC hi0 dX9_counted_115 ?_
                  refine gf_X9_118 hC (kr_6_7 hi0) dX9_counted_118 ?_
                  obtain ⟨x9, q10, hr⟩ := bd1_s hr
                  refine x_callS (As := [.ref (G.2.1 ((i0 + 29) + 4))]) hC (c_X9_sumOf l G M (kr_0_3 (kr_6_7 hi0)) q10) kc_yX9_sumOf km_X9_122 kt_yX9_sumOf kn_RX9 ky_yX9_sumOf rfl ⟨rfl, rfl⟩ ⟨(Nat.le_of_ble_eq_true rfl), (Nat.le_of_ble_eq_true rfl)⟩ rfl (Nat.le_of_ble_eq_true rfl) ⟨(Nat.le_of_ble_eq_true rfl), (Nat.le_of_ble_eq_true rfl)⟩ dX9_counted_121 (fun b11 => ?_)
                  cases hr
                  exact x_iret hC rfl dX9_counted_124
                · have hr := (ie_s hr).2 s8
                  by_cases s12 : a1 = (8 : Int32)
                  · have hr := (ie_s hr).1 s12
                    refine x_tableIn hC (off := 124) 125 dX9_counted_1 (by rw [s12]; decide) (by rw [s12]; decide) (by rw [s12]; rfl) (by decide) ?_
                    refine x_aload_n hC dX9_counted_125 rfl 0 rfl ?_
                    refine gf_X9_45 hC hi0 dX9_counted_126 ?_
                    obtain ⟨x13, q14, hr⟩ := bd1_s hr
                    refine x_callV (ci := 0) (q := (RX1, TX1, 17)) (As := []) hC (c_X1_bricksInCarts l G M (kr_6_7 hi0) q14) kc_yX1_bricksInCarts km_X9_126 ki_yX1_bricksInCarts kv_yX1_bricksInCarts kn_RX1 ky_yX1_bricksInCarts rfl ⟨rfl, rfl⟩ ⟨(Nat.le_of_ble_eq_true rfl), (Nat.le_of_ble_eq_true rfl)⟩ (kr_6_7 hi0) (by decide) rfl rfl (Nat.le_of_ble_eq_true rfl) ⟨(Nat.le_of_ble_eq_true rfl), (Nat.le_of_ble_eq_true rfl)⟩ dX9_counted_129 (fun b15 => ?_)
                    cases hr
                    exact x_iret hC rfl dX9_counted_132
                  · have hr := (ie_s hr).2 s12
                    by_cases s16 : a1 = (9 : Int32)
                    · have hr := (ie_s hr).1 s16
                      refine x_tableIn hC (off := 132) 133 dX9_counted_1 (by rw [s16]; decide) (by rw [s16]; decide) (by rw [s16]; rfl) (by decide) ?_
                      refine x_aload_n hC dX9_counted_133 rfl 0 rfl ?_
                      refine gf_X9_45 hC hi0 dX9_counted_134 ?_
                      refine gf_X9_130 hC (kr_6_7 hi0) dX9_counted_137 ?_
                      cases hr
                      exact x_iret hC rfl dX9_counted_140
                    · have hr := (ie_s hr).2 s16
                      by_cases s17 : a1 = (10 : Int32)
                      · have hr := (ie_s hr).1 s17
                        refine x_tableIn hC (off := 140) 141 dX9_counted_1 (by rw [s17]; decide) (by rw [s17]; decide) (by rw [s17]; rfl) (by decide) ?_
                        refine x_aload_n hC dX9_counted_141 rfl 0 rfl ?_
                        refine gf_X9_45 hC hi0 dX9_counted_142 ?_
                        refine gf_X9_133 hC (kr_6_7 hi0) dX9_counted_145 ?_
                        cases hr
                        exact x_iret hC rfl dX9_counted_148
                      · have hr := (ie_s hr).2 s17
                        by_cases s18 : a1 = (11 : Int32)
                        · have hr := (ie_s hr).1 s18
                          refine x_tableIn hC (off := 148) 149 dX9_counted_1 (by rw [s18]; decide) (by rw [s18]; decide) (by rw [s18]; rfl) (by decide) ?_
                          refine x_aload_n hC dX9_counted_149 rfl 0 rfl ?_
                          refine gf_X9_45 hC hi0 dX9_counted_150 ?_
                          refine gf_X9_136 hC (kr_6_7 hi0) dX9_counted_153 ?_
                          obtain ⟨x19, q20, hr⟩ := bd1_s hr
                          refine x_callS (As := [.ref (G.2.1 ((i0 + 29) + 1))]) hC (c_X9_sumOf l G M (kr_0_0 (kr_6_7 hi0)) q20) kc_yX9_sumOf km_X9_122 kt_yX9_sumOf kn_RX9 ky_yX9_sumOf rfl ⟨rfl, rfl⟩ ⟨(Nat.le_of_ble_eq_true rfl), (Nat.le_of_ble_eq_true rfl)⟩ rfl (Nat.le_of_ble_eq_true rfl) ⟨(Nat.le_of_ble_eq_true rfl), (Nat.le_of_ble_eq_true rfl)⟩ dX9_counted_156 (fun b21 => ?_)
                          cases hr
                          exact x_iret hC rfl dX9_counted_159
                        · have hr := (ie_s hr).2 s18
                          refine x_tableOut hC 160 dX9_counted_1 (by have := ne_toI s1 (z := 0) (by decide); have := ne_toI s2 (z := 1) (by decide); have := ne_toI s3 (z := 2) (by decide); have := ne_toI s4 (z := 3) (by decide); have := ne_toI s5 (z := 4) (by decide); have := ne_toI s6 (z := 5) (by decide); have := ne_toI s7 (z := 6) (by decide); have := ne_toI s8 (z := 7) (by decide); have := ne_toI s12 (z := 8) (by decide); have := ne_toI s16 (z := 9) (by decide); have := ne_toI s17 (z := 10) (by decide); have := ne_toI s18 (z := 11) (by decide); omega) (by decide) ?_
                          refine x_aload_n hC dX9_counted_160 rfl 0 rfl ?_
                          refine gf_X9_45 hC hi0 dX9_counted_161 ?_
                          obtain ⟨x22, q23, hr⟩ := bd1_s hr
                          refine x_callV (ci := 0) (q := (RX1, TX1, 17)) (As := []) hC (c_X1_floodedCells l G M (kr_6_7 hi0) q23) kc_yX1_floodedCells km_X9_139 ki_yX1_floodedCells kv_yX1_floodedCells kn_RX1 ky_yX1_floodedCells rfl ⟨rfl, rfl⟩ ⟨(Nat.le_of_ble_eq_true rfl), (Nat.le_of_ble_eq_true rfl)⟩ (kr_6_7 hi0) (by decide) rfl rfl (Nat.le_of_ble_eq_true rfl) ⟨(Nat.le_of_ble_eq_true rfl), (Nat.le_of_ble_eq_true rfl)⟩ dX9_counted_164 (fun b24 => ?_)
                          cases hr
                          exact x_iret hC rfl dX9_counted_167

theorem dX9_letPass_0 : decode cX9_letPass 0 = .ok (.iconst 0, 1) := by decide +kernel
theorem dX9_letPass_1 : decode cX9_letPass 1 = .ok (.istore_n 2, 1) := by decide +kernel
theorem dX9_letPass_2 : decode cX9_letPass 2 = .ok (.iload_n 2, 1) := by decide +kernel
theorem dX9_letPass_3 : decode cX9_letPass 3 = .ok (.iload_n 1, 1) := by decide +kernel
theorem dX9_letPass_4 : decode cX9_letPass 4 = .ok (.if_icmp .ge 48, 3) := by decide +kernel
theorem dX9_letPass_7 : decode cX9_letPass 7 = .ok (.iconst 0, 1) := by decide +kernel
theorem dX9_letPass_8 : decode cX9_letPass 8 = .ok (.istore_n 3, 1) := by decide +kernel
theorem dX9_letPass_9 : decode cX9_letPass 9 = .ok (.iload_n 3, 1) := by decide +kernel
theorem dX9_letPass_10 : decode cX9_letPass 10 = .ok (.aload_n 0, 1) := by decide +kernel
theorem dX9_letPass_11 : decode cX9_letPass 11 = .ok (.getfield 203, 3) := by decide +kernel
theorem dX9_letPass_14 : decode cX9_letPass 14 = .ok (.getfield 109, 3) := by decide +kernel
theorem dX9_letPass_17 : decode cX9_letPass 17 = .ok (.if_icmp .ge 22, 3) := by decide +kernel
theorem dX9_letPass_20 : decode cX9_letPass 20 = .ok (.aload_n 0, 1) := by decide +kernel
theorem dX9_letPass_21 : decode cX9_letPass 21 = .ok (.aload_n 0, 1) := by decide +kernel
theorem dX9_letPass_22 : decode cX9_letPass 22 = .ok (.getfield 203, 3) := by decide +kernel
theorem dX9_letPass_25 : decode cX9_letPass 25 = .ok (.getfield 188, 3) := by decide +kernel
theorem dX9_letPass_28 : decode cX9_letPass 28 = .ok (.iload_n 3, 1) := by decide +kernel
theorem dX9_letPass_29 : decode cX9_letPass 29 = .ok (.aaload, 1) := by decide +kernel
theorem dX9_letPass_30 : decode cX9_letPass 30 = .ok (.invokevirtual 204, 3) := by decide +kernel
theorem dX9_letPass_33 : decode cX9_letPass 33 = .ok (.iinc 3 1, 3) := by decide +kernel
theorem dX9_letPass_36 : decode cX9_letPass 36 = .ok (.goto (-27), 3) := by decide +kernel
theorem dX9_letPass_39 : decode cX9_letPass 39 = .ok (.aload_n 0, 1) := by decide +kernel
theorem dX9_letPass_40 : decode cX9_letPass 40 = .ok (.getfield 203, 3) := by decide +kernel
theorem dX9_letPass_43 : decode cX9_letPass 43 = .ok (.invokevirtual 208, 3) := by decide +kernel
theorem dX9_letPass_46 : decode cX9_letPass 46 = .ok (.iinc 2 1, 3) := by decide +kernel
theorem dX9_letPass_49 : decode cX9_letPass 49 = .ok (.goto (-47), 3) := by decide +kernel
theorem dX9_letPass_52 : decode cX9_letPass 52 = .ok (.return_, 1) := by decide +kernel
def f_X9_letPass_L9 (i0 : Nat) (a1 : Int32) (a2 : Int32) : Nat → Int32 → Mm → Option (Mm)
  | 0, _, _ => none
  | n + 1, v3, M =>
    if ((M (wbog i0) 15) ≤ v3) then (some (M)) else (if 0 ≤ v3.toInt ∧ v3.toInt < ((4 : Nat) : Int) then (bd1 (f_X8_workHour i0 (((wbog i0) + 9) + 1 + 2 * ix v3) M) fun M4 => lz (v3 + (1 : Int32)) fun x7 => f_X9_letPass_L9 i0 a1 a2 n x7 M4) else none)
def f_X9_letPass_L2 (i0 : Nat) (a1 : Int32) : Nat → Int32 → Mm → Option (Mm)
  | 0, _, _ => none
  | n + 1, v2, M =>
    if (a1 ≤ v2) then (some (M)) else (bd1 (f_X9_letPass_L9 i0 a1 v2 FU (0 : Int32) M) fun M10 => bd1 (f_X1_endHour (wbog i0) M10) fun M11 => lz (v2 + (1 : Int32)) fun x14 => f_X9_letPass_L2 i0 a1 n x14 M11)
def f_X9_letPass (i0 : Nat) (a1 : Int32) (M : Mm) : Option Mm :=
  bd1 (f_X9_letPass_L2 i0 a1 FU (0 : Int32) M) fun M17 => some M17
set_option maxHeartbeats 4000000 in
set_option maxRecDepth 100000 in
theorem l_X9_letPass_L9 {p : Program} {e : Env} {s : State} {m : MethodId} {args : Array Value} {below : List Frame} {meth : Method} {c : Code} {l : Launch} {G : GG} {Q : State → Prop} (hC : CX p s m args meth c cX9_letPass 4 RX9 none G) {i0 : Nat} (hi0 : (kd i0).1 = 3) (a1 : Int32) (a2 : Int32) : ∀ (n : Nat) (v3 : Int32) (M : Mm) {M2 : Mm} (hr : f_X9_letPass_L9 i0 a1 a2 n v3 M = some (M2)) (K : XJ p l e (RM 5 0 0 130) s m args below meth c G 4 Q 0 0 M2 39 [(0, .ref (G.2.1 i0)), (1, .int a1), (2, .int a2)] []), XJ p l e (RM 5 0 0 130) s m args below meth c G 4 Q 0 0 M 9 [(0, .ref (G.2.1 i0)), (1, .int a1), (2, .int a2), (3, .int v3)] [] := by
  intro n
  induction n with
  | zero => intro v3 M M2 hr K; rw [f_X9_letPass_L9] at hr; cases hr
  | succ n ih =>
    intro v3 M M2 hr K
    rw [f_X9_letPass_L9] at hr
    refine x_iload_n hC dX9_letPass_9 rfl 3 rfl ?_
    refine x_aload_n hC dX9_letPass_10 rfl 0 rfl ?_
    refine gf_X9_203 hC hi0 dX9_letPass_11 ?_
    refine gf_X9_109 hC (kr_3_0 hi0) dX9_letPass_14 ?_
    refine x_icmp_ge hC 39 dX9_letPass_17 (by decide) (fun h2 => ?_) (fun h2 => ?_)
    · have hr := (ie_s hr).1 h2
      cases hr
      exact x_sub [0, 1, 2] rfl K
    · have hr := (ie_s hr).2 h2
      refine x_aload_n hC dX9_letPass_20 rfl 0 rfl ?_
      refine x_aload_n hC dX9_letPass_21 rfl 0 rfl ?_
      refine gf_X9_203 hC hi0 dX9_letPass_22 ?_
      refine gf_X9_188 hC (kr_3_0 hi0) dX9_letPass_25 ?_
      refine x_iload_n hC dX9_letPass_28 rfl 3 rfl ?_
      obtain ⟨h3, hr⟩ := it_s hr
      refine x_gald hC (kr_0_14 (kr_3_0 hi0)) h3 dX9_letPass_29 ?_
      obtain ⟨M4, q5, hr⟩ := bd1_s hr
      refine x_callV (ci := 3) (q := (RX8, TX8, 5)) (As := [.ref (G.2.1 (((wbog i0) + 9) + 1 + 2 * ix v3))]) hC (c_X8_workHour l G M hi0 (kr_gang (kr_0_14 (kr_3_0 hi0)) h3) q5) kc_yX8_workHour km_X9_204 ki_yX8_workHour kv_yX8_workHour kn_RX8 ky_yX8_workHour rfl ⟨rfl, rfl⟩ ⟨(Nat.le_of_ble_eq_true rfl), (Nat.le_of_ble_eq_true rfl)⟩ hi0 (by decide) rfl rfl (Nat.le_of_ble_eq_true rfl) ⟨(Nat.le_of_ble_eq_true rfl), (Nat.le_of_ble_eq_true rfl)⟩ dX9_letPass_30 (fun b6 => ?_)
      obtain ⟨x7, e8, hr⟩ := lz_s hr
      refine x_iinc hC [(3, .int x7), (0, .ref (G.2.1 i0)), (1, .int a1), (2, .int a2)] dX9_letPass_33 3 rfl (by rw [e8]; rfl) (Nat.le_of_ble_eq_true rfl) rfl ?_
      refine x_goto hC 9 dX9_letPass_36 (by decide) ?_
      exact x_sub [1, 2, 3, 0] rfl (ih x7 M4 hr K)
set_option maxHeartbeats 4000000 in
set_option maxRecDepth 100000 in
theorem l_X9_letPass_L2 {p : Program} {e : Env} {s : State} {m : MethodId} {args : Array Value} {below : List Frame} {meth : Method} {c : Code} {l : Launch} {G : GG} {Q : State → Prop} (hC : CX p s m args meth c cX9_letPass 4 RX9 none G) {i0 : Nat} (hi0 : (kd i0).1 = 3) (a1 : Int32) : ∀ (n : Nat) (v2 : Int32) (M : Mm) {M2 : Mm} (hr : f_X9_letPass_L2 i0 a1 n v2 M = some (M2)) (K : XJ p l e (RM 5 0 0 130) s m args below meth c G 4 Q 0 0 M2 52 [] []), XJ p l e (RM 5 0 0 130) s m args below meth c G 4 Q 0 0 M 2 [(0, .ref (G.2.1 i0)), (1, .int a1), (2, .int v2)] [] := by
  intro n
  induction n with
  | zero => intro v2 M M2 hr K; rw [f_X9_letPass_L2] at hr; cases hr
  | succ n ih =>
    intro v2 M M2 hr K
    rw [f_X9_letPass_L2] at hr
    refine x_iload_n hC dX9_letPass_2 rfl 2 rfl ?_
    refine x_iload_n hC dX9_letPass_3 rfl 1 rfl ?_
    refine x_icmp_ge hC 52 dX9_letPass_4 (by decide) (fun h1 => ?_) (fun h1 => ?_)
    · have hr := (ie_s hr).1 h1
      cases hr
      exact x_sub [] rfl K
    · have hr := (ie_s hr).2 h1
      refine x_iconst hC (0 : Int32) dX9_letPass_7 (by decide) ?_
      refine x_istore_n hC [(3, .int (0 : Int32)), (0, .ref (G.2.1 i0)), (1, .int a1), (2, .int v2)] dX9_letPass_8 rfl (Nat.le_of_ble_eq_true rfl) rfl ?_
      obtain ⟨M10, q9, hr⟩ := bd1_s hr
      refine x_sub [1, 2, 3, 0] rfl (l_X9_letPass_L9 hC hi0 a1 v2 FU  (0 : Int32) M q9 ?_)
      refine x_aload_n hC dX9_letPass_39 rfl 0 rfl ?_
      refine gf_X9_203 hC hi0 dX9_letPass_40 ?_
      obtain ⟨M11, q12, hr⟩ := bd1_s hr
      refine x_callV (ci := 0) (q := (RX1, TX1, 17)) (As := []) hC (c_X1_endHour l G M10 (kr_3_0 hi0) q12) kc_yX1_endHour km_X9_208 ki_yX1_endHour kv_yX1_endHour kn_RX1 ky_yX1_endHour rfl ⟨rfl, rfl⟩ ⟨(Nat.le_of_ble_eq_true rfl), (Nat.le_of_ble_eq_true rfl)⟩ (kr_3_0 hi0) (by decide) rfl rfl (Nat.le_of_ble_eq_true rfl) ⟨(Nat.le_of_ble_eq_true rfl), (Nat.le_of_ble_eq_true rfl)⟩ dX9_letPass_43 (fun b13 => ?_)
      obtain ⟨x14, e15, hr⟩ := lz_s hr
      refine x_iinc hC [(2, .int x14), (0, .ref (G.2.1 i0)), (1, .int a1)] dX9_letPass_46 2 rfl (by rw [e15]; rfl) (Nat.le_of_ble_eq_true rfl) rfl ?_
      refine x_goto hC 2 dX9_letPass_49 (by decide) ?_
      exact x_sub [1, 2, 0] rfl (ih x14 M11 hr K)
set_option maxHeartbeats 4000000 in
set_option maxRecDepth 100000 in
theorem c_X9_letPass (l : Launch) (G : GG) (M : Mm) {i0 : Nat} (hi0 : (kd i0).1 = 3) (a1 : Int32) {M9 : Mm} (hr : f_X9_letPass i0 a1 M = some M9) : Mo false l yX9_letPass (WS yX9_letPass cX9_letPass 4 none) (RM 5 0 0 130) 0 0 [.ref (G.2.1 i0), .int a1] G M none M9 := by
  refine Mo.of (by decide +kernel) (Nat.le_of_ble_eq_true rfl) ?_
  intro p e s m args below meth c hC
  have hC : CX p s m args meth c cX9_letPass 4 RX9 none G := hC
  rw [f_X9_letPass] at hr
  show XJ p l e (RM 5 0 0 130) s m args below meth c G 4 _ 0 0 M 0 [(0, .ref (G.2.1 i0)), (1, .int a1)] []
  refine x_iconst hC (0 : Int32) dX9_letPass_0 (by decide) ?_
  refine x_istore_n hC [(2, .int (0 : Int32)), (0, .ref (G.2.1 i0)), (1, .int a1)] dX9_letPass_1 rfl (Nat.le_of_ble_eq_true rfl) rfl ?_
  obtain ⟨M17, q16, hr⟩ := bd1_s hr
  refine x_sub [1, 2, 0] rfl (l_X9_letPass_L2 hC hi0 a1 FU  (0 : Int32) M q16 ?_)
  cases hr
  exact x_vret hC rfl dX9_letPass_52

theorem dX9_digest_0 : decode cX9_digest 0 = .ok (.ldc2_w 255, 3) := by decide +kernel
theorem dX9_digest_3 : decode cX9_digest 3 = .ok (.lstore_n 1, 1) := by decide +kernel
theorem dX9_digest_4 : decode cX9_digest 4 = .ok (.iconst 0, 1) := by decide +kernel
theorem dX9_digest_5 : decode cX9_digest 5 = .ok (.istore_n 3, 1) := by decide +kernel
theorem dX9_digest_6 : decode cX9_digest 6 = .ok (.iload_n 3, 1) := by decide +kernel
theorem dX9_digest_7 : decode cX9_digest 7 = .ok (.bipush 13, 2) := by decide +kernel
theorem dX9_digest_9 : decode cX9_digest 9 = .ok (.if_icmp .ge 22, 3) := by decide +kernel
theorem dX9_digest_12 : decode cX9_digest 12 = .ok (.lload_n 1, 1) := by decide +kernel
theorem dX9_digest_13 : decode cX9_digest 13 = .ok (.ldc2_w 257, 3) := by decide +kernel
theorem dX9_digest_16 : decode cX9_digest 16 = .ok (.lmul, 1) := by decide +kernel
theorem dX9_digest_17 : decode cX9_digest 17 = .ok (.aload_n 0, 1) := by decide +kernel
theorem dX9_digest_18 : decode cX9_digest 18 = .ok (.iload_n 3, 1) := by decide +kernel
theorem dX9_digest_19 : decode cX9_digest 19 = .ok (.invokevirtual 99, 3) := by decide +kernel
theorem dX9_digest_22 : decode cX9_digest 22 = .ok (.i2l, 1) := by decide +kernel
theorem dX9_digest_23 : decode cX9_digest 23 = .ok (.ladd, 1) := by decide +kernel
theorem dX9_digest_24 : decode cX9_digest 24 = .ok (.lstore_n 1, 1) := by decide +kernel
theorem dX9_digest_25 : decode cX9_digest 25 = .ok (.iinc 3 1, 3) := by decide +kernel
theorem dX9_digest_28 : decode cX9_digest 28 = .ok (.goto (-22), 3) := by decide +kernel
theorem dX9_digest_31 : decode cX9_digest 31 = .ok (.iconst 0, 1) := by decide +kernel
theorem dX9_digest_32 : decode cX9_digest 32 = .ok (.istore_n 3, 1) := by decide +kernel
theorem dX9_digest_33 : decode cX9_digest 33 = .ok (.iload_n 3, 1) := by decide +kernel
theorem dX9_digest_34 : decode cX9_digest 34 = .ok (.bipush 12, 2) := by decide +kernel
theorem dX9_digest_36 : decode cX9_digest 36 = .ok (.if_icmp .ge 39, 3) := by decide +kernel
theorem dX9_digest_39 : decode cX9_digest 39 = .ok (.lload_n 1, 1) := by decide +kernel
theorem dX9_digest_40 : decode cX9_digest 40 = .ok (.ldc2_w 257, 3) := by decide +kernel
theorem dX9_digest_43 : decode cX9_digest 43 = .ok (.lmul, 1) := by decide +kernel
theorem dX9_digest_44 : decode cX9_digest 44 = .ok (.bipush 10, 2) := by decide +kernel
theorem dX9_digest_46 : decode cX9_digest 46 = .ok (.aload_n 0, 1) := by decide +kernel
theorem dX9_digest_47 : decode cX9_digest 47 = .ok (.getfield 45, 3) := by decide +kernel
theorem dX9_digest_50 : decode cX9_digest 50 = .ok (.getfield 150, 3) := by decide +kernel
theorem dX9_digest_53 : decode cX9_digest 53 = .ok (.iload_n 3, 1) := by decide +kernel
theorem dX9_digest_54 : decode cX9_digest 54 = .ok (.iaload, 1) := by decide +kernel
theorem dX9_digest_55 : decode cX9_digest 55 = .ok (.imul, 1) := by decide +kernel
theorem dX9_digest_56 : decode cX9_digest 56 = .ok (.aload_n 0, 1) := by decide +kernel
theorem dX9_digest_57 : decode cX9_digest 57 = .ok (.getfield 45, 3) := by decide +kernel
theorem dX9_digest_60 : decode cX9_digest 60 = .ok (.getfield 153, 3) := by decide +kernel
theorem dX9_digest_63 : decode cX9_digest 63 = .ok (.iload_n 3, 1) := by decide +kernel
theorem dX9_digest_64 : decode cX9_digest 64 = .ok (.iaload, 1) := by decide +kernel
theorem dX9_digest_65 : decode cX9_digest 65 = .ok (.iadd, 1) := by decide +kernel
theorem dX9_digest_66 : decode cX9_digest 66 = .ok (.i2l, 1) := by decide +kernel
theorem dX9_digest_67 : decode cX9_digest 67 = .ok (.ladd, 1) := by decide +kernel
theorem dX9_digest_68 : decode cX9_digest 68 = .ok (.lstore_n 1, 1) := by decide +kernel
theorem dX9_digest_69 : decode cX9_digest 69 = .ok (.iinc 3 1, 3) := by decide +kernel
theorem dX9_digest_72 : decode cX9_digest 72 = .ok (.goto (-39), 3) := by decide +kernel
theorem dX9_digest_75 : decode cX9_digest 75 = .ok (.iconst 0, 1) := by decide +kernel
theorem dX9_digest_76 : decode cX9_digest 76 = .ok (.istore_n 3, 1) := by decide +kernel
theorem dX9_digest_77 : decode cX9_digest 77 = .ok (.iload_n 3, 1) := by decide +kernel
theorem dX9_digest_78 : decode cX9_digest 78 = .ok (.bipush 64, 2) := by decide +kernel
theorem dX9_digest_80 : decode cX9_digest 80 = .ok (.if_icmp .ge 42, 3) := by decide +kernel
theorem dX9_digest_83 : decode cX9_digest 83 = .ok (.iconst 0, 1) := by decide +kernel
theorem dX9_digest_84 : decode cX9_digest 84 = .ok (.istore 4, 2) := by decide +kernel
theorem dX9_digest_86 : decode cX9_digest 86 = .ok (.iload 4, 2) := by decide +kernel
theorem dX9_digest_88 : decode cX9_digest 88 = .ok (.iconst 5, 1) := by decide +kernel
theorem dX9_digest_89 : decode cX9_digest 89 = .ok (.if_icmp .ge 27, 3) := by decide +kernel
theorem dX9_digest_92 : decode cX9_digest 92 = .ok (.lload_n 1, 1) := by decide +kernel
theorem dX9_digest_93 : decode cX9_digest 93 = .ok (.ldc2_w 257, 3) := by decide +kernel
theorem dX9_digest_96 : decode cX9_digest 96 = .ok (.lmul, 1) := by decide +kernel
theorem dX9_digest_97 : decode cX9_digest 97 = .ok (.aload_n 0, 1) := by decide +kernel
theorem dX9_digest_98 : decode cX9_digest 98 = .ok (.getfield 45, 3) := by decide +kernel
theorem dX9_digest_101 : decode cX9_digest 101 = .ok (.iload_n 3, 1) := by decide +kernel
theorem dX9_digest_102 : decode cX9_digest 102 = .ok (.iload 4, 2) := by decide +kernel
theorem dX9_digest_104 : decode cX9_digest 104 = .ok (.invokevirtual 181, 3) := by decide +kernel
theorem dX9_digest_107 : decode cX9_digest 107 = .ok (.i2l, 1) := by decide +kernel
theorem dX9_digest_108 : decode cX9_digest 108 = .ok (.ladd, 1) := by decide +kernel
theorem dX9_digest_109 : decode cX9_digest 109 = .ok (.lstore_n 1, 1) := by decide +kernel
theorem dX9_digest_110 : decode cX9_digest 110 = .ok (.iinc 4 1, 3) := by decide +kernel
theorem dX9_digest_113 : decode cX9_digest 113 = .ok (.goto (-27), 3) := by decide +kernel
theorem dX9_digest_116 : decode cX9_digest 116 = .ok (.iinc 3 1, 3) := by decide +kernel
theorem dX9_digest_119 : decode cX9_digest 119 = .ok (.goto (-42), 3) := by decide +kernel
theorem dX9_digest_122 : decode cX9_digest 122 = .ok (.iconst 0, 1) := by decide +kernel
theorem dX9_digest_123 : decode cX9_digest 123 = .ok (.istore_n 3, 1) := by decide +kernel
theorem dX9_digest_124 : decode cX9_digest 124 = .ok (.iload_n 3, 1) := by decide +kernel
theorem dX9_digest_125 : decode cX9_digest 125 = .ok (.aload_n 0, 1) := by decide +kernel
theorem dX9_digest_126 : decode cX9_digest 126 = .ok (.getfield 45, 3) := by decide +kernel
theorem dX9_digest_129 : decode cX9_digest 129 = .ok (.getfield 109, 3) := by decide +kernel
theorem dX9_digest_132 : decode cX9_digest 132 = .ok (.if_icmp .ge 47, 3) := by decide +kernel
theorem dX9_digest_135 : decode cX9_digest 135 = .ok (.iconst 0, 1) := by decide +kernel
theorem dX9_digest_136 : decode cX9_digest 136 = .ok (.istore 4, 2) := by decide +kernel
theorem dX9_digest_138 : decode cX9_digest 138 = .ok (.iload 4, 2) := by decide +kernel
theorem dX9_digest_140 : decode cX9_digest 140 = .ok (.bipush 9, 2) := by decide +kernel
theorem dX9_digest_142 : decode cX9_digest 142 = .ok (.if_icmp .ge 31, 3) := by decide +kernel
theorem dX9_digest_145 : decode cX9_digest 145 = .ok (.lload_n 1, 1) := by decide +kernel
theorem dX9_digest_146 : decode cX9_digest 146 = .ok (.ldc2_w 257, 3) := by decide +kernel
theorem dX9_digest_149 : decode cX9_digest 149 = .ok (.lmul, 1) := by decide +kernel
theorem dX9_digest_150 : decode cX9_digest 150 = .ok (.aload_n 0, 1) := by decide +kernel
theorem dX9_digest_151 : decode cX9_digest 151 = .ok (.getfield 45, 3) := by decide +kernel
theorem dX9_digest_154 : decode cX9_digest 154 = .ok (.getfield 188, 3) := by decide +kernel
theorem dX9_digest_157 : decode cX9_digest 157 = .ok (.iload_n 3, 1) := by decide +kernel
theorem dX9_digest_158 : decode cX9_digest 158 = .ok (.aaload, 1) := by decide +kernel
theorem dX9_digest_159 : decode cX9_digest 159 = .ok (.iload 4, 2) := by decide +kernel
theorem dX9_digest_161 : decode cX9_digest 161 = .ok (.invokevirtual 192, 3) := by decide +kernel
theorem dX9_digest_164 : decode cX9_digest 164 = .ok (.i2l, 1) := by decide +kernel
theorem dX9_digest_165 : decode cX9_digest 165 = .ok (.ladd, 1) := by decide +kernel
theorem dX9_digest_166 : decode cX9_digest 166 = .ok (.lstore_n 1, 1) := by decide +kernel
theorem dX9_digest_167 : decode cX9_digest 167 = .ok (.iinc 4 1, 3) := by decide +kernel
theorem dX9_digest_170 : decode cX9_digest 170 = .ok (.goto (-32), 3) := by decide +kernel
theorem dX9_digest_173 : decode cX9_digest 173 = .ok (.iinc 3 1, 3) := by decide +kernel
theorem dX9_digest_176 : decode cX9_digest 176 = .ok (.goto (-52), 3) := by decide +kernel
theorem dX9_digest_179 : decode cX9_digest 179 = .ok (.iconst 0, 1) := by decide +kernel
theorem dX9_digest_180 : decode cX9_digest 180 = .ok (.istore_n 3, 1) := by decide +kernel
theorem dX9_digest_181 : decode cX9_digest 181 = .ok (.iload_n 3, 1) := by decide +kernel
theorem dX9_digest_182 : decode cX9_digest 182 = .ok (.aload_n 0, 1) := by decide +kernel
theorem dX9_digest_183 : decode cX9_digest 183 = .ok (.getfield 20, 3) := by decide +kernel
theorem dX9_digest_186 : decode cX9_digest 186 = .ok (.if_icmp .ge 23, 3) := by decide +kernel
theorem dX9_digest_189 : decode cX9_digest 189 = .ok (.lload_n 1, 1) := by decide +kernel
theorem dX9_digest_190 : decode cX9_digest 190 = .ok (.ldc2_w 257, 3) := by decide +kernel
theorem dX9_digest_193 : decode cX9_digest 193 = .ok (.lmul, 1) := by decide +kernel
theorem dX9_digest_194 : decode cX9_digest 194 = .ok (.aload_n 0, 1) := by decide +kernel
theorem dX9_digest_195 : decode cX9_digest 195 = .ok (.getfield 17, 3) := by decide +kernel
theorem dX9_digest_198 : decode cX9_digest 198 = .ok (.iload_n 3, 1) := by decide +kernel
theorem dX9_digest_199 : decode cX9_digest 199 = .ok (.baload, 1) := by decide +kernel
theorem dX9_digest_200 : decode cX9_digest 200 = .ok (.i2l, 1) := by decide +kernel
theorem dX9_digest_201 : decode cX9_digest 201 = .ok (.ladd, 1) := by decide +kernel
theorem dX9_digest_202 : decode cX9_digest 202 = .ok (.lstore_n 1, 1) := by decide +kernel
theorem dX9_digest_203 : decode cX9_digest 203 = .ok (.iinc 3 1, 3) := by decide +kernel
theorem dX9_digest_206 : decode cX9_digest 206 = .ok (.goto (-25), 3) := by decide +kernel
theorem dX9_digest_209 : decode cX9_digest 209 = .ok (.lload_n 1, 1) := by decide +kernel
theorem dX9_digest_210 : decode cX9_digest 210 = .ok (.lreturn, 1) := by decide +kernel
def f_X9_digest_L6 (i0 : Nat) (M : Mm) : Nat → Int64 → Int32 → Option (Int64)
  | 0, _, _ => none
  | n + 1, v1, v3 =>
    if ((13 : Int32) ≤ v3) then (some (v1)) else (bd1 (f_X9_counted i0 v3 M) fun x2 => lz ((v1 * (31 : Int64)) + x2.toInt64) fun x5 => lz (v3 + (1 : Int32)) fun x7 => f_X9_digest_L6 i0 M n x5 x7)
def f_X9_digest_L33 (i0 : Nat) (M : Mm) : Nat → Int64 → Int32 → Option (Int64)
  | 0, _, _ => none
  | n + 1, v1, v3 =>
    if ((12 : Int32) ≤ v3) then (some (v1)) else (if 0 ≤ v3.toInt ∧ v3.toInt < ((12 : Nat) : Int) then (if 0 ≤ v3.toInt ∧ v3.toInt < ((12 : Nat) : Int) then (lz (((10 : Int32) * (M ((i0 + 29) + 7) (ix v3))) + (M ((i0 + 29) + 8) (ix v3))) fun x14 => lz ((v1 * (31 : Int64)) + x14.toInt64) fun x16 => lz (v3 + (1 : Int32)) fun x18 => f_X9_digest_L33 i0 M n x16 x18) else none) else none)
def f_X9_digest_L86 (i0 : Nat) (a3 : Int32) (M : Mm) : Nat → Int64 → Int32 → Option (Int64)
  | 0, _, _ => none
  | n + 1, v1, v4 =>
    if ((5 : Int32) ≤ v4) then (some (v1)) else (bd1 (f_X1_tellCell (i0 + 29) a3 v4 M) fun x24 => lz ((v1 * (31 : Int64)) + x24.toInt64) fun x27 => lz (v4 + (1 : Int32)) fun x29 => f_X9_digest_L86 i0 a3 M n x27 x29)
def f_X9_digest_L77 (i0 : Nat) (M : Mm) : Nat → Int64 → Int32 → Option (Int64)
  | 0, _, _ => none
  | n + 1, v1, v3 =>
    if ((64 : Int32) ≤ v3) then (some (v1)) else (bd1 (f_X9_digest_L86 i0 v3 M FU v1 (0 : Int32)) fun x32 => lz (v3 + (1 : Int32)) fun x33 => f_X9_digest_L77 i0 M n x32 x33)
def f_X9_digest_L138 (i0 : Nat) (a3 : Int32) (M : Mm) : Nat → Int64 → Int32 → Option (Int64)
  | 0, _, _ => none
  | n + 1, v1, v4 =>
    if ((9 : Int32) ≤ v4) then (some (v1)) else (if 0 ≤ a3.toInt ∧ a3.toInt < ((4 : Nat) : Int) then (lz (f_X2_tell (((i0 + 29) + 9) + 1 + 2 * ix a3) v4 M) fun x40 => lz ((v1 * (31 : Int64)) + x40.toInt64) fun x43 => lz (v4 + (1 : Int32)) fun x45 => f_X9_digest_L138 i0 a3 M n x43 x45) else none)
def f_X9_digest_L124 (i0 : Nat) (M : Mm) : Nat → Int64 → Int32 → Option (Int64)
  | 0, _, _ => none
  | n + 1, v1, v3 =>
    if ((M (i0 + 29) 15) ≤ v3) then (some (v1)) else (bd1 (f_X9_digest_L138 i0 v3 M FU v1 (0 : Int32)) fun x48 => lz (v3 + (1 : Int32)) fun x49 => f_X9_digest_L124 i0 M n x48 x49)
def f_X9_digest_L181 (i0 : Nat) (M : Mm) : Nat → Int64 → Int32 → Option (Int64)
  | 0, _, _ => none
  | n + 1, v1, v3 =>
    if ((M i0 3) ≤ v3) then (some (v1)) else (if 0 ≤ v3.toInt ∧ v3.toInt < ((72 : Nat) : Int) then (lz ((v1 * (31 : Int64)) + ((M (i0 + 2) (ix v3))).toInt64) fun x55 => lz (v3 + (1 : Int32)) fun x57 => f_X9_digest_L181 i0 M n x55 x57) else none)
def f_X9_digest (i0 : Nat) (M : Mm) : Option Int64 :=
  bd1 (f_X9_digest_L6 i0 M FU (701 : Int64) (0 : Int32)) fun x10 => bd1 (f_X9_digest_L33 i0 M FU x10 (0 : Int32)) fun x21 => bd1 (f_X9_digest_L77 i0 M FU x21 (0 : Int32)) fun x36 => bd1 (f_X9_digest_L124 i0 M FU x36 (0 : Int32)) fun x52 => bd1 (f_X9_digest_L181 i0 M FU x52 (0 : Int32)) fun x60 => some x60
set_option maxHeartbeats 4000000 in
set_option maxRecDepth 100000 in
theorem l_X9_digest_L6 {p : Program} {e : Env} {s : State} {m : MethodId} {args : Array Value} {below : List Frame} {meth : Method} {c : Code} {l : Launch} {G : GG} {Q : State → Prop} (hC : CX p s m args meth c cX9_digest 5 RX9 (some .long) G) {i0 : Nat} (hi0 : (kd i0).1 = 6) (M : Mm) : ∀ (n : Nat) (v1 : Int64) (v3 : Int32) {o1 : Int64} (hr : f_X9_digest_L6 i0 M n v1 v3 = some (o1)) (K : XJ p l e (RM 2 0 0 46) s m args below meth c G 5 Q 0 0 M 31 [(0, .ref (G.2.1 i0)), (1, .long o1)] []), XJ p l e (RM 2 0 0 46) s m args below meth c G 5 Q 0 0 M 6 [(0, .ref (G.2.1 i0)), (1, .long v1), (3, .int v3)] [] := by
  intro n
  induction n with
  | zero => intro v1 v3 o1 hr K; rw [f_X9_digest_L6] at hr; cases hr
  | succ n ih =>
    intro v1 v3 o1 hr K
    rw [f_X9_digest_L6] at hr
    refine x_iload_n hC dX9_digest_6 rfl 2 rfl ?_
    refine x_bipush hC (13 : Int32) dX9_digest_7 (by decide) ?_
    refine x_icmp_ge hC 31 dX9_digest_9 (by decide) (fun h1 => ?_) (fun h1 => ?_)
    · have hr := (ie_s hr).1 h1
      cases hr
      exact x_sub [0, 1] rfl K
    · have hr := (ie_s hr).2 h1
      refine x_lload_n hC dX9_digest_12 rfl 1 rfl ?_
      refine x_ldc2 hC (31 : Int64) kx_X9_257 dX9_digest_13 ?_
      refine x_lmul hC dX9_digest_16 ?_
      refine x_aload_n hC dX9_digest_17 rfl 0 rfl ?_
      refine x_iload_n hC dX9_digest_18 rfl 2 rfl ?_
      obtain ⟨x2, q3, hr⟩ := bd1_s hr
      refine x_callV (ci := 6) (q := (RX9, TX9, 11)) (As := [.int v3]) hC (c_X9_counted l G M hi0 v3 q3) kc_yX9_counted km_X9_99 ki_yX9_counted kv_yX9_counted kn_RX9 ky_yX9_counted rfl ⟨rfl, rfl⟩ ⟨(Nat.le_of_ble_eq_true rfl), (Nat.le_of_ble_eq_true rfl)⟩ hi0 (by decide) rfl rfl (Nat.le_of_ble_eq_true rfl) ⟨(Nat.le_of_ble_eq_true rfl), (Nat.le_of_ble_eq_true rfl)⟩ dX9_digest_19 (fun b4 => ?_)
      refine x_i2l hC dX9_digest_22 ?_
      refine x_ladd hC dX9_digest_23 ?_
      obtain ⟨x5, e6, hr⟩ := lz_s hr
      refine x_topl e6 ?_
      refine x_lstore_n hC [(1, .long x5), (0, .ref (G.2.1 i0)), (3, .int v3)] dX9_digest_24 rfl (Nat.le_of_ble_eq_true rfl) rfl ?_
      obtain ⟨x7, e8, hr⟩ := lz_s hr
      refine x_iinc hC [(3, .int x7), (1, .long x5), (0, .ref (G.2.1 i0))] dX9_digest_25 2 rfl (by rw [e8]; rfl) (Nat.le_of_ble_eq_true rfl) rfl ?_
      refine x_goto hC 6 dX9_digest_28 (by decide) ?_
      exact x_sub [2, 1, 0] rfl (ih x5 x7 hr K)
set_option maxHeartbeats 4000000 in
set_option maxRecDepth 100000 in
theorem l_X9_digest_L33 {p : Program} {e : Env} {s : State} {m : MethodId} {args : Array Value} {below : List Frame} {meth : Method} {c : Code} {l : Launch} {G : GG} {Q : State → Prop} (hC : CX p s m args meth c cX9_digest 5 RX9 (some .long) G) {i0 : Nat} (hi0 : (kd i0).1 = 6) (M : Mm) : ∀ (n : Nat) (v1 : Int64) (v3 : Int32) {o1 : Int64} (hr : f_X9_digest_L33 i0 M n v1 v3 = some (o1)) (K : XJ p l e (RM 2 0 0 46) s m args below meth c G 5 Q 0 0 M 75 [(0, .ref (G.2.1 i0)), (1, .long o1)] []), XJ p l e (RM 2 0 0 46) s m args below meth c G 5 Q 0 0 M 33 [(0, .ref (G.2.1 i0)), (1, .long v1), (3, .int v3)] [] := by
  intro n
  induction n with
  | zero => intro v1 v3 o1 hr K; rw [f_X9_digest_L33] at hr; cases hr
  | succ n ih =>
    intro v1 v3 o1 hr K
    rw [f_X9_digest_L33] at hr
    refine x_iload_n hC dX9_digest_33 rfl 2 rfl ?_
    refine x_bipush hC (12 : Int32) dX9_digest_34 (by decide) ?_
    refine x_icmp_ge hC 75 dX9_digest_36 (by decide) (fun h11 => ?_) (fun h11 => ?_)
    · have hr := (ie_s hr).1 h11
      cases hr
      exact x_sub [0, 1] rfl K
    · have hr := (ie_s hr).2 h11
      refine x_lload_n hC dX9_digest_39 rfl 1 rfl ?_
      refine x_ldc2 hC (31 : Int64) kx_X9_257 dX9_digest_40 ?_
      refine x_lmul hC dX9_digest_43 ?_
      refine x_bipush hC (10 : Int32) dX9_digest_44 (by decide) ?_
      refine x_aload_n hC dX9_digest_46 rfl 0 rfl ?_
      refine gf_X9_45 hC hi0 dX9_digest_47 ?_
      refine gf_X9_150 hC (kr_6_7 hi0) dX9_digest_50 ?_
      refine x_iload_n hC dX9_digest_53 rfl 2 rfl ?_
      obtain ⟨h12, hr⟩ := it_s hr
      refine x_iald hC (kr_0_6 (kr_6_7 hi0)) h12 dX9_digest_54 ?_
      refine x_imul hC dX9_digest_55 ?_
      refine x_aload_n hC dX9_digest_56 rfl 0 rfl ?_
      refine gf_X9_45 hC hi0 dX9_digest_57 ?_
      refine gf_X9_153 hC (kr_6_7 hi0) dX9_digest_60 ?_
      refine x_iload_n hC dX9_digest_63 rfl 2 rfl ?_
      obtain ⟨h13, hr⟩ := it_s hr
      refine x_iald hC (kr_0_7 (kr_6_7 hi0)) h13 dX9_digest_64 ?_
      refine x_iadd hC dX9_digest_65 ?_
      obtain ⟨x14, e15, hr⟩ := lz_s hr
      refine x_topi e15 ?_
      refine x_i2l hC dX9_digest_66 ?_
      refine x_ladd hC dX9_digest_67 ?_
      obtain ⟨x16, e17, hr⟩ := lz_s hr
      refine x_topl e17 ?_
      refine x_lstore_n hC [(1, .long x16), (0, .ref (G.2.1 i0)), (3, .int v3)] dX9_digest_68 rfl (Nat.le_of_ble_eq_true rfl) rfl ?_
      obtain ⟨x18, e19, hr⟩ := lz_s hr
      refine x_iinc hC [(3, .int x18), (1, .long x16), (0, .ref (G.2.1 i0))] dX9_digest_69 2 rfl (by rw [e19]; rfl) (Nat.le_of_ble_eq_true rfl) rfl ?_
      refine x_goto hC 33 dX9_digest_72 (by decide) ?_
      exact x_sub [2, 1, 0] rfl (ih x16 x18 hr K)
set_option maxHeartbeats 4000000 in
set_option maxRecDepth 100000 in
theorem l_X9_digest_L86 {p : Program} {e : Env} {s : State} {m : MethodId} {args : Array Value} {below : List Frame} {meth : Method} {c : Code} {l : Launch} {G : GG} {Q : State → Prop} (hC : CX p s m args meth c cX9_digest 5 RX9 (some .long) G) {i0 : Nat} (hi0 : (kd i0).1 = 6) (a3 : Int32) (M : Mm) : ∀ (n : Nat) (v1 : Int64) (v4 : Int32) {o1 : Int64} (hr : f_X9_digest_L86 i0 a3 M n v1 v4 = some (o1)) (K : XJ p l e (RM 2 0 0 46) s m args below meth c G 5 Q 0 0 M 116 [(0, .ref (G.2.1 i0)), (1, .long o1), (3, .int a3)] []), XJ p l e (RM 2 0 0 46) s m args below meth c G 5 Q 0 0 M 86 [(0, .ref (G.2.1 i0)), (1, .long v1), (3, .int a3), (4, .int v4)] [] := by
  intro n
  induction n with
  | zero => intro v1 v4 o1 hr K; rw [f_X9_digest_L86] at hr; cases hr
  | succ n ih =>
    intro v1 v4 o1 hr K
    rw [f_X9_digest_L86] at hr
    refine x_iload hC dX9_digest_86 3 rfl ?_
    refine x_iconst hC (5 : Int32) dX9_digest_88 (by decide) ?_
    refine x_icmp_ge hC 116 dX9_digest_89 (by decide) (fun h23 => ?_) (fun h23 => ?_)
    · have hr := (ie_s hr).1 h23
      cases hr
      exact x_sub [0, 1, 2] rfl K
    · have hr := (ie_s hr).2 h23
      refine x_lload_n hC dX9_digest_92 rfl 1 rfl ?_
      refine x_ldc2 hC (31 : Int64) kx_X9_257 dX9_digest_93 ?_
      refine x_lmul hC dX9_digest_96 ?_
      refine x_aload_n hC dX9_digest_97 rfl 0 rfl ?_
      refine gf_X9_45 hC hi0 dX9_digest_98 ?_
      refine x_iload_n hC dX9_digest_101 rfl 2 rfl ?_
      refine x_iload hC dX9_digest_102 3 rfl ?_
      obtain ⟨x24, q25, hr⟩ := bd1_s hr
      refine x_callV (ci := 0) (q := (RX1, TX1, 17)) (As := [.int a3, .int v4]) hC (c_X1_tellCell l G M (kr_6_7 hi0) a3 v4 q25) kc_yX1_tellCell km_X9_181 ki_yX1_tellCell kv_yX1_tellCell kn_RX1 ky_yX1_tellCell rfl ⟨rfl, rfl⟩ ⟨(Nat.le_of_ble_eq_true rfl), (Nat.le_of_ble_eq_true rfl)⟩ (kr_6_7 hi0) (by decide) rfl rfl (Nat.le_of_ble_eq_true rfl) ⟨(Nat.le_of_ble_eq_true rfl), (Nat.le_of_ble_eq_true rfl)⟩ dX9_digest_104 (fun b26 => ?_)
      refine x_i2l hC dX9_digest_107 ?_
      refine x_ladd hC dX9_digest_108 ?_
      obtain ⟨x27, e28, hr⟩ := lz_s hr
      refine x_topl e28 ?_
      refine x_lstore_n hC [(1, .long x27), (0, .ref (G.2.1 i0)), (3, .int a3), (4, .int v4)] dX9_digest_109 rfl (Nat.le_of_ble_eq_true rfl) rfl ?_
      obtain ⟨x29, e30, hr⟩ := lz_s hr
      refine x_iinc hC [(4, .int x29), (1, .long x27), (0, .ref (G.2.1 i0)), (3, .int a3)] dX9_digest_110 3 rfl (by rw [e30]; rfl) (Nat.le_of_ble_eq_true rfl) rfl ?_
      refine x_goto hC 86 dX9_digest_113 (by decide) ?_
      exact x_sub [2, 1, 3, 0] rfl (ih x27 x29 hr K)
set_option maxHeartbeats 4000000 in
set_option maxRecDepth 100000 in
theorem l_X9_digest_L77 {p : Program} {e : Env} {s : State} {m : MethodId} {args : Array Value} {below : List Frame} {meth : Method} {c : Code} {l : Launch} {G : GG} {Q : State → Prop} (hC : CX p s m args meth c cX9_digest 5 RX9 (some .long) G) {i0 : Nat} (hi0 : (kd i0).1 = 6) (M : Mm) : ∀ (n : Nat) (v1 : Int64) (v3 : Int32) {o1 : Int64} (hr : f_X9_digest_L77 i0 M n v1 v3 = some (o1)) (K : XJ p l e (RM 2 0 0 46) s m args below meth c G 5 Q 0 0 M 122 [(0, .ref (G.2.1 i0)), (1, .long o1)] []), XJ p l e (RM 2 0 0 46) s m args below meth c G 5 Q 0 0 M 77 [(0, .ref (G.2.1 i0)), (1, .long v1), (3, .int v3)] [] := by
  intro n
  induction n with
  | zero => intro v1 v3 o1 hr K; rw [f_X9_digest_L77] at hr; cases hr
  | succ n ih =>
    intro v1 v3 o1 hr K
    rw [f_X9_digest_L77] at hr
    refine x_iload_n hC dX9_digest_77 rfl 2 rfl ?_
    refine x_bipush hC (64 : Int32) dX9_digest_78 (by decide) ?_
    refine x_icmp_ge hC 122 dX9_digest_80 (by decide) (fun h22 => ?_) (fun h22 => ?_)
    · have hr := (ie_s hr).1 h22
      cases hr
      exact x_sub [0, 1] rfl K
    · have hr := (ie_s hr).2 h22
      refine x_iconst hC (0 : Int32) dX9_digest_83 (by decide) ?_
      refine x_istore hC [(4, .int (0 : Int32)), (0, .ref (G.2.1 i0)), (1, .long v1), (3, .int v3)] dX9_digest_84  (Nat.le_of_ble_eq_true rfl) rfl ?_
      obtain ⟨x32, q31, hr⟩ := bd1_s hr
      refine x_sub [1, 2, 3, 0] rfl (l_X9_digest_L86 hC hi0 v3 M FU  v1 (0 : Int32) q31 ?_)
      obtain ⟨x33, e34, hr⟩ := lz_s hr
      refine x_iinc hC [(3, .int x33), (0, .ref (G.2.1 i0)), (1, .long x32)] dX9_digest_116 2 rfl (by rw [e34]; rfl) (Nat.le_of_ble_eq_true rfl) rfl ?_
      refine x_goto hC 77 dX9_digest_119 (by decide) ?_
      exact x_sub [1, 2, 0] rfl (ih x32 x33 hr K)
set_option maxHeartbeats 4000000 in
set_option maxRecDepth 100000 in
theorem l_X9_digest_L138 {p : Program} {e : Env} {s : State} {m : MethodId} {args : Array Value} {below : List Frame} {meth : Method} {c : Code} {l : Launch} {G : GG} {Q : State → Prop} (hC : CX p s m args meth c cX9_digest 5 RX9 (some .long) G) {i0 : Nat} (hi0 : (kd i0).1 = 6) (a3 : Int32) (M : Mm) : ∀ (n : Nat) (v1 : Int64) (v4 : Int32) {o1 : Int64} (hr : f_X9_digest_L138 i0 a3 M n v1 v4 = some (o1)) (K : XJ p l e (RM 2 0 0 46) s m args below meth c G 5 Q 0 0 M 173 [(0, .ref (G.2.1 i0)), (1, .long o1), (3, .int a3)] []), XJ p l e (RM 2 0 0 46) s m args below meth c G 5 Q 0 0 M 138 [(0, .ref (G.2.1 i0)), (1, .long v1), (3, .int a3), (4, .int v4)] [] := by
  intro n
  induction n with
  | zero => intro v1 v4 o1 hr K; rw [f_X9_digest_L138] at hr; cases hr
  | succ n ih =>
    intro v1 v4 o1 hr K
    rw [f_X9_digest_L138] at hr
    refine x_iload hC dX9_digest_138 3 rfl ?_
    refine x_bipush hC (9 : Int32) dX9_digest_140 (by decide) ?_
    refine x_icmp_ge hC 173 dX9_digest_142 (by decide) (fun h38 => ?_) (fun h38 => ?_)
    · have hr := (ie_s hr).1 h38
      cases hr
      exact x_sub [0, 1, 2] rfl K
    · have hr := (ie_s hr).2 h38
      refine x_lload_n hC dX9_digest_145 rfl 1 rfl ?_
      refine x_ldc2 hC (31 : Int64) kx_X9_257 dX9_digest_146 ?_
      refine x_lmul hC dX9_digest_149 ?_
      refine x_aload_n hC dX9_digest_150 rfl 0 rfl ?_
      refine gf_X9_45 hC hi0 dX9_digest_151 ?_
      refine gf_X9_188 hC (kr_6_7 hi0) dX9_digest_154 ?_
      refine x_iload_n hC dX9_digest_157 rfl 2 rfl ?_
      obtain ⟨h39, hr⟩ := it_s hr
      refine x_gald hC (kr_0_14 (kr_6_7 hi0)) h39 dX9_digest_158 ?_
      refine x_iload hC dX9_digest_159 3 rfl ?_
      obtain ⟨x40, e41, hr⟩ := lz_s hr
      refine x_callV (ci := 1) (q := (RX2, TX2, 11)) (As := [.int v4]) hC (c_X2_tell l G M (kr_gang (kr_0_14 (kr_6_7 hi0)) h39) v4 e41.symm) kc_yX2_tell km_X9_192 ki_yX2_tell kv_yX2_tell kn_RX2 ky_yX2_tell rfl ⟨rfl, rfl⟩ ⟨(Nat.le_of_ble_eq_true rfl), (Nat.le_of_ble_eq_true rfl)⟩ (kr_gang (kr_0_14 (kr_6_7 hi0)) h39) (by decide) rfl rfl (Nat.le_of_ble_eq_true rfl) ⟨(Nat.le_of_ble_eq_true rfl), (Nat.le_of_ble_eq_true rfl)⟩ dX9_digest_161 (fun b42 => ?_)
      refine x_i2l hC dX9_digest_164 ?_
      refine x_ladd hC dX9_digest_165 ?_
      obtain ⟨x43, e44, hr⟩ := lz_s hr
      refine x_topl e44 ?_
      refine x_lstore_n hC [(1, .long x43), (0, .ref (G.2.1 i0)), (3, .int a3), (4, .int v4)] dX9_digest_166 rfl (Nat.le_of_ble_eq_true rfl) rfl ?_
      obtain ⟨x45, e46, hr⟩ := lz_s hr
      refine x_iinc hC [(4, .int x45), (1, .long x43), (0, .ref (G.2.1 i0)), (3, .int a3)] dX9_digest_167 3 rfl (by rw [e46]; rfl) (Nat.le_of_ble_eq_true rfl) rfl ?_
      refine x_goto hC 138 dX9_digest_170 (by decide) ?_
      exact x_sub [2, 1, 3, 0] rfl (ih x43 x45 hr K)
set_option maxHeartbeats 4000000 in
set_option maxRecDepth 100000 in
theorem l_X9_digest_L124 {p : Program} {e : Env} {s : State} {m : MethodId} {args : Array Value} {below : List Frame} {meth : Method} {c : Code} {l : Launch} {G : GG} {Q : State → Prop} (hC : CX p s m args meth c cX9_digest 5 RX9 (some .long) G) {i0 : Nat} (hi0 : (kd i0).1 = 6) (M : Mm) : ∀ (n : Nat) (v1 : Int64) (v3 : Int32) {o1 : Int64} (hr : f_X9_digest_L124 i0 M n v1 v3 = some (o1)) (K : XJ p l e (RM 2 0 0 46) s m args below meth c G 5 Q 0 0 M 179 [(0, .ref (G.2.1 i0)), (1, .long o1)] []), XJ p l e (RM 2 0 0 46) s m args below meth c G 5 Q 0 0 M 124 [(0, .ref (G.2.1 i0)), (1, .long v1), (3, .int v3)] [] := by
  intro n
  induction n with
  | zero => intro v1 v3 o1 hr K; rw [f_X9_digest_L124] at hr; cases hr
  | succ n ih =>
    intro v1 v3 o1 hr K
    rw [f_X9_digest_L124] at hr
    refine x_iload_n hC dX9_digest_124 rfl 2 rfl ?_
    refine x_aload_n hC dX9_digest_125 rfl 0 rfl ?_
    refine gf_X9_45 hC hi0 dX9_digest_126 ?_
    refine gf_X9_109 hC (kr_6_7 hi0) dX9_digest_129 ?_
    refine x_icmp_ge hC 179 dX9_digest_132 (by decide) (fun h37 => ?_) (fun h37 => ?_)
    · have hr := (ie_s hr).1 h37
      cases hr
      exact x_sub [0, 1] rfl K
    · have hr := (ie_s hr).2 h37
      refine x_iconst hC (0 : Int32) dX9_digest_135 (by decide) ?_
      refine x_istore hC [(4, .int (0 : Int32)), (0, .ref (G.2.1 i0)), (1, .long v1), (3, .int v3)] dX9_digest_136  (Nat.le_of_ble_eq_true rfl) rfl ?_
      obtain ⟨x48, q47, hr⟩ := bd1_s hr
      refine x_sub [1, 2, 3, 0] rfl (l_X9_digest_L138 hC hi0 v3 M FU  v1 (0 : Int32) q47 ?_)
      obtain ⟨x49, e50, hr⟩ := lz_s hr
      refine x_iinc hC [(3, .int x49), (0, .ref (G.2.1 i0)), (1, .long x48)] dX9_digest_173 2 rfl (by rw [e50]; rfl) (Nat.le_of_ble_eq_true rfl) rfl ?_
      refine x_goto hC 124 dX9_digest_176 (by decide) ?_
      exact x_sub [1, 2, 0] rfl (ih x48 x49 hr K)
set_option maxHeartbeats 4000000 in
set_option maxRecDepth 100000 in
theorem l_X9_digest_L181 {p : Program} {e : Env} {s : State} {m : MethodId} {args : Array Value} {below : List Frame} {meth : Method} {c : Code} {l : Launch} {G : GG} {Q : State → Prop} (hC : CX p s m args meth c cX9_digest 5 RX9 (some .long) G) {i0 : Nat} (hi0 : (kd i0).1 = 6) (M : Mm) : ∀ (n : Nat) (v1 : Int64) (v3 : Int32) {o1 : Int64} (hr : f_X9_digest_L181 i0 M n v1 v3 = some (o1)) (K : XJ p l e (RM 2 0 0 46) s m args below meth c G 5 Q 0 0 M 209 [(1, .long o1)] []), XJ p l e (RM 2 0 0 46) s m args below meth c G 5 Q 0 0 M 181 [(0, .ref (G.2.1 i0)), (1, .long v1), (3, .int v3)] [] := by
  intro n
  induction n with
  | zero => intro v1 v3 o1 hr K; rw [f_X9_digest_L181] at hr; cases hr
  | succ n ih =>
    intro v1 v3 o1 hr K
    rw [f_X9_digest_L181] at hr
    refine x_iload_n hC dX9_digest_181 rfl 2 rfl ?_
    refine x_aload_n hC dX9_digest_182 rfl 0 rfl ?_
    refine gf_X9_20 hC hi0 dX9_digest_183 ?_
    refine x_icmp_ge hC 209 dX9_digest_186 (by decide) (fun h53 => ?_) (fun h53 => ?_)
    · have hr := (ie_s hr).1 h53
      cases hr
      exact x_sub [1] rfl K
    · have hr := (ie_s hr).2 h53
      refine x_lload_n hC dX9_digest_189 rfl 1 rfl ?_
      refine x_ldc2 hC (31 : Int64) kx_X9_257 dX9_digest_190 ?_
      refine x_lmul hC dX9_digest_193 ?_
      refine x_aload_n hC dX9_digest_194 rfl 0 rfl ?_
      refine gf_X9_17 hC hi0 dX9_digest_195 ?_
      refine x_iload_n hC dX9_digest_198 rfl 2 rfl ?_
      obtain ⟨h54, hr⟩ := it_s hr
      refine x_bald hC (kr_6_2 hi0) h54 dX9_digest_199 ?_
      refine x_i2l hC dX9_digest_200 ?_
      refine x_ladd hC dX9_digest_201 ?_
      obtain ⟨x55, e56, hr⟩ := lz_s hr
      refine x_topl e56 ?_
      refine x_lstore_n hC [(1, .long x55), (0, .ref (G.2.1 i0)), (3, .int v3)] dX9_digest_202 rfl (Nat.le_of_ble_eq_true rfl) rfl ?_
      obtain ⟨x57, e58, hr⟩ := lz_s hr
      refine x_iinc hC [(3, .int x57), (1, .long x55), (0, .ref (G.2.1 i0))] dX9_digest_203 2 rfl (by rw [e58]; rfl) (Nat.le_of_ble_eq_true rfl) rfl ?_
      refine x_goto hC 181 dX9_digest_206 (by decide) ?_
      exact x_sub [2, 1, 0] rfl (ih x55 x57 hr K)
set_option maxHeartbeats 4000000 in
set_option maxRecDepth 100000 in
theorem c_X9_digest (l : Launch) (G : GG) (M : Mm) {i0 : Nat} (hi0 : (kd i0).1 = 6) {r : Int64} (hr : f_X9_digest i0 M = some r) : Mo false l yX9_digest (WS yX9_digest cX9_digest 5 (some .long)) (RM 2 0 0 46) 0 0 [.ref (G.2.1 i0)] G M (some (.long r)) M := by
  refine Mo.of (by decide +kernel) (Nat.le_of_ble_eq_true rfl) ?_
  intro p e s m args below meth c hC
  have hC : CX p s m args meth c cX9_digest 5 RX9 (some .long) G := hC
  rw [f_X9_digest] at hr
  show XJ p l e (RM 2 0 0 46) s m args below meth c G 5 _ 0 0 M 0 [(0, .ref (G.2.1 i0))] []
  refine x_ldc2 hC (701 : Int64) kx_X9_255 dX9_digest_0 ?_
  refine x_lstore_n hC [(1, .long (701 : Int64)), (0, .ref (G.2.1 i0))] dX9_digest_3 rfl (Nat.le_of_ble_eq_true rfl) rfl ?_
  refine x_iconst hC (0 : Int32) dX9_digest_4 (by decide) ?_
  refine x_istore_n hC [(3, .int (0 : Int32)), (1, .long (701 : Int64)), (0, .ref (G.2.1 i0))] dX9_digest_5 rfl (Nat.le_of_ble_eq_true rfl) rfl ?_
  obtain ⟨x10, q9, hr⟩ := bd1_s hr
  refine x_sub [2, 1, 0] rfl (l_X9_digest_L6 hC hi0 M FU  (701 : Int64) (0 : Int32) q9 ?_)
  refine x_iconst hC (0 : Int32) dX9_digest_31 (by decide) ?_
  refine x_istore_n hC [(3, .int (0 : Int32)), (0, .ref (G.2.1 i0)), (1, .long x10)] dX9_digest_32 rfl (Nat.le_of_ble_eq_true rfl) rfl ?_
  obtain ⟨x21, q20, hr⟩ := bd1_s hr
  refine x_sub [1, 2, 0] rfl (l_X9_digest_L33 hC hi0 M FU  x10 (0 : Int32) q20 ?_)
  refine x_iconst hC (0 : Int32) dX9_digest_75 (by decide) ?_
  refine x_istore_n hC [(3, .int (0 : Int32)), (0, .ref (G.2.1 i0)), (1, .long x21)] dX9_digest_76 rfl (Nat.le_of_ble_eq_true rfl) rfl ?_
  obtain ⟨x36, q35, hr⟩ := bd1_s hr
  refine x_sub [1, 2, 0] rfl (l_X9_digest_L77 hC hi0 M FU  x21 (0 : Int32) q35 ?_)
  refine x_iconst hC (0 : Int32) dX9_digest_122 (by decide) ?_
  refine x_istore_n hC [(3, .int (0 : Int32)), (0, .ref (G.2.1 i0)), (1, .long x36)] dX9_digest_123 rfl (Nat.le_of_ble_eq_true rfl) rfl ?_
  obtain ⟨x52, q51, hr⟩ := bd1_s hr
  refine x_sub [1, 2, 0] rfl (l_X9_digest_L124 hC hi0 M FU  x36 (0 : Int32) q51 ?_)
  refine x_iconst hC (0 : Int32) dX9_digest_179 (by decide) ?_
  refine x_istore_n hC [(3, .int (0 : Int32)), (0, .ref (G.2.1 i0)), (1, .long x52)] dX9_digest_180 rfl (Nat.le_of_ble_eq_true rfl) rfl ?_
  obtain ⟨x60, q59, hr⟩ := bd1_s hr
  refine x_sub [1, 2, 0] rfl (l_X9_digest_L181 hC hi0 M FU  x52 (0 : Int32) q59 ?_)
  refine x_lload_n hC dX9_digest_209 rfl 0 rfl ?_
  cases hr
  exact x_lret hC rfl dX9_digest_210

theorem dX4_oneGang_0 : decode cX4_oneGang 0 = .ok (.aload_n 0, 1) := by decide +kernel
theorem dX4_oneGang_1 : decode cX4_oneGang 1 = .ok (.dup, 1) := by decide +kernel
theorem dX4_oneGang_2 : decode cX4_oneGang 2 = .ok (.getfield 43, 3) := by decide +kernel
theorem dX4_oneGang_5 : decode cX4_oneGang 5 = .ok (.iconst 1, 1) := by decide +kernel
theorem dX4_oneGang_6 : decode cX4_oneGang 6 = .ok (.iadd, 1) := by decide +kernel
theorem dX4_oneGang_7 : decode cX4_oneGang 7 = .ok (.putfield 43, 3) := by decide +kernel
theorem dX4_oneGang_10 : decode cX4_oneGang 10 = .ok (.aload_n 0, 1) := by decide +kernel
theorem dX4_oneGang_11 : decode cX4_oneGang 11 = .ok (.getfield 43, 3) := by decide +kernel
theorem dX4_oneGang_14 : decode cX4_oneGang 14 = .ok (.istore_n 1, 1) := by decide +kernel
theorem dX4_oneGang_15 : decode cX4_oneGang 15 = .ok (.aload_n 0, 1) := by decide +kernel
theorem dX4_oneGang_16 : decode cX4_oneGang 16 = .ok (.getstatic 77, 3) := by decide +kernel
theorem dX4_oneGang_19 : decode cX4_oneGang 19 = .ok (.invokevirtual 80, 3) := by decide +kernel
theorem dX4_oneGang_22 : decode cX4_oneGang 22 = .ok (.ifCond .ne 5, 3) := by decide +kernel
theorem dX4_oneGang_25 : decode cX4_oneGang 25 = .ok (.iconst 0, 1) := by decide +kernel
theorem dX4_oneGang_26 : decode cX4_oneGang 26 = .ok (.ireturn, 1) := by decide +kernel
theorem dX4_oneGang_27 : decode cX4_oneGang 27 = .ok (.aload_n 0, 1) := by decide +kernel
theorem dX4_oneGang_28 : decode cX4_oneGang 28 = .ok (.iload_n 1, 1) := by decide +kernel
theorem dX4_oneGang_29 : decode cX4_oneGang 29 = .ok (.invokevirtual 84, 3) := by decide +kernel
theorem dX4_oneGang_32 : decode cX4_oneGang 32 = .ok (.aload_n 0, 1) := by decide +kernel
theorem dX4_oneGang_33 : decode cX4_oneGang 33 = .ok (.getstatic 88, 3) := by decide +kernel
theorem dX4_oneGang_36 : decode cX4_oneGang 36 = .ok (.invokevirtual 80, 3) := by decide +kernel
theorem dX4_oneGang_39 : decode cX4_oneGang 39 = .ok (.ifCond .ne 5, 3) := by decide +kernel
theorem dX4_oneGang_42 : decode cX4_oneGang 42 = .ok (.iconst 0, 1) := by decide +kernel
theorem dX4_oneGang_43 : decode cX4_oneGang 43 = .ok (.ireturn, 1) := by decide +kernel
theorem dX4_oneGang_44 : decode cX4_oneGang 44 = .ok (.aload_n 0, 1) := by decide +kernel
theorem dX4_oneGang_45 : decode cX4_oneGang 45 = .ok (.getfield 43, 3) := by decide +kernel
theorem dX4_oneGang_48 : decode cX4_oneGang 48 = .ok (.istore_n 2, 1) := by decide +kernel
theorem dX4_oneGang_49 : decode cX4_oneGang 49 = .ok (.aload_n 0, 1) := by decide +kernel
theorem dX4_oneGang_50 : decode cX4_oneGang 50 = .ok (.bipush 7, 2) := by decide +kernel
theorem dX4_oneGang_52 : decode cX4_oneGang 52 = .ok (.invokevirtual 91, 3) := by decide +kernel
theorem dX4_oneGang_55 : decode cX4_oneGang 55 = .ok (.ifCond .ne 5, 3) := by decide +kernel
theorem dX4_oneGang_58 : decode cX4_oneGang 58 = .ok (.iconst 0, 1) := by decide +kernel
theorem dX4_oneGang_59 : decode cX4_oneGang 59 = .ok (.ireturn, 1) := by decide +kernel
theorem dX4_oneGang_60 : decode cX4_oneGang 60 = .ok (.aload_n 0, 1) := by decide +kernel
theorem dX4_oneGang_61 : decode cX4_oneGang 61 = .ok (.getfield 43, 3) := by decide +kernel
theorem dX4_oneGang_64 : decode cX4_oneGang 64 = .ok (.istore_n 3, 1) := by decide +kernel
theorem dX4_oneGang_65 : decode cX4_oneGang 65 = .ok (.aload_n 0, 1) := by decide +kernel
theorem dX4_oneGang_66 : decode cX4_oneGang 66 = .ok (.bipush 7, 2) := by decide +kernel
theorem dX4_oneGang_68 : decode cX4_oneGang 68 = .ok (.invokevirtual 91, 3) := by decide +kernel
theorem dX4_oneGang_71 : decode cX4_oneGang 71 = .ok (.ifCond .ne 5, 3) := by decide +kernel
theorem dX4_oneGang_74 : decode cX4_oneGang 74 = .ok (.iconst 0, 1) := by decide +kernel
theorem dX4_oneGang_75 : decode cX4_oneGang 75 = .ok (.ireturn, 1) := by decide +kernel
theorem dX4_oneGang_76 : decode cX4_oneGang 76 = .ok (.aload_n 0, 1) := by decide +kernel
theorem dX4_oneGang_77 : decode cX4_oneGang 77 = .ok (.getfield 25, 3) := by decide +kernel
theorem dX4_oneGang_80 : decode cX4_oneGang 80 = .ok (.aload_n 0, 1) := by decide +kernel
theorem dX4_oneGang_81 : decode cX4_oneGang 81 = .ok (.getfield 12, 3) := by decide +kernel
theorem dX4_oneGang_84 : decode cX4_oneGang 84 = .ok (.iload_n 2, 1) := by decide +kernel
theorem dX4_oneGang_85 : decode cX4_oneGang 85 = .ok (.invokevirtual 95, 3) := by decide +kernel
theorem dX4_oneGang_88 : decode cX4_oneGang 88 = .ok (.aload_n 0, 1) := by decide +kernel
theorem dX4_oneGang_89 : decode cX4_oneGang 89 = .ok (.getfield 12, 3) := by decide +kernel
theorem dX4_oneGang_92 : decode cX4_oneGang 92 = .ok (.iload_n 3, 1) := by decide +kernel
theorem dX4_oneGang_93 : decode cX4_oneGang 93 = .ok (.invokevirtual 95, 3) := by decide +kernel
theorem dX4_oneGang_96 : decode cX4_oneGang 96 = .ok (.invokevirtual 98, 3) := by decide +kernel
theorem dX4_oneGang_99 : decode cX4_oneGang 99 = .ok (.aload_n 0, 1) := by decide +kernel
theorem dX4_oneGang_100 : decode cX4_oneGang 100 = .ok (.iconst 0, 1) := by decide +kernel
theorem dX4_oneGang_101 : decode cX4_oneGang 101 = .ok (.invokevirtual 102, 3) := by decide +kernel
theorem dX4_oneGang_104 : decode cX4_oneGang 104 = .ok (.ifCond .eq 20, 3) := by decide +kernel
theorem dX4_oneGang_107 : decode cX4_oneGang 107 = .ok (.aload_n 0, 1) := by decide +kernel
theorem dX4_oneGang_108 : decode cX4_oneGang 108 = .ok (.getfield 25, 3) := by decide +kernel
theorem dX4_oneGang_111 : decode cX4_oneGang 111 = .ok (.bipush 39, 2) := by decide +kernel
theorem dX4_oneGang_113 : decode cX4_oneGang 113 = .ok (.iconst 0, 1) := by decide +kernel
theorem dX4_oneGang_114 : decode cX4_oneGang 114 = .ok (.invokevirtual 107, 3) := by decide +kernel
theorem dX4_oneGang_117 : decode cX4_oneGang 117 = .ok (.ifCond .eq 7, 3) := by decide +kernel
theorem dX4_oneGang_120 : decode cX4_oneGang 120 = .ok (.iconst 1, 1) := by decide +kernel
theorem dX4_oneGang_121 : decode cX4_oneGang 121 = .ok (.goto 4, 3) := by decide +kernel
theorem dX4_oneGang_124 : decode cX4_oneGang 124 = .ok (.iconst 0, 1) := by decide +kernel
theorem dX4_oneGang_125 : decode cX4_oneGang 125 = .ok (.ireturn, 1) := by decide +kernel

def f_X4_oneGang (i0 : Nat) (M : Mm) : Option (Int32 × Mm) :=
  lz (wr M i0 4 ((M i0 4) + (1 : Int32))) fun M1 => bd2 (f_X4_expect i0 (1048 : Int32) M1) fun x3 M4 => if (x3 = 0) then (some ((0 : Int32), M4)) else (bd1 (f_X4_noteName i0 (M1 i0 4) M4) fun M8 => bd2 (f_X4_expect i0 (1002 : Int32) M8) fun x11 M12 => if (x11 = 0) then (some ((0 : Int32), M12)) else (bd2 (f_X4_limitedNumber i0 (7 : Int32) M12) fun x16 M17 => if (x16 = 0) then (some ((0 : Int32), M17)) else (bd2 (f_X4_limitedNumber i0 (7 : Int32) M17) fun x21 M22 => if (x21 = 0) then (some ((0 : Int32), M22)) else (if okr 2 (M22 i0 3) then (bd1 (f_X6_numberAt (i0 + 1) (M12 i0 4) M22) fun x27 => bd1 (f_X6_numberAt (i0 + 1) (M17 i0 4) M22) fun x30 => bd1 (f_X5_addGang (rid (M22 i0 3)) x27 x30 M22) fun M33 => bd2 (f_P4 100 0 i0 (0 : Int32) M33) fun x36 M37 => if (x36 = 0) then (some ((0 : Int32), M37)) else (if okr 2 (M37 i0 3) then (bd2 (f_X5_emit (rid (M37 i0 3)) (39 : Int32) (0 : Int32) M37) fun x42 M43 => if (x42 = 0) then (some ((0 : Int32), M43)) else (some ((1 : Int32), M43))) else none)) else none))))

set_option maxHeartbeats 4000000 in
set_option maxRecDepth 100000 in
theorem c_X4_oneGang (l : Launch) (G : GG) (M : Mm) {i0 : Nat} (hi0 : (kd i0).1 = 7) {r : Int32} {M9 : Mm} (hr : f_X4_oneGang i0 M = some (r, M9)) : Mo true l yX4_oneGang (WS yX4_oneGang cX4_oneGang 4 (some .boolean)) (RM 121 0 0 5022) 0 0 [.ref (G.2.1 i0)] G M (some (.int r)) M9 := by
  refine Mo.of (by decide +kernel) (Nat.le_of_ble_eq_true rfl) ?_
  intro p e s m args below meth c hC
  have hC : CX p s m args meth c cX4_oneGang 4 RX4 (some .boolean) G := hC
  rw [f_X4_oneGang] at hr
  show XJ p l e (RM 121 0 0 5022) s m args below meth c G 4 _ 0 0 M 0 [(0, .ref (G.2.1 i0))] []
  refine x_aload_n hC dX4_oneGang_0 rfl 0 rfl ?_
  refine x_dup hC dX4_oneGang_1 rfl ?_
  refine gf_X4_43 hC hi0 dX4_oneGang_2 ?_
  refine x_iconst hC (1 : Int32) dX4_oneGang_5 (by decide) ?_
  refine x_iadd hC dX4_oneGang_6 ?_
  obtain ⟨M1, e2, hr⟩ := lz_s hr
  refine pf_X4_43 hC hi0 e2 dX4_oneGang_7 ?_
  refine x_aload_n hC dX4_oneGang_10 rfl 0 rfl ?_
  refine gf_X4_43 hC hi0 dX4_oneGang_11 ?_
  refine x_istore_n hC [(1, .int (M1 i0 4)), (0, .ref (G.2.1 i0))] dX4_oneGang_14 rfl (Nat.le_of_ble_eq_true rfl) rfl ?_
  refine x_aload_n hC dX4_oneGang_15 rfl 1 rfl ?_
  refine x_tgets hC (a := (1048 : Int32)) 47 (by decide) rfl (by decide) kf_X4_77 dX4_oneGang_16 ?_
  obtain ⟨x3, M4, q5, hr⟩ := bd2_s hr
  refine x_callV (ci := 7) (q := (RX4, TX4, 7)) (As := [.ref (G.2.1 (rid (1048 : Int32)))]) hC (c_X4_expect l G M1 hi0 (1048 : Int32) q5) kc_yX4_expect km_X4_80 ki_yX4_expect kv_yX4_expect kn_RX4 ky_yX4_expect rfl ⟨rfl, rfl⟩ ⟨(Nat.le_of_ble_eq_true rfl), (Nat.le_of_ble_eq_true rfl)⟩ hi0 (by decide) rfl rfl (Nat.le_of_ble_eq_true rfl) ⟨(Nat.le_of_ble_eq_true rfl), (Nat.le_of_ble_eq_true rfl)⟩ dX4_oneGang_19 (fun b6 => ?_)
  refine x_if_ne hC 27 dX4_oneGang_22 (by decide) (fun h7 => ?_) (fun h7 => ?_)
  · have hr := (ie_s hr).2 h7
    refine x_aload_n hC dX4_oneGang_27 rfl 1 rfl ?_
    refine x_iload_n hC dX4_oneGang_28 rfl 0 rfl ?_
    obtain ⟨M8, q9, hr⟩ := bd1_s hr
    refine x_callV (ci := 7) (q := (RX4, TX4, 7)) (As := [.int (M1 i0 4)]) hC (c_X4_noteName l G M4 hi0 (M1 i0 4) q9) kc_yX4_noteName km_X4_84 ki_yX4_noteName kv_yX4_noteName kn_RX4 ky_yX4_noteName rfl ⟨rfl, rfl⟩ ⟨(Nat.le_of_ble_eq_true rfl), (Nat.le_of_ble_eq_true rfl)⟩ hi0 (by decide) rfl rfl (Nat.le_of_ble_eq_true rfl) ⟨(Nat.le_of_ble_eq_true rfl), (Nat.le_of_ble_eq_true rfl)⟩ dX4_oneGang_29 (fun b10 => ?_)
    refine x_aload_n hC dX4_oneGang_32 rfl 1 rfl ?_
    refine x_tgets hC (a := (1002 : Int32)) 1 (by decide) rfl (by decide) kf_X4_88 dX4_oneGang_33 ?_
    obtain ⟨x11, M12, q13, hr⟩ := bd2_s hr
    refine x_callV (ci := 7) (q := (RX4, TX4, 7)) (As := [.ref (G.2.1 (rid (1002 : Int32)))]) hC (c_X4_expect l G M8 hi0 (1002 : Int32) q13) kc_yX4_expect km_X4_80 ki_yX4_expect kv_yX4_expect kn_RX4 ky_yX4_expect rfl ⟨rfl, rfl⟩ ⟨(Nat.le_of_ble_eq_true rfl), (Nat.le_of_ble_eq_true rfl)⟩ hi0 (by decide) rfl rfl (Nat.le_of_ble_eq_true rfl) ⟨(Nat.le_of_ble_eq_true rfl), (Nat.le_of_ble_eq_true rfl)⟩ dX4_oneGang_36 (fun b14 => ?_)
    refine x_if_ne hC 44 dX4_oneGang_39 (by decide) (fun h15 => ?_) (fun h15 => ?_)
    · have hr := (ie_s hr).2 h15
      refine x_aload_n hC dX4_oneGang_44 rfl 1 rfl ?_
      refine gf_X4_43 hC hi0 dX4_oneGang_45 ?_
      refine x_istore_n hC [(2, .int (M12 i0 4)), (1, .int (M1 i0 4)), (0, .ref (G.2.1 i0))] dX4_oneGang_48 rfl (Nat.le_of_ble_eq_true rfl) rfl ?_
      refine x_aload_n hC dX4_oneGang_49 rfl 2 rfl ?_
      refine x_bipush hC (7 : Int32) dX4_oneGang_50 (by decide) ?_
      obtain ⟨x16, M17, q18, hr⟩ := bd2_s hr
      refine x_callV (ci := 7) (q := (RX4, TX4, 7)) (As := [.int (7 : Int32)]) hC (c_X4_limitedNumber l G M12 hi0 (7 : Int32) q18) kc_yX4_limitedNumber km_X4_91 ki_yX4_limitedNumber kv_yX4_limitedNumber kn_RX4 ky_yX4_limitedNumber rfl ⟨rfl, rfl⟩ ⟨(Nat.le_of_ble_eq_true rfl), (Nat.le_of_ble_eq_true rfl)⟩ hi0 (by decide) rfl rfl (Nat.le_of_ble_eq_true rfl) ⟨(Nat.le_of_ble_eq_true rfl), (Nat.le_of_ble_eq_true rfl)⟩ dX4_oneGang_52 (fun b19 => ?_)
      refine x_if_ne hC 60 dX4_oneGang_55 (by decide) (fun h20 => ?_) (fun h20 => ?_)
      · have hr := (ie_s hr).2 h20
        refine x_aload_n hC dX4_oneGang_60 rfl 2 rfl ?_
        refine gf_X4_43 hC hi0 dX4_oneGang_61 ?_
        refine x_istore_n hC [(3, .int (M17 i0 4)), (2, .int (M12 i0 4)), (1, .int (M1 i0 4)), (0, .ref (G.2.1 i0))] dX4_oneGang_64 rfl (Nat.le_of_ble_eq_true rfl) rfl ?_
        refine x_aload_n hC dX4_oneGang_65 rfl 3 rfl ?_
        refine x_bipush hC (7 : Int32) dX4_oneGang_66 (by decide) ?_
        obtain ⟨x21, M22, q23, hr⟩ := bd2_s hr
        refine x_callV (ci := 7) (q := (RX4, TX4, 7)) (As := [.int (7 : Int32)]) hC (c_X4_limitedNumber l G M17 hi0 (7 : Int32) q23) kc_yX4_limitedNumber km_X4_91 ki_yX4_limitedNumber kv_yX4_limitedNumber kn_RX4 ky_yX4_limitedNumber rfl ⟨rfl, rfl⟩ ⟨(Nat.le_of_ble_eq_true rfl), (Nat.le_of_ble_eq_true rfl)⟩ hi0 (by decide) rfl rfl (Nat.le_of_ble_eq_true rfl) ⟨(Nat.le_of_ble_eq_true rfl), (Nat.le_of_ble_eq_true rfl)⟩ dX4_oneGang_68 (fun b24 => ?_)
        refine x_if_ne hC 76 dX4_oneGang_71 (by decide) (fun h25 => ?_) (fun h25 => ?_)
        · have hr := (ie_s hr).2 h25
          refine x_aload_n hC dX4_oneGang_76 rfl 3 rfl ?_
          obtain ⟨h26, hr⟩ := it_s hr
          refine gf_X4_25 hC hi0 h26 dX4_oneGang_77 ?_
          refine x_aload_n hC dX4_oneGang_80 rfl 3 rfl ?_
          refine gf_X4_12 hC hi0 dX4_oneGang_81 ?_
          refine x_iload_n hC dX4_oneGang_84 rfl 1 rfl ?_
          obtain ⟨x27, q28, hr⟩ := bd1_s hr
          refine x_callV (ci := 8) (q := (RX6, TX6, 5)) (As := [.int (M12 i0 4)]) hC (c_X6_numberAt l G M22 (kr_7_0 hi0) (M12 i0 4) q28) kc_yX6_numberAt km_X4_95 ki_yX6_numberAt kv_yX6_numberAt kn_RX6 ky_yX6_numberAt rfl ⟨rfl, rfl⟩ ⟨(Nat.le_of_ble_eq_true rfl), (Nat.le_of_ble_eq_true rfl)⟩ (kr_7_0 hi0) (by decide) rfl rfl (Nat.le_of_ble_eq_true rfl) ⟨(Nat.le_of_ble_eq_true rfl), (Nat.le_of_ble_eq_true rfl)⟩ dX4_oneGang_85 (fun b29 => ?_)
          refine x_aload_n hC dX4_oneGang_88 rfl 3 rfl ?_
          refine gf_X4_12 hC hi0 dX4_oneGang_89 ?_
          refine x_iload_n hC dX4_oneGang_92 rfl 0 rfl ?_
          obtain ⟨x30, q31, hr⟩ := bd1_s hr
          refine x_callV (ci := 8) (q := (RX6, TX6, 5)) (As := [.int (M17 i0 4)]) hC (c_X6_numberAt l G M22 (kr_7_0 hi0) (M17 i0 4) q31) kc_yX6_numberAt km_X4_95 ki_yX6_numberAt kv_yX6_numberAt kn_RX6 ky_yX6_numberAt rfl ⟨rfl, rfl⟩ ⟨(Nat.le_of_ble_eq_true rfl), (Nat.le_of_ble_eq_true rfl)⟩ (kr_7_0 hi0) (by decide) rfl rfl (Nat.le_of_ble_eq_true rfl) ⟨(Nat.le_of_ble_eq_true rfl), (Nat.le_of_ble_eq_true rfl)⟩ dX4_oneGang_93 (fun b32 => ?_)
          obtain ⟨M33, q34, hr⟩ := bd1_s hr
          refine x_callV (ci := 2) (q := (RX5, TX5, 7)) (As := [.int x27, .int x30]) hC (c_X5_addGang l G M22 h26.2 x27 x30 q34) kc_yX5_addGang km_X4_98 ki_yX5_addGang kv_yX5_addGang kn_RX5 ky_yX5_addGang rfl ⟨rfl, rfl⟩ ⟨(Nat.le_of_ble_eq_true rfl), (Nat.le_of_ble_eq_true rfl)⟩ h26.2 (by decide) rfl rfl (Nat.le_of_ble_eq_true rfl) ⟨(Nat.le_of_ble_eq_true rfl), (Nat.le_of_ble_eq_true rfl)⟩ dX4_oneGang_96 (fun b35 => ?_)
          refine x_aload_n hC dX4_oneGang_99 rfl 3 rfl ?_
          refine x_iconst hC (0 : Int32) dX4_oneGang_100 (by decide) ?_
          obtain ⟨x36, M37, q38, hr⟩ := bd2_s hr
          refine x_callV (ci := 7) (q := (RX4, TX4, 7)) (As := [.int (0 : Int32)]) hC ((c_P4 l G 100).1 hi0 (0 : Int32) q38) kc_yX4_block km_X4_102 ki_yX4_block kv_yX4_block kn_RX4 ky_yX4_block rfl ⟨rfl, rfl⟩ ⟨(Nat.le_of_ble_eq_true rfl), (Nat.le_of_ble_eq_true rfl)⟩ hi0 (by decide) rfl rfl (Nat.le_of_ble_eq_true rfl) ⟨(Nat.le_of_ble_eq_true rfl), (Nat.le_of_ble_eq_true rfl)⟩ dX4_oneGang_101 (fun b39 => ?_)
          refine x_if_eq hC 124 dX4_oneGang_104 (by decide) (fun h40 => ?_) (fun h40 => ?_)
          · have hr := (ie_s hr).1 h40
            refine x_iconst hC (0 : Int32) dX4_oneGang_124 (by decide) ?_
            cases hr
            exact x_zret hC rfl (Or.inl rfl) dX4_oneGang_125
          · have hr := (ie_s hr).2 h40
            refine x_aload_n hC dX4_oneGang_107 rfl 3 rfl ?_
            obtain ⟨h41, hr⟩ := it_s hr
            refine gf_X4_25 hC hi0 h41 dX4_oneGang_108 ?_
            refine x_bipush hC (39 : Int32) dX4_oneGang_111 (by decide) ?_
            refine x_iconst hC (0 : Int32) dX4_oneGang_113 (by decide) ?_
            obtain ⟨x42, M43, q44, hr⟩ := bd2_s hr
            refine x_callV (ci := 2) (q := (RX5, TX5, 7)) (As := [.int (39 : Int32), .int (0 : Int32)]) hC (c_X5_emit l G M37 h41.2 (39 : Int32) (0 : Int32) q44) kc_yX5_emit km_X4_107 ki_yX5_emit kv_yX5_emit kn_RX5 ky_yX5_emit rfl ⟨rfl, rfl⟩ ⟨(Nat.le_of_ble_eq_true rfl), (Nat.le_of_ble_eq_true rfl)⟩ h41.2 (by decide) rfl rfl (Nat.le_of_ble_eq_true rfl) ⟨(Nat.le_of_ble_eq_true rfl), (Nat.le_of_ble_eq_true rfl)⟩ dX4_oneGang_114 (fun b45 => ?_)
            refine x_if_eq hC 124 dX4_oneGang_117 (by decide) (fun h46 => ?_) (fun h46 => ?_)
            · have hr := (ie_s hr).1 h46
              refine x_iconst hC (0 : Int32) dX4_oneGang_124 (by decide) ?_
              cases hr
              exact x_zret hC rfl (Or.inl rfl) dX4_oneGang_125
            · have hr := (ie_s hr).2 h46
              refine x_iconst hC (1 : Int32) dX4_oneGang_120 (by decide) ?_
              refine x_goto hC 125 dX4_oneGang_121 (by decide) ?_
              cases hr
              exact x_zret hC rfl (Or.inr rfl) dX4_oneGang_125
        · have hr := (ie_s hr).1 h25
          refine x_iconst hC (0 : Int32) dX4_oneGang_74 (by decide) ?_
          cases hr
          exact x_zret hC rfl (Or.inl rfl) dX4_oneGang_75
      · have hr := (ie_s hr).1 h20
        refine x_iconst hC (0 : Int32) dX4_oneGang_58 (by decide) ?_
        cases hr
        exact x_zret hC rfl (Or.inl rfl) dX4_oneGang_59
    · have hr := (ie_s hr).1 h15
      refine x_iconst hC (0 : Int32) dX4_oneGang_42 (by decide) ?_
      cases hr
      exact x_zret hC rfl (Or.inl rfl) dX4_oneGang_43
  · have hr := (ie_s hr).1 h7
    refine x_iconst hC (0 : Int32) dX4_oneGang_25 (by decide) ?_
    cases hr
    exact x_zret hC rfl (Or.inl rfl) dX4_oneGang_26

theorem dX4_parse_0 : decode cX4_parse 0 = .ok (.aload_n 0, 1) := by decide +kernel
theorem dX4_parse_1 : decode cX4_parse 1 = .ok (.getfield 12, 3) := by decide +kernel
theorem dX4_parse_4 : decode cX4_parse 4 = .ok (.aload_n 1, 1) := by decide +kernel
theorem dX4_parse_5 : decode cX4_parse 5 = .ok (.iload_n 2, 1) := by decide +kernel
theorem dX4_parse_6 : decode cX4_parse 6 = .ok (.invokevirtual 36, 3) := by decide +kernel
theorem dX4_parse_9 : decode cX4_parse 9 = .ok (.aload_n 0, 1) := by decide +kernel
theorem dX4_parse_10 : decode cX4_parse 10 = .ok (.aload_n 3, 1) := by decide +kernel
theorem dX4_parse_11 : decode cX4_parse 11 = .ok (.putfield 25, 3) := by decide +kernel
theorem dX4_parse_14 : decode cX4_parse 14 = .ok (.aload_n 0, 1) := by decide +kernel
theorem dX4_parse_15 : decode cX4_parse 15 = .ok (.getfield 25, 3) := by decide +kernel
theorem dX4_parse_18 : decode cX4_parse 18 = .ok (.invokevirtual 40, 3) := by decide +kernel
theorem dX4_parse_21 : decode cX4_parse 21 = .ok (.aload_n 0, 1) := by decide +kernel
theorem dX4_parse_22 : decode cX4_parse 22 = .ok (.iconst 0, 1) := by decide +kernel
theorem dX4_parse_23 : decode cX4_parse 23 = .ok (.putfield 43, 3) := by decide +kernel
theorem dX4_parse_26 : decode cX4_parse 26 = .ok (.aload_n 0, 1) := by decide +kernel
theorem dX4_parse_27 : decode cX4_parse 27 = .ok (.iconst 0, 1) := by decide +kernel
theorem dX4_parse_28 : decode cX4_parse 28 = .ok (.putfield 46, 3) := by decide +kernel
theorem dX4_parse_31 : decode cX4_parse 31 = .ok (.aload_n 0, 1) := by decide +kernel
theorem dX4_parse_32 : decode cX4_parse 32 = .ok (.iconst 0, 1) := by decide +kernel
theorem dX4_parse_33 : decode cX4_parse 33 = .ok (.putfield 29, 3) := by decide +kernel
theorem dX4_parse_36 : decode cX4_parse 36 = .ok (.aload_n 0, 1) := by decide +kernel
theorem dX4_parse_37 : decode cX4_parse 37 = .ok (.iconst (-1), 1) := by decide +kernel
theorem dX4_parse_38 : decode cX4_parse 38 = .ok (.putfield 33, 3) := by decide +kernel
theorem dX4_parse_41 : decode cX4_parse 41 = .ok (.iconst 1, 1) := by decide +kernel
theorem dX4_parse_42 : decode cX4_parse 42 = .ok (.istore 4, 2) := by decide +kernel
theorem dX4_parse_44 : decode cX4_parse 44 = .ok (.iconst 0, 1) := by decide +kernel
theorem dX4_parse_45 : decode cX4_parse 45 = .ok (.istore 5, 2) := by decide +kernel
theorem dX4_parse_47 : decode cX4_parse 47 = .ok (.iload 5, 2) := by decide +kernel
theorem dX4_parse_49 : decode cX4_parse 49 = .ok (.sipush 400, 3) := by decide +kernel
theorem dX4_parse_52 : decode cX4_parse 52 = .ok (.if_icmp .ge 30, 3) := by decide +kernel
theorem dX4_parse_55 : decode cX4_parse 55 = .ok (.iload 4, 2) := by decide +kernel
theorem dX4_parse_57 : decode cX4_parse 57 = .ok (.ifCond .eq 25, 3) := by decide +kernel
theorem dX4_parse_60 : decode cX4_parse 60 = .ok (.aload_n 0, 1) := by decide +kernel
theorem dX4_parse_61 : decode cX4_parse 61 = .ok (.invokevirtual 49, 3) := by decide +kernel
theorem dX4_parse_64 : decode cX4_parse 64 = .ok (.getstatic 53, 3) := by decide +kernel
theorem dX4_parse_67 : decode cX4_parse 67 = .ok (.if_acmp .ne 15, 3) := by decide +kernel
theorem dX4_parse_70 : decode cX4_parse 70 = .ok (.aload_n 0, 1) := by decide +kernel
theorem dX4_parse_71 : decode cX4_parse 71 = .ok (.invokevirtual 59, 3) := by decide +kernel
theorem dX4_parse_74 : decode cX4_parse 74 = .ok (.istore 4, 2) := by decide +kernel
theorem dX4_parse_76 : decode cX4_parse 76 = .ok (.iinc 5 1, 3) := by decide +kernel
theorem dX4_parse_79 : decode cX4_parse 79 = .ok (.goto (-32), 3) := by decide +kernel
theorem dX4_parse_82 : decode cX4_parse 82 = .ok (.iload 4, 2) := by decide +kernel
theorem dX4_parse_84 : decode cX4_parse 84 = .ok (.ifCond .eq 18, 3) := by decide +kernel
theorem dX4_parse_87 : decode cX4_parse 87 = .ok (.aload_n 0, 1) := by decide +kernel
theorem dX4_parse_88 : decode cX4_parse 88 = .ok (.invokevirtual 49, 3) := by decide +kernel
theorem dX4_parse_91 : decode cX4_parse 91 = .ok (.getstatic 63, 3) := by decide +kernel
theorem dX4_parse_94 : decode cX4_parse 94 = .ok (.if_acmp .eq 8, 3) := by decide +kernel
theorem dX4_parse_97 : decode cX4_parse 97 = .ok (.aload_n 0, 1) := by decide +kernel
theorem dX4_parse_98 : decode cX4_parse 98 = .ok (.invokevirtual 66, 3) := by decide +kernel
theorem dX4_parse_101 : decode cX4_parse 101 = .ok (.pop, 1) := by decide +kernel
theorem dX4_parse_102 : decode cX4_parse 102 = .ok (.return_, 1) := by decide +kernel
def f_X4_parse_L47 (i0 : Nat) (i1 : Nat) (i3 : Nat) : Nat → Int32 → Int32 → Mm → Option (Int32 × Mm)
  | 0, _, _, _ => none
  | n + 1, v4, v5, M =>
    if ((400 : Int32) ≤ v5) then (some (v4, M)) else (if (v4 = 0) then (some (v4, M)) else (bd1 (f_X4_kind i0 M) fun x20 => if tkc x20 then (if (x20 = (1001 : Int32)) then (bd2 (f_X4_oneGang i0 M) fun x25 M26 => lz (v5 + (1 : Int32)) fun x29 => f_X4_parse_L47 i0 i1 i3 n x25 x29 M26) else (some (v4, M))) else none))
def f_X4_parse (i0 : Nat) (i1 : Nat) (a2 : Int32) (i3 : Nat) (M : Mm) : Option Mm :=
  bd1 (f_X6_scan (i0 + 1) i1 a2 M) fun M1 => lz (wr M1 i0 3 (nI (i3 + 1))) fun M4 => if okr 2 (M4 i0 3) then (bd1 (f_X5_clear (rid (M4 i0 3)) M4) fun M7 => lz (wr M7 i0 4 (0 : Int32)) fun M10 => lz (wr M10 i0 2 (0 : Int32)) fun M12 => lz (wr M12 i0 5 (0 : Int32)) fun M14 => lz (wr M14 i0 6 (-1 : Int32)) fun M16 => bd2 (f_X4_parse_L47 i0 i1 i3 FU (1 : Int32) (0 : Int32) M16) fun x32 M33 => if (x32 = 0) then (some M33) else (bd1 (f_X4_kind i0 M33) fun x35 => if tkc x35 then (if (x35 = (1050 : Int32)) then (some M33) else (bd2 (f_X4_refuse i0 M33) fun x40 M41 => some M41)) else none)) else none
set_option maxHeartbeats 4000000 in
set_option maxRecDepth 100000 in
theorem l_X4_parse_L47 {p : Program} {e : Env} {s : State} {m : MethodId} {args : Array Value} {below : List Frame} {meth : Method} {c : Code} {l : Launch} {G : GG} {Q : State → Prop} (hC : CX p s m args meth c cX4_parse 6 RX4 none G) {i0 : Nat} {i1 : Nat} {i3 : Nat} (hi0 : (kd i0).1 = 7) (hi1 : kd i1 = (21, 2000)) (hi3 : (kd i3).1 = 2) : ∀ (n : Nat) (v4 : Int32) (v5 : Int32) (M : Mm) {o4 : Int32} {M2 : Mm} (hr : f_X4_parse_L47 i0 i1 i3 n v4 v5 M = some (o4, M2)) (K : XJ p l e (RM 122 0 0 5045) s m args below meth c G 6 Q 0 0 M2 82 [(0, .ref (G.2.1 i0)), (4, .int o4)] []), XJ p l e (RM 122 0 0 5045) s m args below meth c G 6 Q 0 0 M 47 [(0, .ref (G.2.1 i0)), (4, .int v4), (5, .int v5)] [] := by
  intro n
  induction n with
  | zero => intro v4 v5 M o4 M2 hr K; rw [f_X4_parse_L47] at hr; cases hr
  | succ n ih =>
    intro v4 v5 M o4 M2 hr K
    rw [f_X4_parse_L47] at hr
    refine x_iload hC dX4_parse_47 2 rfl ?_
    refine x_sipush hC (400 : Int32) dX4_parse_49 (by decide) ?_
    refine x_icmp_ge hC 82 dX4_parse_52 (by decide) (fun h18 => ?_) (fun h18 => ?_)
    · have hr := (ie_s hr).1 h18
      cases hr
      exact x_sub [0, 1] rfl K
    · have hr := (ie_s hr).2 h18
      refine x_iload hC dX4_parse_55 1 rfl ?_
      refine x_if_eq hC 82 dX4_parse_57 (by decide) (fun h19 => ?_) (fun h19 => ?_)
      · have hr := (ie_s hr).1 h19
        cases hr
        exact x_sub [0, 1] rfl K
      · have hr := (ie_s hr).2 h19
        refine x_aload_n hC dX4_parse_60 rfl 0 rfl ?_
        obtain ⟨x20, q21, hr⟩ := bd1_s hr
        refine x_callV (ci := 7) (q := (RX4, TX4, 7)) (As := []) hC (c_X4_kind l G M hi0 q21) kc_yX4_kind km_X4_49 ki_yX4_kind kv_yX4_kind kn_RX4 ky_yX4_kind rfl ⟨rfl, rfl⟩ ⟨(Nat.le_of_ble_eq_true rfl), (Nat.le_of_ble_eq_true rfl)⟩ hi0 (by decide) rfl rfl (Nat.le_of_ble_eq_true rfl) ⟨(Nat.le_of_ble_eq_true rfl), (Nat.le_of_ble_eq_true rfl)⟩ dX4_parse_61 (fun b22 => ?_)
        refine x_tgets hC (a := (1001 : Int32)) 0 (by decide) rfl (by decide) kf_X4_53 dX4_parse_64 ?_
        obtain ⟨h23, hr⟩ := it_s hr
        refine x_acmp_ne hC 82 ⟨h23, (by decide)⟩ dX4_parse_67 (by decide) (fun h24 => ?_) (fun h24 => ?_)
        · have hr := (ie_s hr).2 h24
          cases hr
          exact x_sub [0, 1] rfl K
        · have hr := (ie_s hr).1 h24
          refine x_aload_n hC dX4_parse_70 rfl 0 rfl ?_
          obtain ⟨x25, M26, q27, hr⟩ := bd2_s hr
          refine x_callV (ci := 7) (q := (RX4, TX4, 7)) (As := []) hC (c_X4_oneGang l G M hi0 q27) kc_yX4_oneGang km_X4_59 ki_yX4_oneGang kv_yX4_oneGang kn_RX4 ky_yX4_oneGang rfl ⟨rfl, rfl⟩ ⟨(Nat.le_of_ble_eq_true rfl), (Nat.le_of_ble_eq_true rfl)⟩ hi0 (by decide) rfl rfl (Nat.le_of_ble_eq_true rfl) ⟨(Nat.le_of_ble_eq_true rfl), (Nat.le_of_ble_eq_true rfl)⟩ dX4_parse_71 (fun b28 => ?_)
          refine x_istore hC [(4, .int x25), (0, .ref (G.2.1 i0)), (5, .int v5)] dX4_parse_74  (Nat.le_of_ble_eq_true rfl) rfl ?_
          obtain ⟨x29, e30, hr⟩ := lz_s hr
          refine x_iinc hC [(5, .int x29), (4, .int x25), (0, .ref (G.2.1 i0))] dX4_parse_76 2 rfl (by rw [e30]; rfl) (Nat.le_of_ble_eq_true rfl) rfl ?_
          refine x_goto hC 47 dX4_parse_79 (by decide) ?_
          exact x_sub [2, 1, 0] rfl (ih x25 x29 M26 hr K)
set_option maxHeartbeats 4000000 in
set_option maxRecDepth 100000 in
theorem c_X4_parse (l : Launch) (G : GG) (M : Mm) {i0 : Nat} (hi0 : (kd i0).1 = 7) {i1 : Nat} (hi1 : kd i1 = (21, 2000)) (a2 : Int32) {i3 : Nat} (hi3 : (kd i3).1 = 2) {M9 : Mm} (hr : f_X4_parse i0 i1 a2 i3 M = some M9) : Mo false l yX4_parse (WS yX4_parse cX4_parse 6 none) (RM 122 0 0 5045) 0 0 [.ref (G.2.1 i0), .ref (G.2.1 i1), .int a2, .ref (G.2.1 i3)] G M none M9 := by
  refine Mo.of (by decide +kernel) (Nat.le_of_ble_eq_true rfl) ?_
  intro p e s m args below meth c hC
  have hC : CX p s m args meth c cX4_parse 6 RX4 none G := hC
  rw [f_X4_parse] at hr
  show XJ p l e (RM 122 0 0 5045) s m args below meth c G 6 _ 0 0 M 0 [(0, .ref (G.2.1 i0)), (1, .ref (G.2.1 i1)), (2, .int a2), (3, .ref (G.2.1 i3))] []
  refine x_aload_n hC dX4_parse_0 rfl 0 rfl ?_
  refine gf_X4_12 hC hi0 dX4_parse_1 ?_
  refine x_aload_n hC dX4_parse_4 rfl 1 rfl ?_
  refine x_iload_n hC dX4_parse_5 rfl 2 rfl ?_
  obtain ⟨M1, q2, hr⟩ := bd1_s hr
  refine x_callV (ci := 8) (q := (RX6, TX6, 5)) (As := [.ref (G.2.1 i1), .int a2]) hC (c_X6_scan l G M (kr_7_0 hi0) hi1 a2 q2) kc_yX6_scan km_X4_36 ki_yX6_scan kv_yX6_scan kn_RX6 ky_yX6_scan rfl ⟨rfl, rfl⟩ ⟨(Nat.le_of_ble_eq_true rfl), (Nat.le_of_ble_eq_true rfl)⟩ (kr_7_0 hi0) (by decide) rfl rfl (Nat.le_of_ble_eq_true rfl) ⟨(Nat.le_of_ble_eq_true rfl), (Nat.le_of_ble_eq_true rfl)⟩ dX4_parse_6 (fun b3 => ?_)
  refine x_aload_n hC dX4_parse_9 rfl 0 rfl ?_
  refine x_aload_n hC dX4_parse_10 rfl 3 rfl ?_
  obtain ⟨M4, e5, hr⟩ := lz_s hr
  refine pf_X4_25 hC hi0 (kd_lt hi3) e5 dX4_parse_11 ?_
  refine x_aload_n hC dX4_parse_14 rfl 0 rfl ?_
  obtain ⟨h6, hr⟩ := it_s hr
  refine gf_X4_25 hC hi0 h6 dX4_parse_15 ?_
  obtain ⟨M7, q8, hr⟩ := bd1_s hr
  refine x_callV (ci := 2) (q := (RX5, TX5, 7)) (As := []) hC (c_X5_clear l G M4 h6.2 q8) kc_yX5_clear km_X4_40 ki_yX5_clear kv_yX5_clear kn_RX5 ky_yX5_clear rfl ⟨rfl, rfl⟩ ⟨(Nat.le_of_ble_eq_true rfl), (Nat.le_of_ble_eq_true rfl)⟩ h6.2 (by decide) rfl rfl (Nat.le_of_ble_eq_true rfl) ⟨(Nat.le_of_ble_eq_true rfl), (Nat.le_of_ble_eq_true rfl)⟩ dX4_parse_18 (fun b9 => ?_)
  refine x_aload_n hC dX4_parse_21 rfl 0 rfl ?_
  refine x_iconst hC (0 : Int32) dX4_parse_22 (by decide) ?_
  obtain ⟨M10, e11, hr⟩ := lz_s hr
  refine pf_X4_43 hC hi0 e11 dX4_parse_23 ?_
  refine x_aload_n hC dX4_parse_26 rfl 0 rfl ?_
  refine x_iconst hC (0 : Int32) dX4_parse_27 (by decide) ?_
  obtain ⟨M12, e13, hr⟩ := lz_s hr
  refine pf_X4_46 hC hi0 e13 dX4_parse_28 ?_
  refine x_aload_n hC dX4_parse_31 rfl 0 rfl ?_
  refine x_iconst hC (0 : Int32) dX4_parse_32 (by decide) ?_
  obtain ⟨M14, e15, hr⟩ := lz_s hr
  refine pf_X4_29 hC hi0 e15 dX4_parse_33 ?_
  refine x_aload_n hC dX4_parse_36 rfl 0 rfl ?_
  refine x_iconst hC (-1 : Int32) dX4_parse_37 (by decide) ?_
  obtain ⟨M16, e17, hr⟩ := lz_s hr
  refine pf_X4_33 hC hi0 e17 dX4_parse_38 ?_
  refine x_iconst hC (1 : Int32) dX4_parse_41 (by decide) ?_
  refine x_istore hC [(4, .int (1 : Int32)), (0, .ref (G.2.1 i0)), (1, .ref (G.2.1 i1)), (2, .int a2), (3, .ref (G.2.1 i3))] dX4_parse_42  (Nat.le_of_ble_eq_true rfl) rfl ?_
  refine x_iconst hC (0 : Int32) dX4_parse_44 (by decide) ?_
  refine x_istore hC [(5, .int (0 : Int32)), (4, .int (1 : Int32)), (0, .ref (G.2.1 i0)), (1, .ref (G.2.1 i1)), (2, .int a2), (3, .ref (G.2.1 i3))] dX4_parse_45  (Nat.le_of_ble_eq_true rfl) rfl ?_
  obtain ⟨x32, M33, q31, hr⟩ := bd2_s hr
  refine x_sub [2, 1, 0] rfl (l_X4_parse_L47 hC hi0 hi1 hi3 FU  (1 : Int32) (0 : Int32) M16 q31 ?_)
  refine x_iload hC dX4_parse_82 1 rfl ?_
  refine x_if_eq hC 102 dX4_parse_84 (by decide) (fun h34 => ?_) (fun h34 => ?_)
  · have hr := (ie_s hr).1 h34
    cases hr
    exact x_vret hC rfl dX4_parse_102
  · have hr := (ie_s hr).2 h34
    refine x_aload_n hC dX4_parse_87 rfl 0 rfl ?_
    obtain ⟨x35, q36, hr⟩ := bd1_s hr
    refine x_callV (ci := 7) (q := (RX4, TX4, 7)) (As := []) hC (c_X4_kind l G M33 hi0 q36) kc_yX4_kind km_X4_49 ki_yX4_kind kv_yX4_kind kn_RX4 ky_yX4_kind rfl ⟨rfl, rfl⟩ ⟨(Nat.le_of_ble_eq_true rfl), (Nat.le_of_ble_eq_true rfl)⟩ hi0 (by decide) rfl rfl (Nat.le_of_ble_eq_true rfl) ⟨(Nat.le_of_ble_eq_true rfl), (Nat.le_of_ble_eq_true rfl)⟩ dX4_parse_88 (fun b37 => ?_)
    refine x_tgets hC (a := (1050 : Int32)) 49 (by decide) rfl (by decide) kf_X4_63 dX4_parse_91 ?_
    obtain ⟨h38, hr⟩ := it_s hr
    refine x_acmp_eq hC 102 ⟨h38, (by decide)⟩ dX4_parse_94 (by decide) (fun h39 => ?_) (fun h39 => ?_)
    · have hr := (ie_s hr).1 h39
      cases hr
      exact x_vret hC rfl dX4_parse_102
    · have hr := (ie_s hr).2 h39
      refine x_aload_n hC dX4_parse_97 rfl 0 rfl ?_
      obtain ⟨x40, M41, q42, hr⟩ := bd2_s hr
      refine x_callV (ci := 7) (q := (RX4, TX4, 7)) (As := []) hC (c_X4_refuse l G M33 hi0 q42) kc_yX4_refuse km_X4_66 ki_yX4_refuse kv_yX4_refuse kn_RX4 ky_yX4_refuse rfl ⟨rfl, rfl⟩ ⟨(Nat.le_of_ble_eq_true rfl), (Nat.le_of_ble_eq_true rfl)⟩ hi0 (by decide) rfl rfl (Nat.le_of_ble_eq_true rfl) ⟨(Nat.le_of_ble_eq_true rfl), (Nat.le_of_ble_eq_true rfl)⟩ dX4_parse_98 (fun b43 => ?_)
      refine x_pop hC dX4_parse_101 rfl ?_
      cases hr
      exact x_vret hC rfl dX4_parse_102

theorem dX9_teach_0 : decode cX9_teach 0 = .ok (.aload_n 0, 1) := by decide +kernel
theorem dX9_teach_1 : decode cX9_teach 1 = .ok (.getfield 29, 3) := by decide +kernel
theorem dX9_teach_4 : decode cX9_teach 4 = .ok (.aload_n 0, 1) := by decide +kernel
theorem dX9_teach_5 : decode cX9_teach 5 = .ok (.getfield 9, 3) := by decide +kernel
theorem dX9_teach_8 : decode cX9_teach 8 = .ok (.aload_n 0, 1) := by decide +kernel
theorem dX9_teach_9 : decode cX9_teach 9 = .ok (.getfield 13, 3) := by decide +kernel
theorem dX9_teach_12 : decode cX9_teach 12 = .ok (.aload_n 0, 1) := by decide +kernel
theorem dX9_teach_13 : decode cX9_teach 13 = .ok (.getfield 36, 3) := by decide +kernel
theorem dX9_teach_16 : decode cX9_teach 16 = .ok (.invokevirtual 83, 3) := by decide +kernel
theorem dX9_teach_19 : decode cX9_teach 19 = .ok (.aload_n 0, 1) := by decide +kernel
theorem dX9_teach_20 : decode cX9_teach 20 = .ok (.iconst 0, 1) := by decide +kernel
theorem dX9_teach_21 : decode cX9_teach 21 = .ok (.putfield 13, 3) := by decide +kernel
theorem dX9_teach_24 : decode cX9_teach 24 = .ok (.aload_n 0, 1) := by decide +kernel
theorem dX9_teach_25 : decode cX9_teach 25 = .ok (.aload_n 0, 1) := by decide +kernel
theorem dX9_teach_26 : decode cX9_teach 26 = .ok (.getfield 29, 3) := by decide +kernel
theorem dX9_teach_29 : decode cX9_teach 29 = .ok (.getfield 87, 3) := by decide +kernel
theorem dX9_teach_32 : decode cX9_teach 32 = .ok (.putfield 23, 3) := by decide +kernel
theorem dX9_teach_35 : decode cX9_teach 35 = .ok (.aload_n 0, 1) := by decide +kernel
theorem dX9_teach_36 : decode cX9_teach 36 = .ok (.getfield 29, 3) := by decide +kernel
theorem dX9_teach_39 : decode cX9_teach 39 = .ok (.getfield 88, 3) := by decide +kernel
theorem dX9_teach_42 : decode cX9_teach 42 = .ok (.ifCond .ne 27, 3) := by decide +kernel
theorem dX9_teach_45 : decode cX9_teach 45 = .ok (.aload_n 0, 1) := by decide +kernel
theorem dX9_teach_46 : decode cX9_teach 46 = .ok (.getfield 45, 3) := by decide +kernel
theorem dX9_teach_49 : decode cX9_teach 49 = .ok (.getfield 58, 3) := by decide +kernel
theorem dX9_teach_52 : decode cX9_teach 52 = .ok (.astore_n 1, 1) := by decide +kernel
theorem dX9_teach_53 : decode cX9_teach 53 = .ok (.aload_n 0, 1) := by decide +kernel
theorem dX9_teach_54 : decode cX9_teach 54 = .ok (.getfield 45, 3) := by decide +kernel
theorem dX9_teach_57 : decode cX9_teach 57 = .ok (.aload_n 0, 1) := by decide +kernel
theorem dX9_teach_58 : decode cX9_teach 58 = .ok (.getfield 36, 3) := by decide +kernel
theorem dX9_teach_61 : decode cX9_teach 61 = .ok (.invokevirtual 91, 3) := by decide +kernel
theorem dX9_teach_64 : decode cX9_teach 64 = .ok (.aload_n 0, 1) := by decide +kernel
theorem dX9_teach_65 : decode cX9_teach 65 = .ok (.aload_n 1, 1) := by decide +kernel
theorem dX9_teach_66 : decode cX9_teach 66 = .ok (.putfield 36, 3) := by decide +kernel
theorem dX9_teach_69 : decode cX9_teach 69 = .ok (.aload_n 0, 1) := by decide +kernel
theorem dX9_teach_70 : decode cX9_teach 70 = .ok (.getfield 29, 3) := by decide +kernel
theorem dX9_teach_73 : decode cX9_teach 73 = .ok (.getfield 88, 3) := by decide +kernel
theorem dX9_teach_76 : decode cX9_teach 76 = .ok (.ireturn, 1) := by decide +kernel

def f_X9_teach (i0 : Nat) (M : Mm) : Option (Int32 × Mm) :=
  if okr 2 (M i0 6) then (bd1 (f_X4_parse (i0 + 3) (i0 + 1) (M i0 1) (rid (M i0 6)) M) fun M2 => lz (wr M2 i0 1 (0 : Int32)) fun M5 => lz (wr M5 i0 4 (M5 (i0 + 3) 6)) fun M7 => bd1 (if ((M7 (i0 + 3) 5) = 0) then (if okr 2 (M7 (i0 + 29) 16) then (if okr 2 (M7 i0 6) then (bd1 (f_X1_employ (i0 + 29) (rid (M7 i0 6)) M7) fun M13 => lz (wr M13 i0 6 (nI ((rid (M7 (i0 + 29) 16)) + 1))) fun M16 => some (M16)) else none) else none) else (some (M7))) fun M18 => some ((M18 (i0 + 3) 5), M18)) else none

set_option maxHeartbeats 4000000 in
set_option maxRecDepth 100000 in
theorem c_X9_teach (l : Launch) (G : GG) (M : Mm) {i0 : Nat} (hi0 : (kd i0).1 = 6) {r : Int32} {M9 : Mm} (hr : f_X9_teach i0 M = some (r, M9)) : Mo false l yX9_teach (WS yX9_teach cX9_teach 2 (some .int)) (RM 123 0 0 5070) 0 0 [.ref (G.2.1 i0)] G M (some (.int r)) M9 := by
  refine Mo.of (by decide +kernel) (Nat.le_of_ble_eq_true rfl) ?_
  intro p e s m args below meth c hC
  have hC : CX p s m args meth c cX9_teach 2 RX9 (some .int) G := hC
  rw [f_X9_teach] at hr
  show XJ p l e (RM 123 0 0 5070) s m args below meth c G 2 _ 0 0 M 0 [(0, .ref (G.2.1 i0))] []
  refine x_aload_n hC dX9_teach_0 rfl 0 rfl ?_
  refine gf_X9_29 hC hi0 dX9_teach_1 ?_
  refine x_aload_n hC dX9_teach_4 rfl 0 rfl ?_
  refine gf_X9_9 hC hi0 dX9_teach_5 ?_
  refine x_aload_n hC dX9_teach_8 rfl 0 rfl ?_
  refine gf_X9_13 hC hi0 dX9_teach_9 ?_
  refine x_aload_n hC dX9_teach_12 rfl 0 rfl ?_
  obtain ⟨h1, hr⟩ := it_s hr
  refine gf_X9_36 hC hi0 h1 dX9_teach_13 ?_
  obtain ⟨M2, q3, hr⟩ := bd1_s hr
  refine x_callV (ci := 7) (q := (RX4, TX4, 7)) (As := [.ref (G.2.1 (i0 + 1)), .int (M i0 1), .ref (G.2.1 (rid (M i0 6)))]) hC (c_X4_parse l G M (kr_6_5 hi0) (kr_6_0 hi0) (M i0 1) h1.2 q3) kc_yX4_parse km_X9_83 ki_yX4_parse kv_yX4_parse kn_RX4 ky_yX4_parse rfl ⟨rfl, rfl⟩ ⟨(Nat.le_of_ble_eq_true rfl), (Nat.le_of_ble_eq_true rfl)⟩ (kr_6_5 hi0) (by decide) rfl rfl (Nat.le_of_ble_eq_true rfl) ⟨(Nat.le_of_ble_eq_true rfl), (Nat.le_of_ble_eq_true rfl)⟩ dX9_teach_16 (fun b4 => ?_)
  refine x_aload_n hC dX9_teach_19 rfl 0 rfl ?_
  refine x_iconst hC (0 : Int32) dX9_teach_20 (by decide) ?_
  obtain ⟨M5, e6, hr⟩ := lz_s hr
  refine pf_X9_13 hC hi0 e6 dX9_teach_21 ?_
  refine x_aload_n hC dX9_teach_24 rfl 0 rfl ?_
  refine x_aload_n hC dX9_teach_25 rfl 0 rfl ?_
  refine gf_X9_29 hC hi0 dX9_teach_26 ?_
  refine gf_X9_87 hC (kr_6_5 hi0) dX9_teach_29 ?_
  obtain ⟨M7, e8, hr⟩ := lz_s hr
  refine pf_X9_23 hC hi0 e8 dX9_teach_32 ?_
  refine x_aload_n hC dX9_teach_35 rfl 0 rfl ?_
  refine gf_X9_29 hC hi0 dX9_teach_36 ?_
  refine gf_X9_88 hC (kr_6_5 hi0) dX9_teach_39 ?_
  obtain ⟨M18, q9, hr⟩ := bd1_s hr
  refine x_join (M' := M18) (pc' := 69) (lv' := [(0, .ref (G.2.1 i0))]) (st' := []) ?_ ?_
  · refine x_aload_n hC dX9_teach_69 rfl 0 rfl ?_
    refine gf_X9_29 hC hi0 dX9_teach_70 ?_
    refine gf_X9_88 hC (kr_6_5 hi0) dX9_teach_73 ?_
    cases hr
    exact x_iret hC rfl dX9_teach_76
  · intro kj
    refine x_if_ne hC 69 dX9_teach_42 (by decide) (fun h10 => ?_) (fun h10 => ?_)
    · have q9 := (ie_s q9).2 h10
      cases q9
      exact x_sub [0] rfl kj
    · have q9 := (ie_s q9).1 h10
      refine x_aload_n hC dX9_teach_45 rfl 0 rfl ?_
      refine gf_X9_45 hC hi0 dX9_teach_46 ?_
      obtain ⟨h11, q9⟩ := it_s q9
      refine gf_X9_58 hC (kr_6_7 hi0) h11 dX9_teach_49 ?_
      refine x_astore_n hC [(1, .ref (G.2.1 (rid (M7 (i0 + 29) 16)))), (0, .ref (G.2.1 i0))] dX9_teach_52 rfl (Nat.le_of_ble_eq_true rfl) rfl ?_
      refine x_aload_n hC dX9_teach_53 rfl 1 rfl ?_
      refine gf_X9_45 hC hi0 dX9_teach_54 ?_
      refine x_aload_n hC dX9_teach_57 rfl 1 rfl ?_
      obtain ⟨h12, q9⟩ := it_s q9
      refine gf_X9_36 hC hi0 h12 dX9_teach_58 ?_
      obtain ⟨M13, q14, q9⟩ := bd1_s q9
      refine x_callV (ci := 0) (q := (RX1, TX1, 17)) (As := [.ref (G.2.1 (rid (M7 i0 6)))]) hC (c_X1_employ l G M7 (kr_6_7 hi0) h12.2 q14) kc_yX1_employ km_X9_91 ki_yX1_employ kv_yX1_employ kn_RX1 ky_yX1_employ rfl ⟨rfl, rfl⟩ ⟨(Nat.le_of_ble_eq_true rfl), (Nat.le_of_ble_eq_true rfl)⟩ (kr_6_7 hi0) (by decide) rfl rfl (Nat.le_of_ble_eq_true rfl) ⟨(Nat.le_of_ble_eq_true rfl), (Nat.le_of_ble_eq_true rfl)⟩ dX9_teach_61 (fun b15 => ?_)
      refine x_aload_n hC dX9_teach_64 rfl 1 rfl ?_
      refine x_aload_n hC dX9_teach_65 rfl 0 rfl ?_
      obtain ⟨M16, e17, q9⟩ := lz_s q9
      refine pf_X9_36 hC hi0 (kd_lt h11.2) e17 dX9_teach_66 ?_
      cases q9
      exact x_sub [1] rfl kj
