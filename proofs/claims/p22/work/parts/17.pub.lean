theorem dX9_feed_0 : decode cX9_feed 0 = .ok (.aload_n 0, 1) := by decide +kernel
theorem dX9_feed_1 : decode cX9_feed 1 = .ok (.getfield 13, 3) := by decide +kernel
theorem dX9_feed_4 : decode cX9_feed 4 = .ok (.bipush 20, 2) := by decide +kernel
theorem dX9_feed_6 : decode cX9_feed 6 = .ok (.iadd, 1) := by decide +kernel
theorem dX9_feed_7 : decode cX9_feed 7 = .ok (.sipush 2000, 3) := by decide +kernel
theorem dX9_feed_10 : decode cX9_feed 10 = .ok (.if_icmp .le 13, 3) := by decide +kernel
theorem dX9_feed_13 : decode cX9_feed 13 = .ok (.new 67, 3) := by decide +kernel
theorem dX9_feed_23 : decode cX9_feed 23 = .ok (.aload_n 0, 1) := by decide +kernel
theorem dX9_feed_24 : decode cX9_feed 24 = .ok (.iload_n 1, 1) := by decide +kernel
theorem dX9_feed_25 : decode cX9_feed 25 = .ok (.invokevirtual 74, 3) := by decide +kernel
theorem dX9_feed_28 : decode cX9_feed 28 = .ok (.aload_n 0, 1) := by decide +kernel
theorem dX9_feed_29 : decode cX9_feed 29 = .ok (.iload_n 2, 1) := by decide +kernel
theorem dX9_feed_30 : decode cX9_feed 30 = .ok (.invokevirtual 74, 3) := by decide +kernel
theorem dX9_feed_33 : decode cX9_feed 33 = .ok (.aload_n 0, 1) := by decide +kernel
theorem dX9_feed_34 : decode cX9_feed 34 = .ok (.iload_n 3, 1) := by decide +kernel
theorem dX9_feed_35 : decode cX9_feed 35 = .ok (.invokevirtual 74, 3) := by decide +kernel
theorem dX9_feed_38 : decode cX9_feed 38 = .ok (.aload_n 0, 1) := by decide +kernel
theorem dX9_feed_39 : decode cX9_feed 39 = .ok (.iload 4, 2) := by decide +kernel
theorem dX9_feed_41 : decode cX9_feed 41 = .ok (.invokevirtual 74, 3) := by decide +kernel
theorem dX9_feed_44 : decode cX9_feed 44 = .ok (.aload_n 0, 1) := by decide +kernel
theorem dX9_feed_45 : decode cX9_feed 45 = .ok (.iload 5, 2) := by decide +kernel
theorem dX9_feed_47 : decode cX9_feed 47 = .ok (.invokevirtual 74, 3) := by decide +kernel
theorem dX9_feed_50 : decode cX9_feed 50 = .ok (.aload_n 0, 1) := by decide +kernel
theorem dX9_feed_51 : decode cX9_feed 51 = .ok (.getfield 13, 3) := by decide +kernel
theorem dX9_feed_54 : decode cX9_feed 54 = .ok (.ireturn, 1) := by decide +kernel

def f_X9_feed (i0 : Nat) (a1 : Int32) (a2 : Int32) (a3 : Int32) (a4 : Int32) (a5 : Int32) (M : Mm) : Option (Int32 × Int32 × Mm) :=
  if (((M i0 1) + (20 : Int32)) ≤ (2000 : Int32)) then (bd1 (f_X9_append i0 a1 M) fun M2 => bd1 (f_X9_append i0 a2 M2) fun M5 => bd1 (f_X9_append i0 a3 M5) fun M8 => bd1 (f_X9_append i0 a4 M8) fun M11 => bd1 (f_X9_append i0 a5 M11) fun M14 => some ((0 : Int32), (M14 i0 1), M14)) else (some ((1 : Int32), (0 : Int32), M))

set_option maxHeartbeats 4000000 in
set_option maxRecDepth 100000 in
theorem c_X9_feed (l : Launch) (G : GG) (M : Mm) {i0 : Nat} (hi0 : (kd i0).1 = 6) (a1 : Int32) (a2 : Int32) (a3 : Int32) (a4 : Int32) (a5 : Int32) {r : Int32} {M9 : Mm} (hr : f_X9_feed i0 a1 a2 a3 a4 a5 M = some ((0 : Int32), r, M9)) : Mo false l yX9_feed (WS yX9_feed cX9_feed 6 (some .int)) (RM 1 0 0 22) 0 0 [.ref (G.2.1 i0), .int a1, .int a2, .int a3, .int a4, .int a5] G M (some (.int r)) M9 := by
  refine Mo.of (by decide +kernel) (Nat.le_of_ble_eq_true rfl) ?_
  intro p e s m args below meth c hC
  have hC : CX p s m args meth c cX9_feed 6 RX9 (some .int) G := hC
  rw [f_X9_feed] at hr
  show XJ p l e (RM 1 0 0 22) s m args below meth c G 6 _ 0 0 M 0 [(0, .ref (G.2.1 i0)), (1, .int a1), (2, .int a2), (3, .int a3), (4, .int a4), (5, .int a5)] []
  refine x_aload_n hC dX9_feed_0 rfl 0 rfl ?_
  refine gf_X9_13 hC hi0 dX9_feed_1 ?_
  refine x_bipush hC (20 : Int32) dX9_feed_4 (by decide) ?_
  refine x_iadd hC dX9_feed_6 ?_
  refine x_sipush hC (2000 : Int32) dX9_feed_7 (by decide) ?_
  refine x_icmp_le hC 23 dX9_feed_10 (by decide) (fun h1 => ?_) (fun h1 => ?_)
  · have hr := (ie_s hr).1 h1
    refine x_aload_n hC dX9_feed_23 rfl 0 rfl ?_
    refine x_iload_n hC dX9_feed_24 rfl 1 rfl ?_
    obtain ⟨M2, q3, hr⟩ := bd1_s hr
    refine x_callV (ci := 6) (q := (RX9, TX9, 11)) (As := [.int a1]) hC (c_X9_append l G M hi0 a1 q3) kc_yX9_append km_X9_74 ki_yX9_append kv_yX9_append kn_RX9 ky_yX9_append rfl ⟨rfl, rfl⟩ ⟨(Nat.le_of_ble_eq_true rfl), (Nat.le_of_ble_eq_true rfl)⟩ hi0 (by decide) rfl rfl (Nat.le_of_ble_eq_true rfl) ⟨(Nat.le_of_ble_eq_true rfl), (Nat.le_of_ble_eq_true rfl)⟩ dX9_feed_25 (fun b4 => ?_)
    refine x_aload_n hC dX9_feed_28 rfl 0 rfl ?_
    refine x_iload_n hC dX9_feed_29 rfl 2 rfl ?_
    obtain ⟨M5, q6, hr⟩ := bd1_s hr
    refine x_callV (ci := 6) (q := (RX9, TX9, 11)) (As := [.int a2]) hC (c_X9_append l G M2 hi0 a2 q6) kc_yX9_append km_X9_74 ki_yX9_append kv_yX9_append kn_RX9 ky_yX9_append rfl ⟨rfl, rfl⟩ ⟨(Nat.le_of_ble_eq_true rfl), (Nat.le_of_ble_eq_true rfl)⟩ hi0 (by decide) rfl rfl (Nat.le_of_ble_eq_true rfl) ⟨(Nat.le_of_ble_eq_true rfl), (Nat.le_of_ble_eq_true rfl)⟩ dX9_feed_30 (fun b7 => ?_)
    refine x_aload_n hC dX9_feed_33 rfl 0 rfl ?_
    refine x_iload_n hC dX9_feed_34 rfl 3 rfl ?_
    obtain ⟨M8, q9, hr⟩ := bd1_s hr
    refine x_callV (ci := 6) (q := (RX9, TX9, 11)) (As := [.int a3]) hC (c_X9_append l G M5 hi0 a3 q9) kc_yX9_append km_X9_74 ki_yX9_append kv_yX9_append kn_RX9 ky_yX9_append rfl ⟨rfl, rfl⟩ ⟨(Nat.le_of_ble_eq_true rfl), (Nat.le_of_ble_eq_true rfl)⟩ hi0 (by decide) rfl rfl (Nat.le_of_ble_eq_true rfl) ⟨(Nat.le_of_ble_eq_true rfl), (Nat.le_of_ble_eq_true rfl)⟩ dX9_feed_35 (fun b10 => ?_)
    refine x_aload_n hC dX9_feed_38 rfl 0 rfl ?_
    refine x_iload hC dX9_feed_39 4 rfl ?_
    obtain ⟨M11, q12, hr⟩ := bd1_s hr
    refine x_callV (ci := 6) (q := (RX9, TX9, 11)) (As := [.int a4]) hC (c_X9_append l G M8 hi0 a4 q12) kc_yX9_append km_X9_74 ki_yX9_append kv_yX9_append kn_RX9 ky_yX9_append rfl ⟨rfl, rfl⟩ ⟨(Nat.le_of_ble_eq_true rfl), (Nat.le_of_ble_eq_true rfl)⟩ hi0 (by decide) rfl rfl (Nat.le_of_ble_eq_true rfl) ⟨(Nat.le_of_ble_eq_true rfl), (Nat.le_of_ble_eq_true rfl)⟩ dX9_feed_41 (fun b13 => ?_)
    refine x_aload_n hC dX9_feed_44 rfl 0 rfl ?_
    refine x_iload hC dX9_feed_45 5 rfl ?_
    obtain ⟨M14, q15, hr⟩ := bd1_s hr
    refine x_callV (ci := 6) (q := (RX9, TX9, 11)) (As := [.int a5]) hC (c_X9_append l G M11 hi0 a5 q15) kc_yX9_append km_X9_74 ki_yX9_append kv_yX9_append kn_RX9 ky_yX9_append rfl ⟨rfl, rfl⟩ ⟨(Nat.le_of_ble_eq_true rfl), (Nat.le_of_ble_eq_true rfl)⟩ hi0 (by decide) rfl rfl (Nat.le_of_ble_eq_true rfl) ⟨(Nat.le_of_ble_eq_true rfl), (Nat.le_of_ble_eq_true rfl)⟩ dX9_feed_47 (fun b16 => ?_)
    refine x_aload_n hC dX9_feed_50 rfl 0 rfl ?_
    refine gf_X9_13 hC hi0 dX9_feed_51 ?_
    cases hr
    exact x_widen (Nat.le_of_ble_eq_true rfl) (Nat.le_of_ble_eq_true rfl) (x_iret hC rfl dX9_feed_54)
  · have hr := (ie_s hr).2 h1
    exact ex_no (by decide) hr

theorem dX9_trim_0 : decode cX9_trim 0 = .ok (.iload_n 1, 1) := by decide +kernel
theorem dX9_trim_1 : decode cX9_trim 1 = .ok (.ifCond .lt 11, 3) := by decide +kernel
theorem dX9_trim_4 : decode cX9_trim 4 = .ok (.iload_n 1, 1) := by decide +kernel
theorem dX9_trim_5 : decode cX9_trim 5 = .ok (.aload_n 0, 1) := by decide +kernel
theorem dX9_trim_6 : decode cX9_trim 6 = .ok (.getfield 13, 3) := by decide +kernel
theorem dX9_trim_9 : decode cX9_trim 9 = .ok (.if_icmp .le 13, 3) := by decide +kernel
theorem dX9_trim_12 : decode cX9_trim 12 = .ok (.new 78, 3) := by decide +kernel
theorem dX9_trim_22 : decode cX9_trim 22 = .ok (.aload_n 0, 1) := by decide +kernel
theorem dX9_trim_23 : decode cX9_trim 23 = .ok (.iload_n 1, 1) := by decide +kernel
theorem dX9_trim_24 : decode cX9_trim 24 = .ok (.putfield 13, 3) := by decide +kernel
theorem dX9_trim_27 : decode cX9_trim 27 = .ok (.iload_n 1, 1) := by decide +kernel
theorem dX9_trim_28 : decode cX9_trim 28 = .ok (.ireturn, 1) := by decide +kernel

def f_X9_trim (i0 : Nat) (a1 : Int32) (M : Mm) : Option (Int32 × Int32 × Mm) :=
  if (a1 < 0) then (some ((2 : Int32), (0 : Int32), M)) else (if (a1 ≤ (M i0 1)) then (lz (wr M i0 1 a1) fun M3 => some ((0 : Int32), a1, M3)) else (some ((2 : Int32), (0 : Int32), M)))

set_option maxHeartbeats 4000000 in
set_option maxRecDepth 100000 in
theorem c_X9_trim (l : Launch) (G : GG) (M : Mm) {i0 : Nat} (hi0 : (kd i0).1 = 6) (a1 : Int32) {r : Int32} {M9 : Mm} (hr : f_X9_trim i0 a1 M = some ((0 : Int32), r, M9)) : Mo false l yX9_trim (WS yX9_trim cX9_trim 2 (some .int)) (RM 0 0 0 0) 0 0 [.ref (G.2.1 i0), .int a1] G M (some (.int r)) M9 := by
  refine Mo.of (by decide +kernel) (Nat.le_of_ble_eq_true rfl) ?_
  intro p e s m args below meth c hC
  have hC : CX p s m args meth c cX9_trim 2 RX9 (some .int) G := hC
  rw [f_X9_trim] at hr
  show XJ p l e (RM 0 0 0 0) s m args below meth c G 2 _ 0 0 M 0 [(0, .ref (G.2.1 i0)), (1, .int a1)] []
  refine x_iload_n hC dX9_trim_0 rfl 1 rfl ?_
  refine x_if_lt hC 12 dX9_trim_1 (by decide) (fun h1 => ?_) (fun h1 => ?_)
  · have hr := (ie_s hr).1 h1
    exact ex_no (by decide) hr
  · have hr := (ie_s hr).2 h1
    refine x_iload_n hC dX9_trim_4 rfl 1 rfl ?_
    refine x_aload_n hC dX9_trim_5 rfl 0 rfl ?_
    refine gf_X9_13 hC hi0 dX9_trim_6 ?_
    refine x_icmp_le hC 22 dX9_trim_9 (by decide) (fun h2 => ?_) (fun h2 => ?_)
    · have hr := (ie_s hr).1 h2
      refine x_aload_n hC dX9_trim_22 rfl 0 rfl ?_
      refine x_iload_n hC dX9_trim_23 rfl 1 rfl ?_
      obtain ⟨M3, e4, hr⟩ := lz_s hr
      refine pf_X9_13 hC hi0 e4 dX9_trim_24 ?_
      refine x_iload_n hC dX9_trim_27 rfl 1 rfl ?_
      cases hr
      exact x_widen (Nat.le_of_ble_eq_true rfl) (Nat.le_of_ble_eq_true rfl) (x_iret hC rfl dX9_trim_28)
    · have hr := (ie_s hr).2 h2
      exact ex_no (by decide) hr

theorem dX9_count_0 : decode cX9_count 0 = .ok (.iload_n 1, 1) := by decide +kernel
theorem dX9_count_1 : decode cX9_count 1 = .ok (.ifCond .lt 9, 3) := by decide +kernel
theorem dX9_count_4 : decode cX9_count 4 = .ok (.iload_n 1, 1) := by decide +kernel
theorem dX9_count_5 : decode cX9_count 5 = .ok (.bipush 13, 2) := by decide +kernel
theorem dX9_count_7 : decode cX9_count 7 = .ok (.if_icmp .lt 13, 3) := by decide +kernel
theorem dX9_count_10 : decode cX9_count 10 = .ok (.new 94, 3) := by decide +kernel
theorem dX9_count_20 : decode cX9_count 20 = .ok (.aload_n 0, 1) := by decide +kernel
theorem dX9_count_21 : decode cX9_count 21 = .ok (.iload_n 1, 1) := by decide +kernel
theorem dX9_count_22 : decode cX9_count 22 = .ok (.invokevirtual 99, 3) := by decide +kernel
theorem dX9_count_25 : decode cX9_count 25 = .ok (.ireturn, 1) := by decide +kernel

def f_X9_count (i0 : Nat) (a1 : Int32) (M : Mm) : Option (Int32 × Int32 × Mm) :=
  if (a1 < 0) then (some ((3 : Int32), (0 : Int32), M)) else (if (a1 < (13 : Int32)) then (bd1 (f_X9_counted i0 a1 M) fun x3 => some ((0 : Int32), x3, M)) else (some ((3 : Int32), (0 : Int32), M)))

set_option maxHeartbeats 4000000 in
set_option maxRecDepth 100000 in
theorem c_X9_count (l : Launch) (G : GG) (M : Mm) {i0 : Nat} (hi0 : (kd i0).1 = 6) (a1 : Int32) {r : Int32} {M9 : Mm} (hr : f_X9_count i0 a1 M = some ((0 : Int32), r, M9)) : Mo false l yX9_count (WS yX9_count cX9_count 2 (some .int)) (RM 2 0 0 46) 0 0 [.ref (G.2.1 i0), .int a1] G M (some (.int r)) M9 := by
  refine Mo.of (by decide +kernel) (Nat.le_of_ble_eq_true rfl) ?_
  intro p e s m args below meth c hC
  have hC : CX p s m args meth c cX9_count 2 RX9 (some .int) G := hC
  rw [f_X9_count] at hr
  show XJ p l e (RM 2 0 0 46) s m args below meth c G 2 _ 0 0 M 0 [(0, .ref (G.2.1 i0)), (1, .int a1)] []
  refine x_iload_n hC dX9_count_0 rfl 1 rfl ?_
  refine x_if_lt hC 10 dX9_count_1 (by decide) (fun h1 => ?_) (fun h1 => ?_)
  · have hr := (ie_s hr).1 h1
    exact ex_no (by decide) hr
  · have hr := (ie_s hr).2 h1
    refine x_iload_n hC dX9_count_4 rfl 1 rfl ?_
    refine x_bipush hC (13 : Int32) dX9_count_5 (by decide) ?_
    refine x_icmp_lt hC 20 dX9_count_7 (by decide) (fun h2 => ?_) (fun h2 => ?_)
    · have hr := (ie_s hr).1 h2
      refine x_aload_n hC dX9_count_20 rfl 0 rfl ?_
      refine x_iload_n hC dX9_count_21 rfl 1 rfl ?_
      obtain ⟨x3, q4, hr⟩ := bd1_s hr
      refine x_callV (ci := 6) (q := (RX9, TX9, 11)) (As := [.int a1]) hC (c_X9_counted l G M hi0 a1 q4) kc_yX9_counted km_X9_99 ki_yX9_counted kv_yX9_counted kn_RX9 ky_yX9_counted rfl ⟨rfl, rfl⟩ ⟨(Nat.le_of_ble_eq_true rfl), (Nat.le_of_ble_eq_true rfl)⟩ hi0 (by decide) rfl rfl (Nat.le_of_ble_eq_true rfl) ⟨(Nat.le_of_ble_eq_true rfl), (Nat.le_of_ble_eq_true rfl)⟩ dX9_count_22 (fun b5 => ?_)
      cases hr
      exact x_widen (Nat.le_of_ble_eq_true rfl) (Nat.le_of_ble_eq_true rfl) (x_iret hC rfl dX9_count_25)
    · have hr := (ie_s hr).2 h2
      exact ex_no (by decide) hr

theorem dX9_setWeather_0 : decode cX9_setWeather 0 = .ok (.iload_n 1, 1) := by decide +kernel
theorem dX9_setWeather_1 : decode cX9_setWeather 1 = .ok (.ifCond .lt 9, 3) := by decide +kernel
theorem dX9_setWeather_4 : decode cX9_setWeather 4 = .ok (.iload_n 1, 1) := by decide +kernel
theorem dX9_setWeather_5 : decode cX9_setWeather 5 = .ok (.bipush 12, 2) := by decide +kernel
theorem dX9_setWeather_7 : decode cX9_setWeather 7 = .ok (.if_icmp .lt 13, 3) := by decide +kernel
theorem dX9_setWeather_10 : decode cX9_setWeather 10 = .ok (.new 94, 3) := by decide +kernel
theorem dX9_setWeather_20 : decode cX9_setWeather 20 = .ok (.iload_n 2, 1) := by decide +kernel
theorem dX9_setWeather_21 : decode cX9_setWeather 21 = .ok (.iconst 0, 1) := by decide +kernel
theorem dX9_setWeather_22 : decode cX9_setWeather 22 = .ok (.bipush 9, 2) := by decide +kernel
theorem dX9_setWeather_24 : decode cX9_setWeather 24 = .ok (.invokestatic 144, 3) := by decide +kernel
theorem dX9_setWeather_27 : decode cX9_setWeather 27 = .ok (.ifCond .eq 13, 3) := by decide +kernel
theorem dX9_setWeather_30 : decode cX9_setWeather 30 = .ok (.iload_n 3, 1) := by decide +kernel
theorem dX9_setWeather_31 : decode cX9_setWeather 31 = .ok (.iconst 0, 1) := by decide +kernel
theorem dX9_setWeather_32 : decode cX9_setWeather 32 = .ok (.bipush 9, 2) := by decide +kernel
theorem dX9_setWeather_34 : decode cX9_setWeather 34 = .ok (.invokestatic 144, 3) := by decide +kernel
theorem dX9_setWeather_37 : decode cX9_setWeather 37 = .ok (.ifCond .ne 13, 3) := by decide +kernel
theorem dX9_setWeather_40 : decode cX9_setWeather 40 = .ok (.new 78, 3) := by decide +kernel
theorem dX9_setWeather_50 : decode cX9_setWeather 50 = .ok (.bipush 10, 2) := by decide +kernel
theorem dX9_setWeather_52 : decode cX9_setWeather 52 = .ok (.aload_n 0, 1) := by decide +kernel
theorem dX9_setWeather_53 : decode cX9_setWeather 53 = .ok (.getfield 45, 3) := by decide +kernel
theorem dX9_setWeather_56 : decode cX9_setWeather 56 = .ok (.getfield 150, 3) := by decide +kernel
theorem dX9_setWeather_59 : decode cX9_setWeather 59 = .ok (.iload_n 1, 1) := by decide +kernel
theorem dX9_setWeather_60 : decode cX9_setWeather 60 = .ok (.iaload, 1) := by decide +kernel
theorem dX9_setWeather_61 : decode cX9_setWeather 61 = .ok (.imul, 1) := by decide +kernel
theorem dX9_setWeather_62 : decode cX9_setWeather 62 = .ok (.aload_n 0, 1) := by decide +kernel
theorem dX9_setWeather_63 : decode cX9_setWeather 63 = .ok (.getfield 45, 3) := by decide +kernel
theorem dX9_setWeather_66 : decode cX9_setWeather 66 = .ok (.getfield 153, 3) := by decide +kernel
theorem dX9_setWeather_69 : decode cX9_setWeather 69 = .ok (.iload_n 1, 1) := by decide +kernel
theorem dX9_setWeather_70 : decode cX9_setWeather 70 = .ok (.iaload, 1) := by decide +kernel
theorem dX9_setWeather_71 : decode cX9_setWeather 71 = .ok (.iadd, 1) := by decide +kernel
theorem dX9_setWeather_72 : decode cX9_setWeather 72 = .ok (.istore 4, 2) := by decide +kernel
theorem dX9_setWeather_74 : decode cX9_setWeather 74 = .ok (.aload_n 0, 1) := by decide +kernel
theorem dX9_setWeather_75 : decode cX9_setWeather 75 = .ok (.getfield 45, 3) := by decide +kernel
theorem dX9_setWeather_78 : decode cX9_setWeather 78 = .ok (.getfield 150, 3) := by decide +kernel
theorem dX9_setWeather_81 : decode cX9_setWeather 81 = .ok (.iload_n 1, 1) := by decide +kernel
theorem dX9_setWeather_82 : decode cX9_setWeather 82 = .ok (.iload_n 2, 1) := by decide +kernel
theorem dX9_setWeather_83 : decode cX9_setWeather 83 = .ok (.iastore, 1) := by decide +kernel
theorem dX9_setWeather_84 : decode cX9_setWeather 84 = .ok (.aload_n 0, 1) := by decide +kernel
theorem dX9_setWeather_85 : decode cX9_setWeather 85 = .ok (.getfield 45, 3) := by decide +kernel
theorem dX9_setWeather_88 : decode cX9_setWeather 88 = .ok (.getfield 153, 3) := by decide +kernel
theorem dX9_setWeather_91 : decode cX9_setWeather 91 = .ok (.iload_n 1, 1) := by decide +kernel
theorem dX9_setWeather_92 : decode cX9_setWeather 92 = .ok (.iload_n 3, 1) := by decide +kernel
theorem dX9_setWeather_93 : decode cX9_setWeather 93 = .ok (.iastore, 1) := by decide +kernel
theorem dX9_setWeather_94 : decode cX9_setWeather 94 = .ok (.iload 4, 2) := by decide +kernel
theorem dX9_setWeather_96 : decode cX9_setWeather 96 = .ok (.ireturn, 1) := by decide +kernel

def f_X9_setWeather (i0 : Nat) (a1 : Int32) (a2 : Int32) (a3 : Int32) (M : Mm) : Option (Int32 × Int32 × Mm) :=
  if (a1 < 0) then (some ((3 : Int32), (0 : Int32), M)) else (if (a1 < (12 : Int32)) then (lz (f_X9_isWithin a2 (0 : Int32) (9 : Int32)) fun x3 => if (x3 = 0) then (some ((2 : Int32), (0 : Int32), M)) else (lz (f_X9_isWithin a3 (0 : Int32) (9 : Int32)) fun x7 => if (x7 = 0) then (some ((2 : Int32), (0 : Int32), M)) else (if 0 ≤ a1.toInt ∧ a1.toInt < ((12 : Nat) : Int) then (if 0 ≤ a1.toInt ∧ a1.toInt < ((12 : Nat) : Int) then (lz (((10 : Int32) * (M ((i0 + 29) + 7) (ix a1))) + (M ((i0 + 29) + 8) (ix a1))) fun x13 => if 0 ≤ a1.toInt ∧ a1.toInt < ((12 : Nat) : Int) then (lz (wr M ((i0 + 29) + 7) (ix a1) a2) fun M16 => if 0 ≤ a1.toInt ∧ a1.toInt < ((12 : Nat) : Int) then (lz (wr M16 ((i0 + 29) + 8) (ix a1) a3) fun M19 => some ((0 : Int32), x13, M19)) else none) else none) else none) else none))) else (some ((3 : Int32), (0 : Int32), M)))

set_option maxHeartbeats 4000000 in
set_option maxRecDepth 100000 in
theorem c_X9_setWeather (l : Launch) (G : GG) (M : Mm) {i0 : Nat} (hi0 : (kd i0).1 = 6) (a1 : Int32) (a2 : Int32) (a3 : Int32) {r : Int32} {M9 : Mm} (hr : f_X9_setWeather i0 a1 a2 a3 M = some ((0 : Int32), r, M9)) : Mo false l yX9_setWeather (WS yX9_setWeather cX9_setWeather 5 (some .int)) (RM 1 0 0 22) 0 0 [.ref (G.2.1 i0), .int a1, .int a2, .int a3] G M (some (.int r)) M9 := by
  refine Mo.of (by decide +kernel) (Nat.le_of_ble_eq_true rfl) ?_
  intro p e s m args below meth c hC
  have hC : CX p s m args meth c cX9_setWeather 5 RX9 (some .int) G := hC
  rw [f_X9_setWeather] at hr
  show XJ p l e (RM 1 0 0 22) s m args below meth c G 5 _ 0 0 M 0 [(0, .ref (G.2.1 i0)), (1, .int a1), (2, .int a2), (3, .int a3)] []
  refine x_iload_n hC dX9_setWeather_0 rfl 1 rfl ?_
  refine x_if_lt hC 10 dX9_setWeather_1 (by decide) (fun h1 => ?_) (fun h1 => ?_)
  · have hr := (ie_s hr).1 h1
    exact ex_no (by decide) hr
  · have hr := (ie_s hr).2 h1
    refine x_iload_n hC dX9_setWeather_4 rfl 1 rfl ?_
    refine x_bipush hC (12 : Int32) dX9_setWeather_5 (by decide) ?_
    refine x_icmp_lt hC 20 dX9_setWeather_7 (by decide) (fun h2 => ?_) (fun h2 => ?_)
    · have hr := (ie_s hr).1 h2
      refine x_iload_n hC dX9_setWeather_20 rfl 2 rfl ?_
      refine x_iconst hC (0 : Int32) dX9_setWeather_21 (by decide) ?_
      refine x_bipush hC (9 : Int32) dX9_setWeather_22 (by decide) ?_
      obtain ⟨x3, e4, hr⟩ := lz_s hr
      refine x_callS (As := [.int a2, .int (0 : Int32), .int (9 : Int32)]) hC (c_X9_isWithin l G M a2 (0 : Int32) (9 : Int32) e4.symm) kc_yX9_isWithin km_X9_144 kt_yX9_isWithin kn_RX9 ky_yX9_isWithin rfl ⟨rfl, rfl⟩ ⟨(Nat.le_of_ble_eq_true rfl), (Nat.le_of_ble_eq_true rfl)⟩ rfl (Nat.le_of_ble_eq_true rfl) ⟨(Nat.le_of_ble_eq_true rfl), (Nat.le_of_ble_eq_true rfl)⟩ dX9_setWeather_24 (fun b5 => ?_)
      refine x_if_eq hC 40 dX9_setWeather_27 (by decide) (fun h6 => ?_) (fun h6 => ?_)
      · have hr := (ie_s hr).1 h6
        exact ex_no (by decide) hr
      · have hr := (ie_s hr).2 h6
        refine x_iload_n hC dX9_setWeather_30 rfl 3 rfl ?_
        refine x_iconst hC (0 : Int32) dX9_setWeather_31 (by decide) ?_
        refine x_bipush hC (9 : Int32) dX9_setWeather_32 (by decide) ?_
        obtain ⟨x7, e8, hr⟩ := lz_s hr
        refine x_callS (As := [.int a3, .int (0 : Int32), .int (9 : Int32)]) hC (c_X9_isWithin l G M a3 (0 : Int32) (9 : Int32) e8.symm) kc_yX9_isWithin km_X9_144 kt_yX9_isWithin kn_RX9 ky_yX9_isWithin rfl ⟨rfl, rfl⟩ ⟨(Nat.le_of_ble_eq_true rfl), (Nat.le_of_ble_eq_true rfl)⟩ rfl (Nat.le_of_ble_eq_true rfl) ⟨(Nat.le_of_ble_eq_true rfl), (Nat.le_of_ble_eq_true rfl)⟩ dX9_setWeather_34 (fun b9 => ?_)
        refine x_if_ne hC 50 dX9_setWeather_37 (by decide) (fun h10 => ?_) (fun h10 => ?_)
        · have hr := (ie_s hr).2 h10
          refine x_bipush hC (10 : Int32) dX9_setWeather_50 (by decide) ?_
          refine x_aload_n hC dX9_setWeather_52 rfl 0 rfl ?_
          refine gf_X9_45 hC hi0 dX9_setWeather_53 ?_
          refine gf_X9_150 hC (kr_6_7 hi0) dX9_setWeather_56 ?_
          refine x_iload_n hC dX9_setWeather_59 rfl 1 rfl ?_
          obtain ⟨h11, hr⟩ := it_s hr
          refine x_iald hC (kr_0_6 (kr_6_7 hi0)) h11 dX9_setWeather_60 ?_
          refine x_imul hC dX9_setWeather_61 ?_
          refine x_aload_n hC dX9_setWeather_62 rfl 0 rfl ?_
          refine gf_X9_45 hC hi0 dX9_setWeather_63 ?_
          refine gf_X9_153 hC (kr_6_7 hi0) dX9_setWeather_66 ?_
          refine x_iload_n hC dX9_setWeather_69 rfl 1 rfl ?_
          obtain ⟨h12, hr⟩ := it_s hr
          refine x_iald hC (kr_0_7 (kr_6_7 hi0)) h12 dX9_setWeather_70 ?_
          refine x_iadd hC dX9_setWeather_71 ?_
          obtain ⟨x13, e14, hr⟩ := lz_s hr
          refine x_topi e14 ?_
          refine x_istore hC [(4, .int x13), (0, .ref (G.2.1 i0)), (1, .int a1), (2, .int a2), (3, .int a3)] dX9_setWeather_72  (Nat.le_of_ble_eq_true rfl) rfl ?_
          refine x_aload_n hC dX9_setWeather_74 rfl 1 rfl ?_
          refine gf_X9_45 hC hi0 dX9_setWeather_75 ?_
          refine gf_X9_150 hC (kr_6_7 hi0) dX9_setWeather_78 ?_
          refine x_iload_n hC dX9_setWeather_81 rfl 2 rfl ?_
          refine x_iload_n hC dX9_setWeather_82 rfl 3 rfl ?_
          obtain ⟨h15, hr⟩ := it_s hr
          obtain ⟨M16, e17, hr⟩ := lz_s hr
          refine x_iast hC (kr_0_6 (kr_6_7 hi0)) h15 e17 dX9_setWeather_83 ?_
          refine x_aload_n hC dX9_setWeather_84 rfl 1 rfl ?_
          refine gf_X9_45 hC hi0 dX9_setWeather_85 ?_
          refine gf_X9_153 hC (kr_6_7 hi0) dX9_setWeather_88 ?_
          refine x_iload_n hC dX9_setWeather_91 rfl 2 rfl ?_
          refine x_iload_n hC dX9_setWeather_92 rfl 4 rfl ?_
          obtain ⟨h18, hr⟩ := it_s hr
          obtain ⟨M19, e20, hr⟩ := lz_s hr
          refine x_iast hC (kr_0_7 (kr_6_7 hi0)) h18 e20 dX9_setWeather_93 ?_
          refine x_iload hC dX9_setWeather_94 0 rfl ?_
          cases hr
          exact x_widen (Nat.le_of_ble_eq_true rfl) (Nat.le_of_ble_eq_true rfl) (x_iret hC rfl dX9_setWeather_96)
        · have hr := (ie_s hr).1 h10
          exact ex_no (by decide) hr
    · have hr := (ie_s hr).2 h2
      exact ex_no (by decide) hr

theorem dX9_set_0 : decode cX9_set 0 = .ok (.iload_n 1, 1) := by decide +kernel
theorem dX9_set_1 : decode cX9_set 1 = .ok (.iload_n 2, 1) := by decide +kernel
theorem dX9_set_2 : decode cX9_set 2 = .ok (.invokestatic 156, 3) := by decide +kernel
theorem dX9_set_5 : decode cX9_set 5 = .ok (.ifCond .ne 13, 3) := by decide +kernel
theorem dX9_set_8 : decode cX9_set 8 = .ok (.new 94, 3) := by decide +kernel
theorem dX9_set_18 : decode cX9_set 18 = .ok (.iload_n 1, 1) := by decide +kernel
theorem dX9_set_19 : decode cX9_set 19 = .ok (.iload_n 2, 1) := by decide +kernel
theorem dX9_set_20 : decode cX9_set 20 = .ok (.invokestatic 162, 3) := by decide +kernel
theorem dX9_set_23 : decode cX9_set 23 = .ok (.istore 5, 2) := by decide +kernel
theorem dX9_set_25 : decode cX9_set 25 = .ok (.iload_n 3, 1) := by decide +kernel
theorem dX9_set_26 : decode cX9_set 26 = .ok (.iconst 0, 1) := by decide +kernel
theorem dX9_set_27 : decode cX9_set 27 = .ok (.bipush 60, 2) := by decide +kernel
theorem dX9_set_29 : decode cX9_set 29 = .ok (.invokestatic 144, 3) := by decide +kernel
theorem dX9_set_32 : decode cX9_set 32 = .ok (.ifCond .eq 23, 3) := by decide +kernel
theorem dX9_set_35 : decode cX9_set 35 = .ok (.iload 4, 2) := by decide +kernel
theorem dX9_set_37 : decode cX9_set 37 = .ok (.iconst 0, 1) := by decide +kernel
theorem dX9_set_38 : decode cX9_set 38 = .ok (.bipush 9, 2) := by decide +kernel
theorem dX9_set_40 : decode cX9_set 40 = .ok (.invokestatic 144, 3) := by decide +kernel
theorem dX9_set_43 : decode cX9_set 43 = .ok (.ifCond .eq 12, 3) := by decide +kernel
theorem dX9_set_46 : decode cX9_set 46 = .ok (.iload 5, 2) := by decide +kernel
theorem dX9_set_48 : decode cX9_set 48 = .ok (.ifCond .ne 17, 3) := by decide +kernel
theorem dX9_set_51 : decode cX9_set 51 = .ok (.iload_n 3, 1) := by decide +kernel
theorem dX9_set_52 : decode cX9_set 52 = .ok (.ifCond .eq 13, 3) := by decide +kernel
theorem dX9_set_55 : decode cX9_set 55 = .ok (.new 78, 3) := by decide +kernel
theorem dX9_set_65 : decode cX9_set 65 = .ok (.bipush 10, 2) := by decide +kernel
theorem dX9_set_67 : decode cX9_set 67 = .ok (.aload_n 0, 1) := by decide +kernel
theorem dX9_set_68 : decode cX9_set 68 = .ok (.getfield 45, 3) := by decide +kernel
theorem dX9_set_71 : decode cX9_set 71 = .ok (.getfield 136, 3) := by decide +kernel
theorem dX9_set_74 : decode cX9_set 74 = .ok (.iload 5, 2) := by decide +kernel
theorem dX9_set_76 : decode cX9_set 76 = .ok (.iaload, 1) := by decide +kernel
theorem dX9_set_77 : decode cX9_set 77 = .ok (.imul, 1) := by decide +kernel
theorem dX9_set_78 : decode cX9_set 78 = .ok (.aload_n 0, 1) := by decide +kernel
theorem dX9_set_79 : decode cX9_set 79 = .ok (.getfield 45, 3) := by decide +kernel
theorem dX9_set_82 : decode cX9_set 82 = .ok (.getfield 168, 3) := by decide +kernel
theorem dX9_set_85 : decode cX9_set 85 = .ok (.iload 5, 2) := by decide +kernel
theorem dX9_set_87 : decode cX9_set 87 = .ok (.iaload, 1) := by decide +kernel
theorem dX9_set_88 : decode cX9_set 88 = .ok (.iadd, 1) := by decide +kernel
theorem dX9_set_89 : decode cX9_set 89 = .ok (.istore 6, 2) := by decide +kernel
theorem dX9_set_91 : decode cX9_set 91 = .ok (.aload_n 0, 1) := by decide +kernel
theorem dX9_set_92 : decode cX9_set 92 = .ok (.getfield 45, 3) := by decide +kernel
theorem dX9_set_95 : decode cX9_set 95 = .ok (.getfield 136, 3) := by decide +kernel
theorem dX9_set_98 : decode cX9_set 98 = .ok (.iload 5, 2) := by decide +kernel
theorem dX9_set_100 : decode cX9_set 100 = .ok (.iload_n 3, 1) := by decide +kernel
theorem dX9_set_101 : decode cX9_set 101 = .ok (.iastore, 1) := by decide +kernel
theorem dX9_set_102 : decode cX9_set 102 = .ok (.aload_n 0, 1) := by decide +kernel
theorem dX9_set_103 : decode cX9_set 103 = .ok (.getfield 45, 3) := by decide +kernel
theorem dX9_set_106 : decode cX9_set 106 = .ok (.getfield 168, 3) := by decide +kernel
theorem dX9_set_109 : decode cX9_set 109 = .ok (.iload 5, 2) := by decide +kernel
theorem dX9_set_111 : decode cX9_set 111 = .ok (.iload 4, 2) := by decide +kernel
theorem dX9_set_113 : decode cX9_set 113 = .ok (.iastore, 1) := by decide +kernel
theorem dX9_set_114 : decode cX9_set 114 = .ok (.iload 6, 2) := by decide +kernel
theorem dX9_set_116 : decode cX9_set 116 = .ok (.ireturn, 1) := by decide +kernel

def f_X9_set (i0 : Nat) (a1 : Int32) (a2 : Int32) (a3 : Int32) (a4 : Int32) (M : Mm) : Option (Int32 × Int32 × Mm) :=
  lz (f_X9_isCell a1 a2) fun x1 => if (x1 = 0) then (some ((3 : Int32), (0 : Int32), M)) else (lz (f_X9_cellAt a1 a2) fun x5 => lz (f_X9_isWithin a3 (0 : Int32) (60 : Int32)) fun x8 => if (x8 = 0) then (some ((2 : Int32), (0 : Int32), M)) else (lz (f_X9_isWithin a4 (0 : Int32) (9 : Int32)) fun x12 => if (x12 = 0) then (some ((2 : Int32), (0 : Int32), M)) else (if (x5 = 0) then (if (a3 = 0) then (if 0 ≤ x5.toInt ∧ x5.toInt < ((64 : Nat) : Int) then (if 0 ≤ x5.toInt ∧ x5.toInt < ((64 : Nat) : Int) then (lz (((10 : Int32) * (M ((i0 + 29) + 1) (ix x5))) + (M ((i0 + 29) + 3) (ix x5))) fun x30 => if 0 ≤ x5.toInt ∧ x5.toInt < ((64 : Nat) : Int) then (lz (wr M ((i0 + 29) + 1) (ix x5) a3) fun M33 => if 0 ≤ x5.toInt ∧ x5.toInt < ((64 : Nat) : Int) then (lz (wr M33 ((i0 + 29) + 3) (ix x5) a4) fun M36 => some ((0 : Int32), x30, M36)) else none) else none) else none) else none) else (some ((2 : Int32), (0 : Int32), M))) else (if 0 ≤ x5.toInt ∧ x5.toInt < ((64 : Nat) : Int) then (if 0 ≤ x5.toInt ∧ x5.toInt < ((64 : Nat) : Int) then (lz (((10 : Int32) * (M ((i0 + 29) + 1) (ix x5))) + (M ((i0 + 29) + 3) (ix x5))) fun x19 => if 0 ≤ x5.toInt ∧ x5.toInt < ((64 : Nat) : Int) then (lz (wr M ((i0 + 29) + 1) (ix x5) a3) fun M22 => if 0 ≤ x5.toInt ∧ x5.toInt < ((64 : Nat) : Int) then (lz (wr M22 ((i0 + 29) + 3) (ix x5) a4) fun M25 => some ((0 : Int32), x19, M25)) else none) else none) else none) else none))))

set_option maxHeartbeats 4000000 in
set_option maxRecDepth 100000 in
theorem c_X9_set (l : Launch) (G : GG) (M : Mm) {i0 : Nat} (hi0 : (kd i0).1 = 6) (a1 : Int32) (a2 : Int32) (a3 : Int32) (a4 : Int32) {r : Int32} {M9 : Mm} (hr : f_X9_set i0 a1 a2 a3 a4 M = some ((0 : Int32), r, M9)) : Mo false l yX9_set (WS yX9_set cX9_set 7 (some .int)) (RM 2 0 0 43) 0 0 [.ref (G.2.1 i0), .int a1, .int a2, .int a3, .int a4] G M (some (.int r)) M9 := by
  refine Mo.of (by decide +kernel) (Nat.le_of_ble_eq_true rfl) ?_
  intro p e s m args below meth c hC
  have hC : CX p s m args meth c cX9_set 7 RX9 (some .int) G := hC
  rw [f_X9_set] at hr
  show XJ p l e (RM 2 0 0 43) s m args below meth c G 7 _ 0 0 M 0 [(0, .ref (G.2.1 i0)), (1, .int a1), (2, .int a2), (3, .int a3), (4, .int a4)] []
  refine x_iload_n hC dX9_set_0 rfl 1 rfl ?_
  refine x_iload_n hC dX9_set_1 rfl 2 rfl ?_
  obtain ⟨x1, e2, hr⟩ := lz_s hr
  refine x_callS (As := [.int a1, .int a2]) hC (c_X9_isCell l G M a1 a2 e2.symm) kc_yX9_isCell km_X9_156 kt_yX9_isCell kn_RX9 ky_yX9_isCell rfl ⟨rfl, rfl⟩ ⟨(Nat.le_of_ble_eq_true rfl), (Nat.le_of_ble_eq_true rfl)⟩ rfl (Nat.le_of_ble_eq_true rfl) ⟨(Nat.le_of_ble_eq_true rfl), (Nat.le_of_ble_eq_true rfl)⟩ dX9_set_2 (fun b3 => ?_)
  refine x_if_ne hC 18 dX9_set_5 (by decide) (fun h4 => ?_) (fun h4 => ?_)
  · have hr := (ie_s hr).2 h4
    refine x_iload_n hC dX9_set_18 rfl 1 rfl ?_
    refine x_iload_n hC dX9_set_19 rfl 2 rfl ?_
    obtain ⟨x5, e6, hr⟩ := lz_s hr
    refine x_callS (As := [.int a1, .int a2]) hC (c_X9_cellAt l G M a1 a2 e6.symm) kc_yX9_cellAt km_X9_162 kt_yX9_cellAt kn_RX9 ky_yX9_cellAt rfl ⟨rfl, rfl⟩ ⟨(Nat.le_of_ble_eq_true rfl), (Nat.le_of_ble_eq_true rfl)⟩ rfl (Nat.le_of_ble_eq_true rfl) ⟨(Nat.le_of_ble_eq_true rfl), (Nat.le_of_ble_eq_true rfl)⟩ dX9_set_20 (fun b7 => ?_)
    refine x_istore hC [(5, .int x5), (0, .ref (G.2.1 i0)), (1, .int a1), (2, .int a2), (3, .int a3), (4, .int a4)] dX9_set_23  (Nat.le_of_ble_eq_true rfl) rfl ?_
    refine x_iload_n hC dX9_set_25 rfl 4 rfl ?_
    refine x_iconst hC (0 : Int32) dX9_set_26 (by decide) ?_
    refine x_bipush hC (60 : Int32) dX9_set_27 (by decide) ?_
    obtain ⟨x8, e9, hr⟩ := lz_s hr
    refine x_callS (As := [.int a3, .int (0 : Int32), .int (60 : Int32)]) hC (c_X9_isWithin l G M a3 (0 : Int32) (60 : Int32) e9.symm) kc_yX9_isWithin km_X9_144 kt_yX9_isWithin kn_RX9 ky_yX9_isWithin rfl ⟨rfl, rfl⟩ ⟨(Nat.le_of_ble_eq_true rfl), (Nat.le_of_ble_eq_true rfl)⟩ rfl (Nat.le_of_ble_eq_true rfl) ⟨(Nat.le_of_ble_eq_true rfl), (Nat.le_of_ble_eq_true rfl)⟩ dX9_set_29 (fun b10 => ?_)
    refine x_if_eq hC 55 dX9_set_32 (by decide) (fun h11 => ?_) (fun h11 => ?_)
    · have hr := (ie_s hr).1 h11
      exact ex_no (by decide) hr
    · have hr := (ie_s hr).2 h11
      refine x_iload hC dX9_set_35 5 rfl ?_
      refine x_iconst hC (0 : Int32) dX9_set_37 (by decide) ?_
      refine x_bipush hC (9 : Int32) dX9_set_38 (by decide) ?_
      obtain ⟨x12, e13, hr⟩ := lz_s hr
      refine x_callS (As := [.int a4, .int (0 : Int32), .int (9 : Int32)]) hC (c_X9_isWithin l G M a4 (0 : Int32) (9 : Int32) e13.symm) kc_yX9_isWithin km_X9_144 kt_yX9_isWithin kn_RX9 ky_yX9_isWithin rfl ⟨rfl, rfl⟩ ⟨(Nat.le_of_ble_eq_true rfl), (Nat.le_of_ble_eq_true rfl)⟩ rfl (Nat.le_of_ble_eq_true rfl) ⟨(Nat.le_of_ble_eq_true rfl), (Nat.le_of_ble_eq_true rfl)⟩ dX9_set_40 (fun b14 => ?_)
      refine x_if_eq hC 55 dX9_set_43 (by decide) (fun h15 => ?_) (fun h15 => ?_)
      · have hr := (ie_s hr).1 h15
        exact ex_no (by decide) hr
      · have hr := (ie_s hr).2 h15
        refine x_iload hC dX9_set_46 0 rfl ?_
        refine x_if_ne hC 65 dX9_set_48 (by decide) (fun h16 => ?_) (fun h16 => ?_)
        · have hr := (ie_s hr).2 h16
          refine x_bipush hC (10 : Int32) dX9_set_65 (by decide) ?_
          refine x_aload_n hC dX9_set_67 rfl 1 rfl ?_
          refine gf_X9_45 hC hi0 dX9_set_68 ?_
          refine gf_X9_136 hC (kr_6_7 hi0) dX9_set_71 ?_
          refine x_iload hC dX9_set_74 0 rfl ?_
          obtain ⟨h17, hr⟩ := it_s hr
          refine x_iald hC (kr_0_0 (kr_6_7 hi0)) h17 dX9_set_76 ?_
          refine x_imul hC dX9_set_77 ?_
          refine x_aload_n hC dX9_set_78 rfl 1 rfl ?_
          refine gf_X9_45 hC hi0 dX9_set_79 ?_
          refine gf_X9_168 hC (kr_6_7 hi0) dX9_set_82 ?_
          refine x_iload hC dX9_set_85 0 rfl ?_
          obtain ⟨h18, hr⟩ := it_s hr
          refine x_iald hC (kr_0_2 (kr_6_7 hi0)) h18 dX9_set_87 ?_
          refine x_iadd hC dX9_set_88 ?_
          obtain ⟨x19, e20, hr⟩ := lz_s hr
          refine x_topi e20 ?_
          refine x_istore hC [(6, .int x19), (5, .int x5), (0, .ref (G.2.1 i0)), (1, .int a1), (2, .int a2), (3, .int a3), (4, .int a4)] dX9_set_89  (Nat.le_of_ble_eq_true rfl) rfl ?_
          refine x_aload_n hC dX9_set_91 rfl 2 rfl ?_
          refine gf_X9_45 hC hi0 dX9_set_92 ?_
          refine gf_X9_136 hC (kr_6_7 hi0) dX9_set_95 ?_
          refine x_iload hC dX9_set_98 1 rfl ?_
          refine x_iload_n hC dX9_set_100 rfl 5 rfl ?_
          obtain ⟨h21, hr⟩ := it_s hr
          obtain ⟨M22, e23, hr⟩ := lz_s hr
          refine x_iast hC (kr_0_0 (kr_6_7 hi0)) h21 e23 dX9_set_101 ?_
          refine x_aload_n hC dX9_set_102 rfl 2 rfl ?_
          refine gf_X9_45 hC hi0 dX9_set_103 ?_
          refine gf_X9_168 hC (kr_6_7 hi0) dX9_set_106 ?_
          refine x_iload hC dX9_set_109 1 rfl ?_
          refine x_iload hC dX9_set_111 6 rfl ?_
          obtain ⟨h24, hr⟩ := it_s hr
          obtain ⟨M25, e26, hr⟩ := lz_s hr
          refine x_iast hC (kr_0_2 (kr_6_7 hi0)) h24 e26 dX9_set_113 ?_
          refine x_iload hC dX9_set_114 0 rfl ?_
          cases hr
          exact x_widen (Nat.le_of_ble_eq_true rfl) (Nat.le_of_ble_eq_true rfl) (x_iret hC rfl dX9_set_116)
        · have hr := (ie_s hr).1 h16
          refine x_iload_n hC dX9_set_51 rfl 4 rfl ?_
          refine x_if_eq hC 65 dX9_set_52 (by decide) (fun h27 => ?_) (fun h27 => ?_)
          · have hr := (ie_s hr).1 h27
            refine x_bipush hC (10 : Int32) dX9_set_65 (by decide) ?_
            refine x_aload_n hC dX9_set_67 rfl 1 rfl ?_
            refine gf_X9_45 hC hi0 dX9_set_68 ?_
            refine gf_X9_136 hC (kr_6_7 hi0) dX9_set_71 ?_
            refine x_iload hC dX9_set_74 0 rfl ?_
            obtain ⟨h28, hr⟩ := it_s hr
            refine x_iald hC (kr_0_0 (kr_6_7 hi0)) h28 dX9_set_76 ?_
            refine x_imul hC dX9_set_77 ?_
            refine x_aload_n hC dX9_set_78 rfl 1 rfl ?_
            refine gf_X9_45 hC hi0 dX9_set_79 ?_
            refine gf_X9_168 hC (kr_6_7 hi0) dX9_set_82 ?_
            refine x_iload hC dX9_set_85 0 rfl ?_
            obtain ⟨h29, hr⟩ := it_s hr
            refine x_iald hC (kr_0_2 (kr_6_7 hi0)) h29 dX9_set_87 ?_
            refine x_iadd hC dX9_set_88 ?_
            obtain ⟨x30, e31, hr⟩ := lz_s hr
            refine x_topi e31 ?_
            refine x_istore hC [(6, .int x30), (5, .int x5), (0, .ref (G.2.1 i0)), (1, .int a1), (2, .int a2), (3, .int a3), (4, .int a4)] dX9_set_89  (Nat.le_of_ble_eq_true rfl) rfl ?_
            refine x_aload_n hC dX9_set_91 rfl 2 rfl ?_
            refine gf_X9_45 hC hi0 dX9_set_92 ?_
            refine gf_X9_136 hC (kr_6_7 hi0) dX9_set_95 ?_
            refine x_iload hC dX9_set_98 1 rfl ?_
            refine x_iload_n hC dX9_set_100 rfl 5 rfl ?_
            obtain ⟨h32, hr⟩ := it_s hr
            obtain ⟨M33, e34, hr⟩ := lz_s hr
            refine x_iast hC (kr_0_0 (kr_6_7 hi0)) h32 e34 dX9_set_101 ?_
            refine x_aload_n hC dX9_set_102 rfl 2 rfl ?_
            refine gf_X9_45 hC hi0 dX9_set_103 ?_
            refine gf_X9_168 hC (kr_6_7 hi0) dX9_set_106 ?_
            refine x_iload hC dX9_set_109 1 rfl ?_
            refine x_iload hC dX9_set_111 6 rfl ?_
            obtain ⟨h35, hr⟩ := it_s hr
            obtain ⟨M36, e37, hr⟩ := lz_s hr
            refine x_iast hC (kr_0_2 (kr_6_7 hi0)) h35 e37 dX9_set_113 ?_
            refine x_iload hC dX9_set_114 0 rfl ?_
            cases hr
            exact x_widen (Nat.le_of_ble_eq_true rfl) (Nat.le_of_ble_eq_true rfl) (x_iret hC rfl dX9_set_116)
          · have hr := (ie_s hr).2 h27
            exact ex_no (by decide) hr
  · have hr := (ie_s hr).1 h4
    exact ex_no (by decide) hr

theorem dX9_stack_0 : decode cX9_stack 0 = .ok (.iload_n 1, 1) := by decide +kernel
theorem dX9_stack_1 : decode cX9_stack 1 = .ok (.iload_n 2, 1) := by decide +kernel
theorem dX9_stack_2 : decode cX9_stack 2 = .ok (.invokestatic 156, 3) := by decide +kernel
theorem dX9_stack_5 : decode cX9_stack 5 = .ok (.ifCond .ne 13, 3) := by decide +kernel
theorem dX9_stack_8 : decode cX9_stack 8 = .ok (.new 94, 3) := by decide +kernel
theorem dX9_stack_18 : decode cX9_stack 18 = .ok (.iload_n 3, 1) := by decide +kernel
theorem dX9_stack_19 : decode cX9_stack 19 = .ok (.iconst 1, 1) := by decide +kernel
theorem dX9_stack_20 : decode cX9_stack 20 = .ok (.bipush 99, 2) := by decide +kernel
theorem dX9_stack_22 : decode cX9_stack 22 = .ok (.invokestatic 144, 3) := by decide +kernel
theorem dX9_stack_25 : decode cX9_stack 25 = .ok (.ifCond .eq 14, 3) := by decide +kernel
theorem dX9_stack_28 : decode cX9_stack 28 = .ok (.iload 4, 2) := by decide +kernel
theorem dX9_stack_30 : decode cX9_stack 30 = .ok (.iconst 0, 1) := by decide +kernel
theorem dX9_stack_31 : decode cX9_stack 31 = .ok (.bipush 20, 2) := by decide +kernel
theorem dX9_stack_33 : decode cX9_stack 33 = .ok (.invokestatic 144, 3) := by decide +kernel
theorem dX9_stack_36 : decode cX9_stack 36 = .ok (.ifCond .ne 13, 3) := by decide +kernel
theorem dX9_stack_39 : decode cX9_stack 39 = .ok (.new 78, 3) := by decide +kernel
theorem dX9_stack_49 : decode cX9_stack 49 = .ok (.iload_n 1, 1) := by decide +kernel
theorem dX9_stack_50 : decode cX9_stack 50 = .ok (.iload_n 2, 1) := by decide +kernel
theorem dX9_stack_51 : decode cX9_stack 51 = .ok (.invokestatic 162, 3) := by decide +kernel
theorem dX9_stack_54 : decode cX9_stack 54 = .ok (.istore 5, 2) := by decide +kernel
theorem dX9_stack_56 : decode cX9_stack 56 = .ok (.aload_n 0, 1) := by decide +kernel
theorem dX9_stack_57 : decode cX9_stack 57 = .ok (.getfield 45, 3) := by decide +kernel
theorem dX9_stack_60 : decode cX9_stack 60 = .ok (.getfield 118, 3) := by decide +kernel
theorem dX9_stack_63 : decode cX9_stack 63 = .ok (.iload 5, 2) := by decide +kernel
theorem dX9_stack_65 : decode cX9_stack 65 = .ok (.iaload, 1) := by decide +kernel
theorem dX9_stack_66 : decode cX9_stack 66 = .ok (.iload_n 3, 1) := by decide +kernel
theorem dX9_stack_67 : decode cX9_stack 67 = .ok (.iadd, 1) := by decide +kernel
theorem dX9_stack_68 : decode cX9_stack 68 = .ok (.bipush 99, 2) := by decide +kernel
theorem dX9_stack_70 : decode cX9_stack 70 = .ok (.if_icmp .le 13, 3) := by decide +kernel
theorem dX9_stack_73 : decode cX9_stack 73 = .ok (.new 67, 3) := by decide +kernel
theorem dX9_stack_83 : decode cX9_stack 83 = .ok (.aload_n 0, 1) := by decide +kernel
theorem dX9_stack_84 : decode cX9_stack 84 = .ok (.getfield 45, 3) := by decide +kernel
theorem dX9_stack_87 : decode cX9_stack 87 = .ok (.iload 5, 2) := by decide +kernel
theorem dX9_stack_89 : decode cX9_stack 89 = .ok (.iload_n 3, 1) := by decide +kernel
theorem dX9_stack_90 : decode cX9_stack 90 = .ok (.iload 4, 2) := by decide +kernel
theorem dX9_stack_92 : decode cX9_stack 92 = .ok (.invokevirtual 175, 3) := by decide +kernel
theorem dX9_stack_95 : decode cX9_stack 95 = .ok (.aload_n 0, 1) := by decide +kernel
theorem dX9_stack_96 : decode cX9_stack 96 = .ok (.getfield 45, 3) := by decide +kernel
theorem dX9_stack_99 : decode cX9_stack 99 = .ok (.getfield 118, 3) := by decide +kernel
theorem dX9_stack_102 : decode cX9_stack 102 = .ok (.iload 5, 2) := by decide +kernel
theorem dX9_stack_104 : decode cX9_stack 104 = .ok (.iaload, 1) := by decide +kernel
theorem dX9_stack_105 : decode cX9_stack 105 = .ok (.ireturn, 1) := by decide +kernel

def f_X9_stack (i0 : Nat) (a1 : Int32) (a2 : Int32) (a3 : Int32) (a4 : Int32) (M : Mm) : Option (Int32 × Int32 × Mm) :=
  lz (f_X9_isCell a1 a2) fun x1 => if (x1 = 0) then (some ((3 : Int32), (0 : Int32), M)) else (lz (f_X9_isWithin a3 (1 : Int32) (99 : Int32)) fun x5 => if (x5 = 0) then (some ((2 : Int32), (0 : Int32), M)) else (lz (f_X9_isWithin a4 (0 : Int32) (20 : Int32)) fun x9 => if (x9 = 0) then (some ((2 : Int32), (0 : Int32), M)) else (lz (f_X9_cellAt a1 a2) fun x13 => if 0 ≤ x13.toInt ∧ x13.toInt < ((64 : Nat) : Int) then (if (((M ((i0 + 29) + 4) (ix x13)) + a3) ≤ (99 : Int32)) then (bd1 (f_X1_addToStack (i0 + 29) x13 a3 a4 M) fun M18 => if 0 ≤ x13.toInt ∧ x13.toInt < ((64 : Nat) : Int) then (some ((0 : Int32), (M18 ((i0 + 29) + 4) (ix x13)), M18)) else none) else (some ((1 : Int32), (0 : Int32), M))) else none)))

set_option maxHeartbeats 4000000 in
set_option maxRecDepth 100000 in
theorem c_X9_stack (l : Launch) (G : GG) (M : Mm) {i0 : Nat} (hi0 : (kd i0).1 = 6) (a1 : Int32) (a2 : Int32) (a3 : Int32) (a4 : Int32) {r : Int32} {M9 : Mm} (hr : f_X9_stack i0 a1 a2 a3 a4 M = some ((0 : Int32), r, M9)) : Mo false l yX9_stack (WS yX9_stack cX9_stack 6 (some .int)) (RM 2 0 0 47) 0 0 [.ref (G.2.1 i0), .int a1, .int a2, .int a3, .int a4] G M (some (.int r)) M9 := by
  refine Mo.of (by decide +kernel) (Nat.le_of_ble_eq_true rfl) ?_
  intro p e s m args below meth c hC
  have hC : CX p s m args meth c cX9_stack 6 RX9 (some .int) G := hC
  rw [f_X9_stack] at hr
  show XJ p l e (RM 2 0 0 47) s m args below meth c G 6 _ 0 0 M 0 [(0, .ref (G.2.1 i0)), (1, .int a1), (2, .int a2), (3, .int a3), (4, .int a4)] []
  refine x_iload_n hC dX9_stack_0 rfl 1 rfl ?_
  refine x_iload_n hC dX9_stack_1 rfl 2 rfl ?_
  obtain ⟨x1, e2, hr⟩ := lz_s hr
  refine x_callS (As := [.int a1, .int a2]) hC (c_X9_isCell l G M a1 a2 e2.symm) kc_yX9_isCell km_X9_156 kt_yX9_isCell kn_RX9 ky_yX9_isCell rfl ⟨rfl, rfl⟩ ⟨(Nat.le_of_ble_eq_true rfl), (Nat.le_of_ble_eq_true rfl)⟩ rfl (Nat.le_of_ble_eq_true rfl) ⟨(Nat.le_of_ble_eq_true rfl), (Nat.le_of_ble_eq_true rfl)⟩ dX9_stack_2 (fun b3 => ?_)
  refine x_if_ne hC 18 dX9_stack_5 (by decide) (fun h4 => ?_) (fun h4 => ?_)
  · have hr := (ie_s hr).2 h4
    refine x_iload_n hC dX9_stack_18 rfl 3 rfl ?_
    refine x_iconst hC (1 : Int32) dX9_stack_19 (by decide) ?_
    refine x_bipush hC (99 : Int32) dX9_stack_20 (by decide) ?_
    obtain ⟨x5, e6, hr⟩ := lz_s hr
    refine x_callS (As := [.int a3, .int (1 : Int32), .int (99 : Int32)]) hC (c_X9_isWithin l G M a3 (1 : Int32) (99 : Int32) e6.symm) kc_yX9_isWithin km_X9_144 kt_yX9_isWithin kn_RX9 ky_yX9_isWithin rfl ⟨rfl, rfl⟩ ⟨(Nat.le_of_ble_eq_true rfl), (Nat.le_of_ble_eq_true rfl)⟩ rfl (Nat.le_of_ble_eq_true rfl) ⟨(Nat.le_of_ble_eq_true rfl), (Nat.le_of_ble_eq_true rfl)⟩ dX9_stack_22 (fun b7 => ?_)
    refine x_if_eq hC 39 dX9_stack_25 (by decide) (fun h8 => ?_) (fun h8 => ?_)
    · have hr := (ie_s hr).1 h8
      exact ex_no (by decide) hr
    · have hr := (ie_s hr).2 h8
      refine x_iload hC dX9_stack_28 4 rfl ?_
      refine x_iconst hC (0 : Int32) dX9_stack_30 (by decide) ?_
      refine x_bipush hC (20 : Int32) dX9_stack_31 (by decide) ?_
      obtain ⟨x9, e10, hr⟩ := lz_s hr
      refine x_callS (As := [.int a4, .int (0 : Int32), .int (20 : Int32)]) hC (c_X9_isWithin l G M a4 (0 : Int32) (20 : Int32) e10.symm) kc_yX9_isWithin km_X9_144 kt_yX9_isWithin kn_RX9 ky_yX9_isWithin rfl ⟨rfl, rfl⟩ ⟨(Nat.le_of_ble_eq_true rfl), (Nat.le_of_ble_eq_true rfl)⟩ rfl (Nat.le_of_ble_eq_true rfl) ⟨(Nat.le_of_ble_eq_true rfl), (Nat.le_of_ble_eq_true rfl)⟩ dX9_stack_33 (fun b11 => ?_)
      refine x_if_ne hC 49 dX9_stack_36 (by decide) (fun h12 => ?_) (fun h12 => ?_)
      · have hr := (ie_s hr).2 h12
        refine x_iload_n hC dX9_stack_49 rfl 1 rfl ?_
        refine x_iload_n hC dX9_stack_50 rfl 2 rfl ?_
        obtain ⟨x13, e14, hr⟩ := lz_s hr
        refine x_callS (As := [.int a1, .int a2]) hC (c_X9_cellAt l G M a1 a2 e14.symm) kc_yX9_cellAt km_X9_162 kt_yX9_cellAt kn_RX9 ky_yX9_cellAt rfl ⟨rfl, rfl⟩ ⟨(Nat.le_of_ble_eq_true rfl), (Nat.le_of_ble_eq_true rfl)⟩ rfl (Nat.le_of_ble_eq_true rfl) ⟨(Nat.le_of_ble_eq_true rfl), (Nat.le_of_ble_eq_true rfl)⟩ dX9_stack_51 (fun b15 => ?_)
        refine x_istore hC [(5, .int x13), (0, .ref (G.2.1 i0)), (1, .int a1), (2, .int a2), (3, .int a3), (4, .int a4)] dX9_stack_54  (Nat.le_of_ble_eq_true rfl) rfl ?_
        refine x_aload_n hC dX9_stack_56 rfl 1 rfl ?_
        refine gf_X9_45 hC hi0 dX9_stack_57 ?_
        refine gf_X9_118 hC (kr_6_7 hi0) dX9_stack_60 ?_
        refine x_iload hC dX9_stack_63 0 rfl ?_
        obtain ⟨h16, hr⟩ := it_s hr
        refine x_iald hC (kr_0_3 (kr_6_7 hi0)) h16 dX9_stack_65 ?_
        refine x_iload_n hC dX9_stack_66 rfl 4 rfl ?_
        refine x_iadd hC dX9_stack_67 ?_
        refine x_bipush hC (99 : Int32) dX9_stack_68 (by decide) ?_
        refine x_icmp_le hC 83 dX9_stack_70 (by decide) (fun h17 => ?_) (fun h17 => ?_)
        · have hr := (ie_s hr).1 h17
          refine x_aload_n hC dX9_stack_83 rfl 1 rfl ?_
          refine gf_X9_45 hC hi0 dX9_stack_84 ?_
          refine x_iload hC dX9_stack_87 0 rfl ?_
          refine x_iload_n hC dX9_stack_89 rfl 4 rfl ?_
          refine x_iload hC dX9_stack_90 5 rfl ?_
          obtain ⟨M18, q19, hr⟩ := bd1_s hr
          refine x_callV (ci := 0) (q := (RX1, TX1, 17)) (As := [.int x13, .int a3, .int a4]) hC (c_X1_addToStack l G M (kr_6_7 hi0) x13 a3 a4 q19) kc_yX1_addToStack km_X9_175 ki_yX1_addToStack kv_yX1_addToStack kn_RX1 ky_yX1_addToStack rfl ⟨rfl, rfl⟩ ⟨(Nat.le_of_ble_eq_true rfl), (Nat.le_of_ble_eq_true rfl)⟩ (kr_6_7 hi0) (by decide) rfl rfl (Nat.le_of_ble_eq_true rfl) ⟨(Nat.le_of_ble_eq_true rfl), (Nat.le_of_ble_eq_true rfl)⟩ dX9_stack_92 (fun b20 => ?_)
          refine x_aload_n hC dX9_stack_95 rfl 1 rfl ?_
          refine gf_X9_45 hC hi0 dX9_stack_96 ?_
          refine gf_X9_118 hC (kr_6_7 hi0) dX9_stack_99 ?_
          refine x_iload hC dX9_stack_102 0 rfl ?_
          obtain ⟨h21, hr⟩ := it_s hr
          refine x_iald hC (kr_0_3 (kr_6_7 hi0)) h21 dX9_stack_104 ?_
          cases hr
          exact x_widen (Nat.le_of_ble_eq_true rfl) (Nat.le_of_ble_eq_true rfl) (x_iret hC rfl dX9_stack_105)
        · have hr := (ie_s hr).2 h17
          exact ex_no (by decide) hr
      · have hr := (ie_s hr).1 h12
        exact ex_no (by decide) hr
  · have hr := (ie_s hr).1 h4
    exact ex_no (by decide) hr

theorem dX9_cell_0 : decode cX9_cell 0 = .ok (.iload_n 1, 1) := by decide +kernel
theorem dX9_cell_1 : decode cX9_cell 1 = .ok (.iload_n 2, 1) := by decide +kernel
theorem dX9_cell_2 : decode cX9_cell 2 = .ok (.invokestatic 156, 3) := by decide +kernel
theorem dX9_cell_5 : decode cX9_cell 5 = .ok (.ifCond .ne 13, 3) := by decide +kernel
theorem dX9_cell_8 : decode cX9_cell 8 = .ok (.new 94, 3) := by decide +kernel
theorem dX9_cell_18 : decode cX9_cell 18 = .ok (.iload_n 3, 1) := by decide +kernel
theorem dX9_cell_19 : decode cX9_cell 19 = .ok (.ifCond .lt 8, 3) := by decide +kernel
theorem dX9_cell_22 : decode cX9_cell 22 = .ok (.iload_n 3, 1) := by decide +kernel
theorem dX9_cell_23 : decode cX9_cell 23 = .ok (.iconst 5, 1) := by decide +kernel
theorem dX9_cell_24 : decode cX9_cell 24 = .ok (.if_icmp .lt 13, 3) := by decide +kernel
theorem dX9_cell_27 : decode cX9_cell 27 = .ok (.new 94, 3) := by decide +kernel
theorem dX9_cell_37 : decode cX9_cell 37 = .ok (.aload_n 0, 1) := by decide +kernel
theorem dX9_cell_38 : decode cX9_cell 38 = .ok (.getfield 45, 3) := by decide +kernel
theorem dX9_cell_41 : decode cX9_cell 41 = .ok (.iload_n 1, 1) := by decide +kernel
theorem dX9_cell_42 : decode cX9_cell 42 = .ok (.iload_n 2, 1) := by decide +kernel
theorem dX9_cell_43 : decode cX9_cell 43 = .ok (.invokestatic 162, 3) := by decide +kernel
theorem dX9_cell_46 : decode cX9_cell 46 = .ok (.iload_n 3, 1) := by decide +kernel
theorem dX9_cell_47 : decode cX9_cell 47 = .ok (.invokevirtual 181, 3) := by decide +kernel
theorem dX9_cell_50 : decode cX9_cell 50 = .ok (.ireturn, 1) := by decide +kernel

def f_X9_cell (i0 : Nat) (a1 : Int32) (a2 : Int32) (a3 : Int32) (M : Mm) : Option (Int32 × Int32 × Mm) :=
  lz (f_X9_isCell a1 a2) fun x1 => if (x1 = 0) then (some ((3 : Int32), (0 : Int32), M)) else (if (a3 < 0) then (some ((3 : Int32), (0 : Int32), M)) else (if (a3 < (5 : Int32)) then (lz (f_X9_cellAt a1 a2) fun x7 => bd1 (f_X1_tellCell (i0 + 29) x7 a3 M) fun x10 => some ((0 : Int32), x10, M)) else (some ((3 : Int32), (0 : Int32), M))))

set_option maxHeartbeats 4000000 in
set_option maxRecDepth 100000 in
theorem c_X9_cell (l : Launch) (G : GG) (M : Mm) {i0 : Nat} (hi0 : (kd i0).1 = 6) (a1 : Int32) (a2 : Int32) (a3 : Int32) {r : Int32} {M9 : Mm} (hr : f_X9_cell i0 a1 a2 a3 M = some ((0 : Int32), r, M9)) : Mo false l yX9_cell (WS yX9_cell cX9_cell 4 (some .int)) (RM 2 0 0 43) 0 0 [.ref (G.2.1 i0), .int a1, .int a2, .int a3] G M (some (.int r)) M9 := by
  refine Mo.of (by decide +kernel) (Nat.le_of_ble_eq_true rfl) ?_
  intro p e s m args below meth c hC
  have hC : CX p s m args meth c cX9_cell 4 RX9 (some .int) G := hC
  rw [f_X9_cell] at hr
  show XJ p l e (RM 2 0 0 43) s m args below meth c G 4 _ 0 0 M 0 [(0, .ref (G.2.1 i0)), (1, .int a1), (2, .int a2), (3, .int a3)] []
  refine x_iload_n hC dX9_cell_0 rfl 1 rfl ?_
  refine x_iload_n hC dX9_cell_1 rfl 2 rfl ?_
  obtain ⟨x1, e2, hr⟩ := lz_s hr
  refine x_callS (As := [.int a1, .int a2]) hC (c_X9_isCell l G M a1 a2 e2.symm) kc_yX9_isCell km_X9_156 kt_yX9_isCell kn_RX9 ky_yX9_isCell rfl ⟨rfl, rfl⟩ ⟨(Nat.le_of_ble_eq_true rfl), (Nat.le_of_ble_eq_true rfl)⟩ rfl (Nat.le_of_ble_eq_true rfl) ⟨(Nat.le_of_ble_eq_true rfl), (Nat.le_of_ble_eq_true rfl)⟩ dX9_cell_2 (fun b3 => ?_)
  refine x_if_ne hC 18 dX9_cell_5 (by decide) (fun h4 => ?_) (fun h4 => ?_)
  · have hr := (ie_s hr).2 h4
    refine x_iload_n hC dX9_cell_18 rfl 3 rfl ?_
    refine x_if_lt hC 27 dX9_cell_19 (by decide) (fun h5 => ?_) (fun h5 => ?_)
    · have hr := (ie_s hr).1 h5
      exact ex_no (by decide) hr
    · have hr := (ie_s hr).2 h5
      refine x_iload_n hC dX9_cell_22 rfl 3 rfl ?_
      refine x_iconst hC (5 : Int32) dX9_cell_23 (by decide) ?_
      refine x_icmp_lt hC 37 dX9_cell_24 (by decide) (fun h6 => ?_) (fun h6 => ?_)
      · have hr := (ie_s hr).1 h6
        refine x_aload_n hC dX9_cell_37 rfl 0 rfl ?_
        refine gf_X9_45 hC hi0 dX9_cell_38 ?_
        refine x_iload_n hC dX9_cell_41 rfl 1 rfl ?_
        refine x_iload_n hC dX9_cell_42 rfl 2 rfl ?_
        obtain ⟨x7, e8, hr⟩ := lz_s hr
        refine x_callS (As := [.int a1, .int a2]) hC (c_X9_cellAt l G M a1 a2 e8.symm) kc_yX9_cellAt km_X9_162 kt_yX9_cellAt kn_RX9 ky_yX9_cellAt rfl ⟨rfl, rfl⟩ ⟨(Nat.le_of_ble_eq_true rfl), (Nat.le_of_ble_eq_true rfl)⟩ rfl (Nat.le_of_ble_eq_true rfl) ⟨(Nat.le_of_ble_eq_true rfl), (Nat.le_of_ble_eq_true rfl)⟩ dX9_cell_43 (fun b9 => ?_)
        refine x_iload_n hC dX9_cell_46 rfl 3 rfl ?_
        obtain ⟨x10, q11, hr⟩ := bd1_s hr
        refine x_callV (ci := 0) (q := (RX1, TX1, 17)) (As := [.int x7, .int a3]) hC (c_X1_tellCell l G M (kr_6_7 hi0) x7 a3 q11) kc_yX1_tellCell km_X9_181 ki_yX1_tellCell kv_yX1_tellCell kn_RX1 ky_yX1_tellCell rfl ⟨rfl, rfl⟩ ⟨(Nat.le_of_ble_eq_true rfl), (Nat.le_of_ble_eq_true rfl)⟩ (kr_6_7 hi0) (by decide) rfl rfl (Nat.le_of_ble_eq_true rfl) ⟨(Nat.le_of_ble_eq_true rfl), (Nat.le_of_ble_eq_true rfl)⟩ dX9_cell_47 (fun b12 => ?_)
        cases hr
        exact x_widen (Nat.le_of_ble_eq_true rfl) (Nat.le_of_ble_eq_true rfl) (x_iret hC rfl dX9_cell_50)
      · have hr := (ie_s hr).2 h6
        exact ex_no (by decide) hr
  · have hr := (ie_s hr).1 h4
    exact ex_no (by decide) hr

theorem dX9_gang_0 : decode cX9_gang 0 = .ok (.iload_n 1, 1) := by decide +kernel
theorem dX9_gang_1 : decode cX9_gang 1 = .ok (.ifCond .lt 14, 3) := by decide +kernel
theorem dX9_gang_4 : decode cX9_gang 4 = .ok (.iload_n 1, 1) := by decide +kernel
theorem dX9_gang_5 : decode cX9_gang 5 = .ok (.aload_n 0, 1) := by decide +kernel
theorem dX9_gang_6 : decode cX9_gang 6 = .ok (.getfield 45, 3) := by decide +kernel
theorem dX9_gang_9 : decode cX9_gang 9 = .ok (.getfield 109, 3) := by decide +kernel
theorem dX9_gang_12 : decode cX9_gang 12 = .ok (.if_icmp .lt 13, 3) := by decide +kernel
theorem dX9_gang_15 : decode cX9_gang 15 = .ok (.new 94, 3) := by decide +kernel
theorem dX9_gang_25 : decode cX9_gang 25 = .ok (.iload_n 2, 1) := by decide +kernel
theorem dX9_gang_26 : decode cX9_gang 26 = .ok (.ifCond .lt 9, 3) := by decide +kernel
theorem dX9_gang_29 : decode cX9_gang 29 = .ok (.iload_n 2, 1) := by decide +kernel
theorem dX9_gang_30 : decode cX9_gang 30 = .ok (.bipush 9, 2) := by decide +kernel
theorem dX9_gang_32 : decode cX9_gang 32 = .ok (.if_icmp .lt 13, 3) := by decide +kernel
theorem dX9_gang_35 : decode cX9_gang 35 = .ok (.new 94, 3) := by decide +kernel
theorem dX9_gang_45 : decode cX9_gang 45 = .ok (.aload_n 0, 1) := by decide +kernel
theorem dX9_gang_46 : decode cX9_gang 46 = .ok (.getfield 45, 3) := by decide +kernel
theorem dX9_gang_49 : decode cX9_gang 49 = .ok (.getfield 188, 3) := by decide +kernel
theorem dX9_gang_52 : decode cX9_gang 52 = .ok (.iload_n 1, 1) := by decide +kernel
theorem dX9_gang_53 : decode cX9_gang 53 = .ok (.aaload, 1) := by decide +kernel
theorem dX9_gang_54 : decode cX9_gang 54 = .ok (.iload_n 2, 1) := by decide +kernel
theorem dX9_gang_55 : decode cX9_gang 55 = .ok (.invokevirtual 192, 3) := by decide +kernel
theorem dX9_gang_58 : decode cX9_gang 58 = .ok (.ireturn, 1) := by decide +kernel

def f_X9_gang (i0 : Nat) (a1 : Int32) (a2 : Int32) (M : Mm) : Option (Int32 × Int32 × Mm) :=
  if (a1 < 0) then (some ((3 : Int32), (0 : Int32), M)) else (if (a1 < (M (i0 + 29) 15)) then (if (a2 < 0) then (some ((3 : Int32), (0 : Int32), M)) else (if (a2 < (9 : Int32)) then (if 0 ≤ a1.toInt ∧ a1.toInt < ((4 : Nat) : Int) then (lz (f_X2_tell (((i0 + 29) + 9) + 1 + 2 * ix a1) a2 M) fun x6 => some ((0 : Int32), x6, M)) else none) else (some ((3 : Int32), (0 : Int32), M)))) else (some ((3 : Int32), (0 : Int32), M)))

set_option maxHeartbeats 4000000 in
set_option maxRecDepth 100000 in
theorem c_X9_gang (l : Launch) (G : GG) (M : Mm) {i0 : Nat} (hi0 : (kd i0).1 = 6) (a1 : Int32) (a2 : Int32) {r : Int32} {M9 : Mm} (hr : f_X9_gang i0 a1 a2 M = some ((0 : Int32), r, M9)) : Mo false l yX9_gang (WS yX9_gang cX9_gang 3 (some .int)) (RM 1 0 0 21) 0 0 [.ref (G.2.1 i0), .int a1, .int a2] G M (some (.int r)) M9 := by
  refine Mo.of (by decide +kernel) (Nat.le_of_ble_eq_true rfl) ?_
  intro p e s m args below meth c hC
  have hC : CX p s m args meth c cX9_gang 3 RX9 (some .int) G := hC
  rw [f_X9_gang] at hr
  show XJ p l e (RM 1 0 0 21) s m args below meth c G 3 _ 0 0 M 0 [(0, .ref (G.2.1 i0)), (1, .int a1), (2, .int a2)] []
  refine x_iload_n hC dX9_gang_0 rfl 1 rfl ?_
  refine x_if_lt hC 15 dX9_gang_1 (by decide) (fun h1 => ?_) (fun h1 => ?_)
  · have hr := (ie_s hr).1 h1
    exact ex_no (by decide) hr
  · have hr := (ie_s hr).2 h1
    refine x_iload_n hC dX9_gang_4 rfl 1 rfl ?_
    refine x_aload_n hC dX9_gang_5 rfl 0 rfl ?_
    refine gf_X9_45 hC hi0 dX9_gang_6 ?_
    refine gf_X9_109 hC (kr_6_7 hi0) dX9_gang_9 ?_
    refine x_icmp_lt hC 25 dX9_gang_12 (by decide) (fun h2 => ?_) (fun h2 => ?_)
    · have hr := (ie_s hr).1 h2
      refine x_iload_n hC dX9_gang_25 rfl 2 rfl ?_
      refine x_if_lt hC 35 dX9_gang_26 (by decide) (fun h3 => ?_) (fun h3 => ?_)
      · have hr := (ie_s hr).1 h3
        exact ex_no (by decide) hr
      · have hr := (ie_s hr).2 h3
        refine x_iload_n hC dX9_gang_29 rfl 2 rfl ?_
        refine x_bipush hC (9 : Int32) dX9_gang_30 (by decide) ?_
        refine x_icmp_lt hC 45 dX9_gang_32 (by decide) (fun h4 => ?_) (fun h4 => ?_)
        · have hr := (ie_s hr).1 h4
          refine x_aload_n hC dX9_gang_45 rfl 0 rfl ?_
          refine gf_X9_45 hC hi0 dX9_gang_46 ?_
          refine gf_X9_188 hC (kr_6_7 hi0) dX9_gang_49 ?_
          refine x_iload_n hC dX9_gang_52 rfl 1 rfl ?_
          obtain ⟨h5, hr⟩ := it_s hr
          refine x_gald hC (kr_0_14 (kr_6_7 hi0)) h5 dX9_gang_53 ?_
          refine x_iload_n hC dX9_gang_54 rfl 2 rfl ?_
          obtain ⟨x6, e7, hr⟩ := lz_s hr
          refine x_callV (ci := 1) (q := (RX2, TX2, 11)) (As := [.int a2]) hC (c_X2_tell l G M (kr_gang (kr_0_14 (kr_6_7 hi0)) h5) a2 e7.symm) kc_yX2_tell km_X9_192 ki_yX2_tell kv_yX2_tell kn_RX2 ky_yX2_tell rfl ⟨rfl, rfl⟩ ⟨(Nat.le_of_ble_eq_true rfl), (Nat.le_of_ble_eq_true rfl)⟩ (kr_gang (kr_0_14 (kr_6_7 hi0)) h5) (by decide) rfl rfl (Nat.le_of_ble_eq_true rfl) ⟨(Nat.le_of_ble_eq_true rfl), (Nat.le_of_ble_eq_true rfl)⟩ dX9_gang_55 (fun b8 => ?_)
          cases hr
          exact x_widen (Nat.le_of_ble_eq_true rfl) (Nat.le_of_ble_eq_true rfl) (x_iret hC rfl dX9_gang_58)
        · have hr := (ie_s hr).2 h4
          exact ex_no (by decide) hr
    · have hr := (ie_s hr).2 h2
      exact ex_no (by decide) hr

theorem dX9_pass_0 : decode cX9_pass 0 = .ok (.iload_n 1, 1) := by decide +kernel
theorem dX9_pass_1 : decode cX9_pass 1 = .ok (.iconst 1, 1) := by decide +kernel
theorem dX9_pass_2 : decode cX9_pass 2 = .ok (.if_icmp .lt 10, 3) := by decide +kernel
theorem dX9_pass_5 : decode cX9_pass 5 = .ok (.iload_n 1, 1) := by decide +kernel
theorem dX9_pass_6 : decode cX9_pass 6 = .ok (.sipush 200, 3) := by decide +kernel
theorem dX9_pass_9 : decode cX9_pass 9 = .ok (.if_icmp .le 13, 3) := by decide +kernel
theorem dX9_pass_12 : decode cX9_pass 12 = .ok (.new 78, 3) := by decide +kernel
theorem dX9_pass_22 : decode cX9_pass 22 = .ok (.aload_n 0, 1) := by decide +kernel
theorem dX9_pass_23 : decode cX9_pass 23 = .ok (.getfield 45, 3) := by decide +kernel
theorem dX9_pass_26 : decode cX9_pass 26 = .ok (.getfield 112, 3) := by decide +kernel
theorem dX9_pass_29 : decode cX9_pass 29 = .ok (.istore_n 2, 1) := by decide +kernel
theorem dX9_pass_30 : decode cX9_pass 30 = .ok (.aload_n 0, 1) := by decide +kernel
theorem dX9_pass_31 : decode cX9_pass 31 = .ok (.getfield 54, 3) := by decide +kernel
theorem dX9_pass_34 : decode cX9_pass 34 = .ok (.iload_n 1, 1) := by decide +kernel
theorem dX9_pass_35 : decode cX9_pass 35 = .ok (.invokestatic 199, 3) := by decide +kernel
theorem dX9_pass_38 : decode cX9_pass 38 = .ok (.aload_n 0, 1) := by decide +kernel
theorem dX9_pass_39 : decode cX9_pass 39 = .ok (.getfield 45, 3) := by decide +kernel
theorem dX9_pass_42 : decode cX9_pass 42 = .ok (.getfield 112, 3) := by decide +kernel
theorem dX9_pass_45 : decode cX9_pass 45 = .ok (.iload_n 2, 1) := by decide +kernel
theorem dX9_pass_46 : decode cX9_pass 46 = .ok (.isub, 1) := by decide +kernel
theorem dX9_pass_47 : decode cX9_pass 47 = .ok (.ireturn, 1) := by decide +kernel

def f_X9_pass (i0 : Nat) (a1 : Int32) (M : Mm) : Option (Int32 × Int32 × Mm) :=
  if (a1 < (1 : Int32)) then (some ((2 : Int32), (0 : Int32), M)) else (if (a1 ≤ (200 : Int32)) then (bd1 (f_X9_letPass (i0 + 65) a1 M) fun M3 => some ((0 : Int32), ((M3 (i0 + 29) 10) - (M (i0 + 29) 10)), M3)) else (some ((2 : Int32), (0 : Int32), M)))

set_option maxHeartbeats 4000000 in
set_option maxRecDepth 100000 in
theorem c_X9_pass (l : Launch) (G : GG) (M : Mm) {i0 : Nat} (hi0 : (kd i0).1 = 6) (a1 : Int32) {r : Int32} {M9 : Mm} (hr : f_X9_pass i0 a1 M = some ((0 : Int32), r, M9)) : Mo false l yX9_pass (WS yX9_pass cX9_pass 3 (some .int)) (RM 6 0 0 153) 0 0 [.ref (G.2.1 i0), .int a1] G M (some (.int r)) M9 := by
  refine Mo.of (by decide +kernel) (Nat.le_of_ble_eq_true rfl) ?_
  intro p e s m args below meth c hC
  have hC : CX p s m args meth c cX9_pass 3 RX9 (some .int) G := hC
  rw [f_X9_pass] at hr
  show XJ p l e (RM 6 0 0 153) s m args below meth c G 3 _ 0 0 M 0 [(0, .ref (G.2.1 i0)), (1, .int a1)] []
  refine x_iload_n hC dX9_pass_0 rfl 1 rfl ?_
  refine x_iconst hC (1 : Int32) dX9_pass_1 (by decide) ?_
  refine x_icmp_lt hC 12 dX9_pass_2 (by decide) (fun h1 => ?_) (fun h1 => ?_)
  · have hr := (ie_s hr).1 h1
    exact ex_no (by decide) hr
  · have hr := (ie_s hr).2 h1
    refine x_iload_n hC dX9_pass_5 rfl 1 rfl ?_
    refine x_sipush hC (200 : Int32) dX9_pass_6 (by decide) ?_
    refine x_icmp_le hC 22 dX9_pass_9 (by decide) (fun h2 => ?_) (fun h2 => ?_)
    · have hr := (ie_s hr).1 h2
      refine x_aload_n hC dX9_pass_22 rfl 0 rfl ?_
      refine gf_X9_45 hC hi0 dX9_pass_23 ?_
      refine gf_X9_112 hC (kr_6_7 hi0) dX9_pass_26 ?_
      refine x_istore_n hC [(2, .int (M (i0 + 29) 10)), (0, .ref (G.2.1 i0)), (1, .int a1)] dX9_pass_29 rfl (Nat.le_of_ble_eq_true rfl) rfl ?_
      refine x_aload_n hC dX9_pass_30 rfl 1 rfl ?_
      refine gf_X9_54 hC hi0 dX9_pass_31 ?_
      refine x_iload_n hC dX9_pass_34 rfl 2 rfl ?_
      obtain ⟨M3, q4, hr⟩ := bd1_s hr
      refine x_callS (As := [.ref (G.2.1 (i0 + 65)), .int a1]) hC (c_X9_letPass l G M (kr_6_8 hi0) a1 q4) kc_yX9_letPass km_X9_199 kt_yX9_letPass kn_RX9 ky_yX9_letPass rfl ⟨rfl, rfl⟩ ⟨(Nat.le_of_ble_eq_true rfl), (Nat.le_of_ble_eq_true rfl)⟩ rfl (Nat.le_of_ble_eq_true rfl) ⟨(Nat.le_of_ble_eq_true rfl), (Nat.le_of_ble_eq_true rfl)⟩ dX9_pass_35 (fun b5 => ?_)
      refine x_aload_n hC dX9_pass_38 rfl 1 rfl ?_
      refine gf_X9_45 hC hi0 dX9_pass_39 ?_
      refine gf_X9_112 hC (kr_6_7 hi0) dX9_pass_42 ?_
      refine x_iload_n hC dX9_pass_45 rfl 0 rfl ?_
      refine x_isub hC dX9_pass_46 ?_
      cases hr
      exact x_widen (Nat.le_of_ble_eq_true rfl) (Nat.le_of_ble_eq_true rfl) (x_iret hC rfl dX9_pass_47)
    · have hr := (ie_s hr).2 h2
      exact ex_no (by decide) hr

theorem dX9_foresee_0 : decode cX9_foresee 0 = .ok (.iload_n 1, 1) := by decide +kernel
theorem dX9_foresee_1 : decode cX9_foresee 1 = .ok (.iconst 1, 1) := by decide +kernel
theorem dX9_foresee_2 : decode cX9_foresee 2 = .ok (.if_icmp .lt 10, 3) := by decide +kernel
theorem dX9_foresee_5 : decode cX9_foresee 5 = .ok (.iload_n 1, 1) := by decide +kernel
theorem dX9_foresee_6 : decode cX9_foresee 6 = .ok (.sipush 300, 3) := by decide +kernel
theorem dX9_foresee_9 : decode cX9_foresee 9 = .ok (.if_icmp .le 13, 3) := by decide +kernel
theorem dX9_foresee_12 : decode cX9_foresee 12 = .ok (.new 78, 3) := by decide +kernel
theorem dX9_foresee_22 : decode cX9_foresee 22 = .ok (.iload_n 2, 1) := by decide +kernel
theorem dX9_foresee_23 : decode cX9_foresee 23 = .ok (.ifCond .lt 8, 3) := by decide +kernel
theorem dX9_foresee_26 : decode cX9_foresee 26 = .ok (.iload_n 2, 1) := by decide +kernel
theorem dX9_foresee_27 : decode cX9_foresee 27 = .ok (.iconst 4, 1) := by decide +kernel
theorem dX9_foresee_28 : decode cX9_foresee 28 = .ok (.if_icmp .lt 13, 3) := by decide +kernel
theorem dX9_foresee_31 : decode cX9_foresee 31 = .ok (.new 94, 3) := by decide +kernel
theorem dX9_foresee_41 : decode cX9_foresee 41 = .ok (.aload_n 0, 1) := by decide +kernel
theorem dX9_foresee_42 : decode cX9_foresee 42 = .ok (.getfield 61, 3) := by decide +kernel
theorem dX9_foresee_45 : decode cX9_foresee 45 = .ok (.aload_n 0, 1) := by decide +kernel
theorem dX9_foresee_46 : decode cX9_foresee 46 = .ok (.getfield 45, 3) := by decide +kernel
theorem dX9_foresee_49 : decode cX9_foresee 49 = .ok (.invokevirtual 215, 3) := by decide +kernel
theorem dX9_foresee_52 : decode cX9_foresee 52 = .ok (.aload_n 0, 1) := by decide +kernel
theorem dX9_foresee_53 : decode cX9_foresee 53 = .ok (.getfield 64, 3) := by decide +kernel
theorem dX9_foresee_56 : decode cX9_foresee 56 = .ok (.iload_n 1, 1) := by decide +kernel
theorem dX9_foresee_57 : decode cX9_foresee 57 = .ok (.invokestatic 199, 3) := by decide +kernel
theorem dX9_foresee_60 : decode cX9_foresee 60 = .ok (.iload_n 2, 1) := by decide +kernel
theorem dX9_foresee_61 : decode cX9_foresee 61 = .ok (.tableswitch 59 0 2 #[27, 35, 43], 27) := by decide +kernel
theorem dX9_foresee_88 : decode cX9_foresee 88 = .ok (.aload_n 0, 1) := by decide +kernel
theorem dX9_foresee_89 : decode cX9_foresee 89 = .ok (.getfield 61, 3) := by decide +kernel
theorem dX9_foresee_92 : decode cX9_foresee 92 = .ok (.getfield 112, 3) := by decide +kernel
theorem dX9_foresee_95 : decode cX9_foresee 95 = .ok (.ireturn, 1) := by decide +kernel
theorem dX9_foresee_96 : decode cX9_foresee 96 = .ok (.aload_n 0, 1) := by decide +kernel
theorem dX9_foresee_97 : decode cX9_foresee 97 = .ok (.getfield 61, 3) := by decide +kernel
theorem dX9_foresee_100 : decode cX9_foresee 100 = .ok (.getfield 115, 3) := by decide +kernel
theorem dX9_foresee_103 : decode cX9_foresee 103 = .ok (.ireturn, 1) := by decide +kernel
theorem dX9_foresee_104 : decode cX9_foresee 104 = .ok (.aload_n 0, 1) := by decide +kernel
theorem dX9_foresee_105 : decode cX9_foresee 105 = .ok (.getfield 61, 3) := by decide +kernel
theorem dX9_foresee_108 : decode cX9_foresee 108 = .ok (.getfield 130, 3) := by decide +kernel
theorem dX9_foresee_111 : decode cX9_foresee 111 = .ok (.aload_n 0, 1) := by decide +kernel
theorem dX9_foresee_112 : decode cX9_foresee 112 = .ok (.getfield 45, 3) := by decide +kernel
theorem dX9_foresee_115 : decode cX9_foresee 115 = .ok (.getfield 130, 3) := by decide +kernel
theorem dX9_foresee_118 : decode cX9_foresee 118 = .ok (.isub, 1) := by decide +kernel
theorem dX9_foresee_119 : decode cX9_foresee 119 = .ok (.ireturn, 1) := by decide +kernel
theorem dX9_foresee_120 : decode cX9_foresee 120 = .ok (.aload_n 0, 1) := by decide +kernel
theorem dX9_foresee_121 : decode cX9_foresee 121 = .ok (.getfield 61, 3) := by decide +kernel
theorem dX9_foresee_124 : decode cX9_foresee 124 = .ok (.getfield 136, 3) := by decide +kernel
theorem dX9_foresee_127 : decode cX9_foresee 127 = .ok (.invokestatic 122, 3) := by decide +kernel
theorem dX9_foresee_130 : decode cX9_foresee 130 = .ok (.ireturn, 1) := by decide +kernel

def f_X9_foresee (i0 : Nat) (a1 : Int32) (a2 : Int32) (M : Mm) : Option (Int32 × Int32 × Mm) :=
  if (a1 < (1 : Int32)) then (some ((2 : Int32), (0 : Int32), M)) else (if (a1 ≤ (300 : Int32)) then (if (a2 < 0) then (some ((3 : Int32), (0 : Int32), M)) else (if (a2 < (4 : Int32)) then (bd1 (f_X1_copy (i0 + 47) (i0 + 29) M) fun M5 => bd1 (f_X9_letPass (i0 + 67) a1 M5) fun M8 => if (a2 = (0 : Int32)) then (some ((0 : Int32), (M8 (i0 + 47) 10), M8)) else (if (a2 = (1 : Int32)) then (some ((0 : Int32), (M8 (i0 + 47) 11), M8)) else (if (a2 = (2 : Int32)) then (some ((0 : Int32), ((M8 (i0 + 47) 12) - (M8 (i0 + 29) 12)), M8)) else (bd1 (f_X9_sumOf ((i0 + 47) + 1) M8) fun x14 => some ((0 : Int32), x14, M8))))) else (some ((3 : Int32), (0 : Int32), M)))) else (some ((2 : Int32), (0 : Int32), M)))

set_option maxHeartbeats 4000000 in
set_option maxRecDepth 100000 in
theorem c_X9_foresee (l : Launch) (G : GG) (M : Mm) {i0 : Nat} (hi0 : (kd i0).1 = 6) (a1 : Int32) (a2 : Int32) {r : Int32} {M9 : Mm} (hr : f_X9_foresee i0 a1 a2 M = some ((0 : Int32), r, M9)) : Mo false l yX9_foresee (WS yX9_foresee cX9_foresee 3 (some .int)) (RM 6 0 0 153) 0 0 [.ref (G.2.1 i0), .int a1, .int a2] G M (some (.int r)) M9 := by
  refine Mo.of (by decide +kernel) (Nat.le_of_ble_eq_true rfl) ?_
  intro p e s m args below meth c hC
  have hC : CX p s m args meth c cX9_foresee 3 RX9 (some .int) G := hC
  rw [f_X9_foresee] at hr
  show XJ p l e (RM 6 0 0 153) s m args below meth c G 3 _ 0 0 M 0 [(0, .ref (G.2.1 i0)), (1, .int a1), (2, .int a2)] []
  refine x_iload_n hC dX9_foresee_0 rfl 1 rfl ?_
  refine x_iconst hC (1 : Int32) dX9_foresee_1 (by decide) ?_
  refine x_icmp_lt hC 12 dX9_foresee_2 (by decide) (fun h1 => ?_) (fun h1 => ?_)
  · have hr := (ie_s hr).1 h1
    exact ex_no (by decide) hr
  · have hr := (ie_s hr).2 h1
    refine x_iload_n hC dX9_foresee_5 rfl 1 rfl ?_
    refine x_sipush hC (300 : Int32) dX9_foresee_6 (by decide) ?_
    refine x_icmp_le hC 22 dX9_foresee_9 (by decide) (fun h2 => ?_) (fun h2 => ?_)
    · have hr := (ie_s hr).1 h2
      refine x_iload_n hC dX9_foresee_22 rfl 2 rfl ?_
      refine x_if_lt hC 31 dX9_foresee_23 (by decide) (fun h3 => ?_) (fun h3 => ?_)
      · have hr := (ie_s hr).1 h3
        exact ex_no (by decide) hr
      · have hr := (ie_s hr).2 h3
        refine x_iload_n hC dX9_foresee_26 rfl 2 rfl ?_
        refine x_iconst hC (4 : Int32) dX9_foresee_27 (by decide) ?_
        refine x_icmp_lt hC 41 dX9_foresee_28 (by decide) (fun h4 => ?_) (fun h4 => ?_)
        · have hr := (ie_s hr).1 h4
          refine x_aload_n hC dX9_foresee_41 rfl 0 rfl ?_
          refine gf_X9_61 hC hi0 dX9_foresee_42 ?_
          refine x_aload_n hC dX9_foresee_45 rfl 0 rfl ?_
          refine gf_X9_45 hC hi0 dX9_foresee_46 ?_
          obtain ⟨M5, q6, hr⟩ := bd1_s hr
          refine x_callV (ci := 0) (q := (RX1, TX1, 17)) (As := [.ref (G.2.1 (i0 + 29))]) hC (c_X1_copy l G M (kr_6_9 hi0) (kr_6_7 hi0) q6) kc_yX1_copy km_X9_215 ki_yX1_copy kv_yX1_copy kn_RX1 ky_yX1_copy rfl ⟨rfl, rfl⟩ ⟨(Nat.le_of_ble_eq_true rfl), (Nat.le_of_ble_eq_true rfl)⟩ (kr_6_9 hi0) (by decide) rfl rfl (Nat.le_of_ble_eq_true rfl) ⟨(Nat.le_of_ble_eq_true rfl), (Nat.le_of_ble_eq_true rfl)⟩ dX9_foresee_49 (fun b7 => ?_)
          refine x_aload_n hC dX9_foresee_52 rfl 0 rfl ?_
          refine gf_X9_64 hC hi0 dX9_foresee_53 ?_
          refine x_iload_n hC dX9_foresee_56 rfl 1 rfl ?_
          obtain ⟨M8, q9, hr⟩ := bd1_s hr
          refine x_callS (As := [.ref (G.2.1 (i0 + 67)), .int a1]) hC (c_X9_letPass l G M5 (kr_6_10 hi0) a1 q9) kc_yX9_letPass km_X9_199 kt_yX9_letPass kn_RX9 ky_yX9_letPass rfl ⟨rfl, rfl⟩ ⟨(Nat.le_of_ble_eq_true rfl), (Nat.le_of_ble_eq_true rfl)⟩ rfl (Nat.le_of_ble_eq_true rfl) ⟨(Nat.le_of_ble_eq_true rfl), (Nat.le_of_ble_eq_true rfl)⟩ dX9_foresee_57 (fun b10 => ?_)
          refine x_iload_n hC dX9_foresee_60 rfl 2 rfl ?_
          by_cases s11 : a2 = (0 : Int32)
          · have hr := (ie_s hr).1 s11
            refine x_tableIn hC (off := 27) 88 dX9_foresee_61 (by rw [s11]; decide) (by rw [s11]; decide) (by rw [s11]; rfl) (by decide) ?_
            refine x_aload_n hC dX9_foresee_88 rfl 0 rfl ?_
            refine gf_X9_61 hC hi0 dX9_foresee_89 ?_
            refine gf_X9_112 hC (kr_6_9 hi0) dX9_foresee_92 ?_
            cases hr
            exact x_widen (Nat.le_of_ble_eq_true rfl) (Nat.le_of_ble_eq_true rfl) (x_iret hC rfl dX9_foresee_95)
          · have hr := (ie_s hr).2 s11
            by_cases s12 : a2 = (1 : Int32)
            · have hr := (ie_s hr).1 s12
              refine x_tableIn hC (off := 35) 96 dX9_foresee_61 (by rw [s12]; decide) (by rw [s12]; decide) (by rw [s12]; rfl) (by decide) ?_
              refine x_aload_n hC dX9_foresee_96 rfl 0 rfl ?_
              refine gf_X9_61 hC hi0 dX9_foresee_97 ?_
              refine gf_X9_115 hC (kr_6_9 hi0) dX9_foresee_100 ?_
              cases hr
              exact x_widen (Nat.le_of_ble_eq_true rfl) (Nat.le_of_ble_eq_true rfl) (x_iret hC rfl dX9_foresee_103)
            · have hr := (ie_s hr).2 s12
              by_cases s13 : a2 = (2 : Int32)
              · have hr := (ie_s hr).1 s13
                refine x_tableIn hC (off := 43) 104 dX9_foresee_61 (by rw [s13]; decide) (by rw [s13]; decide) (by rw [s13]; rfl) (by decide) ?_
                refine x_aload_n hC dX9_foresee_104 rfl 0 rfl ?_
                refine gf_X9_61 hC hi0 dX9_foresee_105 ?_
                refine gf_X9_130 hC (kr_6_9 hi0) dX9_foresee_108 ?_
                refine x_aload_n hC dX9_foresee_111 rfl 0 rfl ?_
                refine gf_X9_45 hC hi0 dX9_foresee_112 ?_
                refine gf_X9_130 hC (kr_6_7 hi0) dX9_foresee_115 ?_
                refine x_isub hC dX9_foresee_118 ?_
                cases hr
                exact x_widen (Nat.le_of_ble_eq_true rfl) (Nat.le_of_ble_eq_true rfl) (x_iret hC rfl dX9_foresee_119)
              · have hr := (ie_s hr).2 s13
                refine x_tableOut hC 120 dX9_foresee_61 (by have := ne_toI s11 (z := 0) (by decide); have := ne_toI s12 (z := 1) (by decide); have := ne_toI s13 (z := 2) (by decide); omega) (by decide) ?_
                refine x_aload_n hC dX9_foresee_120 rfl 0 rfl ?_
                refine gf_X9_61 hC hi0 dX9_foresee_121 ?_
                refine gf_X9_136 hC (kr_6_9 hi0) dX9_foresee_124 ?_
                obtain ⟨x14, q15, hr⟩ := bd1_s hr
                refine x_callS (As := [.ref (G.2.1 ((i0 + 47) + 1))]) hC (c_X9_sumOf l G M8 (kr_0_0 (kr_6_9 hi0)) q15) kc_yX9_sumOf km_X9_122 kt_yX9_sumOf kn_RX9 ky_yX9_sumOf rfl ⟨rfl, rfl⟩ ⟨(Nat.le_of_ble_eq_true rfl), (Nat.le_of_ble_eq_true rfl)⟩ rfl (Nat.le_of_ble_eq_true rfl) ⟨(Nat.le_of_ble_eq_true rfl), (Nat.le_of_ble_eq_true rfl)⟩ dX9_foresee_127 (fun b16 => ?_)
                cases hr
                exact x_widen (Nat.le_of_ble_eq_true rfl) (Nat.le_of_ble_eq_true rfl) (x_iret hC rfl dX9_foresee_130)
        · have hr := (ie_s hr).2 h4
          exact ex_no (by decide) hr
    · have hr := (ie_s hr).2 h2
      exact ex_no (by decide) hr

theorem dX9_dries_0 : decode cX9_dries 0 = .ok (.iload_n 1, 1) := by decide +kernel
theorem dX9_dries_1 : decode cX9_dries 1 = .ok (.iload_n 2, 1) := by decide +kernel
theorem dX9_dries_2 : decode cX9_dries 2 = .ok (.invokestatic 156, 3) := by decide +kernel
theorem dX9_dries_5 : decode cX9_dries 5 = .ok (.ifCond .ne 13, 3) := by decide +kernel
theorem dX9_dries_8 : decode cX9_dries 8 = .ok (.new 94, 3) := by decide +kernel
theorem dX9_dries_18 : decode cX9_dries 18 = .ok (.iload_n 1, 1) := by decide +kernel
theorem dX9_dries_19 : decode cX9_dries 19 = .ok (.iload_n 2, 1) := by decide +kernel
theorem dX9_dries_20 : decode cX9_dries 20 = .ok (.invokestatic 162, 3) := by decide +kernel
theorem dX9_dries_23 : decode cX9_dries 23 = .ok (.istore_n 3, 1) := by decide +kernel
theorem dX9_dries_24 : decode cX9_dries 24 = .ok (.aload_n 0, 1) := by decide +kernel
theorem dX9_dries_25 : decode cX9_dries 25 = .ok (.getfield 45, 3) := by decide +kernel
theorem dX9_dries_28 : decode cX9_dries 28 = .ok (.getfield 218, 3) := by decide +kernel
theorem dX9_dries_31 : decode cX9_dries 31 = .ok (.iload_n 3, 1) := by decide +kernel
theorem dX9_dries_32 : decode cX9_dries 32 = .ok (.iaload, 1) := by decide +kernel
theorem dX9_dries_33 : decode cX9_dries 33 = .ok (.istore 4, 2) := by decide +kernel
theorem dX9_dries_35 : decode cX9_dries 35 = .ok (.aload_n 0, 1) := by decide +kernel
theorem dX9_dries_36 : decode cX9_dries 36 = .ok (.getfield 45, 3) := by decide +kernel
theorem dX9_dries_39 : decode cX9_dries 39 = .ok (.getfield 221, 3) := by decide +kernel
theorem dX9_dries_42 : decode cX9_dries 42 = .ok (.iload_n 3, 1) := by decide +kernel
theorem dX9_dries_43 : decode cX9_dries 43 = .ok (.iaload, 1) := by decide +kernel
theorem dX9_dries_44 : decode cX9_dries 44 = .ok (.ifCond .eq 7, 3) := by decide +kernel
theorem dX9_dries_47 : decode cX9_dries 47 = .ok (.iconst 1, 1) := by decide +kernel
theorem dX9_dries_48 : decode cX9_dries 48 = .ok (.goto 4, 3) := by decide +kernel
theorem dX9_dries_51 : decode cX9_dries 51 = .ok (.iconst 0, 1) := by decide +kernel
theorem dX9_dries_52 : decode cX9_dries 52 = .ok (.istore 5, 2) := by decide +kernel
theorem dX9_dries_54 : decode cX9_dries 54 = .ok (.iconst 0, 1) := by decide +kernel
theorem dX9_dries_55 : decode cX9_dries 55 = .ok (.istore 6, 2) := by decide +kernel
theorem dX9_dries_57 : decode cX9_dries 57 = .ok (.iload 6, 2) := by decide +kernel
theorem dX9_dries_59 : decode cX9_dries 59 = .ok (.bipush 60, 2) := by decide +kernel
theorem dX9_dries_61 : decode cX9_dries 61 = .ok (.if_icmp .gt 65, 3) := by decide +kernel
theorem dX9_dries_64 : decode cX9_dries 64 = .ok (.iload 4, 2) := by decide +kernel
theorem dX9_dries_66 : decode cX9_dries 66 = .ok (.iconst 5, 1) := by decide +kernel
theorem dX9_dries_67 : decode cX9_dries 67 = .ok (.if_icmp .gt 6, 3) := by decide +kernel
theorem dX9_dries_70 : decode cX9_dries 70 = .ok (.iload 6, 2) := by decide +kernel
theorem dX9_dries_72 : decode cX9_dries 72 = .ok (.ireturn, 1) := by decide +kernel
theorem dX9_dries_73 : decode cX9_dries 73 = .ok (.aload_n 0, 1) := by decide +kernel
theorem dX9_dries_74 : decode cX9_dries 74 = .ok (.getfield 45, 3) := by decide +kernel
theorem dX9_dries_77 : decode cX9_dries 77 = .ok (.getfield 103, 3) := by decide +kernel
theorem dX9_dries_80 : decode cX9_dries 80 = .ok (.iload 6, 2) := by decide +kernel
theorem dX9_dries_82 : decode cX9_dries 82 = .ok (.iadd, 1) := by decide +kernel
theorem dX9_dries_83 : decode cX9_dries 83 = .ok (.bipush 12, 2) := by decide +kernel
theorem dX9_dries_85 : decode cX9_dries 85 = .ok (.irem, 1) := by decide +kernel
theorem dX9_dries_86 : decode cX9_dries 86 = .ok (.istore 7, 2) := by decide +kernel
theorem dX9_dries_88 : decode cX9_dries 88 = .ok (.iload 4, 2) := by decide +kernel
theorem dX9_dries_90 : decode cX9_dries 90 = .ok (.iload 5, 2) := by decide +kernel
theorem dX9_dries_92 : decode cX9_dries 92 = .ok (.aload_n 0, 1) := by decide +kernel
theorem dX9_dries_93 : decode cX9_dries 93 = .ok (.getfield 45, 3) := by decide +kernel
theorem dX9_dries_96 : decode cX9_dries 96 = .ok (.getfield 150, 3) := by decide +kernel
theorem dX9_dries_99 : decode cX9_dries 99 = .ok (.iload 7, 2) := by decide +kernel
theorem dX9_dries_101 : decode cX9_dries 101 = .ok (.iaload, 1) := by decide +kernel
theorem dX9_dries_102 : decode cX9_dries 102 = .ok (.aload_n 0, 1) := by decide +kernel
theorem dX9_dries_103 : decode cX9_dries 103 = .ok (.getfield 45, 3) := by decide +kernel
theorem dX9_dries_106 : decode cX9_dries 106 = .ok (.getfield 153, 3) := by decide +kernel
theorem dX9_dries_109 : decode cX9_dries 109 = .ok (.iload 7, 2) := by decide +kernel
theorem dX9_dries_111 : decode cX9_dries 111 = .ok (.iaload, 1) := by decide +kernel
theorem dX9_dries_112 : decode cX9_dries 112 = .ok (.invokestatic 224, 3) := by decide +kernel
theorem dX9_dries_115 : decode cX9_dries 115 = .ok (.istore 4, 2) := by decide +kernel
theorem dX9_dries_117 : decode cX9_dries 117 = .ok (.iconst 0, 1) := by decide +kernel
theorem dX9_dries_118 : decode cX9_dries 118 = .ok (.istore 5, 2) := by decide +kernel
theorem dX9_dries_120 : decode cX9_dries 120 = .ok (.iinc 6 1, 3) := by decide +kernel
theorem dX9_dries_123 : decode cX9_dries 123 = .ok (.goto (-66), 3) := by decide +kernel
theorem dX9_dries_126 : decode cX9_dries 126 = .ok (.iconst (-1), 1) := by decide +kernel
theorem dX9_dries_127 : decode cX9_dries 127 = .ok (.ireturn, 1) := by decide +kernel
def f_X9_dries_L57 (i0 : Nat) (M : Mm) : Nat → Int32 → Int32 → Int32 → Option (Int32 × Int32 × Mm)
  | 0, _, _, _ => none
  | n + 1, v4, v5, v6 =>
    if ((60 : Int32) < v6) then (some ((0 : Int32), (-1 : Int32), M)) else (if ((5 : Int32) < v4) then (lz (((M (i0 + 29) 8) + v6) - ((M (i0 + 29) 8) + v6) / (12 : Int32) * (12 : Int32)) fun x19 => if 0 ≤ x19.toInt ∧ x19.toInt < ((12 : Nat) : Int) then (if 0 ≤ x19.toInt ∧ x19.toInt < ((12 : Nat) : Int) then (lz (f_X9_wetnessBehindNight v4 v5 (M ((i0 + 29) + 7) (ix x19)) (M ((i0 + 29) + 8) (ix x19))) fun x23 => lz (v6 + (1 : Int32)) fun x26 => f_X9_dries_L57 i0 M n x23 (0 : Int32) x26) else none) else none) else (some ((0 : Int32), v6, M)))
def f_X9_dries (i0 : Nat) (a1 : Int32) (a2 : Int32) (M : Mm) : Option (Int32 × Int32 × Mm) :=
  lz (f_X9_isCell a1 a2) fun x1 => if (x1 = 0) then (some ((3 : Int32), (0 : Int32), M)) else (lz (f_X9_cellAt a1 a2) fun x5 => if 0 ≤ x5.toInt ∧ x5.toInt < ((64 : Nat) : Int) then (lz (M ((i0 + 29) + 5) (ix x5)) fun x9 => if 0 ≤ x5.toInt ∧ x5.toInt < ((64 : Nat) : Int) then (lz (if ((M ((i0 + 29) + 6) (ix x5)) = 0) then ((0 : Int32)) else ((1 : Int32))) fun x14 => (f_X9_dries_L57 i0 M FU x9 x14 (0 : Int32))) else none) else none)
set_option maxHeartbeats 4000000 in
set_option maxRecDepth 100000 in
theorem l_X9_dries_L57 {p : Program} {e : Env} {s : State} {m : MethodId} {args : Array Value} {below : List Frame} {meth : Method} {c : Code} {l : Launch} {G : GG} (hC : CX p s m args meth c cX9_dries 8 RX9 (some .int) G) {i0 : Nat} (hi0 : (kd i0).1 = 6) (M : Mm) : ∀ (n : Nat) (v4 : Int32) (v5 : Int32) (v6 : Int32) {r : Int32} {M9 : Mm} (hr : f_X9_dries_L57 i0 M n v4 v5 v6 = some ((0 : Int32), r, M9)), XJ p l e (RM 3 0 0 85) s m args below meth c G 8 (MQ below (QO G M9 false (some (.int r)) s.heap.size) args s 0 0 (AF G s.heap.size)) 0 0 M 57 [(0, .ref (G.2.1 i0)), (4, .int v4), (5, .int v5), (6, .int v6)] [] := by
  intro n
  induction n with
  | zero => intro v4 v5 v6 r M9 hr; rw [f_X9_dries_L57] at hr; cases hr
  | succ n ih =>
    intro v4 v5 v6 r M9 hr
    rw [f_X9_dries_L57] at hr
    refine x_iload hC dX9_dries_57 3 rfl ?_
    refine x_bipush hC (60 : Int32) dX9_dries_59 (by decide) ?_
    refine x_icmp_gt hC 126 dX9_dries_61 (by decide) (fun h17 => ?_) (fun h17 => ?_)
    · have hr := (ie_s hr).1 h17
      refine x_iconst hC (-1 : Int32) dX9_dries_126 (by decide) ?_
      cases hr
      exact x_widen (Nat.le_of_ble_eq_true rfl) (Nat.le_of_ble_eq_true rfl) (x_iret hC rfl dX9_dries_127)
    · have hr := (ie_s hr).2 h17
      refine x_iload hC dX9_dries_64 1 rfl ?_
      refine x_iconst hC (5 : Int32) dX9_dries_66 (by decide) ?_
      refine x_icmp_gt hC 73 dX9_dries_67 (by decide) (fun h18 => ?_) (fun h18 => ?_)
      · have hr := (ie_s hr).1 h18
        refine x_aload_n hC dX9_dries_73 rfl 0 rfl ?_
        refine gf_X9_45 hC hi0 dX9_dries_74 ?_
        refine gf_X9_103 hC (kr_6_7 hi0) dX9_dries_77 ?_
        refine x_iload hC dX9_dries_80 3 rfl ?_
        refine x_iadd hC dX9_dries_82 ?_
        refine x_bipush hC (12 : Int32) dX9_dries_83 (by decide) ?_
        refine x_irem hC dX9_dries_85 (by decide) ?_
        obtain ⟨x19, e20, hr⟩ := lz_s hr
        refine x_topi e20 ?_
        refine x_istore hC [(7, .int x19), (0, .ref (G.2.1 i0)), (4, .int v4), (5, .int v5), (6, .int v6)] dX9_dries_86  (Nat.le_of_ble_eq_true rfl) rfl ?_
        refine x_iload hC dX9_dries_88 2 rfl ?_
        refine x_iload hC dX9_dries_90 3 rfl ?_
        refine x_aload_n hC dX9_dries_92 rfl 1 rfl ?_
        refine gf_X9_45 hC hi0 dX9_dries_93 ?_
        refine gf_X9_150 hC (kr_6_7 hi0) dX9_dries_96 ?_
        refine x_iload hC dX9_dries_99 0 rfl ?_
        obtain ⟨h21, hr⟩ := it_s hr
        refine x_iald hC (kr_0_6 (kr_6_7 hi0)) h21 dX9_dries_101 ?_
        refine x_aload_n hC dX9_dries_102 rfl 1 rfl ?_
        refine gf_X9_45 hC hi0 dX9_dries_103 ?_
        refine gf_X9_153 hC (kr_6_7 hi0) dX9_dries_106 ?_
        refine x_iload hC dX9_dries_109 0 rfl ?_
        obtain ⟨h22, hr⟩ := it_s hr
        refine x_iald hC (kr_0_7 (kr_6_7 hi0)) h22 dX9_dries_111 ?_
        obtain ⟨x23, e24, hr⟩ := lz_s hr
        refine x_callS (As := [.int v4, .int v5, .int (M ((i0 + 29) + 7) (ix x19)), .int (M ((i0 + 29) + 8) (ix x19))]) hC (c_X9_wetnessBehindNight l G M v4 v5 (M ((i0 + 29) + 7) (ix x19)) (M ((i0 + 29) + 8) (ix x19)) e24.symm) kc_yX9_wetnessBehindNight km_X9_224 kt_yX9_wetnessBehindNight kn_RX9 ky_yX9_wetnessBehindNight rfl ⟨rfl, rfl⟩ ⟨(Nat.le_of_ble_eq_true rfl), (Nat.le_of_ble_eq_true rfl)⟩ rfl (Nat.le_of_ble_eq_true rfl) ⟨(Nat.le_of_ble_eq_true rfl), (Nat.le_of_ble_eq_true rfl)⟩ dX9_dries_112 (fun b25 => ?_)
        refine x_istore hC [(4, .int x23), (7, .int x19), (0, .ref (G.2.1 i0)), (5, .int v5), (6, .int v6)] dX9_dries_115  (Nat.le_of_ble_eq_true rfl) rfl ?_
        refine x_iconst hC (0 : Int32) dX9_dries_117 (by decide) ?_
        refine x_istore hC [(5, .int (0 : Int32)), (4, .int x23), (7, .int x19), (0, .ref (G.2.1 i0)), (6, .int v6)] dX9_dries_118  (Nat.le_of_ble_eq_true rfl) rfl ?_
        obtain ⟨x26, e27, hr⟩ := lz_s hr
        refine x_iinc hC [(6, .int x26), (5, .int (0 : Int32)), (4, .int x23), (7, .int x19), (0, .ref (G.2.1 i0))] dX9_dries_120 4 rfl (by rw [e27]; rfl) (Nat.le_of_ble_eq_true rfl) rfl ?_
        refine x_goto hC 57 dX9_dries_123 (by decide) ?_
        exact x_sub [4, 2, 1, 0] rfl (ih x23 (0 : Int32) x26 hr)
      · have hr := (ie_s hr).2 h18
        refine x_iload hC dX9_dries_70 3 rfl ?_
        cases hr
        exact x_widen (Nat.le_of_ble_eq_true rfl) (Nat.le_of_ble_eq_true rfl) (x_iret hC rfl dX9_dries_72)
set_option maxHeartbeats 4000000 in
set_option maxRecDepth 100000 in
theorem c_X9_dries (l : Launch) (G : GG) (M : Mm) {i0 : Nat} (hi0 : (kd i0).1 = 6) (a1 : Int32) (a2 : Int32) {r : Int32} {M9 : Mm} (hr : f_X9_dries i0 a1 a2 M = some ((0 : Int32), r, M9)) : Mo false l yX9_dries (WS yX9_dries cX9_dries 8 (some .int)) (RM 3 0 0 85) 0 0 [.ref (G.2.1 i0), .int a1, .int a2] G M (some (.int r)) M9 := by
  refine Mo.of (by decide +kernel) (Nat.le_of_ble_eq_true rfl) ?_
  intro p e s m args below meth c hC
  have hC : CX p s m args meth c cX9_dries 8 RX9 (some .int) G := hC
  rw [f_X9_dries] at hr
  show XJ p l e (RM 3 0 0 85) s m args below meth c G 8 _ 0 0 M 0 [(0, .ref (G.2.1 i0)), (1, .int a1), (2, .int a2)] []
  refine x_iload_n hC dX9_dries_0 rfl 1 rfl ?_
  refine x_iload_n hC dX9_dries_1 rfl 2 rfl ?_
  obtain ⟨x1, e2, hr⟩ := lz_s hr
  refine x_callS (As := [.int a1, .int a2]) hC (c_X9_isCell l G M a1 a2 e2.symm) kc_yX9_isCell km_X9_156 kt_yX9_isCell kn_RX9 ky_yX9_isCell rfl ⟨rfl, rfl⟩ ⟨(Nat.le_of_ble_eq_true rfl), (Nat.le_of_ble_eq_true rfl)⟩ rfl (Nat.le_of_ble_eq_true rfl) ⟨(Nat.le_of_ble_eq_true rfl), (Nat.le_of_ble_eq_true rfl)⟩ dX9_dries_2 (fun b3 => ?_)
  refine x_if_ne hC 18 dX9_dries_5 (by decide) (fun h4 => ?_) (fun h4 => ?_)
  · have hr := (ie_s hr).2 h4
    refine x_iload_n hC dX9_dries_18 rfl 1 rfl ?_
    refine x_iload_n hC dX9_dries_19 rfl 2 rfl ?_
    obtain ⟨x5, e6, hr⟩ := lz_s hr
    refine x_callS (As := [.int a1, .int a2]) hC (c_X9_cellAt l G M a1 a2 e6.symm) kc_yX9_cellAt km_X9_162 kt_yX9_cellAt kn_RX9 ky_yX9_cellAt rfl ⟨rfl, rfl⟩ ⟨(Nat.le_of_ble_eq_true rfl), (Nat.le_of_ble_eq_true rfl)⟩ rfl (Nat.le_of_ble_eq_true rfl) ⟨(Nat.le_of_ble_eq_true rfl), (Nat.le_of_ble_eq_true rfl)⟩ dX9_dries_20 (fun b7 => ?_)
    refine x_istore_n hC [(3, .int x5), (0, .ref (G.2.1 i0)), (1, .int a1), (2, .int a2)] dX9_dries_23 rfl (Nat.le_of_ble_eq_true rfl) rfl ?_
    refine x_aload_n hC dX9_dries_24 rfl 1 rfl ?_
    refine gf_X9_45 hC hi0 dX9_dries_25 ?_
    refine gf_X9_218 hC (kr_6_7 hi0) dX9_dries_28 ?_
    refine x_iload_n hC dX9_dries_31 rfl 0 rfl ?_
    obtain ⟨h8, hr⟩ := it_s hr
    refine x_iald hC (kr_0_4 (kr_6_7 hi0)) h8 dX9_dries_32 ?_
    obtain ⟨x9, e10, hr⟩ := lz_s hr
    refine x_topi e10 ?_
    refine x_istore hC [(4, .int x9), (3, .int x5), (0, .ref (G.2.1 i0)), (1, .int a1), (2, .int a2)] dX9_dries_33  (Nat.le_of_ble_eq_true rfl) rfl ?_
    refine x_aload_n hC dX9_dries_35 rfl 2 rfl ?_
    refine gf_X9_45 hC hi0 dX9_dries_36 ?_
    refine gf_X9_221 hC (kr_6_7 hi0) dX9_dries_39 ?_
    refine x_iload_n hC dX9_dries_42 rfl 1 rfl ?_
    obtain ⟨h11, hr⟩ := it_s hr
    refine x_iald hC (kr_0_5 (kr_6_7 hi0)) h11 dX9_dries_43 ?_
    obtain ⟨x14, e15, hr⟩ := lz_s hr
    have q12 := e15.symm
    refine x_joinB (P := (x14 = 0 ∨ x14 = 1)) (M' := M) (pc' := 52) (lv' := [(0, .ref (G.2.1 i0)), (4, .int x9)]) (st' := [.int x14]) ?_ ?_
    · intro b16
      refine x_istore hC [(5, .int x14), (0, .ref (G.2.1 i0)), (4, .int x9)] dX9_dries_52  (Nat.le_of_ble_eq_true rfl) rfl ?_
      refine x_iconst hC (0 : Int32) dX9_dries_54 (by decide) ?_
      refine x_istore hC [(6, .int (0 : Int32)), (5, .int x14), (0, .ref (G.2.1 i0)), (4, .int x9)] dX9_dries_55  (Nat.le_of_ble_eq_true rfl) rfl ?_
      exact x_sub [2, 3, 1, 0] rfl (l_X9_dries_L57 hC hi0 M FU x9 x14 (0 : Int32) hr)
    · intro kj
      refine x_if_eq hC 51 dX9_dries_44 (by decide) (fun h13 => ?_) (fun h13 => ?_)
      · have q12 := (ie_s q12).1 h13
        refine x_iconst hC (0 : Int32) dX9_dries_51 (by decide) ?_
        subst q12
        exact x_sub [2, 0] rfl (kj (Or.inl rfl))
      · have q12 := (ie_s q12).2 h13
        refine x_iconst hC (1 : Int32) dX9_dries_47 (by decide) ?_
        refine x_goto hC 52 dX9_dries_48 (by decide) ?_
        subst q12
        exact x_sub [2, 0] rfl (kj (Or.inr rfl))
  · have hr := (ie_s hr).1 h4
    exact ex_no (by decide) hr

theorem dX9_done_0 : decode cX9_done 0 = .ok (.iload_n 1, 1) := by decide +kernel
theorem dX9_done_1 : decode cX9_done 1 = .ok (.ifCond .lt 14, 3) := by decide +kernel
theorem dX9_done_4 : decode cX9_done 4 = .ok (.iload_n 1, 1) := by decide +kernel
theorem dX9_done_5 : decode cX9_done 5 = .ok (.aload_n 0, 1) := by decide +kernel
theorem dX9_done_6 : decode cX9_done 6 = .ok (.getfield 45, 3) := by decide +kernel
theorem dX9_done_9 : decode cX9_done 9 = .ok (.getfield 109, 3) := by decide +kernel
theorem dX9_done_12 : decode cX9_done 12 = .ok (.if_icmp .lt 13, 3) := by decide +kernel
theorem dX9_done_15 : decode cX9_done 15 = .ok (.new 94, 3) := by decide +kernel
theorem dX9_done_25 : decode cX9_done 25 = .ok (.aload_n 0, 1) := by decide +kernel
theorem dX9_done_26 : decode cX9_done 26 = .ok (.getfield 61, 3) := by decide +kernel
theorem dX9_done_29 : decode cX9_done 29 = .ok (.aload_n 0, 1) := by decide +kernel
theorem dX9_done_30 : decode cX9_done 30 = .ok (.getfield 45, 3) := by decide +kernel
theorem dX9_done_33 : decode cX9_done 33 = .ok (.invokevirtual 215, 3) := by decide +kernel
theorem dX9_done_36 : decode cX9_done 36 = .ok (.iconst 0, 1) := by decide +kernel
theorem dX9_done_37 : decode cX9_done 37 = .ok (.istore_n 2, 1) := by decide +kernel
theorem dX9_done_38 : decode cX9_done 38 = .ok (.iload_n 2, 1) := by decide +kernel
theorem dX9_done_39 : decode cX9_done 39 = .ok (.sipush 300, 3) := by decide +kernel
theorem dX9_done_42 : decode cX9_done 42 = .ok (.if_icmp .gt 34, 3) := by decide +kernel
theorem dX9_done_45 : decode cX9_done 45 = .ok (.aload_n 0, 1) := by decide +kernel
theorem dX9_done_46 : decode cX9_done 46 = .ok (.getfield 61, 3) := by decide +kernel
theorem dX9_done_49 : decode cX9_done 49 = .ok (.getfield 188, 3) := by decide +kernel
theorem dX9_done_52 : decode cX9_done 52 = .ok (.iload_n 1, 1) := by decide +kernel
theorem dX9_done_53 : decode cX9_done 53 = .ok (.aaload, 1) := by decide +kernel
theorem dX9_done_54 : decode cX9_done 54 = .ok (.getfield 239, 3) := by decide +kernel
theorem dX9_done_57 : decode cX9_done 57 = .ok (.ifCond .eq 5, 3) := by decide +kernel
theorem dX9_done_60 : decode cX9_done 60 = .ok (.iload_n 2, 1) := by decide +kernel
theorem dX9_done_61 : decode cX9_done 61 = .ok (.ireturn, 1) := by decide +kernel
theorem dX9_done_62 : decode cX9_done 62 = .ok (.aload_n 0, 1) := by decide +kernel
theorem dX9_done_63 : decode cX9_done 63 = .ok (.getfield 64, 3) := by decide +kernel
theorem dX9_done_66 : decode cX9_done 66 = .ok (.iconst 1, 1) := by decide +kernel
theorem dX9_done_67 : decode cX9_done 67 = .ok (.invokestatic 199, 3) := by decide +kernel
theorem dX9_done_70 : decode cX9_done 70 = .ok (.iinc 2 1, 3) := by decide +kernel
theorem dX9_done_73 : decode cX9_done 73 = .ok (.goto (-35), 3) := by decide +kernel
theorem dX9_done_76 : decode cX9_done 76 = .ok (.iconst (-1), 1) := by decide +kernel
theorem dX9_done_77 : decode cX9_done 77 = .ok (.ireturn, 1) := by decide +kernel
def f_X9_done_L38 (i0 : Nat) (a1 : Int32) : Nat → Int32 → Mm → Option (Int32 × Int32 × Mm)
  | 0, _, _ => none
  | n + 1, v2, M =>
    if ((300 : Int32) < v2) then (some ((0 : Int32), (-1 : Int32), M)) else (if 0 ≤ a1.toInt ∧ a1.toInt < ((4 : Nat) : Int) then (if ((M (((i0 + 47) + 9) + 1 + 2 * ix a1) 4) = 0) then (bd1 (f_X9_letPass (i0 + 67) (1 : Int32) M) fun M9 => lz (v2 + (1 : Int32)) fun x12 => f_X9_done_L38 i0 a1 n x12 M9) else (some ((0 : Int32), v2, M))) else none)
def f_X9_done (i0 : Nat) (a1 : Int32) (M : Mm) : Option (Int32 × Int32 × Mm) :=
  if (a1 < 0) then (some ((3 : Int32), (0 : Int32), M)) else (if (a1 < (M (i0 + 29) 15)) then (bd1 (f_X1_copy (i0 + 47) (i0 + 29) M) fun M3 => (f_X9_done_L38 i0 a1 FU (0 : Int32) M3)) else (some ((3 : Int32), (0 : Int32), M)))
set_option maxHeartbeats 4000000 in
set_option maxRecDepth 100000 in
theorem l_X9_done_L38 {p : Program} {e : Env} {s : State} {m : MethodId} {args : Array Value} {below : List Frame} {meth : Method} {c : Code} {l : Launch} {G : GG} (hC : CX p s m args meth c cX9_done 3 RX9 (some .int) G) {i0 : Nat} (hi0 : (kd i0).1 = 6) (a1 : Int32) : ∀ (n : Nat) (v2 : Int32) (M : Mm) {r : Int32} {M9 : Mm} (hr : f_X9_done_L38 i0 a1 n v2 M = some ((0 : Int32), r, M9)), XJ p l e (RM 6 0 0 153) s m args below meth c G 3 (MQ below (QO G M9 false (some (.int r)) s.heap.size) args s 0 0 (AF G s.heap.size)) 0 0 M 38 [(0, .ref (G.2.1 i0)), (1, .int a1), (2, .int v2)] [] := by
  intro n
  induction n with
  | zero => intro v2 M r M9 hr; rw [f_X9_done_L38] at hr; cases hr
  | succ n ih =>
    intro v2 M r M9 hr
    rw [f_X9_done_L38] at hr
    refine x_iload_n hC dX9_done_38 rfl 2 rfl ?_
    refine x_sipush hC (300 : Int32) dX9_done_39 (by decide) ?_
    refine x_icmp_gt hC 76 dX9_done_42 (by decide) (fun h6 => ?_) (fun h6 => ?_)
    · have hr := (ie_s hr).1 h6
      refine x_iconst hC (-1 : Int32) dX9_done_76 (by decide) ?_
      cases hr
      exact x_widen (Nat.le_of_ble_eq_true rfl) (Nat.le_of_ble_eq_true rfl) (x_iret hC rfl dX9_done_77)
    · have hr := (ie_s hr).2 h6
      refine x_aload_n hC dX9_done_45 rfl 0 rfl ?_
      refine gf_X9_61 hC hi0 dX9_done_46 ?_
      refine gf_X9_188 hC (kr_6_9 hi0) dX9_done_49 ?_
      refine x_iload_n hC dX9_done_52 rfl 1 rfl ?_
      obtain ⟨h7, hr⟩ := it_s hr
      refine x_gald hC (kr_0_14 (kr_6_9 hi0)) h7 dX9_done_53 ?_
      refine gf_X9_239 hC (kr_gang (kr_0_14 (kr_6_9 hi0)) h7) dX9_done_54 ?_
      refine x_if_eq hC 62 dX9_done_57 (by decide) (fun h8 => ?_) (fun h8 => ?_)
      · have hr := (ie_s hr).1 h8
        refine x_aload_n hC dX9_done_62 rfl 0 rfl ?_
        refine gf_X9_64 hC hi0 dX9_done_63 ?_
        refine x_iconst hC (1 : Int32) dX9_done_66 (by decide) ?_
        obtain ⟨M9, q10, hr⟩ := bd1_s hr
        refine x_callS (As := [.ref (G.2.1 (i0 + 67)), .int (1 : Int32)]) hC (c_X9_letPass l G M (kr_6_10 hi0) (1 : Int32) q10) kc_yX9_letPass km_X9_199 kt_yX9_letPass kn_RX9 ky_yX9_letPass rfl ⟨rfl, rfl⟩ ⟨(Nat.le_of_ble_eq_true rfl), (Nat.le_of_ble_eq_true rfl)⟩ rfl (Nat.le_of_ble_eq_true rfl) ⟨(Nat.le_of_ble_eq_true rfl), (Nat.le_of_ble_eq_true rfl)⟩ dX9_done_67 (fun b11 => ?_)
        obtain ⟨x12, e13, hr⟩ := lz_s hr
        refine x_iinc hC [(2, .int x12), (0, .ref (G.2.1 i0)), (1, .int a1)] dX9_done_70 2 rfl (by rw [e13]; rfl) (Nat.le_of_ble_eq_true rfl) rfl ?_
        refine x_goto hC 38 dX9_done_73 (by decide) ?_
        exact x_sub [1, 2, 0] rfl (ih x12 M9 hr)
      · have hr := (ie_s hr).2 h8
        refine x_iload_n hC dX9_done_60 rfl 2 rfl ?_
        cases hr
        exact x_widen (Nat.le_of_ble_eq_true rfl) (Nat.le_of_ble_eq_true rfl) (x_iret hC rfl dX9_done_61)
set_option maxHeartbeats 4000000 in
set_option maxRecDepth 100000 in
theorem c_X9_done (l : Launch) (G : GG) (M : Mm) {i0 : Nat} (hi0 : (kd i0).1 = 6) (a1 : Int32) {r : Int32} {M9 : Mm} (hr : f_X9_done i0 a1 M = some ((0 : Int32), r, M9)) : Mo false l yX9_done (WS yX9_done cX9_done 3 (some .int)) (RM 6 0 0 153) 0 0 [.ref (G.2.1 i0), .int a1] G M (some (.int r)) M9 := by
  refine Mo.of (by decide +kernel) (Nat.le_of_ble_eq_true rfl) ?_
  intro p e s m args below meth c hC
  have hC : CX p s m args meth c cX9_done 3 RX9 (some .int) G := hC
  rw [f_X9_done] at hr
  show XJ p l e (RM 6 0 0 153) s m args below meth c G 3 _ 0 0 M 0 [(0, .ref (G.2.1 i0)), (1, .int a1)] []
  refine x_iload_n hC dX9_done_0 rfl 1 rfl ?_
  refine x_if_lt hC 15 dX9_done_1 (by decide) (fun h1 => ?_) (fun h1 => ?_)
  · have hr := (ie_s hr).1 h1
    exact ex_no (by decide) hr
  · have hr := (ie_s hr).2 h1
    refine x_iload_n hC dX9_done_4 rfl 1 rfl ?_
    refine x_aload_n hC dX9_done_5 rfl 0 rfl ?_
    refine gf_X9_45 hC hi0 dX9_done_6 ?_
    refine gf_X9_109 hC (kr_6_7 hi0) dX9_done_9 ?_
    refine x_icmp_lt hC 25 dX9_done_12 (by decide) (fun h2 => ?_) (fun h2 => ?_)
    · have hr := (ie_s hr).1 h2
      refine x_aload_n hC dX9_done_25 rfl 0 rfl ?_
      refine gf_X9_61 hC hi0 dX9_done_26 ?_
      refine x_aload_n hC dX9_done_29 rfl 0 rfl ?_
      refine gf_X9_45 hC hi0 dX9_done_30 ?_
      obtain ⟨M3, q4, hr⟩ := bd1_s hr
      refine x_callV (ci := 0) (q := (RX1, TX1, 17)) (As := [.ref (G.2.1 (i0 + 29))]) hC (c_X1_copy l G M (kr_6_9 hi0) (kr_6_7 hi0) q4) kc_yX1_copy km_X9_215 ki_yX1_copy kv_yX1_copy kn_RX1 ky_yX1_copy rfl ⟨rfl, rfl⟩ ⟨(Nat.le_of_ble_eq_true rfl), (Nat.le_of_ble_eq_true rfl)⟩ (kr_6_9 hi0) (by decide) rfl rfl (Nat.le_of_ble_eq_true rfl) ⟨(Nat.le_of_ble_eq_true rfl), (Nat.le_of_ble_eq_true rfl)⟩ dX9_done_33 (fun b5 => ?_)
      refine x_iconst hC (0 : Int32) dX9_done_36 (by decide) ?_
      refine x_istore_n hC [(2, .int (0 : Int32)), (0, .ref (G.2.1 i0)), (1, .int a1)] dX9_done_37 rfl (Nat.le_of_ble_eq_true rfl) rfl ?_
      exact x_sub [1, 2, 0] rfl (l_X9_done_L38 hC hi0 a1 FU (0 : Int32) M3 hr)
    · have hr := (ie_s hr).2 h2
      exact ex_no (by decide) hr
