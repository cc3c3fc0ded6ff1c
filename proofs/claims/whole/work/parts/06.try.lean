theorem dX9_isWithin_0 : decode cX9_isWithin 0 = .ok (.iload_n 0, 1) := by decide +kernel
theorem dX9_isWithin_1 : decode cX9_isWithin 1 = .ok (.iload_n 1, 1) := by decide +kernel
theorem dX9_isWithin_2 : decode cX9_isWithin 2 = .ok (.if_icmp .lt 12, 3) := by decide +kernel
theorem dX9_isWithin_5 : decode cX9_isWithin 5 = .ok (.iload_n 0, 1) := by decide +kernel
theorem dX9_isWithin_6 : decode cX9_isWithin 6 = .ok (.iload_n 2, 1) := by decide +kernel
theorem dX9_isWithin_7 : decode cX9_isWithin 7 = .ok (.if_icmp .gt 7, 3) := by decide +kernel
theorem dX9_isWithin_10 : decode cX9_isWithin 10 = .ok (.iconst 1, 1) := by decide +kernel
theorem dX9_isWithin_11 : decode cX9_isWithin 11 = .ok (.goto 4, 3) := by decide +kernel
theorem dX9_isWithin_14 : decode cX9_isWithin 14 = .ok (.iconst 0, 1) := by decide +kernel
theorem dX9_isWithin_15 : decode cX9_isWithin 15 = .ok (.ireturn, 1) := by decide +kernel

def f_X9_isWithin (a0 : Int32) (a1 : Int32) (a2 : Int32) : Int32 :=
  lz (if (a0 < a1) then ((0 : Int32)) else (if (a2 < a0) then ((0 : Int32)) else ((1 : Int32)))) fun x4 => x4

set_option maxHeartbeats 4000000 in
set_option maxRecDepth 100000 in
theorem c_X9_isWithin (l : Launch) (G : GG) (M : Mm) (a0 : Int32) (a1 : Int32) (a2 : Int32) {r : Int32} (hr : f_X9_isWithin a0 a1 a2 = r) : Mo true l yX9_isWithin (WS yX9_isWithin cX9_isWithin 3 (some .boolean)) (RM 0 0 0 0) 0 0 [.int a0, .int a1, .int a2] G M (some (.int r)) M := by
  refine Mo.of (by decide +kernel) (Nat.le_of_ble_eq_true rfl) ?_
  intro p e s m args below meth c hC
  have hC : CX p s m args meth c cX9_isWithin 3 RX9 (some .boolean) G := hC
  rw [f_X9_isWithin] at hr
  show XJ p l e (RM 0 0 0 0) s m args below meth c G 3 _ 0 0 M 0 [(0, .int a0), (1, .int a1), (2, .int a2)] []
  refine x_iload_n hC dX9_isWithin_0 rfl 0 rfl ?_
  refine x_iload_n hC dX9_isWithin_1 rfl 1 rfl ?_
  obtain ⟨x4, e5, hr⟩ := lz_s hr
  have q1 := e5.symm
  refine x_joinB (P := (x4 = 0 ∨ x4 = 1)) (M' := M) (pc' := 15) (lv' := []) (st' := [.int x4]) ?_ ?_
  · intro b6
    subst hr
    exact x_zret hC rfl b6 dX9_isWithin_15
  · intro kj
    refine x_icmp_lt hC 14 dX9_isWithin_2 (by decide) (fun h2 => ?_) (fun h2 => ?_)
    · have q1 := (ie_s q1).1 h2
      refine x_iconst hC (0 : Int32) dX9_isWithin_14 (by decide) ?_
      subst q1
      exact x_sub [] rfl (kj (Or.inl rfl))
    · have q1 := (ie_s q1).2 h2
      refine x_iload_n hC dX9_isWithin_5 rfl 0 rfl ?_
      refine x_iload_n hC dX9_isWithin_6 rfl 2 rfl ?_
      refine x_icmp_gt hC 14 dX9_isWithin_7 (by decide) (fun h3 => ?_) (fun h3 => ?_)
      · have q1 := (ie_s q1).1 h3
        refine x_iconst hC (0 : Int32) dX9_isWithin_14 (by decide) ?_
        subst q1
        exact x_sub [] rfl (kj (Or.inl rfl))
      · have q1 := (ie_s q1).2 h3
        refine x_iconst hC (1 : Int32) dX9_isWithin_10 (by decide) ?_
        refine x_goto hC 15 dX9_isWithin_11 (by decide) ?_
        subst q1
        exact x_sub [] rfl (kj (Or.inr rfl))

theorem dX9_isCell_0 : decode cX9_isCell 0 = .ok (.iload_n 0, 1) := by decide +kernel
theorem dX9_isCell_1 : decode cX9_isCell 1 = .ok (.iconst 0, 1) := by decide +kernel
theorem dX9_isCell_2 : decode cX9_isCell 2 = .ok (.bipush 7, 2) := by decide +kernel
theorem dX9_isCell_4 : decode cX9_isCell 4 = .ok (.invokestatic 144, 3) := by decide +kernel
theorem dX9_isCell_7 : decode cX9_isCell 7 = .ok (.ifCond .eq 17, 3) := by decide +kernel
theorem dX9_isCell_10 : decode cX9_isCell 10 = .ok (.iload_n 1, 1) := by decide +kernel
theorem dX9_isCell_11 : decode cX9_isCell 11 = .ok (.iconst 0, 1) := by decide +kernel
theorem dX9_isCell_12 : decode cX9_isCell 12 = .ok (.bipush 7, 2) := by decide +kernel
theorem dX9_isCell_14 : decode cX9_isCell 14 = .ok (.invokestatic 144, 3) := by decide +kernel
theorem dX9_isCell_17 : decode cX9_isCell 17 = .ok (.ifCond .eq 7, 3) := by decide +kernel
theorem dX9_isCell_20 : decode cX9_isCell 20 = .ok (.iconst 1, 1) := by decide +kernel
theorem dX9_isCell_21 : decode cX9_isCell 21 = .ok (.goto 4, 3) := by decide +kernel
theorem dX9_isCell_24 : decode cX9_isCell 24 = .ok (.iconst 0, 1) := by decide +kernel
theorem dX9_isCell_25 : decode cX9_isCell 25 = .ok (.ireturn, 1) := by decide +kernel

def f_X9_isCell (a0 : Int32) (a1 : Int32) : Int32 :=
  lz (f_X9_isWithin a0 (0 : Int32) (7 : Int32)) fun x1 => lz (if (x1 = 0) then ((0 : Int32)) else (lz (f_X9_isWithin a1 (0 : Int32) (7 : Int32)) fun x6 => if (x6 = 0) then ((0 : Int32)) else ((1 : Int32)))) fun x10 => x10

set_option maxHeartbeats 4000000 in
set_option maxRecDepth 100000 in
theorem c_X9_isCell (l : Launch) (G : GG) (M : Mm) (a0 : Int32) (a1 : Int32) {r : Int32} (hr : f_X9_isCell a0 a1 = r) : Mo true l yX9_isCell (WS yX9_isCell cX9_isCell 2 (some .boolean)) (RM 1 0 0 22) 0 0 [.int a0, .int a1] G M (some (.int r)) M := by
  refine Mo.of (by decide +kernel) (Nat.le_of_ble_eq_true rfl) ?_
  intro p e s m args below meth c hC
  have hC : CX p s m args meth c cX9_isCell 2 RX9 (some .boolean) G := hC
  rw [f_X9_isCell] at hr
  show XJ p l e (RM 1 0 0 22) s m args below meth c G 2 _ 0 0 M 0 [(0, .int a0), (1, .int a1)] []
  refine x_iload_n hC dX9_isCell_0 rfl 0 rfl ?_
  refine x_iconst hC (0 : Int32) dX9_isCell_1 (by decide) ?_
  refine x_bipush hC (7 : Int32) dX9_isCell_2 (by decide) ?_
  obtain ⟨x1, e2, hr⟩ := lz_s hr
  refine x_callS (As := [.int a0, .int (0 : Int32), .int (7 : Int32)]) hC (c_X9_isWithin l G M a0 (0 : Int32) (7 : Int32) e2.symm) kc_yX9_isWithin km_X9_144 kt_yX9_isWithin kn_RX9 ky_yX9_isWithin rfl ⟨rfl, rfl⟩ ⟨(Nat.le_of_ble_eq_true rfl), (Nat.le_of_ble_eq_true rfl)⟩ rfl (Nat.le_of_ble_eq_true rfl) ⟨(Nat.le_of_ble_eq_true rfl), (Nat.le_of_ble_eq_true rfl)⟩ dX9_isCell_4 (fun b3 => ?_)
  obtain ⟨x10, e11, hr⟩ := lz_s hr
  have q4 := e11.symm
  refine x_joinB (P := (x10 = 0 ∨ x10 = 1)) (M' := M) (pc' := 25) (lv' := []) (st' := [.int x10]) ?_ ?_
  · intro b12
    subst hr
    exact x_zret hC rfl b12 dX9_isCell_25
  · intro kj
    refine x_if_eq hC 24 dX9_isCell_7 (by decide) (fun h5 => ?_) (fun h5 => ?_)
    · have q4 := (ie_s q4).1 h5
      refine x_iconst hC (0 : Int32) dX9_isCell_24 (by decide) ?_
      subst q4
      exact x_sub [] rfl (kj (Or.inl rfl))
    · have q4 := (ie_s q4).2 h5
      refine x_iload_n hC dX9_isCell_10 rfl 1 rfl ?_
      refine x_iconst hC (0 : Int32) dX9_isCell_11 (by decide) ?_
      refine x_bipush hC (7 : Int32) dX9_isCell_12 (by decide) ?_
      obtain ⟨x6, e7, q4⟩ := lz_s q4
      refine x_callS (As := [.int a1, .int (0 : Int32), .int (7 : Int32)]) hC (c_X9_isWithin l G M a1 (0 : Int32) (7 : Int32) e7.symm) kc_yX9_isWithin km_X9_144 kt_yX9_isWithin kn_RX9 ky_yX9_isWithin rfl ⟨rfl, rfl⟩ ⟨(Nat.le_of_ble_eq_true rfl), (Nat.le_of_ble_eq_true rfl)⟩ rfl (Nat.le_of_ble_eq_true rfl) ⟨(Nat.le_of_ble_eq_true rfl), (Nat.le_of_ble_eq_true rfl)⟩ dX9_isCell_14 (fun b8 => ?_)
      refine x_if_eq hC 24 dX9_isCell_17 (by decide) (fun h9 => ?_) (fun h9 => ?_)
      · have q4 := (ie_s q4).1 h9
        refine x_iconst hC (0 : Int32) dX9_isCell_24 (by decide) ?_
        subst q4
        exact x_sub [] rfl (kj (Or.inl rfl))
      · have q4 := (ie_s q4).2 h9
        refine x_iconst hC (1 : Int32) dX9_isCell_20 (by decide) ?_
        refine x_goto hC 25 dX9_isCell_21 (by decide) ?_
        subst q4
        exact x_sub [] rfl (kj (Or.inr rfl))

theorem dX9_cellAt_0 : decode cX9_cellAt 0 = .ok (.iload_n 1, 1) := by decide +kernel
theorem dX9_cellAt_1 : decode cX9_cellAt 1 = .ok (.bipush 8, 2) := by decide +kernel
theorem dX9_cellAt_3 : decode cX9_cellAt 3 = .ok (.imul, 1) := by decide +kernel
theorem dX9_cellAt_4 : decode cX9_cellAt 4 = .ok (.iload_n 0, 1) := by decide +kernel
theorem dX9_cellAt_5 : decode cX9_cellAt 5 = .ok (.iadd, 1) := by decide +kernel
theorem dX9_cellAt_6 : decode cX9_cellAt 6 = .ok (.ireturn, 1) := by decide +kernel

def f_X9_cellAt (a0 : Int32) (a1 : Int32) : Int32 :=
  ((a1 * (8 : Int32)) + a0)

set_option maxHeartbeats 4000000 in
set_option maxRecDepth 100000 in
theorem c_X9_cellAt (l : Launch) (G : GG) (M : Mm) (a0 : Int32) (a1 : Int32) {r : Int32} (hr : f_X9_cellAt a0 a1 = r) : Mo false l yX9_cellAt (WS yX9_cellAt cX9_cellAt 2 (some .int)) (RM 0 0 0 0) 0 0 [.int a0, .int a1] G M (some (.int r)) M := by
  refine Mo.of (by decide +kernel) (Nat.le_of_ble_eq_true rfl) ?_
  intro p e s m args below meth c hC
  have hC : CX p s m args meth c cX9_cellAt 2 RX9 (some .int) G := hC
  rw [f_X9_cellAt] at hr
  show XJ p l e (RM 0 0 0 0) s m args below meth c G 2 _ 0 0 M 0 [(0, .int a0), (1, .int a1)] []
  refine x_iload_n hC dX9_cellAt_0 rfl 1 rfl ?_
  refine x_bipush hC (8 : Int32) dX9_cellAt_1 (by decide) ?_
  refine x_imul hC dX9_cellAt_3 ?_
  refine x_iload_n hC dX9_cellAt_4 rfl 0 rfl ?_
  refine x_iadd hC dX9_cellAt_5 ?_
  subst hr
  exact x_iret hC rfl dX9_cellAt_6

theorem dX9_held_0 : decode cX9_held 0 = .ok (.iconst 0, 1) := by decide +kernel
theorem dX9_held_1 : decode cX9_held 1 = .ok (.iload_n 1, 1) := by decide +kernel
theorem dX9_held_2 : decode cX9_held 2 = .ok (.iload_n 0, 1) := by decide +kernel
theorem dX9_held_3 : decode cX9_held 3 = .ok (.invokestatic 231, 3) := by decide +kernel
theorem dX9_held_6 : decode cX9_held 6 = .ok (.invokestatic 236, 3) := by decide +kernel
theorem dX9_held_9 : decode cX9_held 9 = .ok (.ireturn, 1) := by decide +kernel

def f_X9_held (a0 : Int32) (a1 : Int32) : Int32 :=
  (imax (0 : Int32) (imin a1 a0))

set_option maxHeartbeats 4000000 in
set_option maxRecDepth 100000 in
theorem c_X9_held (l : Launch) (G : GG) (M : Mm) (a0 : Int32) (a1 : Int32) {r : Int32} (hr : f_X9_held a0 a1 = r) : Mo false l yX9_held (WS yX9_held cX9_held 2 (some .int)) (RM 1 0 0 40) 0 0 [.int a0, .int a1] G M (some (.int r)) M := by
  refine Mo.of (by decide +kernel) (Nat.le_of_ble_eq_true rfl) ?_
  intro p e s m args below meth c hC
  have hC : CX p s m args meth c cX9_held 2 RX9 (some .int) G := hC
  rw [f_X9_held] at hr
  show XJ p l e (RM 1 0 0 40) s m args below meth c G 2 _ 0 0 M 0 [(0, .int a0), (1, .int a1)] []
  refine x_iconst hC (0 : Int32) dX9_held_0 (by decide) ?_
  refine x_iload_n hC dX9_held_1 rfl 1 rfl ?_
  refine x_iload_n hC dX9_held_2 rfl 0 rfl ?_
  refine x_mmin hC km_X9_231 kt_Mmin kn_Math kc_Mmin (Nat.le_of_ble_eq_true rfl) (Nat.le_of_ble_eq_true rfl) ⟨(Nat.le_of_ble_eq_true rfl), (Nat.le_of_ble_eq_true rfl)⟩ dX9_held_3 ?_
  refine x_mmax hC km_X9_236 kt_Mmax kn_Math kc_Mmax (Nat.le_of_ble_eq_true rfl) (Nat.le_of_ble_eq_true rfl) ⟨(Nat.le_of_ble_eq_true rfl), (Nat.le_of_ble_eq_true rfl)⟩ dX9_held_6 ?_
  subst hr
  exact x_iret hC rfl dX9_held_9

theorem dX9_wetnessBehindNight_0 : decode cX9_wetnessBehindNight 0 = .ok (.iconst 2, 1) := by decide +kernel
theorem dX9_wetnessBehindNight_1 : decode cX9_wetnessBehindNight 1 = .ok (.iload_n 2, 1) := by decide +kernel
theorem dX9_wetnessBehindNight_2 : decode cX9_wetnessBehindNight 2 = .ok (.imul, 1) := by decide +kernel
theorem dX9_wetnessBehindNight_3 : decode cX9_wetnessBehindNight 3 = .ok (.iload_n 3, 1) := by decide +kernel
theorem dX9_wetnessBehindNight_4 : decode cX9_wetnessBehindNight 4 = .ok (.isub, 1) := by decide +kernel
theorem dX9_wetnessBehindNight_5 : decode cX9_wetnessBehindNight 5 = .ok (.iload_n 1, 1) := by decide +kernel
theorem dX9_wetnessBehindNight_6 : decode cX9_wetnessBehindNight 6 = .ok (.ifCond .eq 7, 3) := by decide +kernel
theorem dX9_wetnessBehindNight_9 : decode cX9_wetnessBehindNight 9 = .ok (.iload_n 3, 1) := by decide +kernel
theorem dX9_wetnessBehindNight_10 : decode cX9_wetnessBehindNight 10 = .ok (.goto 4, 3) := by decide +kernel
theorem dX9_wetnessBehindNight_13 : decode cX9_wetnessBehindNight 13 = .ok (.iconst 0, 1) := by decide +kernel
theorem dX9_wetnessBehindNight_14 : decode cX9_wetnessBehindNight 14 = .ok (.isub, 1) := by decide +kernel
theorem dX9_wetnessBehindNight_15 : decode cX9_wetnessBehindNight 15 = .ok (.istore 4, 2) := by decide +kernel
theorem dX9_wetnessBehindNight_17 : decode cX9_wetnessBehindNight 17 = .ok (.iload_n 0, 1) := by decide +kernel
theorem dX9_wetnessBehindNight_18 : decode cX9_wetnessBehindNight 18 = .ok (.iload 4, 2) := by decide +kernel
theorem dX9_wetnessBehindNight_20 : decode cX9_wetnessBehindNight 20 = .ok (.iadd, 1) := by decide +kernel
theorem dX9_wetnessBehindNight_21 : decode cX9_wetnessBehindNight 21 = .ok (.bipush 20, 2) := by decide +kernel
theorem dX9_wetnessBehindNight_23 : decode cX9_wetnessBehindNight 23 = .ok (.invokestatic 228, 3) := by decide +kernel
theorem dX9_wetnessBehindNight_26 : decode cX9_wetnessBehindNight 26 = .ok (.ireturn, 1) := by decide +kernel

def f_X9_wetnessBehindNight (a0 : Int32) (a1 : Int32) (a2 : Int32) (a3 : Int32) : Int32 :=
  lz (if (a1 = 0) then ((0 : Int32)) else (a3)) fun x3 => lz ((((2 : Int32) * a2) - a3) - x3) fun x5 => lz (f_X9_held (a0 + x5) (20 : Int32)) fun x7 => x7

set_option maxHeartbeats 4000000 in
set_option maxRecDepth 100000 in
theorem c_X9_wetnessBehindNight (l : Launch) (G : GG) (M : Mm) (a0 : Int32) (a1 : Int32) (a2 : Int32) (a3 : Int32) {r : Int32} (hr : f_X9_wetnessBehindNight a0 a1 a2 a3 = r) : Mo false l yX9_wetnessBehindNight (WS yX9_wetnessBehindNight cX9_wetnessBehindNight 5 (some .int)) (RM 2 0 0 61) 0 0 [.int a0, .int a1, .int a2, .int a3] G M (some (.int r)) M := by
  refine Mo.of (by decide +kernel) (Nat.le_of_ble_eq_true rfl) ?_
  intro p e s m args below meth c hC
  have hC : CX p s m args meth c cX9_wetnessBehindNight 5 RX9 (some .int) G := hC
  rw [f_X9_wetnessBehindNight] at hr
  show XJ p l e (RM 2 0 0 61) s m args below meth c G 5 _ 0 0 M 0 [(0, .int a0), (1, .int a1), (2, .int a2), (3, .int a3)] []
  refine x_iconst hC (2 : Int32) dX9_wetnessBehindNight_0 (by decide) ?_
  refine x_iload_n hC dX9_wetnessBehindNight_1 rfl 2 rfl ?_
  refine x_imul hC dX9_wetnessBehindNight_2 ?_
  refine x_iload_n hC dX9_wetnessBehindNight_3 rfl 3 rfl ?_
  refine x_isub hC dX9_wetnessBehindNight_4 ?_
  refine x_iload_n hC dX9_wetnessBehindNight_5 rfl 1 rfl ?_
  obtain ⟨x3, e4, hr⟩ := lz_s hr
  have q1 := e4.symm
  refine x_join (M' := M) (pc' := 14) (lv' := [(0, .int a0)]) (st' := [.int x3, .int (((2 : Int32) * a2) - a3)]) ?_ ?_
  · refine x_isub hC dX9_wetnessBehindNight_14 ?_
    obtain ⟨x5, e6, hr⟩ := lz_s hr
    refine x_topi e6 ?_
    refine x_istore hC [(4, .int x5), (0, .int a0)] dX9_wetnessBehindNight_15  (Nat.le_of_ble_eq_true rfl) rfl ?_
    refine x_iload_n hC dX9_wetnessBehindNight_17 rfl 1 rfl ?_
    refine x_iload hC dX9_wetnessBehindNight_18 0 rfl ?_
    refine x_iadd hC dX9_wetnessBehindNight_20 ?_
    refine x_bipush hC (20 : Int32) dX9_wetnessBehindNight_21 (by decide) ?_
    obtain ⟨x7, e8, hr⟩ := lz_s hr
    refine x_callS (As := [.int (a0 + x5), .int (20 : Int32)]) hC (c_X9_held l G M (a0 + x5) (20 : Int32) e8.symm) kc_yX9_held km_X9_228 kt_yX9_held kn_RX9 ky_yX9_held rfl ⟨rfl, rfl⟩ ⟨(Nat.le_of_ble_eq_true rfl), (Nat.le_of_ble_eq_true rfl)⟩ rfl (Nat.le_of_ble_eq_true rfl) ⟨(Nat.le_of_ble_eq_true rfl), (Nat.le_of_ble_eq_true rfl)⟩ dX9_wetnessBehindNight_23 (fun b9 => ?_)
    subst hr
    exact x_iret hC rfl dX9_wetnessBehindNight_26
  · intro kj
    refine x_if_eq hC 13 dX9_wetnessBehindNight_6 (by decide) (fun h2 => ?_) (fun h2 => ?_)
    · have q1 := (ie_s q1).1 h2
      refine x_iconst hC (0 : Int32) dX9_wetnessBehindNight_13 (by decide) ?_
      subst q1
      exact x_sub [0] rfl kj
    · have q1 := (ie_s q1).2 h2
      refine x_iload_n hC dX9_wetnessBehindNight_9 rfl 3 rfl ?_
      refine x_goto hC 14 dX9_wetnessBehindNight_10 (by decide) ?_
      subst q1
      exact x_sub [0] rfl kj

theorem dX9_mixed_0 : decode cX9_mixed 0 = .ok (.iload_n 0, 1) := by decide +kernel
theorem dX9_mixed_1 : decode cX9_mixed 1 = .ok (.iload_n 2, 1) := by decide +kernel
theorem dX9_mixed_2 : decode cX9_mixed 2 = .ok (.iadd, 1) := by decide +kernel
theorem dX9_mixed_3 : decode cX9_mixed 3 = .ok (.istore 4, 2) := by decide +kernel
theorem dX9_mixed_5 : decode cX9_mixed 5 = .ok (.iload 4, 2) := by decide +kernel
theorem dX9_mixed_7 : decode cX9_mixed 7 = .ok (.ifCond .ne 7, 3) := by decide +kernel
theorem dX9_mixed_10 : decode cX9_mixed 10 = .ok (.iconst 0, 1) := by decide +kernel
theorem dX9_mixed_11 : decode cX9_mixed 11 = .ok (.goto 13, 3) := by decide +kernel
theorem dX9_mixed_14 : decode cX9_mixed 14 = .ok (.iload_n 1, 1) := by decide +kernel
theorem dX9_mixed_15 : decode cX9_mixed 15 = .ok (.iload_n 0, 1) := by decide +kernel
theorem dX9_mixed_16 : decode cX9_mixed 16 = .ok (.imul, 1) := by decide +kernel
theorem dX9_mixed_17 : decode cX9_mixed 17 = .ok (.iload_n 3, 1) := by decide +kernel
theorem dX9_mixed_18 : decode cX9_mixed 18 = .ok (.iload_n 2, 1) := by decide +kernel
theorem dX9_mixed_19 : decode cX9_mixed 19 = .ok (.imul, 1) := by decide +kernel
theorem dX9_mixed_20 : decode cX9_mixed 20 = .ok (.iadd, 1) := by decide +kernel
theorem dX9_mixed_21 : decode cX9_mixed 21 = .ok (.iload 4, 2) := by decide +kernel
theorem dX9_mixed_23 : decode cX9_mixed 23 = .ok (.idiv, 1) := by decide +kernel
theorem dX9_mixed_24 : decode cX9_mixed 24 = .ok (.ireturn, 1) := by decide +kernel

def f_X9_mixed (a0 : Int32) (a1 : Int32) (a2 : Int32) (a3 : Int32) (M : Mm) : Option Int32 :=
  bd1 (if ((a0 + a2) = 0) then (some ((0 : Int32))) else (if ¬ ((a0 + a2) = 0) then (some ((((a1 * a0) + (a3 * a2)) / (a0 + a2)))) else none)) fun x4 => some x4

set_option maxHeartbeats 4000000 in
set_option maxRecDepth 100000 in
theorem c_X9_mixed (l : Launch) (G : GG) (M : Mm) (a0 : Int32) (a1 : Int32) (a2 : Int32) (a3 : Int32) {r : Int32} (hr : f_X9_mixed a0 a1 a2 a3 M = some r) : Mo false l yX9_mixed (WS yX9_mixed cX9_mixed 5 (some .int)) (RM 0 0 0 0) 0 0 [.int a0, .int a1, .int a2, .int a3] G M (some (.int r)) M := by
  refine Mo.of (by decide +kernel) (Nat.le_of_ble_eq_true rfl) ?_
  intro p e s m args below meth c hC
  have hC : CX p s m args meth c cX9_mixed 5 RX9 (some .int) G := hC
  rw [f_X9_mixed] at hr
  show XJ p l e (RM 0 0 0 0) s m args below meth c G 5 _ 0 0 M 0 [(0, .int a0), (1, .int a1), (2, .int a2), (3, .int a3)] []
  refine x_iload_n hC dX9_mixed_0 rfl 0 rfl ?_
  refine x_iload_n hC dX9_mixed_1 rfl 2 rfl ?_
  refine x_iadd hC dX9_mixed_2 ?_
  refine x_istore hC [(4, .int (a0 + a2)), (0, .int a0), (1, .int a1), (2, .int a2), (3, .int a3)] dX9_mixed_3  (Nat.le_of_ble_eq_true rfl) rfl ?_
  refine x_iload hC dX9_mixed_5 0 rfl ?_
  obtain ⟨x4, q1, hr⟩ := bd1_s hr
  refine x_join (M' := M) (pc' := 24) (lv' := []) (st' := [.int x4]) ?_ ?_
  · cases hr
    exact x_iret hC rfl dX9_mixed_24
  · intro kj
    refine x_if_ne hC 14 dX9_mixed_7 (by decide) (fun h2 => ?_) (fun h2 => ?_)
    · have q1 := (ie_s q1).2 h2
      refine x_iload_n hC dX9_mixed_14 rfl 2 rfl ?_
      refine x_iload_n hC dX9_mixed_15 rfl 1 rfl ?_
      refine x_imul hC dX9_mixed_16 ?_
      refine x_iload_n hC dX9_mixed_17 rfl 4 rfl ?_
      refine x_iload_n hC dX9_mixed_18 rfl 3 rfl ?_
      refine x_imul hC dX9_mixed_19 ?_
      refine x_iadd hC dX9_mixed_20 ?_
      refine x_iload hC dX9_mixed_21 0 rfl ?_
      obtain ⟨h3, q1⟩ := it_s q1
      refine x_idiv hC dX9_mixed_23 h3 ?_
      cases q1
      exact x_sub [] rfl kj
    · have q1 := (ie_s q1).1 h2
      refine x_iconst hC (0 : Int32) dX9_mixed_10 (by decide) ?_
      refine x_goto hC 24 dX9_mixed_11 (by decide) ?_
      cases q1
      exact x_sub [] rfl kj

theorem dX1_addToStack_0 : decode cX1_addToStack 0 = .ok (.aload_n 0, 1) := by decide +kernel
theorem dX1_addToStack_1 : decode cX1_addToStack 1 = .ok (.getfield 24, 3) := by decide +kernel
theorem dX1_addToStack_4 : decode cX1_addToStack 4 = .ok (.iload_n 1, 1) := by decide +kernel
theorem dX1_addToStack_5 : decode cX1_addToStack 5 = .ok (.aload_n 0, 1) := by decide +kernel
theorem dX1_addToStack_6 : decode cX1_addToStack 6 = .ok (.getfield 21, 3) := by decide +kernel
theorem dX1_addToStack_9 : decode cX1_addToStack 9 = .ok (.iload_n 1, 1) := by decide +kernel
theorem dX1_addToStack_10 : decode cX1_addToStack 10 = .ok (.iaload, 1) := by decide +kernel
theorem dX1_addToStack_11 : decode cX1_addToStack 11 = .ok (.aload_n 0, 1) := by decide +kernel
theorem dX1_addToStack_12 : decode cX1_addToStack 12 = .ok (.getfield 24, 3) := by decide +kernel
theorem dX1_addToStack_15 : decode cX1_addToStack 15 = .ok (.iload_n 1, 1) := by decide +kernel
theorem dX1_addToStack_16 : decode cX1_addToStack 16 = .ok (.iaload, 1) := by decide +kernel
theorem dX1_addToStack_17 : decode cX1_addToStack 17 = .ok (.iload_n 2, 1) := by decide +kernel
theorem dX1_addToStack_18 : decode cX1_addToStack 18 = .ok (.iload_n 3, 1) := by decide +kernel
theorem dX1_addToStack_19 : decode cX1_addToStack 19 = .ok (.invokestatic 108, 3) := by decide +kernel
theorem dX1_addToStack_22 : decode cX1_addToStack 22 = .ok (.iastore, 1) := by decide +kernel
theorem dX1_addToStack_23 : decode cX1_addToStack 23 = .ok (.aload_n 0, 1) := by decide +kernel
theorem dX1_addToStack_24 : decode cX1_addToStack 24 = .ok (.getfield 21, 3) := by decide +kernel
theorem dX1_addToStack_27 : decode cX1_addToStack 27 = .ok (.iload_n 1, 1) := by decide +kernel
theorem dX1_addToStack_28 : decode cX1_addToStack 28 = .ok (.dup2, 1) := by decide +kernel
theorem dX1_addToStack_29 : decode cX1_addToStack 29 = .ok (.iaload, 1) := by decide +kernel
theorem dX1_addToStack_30 : decode cX1_addToStack 30 = .ok (.iload_n 2, 1) := by decide +kernel
theorem dX1_addToStack_31 : decode cX1_addToStack 31 = .ok (.iadd, 1) := by decide +kernel
theorem dX1_addToStack_32 : decode cX1_addToStack 32 = .ok (.iastore, 1) := by decide +kernel
theorem dX1_addToStack_33 : decode cX1_addToStack 33 = .ok (.return_, 1) := by decide +kernel

def f_X1_addToStack (i0 : Nat) (a1 : Int32) (a2 : Int32) (a3 : Int32) (M : Mm) : Option Mm :=
  if 0 ≤ a1.toInt ∧ a1.toInt < ((64 : Nat) : Int) then (if 0 ≤ a1.toInt ∧ a1.toInt < ((64 : Nat) : Int) then (bd1 (f_X9_mixed (M (i0 + 4) (ix a1)) (M (i0 + 5) (ix a1)) a2 a3 M) fun x3 => if 0 ≤ a1.toInt ∧ a1.toInt < ((64 : Nat) : Int) then (lz (wr M (i0 + 5) (ix a1) x3) fun M7 => if 0 ≤ a1.toInt ∧ a1.toInt < ((64 : Nat) : Int) then (if 0 ≤ a1.toInt ∧ a1.toInt < ((64 : Nat) : Int) then (lz (wr M7 (i0 + 4) (ix a1) ((M7 (i0 + 4) (ix a1)) + a2)) fun M11 => some M11) else none) else none) else none) else none) else none

set_option maxHeartbeats 4000000 in
set_option maxRecDepth 100000 in
theorem c_X1_addToStack (l : Launch) (G : GG) (M : Mm) {i0 : Nat} (hi0 : (kd i0).1 = 0) (a1 : Int32) (a2 : Int32) (a3 : Int32) {M9 : Mm} (hr : f_X1_addToStack i0 a1 a2 a3 M = some M9) : Mo false l yX1_addToStack (WS yX1_addToStack cX1_addToStack 4 none) (RM 1 0 0 24) 0 0 [.ref (G.2.1 i0), .int a1, .int a2, .int a3] G M none M9 := by
  refine Mo.of (by decide +kernel) (Nat.le_of_ble_eq_true rfl) ?_
  intro p e s m args below meth c hC
  have hC : CX p s m args meth c cX1_addToStack 4 RX1 none G := hC
  rw [f_X1_addToStack] at hr
  show XJ p l e (RM 1 0 0 24) s m args below meth c G 4 _ 0 0 M 0 [(0, .ref (G.2.1 i0)), (1, .int a1), (2, .int a2), (3, .int a3)] []
  refine x_aload_n hC dX1_addToStack_0 rfl 0 rfl ?_
  refine gf_X1_24 hC hi0 dX1_addToStack_1 ?_
  refine x_iload_n hC dX1_addToStack_4 rfl 1 rfl ?_
  refine x_aload_n hC dX1_addToStack_5 rfl 0 rfl ?_
  refine gf_X1_21 hC hi0 dX1_addToStack_6 ?_
  refine x_iload_n hC dX1_addToStack_9 rfl 1 rfl ?_
  obtain ⟨h1, hr⟩ := it_s hr
  refine x_iald hC (kr_0_3 hi0) h1 dX1_addToStack_10 ?_
  refine x_aload_n hC dX1_addToStack_11 rfl 0 rfl ?_
  refine gf_X1_24 hC hi0 dX1_addToStack_12 ?_
  refine x_iload_n hC dX1_addToStack_15 rfl 1 rfl ?_
  obtain ⟨h2, hr⟩ := it_s hr
  refine x_iald hC (kr_0_4 hi0) h2 dX1_addToStack_16 ?_
  refine x_iload_n hC dX1_addToStack_17 rfl 2 rfl ?_
  refine x_iload_n hC dX1_addToStack_18 rfl 3 rfl ?_
  obtain ⟨x3, q4, hr⟩ := bd1_s hr
  refine x_callSN (As := [.int (M (i0 + 4) (ix a1)), .int (M (i0 + 5) (ix a1)), .int a2, .int a3]) hC (c_X9_mixed l G M (M (i0 + 4) (ix a1)) (M (i0 + 5) (ix a1)) a2 a3 q4) kc_yX9_mixed kmn_X1_108 kt_yX9_mixed kn_RX9 ky_yX9_mixed rfl ⟨rfl, rfl⟩ ⟨(Nat.le_of_ble_eq_true rfl), (Nat.le_of_ble_eq_true rfl)⟩ rfl (Nat.le_of_ble_eq_true rfl) ⟨(Nat.le_of_ble_eq_true rfl), (Nat.le_of_ble_eq_true rfl)⟩ dX1_addToStack_19 (fun b5 => ?_)
  obtain ⟨h6, hr⟩ := it_s hr
  obtain ⟨M7, e8, hr⟩ := lz_s hr
  refine x_iast hC (kr_0_4 hi0) h6 e8 dX1_addToStack_22 ?_
  refine x_aload_n hC dX1_addToStack_23 rfl 0 rfl ?_
  refine gf_X1_21 hC hi0 dX1_addToStack_24 ?_
  refine x_iload_n hC dX1_addToStack_27 rfl 1 rfl ?_
  refine x_dup2 hC dX1_addToStack_28 rfl rfl ?_
  obtain ⟨h9, hr⟩ := it_s hr
  refine x_iald hC (kr_0_3 hi0) h9 dX1_addToStack_29 ?_
  refine x_iload_n hC dX1_addToStack_30 rfl 2 rfl ?_
  refine x_iadd hC dX1_addToStack_31 ?_
  obtain ⟨h10, hr⟩ := it_s hr
  obtain ⟨M11, e12, hr⟩ := lz_s hr
  refine x_iast hC (kr_0_3 hi0) h10 e12 dX1_addToStack_32 ?_
  cases hr
  exact x_vret hC rfl dX1_addToStack_33

theorem dX1_takeFromStack_0 : decode cX1_takeFromStack 0 = .ok (.aload_n 0, 1) := by decide +kernel
theorem dX1_takeFromStack_1 : decode cX1_takeFromStack 1 = .ok (.getfield 21, 3) := by decide +kernel
theorem dX1_takeFromStack_4 : decode cX1_takeFromStack 4 = .ok (.iload_n 1, 1) := by decide +kernel
theorem dX1_takeFromStack_5 : decode cX1_takeFromStack 5 = .ok (.dup2, 1) := by decide +kernel
theorem dX1_takeFromStack_6 : decode cX1_takeFromStack 6 = .ok (.iaload, 1) := by decide +kernel
theorem dX1_takeFromStack_7 : decode cX1_takeFromStack 7 = .ok (.iload_n 2, 1) := by decide +kernel
theorem dX1_takeFromStack_8 : decode cX1_takeFromStack 8 = .ok (.isub, 1) := by decide +kernel
theorem dX1_takeFromStack_9 : decode cX1_takeFromStack 9 = .ok (.iastore, 1) := by decide +kernel
theorem dX1_takeFromStack_10 : decode cX1_takeFromStack 10 = .ok (.aload_n 0, 1) := by decide +kernel
theorem dX1_takeFromStack_11 : decode cX1_takeFromStack 11 = .ok (.getfield 21, 3) := by decide +kernel
theorem dX1_takeFromStack_14 : decode cX1_takeFromStack 14 = .ok (.iload_n 1, 1) := by decide +kernel
theorem dX1_takeFromStack_15 : decode cX1_takeFromStack 15 = .ok (.iaload, 1) := by decide +kernel
theorem dX1_takeFromStack_16 : decode cX1_takeFromStack 16 = .ok (.ifCond .ne 17, 3) := by decide +kernel
theorem dX1_takeFromStack_19 : decode cX1_takeFromStack 19 = .ok (.aload_n 0, 1) := by decide +kernel
theorem dX1_takeFromStack_20 : decode cX1_takeFromStack 20 = .ok (.getfield 24, 3) := by decide +kernel
theorem dX1_takeFromStack_23 : decode cX1_takeFromStack 23 = .ok (.iload_n 1, 1) := by decide +kernel
theorem dX1_takeFromStack_24 : decode cX1_takeFromStack 24 = .ok (.iconst 0, 1) := by decide +kernel
theorem dX1_takeFromStack_25 : decode cX1_takeFromStack 25 = .ok (.iastore, 1) := by decide +kernel
theorem dX1_takeFromStack_26 : decode cX1_takeFromStack 26 = .ok (.aload_n 0, 1) := by decide +kernel
theorem dX1_takeFromStack_27 : decode cX1_takeFromStack 27 = .ok (.getfield 27, 3) := by decide +kernel
theorem dX1_takeFromStack_30 : decode cX1_takeFromStack 30 = .ok (.iload_n 1, 1) := by decide +kernel
theorem dX1_takeFromStack_31 : decode cX1_takeFromStack 31 = .ok (.iconst 0, 1) := by decide +kernel
theorem dX1_takeFromStack_32 : decode cX1_takeFromStack 32 = .ok (.iastore, 1) := by decide +kernel
theorem dX1_takeFromStack_33 : decode cX1_takeFromStack 33 = .ok (.return_, 1) := by decide +kernel

def f_X1_takeFromStack (i0 : Nat) (a1 : Int32) (a2 : Int32) (M : Mm) : Option Mm :=
  if 0 ≤ a1.toInt ∧ a1.toInt < ((64 : Nat) : Int) then (if 0 ≤ a1.toInt ∧ a1.toInt < ((64 : Nat) : Int) then (lz (wr M (i0 + 4) (ix a1) ((M (i0 + 4) (ix a1)) - a2)) fun M3 => if 0 ≤ a1.toInt ∧ a1.toInt < ((64 : Nat) : Int) then (bd1 (if ((M3 (i0 + 4) (ix a1)) = 0) then (if 0 ≤ a1.toInt ∧ a1.toInt < ((64 : Nat) : Int) then (lz (wr M3 (i0 + 5) (ix a1) (0 : Int32)) fun M9 => if 0 ≤ a1.toInt ∧ a1.toInt < ((64 : Nat) : Int) then (lz (wr M9 (i0 + 6) (ix a1) (0 : Int32)) fun M12 => some (M12)) else none) else none) else (some (M3))) fun M14 => some M14) else none) else none) else none

set_option maxHeartbeats 4000000 in
set_option maxRecDepth 100000 in
theorem c_X1_takeFromStack (l : Launch) (G : GG) (M : Mm) {i0 : Nat} (hi0 : (kd i0).1 = 0) (a1 : Int32) (a2 : Int32) {M9 : Mm} (hr : f_X1_takeFromStack i0 a1 a2 M = some M9) : Mo false l yX1_takeFromStack (WS yX1_takeFromStack cX1_takeFromStack 3 none) (RM 0 0 0 0) 0 0 [.ref (G.2.1 i0), .int a1, .int a2] G M none M9 := by
  refine Mo.of (by decide +kernel) (Nat.le_of_ble_eq_true rfl) ?_
  intro p e s m args below meth c hC
  have hC : CX p s m args meth c cX1_takeFromStack 3 RX1 none G := hC
  rw [f_X1_takeFromStack] at hr
  show XJ p l e (RM 0 0 0 0) s m args below meth c G 3 _ 0 0 M 0 [(0, .ref (G.2.1 i0)), (1, .int a1), (2, .int a2)] []
  refine x_aload_n hC dX1_takeFromStack_0 rfl 0 rfl ?_
  refine gf_X1_21 hC hi0 dX1_takeFromStack_1 ?_
  refine x_iload_n hC dX1_takeFromStack_4 rfl 1 rfl ?_
  refine x_dup2 hC dX1_takeFromStack_5 rfl rfl ?_
  obtain ⟨h1, hr⟩ := it_s hr
  refine x_iald hC (kr_0_3 hi0) h1 dX1_takeFromStack_6 ?_
  refine x_iload_n hC dX1_takeFromStack_7 rfl 2 rfl ?_
  refine x_isub hC dX1_takeFromStack_8 ?_
  obtain ⟨h2, hr⟩ := it_s hr
  obtain ⟨M3, e4, hr⟩ := lz_s hr
  refine x_iast hC (kr_0_3 hi0) h2 e4 dX1_takeFromStack_9 ?_
  refine x_aload_n hC dX1_takeFromStack_10 rfl 0 rfl ?_
  refine gf_X1_21 hC hi0 dX1_takeFromStack_11 ?_
  refine x_iload_n hC dX1_takeFromStack_14 rfl 1 rfl ?_
  obtain ⟨h5, hr⟩ := it_s hr
  refine x_iald hC (kr_0_3 hi0) h5 dX1_takeFromStack_15 ?_
  obtain ⟨M14, q6, hr⟩ := bd1_s hr
  refine x_join (M' := M14) (pc' := 33) (lv' := []) (st' := []) ?_ ?_
  · cases hr
    exact x_vret hC rfl dX1_takeFromStack_33
  · intro kj
    refine x_if_ne hC 33 dX1_takeFromStack_16 (by decide) (fun h7 => ?_) (fun h7 => ?_)
    · have q6 := (ie_s q6).2 h7
      cases q6
      exact x_sub [] rfl kj
    · have q6 := (ie_s q6).1 h7
      refine x_aload_n hC dX1_takeFromStack_19 rfl 0 rfl ?_
      refine gf_X1_24 hC hi0 dX1_takeFromStack_20 ?_
      refine x_iload_n hC dX1_takeFromStack_23 rfl 1 rfl ?_
      refine x_iconst hC (0 : Int32) dX1_takeFromStack_24 (by decide) ?_
      obtain ⟨h8, q6⟩ := it_s q6
      obtain ⟨M9, e10, q6⟩ := lz_s q6
      refine x_iast hC (kr_0_4 hi0) h8 e10 dX1_takeFromStack_25 ?_
      refine x_aload_n hC dX1_takeFromStack_26 rfl 0 rfl ?_
      refine gf_X1_27 hC hi0 dX1_takeFromStack_27 ?_
      refine x_iload_n hC dX1_takeFromStack_30 rfl 1 rfl ?_
      refine x_iconst hC (0 : Int32) dX1_takeFromStack_31 (by decide) ?_
      obtain ⟨h11, q6⟩ := it_s q6
      obtain ⟨M12, e13, q6⟩ := lz_s q6
      refine x_iast hC (kr_0_5 hi0) h11 e13 dX1_takeFromStack_32 ?_
      cases q6
      exact x_sub [] rfl kj

theorem dX1_rainOfDay_0 : decode cX1_rainOfDay 0 = .ok (.aload_n 0, 1) := by decide +kernel
theorem dX1_rainOfDay_1 : decode cX1_rainOfDay 1 = .ok (.getfield 30, 3) := by decide +kernel
theorem dX1_rainOfDay_4 : decode cX1_rainOfDay 4 = .ok (.aload_n 0, 1) := by decide +kernel
theorem dX1_rainOfDay_5 : decode cX1_rainOfDay 5 = .ok (.getfield 36, 3) := by decide +kernel
theorem dX1_rainOfDay_8 : decode cX1_rainOfDay 8 = .ok (.bipush 12, 2) := by decide +kernel
theorem dX1_rainOfDay_10 : decode cX1_rainOfDay 10 = .ok (.irem, 1) := by decide +kernel
theorem dX1_rainOfDay_11 : decode cX1_rainOfDay 11 = .ok (.iaload, 1) := by decide +kernel
theorem dX1_rainOfDay_12 : decode cX1_rainOfDay 12 = .ok (.ireturn, 1) := by decide +kernel

def f_X1_rainOfDay (i0 : Nat) (M : Mm) : Option Int32 :=
  if 0 ≤ ((M i0 8) - (M i0 8) / (12 : Int32) * (12 : Int32)).toInt ∧ ((M i0 8) - (M i0 8) / (12 : Int32) * (12 : Int32)).toInt < ((12 : Nat) : Int) then (lz (M (i0 + 7) (ix ((M i0 8) - (M i0 8) / (12 : Int32) * (12 : Int32)))) fun x2 => some x2) else none

set_option maxHeartbeats 4000000 in
set_option maxRecDepth 100000 in
theorem c_X1_rainOfDay (l : Launch) (G : GG) (M : Mm) {i0 : Nat} (hi0 : (kd i0).1 = 0) {r : Int32} (hr : f_X1_rainOfDay i0 M = some r) : Mo false l yX1_rainOfDay (WS yX1_rainOfDay cX1_rainOfDay 1 (some .int)) (RM 0 0 0 0) 0 0 [.ref (G.2.1 i0)] G M (some (.int r)) M := by
  refine Mo.of (by decide +kernel) (Nat.le_of_ble_eq_true rfl) ?_
  intro p e s m args below meth c hC
  have hC : CX p s m args meth c cX1_rainOfDay 1 RX1 (some .int) G := hC
  rw [f_X1_rainOfDay] at hr
  show XJ p l e (RM 0 0 0 0) s m args below meth c G 1 _ 0 0 M 0 [(0, .ref (G.2.1 i0))] []
  refine x_aload_n hC dX1_rainOfDay_0 rfl 0 rfl ?_
  refine gf_X1_30 hC hi0 dX1_rainOfDay_1 ?_
  refine x_aload_n hC dX1_rainOfDay_4 rfl 0 rfl ?_
  refine gf_X1_36 hC hi0 dX1_rainOfDay_5 ?_
  refine x_bipush hC (12 : Int32) dX1_rainOfDay_8 (by decide) ?_
  refine x_irem hC dX1_rainOfDay_10 (by decide) ?_
  obtain ⟨h1, hr⟩ := it_s hr
  refine x_iald hC (kr_0_6 hi0) h1 dX1_rainOfDay_11 ?_
  obtain ⟨x2, e3, hr⟩ := lz_s hr
  refine x_topi e3 ?_
  cases hr
  exact x_iret hC rfl dX1_rainOfDay_12

theorem dX1_sunOfDay_0 : decode cX1_sunOfDay 0 = .ok (.aload_n 0, 1) := by decide +kernel
theorem dX1_sunOfDay_1 : decode cX1_sunOfDay 1 = .ok (.getfield 33, 3) := by decide +kernel
theorem dX1_sunOfDay_4 : decode cX1_sunOfDay 4 = .ok (.aload_n 0, 1) := by decide +kernel
theorem dX1_sunOfDay_5 : decode cX1_sunOfDay 5 = .ok (.getfield 36, 3) := by decide +kernel
theorem dX1_sunOfDay_8 : decode cX1_sunOfDay 8 = .ok (.bipush 12, 2) := by decide +kernel
theorem dX1_sunOfDay_10 : decode cX1_sunOfDay 10 = .ok (.irem, 1) := by decide +kernel
theorem dX1_sunOfDay_11 : decode cX1_sunOfDay 11 = .ok (.iaload, 1) := by decide +kernel
theorem dX1_sunOfDay_12 : decode cX1_sunOfDay 12 = .ok (.ireturn, 1) := by decide +kernel

def f_X1_sunOfDay (i0 : Nat) (M : Mm) : Option Int32 :=
  if 0 ≤ ((M i0 8) - (M i0 8) / (12 : Int32) * (12 : Int32)).toInt ∧ ((M i0 8) - (M i0 8) / (12 : Int32) * (12 : Int32)).toInt < ((12 : Nat) : Int) then (lz (M (i0 + 8) (ix ((M i0 8) - (M i0 8) / (12 : Int32) * (12 : Int32)))) fun x2 => some x2) else none

set_option maxHeartbeats 4000000 in
set_option maxRecDepth 100000 in
theorem c_X1_sunOfDay (l : Launch) (G : GG) (M : Mm) {i0 : Nat} (hi0 : (kd i0).1 = 0) {r : Int32} (hr : f_X1_sunOfDay i0 M = some r) : Mo false l yX1_sunOfDay (WS yX1_sunOfDay cX1_sunOfDay 1 (some .int)) (RM 0 0 0 0) 0 0 [.ref (G.2.1 i0)] G M (some (.int r)) M := by
  refine Mo.of (by decide +kernel) (Nat.le_of_ble_eq_true rfl) ?_
  intro p e s m args below meth c hC
  have hC : CX p s m args meth c cX1_sunOfDay 1 RX1 (some .int) G := hC
  rw [f_X1_sunOfDay] at hr
  show XJ p l e (RM 0 0 0 0) s m args below meth c G 1 _ 0 0 M 0 [(0, .ref (G.2.1 i0))] []
  refine x_aload_n hC dX1_sunOfDay_0 rfl 0 rfl ?_
  refine gf_X1_33 hC hi0 dX1_sunOfDay_1 ?_
  refine x_aload_n hC dX1_sunOfDay_4 rfl 0 rfl ?_
  refine gf_X1_36 hC hi0 dX1_sunOfDay_5 ?_
  refine x_bipush hC (12 : Int32) dX1_sunOfDay_8 (by decide) ?_
  refine x_irem hC dX1_sunOfDay_10 (by decide) ?_
  obtain ⟨h1, hr⟩ := it_s hr
  refine x_iald hC (kr_0_7 hi0) h1 dX1_sunOfDay_11 ?_
  obtain ⟨x2, e3, hr⟩ := lz_s hr
  refine x_topi e3 ?_
  cases hr
  exact x_iret hC rfl dX1_sunOfDay_12

theorem dX1_floodedCells_0 : decode cX1_floodedCells 0 = .ok (.iconst 0, 1) := by decide +kernel
theorem dX1_floodedCells_1 : decode cX1_floodedCells 1 = .ok (.istore_n 1, 1) := by decide +kernel
theorem dX1_floodedCells_2 : decode cX1_floodedCells 2 = .ok (.iconst 0, 1) := by decide +kernel
theorem dX1_floodedCells_3 : decode cX1_floodedCells 3 = .ok (.istore_n 2, 1) := by decide +kernel
theorem dX1_floodedCells_4 : decode cX1_floodedCells 4 = .ok (.iload_n 2, 1) := by decide +kernel
theorem dX1_floodedCells_5 : decode cX1_floodedCells 5 = .ok (.bipush 64, 2) := by decide +kernel
theorem dX1_floodedCells_7 : decode cX1_floodedCells 7 = .ok (.if_icmp .ge 23, 3) := by decide +kernel
theorem dX1_floodedCells_10 : decode cX1_floodedCells 10 = .ok (.aload_n 0, 1) := by decide +kernel
theorem dX1_floodedCells_11 : decode cX1_floodedCells 11 = .ok (.getfield 18, 3) := by decide +kernel
theorem dX1_floodedCells_14 : decode cX1_floodedCells 14 = .ok (.iload_n 2, 1) := by decide +kernel
theorem dX1_floodedCells_15 : decode cX1_floodedCells 15 = .ok (.iaload, 1) := by decide +kernel
theorem dX1_floodedCells_16 : decode cX1_floodedCells 16 = .ok (.bipush 9, 2) := by decide +kernel
theorem dX1_floodedCells_18 : decode cX1_floodedCells 18 = .ok (.if_icmp .ne 6, 3) := by decide +kernel
theorem dX1_floodedCells_21 : decode cX1_floodedCells 21 = .ok (.iinc 1 1, 3) := by decide +kernel
theorem dX1_floodedCells_24 : decode cX1_floodedCells 24 = .ok (.iinc 2 1, 3) := by decide +kernel
theorem dX1_floodedCells_27 : decode cX1_floodedCells 27 = .ok (.goto (-23), 3) := by decide +kernel
theorem dX1_floodedCells_30 : decode cX1_floodedCells 30 = .ok (.iload_n 1, 1) := by decide +kernel
theorem dX1_floodedCells_31 : decode cX1_floodedCells 31 = .ok (.ireturn, 1) := by decide +kernel
def f_X1_floodedCells_L4 (i0 : Nat) (M : Mm) : Nat → Int32 → Int32 → Option (Int32)
  | 0, _, _ => none
  | n + 1, v1, v2 =>
    if ((64 : Int32) ≤ v2) then (some (v1)) else (if 0 ≤ v2.toInt ∧ v2.toInt < ((64 : Nat) : Int) then (lz (if ((M (i0 + 3) (ix v2)) = (9 : Int32)) then (lz (v1 + (1 : Int32)) fun x5 => x5) else (v1)) fun x7 => lz (v2 + (1 : Int32)) fun x9 => f_X1_floodedCells_L4 i0 M n x7 x9) else none)
def f_X1_floodedCells (i0 : Nat) (M : Mm) : Option Int32 :=
  bd1 (f_X1_floodedCells_L4 i0 M FU (0 : Int32) (0 : Int32)) fun x12 => some x12
set_option maxHeartbeats 4000000 in
set_option maxRecDepth 100000 in
theorem l_X1_floodedCells_L4 {p : Program} {e : Env} {s : State} {m : MethodId} {args : Array Value} {below : List Frame} {meth : Method} {c : Code} {l : Launch} {G : GG} {Q : State → Prop} (hC : CX p s m args meth c cX1_floodedCells 3 RX1 (some .int) G) {i0 : Nat} (hi0 : (kd i0).1 = 0) (M : Mm) : ∀ (n : Nat) (v1 : Int32) (v2 : Int32) {o1 : Int32} (hr : f_X1_floodedCells_L4 i0 M n v1 v2 = some (o1)) (K : XJ p l e (RM 0 0 0 0) s m args below meth c G 3 Q 0 0 M 30 [(1, .int o1)] []), XJ p l e (RM 0 0 0 0) s m args below meth c G 3 Q 0 0 M 4 [(0, .ref (G.2.1 i0)), (1, .int v1), (2, .int v2)] [] := by
  intro n
  induction n with
  | zero => intro v1 v2 o1 hr K; rw [f_X1_floodedCells_L4] at hr; cases hr
  | succ n ih =>
    intro v1 v2 o1 hr K
    rw [f_X1_floodedCells_L4] at hr
    refine x_iload_n hC dX1_floodedCells_4 rfl 2 rfl ?_
    refine x_bipush hC (64 : Int32) dX1_floodedCells_5 (by decide) ?_
    refine x_icmp_ge hC 30 dX1_floodedCells_7 (by decide) (fun h1 => ?_) (fun h1 => ?_)
    · have hr := (ie_s hr).1 h1
      cases hr
      exact x_sub [1] rfl K
    · have hr := (ie_s hr).2 h1
      refine x_aload_n hC dX1_floodedCells_10 rfl 0 rfl ?_
      refine gf_X1_18 hC hi0 dX1_floodedCells_11 ?_
      refine x_iload_n hC dX1_floodedCells_14 rfl 2 rfl ?_
      obtain ⟨h2, hr⟩ := it_s hr
      refine x_iald hC (kr_0_2 hi0) h2 dX1_floodedCells_15 ?_
      refine x_bipush hC (9 : Int32) dX1_floodedCells_16 (by decide) ?_
      obtain ⟨x7, e8, hr⟩ := lz_s hr
      have q3 := e8.symm
      refine x_join (M' := M) (pc' := 24) (lv' := [(0, .ref (G.2.1 i0)), (1, .int x7), (2, .int v2)]) (st' := []) ?_ ?_
      · obtain ⟨x9, e10, hr⟩ := lz_s hr
        refine x_iinc hC [(2, .int x9), (0, .ref (G.2.1 i0)), (1, .int x7)] dX1_floodedCells_24 2 rfl (by rw [e10]; rfl) (Nat.le_of_ble_eq_true rfl) rfl ?_
        refine x_goto hC 4 dX1_floodedCells_27 (by decide) ?_
        exact x_sub [1, 2, 0] rfl (ih x7 x9 hr K)
      · intro kj
        refine x_icmp_ne hC 24 dX1_floodedCells_18 (by decide) (fun h4 => ?_) (fun h4 => ?_)
        · have q3 := (ie_s q3).2 h4
          subst q3
          exact x_sub [0, 1, 2] rfl kj
        · have q3 := (ie_s q3).1 h4
          obtain ⟨x5, e6, q3⟩ := lz_s q3
          refine x_iinc hC [(1, .int x5), (0, .ref (G.2.1 i0)), (2, .int v2)] dX1_floodedCells_21 1 rfl (by rw [e6]; rfl) (Nat.le_of_ble_eq_true rfl) rfl ?_
          subst q3
          exact x_sub [1, 0, 2] rfl kj
set_option maxHeartbeats 4000000 in
set_option maxRecDepth 100000 in
theorem c_X1_floodedCells (l : Launch) (G : GG) (M : Mm) {i0 : Nat} (hi0 : (kd i0).1 = 0) {r : Int32} (hr : f_X1_floodedCells i0 M = some r) : Mo false l yX1_floodedCells (WS yX1_floodedCells cX1_floodedCells 3 (some .int)) (RM 0 0 0 0) 0 0 [.ref (G.2.1 i0)] G M (some (.int r)) M := by
  refine Mo.of (by decide +kernel) (Nat.le_of_ble_eq_true rfl) ?_
  intro p e s m args below meth c hC
  have hC : CX p s m args meth c cX1_floodedCells 3 RX1 (some .int) G := hC
  rw [f_X1_floodedCells] at hr
  show XJ p l e (RM 0 0 0 0) s m args below meth c G 3 _ 0 0 M 0 [(0, .ref (G.2.1 i0))] []
  refine x_iconst hC (0 : Int32) dX1_floodedCells_0 (by decide) ?_
  refine x_istore_n hC [(1, .int (0 : Int32)), (0, .ref (G.2.1 i0))] dX1_floodedCells_1 rfl (Nat.le_of_ble_eq_true rfl) rfl ?_
  refine x_iconst hC (0 : Int32) dX1_floodedCells_2 (by decide) ?_
  refine x_istore_n hC [(2, .int (0 : Int32)), (1, .int (0 : Int32)), (0, .ref (G.2.1 i0))] dX1_floodedCells_3 rfl (Nat.le_of_ble_eq_true rfl) rfl ?_
  obtain ⟨x12, q11, hr⟩ := bd1_s hr
  refine x_sub [2, 1, 0] rfl (l_X1_floodedCells_L4 hC hi0 M FU (0 : Int32) (0 : Int32) q11 ?_)
  refine x_iload_n hC dX1_floodedCells_30 rfl 0 rfl ?_
  cases hr
  exact x_iret hC rfl dX1_floodedCells_31

theorem dX1_tellCell_0 : decode cX1_tellCell 0 = .ok (.iload_n 2, 1) := by decide +kernel
theorem dX1_tellCell_1 : decode cX1_tellCell 1 = .ok (.tableswitch 59 0 3 #[31, 38, 45, 52], 31) := by decide +kernel
theorem dX1_tellCell_32 : decode cX1_tellCell 32 = .ok (.aload_n 0, 1) := by decide +kernel
theorem dX1_tellCell_33 : decode cX1_tellCell 33 = .ok (.getfield 9, 3) := by decide +kernel
theorem dX1_tellCell_36 : decode cX1_tellCell 36 = .ok (.iload_n 1, 1) := by decide +kernel
theorem dX1_tellCell_37 : decode cX1_tellCell 37 = .ok (.iaload, 1) := by decide +kernel
theorem dX1_tellCell_38 : decode cX1_tellCell 38 = .ok (.ireturn, 1) := by decide +kernel
theorem dX1_tellCell_39 : decode cX1_tellCell 39 = .ok (.aload_n 0, 1) := by decide +kernel
theorem dX1_tellCell_40 : decode cX1_tellCell 40 = .ok (.getfield 18, 3) := by decide +kernel
theorem dX1_tellCell_43 : decode cX1_tellCell 43 = .ok (.iload_n 1, 1) := by decide +kernel
theorem dX1_tellCell_44 : decode cX1_tellCell 44 = .ok (.iaload, 1) := by decide +kernel
theorem dX1_tellCell_45 : decode cX1_tellCell 45 = .ok (.ireturn, 1) := by decide +kernel
theorem dX1_tellCell_46 : decode cX1_tellCell 46 = .ok (.aload_n 0, 1) := by decide +kernel
theorem dX1_tellCell_47 : decode cX1_tellCell 47 = .ok (.getfield 21, 3) := by decide +kernel
theorem dX1_tellCell_50 : decode cX1_tellCell 50 = .ok (.iload_n 1, 1) := by decide +kernel
theorem dX1_tellCell_51 : decode cX1_tellCell 51 = .ok (.iaload, 1) := by decide +kernel
theorem dX1_tellCell_52 : decode cX1_tellCell 52 = .ok (.ireturn, 1) := by decide +kernel
theorem dX1_tellCell_53 : decode cX1_tellCell 53 = .ok (.aload_n 0, 1) := by decide +kernel
theorem dX1_tellCell_54 : decode cX1_tellCell 54 = .ok (.getfield 24, 3) := by decide +kernel
theorem dX1_tellCell_57 : decode cX1_tellCell 57 = .ok (.iload_n 1, 1) := by decide +kernel
theorem dX1_tellCell_58 : decode cX1_tellCell 58 = .ok (.iaload, 1) := by decide +kernel
theorem dX1_tellCell_59 : decode cX1_tellCell 59 = .ok (.ireturn, 1) := by decide +kernel
theorem dX1_tellCell_60 : decode cX1_tellCell 60 = .ok (.aload_n 0, 1) := by decide +kernel
theorem dX1_tellCell_61 : decode cX1_tellCell 61 = .ok (.getfield 27, 3) := by decide +kernel
theorem dX1_tellCell_64 : decode cX1_tellCell 64 = .ok (.iload_n 1, 1) := by decide +kernel
theorem dX1_tellCell_65 : decode cX1_tellCell 65 = .ok (.iaload, 1) := by decide +kernel
theorem dX1_tellCell_66 : decode cX1_tellCell 66 = .ok (.ireturn, 1) := by decide +kernel

def f_X1_tellCell (i0 : Nat) (a1 : Int32) (a2 : Int32) (M : Mm) : Option Int32 :=
  if (a2 = (0 : Int32)) then (if 0 ≤ a1.toInt ∧ a1.toInt < ((64 : Nat) : Int) then (some (M (i0 + 1) (ix a1))) else none) else (if (a2 = (1 : Int32)) then (if 0 ≤ a1.toInt ∧ a1.toInt < ((64 : Nat) : Int) then (some (M (i0 + 3) (ix a1))) else none) else (if (a2 = (2 : Int32)) then (if 0 ≤ a1.toInt ∧ a1.toInt < ((64 : Nat) : Int) then (some (M (i0 + 4) (ix a1))) else none) else (if (a2 = (3 : Int32)) then (if 0 ≤ a1.toInt ∧ a1.toInt < ((64 : Nat) : Int) then (some (M (i0 + 5) (ix a1))) else none) else (if 0 ≤ a1.toInt ∧ a1.toInt < ((64 : Nat) : Int) then (some (M (i0 + 6) (ix a1))) else none))))

set_option maxHeartbeats 4000000 in
set_option maxRecDepth 100000 in
theorem c_X1_tellCell (l : Launch) (G : GG) (M : Mm) {i0 : Nat} (hi0 : (kd i0).1 = 0) (a1 : Int32) (a2 : Int32) {r : Int32} (hr : f_X1_tellCell i0 a1 a2 M = some r) : Mo false l yX1_tellCell (WS yX1_tellCell cX1_tellCell 3 (some .int)) (RM 0 0 0 0) 0 0 [.ref (G.2.1 i0), .int a1, .int a2] G M (some (.int r)) M := by
  refine Mo.of (by decide +kernel) (Nat.le_of_ble_eq_true rfl) ?_
  intro p e s m args below meth c hC
  have hC : CX p s m args meth c cX1_tellCell 3 RX1 (some .int) G := hC
  rw [f_X1_tellCell] at hr
  show XJ p l e (RM 0 0 0 0) s m args below meth c G 3 _ 0 0 M 0 [(0, .ref (G.2.1 i0)), (1, .int a1), (2, .int a2)] []
  refine x_iload_n hC dX1_tellCell_0 rfl 2 rfl ?_
  by_cases s1 : a2 = (0 : Int32)
  · have hr := (ie_s hr).1 s1
    refine x_tableIn hC (off := 31) 32 dX1_tellCell_1 (by rw [s1]; decide) (by rw [s1]; decide) (by rw [s1]; rfl) (by decide) ?_
    refine x_aload_n hC dX1_tellCell_32 rfl 0 rfl ?_
    refine gf_X1_9 hC hi0 dX1_tellCell_33 ?_
    refine x_iload_n hC dX1_tellCell_36 rfl 1 rfl ?_
    obtain ⟨h2, hr⟩ := it_s hr
    refine x_iald hC (kr_0_0 hi0) h2 dX1_tellCell_37 ?_
    cases hr
    exact x_iret hC rfl dX1_tellCell_38
  · have hr := (ie_s hr).2 s1
    by_cases s3 : a2 = (1 : Int32)
    · have hr := (ie_s hr).1 s3
      refine x_tableIn hC (off := 38) 39 dX1_tellCell_1 (by rw [s3]; decide) (by rw [s3]; decide) (by rw [s3]; rfl) (by decide) ?_
      refine x_aload_n hC dX1_tellCell_39 rfl 0 rfl ?_
      refine gf_X1_18 hC hi0 dX1_tellCell_40 ?_
      refine x_iload_n hC dX1_tellCell_43 rfl 1 rfl ?_
      obtain ⟨h4, hr⟩ := it_s hr
      refine x_iald hC (kr_0_2 hi0) h4 dX1_tellCell_44 ?_
      cases hr
      exact x_iret hC rfl dX1_tellCell_45
    · have hr := (ie_s hr).2 s3
      by_cases s5 : a2 = (2 : Int32)
      · have hr := (ie_s hr).1 s5
        refine x_tableIn hC (off := 45) 46 dX1_tellCell_1 (by rw [s5]; decide) (by rw [s5]; decide) (by rw [s5]; rfl) (by decide) ?_
        refine x_aload_n hC dX1_tellCell_46 rfl 0 rfl ?_
        refine gf_X1_21 hC hi0 dX1_tellCell_47 ?_
        refine x_iload_n hC dX1_tellCell_50 rfl 1 rfl ?_
        obtain ⟨h6, hr⟩ := it_s hr
        refine x_iald hC (kr_0_3 hi0) h6 dX1_tellCell_51 ?_
        cases hr
        exact x_iret hC rfl dX1_tellCell_52
      · have hr := (ie_s hr).2 s5
        by_cases s7 : a2 = (3 : Int32)
        · have hr := (ie_s hr).1 s7
          refine x_tableIn hC (off := 52) 53 dX1_tellCell_1 (by rw [s7]; decide) (by rw [s7]; decide) (by rw [s7]; rfl) (by decide) ?_
          refine x_aload_n hC dX1_tellCell_53 rfl 0 rfl ?_
          refine gf_X1_24 hC hi0 dX1_tellCell_54 ?_
          refine x_iload_n hC dX1_tellCell_57 rfl 1 rfl ?_
          obtain ⟨h8, hr⟩ := it_s hr
          refine x_iald hC (kr_0_4 hi0) h8 dX1_tellCell_58 ?_
          cases hr
          exact x_iret hC rfl dX1_tellCell_59
        · have hr := (ie_s hr).2 s7
          refine x_tableOut hC 60 dX1_tellCell_1 (by have := ne_toI s1 (z := 0) (by decide); have := ne_toI s3 (z := 1) (by decide); have := ne_toI s5 (z := 2) (by decide); have := ne_toI s7 (z := 3) (by decide); omega) (by decide) ?_
          refine x_aload_n hC dX1_tellCell_60 rfl 0 rfl ?_
          refine gf_X1_27 hC hi0 dX1_tellCell_61 ?_
          refine x_iload_n hC dX1_tellCell_64 rfl 1 rfl ?_
          obtain ⟨h9, hr⟩ := it_s hr
          refine x_iald hC (kr_0_5 hi0) h9 dX1_tellCell_65 ?_
          cases hr
          exact x_iret hC rfl dX1_tellCell_66

theorem dX1_moveWater_0 : decode cX1_moveWater 0 = .ok (.aload_n 0, 1) := by decide +kernel
theorem dX1_moveWater_1 : decode cX1_moveWater 1 = .ok (.invokevirtual 121, 3) := by decide +kernel
theorem dX1_moveWater_4 : decode cX1_moveWater 4 = .ok (.iconst 2, 1) := by decide +kernel
theorem dX1_moveWater_5 : decode cX1_moveWater 5 = .ok (.idiv, 1) := by decide +kernel
theorem dX1_moveWater_6 : decode cX1_moveWater 6 = .ok (.aload_n 0, 1) := by decide +kernel
theorem dX1_moveWater_7 : decode cX1_moveWater 7 = .ok (.invokevirtual 125, 3) := by decide +kernel
theorem dX1_moveWater_10 : decode cX1_moveWater 10 = .ok (.iconst 4, 1) := by decide +kernel
theorem dX1_moveWater_11 : decode cX1_moveWater 11 = .ok (.idiv, 1) := by decide +kernel
theorem dX1_moveWater_12 : decode cX1_moveWater 12 = .ok (.isub, 1) := by decide +kernel
theorem dX1_moveWater_13 : decode cX1_moveWater 13 = .ok (.istore_n 1, 1) := by decide +kernel
theorem dX1_moveWater_14 : decode cX1_moveWater 14 = .ok (.iconst 0, 1) := by decide +kernel
theorem dX1_moveWater_15 : decode cX1_moveWater 15 = .ok (.istore_n 2, 1) := by decide +kernel
theorem dX1_moveWater_16 : decode cX1_moveWater 16 = .ok (.iload_n 2, 1) := by decide +kernel
theorem dX1_moveWater_17 : decode cX1_moveWater 17 = .ok (.bipush 64, 2) := by decide +kernel
theorem dX1_moveWater_19 : decode cX1_moveWater 19 = .ok (.if_icmp .ge 49, 3) := by decide +kernel
theorem dX1_moveWater_22 : decode cX1_moveWater 22 = .ok (.aload_n 0, 1) := by decide +kernel
theorem dX1_moveWater_23 : decode cX1_moveWater 23 = .ok (.getfield 9, 3) := by decide +kernel
theorem dX1_moveWater_26 : decode cX1_moveWater 26 = .ok (.iload_n 2, 1) := by decide +kernel
theorem dX1_moveWater_27 : decode cX1_moveWater 27 = .ok (.iaload, 1) := by decide +kernel
theorem dX1_moveWater_28 : decode cX1_moveWater 28 = .ok (.ifCond .ne 11, 3) := by decide +kernel
theorem dX1_moveWater_31 : decode cX1_moveWater 31 = .ok (.iload_n 2, 1) := by decide +kernel
theorem dX1_moveWater_32 : decode cX1_moveWater 32 = .ok (.ifCond .eq 7, 3) := by decide +kernel
theorem dX1_moveWater_35 : decode cX1_moveWater 35 = .ok (.iconst 1, 1) := by decide +kernel
theorem dX1_moveWater_36 : decode cX1_moveWater 36 = .ok (.goto 4, 3) := by decide +kernel
theorem dX1_moveWater_39 : decode cX1_moveWater 39 = .ok (.iconst 0, 1) := by decide +kernel
theorem dX1_moveWater_40 : decode cX1_moveWater 40 = .ok (.istore_n 3, 1) := by decide +kernel
theorem dX1_moveWater_41 : decode cX1_moveWater 41 = .ok (.aload_n 0, 1) := by decide +kernel
theorem dX1_moveWater_42 : decode cX1_moveWater 42 = .ok (.getfield 18, 3) := by decide +kernel
theorem dX1_moveWater_45 : decode cX1_moveWater 45 = .ok (.iload_n 2, 1) := by decide +kernel
theorem dX1_moveWater_46 : decode cX1_moveWater 46 = .ok (.aload_n 0, 1) := by decide +kernel
theorem dX1_moveWater_47 : decode cX1_moveWater 47 = .ok (.getfield 18, 3) := by decide +kernel
theorem dX1_moveWater_50 : decode cX1_moveWater 50 = .ok (.iload_n 2, 1) := by decide +kernel
theorem dX1_moveWater_51 : decode cX1_moveWater 51 = .ok (.iaload, 1) := by decide +kernel
theorem dX1_moveWater_52 : decode cX1_moveWater 52 = .ok (.iload_n 1, 1) := by decide +kernel
theorem dX1_moveWater_53 : decode cX1_moveWater 53 = .ok (.iadd, 1) := by decide +kernel
theorem dX1_moveWater_54 : decode cX1_moveWater 54 = .ok (.iload_n 3, 1) := by decide +kernel
theorem dX1_moveWater_55 : decode cX1_moveWater 55 = .ok (.iadd, 1) := by decide +kernel
theorem dX1_moveWater_56 : decode cX1_moveWater 56 = .ok (.bipush 9, 2) := by decide +kernel
theorem dX1_moveWater_58 : decode cX1_moveWater 58 = .ok (.invokestatic 132, 3) := by decide +kernel
theorem dX1_moveWater_61 : decode cX1_moveWater 61 = .ok (.iastore, 1) := by decide +kernel
theorem dX1_moveWater_62 : decode cX1_moveWater 62 = .ok (.iinc 2 1, 3) := by decide +kernel
theorem dX1_moveWater_65 : decode cX1_moveWater 65 = .ok (.goto (-49), 3) := by decide +kernel
theorem dX1_moveWater_68 : decode cX1_moveWater 68 = .ok (.return_, 1) := by decide +kernel
def f_X1_moveWater_L16 (i0 : Nat) (a1 : Int32) : Nat → Int32 → Mm → Option (Mm)
  | 0, _, _ => none
  | n + 1, v2, M =>
    if ((64 : Int32) ≤ v2) then (some (M)) else (if 0 ≤ v2.toInt ∧ v2.toInt < ((64 : Nat) : Int) then (lz (if ((M (i0 + 1) (ix v2)) = 0) then (if (v2 = 0) then ((0 : Int32)) else ((1 : Int32))) else ((0 : Int32))) fun x14 => if 0 ≤ v2.toInt ∧ v2.toInt < ((64 : Nat) : Int) then (lz (f_X9_held (((M (i0 + 3) (ix v2)) + a1) + x14) (9 : Int32)) fun x18 => if 0 ≤ v2.toInt ∧ v2.toInt < ((64 : Nat) : Int) then (lz (wr M (i0 + 3) (ix v2) x18) fun M22 => lz (v2 + (1 : Int32)) fun x24 => f_X1_moveWater_L16 i0 a1 n x24 M22) else none) else none) else none)
def f_X1_moveWater (i0 : Nat) (M : Mm) : Option Mm :=
  bd1 (f_X1_rainOfDay i0 M) fun x1 => bd1 (f_X1_sunOfDay i0 M) fun x4 => lz ((x1 / (2 : Int32)) - (x4 / (4 : Int32))) fun x7 => bd1 (f_X1_moveWater_L16 i0 x7 FU (0 : Int32) M) fun M27 => some M27
set_option maxHeartbeats 4000000 in
set_option maxRecDepth 100000 in
theorem l_X1_moveWater_L16 {p : Program} {e : Env} {s : State} {m : MethodId} {args : Array Value} {below : List Frame} {meth : Method} {c : Code} {l : Launch} {G : GG} {Q : State → Prop} (hC : CX p s m args meth c cX1_moveWater 4 RX1 none G) {i0 : Nat} (hi0 : (kd i0).1 = 0) (a1 : Int32) : ∀ (n : Nat) (v2 : Int32) (M : Mm) {M2 : Mm} (hr : f_X1_moveWater_L16 i0 a1 n v2 M = some (M2)) (K : XJ p l e (RM 2 0 0 61) s m args below meth c G 4 Q 0 0 M2 68 [] []), XJ p l e (RM 2 0 0 61) s m args below meth c G 4 Q 0 0 M 16 [(0, .ref (G.2.1 i0)), (1, .int a1), (2, .int v2)] [] := by
  intro n
  induction n with
  | zero => intro v2 M M2 hr K; rw [f_X1_moveWater_L16] at hr; cases hr
  | succ n ih =>
    intro v2 M M2 hr K
    rw [f_X1_moveWater_L16] at hr
    refine x_iload_n hC dX1_moveWater_16 rfl 2 rfl ?_
    refine x_bipush hC (64 : Int32) dX1_moveWater_17 (by decide) ?_
    refine x_icmp_ge hC 68 dX1_moveWater_19 (by decide) (fun h9 => ?_) (fun h9 => ?_)
    · have hr := (ie_s hr).1 h9
      cases hr
      exact x_sub [] rfl K
    · have hr := (ie_s hr).2 h9
      refine x_aload_n hC dX1_moveWater_22 rfl 0 rfl ?_
      refine gf_X1_9 hC hi0 dX1_moveWater_23 ?_
      refine x_iload_n hC dX1_moveWater_26 rfl 2 rfl ?_
      obtain ⟨h10, hr⟩ := it_s hr
      refine x_iald hC (kr_0_0 hi0) h10 dX1_moveWater_27 ?_
      obtain ⟨x14, e15, hr⟩ := lz_s hr
      have q11 := e15.symm
      refine x_joinB (P := (x14 = 0 ∨ x14 = 1)) (M' := M) (pc' := 40) (lv' := [(0, .ref (G.2.1 i0)), (1, .int a1), (2, .int v2)]) (st' := [.int x14]) ?_ ?_
      · intro b16
        refine x_istore_n hC [(3, .int x14), (0, .ref (G.2.1 i0)), (1, .int a1), (2, .int v2)] dX1_moveWater_40 rfl (Nat.le_of_ble_eq_true rfl) rfl ?_
        refine x_aload_n hC dX1_moveWater_41 rfl 1 rfl ?_
        refine gf_X1_18 hC hi0 dX1_moveWater_42 ?_
        refine x_iload_n hC dX1_moveWater_45 rfl 3 rfl ?_
        refine x_aload_n hC dX1_moveWater_46 rfl 1 rfl ?_
        refine gf_X1_18 hC hi0 dX1_moveWater_47 ?_
        refine x_iload_n hC dX1_moveWater_50 rfl 3 rfl ?_
        obtain ⟨h17, hr⟩ := it_s hr
        refine x_iald hC (kr_0_2 hi0) h17 dX1_moveWater_51 ?_
        refine x_iload_n hC dX1_moveWater_52 rfl 2 rfl ?_
        refine x_iadd hC dX1_moveWater_53 ?_
        refine x_iload_n hC dX1_moveWater_54 rfl 0 rfl ?_
        refine x_iadd hC dX1_moveWater_55 ?_
        refine x_bipush hC (9 : Int32) dX1_moveWater_56 (by decide) ?_
        obtain ⟨x18, e19, hr⟩ := lz_s hr
        refine x_callSN (As := [.int (((M (i0 + 3) (ix v2)) + a1) + x14), .int (9 : Int32)]) hC (c_X9_held l G M (((M (i0 + 3) (ix v2)) + a1) + x14) (9 : Int32) e19.symm) kc_yX9_held kmn_X1_132 kt_yX9_held kn_RX9 ky_yX9_held rfl ⟨rfl, rfl⟩ ⟨(Nat.le_of_ble_eq_true rfl), (Nat.le_of_ble_eq_true rfl)⟩ rfl (Nat.le_of_ble_eq_true rfl) ⟨(Nat.le_of_ble_eq_true rfl), (Nat.le_of_ble_eq_true rfl)⟩ dX1_moveWater_58 (fun b20 => ?_)
        obtain ⟨h21, hr⟩ := it_s hr
        obtain ⟨M22, e23, hr⟩ := lz_s hr
        refine x_iast hC (kr_0_2 hi0) h21 e23 dX1_moveWater_61 ?_
        obtain ⟨x24, e25, hr⟩ := lz_s hr
        refine x_iinc hC [(2, .int x24), (3, .int x14), (0, .ref (G.2.1 i0)), (1, .int a1)] dX1_moveWater_62 3 rfl (by rw [e25]; rfl) (Nat.le_of_ble_eq_true rfl) rfl ?_
        refine x_goto hC 16 dX1_moveWater_65 (by decide) ?_
        exact x_sub [2, 3, 0] rfl (ih x24 M22 hr K)
      · intro kj
        refine x_if_ne hC 39 dX1_moveWater_28 (by decide) (fun h12 => ?_) (fun h12 => ?_)
        · have q11 := (ie_s q11).2 h12
          refine x_iconst hC (0 : Int32) dX1_moveWater_39 (by decide) ?_
          subst q11
          exact x_sub [0, 1, 2] rfl (kj (Or.inl rfl))
        · have q11 := (ie_s q11).1 h12
          refine x_iload_n hC dX1_moveWater_31 rfl 2 rfl ?_
          refine x_if_eq hC 39 dX1_moveWater_32 (by decide) (fun h13 => ?_) (fun h13 => ?_)
          · have q11 := (ie_s q11).1 h13
            refine x_iconst hC (0 : Int32) dX1_moveWater_39 (by decide) ?_
            subst q11
            exact x_sub [0, 1, 2] rfl (kj (Or.inl rfl))
          · have q11 := (ie_s q11).2 h13
            refine x_iconst hC (1 : Int32) dX1_moveWater_35 (by decide) ?_
            refine x_goto hC 40 dX1_moveWater_36 (by decide) ?_
            subst q11
            exact x_sub [0, 1, 2] rfl (kj (Or.inr rfl))
set_option maxHeartbeats 4000000 in
set_option maxRecDepth 100000 in
theorem c_X1_moveWater (l : Launch) (G : GG) (M : Mm) {i0 : Nat} (hi0 : (kd i0).1 = 0) {M9 : Mm} (hr : f_X1_moveWater i0 M = some M9) : Mo false l yX1_moveWater (WS yX1_moveWater cX1_moveWater 4 none) (RM 2 0 0 61) 0 0 [.ref (G.2.1 i0)] G M none M9 := by
  refine Mo.of (by decide +kernel) (Nat.le_of_ble_eq_true rfl) ?_
  intro p e s m args below meth c hC
  have hC : CX p s m args meth c cX1_moveWater 4 RX1 none G := hC
  rw [f_X1_moveWater] at hr
  show XJ p l e (RM 2 0 0 61) s m args below meth c G 4 _ 0 0 M 0 [(0, .ref (G.2.1 i0))] []
  refine x_aload_n hC dX1_moveWater_0 rfl 0 rfl ?_
  obtain ⟨x1, q2, hr⟩ := bd1_s hr
  refine x_callV (ci := 0) (q := (RX1, TX1, 17)) (As := []) hC (c_X1_rainOfDay l G M hi0 q2) kc_yX1_rainOfDay km_X1_121 ki_yX1_rainOfDay kv_yX1_rainOfDay kn_RX1 ky_yX1_rainOfDay rfl ⟨rfl, rfl⟩ ⟨(Nat.le_of_ble_eq_true rfl), (Nat.le_of_ble_eq_true rfl)⟩ hi0 (by decide) rfl rfl (Nat.le_of_ble_eq_true rfl) ⟨(Nat.le_of_ble_eq_true rfl), (Nat.le_of_ble_eq_true rfl)⟩ dX1_moveWater_1 (fun b3 => ?_)
  refine x_iconst hC (2 : Int32) dX1_moveWater_4 (by decide) ?_
  refine x_idiv hC dX1_moveWater_5 (by decide) ?_
  refine x_aload_n hC dX1_moveWater_6 rfl 0 rfl ?_
  obtain ⟨x4, q5, hr⟩ := bd1_s hr
  refine x_callV (ci := 0) (q := (RX1, TX1, 17)) (As := []) hC (c_X1_sunOfDay l G M hi0 q5) kc_yX1_sunOfDay km_X1_125 ki_yX1_sunOfDay kv_yX1_sunOfDay kn_RX1 ky_yX1_sunOfDay rfl ⟨rfl, rfl⟩ ⟨(Nat.le_of_ble_eq_true rfl), (Nat.le_of_ble_eq_true rfl)⟩ hi0 (by decide) rfl rfl (Nat.le_of_ble_eq_true rfl) ⟨(Nat.le_of_ble_eq_true rfl), (Nat.le_of_ble_eq_true rfl)⟩ dX1_moveWater_7 (fun b6 => ?_)
  refine x_iconst hC (4 : Int32) dX1_moveWater_10 (by decide) ?_
  refine x_idiv hC dX1_moveWater_11 (by decide) ?_
  refine x_isub hC dX1_moveWater_12 ?_
  obtain ⟨x7, e8, hr⟩ := lz_s hr
  refine x_topi e8 ?_
  refine x_istore_n hC [(1, .int x7), (0, .ref (G.2.1 i0))] dX1_moveWater_13 rfl (Nat.le_of_ble_eq_true rfl) rfl ?_
  refine x_iconst hC (0 : Int32) dX1_moveWater_14 (by decide) ?_
  refine x_istore_n hC [(2, .int (0 : Int32)), (1, .int x7), (0, .ref (G.2.1 i0))] dX1_moveWater_15 rfl (Nat.le_of_ble_eq_true rfl) rfl ?_
  obtain ⟨M27, q26, hr⟩ := bd1_s hr
  refine x_sub [2, 1, 0] rfl (l_X1_moveWater_L16 hC hi0 x7 FU (0 : Int32) M q26 ?_)
  cases hr
  exact x_vret hC rfl dX1_moveWater_68

theorem dX1_dryStacks_0 : decode cX1_dryStacks 0 = .ok (.iconst 0, 1) := by decide +kernel
theorem dX1_dryStacks_1 : decode cX1_dryStacks 1 = .ok (.istore_n 1, 1) := by decide +kernel
theorem dX1_dryStacks_2 : decode cX1_dryStacks 2 = .ok (.iload_n 1, 1) := by decide +kernel
theorem dX1_dryStacks_3 : decode cX1_dryStacks 3 = .ok (.bipush 64, 2) := by decide +kernel
theorem dX1_dryStacks_5 : decode cX1_dryStacks 5 = .ok (.if_icmp .ge 103, 3) := by decide +kernel
theorem dX1_dryStacks_8 : decode cX1_dryStacks 8 = .ok (.aload_n 0, 1) := by decide +kernel
theorem dX1_dryStacks_9 : decode cX1_dryStacks 9 = .ok (.getfield 21, 3) := by decide +kernel
theorem dX1_dryStacks_12 : decode cX1_dryStacks 12 = .ok (.iload_n 1, 1) := by decide +kernel
theorem dX1_dryStacks_13 : decode cX1_dryStacks 13 = .ok (.iaload, 1) := by decide +kernel
theorem dX1_dryStacks_14 : decode cX1_dryStacks 14 = .ok (.ifCond .le 88, 3) := by decide +kernel
theorem dX1_dryStacks_17 : decode cX1_dryStacks 17 = .ok (.aload_n 0, 1) := by decide +kernel
theorem dX1_dryStacks_18 : decode cX1_dryStacks 18 = .ok (.getfield 24, 3) := by decide +kernel
theorem dX1_dryStacks_21 : decode cX1_dryStacks 21 = .ok (.iload_n 1, 1) := by decide +kernel
theorem dX1_dryStacks_22 : decode cX1_dryStacks 22 = .ok (.aload_n 0, 1) := by decide +kernel
theorem dX1_dryStacks_23 : decode cX1_dryStacks 23 = .ok (.getfield 24, 3) := by decide +kernel
theorem dX1_dryStacks_26 : decode cX1_dryStacks 26 = .ok (.iload_n 1, 1) := by decide +kernel
theorem dX1_dryStacks_27 : decode cX1_dryStacks 27 = .ok (.iaload, 1) := by decide +kernel
theorem dX1_dryStacks_28 : decode cX1_dryStacks 28 = .ok (.aload_n 0, 1) := by decide +kernel
theorem dX1_dryStacks_29 : decode cX1_dryStacks 29 = .ok (.getfield 27, 3) := by decide +kernel
theorem dX1_dryStacks_32 : decode cX1_dryStacks 32 = .ok (.iload_n 1, 1) := by decide +kernel
theorem dX1_dryStacks_33 : decode cX1_dryStacks 33 = .ok (.iaload, 1) := by decide +kernel
theorem dX1_dryStacks_34 : decode cX1_dryStacks 34 = .ok (.ifCond .eq 7, 3) := by decide +kernel
theorem dX1_dryStacks_37 : decode cX1_dryStacks 37 = .ok (.iconst 1, 1) := by decide +kernel
theorem dX1_dryStacks_38 : decode cX1_dryStacks 38 = .ok (.goto 4, 3) := by decide +kernel
theorem dX1_dryStacks_41 : decode cX1_dryStacks 41 = .ok (.iconst 0, 1) := by decide +kernel
theorem dX1_dryStacks_42 : decode cX1_dryStacks 42 = .ok (.aload_n 0, 1) := by decide +kernel
theorem dX1_dryStacks_43 : decode cX1_dryStacks 43 = .ok (.invokevirtual 121, 3) := by decide +kernel
theorem dX1_dryStacks_46 : decode cX1_dryStacks 46 = .ok (.aload_n 0, 1) := by decide +kernel
theorem dX1_dryStacks_47 : decode cX1_dryStacks 47 = .ok (.invokevirtual 125, 3) := by decide +kernel
theorem dX1_dryStacks_50 : decode cX1_dryStacks 50 = .ok (.invokestatic 128, 3) := by decide +kernel
theorem dX1_dryStacks_53 : decode cX1_dryStacks 53 = .ok (.iastore, 1) := by decide +kernel
theorem dX1_dryStacks_54 : decode cX1_dryStacks 54 = .ok (.aload_n 0, 1) := by decide +kernel
theorem dX1_dryStacks_55 : decode cX1_dryStacks 55 = .ok (.getfield 27, 3) := by decide +kernel
theorem dX1_dryStacks_58 : decode cX1_dryStacks 58 = .ok (.iload_n 1, 1) := by decide +kernel
theorem dX1_dryStacks_59 : decode cX1_dryStacks 59 = .ok (.iconst 0, 1) := by decide +kernel
theorem dX1_dryStacks_60 : decode cX1_dryStacks 60 = .ok (.iastore, 1) := by decide +kernel
theorem dX1_dryStacks_61 : decode cX1_dryStacks 61 = .ok (.aload_n 0, 1) := by decide +kernel
theorem dX1_dryStacks_62 : decode cX1_dryStacks 62 = .ok (.getfield 24, 3) := by decide +kernel
theorem dX1_dryStacks_65 : decode cX1_dryStacks 65 = .ok (.iload_n 1, 1) := by decide +kernel
theorem dX1_dryStacks_66 : decode cX1_dryStacks 66 = .ok (.iaload, 1) := by decide +kernel
theorem dX1_dryStacks_67 : decode cX1_dryStacks 67 = .ok (.bipush 20, 2) := by decide +kernel
theorem dX1_dryStacks_69 : decode cX1_dryStacks 69 = .ok (.if_icmp .ne 33, 3) := by decide +kernel
theorem dX1_dryStacks_72 : decode cX1_dryStacks 72 = .ok (.aload_n 0, 1) := by decide +kernel
theorem dX1_dryStacks_73 : decode cX1_dryStacks 73 = .ok (.getfield 21, 3) := by decide +kernel
theorem dX1_dryStacks_76 : decode cX1_dryStacks 76 = .ok (.iload_n 1, 1) := by decide +kernel
theorem dX1_dryStacks_77 : decode cX1_dryStacks 77 = .ok (.iaload, 1) := by decide +kernel
theorem dX1_dryStacks_78 : decode cX1_dryStacks 78 = .ok (.bipush 10, 2) := by decide +kernel
theorem dX1_dryStacks_80 : decode cX1_dryStacks 80 = .ok (.idiv, 1) := by decide +kernel
theorem dX1_dryStacks_81 : decode cX1_dryStacks 81 = .ok (.istore_n 2, 1) := by decide +kernel
theorem dX1_dryStacks_82 : decode cX1_dryStacks 82 = .ok (.aload_n 0, 1) := by decide +kernel
theorem dX1_dryStacks_83 : decode cX1_dryStacks 83 = .ok (.getfield 21, 3) := by decide +kernel
theorem dX1_dryStacks_86 : decode cX1_dryStacks 86 = .ok (.iload_n 1, 1) := by decide +kernel
theorem dX1_dryStacks_87 : decode cX1_dryStacks 87 = .ok (.dup2, 1) := by decide +kernel
theorem dX1_dryStacks_88 : decode cX1_dryStacks 88 = .ok (.iaload, 1) := by decide +kernel
theorem dX1_dryStacks_89 : decode cX1_dryStacks 89 = .ok (.iload_n 2, 1) := by decide +kernel
theorem dX1_dryStacks_90 : decode cX1_dryStacks 90 = .ok (.isub, 1) := by decide +kernel
theorem dX1_dryStacks_91 : decode cX1_dryStacks 91 = .ok (.iastore, 1) := by decide +kernel
theorem dX1_dryStacks_92 : decode cX1_dryStacks 92 = .ok (.aload_n 0, 1) := by decide +kernel
theorem dX1_dryStacks_93 : decode cX1_dryStacks 93 = .ok (.dup, 1) := by decide +kernel
theorem dX1_dryStacks_94 : decode cX1_dryStacks 94 = .ok (.getfield 49, 3) := by decide +kernel
theorem dX1_dryStacks_97 : decode cX1_dryStacks 97 = .ok (.iload_n 2, 1) := by decide +kernel
theorem dX1_dryStacks_98 : decode cX1_dryStacks 98 = .ok (.iadd, 1) := by decide +kernel
theorem dX1_dryStacks_99 : decode cX1_dryStacks 99 = .ok (.putfield 49, 3) := by decide +kernel
theorem dX1_dryStacks_102 : decode cX1_dryStacks 102 = .ok (.iinc 1 1, 3) := by decide +kernel
theorem dX1_dryStacks_105 : decode cX1_dryStacks 105 = .ok (.goto (-103), 3) := by decide +kernel
theorem dX1_dryStacks_108 : decode cX1_dryStacks 108 = .ok (.return_, 1) := by decide +kernel
def f_X1_dryStacks_L2 (i0 : Nat) : Nat → Int32 → Mm → Option (Mm)
  | 0, _, _ => none
  | n + 1, v1, M =>
    if ((64 : Int32) ≤ v1) then (some (M)) else (if 0 ≤ v1.toInt ∧ v1.toInt < ((64 : Nat) : Int) then (bd1 (if ((M (i0 + 4) (ix v1)) ≤ 0) then (some (M)) else (if 0 ≤ v1.toInt ∧ v1.toInt < ((64 : Nat) : Int) then (if 0 ≤ v1.toInt ∧ v1.toInt < ((64 : Nat) : Int) then (lz (if ((M (i0 + 6) (ix v1)) = 0) then ((0 : Int32)) else ((1 : Int32))) fun x9 => bd1 (f_X1_rainOfDay i0 M) fun x12 => bd1 (f_X1_sunOfDay i0 M) fun x15 => lz (f_X9_wetnessBehindNight (M (i0 + 5) (ix v1)) x9 x12 x15) fun x18 => if 0 ≤ v1.toInt ∧ v1.toInt < ((64 : Nat) : Int) then (lz (wr M (i0 + 5) (ix v1) x18) fun M22 => if 0 ≤ v1.toInt ∧ v1.toInt < ((64 : Nat) : Int) then (lz (wr M22 (i0 + 6) (ix v1) (0 : Int32)) fun M25 => if 0 ≤ v1.toInt ∧ v1.toInt < ((64 : Nat) : Int) then (if ((M25 (i0 + 5) (ix v1)) = (20 : Int32)) then (if 0 ≤ v1.toInt ∧ v1.toInt < ((64 : Nat) : Int) then (lz ((M25 (i0 + 4) (ix v1)) / (10 : Int32)) fun x30 => if 0 ≤ v1.toInt ∧ v1.toInt < ((64 : Nat) : Int) then (if 0 ≤ v1.toInt ∧ v1.toInt < ((64 : Nat) : Int) then (lz (wr M25 (i0 + 4) (ix v1) ((M25 (i0 + 4) (ix v1)) - x30)) fun M34 => lz (wr M34 i0 12 ((M34 i0 12) + x30)) fun M36 => some (M36)) else none) else none) else none) else (some (M25))) else none) else none) else none) else none) else none)) fun M38 => lz (v1 + (1 : Int32)) fun x39 => f_X1_dryStacks_L2 i0 n x39 M38) else none)
def f_X1_dryStacks (i0 : Nat) (M : Mm) : Option Mm :=
  bd1 (f_X1_dryStacks_L2 i0 FU (0 : Int32) M) fun M42 => some M42
set_option maxHeartbeats 4000000 in
set_option maxRecDepth 100000 in
theorem l_X1_dryStacks_L2 {p : Program} {e : Env} {s : State} {m : MethodId} {args : Array Value} {below : List Frame} {meth : Method} {c : Code} {l : Launch} {G : GG} {Q : State → Prop} (hC : CX p s m args meth c cX1_dryStacks 3 RX1 none G) {i0 : Nat} (hi0 : (kd i0).1 = 0) : ∀ (n : Nat) (v1 : Int32) (M : Mm) {M2 : Mm} (hr : f_X1_dryStacks_L2 i0 n v1 M = some (M2)) (K : XJ p l e (RM 3 0 0 85) s m args below meth c G 3 Q 0 0 M2 108 [] []), XJ p l e (RM 3 0 0 85) s m args below meth c G 3 Q 0 0 M 2 [(0, .ref (G.2.1 i0)), (1, .int v1)] [] := by
  intro n
  induction n with
  | zero => intro v1 M M2 hr K; rw [f_X1_dryStacks_L2] at hr; cases hr
  | succ n ih =>
    intro v1 M M2 hr K
    rw [f_X1_dryStacks_L2] at hr
    refine x_iload_n hC dX1_dryStacks_2 rfl 1 rfl ?_
    refine x_bipush hC (64 : Int32) dX1_dryStacks_3 (by decide) ?_
    refine x_icmp_ge hC 108 dX1_dryStacks_5 (by decide) (fun h1 => ?_) (fun h1 => ?_)
    · have hr := (ie_s hr).1 h1
      cases hr
      exact x_sub [] rfl K
    · have hr := (ie_s hr).2 h1
      refine x_aload_n hC dX1_dryStacks_8 rfl 0 rfl ?_
      refine gf_X1_21 hC hi0 dX1_dryStacks_9 ?_
      refine x_iload_n hC dX1_dryStacks_12 rfl 1 rfl ?_
      obtain ⟨h2, hr⟩ := it_s hr
      refine x_iald hC (kr_0_3 hi0) h2 dX1_dryStacks_13 ?_
      obtain ⟨M38, q3, hr⟩ := bd1_s hr
      refine x_join (M' := M38) (pc' := 102) (lv' := [(0, .ref (G.2.1 i0)), (1, .int v1)]) (st' := []) ?_ ?_
      · obtain ⟨x39, e40, hr⟩ := lz_s hr
        refine x_iinc hC [(1, .int x39), (0, .ref (G.2.1 i0))] dX1_dryStacks_102 1 rfl (by rw [e40]; rfl) (Nat.le_of_ble_eq_true rfl) rfl ?_
        refine x_goto hC 2 dX1_dryStacks_105 (by decide) ?_
        exact x_sub [1, 0] rfl (ih x39 M38 hr K)
      · intro kj
        refine x_if_le hC 102 dX1_dryStacks_14 (by decide) (fun h4 => ?_) (fun h4 => ?_)
        · have q3 := (ie_s q3).1 h4
          cases q3
          exact x_sub [0, 1] rfl kj
        · have q3 := (ie_s q3).2 h4
          refine x_aload_n hC dX1_dryStacks_17 rfl 0 rfl ?_
          refine gf_X1_24 hC hi0 dX1_dryStacks_18 ?_
          refine x_iload_n hC dX1_dryStacks_21 rfl 1 rfl ?_
          refine x_aload_n hC dX1_dryStacks_22 rfl 0 rfl ?_
          refine gf_X1_24 hC hi0 dX1_dryStacks_23 ?_
          refine x_iload_n hC dX1_dryStacks_26 rfl 1 rfl ?_
          obtain ⟨h5, q3⟩ := it_s q3
          refine x_iald hC (kr_0_4 hi0) h5 dX1_dryStacks_27 ?_
          refine x_aload_n hC dX1_dryStacks_28 rfl 0 rfl ?_
          refine gf_X1_27 hC hi0 dX1_dryStacks_29 ?_
          refine x_iload_n hC dX1_dryStacks_32 rfl 1 rfl ?_
          obtain ⟨h6, q3⟩ := it_s q3
          refine x_iald hC (kr_0_5 hi0) h6 dX1_dryStacks_33 ?_
          obtain ⟨x9, e10, q3⟩ := lz_s q3
          have q7 := e10.symm
          refine x_joinB (P := (x9 = 0 ∨ x9 = 1)) (M' := M) (pc' := 42) (lv' := [(0, .ref (G.2.1 i0)), (1, .int v1)]) (st' := [.int x9, .int (M (i0 + 5) (ix v1)), .int v1, .ref (G.2.1 (i0 + 5))]) ?_ ?_
          · intro b11
            refine x_aload_n hC dX1_dryStacks_42 rfl 0 rfl ?_
            obtain ⟨x12, q13, q3⟩ := bd1_s q3
            refine x_callV (ci := 0) (q := (RX1, TX1, 17)) (As := []) hC (c_X1_rainOfDay l G M hi0 q13) kc_yX1_rainOfDay km_X1_121 ki_yX1_rainOfDay kv_yX1_rainOfDay kn_RX1 ky_yX1_rainOfDay rfl ⟨rfl, rfl⟩ ⟨(Nat.le_of_ble_eq_true rfl), (Nat.le_of_ble_eq_true rfl)⟩ hi0 (by decide) rfl rfl (Nat.le_of_ble_eq_true rfl) ⟨(Nat.le_of_ble_eq_true rfl), (Nat.le_of_ble_eq_true rfl)⟩ dX1_dryStacks_43 (fun b14 => ?_)
            refine x_aload_n hC dX1_dryStacks_46 rfl 0 rfl ?_
            obtain ⟨x15, q16, q3⟩ := bd1_s q3
            refine x_callV (ci := 0) (q := (RX1, TX1, 17)) (As := []) hC (c_X1_sunOfDay l G M hi0 q16) kc_yX1_sunOfDay km_X1_125 ki_yX1_sunOfDay kv_yX1_sunOfDay kn_RX1 ky_yX1_sunOfDay rfl ⟨rfl, rfl⟩ ⟨(Nat.le_of_ble_eq_true rfl), (Nat.le_of_ble_eq_true rfl)⟩ hi0 (by decide) rfl rfl (Nat.le_of_ble_eq_true rfl) ⟨(Nat.le_of_ble_eq_true rfl), (Nat.le_of_ble_eq_true rfl)⟩ dX1_dryStacks_47 (fun b17 => ?_)
            obtain ⟨x18, e19, q3⟩ := lz_s q3
            refine x_callSN (As := [.int (M (i0 + 5) (ix v1)), .int x9, .int x12, .int x15]) hC (c_X9_wetnessBehindNight l G M (M (i0 + 5) (ix v1)) x9 x12 x15 e19.symm) kc_yX9_wetnessBehindNight kmn_X1_128 kt_yX9_wetnessBehindNight kn_RX9 ky_yX9_wetnessBehindNight rfl ⟨rfl, rfl⟩ ⟨(Nat.le_of_ble_eq_true rfl), (Nat.le_of_ble_eq_true rfl)⟩ rfl (Nat.le_of_ble_eq_true rfl) ⟨(Nat.le_of_ble_eq_true rfl), (Nat.le_of_ble_eq_true rfl)⟩ dX1_dryStacks_50 (fun b20 => ?_)
            obtain ⟨h21, q3⟩ := it_s q3
            obtain ⟨M22, e23, q3⟩ := lz_s q3
            refine x_iast hC (kr_0_4 hi0) h21 e23 dX1_dryStacks_53 ?_
            refine x_aload_n hC dX1_dryStacks_54 rfl 0 rfl ?_
            refine gf_X1_27 hC hi0 dX1_dryStacks_55 ?_
            refine x_iload_n hC dX1_dryStacks_58 rfl 1 rfl ?_
            refine x_iconst hC (0 : Int32) dX1_dryStacks_59 (by decide) ?_
            obtain ⟨h24, q3⟩ := it_s q3
            obtain ⟨M25, e26, q3⟩ := lz_s q3
            refine x_iast hC (kr_0_5 hi0) h24 e26 dX1_dryStacks_60 ?_
            refine x_aload_n hC dX1_dryStacks_61 rfl 0 rfl ?_
            refine gf_X1_24 hC hi0 dX1_dryStacks_62 ?_
            refine x_iload_n hC dX1_dryStacks_65 rfl 1 rfl ?_
            obtain ⟨h27, q3⟩ := it_s q3
            refine x_iald hC (kr_0_4 hi0) h27 dX1_dryStacks_66 ?_
            refine x_bipush hC (20 : Int32) dX1_dryStacks_67 (by decide) ?_
            refine x_icmp_ne hC 102 dX1_dryStacks_69 (by decide) (fun h28 => ?_) (fun h28 => ?_)
            · have q3 := (ie_s q3).2 h28
              cases q3
              exact x_sub [0, 1] rfl kj
            · have q3 := (ie_s q3).1 h28
              refine x_aload_n hC dX1_dryStacks_72 rfl 0 rfl ?_
              refine gf_X1_21 hC hi0 dX1_dryStacks_73 ?_
              refine x_iload_n hC dX1_dryStacks_76 rfl 1 rfl ?_
              obtain ⟨h29, q3⟩ := it_s q3
              refine x_iald hC (kr_0_3 hi0) h29 dX1_dryStacks_77 ?_
              refine x_bipush hC (10 : Int32) dX1_dryStacks_78 (by decide) ?_
              refine x_idiv hC dX1_dryStacks_80 (by decide) ?_
              obtain ⟨x30, e31, q3⟩ := lz_s q3
              refine x_topi e31 ?_
              refine x_istore_n hC [(2, .int x30), (0, .ref (G.2.1 i0)), (1, .int v1)] dX1_dryStacks_81 rfl (Nat.le_of_ble_eq_true rfl) rfl ?_
              refine x_aload_n hC dX1_dryStacks_82 rfl 1 rfl ?_
              refine gf_X1_21 hC hi0 dX1_dryStacks_83 ?_
              refine x_iload_n hC dX1_dryStacks_86 rfl 2 rfl ?_
              refine x_dup2 hC dX1_dryStacks_87 rfl rfl ?_
              obtain ⟨h32, q3⟩ := it_s q3
              refine x_iald hC (kr_0_3 hi0) h32 dX1_dryStacks_88 ?_
              refine x_iload_n hC dX1_dryStacks_89 rfl 0 rfl ?_
              refine x_isub hC dX1_dryStacks_90 ?_
              obtain ⟨h33, q3⟩ := it_s q3
              obtain ⟨M34, e35, q3⟩ := lz_s q3
              refine x_iast hC (kr_0_3 hi0) h33 e35 dX1_dryStacks_91 ?_
              refine x_aload_n hC dX1_dryStacks_92 rfl 1 rfl ?_
              refine x_dup hC dX1_dryStacks_93 rfl ?_
              refine gf_X1_49 hC hi0 dX1_dryStacks_94 ?_
              refine x_iload_n hC dX1_dryStacks_97 rfl 0 rfl ?_
              refine x_iadd hC dX1_dryStacks_98 ?_
              obtain ⟨M36, e37, q3⟩ := lz_s q3
              refine pf_X1_49 hC hi0 e37 dX1_dryStacks_99 ?_
              cases q3
              exact x_sub [1, 2] rfl kj
          · intro kj
            refine x_if_eq hC 41 dX1_dryStacks_34 (by decide) (fun h8 => ?_) (fun h8 => ?_)
            · have q7 := (ie_s q7).1 h8
              refine x_iconst hC (0 : Int32) dX1_dryStacks_41 (by decide) ?_
              subst q7
              exact x_sub [0, 1] rfl (kj (Or.inl rfl))
            · have q7 := (ie_s q7).2 h8
              refine x_iconst hC (1 : Int32) dX1_dryStacks_37 (by decide) ?_
              refine x_goto hC 42 dX1_dryStacks_38 (by decide) ?_
              subst q7
              exact x_sub [0, 1] rfl (kj (Or.inr rfl))
set_option maxHeartbeats 4000000 in
set_option maxRecDepth 100000 in
theorem c_X1_dryStacks (l : Launch) (G : GG) (M : Mm) {i0 : Nat} (hi0 : (kd i0).1 = 0) {M9 : Mm} (hr : f_X1_dryStacks i0 M = some M9) : Mo false l yX1_dryStacks (WS yX1_dryStacks cX1_dryStacks 3 none) (RM 3 0 0 85) 0 0 [.ref (G.2.1 i0)] G M none M9 := by
  refine Mo.of (by decide +kernel) (Nat.le_of_ble_eq_true rfl) ?_
  intro p e s m args below meth c hC
  have hC : CX p s m args meth c cX1_dryStacks 3 RX1 none G := hC
  rw [f_X1_dryStacks] at hr
  show XJ p l e (RM 3 0 0 85) s m args below meth c G 3 _ 0 0 M 0 [(0, .ref (G.2.1 i0))] []
  refine x_iconst hC (0 : Int32) dX1_dryStacks_0 (by decide) ?_
  refine x_istore_n hC [(1, .int (0 : Int32)), (0, .ref (G.2.1 i0))] dX1_dryStacks_1 rfl (Nat.le_of_ble_eq_true rfl) rfl ?_
  obtain ⟨M42, q41, hr⟩ := bd1_s hr
  refine x_sub [1, 0] rfl (l_X1_dryStacks_L2 hC hi0 FU (0 : Int32) M q41 ?_)
  cases hr
  exact x_vret hC rfl dX1_dryStacks_108

theorem dX1_neighboursWithPeat_0 : decode cX1_neighboursWithPeat 0 = .ok (.iload_n 1, 1) := by decide +kernel
theorem dX1_neighboursWithPeat_1 : decode cX1_neighboursWithPeat 1 = .ok (.bipush 8, 2) := by decide +kernel
theorem dX1_neighboursWithPeat_3 : decode cX1_neighboursWithPeat 3 = .ok (.irem, 1) := by decide +kernel
theorem dX1_neighboursWithPeat_4 : decode cX1_neighboursWithPeat 4 = .ok (.istore_n 2, 1) := by decide +kernel
theorem dX1_neighboursWithPeat_5 : decode cX1_neighboursWithPeat 5 = .ok (.iload_n 1, 1) := by decide +kernel
theorem dX1_neighboursWithPeat_6 : decode cX1_neighboursWithPeat 6 = .ok (.bipush 8, 2) := by decide +kernel
theorem dX1_neighboursWithPeat_8 : decode cX1_neighboursWithPeat 8 = .ok (.idiv, 1) := by decide +kernel
theorem dX1_neighboursWithPeat_9 : decode cX1_neighboursWithPeat 9 = .ok (.istore_n 3, 1) := by decide +kernel
theorem dX1_neighboursWithPeat_10 : decode cX1_neighboursWithPeat 10 = .ok (.iconst 0, 1) := by decide +kernel
theorem dX1_neighboursWithPeat_11 : decode cX1_neighboursWithPeat 11 = .ok (.istore 4, 2) := by decide +kernel
theorem dX1_neighboursWithPeat_13 : decode cX1_neighboursWithPeat 13 = .ok (.iload_n 2, 1) := by decide +kernel
theorem dX1_neighboursWithPeat_14 : decode cX1_neighboursWithPeat 14 = .ok (.ifCond .le 17, 3) := by decide +kernel
theorem dX1_neighboursWithPeat_17 : decode cX1_neighboursWithPeat 17 = .ok (.aload_n 0, 1) := by decide +kernel
theorem dX1_neighboursWithPeat_18 : decode cX1_neighboursWithPeat 18 = .ok (.getfield 15, 3) := by decide +kernel
theorem dX1_neighboursWithPeat_21 : decode cX1_neighboursWithPeat 21 = .ok (.iload_n 1, 1) := by decide +kernel
theorem dX1_neighboursWithPeat_22 : decode cX1_neighboursWithPeat 22 = .ok (.iconst 1, 1) := by decide +kernel
theorem dX1_neighboursWithPeat_23 : decode cX1_neighboursWithPeat 23 = .ok (.isub, 1) := by decide +kernel
theorem dX1_neighboursWithPeat_24 : decode cX1_neighboursWithPeat 24 = .ok (.iaload, 1) := by decide +kernel
theorem dX1_neighboursWithPeat_25 : decode cX1_neighboursWithPeat 25 = .ok (.ifCond .le 6, 3) := by decide +kernel
theorem dX1_neighboursWithPeat_28 : decode cX1_neighboursWithPeat 28 = .ok (.iinc 4 1, 3) := by decide +kernel
theorem dX1_neighboursWithPeat_31 : decode cX1_neighboursWithPeat 31 = .ok (.iload_n 2, 1) := by decide +kernel
theorem dX1_neighboursWithPeat_32 : decode cX1_neighboursWithPeat 32 = .ok (.bipush 7, 2) := by decide +kernel
theorem dX1_neighboursWithPeat_34 : decode cX1_neighboursWithPeat 34 = .ok (.if_icmp .ge 17, 3) := by decide +kernel
theorem dX1_neighboursWithPeat_37 : decode cX1_neighboursWithPeat 37 = .ok (.aload_n 0, 1) := by decide +kernel
theorem dX1_neighboursWithPeat_38 : decode cX1_neighboursWithPeat 38 = .ok (.getfield 15, 3) := by decide +kernel
theorem dX1_neighboursWithPeat_41 : decode cX1_neighboursWithPeat 41 = .ok (.iload_n 1, 1) := by decide +kernel
theorem dX1_neighboursWithPeat_42 : decode cX1_neighboursWithPeat 42 = .ok (.iconst 1, 1) := by decide +kernel
theorem dX1_neighboursWithPeat_43 : decode cX1_neighboursWithPeat 43 = .ok (.iadd, 1) := by decide +kernel
theorem dX1_neighboursWithPeat_44 : decode cX1_neighboursWithPeat 44 = .ok (.iaload, 1) := by decide +kernel
theorem dX1_neighboursWithPeat_45 : decode cX1_neighboursWithPeat 45 = .ok (.ifCond .le 6, 3) := by decide +kernel
theorem dX1_neighboursWithPeat_48 : decode cX1_neighboursWithPeat 48 = .ok (.iinc 4 1, 3) := by decide +kernel
theorem dX1_neighboursWithPeat_51 : decode cX1_neighboursWithPeat 51 = .ok (.iload_n 3, 1) := by decide +kernel
theorem dX1_neighboursWithPeat_52 : decode cX1_neighboursWithPeat 52 = .ok (.ifCond .le 18, 3) := by decide +kernel
theorem dX1_neighboursWithPeat_55 : decode cX1_neighboursWithPeat 55 = .ok (.aload_n 0, 1) := by decide +kernel
theorem dX1_neighboursWithPeat_56 : decode cX1_neighboursWithPeat 56 = .ok (.getfield 15, 3) := by decide +kernel
theorem dX1_neighboursWithPeat_59 : decode cX1_neighboursWithPeat 59 = .ok (.iload_n 1, 1) := by decide +kernel
theorem dX1_neighboursWithPeat_60 : decode cX1_neighboursWithPeat 60 = .ok (.bipush 8, 2) := by decide +kernel
theorem dX1_neighboursWithPeat_62 : decode cX1_neighboursWithPeat 62 = .ok (.isub, 1) := by decide +kernel
theorem dX1_neighboursWithPeat_63 : decode cX1_neighboursWithPeat 63 = .ok (.iaload, 1) := by decide +kernel
theorem dX1_neighboursWithPeat_64 : decode cX1_neighboursWithPeat 64 = .ok (.ifCond .le 6, 3) := by decide +kernel
theorem dX1_neighboursWithPeat_67 : decode cX1_neighboursWithPeat 67 = .ok (.iinc 4 1, 3) := by decide +kernel
theorem dX1_neighboursWithPeat_70 : decode cX1_neighboursWithPeat 70 = .ok (.iload_n 3, 1) := by decide +kernel
theorem dX1_neighboursWithPeat_71 : decode cX1_neighboursWithPeat 71 = .ok (.bipush 7, 2) := by decide +kernel
theorem dX1_neighboursWithPeat_73 : decode cX1_neighboursWithPeat 73 = .ok (.if_icmp .ge 18, 3) := by decide +kernel
theorem dX1_neighboursWithPeat_76 : decode cX1_neighboursWithPeat 76 = .ok (.aload_n 0, 1) := by decide +kernel
theorem dX1_neighboursWithPeat_77 : decode cX1_neighboursWithPeat 77 = .ok (.getfield 15, 3) := by decide +kernel
theorem dX1_neighboursWithPeat_80 : decode cX1_neighboursWithPeat 80 = .ok (.iload_n 1, 1) := by decide +kernel
theorem dX1_neighboursWithPeat_81 : decode cX1_neighboursWithPeat 81 = .ok (.bipush 8, 2) := by decide +kernel
theorem dX1_neighboursWithPeat_83 : decode cX1_neighboursWithPeat 83 = .ok (.iadd, 1) := by decide +kernel
theorem dX1_neighboursWithPeat_84 : decode cX1_neighboursWithPeat 84 = .ok (.iaload, 1) := by decide +kernel
theorem dX1_neighboursWithPeat_85 : decode cX1_neighboursWithPeat 85 = .ok (.ifCond .le 6, 3) := by decide +kernel
theorem dX1_neighboursWithPeat_88 : decode cX1_neighboursWithPeat 88 = .ok (.iinc 4 1, 3) := by decide +kernel
theorem dX1_neighboursWithPeat_91 : decode cX1_neighboursWithPeat 91 = .ok (.iload 4, 2) := by decide +kernel
theorem dX1_neighboursWithPeat_93 : decode cX1_neighboursWithPeat 93 = .ok (.ireturn, 1) := by decide +kernel

def f_X1_neighboursWithPeat (i0 : Nat) (a1 : Int32) (M : Mm) : Option Int32 :=
  lz (a1 - a1 / (8 : Int32) * (8 : Int32)) fun x1 => bd1 (if (x1 ≤ 0) then (some ((0 : Int32))) else (if 0 ≤ (a1 - (1 : Int32)).toInt ∧ (a1 - (1 : Int32)).toInt < ((64 : Nat) : Int) then (if ((M (i0 + 2) (ix (a1 - (1 : Int32)))) ≤ 0) then (some ((0 : Int32))) else (lz ((0 : Int32) + (1 : Int32)) fun x7 => some (x7))) else none)) fun x9 => bd1 (if ((7 : Int32) ≤ x1) then (some (x9)) else (if 0 ≤ (a1 + (1 : Int32)).toInt ∧ (a1 + (1 : Int32)).toInt < ((64 : Nat) : Int) then (if ((M (i0 + 2) (ix (a1 + (1 : Int32)))) ≤ 0) then (some (x9)) else (lz (x9 + (1 : Int32)) fun x14 => some (x14))) else none)) fun x16 => bd1 (if ((a1 / (8 : Int32)) ≤ 0) then (some (x16)) else (if 0 ≤ (a1 - (8 : Int32)).toInt ∧ (a1 - (8 : Int32)).toInt < ((64 : Nat) : Int) then (if ((M (i0 + 2) (ix (a1 - (8 : Int32)))) ≤ 0) then (some (x16)) else (lz (x16 + (1 : Int32)) fun x21 => some (x21))) else none)) fun x23 => bd1 (if ((7 : Int32) ≤ (a1 / (8 : Int32))) then (some (x23)) else (if 0 ≤ (a1 + (8 : Int32)).toInt ∧ (a1 + (8 : Int32)).toInt < ((64 : Nat) : Int) then (if ((M (i0 + 2) (ix (a1 + (8 : Int32)))) ≤ 0) then (some (x23)) else (lz (x23 + (1 : Int32)) fun x28 => some (x28))) else none)) fun x30 => some x30

set_option maxHeartbeats 4000000 in
set_option maxRecDepth 100000 in
theorem c_X1_neighboursWithPeat (l : Launch) (G : GG) (M : Mm) {i0 : Nat} (hi0 : (kd i0).1 = 0) (a1 : Int32) {r : Int32} (hr : f_X1_neighboursWithPeat i0 a1 M = some r) : Mo false l yX1_neighboursWithPeat (WS yX1_neighboursWithPeat cX1_neighboursWithPeat 5 (some .int)) (RM 0 0 0 0) 0 0 [.ref (G.2.1 i0), .int a1] G M (some (.int r)) M := by
  refine Mo.of (by decide +kernel) (Nat.le_of_ble_eq_true rfl) ?_
  intro p e s m args below meth c hC
  have hC : CX p s m args meth c cX1_neighboursWithPeat 5 RX1 (some .int) G := hC
  rw [f_X1_neighboursWithPeat] at hr
  show XJ p l e (RM 0 0 0 0) s m args below meth c G 5 _ 0 0 M 0 [(0, .ref (G.2.1 i0)), (1, .int a1)] []
  refine x_iload_n hC dX1_neighboursWithPeat_0 rfl 1 rfl ?_
  refine x_bipush hC (8 : Int32) dX1_neighboursWithPeat_1 (by decide) ?_
  refine x_irem hC dX1_neighboursWithPeat_3 (by decide) ?_
  obtain ⟨x1, e2, hr⟩ := lz_s hr
  refine x_topi e2 ?_
  refine x_istore_n hC [(2, .int x1), (0, .ref (G.2.1 i0)), (1, .int a1)] dX1_neighboursWithPeat_4 rfl (Nat.le_of_ble_eq_true rfl) rfl ?_
  refine x_iload_n hC dX1_neighboursWithPeat_5 rfl 2 rfl ?_
  refine x_bipush hC (8 : Int32) dX1_neighboursWithPeat_6 (by decide) ?_
  refine x_idiv hC dX1_neighboursWithPeat_8 (by decide) ?_
  refine x_istore_n hC [(3, .int (a1 / (8 : Int32))), (2, .int x1), (0, .ref (G.2.1 i0)), (1, .int a1)] dX1_neighboursWithPeat_9 rfl (Nat.le_of_ble_eq_true rfl) rfl ?_
  refine x_iconst hC (0 : Int32) dX1_neighboursWithPeat_10 (by decide) ?_
  refine x_istore hC [(4, .int (0 : Int32)), (3, .int (a1 / (8 : Int32))), (2, .int x1), (0, .ref (G.2.1 i0)), (1, .int a1)] dX1_neighboursWithPeat_11  (Nat.le_of_ble_eq_true rfl) rfl ?_
  refine x_iload_n hC dX1_neighboursWithPeat_13 rfl 2 rfl ?_
  obtain ⟨x9, q3, hr⟩ := bd1_s hr
  refine x_join (M' := M) (pc' := 31) (lv' := [(0, .ref (G.2.1 i0)), (1, .int a1), (2, .int x1), (3, .int (a1 / (8 : Int32))), (4, .int x9)]) (st' := []) ?_ ?_
  · refine x_iload_n hC dX1_neighboursWithPeat_31 rfl 2 rfl ?_
    refine x_bipush hC (7 : Int32) dX1_neighboursWithPeat_32 (by decide) ?_
    obtain ⟨x16, q10, hr⟩ := bd1_s hr
    refine x_join (M' := M) (pc' := 51) (lv' := [(0, .ref (G.2.1 i0)), (1, .int a1), (3, .int (a1 / (8 : Int32))), (4, .int x16)]) (st' := []) ?_ ?_
    · refine x_iload_n hC dX1_neighboursWithPeat_51 rfl 2 rfl ?_
      obtain ⟨x23, q17, hr⟩ := bd1_s hr
      refine x_join (M' := M) (pc' := 70) (lv' := [(0, .ref (G.2.1 i0)), (1, .int a1), (3, .int (a1 / (8 : Int32))), (4, .int x23)]) (st' := []) ?_ ?_
      · refine x_iload_n hC dX1_neighboursWithPeat_70 rfl 2 rfl ?_
        refine x_bipush hC (7 : Int32) dX1_neighboursWithPeat_71 (by decide) ?_
        obtain ⟨x30, q24, hr⟩ := bd1_s hr
        refine x_join (M' := M) (pc' := 91) (lv' := [(4, .int x30)]) (st' := []) ?_ ?_
        · refine x_iload hC dX1_neighboursWithPeat_91 0 rfl ?_
          cases hr
          exact x_iret hC rfl dX1_neighboursWithPeat_93
        · intro kj
          refine x_icmp_ge hC 91 dX1_neighboursWithPeat_73 (by decide) (fun h25 => ?_) (fun h25 => ?_)
          · have q24 := (ie_s q24).1 h25
            cases q24
            exact x_sub [3] rfl kj
          · have q24 := (ie_s q24).2 h25
            refine x_aload_n hC dX1_neighboursWithPeat_76 rfl 0 rfl ?_
            refine gf_X1_15 hC hi0 dX1_neighboursWithPeat_77 ?_
            refine x_iload_n hC dX1_neighboursWithPeat_80 rfl 1 rfl ?_
            refine x_bipush hC (8 : Int32) dX1_neighboursWithPeat_81 (by decide) ?_
            refine x_iadd hC dX1_neighboursWithPeat_83 ?_
            obtain ⟨h26, q24⟩ := it_s q24
            refine x_iald hC (kr_0_1 hi0) h26 dX1_neighboursWithPeat_84 ?_
            refine x_if_le hC 91 dX1_neighboursWithPeat_85 (by decide) (fun h27 => ?_) (fun h27 => ?_)
            · have q24 := (ie_s q24).1 h27
              cases q24
              exact x_sub [3] rfl kj
            · have q24 := (ie_s q24).2 h27
              obtain ⟨x28, e29, q24⟩ := lz_s q24
              refine x_iinc hC [(4, .int x28), (0, .ref (G.2.1 i0)), (1, .int a1), (3, .int (a1 / (8 : Int32)))] dX1_neighboursWithPeat_88 3 rfl (by rw [e29]; rfl) (Nat.le_of_ble_eq_true rfl) rfl ?_
              cases q24
              exact x_sub [0] rfl kj
      · intro kj
        refine x_if_le hC 70 dX1_neighboursWithPeat_52 (by decide) (fun h18 => ?_) (fun h18 => ?_)
        · have q17 := (ie_s q17).1 h18
          cases q17
          exact x_sub [0, 1, 2, 3] rfl kj
        · have q17 := (ie_s q17).2 h18
          refine x_aload_n hC dX1_neighboursWithPeat_55 rfl 0 rfl ?_
          refine gf_X1_15 hC hi0 dX1_neighboursWithPeat_56 ?_
          refine x_iload_n hC dX1_neighboursWithPeat_59 rfl 1 rfl ?_
          refine x_bipush hC (8 : Int32) dX1_neighboursWithPeat_60 (by decide) ?_
          refine x_isub hC dX1_neighboursWithPeat_62 ?_
          obtain ⟨h19, q17⟩ := it_s q17
          refine x_iald hC (kr_0_1 hi0) h19 dX1_neighboursWithPeat_63 ?_
          refine x_if_le hC 70 dX1_neighboursWithPeat_64 (by decide) (fun h20 => ?_) (fun h20 => ?_)
          · have q17 := (ie_s q17).1 h20
            cases q17
            exact x_sub [0, 1, 2, 3] rfl kj
          · have q17 := (ie_s q17).2 h20
            obtain ⟨x21, e22, q17⟩ := lz_s q17
            refine x_iinc hC [(4, .int x21), (0, .ref (G.2.1 i0)), (1, .int a1), (3, .int (a1 / (8 : Int32)))] dX1_neighboursWithPeat_67 3 rfl (by rw [e22]; rfl) (Nat.le_of_ble_eq_true rfl) rfl ?_
            cases q17
            exact x_sub [1, 2, 3, 0] rfl kj
    · intro kj
      refine x_icmp_ge hC 51 dX1_neighboursWithPeat_34 (by decide) (fun h11 => ?_) (fun h11 => ?_)
      · have q10 := (ie_s q10).1 h11
        cases q10
        exact x_sub [0, 1, 3, 4] rfl kj
      · have q10 := (ie_s q10).2 h11
        refine x_aload_n hC dX1_neighboursWithPeat_37 rfl 0 rfl ?_
        refine gf_X1_15 hC hi0 dX1_neighboursWithPeat_38 ?_
        refine x_iload_n hC dX1_neighboursWithPeat_41 rfl 1 rfl ?_
        refine x_iconst hC (1 : Int32) dX1_neighboursWithPeat_42 (by decide) ?_
        refine x_iadd hC dX1_neighboursWithPeat_43 ?_
        obtain ⟨h12, q10⟩ := it_s q10
        refine x_iald hC (kr_0_1 hi0) h12 dX1_neighboursWithPeat_44 ?_
        refine x_if_le hC 51 dX1_neighboursWithPeat_45 (by decide) (fun h13 => ?_) (fun h13 => ?_)
        · have q10 := (ie_s q10).1 h13
          cases q10
          exact x_sub [0, 1, 3, 4] rfl kj
        · have q10 := (ie_s q10).2 h13
          obtain ⟨x14, e15, q10⟩ := lz_s q10
          refine x_iinc hC [(4, .int x14), (0, .ref (G.2.1 i0)), (1, .int a1), (2, .int x1), (3, .int (a1 / (8 : Int32)))] dX1_neighboursWithPeat_48 4 rfl (by rw [e15]; rfl) (Nat.le_of_ble_eq_true rfl) rfl ?_
          cases q10
          exact x_sub [1, 2, 4, 0] rfl kj
  · intro kj
    refine x_if_le hC 31 dX1_neighboursWithPeat_14 (by decide) (fun h4 => ?_) (fun h4 => ?_)
    · have q3 := (ie_s q3).1 h4
      cases q3
      exact x_sub [3, 4, 2, 1, 0] rfl kj
    · have q3 := (ie_s q3).2 h4
      refine x_aload_n hC dX1_neighboursWithPeat_17 rfl 3 rfl ?_
      refine gf_X1_15 hC hi0 dX1_neighboursWithPeat_18 ?_
      refine x_iload_n hC dX1_neighboursWithPeat_21 rfl 4 rfl ?_
      refine x_iconst hC (1 : Int32) dX1_neighboursWithPeat_22 (by decide) ?_
      refine x_isub hC dX1_neighboursWithPeat_23 ?_
      obtain ⟨h5, q3⟩ := it_s q3
      refine x_iald hC (kr_0_1 hi0) h5 dX1_neighboursWithPeat_24 ?_
      refine x_if_le hC 31 dX1_neighboursWithPeat_25 (by decide) (fun h6 => ?_) (fun h6 => ?_)
      · have q3 := (ie_s q3).1 h6
        cases q3
        exact x_sub [3, 4, 2, 1, 0] rfl kj
      · have q3 := (ie_s q3).2 h6
        obtain ⟨x7, e8, q3⟩ := lz_s q3
        refine x_iinc hC [(4, .int x7), (3, .int (a1 / (8 : Int32))), (2, .int x1), (0, .ref (G.2.1 i0)), (1, .int a1)] dX1_neighboursWithPeat_28 0 rfl (by rw [e8]; rfl) (Nat.le_of_ble_eq_true rfl) rfl ?_
        cases q3
        exact x_sub [3, 4, 2, 1, 0] rfl kj
