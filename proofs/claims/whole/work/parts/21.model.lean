theorem dX11_thrown_0 : decode cX11_thrown 0 = .ok (.aload_n 0, 1) := by decide +kernel
theorem dX11_thrown_1 : decode cX11_thrown 1 = .ok (.getfield 69, 3) := by decide +kernel
theorem dX11_thrown_4 : decode cX11_thrown 4 = .ok (.ireturn, 1) := by decide +kernel

def f_X11_thrown (i0 : Nat) (M : Mm) : Int32 :=
  (M i0 0)

set_option maxHeartbeats 4000000 in
set_option maxRecDepth 100000 in
theorem c_X11_thrown (l : Launch) (G : GG) (M : Mm) {i0 : Nat} (hi0 : (kd i0).1 = 5) {r : Int32} (hr : f_X11_thrown i0 M = r) : Mo false l yX11_thrown (WS yX11_thrown cX11_thrown 1 (some .int)) (RM 0 0 0 0) 0 0 [.ref (G.2.1 i0)] G M (some (.int r)) M := by
  refine Mo.of (by decide +kernel) (Nat.le_of_ble_eq_true rfl) ?_
  intro p e s m args below meth c hC
  have hC : CX p s m args meth c cX11_thrown 1 RX11 (some .int) G := hC
  rw [f_X11_thrown] at hr
  show XJ p l e (RM 0 0 0 0) s m args below meth c G 1 _ 0 0 M 0 [(0, .ref (G.2.1 i0))] []
  refine x_aload_n hC dX11_thrown_0 rfl 0 rfl ?_
  refine gf_X11_69 hC hi0 dX11_thrown_1 ?_
  subst hr
  exact x_iret hC rfl dX11_thrown_4

theorem dX11_no_0 : decode cX11_no 0 = .ok (.aload_n 0, 1) := by decide +kernel
theorem dX11_no_1 : decode cX11_no 1 = .ok (.iload_n 1, 1) := by decide +kernel
theorem dX11_no_2 : decode cX11_no 2 = .ok (.putfield 69, 3) := by decide +kernel
theorem dX11_no_5 : decode cX11_no 5 = .ok (.iconst 0, 1) := by decide +kernel
theorem dX11_no_6 : decode cX11_no 6 = .ok (.ireturn, 1) := by decide +kernel

def f_X11_no (i0 : Nat) (a1 : Int32) (M : Mm) : Option (Int32 × Mm) :=
  lz (wr M i0 0 a1) fun M1 => some ((0 : Int32), M1)

set_option maxHeartbeats 4000000 in
set_option maxRecDepth 100000 in
theorem c_X11_no (l : Launch) (G : GG) (M : Mm) {i0 : Nat} (hi0 : (kd i0).1 = 5) (a1 : Int32) {r : Int32} {M9 : Mm} (hr : f_X11_no i0 a1 M = some (r, M9)) : Mo false l yX11_no (WS yX11_no cX11_no 2 (some .int)) (RM 0 0 0 0) 0 0 [.ref (G.2.1 i0), .int a1] G M (some (.int r)) M9 := by
  refine Mo.of (by decide +kernel) (Nat.le_of_ble_eq_true rfl) ?_
  intro p e s m args below meth c hC
  have hC : CX p s m args meth c cX11_no 2 RX11 (some .int) G := hC
  rw [f_X11_no] at hr
  show XJ p l e (RM 0 0 0 0) s m args below meth c G 2 _ 0 0 M 0 [(0, .ref (G.2.1 i0)), (1, .int a1)] []
  refine x_aload_n hC dX11_no_0 rfl 0 rfl ?_
  refine x_iload_n hC dX11_no_1 rfl 1 rfl ?_
  obtain ⟨M1, e2, hr⟩ := lz_s hr
  refine pf_X11_69 hC hi0 e2 dX11_no_2 ?_
  refine x_iconst hC (0 : Int32) dX11_no_5 (by decide) ?_
  cases hr
  exact x_iret hC rfl dX11_no_6

theorem dX11_isIn_0 : decode cX11_isIn 0 = .ok (.iload_n 0, 1) := by decide +kernel
theorem dX11_isIn_1 : decode cX11_isIn 1 = .ok (.iload_n 1, 1) := by decide +kernel
theorem dX11_isIn_2 : decode cX11_isIn 2 = .ok (.if_icmp .lt 12, 3) := by decide +kernel
theorem dX11_isIn_5 : decode cX11_isIn 5 = .ok (.iload_n 0, 1) := by decide +kernel
theorem dX11_isIn_6 : decode cX11_isIn 6 = .ok (.iload_n 2, 1) := by decide +kernel
theorem dX11_isIn_7 : decode cX11_isIn 7 = .ok (.if_icmp .gt 7, 3) := by decide +kernel
theorem dX11_isIn_10 : decode cX11_isIn 10 = .ok (.iconst 1, 1) := by decide +kernel
theorem dX11_isIn_11 : decode cX11_isIn 11 = .ok (.goto 4, 3) := by decide +kernel
theorem dX11_isIn_14 : decode cX11_isIn 14 = .ok (.iconst 0, 1) := by decide +kernel
theorem dX11_isIn_15 : decode cX11_isIn 15 = .ok (.ireturn, 1) := by decide +kernel

def f_X11_isIn (a0 : Int32) (a1 : Int32) (a2 : Int32) : Int32 :=
  if (a0 < a1) then ((0 : Int32)) else (if (a2 < a0) then ((0 : Int32)) else ((1 : Int32)))

set_option maxHeartbeats 4000000 in
set_option maxRecDepth 100000 in
theorem c_X11_isIn (l : Launch) (G : GG) (M : Mm) (a0 : Int32) (a1 : Int32) (a2 : Int32) {r : Int32} (hr : f_X11_isIn a0 a1 a2 = r) : Mo true l yX11_isIn (WS yX11_isIn cX11_isIn 3 (some .boolean)) (RM 0 0 0 0) 0 0 [.int a0, .int a1, .int a2] G M (some (.int r)) M := by
  refine Mo.of (by decide +kernel) (Nat.le_of_ble_eq_true rfl) ?_
  intro p e s m args below meth c hC
  have hC : CX p s m args meth c cX11_isIn 3 RX11 (some .boolean) G := hC
  rw [f_X11_isIn] at hr
  show XJ p l e (RM 0 0 0 0) s m args below meth c G 3 _ 0 0 M 0 [(0, .int a0), (1, .int a1), (2, .int a2)] []
  refine x_iload_n hC dX11_isIn_0 rfl 0 rfl ?_
  refine x_iload_n hC dX11_isIn_1 rfl 1 rfl ?_
  refine x_icmp_lt hC 14 dX11_isIn_2 (by decide) (fun h1 => ?_) (fun h1 => ?_)
  · have hr := (ie_s hr).1 h1
    refine x_iconst hC (0 : Int32) dX11_isIn_14 (by decide) ?_
    subst hr
    exact x_zret hC rfl (Or.inl rfl) dX11_isIn_15
  · have hr := (ie_s hr).2 h1
    refine x_iload_n hC dX11_isIn_5 rfl 0 rfl ?_
    refine x_iload_n hC dX11_isIn_6 rfl 2 rfl ?_
    refine x_icmp_gt hC 14 dX11_isIn_7 (by decide) (fun h2 => ?_) (fun h2 => ?_)
    · have hr := (ie_s hr).1 h2
      refine x_iconst hC (0 : Int32) dX11_isIn_14 (by decide) ?_
      subst hr
      exact x_zret hC rfl (Or.inl rfl) dX11_isIn_15
    · have hr := (ie_s hr).2 h2
      refine x_iconst hC (1 : Int32) dX11_isIn_10 (by decide) ?_
      refine x_goto hC 15 dX11_isIn_11 (by decide) ?_
      subst hr
      exact x_zret hC rfl (Or.inr rfl) dX11_isIn_15

theorem dX11_isCell_0 : decode cX11_isCell 0 = .ok (.iload_n 0, 1) := by decide +kernel
theorem dX11_isCell_1 : decode cX11_isCell 1 = .ok (.iconst 0, 1) := by decide +kernel
theorem dX11_isCell_2 : decode cX11_isCell 2 = .ok (.bipush 7, 2) := by decide +kernel
theorem dX11_isCell_4 : decode cX11_isCell 4 = .ok (.invokestatic 72, 3) := by decide +kernel
theorem dX11_isCell_7 : decode cX11_isCell 7 = .ok (.ifCond .eq 17, 3) := by decide +kernel
theorem dX11_isCell_10 : decode cX11_isCell 10 = .ok (.iload_n 1, 1) := by decide +kernel
theorem dX11_isCell_11 : decode cX11_isCell 11 = .ok (.iconst 0, 1) := by decide +kernel
theorem dX11_isCell_12 : decode cX11_isCell 12 = .ok (.bipush 7, 2) := by decide +kernel
theorem dX11_isCell_14 : decode cX11_isCell 14 = .ok (.invokestatic 72, 3) := by decide +kernel
theorem dX11_isCell_17 : decode cX11_isCell 17 = .ok (.ifCond .eq 7, 3) := by decide +kernel
theorem dX11_isCell_20 : decode cX11_isCell 20 = .ok (.iconst 1, 1) := by decide +kernel
theorem dX11_isCell_21 : decode cX11_isCell 21 = .ok (.goto 4, 3) := by decide +kernel
theorem dX11_isCell_24 : decode cX11_isCell 24 = .ok (.iconst 0, 1) := by decide +kernel
theorem dX11_isCell_25 : decode cX11_isCell 25 = .ok (.ireturn, 1) := by decide +kernel

def f_X11_isCell (a0 : Int32) (a1 : Int32) : Int32 :=
  lz (f_X11_isIn a0 (0 : Int32) (7 : Int32)) fun x1 => if (x1 = 0) then ((0 : Int32)) else (lz (f_X11_isIn a1 (0 : Int32) (7 : Int32)) fun x5 => if (x5 = 0) then ((0 : Int32)) else ((1 : Int32)))

set_option maxHeartbeats 4000000 in
set_option maxRecDepth 100000 in
theorem c_X11_isCell (l : Launch) (G : GG) (M : Mm) (a0 : Int32) (a1 : Int32) {r : Int32} (hr : f_X11_isCell a0 a1 = r) : Mo true l yX11_isCell (WS yX11_isCell cX11_isCell 2 (some .boolean)) (RM 1 0 0 22) 0 0 [.int a0, .int a1] G M (some (.int r)) M := by
  refine Mo.of (by decide +kernel) (Nat.le_of_ble_eq_true rfl) ?_
  intro p e s m args below meth c hC
  have hC : CX p s m args meth c cX11_isCell 2 RX11 (some .boolean) G := hC
  rw [f_X11_isCell] at hr
  show XJ p l e (RM 1 0 0 22) s m args below meth c G 2 _ 0 0 M 0 [(0, .int a0), (1, .int a1)] []
  refine x_iload_n hC dX11_isCell_0 rfl 0 rfl ?_
  refine x_iconst hC (0 : Int32) dX11_isCell_1 (by decide) ?_
  refine x_bipush hC (7 : Int32) dX11_isCell_2 (by decide) ?_
  obtain ⟨x1, e2, hr⟩ := lz_s hr
  refine x_callS (As := [.int a0, .int (0 : Int32), .int (7 : Int32)]) hC (c_X11_isIn l G M a0 (0 : Int32) (7 : Int32) e2.symm) kc_yX11_isIn km_X11_72 kt_yX11_isIn kn_RX11 ky_yX11_isIn rfl ⟨rfl, rfl⟩ ⟨(Nat.le_of_ble_eq_true rfl), (Nat.le_of_ble_eq_true rfl)⟩ rfl (Nat.le_of_ble_eq_true rfl) ⟨(Nat.le_of_ble_eq_true rfl), (Nat.le_of_ble_eq_true rfl)⟩ dX11_isCell_4 (fun b3 => ?_)
  refine x_if_eq hC 24 dX11_isCell_7 (by decide) (fun h4 => ?_) (fun h4 => ?_)
  · have hr := (ie_s hr).1 h4
    refine x_iconst hC (0 : Int32) dX11_isCell_24 (by decide) ?_
    subst hr
    exact x_zret hC rfl (Or.inl rfl) dX11_isCell_25
  · have hr := (ie_s hr).2 h4
    refine x_iload_n hC dX11_isCell_10 rfl 1 rfl ?_
    refine x_iconst hC (0 : Int32) dX11_isCell_11 (by decide) ?_
    refine x_bipush hC (7 : Int32) dX11_isCell_12 (by decide) ?_
    obtain ⟨x5, e6, hr⟩ := lz_s hr
    refine x_callS (As := [.int a1, .int (0 : Int32), .int (7 : Int32)]) hC (c_X11_isIn l G M a1 (0 : Int32) (7 : Int32) e6.symm) kc_yX11_isIn km_X11_72 kt_yX11_isIn kn_RX11 ky_yX11_isIn rfl ⟨rfl, rfl⟩ ⟨(Nat.le_of_ble_eq_true rfl), (Nat.le_of_ble_eq_true rfl)⟩ rfl (Nat.le_of_ble_eq_true rfl) ⟨(Nat.le_of_ble_eq_true rfl), (Nat.le_of_ble_eq_true rfl)⟩ dX11_isCell_14 (fun b7 => ?_)
    refine x_if_eq hC 24 dX11_isCell_17 (by decide) (fun h8 => ?_) (fun h8 => ?_)
    · have hr := (ie_s hr).1 h8
      refine x_iconst hC (0 : Int32) dX11_isCell_24 (by decide) ?_
      subst hr
      exact x_zret hC rfl (Or.inl rfl) dX11_isCell_25
    · have hr := (ie_s hr).2 h8
      refine x_iconst hC (1 : Int32) dX11_isCell_20 (by decide) ?_
      refine x_goto hC 25 dX11_isCell_21 (by decide) ?_
      subst hr
      exact x_zret hC rfl (Or.inr rfl) dX11_isCell_25

theorem dX11_byteOf_0 : decode cX11_byteOf 0 = .ok (.iload_n 1, 1) := by decide +kernel
theorem dX11_byteOf_1 : decode cX11_byteOf 1 = .ok (.aload_n 0, 1) := by decide +kernel
theorem dX11_byteOf_2 : decode cX11_byteOf 2 = .ok (.getfield 76, 3) := by decide +kernel
theorem dX11_byteOf_5 : decode cX11_byteOf 5 = .ok (.if_icmp .ge 12, 3) := by decide +kernel
theorem dX11_byteOf_8 : decode cX11_byteOf 8 = .ok (.aload_n 0, 1) := by decide +kernel
theorem dX11_byteOf_9 : decode cX11_byteOf 9 = .ok (.getfield 9, 3) := by decide +kernel
theorem dX11_byteOf_12 : decode cX11_byteOf 12 = .ok (.iload_n 1, 1) := by decide +kernel
theorem dX11_byteOf_13 : decode cX11_byteOf 13 = .ok (.iaload, 1) := by decide +kernel
theorem dX11_byteOf_14 : decode cX11_byteOf 14 = .ok (.goto 4, 3) := by decide +kernel
theorem dX11_byteOf_17 : decode cX11_byteOf 17 = .ok (.iconst 0, 1) := by decide +kernel
theorem dX11_byteOf_18 : decode cX11_byteOf 18 = .ok (.ireturn, 1) := by decide +kernel

def f_X11_byteOf (i0 : Nat) (a1 : Int32) (M : Mm) : Option Int32 :=
  if ((M i0 2) ≤ a1) then (some (0 : Int32)) else (if 0 ≤ a1.toInt ∧ a1.toInt < ((2000 : Nat) : Int) then (some (M (i0 + 1) (ix a1))) else none)

set_option maxHeartbeats 4000000 in
set_option maxRecDepth 100000 in
theorem c_X11_byteOf (l : Launch) (G : GG) (M : Mm) {i0 : Nat} (hi0 : (kd i0).1 = 5) (a1 : Int32) {r : Int32} (hr : f_X11_byteOf i0 a1 M = some r) : Mo false l yX11_byteOf (WS yX11_byteOf cX11_byteOf 2 (some .int)) (RM 0 0 0 0) 0 0 [.ref (G.2.1 i0), .int a1] G M (some (.int r)) M := by
  refine Mo.of (by decide +kernel) (Nat.le_of_ble_eq_true rfl) ?_
  intro p e s m args below meth c hC
  have hC : CX p s m args meth c cX11_byteOf 2 RX11 (some .int) G := hC
  rw [f_X11_byteOf] at hr
  show XJ p l e (RM 0 0 0 0) s m args below meth c G 2 _ 0 0 M 0 [(0, .ref (G.2.1 i0)), (1, .int a1)] []
  refine x_iload_n hC dX11_byteOf_0 rfl 1 rfl ?_
  refine x_aload_n hC dX11_byteOf_1 rfl 0 rfl ?_
  refine gf_X11_76 hC hi0 dX11_byteOf_2 ?_
  refine x_icmp_ge hC 17 dX11_byteOf_5 (by decide) (fun h1 => ?_) (fun h1 => ?_)
  · have hr := (ie_s hr).1 h1
    refine x_iconst hC (0 : Int32) dX11_byteOf_17 (by decide) ?_
    cases hr
    exact x_iret hC rfl dX11_byteOf_18
  · have hr := (ie_s hr).2 h1
    refine x_aload_n hC dX11_byteOf_8 rfl 0 rfl ?_
    refine gf_X11_9 hC hi0 dX11_byteOf_9 ?_
    refine x_iload_n hC dX11_byteOf_12 rfl 1 rfl ?_
    obtain ⟨h2, hr⟩ := it_s hr
    refine x_iald hC (kr_5_1 hi0) h2 dX11_byteOf_13 ?_
    refine x_goto hC 18 dX11_byteOf_14 (by decide) ?_
    cases hr
    exact x_iret hC rfl dX11_byteOf_18

theorem dX11_isDigit_0 : decode cX11_isDigit 0 = .ok (.aload_n 0, 1) := by decide +kernel
theorem dX11_isDigit_1 : decode cX11_isDigit 1 = .ok (.iload_n 1, 1) := by decide +kernel
theorem dX11_isDigit_2 : decode cX11_isDigit 2 = .ok (.invokevirtual 79, 3) := by decide +kernel
theorem dX11_isDigit_5 : decode cX11_isDigit 5 = .ok (.bipush 48, 2) := by decide +kernel
theorem dX11_isDigit_7 : decode cX11_isDigit 7 = .ok (.if_icmp .lt 17, 3) := by decide +kernel
theorem dX11_isDigit_10 : decode cX11_isDigit 10 = .ok (.aload_n 0, 1) := by decide +kernel
theorem dX11_isDigit_11 : decode cX11_isDigit 11 = .ok (.iload_n 1, 1) := by decide +kernel
theorem dX11_isDigit_12 : decode cX11_isDigit 12 = .ok (.invokevirtual 79, 3) := by decide +kernel
theorem dX11_isDigit_15 : decode cX11_isDigit 15 = .ok (.bipush 57, 2) := by decide +kernel
theorem dX11_isDigit_17 : decode cX11_isDigit 17 = .ok (.if_icmp .gt 7, 3) := by decide +kernel
theorem dX11_isDigit_20 : decode cX11_isDigit 20 = .ok (.iconst 1, 1) := by decide +kernel
theorem dX11_isDigit_21 : decode cX11_isDigit 21 = .ok (.goto 4, 3) := by decide +kernel
theorem dX11_isDigit_24 : decode cX11_isDigit 24 = .ok (.iconst 0, 1) := by decide +kernel
theorem dX11_isDigit_25 : decode cX11_isDigit 25 = .ok (.ireturn, 1) := by decide +kernel

def f_X11_isDigit (i0 : Nat) (a1 : Int32) (M : Mm) : Option Int32 :=
  bd1 (f_X11_byteOf i0 a1 M) fun x1 => if (x1 < (48 : Int32)) then (some (0 : Int32)) else (bd1 (f_X11_byteOf i0 a1 M) fun x5 => if ((57 : Int32) < x5) then (some (0 : Int32)) else (some (1 : Int32)))

set_option maxHeartbeats 4000000 in
set_option maxRecDepth 100000 in
theorem c_X11_isDigit (l : Launch) (G : GG) (M : Mm) {i0 : Nat} (hi0 : (kd i0).1 = 5) (a1 : Int32) {r : Int32} (hr : f_X11_isDigit i0 a1 M = some r) : Mo true l yX11_isDigit (WS yX11_isDigit cX11_isDigit 2 (some .boolean)) (RM 1 0 0 21) 0 0 [.ref (G.2.1 i0), .int a1] G M (some (.int r)) M := by
  refine Mo.of (by decide +kernel) (Nat.le_of_ble_eq_true rfl) ?_
  intro p e s m args below meth c hC
  have hC : CX p s m args meth c cX11_isDigit 2 RX11 (some .boolean) G := hC
  rw [f_X11_isDigit] at hr
  show XJ p l e (RM 1 0 0 21) s m args below meth c G 2 _ 0 0 M 0 [(0, .ref (G.2.1 i0)), (1, .int a1)] []
  refine x_aload_n hC dX11_isDigit_0 rfl 0 rfl ?_
  refine x_iload_n hC dX11_isDigit_1 rfl 1 rfl ?_
  obtain ⟨x1, q2, hr⟩ := bd1_s hr
  refine x_callV (ci := 5) (q := (RX11, TX11, 32)) (As := [.int a1]) hC (c_X11_byteOf l G M hi0 a1 q2) kc_yX11_byteOf km_X11_79 ki_yX11_byteOf kv_yX11_byteOf kn_RX11 ky_yX11_byteOf rfl ⟨rfl, rfl⟩ ⟨(Nat.le_of_ble_eq_true rfl), (Nat.le_of_ble_eq_true rfl)⟩ hi0 (by decide) rfl rfl (Nat.le_of_ble_eq_true rfl) ⟨(Nat.le_of_ble_eq_true rfl), (Nat.le_of_ble_eq_true rfl)⟩ dX11_isDigit_2 (fun b3 => ?_)
  refine x_bipush hC (48 : Int32) dX11_isDigit_5 (by decide) ?_
  refine x_icmp_lt hC 24 dX11_isDigit_7 (by decide) (fun h4 => ?_) (fun h4 => ?_)
  · have hr := (ie_s hr).1 h4
    refine x_iconst hC (0 : Int32) dX11_isDigit_24 (by decide) ?_
    cases hr
    exact x_zret hC rfl (Or.inl rfl) dX11_isDigit_25
  · have hr := (ie_s hr).2 h4
    refine x_aload_n hC dX11_isDigit_10 rfl 0 rfl ?_
    refine x_iload_n hC dX11_isDigit_11 rfl 1 rfl ?_
    obtain ⟨x5, q6, hr⟩ := bd1_s hr
    refine x_callV (ci := 5) (q := (RX11, TX11, 32)) (As := [.int a1]) hC (c_X11_byteOf l G M hi0 a1 q6) kc_yX11_byteOf km_X11_79 ki_yX11_byteOf kv_yX11_byteOf kn_RX11 ky_yX11_byteOf rfl ⟨rfl, rfl⟩ ⟨(Nat.le_of_ble_eq_true rfl), (Nat.le_of_ble_eq_true rfl)⟩ hi0 (by decide) rfl rfl (Nat.le_of_ble_eq_true rfl) ⟨(Nat.le_of_ble_eq_true rfl), (Nat.le_of_ble_eq_true rfl)⟩ dX11_isDigit_12 (fun b7 => ?_)
    refine x_bipush hC (57 : Int32) dX11_isDigit_15 (by decide) ?_
    refine x_icmp_gt hC 24 dX11_isDigit_17 (by decide) (fun h8 => ?_) (fun h8 => ?_)
    · have hr := (ie_s hr).1 h8
      refine x_iconst hC (0 : Int32) dX11_isDigit_24 (by decide) ?_
      cases hr
      exact x_zret hC rfl (Or.inl rfl) dX11_isDigit_25
    · have hr := (ie_s hr).2 h8
      refine x_iconst hC (1 : Int32) dX11_isDigit_20 (by decide) ?_
      refine x_goto hC 25 dX11_isDigit_21 (by decide) ?_
      cases hr
      exact x_zret hC rfl (Or.inr rfl) dX11_isDigit_25

theorem dX11_isLetter_0 : decode cX11_isLetter 0 = .ok (.aload_n 0, 1) := by decide +kernel
theorem dX11_isLetter_1 : decode cX11_isLetter 1 = .ok (.iload_n 1, 1) := by decide +kernel
theorem dX11_isLetter_2 : decode cX11_isLetter 2 = .ok (.invokevirtual 79, 3) := by decide +kernel
theorem dX11_isLetter_5 : decode cX11_isLetter 5 = .ok (.bipush 97, 2) := by decide +kernel
theorem dX11_isLetter_7 : decode cX11_isLetter 7 = .ok (.if_icmp .lt 17, 3) := by decide +kernel
theorem dX11_isLetter_10 : decode cX11_isLetter 10 = .ok (.aload_n 0, 1) := by decide +kernel
theorem dX11_isLetter_11 : decode cX11_isLetter 11 = .ok (.iload_n 1, 1) := by decide +kernel
theorem dX11_isLetter_12 : decode cX11_isLetter 12 = .ok (.invokevirtual 79, 3) := by decide +kernel
theorem dX11_isLetter_15 : decode cX11_isLetter 15 = .ok (.bipush 122, 2) := by decide +kernel
theorem dX11_isLetter_17 : decode cX11_isLetter 17 = .ok (.if_icmp .gt 7, 3) := by decide +kernel
theorem dX11_isLetter_20 : decode cX11_isLetter 20 = .ok (.iconst 1, 1) := by decide +kernel
theorem dX11_isLetter_21 : decode cX11_isLetter 21 = .ok (.goto 4, 3) := by decide +kernel
theorem dX11_isLetter_24 : decode cX11_isLetter 24 = .ok (.iconst 0, 1) := by decide +kernel
theorem dX11_isLetter_25 : decode cX11_isLetter 25 = .ok (.ireturn, 1) := by decide +kernel

def f_X11_isLetter (i0 : Nat) (a1 : Int32) (M : Mm) : Option Int32 :=
  bd1 (f_X11_byteOf i0 a1 M) fun x1 => if (x1 < (97 : Int32)) then (some (0 : Int32)) else (bd1 (f_X11_byteOf i0 a1 M) fun x5 => if ((122 : Int32) < x5) then (some (0 : Int32)) else (some (1 : Int32)))

set_option maxHeartbeats 4000000 in
set_option maxRecDepth 100000 in
theorem c_X11_isLetter (l : Launch) (G : GG) (M : Mm) {i0 : Nat} (hi0 : (kd i0).1 = 5) (a1 : Int32) {r : Int32} (hr : f_X11_isLetter i0 a1 M = some r) : Mo true l yX11_isLetter (WS yX11_isLetter cX11_isLetter 2 (some .boolean)) (RM 1 0 0 21) 0 0 [.ref (G.2.1 i0), .int a1] G M (some (.int r)) M := by
  refine Mo.of (by decide +kernel) (Nat.le_of_ble_eq_true rfl) ?_
  intro p e s m args below meth c hC
  have hC : CX p s m args meth c cX11_isLetter 2 RX11 (some .boolean) G := hC
  rw [f_X11_isLetter] at hr
  show XJ p l e (RM 1 0 0 21) s m args below meth c G 2 _ 0 0 M 0 [(0, .ref (G.2.1 i0)), (1, .int a1)] []
  refine x_aload_n hC dX11_isLetter_0 rfl 0 rfl ?_
  refine x_iload_n hC dX11_isLetter_1 rfl 1 rfl ?_
  obtain ⟨x1, q2, hr⟩ := bd1_s hr
  refine x_callV (ci := 5) (q := (RX11, TX11, 32)) (As := [.int a1]) hC (c_X11_byteOf l G M hi0 a1 q2) kc_yX11_byteOf km_X11_79 ki_yX11_byteOf kv_yX11_byteOf kn_RX11 ky_yX11_byteOf rfl ⟨rfl, rfl⟩ ⟨(Nat.le_of_ble_eq_true rfl), (Nat.le_of_ble_eq_true rfl)⟩ hi0 (by decide) rfl rfl (Nat.le_of_ble_eq_true rfl) ⟨(Nat.le_of_ble_eq_true rfl), (Nat.le_of_ble_eq_true rfl)⟩ dX11_isLetter_2 (fun b3 => ?_)
  refine x_bipush hC (97 : Int32) dX11_isLetter_5 (by decide) ?_
  refine x_icmp_lt hC 24 dX11_isLetter_7 (by decide) (fun h4 => ?_) (fun h4 => ?_)
  · have hr := (ie_s hr).1 h4
    refine x_iconst hC (0 : Int32) dX11_isLetter_24 (by decide) ?_
    cases hr
    exact x_zret hC rfl (Or.inl rfl) dX11_isLetter_25
  · have hr := (ie_s hr).2 h4
    refine x_aload_n hC dX11_isLetter_10 rfl 0 rfl ?_
    refine x_iload_n hC dX11_isLetter_11 rfl 1 rfl ?_
    obtain ⟨x5, q6, hr⟩ := bd1_s hr
    refine x_callV (ci := 5) (q := (RX11, TX11, 32)) (As := [.int a1]) hC (c_X11_byteOf l G M hi0 a1 q6) kc_yX11_byteOf km_X11_79 ki_yX11_byteOf kv_yX11_byteOf kn_RX11 ky_yX11_byteOf rfl ⟨rfl, rfl⟩ ⟨(Nat.le_of_ble_eq_true rfl), (Nat.le_of_ble_eq_true rfl)⟩ hi0 (by decide) rfl rfl (Nat.le_of_ble_eq_true rfl) ⟨(Nat.le_of_ble_eq_true rfl), (Nat.le_of_ble_eq_true rfl)⟩ dX11_isLetter_12 (fun b7 => ?_)
    refine x_bipush hC (122 : Int32) dX11_isLetter_15 (by decide) ?_
    refine x_icmp_gt hC 24 dX11_isLetter_17 (by decide) (fun h8 => ?_) (fun h8 => ?_)
    · have hr := (ie_s hr).1 h8
      refine x_iconst hC (0 : Int32) dX11_isLetter_24 (by decide) ?_
      cases hr
      exact x_zret hC rfl (Or.inl rfl) dX11_isLetter_25
    · have hr := (ie_s hr).2 h8
      refine x_iconst hC (1 : Int32) dX11_isLetter_20 (by decide) ?_
      refine x_goto hC 25 dX11_isLetter_21 (by decide) ?_
      cases hr
      exact x_zret hC rfl (Or.inr rfl) dX11_isLetter_25

theorem dX11_isWord_0 : decode cX11_isWord 0 = .ok (.aload_n 1, 1) := by decide +kernel
theorem dX11_isWord_1 : decode cX11_isWord 1 = .ok (.invokevirtual 122, 3) := by decide +kernel
theorem dX11_isWord_4 : decode cX11_isWord 4 = .ok (.aload_n 0, 1) := by decide +kernel
theorem dX11_isWord_5 : decode cX11_isWord 5 = .ok (.getfield 83, 3) := by decide +kernel
theorem dX11_isWord_8 : decode cX11_isWord 8 = .ok (.aload_n 0, 1) := by decide +kernel
theorem dX11_isWord_9 : decode cX11_isWord 9 = .ok (.getfield 86, 3) := by decide +kernel
theorem dX11_isWord_12 : decode cX11_isWord 12 = .ok (.isub, 1) := by decide +kernel
theorem dX11_isWord_13 : decode cX11_isWord 13 = .ok (.if_icmp .eq 5, 3) := by decide +kernel
theorem dX11_isWord_16 : decode cX11_isWord 16 = .ok (.iconst 0, 1) := by decide +kernel
theorem dX11_isWord_17 : decode cX11_isWord 17 = .ok (.ireturn, 1) := by decide +kernel
theorem dX11_isWord_18 : decode cX11_isWord 18 = .ok (.iconst 0, 1) := by decide +kernel
theorem dX11_isWord_19 : decode cX11_isWord 19 = .ok (.istore_n 2, 1) := by decide +kernel
theorem dX11_isWord_20 : decode cX11_isWord 20 = .ok (.iload_n 2, 1) := by decide +kernel
theorem dX11_isWord_21 : decode cX11_isWord 21 = .ok (.aload_n 1, 1) := by decide +kernel
theorem dX11_isWord_22 : decode cX11_isWord 22 = .ok (.invokevirtual 122, 3) := by decide +kernel
theorem dX11_isWord_25 : decode cX11_isWord 25 = .ok (.if_icmp .ge 30, 3) := by decide +kernel
theorem dX11_isWord_28 : decode cX11_isWord 28 = .ok (.aload_n 1, 1) := by decide +kernel
theorem dX11_isWord_29 : decode cX11_isWord 29 = .ok (.iload_n 2, 1) := by decide +kernel
theorem dX11_isWord_30 : decode cX11_isWord 30 = .ok (.invokevirtual 127, 3) := by decide +kernel
theorem dX11_isWord_33 : decode cX11_isWord 33 = .ok (.aload_n 0, 1) := by decide +kernel
theorem dX11_isWord_34 : decode cX11_isWord 34 = .ok (.getfield 9, 3) := by decide +kernel
theorem dX11_isWord_37 : decode cX11_isWord 37 = .ok (.aload_n 0, 1) := by decide +kernel
theorem dX11_isWord_38 : decode cX11_isWord 38 = .ok (.getfield 86, 3) := by decide +kernel
theorem dX11_isWord_41 : decode cX11_isWord 41 = .ok (.iload_n 2, 1) := by decide +kernel
theorem dX11_isWord_42 : decode cX11_isWord 42 = .ok (.iadd, 1) := by decide +kernel
theorem dX11_isWord_43 : decode cX11_isWord 43 = .ok (.iaload, 1) := by decide +kernel
theorem dX11_isWord_44 : decode cX11_isWord 44 = .ok (.if_icmp .eq 5, 3) := by decide +kernel
theorem dX11_isWord_47 : decode cX11_isWord 47 = .ok (.iconst 0, 1) := by decide +kernel
theorem dX11_isWord_48 : decode cX11_isWord 48 = .ok (.ireturn, 1) := by decide +kernel
theorem dX11_isWord_49 : decode cX11_isWord 49 = .ok (.iinc 2 1, 3) := by decide +kernel
theorem dX11_isWord_52 : decode cX11_isWord 52 = .ok (.goto (-32), 3) := by decide +kernel
theorem dX11_isWord_55 : decode cX11_isWord 55 = .ok (.iconst 1, 1) := by decide +kernel
theorem dX11_isWord_56 : decode cX11_isWord 56 = .ok (.ireturn, 1) := by decide +kernel
def f_X11_isWord_L20 (i0 : Nat) (a1 : Int32) (M : Mm) : Nat → Int32 → Option Int32
  | 0, _ => none
  | n + 1, v2 =>
    if ix a1 < 48 then (if ((nI (tkL a1)) ≤ v2) then (some (1 : Int32)) else (if ix a1 < 48 then (if 0 ≤ v2.toInt ∧ v2.toInt < ((tkL a1 : Nat) : Int) then (if 0 ≤ ((M i0 15) + v2).toInt ∧ ((M i0 15) + v2).toInt < ((2000 : Nat) : Int) then (if ((tkB a1 v2) = (M (i0 + 1) (ix ((M i0 15) + v2)))) then (lz (v2 + (1 : Int32)) fun x9 => f_X11_isWord_L20 i0 a1 M n x9) else (some (0 : Int32))) else none) else none) else none)) else none
def f_X11_isWord (i0 : Nat) (a1 : Int32) (M : Mm) : Option Int32 :=
  if ix a1 < 48 then (if ((nI (tkL a1)) = ((M i0 12) - (M i0 15))) then ((f_X11_isWord_L20 i0 a1 M FU (0 : Int32))) else (some (0 : Int32))) else none
set_option maxHeartbeats 4000000 in
set_option maxRecDepth 100000 in
theorem l_X11_isWord_L20 {p : Program} {e : Env} {s : State} {m : MethodId} {args : Array Value} {below : List Frame} {meth : Method} {c : Code} {l : Launch} {G : GG} (hC : CX p s m args meth c cX11_isWord 3 RX11 (some .boolean) G) {i0 : Nat} (hi0 : (kd i0).1 = 5) (a1 : Int32) (M : Mm) : ∀ (n : Nat) (v2 : Int32) {r : Int32} (hr : f_X11_isWord_L20 i0 a1 M n v2 = some r), XJ p l e (RM 4 0 0 111) s m args below meth c G 3 (MQ below (QO G M true (some (.int r)) s.heap.size) args s 0 0 (AF G s.heap.size)) 0 0 M 20 [(0, .ref (G.2.1 i0)), (1, .ref (G.2.1 (2000 + ix a1))), (2, .int v2)] [] := by
  intro n
  induction n with
  | zero => intro v2 r hr; rw [f_X11_isWord_L20] at hr; cases hr
  | succ n ih =>
    intro v2 r hr
    rw [f_X11_isWord_L20] at hr
    refine x_iload_n hC dX11_isWord_20 rfl 2 rfl ?_
    refine x_aload_n hC dX11_isWord_21 rfl 1 rfl ?_
    obtain ⟨h3, hr⟩ := it_s hr
    refine x_callO (As := []) hC (ts_O h3) (c_J0_length l G M h3) kc_yJ0_length_8abf5 km_X11_122 ki_yJ0_length_8abf5 kv_yJ0_length_8abf5 kn_RJ0 ky_yJ0_length_8abf5 rfl ⟨rfl, rfl⟩ ⟨(Nat.le_of_ble_eq_true rfl), (Nat.le_of_ble_eq_true rfl)⟩ rfl (Nat.le_of_ble_eq_true rfl) ⟨(Nat.le_of_ble_eq_true rfl), (Nat.le_of_ble_eq_true rfl)⟩ dX11_isWord_22 (fun _ => ?_)
    refine x_icmp_ge hC 55 dX11_isWord_25 (by decide) (fun h4 => ?_) (fun h4 => ?_)
    · have hr := (ie_s hr).1 h4
      refine x_iconst hC (1 : Int32) dX11_isWord_55 (by decide) ?_
      cases hr
      exact x_zret hC rfl (Or.inr rfl) dX11_isWord_56
    · have hr := (ie_s hr).2 h4
      refine x_aload_n hC dX11_isWord_28 rfl 1 rfl ?_
      refine x_iload_n hC dX11_isWord_29 rfl 2 rfl ?_
      obtain ⟨h5, hr⟩ := it_s hr
      obtain ⟨h6, hr⟩ := it_s hr
      refine x_callO (As := [.int v2]) hC (ts_O h5) (c_J0_charAt l G M h5 h6) kc_yJ0_charAt_5068e km_X11_127 ki_yJ0_charAt_5068e kv_yJ0_charAt_5068e kn_RJ0 ky_yJ0_charAt_5068e rfl ⟨rfl, rfl⟩ ⟨(Nat.le_of_ble_eq_true rfl), (Nat.le_of_ble_eq_true rfl)⟩ rfl (Nat.le_of_ble_eq_true rfl) ⟨(Nat.le_of_ble_eq_true rfl), (Nat.le_of_ble_eq_true rfl)⟩ dX11_isWord_30 (fun _ => ?_)
      refine x_aload_n hC dX11_isWord_33 rfl 0 rfl ?_
      refine gf_X11_9 hC hi0 dX11_isWord_34 ?_
      refine x_aload_n hC dX11_isWord_37 rfl 0 rfl ?_
      refine gf_X11_86 hC hi0 dX11_isWord_38 ?_
      refine x_iload_n hC dX11_isWord_41 rfl 2 rfl ?_
      refine x_iadd hC dX11_isWord_42 ?_
      obtain ⟨h7, hr⟩ := it_s hr
      refine x_iald hC (kr_5_1 hi0) h7 dX11_isWord_43 ?_
      refine x_icmp_eq hC 49 dX11_isWord_44 (by decide) (fun h8 => ?_) (fun h8 => ?_)
      · have hr := (ie_s hr).1 h8
        obtain ⟨x9, e10, hr⟩ := lz_s hr
        refine x_iinc hC [(2, .int x9), (0, .ref (G.2.1 i0)), (1, .ref (G.2.1 (2000 + ix a1)))] dX11_isWord_49 2 rfl (by rw [e10]; rfl) (Nat.le_of_ble_eq_true rfl) rfl ?_
        refine x_goto hC 20 dX11_isWord_52 (by decide) ?_
        exact x_sub [1, 2, 0] rfl (ih x9 hr)
      · have hr := (ie_s hr).2 h8
        refine x_iconst hC (0 : Int32) dX11_isWord_47 (by decide) ?_
        cases hr
        exact x_zret hC rfl (Or.inl rfl) dX11_isWord_48
set_option maxHeartbeats 4000000 in
set_option maxRecDepth 100000 in
theorem c_X11_isWord (l : Launch) (G : GG) (M : Mm) {i0 : Nat} (hi0 : (kd i0).1 = 5) (a1 : Int32) {r : Int32} (hr : f_X11_isWord i0 a1 M = some r) : Mo true l yX11_isWord (WS yX11_isWord cX11_isWord 3 (some .boolean)) (RM 4 0 0 111) 0 0 [.ref (G.2.1 i0), .ref (G.2.1 (2000 + ix a1))] G M (some (.int r)) M := by
  refine Mo.of (by decide +kernel) (Nat.le_of_ble_eq_true rfl) ?_
  intro p e s m args below meth c hC
  have hC : CX p s m args meth c cX11_isWord 3 RX11 (some .boolean) G := hC
  rw [f_X11_isWord] at hr
  show XJ p l e (RM 4 0 0 111) s m args below meth c G 3 _ 0 0 M 0 [(0, .ref (G.2.1 i0)), (1, .ref (G.2.1 (2000 + ix a1)))] []
  refine x_aload_n hC dX11_isWord_0 rfl 1 rfl ?_
  obtain ⟨h1, hr⟩ := it_s hr
  refine x_callO (As := []) hC (ts_O h1) (c_J0_length l G M h1) kc_yJ0_length_8abf5 km_X11_122 ki_yJ0_length_8abf5 kv_yJ0_length_8abf5 kn_RJ0 ky_yJ0_length_8abf5 rfl ⟨rfl, rfl⟩ ⟨(Nat.le_of_ble_eq_true rfl), (Nat.le_of_ble_eq_true rfl)⟩ rfl (Nat.le_of_ble_eq_true rfl) ⟨(Nat.le_of_ble_eq_true rfl), (Nat.le_of_ble_eq_true rfl)⟩ dX11_isWord_1 (fun _ => ?_)
  refine x_aload_n hC dX11_isWord_4 rfl 0 rfl ?_
  refine gf_X11_83 hC hi0 dX11_isWord_5 ?_
  refine x_aload_n hC dX11_isWord_8 rfl 0 rfl ?_
  refine gf_X11_86 hC hi0 dX11_isWord_9 ?_
  refine x_isub hC dX11_isWord_12 ?_
  refine x_icmp_eq hC 18 dX11_isWord_13 (by decide) (fun h2 => ?_) (fun h2 => ?_)
  · have hr := (ie_s hr).1 h2
    refine x_iconst hC (0 : Int32) dX11_isWord_18 (by decide) ?_
    refine x_istore_n hC [(2, .int (0 : Int32)), (0, .ref (G.2.1 i0)), (1, .ref (G.2.1 (2000 + ix a1)))] dX11_isWord_19 rfl (Nat.le_of_ble_eq_true rfl) rfl ?_
    exact x_sub [1, 2, 0] rfl (l_X11_isWord_L20 hC hi0 a1 M FU (0 : Int32) hr)
  · have hr := (ie_s hr).2 h2
    refine x_iconst hC (0 : Int32) dX11_isWord_16 (by decide) ?_
    cases hr
    exact x_zret hC rfl (Or.inl rfl) dX11_isWord_17

theorem dX11_word_0 : decode cX11_word 0 = .ok (.aload_n 0, 1) := by decide +kernel
theorem dX11_word_1 : decode cX11_word 1 = .ok (.aload_n 0, 1) := by decide +kernel
theorem dX11_word_2 : decode cX11_word 2 = .ok (.getfield 83, 3) := by decide +kernel
theorem dX11_word_5 : decode cX11_word 5 = .ok (.invokevirtual 98, 3) := by decide +kernel
theorem dX11_word_8 : decode cX11_word 8 = .ok (.ifCond .ne 14, 3) := by decide +kernel
theorem dX11_word_11 : decode cX11_word 11 = .ok (.aload_n 0, 1) := by decide +kernel
theorem dX11_word_12 : decode cX11_word 12 = .ok (.aload_n 0, 1) := by decide +kernel
theorem dX11_word_13 : decode cX11_word 13 = .ok (.getfield 83, 3) := by decide +kernel
theorem dX11_word_16 : decode cX11_word 16 = .ok (.invokevirtual 105, 3) := by decide +kernel
theorem dX11_word_19 : decode cX11_word 19 = .ok (.ifCond .eq 16, 3) := by decide +kernel
theorem dX11_word_22 : decode cX11_word 22 = .ok (.aload_n 0, 1) := by decide +kernel
theorem dX11_word_23 : decode cX11_word 23 = .ok (.dup, 1) := by decide +kernel
theorem dX11_word_24 : decode cX11_word 24 = .ok (.getfield 83, 3) := by decide +kernel
theorem dX11_word_27 : decode cX11_word 27 = .ok (.iconst 1, 1) := by decide +kernel
theorem dX11_word_28 : decode cX11_word 28 = .ok (.iadd, 1) := by decide +kernel
theorem dX11_word_29 : decode cX11_word 29 = .ok (.putfield 83, 3) := by decide +kernel
theorem dX11_word_32 : decode cX11_word 32 = .ok (.goto (-32), 3) := by decide +kernel
theorem dX11_word_35 : decode cX11_word 35 = .ok (.aload_n 0, 1) := by decide +kernel
theorem dX11_word_36 : decode cX11_word 36 = .ok (.aload_n 0, 1) := by decide +kernel
theorem dX11_word_37 : decode cX11_word 37 = .ok (.getfield 83, 3) := by decide +kernel
theorem dX11_word_40 : decode cX11_word 40 = .ok (.aload_n 0, 1) := by decide +kernel
theorem dX11_word_41 : decode cX11_word 41 = .ok (.getfield 86, 3) := by decide +kernel
theorem dX11_word_44 : decode cX11_word 44 = .ok (.isub, 1) := by decide +kernel
theorem dX11_word_45 : decode cX11_word 45 = .ok (.bipush 10, 2) := by decide +kernel
theorem dX11_word_47 : decode cX11_word 47 = .ok (.if_icmp .le 7, 3) := by decide +kernel
theorem dX11_word_50 : decode cX11_word 50 = .ok (.iconst 0, 1) := by decide +kernel
theorem dX11_word_51 : decode cX11_word 51 = .ok (.goto 4, 3) := by decide +kernel
theorem dX11_word_54 : decode cX11_word 54 = .ok (.iconst 2, 1) := by decide +kernel
theorem dX11_word_55 : decode cX11_word 55 = .ok (.putfield 92, 3) := by decide +kernel
theorem dX11_word_58 : decode cX11_word 58 = .ok (.iconst 0, 1) := by decide +kernel
theorem dX11_word_59 : decode cX11_word 59 = .ok (.istore_n 1, 1) := by decide +kernel
theorem dX11_word_60 : decode cX11_word 60 = .ok (.iload_n 1, 1) := by decide +kernel
theorem dX11_word_61 : decode cX11_word 61 = .ok (.getstatic 114, 3) := by decide +kernel
theorem dX11_word_64 : decode cX11_word 64 = .ok (.arraylength, 1) := by decide +kernel
theorem dX11_word_65 : decode cX11_word 65 = .ok (.if_icmp .ge 26, 3) := by decide +kernel
theorem dX11_word_68 : decode cX11_word 68 = .ok (.aload_n 0, 1) := by decide +kernel
theorem dX11_word_69 : decode cX11_word 69 = .ok (.getstatic 114, 3) := by decide +kernel
theorem dX11_word_72 : decode cX11_word 72 = .ok (.iload_n 1, 1) := by decide +kernel
theorem dX11_word_73 : decode cX11_word 73 = .ok (.aaload, 1) := by decide +kernel
theorem dX11_word_74 : decode cX11_word 74 = .ok (.invokevirtual 118, 3) := by decide +kernel
theorem dX11_word_77 : decode cX11_word 77 = .ok (.ifCond .eq 8, 3) := by decide +kernel
theorem dX11_word_80 : decode cX11_word 80 = .ok (.aload_n 0, 1) := by decide +kernel
theorem dX11_word_81 : decode cX11_word 81 = .ok (.iload_n 1, 1) := by decide +kernel
theorem dX11_word_82 : decode cX11_word 82 = .ok (.putfield 89, 3) := by decide +kernel
theorem dX11_word_85 : decode cX11_word 85 = .ok (.iinc 1 1, 3) := by decide +kernel
theorem dX11_word_88 : decode cX11_word 88 = .ok (.goto (-28), 3) := by decide +kernel
theorem dX11_word_91 : decode cX11_word 91 = .ok (.return_, 1) := by decide +kernel
def f_X11_word_L0 (i0 : Nat) : Nat → Mm → Option (Mm)
  | 0, _ => none
  | n + 1, M =>
    bd1 (f_X11_isLetter i0 (M i0 12) M) fun x1 => if (x1 = 0) then (bd1 (f_X11_isDigit i0 (M i0 12) M) fun x7 => if (x7 = 0) then (some (M)) else (lz (wr M i0 12 ((M i0 12) + (1 : Int32))) fun M11 => f_X11_word_L0 i0 n M11)) else (lz (wr M i0 12 ((M i0 12) + (1 : Int32))) fun M5 => f_X11_word_L0 i0 n M5)
def f_X11_word_L60 (i0 : Nat) : Nat → Int32 → Mm → Option (Mm)
  | 0, _, _ => none
  | n + 1, v1, M =>
    if ((30 : Int32) ≤ v1) then (some (M)) else (if 0 ≤ v1.toInt ∧ v1.toInt < ((30 : Nat) : Int) then (bd1 (f_X11_isWord i0 v1 M) fun x23 => lz (if (x23 = 0) then (M) else (lz (wr M i0 16 v1) fun M28 => M28)) fun M30 => lz (v1 + (1 : Int32)) fun x32 => f_X11_word_L60 i0 n x32 M30) else none)
def f_X11_word (i0 : Nat) (M : Mm) : Option Mm :=
  bd1 (f_X11_word_L0 i0 FU M) fun M14 => lz (if (((M14 i0 12) - (M14 i0 15)) ≤ (10 : Int32)) then ((2 : Int32)) else ((0 : Int32))) fun x17 => lz (wr M14 i0 14 x17) fun M19 => bd1 (f_X11_word_L60 i0 FU (0 : Int32) M19) fun M35 => some M35
set_option maxHeartbeats 4000000 in
set_option maxRecDepth 100000 in
theorem l_X11_word_L0 {p : Program} {e : Env} {s : State} {m : MethodId} {args : Array Value} {below : List Frame} {meth : Method} {c : Code} {l : Launch} {G : GG} {Q : State → Prop} (hC : CX p s m args meth c cX11_word 2 RX11 none G) {i0 : Nat} (hi0 : (kd i0).1 = 5) : ∀ (n : Nat) (M : Mm) {M2 : Mm} (hr : f_X11_word_L0 i0 n M = some (M2)) (K : XJ p l e (RM 5 0 0 133) s m args below meth c G 2 Q 0 0 M2 35 [(0, .ref (G.2.1 i0))] []), XJ p l e (RM 5 0 0 133) s m args below meth c G 2 Q 0 0 M 0 [(0, .ref (G.2.1 i0))] [] := by
  intro n
  induction n with
  | zero => intro M M2 hr K; rw [f_X11_word_L0] at hr; cases hr
  | succ n ih =>
    intro M M2 hr K
    rw [f_X11_word_L0] at hr
    refine x_aload_n hC dX11_word_0 rfl 0 rfl ?_
    refine x_aload_n hC dX11_word_1 rfl 0 rfl ?_
    refine gf_X11_83 hC hi0 dX11_word_2 ?_
    obtain ⟨x1, q2, hr⟩ := bd1_s hr
    refine x_callV (ci := 5) (q := (RX11, TX11, 32)) (As := [.int (M i0 12)]) hC (c_X11_isLetter l G M hi0 (M i0 12) q2) kc_yX11_isLetter km_X11_98 ki_yX11_isLetter kv_yX11_isLetter kn_RX11 ky_yX11_isLetter rfl ⟨rfl, rfl⟩ ⟨(Nat.le_of_ble_eq_true rfl), (Nat.le_of_ble_eq_true rfl)⟩ hi0 (by decide) rfl rfl (Nat.le_of_ble_eq_true rfl) ⟨(Nat.le_of_ble_eq_true rfl), (Nat.le_of_ble_eq_true rfl)⟩ dX11_word_5 (fun b3 => ?_)
    refine x_if_ne hC 22 dX11_word_8 (by decide) (fun h4 => ?_) (fun h4 => ?_)
    · have hr := (ie_s hr).2 h4
      refine x_aload_n hC dX11_word_22 rfl 0 rfl ?_
      refine x_dup hC dX11_word_23 rfl ?_
      refine gf_X11_83 hC hi0 dX11_word_24 ?_
      refine x_iconst hC (1 : Int32) dX11_word_27 (by decide) ?_
      refine x_iadd hC dX11_word_28 ?_
      obtain ⟨M5, e6, hr⟩ := lz_s hr
      refine pf_X11_83 hC hi0 e6 dX11_word_29 ?_
      refine x_goto hC 0 dX11_word_32 (by decide) ?_
      exact x_sub [0] rfl (ih M5 hr K)
    · have hr := (ie_s hr).1 h4
      refine x_aload_n hC dX11_word_11 rfl 0 rfl ?_
      refine x_aload_n hC dX11_word_12 rfl 0 rfl ?_
      refine gf_X11_83 hC hi0 dX11_word_13 ?_
      obtain ⟨x7, q8, hr⟩ := bd1_s hr
      refine x_callV (ci := 5) (q := (RX11, TX11, 32)) (As := [.int (M i0 12)]) hC (c_X11_isDigit l G M hi0 (M i0 12) q8) kc_yX11_isDigit km_X11_105 ki_yX11_isDigit kv_yX11_isDigit kn_RX11 ky_yX11_isDigit rfl ⟨rfl, rfl⟩ ⟨(Nat.le_of_ble_eq_true rfl), (Nat.le_of_ble_eq_true rfl)⟩ hi0 (by decide) rfl rfl (Nat.le_of_ble_eq_true rfl) ⟨(Nat.le_of_ble_eq_true rfl), (Nat.le_of_ble_eq_true rfl)⟩ dX11_word_16 (fun b9 => ?_)
      refine x_if_eq hC 35 dX11_word_19 (by decide) (fun h10 => ?_) (fun h10 => ?_)
      · have hr := (ie_s hr).1 h10
        cases hr
        exact x_sub [0] rfl K
      · have hr := (ie_s hr).2 h10
        refine x_aload_n hC dX11_word_22 rfl 0 rfl ?_
        refine x_dup hC dX11_word_23 rfl ?_
        refine gf_X11_83 hC hi0 dX11_word_24 ?_
        refine x_iconst hC (1 : Int32) dX11_word_27 (by decide) ?_
        refine x_iadd hC dX11_word_28 ?_
        obtain ⟨M11, e12, hr⟩ := lz_s hr
        refine pf_X11_83 hC hi0 e12 dX11_word_29 ?_
        refine x_goto hC 0 dX11_word_32 (by decide) ?_
        exact x_sub [0] rfl (ih M11 hr K)
set_option maxHeartbeats 4000000 in
set_option maxRecDepth 100000 in
theorem l_X11_word_L60 {p : Program} {e : Env} {s : State} {m : MethodId} {args : Array Value} {below : List Frame} {meth : Method} {c : Code} {l : Launch} {G : GG} {Q : State → Prop} (hC : CX p s m args meth c cX11_word 2 RX11 none G) {i0 : Nat} (hi0 : (kd i0).1 = 5) : ∀ (n : Nat) (v1 : Int32) (M : Mm) {M2 : Mm} (hr : f_X11_word_L60 i0 n v1 M = some (M2)) (K : XJ p l e (RM 5 0 0 133) s m args below meth c G 2 Q 0 0 M2 91 [] []), XJ p l e (RM 5 0 0 133) s m args below meth c G 2 Q 0 0 M 60 [(0, .ref (G.2.1 i0)), (1, .int v1)] [] := by
  intro n
  induction n with
  | zero => intro v1 M M2 hr K; rw [f_X11_word_L60] at hr; cases hr
  | succ n ih =>
    intro v1 M M2 hr K
    rw [f_X11_word_L60] at hr
    refine x_iload_n hC dX11_word_60 rfl 1 rfl ?_
    refine x_gets hC (v := .ref (G.2.1 1902)) (fun A U H h => h.2.2.2.2.2.2.1) kf_X11_114 dX11_word_61 ?_
    refine x_kwLen hC dX11_word_64 ?_
    refine x_icmp_ge hC 91 dX11_word_65 (by decide) (fun h21 => ?_) (fun h21 => ?_)
    · have hr := (ie_s hr).1 h21
      cases hr
      exact x_sub [] rfl K
    · have hr := (ie_s hr).2 h21
      refine x_aload_n hC dX11_word_68 rfl 0 rfl ?_
      refine x_gets hC (v := .ref (G.2.1 1902)) (fun A U H h => h.2.2.2.2.2.2.1) kf_X11_114 dX11_word_69 ?_
      refine x_iload_n hC dX11_word_72 rfl 1 rfl ?_
      obtain ⟨h22, hr⟩ := it_s hr
      refine x_kwGet hC h22 dX11_word_73 ?_
      obtain ⟨x23, q24, hr⟩ := bd1_s hr
      refine x_callV (ci := 5) (q := (RX11, TX11, 32)) (As := [.ref (G.2.1 (2000 + ix v1))]) hC (c_X11_isWord l G M hi0 v1 q24) kc_yX11_isWord km_X11_118 ki_yX11_isWord kv_yX11_isWord kn_RX11 ky_yX11_isWord rfl ⟨rfl, rfl⟩ ⟨(Nat.le_of_ble_eq_true rfl), (Nat.le_of_ble_eq_true rfl)⟩ hi0 (by decide) rfl rfl (Nat.le_of_ble_eq_true rfl) ⟨(Nat.le_of_ble_eq_true rfl), (Nat.le_of_ble_eq_true rfl)⟩ dX11_word_74 (fun b25 => ?_)
      obtain ⟨M30, e31, hr⟩ := lz_s hr
      have q26 := e31.symm
      refine x_join (M' := M30) (pc' := 85) (lv' := [(0, .ref (G.2.1 i0)), (1, .int v1)]) (st' := []) ?_ ?_
      · obtain ⟨x32, e33, hr⟩ := lz_s hr
        refine x_iinc hC [(1, .int x32), (0, .ref (G.2.1 i0))] dX11_word_85 1 rfl (by rw [e33]; rfl) (Nat.le_of_ble_eq_true rfl) rfl ?_
        refine x_goto hC 60 dX11_word_88 (by decide) ?_
        exact x_sub [1, 0] rfl (ih x32 M30 hr K)
      · intro kj
        refine x_if_eq hC 85 dX11_word_77 (by decide) (fun h27 => ?_) (fun h27 => ?_)
        · have q26 := (ie_s q26).1 h27
          subst q26
          exact x_sub [0, 1] rfl kj
        · have q26 := (ie_s q26).2 h27
          refine x_aload_n hC dX11_word_80 rfl 0 rfl ?_
          refine x_iload_n hC dX11_word_81 rfl 1 rfl ?_
          obtain ⟨M28, e29, q26⟩ := lz_s q26
          refine pf_X11_89 hC hi0 e29 dX11_word_82 ?_
          subst q26
          exact x_sub [0, 1] rfl kj
set_option maxHeartbeats 4000000 in
set_option maxRecDepth 100000 in
theorem c_X11_word (l : Launch) (G : GG) (M : Mm) {i0 : Nat} (hi0 : (kd i0).1 = 5) {M9 : Mm} (hr : f_X11_word i0 M = some M9) : Mo false l yX11_word (WS yX11_word cX11_word 2 none) (RM 5 0 0 133) 0 0 [.ref (G.2.1 i0)] G M none M9 := by
  refine Mo.of (by decide +kernel) (Nat.le_of_ble_eq_true rfl) ?_
  intro p e s m args below meth c hC
  have hC : CX p s m args meth c cX11_word 2 RX11 none G := hC
  rw [f_X11_word] at hr
  show XJ p l e (RM 5 0 0 133) s m args below meth c G 2 _ 0 0 M 0 [(0, .ref (G.2.1 i0))] []
  obtain ⟨M14, q13, hr⟩ := bd1_s hr
  refine x_sub [0] rfl (l_X11_word_L0 hC hi0 FU  M q13 ?_)
  refine x_aload_n hC dX11_word_35 rfl 0 rfl ?_
  refine x_aload_n hC dX11_word_36 rfl 0 rfl ?_
  refine gf_X11_83 hC hi0 dX11_word_37 ?_
  refine x_aload_n hC dX11_word_40 rfl 0 rfl ?_
  refine gf_X11_86 hC hi0 dX11_word_41 ?_
  refine x_isub hC dX11_word_44 ?_
  refine x_bipush hC (10 : Int32) dX11_word_45 (by decide) ?_
  obtain ⟨x17, e18, hr⟩ := lz_s hr
  have q15 := e18.symm
  refine x_join (M' := M14) (pc' := 55) (lv' := [(0, .ref (G.2.1 i0))]) (st' := [.int x17, .ref (G.2.1 i0)]) ?_ ?_
  · obtain ⟨M19, e20, hr⟩ := lz_s hr
    refine pf_X11_92 hC hi0 e20 dX11_word_55 ?_
    refine x_iconst hC (0 : Int32) dX11_word_58 (by decide) ?_
    refine x_istore_n hC [(1, .int (0 : Int32)), (0, .ref (G.2.1 i0))] dX11_word_59 rfl (Nat.le_of_ble_eq_true rfl) rfl ?_
    obtain ⟨M35, q34, hr⟩ := bd1_s hr
    refine x_sub [1, 0] rfl (l_X11_word_L60 hC hi0 FU  (0 : Int32) M19 q34 ?_)
    cases hr
    exact x_vret hC rfl dX11_word_91
  · intro kj
    refine x_icmp_le hC 54 dX11_word_47 (by decide) (fun h16 => ?_) (fun h16 => ?_)
    · have q15 := (ie_s q15).1 h16
      refine x_iconst hC (2 : Int32) dX11_word_54 (by decide) ?_
      subst q15
      exact x_sub [0] rfl kj
    · have q15 := (ie_s q15).2 h16
      refine x_iconst hC (0 : Int32) dX11_word_50 (by decide) ?_
      refine x_goto hC 55 dX11_word_51 (by decide) ?_
      subst q15
      exact x_sub [0] rfl kj

theorem dX11_number_0 : decode cX11_number 0 = .ok (.iconst 0, 1) := by decide +kernel
theorem dX11_number_1 : decode cX11_number 1 = .ok (.istore_n 1, 1) := by decide +kernel
theorem dX11_number_2 : decode cX11_number 2 = .ok (.aload_n 0, 1) := by decide +kernel
theorem dX11_number_3 : decode cX11_number 3 = .ok (.aload_n 0, 1) := by decide +kernel
theorem dX11_number_4 : decode cX11_number 4 = .ok (.getfield 83, 3) := by decide +kernel
theorem dX11_number_7 : decode cX11_number 7 = .ok (.invokevirtual 105, 3) := by decide +kernel
theorem dX11_number_10 : decode cX11_number 10 = .ok (.ifCond .eq 48, 3) := by decide +kernel
theorem dX11_number_13 : decode cX11_number 13 = .ok (.aload_n 0, 1) := by decide +kernel
theorem dX11_number_14 : decode cX11_number 14 = .ok (.getfield 83, 3) := by decide +kernel
theorem dX11_number_17 : decode cX11_number 17 = .ok (.aload_n 0, 1) := by decide +kernel
theorem dX11_number_18 : decode cX11_number 18 = .ok (.getfield 86, 3) := by decide +kernel
theorem dX11_number_21 : decode cX11_number 21 = .ok (.isub, 1) := by decide +kernel
theorem dX11_number_22 : decode cX11_number 22 = .ok (.bipush 6, 2) := by decide +kernel
theorem dX11_number_24 : decode cX11_number 24 = .ok (.if_icmp .ge 21, 3) := by decide +kernel
theorem dX11_number_27 : decode cX11_number 27 = .ok (.bipush 10, 2) := by decide +kernel
theorem dX11_number_29 : decode cX11_number 29 = .ok (.iload_n 1, 1) := by decide +kernel
theorem dX11_number_30 : decode cX11_number 30 = .ok (.imul, 1) := by decide +kernel
theorem dX11_number_31 : decode cX11_number 31 = .ok (.aload_n 0, 1) := by decide +kernel
theorem dX11_number_32 : decode cX11_number 32 = .ok (.getfield 9, 3) := by decide +kernel
theorem dX11_number_35 : decode cX11_number 35 = .ok (.aload_n 0, 1) := by decide +kernel
theorem dX11_number_36 : decode cX11_number 36 = .ok (.getfield 83, 3) := by decide +kernel
theorem dX11_number_39 : decode cX11_number 39 = .ok (.iaload, 1) := by decide +kernel
theorem dX11_number_40 : decode cX11_number 40 = .ok (.iadd, 1) := by decide +kernel
theorem dX11_number_41 : decode cX11_number 41 = .ok (.bipush 48, 2) := by decide +kernel
theorem dX11_number_43 : decode cX11_number 43 = .ok (.isub, 1) := by decide +kernel
theorem dX11_number_44 : decode cX11_number 44 = .ok (.istore_n 1, 1) := by decide +kernel
theorem dX11_number_45 : decode cX11_number 45 = .ok (.aload_n 0, 1) := by decide +kernel
theorem dX11_number_46 : decode cX11_number 46 = .ok (.dup, 1) := by decide +kernel
theorem dX11_number_47 : decode cX11_number 47 = .ok (.getfield 83, 3) := by decide +kernel
theorem dX11_number_50 : decode cX11_number 50 = .ok (.iconst 1, 1) := by decide +kernel
theorem dX11_number_51 : decode cX11_number 51 = .ok (.iadd, 1) := by decide +kernel
theorem dX11_number_52 : decode cX11_number 52 = .ok (.putfield 83, 3) := by decide +kernel
theorem dX11_number_55 : decode cX11_number 55 = .ok (.goto (-53), 3) := by decide +kernel
theorem dX11_number_58 : decode cX11_number 58 = .ok (.aload_n 0, 1) := by decide +kernel
theorem dX11_number_59 : decode cX11_number 59 = .ok (.aload_n 0, 1) := by decide +kernel
theorem dX11_number_60 : decode cX11_number 60 = .ok (.getfield 83, 3) := by decide +kernel
theorem dX11_number_63 : decode cX11_number 63 = .ok (.aload_n 0, 1) := by decide +kernel
theorem dX11_number_64 : decode cX11_number 64 = .ok (.getfield 86, 3) := by decide +kernel
theorem dX11_number_67 : decode cX11_number 67 = .ok (.isub, 1) := by decide +kernel
theorem dX11_number_68 : decode cX11_number 68 = .ok (.bipush 6, 2) := by decide +kernel
theorem dX11_number_70 : decode cX11_number 70 = .ok (.if_icmp .le 7, 3) := by decide +kernel
theorem dX11_number_73 : decode cX11_number 73 = .ok (.iconst 0, 1) := by decide +kernel
theorem dX11_number_74 : decode cX11_number 74 = .ok (.goto 4, 3) := by decide +kernel
theorem dX11_number_77 : decode cX11_number 77 = .ok (.iconst 3, 1) := by decide +kernel
theorem dX11_number_78 : decode cX11_number 78 = .ok (.putfield 92, 3) := by decide +kernel
theorem dX11_number_81 : decode cX11_number 81 = .ok (.aload_n 0, 1) := by decide +kernel
theorem dX11_number_82 : decode cX11_number 82 = .ok (.iload_n 1, 1) := by decide +kernel
theorem dX11_number_83 : decode cX11_number 83 = .ok (.putfield 89, 3) := by decide +kernel
theorem dX11_number_86 : decode cX11_number 86 = .ok (.return_, 1) := by decide +kernel
def f_X11_number_L2 (i0 : Nat) : Nat → Int32 → Mm → Option (Int32 × Mm)
  | 0, _, _ => none
  | n + 1, v1, M =>
    bd1 (f_X11_isDigit i0 (M i0 12) M) fun x1 => if (x1 = 0) then (some (v1, M)) else (bd1 (if ((6 : Int32) ≤ ((M i0 12) - (M i0 15))) then (some (v1)) else (if 0 ≤ (M i0 12).toInt ∧ (M i0 12).toInt < ((2000 : Nat) : Int) then (lz ((((10 : Int32) * v1) + (M (i0 + 1) (ix (M i0 12)))) - (48 : Int32)) fun x8 => some (x8)) else none)) fun x10 => lz (wr M i0 12 ((M i0 12) + (1 : Int32))) fun M11 => f_X11_number_L2 i0 n x10 M11)
def f_X11_number (i0 : Nat) (M : Mm) : Option Mm :=
  bd2 (f_X11_number_L2 i0 FU (0 : Int32) M) fun x14 M15 => lz (if (((M15 i0 12) - (M15 i0 15)) ≤ (6 : Int32)) then ((3 : Int32)) else ((0 : Int32))) fun x18 => lz (wr M15 i0 14 x18) fun M20 => lz (wr M20 i0 16 x14) fun M22 => some M22
set_option maxHeartbeats 4000000 in
set_option maxRecDepth 100000 in
theorem l_X11_number_L2 {p : Program} {e : Env} {s : State} {m : MethodId} {args : Array Value} {below : List Frame} {meth : Method} {c : Code} {l : Launch} {G : GG} {Q : State → Prop} (hC : CX p s m args meth c cX11_number 2 RX11 none G) {i0 : Nat} (hi0 : (kd i0).1 = 5) : ∀ (n : Nat) (v1 : Int32) (M : Mm) {o1 : Int32} {M2 : Mm} (hr : f_X11_number_L2 i0 n v1 M = some (o1, M2)) (K : XJ p l e (RM 2 0 0 42) s m args below meth c G 2 Q 0 0 M2 58 [(0, .ref (G.2.1 i0)), (1, .int o1)] []), XJ p l e (RM 2 0 0 42) s m args below meth c G 2 Q 0 0 M 2 [(0, .ref (G.2.1 i0)), (1, .int v1)] [] := by
  intro n
  induction n with
  | zero => intro v1 M o1 M2 hr K; rw [f_X11_number_L2] at hr; cases hr
  | succ n ih =>
    intro v1 M o1 M2 hr K
    rw [f_X11_number_L2] at hr
    refine x_aload_n hC dX11_number_2 rfl 0 rfl ?_
    refine x_aload_n hC dX11_number_3 rfl 0 rfl ?_
    refine gf_X11_83 hC hi0 dX11_number_4 ?_
    obtain ⟨x1, q2, hr⟩ := bd1_s hr
    refine x_callV (ci := 5) (q := (RX11, TX11, 32)) (As := [.int (M i0 12)]) hC (c_X11_isDigit l G M hi0 (M i0 12) q2) kc_yX11_isDigit km_X11_105 ki_yX11_isDigit kv_yX11_isDigit kn_RX11 ky_yX11_isDigit rfl ⟨rfl, rfl⟩ ⟨(Nat.le_of_ble_eq_true rfl), (Nat.le_of_ble_eq_true rfl)⟩ hi0 (by decide) rfl rfl (Nat.le_of_ble_eq_true rfl) ⟨(Nat.le_of_ble_eq_true rfl), (Nat.le_of_ble_eq_true rfl)⟩ dX11_number_7 (fun b3 => ?_)
    refine x_if_eq hC 58 dX11_number_10 (by decide) (fun h4 => ?_) (fun h4 => ?_)
    · have hr := (ie_s hr).1 h4
      cases hr
      exact x_sub [0, 1] rfl K
    · have hr := (ie_s hr).2 h4
      refine x_aload_n hC dX11_number_13 rfl 0 rfl ?_
      refine gf_X11_83 hC hi0 dX11_number_14 ?_
      refine x_aload_n hC dX11_number_17 rfl 0 rfl ?_
      refine gf_X11_86 hC hi0 dX11_number_18 ?_
      refine x_isub hC dX11_number_21 ?_
      refine x_bipush hC (6 : Int32) dX11_number_22 (by decide) ?_
      obtain ⟨x10, q5, hr⟩ := bd1_s hr
      refine x_join (M' := M) (pc' := 45) (lv' := [(0, .ref (G.2.1 i0)), (1, .int x10)]) (st' := []) ?_ ?_
      · refine x_aload_n hC dX11_number_45 rfl 0 rfl ?_
        refine x_dup hC dX11_number_46 rfl ?_
        refine gf_X11_83 hC hi0 dX11_number_47 ?_
        refine x_iconst hC (1 : Int32) dX11_number_50 (by decide) ?_
        refine x_iadd hC dX11_number_51 ?_
        obtain ⟨M11, e12, hr⟩ := lz_s hr
        refine pf_X11_83 hC hi0 e12 dX11_number_52 ?_
        refine x_goto hC 2 dX11_number_55 (by decide) ?_
        exact x_sub [0, 1] rfl (ih x10 M11 hr K)
      · intro kj
        refine x_icmp_ge hC 45 dX11_number_24 (by decide) (fun h6 => ?_) (fun h6 => ?_)
        · have q5 := (ie_s q5).1 h6
          cases q5
          exact x_sub [0, 1] rfl kj
        · have q5 := (ie_s q5).2 h6
          refine x_bipush hC (10 : Int32) dX11_number_27 (by decide) ?_
          refine x_iload_n hC dX11_number_29 rfl 1 rfl ?_
          refine x_imul hC dX11_number_30 ?_
          refine x_aload_n hC dX11_number_31 rfl 0 rfl ?_
          refine gf_X11_9 hC hi0 dX11_number_32 ?_
          refine x_aload_n hC dX11_number_35 rfl 0 rfl ?_
          refine gf_X11_83 hC hi0 dX11_number_36 ?_
          obtain ⟨h7, q5⟩ := it_s q5
          refine x_iald hC (kr_5_1 hi0) h7 dX11_number_39 ?_
          refine x_iadd hC dX11_number_40 ?_
          refine x_bipush hC (48 : Int32) dX11_number_41 (by decide) ?_
          refine x_isub hC dX11_number_43 ?_
          obtain ⟨x8, e9, q5⟩ := lz_s q5
          refine x_topi e9 ?_
          refine x_istore_n hC [(1, .int x8), (0, .ref (G.2.1 i0))] dX11_number_44 rfl (Nat.le_of_ble_eq_true rfl) rfl ?_
          cases q5
          exact x_sub [1, 0] rfl kj
set_option maxHeartbeats 4000000 in
set_option maxRecDepth 100000 in
theorem c_X11_number (l : Launch) (G : GG) (M : Mm) {i0 : Nat} (hi0 : (kd i0).1 = 5) {M9 : Mm} (hr : f_X11_number i0 M = some M9) : Mo false l yX11_number (WS yX11_number cX11_number 2 none) (RM 2 0 0 42) 0 0 [.ref (G.2.1 i0)] G M none M9 := by
  refine Mo.of (by decide +kernel) (Nat.le_of_ble_eq_true rfl) ?_
  intro p e s m args below meth c hC
  have hC : CX p s m args meth c cX11_number 2 RX11 none G := hC
  rw [f_X11_number] at hr
  show XJ p l e (RM 2 0 0 42) s m args below meth c G 2 _ 0 0 M 0 [(0, .ref (G.2.1 i0))] []
  refine x_iconst hC (0 : Int32) dX11_number_0 (by decide) ?_
  refine x_istore_n hC [(1, .int (0 : Int32)), (0, .ref (G.2.1 i0))] dX11_number_1 rfl (Nat.le_of_ble_eq_true rfl) rfl ?_
  obtain ⟨x14, M15, q13, hr⟩ := bd2_s hr
  refine x_sub [1, 0] rfl (l_X11_number_L2 hC hi0 FU  (0 : Int32) M q13 ?_)
  refine x_aload_n hC dX11_number_58 rfl 0 rfl ?_
  refine x_aload_n hC dX11_number_59 rfl 0 rfl ?_
  refine gf_X11_83 hC hi0 dX11_number_60 ?_
  refine x_aload_n hC dX11_number_63 rfl 0 rfl ?_
  refine gf_X11_86 hC hi0 dX11_number_64 ?_
  refine x_isub hC dX11_number_67 ?_
  refine x_bipush hC (6 : Int32) dX11_number_68 (by decide) ?_
  obtain ⟨x18, e19, hr⟩ := lz_s hr
  have q16 := e19.symm
  refine x_join (M' := M15) (pc' := 78) (lv' := [(0, .ref (G.2.1 i0)), (1, .int x14)]) (st' := [.int x18, .ref (G.2.1 i0)]) ?_ ?_
  · obtain ⟨M20, e21, hr⟩ := lz_s hr
    refine pf_X11_92 hC hi0 e21 dX11_number_78 ?_
    refine x_aload_n hC dX11_number_81 rfl 0 rfl ?_
    refine x_iload_n hC dX11_number_82 rfl 1 rfl ?_
    obtain ⟨M22, e23, hr⟩ := lz_s hr
    refine pf_X11_89 hC hi0 e23 dX11_number_83 ?_
    cases hr
    exact x_vret hC rfl dX11_number_86
  · intro kj
    refine x_icmp_le hC 77 dX11_number_70 (by decide) (fun h17 => ?_) (fun h17 => ?_)
    · have q16 := (ie_s q16).1 h17
      refine x_iconst hC (3 : Int32) dX11_number_77 (by decide) ?_
      subst q16
      exact x_sub [0, 1] rfl kj
    · have q16 := (ie_s q16).2 h17
      refine x_iconst hC (0 : Int32) dX11_number_73 (by decide) ?_
      refine x_goto hC 78 dX11_number_74 (by decide) ?_
      subst q16
      exact x_sub [0, 1] rfl kj

theorem dX11_isSymbol_0 : decode cX11_isSymbol 0 = .ok (.iload_n 0, 1) := by decide +kernel
theorem dX11_isSymbol_1 : decode cX11_isSymbol 1 = .ok (.bipush 123, 2) := by decide +kernel
theorem dX11_isSymbol_3 : decode cX11_isSymbol 3 = .ok (.if_icmp .eq 87, 3) := by decide +kernel
theorem dX11_isSymbol_6 : decode cX11_isSymbol 6 = .ok (.iload_n 0, 1) := by decide +kernel
theorem dX11_isSymbol_7 : decode cX11_isSymbol 7 = .ok (.bipush 125, 2) := by decide +kernel
theorem dX11_isSymbol_9 : decode cX11_isSymbol 9 = .ok (.if_icmp .eq 81, 3) := by decide +kernel
theorem dX11_isSymbol_12 : decode cX11_isSymbol 12 = .ok (.iload_n 0, 1) := by decide +kernel
theorem dX11_isSymbol_13 : decode cX11_isSymbol 13 = .ok (.bipush 40, 2) := by decide +kernel
theorem dX11_isSymbol_15 : decode cX11_isSymbol 15 = .ok (.if_icmp .eq 75, 3) := by decide +kernel
theorem dX11_isSymbol_18 : decode cX11_isSymbol 18 = .ok (.iload_n 0, 1) := by decide +kernel
theorem dX11_isSymbol_19 : decode cX11_isSymbol 19 = .ok (.bipush 41, 2) := by decide +kernel
theorem dX11_isSymbol_21 : decode cX11_isSymbol 21 = .ok (.if_icmp .eq 69, 3) := by decide +kernel
theorem dX11_isSymbol_24 : decode cX11_isSymbol 24 = .ok (.iload_n 0, 1) := by decide +kernel
theorem dX11_isSymbol_25 : decode cX11_isSymbol 25 = .ok (.bipush 91, 2) := by decide +kernel
theorem dX11_isSymbol_27 : decode cX11_isSymbol 27 = .ok (.if_icmp .eq 63, 3) := by decide +kernel
theorem dX11_isSymbol_30 : decode cX11_isSymbol 30 = .ok (.iload_n 0, 1) := by decide +kernel
theorem dX11_isSymbol_31 : decode cX11_isSymbol 31 = .ok (.bipush 93, 2) := by decide +kernel
theorem dX11_isSymbol_33 : decode cX11_isSymbol 33 = .ok (.if_icmp .eq 57, 3) := by decide +kernel
theorem dX11_isSymbol_36 : decode cX11_isSymbol 36 = .ok (.iload_n 0, 1) := by decide +kernel
theorem dX11_isSymbol_37 : decode cX11_isSymbol 37 = .ok (.bipush 59, 2) := by decide +kernel
theorem dX11_isSymbol_39 : decode cX11_isSymbol 39 = .ok (.if_icmp .eq 51, 3) := by decide +kernel
theorem dX11_isSymbol_42 : decode cX11_isSymbol 42 = .ok (.iload_n 0, 1) := by decide +kernel
theorem dX11_isSymbol_43 : decode cX11_isSymbol 43 = .ok (.bipush 44, 2) := by decide +kernel
theorem dX11_isSymbol_45 : decode cX11_isSymbol 45 = .ok (.if_icmp .eq 45, 3) := by decide +kernel
theorem dX11_isSymbol_48 : decode cX11_isSymbol 48 = .ok (.iload_n 0, 1) := by decide +kernel
theorem dX11_isSymbol_49 : decode cX11_isSymbol 49 = .ok (.bipush 43, 2) := by decide +kernel
theorem dX11_isSymbol_51 : decode cX11_isSymbol 51 = .ok (.if_icmp .eq 39, 3) := by decide +kernel
theorem dX11_isSymbol_54 : decode cX11_isSymbol 54 = .ok (.iload_n 0, 1) := by decide +kernel
theorem dX11_isSymbol_55 : decode cX11_isSymbol 55 = .ok (.bipush 45, 2) := by decide +kernel
theorem dX11_isSymbol_57 : decode cX11_isSymbol 57 = .ok (.if_icmp .eq 33, 3) := by decide +kernel
theorem dX11_isSymbol_60 : decode cX11_isSymbol 60 = .ok (.iload_n 0, 1) := by decide +kernel
theorem dX11_isSymbol_61 : decode cX11_isSymbol 61 = .ok (.bipush 42, 2) := by decide +kernel
theorem dX11_isSymbol_63 : decode cX11_isSymbol 63 = .ok (.if_icmp .eq 27, 3) := by decide +kernel
theorem dX11_isSymbol_66 : decode cX11_isSymbol 66 = .ok (.iload_n 0, 1) := by decide +kernel
theorem dX11_isSymbol_67 : decode cX11_isSymbol 67 = .ok (.bipush 47, 2) := by decide +kernel
theorem dX11_isSymbol_69 : decode cX11_isSymbol 69 = .ok (.if_icmp .eq 21, 3) := by decide +kernel
theorem dX11_isSymbol_72 : decode cX11_isSymbol 72 = .ok (.iload_n 0, 1) := by decide +kernel
theorem dX11_isSymbol_73 : decode cX11_isSymbol 73 = .ok (.bipush 60, 2) := by decide +kernel
theorem dX11_isSymbol_75 : decode cX11_isSymbol 75 = .ok (.if_icmp .eq 15, 3) := by decide +kernel
theorem dX11_isSymbol_78 : decode cX11_isSymbol 78 = .ok (.iload_n 0, 1) := by decide +kernel
theorem dX11_isSymbol_79 : decode cX11_isSymbol 79 = .ok (.bipush 62, 2) := by decide +kernel
theorem dX11_isSymbol_81 : decode cX11_isSymbol 81 = .ok (.if_icmp .eq 9, 3) := by decide +kernel
theorem dX11_isSymbol_84 : decode cX11_isSymbol 84 = .ok (.iload_n 0, 1) := by decide +kernel
theorem dX11_isSymbol_85 : decode cX11_isSymbol 85 = .ok (.bipush 61, 2) := by decide +kernel
theorem dX11_isSymbol_87 : decode cX11_isSymbol 87 = .ok (.if_icmp .ne 7, 3) := by decide +kernel
theorem dX11_isSymbol_90 : decode cX11_isSymbol 90 = .ok (.iconst 1, 1) := by decide +kernel
theorem dX11_isSymbol_91 : decode cX11_isSymbol 91 = .ok (.goto 4, 3) := by decide +kernel
theorem dX11_isSymbol_94 : decode cX11_isSymbol 94 = .ok (.iconst 0, 1) := by decide +kernel
theorem dX11_isSymbol_95 : decode cX11_isSymbol 95 = .ok (.ireturn, 1) := by decide +kernel

def f_X11_isSymbol (a0 : Int32) : Int32 :=
  if (a0 = (123 : Int32)) then ((1 : Int32)) else (if (a0 = (125 : Int32)) then ((1 : Int32)) else (if (a0 = (40 : Int32)) then ((1 : Int32)) else (if (a0 = (41 : Int32)) then ((1 : Int32)) else (if (a0 = (91 : Int32)) then ((1 : Int32)) else (if (a0 = (93 : Int32)) then ((1 : Int32)) else (if (a0 = (59 : Int32)) then ((1 : Int32)) else (if (a0 = (44 : Int32)) then ((1 : Int32)) else (if (a0 = (43 : Int32)) then ((1 : Int32)) else (if (a0 = (45 : Int32)) then ((1 : Int32)) else (if (a0 = (42 : Int32)) then ((1 : Int32)) else (if (a0 = (47 : Int32)) then ((1 : Int32)) else (if (a0 = (60 : Int32)) then ((1 : Int32)) else (if (a0 = (62 : Int32)) then ((1 : Int32)) else (if (a0 = (61 : Int32)) then ((1 : Int32)) else ((0 : Int32))))))))))))))))

set_option maxHeartbeats 4000000 in
set_option maxRecDepth 100000 in
theorem c_X11_isSymbol (l : Launch) (G : GG) (M : Mm) (a0 : Int32) {r : Int32} (hr : f_X11_isSymbol a0 = r) : Mo true l yX11_isSymbol (WS yX11_isSymbol cX11_isSymbol 1 (some .boolean)) (RM 0 0 0 0) 0 0 [.int a0] G M (some (.int r)) M := by
  refine Mo.of (by decide +kernel) (Nat.le_of_ble_eq_true rfl) ?_
  intro p e s m args below meth c hC
  have hC : CX p s m args meth c cX11_isSymbol 1 RX11 (some .boolean) G := hC
  rw [f_X11_isSymbol] at hr
  show XJ p l e (RM 0 0 0 0) s m args below meth c G 1 _ 0 0 M 0 [(0, .int a0)] []
  refine x_iload_n hC dX11_isSymbol_0 rfl 0 rfl ?_
  refine x_bipush hC (123 : Int32) dX11_isSymbol_1 (by decide) ?_
  refine x_icmp_eq hC 90 dX11_isSymbol_3 (by decide) (fun h1 => ?_) (fun h1 => ?_)
  · have hr := (ie_s hr).1 h1
    refine x_iconst hC (1 : Int32) dX11_isSymbol_90 (by decide) ?_
    refine x_goto hC 95 dX11_isSymbol_91 (by decide) ?_
    subst hr
    exact x_zret hC rfl (Or.inr rfl) dX11_isSymbol_95
  · have hr := (ie_s hr).2 h1
    refine x_iload_n hC dX11_isSymbol_6 rfl 0 rfl ?_
    refine x_bipush hC (125 : Int32) dX11_isSymbol_7 (by decide) ?_
    refine x_icmp_eq hC 90 dX11_isSymbol_9 (by decide) (fun h2 => ?_) (fun h2 => ?_)
    · have hr := (ie_s hr).1 h2
      refine x_iconst hC (1 : Int32) dX11_isSymbol_90 (by decide) ?_
      refine x_goto hC 95 dX11_isSymbol_91 (by decide) ?_
      subst hr
      exact x_zret hC rfl (Or.inr rfl) dX11_isSymbol_95
    · have hr := (ie_s hr).2 h2
      refine x_iload_n hC dX11_isSymbol_12 rfl 0 rfl ?_
      refine x_bipush hC (40 : Int32) dX11_isSymbol_13 (by decide) ?_
      refine x_icmp_eq hC 90 dX11_isSymbol_15 (by decide) (fun h3 => ?_) (fun h3 => ?_)
      · have hr := (ie_s hr).1 h3
        refine x_iconst hC (1 : Int32) dX11_isSymbol_90 (by decide) ?_
        refine x_goto hC 95 dX11_isSymbol_91 (by decide) ?_
        subst hr
        exact x_zret hC rfl (Or.inr rfl) dX11_isSymbol_95
      · have hr := (ie_s hr).2 h3
        refine x_iload_n hC dX11_isSymbol_18 rfl 0 rfl ?_
        refine x_bipush hC (41 : Int32) dX11_isSymbol_19 (by decide) ?_
        refine x_icmp_eq hC 90 dX11_isSymbol_21 (by decide) (fun h4 => ?_) (fun h4 => ?_)
        · have hr := (ie_s hr).1 h4
          refine x_iconst hC (1 : Int32) dX11_isSymbol_90 (by decide) ?_
          refine x_goto hC 95 dX11_isSymbol_91 (by decide) ?_
          subst hr
          exact x_zret hC rfl (Or.inr rfl) dX11_isSymbol_95
        · have hr := (ie_s hr).2 h4
          refine x_iload_n hC dX11_isSymbol_24 rfl 0 rfl ?_
          refine x_bipush hC (91 : Int32) dX11_isSymbol_25 (by decide) ?_
          refine x_icmp_eq hC 90 dX11_isSymbol_27 (by decide) (fun h5 => ?_) (fun h5 => ?_)
          · have hr := (ie_s hr).1 h5
            refine x_iconst hC (1 : Int32) dX11_isSymbol_90 (by decide) ?_
            refine x_goto hC 95 dX11_isSymbol_91 (by decide) ?_
            subst hr
            exact x_zret hC rfl (Or.inr rfl) dX11_isSymbol_95
          · have hr := (ie_s hr).2 h5
            refine x_iload_n hC dX11_isSymbol_30 rfl 0 rfl ?_
            refine x_bipush hC (93 : Int32) dX11_isSymbol_31 (by decide) ?_
            refine x_icmp_eq hC 90 dX11_isSymbol_33 (by decide) (fun h6 => ?_) (fun h6 => ?_)
            · have hr := (ie_s hr).1 h6
              refine x_iconst hC (1 : Int32) dX11_isSymbol_90 (by decide) ?_
              refine x_goto hC 95 dX11_isSymbol_91 (by decide) ?_
              subst hr
              exact x_zret hC rfl (Or.inr rfl) dX11_isSymbol_95
            · have hr := (ie_s hr).2 h6
              refine x_iload_n hC dX11_isSymbol_36 rfl 0 rfl ?_
              refine x_bipush hC (59 : Int32) dX11_isSymbol_37 (by decide) ?_
              refine x_icmp_eq hC 90 dX11_isSymbol_39 (by decide) (fun h7 => ?_) (fun h7 => ?_)
              · have hr := (ie_s hr).1 h7
                refine x_iconst hC (1 : Int32) dX11_isSymbol_90 (by decide) ?_
                refine x_goto hC 95 dX11_isSymbol_91 (by decide) ?_
                subst hr
                exact x_zret hC rfl (Or.inr rfl) dX11_isSymbol_95
              · have hr := (ie_s hr).2 h7
                refine x_iload_n hC dX11_isSymbol_42 rfl 0 rfl ?_
                refine x_bipush hC (44 : Int32) dX11_isSymbol_43 (by decide) ?_
                refine x_icmp_eq hC 90 dX11_isSymbol_45 (by decide) (fun h8 => ?_) (fun h8 => ?_)
                · have hr := (ie_s hr).1 h8
                  refine x_iconst hC (1 : Int32) dX11_isSymbol_90 (by decide) ?_
                  refine x_goto hC 95 dX11_isSymbol_91 (by decide) ?_
                  subst hr
                  exact x_zret hC rfl (Or.inr rfl) dX11_isSymbol_95
                · have hr := (ie_s hr).2 h8
                  refine x_iload_n hC dX11_isSymbol_48 rfl 0 rfl ?_
                  refine x_bipush hC (43 : Int32) dX11_isSymbol_49 (by decide) ?_
                  refine x_icmp_eq hC 90 dX11_isSymbol_51 (by decide) (fun h9 => ?_) (fun h9 => ?_)
                  · have hr := (ie_s hr).1 h9
                    refine x_iconst hC (1 : Int32) dX11_isSymbol_90 (by decide) ?_
                    refine x_goto hC 95 dX11_isSymbol_91 (by decide) ?_
                    subst hr
                    exact x_zret hC rfl (Or.inr rfl) dX11_isSymbol_95
                  · have hr := (ie_s hr).2 h9
                    refine x_iload_n hC dX11_isSymbol_54 rfl 0 rfl ?_
                    refine x_bipush hC (45 : Int32) dX11_isSymbol_55 (by decide) ?_
                    refine x_icmp_eq hC 90 dX11_isSymbol_57 (by decide) (fun h10 => ?_) (fun h10 => ?_)
                    · have hr := (ie_s hr).1 h10
                      refine x_iconst hC (1 : Int32) dX11_isSymbol_90 (by decide) ?_
                      refine x_goto hC 95 dX11_isSymbol_91 (by decide) ?_
                      subst hr
                      exact x_zret hC rfl (Or.inr rfl) dX11_isSymbol_95
                    · have hr := (ie_s hr).2 h10
                      refine x_iload_n hC dX11_isSymbol_60 rfl 0 rfl ?_
                      refine x_bipush hC (42 : Int32) dX11_isSymbol_61 (by decide) ?_
                      refine x_icmp_eq hC 90 dX11_isSymbol_63 (by decide) (fun h11 => ?_) (fun h11 => ?_)
                      · have hr := (ie_s hr).1 h11
                        refine x_iconst hC (1 : Int32) dX11_isSymbol_90 (by decide) ?_
                        refine x_goto hC 95 dX11_isSymbol_91 (by decide) ?_
                        subst hr
                        exact x_zret hC rfl (Or.inr rfl) dX11_isSymbol_95
                      · have hr := (ie_s hr).2 h11
                        refine x_iload_n hC dX11_isSymbol_66 rfl 0 rfl ?_
                        refine x_bipush hC (47 : Int32) dX11_isSymbol_67 (by decide) ?_
                        refine x_icmp_eq hC 90 dX11_isSymbol_69 (by decide) (fun h12 => ?_) (fun h12 => ?_)
                        · have hr := (ie_s hr).1 h12
                          refine x_iconst hC (1 : Int32) dX11_isSymbol_90 (by decide) ?_
                          refine x_goto hC 95 dX11_isSymbol_91 (by decide) ?_
                          subst hr
                          exact x_zret hC rfl (Or.inr rfl) dX11_isSymbol_95
                        · have hr := (ie_s hr).2 h12
                          refine x_iload_n hC dX11_isSymbol_72 rfl 0 rfl ?_
                          refine x_bipush hC (60 : Int32) dX11_isSymbol_73 (by decide) ?_
                          refine x_icmp_eq hC 90 dX11_isSymbol_75 (by decide) (fun h13 => ?_) (fun h13 => ?_)
                          · have hr := (ie_s hr).1 h13
                            refine x_iconst hC (1 : Int32) dX11_isSymbol_90 (by decide) ?_
                            refine x_goto hC 95 dX11_isSymbol_91 (by decide) ?_
                            subst hr
                            exact x_zret hC rfl (Or.inr rfl) dX11_isSymbol_95
                          · have hr := (ie_s hr).2 h13
                            refine x_iload_n hC dX11_isSymbol_78 rfl 0 rfl ?_
                            refine x_bipush hC (62 : Int32) dX11_isSymbol_79 (by decide) ?_
                            refine x_icmp_eq hC 90 dX11_isSymbol_81 (by decide) (fun h14 => ?_) (fun h14 => ?_)
                            · have hr := (ie_s hr).1 h14
                              refine x_iconst hC (1 : Int32) dX11_isSymbol_90 (by decide) ?_
                              refine x_goto hC 95 dX11_isSymbol_91 (by decide) ?_
                              subst hr
                              exact x_zret hC rfl (Or.inr rfl) dX11_isSymbol_95
                            · have hr := (ie_s hr).2 h14
                              refine x_iload_n hC dX11_isSymbol_84 rfl 0 rfl ?_
                              refine x_bipush hC (61 : Int32) dX11_isSymbol_85 (by decide) ?_
                              refine x_icmp_ne hC 94 dX11_isSymbol_87 (by decide) (fun h15 => ?_) (fun h15 => ?_)
                              · have hr := (ie_s hr).2 h15
                                refine x_iconst hC (0 : Int32) dX11_isSymbol_94 (by decide) ?_
                                subst hr
                                exact x_zret hC rfl (Or.inl rfl) dX11_isSymbol_95
                              · have hr := (ie_s hr).1 h15
                                refine x_iconst hC (1 : Int32) dX11_isSymbol_90 (by decide) ?_
                                refine x_goto hC 95 dX11_isSymbol_91 (by decide) ?_
                                subst hr
                                exact x_zret hC rfl (Or.inr rfl) dX11_isSymbol_95

theorem dX11_symbol_0 : decode cX11_symbol 0 = .ok (.aload_n 0, 1) := by decide +kernel
theorem dX11_symbol_1 : decode cX11_symbol 1 = .ok (.getfield 9, 3) := by decide +kernel
theorem dX11_symbol_4 : decode cX11_symbol 4 = .ok (.aload_n 0, 1) := by decide +kernel
theorem dX11_symbol_5 : decode cX11_symbol 5 = .ok (.getfield 83, 3) := by decide +kernel
theorem dX11_symbol_8 : decode cX11_symbol 8 = .ok (.iaload, 1) := by decide +kernel
theorem dX11_symbol_9 : decode cX11_symbol 9 = .ok (.istore_n 1, 1) := by decide +kernel
theorem dX11_symbol_10 : decode cX11_symbol 10 = .ok (.aload_n 0, 1) := by decide +kernel
theorem dX11_symbol_11 : decode cX11_symbol 11 = .ok (.dup, 1) := by decide +kernel
theorem dX11_symbol_12 : decode cX11_symbol 12 = .ok (.getfield 83, 3) := by decide +kernel
theorem dX11_symbol_15 : decode cX11_symbol 15 = .ok (.iconst 1, 1) := by decide +kernel
theorem dX11_symbol_16 : decode cX11_symbol 16 = .ok (.iadd, 1) := by decide +kernel
theorem dX11_symbol_17 : decode cX11_symbol 17 = .ok (.putfield 83, 3) := by decide +kernel
theorem dX11_symbol_20 : decode cX11_symbol 20 = .ok (.aload_n 0, 1) := by decide +kernel
theorem dX11_symbol_21 : decode cX11_symbol 21 = .ok (.iload_n 1, 1) := by decide +kernel
theorem dX11_symbol_22 : decode cX11_symbol 22 = .ok (.invokestatic 131, 3) := by decide +kernel
theorem dX11_symbol_25 : decode cX11_symbol 25 = .ok (.ifCond .eq 7, 3) := by decide +kernel
theorem dX11_symbol_28 : decode cX11_symbol 28 = .ok (.iconst 4, 1) := by decide +kernel
theorem dX11_symbol_29 : decode cX11_symbol 29 = .ok (.goto 4, 3) := by decide +kernel
theorem dX11_symbol_32 : decode cX11_symbol 32 = .ok (.iconst 0, 1) := by decide +kernel
theorem dX11_symbol_33 : decode cX11_symbol 33 = .ok (.putfield 92, 3) := by decide +kernel
theorem dX11_symbol_36 : decode cX11_symbol 36 = .ok (.aload_n 0, 1) := by decide +kernel
theorem dX11_symbol_37 : decode cX11_symbol 37 = .ok (.iload_n 1, 1) := by decide +kernel
theorem dX11_symbol_38 : decode cX11_symbol 38 = .ok (.putfield 89, 3) := by decide +kernel
theorem dX11_symbol_41 : decode cX11_symbol 41 = .ok (.iload_n 1, 1) := by decide +kernel
theorem dX11_symbol_42 : decode cX11_symbol 42 = .ok (.bipush 60, 2) := by decide +kernel
theorem dX11_symbol_44 : decode cX11_symbol 44 = .ok (.if_icmp .eq 9, 3) := by decide +kernel
theorem dX11_symbol_47 : decode cX11_symbol 47 = .ok (.iload_n 1, 1) := by decide +kernel
theorem dX11_symbol_48 : decode cX11_symbol 48 = .ok (.bipush 62, 2) := by decide +kernel
theorem dX11_symbol_50 : decode cX11_symbol 50 = .ok (.if_icmp .ne 16, 3) := by decide +kernel
theorem dX11_symbol_53 : decode cX11_symbol 53 = .ok (.aload_n 0, 1) := by decide +kernel
theorem dX11_symbol_54 : decode cX11_symbol 54 = .ok (.aload_n 0, 1) := by decide +kernel
theorem dX11_symbol_55 : decode cX11_symbol 55 = .ok (.getfield 83, 3) := by decide +kernel
theorem dX11_symbol_58 : decode cX11_symbol 58 = .ok (.invokevirtual 79, 3) := by decide +kernel
theorem dX11_symbol_61 : decode cX11_symbol 61 = .ok (.bipush 61, 2) := by decide +kernel
theorem dX11_symbol_63 : decode cX11_symbol 63 = .ok (.if_icmp .eq 4, 3) := by decide +kernel
theorem dX11_symbol_66 : decode cX11_symbol 66 = .ok (.return_, 1) := by decide +kernel
theorem dX11_symbol_67 : decode cX11_symbol 67 = .ok (.aload_n 0, 1) := by decide +kernel
theorem dX11_symbol_68 : decode cX11_symbol 68 = .ok (.dup, 1) := by decide +kernel
theorem dX11_symbol_69 : decode cX11_symbol 69 = .ok (.getfield 83, 3) := by decide +kernel
theorem dX11_symbol_72 : decode cX11_symbol 72 = .ok (.iconst 1, 1) := by decide +kernel
theorem dX11_symbol_73 : decode cX11_symbol 73 = .ok (.iadd, 1) := by decide +kernel
theorem dX11_symbol_74 : decode cX11_symbol 74 = .ok (.putfield 83, 3) := by decide +kernel
theorem dX11_symbol_77 : decode cX11_symbol 77 = .ok (.aload_n 0, 1) := by decide +kernel
theorem dX11_symbol_78 : decode cX11_symbol 78 = .ok (.iload_n 1, 1) := by decide +kernel
theorem dX11_symbol_79 : decode cX11_symbol 79 = .ok (.bipush 60, 2) := by decide +kernel
theorem dX11_symbol_81 : decode cX11_symbol 81 = .ok (.if_icmp .ne 9, 3) := by decide +kernel
theorem dX11_symbol_84 : decode cX11_symbol 84 = .ok (.sipush 256, 3) := by decide +kernel
theorem dX11_symbol_87 : decode cX11_symbol 87 = .ok (.goto 6, 3) := by decide +kernel
theorem dX11_symbol_90 : decode cX11_symbol 90 = .ok (.sipush 257, 3) := by decide +kernel
theorem dX11_symbol_93 : decode cX11_symbol 93 = .ok (.putfield 89, 3) := by decide +kernel
theorem dX11_symbol_96 : decode cX11_symbol 96 = .ok (.return_, 1) := by decide +kernel

def f_X11_symbol (i0 : Nat) (M : Mm) : Option Mm :=
  if 0 ≤ (M i0 12).toInt ∧ (M i0 12).toInt < ((2000 : Nat) : Int) then (lz (M (i0 + 1) (ix (M i0 12))) fun x2 => lz (wr M i0 12 ((M i0 12) + (1 : Int32))) fun M4 => lz (f_X11_isSymbol x2) fun x6 => lz (if (x6 = 0) then ((0 : Int32)) else ((4 : Int32))) fun x11 => lz (wr M4 i0 14 x11) fun M13 => lz (wr M13 i0 16 x2) fun M15 => if (x2 = (60 : Int32)) then (bd1 (f_X11_byteOf i0 (M15 i0 12) M15) fun x18 => if (x18 = (61 : Int32)) then (lz (wr M15 i0 12 ((M15 i0 12) + (1 : Int32))) fun M22 => lz (if (x2 = (60 : Int32)) then ((256 : Int32)) else ((257 : Int32))) fun x26 => lz (wr M22 i0 16 x26) fun M28 => some M28) else (some M15)) else (if (x2 = (62 : Int32)) then (bd1 (f_X11_byteOf i0 (M15 i0 12) M15) fun x31 => if (x31 = (61 : Int32)) then (lz (wr M15 i0 12 ((M15 i0 12) + (1 : Int32))) fun M35 => lz (if (x2 = (60 : Int32)) then ((256 : Int32)) else ((257 : Int32))) fun x39 => lz (wr M35 i0 16 x39) fun M41 => some M41) else (some M15)) else (some M15))) else none

set_option maxHeartbeats 4000000 in
set_option maxRecDepth 100000 in
theorem c_X11_symbol (l : Launch) (G : GG) (M : Mm) {i0 : Nat} (hi0 : (kd i0).1 = 5) {M9 : Mm} (hr : f_X11_symbol i0 M = some M9) : Mo false l yX11_symbol (WS yX11_symbol cX11_symbol 2 none) (RM 1 0 0 21) 0 0 [.ref (G.2.1 i0)] G M none M9 := by
  refine Mo.of (by decide +kernel) (Nat.le_of_ble_eq_true rfl) ?_
  intro p e s m args below meth c hC
  have hC : CX p s m args meth c cX11_symbol 2 RX11 none G := hC
  rw [f_X11_symbol] at hr
  show XJ p l e (RM 1 0 0 21) s m args below meth c G 2 _ 0 0 M 0 [(0, .ref (G.2.1 i0))] []
  refine x_aload_n hC dX11_symbol_0 rfl 0 rfl ?_
  refine gf_X11_9 hC hi0 dX11_symbol_1 ?_
  refine x_aload_n hC dX11_symbol_4 rfl 0 rfl ?_
  refine gf_X11_83 hC hi0 dX11_symbol_5 ?_
  obtain ⟨h1, hr⟩ := it_s hr
  refine x_iald hC (kr_5_1 hi0) h1 dX11_symbol_8 ?_
  obtain ⟨x2, e3, hr⟩ := lz_s hr
  refine x_topi e3 ?_
  refine x_istore_n hC [(1, .int x2), (0, .ref (G.2.1 i0))] dX11_symbol_9 rfl (Nat.le_of_ble_eq_true rfl) rfl ?_
  refine x_aload_n hC dX11_symbol_10 rfl 1 rfl ?_
  refine x_dup hC dX11_symbol_11 rfl ?_
  refine gf_X11_83 hC hi0 dX11_symbol_12 ?_
  refine x_iconst hC (1 : Int32) dX11_symbol_15 (by decide) ?_
  refine x_iadd hC dX11_symbol_16 ?_
  obtain ⟨M4, e5, hr⟩ := lz_s hr
  refine pf_X11_83 hC hi0 e5 dX11_symbol_17 ?_
  refine x_aload_n hC dX11_symbol_20 rfl 1 rfl ?_
  refine x_iload_n hC dX11_symbol_21 rfl 0 rfl ?_
  obtain ⟨x6, e7, hr⟩ := lz_s hr
  refine x_callS (As := [.int x2]) hC (c_X11_isSymbol l G M4 x2 e7.symm) kc_yX11_isSymbol km_X11_131 kt_yX11_isSymbol kn_RX11 ky_yX11_isSymbol rfl ⟨rfl, rfl⟩ ⟨(Nat.le_of_ble_eq_true rfl), (Nat.le_of_ble_eq_true rfl)⟩ rfl (Nat.le_of_ble_eq_true rfl) ⟨(Nat.le_of_ble_eq_true rfl), (Nat.le_of_ble_eq_true rfl)⟩ dX11_symbol_22 (fun b8 => ?_)
  obtain ⟨x11, e12, hr⟩ := lz_s hr
  have q9 := e12.symm
  refine x_join (M' := M4) (pc' := 33) (lv' := [(0, .ref (G.2.1 i0)), (1, .int x2)]) (st' := [.int x11, .ref (G.2.1 i0)]) ?_ ?_
  · obtain ⟨M13, e14, hr⟩ := lz_s hr
    refine pf_X11_92 hC hi0 e14 dX11_symbol_33 ?_
    refine x_aload_n hC dX11_symbol_36 rfl 0 rfl ?_
    refine x_iload_n hC dX11_symbol_37 rfl 1 rfl ?_
    obtain ⟨M15, e16, hr⟩ := lz_s hr
    refine pf_X11_89 hC hi0 e16 dX11_symbol_38 ?_
    refine x_iload_n hC dX11_symbol_41 rfl 1 rfl ?_
    refine x_bipush hC (60 : Int32) dX11_symbol_42 (by decide) ?_
    refine x_icmp_eq hC 53 dX11_symbol_44 (by decide) (fun h17 => ?_) (fun h17 => ?_)
    · have hr := (ie_s hr).1 h17
      refine x_aload_n hC dX11_symbol_53 rfl 0 rfl ?_
      refine x_aload_n hC dX11_symbol_54 rfl 0 rfl ?_
      refine gf_X11_83 hC hi0 dX11_symbol_55 ?_
      obtain ⟨x18, q19, hr⟩ := bd1_s hr
      refine x_callV (ci := 5) (q := (RX11, TX11, 32)) (As := [.int (M15 i0 12)]) hC (c_X11_byteOf l G M15 hi0 (M15 i0 12) q19) kc_yX11_byteOf km_X11_79 ki_yX11_byteOf kv_yX11_byteOf kn_RX11 ky_yX11_byteOf rfl ⟨rfl, rfl⟩ ⟨(Nat.le_of_ble_eq_true rfl), (Nat.le_of_ble_eq_true rfl)⟩ hi0 (by decide) rfl rfl (Nat.le_of_ble_eq_true rfl) ⟨(Nat.le_of_ble_eq_true rfl), (Nat.le_of_ble_eq_true rfl)⟩ dX11_symbol_58 (fun b20 => ?_)
      refine x_bipush hC (61 : Int32) dX11_symbol_61 (by decide) ?_
      refine x_icmp_eq hC 67 dX11_symbol_63 (by decide) (fun h21 => ?_) (fun h21 => ?_)
      · have hr := (ie_s hr).1 h21
        refine x_aload_n hC dX11_symbol_67 rfl 0 rfl ?_
        refine x_dup hC dX11_symbol_68 rfl ?_
        refine gf_X11_83 hC hi0 dX11_symbol_69 ?_
        refine x_iconst hC (1 : Int32) dX11_symbol_72 (by decide) ?_
        refine x_iadd hC dX11_symbol_73 ?_
        obtain ⟨M22, e23, hr⟩ := lz_s hr
        refine pf_X11_83 hC hi0 e23 dX11_symbol_74 ?_
        refine x_aload_n hC dX11_symbol_77 rfl 0 rfl ?_
        refine x_iload_n hC dX11_symbol_78 rfl 1 rfl ?_
        refine x_bipush hC (60 : Int32) dX11_symbol_79 (by decide) ?_
        obtain ⟨x26, e27, hr⟩ := lz_s hr
        have q24 := e27.symm
        refine x_join (M' := M22) (pc' := 93) (lv' := []) (st' := [.int x26, .ref (G.2.1 i0)]) ?_ ?_
        · obtain ⟨M28, e29, hr⟩ := lz_s hr
          refine pf_X11_89 hC hi0 e29 dX11_symbol_93 ?_
          cases hr
          exact x_vret hC rfl dX11_symbol_96
        · intro kj
          refine x_icmp_ne hC 90 dX11_symbol_81 (by decide) (fun h25 => ?_) (fun h25 => ?_)
          · have q24 := (ie_s q24).2 h25
            refine x_sipush hC (257 : Int32) dX11_symbol_90 (by decide) ?_
            subst q24
            exact x_sub [] rfl kj
          · have q24 := (ie_s q24).1 h25
            refine x_sipush hC (256 : Int32) dX11_symbol_84 (by decide) ?_
            refine x_goto hC 93 dX11_symbol_87 (by decide) ?_
            subst q24
            exact x_sub [] rfl kj
      · have hr := (ie_s hr).2 h21
        cases hr
        exact x_vret hC rfl dX11_symbol_66
    · have hr := (ie_s hr).2 h17
      refine x_iload_n hC dX11_symbol_47 rfl 1 rfl ?_
      refine x_bipush hC (62 : Int32) dX11_symbol_48 (by decide) ?_
      refine x_icmp_ne hC 66 dX11_symbol_50 (by decide) (fun h30 => ?_) (fun h30 => ?_)
      · have hr := (ie_s hr).2 h30
        cases hr
        exact x_vret hC rfl dX11_symbol_66
      · have hr := (ie_s hr).1 h30
        refine x_aload_n hC dX11_symbol_53 rfl 0 rfl ?_
        refine x_aload_n hC dX11_symbol_54 rfl 0 rfl ?_
        refine gf_X11_83 hC hi0 dX11_symbol_55 ?_
        obtain ⟨x31, q32, hr⟩ := bd1_s hr
        refine x_callV (ci := 5) (q := (RX11, TX11, 32)) (As := [.int (M15 i0 12)]) hC (c_X11_byteOf l G M15 hi0 (M15 i0 12) q32) kc_yX11_byteOf km_X11_79 ki_yX11_byteOf kv_yX11_byteOf kn_RX11 ky_yX11_byteOf rfl ⟨rfl, rfl⟩ ⟨(Nat.le_of_ble_eq_true rfl), (Nat.le_of_ble_eq_true rfl)⟩ hi0 (by decide) rfl rfl (Nat.le_of_ble_eq_true rfl) ⟨(Nat.le_of_ble_eq_true rfl), (Nat.le_of_ble_eq_true rfl)⟩ dX11_symbol_58 (fun b33 => ?_)
        refine x_bipush hC (61 : Int32) dX11_symbol_61 (by decide) ?_
        refine x_icmp_eq hC 67 dX11_symbol_63 (by decide) (fun h34 => ?_) (fun h34 => ?_)
        · have hr := (ie_s hr).1 h34
          refine x_aload_n hC dX11_symbol_67 rfl 0 rfl ?_
          refine x_dup hC dX11_symbol_68 rfl ?_
          refine gf_X11_83 hC hi0 dX11_symbol_69 ?_
          refine x_iconst hC (1 : Int32) dX11_symbol_72 (by decide) ?_
          refine x_iadd hC dX11_symbol_73 ?_
          obtain ⟨M35, e36, hr⟩ := lz_s hr
          refine pf_X11_83 hC hi0 e36 dX11_symbol_74 ?_
          refine x_aload_n hC dX11_symbol_77 rfl 0 rfl ?_
          refine x_iload_n hC dX11_symbol_78 rfl 1 rfl ?_
          refine x_bipush hC (60 : Int32) dX11_symbol_79 (by decide) ?_
          obtain ⟨x39, e40, hr⟩ := lz_s hr
          have q37 := e40.symm
          refine x_join (M' := M35) (pc' := 93) (lv' := []) (st' := [.int x39, .ref (G.2.1 i0)]) ?_ ?_
          · obtain ⟨M41, e42, hr⟩ := lz_s hr
            refine pf_X11_89 hC hi0 e42 dX11_symbol_93 ?_
            cases hr
            exact x_vret hC rfl dX11_symbol_96
          · intro kj
            refine x_icmp_ne hC 90 dX11_symbol_81 (by decide) (fun h38 => ?_) (fun h38 => ?_)
            · have q37 := (ie_s q37).2 h38
              refine x_sipush hC (257 : Int32) dX11_symbol_90 (by decide) ?_
              subst q37
              exact x_sub [] rfl kj
            · have q37 := (ie_s q37).1 h38
              refine x_sipush hC (256 : Int32) dX11_symbol_84 (by decide) ?_
              refine x_goto hC 93 dX11_symbol_87 (by decide) ?_
              subst q37
              exact x_sub [] rfl kj
        · have hr := (ie_s hr).2 h34
          cases hr
          exact x_vret hC rfl dX11_symbol_66
  · intro kj
    refine x_if_eq hC 32 dX11_symbol_25 (by decide) (fun h10 => ?_) (fun h10 => ?_)
    · have q9 := (ie_s q9).1 h10
      refine x_iconst hC (0 : Int32) dX11_symbol_32 (by decide) ?_
      subst q9
      exact x_sub [1, 0] rfl kj
    · have q9 := (ie_s q9).2 h10
      refine x_iconst hC (4 : Int32) dX11_symbol_28 (by decide) ?_
      refine x_goto hC 33 dX11_symbol_29 (by decide) ?_
      subst q9
      exact x_sub [1, 0] rfl kj

theorem dX11_advance_0 : decode cX11_advance 0 = .ok (.aload_n 0, 1) := by decide +kernel
theorem dX11_advance_1 : decode cX11_advance 1 = .ok (.getfield 83, 3) := by decide +kernel
theorem dX11_advance_4 : decode cX11_advance 4 = .ok (.aload_n 0, 1) := by decide +kernel
theorem dX11_advance_5 : decode cX11_advance 5 = .ok (.getfield 76, 3) := by decide +kernel
theorem dX11_advance_8 : decode cX11_advance 8 = .ok (.if_icmp .ge 44, 3) := by decide +kernel
theorem dX11_advance_11 : decode cX11_advance 11 = .ok (.aload_n 0, 1) := by decide +kernel
theorem dX11_advance_12 : decode cX11_advance 12 = .ok (.getfield 9, 3) := by decide +kernel
theorem dX11_advance_15 : decode cX11_advance 15 = .ok (.aload_n 0, 1) := by decide +kernel
theorem dX11_advance_16 : decode cX11_advance 16 = .ok (.getfield 83, 3) := by decide +kernel
theorem dX11_advance_19 : decode cX11_advance 19 = .ok (.iaload, 1) := by decide +kernel
theorem dX11_advance_20 : decode cX11_advance 20 = .ok (.bipush 32, 2) := by decide +kernel
theorem dX11_advance_22 : decode cX11_advance 22 = .ok (.if_icmp .eq 17, 3) := by decide +kernel
theorem dX11_advance_25 : decode cX11_advance 25 = .ok (.aload_n 0, 1) := by decide +kernel
theorem dX11_advance_26 : decode cX11_advance 26 = .ok (.getfield 9, 3) := by decide +kernel
theorem dX11_advance_29 : decode cX11_advance 29 = .ok (.aload_n 0, 1) := by decide +kernel
theorem dX11_advance_30 : decode cX11_advance 30 = .ok (.getfield 83, 3) := by decide +kernel
theorem dX11_advance_33 : decode cX11_advance 33 = .ok (.iaload, 1) := by decide +kernel
theorem dX11_advance_34 : decode cX11_advance 34 = .ok (.bipush 10, 2) := by decide +kernel
theorem dX11_advance_36 : decode cX11_advance 36 = .ok (.if_icmp .ne 16, 3) := by decide +kernel
theorem dX11_advance_39 : decode cX11_advance 39 = .ok (.aload_n 0, 1) := by decide +kernel
theorem dX11_advance_40 : decode cX11_advance 40 = .ok (.dup, 1) := by decide +kernel
theorem dX11_advance_41 : decode cX11_advance 41 = .ok (.getfield 83, 3) := by decide +kernel
theorem dX11_advance_44 : decode cX11_advance 44 = .ok (.iconst 1, 1) := by decide +kernel
theorem dX11_advance_45 : decode cX11_advance 45 = .ok (.iadd, 1) := by decide +kernel
theorem dX11_advance_46 : decode cX11_advance 46 = .ok (.putfield 83, 3) := by decide +kernel
theorem dX11_advance_49 : decode cX11_advance 49 = .ok (.goto (-49), 3) := by decide +kernel
theorem dX11_advance_52 : decode cX11_advance 52 = .ok (.aload_n 0, 1) := by decide +kernel
theorem dX11_advance_53 : decode cX11_advance 53 = .ok (.aload_n 0, 1) := by decide +kernel
theorem dX11_advance_54 : decode cX11_advance 54 = .ok (.getfield 83, 3) := by decide +kernel
theorem dX11_advance_57 : decode cX11_advance 57 = .ok (.putfield 86, 3) := by decide +kernel
theorem dX11_advance_60 : decode cX11_advance 60 = .ok (.aload_n 0, 1) := by decide +kernel
theorem dX11_advance_61 : decode cX11_advance 61 = .ok (.iconst (-1), 1) := by decide +kernel
theorem dX11_advance_62 : decode cX11_advance 62 = .ok (.putfield 89, 3) := by decide +kernel
theorem dX11_advance_65 : decode cX11_advance 65 = .ok (.aload_n 0, 1) := by decide +kernel
theorem dX11_advance_66 : decode cX11_advance 66 = .ok (.getfield 83, 3) := by decide +kernel
theorem dX11_advance_69 : decode cX11_advance 69 = .ok (.aload_n 0, 1) := by decide +kernel
theorem dX11_advance_70 : decode cX11_advance 70 = .ok (.getfield 76, 3) := by decide +kernel
theorem dX11_advance_73 : decode cX11_advance 73 = .ok (.if_icmp .ne 9, 3) := by decide +kernel
theorem dX11_advance_76 : decode cX11_advance 76 = .ok (.aload_n 0, 1) := by decide +kernel
theorem dX11_advance_77 : decode cX11_advance 77 = .ok (.iconst 1, 1) := by decide +kernel
theorem dX11_advance_78 : decode cX11_advance 78 = .ok (.putfield 92, 3) := by decide +kernel
theorem dX11_advance_81 : decode cX11_advance 81 = .ok (.return_, 1) := by decide +kernel
theorem dX11_advance_82 : decode cX11_advance 82 = .ok (.aload_n 0, 1) := by decide +kernel
theorem dX11_advance_83 : decode cX11_advance 83 = .ok (.dup, 1) := by decide +kernel
theorem dX11_advance_84 : decode cX11_advance 84 = .ok (.getfield 95, 3) := by decide +kernel
theorem dX11_advance_87 : decode cX11_advance 87 = .ok (.iconst 1, 1) := by decide +kernel
theorem dX11_advance_88 : decode cX11_advance 88 = .ok (.iadd, 1) := by decide +kernel
theorem dX11_advance_89 : decode cX11_advance 89 = .ok (.putfield 95, 3) := by decide +kernel
theorem dX11_advance_92 : decode cX11_advance 92 = .ok (.aload_n 0, 1) := by decide +kernel
theorem dX11_advance_93 : decode cX11_advance 93 = .ok (.aload_n 0, 1) := by decide +kernel
theorem dX11_advance_94 : decode cX11_advance 94 = .ok (.getfield 83, 3) := by decide +kernel
theorem dX11_advance_97 : decode cX11_advance 97 = .ok (.invokevirtual 98, 3) := by decide +kernel
theorem dX11_advance_100 : decode cX11_advance 100 = .ok (.ifCond .eq 10, 3) := by decide +kernel
theorem dX11_advance_103 : decode cX11_advance 103 = .ok (.aload_n 0, 1) := by decide +kernel
theorem dX11_advance_104 : decode cX11_advance 104 = .ok (.invokevirtual 102, 3) := by decide +kernel
theorem dX11_advance_107 : decode cX11_advance 107 = .ok (.goto 25, 3) := by decide +kernel
theorem dX11_advance_110 : decode cX11_advance 110 = .ok (.aload_n 0, 1) := by decide +kernel
theorem dX11_advance_111 : decode cX11_advance 111 = .ok (.aload_n 0, 1) := by decide +kernel
theorem dX11_advance_112 : decode cX11_advance 112 = .ok (.getfield 83, 3) := by decide +kernel
theorem dX11_advance_115 : decode cX11_advance 115 = .ok (.invokevirtual 105, 3) := by decide +kernel
theorem dX11_advance_118 : decode cX11_advance 118 = .ok (.ifCond .eq 10, 3) := by decide +kernel
theorem dX11_advance_121 : decode cX11_advance 121 = .ok (.aload_n 0, 1) := by decide +kernel
theorem dX11_advance_122 : decode cX11_advance 122 = .ok (.invokevirtual 108, 3) := by decide +kernel
theorem dX11_advance_125 : decode cX11_advance 125 = .ok (.goto 7, 3) := by decide +kernel
theorem dX11_advance_128 : decode cX11_advance 128 = .ok (.aload_n 0, 1) := by decide +kernel
theorem dX11_advance_129 : decode cX11_advance 129 = .ok (.invokevirtual 111, 3) := by decide +kernel
theorem dX11_advance_132 : decode cX11_advance 132 = .ok (.aload_n 0, 1) := by decide +kernel
theorem dX11_advance_133 : decode cX11_advance 133 = .ok (.getfield 95, 3) := by decide +kernel
theorem dX11_advance_136 : decode cX11_advance 136 = .ok (.sipush 400, 3) := by decide +kernel
theorem dX11_advance_139 : decode cX11_advance 139 = .ok (.if_icmp .le 8, 3) := by decide +kernel
theorem dX11_advance_142 : decode cX11_advance 142 = .ok (.aload_n 0, 1) := by decide +kernel
theorem dX11_advance_143 : decode cX11_advance 143 = .ok (.iconst 0, 1) := by decide +kernel
theorem dX11_advance_144 : decode cX11_advance 144 = .ok (.putfield 92, 3) := by decide +kernel
theorem dX11_advance_147 : decode cX11_advance 147 = .ok (.return_, 1) := by decide +kernel
def f_X11_advance_L0 (i0 : Nat) : Nat → Mm → Option (Mm)
  | 0, _ => none
  | n + 1, M =>
    if ((M i0 2) ≤ (M i0 12)) then (some (M)) else (if 0 ≤ (M i0 12).toInt ∧ (M i0 12).toInt < ((2000 : Nat) : Int) then (if ((M (i0 + 1) (ix (M i0 12))) = (32 : Int32)) then (lz (wr M i0 12 ((M i0 12) + (1 : Int32))) fun M4 => f_X11_advance_L0 i0 n M4) else (if 0 ≤ (M i0 12).toInt ∧ (M i0 12).toInt < ((2000 : Nat) : Int) then (if ((M (i0 + 1) (ix (M i0 12))) = (10 : Int32)) then (lz (wr M i0 12 ((M i0 12) + (1 : Int32))) fun M8 => f_X11_advance_L0 i0 n M8) else (some (M))) else none)) else none)
def f_X11_advance (i0 : Nat) (M : Mm) : Option Mm :=
  bd1 (f_X11_advance_L0 i0 FU M) fun M11 => lz (wr M11 i0 15 (M11 i0 12)) fun M12 => lz (wr M12 i0 16 (-1 : Int32)) fun M14 => if ((M14 i0 12) = (M14 i0 2)) then (lz (wr M14 i0 14 (1 : Int32)) fun M41 => some M41) else (lz (wr M14 i0 13 ((M14 i0 13) + (1 : Int32))) fun M17 => bd1 (f_X11_isLetter i0 (M17 i0 12) M17) fun x19 => bd1 (if (x19 = 0) then (bd1 (f_X11_isDigit i0 (M17 i0 12) M17) fun x24 => if (x24 = 0) then (bd1 (f_X11_symbol i0 M17) fun M28 => some (M28)) else (bd1 (f_X11_number i0 M17) fun M31 => some (M31))) else (bd1 (f_X11_word i0 M17) fun M34 => some (M34))) fun M37 => if ((M37 i0 13) ≤ (400 : Int32)) then (some M37) else (lz (wr M37 i0 14 (0 : Int32)) fun M39 => some M39))
set_option maxHeartbeats 4000000 in
set_option maxRecDepth 100000 in
theorem l_X11_advance_L0 {p : Program} {e : Env} {s : State} {m : MethodId} {args : Array Value} {below : List Frame} {meth : Method} {c : Code} {l : Launch} {G : GG} {Q : State → Prop} (hC : CX p s m args meth c cX11_advance 1 RX11 none G) {i0 : Nat} (hi0 : (kd i0).1 = 5) : ∀ (n : Nat) (M : Mm) {M2 : Mm} (hr : f_X11_advance_L0 i0 n M = some (M2)) (K : XJ p l e (RM 6 0 0 154) s m args below meth c G 1 Q 0 0 M2 52 [(0, .ref (G.2.1 i0))] []), XJ p l e (RM 6 0 0 154) s m args below meth c G 1 Q 0 0 M 0 [(0, .ref (G.2.1 i0))] [] := by
  intro n
  induction n with
  | zero => intro M M2 hr K; rw [f_X11_advance_L0] at hr; cases hr
  | succ n ih =>
    intro M M2 hr K
    rw [f_X11_advance_L0] at hr
    refine x_aload_n hC dX11_advance_0 rfl 0 rfl ?_
    refine gf_X11_83 hC hi0 dX11_advance_1 ?_
    refine x_aload_n hC dX11_advance_4 rfl 0 rfl ?_
    refine gf_X11_76 hC hi0 dX11_advance_5 ?_
    refine x_icmp_ge hC 52 dX11_advance_8 (by decide) (fun h1 => ?_) (fun h1 => ?_)
    · have hr := (ie_s hr).1 h1
      cases hr
      exact x_sub [0] rfl K
    · have hr := (ie_s hr).2 h1
      refine x_aload_n hC dX11_advance_11 rfl 0 rfl ?_
      refine gf_X11_9 hC hi0 dX11_advance_12 ?_
      refine x_aload_n hC dX11_advance_15 rfl 0 rfl ?_
      refine gf_X11_83 hC hi0 dX11_advance_16 ?_
      obtain ⟨h2, hr⟩ := it_s hr
      refine x_iald hC (kr_5_1 hi0) h2 dX11_advance_19 ?_
      refine x_bipush hC (32 : Int32) dX11_advance_20 (by decide) ?_
      refine x_icmp_eq hC 39 dX11_advance_22 (by decide) (fun h3 => ?_) (fun h3 => ?_)
      · have hr := (ie_s hr).1 h3
        refine x_aload_n hC dX11_advance_39 rfl 0 rfl ?_
        refine x_dup hC dX11_advance_40 rfl ?_
        refine gf_X11_83 hC hi0 dX11_advance_41 ?_
        refine x_iconst hC (1 : Int32) dX11_advance_44 (by decide) ?_
        refine x_iadd hC dX11_advance_45 ?_
        obtain ⟨M4, e5, hr⟩ := lz_s hr
        refine pf_X11_83 hC hi0 e5 dX11_advance_46 ?_
        refine x_goto hC 0 dX11_advance_49 (by decide) ?_
        exact x_sub [0] rfl (ih M4 hr K)
      · have hr := (ie_s hr).2 h3
        refine x_aload_n hC dX11_advance_25 rfl 0 rfl ?_
        refine gf_X11_9 hC hi0 dX11_advance_26 ?_
        refine x_aload_n hC dX11_advance_29 rfl 0 rfl ?_
        refine gf_X11_83 hC hi0 dX11_advance_30 ?_
        obtain ⟨h6, hr⟩ := it_s hr
        refine x_iald hC (kr_5_1 hi0) h6 dX11_advance_33 ?_
        refine x_bipush hC (10 : Int32) dX11_advance_34 (by decide) ?_
        refine x_icmp_ne hC 52 dX11_advance_36 (by decide) (fun h7 => ?_) (fun h7 => ?_)
        · have hr := (ie_s hr).2 h7
          cases hr
          exact x_sub [0] rfl K
        · have hr := (ie_s hr).1 h7
          refine x_aload_n hC dX11_advance_39 rfl 0 rfl ?_
          refine x_dup hC dX11_advance_40 rfl ?_
          refine gf_X11_83 hC hi0 dX11_advance_41 ?_
          refine x_iconst hC (1 : Int32) dX11_advance_44 (by decide) ?_
          refine x_iadd hC dX11_advance_45 ?_
          obtain ⟨M8, e9, hr⟩ := lz_s hr
          refine pf_X11_83 hC hi0 e9 dX11_advance_46 ?_
          refine x_goto hC 0 dX11_advance_49 (by decide) ?_
          exact x_sub [0] rfl (ih M8 hr K)
set_option maxHeartbeats 4000000 in
set_option maxRecDepth 100000 in
theorem c_X11_advance (l : Launch) (G : GG) (M : Mm) {i0 : Nat} (hi0 : (kd i0).1 = 5) {M9 : Mm} (hr : f_X11_advance i0 M = some M9) : Mo false l yX11_advance (WS yX11_advance cX11_advance 1 none) (RM 6 0 0 154) 0 0 [.ref (G.2.1 i0)] G M none M9 := by
  refine Mo.of (by decide +kernel) (Nat.le_of_ble_eq_true rfl) ?_
  intro p e s m args below meth c hC
  have hC : CX p s m args meth c cX11_advance 1 RX11 none G := hC
  rw [f_X11_advance] at hr
  show XJ p l e (RM 6 0 0 154) s m args below meth c G 1 _ 0 0 M 0 [(0, .ref (G.2.1 i0))] []
  obtain ⟨M11, q10, hr⟩ := bd1_s hr
  refine x_sub [0] rfl (l_X11_advance_L0 hC hi0 FU  M q10 ?_)
  refine x_aload_n hC dX11_advance_52 rfl 0 rfl ?_
  refine x_aload_n hC dX11_advance_53 rfl 0 rfl ?_
  refine gf_X11_83 hC hi0 dX11_advance_54 ?_
  obtain ⟨M12, e13, hr⟩ := lz_s hr
  refine pf_X11_86 hC hi0 e13 dX11_advance_57 ?_
  refine x_aload_n hC dX11_advance_60 rfl 0 rfl ?_
  refine x_iconst hC (-1 : Int32) dX11_advance_61 (by decide) ?_
  obtain ⟨M14, e15, hr⟩ := lz_s hr
  refine pf_X11_89 hC hi0 e15 dX11_advance_62 ?_
  refine x_aload_n hC dX11_advance_65 rfl 0 rfl ?_
  refine gf_X11_83 hC hi0 dX11_advance_66 ?_
  refine x_aload_n hC dX11_advance_69 rfl 0 rfl ?_
  refine gf_X11_76 hC hi0 dX11_advance_70 ?_
  refine x_icmp_ne hC 82 dX11_advance_73 (by decide) (fun h16 => ?_) (fun h16 => ?_)
  · have hr := (ie_s hr).2 h16
    refine x_aload_n hC dX11_advance_82 rfl 0 rfl ?_
    refine x_dup hC dX11_advance_83 rfl ?_
    refine gf_X11_95 hC hi0 dX11_advance_84 ?_
    refine x_iconst hC (1 : Int32) dX11_advance_87 (by decide) ?_
    refine x_iadd hC dX11_advance_88 ?_
    obtain ⟨M17, e18, hr⟩ := lz_s hr
    refine pf_X11_95 hC hi0 e18 dX11_advance_89 ?_
    refine x_aload_n hC dX11_advance_92 rfl 0 rfl ?_
    refine x_aload_n hC dX11_advance_93 rfl 0 rfl ?_
    refine gf_X11_83 hC hi0 dX11_advance_94 ?_
    obtain ⟨x19, q20, hr⟩ := bd1_s hr
    refine x_callV (ci := 5) (q := (RX11, TX11, 32)) (As := [.int (M17 i0 12)]) hC (c_X11_isLetter l G M17 hi0 (M17 i0 12) q20) kc_yX11_isLetter km_X11_98 ki_yX11_isLetter kv_yX11_isLetter kn_RX11 ky_yX11_isLetter rfl ⟨rfl, rfl⟩ ⟨(Nat.le_of_ble_eq_true rfl), (Nat.le_of_ble_eq_true rfl)⟩ hi0 (by decide) rfl rfl (Nat.le_of_ble_eq_true rfl) ⟨(Nat.le_of_ble_eq_true rfl), (Nat.le_of_ble_eq_true rfl)⟩ dX11_advance_97 (fun b21 => ?_)
    obtain ⟨M37, q22, hr⟩ := bd1_s hr
    refine x_join (M' := M37) (pc' := 132) (lv' := [(0, .ref (G.2.1 i0))]) (st' := []) ?_ ?_
    · refine x_aload_n hC dX11_advance_132 rfl 0 rfl ?_
      refine gf_X11_95 hC hi0 dX11_advance_133 ?_
      refine x_sipush hC (400 : Int32) dX11_advance_136 (by decide) ?_
      refine x_icmp_le hC 147 dX11_advance_139 (by decide) (fun h38 => ?_) (fun h38 => ?_)
      · have hr := (ie_s hr).1 h38
        cases hr
        exact x_vret hC rfl dX11_advance_147
      · have hr := (ie_s hr).2 h38
        refine x_aload_n hC dX11_advance_142 rfl 0 rfl ?_
        refine x_iconst hC (0 : Int32) dX11_advance_143 (by decide) ?_
        obtain ⟨M39, e40, hr⟩ := lz_s hr
        refine pf_X11_92 hC hi0 e40 dX11_advance_144 ?_
        cases hr
        exact x_vret hC rfl dX11_advance_147
    · intro kj
      refine x_if_eq hC 110 dX11_advance_100 (by decide) (fun h23 => ?_) (fun h23 => ?_)
      · have q22 := (ie_s q22).1 h23
        refine x_aload_n hC dX11_advance_110 rfl 0 rfl ?_
        refine x_aload_n hC dX11_advance_111 rfl 0 rfl ?_
        refine gf_X11_83 hC hi0 dX11_advance_112 ?_
        obtain ⟨x24, q25, q22⟩ := bd1_s q22
        refine x_callV (ci := 5) (q := (RX11, TX11, 32)) (As := [.int (M17 i0 12)]) hC (c_X11_isDigit l G M17 hi0 (M17 i0 12) q25) kc_yX11_isDigit km_X11_105 ki_yX11_isDigit kv_yX11_isDigit kn_RX11 ky_yX11_isDigit rfl ⟨rfl, rfl⟩ ⟨(Nat.le_of_ble_eq_true rfl), (Nat.le_of_ble_eq_true rfl)⟩ hi0 (by decide) rfl rfl (Nat.le_of_ble_eq_true rfl) ⟨(Nat.le_of_ble_eq_true rfl), (Nat.le_of_ble_eq_true rfl)⟩ dX11_advance_115 (fun b26 => ?_)
        refine x_if_eq hC 128 dX11_advance_118 (by decide) (fun h27 => ?_) (fun h27 => ?_)
        · have q22 := (ie_s q22).1 h27
          refine x_aload_n hC dX11_advance_128 rfl 0 rfl ?_
          obtain ⟨M28, q29, q22⟩ := bd1_s q22
          refine x_callV (ci := 5) (q := (RX11, TX11, 32)) (As := []) hC (c_X11_symbol l G M17 hi0 q29) kc_yX11_symbol km_X11_111 ki_yX11_symbol kv_yX11_symbol kn_RX11 ky_yX11_symbol rfl ⟨rfl, rfl⟩ ⟨(Nat.le_of_ble_eq_true rfl), (Nat.le_of_ble_eq_true rfl)⟩ hi0 (by decide) rfl rfl (Nat.le_of_ble_eq_true rfl) ⟨(Nat.le_of_ble_eq_true rfl), (Nat.le_of_ble_eq_true rfl)⟩ dX11_advance_129 (fun b30 => ?_)
          cases q22
          exact x_sub [0] rfl kj
        · have q22 := (ie_s q22).2 h27
          refine x_aload_n hC dX11_advance_121 rfl 0 rfl ?_
          obtain ⟨M31, q32, q22⟩ := bd1_s q22
          refine x_callV (ci := 5) (q := (RX11, TX11, 32)) (As := []) hC (c_X11_number l G M17 hi0 q32) kc_yX11_number km_X11_108 ki_yX11_number kv_yX11_number kn_RX11 ky_yX11_number rfl ⟨rfl, rfl⟩ ⟨(Nat.le_of_ble_eq_true rfl), (Nat.le_of_ble_eq_true rfl)⟩ hi0 (by decide) rfl rfl (Nat.le_of_ble_eq_true rfl) ⟨(Nat.le_of_ble_eq_true rfl), (Nat.le_of_ble_eq_true rfl)⟩ dX11_advance_122 (fun b33 => ?_)
          refine x_goto hC 132 dX11_advance_125 (by decide) ?_
          cases q22
          exact x_sub [0] rfl kj
      · have q22 := (ie_s q22).2 h23
        refine x_aload_n hC dX11_advance_103 rfl 0 rfl ?_
        obtain ⟨M34, q35, q22⟩ := bd1_s q22
        refine x_callV (ci := 5) (q := (RX11, TX11, 32)) (As := []) hC (c_X11_word l G M17 hi0 q35) kc_yX11_word km_X11_102 ki_yX11_word kv_yX11_word kn_RX11 ky_yX11_word rfl ⟨rfl, rfl⟩ ⟨(Nat.le_of_ble_eq_true rfl), (Nat.le_of_ble_eq_true rfl)⟩ hi0 (by decide) rfl rfl (Nat.le_of_ble_eq_true rfl) ⟨(Nat.le_of_ble_eq_true rfl), (Nat.le_of_ble_eq_true rfl)⟩ dX11_advance_104 (fun b36 => ?_)
        refine x_goto hC 132 dX11_advance_107 (by decide) ?_
        cases q22
        exact x_sub [0] rfl kj
  · have hr := (ie_s hr).1 h16
    refine x_aload_n hC dX11_advance_76 rfl 0 rfl ?_
    refine x_iconst hC (1 : Int32) dX11_advance_77 (by decide) ?_
    obtain ⟨M41, e42, hr⟩ := lz_s hr
    refine pf_X11_92 hC hi0 e42 dX11_advance_78 ?_
    cases hr
    exact x_vret hC rfl dX11_advance_81

theorem dX11_sees_0 : decode cX11_sees 0 = .ok (.aload_n 0, 1) := by decide +kernel
theorem dX11_sees_1 : decode cX11_sees 1 = .ok (.getfield 92, 3) := by decide +kernel
theorem dX11_sees_4 : decode cX11_sees 4 = .ok (.iconst 4, 1) := by decide +kernel
theorem dX11_sees_5 : decode cX11_sees 5 = .ok (.if_icmp .ne 15, 3) := by decide +kernel
theorem dX11_sees_8 : decode cX11_sees 8 = .ok (.aload_n 0, 1) := by decide +kernel
theorem dX11_sees_9 : decode cX11_sees 9 = .ok (.getfield 89, 3) := by decide +kernel
theorem dX11_sees_12 : decode cX11_sees 12 = .ok (.iload_n 1, 1) := by decide +kernel
theorem dX11_sees_13 : decode cX11_sees 13 = .ok (.if_icmp .ne 7, 3) := by decide +kernel
theorem dX11_sees_16 : decode cX11_sees 16 = .ok (.iconst 1, 1) := by decide +kernel
theorem dX11_sees_17 : decode cX11_sees 17 = .ok (.goto 4, 3) := by decide +kernel
theorem dX11_sees_20 : decode cX11_sees 20 = .ok (.iconst 0, 1) := by decide +kernel
theorem dX11_sees_21 : decode cX11_sees 21 = .ok (.ireturn, 1) := by decide +kernel

def f_X11_sees (i0 : Nat) (a1 : Int32) (M : Mm) : Int32 :=
  if ((M i0 14) = (4 : Int32)) then (if ((M i0 16) = a1) then ((1 : Int32)) else ((0 : Int32))) else ((0 : Int32))

set_option maxHeartbeats 4000000 in
set_option maxRecDepth 100000 in
theorem c_X11_sees (l : Launch) (G : GG) (M : Mm) {i0 : Nat} (hi0 : (kd i0).1 = 5) (a1 : Int32) {r : Int32} (hr : f_X11_sees i0 a1 M = r) : Mo true l yX11_sees (WS yX11_sees cX11_sees 2 (some .boolean)) (RM 0 0 0 0) 0 0 [.ref (G.2.1 i0), .int a1] G M (some (.int r)) M := by
  refine Mo.of (by decide +kernel) (Nat.le_of_ble_eq_true rfl) ?_
  intro p e s m args below meth c hC
  have hC : CX p s m args meth c cX11_sees 2 RX11 (some .boolean) G := hC
  rw [f_X11_sees] at hr
  show XJ p l e (RM 0 0 0 0) s m args below meth c G 2 _ 0 0 M 0 [(0, .ref (G.2.1 i0)), (1, .int a1)] []
  refine x_aload_n hC dX11_sees_0 rfl 0 rfl ?_
  refine gf_X11_92 hC hi0 dX11_sees_1 ?_
  refine x_iconst hC (4 : Int32) dX11_sees_4 (by decide) ?_
  refine x_icmp_ne hC 20 dX11_sees_5 (by decide) (fun h1 => ?_) (fun h1 => ?_)
  · have hr := (ie_s hr).2 h1
    refine x_iconst hC (0 : Int32) dX11_sees_20 (by decide) ?_
    subst hr
    exact x_zret hC rfl (Or.inl rfl) dX11_sees_21
  · have hr := (ie_s hr).1 h1
    refine x_aload_n hC dX11_sees_8 rfl 0 rfl ?_
    refine gf_X11_89 hC hi0 dX11_sees_9 ?_
    refine x_iload_n hC dX11_sees_12 rfl 1 rfl ?_
    refine x_icmp_ne hC 20 dX11_sees_13 (by decide) (fun h2 => ?_) (fun h2 => ?_)
    · have hr := (ie_s hr).2 h2
      refine x_iconst hC (0 : Int32) dX11_sees_20 (by decide) ?_
      subst hr
      exact x_zret hC rfl (Or.inl rfl) dX11_sees_21
    · have hr := (ie_s hr).1 h2
      refine x_iconst hC (1 : Int32) dX11_sees_16 (by decide) ?_
      refine x_goto hC 21 dX11_sees_17 (by decide) ?_
      subst hr
      exact x_zret hC rfl (Or.inr rfl) dX11_sees_21

theorem dX11_reads_0 : decode cX11_reads 0 = .ok (.aload_n 0, 1) := by decide +kernel
theorem dX11_reads_1 : decode cX11_reads 1 = .ok (.getfield 92, 3) := by decide +kernel
theorem dX11_reads_4 : decode cX11_reads 4 = .ok (.iconst 2, 1) := by decide +kernel
theorem dX11_reads_5 : decode cX11_reads 5 = .ok (.if_icmp .ne 15, 3) := by decide +kernel
theorem dX11_reads_8 : decode cX11_reads 8 = .ok (.aload_n 0, 1) := by decide +kernel
theorem dX11_reads_9 : decode cX11_reads 9 = .ok (.getfield 89, 3) := by decide +kernel
theorem dX11_reads_12 : decode cX11_reads 12 = .ok (.iload_n 1, 1) := by decide +kernel
theorem dX11_reads_13 : decode cX11_reads 13 = .ok (.if_icmp .ne 7, 3) := by decide +kernel
theorem dX11_reads_16 : decode cX11_reads 16 = .ok (.iconst 1, 1) := by decide +kernel
theorem dX11_reads_17 : decode cX11_reads 17 = .ok (.goto 4, 3) := by decide +kernel
theorem dX11_reads_20 : decode cX11_reads 20 = .ok (.iconst 0, 1) := by decide +kernel
theorem dX11_reads_21 : decode cX11_reads 21 = .ok (.ireturn, 1) := by decide +kernel

def f_X11_reads (i0 : Nat) (a1 : Int32) (M : Mm) : Int32 :=
  if ((M i0 14) = (2 : Int32)) then (if ((M i0 16) = a1) then ((1 : Int32)) else ((0 : Int32))) else ((0 : Int32))

set_option maxHeartbeats 4000000 in
set_option maxRecDepth 100000 in
theorem c_X11_reads (l : Launch) (G : GG) (M : Mm) {i0 : Nat} (hi0 : (kd i0).1 = 5) (a1 : Int32) {r : Int32} (hr : f_X11_reads i0 a1 M = r) : Mo true l yX11_reads (WS yX11_reads cX11_reads 2 (some .boolean)) (RM 0 0 0 0) 0 0 [.ref (G.2.1 i0), .int a1] G M (some (.int r)) M := by
  refine Mo.of (by decide +kernel) (Nat.le_of_ble_eq_true rfl) ?_
  intro p e s m args below meth c hC
  have hC : CX p s m args meth c cX11_reads 2 RX11 (some .boolean) G := hC
  rw [f_X11_reads] at hr
  show XJ p l e (RM 0 0 0 0) s m args below meth c G 2 _ 0 0 M 0 [(0, .ref (G.2.1 i0)), (1, .int a1)] []
  refine x_aload_n hC dX11_reads_0 rfl 0 rfl ?_
  refine gf_X11_92 hC hi0 dX11_reads_1 ?_
  refine x_iconst hC (2 : Int32) dX11_reads_4 (by decide) ?_
  refine x_icmp_ne hC 20 dX11_reads_5 (by decide) (fun h1 => ?_) (fun h1 => ?_)
  · have hr := (ie_s hr).2 h1
    refine x_iconst hC (0 : Int32) dX11_reads_20 (by decide) ?_
    subst hr
    exact x_zret hC rfl (Or.inl rfl) dX11_reads_21
  · have hr := (ie_s hr).1 h1
    refine x_aload_n hC dX11_reads_8 rfl 0 rfl ?_
    refine gf_X11_89 hC hi0 dX11_reads_9 ?_
    refine x_iload_n hC dX11_reads_12 rfl 1 rfl ?_
    refine x_icmp_ne hC 20 dX11_reads_13 (by decide) (fun h2 => ?_) (fun h2 => ?_)
    · have hr := (ie_s hr).2 h2
      refine x_iconst hC (0 : Int32) dX11_reads_20 (by decide) ?_
      subst hr
      exact x_zret hC rfl (Or.inl rfl) dX11_reads_21
    · have hr := (ie_s hr).1 h2
      refine x_iconst hC (1 : Int32) dX11_reads_16 (by decide) ?_
      refine x_goto hC 21 dX11_reads_17 (by decide) ?_
      subst hr
      exact x_zret hC rfl (Or.inr rfl) dX11_reads_21

theorem dX11_passSymbol_0 : decode cX11_passSymbol 0 = .ok (.aload_n 0, 1) := by decide +kernel
theorem dX11_passSymbol_1 : decode cX11_passSymbol 1 = .ok (.iload_n 1, 1) := by decide +kernel
theorem dX11_passSymbol_2 : decode cX11_passSymbol 2 = .ok (.invokevirtual 134, 3) := by decide +kernel
theorem dX11_passSymbol_5 : decode cX11_passSymbol 5 = .ok (.ifCond .ne 5, 3) := by decide +kernel
theorem dX11_passSymbol_8 : decode cX11_passSymbol 8 = .ok (.iconst 0, 1) := by decide +kernel
theorem dX11_passSymbol_9 : decode cX11_passSymbol 9 = .ok (.ireturn, 1) := by decide +kernel
theorem dX11_passSymbol_10 : decode cX11_passSymbol 10 = .ok (.aload_n 0, 1) := by decide +kernel
theorem dX11_passSymbol_11 : decode cX11_passSymbol 11 = .ok (.invokevirtual 137, 3) := by decide +kernel
theorem dX11_passSymbol_14 : decode cX11_passSymbol 14 = .ok (.iconst 1, 1) := by decide +kernel
theorem dX11_passSymbol_15 : decode cX11_passSymbol 15 = .ok (.ireturn, 1) := by decide +kernel

def f_X11_passSymbol (i0 : Nat) (a1 : Int32) (M : Mm) : Option (Int32 × Mm) :=
  lz (f_X11_sees i0 a1 M) fun x1 => if (x1 = 0) then (some ((0 : Int32), M)) else (bd1 (f_X11_advance i0 M) fun M5 => some ((1 : Int32), M5))

set_option maxHeartbeats 4000000 in
set_option maxRecDepth 100000 in
theorem c_X11_passSymbol (l : Launch) (G : GG) (M : Mm) {i0 : Nat} (hi0 : (kd i0).1 = 5) (a1 : Int32) {r : Int32} {M9 : Mm} (hr : f_X11_passSymbol i0 a1 M = some (r, M9)) : Mo true l yX11_passSymbol (WS yX11_passSymbol cX11_passSymbol 2 (some .boolean)) (RM 7 0 0 174) 0 0 [.ref (G.2.1 i0), .int a1] G M (some (.int r)) M9 := by
  refine Mo.of (by decide +kernel) (Nat.le_of_ble_eq_true rfl) ?_
  intro p e s m args below meth c hC
  have hC : CX p s m args meth c cX11_passSymbol 2 RX11 (some .boolean) G := hC
  rw [f_X11_passSymbol] at hr
  show XJ p l e (RM 7 0 0 174) s m args below meth c G 2 _ 0 0 M 0 [(0, .ref (G.2.1 i0)), (1, .int a1)] []
  refine x_aload_n hC dX11_passSymbol_0 rfl 0 rfl ?_
  refine x_iload_n hC dX11_passSymbol_1 rfl 1 rfl ?_
  obtain ⟨x1, e2, hr⟩ := lz_s hr
  refine x_callV (ci := 5) (q := (RX11, TX11, 32)) (As := [.int a1]) hC (c_X11_sees l G M hi0 a1 e2.symm) kc_yX11_sees km_X11_134 ki_yX11_sees kv_yX11_sees kn_RX11 ky_yX11_sees rfl ⟨rfl, rfl⟩ ⟨(Nat.le_of_ble_eq_true rfl), (Nat.le_of_ble_eq_true rfl)⟩ hi0 (by decide) rfl rfl (Nat.le_of_ble_eq_true rfl) ⟨(Nat.le_of_ble_eq_true rfl), (Nat.le_of_ble_eq_true rfl)⟩ dX11_passSymbol_2 (fun b3 => ?_)
  refine x_if_ne hC 10 dX11_passSymbol_5 (by decide) (fun h4 => ?_) (fun h4 => ?_)
  · have hr := (ie_s hr).2 h4
    refine x_aload_n hC dX11_passSymbol_10 rfl 0 rfl ?_
    obtain ⟨M5, q6, hr⟩ := bd1_s hr
    refine x_callV (ci := 5) (q := (RX11, TX11, 32)) (As := []) hC (c_X11_advance l G M hi0 q6) kc_yX11_advance km_X11_137 ki_yX11_advance kv_yX11_advance kn_RX11 ky_yX11_advance rfl ⟨rfl, rfl⟩ ⟨(Nat.le_of_ble_eq_true rfl), (Nat.le_of_ble_eq_true rfl)⟩ hi0 (by decide) rfl rfl (Nat.le_of_ble_eq_true rfl) ⟨(Nat.le_of_ble_eq_true rfl), (Nat.le_of_ble_eq_true rfl)⟩ dX11_passSymbol_11 (fun b7 => ?_)
    refine x_iconst hC (1 : Int32) dX11_passSymbol_14 (by decide) ?_
    cases hr
    exact x_zret hC rfl (Or.inr rfl) dX11_passSymbol_15
  · have hr := (ie_s hr).1 h4
    refine x_iconst hC (0 : Int32) dX11_passSymbol_8 (by decide) ?_
    cases hr
    exact x_zret hC rfl (Or.inl rfl) dX11_passSymbol_9

theorem dX11_passWord_0 : decode cX11_passWord 0 = .ok (.aload_n 0, 1) := by decide +kernel
theorem dX11_passWord_1 : decode cX11_passWord 1 = .ok (.iload_n 1, 1) := by decide +kernel
theorem dX11_passWord_2 : decode cX11_passWord 2 = .ok (.invokevirtual 140, 3) := by decide +kernel
theorem dX11_passWord_5 : decode cX11_passWord 5 = .ok (.ifCond .ne 5, 3) := by decide +kernel
theorem dX11_passWord_8 : decode cX11_passWord 8 = .ok (.iconst 0, 1) := by decide +kernel
theorem dX11_passWord_9 : decode cX11_passWord 9 = .ok (.ireturn, 1) := by decide +kernel
theorem dX11_passWord_10 : decode cX11_passWord 10 = .ok (.aload_n 0, 1) := by decide +kernel
theorem dX11_passWord_11 : decode cX11_passWord 11 = .ok (.invokevirtual 137, 3) := by decide +kernel
theorem dX11_passWord_14 : decode cX11_passWord 14 = .ok (.iconst 1, 1) := by decide +kernel
theorem dX11_passWord_15 : decode cX11_passWord 15 = .ok (.ireturn, 1) := by decide +kernel

def f_X11_passWord (i0 : Nat) (a1 : Int32) (M : Mm) : Option (Int32 × Mm) :=
  lz (f_X11_reads i0 a1 M) fun x1 => if (x1 = 0) then (some ((0 : Int32), M)) else (bd1 (f_X11_advance i0 M) fun M5 => some ((1 : Int32), M5))

set_option maxHeartbeats 4000000 in
set_option maxRecDepth 100000 in
theorem c_X11_passWord (l : Launch) (G : GG) (M : Mm) {i0 : Nat} (hi0 : (kd i0).1 = 5) (a1 : Int32) {r : Int32} {M9 : Mm} (hr : f_X11_passWord i0 a1 M = some (r, M9)) : Mo true l yX11_passWord (WS yX11_passWord cX11_passWord 2 (some .boolean)) (RM 7 0 0 174) 0 0 [.ref (G.2.1 i0), .int a1] G M (some (.int r)) M9 := by
  refine Mo.of (by decide +kernel) (Nat.le_of_ble_eq_true rfl) ?_
  intro p e s m args below meth c hC
  have hC : CX p s m args meth c cX11_passWord 2 RX11 (some .boolean) G := hC
  rw [f_X11_passWord] at hr
  show XJ p l e (RM 7 0 0 174) s m args below meth c G 2 _ 0 0 M 0 [(0, .ref (G.2.1 i0)), (1, .int a1)] []
  refine x_aload_n hC dX11_passWord_0 rfl 0 rfl ?_
  refine x_iload_n hC dX11_passWord_1 rfl 1 rfl ?_
  obtain ⟨x1, e2, hr⟩ := lz_s hr
  refine x_callV (ci := 5) (q := (RX11, TX11, 32)) (As := [.int a1]) hC (c_X11_reads l G M hi0 a1 e2.symm) kc_yX11_reads km_X11_140 ki_yX11_reads kv_yX11_reads kn_RX11 ky_yX11_reads rfl ⟨rfl, rfl⟩ ⟨(Nat.le_of_ble_eq_true rfl), (Nat.le_of_ble_eq_true rfl)⟩ hi0 (by decide) rfl rfl (Nat.le_of_ble_eq_true rfl) ⟨(Nat.le_of_ble_eq_true rfl), (Nat.le_of_ble_eq_true rfl)⟩ dX11_passWord_2 (fun b3 => ?_)
  refine x_if_ne hC 10 dX11_passWord_5 (by decide) (fun h4 => ?_) (fun h4 => ?_)
  · have hr := (ie_s hr).2 h4
    refine x_aload_n hC dX11_passWord_10 rfl 0 rfl ?_
    obtain ⟨M5, q6, hr⟩ := bd1_s hr
    refine x_callV (ci := 5) (q := (RX11, TX11, 32)) (As := []) hC (c_X11_advance l G M hi0 q6) kc_yX11_advance km_X11_137 ki_yX11_advance kv_yX11_advance kn_RX11 ky_yX11_advance rfl ⟨rfl, rfl⟩ ⟨(Nat.le_of_ble_eq_true rfl), (Nat.le_of_ble_eq_true rfl)⟩ hi0 (by decide) rfl rfl (Nat.le_of_ble_eq_true rfl) ⟨(Nat.le_of_ble_eq_true rfl), (Nat.le_of_ble_eq_true rfl)⟩ dX11_passWord_11 (fun b7 => ?_)
    refine x_iconst hC (1 : Int32) dX11_passWord_14 (by decide) ?_
    cases hr
    exact x_zret hC rfl (Or.inr rfl) dX11_passWord_15
  · have hr := (ie_s hr).1 h4
    refine x_iconst hC (0 : Int32) dX11_passWord_8 (by decide) ?_
    cases hr
    exact x_zret hC rfl (Or.inl rfl) dX11_passWord_9

theorem dX11_deeper_0 : decode cX11_deeper 0 = .ok (.aload_n 0, 1) := by decide +kernel
theorem dX11_deeper_1 : decode cX11_deeper 1 = .ok (.getfield 143, 3) := by decide +kernel
theorem dX11_deeper_4 : decode cX11_deeper 4 = .ok (.bipush 8, 2) := by decide +kernel
theorem dX11_deeper_6 : decode cX11_deeper 6 = .ok (.if_icmp .ne 5, 3) := by decide +kernel
theorem dX11_deeper_9 : decode cX11_deeper 9 = .ok (.iconst 0, 1) := by decide +kernel
theorem dX11_deeper_10 : decode cX11_deeper 10 = .ok (.ireturn, 1) := by decide +kernel
theorem dX11_deeper_11 : decode cX11_deeper 11 = .ok (.aload_n 0, 1) := by decide +kernel
theorem dX11_deeper_12 : decode cX11_deeper 12 = .ok (.dup, 1) := by decide +kernel
theorem dX11_deeper_13 : decode cX11_deeper 13 = .ok (.getfield 143, 3) := by decide +kernel
theorem dX11_deeper_16 : decode cX11_deeper 16 = .ok (.iconst 1, 1) := by decide +kernel
theorem dX11_deeper_17 : decode cX11_deeper 17 = .ok (.iadd, 1) := by decide +kernel
theorem dX11_deeper_18 : decode cX11_deeper 18 = .ok (.putfield 143, 3) := by decide +kernel
theorem dX11_deeper_21 : decode cX11_deeper 21 = .ok (.aload_n 0, 1) := by decide +kernel
theorem dX11_deeper_22 : decode cX11_deeper 22 = .ok (.invokevirtual 137, 3) := by decide +kernel
theorem dX11_deeper_25 : decode cX11_deeper 25 = .ok (.iconst 1, 1) := by decide +kernel
theorem dX11_deeper_26 : decode cX11_deeper 26 = .ok (.ireturn, 1) := by decide +kernel

def f_X11_deeper (i0 : Nat) (M : Mm) : Option (Int32 × Mm) :=
  if ((M i0 17) = (8 : Int32)) then (some ((0 : Int32), M)) else (lz (wr M i0 17 ((M i0 17) + (1 : Int32))) fun M2 => bd1 (f_X11_advance i0 M2) fun M4 => some ((1 : Int32), M4))

set_option maxHeartbeats 4000000 in
set_option maxRecDepth 100000 in
theorem c_X11_deeper (l : Launch) (G : GG) (M : Mm) {i0 : Nat} (hi0 : (kd i0).1 = 5) {r : Int32} {M9 : Mm} (hr : f_X11_deeper i0 M = some (r, M9)) : Mo true l yX11_deeper (WS yX11_deeper cX11_deeper 1 (some .boolean)) (RM 7 0 0 174) 0 0 [.ref (G.2.1 i0)] G M (some (.int r)) M9 := by
  refine Mo.of (by decide +kernel) (Nat.le_of_ble_eq_true rfl) ?_
  intro p e s m args below meth c hC
  have hC : CX p s m args meth c cX11_deeper 1 RX11 (some .boolean) G := hC
  rw [f_X11_deeper] at hr
  show XJ p l e (RM 7 0 0 174) s m args below meth c G 1 _ 0 0 M 0 [(0, .ref (G.2.1 i0))] []
  refine x_aload_n hC dX11_deeper_0 rfl 0 rfl ?_
  refine gf_X11_143 hC hi0 dX11_deeper_1 ?_
  refine x_bipush hC (8 : Int32) dX11_deeper_4 (by decide) ?_
  refine x_icmp_ne hC 11 dX11_deeper_6 (by decide) (fun h1 => ?_) (fun h1 => ?_)
  · have hr := (ie_s hr).2 h1
    refine x_aload_n hC dX11_deeper_11 rfl 0 rfl ?_
    refine x_dup hC dX11_deeper_12 rfl ?_
    refine gf_X11_143 hC hi0 dX11_deeper_13 ?_
    refine x_iconst hC (1 : Int32) dX11_deeper_16 (by decide) ?_
    refine x_iadd hC dX11_deeper_17 ?_
    obtain ⟨M2, e3, hr⟩ := lz_s hr
    refine pf_X11_143 hC hi0 e3 dX11_deeper_18 ?_
    refine x_aload_n hC dX11_deeper_21 rfl 0 rfl ?_
    obtain ⟨M4, q5, hr⟩ := bd1_s hr
    refine x_callV (ci := 5) (q := (RX11, TX11, 32)) (As := []) hC (c_X11_advance l G M2 hi0 q5) kc_yX11_advance km_X11_137 ki_yX11_advance kv_yX11_advance kn_RX11 ky_yX11_advance rfl ⟨rfl, rfl⟩ ⟨(Nat.le_of_ble_eq_true rfl), (Nat.le_of_ble_eq_true rfl)⟩ hi0 (by decide) rfl rfl (Nat.le_of_ble_eq_true rfl) ⟨(Nat.le_of_ble_eq_true rfl), (Nat.le_of_ble_eq_true rfl)⟩ dX11_deeper_22 (fun b6 => ?_)
    refine x_iconst hC (1 : Int32) dX11_deeper_25 (by decide) ?_
    cases hr
    exact x_zret hC rfl (Or.inr rfl) dX11_deeper_26
  · have hr := (ie_s hr).1 h1
    refine x_iconst hC (0 : Int32) dX11_deeper_9 (by decide) ?_
    cases hr
    exact x_zret hC rfl (Or.inl rfl) dX11_deeper_10

theorem dX11_shallower_0 : decode cX11_shallower 0 = .ok (.aload_n 0, 1) := by decide +kernel
theorem dX11_shallower_1 : decode cX11_shallower 1 = .ok (.iload_n 1, 1) := by decide +kernel
theorem dX11_shallower_2 : decode cX11_shallower 2 = .ok (.invokevirtual 134, 3) := by decide +kernel
theorem dX11_shallower_5 : decode cX11_shallower 5 = .ok (.ifCond .ne 5, 3) := by decide +kernel
theorem dX11_shallower_8 : decode cX11_shallower 8 = .ok (.iconst 0, 1) := by decide +kernel
theorem dX11_shallower_9 : decode cX11_shallower 9 = .ok (.ireturn, 1) := by decide +kernel
theorem dX11_shallower_10 : decode cX11_shallower 10 = .ok (.aload_n 0, 1) := by decide +kernel
theorem dX11_shallower_11 : decode cX11_shallower 11 = .ok (.dup, 1) := by decide +kernel
theorem dX11_shallower_12 : decode cX11_shallower 12 = .ok (.getfield 143, 3) := by decide +kernel
theorem dX11_shallower_15 : decode cX11_shallower 15 = .ok (.iconst 1, 1) := by decide +kernel
theorem dX11_shallower_16 : decode cX11_shallower 16 = .ok (.isub, 1) := by decide +kernel
theorem dX11_shallower_17 : decode cX11_shallower 17 = .ok (.putfield 143, 3) := by decide +kernel
theorem dX11_shallower_20 : decode cX11_shallower 20 = .ok (.aload_n 0, 1) := by decide +kernel
theorem dX11_shallower_21 : decode cX11_shallower 21 = .ok (.invokevirtual 137, 3) := by decide +kernel
theorem dX11_shallower_24 : decode cX11_shallower 24 = .ok (.iconst 1, 1) := by decide +kernel
theorem dX11_shallower_25 : decode cX11_shallower 25 = .ok (.ireturn, 1) := by decide +kernel

def f_X11_shallower (i0 : Nat) (a1 : Int32) (M : Mm) : Option (Int32 × Mm) :=
  lz (f_X11_sees i0 a1 M) fun x1 => if (x1 = 0) then (some ((0 : Int32), M)) else (lz (wr M i0 17 ((M i0 17) - (1 : Int32))) fun M5 => bd1 (f_X11_advance i0 M5) fun M7 => some ((1 : Int32), M7))

set_option maxHeartbeats 4000000 in
set_option maxRecDepth 100000 in
theorem c_X11_shallower (l : Launch) (G : GG) (M : Mm) {i0 : Nat} (hi0 : (kd i0).1 = 5) (a1 : Int32) {r : Int32} {M9 : Mm} (hr : f_X11_shallower i0 a1 M = some (r, M9)) : Mo true l yX11_shallower (WS yX11_shallower cX11_shallower 2 (some .boolean)) (RM 7 0 0 174) 0 0 [.ref (G.2.1 i0), .int a1] G M (some (.int r)) M9 := by
  refine Mo.of (by decide +kernel) (Nat.le_of_ble_eq_true rfl) ?_
  intro p e s m args below meth c hC
  have hC : CX p s m args meth c cX11_shallower 2 RX11 (some .boolean) G := hC
  rw [f_X11_shallower] at hr
  show XJ p l e (RM 7 0 0 174) s m args below meth c G 2 _ 0 0 M 0 [(0, .ref (G.2.1 i0)), (1, .int a1)] []
  refine x_aload_n hC dX11_shallower_0 rfl 0 rfl ?_
  refine x_iload_n hC dX11_shallower_1 rfl 1 rfl ?_
  obtain ⟨x1, e2, hr⟩ := lz_s hr
  refine x_callV (ci := 5) (q := (RX11, TX11, 32)) (As := [.int a1]) hC (c_X11_sees l G M hi0 a1 e2.symm) kc_yX11_sees km_X11_134 ki_yX11_sees kv_yX11_sees kn_RX11 ky_yX11_sees rfl ⟨rfl, rfl⟩ ⟨(Nat.le_of_ble_eq_true rfl), (Nat.le_of_ble_eq_true rfl)⟩ hi0 (by decide) rfl rfl (Nat.le_of_ble_eq_true rfl) ⟨(Nat.le_of_ble_eq_true rfl), (Nat.le_of_ble_eq_true rfl)⟩ dX11_shallower_2 (fun b3 => ?_)
  refine x_if_ne hC 10 dX11_shallower_5 (by decide) (fun h4 => ?_) (fun h4 => ?_)
  · have hr := (ie_s hr).2 h4
    refine x_aload_n hC dX11_shallower_10 rfl 0 rfl ?_
    refine x_dup hC dX11_shallower_11 rfl ?_
    refine gf_X11_143 hC hi0 dX11_shallower_12 ?_
    refine x_iconst hC (1 : Int32) dX11_shallower_15 (by decide) ?_
    refine x_isub hC dX11_shallower_16 ?_
    obtain ⟨M5, e6, hr⟩ := lz_s hr
    refine pf_X11_143 hC hi0 e6 dX11_shallower_17 ?_
    refine x_aload_n hC dX11_shallower_20 rfl 0 rfl ?_
    obtain ⟨M7, q8, hr⟩ := bd1_s hr
    refine x_callV (ci := 5) (q := (RX11, TX11, 32)) (As := []) hC (c_X11_advance l G M5 hi0 q8) kc_yX11_advance km_X11_137 ki_yX11_advance kv_yX11_advance kn_RX11 ky_yX11_advance rfl ⟨rfl, rfl⟩ ⟨(Nat.le_of_ble_eq_true rfl), (Nat.le_of_ble_eq_true rfl)⟩ hi0 (by decide) rfl rfl (Nat.le_of_ble_eq_true rfl) ⟨(Nat.le_of_ble_eq_true rfl), (Nat.le_of_ble_eq_true rfl)⟩ dX11_shallower_21 (fun b9 => ?_)
    refine x_iconst hC (1 : Int32) dX11_shallower_24 (by decide) ?_
    cases hr
    exact x_zret hC rfl (Or.inr rfl) dX11_shallower_25
  · have hr := (ie_s hr).1 h4
    refine x_iconst hC (0 : Int32) dX11_shallower_8 (by decide) ?_
    cases hr
    exact x_zret hC rfl (Or.inl rfl) dX11_shallower_9

theorem dX11_put_0 : decode cX11_put 0 = .ok (.aload_n 0, 1) := by decide +kernel
theorem dX11_put_1 : decode cX11_put 1 = .ok (.getfield 29, 3) := by decide +kernel
theorem dX11_put_4 : decode cX11_put 4 = .ok (.aload_n 0, 1) := by decide +kernel
theorem dX11_put_5 : decode cX11_put 5 = .ok (.getfield 146, 3) := by decide +kernel
theorem dX11_put_8 : decode cX11_put 8 = .ok (.iload_n 1, 1) := by decide +kernel
theorem dX11_put_9 : decode cX11_put 9 = .ok (.iastore, 1) := by decide +kernel
theorem dX11_put_10 : decode cX11_put 10 = .ok (.aload_n 0, 1) := by decide +kernel
theorem dX11_put_11 : decode cX11_put 11 = .ok (.dup, 1) := by decide +kernel
theorem dX11_put_12 : decode cX11_put 12 = .ok (.getfield 146, 3) := by decide +kernel
theorem dX11_put_15 : decode cX11_put 15 = .ok (.iconst 1, 1) := by decide +kernel
theorem dX11_put_16 : decode cX11_put 16 = .ok (.iadd, 1) := by decide +kernel
theorem dX11_put_17 : decode cX11_put 17 = .ok (.putfield 146, 3) := by decide +kernel
theorem dX11_put_20 : decode cX11_put 20 = .ok (.return_, 1) := by decide +kernel

def f_X11_put (i0 : Nat) (a1 : Int32) (M : Mm) : Option Mm :=
  if 0 ≤ (M i0 11).toInt ∧ (M i0 11).toInt < ((4000 : Nat) : Int) then (lz (wr M (i0 + 6) (ix (M i0 11)) a1) fun M2 => lz (wr M2 i0 11 ((M2 i0 11) + (1 : Int32))) fun M4 => some M4) else none

set_option maxHeartbeats 4000000 in
set_option maxRecDepth 100000 in
theorem c_X11_put (l : Launch) (G : GG) (M : Mm) {i0 : Nat} (hi0 : (kd i0).1 = 5) (a1 : Int32) {M9 : Mm} (hr : f_X11_put i0 a1 M = some M9) : Mo false l yX11_put (WS yX11_put cX11_put 2 none) (RM 0 0 0 0) 0 0 [.ref (G.2.1 i0), .int a1] G M none M9 := by
  refine Mo.of (by decide +kernel) (Nat.le_of_ble_eq_true rfl) ?_
  intro p e s m args below meth c hC
  have hC : CX p s m args meth c cX11_put 2 RX11 none G := hC
  rw [f_X11_put] at hr
  show XJ p l e (RM 0 0 0 0) s m args below meth c G 2 _ 0 0 M 0 [(0, .ref (G.2.1 i0)), (1, .int a1)] []
  refine x_aload_n hC dX11_put_0 rfl 0 rfl ?_
  refine gf_X11_29 hC hi0 dX11_put_1 ?_
  refine x_aload_n hC dX11_put_4 rfl 0 rfl ?_
  refine gf_X11_146 hC hi0 dX11_put_5 ?_
  refine x_iload_n hC dX11_put_8 rfl 1 rfl ?_
  obtain ⟨h1, hr⟩ := it_s hr
  obtain ⟨M2, e3, hr⟩ := lz_s hr
  refine x_iast hC (kr_5_10 hi0) h1 e3 dX11_put_9 ?_
  refine x_aload_n hC dX11_put_10 rfl 0 rfl ?_
  refine x_dup hC dX11_put_11 rfl ?_
  refine gf_X11_146 hC hi0 dX11_put_12 ?_
  refine x_iconst hC (1 : Int32) dX11_put_15 (by decide) ?_
  refine x_iadd hC dX11_put_16 ?_
  obtain ⟨M4, e5, hr⟩ := lz_s hr
  refine pf_X11_146 hC hi0 e5 dX11_put_17 ?_
  cases hr
  exact x_vret hC rfl dX11_put_20

theorem dX11_fault_0 : decode cX11_fault 0 = .ok (.aload_n 0, 1) := by decide +kernel
theorem dX11_fault_1 : decode cX11_fault 1 = .ok (.getfield 149, 3) := by decide +kernel
theorem dX11_fault_4 : decode cX11_fault 4 = .ok (.ifCond .eq 4, 3) := by decide +kernel
theorem dX11_fault_7 : decode cX11_fault 7 = .ok (.return_, 1) := by decide +kernel
theorem dX11_fault_8 : decode cX11_fault 8 = .ok (.aload_n 0, 1) := by decide +kernel
theorem dX11_fault_9 : decode cX11_fault 9 = .ok (.iload_n 1, 1) := by decide +kernel
theorem dX11_fault_10 : decode cX11_fault 10 = .ok (.putfield 149, 3) := by decide +kernel
theorem dX11_fault_13 : decode cX11_fault 13 = .ok (.aload_n 0, 1) := by decide +kernel
theorem dX11_fault_14 : decode cX11_fault 14 = .ok (.aload_n 0, 1) := by decide +kernel
theorem dX11_fault_15 : decode cX11_fault 15 = .ok (.getfield 86, 3) := by decide +kernel
theorem dX11_fault_18 : decode cX11_fault 18 = .ok (.putfield 152, 3) := by decide +kernel
theorem dX11_fault_21 : decode cX11_fault 21 = .ok (.return_, 1) := by decide +kernel

def f_X11_fault (i0 : Nat) (a1 : Int32) (M : Mm) : Option Mm :=
  if ((M i0 20) = 0) then (lz (wr M i0 20 a1) fun M2 => lz (wr M2 i0 21 (M2 i0 15)) fun M4 => some M4) else (some M)

set_option maxHeartbeats 4000000 in
set_option maxRecDepth 100000 in
theorem c_X11_fault (l : Launch) (G : GG) (M : Mm) {i0 : Nat} (hi0 : (kd i0).1 = 5) (a1 : Int32) {M9 : Mm} (hr : f_X11_fault i0 a1 M = some M9) : Mo false l yX11_fault (WS yX11_fault cX11_fault 2 none) (RM 0 0 0 0) 0 0 [.ref (G.2.1 i0), .int a1] G M none M9 := by
  refine Mo.of (by decide +kernel) (Nat.le_of_ble_eq_true rfl) ?_
  intro p e s m args below meth c hC
  have hC : CX p s m args meth c cX11_fault 2 RX11 none G := hC
  rw [f_X11_fault] at hr
  show XJ p l e (RM 0 0 0 0) s m args below meth c G 2 _ 0 0 M 0 [(0, .ref (G.2.1 i0)), (1, .int a1)] []
  refine x_aload_n hC dX11_fault_0 rfl 0 rfl ?_
  refine gf_X11_149 hC hi0 dX11_fault_1 ?_
  refine x_if_eq hC 8 dX11_fault_4 (by decide) (fun h1 => ?_) (fun h1 => ?_)
  · have hr := (ie_s hr).1 h1
    refine x_aload_n hC dX11_fault_8 rfl 0 rfl ?_
    refine x_iload_n hC dX11_fault_9 rfl 1 rfl ?_
    obtain ⟨M2, e3, hr⟩ := lz_s hr
    refine pf_X11_149 hC hi0 e3 dX11_fault_10 ?_
    refine x_aload_n hC dX11_fault_13 rfl 0 rfl ?_
    refine x_aload_n hC dX11_fault_14 rfl 0 rfl ?_
    refine gf_X11_86 hC hi0 dX11_fault_15 ?_
    obtain ⟨M4, e5, hr⟩ := lz_s hr
    refine pf_X11_152 hC hi0 e5 dX11_fault_18 ?_
    cases hr
    exact x_vret hC rfl dX11_fault_21
  · have hr := (ie_s hr).2 h1
    cases hr
    exact x_vret hC rfl dX11_fault_7

theorem dX11_isNameOf_0 : decode cX11_isNameOf 0 = .ok (.aload_n 0, 1) := by decide +kernel
theorem dX11_isNameOf_1 : decode cX11_isNameOf 1 = .ok (.getfield 35, 3) := by decide +kernel
theorem dX11_isNameOf_4 : decode cX11_isNameOf 4 = .ok (.iload_n 1, 1) := by decide +kernel
theorem dX11_isNameOf_5 : decode cX11_isNameOf 5 = .ok (.iaload, 1) := by decide +kernel
theorem dX11_isNameOf_6 : decode cX11_isNameOf 6 = .ok (.aload_n 0, 1) := by decide +kernel
theorem dX11_isNameOf_7 : decode cX11_isNameOf 7 = .ok (.getfield 83, 3) := by decide +kernel
theorem dX11_isNameOf_10 : decode cX11_isNameOf 10 = .ok (.aload_n 0, 1) := by decide +kernel
theorem dX11_isNameOf_11 : decode cX11_isNameOf 11 = .ok (.getfield 86, 3) := by decide +kernel
theorem dX11_isNameOf_14 : decode cX11_isNameOf 14 = .ok (.isub, 1) := by decide +kernel
theorem dX11_isNameOf_15 : decode cX11_isNameOf 15 = .ok (.if_icmp .eq 5, 3) := by decide +kernel
theorem dX11_isNameOf_18 : decode cX11_isNameOf 18 = .ok (.iconst 0, 1) := by decide +kernel
theorem dX11_isNameOf_19 : decode cX11_isNameOf 19 = .ok (.ireturn, 1) := by decide +kernel
theorem dX11_isNameOf_20 : decode cX11_isNameOf 20 = .ok (.iconst 0, 1) := by decide +kernel
theorem dX11_isNameOf_21 : decode cX11_isNameOf 21 = .ok (.istore_n 2, 1) := by decide +kernel
theorem dX11_isNameOf_22 : decode cX11_isNameOf 22 = .ok (.iload_n 2, 1) := by decide +kernel
theorem dX11_isNameOf_23 : decode cX11_isNameOf 23 = .ok (.aload_n 0, 1) := by decide +kernel
theorem dX11_isNameOf_24 : decode cX11_isNameOf 24 = .ok (.getfield 83, 3) := by decide +kernel
theorem dX11_isNameOf_27 : decode cX11_isNameOf 27 = .ok (.aload_n 0, 1) := by decide +kernel
theorem dX11_isNameOf_28 : decode cX11_isNameOf 28 = .ok (.getfield 86, 3) := by decide +kernel
theorem dX11_isNameOf_31 : decode cX11_isNameOf 31 = .ok (.isub, 1) := by decide +kernel
theorem dX11_isNameOf_32 : decode cX11_isNameOf 32 = .ok (.if_icmp .ge 38, 3) := by decide +kernel
theorem dX11_isNameOf_35 : decode cX11_isNameOf 35 = .ok (.aload_n 0, 1) := by decide +kernel
theorem dX11_isNameOf_36 : decode cX11_isNameOf 36 = .ok (.getfield 9, 3) := by decide +kernel
theorem dX11_isNameOf_39 : decode cX11_isNameOf 39 = .ok (.aload_n 0, 1) := by decide +kernel
theorem dX11_isNameOf_40 : decode cX11_isNameOf 40 = .ok (.getfield 32, 3) := by decide +kernel
theorem dX11_isNameOf_43 : decode cX11_isNameOf 43 = .ok (.iload_n 1, 1) := by decide +kernel
theorem dX11_isNameOf_44 : decode cX11_isNameOf 44 = .ok (.iaload, 1) := by decide +kernel
theorem dX11_isNameOf_45 : decode cX11_isNameOf 45 = .ok (.iload_n 2, 1) := by decide +kernel
theorem dX11_isNameOf_46 : decode cX11_isNameOf 46 = .ok (.iadd, 1) := by decide +kernel
theorem dX11_isNameOf_47 : decode cX11_isNameOf 47 = .ok (.iaload, 1) := by decide +kernel
theorem dX11_isNameOf_48 : decode cX11_isNameOf 48 = .ok (.aload_n 0, 1) := by decide +kernel
theorem dX11_isNameOf_49 : decode cX11_isNameOf 49 = .ok (.getfield 9, 3) := by decide +kernel
theorem dX11_isNameOf_52 : decode cX11_isNameOf 52 = .ok (.aload_n 0, 1) := by decide +kernel
theorem dX11_isNameOf_53 : decode cX11_isNameOf 53 = .ok (.getfield 86, 3) := by decide +kernel
theorem dX11_isNameOf_56 : decode cX11_isNameOf 56 = .ok (.iload_n 2, 1) := by decide +kernel
theorem dX11_isNameOf_57 : decode cX11_isNameOf 57 = .ok (.iadd, 1) := by decide +kernel
theorem dX11_isNameOf_58 : decode cX11_isNameOf 58 = .ok (.iaload, 1) := by decide +kernel
theorem dX11_isNameOf_59 : decode cX11_isNameOf 59 = .ok (.if_icmp .eq 5, 3) := by decide +kernel
theorem dX11_isNameOf_62 : decode cX11_isNameOf 62 = .ok (.iconst 0, 1) := by decide +kernel
theorem dX11_isNameOf_63 : decode cX11_isNameOf 63 = .ok (.ireturn, 1) := by decide +kernel
theorem dX11_isNameOf_64 : decode cX11_isNameOf 64 = .ok (.iinc 2 1, 3) := by decide +kernel
theorem dX11_isNameOf_67 : decode cX11_isNameOf 67 = .ok (.goto (-45), 3) := by decide +kernel
theorem dX11_isNameOf_70 : decode cX11_isNameOf 70 = .ok (.iconst 1, 1) := by decide +kernel
theorem dX11_isNameOf_71 : decode cX11_isNameOf 71 = .ok (.ireturn, 1) := by decide +kernel
def f_X11_isNameOf_L22 (i0 : Nat) (a1 : Int32) (M : Mm) : Nat → Int32 → Option Int32
  | 0, _ => none
  | n + 1, v2 =>
    if (((M i0 12) - (M i0 15)) ≤ v2) then (some (1 : Int32)) else (if 0 ≤ a1.toInt ∧ a1.toInt < ((100 : Nat) : Int) then (if 0 ≤ ((M (i0 + 7) (ix a1)) + v2).toInt ∧ ((M (i0 + 7) (ix a1)) + v2).toInt < ((2000 : Nat) : Int) then (if 0 ≤ ((M i0 15) + v2).toInt ∧ ((M i0 15) + v2).toInt < ((2000 : Nat) : Int) then (if ((M (i0 + 1) (ix ((M (i0 + 7) (ix a1)) + v2))) = (M (i0 + 1) (ix ((M i0 15) + v2)))) then (lz (v2 + (1 : Int32)) fun x8 => f_X11_isNameOf_L22 i0 a1 M n x8) else (some (0 : Int32))) else none) else none) else none)
def f_X11_isNameOf (i0 : Nat) (a1 : Int32) (M : Mm) : Option Int32 :=
  if 0 ≤ a1.toInt ∧ a1.toInt < ((100 : Nat) : Int) then (if ((M (i0 + 8) (ix a1)) = ((M i0 12) - (M i0 15))) then ((f_X11_isNameOf_L22 i0 a1 M FU (0 : Int32))) else (some (0 : Int32))) else none
set_option maxHeartbeats 4000000 in
set_option maxRecDepth 100000 in
theorem l_X11_isNameOf_L22 {p : Program} {e : Env} {s : State} {m : MethodId} {args : Array Value} {below : List Frame} {meth : Method} {c : Code} {l : Launch} {G : GG} (hC : CX p s m args meth c cX11_isNameOf 3 RX11 (some .boolean) G) {i0 : Nat} (hi0 : (kd i0).1 = 5) (a1 : Int32) (M : Mm) : ∀ (n : Nat) (v2 : Int32) {r : Int32} (hr : f_X11_isNameOf_L22 i0 a1 M n v2 = some r), XJ p l e (RM 0 0 0 0) s m args below meth c G 3 (MQ below (QO G M true (some (.int r)) s.heap.size) args s 0 0 (AF G s.heap.size)) 0 0 M 22 [(0, .ref (G.2.1 i0)), (1, .int a1), (2, .int v2)] [] := by
  intro n
  induction n with
  | zero => intro v2 r hr; rw [f_X11_isNameOf_L22] at hr; cases hr
  | succ n ih =>
    intro v2 r hr
    rw [f_X11_isNameOf_L22] at hr
    refine x_iload_n hC dX11_isNameOf_22 rfl 2 rfl ?_
    refine x_aload_n hC dX11_isNameOf_23 rfl 0 rfl ?_
    refine gf_X11_83 hC hi0 dX11_isNameOf_24 ?_
    refine x_aload_n hC dX11_isNameOf_27 rfl 0 rfl ?_
    refine gf_X11_86 hC hi0 dX11_isNameOf_28 ?_
    refine x_isub hC dX11_isNameOf_31 ?_
    refine x_icmp_ge hC 70 dX11_isNameOf_32 (by decide) (fun h3 => ?_) (fun h3 => ?_)
    · have hr := (ie_s hr).1 h3
      refine x_iconst hC (1 : Int32) dX11_isNameOf_70 (by decide) ?_
      cases hr
      exact x_zret hC rfl (Or.inr rfl) dX11_isNameOf_71
    · have hr := (ie_s hr).2 h3
      refine x_aload_n hC dX11_isNameOf_35 rfl 0 rfl ?_
      refine gf_X11_9 hC hi0 dX11_isNameOf_36 ?_
      refine x_aload_n hC dX11_isNameOf_39 rfl 0 rfl ?_
      refine gf_X11_32 hC hi0 dX11_isNameOf_40 ?_
      refine x_iload_n hC dX11_isNameOf_43 rfl 1 rfl ?_
      obtain ⟨h4, hr⟩ := it_s hr
      refine x_iald hC (kr_5_22 hi0) h4 dX11_isNameOf_44 ?_
      refine x_iload_n hC dX11_isNameOf_45 rfl 2 rfl ?_
      refine x_iadd hC dX11_isNameOf_46 ?_
      obtain ⟨h5, hr⟩ := it_s hr
      refine x_iald hC (kr_5_1 hi0) h5 dX11_isNameOf_47 ?_
      refine x_aload_n hC dX11_isNameOf_48 rfl 0 rfl ?_
      refine gf_X11_9 hC hi0 dX11_isNameOf_49 ?_
      refine x_aload_n hC dX11_isNameOf_52 rfl 0 rfl ?_
      refine gf_X11_86 hC hi0 dX11_isNameOf_53 ?_
      refine x_iload_n hC dX11_isNameOf_56 rfl 2 rfl ?_
      refine x_iadd hC dX11_isNameOf_57 ?_
      obtain ⟨h6, hr⟩ := it_s hr
      refine x_iald hC (kr_5_1 hi0) h6 dX11_isNameOf_58 ?_
      refine x_icmp_eq hC 64 dX11_isNameOf_59 (by decide) (fun h7 => ?_) (fun h7 => ?_)
      · have hr := (ie_s hr).1 h7
        obtain ⟨x8, e9, hr⟩ := lz_s hr
        refine x_iinc hC [(2, .int x8), (0, .ref (G.2.1 i0)), (1, .int a1)] dX11_isNameOf_64 2 rfl (by rw [e9]; rfl) (Nat.le_of_ble_eq_true rfl) rfl ?_
        refine x_goto hC 22 dX11_isNameOf_67 (by decide) ?_
        exact x_sub [1, 2, 0] rfl (ih x8 hr)
      · have hr := (ie_s hr).2 h7
        refine x_iconst hC (0 : Int32) dX11_isNameOf_62 (by decide) ?_
        cases hr
        exact x_zret hC rfl (Or.inl rfl) dX11_isNameOf_63
set_option maxHeartbeats 4000000 in
set_option maxRecDepth 100000 in
theorem c_X11_isNameOf (l : Launch) (G : GG) (M : Mm) {i0 : Nat} (hi0 : (kd i0).1 = 5) (a1 : Int32) {r : Int32} (hr : f_X11_isNameOf i0 a1 M = some r) : Mo true l yX11_isNameOf (WS yX11_isNameOf cX11_isNameOf 3 (some .boolean)) (RM 0 0 0 0) 0 0 [.ref (G.2.1 i0), .int a1] G M (some (.int r)) M := by
  refine Mo.of (by decide +kernel) (Nat.le_of_ble_eq_true rfl) ?_
  intro p e s m args below meth c hC
  have hC : CX p s m args meth c cX11_isNameOf 3 RX11 (some .boolean) G := hC
  rw [f_X11_isNameOf] at hr
  show XJ p l e (RM 0 0 0 0) s m args below meth c G 3 _ 0 0 M 0 [(0, .ref (G.2.1 i0)), (1, .int a1)] []
  refine x_aload_n hC dX11_isNameOf_0 rfl 0 rfl ?_
  refine gf_X11_35 hC hi0 dX11_isNameOf_1 ?_
  refine x_iload_n hC dX11_isNameOf_4 rfl 1 rfl ?_
  obtain ⟨h1, hr⟩ := it_s hr
  refine x_iald hC (kr_5_23 hi0) h1 dX11_isNameOf_5 ?_
  refine x_aload_n hC dX11_isNameOf_6 rfl 0 rfl ?_
  refine gf_X11_83 hC hi0 dX11_isNameOf_7 ?_
  refine x_aload_n hC dX11_isNameOf_10 rfl 0 rfl ?_
  refine gf_X11_86 hC hi0 dX11_isNameOf_11 ?_
  refine x_isub hC dX11_isNameOf_14 ?_
  refine x_icmp_eq hC 20 dX11_isNameOf_15 (by decide) (fun h2 => ?_) (fun h2 => ?_)
  · have hr := (ie_s hr).1 h2
    refine x_iconst hC (0 : Int32) dX11_isNameOf_20 (by decide) ?_
    refine x_istore_n hC [(2, .int (0 : Int32)), (0, .ref (G.2.1 i0)), (1, .int a1)] dX11_isNameOf_21 rfl (Nat.le_of_ble_eq_true rfl) rfl ?_
    exact x_sub [1, 2, 0] rfl (l_X11_isNameOf_L22 hC hi0 a1 M FU (0 : Int32) hr)
  · have hr := (ie_s hr).2 h2
    refine x_iconst hC (0 : Int32) dX11_isNameOf_18 (by decide) ?_
    cases hr
    exact x_zret hC rfl (Or.inl rfl) dX11_isNameOf_19

theorem dX11_feed_0 : decode cX11_feed 0 = .ok (.aload_n 0, 1) := by decide +kernel
theorem dX11_feed_1 : decode cX11_feed 1 = .ok (.iconst 0, 1) := by decide +kernel
theorem dX11_feed_2 : decode cX11_feed 2 = .ok (.putfield 69, 3) := by decide +kernel
theorem dX11_feed_5 : decode cX11_feed 5 = .ok (.aload_n 0, 1) := by decide +kernel
theorem dX11_feed_6 : decode cX11_feed 6 = .ok (.getfield 76, 3) := by decide +kernel
theorem dX11_feed_9 : decode cX11_feed 9 = .ok (.bipush 20, 2) := by decide +kernel
theorem dX11_feed_11 : decode cX11_feed 11 = .ok (.iadd, 1) := by decide +kernel
theorem dX11_feed_12 : decode cX11_feed 12 = .ok (.sipush 2000, 3) := by decide +kernel
theorem dX11_feed_15 : decode cX11_feed 15 = .ok (.if_icmp .le 9, 3) := by decide +kernel
theorem dX11_feed_18 : decode cX11_feed 18 = .ok (.aload_n 0, 1) := by decide +kernel
theorem dX11_feed_19 : decode cX11_feed 19 = .ok (.iconst 1, 1) := by decide +kernel
theorem dX11_feed_20 : decode cX11_feed 20 = .ok (.invokevirtual 221, 3) := by decide +kernel
theorem dX11_feed_23 : decode cX11_feed 23 = .ok (.ireturn, 1) := by decide +kernel
theorem dX11_feed_24 : decode cX11_feed 24 = .ok (.iconst 5, 1) := by decide +kernel
theorem dX11_feed_25 : decode cX11_feed 25 = .ok (.newarray .int, 2) := by decide +kernel
theorem dX11_feed_27 : decode cX11_feed 27 = .ok (.dup, 1) := by decide +kernel
theorem dX11_feed_28 : decode cX11_feed 28 = .ok (.iconst 0, 1) := by decide +kernel
theorem dX11_feed_29 : decode cX11_feed 29 = .ok (.iload_n 1, 1) := by decide +kernel
theorem dX11_feed_30 : decode cX11_feed 30 = .ok (.iastore, 1) := by decide +kernel
theorem dX11_feed_31 : decode cX11_feed 31 = .ok (.dup, 1) := by decide +kernel
theorem dX11_feed_32 : decode cX11_feed 32 = .ok (.iconst 1, 1) := by decide +kernel
theorem dX11_feed_33 : decode cX11_feed 33 = .ok (.iload_n 2, 1) := by decide +kernel
theorem dX11_feed_34 : decode cX11_feed 34 = .ok (.iastore, 1) := by decide +kernel
theorem dX11_feed_35 : decode cX11_feed 35 = .ok (.dup, 1) := by decide +kernel
theorem dX11_feed_36 : decode cX11_feed 36 = .ok (.iconst 2, 1) := by decide +kernel
theorem dX11_feed_37 : decode cX11_feed 37 = .ok (.iload_n 3, 1) := by decide +kernel
theorem dX11_feed_38 : decode cX11_feed 38 = .ok (.iastore, 1) := by decide +kernel
theorem dX11_feed_39 : decode cX11_feed 39 = .ok (.dup, 1) := by decide +kernel
theorem dX11_feed_40 : decode cX11_feed 40 = .ok (.iconst 3, 1) := by decide +kernel
theorem dX11_feed_41 : decode cX11_feed 41 = .ok (.iload 4, 2) := by decide +kernel
theorem dX11_feed_43 : decode cX11_feed 43 = .ok (.iastore, 1) := by decide +kernel
theorem dX11_feed_44 : decode cX11_feed 44 = .ok (.dup, 1) := by decide +kernel
theorem dX11_feed_45 : decode cX11_feed 45 = .ok (.iconst 4, 1) := by decide +kernel
theorem dX11_feed_46 : decode cX11_feed 46 = .ok (.iload 5, 2) := by decide +kernel
theorem dX11_feed_48 : decode cX11_feed 48 = .ok (.iastore, 1) := by decide +kernel
theorem dX11_feed_49 : decode cX11_feed 49 = .ok (.astore 6, 2) := by decide +kernel
theorem dX11_feed_51 : decode cX11_feed 51 = .ok (.iconst 0, 1) := by decide +kernel
theorem dX11_feed_52 : decode cX11_feed 52 = .ok (.istore 7, 2) := by decide +kernel
theorem dX11_feed_54 : decode cX11_feed 54 = .ok (.iload 7, 2) := by decide +kernel
theorem dX11_feed_56 : decode cX11_feed 56 = .ok (.bipush 20, 2) := by decide +kernel
theorem dX11_feed_58 : decode cX11_feed 58 = .ok (.if_icmp .ge 43, 3) := by decide +kernel
theorem dX11_feed_61 : decode cX11_feed 61 = .ok (.aload_n 0, 1) := by decide +kernel
theorem dX11_feed_62 : decode cX11_feed 62 = .ok (.getfield 9, 3) := by decide +kernel
theorem dX11_feed_65 : decode cX11_feed 65 = .ok (.aload_n 0, 1) := by decide +kernel
theorem dX11_feed_66 : decode cX11_feed 66 = .ok (.getfield 76, 3) := by decide +kernel
theorem dX11_feed_69 : decode cX11_feed 69 = .ok (.iload 7, 2) := by decide +kernel
theorem dX11_feed_71 : decode cX11_feed 71 = .ok (.iadd, 1) := by decide +kernel
theorem dX11_feed_72 : decode cX11_feed 72 = .ok (.aload 6, 2) := by decide +kernel
theorem dX11_feed_74 : decode cX11_feed 74 = .ok (.iload 7, 2) := by decide +kernel
theorem dX11_feed_76 : decode cX11_feed 76 = .ok (.iconst 4, 1) := by decide +kernel
theorem dX11_feed_77 : decode cX11_feed 77 = .ok (.idiv, 1) := by decide +kernel
theorem dX11_feed_78 : decode cX11_feed 78 = .ok (.iaload, 1) := by decide +kernel
theorem dX11_feed_79 : decode cX11_feed 79 = .ok (.bipush 24, 2) := by decide +kernel
theorem dX11_feed_81 : decode cX11_feed 81 = .ok (.bipush 8, 2) := by decide +kernel
theorem dX11_feed_83 : decode cX11_feed 83 = .ok (.iload 7, 2) := by decide +kernel
theorem dX11_feed_85 : decode cX11_feed 85 = .ok (.iconst 4, 1) := by decide +kernel
theorem dX11_feed_86 : decode cX11_feed 86 = .ok (.irem, 1) := by decide +kernel
theorem dX11_feed_87 : decode cX11_feed 87 = .ok (.imul, 1) := by decide +kernel
theorem dX11_feed_88 : decode cX11_feed 88 = .ok (.isub, 1) := by decide +kernel
theorem dX11_feed_89 : decode cX11_feed 89 = .ok (.iushr, 1) := by decide +kernel
theorem dX11_feed_90 : decode cX11_feed 90 = .ok (.sipush 255, 3) := by decide +kernel
theorem dX11_feed_93 : decode cX11_feed 93 = .ok (.iand, 1) := by decide +kernel
theorem dX11_feed_94 : decode cX11_feed 94 = .ok (.iastore, 1) := by decide +kernel
theorem dX11_feed_95 : decode cX11_feed 95 = .ok (.iinc 7 1, 3) := by decide +kernel
theorem dX11_feed_98 : decode cX11_feed 98 = .ok (.goto (-44), 3) := by decide +kernel
theorem dX11_feed_101 : decode cX11_feed 101 = .ok (.aload_n 0, 1) := by decide +kernel
theorem dX11_feed_102 : decode cX11_feed 102 = .ok (.dup, 1) := by decide +kernel
theorem dX11_feed_103 : decode cX11_feed 103 = .ok (.getfield 76, 3) := by decide +kernel
theorem dX11_feed_106 : decode cX11_feed 106 = .ok (.bipush 20, 2) := by decide +kernel
theorem dX11_feed_108 : decode cX11_feed 108 = .ok (.iadd, 1) := by decide +kernel
theorem dX11_feed_109 : decode cX11_feed 109 = .ok (.putfield 76, 3) := by decide +kernel
theorem dX11_feed_112 : decode cX11_feed 112 = .ok (.aload_n 0, 1) := by decide +kernel
theorem dX11_feed_113 : decode cX11_feed 113 = .ok (.getfield 76, 3) := by decide +kernel
theorem dX11_feed_116 : decode cX11_feed 116 = .ok (.ireturn, 1) := by decide +kernel
def f_X11_feed_L54 (i0 : Nat) : Nat → Int32 → Mm → Option (Mm)
  | 0, _, _ => none
  | n + 1, v7, M =>
    if ((20 : Int32) ≤ v7) then (some (M)) else (if 0 ≤ (v7 / (4 : Int32)).toInt ∧ (v7 / (4 : Int32)).toInt < ((5 : Nat) : Int) then (lz ((24 : Int32) - ((8 : Int32) * (v7 - v7 / (4 : Int32) * (4 : Int32)))) fun x23 => lz ((iushr (M 100 (ix (v7 / (4 : Int32)))) x23) &&& (255 : Int32)) fun x25 => if 0 ≤ ((M i0 2) + v7).toInt ∧ ((M i0 2) + v7).toInt < ((2000 : Nat) : Int) then (lz (wr M (i0 + 1) (ix ((M i0 2) + v7)) x25) fun M28 => lz (v7 + (1 : Int32)) fun x30 => f_X11_feed_L54 i0 n x30 M28) else none) else none)
def f_X11_feed (i0 : Nat) (a1 : Int32) (a2 : Int32) (a3 : Int32) (a4 : Int32) (a5 : Int32) (M : Mm) : Option (Int32 × Mm) :=
  lz (wr M i0 0 (0 : Int32)) fun M1 => if (((M1 i0 2) + (20 : Int32)) ≤ (2000 : Int32)) then (lz (wrow M1 100 (fun _ => 0)) fun M4 => if 0 ≤ (0 : Int32).toInt ∧ (0 : Int32).toInt < ((5 : Nat) : Int) then (lz (wr M4 100 (ix (0 : Int32)) a1) fun M7 => if 0 ≤ (1 : Int32).toInt ∧ (1 : Int32).toInt < ((5 : Nat) : Int) then (lz (wr M7 100 (ix (1 : Int32)) a2) fun M10 => if 0 ≤ (2 : Int32).toInt ∧ (2 : Int32).toInt < ((5 : Nat) : Int) then (lz (wr M10 100 (ix (2 : Int32)) a3) fun M13 => if 0 ≤ (3 : Int32).toInt ∧ (3 : Int32).toInt < ((5 : Nat) : Int) then (lz (wr M13 100 (ix (3 : Int32)) a4) fun M16 => if 0 ≤ (4 : Int32).toInt ∧ (4 : Int32).toInt < ((5 : Nat) : Int) then (lz (wr M16 100 (ix (4 : Int32)) a5) fun M19 => bd1 (f_X11_feed_L54 i0 FU (0 : Int32) M19) fun M33 => lz (wr M33 i0 2 ((M33 i0 2) + (20 : Int32))) fun M34 => some ((M34 i0 2), M34)) else none) else none) else none) else none) else none) else (bd2 (f_X11_no i0 (1 : Int32) M1) fun x36 M37 => some (x36, M37))
set_option maxHeartbeats 4000000 in
set_option maxRecDepth 100000 in
theorem l_X11_feed_L54 {p : Program} {e : Env} {s : State} {m : MethodId} {args : Array Value} {below : List Frame} {meth : Method} {c : Code} {l : Launch} {G : GG} {Q : State → Prop} (hC : CX p s m args meth c cX11_feed 8 RX11 (some .int) G) {i0 : Nat} {qa : Nat} (hX : G.2.2.2 = [(qa, 5)]) (hi0 : (kd i0).1 = 5) : ∀ (n : Nat) (v7 : Int32) (M : Mm) {M2 : Mm} (hr : f_X11_feed_L54 i0 n v7 M = some (M2)) (K : XJ p l e (RM 1 1 5 21) s m args below meth c G 8 Q (0 + 1) (0 + 5) M2 101 [(0, .ref (G.2.1 i0))] []), XJ p l e (RM 1 1 5 21) s m args below meth c G 8 Q (0 + 1) (0 + 5) M 54 [(0, .ref (G.2.1 i0)), (6, .ref qa), (7, .int v7)] [] := by
  intro n
  induction n with
  | zero => intro v7 M M2 hr K; rw [f_X11_feed_L54] at hr; cases hr
  | succ n ih =>
    intro v7 M M2 hr K
    rw [f_X11_feed_L54] at hr
    refine x_iload hC dX11_feed_54 2 rfl ?_
    refine x_bipush hC (20 : Int32) dX11_feed_56 (by decide) ?_
    refine x_icmp_ge hC 101 dX11_feed_58 (by decide) (fun h21 => ?_) (fun h21 => ?_)
    · have hr := (ie_s hr).1 h21
      cases hr
      exact x_sub [0] rfl K
    · have hr := (ie_s hr).2 h21
      refine x_aload_n hC dX11_feed_61 rfl 0 rfl ?_
      refine gf_X11_9 hC hi0 dX11_feed_62 ?_
      refine x_aload_n hC dX11_feed_65 rfl 0 rfl ?_
      refine gf_X11_76 hC hi0 dX11_feed_66 ?_
      refine x_iload hC dX11_feed_69 2 rfl ?_
      refine x_iadd hC dX11_feed_71 ?_
      refine x_aload hC dX11_feed_72 1 rfl ?_
      refine x_iload hC dX11_feed_74 2 rfl ?_
      refine x_iconst hC (4 : Int32) dX11_feed_76 (by decide) ?_
      refine x_idiv hC dX11_feed_77 (by decide) ?_
      obtain ⟨h22, hr⟩ := it_s hr
      refine x_xald hC hX h22 dX11_feed_78 ?_
      refine x_bipush hC (24 : Int32) dX11_feed_79 (by decide) ?_
      refine x_bipush hC (8 : Int32) dX11_feed_81 (by decide) ?_
      refine x_iload hC dX11_feed_83 2 rfl ?_
      refine x_iconst hC (4 : Int32) dX11_feed_85 (by decide) ?_
      refine x_irem hC dX11_feed_86 (by decide) ?_
      refine x_imul hC dX11_feed_87 ?_
      refine x_isub hC dX11_feed_88 ?_
      obtain ⟨x23, e24, hr⟩ := lz_s hr
      refine x_topi e24 ?_
      refine x_iushr hC dX11_feed_89 ?_
      refine x_sipush hC (255 : Int32) dX11_feed_90 (by decide) ?_
      refine x_iand hC dX11_feed_93 ?_
      obtain ⟨x25, e26, hr⟩ := lz_s hr
      refine x_topi e26 ?_
      obtain ⟨h27, hr⟩ := it_s hr
      obtain ⟨M28, e29, hr⟩ := lz_s hr
      refine x_iast hC (kr_5_1 hi0) h27 e29 dX11_feed_94 ?_
      obtain ⟨x30, e31, hr⟩ := lz_s hr
      refine x_iinc hC [(7, .int x30), (0, .ref (G.2.1 i0)), (6, .ref qa)] dX11_feed_95 2 rfl (by rw [e31]; rfl) (Nat.le_of_ble_eq_true rfl) rfl ?_
      refine x_goto hC 54 dX11_feed_98 (by decide) ?_
      exact x_sub [1, 2, 0] rfl (ih x30 M28 hr K)
set_option maxHeartbeats 4000000 in
set_option maxRecDepth 100000 in
theorem c_X11_feed (l : Launch) (G : GG) (M : Mm) (hE : G.2.2.2 = []) {i0 : Nat} (hi0 : (kd i0).1 = 5) (a1 : Int32) (a2 : Int32) (a3 : Int32) (a4 : Int32) (a5 : Int32) {r : Int32} {M9 : Mm} (hr : f_X11_feed i0 a1 a2 a3 a4 a5 M = some (r, M9)) : Mo false l yX11_feed (WS yX11_feed cX11_feed 8 (some .int)) (RM 1 1 5 21) 1 5 [.ref (G.2.1 i0), .int a1, .int a2, .int a3, .int a4, .int a5] G M (some (.int r)) M9 := by
  refine Mo.of (by decide +kernel) (Nat.le_of_ble_eq_true rfl) ?_
  intro p e s m args below meth c hC
  have hC : CX p s m args meth c cX11_feed 8 RX11 (some .int) G := hC
  rw [f_X11_feed] at hr
  show XJ p l e (RM 1 1 5 21) s m args below meth c G 8 _ 0 0 M 0 [(0, .ref (G.2.1 i0)), (1, .int a1), (2, .int a2), (3, .int a3), (4, .int a4), (5, .int a5)] []
  refine x_aload_n hC dX11_feed_0 rfl 0 rfl ?_
  refine x_iconst hC (0 : Int32) dX11_feed_1 (by decide) ?_
  obtain ⟨M1, e2, hr⟩ := lz_s hr
  refine pf_X11_69 hC hi0 e2 dX11_feed_2 ?_
  refine x_aload_n hC dX11_feed_5 rfl 0 rfl ?_
  refine gf_X11_76 hC hi0 dX11_feed_6 ?_
  refine x_bipush hC (20 : Int32) dX11_feed_9 (by decide) ?_
  refine x_iadd hC dX11_feed_11 ?_
  refine x_sipush hC (2000 : Int32) dX11_feed_12 (by decide) ?_
  refine x_icmp_le hC 24 dX11_feed_15 (by decide) (fun h3 => ?_) (fun h3 => ?_)
  · have hr := (ie_s hr).1 h3
    refine x_iconst hC (5 : Int32) dX11_feed_24 (by decide) ?_
    obtain ⟨M4, e5, hr⟩ := lz_s hr
    refine x_newa hC hE (N := 5) (by decide) (by decide) (by decide) ⟨(Nat.le_of_ble_eq_true rfl), (Nat.le_of_ble_eq_true rfl)⟩ e5 ka_int dX11_feed_25 (fun qa hqa hC => ?_)
    refine x_dup hC dX11_feed_27 rfl ?_
    refine x_iconst hC (0 : Int32) dX11_feed_28 (by decide) ?_
    refine x_iload_n hC dX11_feed_29 rfl 1 rfl ?_
    obtain ⟨h6, hr⟩ := it_s hr
    obtain ⟨M7, e8, hr⟩ := lz_s hr
    refine x_xast hC rfl h6 e8 dX11_feed_30 ?_
    refine x_dup hC dX11_feed_31 rfl ?_
    refine x_iconst hC (1 : Int32) dX11_feed_32 (by decide) ?_
    refine x_iload_n hC dX11_feed_33 rfl 2 rfl ?_
    obtain ⟨h9, hr⟩ := it_s hr
    obtain ⟨M10, e11, hr⟩ := lz_s hr
    refine x_xast hC rfl h9 e11 dX11_feed_34 ?_
    refine x_dup hC dX11_feed_35 rfl ?_
    refine x_iconst hC (2 : Int32) dX11_feed_36 (by decide) ?_
    refine x_iload_n hC dX11_feed_37 rfl 3 rfl ?_
    obtain ⟨h12, hr⟩ := it_s hr
    obtain ⟨M13, e14, hr⟩ := lz_s hr
    refine x_xast hC rfl h12 e14 dX11_feed_38 ?_
    refine x_dup hC dX11_feed_39 rfl ?_
    refine x_iconst hC (3 : Int32) dX11_feed_40 (by decide) ?_
    refine x_iload hC dX11_feed_41 4 rfl ?_
    obtain ⟨h15, hr⟩ := it_s hr
    obtain ⟨M16, e17, hr⟩ := lz_s hr
    refine x_xast hC rfl h15 e17 dX11_feed_43 ?_
    refine x_dup hC dX11_feed_44 rfl ?_
    refine x_iconst hC (4 : Int32) dX11_feed_45 (by decide) ?_
    refine x_iload hC dX11_feed_46 5 rfl ?_
    obtain ⟨h18, hr⟩ := it_s hr
    obtain ⟨M19, e20, hr⟩ := lz_s hr
    refine x_xast hC rfl h18 e20 dX11_feed_48 ?_
    refine x_astore hC [(6, .ref qa), (0, .ref (G.2.1 i0)), (1, .int a1), (2, .int a2), (3, .int a3), (4, .int a4), (5, .int a5)] dX11_feed_49  (Nat.le_of_ble_eq_true rfl) rfl ?_
    refine x_iconst hC (0 : Int32) dX11_feed_51 (by decide) ?_
    refine x_istore hC [(7, .int (0 : Int32)), (6, .ref qa), (0, .ref (G.2.1 i0)), (1, .int a1), (2, .int a2), (3, .int a3), (4, .int a4), (5, .int a5)] dX11_feed_52  (Nat.le_of_ble_eq_true rfl) rfl ?_
    obtain ⟨M33, q32, hr⟩ := bd1_s hr
    refine x_sub [2, 1, 0] rfl (l_X11_feed_L54 hC rfl hi0 FU  (0 : Int32) M19 q32 ?_)
    refine x_aload_n hC dX11_feed_101 rfl 0 rfl ?_
    refine x_dup hC dX11_feed_102 rfl ?_
    refine gf_X11_76 hC hi0 dX11_feed_103 ?_
    refine x_bipush hC (20 : Int32) dX11_feed_106 (by decide) ?_
    refine x_iadd hC dX11_feed_108 ?_
    obtain ⟨M34, e35, hr⟩ := lz_s hr
    refine pf_X11_76 hC hi0 e35 dX11_feed_109 ?_
    refine x_aload_n hC dX11_feed_112 rfl 0 rfl ?_
    refine gf_X11_76 hC hi0 dX11_feed_113 ?_
    cases hr
    exact x_iretX hC hqa hE rfl dX11_feed_116
  · have hr := (ie_s hr).2 h3
    refine x_aload_n hC dX11_feed_18 rfl 0 rfl ?_
    refine x_iconst hC (1 : Int32) dX11_feed_19 (by decide) ?_
    obtain ⟨x36, M37, q38, hr⟩ := bd2_s hr
    refine x_callV (ci := 5) (q := (RX11, TX11, 32)) (As := [.int (1 : Int32)]) hC (c_X11_no l G M1 hi0 (1 : Int32) q38) kc_yX11_no km_X11_221 ki_yX11_no kv_yX11_no kn_RX11 ky_yX11_no rfl ⟨rfl, rfl⟩ ⟨(Nat.le_of_ble_eq_true rfl), (Nat.le_of_ble_eq_true rfl)⟩ hi0 (by decide) rfl rfl (Nat.le_of_ble_eq_true rfl) ⟨(Nat.le_of_ble_eq_true rfl), (Nat.le_of_ble_eq_true rfl)⟩ dX11_feed_20 (fun b39 => ?_)
    cases hr
    exact x_widen (Nat.le_of_ble_eq_true rfl) (Nat.le_of_ble_eq_true rfl) (x_iret hC rfl dX11_feed_23)

theorem dX11_trim_0 : decode cX11_trim 0 = .ok (.aload_n 0, 1) := by decide +kernel
theorem dX11_trim_1 : decode cX11_trim 1 = .ok (.iconst 0, 1) := by decide +kernel
theorem dX11_trim_2 : decode cX11_trim 2 = .ok (.putfield 69, 3) := by decide +kernel
theorem dX11_trim_5 : decode cX11_trim 5 = .ok (.iload_n 1, 1) := by decide +kernel
theorem dX11_trim_6 : decode cX11_trim 6 = .ok (.iconst 0, 1) := by decide +kernel
theorem dX11_trim_7 : decode cX11_trim 7 = .ok (.aload_n 0, 1) := by decide +kernel
theorem dX11_trim_8 : decode cX11_trim 8 = .ok (.getfield 76, 3) := by decide +kernel
theorem dX11_trim_11 : decode cX11_trim 11 = .ok (.invokestatic 72, 3) := by decide +kernel
theorem dX11_trim_14 : decode cX11_trim 14 = .ok (.ifCond .ne 9, 3) := by decide +kernel
theorem dX11_trim_17 : decode cX11_trim 17 = .ok (.aload_n 0, 1) := by decide +kernel
theorem dX11_trim_18 : decode cX11_trim 18 = .ok (.iconst 1, 1) := by decide +kernel
theorem dX11_trim_19 : decode cX11_trim 19 = .ok (.invokevirtual 221, 3) := by decide +kernel
theorem dX11_trim_22 : decode cX11_trim 22 = .ok (.ireturn, 1) := by decide +kernel
theorem dX11_trim_23 : decode cX11_trim 23 = .ok (.aload_n 0, 1) := by decide +kernel
theorem dX11_trim_24 : decode cX11_trim 24 = .ok (.iload_n 1, 1) := by decide +kernel
theorem dX11_trim_25 : decode cX11_trim 25 = .ok (.putfield 76, 3) := by decide +kernel
theorem dX11_trim_28 : decode cX11_trim 28 = .ok (.iload_n 1, 1) := by decide +kernel
theorem dX11_trim_29 : decode cX11_trim 29 = .ok (.ireturn, 1) := by decide +kernel

def f_X11_trim (i0 : Nat) (a1 : Int32) (M : Mm) : Option (Int32 × Mm) :=
  lz (wr M i0 0 (0 : Int32)) fun M1 => lz (f_X11_isIn a1 (0 : Int32) (M1 i0 2)) fun x3 => if (x3 = 0) then (bd2 (f_X11_no i0 (1 : Int32) M1) fun x9 M10 => some (x9, M10)) else (lz (wr M1 i0 2 a1) fun M7 => some (a1, M7))

set_option maxHeartbeats 4000000 in
set_option maxRecDepth 100000 in
theorem c_X11_trim (l : Launch) (G : GG) (M : Mm) {i0 : Nat} (hi0 : (kd i0).1 = 5) (a1 : Int32) {r : Int32} {M9 : Mm} (hr : f_X11_trim i0 a1 M = some (r, M9)) : Mo false l yX11_trim (WS yX11_trim cX11_trim 2 (some .int)) (RM 1 0 0 22) 0 0 [.ref (G.2.1 i0), .int a1] G M (some (.int r)) M9 := by
  refine Mo.of (by decide +kernel) (Nat.le_of_ble_eq_true rfl) ?_
  intro p e s m args below meth c hC
  have hC : CX p s m args meth c cX11_trim 2 RX11 (some .int) G := hC
  rw [f_X11_trim] at hr
  show XJ p l e (RM 1 0 0 22) s m args below meth c G 2 _ 0 0 M 0 [(0, .ref (G.2.1 i0)), (1, .int a1)] []
  refine x_aload_n hC dX11_trim_0 rfl 0 rfl ?_
  refine x_iconst hC (0 : Int32) dX11_trim_1 (by decide) ?_
  obtain ⟨M1, e2, hr⟩ := lz_s hr
  refine pf_X11_69 hC hi0 e2 dX11_trim_2 ?_
  refine x_iload_n hC dX11_trim_5 rfl 1 rfl ?_
  refine x_iconst hC (0 : Int32) dX11_trim_6 (by decide) ?_
  refine x_aload_n hC dX11_trim_7 rfl 0 rfl ?_
  refine gf_X11_76 hC hi0 dX11_trim_8 ?_
  obtain ⟨x3, e4, hr⟩ := lz_s hr
  refine x_callS (As := [.int a1, .int (0 : Int32), .int (M1 i0 2)]) hC (c_X11_isIn l G M1 a1 (0 : Int32) (M1 i0 2) e4.symm) kc_yX11_isIn km_X11_72 kt_yX11_isIn kn_RX11 ky_yX11_isIn rfl ⟨rfl, rfl⟩ ⟨(Nat.le_of_ble_eq_true rfl), (Nat.le_of_ble_eq_true rfl)⟩ rfl (Nat.le_of_ble_eq_true rfl) ⟨(Nat.le_of_ble_eq_true rfl), (Nat.le_of_ble_eq_true rfl)⟩ dX11_trim_11 (fun b5 => ?_)
  refine x_if_ne hC 23 dX11_trim_14 (by decide) (fun h6 => ?_) (fun h6 => ?_)
  · have hr := (ie_s hr).2 h6
    refine x_aload_n hC dX11_trim_23 rfl 0 rfl ?_
    refine x_iload_n hC dX11_trim_24 rfl 1 rfl ?_
    obtain ⟨M7, e8, hr⟩ := lz_s hr
    refine pf_X11_76 hC hi0 e8 dX11_trim_25 ?_
    refine x_iload_n hC dX11_trim_28 rfl 1 rfl ?_
    cases hr
    exact x_iret hC rfl dX11_trim_29
  · have hr := (ie_s hr).1 h6
    refine x_aload_n hC dX11_trim_17 rfl 0 rfl ?_
    refine x_iconst hC (1 : Int32) dX11_trim_18 (by decide) ?_
    obtain ⟨x9, M10, q11, hr⟩ := bd2_s hr
    refine x_callV (ci := 5) (q := (RX11, TX11, 32)) (As := [.int (1 : Int32)]) hC (c_X11_no l G M1 hi0 (1 : Int32) q11) kc_yX11_no km_X11_221 ki_yX11_no kv_yX11_no kn_RX11 ky_yX11_no rfl ⟨rfl, rfl⟩ ⟨(Nat.le_of_ble_eq_true rfl), (Nat.le_of_ble_eq_true rfl)⟩ hi0 (by decide) rfl rfl (Nat.le_of_ble_eq_true rfl) ⟨(Nat.le_of_ble_eq_true rfl), (Nat.le_of_ble_eq_true rfl)⟩ dX11_trim_19 (fun b12 => ?_)
    cases hr
    exact x_iret hC rfl dX11_trim_22

theorem dX11_learn_0 : decode cX11_learn 0 = .ok (.aload_n 0, 1) := by decide +kernel
theorem dX11_learn_1 : decode cX11_learn 1 = .ok (.getfield 29, 3) := by decide +kernel
theorem dX11_learn_4 : decode cX11_learn 4 = .ok (.iconst 0, 1) := by decide +kernel
theorem dX11_learn_5 : decode cX11_learn 5 = .ok (.aload_n 0, 1) := by decide +kernel
theorem dX11_learn_6 : decode cX11_learn 6 = .ok (.getfield 26, 3) := by decide +kernel
theorem dX11_learn_9 : decode cX11_learn 9 = .ok (.iconst 0, 1) := by decide +kernel
theorem dX11_learn_10 : decode cX11_learn 10 = .ok (.aload_n 0, 1) := by decide +kernel
theorem dX11_learn_11 : decode cX11_learn 11 = .ok (.getfield 146, 3) := by decide +kernel
theorem dX11_learn_14 : decode cX11_learn 14 = .ok (.invokestatic 230, 3) := by decide +kernel
theorem dX11_learn_17 : decode cX11_learn 17 = .ok (.aload_n 0, 1) := by decide +kernel
theorem dX11_learn_18 : decode cX11_learn 18 = .ok (.aload_n 0, 1) := by decide +kernel
theorem dX11_learn_19 : decode cX11_learn 19 = .ok (.getfield 159, 3) := by decide +kernel
theorem dX11_learn_22 : decode cX11_learn 22 = .ok (.putfield 236, 3) := by decide +kernel
theorem dX11_learn_25 : decode cX11_learn 25 = .ok (.iconst 0, 1) := by decide +kernel
theorem dX11_learn_26 : decode cX11_learn 26 = .ok (.istore_n 1, 1) := by decide +kernel
theorem dX11_learn_27 : decode cX11_learn 27 = .ok (.iload_n 1, 1) := by decide +kernel
theorem dX11_learn_28 : decode cX11_learn 28 = .ok (.aload_n 0, 1) := by decide +kernel
theorem dX11_learn_29 : decode cX11_learn 29 = .ok (.getfield 53, 3) := by decide +kernel
theorem dX11_learn_32 : decode cX11_learn 32 = .ok (.getfield 239, 3) := by decide +kernel
theorem dX11_learn_35 : decode cX11_learn 35 = .ok (.arraylength, 1) := by decide +kernel
theorem dX11_learn_36 : decode cX11_learn 36 = .ok (.if_icmp .ge 19, 3) := by decide +kernel
theorem dX11_learn_39 : decode cX11_learn 39 = .ok (.aload_n 0, 1) := by decide +kernel
theorem dX11_learn_40 : decode cX11_learn 40 = .ok (.getfield 53, 3) := by decide +kernel
theorem dX11_learn_43 : decode cX11_learn 43 = .ok (.getfield 239, 3) := by decide +kernel
theorem dX11_learn_46 : decode cX11_learn 46 = .ok (.iload_n 1, 1) := by decide +kernel
theorem dX11_learn_47 : decode cX11_learn 47 = .ok (.iconst 0, 1) := by decide +kernel
theorem dX11_learn_48 : decode cX11_learn 48 = .ok (.iastore, 1) := by decide +kernel
theorem dX11_learn_49 : decode cX11_learn 49 = .ok (.iinc 1 1, 3) := by decide +kernel
theorem dX11_learn_52 : decode cX11_learn 52 = .ok (.goto (-25), 3) := by decide +kernel
theorem dX11_learn_55 : decode cX11_learn 55 = .ok (.iconst 0, 1) := by decide +kernel
theorem dX11_learn_56 : decode cX11_learn 56 = .ok (.istore_n 1, 1) := by decide +kernel
theorem dX11_learn_57 : decode cX11_learn 57 = .ok (.iload_n 1, 1) := by decide +kernel
theorem dX11_learn_58 : decode cX11_learn 58 = .ok (.aload_n 0, 1) := by decide +kernel
theorem dX11_learn_59 : decode cX11_learn 59 = .ok (.getfield 236, 3) := by decide +kernel
theorem dX11_learn_62 : decode cX11_learn 62 = .ok (.if_icmp .ge 67, 3) := by decide +kernel
theorem dX11_learn_65 : decode cX11_learn 65 = .ok (.aload_n 0, 1) := by decide +kernel
theorem dX11_learn_66 : decode cX11_learn 66 = .ok (.getfield 53, 3) := by decide +kernel
theorem dX11_learn_69 : decode cX11_learn 69 = .ok (.getfield 239, 3) := by decide +kernel
theorem dX11_learn_72 : decode cX11_learn 72 = .ok (.bipush 10, 2) := by decide +kernel
theorem dX11_learn_74 : decode cX11_learn 74 = .ok (.iload_n 1, 1) := by decide +kernel
theorem dX11_learn_75 : decode cX11_learn 75 = .ok (.imul, 1) := by decide +kernel
theorem dX11_learn_76 : decode cX11_learn 76 = .ok (.aload_n 0, 1) := by decide +kernel
theorem dX11_learn_77 : decode cX11_learn 77 = .ok (.getfield 41, 3) := by decide +kernel
theorem dX11_learn_80 : decode cX11_learn 80 = .ok (.iload_n 1, 1) := by decide +kernel
theorem dX11_learn_81 : decode cX11_learn 81 = .ok (.iaload, 1) := by decide +kernel
theorem dX11_learn_82 : decode cX11_learn 82 = .ok (.iastore, 1) := by decide +kernel
theorem dX11_learn_83 : decode cX11_learn 83 = .ok (.aload_n 0, 1) := by decide +kernel
theorem dX11_learn_84 : decode cX11_learn 84 = .ok (.getfield 53, 3) := by decide +kernel
theorem dX11_learn_87 : decode cX11_learn 87 = .ok (.getfield 239, 3) := by decide +kernel
theorem dX11_learn_90 : decode cX11_learn 90 = .ok (.bipush 10, 2) := by decide +kernel
theorem dX11_learn_92 : decode cX11_learn 92 = .ok (.iload_n 1, 1) := by decide +kernel
theorem dX11_learn_93 : decode cX11_learn 93 = .ok (.imul, 1) := by decide +kernel
theorem dX11_learn_94 : decode cX11_learn 94 = .ok (.iconst 1, 1) := by decide +kernel
theorem dX11_learn_95 : decode cX11_learn 95 = .ok (.iadd, 1) := by decide +kernel
theorem dX11_learn_96 : decode cX11_learn 96 = .ok (.aload_n 0, 1) := by decide +kernel
theorem dX11_learn_97 : decode cX11_learn 97 = .ok (.getfield 44, 3) := by decide +kernel
theorem dX11_learn_100 : decode cX11_learn 100 = .ok (.iload_n 1, 1) := by decide +kernel
theorem dX11_learn_101 : decode cX11_learn 101 = .ok (.iaload, 1) := by decide +kernel
theorem dX11_learn_102 : decode cX11_learn 102 = .ok (.iastore, 1) := by decide +kernel
theorem dX11_learn_103 : decode cX11_learn 103 = .ok (.aload_n 0, 1) := by decide +kernel
theorem dX11_learn_104 : decode cX11_learn 104 = .ok (.getfield 53, 3) := by decide +kernel
theorem dX11_learn_107 : decode cX11_learn 107 = .ok (.getfield 239, 3) := by decide +kernel
theorem dX11_learn_110 : decode cX11_learn 110 = .ok (.bipush 10, 2) := by decide +kernel
theorem dX11_learn_112 : decode cX11_learn 112 = .ok (.iload_n 1, 1) := by decide +kernel
theorem dX11_learn_113 : decode cX11_learn 113 = .ok (.imul, 1) := by decide +kernel
theorem dX11_learn_114 : decode cX11_learn 114 = .ok (.iconst 4, 1) := by decide +kernel
theorem dX11_learn_115 : decode cX11_learn 115 = .ok (.iadd, 1) := by decide +kernel
theorem dX11_learn_116 : decode cX11_learn 116 = .ok (.aload_n 0, 1) := by decide +kernel
theorem dX11_learn_117 : decode cX11_learn 117 = .ok (.getfield 38, 3) := by decide +kernel
theorem dX11_learn_120 : decode cX11_learn 120 = .ok (.iload_n 1, 1) := by decide +kernel
theorem dX11_learn_121 : decode cX11_learn 121 = .ok (.iaload, 1) := by decide +kernel
theorem dX11_learn_122 : decode cX11_learn 122 = .ok (.iastore, 1) := by decide +kernel
theorem dX11_learn_123 : decode cX11_learn 123 = .ok (.iinc 1 1, 3) := by decide +kernel
theorem dX11_learn_126 : decode cX11_learn 126 = .ok (.goto (-69), 3) := by decide +kernel
theorem dX11_learn_129 : decode cX11_learn 129 = .ok (.return_, 1) := by decide +kernel
def f_X11_learn_L27 (i0 : Nat) : Nat → Int32 → Mm → Option (Mm)
  | 0, _, _ => none
  | n + 1, v1, M =>
    if ((40 : Int32) ≤ v1) then (some (M)) else (if 0 ≤ v1.toInt ∧ v1.toInt < ((40 : Nat) : Int) then (lz (wr M ((i0 + 14) + 6) (ix v1) (0 : Int32)) fun M8 => lz (v1 + (1 : Int32)) fun x10 => f_X11_learn_L27 i0 n x10 M8) else none)
def f_X11_learn_L57 (i0 : Nat) : Nat → Int32 → Mm → Option (Mm)
  | 0, _, _ => none
  | n + 1, v1, M =>
    if ((M i0 9) ≤ v1) then (some (M)) else (if 0 ≤ v1.toInt ∧ v1.toInt < ((100 : Nat) : Int) then (if 0 ≤ ((10 : Int32) * v1).toInt ∧ ((10 : Int32) * v1).toInt < ((40 : Nat) : Int) then (lz (wr M ((i0 + 14) + 6) (ix ((10 : Int32) * v1)) (M (i0 + 10) (ix v1))) fun M17 => if 0 ≤ v1.toInt ∧ v1.toInt < ((100 : Nat) : Int) then (if 0 ≤ (((10 : Int32) * v1) + (1 : Int32)).toInt ∧ (((10 : Int32) * v1) + (1 : Int32)).toInt < ((40 : Nat) : Int) then (lz (wr M17 ((i0 + 14) + 6) (ix (((10 : Int32) * v1) + (1 : Int32))) (M17 (i0 + 11) (ix v1))) fun M21 => if 0 ≤ v1.toInt ∧ v1.toInt < ((100 : Nat) : Int) then (if 0 ≤ (((10 : Int32) * v1) + (4 : Int32)).toInt ∧ (((10 : Int32) * v1) + (4 : Int32)).toInt < ((40 : Nat) : Int) then (lz (wr M21 ((i0 + 14) + 6) (ix (((10 : Int32) * v1) + (4 : Int32))) (M21 (i0 + 9) (ix v1))) fun M25 => lz (v1 + (1 : Int32)) fun x27 => f_X11_learn_L57 i0 n x27 M25) else none) else none) else none) else none) else none) else none)
def f_X11_learn (i0 : Nat) (M : Mm) : Option Mm :=
  if 0 ≤ (M i0 11).toInt ∧ (M i0 11).toInt ≤ ((4000 : Nat) : Int) ∧ (M i0 11).toInt ≤ ((4000 : Nat) : Int) then (lz (wrow M (i0 + 5) (va_cpy (M (i0 + 6)) (M (i0 + 5)) 0 0 (ix (M i0 11)))) fun M2 => lz (wr M2 i0 9 (M2 i0 19)) fun M4 => bd1 (f_X11_learn_L27 i0 FU (0 : Int32) M4) fun M13 => bd1 (f_X11_learn_L57 i0 FU (0 : Int32) M13) fun M30 => some M30) else none
set_option maxHeartbeats 4000000 in
set_option maxRecDepth 100000 in
theorem l_X11_learn_L27 {p : Program} {e : Env} {s : State} {m : MethodId} {args : Array Value} {below : List Frame} {meth : Method} {c : Code} {l : Launch} {G : GG} {Q : State → Prop} (hC : CX p s m args meth c cX11_learn 2 RX11 none G) {i0 : Nat} (hi0 : (kd i0).1 = 5) : ∀ (n : Nat) (v1 : Int32) (M : Mm) {M2 : Mm} (hr : f_X11_learn_L27 i0 n v1 M = some (M2)) (K : XJ p l e (RM 1 0 0 60) s m args below meth c G 2 Q 0 0 M2 55 [(0, .ref (G.2.1 i0))] []), XJ p l e (RM 1 0 0 60) s m args below meth c G 2 Q 0 0 M 27 [(0, .ref (G.2.1 i0)), (1, .int v1)] [] := by
  intro n
  induction n with
  | zero => intro v1 M M2 hr K; rw [f_X11_learn_L27] at hr; cases hr
  | succ n ih =>
    intro v1 M M2 hr K
    rw [f_X11_learn_L27] at hr
    refine x_iload_n hC dX11_learn_27 rfl 1 rfl ?_
    refine x_aload_n hC dX11_learn_28 rfl 0 rfl ?_
    refine gf_X11_53 hC hi0 dX11_learn_29 ?_
    refine gf_X11_239 hC (kr_5_29 hi0) dX11_learn_32 ?_
    refine x_alen hC (40 : Int32) (kr_4_11 (kr_5_29 hi0)) (by decide) dX11_learn_35 ?_
    refine x_icmp_ge hC 55 dX11_learn_36 (by decide) (fun h6 => ?_) (fun h6 => ?_)
    · have hr := (ie_s hr).1 h6
      cases hr
      exact x_sub [0] rfl K
    · have hr := (ie_s hr).2 h6
      refine x_aload_n hC dX11_learn_39 rfl 0 rfl ?_
      refine gf_X11_53 hC hi0 dX11_learn_40 ?_
      refine gf_X11_239 hC (kr_5_29 hi0) dX11_learn_43 ?_
      refine x_iload_n hC dX11_learn_46 rfl 1 rfl ?_
      refine x_iconst hC (0 : Int32) dX11_learn_47 (by decide) ?_
      obtain ⟨h7, hr⟩ := it_s hr
      obtain ⟨M8, e9, hr⟩ := lz_s hr
      refine x_iast hC (kr_4_11 (kr_5_29 hi0)) h7 e9 dX11_learn_48 ?_
      obtain ⟨x10, e11, hr⟩ := lz_s hr
      refine x_iinc hC [(1, .int x10), (0, .ref (G.2.1 i0))] dX11_learn_49 1 rfl (by rw [e11]; rfl) (Nat.le_of_ble_eq_true rfl) rfl ?_
      refine x_goto hC 27 dX11_learn_52 (by decide) ?_
      exact x_sub [1, 0] rfl (ih x10 M8 hr K)
set_option maxHeartbeats 4000000 in
set_option maxRecDepth 100000 in
theorem l_X11_learn_L57 {p : Program} {e : Env} {s : State} {m : MethodId} {args : Array Value} {below : List Frame} {meth : Method} {c : Code} {l : Launch} {G : GG} {Q : State → Prop} (hC : CX p s m args meth c cX11_learn 2 RX11 none G) {i0 : Nat} (hi0 : (kd i0).1 = 5) : ∀ (n : Nat) (v1 : Int32) (M : Mm) {M2 : Mm} (hr : f_X11_learn_L57 i0 n v1 M = some (M2)) (K : XJ p l e (RM 1 0 0 60) s m args below meth c G 2 Q 0 0 M2 129 [] []), XJ p l e (RM 1 0 0 60) s m args below meth c G 2 Q 0 0 M 57 [(0, .ref (G.2.1 i0)), (1, .int v1)] [] := by
  intro n
  induction n with
  | zero => intro v1 M M2 hr K; rw [f_X11_learn_L57] at hr; cases hr
  | succ n ih =>
    intro v1 M M2 hr K
    rw [f_X11_learn_L57] at hr
    refine x_iload_n hC dX11_learn_57 rfl 1 rfl ?_
    refine x_aload_n hC dX11_learn_58 rfl 0 rfl ?_
    refine gf_X11_236 hC hi0 dX11_learn_59 ?_
    refine x_icmp_ge hC 129 dX11_learn_62 (by decide) (fun h14 => ?_) (fun h14 => ?_)
    · have hr := (ie_s hr).1 h14
      cases hr
      exact x_sub [] rfl K
    · have hr := (ie_s hr).2 h14
      refine x_aload_n hC dX11_learn_65 rfl 0 rfl ?_
      refine gf_X11_53 hC hi0 dX11_learn_66 ?_
      refine gf_X11_239 hC (kr_5_29 hi0) dX11_learn_69 ?_
      refine x_bipush hC (10 : Int32) dX11_learn_72 (by decide) ?_
      refine x_iload_n hC dX11_learn_74 rfl 1 rfl ?_
      refine x_imul hC dX11_learn_75 ?_
      refine x_aload_n hC dX11_learn_76 rfl 0 rfl ?_
      refine gf_X11_41 hC hi0 dX11_learn_77 ?_
      refine x_iload_n hC dX11_learn_80 rfl 1 rfl ?_
      obtain ⟨h15, hr⟩ := it_s hr
      refine x_iald hC (kr_5_25 hi0) h15 dX11_learn_81 ?_
      obtain ⟨h16, hr⟩ := it_s hr
      obtain ⟨M17, e18, hr⟩ := lz_s hr
      refine x_iast hC (kr_4_11 (kr_5_29 hi0)) h16 e18 dX11_learn_82 ?_
      refine x_aload_n hC dX11_learn_83 rfl 0 rfl ?_
      refine gf_X11_53 hC hi0 dX11_learn_84 ?_
      refine gf_X11_239 hC (kr_5_29 hi0) dX11_learn_87 ?_
      refine x_bipush hC (10 : Int32) dX11_learn_90 (by decide) ?_
      refine x_iload_n hC dX11_learn_92 rfl 1 rfl ?_
      refine x_imul hC dX11_learn_93 ?_
      refine x_iconst hC (1 : Int32) dX11_learn_94 (by decide) ?_
      refine x_iadd hC dX11_learn_95 ?_
      refine x_aload_n hC dX11_learn_96 rfl 0 rfl ?_
      refine gf_X11_44 hC hi0 dX11_learn_97 ?_
      refine x_iload_n hC dX11_learn_100 rfl 1 rfl ?_
      obtain ⟨h19, hr⟩ := it_s hr
      refine x_iald hC (kr_5_26 hi0) h19 dX11_learn_101 ?_
      obtain ⟨h20, hr⟩ := it_s hr
      obtain ⟨M21, e22, hr⟩ := lz_s hr
      refine x_iast hC (kr_4_11 (kr_5_29 hi0)) h20 e22 dX11_learn_102 ?_
      refine x_aload_n hC dX11_learn_103 rfl 0 rfl ?_
      refine gf_X11_53 hC hi0 dX11_learn_104 ?_
      refine gf_X11_239 hC (kr_5_29 hi0) dX11_learn_107 ?_
      refine x_bipush hC (10 : Int32) dX11_learn_110 (by decide) ?_
      refine x_iload_n hC dX11_learn_112 rfl 1 rfl ?_
      refine x_imul hC dX11_learn_113 ?_
      refine x_iconst hC (4 : Int32) dX11_learn_114 (by decide) ?_
      refine x_iadd hC dX11_learn_115 ?_
      refine x_aload_n hC dX11_learn_116 rfl 0 rfl ?_
      refine gf_X11_38 hC hi0 dX11_learn_117 ?_
      refine x_iload_n hC dX11_learn_120 rfl 1 rfl ?_
      obtain ⟨h23, hr⟩ := it_s hr
      refine x_iald hC (kr_5_24 hi0) h23 dX11_learn_121 ?_
      obtain ⟨h24, hr⟩ := it_s hr
      obtain ⟨M25, e26, hr⟩ := lz_s hr
      refine x_iast hC (kr_4_11 (kr_5_29 hi0)) h24 e26 dX11_learn_122 ?_
      obtain ⟨x27, e28, hr⟩ := lz_s hr
      refine x_iinc hC [(1, .int x27), (0, .ref (G.2.1 i0))] dX11_learn_123 1 rfl (by rw [e28]; rfl) (Nat.le_of_ble_eq_true rfl) rfl ?_
      refine x_goto hC 57 dX11_learn_126 (by decide) ?_
      exact x_sub [1, 0] rfl (ih x27 M25 hr K)
set_option maxHeartbeats 4000000 in
set_option maxRecDepth 100000 in
theorem c_X11_learn (l : Launch) (G : GG) (M : Mm) {i0 : Nat} (hi0 : (kd i0).1 = 5) {M9 : Mm} (hr : f_X11_learn i0 M = some M9) : Mo false l yX11_learn (WS yX11_learn cX11_learn 2 none) (RM 1 0 0 60) 0 0 [.ref (G.2.1 i0)] G M none M9 := by
  refine Mo.of (by decide +kernel) (Nat.le_of_ble_eq_true rfl) ?_
  intro p e s m args below meth c hC
  have hC : CX p s m args meth c cX11_learn 2 RX11 none G := hC
  rw [f_X11_learn] at hr
  show XJ p l e (RM 1 0 0 60) s m args below meth c G 2 _ 0 0 M 0 [(0, .ref (G.2.1 i0))] []
  refine x_aload_n hC dX11_learn_0 rfl 0 rfl ?_
  refine gf_X11_29 hC hi0 dX11_learn_1 ?_
  refine x_iconst hC (0 : Int32) dX11_learn_4 (by decide) ?_
  refine x_aload_n hC dX11_learn_5 rfl 0 rfl ?_
  refine gf_X11_26 hC hi0 dX11_learn_6 ?_
  refine x_iconst hC (0 : Int32) dX11_learn_9 (by decide) ?_
  refine x_aload_n hC dX11_learn_10 rfl 0 rfl ?_
  refine gf_X11_146 hC hi0 dX11_learn_11 ?_
  obtain ⟨h1, hr⟩ := it_s hr
  obtain ⟨M2, e3, hr⟩ := lz_s hr
  refine x_copy hC km_X11_230 ka_copy kt_copy kn_System (kr_5_10 hi0) (kr_5_8 hi0) h1 e3 (Nat.le_of_ble_eq_true rfl) (Nat.le_of_ble_eq_true rfl) dX11_learn_14 ?_
  refine x_aload_n hC dX11_learn_17 rfl 0 rfl ?_
  refine x_aload_n hC dX11_learn_18 rfl 0 rfl ?_
  refine gf_X11_159 hC hi0 dX11_learn_19 ?_
  obtain ⟨M4, e5, hr⟩ := lz_s hr
  refine pf_X11_236 hC hi0 e5 dX11_learn_22 ?_
  refine x_iconst hC (0 : Int32) dX11_learn_25 (by decide) ?_
  refine x_istore_n hC [(1, .int (0 : Int32)), (0, .ref (G.2.1 i0))] dX11_learn_26 rfl (Nat.le_of_ble_eq_true rfl) rfl ?_
  obtain ⟨M13, q12, hr⟩ := bd1_s hr
  refine x_sub [1, 0] rfl (l_X11_learn_L27 hC hi0 FU  (0 : Int32) M4 q12 ?_)
  refine x_iconst hC (0 : Int32) dX11_learn_55 (by decide) ?_
  refine x_istore_n hC [(1, .int (0 : Int32)), (0, .ref (G.2.1 i0))] dX11_learn_56 rfl (Nat.le_of_ble_eq_true rfl) rfl ?_
  obtain ⟨M30, q29, hr⟩ := bd1_s hr
  refine x_sub [1, 0] rfl (l_X11_learn_L57 hC hi0 FU  (0 : Int32) M13 q29 ?_)
  cases hr
  exact x_vret hC rfl dX11_learn_129

theorem dX11_errorAt_0 : decode cX11_errorAt 0 = .ok (.aload_n 0, 1) := by decide +kernel
theorem dX11_errorAt_1 : decode cX11_errorAt 1 = .ok (.iconst 0, 1) := by decide +kernel
theorem dX11_errorAt_2 : decode cX11_errorAt 2 = .ok (.putfield 69, 3) := by decide +kernel
theorem dX11_errorAt_5 : decode cX11_errorAt 5 = .ok (.aload_n 0, 1) := by decide +kernel
theorem dX11_errorAt_6 : decode cX11_errorAt 6 = .ok (.getfield 13, 3) := by decide +kernel
theorem dX11_errorAt_9 : decode cX11_errorAt 9 = .ok (.ireturn, 1) := by decide +kernel

def f_X11_errorAt (i0 : Nat) (M : Mm) : Option (Int32 × Mm) :=
  lz (wr M i0 0 (0 : Int32)) fun M1 => some ((M1 i0 3), M1)

set_option maxHeartbeats 4000000 in
set_option maxRecDepth 100000 in
theorem c_X11_errorAt (l : Launch) (G : GG) (M : Mm) {i0 : Nat} (hi0 : (kd i0).1 = 5) {r : Int32} {M9 : Mm} (hr : f_X11_errorAt i0 M = some (r, M9)) : Mo false l yX11_errorAt (WS yX11_errorAt cX11_errorAt 1 (some .int)) (RM 0 0 0 0) 0 0 [.ref (G.2.1 i0)] G M (some (.int r)) M9 := by
  refine Mo.of (by decide +kernel) (Nat.le_of_ble_eq_true rfl) ?_
  intro p e s m args below meth c hC
  have hC : CX p s m args meth c cX11_errorAt 1 RX11 (some .int) G := hC
  rw [f_X11_errorAt] at hr
  show XJ p l e (RM 0 0 0 0) s m args below meth c G 1 _ 0 0 M 0 [(0, .ref (G.2.1 i0))] []
  refine x_aload_n hC dX11_errorAt_0 rfl 0 rfl ?_
  refine x_iconst hC (0 : Int32) dX11_errorAt_1 (by decide) ?_
  obtain ⟨M1, e2, hr⟩ := lz_s hr
  refine pf_X11_69 hC hi0 e2 dX11_errorAt_2 ?_
  refine x_aload_n hC dX11_errorAt_5 rfl 0 rfl ?_
  refine gf_X11_13 hC hi0 dX11_errorAt_6 ?_
  cases hr
  exact x_iret hC rfl dX11_errorAt_9

theorem dX11_told_0 : decode cX11_told 0 = .ok (.bipush 10, 2) := by decide +kernel
theorem dX11_told_2 : decode cX11_told 2 = .ok (.iload_n 2, 1) := by decide +kernel
theorem dX11_told_3 : decode cX11_told 3 = .ok (.imul, 1) := by decide +kernel
theorem dX11_told_4 : decode cX11_told 4 = .ok (.istore 4, 2) := by decide +kernel
theorem dX11_told_6 : decode cX11_told 6 = .ok (.bipush 8, 2) := by decide +kernel
theorem dX11_told_8 : decode cX11_told 8 = .ok (.aload_n 1, 1) := by decide +kernel
theorem dX11_told_9 : decode cX11_told 9 = .ok (.getfield 239, 3) := by decide +kernel
theorem dX11_told_12 : decode cX11_told 12 = .ok (.iload 4, 2) := by decide +kernel
theorem dX11_told_14 : decode cX11_told 14 = .ok (.iconst 1, 1) := by decide +kernel
theorem dX11_told_15 : decode cX11_told 15 = .ok (.iadd, 1) := by decide +kernel
theorem dX11_told_16 : decode cX11_told 16 = .ok (.iaload, 1) := by decide +kernel
theorem dX11_told_17 : decode cX11_told 17 = .ok (.imul, 1) := by decide +kernel
theorem dX11_told_18 : decode cX11_told 18 = .ok (.aload_n 1, 1) := by decide +kernel
theorem dX11_told_19 : decode cX11_told 19 = .ok (.getfield 239, 3) := by decide +kernel
theorem dX11_told_22 : decode cX11_told 22 = .ok (.iload 4, 2) := by decide +kernel
theorem dX11_told_24 : decode cX11_told 24 = .ok (.iaload, 1) := by decide +kernel
theorem dX11_told_25 : decode cX11_told 25 = .ok (.iadd, 1) := by decide +kernel
theorem dX11_told_26 : decode cX11_told 26 = .ok (.istore 5, 2) := by decide +kernel
theorem dX11_told_28 : decode cX11_told 28 = .ok (.iload_n 3, 1) := by decide +kernel
theorem dX11_told_29 : decode cX11_told 29 = .ok (.bipush 12, 2) := by decide +kernel
theorem dX11_told_31 : decode cX11_told 31 = .ok (.isub, 1) := by decide +kernel
theorem dX11_told_32 : decode cX11_told 32 = .ok (.tableswitch 170 0 11 #[64, 72, 82, 90, 98, 106, 114, 124, 134, 139, 144, 157], 64) := by decide +kernel
theorem dX11_told_96 : decode cX11_told 96 = .ok (.aload_n 1, 1) := by decide +kernel
theorem dX11_told_97 : decode cX11_told 97 = .ok (.getfield 239, 3) := by decide +kernel
theorem dX11_told_100 : decode cX11_told 100 = .ok (.iload 4, 2) := by decide +kernel
theorem dX11_told_102 : decode cX11_told 102 = .ok (.iaload, 1) := by decide +kernel
theorem dX11_told_103 : decode cX11_told 103 = .ok (.ireturn, 1) := by decide +kernel
theorem dX11_told_104 : decode cX11_told 104 = .ok (.aload_n 1, 1) := by decide +kernel
theorem dX11_told_105 : decode cX11_told 105 = .ok (.getfield 239, 3) := by decide +kernel
theorem dX11_told_108 : decode cX11_told 108 = .ok (.iload 4, 2) := by decide +kernel
theorem dX11_told_110 : decode cX11_told 110 = .ok (.iconst 1, 1) := by decide +kernel
theorem dX11_told_111 : decode cX11_told 111 = .ok (.iadd, 1) := by decide +kernel
theorem dX11_told_112 : decode cX11_told 112 = .ok (.iaload, 1) := by decide +kernel
theorem dX11_told_113 : decode cX11_told 113 = .ok (.ireturn, 1) := by decide +kernel
theorem dX11_told_114 : decode cX11_told 114 = .ok (.aload_n 1, 1) := by decide +kernel
theorem dX11_told_115 : decode cX11_told 115 = .ok (.getfield 63, 3) := by decide +kernel
theorem dX11_told_118 : decode cX11_told 118 = .ok (.iload 5, 2) := by decide +kernel
theorem dX11_told_120 : decode cX11_told 120 = .ok (.iaload, 1) := by decide +kernel
theorem dX11_told_121 : decode cX11_told 121 = .ok (.ireturn, 1) := by decide +kernel
theorem dX11_told_122 : decode cX11_told 122 = .ok (.aload_n 1, 1) := by decide +kernel
theorem dX11_told_123 : decode cX11_told 123 = .ok (.getfield 241, 3) := by decide +kernel
theorem dX11_told_126 : decode cX11_told 126 = .ok (.iload 5, 2) := by decide +kernel
theorem dX11_told_128 : decode cX11_told 128 = .ok (.iaload, 1) := by decide +kernel
theorem dX11_told_129 : decode cX11_told 129 = .ok (.ireturn, 1) := by decide +kernel
theorem dX11_told_130 : decode cX11_told 130 = .ok (.aload_n 1, 1) := by decide +kernel
theorem dX11_told_131 : decode cX11_told 131 = .ok (.getfield 244, 3) := by decide +kernel
theorem dX11_told_134 : decode cX11_told 134 = .ok (.iload 5, 2) := by decide +kernel
theorem dX11_told_136 : decode cX11_told 136 = .ok (.iaload, 1) := by decide +kernel
theorem dX11_told_137 : decode cX11_told 137 = .ok (.ireturn, 1) := by decide +kernel
theorem dX11_told_138 : decode cX11_told 138 = .ok (.aload_n 1, 1) := by decide +kernel
theorem dX11_told_139 : decode cX11_told 139 = .ok (.getfield 66, 3) := by decide +kernel
theorem dX11_told_142 : decode cX11_told 142 = .ok (.iload 5, 2) := by decide +kernel
theorem dX11_told_144 : decode cX11_told 144 = .ok (.iaload, 1) := by decide +kernel
theorem dX11_told_145 : decode cX11_told 145 = .ok (.ireturn, 1) := by decide +kernel
theorem dX11_told_146 : decode cX11_told 146 = .ok (.aload_n 1, 1) := by decide +kernel
theorem dX11_told_147 : decode cX11_told 147 = .ok (.getfield 239, 3) := by decide +kernel
theorem dX11_told_150 : decode cX11_told 150 = .ok (.iload 4, 2) := by decide +kernel
theorem dX11_told_152 : decode cX11_told 152 = .ok (.iconst 2, 1) := by decide +kernel
theorem dX11_told_153 : decode cX11_told 153 = .ok (.iadd, 1) := by decide +kernel
theorem dX11_told_154 : decode cX11_told 154 = .ok (.iaload, 1) := by decide +kernel
theorem dX11_told_155 : decode cX11_told 155 = .ok (.ireturn, 1) := by decide +kernel
theorem dX11_told_156 : decode cX11_told 156 = .ok (.aload_n 1, 1) := by decide +kernel
theorem dX11_told_157 : decode cX11_told 157 = .ok (.getfield 239, 3) := by decide +kernel
theorem dX11_told_160 : decode cX11_told 160 = .ok (.iload 4, 2) := by decide +kernel
theorem dX11_told_162 : decode cX11_told 162 = .ok (.iconst 3, 1) := by decide +kernel
theorem dX11_told_163 : decode cX11_told 163 = .ok (.iadd, 1) := by decide +kernel
theorem dX11_told_164 : decode cX11_told 164 = .ok (.iaload, 1) := by decide +kernel
theorem dX11_told_165 : decode cX11_told 165 = .ok (.ireturn, 1) := by decide +kernel
theorem dX11_told_166 : decode cX11_told 166 = .ok (.aload_n 1, 1) := by decide +kernel
theorem dX11_told_167 : decode cX11_told 167 = .ok (.getfield 247, 3) := by decide +kernel
theorem dX11_told_170 : decode cX11_told 170 = .ok (.ireturn, 1) := by decide +kernel
theorem dX11_told_171 : decode cX11_told 171 = .ok (.aload_n 1, 1) := by decide +kernel
theorem dX11_told_172 : decode cX11_told 172 = .ok (.getfield 250, 3) := by decide +kernel
theorem dX11_told_175 : decode cX11_told 175 = .ok (.ireturn, 1) := by decide +kernel
theorem dX11_told_176 : decode cX11_told 176 = .ok (.aload_n 0, 1) := by decide +kernel
theorem dX11_told_177 : decode cX11_told 177 = .ok (.getfield 20, 3) := by decide +kernel
theorem dX11_told_180 : decode cX11_told 180 = .ok (.aload_n 1, 1) := by decide +kernel
theorem dX11_told_181 : decode cX11_told 181 = .ok (.getfield 247, 3) := by decide +kernel
theorem dX11_told_184 : decode cX11_told 184 = .ok (.bipush 12, 2) := by decide +kernel
theorem dX11_told_186 : decode cX11_told 186 = .ok (.irem, 1) := by decide +kernel
theorem dX11_told_187 : decode cX11_told 187 = .ok (.iaload, 1) := by decide +kernel
theorem dX11_told_188 : decode cX11_told 188 = .ok (.ireturn, 1) := by decide +kernel
theorem dX11_told_189 : decode cX11_told 189 = .ok (.aload_n 0, 1) := by decide +kernel
theorem dX11_told_190 : decode cX11_told 190 = .ok (.getfield 23, 3) := by decide +kernel
theorem dX11_told_193 : decode cX11_told 193 = .ok (.aload_n 1, 1) := by decide +kernel
theorem dX11_told_194 : decode cX11_told 194 = .ok (.getfield 247, 3) := by decide +kernel
theorem dX11_told_197 : decode cX11_told 197 = .ok (.bipush 12, 2) := by decide +kernel
theorem dX11_told_199 : decode cX11_told 199 = .ok (.irem, 1) := by decide +kernel
theorem dX11_told_200 : decode cX11_told 200 = .ok (.iaload, 1) := by decide +kernel
theorem dX11_told_201 : decode cX11_told 201 = .ok (.ireturn, 1) := by decide +kernel
theorem dX11_told_202 : decode cX11_told 202 = .ok (.aload_n 1, 1) := by decide +kernel
theorem dX11_told_203 : decode cX11_told 203 = .ok (.getfield 253, 3) := by decide +kernel
theorem dX11_told_206 : decode cX11_told 206 = .ok (.ireturn, 1) := by decide +kernel

def f_X11_told (i0 : Nat) (i1 : Nat) (a2 : Int32) (a3 : Int32) (M : Mm) : Option Int32 :=
  if 0 ≤ (((10 : Int32) * a2) + (1 : Int32)).toInt ∧ (((10 : Int32) * a2) + (1 : Int32)).toInt < ((40 : Nat) : Int) then (lz ((8 : Int32) * (M (i1 + 6) (ix (((10 : Int32) * a2) + (1 : Int32))))) fun x2 => if 0 ≤ ((10 : Int32) * a2).toInt ∧ ((10 : Int32) * a2).toInt < ((40 : Nat) : Int) then (lz (x2 + (M (i1 + 6) (ix ((10 : Int32) * a2)))) fun x5 => lz (a3 - (12 : Int32)) fun x7 => if (x7 = (0 : Int32)) then (if 0 ≤ ((10 : Int32) * a2).toInt ∧ ((10 : Int32) * a2).toInt < ((40 : Nat) : Int) then (some (M (i1 + 6) (ix ((10 : Int32) * a2)))) else none) else (if (x7 = (1 : Int32)) then (if 0 ≤ (((10 : Int32) * a2) + (1 : Int32)).toInt ∧ (((10 : Int32) * a2) + (1 : Int32)).toInt < ((40 : Nat) : Int) then (some (M (i1 + 6) (ix (((10 : Int32) * a2) + (1 : Int32))))) else none) else (if (x7 = (2 : Int32)) then (if 0 ≤ x5.toInt ∧ x5.toInt < ((64 : Nat) : Int) then (some (M (i1 + 1) (ix x5))) else none) else (if (x7 = (3 : Int32)) then (if 0 ≤ x5.toInt ∧ x5.toInt < ((64 : Nat) : Int) then (some (M (i1 + 3) (ix x5))) else none) else (if (x7 = (4 : Int32)) then (if 0 ≤ x5.toInt ∧ x5.toInt < ((64 : Nat) : Int) then (some (M (i1 + 4) (ix x5))) else none) else (if (x7 = (5 : Int32)) then (if 0 ≤ x5.toInt ∧ x5.toInt < ((64 : Nat) : Int) then (some (M (i1 + 2) (ix x5))) else none) else (if (x7 = (6 : Int32)) then (if 0 ≤ (((10 : Int32) * a2) + (2 : Int32)).toInt ∧ (((10 : Int32) * a2) + (2 : Int32)).toInt < ((40 : Nat) : Int) then (some (M (i1 + 6) (ix (((10 : Int32) * a2) + (2 : Int32))))) else none) else (if (x7 = (7 : Int32)) then (if 0 ≤ (((10 : Int32) * a2) + (3 : Int32)).toInt ∧ (((10 : Int32) * a2) + (3 : Int32)).toInt < ((40 : Nat) : Int) then (some (M (i1 + 6) (ix (((10 : Int32) * a2) + (3 : Int32))))) else none) else (if (x7 = (8 : Int32)) then (some (M i1 0)) else (if (x7 = (9 : Int32)) then (some (M i1 1)) else (if (x7 = (10 : Int32)) then (if 0 ≤ ((M i1 0) - (M i1 0) / (12 : Int32) * (12 : Int32)).toInt ∧ ((M i1 0) - (M i1 0) / (12 : Int32) * (12 : Int32)).toInt < ((12 : Nat) : Int) then (lz (M (i0 + 3) (ix ((M i1 0) - (M i1 0) / (12 : Int32) * (12 : Int32)))) fun x29 => some x29) else none) else (if (x7 = (11 : Int32)) then (if 0 ≤ ((M i1 0) - (M i1 0) / (12 : Int32) * (12 : Int32)).toInt ∧ ((M i1 0) - (M i1 0) / (12 : Int32) * (12 : Int32)).toInt < ((12 : Nat) : Int) then (lz (M (i0 + 4) (ix ((M i1 0) - (M i1 0) / (12 : Int32) * (12 : Int32)))) fun x33 => some x33) else none) else (some (M i1 2)))))))))))))) else none) else none

set_option maxHeartbeats 4000000 in
set_option maxRecDepth 100000 in
theorem c_X11_told (l : Launch) (G : GG) (M : Mm) {i0 : Nat} (hi0 : (kd i0).1 = 5) {i1 : Nat} (hi1 : (kd i1).1 = 4) (a2 : Int32) (a3 : Int32) {r : Int32} (hr : f_X11_told i0 i1 a2 a3 M = some r) : Mo false l yX11_told (WS yX11_told cX11_told 6 (some .int)) (RM 0 0 0 0) 0 0 [.ref (G.2.1 i0), .ref (G.2.1 i1), .int a2, .int a3] G M (some (.int r)) M := by
  refine Mo.of (by decide +kernel) (Nat.le_of_ble_eq_true rfl) ?_
  intro p e s m args below meth c hC
  have hC : CX p s m args meth c cX11_told 6 RX11 (some .int) G := hC
  rw [f_X11_told] at hr
  show XJ p l e (RM 0 0 0 0) s m args below meth c G 6 _ 0 0 M 0 [(0, .ref (G.2.1 i0)), (1, .ref (G.2.1 i1)), (2, .int a2), (3, .int a3)] []
  refine x_bipush hC (10 : Int32) dX11_told_0 (by decide) ?_
  refine x_iload_n hC dX11_told_2 rfl 2 rfl ?_
  refine x_imul hC dX11_told_3 ?_
  refine x_istore hC [(4, .int ((10 : Int32) * a2)), (0, .ref (G.2.1 i0)), (1, .ref (G.2.1 i1)), (2, .int a2), (3, .int a3)] dX11_told_4  (Nat.le_of_ble_eq_true rfl) rfl ?_
  refine x_bipush hC (8 : Int32) dX11_told_6 (by decide) ?_
  refine x_aload_n hC dX11_told_8 rfl 2 rfl ?_
  refine gf_X11_239 hC hi1 dX11_told_9 ?_
  refine x_iload hC dX11_told_12 0 rfl ?_
  refine x_iconst hC (1 : Int32) dX11_told_14 (by decide) ?_
  refine x_iadd hC dX11_told_15 ?_
  obtain ⟨h1, hr⟩ := it_s hr
  refine x_iald hC (kr_4_11 hi1) h1 dX11_told_16 ?_
  refine x_imul hC dX11_told_17 ?_
  obtain ⟨x2, e3, hr⟩ := lz_s hr
  refine x_topi e3 ?_
  refine x_aload_n hC dX11_told_18 rfl 2 rfl ?_
  refine gf_X11_239 hC hi1 dX11_told_19 ?_
  refine x_iload hC dX11_told_22 0 rfl ?_
  obtain ⟨h4, hr⟩ := it_s hr
  refine x_iald hC (kr_4_11 hi1) h4 dX11_told_24 ?_
  refine x_iadd hC dX11_told_25 ?_
  obtain ⟨x5, e6, hr⟩ := lz_s hr
  refine x_topi e6 ?_
  refine x_istore hC [(5, .int x5), (4, .int ((10 : Int32) * a2)), (0, .ref (G.2.1 i0)), (1, .ref (G.2.1 i1)), (2, .int a2), (3, .int a3)] dX11_told_26  (Nat.le_of_ble_eq_true rfl) rfl ?_
  refine x_iload_n hC dX11_told_28 rfl 5 rfl ?_
  refine x_bipush hC (12 : Int32) dX11_told_29 (by decide) ?_
  refine x_isub hC dX11_told_31 ?_
  obtain ⟨x7, e8, hr⟩ := lz_s hr
  refine x_topi e8 ?_
  by_cases s9 : x7 = (0 : Int32)
  · have hr := (ie_s hr).1 s9
    refine x_tableIn hC (off := 64) 96 dX11_told_32 (by rw [s9]; decide) (by rw [s9]; decide) (by rw [s9]; rfl) (by decide) ?_
    refine x_aload_n hC dX11_told_96 rfl 3 rfl ?_
    refine gf_X11_239 hC hi1 dX11_told_97 ?_
    refine x_iload hC dX11_told_100 1 rfl ?_
    obtain ⟨h10, hr⟩ := it_s hr
    refine x_iald hC (kr_4_11 hi1) h10 dX11_told_102 ?_
    cases hr
    exact x_iret hC rfl dX11_told_103
  · have hr := (ie_s hr).2 s9
    by_cases s11 : x7 = (1 : Int32)
    · have hr := (ie_s hr).1 s11
      refine x_tableIn hC (off := 72) 104 dX11_told_32 (by rw [s11]; decide) (by rw [s11]; decide) (by rw [s11]; rfl) (by decide) ?_
      refine x_aload_n hC dX11_told_104 rfl 3 rfl ?_
      refine gf_X11_239 hC hi1 dX11_told_105 ?_
      refine x_iload hC dX11_told_108 1 rfl ?_
      refine x_iconst hC (1 : Int32) dX11_told_110 (by decide) ?_
      refine x_iadd hC dX11_told_111 ?_
      obtain ⟨h12, hr⟩ := it_s hr
      refine x_iald hC (kr_4_11 hi1) h12 dX11_told_112 ?_
      cases hr
      exact x_iret hC rfl dX11_told_113
    · have hr := (ie_s hr).2 s11
      by_cases s13 : x7 = (2 : Int32)
      · have hr := (ie_s hr).1 s13
        refine x_tableIn hC (off := 82) 114 dX11_told_32 (by rw [s13]; decide) (by rw [s13]; decide) (by rw [s13]; rfl) (by decide) ?_
        refine x_aload_n hC dX11_told_114 rfl 3 rfl ?_
        refine gf_X11_63 hC hi1 dX11_told_115 ?_
        refine x_iload hC dX11_told_118 0 rfl ?_
        obtain ⟨h14, hr⟩ := it_s hr
        refine x_iald hC (kr_4_6 hi1) h14 dX11_told_120 ?_
        cases hr
        exact x_iret hC rfl dX11_told_121
      · have hr := (ie_s hr).2 s13
        by_cases s15 : x7 = (3 : Int32)
        · have hr := (ie_s hr).1 s15
          refine x_tableIn hC (off := 90) 122 dX11_told_32 (by rw [s15]; decide) (by rw [s15]; decide) (by rw [s15]; rfl) (by decide) ?_
          refine x_aload_n hC dX11_told_122 rfl 3 rfl ?_
          refine gf_X11_241 hC hi1 dX11_told_123 ?_
          refine x_iload hC dX11_told_126 0 rfl ?_
          obtain ⟨h16, hr⟩ := it_s hr
          refine x_iald hC (kr_4_8 hi1) h16 dX11_told_128 ?_
          cases hr
          exact x_iret hC rfl dX11_told_129
        · have hr := (ie_s hr).2 s15
          by_cases s17 : x7 = (4 : Int32)
          · have hr := (ie_s hr).1 s17
            refine x_tableIn hC (off := 98) 130 dX11_told_32 (by rw [s17]; decide) (by rw [s17]; decide) (by rw [s17]; rfl) (by decide) ?_
            refine x_aload_n hC dX11_told_130 rfl 3 rfl ?_
            refine gf_X11_244 hC hi1 dX11_told_131 ?_
            refine x_iload hC dX11_told_134 0 rfl ?_
            obtain ⟨h18, hr⟩ := it_s hr
            refine x_iald hC (kr_4_9 hi1) h18 dX11_told_136 ?_
            cases hr
            exact x_iret hC rfl dX11_told_137
          · have hr := (ie_s hr).2 s17
            by_cases s19 : x7 = (5 : Int32)
            · have hr := (ie_s hr).1 s19
              refine x_tableIn hC (off := 106) 138 dX11_told_32 (by rw [s19]; decide) (by rw [s19]; decide) (by rw [s19]; rfl) (by decide) ?_
              refine x_aload_n hC dX11_told_138 rfl 3 rfl ?_
              refine gf_X11_66 hC hi1 dX11_told_139 ?_
              refine x_iload hC dX11_told_142 0 rfl ?_
              obtain ⟨h20, hr⟩ := it_s hr
              refine x_iald hC (kr_4_7 hi1) h20 dX11_told_144 ?_
              cases hr
              exact x_iret hC rfl dX11_told_145
            · have hr := (ie_s hr).2 s19
              by_cases s21 : x7 = (6 : Int32)
              · have hr := (ie_s hr).1 s21
                refine x_tableIn hC (off := 114) 146 dX11_told_32 (by rw [s21]; decide) (by rw [s21]; decide) (by rw [s21]; rfl) (by decide) ?_
                refine x_aload_n hC dX11_told_146 rfl 3 rfl ?_
                refine gf_X11_239 hC hi1 dX11_told_147 ?_
                refine x_iload hC dX11_told_150 1 rfl ?_
                refine x_iconst hC (2 : Int32) dX11_told_152 (by decide) ?_
                refine x_iadd hC dX11_told_153 ?_
                obtain ⟨h22, hr⟩ := it_s hr
                refine x_iald hC (kr_4_11 hi1) h22 dX11_told_154 ?_
                cases hr
                exact x_iret hC rfl dX11_told_155
              · have hr := (ie_s hr).2 s21
                by_cases s23 : x7 = (7 : Int32)
                · have hr := (ie_s hr).1 s23
                  refine x_tableIn hC (off := 124) 156 dX11_told_32 (by rw [s23]; decide) (by rw [s23]; decide) (by rw [s23]; rfl) (by decide) ?_
                  refine x_aload_n hC dX11_told_156 rfl 3 rfl ?_
                  refine gf_X11_239 hC hi1 dX11_told_157 ?_
                  refine x_iload hC dX11_told_160 1 rfl ?_
                  refine x_iconst hC (3 : Int32) dX11_told_162 (by decide) ?_
                  refine x_iadd hC dX11_told_163 ?_
                  obtain ⟨h24, hr⟩ := it_s hr
                  refine x_iald hC (kr_4_11 hi1) h24 dX11_told_164 ?_
                  cases hr
                  exact x_iret hC rfl dX11_told_165
                · have hr := (ie_s hr).2 s23
                  by_cases s25 : x7 = (8 : Int32)
                  · have hr := (ie_s hr).1 s25
                    refine x_tableIn hC (off := 134) 166 dX11_told_32 (by rw [s25]; decide) (by rw [s25]; decide) (by rw [s25]; rfl) (by decide) ?_
                    refine x_aload_n hC dX11_told_166 rfl 3 rfl ?_
                    refine gf_X11_247 hC hi1 dX11_told_167 ?_
                    cases hr
                    exact x_iret hC rfl dX11_told_170
                  · have hr := (ie_s hr).2 s25
                    by_cases s26 : x7 = (9 : Int32)
                    · have hr := (ie_s hr).1 s26
                      refine x_tableIn hC (off := 139) 171 dX11_told_32 (by rw [s26]; decide) (by rw [s26]; decide) (by rw [s26]; rfl) (by decide) ?_
                      refine x_aload_n hC dX11_told_171 rfl 3 rfl ?_
                      refine gf_X11_250 hC hi1 dX11_told_172 ?_
                      cases hr
                      exact x_iret hC rfl dX11_told_175
                    · have hr := (ie_s hr).2 s26
                      by_cases s27 : x7 = (10 : Int32)
                      · have hr := (ie_s hr).1 s27
                        refine x_tableIn hC (off := 144) 176 dX11_told_32 (by rw [s27]; decide) (by rw [s27]; decide) (by rw [s27]; rfl) (by decide) ?_
                        refine x_aload_n hC dX11_told_176 rfl 2 rfl ?_
                        refine gf_X11_20 hC hi0 dX11_told_177 ?_
                        refine x_aload_n hC dX11_told_180 rfl 3 rfl ?_
                        refine gf_X11_247 hC hi1 dX11_told_181 ?_
                        refine x_bipush hC (12 : Int32) dX11_told_184 (by decide) ?_
                        refine x_irem hC dX11_told_186 (by decide) ?_
                        obtain ⟨h28, hr⟩ := it_s hr
                        refine x_iald hC (kr_5_6 hi0) h28 dX11_told_187 ?_
                        obtain ⟨x29, e30, hr⟩ := lz_s hr
                        refine x_topi e30 ?_
                        cases hr
                        exact x_iret hC rfl dX11_told_188
                      · have hr := (ie_s hr).2 s27
                        by_cases s31 : x7 = (11 : Int32)
                        · have hr := (ie_s hr).1 s31
                          refine x_tableIn hC (off := 157) 189 dX11_told_32 (by rw [s31]; decide) (by rw [s31]; decide) (by rw [s31]; rfl) (by decide) ?_
                          refine x_aload_n hC dX11_told_189 rfl 2 rfl ?_
                          refine gf_X11_23 hC hi0 dX11_told_190 ?_
                          refine x_aload_n hC dX11_told_193 rfl 3 rfl ?_
                          refine gf_X11_247 hC hi1 dX11_told_194 ?_
                          refine x_bipush hC (12 : Int32) dX11_told_197 (by decide) ?_
                          refine x_irem hC dX11_told_199 (by decide) ?_
                          obtain ⟨h32, hr⟩ := it_s hr
                          refine x_iald hC (kr_5_7 hi0) h32 dX11_told_200 ?_
                          obtain ⟨x33, e34, hr⟩ := lz_s hr
                          refine x_topi e34 ?_
                          cases hr
                          exact x_iret hC rfl dX11_told_201
                        · have hr := (ie_s hr).2 s31
                          refine x_tableOut hC 202 dX11_told_32 (by have := ne_toI s9 (z := 0) (by decide); have := ne_toI s11 (z := 1) (by decide); have := ne_toI s13 (z := 2) (by decide); have := ne_toI s15 (z := 3) (by decide); have := ne_toI s17 (z := 4) (by decide); have := ne_toI s19 (z := 5) (by decide); have := ne_toI s21 (z := 6) (by decide); have := ne_toI s23 (z := 7) (by decide); have := ne_toI s25 (z := 8) (by decide); have := ne_toI s26 (z := 9) (by decide); have := ne_toI s27 (z := 10) (by decide); have := ne_toI s31 (z := 11) (by decide); omega) (by decide) ?_
                          refine x_aload_n hC dX11_told_202 rfl 3 rfl ?_
                          refine gf_X11_253 hC hi1 dX11_told_203 ?_
                          cases hr
                          exact x_iret hC rfl dX11_told_206

theorem dX11_flag_0 : decode cX11_flag 0 = .ok (.iload_n 0, 1) := by decide +kernel
theorem dX11_flag_1 : decode cX11_flag 1 = .ok (.ifCond .eq 7, 3) := by decide +kernel
theorem dX11_flag_4 : decode cX11_flag 4 = .ok (.iconst 1, 1) := by decide +kernel
theorem dX11_flag_5 : decode cX11_flag 5 = .ok (.goto 4, 3) := by decide +kernel
theorem dX11_flag_8 : decode cX11_flag 8 = .ok (.iconst 0, 1) := by decide +kernel
theorem dX11_flag_9 : decode cX11_flag 9 = .ok (.ireturn, 1) := by decide +kernel

def f_X11_flag (a0 : Int32) : Int32 :=
  if (a0 = 0) then ((0 : Int32)) else ((1 : Int32))

set_option maxHeartbeats 4000000 in
set_option maxRecDepth 100000 in
theorem c_X11_flag (l : Launch) (G : GG) (M : Mm) (a0 : Int32) {r : Int32} (hr : f_X11_flag a0 = r) : Mo false l yX11_flag (WS yX11_flag cX11_flag 1 (some .int)) (RM 0 0 0 0) 0 0 [.int a0] G M (some (.int r)) M := by
  refine Mo.of (by decide +kernel) (Nat.le_of_ble_eq_true rfl) ?_
  intro p e s m args below meth c hC
  have hC : CX p s m args meth c cX11_flag 1 RX11 (some .int) G := hC
  rw [f_X11_flag] at hr
  show XJ p l e (RM 0 0 0 0) s m args below meth c G 1 _ 0 0 M 0 [(0, .int a0)] []
  refine x_iload_n hC dX11_flag_0 rfl 0 rfl ?_
  refine x_if_eq hC 8 dX11_flag_1 (by decide) (fun h1 => ?_) (fun h1 => ?_)
  · have hr := (ie_s hr).1 h1
    refine x_iconst hC (0 : Int32) dX11_flag_8 (by decide) ?_
    subst hr
    exact x_iret hC rfl dX11_flag_9
  · have hr := (ie_s hr).2 h1
    refine x_iconst hC (1 : Int32) dX11_flag_4 (by decide) ?_
    refine x_goto hC 9 dX11_flag_5 (by decide) ?_
    subst hr
    exact x_iret hC rfl dX11_flag_9

theorem dX11_apply_0 : decode cX11_apply 0 = .ok (.iload_n 0, 1) := by decide +kernel
theorem dX11_apply_1 : decode cX11_apply 1 = .ok (.tableswitch 265 26 60 #[261, 265, 179, 185, 265, 265, 265, 265, 265, 265, 265, 265, 265, 265, 265, 265, 265, 265, 265, 265, 265, 265, 265, 265, 265, 265, 155, 159, 163, 167, 191, 205, 219, 233, 247], 155) := by decide +kernel
theorem dX11_apply_156 : decode cX11_apply 156 = .ok (.iload_n 1, 1) := by decide +kernel
theorem dX11_apply_157 : decode cX11_apply 157 = .ok (.iload_n 2, 1) := by decide +kernel
theorem dX11_apply_158 : decode cX11_apply 158 = .ok (.iadd, 1) := by decide +kernel
theorem dX11_apply_159 : decode cX11_apply 159 = .ok (.ireturn, 1) := by decide +kernel
theorem dX11_apply_160 : decode cX11_apply 160 = .ok (.iload_n 1, 1) := by decide +kernel
theorem dX11_apply_161 : decode cX11_apply 161 = .ok (.iload_n 2, 1) := by decide +kernel
theorem dX11_apply_162 : decode cX11_apply 162 = .ok (.isub, 1) := by decide +kernel
theorem dX11_apply_163 : decode cX11_apply 163 = .ok (.ireturn, 1) := by decide +kernel
theorem dX11_apply_164 : decode cX11_apply 164 = .ok (.iload_n 1, 1) := by decide +kernel
theorem dX11_apply_165 : decode cX11_apply 165 = .ok (.iload_n 2, 1) := by decide +kernel
theorem dX11_apply_166 : decode cX11_apply 166 = .ok (.imul, 1) := by decide +kernel
theorem dX11_apply_167 : decode cX11_apply 167 = .ok (.ireturn, 1) := by decide +kernel
theorem dX11_apply_168 : decode cX11_apply 168 = .ok (.iload_n 2, 1) := by decide +kernel
theorem dX11_apply_169 : decode cX11_apply 169 = .ok (.ifCond .ne 7, 3) := by decide +kernel
theorem dX11_apply_172 : decode cX11_apply 172 = .ok (.iconst 0, 1) := by decide +kernel
theorem dX11_apply_173 : decode cX11_apply 173 = .ok (.goto 6, 3) := by decide +kernel
theorem dX11_apply_176 : decode cX11_apply 176 = .ok (.iload_n 1, 1) := by decide +kernel
theorem dX11_apply_177 : decode cX11_apply 177 = .ok (.iload_n 2, 1) := by decide +kernel
theorem dX11_apply_178 : decode cX11_apply 178 = .ok (.idiv, 1) := by decide +kernel
theorem dX11_apply_179 : decode cX11_apply 179 = .ok (.ireturn, 1) := by decide +kernel
theorem dX11_apply_180 : decode cX11_apply 180 = .ok (.iload_n 1, 1) := by decide +kernel
theorem dX11_apply_181 : decode cX11_apply 181 = .ok (.iload_n 2, 1) := by decide +kernel
theorem dX11_apply_182 : decode cX11_apply 182 = .ok (.invokestatic 256, 3) := by decide +kernel
theorem dX11_apply_185 : decode cX11_apply 185 = .ok (.ireturn, 1) := by decide +kernel
theorem dX11_apply_186 : decode cX11_apply 186 = .ok (.iload_n 1, 1) := by decide +kernel
theorem dX11_apply_187 : decode cX11_apply 187 = .ok (.iload_n 2, 1) := by decide +kernel
theorem dX11_apply_188 : decode cX11_apply 188 = .ok (.invokestatic 262, 3) := by decide +kernel
theorem dX11_apply_191 : decode cX11_apply 191 = .ok (.ireturn, 1) := by decide +kernel
theorem dX11_apply_192 : decode cX11_apply 192 = .ok (.iload_n 1, 1) := by decide +kernel
theorem dX11_apply_193 : decode cX11_apply 193 = .ok (.iload_n 2, 1) := by decide +kernel
theorem dX11_apply_194 : decode cX11_apply 194 = .ok (.if_icmp .ge 7, 3) := by decide +kernel
theorem dX11_apply_197 : decode cX11_apply 197 = .ok (.iconst 1, 1) := by decide +kernel
theorem dX11_apply_198 : decode cX11_apply 198 = .ok (.goto 4, 3) := by decide +kernel
theorem dX11_apply_201 : decode cX11_apply 201 = .ok (.iconst 0, 1) := by decide +kernel
theorem dX11_apply_202 : decode cX11_apply 202 = .ok (.invokestatic 265, 3) := by decide +kernel
theorem dX11_apply_205 : decode cX11_apply 205 = .ok (.ireturn, 1) := by decide +kernel
theorem dX11_apply_206 : decode cX11_apply 206 = .ok (.iload_n 1, 1) := by decide +kernel
theorem dX11_apply_207 : decode cX11_apply 207 = .ok (.iload_n 2, 1) := by decide +kernel
theorem dX11_apply_208 : decode cX11_apply 208 = .ok (.if_icmp .le 7, 3) := by decide +kernel
theorem dX11_apply_211 : decode cX11_apply 211 = .ok (.iconst 1, 1) := by decide +kernel
theorem dX11_apply_212 : decode cX11_apply 212 = .ok (.goto 4, 3) := by decide +kernel
theorem dX11_apply_215 : decode cX11_apply 215 = .ok (.iconst 0, 1) := by decide +kernel
theorem dX11_apply_216 : decode cX11_apply 216 = .ok (.invokestatic 265, 3) := by decide +kernel
theorem dX11_apply_219 : decode cX11_apply 219 = .ok (.ireturn, 1) := by decide +kernel
theorem dX11_apply_220 : decode cX11_apply 220 = .ok (.iload_n 1, 1) := by decide +kernel
theorem dX11_apply_221 : decode cX11_apply 221 = .ok (.iload_n 2, 1) := by decide +kernel
theorem dX11_apply_222 : decode cX11_apply 222 = .ok (.if_icmp .ne 7, 3) := by decide +kernel
theorem dX11_apply_225 : decode cX11_apply 225 = .ok (.iconst 1, 1) := by decide +kernel
theorem dX11_apply_226 : decode cX11_apply 226 = .ok (.goto 4, 3) := by decide +kernel
theorem dX11_apply_229 : decode cX11_apply 229 = .ok (.iconst 0, 1) := by decide +kernel
theorem dX11_apply_230 : decode cX11_apply 230 = .ok (.invokestatic 265, 3) := by decide +kernel
theorem dX11_apply_233 : decode cX11_apply 233 = .ok (.ireturn, 1) := by decide +kernel
theorem dX11_apply_234 : decode cX11_apply 234 = .ok (.iload_n 1, 1) := by decide +kernel
theorem dX11_apply_235 : decode cX11_apply 235 = .ok (.iload_n 2, 1) := by decide +kernel
theorem dX11_apply_236 : decode cX11_apply 236 = .ok (.if_icmp .gt 7, 3) := by decide +kernel
theorem dX11_apply_239 : decode cX11_apply 239 = .ok (.iconst 1, 1) := by decide +kernel
theorem dX11_apply_240 : decode cX11_apply 240 = .ok (.goto 4, 3) := by decide +kernel
theorem dX11_apply_243 : decode cX11_apply 243 = .ok (.iconst 0, 1) := by decide +kernel
theorem dX11_apply_244 : decode cX11_apply 244 = .ok (.invokestatic 265, 3) := by decide +kernel
theorem dX11_apply_247 : decode cX11_apply 247 = .ok (.ireturn, 1) := by decide +kernel
theorem dX11_apply_248 : decode cX11_apply 248 = .ok (.iload_n 1, 1) := by decide +kernel
theorem dX11_apply_249 : decode cX11_apply 249 = .ok (.iload_n 2, 1) := by decide +kernel
theorem dX11_apply_250 : decode cX11_apply 250 = .ok (.if_icmp .lt 7, 3) := by decide +kernel
theorem dX11_apply_253 : decode cX11_apply 253 = .ok (.iconst 1, 1) := by decide +kernel
theorem dX11_apply_254 : decode cX11_apply 254 = .ok (.goto 4, 3) := by decide +kernel
theorem dX11_apply_257 : decode cX11_apply 257 = .ok (.iconst 0, 1) := by decide +kernel
theorem dX11_apply_258 : decode cX11_apply 258 = .ok (.invokestatic 265, 3) := by decide +kernel
theorem dX11_apply_261 : decode cX11_apply 261 = .ok (.ireturn, 1) := by decide +kernel
theorem dX11_apply_262 : decode cX11_apply 262 = .ok (.iload_n 1, 1) := by decide +kernel
theorem dX11_apply_263 : decode cX11_apply 263 = .ok (.iload_n 2, 1) := by decide +kernel
theorem dX11_apply_264 : decode cX11_apply 264 = .ok (.iand, 1) := by decide +kernel
theorem dX11_apply_265 : decode cX11_apply 265 = .ok (.ireturn, 1) := by decide +kernel
theorem dX11_apply_266 : decode cX11_apply 266 = .ok (.iload_n 1, 1) := by decide +kernel
theorem dX11_apply_267 : decode cX11_apply 267 = .ok (.iload_n 2, 1) := by decide +kernel
theorem dX11_apply_268 : decode cX11_apply 268 = .ok (.ior, 1) := by decide +kernel
theorem dX11_apply_269 : decode cX11_apply 269 = .ok (.ireturn, 1) := by decide +kernel

def f_X11_apply (a0 : Int32) (a1 : Int32) (a2 : Int32) (M : Mm) : Option Int32 :=
  if (a0 = (26 : Int32)) then (some (a1 &&& a2)) else (if (a0 = (27 : Int32)) then (some (a1 ||| a2)) else (if (a0 = (28 : Int32)) then (some (imin a1 a2)) else (if (a0 = (29 : Int32)) then (some (imax a1 a2)) else (if (a0 = (30 : Int32)) then (some (a1 ||| a2)) else (if (a0 = (31 : Int32)) then (some (a1 ||| a2)) else (if (a0 = (32 : Int32)) then (some (a1 ||| a2)) else (if (a0 = (33 : Int32)) then (some (a1 ||| a2)) else (if (a0 = (34 : Int32)) then (some (a1 ||| a2)) else (if (a0 = (35 : Int32)) then (some (a1 ||| a2)) else (if (a0 = (36 : Int32)) then (some (a1 ||| a2)) else (if (a0 = (37 : Int32)) then (some (a1 ||| a2)) else (if (a0 = (38 : Int32)) then (some (a1 ||| a2)) else (if (a0 = (39 : Int32)) then (some (a1 ||| a2)) else (if (a0 = (40 : Int32)) then (some (a1 ||| a2)) else (if (a0 = (41 : Int32)) then (some (a1 ||| a2)) else (if (a0 = (42 : Int32)) then (some (a1 ||| a2)) else (if (a0 = (43 : Int32)) then (some (a1 ||| a2)) else (if (a0 = (44 : Int32)) then (some (a1 ||| a2)) else (if (a0 = (45 : Int32)) then (some (a1 ||| a2)) else (if (a0 = (46 : Int32)) then (some (a1 ||| a2)) else (if (a0 = (47 : Int32)) then (some (a1 ||| a2)) else (if (a0 = (48 : Int32)) then (some (a1 ||| a2)) else (if (a0 = (49 : Int32)) then (some (a1 ||| a2)) else (if (a0 = (50 : Int32)) then (some (a1 ||| a2)) else (if (a0 = (51 : Int32)) then (some (a1 ||| a2)) else (if (a0 = (52 : Int32)) then (some (a1 + a2)) else (if (a0 = (53 : Int32)) then (some (a1 - a2)) else (if (a0 = (54 : Int32)) then (some (a1 * a2)) else (if (a0 = (55 : Int32)) then (if (a2 = 0) then (some (0 : Int32)) else (if ¬ (a2 = 0) then (some (a1 / a2)) else none)) else (if (a0 = (56 : Int32)) then (lz (if (a2 ≤ a1) then ((0 : Int32)) else ((1 : Int32))) fun x36 => lz (f_X11_flag x36) fun x39 => some x39) else (if (a0 = (57 : Int32)) then (lz (if (a1 ≤ a2) then ((0 : Int32)) else ((1 : Int32))) fun x45 => lz (f_X11_flag x45) fun x48 => some x48) else (if (a0 = (58 : Int32)) then (lz (if (a1 = a2) then ((1 : Int32)) else ((0 : Int32))) fun x54 => lz (f_X11_flag x54) fun x57 => some x57) else (if (a0 = (59 : Int32)) then (lz (if (a2 < a1) then ((0 : Int32)) else ((1 : Int32))) fun x63 => lz (f_X11_flag x63) fun x66 => some x66) else (if (a0 = (60 : Int32)) then (lz (if (a1 < a2) then ((0 : Int32)) else ((1 : Int32))) fun x72 => lz (f_X11_flag x72) fun x75 => some x75) else (some (a1 ||| a2))))))))))))))))))))))))))))))))))))

set_option maxHeartbeats 4000000 in
set_option maxRecDepth 100000 in
theorem c_X11_apply (l : Launch) (G : GG) (M : Mm) (a0 : Int32) (a1 : Int32) (a2 : Int32) {r : Int32} (hr : f_X11_apply a0 a1 a2 M = some r) : Mo false l yX11_apply (WS yX11_apply cX11_apply 3 (some .int)) (RM 1 0 0 40) 0 0 [.int a0, .int a1, .int a2] G M (some (.int r)) M := by
  refine Mo.of (by decide +kernel) (Nat.le_of_ble_eq_true rfl) ?_
  intro p e s m args below meth c hC
  have hC : CX p s m args meth c cX11_apply 3 RX11 (some .int) G := hC
  rw [f_X11_apply] at hr
  show XJ p l e (RM 1 0 0 40) s m args below meth c G 3 _ 0 0 M 0 [(0, .int a0), (1, .int a1), (2, .int a2)] []
  refine x_iload_n hC dX11_apply_0 rfl 0 rfl ?_
  by_cases s1 : a0 = (26 : Int32)
  · have hr := (ie_s hr).1 s1
    refine x_tableIn hC (off := 261) 262 dX11_apply_1 (by rw [s1]; decide) (by rw [s1]; decide) (by rw [s1]; rfl) (by decide) ?_
    refine x_iload_n hC dX11_apply_262 rfl 1 rfl ?_
    refine x_iload_n hC dX11_apply_263 rfl 2 rfl ?_
    refine x_iand hC dX11_apply_264 ?_
    cases hr
    exact x_iret hC rfl dX11_apply_265
  · have hr := (ie_s hr).2 s1
    by_cases s2 : a0 = (27 : Int32)
    · have hr := (ie_s hr).1 s2
      refine x_tableIn hC (off := 265) 266 dX11_apply_1 (by rw [s2]; decide) (by rw [s2]; decide) (by rw [s2]; rfl) (by decide) ?_
      refine x_iload_n hC dX11_apply_266 rfl 1 rfl ?_
      refine x_iload_n hC dX11_apply_267 rfl 2 rfl ?_
      refine x_ior hC dX11_apply_268 ?_
      cases hr
      exact x_iret hC rfl dX11_apply_269
    · have hr := (ie_s hr).2 s2
      by_cases s3 : a0 = (28 : Int32)
      · have hr := (ie_s hr).1 s3
        refine x_tableIn hC (off := 179) 180 dX11_apply_1 (by rw [s3]; decide) (by rw [s3]; decide) (by rw [s3]; rfl) (by decide) ?_
        refine x_iload_n hC dX11_apply_180 rfl 1 rfl ?_
        refine x_iload_n hC dX11_apply_181 rfl 2 rfl ?_
        refine x_mmin hC km_X11_256 kt_Mmin kn_Math kc_Mmin (Nat.le_of_ble_eq_true rfl) (Nat.le_of_ble_eq_true rfl) ⟨(Nat.le_of_ble_eq_true rfl), (Nat.le_of_ble_eq_true rfl)⟩ dX11_apply_182 ?_
        cases hr
        exact x_iret hC rfl dX11_apply_185
      · have hr := (ie_s hr).2 s3
        by_cases s4 : a0 = (29 : Int32)
        · have hr := (ie_s hr).1 s4
          refine x_tableIn hC (off := 185) 186 dX11_apply_1 (by rw [s4]; decide) (by rw [s4]; decide) (by rw [s4]; rfl) (by decide) ?_
          refine x_iload_n hC dX11_apply_186 rfl 1 rfl ?_
          refine x_iload_n hC dX11_apply_187 rfl 2 rfl ?_
          refine x_mmax hC km_X11_262 kt_Mmax kn_Math kc_Mmax (Nat.le_of_ble_eq_true rfl) (Nat.le_of_ble_eq_true rfl) ⟨(Nat.le_of_ble_eq_true rfl), (Nat.le_of_ble_eq_true rfl)⟩ dX11_apply_188 ?_
          cases hr
          exact x_iret hC rfl dX11_apply_191
        · have hr := (ie_s hr).2 s4
          by_cases s5 : a0 = (30 : Int32)
          · have hr := (ie_s hr).1 s5
            refine x_tableIn hC (off := 265) 266 dX11_apply_1 (by rw [s5]; decide) (by rw [s5]; decide) (by rw [s5]; rfl) (by decide) ?_
            refine x_iload_n hC dX11_apply_266 rfl 1 rfl ?_
            refine x_iload_n hC dX11_apply_267 rfl 2 rfl ?_
            refine x_ior hC dX11_apply_268 ?_
            cases hr
            exact x_iret hC rfl dX11_apply_269
          · have hr := (ie_s hr).2 s5
            by_cases s6 : a0 = (31 : Int32)
            · have hr := (ie_s hr).1 s6
              refine x_tableIn hC (off := 265) 266 dX11_apply_1 (by rw [s6]; decide) (by rw [s6]; decide) (by rw [s6]; rfl) (by decide) ?_
              refine x_iload_n hC dX11_apply_266 rfl 1 rfl ?_
              refine x_iload_n hC dX11_apply_267 rfl 2 rfl ?_
              refine x_ior hC dX11_apply_268 ?_
              cases hr
              exact x_iret hC rfl dX11_apply_269
            · have hr := (ie_s hr).2 s6
              by_cases s7 : a0 = (32 : Int32)
              · have hr := (ie_s hr).1 s7
                refine x_tableIn hC (off := 265) 266 dX11_apply_1 (by rw [s7]; decide) (by rw [s7]; decide) (by rw [s7]; rfl) (by decide) ?_
                refine x_iload_n hC dX11_apply_266 rfl 1 rfl ?_
                refine x_iload_n hC dX11_apply_267 rfl 2 rfl ?_
                refine x_ior hC dX11_apply_268 ?_
                cases hr
                exact x_iret hC rfl dX11_apply_269
              · have hr := (ie_s hr).2 s7
                by_cases s8 : a0 = (33 : Int32)
                · have hr := (ie_s hr).1 s8
                  refine x_tableIn hC (off := 265) 266 dX11_apply_1 (by rw [s8]; decide) (by rw [s8]; decide) (by rw [s8]; rfl) (by decide) ?_
                  refine x_iload_n hC dX11_apply_266 rfl 1 rfl ?_
                  refine x_iload_n hC dX11_apply_267 rfl 2 rfl ?_
                  refine x_ior hC dX11_apply_268 ?_
                  cases hr
                  exact x_iret hC rfl dX11_apply_269
                · have hr := (ie_s hr).2 s8
                  by_cases s9 : a0 = (34 : Int32)
                  · have hr := (ie_s hr).1 s9
                    refine x_tableIn hC (off := 265) 266 dX11_apply_1 (by rw [s9]; decide) (by rw [s9]; decide) (by rw [s9]; rfl) (by decide) ?_
                    refine x_iload_n hC dX11_apply_266 rfl 1 rfl ?_
                    refine x_iload_n hC dX11_apply_267 rfl 2 rfl ?_
                    refine x_ior hC dX11_apply_268 ?_
                    cases hr
                    exact x_iret hC rfl dX11_apply_269
                  · have hr := (ie_s hr).2 s9
                    by_cases s10 : a0 = (35 : Int32)
                    · have hr := (ie_s hr).1 s10
                      refine x_tableIn hC (off := 265) 266 dX11_apply_1 (by rw [s10]; decide) (by rw [s10]; decide) (by rw [s10]; rfl) (by decide) ?_
                      refine x_iload_n hC dX11_apply_266 rfl 1 rfl ?_
                      refine x_iload_n hC dX11_apply_267 rfl 2 rfl ?_
                      refine x_ior hC dX11_apply_268 ?_
                      cases hr
                      exact x_iret hC rfl dX11_apply_269
                    · have hr := (ie_s hr).2 s10
                      by_cases s11 : a0 = (36 : Int32)
                      · have hr := (ie_s hr).1 s11
                        refine x_tableIn hC (off := 265) 266 dX11_apply_1 (by rw [s11]; decide) (by rw [s11]; decide) (by rw [s11]; rfl) (by decide) ?_
                        refine x_iload_n hC dX11_apply_266 rfl 1 rfl ?_
                        refine x_iload_n hC dX11_apply_267 rfl 2 rfl ?_
                        refine x_ior hC dX11_apply_268 ?_
                        cases hr
                        exact x_iret hC rfl dX11_apply_269
                      · have hr := (ie_s hr).2 s11
                        by_cases s12 : a0 = (37 : Int32)
                        · have hr := (ie_s hr).1 s12
                          refine x_tableIn hC (off := 265) 266 dX11_apply_1 (by rw [s12]; decide) (by rw [s12]; decide) (by rw [s12]; rfl) (by decide) ?_
                          refine x_iload_n hC dX11_apply_266 rfl 1 rfl ?_
                          refine x_iload_n hC dX11_apply_267 rfl 2 rfl ?_
                          refine x_ior hC dX11_apply_268 ?_
                          cases hr
                          exact x_iret hC rfl dX11_apply_269
                        · have hr := (ie_s hr).2 s12
                          by_cases s13 : a0 = (38 : Int32)
                          · have hr := (ie_s hr).1 s13
                            refine x_tableIn hC (off := 265) 266 dX11_apply_1 (by rw [s13]; decide) (by rw [s13]; decide) (by rw [s13]; rfl) (by decide) ?_
                            refine x_iload_n hC dX11_apply_266 rfl 1 rfl ?_
                            refine x_iload_n hC dX11_apply_267 rfl 2 rfl ?_
                            refine x_ior hC dX11_apply_268 ?_
                            cases hr
                            exact x_iret hC rfl dX11_apply_269
                          · have hr := (ie_s hr).2 s13
                            by_cases s14 : a0 = (39 : Int32)
                            · have hr := (ie_s hr).1 s14
                              refine x_tableIn hC (off := 265) 266 dX11_apply_1 (by rw [s14]; decide) (by rw [s14]; decide) (by rw [s14]; rfl) (by decide) ?_
                              refine x_iload_n hC dX11_apply_266 rfl 1 rfl ?_
                              refine x_iload_n hC dX11_apply_267 rfl 2 rfl ?_
                              refine x_ior hC dX11_apply_268 ?_
                              cases hr
                              exact x_iret hC rfl dX11_apply_269
                            · have hr := (ie_s hr).2 s14
                              by_cases s15 : a0 = (40 : Int32)
                              · have hr := (ie_s hr).1 s15
                                refine x_tableIn hC (off := 265) 266 dX11_apply_1 (by rw [s15]; decide) (by rw [s15]; decide) (by rw [s15]; rfl) (by decide) ?_
                                refine x_iload_n hC dX11_apply_266 rfl 1 rfl ?_
                                refine x_iload_n hC dX11_apply_267 rfl 2 rfl ?_
                                refine x_ior hC dX11_apply_268 ?_
                                cases hr
                                exact x_iret hC rfl dX11_apply_269
                              · have hr := (ie_s hr).2 s15
                                by_cases s16 : a0 = (41 : Int32)
                                · have hr := (ie_s hr).1 s16
                                  refine x_tableIn hC (off := 265) 266 dX11_apply_1 (by rw [s16]; decide) (by rw [s16]; decide) (by rw [s16]; rfl) (by decide) ?_
                                  refine x_iload_n hC dX11_apply_266 rfl 1 rfl ?_
                                  refine x_iload_n hC dX11_apply_267 rfl 2 rfl ?_
                                  refine x_ior hC dX11_apply_268 ?_
                                  cases hr
                                  exact x_iret hC rfl dX11_apply_269
                                · have hr := (ie_s hr).2 s16
                                  by_cases s17 : a0 = (42 : Int32)
                                  · have hr := (ie_s hr).1 s17
                                    refine x_tableIn hC (off := 265) 266 dX11_apply_1 (by rw [s17]; decide) (by rw [s17]; decide) (by rw [s17]; rfl) (by decide) ?_
                                    refine x_iload_n hC dX11_apply_266 rfl 1 rfl ?_
                                    refine x_iload_n hC dX11_apply_267 rfl 2 rfl ?_
                                    refine x_ior hC dX11_apply_268 ?_
                                    cases hr
                                    exact x_iret hC rfl dX11_apply_269
                                  · have hr := (ie_s hr).2 s17
                                    by_cases s18 : a0 = (43 : Int32)
                                    · have hr := (ie_s hr).1 s18
                                      refine x_tableIn hC (off := 265) 266 dX11_apply_1 (by rw [s18]; decide) (by rw [s18]; decide) (by rw [s18]; rfl) (by decide) ?_
                                      refine x_iload_n hC dX11_apply_266 rfl 1 rfl ?_
                                      refine x_iload_n hC dX11_apply_267 rfl 2 rfl ?_
                                      refine x_ior hC dX11_apply_268 ?_
                                      cases hr
                                      exact x_iret hC rfl dX11_apply_269
                                    · have hr := (ie_s hr).2 s18
                                      by_cases s19 : a0 = (44 : Int32)
                                      · have hr := (ie_s hr).1 s19
                                        refine x_tableIn hC (off := 265) 266 dX11_apply_1 (by rw [s19]; decide) (by rw [s19]; decide) (by rw [s19]; rfl) (by decide) ?_
                                        refine x_iload_n hC dX11_apply_266 rfl 1 rfl ?_
                                        refine x_iload_n hC dX11_apply_267 rfl 2 rfl ?_
                                        refine x_ior hC dX11_apply_268 ?_
                                        cases hr
                                        exact x_iret hC rfl dX11_apply_269
                                      · have hr := (ie_s hr).2 s19
                                        by_cases s20 : a0 = (45 : Int32)
                                        · have hr := (ie_s hr).1 s20
                                          refine x_tableIn hC (off := 265) 266 dX11_apply_1 (by rw [s20]; decide) (by rw [s20]; decide) (by rw [s20]; rfl) (by decide) ?_
                                          refine x_iload_n hC dX11_apply_266 rfl 1 rfl ?_
                                          refine x_iload_n hC dX11_apply_267 rfl 2 rfl ?_
                                          refine x_ior hC dX11_apply_268 ?_
                                          cases hr
                                          exact x_iret hC rfl dX11_apply_269
                                        · have hr := (ie_s hr).2 s20
                                          by_cases s21 : a0 = (46 : Int32)
                                          · have hr := (ie_s hr).1 s21
                                            refine x_tableIn hC (off := 265) 266 dX11_apply_1 (by rw [s21]; decide) (by rw [s21]; decide) (by rw [s21]; rfl) (by decide) ?_
                                            refine x_iload_n hC dX11_apply_266 rfl 1 rfl ?_
                                            refine x_iload_n hC dX11_apply_267 rfl 2 rfl ?_
                                            refine x_ior hC dX11_apply_268 ?_
                                            cases hr
                                            exact x_iret hC rfl dX11_apply_269
                                          · have hr := (ie_s hr).2 s21
                                            by_cases s22 : a0 = (47 : Int32)
                                            · have hr := (ie_s hr).1 s22
                                              refine x_tableIn hC (off := 265) 266 dX11_apply_1 (by rw [s22]; decide) (by rw [s22]; decide) (by rw [s22]; rfl) (by decide) ?_
                                              refine x_iload_n hC dX11_apply_266 rfl 1 rfl ?_
                                              refine x_iload_n hC dX11_apply_267 rfl 2 rfl ?_
                                              refine x_ior hC dX11_apply_268 ?_
                                              cases hr
                                              exact x_iret hC rfl dX11_apply_269
                                            · have hr := (ie_s hr).2 s22
                                              by_cases s23 : a0 = (48 : Int32)
                                              · have hr := (ie_s hr).1 s23
                                                refine x_tableIn hC (off := 265) 266 dX11_apply_1 (by rw [s23]; decide) (by rw [s23]; decide) (by rw [s23]; rfl) (by decide) ?_
                                                refine x_iload_n hC dX11_apply_266 rfl 1 rfl ?_
                                                refine x_iload_n hC dX11_apply_267 rfl 2 rfl ?_
                                                refine x_ior hC dX11_apply_268 ?_
                                                cases hr
                                                exact x_iret hC rfl dX11_apply_269
                                              · have hr := (ie_s hr).2 s23
                                                by_cases s24 : a0 = (49 : Int32)
                                                · have hr := (ie_s hr).1 s24
                                                  refine x_tableIn hC (off := 265) 266 dX11_apply_1 (by rw [s24]; decide) (by rw [s24]; decide) (by rw [s24]; rfl) (by decide) ?_
                                                  refine x_iload_n hC dX11_apply_266 rfl 1 rfl ?_
                                                  refine x_iload_n hC dX11_apply_267 rfl 2 rfl ?_
                                                  refine x_ior hC dX11_apply_268 ?_
                                                  cases hr
                                                  exact x_iret hC rfl dX11_apply_269
                                                · have hr := (ie_s hr).2 s24
                                                  by_cases s25 : a0 = (50 : Int32)
                                                  · have hr := (ie_s hr).1 s25
                                                    refine x_tableIn hC (off := 265) 266 dX11_apply_1 (by rw [s25]; decide) (by rw [s25]; decide) (by rw [s25]; rfl) (by decide) ?_
                                                    refine x_iload_n hC dX11_apply_266 rfl 1 rfl ?_
                                                    refine x_iload_n hC dX11_apply_267 rfl 2 rfl ?_
                                                    refine x_ior hC dX11_apply_268 ?_
                                                    cases hr
                                                    exact x_iret hC rfl dX11_apply_269
                                                  · have hr := (ie_s hr).2 s25
                                                    by_cases s26 : a0 = (51 : Int32)
                                                    · have hr := (ie_s hr).1 s26
                                                      refine x_tableIn hC (off := 265) 266 dX11_apply_1 (by rw [s26]; decide) (by rw [s26]; decide) (by rw [s26]; rfl) (by decide) ?_
                                                      refine x_iload_n hC dX11_apply_266 rfl 1 rfl ?_
                                                      refine x_iload_n hC dX11_apply_267 rfl 2 rfl ?_
                                                      refine x_ior hC dX11_apply_268 ?_
                                                      cases hr
                                                      exact x_iret hC rfl dX11_apply_269
                                                    · have hr := (ie_s hr).2 s26
                                                      by_cases s27 : a0 = (52 : Int32)
                                                      · have hr := (ie_s hr).1 s27
                                                        refine x_tableIn hC (off := 155) 156 dX11_apply_1 (by rw [s27]; decide) (by rw [s27]; decide) (by rw [s27]; rfl) (by decide) ?_
                                                        refine x_iload_n hC dX11_apply_156 rfl 1 rfl ?_
                                                        refine x_iload_n hC dX11_apply_157 rfl 2 rfl ?_
                                                        refine x_iadd hC dX11_apply_158 ?_
                                                        cases hr
                                                        exact x_iret hC rfl dX11_apply_159
                                                      · have hr := (ie_s hr).2 s27
                                                        by_cases s28 : a0 = (53 : Int32)
                                                        · have hr := (ie_s hr).1 s28
                                                          refine x_tableIn hC (off := 159) 160 dX11_apply_1 (by rw [s28]; decide) (by rw [s28]; decide) (by rw [s28]; rfl) (by decide) ?_
                                                          refine x_iload_n hC dX11_apply_160 rfl 1 rfl ?_
                                                          refine x_iload_n hC dX11_apply_161 rfl 2 rfl ?_
                                                          refine x_isub hC dX11_apply_162 ?_
                                                          cases hr
                                                          exact x_iret hC rfl dX11_apply_163
                                                        · have hr := (ie_s hr).2 s28
                                                          by_cases s29 : a0 = (54 : Int32)
                                                          · have hr := (ie_s hr).1 s29
                                                            refine x_tableIn hC (off := 163) 164 dX11_apply_1 (by rw [s29]; decide) (by rw [s29]; decide) (by rw [s29]; rfl) (by decide) ?_
                                                            refine x_iload_n hC dX11_apply_164 rfl 1 rfl ?_
                                                            refine x_iload_n hC dX11_apply_165 rfl 2 rfl ?_
                                                            refine x_imul hC dX11_apply_166 ?_
                                                            cases hr
                                                            exact x_iret hC rfl dX11_apply_167
                                                          · have hr := (ie_s hr).2 s29
                                                            by_cases s30 : a0 = (55 : Int32)
                                                            · have hr := (ie_s hr).1 s30
                                                              refine x_tableIn hC (off := 167) 168 dX11_apply_1 (by rw [s30]; decide) (by rw [s30]; decide) (by rw [s30]; rfl) (by decide) ?_
                                                              refine x_iload_n hC dX11_apply_168 rfl 2 rfl ?_
                                                              refine x_if_ne hC 176 dX11_apply_169 (by decide) (fun h31 => ?_) (fun h31 => ?_)
                                                              · have hr := (ie_s hr).2 h31
                                                                refine x_iload_n hC dX11_apply_176 rfl 1 rfl ?_
                                                                refine x_iload_n hC dX11_apply_177 rfl 2 rfl ?_
                                                                obtain ⟨h32, hr⟩ := it_s hr
                                                                refine x_idiv hC dX11_apply_178 h32 ?_
                                                                cases hr
                                                                exact x_iret hC rfl dX11_apply_179
                                                              · have hr := (ie_s hr).1 h31
                                                                refine x_iconst hC (0 : Int32) dX11_apply_172 (by decide) ?_
                                                                refine x_goto hC 179 dX11_apply_173 (by decide) ?_
                                                                cases hr
                                                                exact x_iret hC rfl dX11_apply_179
                                                            · have hr := (ie_s hr).2 s30
                                                              by_cases s33 : a0 = (56 : Int32)
                                                              · have hr := (ie_s hr).1 s33
                                                                refine x_tableIn hC (off := 191) 192 dX11_apply_1 (by rw [s33]; decide) (by rw [s33]; decide) (by rw [s33]; rfl) (by decide) ?_
                                                                refine x_iload_n hC dX11_apply_192 rfl 1 rfl ?_
                                                                refine x_iload_n hC dX11_apply_193 rfl 2 rfl ?_
                                                                obtain ⟨x36, e37, hr⟩ := lz_s hr
                                                                have q34 := e37.symm
                                                                refine x_joinB (P := (x36 = 0 ∨ x36 = 1)) (M' := M) (pc' := 202) (lv' := []) (st' := [.int x36]) ?_ ?_
                                                                · intro b38
                                                                  obtain ⟨x39, e40, hr⟩ := lz_s hr
                                                                  refine x_callS (As := [.int x36]) hC (c_X11_flag l G M x36 e40.symm) kc_yX11_flag km_X11_265 kt_yX11_flag kn_RX11 ky_yX11_flag rfl ⟨rfl, rfl⟩ ⟨(Nat.le_of_ble_eq_true rfl), (Nat.le_of_ble_eq_true rfl)⟩ rfl (Nat.le_of_ble_eq_true rfl) ⟨(Nat.le_of_ble_eq_true rfl), (Nat.le_of_ble_eq_true rfl)⟩ dX11_apply_202 (fun b41 => ?_)
                                                                  cases hr
                                                                  exact x_iret hC rfl dX11_apply_205
                                                                · intro kj
                                                                  refine x_icmp_ge hC 201 dX11_apply_194 (by decide) (fun h35 => ?_) (fun h35 => ?_)
                                                                  · have q34 := (ie_s q34).1 h35
                                                                    refine x_iconst hC (0 : Int32) dX11_apply_201 (by decide) ?_
                                                                    subst q34
                                                                    exact x_sub [] rfl (kj (Or.inl rfl))
                                                                  · have q34 := (ie_s q34).2 h35
                                                                    refine x_iconst hC (1 : Int32) dX11_apply_197 (by decide) ?_
                                                                    refine x_goto hC 202 dX11_apply_198 (by decide) ?_
                                                                    subst q34
                                                                    exact x_sub [] rfl (kj (Or.inr rfl))
                                                              · have hr := (ie_s hr).2 s33
                                                                by_cases s42 : a0 = (57 : Int32)
                                                                · have hr := (ie_s hr).1 s42
                                                                  refine x_tableIn hC (off := 205) 206 dX11_apply_1 (by rw [s42]; decide) (by rw [s42]; decide) (by rw [s42]; rfl) (by decide) ?_
                                                                  refine x_iload_n hC dX11_apply_206 rfl 1 rfl ?_
                                                                  refine x_iload_n hC dX11_apply_207 rfl 2 rfl ?_
                                                                  obtain ⟨x45, e46, hr⟩ := lz_s hr
                                                                  have q43 := e46.symm
                                                                  refine x_joinB (P := (x45 = 0 ∨ x45 = 1)) (M' := M) (pc' := 216) (lv' := []) (st' := [.int x45]) ?_ ?_
                                                                  · intro b47
                                                                    obtain ⟨x48, e49, hr⟩ := lz_s hr
                                                                    refine x_callS (As := [.int x45]) hC (c_X11_flag l G M x45 e49.symm) kc_yX11_flag km_X11_265 kt_yX11_flag kn_RX11 ky_yX11_flag rfl ⟨rfl, rfl⟩ ⟨(Nat.le_of_ble_eq_true rfl), (Nat.le_of_ble_eq_true rfl)⟩ rfl (Nat.le_of_ble_eq_true rfl) ⟨(Nat.le_of_ble_eq_true rfl), (Nat.le_of_ble_eq_true rfl)⟩ dX11_apply_216 (fun b50 => ?_)
                                                                    cases hr
                                                                    exact x_iret hC rfl dX11_apply_219
                                                                  · intro kj
                                                                    refine x_icmp_le hC 215 dX11_apply_208 (by decide) (fun h44 => ?_) (fun h44 => ?_)
                                                                    · have q43 := (ie_s q43).1 h44
                                                                      refine x_iconst hC (0 : Int32) dX11_apply_215 (by decide) ?_
                                                                      subst q43
                                                                      exact x_sub [] rfl (kj (Or.inl rfl))
                                                                    · have q43 := (ie_s q43).2 h44
                                                                      refine x_iconst hC (1 : Int32) dX11_apply_211 (by decide) ?_
                                                                      refine x_goto hC 216 dX11_apply_212 (by decide) ?_
                                                                      subst q43
                                                                      exact x_sub [] rfl (kj (Or.inr rfl))
                                                                · have hr := (ie_s hr).2 s42
                                                                  by_cases s51 : a0 = (58 : Int32)
                                                                  · have hr := (ie_s hr).1 s51
                                                                    refine x_tableIn hC (off := 219) 220 dX11_apply_1 (by rw [s51]; decide) (by rw [s51]; decide) (by rw [s51]; rfl) (by decide) ?_
                                                                    refine x_iload_n hC dX11_apply_220 rfl 1 rfl ?_
                                                                    refine x_iload_n hC dX11_apply_221 rfl 2 rfl ?_
                                                                    obtain ⟨x54, e55, hr⟩ := lz_s hr
                                                                    have q52 := e55.symm
                                                                    refine x_joinB (P := (x54 = 0 ∨ x54 = 1)) (M' := M) (pc' := 230) (lv' := []) (st' := [.int x54]) ?_ ?_
                                                                    · intro b56
                                                                      obtain ⟨x57, e58, hr⟩ := lz_s hr
                                                                      refine x_callS (As := [.int x54]) hC (c_X11_flag l G M x54 e58.symm) kc_yX11_flag km_X11_265 kt_yX11_flag kn_RX11 ky_yX11_flag rfl ⟨rfl, rfl⟩ ⟨(Nat.le_of_ble_eq_true rfl), (Nat.le_of_ble_eq_true rfl)⟩ rfl (Nat.le_of_ble_eq_true rfl) ⟨(Nat.le_of_ble_eq_true rfl), (Nat.le_of_ble_eq_true rfl)⟩ dX11_apply_230 (fun b59 => ?_)
                                                                      cases hr
                                                                      exact x_iret hC rfl dX11_apply_233
                                                                    · intro kj
                                                                      refine x_icmp_ne hC 229 dX11_apply_222 (by decide) (fun h53 => ?_) (fun h53 => ?_)
                                                                      · have q52 := (ie_s q52).2 h53
                                                                        refine x_iconst hC (0 : Int32) dX11_apply_229 (by decide) ?_
                                                                        subst q52
                                                                        exact x_sub [] rfl (kj (Or.inl rfl))
                                                                      · have q52 := (ie_s q52).1 h53
                                                                        refine x_iconst hC (1 : Int32) dX11_apply_225 (by decide) ?_
                                                                        refine x_goto hC 230 dX11_apply_226 (by decide) ?_
                                                                        subst q52
                                                                        exact x_sub [] rfl (kj (Or.inr rfl))
                                                                  · have hr := (ie_s hr).2 s51
                                                                    by_cases s60 : a0 = (59 : Int32)
                                                                    · have hr := (ie_s hr).1 s60
                                                                      refine x_tableIn hC (off := 233) 234 dX11_apply_1 (by rw [s60]; decide) (by rw [s60]; decide) (by rw [s60]; rfl) (by decide) ?_
                                                                      refine x_iload_n hC dX11_apply_234 rfl 1 rfl ?_
                                                                      refine x_iload_n hC dX11_apply_235 rfl 2 rfl ?_
                                                                      obtain ⟨x63, e64, hr⟩ := lz_s hr
                                                                      have q61 := e64.symm
                                                                      refine x_joinB (P := (x63 = 0 ∨ x63 = 1)) (M' := M) (pc' := 244) (lv' := []) (st' := [.int x63]) ?_ ?_
                                                                      · intro b65
                                                                        obtain ⟨x66, e67, hr⟩ := lz_s hr
                                                                        refine x_callS (As := [.int x63]) hC (c_X11_flag l G M x63 e67.symm) kc_yX11_flag km_X11_265 kt_yX11_flag kn_RX11 ky_yX11_flag rfl ⟨rfl, rfl⟩ ⟨(Nat.le_of_ble_eq_true rfl), (Nat.le_of_ble_eq_true rfl)⟩ rfl (Nat.le_of_ble_eq_true rfl) ⟨(Nat.le_of_ble_eq_true rfl), (Nat.le_of_ble_eq_true rfl)⟩ dX11_apply_244 (fun b68 => ?_)
                                                                        cases hr
                                                                        exact x_iret hC rfl dX11_apply_247
                                                                      · intro kj
                                                                        refine x_icmp_gt hC 243 dX11_apply_236 (by decide) (fun h62 => ?_) (fun h62 => ?_)
                                                                        · have q61 := (ie_s q61).1 h62
                                                                          refine x_iconst hC (0 : Int32) dX11_apply_243 (by decide) ?_
                                                                          subst q61
                                                                          exact x_sub [] rfl (kj (Or.inl rfl))
                                                                        · have q61 := (ie_s q61).2 h62
                                                                          refine x_iconst hC (1 : Int32) dX11_apply_239 (by decide) ?_
                                                                          refine x_goto hC 244 dX11_apply_240 (by decide) ?_
                                                                          subst q61
                                                                          exact x_sub [] rfl (kj (Or.inr rfl))
                                                                    · have hr := (ie_s hr).2 s60
                                                                      by_cases s69 : a0 = (60 : Int32)
                                                                      · have hr := (ie_s hr).1 s69
                                                                        refine x_tableIn hC (off := 247) 248 dX11_apply_1 (by rw [s69]; decide) (by rw [s69]; decide) (by rw [s69]; rfl) (by decide) ?_
                                                                        refine x_iload_n hC dX11_apply_248 rfl 1 rfl ?_
                                                                        refine x_iload_n hC dX11_apply_249 rfl 2 rfl ?_
                                                                        obtain ⟨x72, e73, hr⟩ := lz_s hr
                                                                        have q70 := e73.symm
                                                                        refine x_joinB (P := (x72 = 0 ∨ x72 = 1)) (M' := M) (pc' := 258) (lv' := []) (st' := [.int x72]) ?_ ?_
                                                                        · intro b74
                                                                          obtain ⟨x75, e76, hr⟩ := lz_s hr
                                                                          refine x_callS (As := [.int x72]) hC (c_X11_flag l G M x72 e76.symm) kc_yX11_flag km_X11_265 kt_yX11_flag kn_RX11 ky_yX11_flag rfl ⟨rfl, rfl⟩ ⟨(Nat.le_of_ble_eq_true rfl), (Nat.le_of_ble_eq_true rfl)⟩ rfl (Nat.le_of_ble_eq_true rfl) ⟨(Nat.le_of_ble_eq_true rfl), (Nat.le_of_ble_eq_true rfl)⟩ dX11_apply_258 (fun b77 => ?_)
                                                                          cases hr
                                                                          exact x_iret hC rfl dX11_apply_261
                                                                        · intro kj
                                                                          refine x_icmp_lt hC 257 dX11_apply_250 (by decide) (fun h71 => ?_) (fun h71 => ?_)
                                                                          · have q70 := (ie_s q70).1 h71
                                                                            refine x_iconst hC (0 : Int32) dX11_apply_257 (by decide) ?_
                                                                            subst q70
                                                                            exact x_sub [] rfl (kj (Or.inl rfl))
                                                                          · have q70 := (ie_s q70).2 h71
                                                                            refine x_iconst hC (1 : Int32) dX11_apply_253 (by decide) ?_
                                                                            refine x_goto hC 258 dX11_apply_254 (by decide) ?_
                                                                            subst q70
                                                                            exact x_sub [] rfl (kj (Or.inr rfl))
                                                                      · have hr := (ie_s hr).2 s69
                                                                        refine x_tableOut hC 266 dX11_apply_1 (by have := ne_toI s1 (z := 26) (by decide); have := ne_toI s2 (z := 27) (by decide); have := ne_toI s3 (z := 28) (by decide); have := ne_toI s4 (z := 29) (by decide); have := ne_toI s5 (z := 30) (by decide); have := ne_toI s6 (z := 31) (by decide); have := ne_toI s7 (z := 32) (by decide); have := ne_toI s8 (z := 33) (by decide); have := ne_toI s9 (z := 34) (by decide); have := ne_toI s10 (z := 35) (by decide); have := ne_toI s11 (z := 36) (by decide); have := ne_toI s12 (z := 37) (by decide); have := ne_toI s13 (z := 38) (by decide); have := ne_toI s14 (z := 39) (by decide); have := ne_toI s15 (z := 40) (by decide); have := ne_toI s16 (z := 41) (by decide); have := ne_toI s17 (z := 42) (by decide); have := ne_toI s18 (z := 43) (by decide); have := ne_toI s19 (z := 44) (by decide); have := ne_toI s20 (z := 45) (by decide); have := ne_toI s21 (z := 46) (by decide); have := ne_toI s22 (z := 47) (by decide); have := ne_toI s23 (z := 48) (by decide); have := ne_toI s24 (z := 49) (by decide); have := ne_toI s25 (z := 50) (by decide); have := ne_toI s26 (z := 51) (by decide); have := ne_toI s27 (z := 52) (by decide); have := ne_toI s28 (z := 53) (by decide); have := ne_toI s29 (z := 54) (by decide); have := ne_toI s30 (z := 55) (by decide); have := ne_toI s33 (z := 56) (by decide); have := ne_toI s42 (z := 57) (by decide); have := ne_toI s51 (z := 58) (by decide); have := ne_toI s60 (z := 59) (by decide); have := ne_toI s69 (z := 60) (by decide); omega) (by decide) ?_
                                                                        refine x_iload_n hC dX11_apply_266 rfl 1 rfl ?_
                                                                        refine x_iload_n hC dX11_apply_267 rfl 2 rfl ?_
                                                                        refine x_ior hC dX11_apply_268 ?_
                                                                        cases hr
                                                                        exact x_iret hC rfl dX11_apply_269

theorem dX11_reckon_0 : decode cX11_reckon 0 = .ok (.iconst 0, 1) := by decide +kernel
theorem dX11_reckon_1 : decode cX11_reckon 1 = .ok (.istore 4, 2) := by decide +kernel
theorem dX11_reckon_3 : decode cX11_reckon 3 = .ok (.iload_n 3, 1) := by decide +kernel
theorem dX11_reckon_4 : decode cX11_reckon 4 = .ok (.istore 5, 2) := by decide +kernel
theorem dX11_reckon_6 : decode cX11_reckon 6 = .ok (.aload_n 0, 1) := by decide +kernel
theorem dX11_reckon_7 : decode cX11_reckon 7 = .ok (.getfield 26, 3) := by decide +kernel
theorem dX11_reckon_10 : decode cX11_reckon 10 = .ok (.iload 5, 2) := by decide +kernel
theorem dX11_reckon_12 : decode cX11_reckon 12 = .ok (.iaload, 1) := by decide +kernel
theorem dX11_reckon_13 : decode cX11_reckon 13 = .ok (.bipush 61, 2) := by decide +kernel
theorem dX11_reckon_15 : decode cX11_reckon 15 = .ok (.if_icmp .eq 173, 3) := by decide +kernel
theorem dX11_reckon_18 : decode cX11_reckon 18 = .ok (.aload_n 0, 1) := by decide +kernel
theorem dX11_reckon_19 : decode cX11_reckon 19 = .ok (.getfield 26, 3) := by decide +kernel
theorem dX11_reckon_22 : decode cX11_reckon 22 = .ok (.iload 5, 2) := by decide +kernel
theorem dX11_reckon_24 : decode cX11_reckon 24 = .ok (.iaload, 1) := by decide +kernel
theorem dX11_reckon_25 : decode cX11_reckon 25 = .ok (.istore 6, 2) := by decide +kernel
theorem dX11_reckon_27 : decode cX11_reckon 27 = .ok (.iinc 5 1, 3) := by decide +kernel
theorem dX11_reckon_30 : decode cX11_reckon 30 = .ok (.iload 6, 2) := by decide +kernel
theorem dX11_reckon_32 : decode cX11_reckon 32 = .ok (.bipush 50, 2) := by decide +kernel
theorem dX11_reckon_34 : decode cX11_reckon 34 = .ok (.if_icmp .ne 26, 3) := by decide +kernel
theorem dX11_reckon_37 : decode cX11_reckon 37 = .ok (.aload_n 0, 1) := by decide +kernel
theorem dX11_reckon_38 : decode cX11_reckon 38 = .ok (.getfield 47, 3) := by decide +kernel
theorem dX11_reckon_41 : decode cX11_reckon 41 = .ok (.iload 4, 2) := by decide +kernel
theorem dX11_reckon_43 : decode cX11_reckon 43 = .ok (.aload_n 0, 1) := by decide +kernel
theorem dX11_reckon_44 : decode cX11_reckon 44 = .ok (.getfield 26, 3) := by decide +kernel
theorem dX11_reckon_47 : decode cX11_reckon 47 = .ok (.iload 5, 2) := by decide +kernel
theorem dX11_reckon_49 : decode cX11_reckon 49 = .ok (.iaload, 1) := by decide +kernel
theorem dX11_reckon_50 : decode cX11_reckon 50 = .ok (.iastore, 1) := by decide +kernel
theorem dX11_reckon_51 : decode cX11_reckon 51 = .ok (.iinc 5 1, 3) := by decide +kernel
theorem dX11_reckon_54 : decode cX11_reckon 54 = .ok (.iinc 4 1, 3) := by decide +kernel
theorem dX11_reckon_57 : decode cX11_reckon 57 = .ok (.goto 128, 3) := by decide +kernel
theorem dX11_reckon_60 : decode cX11_reckon 60 = .ok (.iload 6, 2) := by decide +kernel
theorem dX11_reckon_62 : decode cX11_reckon 62 = .ok (.bipush 12, 2) := by decide +kernel
theorem dX11_reckon_64 : decode cX11_reckon 64 = .ok (.bipush 24, 2) := by decide +kernel
theorem dX11_reckon_66 : decode cX11_reckon 66 = .ok (.invokestatic 72, 3) := by decide +kernel
theorem dX11_reckon_69 : decode cX11_reckon 69 = .ok (.ifCond .eq 24, 3) := by decide +kernel
theorem dX11_reckon_72 : decode cX11_reckon 72 = .ok (.aload_n 0, 1) := by decide +kernel
theorem dX11_reckon_73 : decode cX11_reckon 73 = .ok (.getfield 47, 3) := by decide +kernel
theorem dX11_reckon_76 : decode cX11_reckon 76 = .ok (.iload 4, 2) := by decide +kernel
theorem dX11_reckon_78 : decode cX11_reckon 78 = .ok (.aload_n 0, 1) := by decide +kernel
theorem dX11_reckon_79 : decode cX11_reckon 79 = .ok (.aload_n 1, 1) := by decide +kernel
theorem dX11_reckon_80 : decode cX11_reckon 80 = .ok (.iload_n 2, 1) := by decide +kernel
theorem dX11_reckon_81 : decode cX11_reckon 81 = .ok (.iload 6, 2) := by decide +kernel
theorem dX11_reckon_83 : decode cX11_reckon 83 = .ok (.invokevirtual 269, 3) := by decide +kernel
theorem dX11_reckon_86 : decode cX11_reckon 86 = .ok (.iastore, 1) := by decide +kernel
theorem dX11_reckon_87 : decode cX11_reckon 87 = .ok (.iinc 4 1, 3) := by decide +kernel
theorem dX11_reckon_90 : decode cX11_reckon 90 = .ok (.goto 95, 3) := by decide +kernel
theorem dX11_reckon_93 : decode cX11_reckon 93 = .ok (.iload 6, 2) := by decide +kernel
theorem dX11_reckon_95 : decode cX11_reckon 95 = .ok (.bipush 51, 2) := by decide +kernel
theorem dX11_reckon_97 : decode cX11_reckon 97 = .ok (.if_icmp .ne 25, 3) := by decide +kernel
theorem dX11_reckon_100 : decode cX11_reckon 100 = .ok (.aload_n 0, 1) := by decide +kernel
theorem dX11_reckon_101 : decode cX11_reckon 101 = .ok (.getfield 47, 3) := by decide +kernel
theorem dX11_reckon_104 : decode cX11_reckon 104 = .ok (.iload 4, 2) := by decide +kernel
theorem dX11_reckon_106 : decode cX11_reckon 106 = .ok (.iconst 1, 1) := by decide +kernel
theorem dX11_reckon_107 : decode cX11_reckon 107 = .ok (.isub, 1) := by decide +kernel
theorem dX11_reckon_108 : decode cX11_reckon 108 = .ok (.aload_n 0, 1) := by decide +kernel
theorem dX11_reckon_109 : decode cX11_reckon 109 = .ok (.getfield 47, 3) := by decide +kernel
theorem dX11_reckon_112 : decode cX11_reckon 112 = .ok (.iload 4, 2) := by decide +kernel
theorem dX11_reckon_114 : decode cX11_reckon 114 = .ok (.iconst 1, 1) := by decide +kernel
theorem dX11_reckon_115 : decode cX11_reckon 115 = .ok (.isub, 1) := by decide +kernel
theorem dX11_reckon_116 : decode cX11_reckon 116 = .ok (.iaload, 1) := by decide +kernel
theorem dX11_reckon_117 : decode cX11_reckon 117 = .ok (.ineg, 1) := by decide +kernel
theorem dX11_reckon_118 : decode cX11_reckon 118 = .ok (.iastore, 1) := by decide +kernel
theorem dX11_reckon_119 : decode cX11_reckon 119 = .ok (.goto 66, 3) := by decide +kernel
theorem dX11_reckon_122 : decode cX11_reckon 122 = .ok (.iload 6, 2) := by decide +kernel
theorem dX11_reckon_124 : decode cX11_reckon 124 = .ok (.bipush 25, 2) := by decide +kernel
theorem dX11_reckon_126 : decode cX11_reckon 126 = .ok (.if_icmp .ne 26, 3) := by decide +kernel
theorem dX11_reckon_129 : decode cX11_reckon 129 = .ok (.aload_n 0, 1) := by decide +kernel
theorem dX11_reckon_130 : decode cX11_reckon 130 = .ok (.getfield 47, 3) := by decide +kernel
theorem dX11_reckon_133 : decode cX11_reckon 133 = .ok (.iload 4, 2) := by decide +kernel
theorem dX11_reckon_135 : decode cX11_reckon 135 = .ok (.iconst 1, 1) := by decide +kernel
theorem dX11_reckon_136 : decode cX11_reckon 136 = .ok (.isub, 1) := by decide +kernel
theorem dX11_reckon_137 : decode cX11_reckon 137 = .ok (.iconst 1, 1) := by decide +kernel
theorem dX11_reckon_138 : decode cX11_reckon 138 = .ok (.aload_n 0, 1) := by decide +kernel
theorem dX11_reckon_139 : decode cX11_reckon 139 = .ok (.getfield 47, 3) := by decide +kernel
theorem dX11_reckon_142 : decode cX11_reckon 142 = .ok (.iload 4, 2) := by decide +kernel
theorem dX11_reckon_144 : decode cX11_reckon 144 = .ok (.iconst 1, 1) := by decide +kernel
theorem dX11_reckon_145 : decode cX11_reckon 145 = .ok (.isub, 1) := by decide +kernel
theorem dX11_reckon_146 : decode cX11_reckon 146 = .ok (.iaload, 1) := by decide +kernel
theorem dX11_reckon_147 : decode cX11_reckon 147 = .ok (.isub, 1) := by decide +kernel
theorem dX11_reckon_148 : decode cX11_reckon 148 = .ok (.iastore, 1) := by decide +kernel
theorem dX11_reckon_149 : decode cX11_reckon 149 = .ok (.goto 36, 3) := by decide +kernel
theorem dX11_reckon_152 : decode cX11_reckon 152 = .ok (.iinc 4 (-1), 3) := by decide +kernel
theorem dX11_reckon_155 : decode cX11_reckon 155 = .ok (.aload_n 0, 1) := by decide +kernel
theorem dX11_reckon_156 : decode cX11_reckon 156 = .ok (.getfield 47, 3) := by decide +kernel
theorem dX11_reckon_159 : decode cX11_reckon 159 = .ok (.iload 4, 2) := by decide +kernel
theorem dX11_reckon_161 : decode cX11_reckon 161 = .ok (.iconst 1, 1) := by decide +kernel
theorem dX11_reckon_162 : decode cX11_reckon 162 = .ok (.isub, 1) := by decide +kernel
theorem dX11_reckon_163 : decode cX11_reckon 163 = .ok (.iload 6, 2) := by decide +kernel
theorem dX11_reckon_165 : decode cX11_reckon 165 = .ok (.aload_n 0, 1) := by decide +kernel
theorem dX11_reckon_166 : decode cX11_reckon 166 = .ok (.getfield 47, 3) := by decide +kernel
theorem dX11_reckon_169 : decode cX11_reckon 169 = .ok (.iload 4, 2) := by decide +kernel
theorem dX11_reckon_171 : decode cX11_reckon 171 = .ok (.iconst 1, 1) := by decide +kernel
theorem dX11_reckon_172 : decode cX11_reckon 172 = .ok (.isub, 1) := by decide +kernel
theorem dX11_reckon_173 : decode cX11_reckon 173 = .ok (.iaload, 1) := by decide +kernel
theorem dX11_reckon_174 : decode cX11_reckon 174 = .ok (.aload_n 0, 1) := by decide +kernel
theorem dX11_reckon_175 : decode cX11_reckon 175 = .ok (.getfield 47, 3) := by decide +kernel
theorem dX11_reckon_178 : decode cX11_reckon 178 = .ok (.iload 4, 2) := by decide +kernel
theorem dX11_reckon_180 : decode cX11_reckon 180 = .ok (.iaload, 1) := by decide +kernel
theorem dX11_reckon_181 : decode cX11_reckon 181 = .ok (.invokestatic 273, 3) := by decide +kernel
theorem dX11_reckon_184 : decode cX11_reckon 184 = .ok (.iastore, 1) := by decide +kernel
theorem dX11_reckon_185 : decode cX11_reckon 185 = .ok (.goto (-179), 3) := by decide +kernel
theorem dX11_reckon_188 : decode cX11_reckon 188 = .ok (.aload_n 0, 1) := by decide +kernel
theorem dX11_reckon_189 : decode cX11_reckon 189 = .ok (.iload 5, 2) := by decide +kernel
theorem dX11_reckon_191 : decode cX11_reckon 191 = .ok (.iconst 1, 1) := by decide +kernel
theorem dX11_reckon_192 : decode cX11_reckon 192 = .ok (.iadd, 1) := by decide +kernel
theorem dX11_reckon_193 : decode cX11_reckon 193 = .ok (.putfield 277, 3) := by decide +kernel
theorem dX11_reckon_196 : decode cX11_reckon 196 = .ok (.aload_n 0, 1) := by decide +kernel
theorem dX11_reckon_197 : decode cX11_reckon 197 = .ok (.getfield 47, 3) := by decide +kernel
theorem dX11_reckon_200 : decode cX11_reckon 200 = .ok (.iconst 0, 1) := by decide +kernel
theorem dX11_reckon_201 : decode cX11_reckon 201 = .ok (.iaload, 1) := by decide +kernel
theorem dX11_reckon_202 : decode cX11_reckon 202 = .ok (.ireturn, 1) := by decide +kernel
def f_X11_reckon_L6 (i0 : Nat) (i1 : Nat) (a2 : Int32) : Nat → Int32 → Int32 → Mm → Option (Int32 × Mm)
  | 0, _, _, _ => none
  | n + 1, v4, v5, M =>
    if 0 ≤ v5.toInt ∧ v5.toInt < ((4000 : Nat) : Int) then (if ((M (i0 + 5) (ix v5)) = (61 : Int32)) then (some (v5, M)) else (if 0 ≤ v5.toInt ∧ v5.toInt < ((4000 : Nat) : Int) then (lz (v5 + (1 : Int32)) fun x4 => bd3 (if ((M (i0 + 5) (ix v5)) = (50 : Int32)) then (if 0 ≤ x4.toInt ∧ x4.toInt < ((4000 : Nat) : Int) then (if 0 ≤ v4.toInt ∧ v4.toInt < ((400 : Nat) : Int) then (lz (wr M (i0 + 12) (ix v4) (M (i0 + 5) (ix x4))) fun M42 => lz (x4 + (1 : Int32)) fun x44 => lz (v4 + (1 : Int32)) fun x46 => some (x46, x44, M42)) else none) else none) else (lz (f_X11_isIn (M (i0 + 5) (ix v5)) (12 : Int32) (24 : Int32)) fun x8 => if (x8 = 0) then (if ((M (i0 + 5) (ix v5)) = (51 : Int32)) then (if 0 ≤ (v4 - (1 : Int32)).toInt ∧ (v4 - (1 : Int32)).toInt < ((400 : Nat) : Int) then (if 0 ≤ (v4 - (1 : Int32)).toInt ∧ (v4 - (1 : Int32)).toInt < ((400 : Nat) : Int) then (lz (wr M (i0 + 12) (ix (v4 - (1 : Int32))) (-(M (i0 + 12) (ix (v4 - (1 : Int32)))))) fun M30 => some (v4, x4, M30)) else none) else none) else (if ((M (i0 + 5) (ix v5)) = (25 : Int32)) then (if 0 ≤ (v4 - (1 : Int32)).toInt ∧ (v4 - (1 : Int32)).toInt < ((400 : Nat) : Int) then (if 0 ≤ (v4 - (1 : Int32)).toInt ∧ (v4 - (1 : Int32)).toInt < ((400 : Nat) : Int) then (lz (wr M (i0 + 12) (ix (v4 - (1 : Int32))) ((1 : Int32) - (M (i0 + 12) (ix (v4 - (1 : Int32)))))) fun M26 => some (v4, x4, M26)) else none) else none) else (lz (v4 + (-1 : Int32)) fun x14 => if 0 ≤ (x14 - (1 : Int32)).toInt ∧ (x14 - (1 : Int32)).toInt < ((400 : Nat) : Int) then (if 0 ≤ x14.toInt ∧ x14.toInt < ((400 : Nat) : Int) then (bd1 (f_X11_apply (M (i0 + 5) (ix v5)) (M (i0 + 12) (ix (x14 - (1 : Int32)))) (M (i0 + 12) (ix x14)) M) fun x18 => if 0 ≤ (x14 - (1 : Int32)).toInt ∧ (x14 - (1 : Int32)).toInt < ((400 : Nat) : Int) then (lz (wr M (i0 + 12) (ix (x14 - (1 : Int32))) x18) fun M22 => some (x14, x4, M22)) else none) else none) else none))) else (bd1 (f_X11_told i0 i1 a2 (M (i0 + 5) (ix v5)) M) fun x32 => if 0 ≤ v4.toInt ∧ v4.toInt < ((400 : Nat) : Int) then (lz (wr M (i0 + 12) (ix v4) x32) fun M36 => lz (v4 + (1 : Int32)) fun x38 => some (x38, x4, M36)) else none))) fun x48 x49 M50 => f_X11_reckon_L6 i0 i1 a2 n x48 x49 M50) else none)) else none
def f_X11_reckon (i0 : Nat) (i1 : Nat) (a2 : Int32) (a3 : Int32) (M : Mm) : Option (Int32 × Mm) :=
  bd2 (f_X11_reckon_L6 i0 i1 a2 FU (0 : Int32) a3 M) fun x52 M53 => lz (wr M53 i0 28 (x52 + (1 : Int32))) fun M54 => if 0 ≤ (0 : Int32).toInt ∧ (0 : Int32).toInt < ((400 : Nat) : Int) then (some ((M54 (i0 + 12) (ix (0 : Int32))), M54)) else none
set_option maxHeartbeats 4000000 in
set_option maxRecDepth 100000 in
theorem l_X11_reckon_L6 {p : Program} {e : Env} {s : State} {m : MethodId} {args : Array Value} {below : List Frame} {meth : Method} {c : Code} {l : Launch} {G : GG} {Q : State → Prop} (hC : CX p s m args meth c cX11_reckon 7 RX11 (some .int) G) {i0 : Nat} {i1 : Nat} (hi0 : (kd i0).1 = 5) (hi1 : (kd i1).1 = 4) (a2 : Int32) : ∀ (n : Nat) (v4 : Int32) (v5 : Int32) (M : Mm) {o5 : Int32} {M2 : Mm} (hr : f_X11_reckon_L6 i0 i1 a2 n v4 v5 M = some (o5, M2)) (K : XJ p l e (RM 2 0 0 62) s m args below meth c G 7 Q 0 0 M2 188 [(0, .ref (G.2.1 i0)), (5, .int o5)] []), XJ p l e (RM 2 0 0 62) s m args below meth c G 7 Q 0 0 M 6 [(0, .ref (G.2.1 i0)), (1, .ref (G.2.1 i1)), (2, .int a2), (4, .int v4), (5, .int v5)] [] := by
  intro n
  induction n with
  | zero => intro v4 v5 M o5 M2 hr K; rw [f_X11_reckon_L6] at hr; cases hr
  | succ n ih =>
    intro v4 v5 M o5 M2 hr K
    rw [f_X11_reckon_L6] at hr
    refine x_aload_n hC dX11_reckon_6 rfl 0 rfl ?_
    refine gf_X11_26 hC hi0 dX11_reckon_7 ?_
    refine x_iload hC dX11_reckon_10 4 rfl ?_
    obtain ⟨h1, hr⟩ := it_s hr
    refine x_iald hC (kr_5_8 hi0) h1 dX11_reckon_12 ?_
    refine x_bipush hC (61 : Int32) dX11_reckon_13 (by decide) ?_
    refine x_icmp_eq hC 188 dX11_reckon_15 (by decide) (fun h2 => ?_) (fun h2 => ?_)
    · have hr := (ie_s hr).1 h2
      cases hr
      exact x_sub [0, 4] rfl K
    · have hr := (ie_s hr).2 h2
      refine x_aload_n hC dX11_reckon_18 rfl 0 rfl ?_
      refine gf_X11_26 hC hi0 dX11_reckon_19 ?_
      refine x_iload hC dX11_reckon_22 4 rfl ?_
      obtain ⟨h3, hr⟩ := it_s hr
      refine x_iald hC (kr_5_8 hi0) h3 dX11_reckon_24 ?_
      refine x_istore hC [(6, .int (M (i0 + 5) (ix v5))), (0, .ref (G.2.1 i0)), (1, .ref (G.2.1 i1)), (2, .int a2), (4, .int v4), (5, .int v5)] dX11_reckon_25  (Nat.le_of_ble_eq_true rfl) rfl ?_
      obtain ⟨x4, e5, hr⟩ := lz_s hr
      refine x_iinc hC [(5, .int x4), (6, .int (M (i0 + 5) (ix v5))), (0, .ref (G.2.1 i0)), (1, .ref (G.2.1 i1)), (2, .int a2), (4, .int v4)] dX11_reckon_27 5 rfl (by rw [e5]; rfl) (Nat.le_of_ble_eq_true rfl) rfl ?_
      refine x_iload hC dX11_reckon_30 1 rfl ?_
      refine x_bipush hC (50 : Int32) dX11_reckon_32 (by decide) ?_
      obtain ⟨x48, x49, M50, q6, hr⟩ := bd3_s hr
      refine x_join (M' := M50) (pc' := 185) (lv' := [(0, .ref (G.2.1 i0)), (1, .ref (G.2.1 i1)), (2, .int a2), (4, .int x48), (5, .int x49)]) (st' := []) ?_ ?_
      · refine x_goto hC 6 dX11_reckon_185 (by decide) ?_
        exact x_sub [0, 1, 2, 3, 4] rfl (ih x48 x49 M50 hr K)
      · intro kj
        refine x_icmp_ne hC 60 dX11_reckon_34 (by decide) (fun h7 => ?_) (fun h7 => ?_)
        · have q6 := (ie_s q6).2 h7
          refine x_iload hC dX11_reckon_60 1 rfl ?_
          refine x_bipush hC (12 : Int32) dX11_reckon_62 (by decide) ?_
          refine x_bipush hC (24 : Int32) dX11_reckon_64 (by decide) ?_
          obtain ⟨x8, e9, q6⟩ := lz_s q6
          refine x_callS (As := [.int (M (i0 + 5) (ix v5)), .int (12 : Int32), .int (24 : Int32)]) hC (c_X11_isIn l G M (M (i0 + 5) (ix v5)) (12 : Int32) (24 : Int32) e9.symm) kc_yX11_isIn km_X11_72 kt_yX11_isIn kn_RX11 ky_yX11_isIn rfl ⟨rfl, rfl⟩ ⟨(Nat.le_of_ble_eq_true rfl), (Nat.le_of_ble_eq_true rfl)⟩ rfl (Nat.le_of_ble_eq_true rfl) ⟨(Nat.le_of_ble_eq_true rfl), (Nat.le_of_ble_eq_true rfl)⟩ dX11_reckon_66 (fun b10 => ?_)
          refine x_if_eq hC 93 dX11_reckon_69 (by decide) (fun h11 => ?_) (fun h11 => ?_)
          · have q6 := (ie_s q6).1 h11
            refine x_iload hC dX11_reckon_93 1 rfl ?_
            refine x_bipush hC (51 : Int32) dX11_reckon_95 (by decide) ?_
            refine x_icmp_ne hC 122 dX11_reckon_97 (by decide) (fun h12 => ?_) (fun h12 => ?_)
            · have q6 := (ie_s q6).2 h12
              refine x_iload hC dX11_reckon_122 1 rfl ?_
              refine x_bipush hC (25 : Int32) dX11_reckon_124 (by decide) ?_
              refine x_icmp_ne hC 152 dX11_reckon_126 (by decide) (fun h13 => ?_) (fun h13 => ?_)
              · have q6 := (ie_s q6).2 h13
                obtain ⟨x14, e15, q6⟩ := lz_s q6
                refine x_iinc hC [(4, .int x14), (5, .int x4), (6, .int (M (i0 + 5) (ix v5))), (0, .ref (G.2.1 i0)), (1, .ref (G.2.1 i1)), (2, .int a2)] dX11_reckon_152 5 rfl (by rw [e15]; rfl) (Nat.le_of_ble_eq_true rfl) rfl ?_
                refine x_aload_n hC dX11_reckon_155 rfl 3 rfl ?_
                refine gf_X11_47 hC hi0 dX11_reckon_156 ?_
                refine x_iload hC dX11_reckon_159 0 rfl ?_
                refine x_iconst hC (1 : Int32) dX11_reckon_161 (by decide) ?_
                refine x_isub hC dX11_reckon_162 ?_
                refine x_iload hC dX11_reckon_163 2 rfl ?_
                refine x_aload_n hC dX11_reckon_165 rfl 3 rfl ?_
                refine gf_X11_47 hC hi0 dX11_reckon_166 ?_
                refine x_iload hC dX11_reckon_169 0 rfl ?_
                refine x_iconst hC (1 : Int32) dX11_reckon_171 (by decide) ?_
                refine x_isub hC dX11_reckon_172 ?_
                obtain ⟨h16, q6⟩ := it_s q6
                refine x_iald hC (kr_5_27 hi0) h16 dX11_reckon_173 ?_
                refine x_aload_n hC dX11_reckon_174 rfl 3 rfl ?_
                refine gf_X11_47 hC hi0 dX11_reckon_175 ?_
                refine x_iload hC dX11_reckon_178 0 rfl ?_
                obtain ⟨h17, q6⟩ := it_s q6
                refine x_iald hC (kr_5_27 hi0) h17 dX11_reckon_180 ?_
                obtain ⟨x18, q19, q6⟩ := bd1_s q6
                refine x_callS (As := [.int (M (i0 + 5) (ix v5)), .int (M (i0 + 12) (ix (x14 - (1 : Int32)))), .int (M (i0 + 12) (ix x14))]) hC (c_X11_apply l G M (M (i0 + 5) (ix v5)) (M (i0 + 12) (ix (x14 - (1 : Int32)))) (M (i0 + 12) (ix x14)) q19) kc_yX11_apply km_X11_273 kt_yX11_apply kn_RX11 ky_yX11_apply rfl ⟨rfl, rfl⟩ ⟨(Nat.le_of_ble_eq_true rfl), (Nat.le_of_ble_eq_true rfl)⟩ rfl (Nat.le_of_ble_eq_true rfl) ⟨(Nat.le_of_ble_eq_true rfl), (Nat.le_of_ble_eq_true rfl)⟩ dX11_reckon_181 (fun b20 => ?_)
                obtain ⟨h21, q6⟩ := it_s q6
                obtain ⟨M22, e23, q6⟩ := lz_s q6
                refine x_iast hC (kr_5_27 hi0) h21 e23 dX11_reckon_184 ?_
                cases q6
                exact x_sub [3, 4, 5, 0, 1] rfl kj
              · have q6 := (ie_s q6).1 h13
                refine x_aload_n hC dX11_reckon_129 rfl 2 rfl ?_
                refine gf_X11_47 hC hi0 dX11_reckon_130 ?_
                refine x_iload hC dX11_reckon_133 5 rfl ?_
                refine x_iconst hC (1 : Int32) dX11_reckon_135 (by decide) ?_
                refine x_isub hC dX11_reckon_136 ?_
                refine x_iconst hC (1 : Int32) dX11_reckon_137 (by decide) ?_
                refine x_aload_n hC dX11_reckon_138 rfl 2 rfl ?_
                refine gf_X11_47 hC hi0 dX11_reckon_139 ?_
                refine x_iload hC dX11_reckon_142 5 rfl ?_
                refine x_iconst hC (1 : Int32) dX11_reckon_144 (by decide) ?_
                refine x_isub hC dX11_reckon_145 ?_
                obtain ⟨h24, q6⟩ := it_s q6
                refine x_iald hC (kr_5_27 hi0) h24 dX11_reckon_146 ?_
                refine x_isub hC dX11_reckon_147 ?_
                obtain ⟨h25, q6⟩ := it_s q6
                obtain ⟨M26, e27, q6⟩ := lz_s q6
                refine x_iast hC (kr_5_27 hi0) h25 e27 dX11_reckon_148 ?_
                refine x_goto hC 185 dX11_reckon_149 (by decide) ?_
                cases q6
                exact x_sub [2, 3, 4, 5, 0] rfl kj
            · have q6 := (ie_s q6).1 h12
              refine x_aload_n hC dX11_reckon_100 rfl 2 rfl ?_
              refine gf_X11_47 hC hi0 dX11_reckon_101 ?_
              refine x_iload hC dX11_reckon_104 5 rfl ?_
              refine x_iconst hC (1 : Int32) dX11_reckon_106 (by decide) ?_
              refine x_isub hC dX11_reckon_107 ?_
              refine x_aload_n hC dX11_reckon_108 rfl 2 rfl ?_
              refine gf_X11_47 hC hi0 dX11_reckon_109 ?_
              refine x_iload hC dX11_reckon_112 5 rfl ?_
              refine x_iconst hC (1 : Int32) dX11_reckon_114 (by decide) ?_
              refine x_isub hC dX11_reckon_115 ?_
              obtain ⟨h28, q6⟩ := it_s q6
              refine x_iald hC (kr_5_27 hi0) h28 dX11_reckon_116 ?_
              refine x_ineg hC dX11_reckon_117 ?_
              obtain ⟨h29, q6⟩ := it_s q6
              obtain ⟨M30, e31, q6⟩ := lz_s q6
              refine x_iast hC (kr_5_27 hi0) h29 e31 dX11_reckon_118 ?_
              refine x_goto hC 185 dX11_reckon_119 (by decide) ?_
              cases q6
              exact x_sub [2, 3, 4, 5, 0] rfl kj
          · have q6 := (ie_s q6).2 h11
            refine x_aload_n hC dX11_reckon_72 rfl 2 rfl ?_
            refine gf_X11_47 hC hi0 dX11_reckon_73 ?_
            refine x_iload hC dX11_reckon_76 5 rfl ?_
            refine x_aload_n hC dX11_reckon_78 rfl 2 rfl ?_
            refine x_aload_n hC dX11_reckon_79 rfl 3 rfl ?_
            refine x_iload_n hC dX11_reckon_80 rfl 4 rfl ?_
            refine x_iload hC dX11_reckon_81 1 rfl ?_
            obtain ⟨x32, q33, q6⟩ := bd1_s q6
            refine x_callV (ci := 5) (q := (RX11, TX11, 32)) (As := [.ref (G.2.1 i1), .int a2, .int (M (i0 + 5) (ix v5))]) hC (c_X11_told l G M hi0 hi1 a2 (M (i0 + 5) (ix v5)) q33) kc_yX11_told km_X11_269 ki_yX11_told kv_yX11_told kn_RX11 ky_yX11_told rfl ⟨rfl, rfl⟩ ⟨(Nat.le_of_ble_eq_true rfl), (Nat.le_of_ble_eq_true rfl)⟩ hi0 (by decide) rfl rfl (Nat.le_of_ble_eq_true rfl) ⟨(Nat.le_of_ble_eq_true rfl), (Nat.le_of_ble_eq_true rfl)⟩ dX11_reckon_83 (fun b34 => ?_)
            obtain ⟨h35, q6⟩ := it_s q6
            obtain ⟨M36, e37, q6⟩ := lz_s q6
            refine x_iast hC (kr_5_27 hi0) h35 e37 dX11_reckon_86 ?_
            obtain ⟨x38, e39, q6⟩ := lz_s q6
            refine x_iinc hC [(4, .int x38), (5, .int x4), (6, .int (M (i0 + 5) (ix v5))), (0, .ref (G.2.1 i0)), (1, .ref (G.2.1 i1)), (2, .int a2)] dX11_reckon_87 5 rfl (by rw [e39]; rfl) (Nat.le_of_ble_eq_true rfl) rfl ?_
            refine x_goto hC 185 dX11_reckon_90 (by decide) ?_
            cases q6
            exact x_sub [3, 4, 5, 0, 1] rfl kj
        · have q6 := (ie_s q6).1 h7
          refine x_aload_n hC dX11_reckon_37 rfl 2 rfl ?_
          refine gf_X11_47 hC hi0 dX11_reckon_38 ?_
          refine x_iload hC dX11_reckon_41 5 rfl ?_
          refine x_aload_n hC dX11_reckon_43 rfl 2 rfl ?_
          refine gf_X11_26 hC hi0 dX11_reckon_44 ?_
          refine x_iload hC dX11_reckon_47 0 rfl ?_
          obtain ⟨h40, q6⟩ := it_s q6
          refine x_iald hC (kr_5_8 hi0) h40 dX11_reckon_49 ?_
          obtain ⟨h41, q6⟩ := it_s q6
          obtain ⟨M42, e43, q6⟩ := lz_s q6
          refine x_iast hC (kr_5_27 hi0) h41 e43 dX11_reckon_50 ?_
          obtain ⟨x44, e45, q6⟩ := lz_s q6
          refine x_iinc hC [(5, .int x44), (6, .int (M (i0 + 5) (ix v5))), (0, .ref (G.2.1 i0)), (1, .ref (G.2.1 i1)), (2, .int a2), (4, .int v4)] dX11_reckon_51 0 rfl (by rw [e45]; rfl) (Nat.le_of_ble_eq_true rfl) rfl ?_
          obtain ⟨x46, e47, q6⟩ := lz_s q6
          refine x_iinc hC [(4, .int x46), (5, .int x44), (6, .int (M (i0 + 5) (ix v5))), (0, .ref (G.2.1 i0)), (1, .ref (G.2.1 i1)), (2, .int a2)] dX11_reckon_54 5 rfl (by rw [e47]; rfl) (Nat.le_of_ble_eq_true rfl) rfl ?_
          refine x_goto hC 185 dX11_reckon_57 (by decide) ?_
          cases q6
          exact x_sub [3, 4, 5, 0, 1] rfl kj
set_option maxHeartbeats 4000000 in
set_option maxRecDepth 100000 in
theorem c_X11_reckon (l : Launch) (G : GG) (M : Mm) {i0 : Nat} (hi0 : (kd i0).1 = 5) {i1 : Nat} (hi1 : (kd i1).1 = 4) (a2 : Int32) (a3 : Int32) {r : Int32} {M9 : Mm} (hr : f_X11_reckon i0 i1 a2 a3 M = some (r, M9)) : Mo false l yX11_reckon (WS yX11_reckon cX11_reckon 7 (some .int)) (RM 2 0 0 62) 0 0 [.ref (G.2.1 i0), .ref (G.2.1 i1), .int a2, .int a3] G M (some (.int r)) M9 := by
  refine Mo.of (by decide +kernel) (Nat.le_of_ble_eq_true rfl) ?_
  intro p e s m args below meth c hC
  have hC : CX p s m args meth c cX11_reckon 7 RX11 (some .int) G := hC
  rw [f_X11_reckon] at hr
  show XJ p l e (RM 2 0 0 62) s m args below meth c G 7 _ 0 0 M 0 [(0, .ref (G.2.1 i0)), (1, .ref (G.2.1 i1)), (2, .int a2), (3, .int a3)] []
  refine x_iconst hC (0 : Int32) dX11_reckon_0 (by decide) ?_
  refine x_istore hC [(4, .int (0 : Int32)), (0, .ref (G.2.1 i0)), (1, .ref (G.2.1 i1)), (2, .int a2), (3, .int a3)] dX11_reckon_1  (Nat.le_of_ble_eq_true rfl) rfl ?_
  refine x_iload_n hC dX11_reckon_3 rfl 4 rfl ?_
  refine x_istore hC [(5, .int a3), (4, .int (0 : Int32)), (0, .ref (G.2.1 i0)), (1, .ref (G.2.1 i1)), (2, .int a2), (3, .int a3)] dX11_reckon_4  (Nat.le_of_ble_eq_true rfl) rfl ?_
  obtain ⟨x52, M53, q51, hr⟩ := bd2_s hr
  refine x_sub [2, 3, 4, 1, 0] rfl (l_X11_reckon_L6 hC hi0 hi1 a2 FU  (0 : Int32) a3 M q51 ?_)
  refine x_aload_n hC dX11_reckon_188 rfl 0 rfl ?_
  refine x_iload hC dX11_reckon_189 1 rfl ?_
  refine x_iconst hC (1 : Int32) dX11_reckon_191 (by decide) ?_
  refine x_iadd hC dX11_reckon_192 ?_
  obtain ⟨M54, e55, hr⟩ := lz_s hr
  refine pf_X11_277 hC hi0 e55 dX11_reckon_193 ?_
  refine x_aload_n hC dX11_reckon_196 rfl 0 rfl ?_
  refine gf_X11_47 hC hi0 dX11_reckon_197 ?_
  refine x_iconst hC (0 : Int32) dX11_reckon_200 (by decide) ?_
  obtain ⟨h56, hr⟩ := it_s hr
  refine x_iald hC (kr_5_27 hi0) h56 dX11_reckon_201 ?_
  cases hr
  exact x_iret hC rfl dX11_reckon_202

theorem dX11_isThere_0 : decode cX11_isThere 0 = .ok (.aload_n 0, 1) := by decide +kernel
theorem dX11_isThere_1 : decode cX11_isThere 1 = .ok (.aload_n 1, 1) := by decide +kernel
theorem dX11_isThere_2 : decode cX11_isThere 2 = .ok (.iload_n 2, 1) := by decide +kernel
theorem dX11_isThere_3 : decode cX11_isThere 3 = .ok (.iload_n 3, 1) := by decide +kernel
theorem dX11_isThere_4 : decode cX11_isThere 4 = .ok (.invokevirtual 294, 3) := by decide +kernel
theorem dX11_isThere_7 : decode cX11_isThere 7 = .ok (.istore 4, 2) := by decide +kernel
theorem dX11_isThere_9 : decode cX11_isThere 9 = .ok (.aload_n 0, 1) := by decide +kernel
theorem dX11_isThere_10 : decode cX11_isThere 10 = .ok (.aload_n 1, 1) := by decide +kernel
theorem dX11_isThere_11 : decode cX11_isThere 11 = .ok (.iload_n 2, 1) := by decide +kernel
theorem dX11_isThere_12 : decode cX11_isThere 12 = .ok (.aload_n 0, 1) := by decide +kernel
theorem dX11_isThere_13 : decode cX11_isThere 13 = .ok (.getfield 277, 3) := by decide +kernel
theorem dX11_isThere_16 : decode cX11_isThere 16 = .ok (.invokevirtual 294, 3) := by decide +kernel
theorem dX11_isThere_19 : decode cX11_isThere 19 = .ok (.istore 5, 2) := by decide +kernel
theorem dX11_isThere_21 : decode cX11_isThere 21 = .ok (.iload 4, 2) := by decide +kernel
theorem dX11_isThere_23 : decode cX11_isThere 23 = .ok (.aload_n 1, 1) := by decide +kernel
theorem dX11_isThere_24 : decode cX11_isThere 24 = .ok (.getfield 239, 3) := by decide +kernel
theorem dX11_isThere_27 : decode cX11_isThere 27 = .ok (.bipush 10, 2) := by decide +kernel
theorem dX11_isThere_29 : decode cX11_isThere 29 = .ok (.iload_n 2, 1) := by decide +kernel
theorem dX11_isThere_30 : decode cX11_isThere 30 = .ok (.imul, 1) := by decide +kernel
theorem dX11_isThere_31 : decode cX11_isThere 31 = .ok (.iaload, 1) := by decide +kernel
theorem dX11_isThere_32 : decode cX11_isThere 32 = .ok (.if_icmp .ne 23, 3) := by decide +kernel
theorem dX11_isThere_35 : decode cX11_isThere 35 = .ok (.iload 5, 2) := by decide +kernel
theorem dX11_isThere_37 : decode cX11_isThere 37 = .ok (.aload_n 1, 1) := by decide +kernel
theorem dX11_isThere_38 : decode cX11_isThere 38 = .ok (.getfield 239, 3) := by decide +kernel
theorem dX11_isThere_41 : decode cX11_isThere 41 = .ok (.bipush 10, 2) := by decide +kernel
theorem dX11_isThere_43 : decode cX11_isThere 43 = .ok (.iload_n 2, 1) := by decide +kernel
theorem dX11_isThere_44 : decode cX11_isThere 44 = .ok (.imul, 1) := by decide +kernel
theorem dX11_isThere_45 : decode cX11_isThere 45 = .ok (.iconst 1, 1) := by decide +kernel
theorem dX11_isThere_46 : decode cX11_isThere 46 = .ok (.iadd, 1) := by decide +kernel
theorem dX11_isThere_47 : decode cX11_isThere 47 = .ok (.iaload, 1) := by decide +kernel
theorem dX11_isThere_48 : decode cX11_isThere 48 = .ok (.if_icmp .ne 7, 3) := by decide +kernel
theorem dX11_isThere_51 : decode cX11_isThere 51 = .ok (.iconst 1, 1) := by decide +kernel
theorem dX11_isThere_52 : decode cX11_isThere 52 = .ok (.goto 4, 3) := by decide +kernel
theorem dX11_isThere_55 : decode cX11_isThere 55 = .ok (.iconst 0, 1) := by decide +kernel
theorem dX11_isThere_56 : decode cX11_isThere 56 = .ok (.ireturn, 1) := by decide +kernel

def f_X11_isThere (i0 : Nat) (i1 : Nat) (a2 : Int32) (a3 : Int32) (M : Mm) : Option (Int32 × Mm) :=
  bd2 (f_X11_reckon i0 i1 a2 a3 M) fun x1 M2 => bd2 (f_X11_reckon i0 i1 a2 (M2 i0 28) M2) fun x5 M6 => if 0 ≤ ((10 : Int32) * a2).toInt ∧ ((10 : Int32) * a2).toInt < ((40 : Nat) : Int) then (if (x1 = (M6 (i1 + 6) (ix ((10 : Int32) * a2)))) then (if 0 ≤ (((10 : Int32) * a2) + (1 : Int32)).toInt ∧ (((10 : Int32) * a2) + (1 : Int32)).toInt < ((40 : Nat) : Int) then (if (x5 = (M6 (i1 + 6) (ix (((10 : Int32) * a2) + (1 : Int32))))) then (some ((1 : Int32), M6)) else (some ((0 : Int32), M6))) else none) else (some ((0 : Int32), M6))) else none

set_option maxHeartbeats 4000000 in
set_option maxRecDepth 100000 in
theorem c_X11_isThere (l : Launch) (G : GG) (M : Mm) {i0 : Nat} (hi0 : (kd i0).1 = 5) {i1 : Nat} (hi1 : (kd i1).1 = 4) (a2 : Int32) (a3 : Int32) {r : Int32} {M9 : Mm} (hr : f_X11_isThere i0 i1 a2 a3 M = some (r, M9)) : Mo true l yX11_isThere (WS yX11_isThere cX11_isThere 6 (some .boolean)) (RM 3 0 0 88) 0 0 [.ref (G.2.1 i0), .ref (G.2.1 i1), .int a2, .int a3] G M (some (.int r)) M9 := by
  refine Mo.of (by decide +kernel) (Nat.le_of_ble_eq_true rfl) ?_
  intro p e s m args below meth c hC
  have hC : CX p s m args meth c cX11_isThere 6 RX11 (some .boolean) G := hC
  rw [f_X11_isThere] at hr
  show XJ p l e (RM 3 0 0 88) s m args below meth c G 6 _ 0 0 M 0 [(0, .ref (G.2.1 i0)), (1, .ref (G.2.1 i1)), (2, .int a2), (3, .int a3)] []
  refine x_aload_n hC dX11_isThere_0 rfl 0 rfl ?_
  refine x_aload_n hC dX11_isThere_1 rfl 1 rfl ?_
  refine x_iload_n hC dX11_isThere_2 rfl 2 rfl ?_
  refine x_iload_n hC dX11_isThere_3 rfl 3 rfl ?_
  obtain ⟨x1, M2, q3, hr⟩ := bd2_s hr
  refine x_callV (ci := 5) (q := (RX11, TX11, 32)) (As := [.ref (G.2.1 i1), .int a2, .int a3]) hC (c_X11_reckon l G M hi0 hi1 a2 a3 q3) kc_yX11_reckon km_X11_294 ki_yX11_reckon kv_yX11_reckon kn_RX11 ky_yX11_reckon rfl ⟨rfl, rfl⟩ ⟨(Nat.le_of_ble_eq_true rfl), (Nat.le_of_ble_eq_true rfl)⟩ hi0 (by decide) rfl rfl (Nat.le_of_ble_eq_true rfl) ⟨(Nat.le_of_ble_eq_true rfl), (Nat.le_of_ble_eq_true rfl)⟩ dX11_isThere_4 (fun b4 => ?_)
  refine x_istore hC [(4, .int x1), (0, .ref (G.2.1 i0)), (1, .ref (G.2.1 i1)), (2, .int a2), (3, .int a3)] dX11_isThere_7  (Nat.le_of_ble_eq_true rfl) rfl ?_
  refine x_aload_n hC dX11_isThere_9 rfl 1 rfl ?_
  refine x_aload_n hC dX11_isThere_10 rfl 2 rfl ?_
  refine x_iload_n hC dX11_isThere_11 rfl 3 rfl ?_
  refine x_aload_n hC dX11_isThere_12 rfl 1 rfl ?_
  refine gf_X11_277 hC hi0 dX11_isThere_13 ?_
  obtain ⟨x5, M6, q7, hr⟩ := bd2_s hr
  refine x_callV (ci := 5) (q := (RX11, TX11, 32)) (As := [.ref (G.2.1 i1), .int a2, .int (M2 i0 28)]) hC (c_X11_reckon l G M2 hi0 hi1 a2 (M2 i0 28) q7) kc_yX11_reckon km_X11_294 ki_yX11_reckon kv_yX11_reckon kn_RX11 ky_yX11_reckon rfl ⟨rfl, rfl⟩ ⟨(Nat.le_of_ble_eq_true rfl), (Nat.le_of_ble_eq_true rfl)⟩ hi0 (by decide) rfl rfl (Nat.le_of_ble_eq_true rfl) ⟨(Nat.le_of_ble_eq_true rfl), (Nat.le_of_ble_eq_true rfl)⟩ dX11_isThere_16 (fun b8 => ?_)
  refine x_istore hC [(5, .int x5), (4, .int x1), (0, .ref (G.2.1 i0)), (1, .ref (G.2.1 i1)), (2, .int a2), (3, .int a3)] dX11_isThere_19  (Nat.le_of_ble_eq_true rfl) rfl ?_
  refine x_iload hC dX11_isThere_21 1 rfl ?_
  refine x_aload_n hC dX11_isThere_23 rfl 3 rfl ?_
  refine gf_X11_239 hC hi1 dX11_isThere_24 ?_
  refine x_bipush hC (10 : Int32) dX11_isThere_27 (by decide) ?_
  refine x_iload_n hC dX11_isThere_29 rfl 4 rfl ?_
  refine x_imul hC dX11_isThere_30 ?_
  obtain ⟨h9, hr⟩ := it_s hr
  refine x_iald hC (kr_4_11 hi1) h9 dX11_isThere_31 ?_
  refine x_icmp_ne hC 55 dX11_isThere_32 (by decide) (fun h10 => ?_) (fun h10 => ?_)
  · have hr := (ie_s hr).2 h10
    refine x_iconst hC (0 : Int32) dX11_isThere_55 (by decide) ?_
    cases hr
    exact x_zret hC rfl (Or.inl rfl) dX11_isThere_56
  · have hr := (ie_s hr).1 h10
    refine x_iload hC dX11_isThere_35 0 rfl ?_
    refine x_aload_n hC dX11_isThere_37 rfl 3 rfl ?_
    refine gf_X11_239 hC hi1 dX11_isThere_38 ?_
    refine x_bipush hC (10 : Int32) dX11_isThere_41 (by decide) ?_
    refine x_iload_n hC dX11_isThere_43 rfl 4 rfl ?_
    refine x_imul hC dX11_isThere_44 ?_
    refine x_iconst hC (1 : Int32) dX11_isThere_45 (by decide) ?_
    refine x_iadd hC dX11_isThere_46 ?_
    obtain ⟨h11, hr⟩ := it_s hr
    refine x_iald hC (kr_4_11 hi1) h11 dX11_isThere_47 ?_
    refine x_icmp_ne hC 55 dX11_isThere_48 (by decide) (fun h12 => ?_) (fun h12 => ?_)
    · have hr := (ie_s hr).2 h12
      refine x_iconst hC (0 : Int32) dX11_isThere_55 (by decide) ?_
      cases hr
      exact x_zret hC rfl (Or.inl rfl) dX11_isThere_56
    · have hr := (ie_s hr).1 h12
      refine x_iconst hC (1 : Int32) dX11_isThere_51 (by decide) ?_
      refine x_goto hC 56 dX11_isThere_52 (by decide) ?_
      cases hr
      exact x_zret hC rfl (Or.inr rfl) dX11_isThere_56

theorem dX11_go_0 : decode cX11_go 0 = .ok (.bipush 10, 2) := by decide +kernel
theorem dX11_go_2 : decode cX11_go 2 = .ok (.iload_n 2, 1) := by decide +kernel
theorem dX11_go_3 : decode cX11_go 3 = .ok (.imul, 1) := by decide +kernel
theorem dX11_go_4 : decode cX11_go 4 = .ok (.istore 4, 2) := by decide +kernel
theorem dX11_go_6 : decode cX11_go 6 = .ok (.aload_n 0, 1) := by decide +kernel
theorem dX11_go_7 : decode cX11_go 7 = .ok (.aload_n 1, 1) := by decide +kernel
theorem dX11_go_8 : decode cX11_go 8 = .ok (.iload_n 2, 1) := by decide +kernel
theorem dX11_go_9 : decode cX11_go 9 = .ok (.iload_n 3, 1) := by decide +kernel
theorem dX11_go_10 : decode cX11_go 10 = .ok (.invokevirtual 294, 3) := by decide +kernel
theorem dX11_go_13 : decode cX11_go 13 = .ok (.istore 5, 2) := by decide +kernel
theorem dX11_go_15 : decode cX11_go 15 = .ok (.aload_n 0, 1) := by decide +kernel
theorem dX11_go_16 : decode cX11_go 16 = .ok (.aload_n 1, 1) := by decide +kernel
theorem dX11_go_17 : decode cX11_go 17 = .ok (.iload_n 2, 1) := by decide +kernel
theorem dX11_go_18 : decode cX11_go 18 = .ok (.aload_n 0, 1) := by decide +kernel
theorem dX11_go_19 : decode cX11_go 19 = .ok (.getfield 277, 3) := by decide +kernel
theorem dX11_go_22 : decode cX11_go 22 = .ok (.invokevirtual 294, 3) := by decide +kernel
theorem dX11_go_25 : decode cX11_go 25 = .ok (.istore 6, 2) := by decide +kernel
theorem dX11_go_27 : decode cX11_go 27 = .ok (.iload 5, 2) := by decide +kernel
theorem dX11_go_29 : decode cX11_go 29 = .ok (.iload 6, 2) := by decide +kernel
theorem dX11_go_31 : decode cX11_go 31 = .ok (.invokestatic 313, 3) := by decide +kernel
theorem dX11_go_34 : decode cX11_go 34 = .ok (.ifCond .ne 18, 3) := by decide +kernel
theorem dX11_go_37 : decode cX11_go 37 = .ok (.aload_n 1, 1) := by decide +kernel
theorem dX11_go_38 : decode cX11_go 38 = .ok (.getfield 239, 3) := by decide +kernel
theorem dX11_go_41 : decode cX11_go 41 = .ok (.iload 4, 2) := by decide +kernel
theorem dX11_go_43 : decode cX11_go 43 = .ok (.iconst 4, 1) := by decide +kernel
theorem dX11_go_44 : decode cX11_go 44 = .ok (.iadd, 1) := by decide +kernel
theorem dX11_go_45 : decode cX11_go 45 = .ok (.aload_n 0, 1) := by decide +kernel
theorem dX11_go_46 : decode cX11_go 46 = .ok (.getfield 277, 3) := by decide +kernel
theorem dX11_go_49 : decode cX11_go 49 = .ok (.iastore, 1) := by decide +kernel
theorem dX11_go_50 : decode cX11_go 50 = .ok (.iconst 0, 1) := by decide +kernel
theorem dX11_go_51 : decode cX11_go 51 = .ok (.ireturn, 1) := by decide +kernel
theorem dX11_go_52 : decode cX11_go 52 = .ok (.aload_n 1, 1) := by decide +kernel
theorem dX11_go_53 : decode cX11_go 53 = .ok (.getfield 239, 3) := by decide +kernel
theorem dX11_go_56 : decode cX11_go 56 = .ok (.iload 4, 2) := by decide +kernel
theorem dX11_go_58 : decode cX11_go 58 = .ok (.iaload, 1) := by decide +kernel
theorem dX11_go_59 : decode cX11_go 59 = .ok (.iload 5, 2) := by decide +kernel
theorem dX11_go_61 : decode cX11_go 61 = .ok (.aload_n 1, 1) := by decide +kernel
theorem dX11_go_62 : decode cX11_go 62 = .ok (.getfield 239, 3) := by decide +kernel
theorem dX11_go_65 : decode cX11_go 65 = .ok (.iload 4, 2) := by decide +kernel
theorem dX11_go_67 : decode cX11_go 67 = .ok (.iaload, 1) := by decide +kernel
theorem dX11_go_68 : decode cX11_go 68 = .ok (.isub, 1) := by decide +kernel
theorem dX11_go_69 : decode cX11_go 69 = .ok (.invokestatic 317, 3) := by decide +kernel
theorem dX11_go_72 : decode cX11_go 72 = .ok (.iadd, 1) := by decide +kernel
theorem dX11_go_73 : decode cX11_go 73 = .ok (.istore 7, 2) := by decide +kernel
theorem dX11_go_75 : decode cX11_go 75 = .ok (.aload_n 1, 1) := by decide +kernel
theorem dX11_go_76 : decode cX11_go 76 = .ok (.getfield 239, 3) := by decide +kernel
theorem dX11_go_79 : decode cX11_go 79 = .ok (.iload 4, 2) := by decide +kernel
theorem dX11_go_81 : decode cX11_go 81 = .ok (.iconst 1, 1) := by decide +kernel
theorem dX11_go_82 : decode cX11_go 82 = .ok (.iadd, 1) := by decide +kernel
theorem dX11_go_83 : decode cX11_go 83 = .ok (.iaload, 1) := by decide +kernel
theorem dX11_go_84 : decode cX11_go 84 = .ok (.iload 5, 2) := by decide +kernel
theorem dX11_go_86 : decode cX11_go 86 = .ok (.aload_n 1, 1) := by decide +kernel
theorem dX11_go_87 : decode cX11_go 87 = .ok (.getfield 239, 3) := by decide +kernel
theorem dX11_go_90 : decode cX11_go 90 = .ok (.iload 4, 2) := by decide +kernel
theorem dX11_go_92 : decode cX11_go 92 = .ok (.iaload, 1) := by decide +kernel
theorem dX11_go_93 : decode cX11_go 93 = .ok (.if_icmp .ne 21, 3) := by decide +kernel
theorem dX11_go_96 : decode cX11_go 96 = .ok (.iload 6, 2) := by decide +kernel
theorem dX11_go_98 : decode cX11_go 98 = .ok (.aload_n 1, 1) := by decide +kernel
theorem dX11_go_99 : decode cX11_go 99 = .ok (.getfield 239, 3) := by decide +kernel
theorem dX11_go_102 : decode cX11_go 102 = .ok (.iload 4, 2) := by decide +kernel
theorem dX11_go_104 : decode cX11_go 104 = .ok (.iconst 1, 1) := by decide +kernel
theorem dX11_go_105 : decode cX11_go 105 = .ok (.iadd, 1) := by decide +kernel
theorem dX11_go_106 : decode cX11_go 106 = .ok (.iaload, 1) := by decide +kernel
theorem dX11_go_107 : decode cX11_go 107 = .ok (.isub, 1) := by decide +kernel
theorem dX11_go_108 : decode cX11_go 108 = .ok (.invokestatic 317, 3) := by decide +kernel
theorem dX11_go_111 : decode cX11_go 111 = .ok (.goto 4, 3) := by decide +kernel
theorem dX11_go_114 : decode cX11_go 114 = .ok (.iconst 0, 1) := by decide +kernel
theorem dX11_go_115 : decode cX11_go 115 = .ok (.iadd, 1) := by decide +kernel
theorem dX11_go_116 : decode cX11_go 116 = .ok (.istore 8, 2) := by decide +kernel
theorem dX11_go_118 : decode cX11_go 118 = .ok (.aload_n 1, 1) := by decide +kernel
theorem dX11_go_119 : decode cX11_go 119 = .ok (.getfield 66, 3) := by decide +kernel
theorem dX11_go_122 : decode cX11_go 122 = .ok (.bipush 8, 2) := by decide +kernel
theorem dX11_go_124 : decode cX11_go 124 = .ok (.iload 8, 2) := by decide +kernel
theorem dX11_go_126 : decode cX11_go 126 = .ok (.imul, 1) := by decide +kernel
theorem dX11_go_127 : decode cX11_go 127 = .ok (.iload 7, 2) := by decide +kernel
theorem dX11_go_129 : decode cX11_go 129 = .ok (.iadd, 1) := by decide +kernel
theorem dX11_go_130 : decode cX11_go 130 = .ok (.iaload, 1) := by decide +kernel
theorem dX11_go_131 : decode cX11_go 131 = .ok (.bipush 9, 2) := by decide +kernel
theorem dX11_go_133 : decode cX11_go 133 = .ok (.if_icmp .ne 5, 3) := by decide +kernel
theorem dX11_go_136 : decode cX11_go 136 = .ok (.iconst 0, 1) := by decide +kernel
theorem dX11_go_137 : decode cX11_go 137 = .ok (.ireturn, 1) := by decide +kernel
theorem dX11_go_138 : decode cX11_go 138 = .ok (.aload_n 1, 1) := by decide +kernel
theorem dX11_go_139 : decode cX11_go 139 = .ok (.getfield 239, 3) := by decide +kernel
theorem dX11_go_142 : decode cX11_go 142 = .ok (.iload 4, 2) := by decide +kernel
theorem dX11_go_144 : decode cX11_go 144 = .ok (.iload 7, 2) := by decide +kernel
theorem dX11_go_146 : decode cX11_go 146 = .ok (.iastore, 1) := by decide +kernel
theorem dX11_go_147 : decode cX11_go 147 = .ok (.aload_n 1, 1) := by decide +kernel
theorem dX11_go_148 : decode cX11_go 148 = .ok (.getfield 239, 3) := by decide +kernel
theorem dX11_go_151 : decode cX11_go 151 = .ok (.iload 4, 2) := by decide +kernel
theorem dX11_go_153 : decode cX11_go 153 = .ok (.iconst 1, 1) := by decide +kernel
theorem dX11_go_154 : decode cX11_go 154 = .ok (.iadd, 1) := by decide +kernel
theorem dX11_go_155 : decode cX11_go 155 = .ok (.iload 8, 2) := by decide +kernel
theorem dX11_go_157 : decode cX11_go 157 = .ok (.iastore, 1) := by decide +kernel
theorem dX11_go_158 : decode cX11_go 158 = .ok (.iconst 1, 1) := by decide +kernel
theorem dX11_go_159 : decode cX11_go 159 = .ok (.ireturn, 1) := by decide +kernel

def f_X11_go (i0 : Nat) (i1 : Nat) (a2 : Int32) (a3 : Int32) (M : Mm) : Option (Int32 × Mm) :=
  bd2 (f_X11_reckon i0 i1 a2 a3 M) fun x1 M2 => bd2 (f_X11_reckon i0 i1 a2 (M2 i0 28) M2) fun x5 M6 => lz (f_X11_isCell x1 x5) fun x9 => if (x9 = 0) then (if 0 ≤ (((10 : Int32) * a2) + (4 : Int32)).toInt ∧ (((10 : Int32) * a2) + (4 : Int32)).toInt < ((40 : Nat) : Int) then (lz (wr M6 (i1 + 6) (ix (((10 : Int32) * a2) + (4 : Int32))) (M6 i0 28)) fun M42 => some ((0 : Int32), M42)) else none) else (if 0 ≤ ((10 : Int32) * a2).toInt ∧ ((10 : Int32) * a2).toInt < ((40 : Nat) : Int) then (if 0 ≤ ((10 : Int32) * a2).toInt ∧ ((10 : Int32) * a2).toInt < ((40 : Nat) : Int) then (lz (f_J6_signum_0f7a4 (x1 - (M6 (i1 + 6) (ix ((10 : Int32) * a2))))) fun x15 => lz ((M6 (i1 + 6) (ix ((10 : Int32) * a2))) + x15) fun x18 => if 0 ≤ (((10 : Int32) * a2) + (1 : Int32)).toInt ∧ (((10 : Int32) * a2) + (1 : Int32)).toInt < ((40 : Nat) : Int) then (if 0 ≤ ((10 : Int32) * a2).toInt ∧ ((10 : Int32) * a2).toInt < ((40 : Nat) : Int) then (bd1 (if (x1 = (M6 (i1 + 6) (ix ((10 : Int32) * a2)))) then (if 0 ≤ (((10 : Int32) * a2) + (1 : Int32)).toInt ∧ (((10 : Int32) * a2) + (1 : Int32)).toInt < ((40 : Nat) : Int) then (lz (x5 - (M6 (i1 + 6) (ix (((10 : Int32) * a2) + (1 : Int32))))) fun x25 => lz (f_J6_signum_0f7a4 x25) fun x27 => some (x27)) else none) else (some ((0 : Int32)))) fun x30 => lz ((M6 (i1 + 6) (ix (((10 : Int32) * a2) + (1 : Int32)))) + x30) fun x31 => if 0 ≤ (((8 : Int32) * x31) + x18).toInt ∧ (((8 : Int32) * x31) + x18).toInt < ((64 : Nat) : Int) then (if ((M6 (i1 + 2) (ix (((8 : Int32) * x31) + x18))) = (9 : Int32)) then (some ((0 : Int32), M6)) else (if 0 ≤ ((10 : Int32) * a2).toInt ∧ ((10 : Int32) * a2).toInt < ((40 : Nat) : Int) then (lz (wr M6 (i1 + 6) (ix ((10 : Int32) * a2)) x18) fun M36 => if 0 ≤ (((10 : Int32) * a2) + (1 : Int32)).toInt ∧ (((10 : Int32) * a2) + (1 : Int32)).toInt < ((40 : Nat) : Int) then (lz (wr M36 (i1 + 6) (ix (((10 : Int32) * a2) + (1 : Int32))) x31) fun M39 => some ((1 : Int32), M39)) else none) else none)) else none) else none) else none) else none) else none)

set_option maxHeartbeats 4000000 in
set_option maxRecDepth 100000 in
theorem c_X11_go (l : Launch) (G : GG) (M : Mm) {i0 : Nat} (hi0 : (kd i0).1 = 5) {i1 : Nat} (hi1 : (kd i1).1 = 4) (a2 : Int32) (a3 : Int32) {r : Int32} {M9 : Mm} (hr : f_X11_go i0 i1 a2 a3 M = some (r, M9)) : Mo true l yX11_go (WS yX11_go cX11_go 9 (some .boolean)) (RM 3 0 0 88) 0 0 [.ref (G.2.1 i0), .ref (G.2.1 i1), .int a2, .int a3] G M (some (.int r)) M9 := by
  refine Mo.of (by decide +kernel) (Nat.le_of_ble_eq_true rfl) ?_
  intro p e s m args below meth c hC
  have hC : CX p s m args meth c cX11_go 9 RX11 (some .boolean) G := hC
  rw [f_X11_go] at hr
  show XJ p l e (RM 3 0 0 88) s m args below meth c G 9 _ 0 0 M 0 [(0, .ref (G.2.1 i0)), (1, .ref (G.2.1 i1)), (2, .int a2), (3, .int a3)] []
  refine x_bipush hC (10 : Int32) dX11_go_0 (by decide) ?_
  refine x_iload_n hC dX11_go_2 rfl 2 rfl ?_
  refine x_imul hC dX11_go_3 ?_
  refine x_istore hC [(4, .int ((10 : Int32) * a2)), (0, .ref (G.2.1 i0)), (1, .ref (G.2.1 i1)), (2, .int a2), (3, .int a3)] dX11_go_4  (Nat.le_of_ble_eq_true rfl) rfl ?_
  refine x_aload_n hC dX11_go_6 rfl 1 rfl ?_
  refine x_aload_n hC dX11_go_7 rfl 2 rfl ?_
  refine x_iload_n hC dX11_go_8 rfl 3 rfl ?_
  refine x_iload_n hC dX11_go_9 rfl 4 rfl ?_
  obtain ⟨x1, M2, q3, hr⟩ := bd2_s hr
  refine x_callV (ci := 5) (q := (RX11, TX11, 32)) (As := [.ref (G.2.1 i1), .int a2, .int a3]) hC (c_X11_reckon l G M hi0 hi1 a2 a3 q3) kc_yX11_reckon km_X11_294 ki_yX11_reckon kv_yX11_reckon kn_RX11 ky_yX11_reckon rfl ⟨rfl, rfl⟩ ⟨(Nat.le_of_ble_eq_true rfl), (Nat.le_of_ble_eq_true rfl)⟩ hi0 (by decide) rfl rfl (Nat.le_of_ble_eq_true rfl) ⟨(Nat.le_of_ble_eq_true rfl), (Nat.le_of_ble_eq_true rfl)⟩ dX11_go_10 (fun b4 => ?_)
  refine x_istore hC [(5, .int x1), (4, .int ((10 : Int32) * a2)), (0, .ref (G.2.1 i0)), (1, .ref (G.2.1 i1)), (2, .int a2), (3, .int a3)] dX11_go_13  (Nat.le_of_ble_eq_true rfl) rfl ?_
  refine x_aload_n hC dX11_go_15 rfl 2 rfl ?_
  refine x_aload_n hC dX11_go_16 rfl 3 rfl ?_
  refine x_iload_n hC dX11_go_17 rfl 4 rfl ?_
  refine x_aload_n hC dX11_go_18 rfl 2 rfl ?_
  refine gf_X11_277 hC hi0 dX11_go_19 ?_
  obtain ⟨x5, M6, q7, hr⟩ := bd2_s hr
  refine x_callV (ci := 5) (q := (RX11, TX11, 32)) (As := [.ref (G.2.1 i1), .int a2, .int (M2 i0 28)]) hC (c_X11_reckon l G M2 hi0 hi1 a2 (M2 i0 28) q7) kc_yX11_reckon km_X11_294 ki_yX11_reckon kv_yX11_reckon kn_RX11 ky_yX11_reckon rfl ⟨rfl, rfl⟩ ⟨(Nat.le_of_ble_eq_true rfl), (Nat.le_of_ble_eq_true rfl)⟩ hi0 (by decide) rfl rfl (Nat.le_of_ble_eq_true rfl) ⟨(Nat.le_of_ble_eq_true rfl), (Nat.le_of_ble_eq_true rfl)⟩ dX11_go_22 (fun b8 => ?_)
  refine x_istore hC [(6, .int x5), (5, .int x1), (4, .int ((10 : Int32) * a2)), (0, .ref (G.2.1 i0)), (1, .ref (G.2.1 i1)), (2, .int a2), (3, .int a3)] dX11_go_25  (Nat.le_of_ble_eq_true rfl) rfl ?_
  refine x_iload hC dX11_go_27 1 rfl ?_
  refine x_iload hC dX11_go_29 0 rfl ?_
  obtain ⟨x9, e10, hr⟩ := lz_s hr
  refine x_callS (As := [.int x1, .int x5]) hC (c_X11_isCell l G M6 x1 x5 e10.symm) kc_yX11_isCell km_X11_313 kt_yX11_isCell kn_RX11 ky_yX11_isCell rfl ⟨rfl, rfl⟩ ⟨(Nat.le_of_ble_eq_true rfl), (Nat.le_of_ble_eq_true rfl)⟩ rfl (Nat.le_of_ble_eq_true rfl) ⟨(Nat.le_of_ble_eq_true rfl), (Nat.le_of_ble_eq_true rfl)⟩ dX11_go_31 (fun b11 => ?_)
  refine x_if_ne hC 52 dX11_go_34 (by decide) (fun h12 => ?_) (fun h12 => ?_)
  · have hr := (ie_s hr).2 h12
    refine x_aload_n hC dX11_go_52 rfl 4 rfl ?_
    refine gf_X11_239 hC hi1 dX11_go_53 ?_
    refine x_iload hC dX11_go_56 2 rfl ?_
    obtain ⟨h13, hr⟩ := it_s hr
    refine x_iald hC (kr_4_11 hi1) h13 dX11_go_58 ?_
    refine x_iload hC dX11_go_59 1 rfl ?_
    refine x_aload_n hC dX11_go_61 rfl 4 rfl ?_
    refine gf_X11_239 hC hi1 dX11_go_62 ?_
    refine x_iload hC dX11_go_65 2 rfl ?_
    obtain ⟨h14, hr⟩ := it_s hr
    refine x_iald hC (kr_4_11 hi1) h14 dX11_go_67 ?_
    refine x_isub hC dX11_go_68 ?_
    obtain ⟨x15, e16, hr⟩ := lz_s hr
    refine x_callS (As := [.int (x1 - (M6 (i1 + 6) (ix ((10 : Int32) * a2))))]) hC (c_J6_signum_0f7a4 l G M6 (x1 - (M6 (i1 + 6) (ix ((10 : Int32) * a2)))) e16.symm) kc_yJ6_signum_0f7a4 km_X11_317 kt_yJ6_signum_0f7a4 kn_RJ6 ky_yJ6_signum_0f7a4 rfl ⟨rfl, rfl⟩ ⟨(Nat.le_of_ble_eq_true rfl), (Nat.le_of_ble_eq_true rfl)⟩ rfl (Nat.le_of_ble_eq_true rfl) ⟨(Nat.le_of_ble_eq_true rfl), (Nat.le_of_ble_eq_true rfl)⟩ dX11_go_69 (fun b17 => ?_)
    refine x_iadd hC dX11_go_72 ?_
    obtain ⟨x18, e19, hr⟩ := lz_s hr
    refine x_topi e19 ?_
    refine x_istore hC [(7, .int x18), (6, .int x5), (5, .int x1), (4, .int ((10 : Int32) * a2)), (0, .ref (G.2.1 i0)), (1, .ref (G.2.1 i1)), (2, .int a2), (3, .int a3)] dX11_go_73  (Nat.le_of_ble_eq_true rfl) rfl ?_
    refine x_aload_n hC dX11_go_75 rfl 5 rfl ?_
    refine gf_X11_239 hC hi1 dX11_go_76 ?_
    refine x_iload hC dX11_go_79 3 rfl ?_
    refine x_iconst hC (1 : Int32) dX11_go_81 (by decide) ?_
    refine x_iadd hC dX11_go_82 ?_
    obtain ⟨h20, hr⟩ := it_s hr
    refine x_iald hC (kr_4_11 hi1) h20 dX11_go_83 ?_
    refine x_iload hC dX11_go_84 2 rfl ?_
    refine x_aload_n hC dX11_go_86 rfl 5 rfl ?_
    refine gf_X11_239 hC hi1 dX11_go_87 ?_
    refine x_iload hC dX11_go_90 3 rfl ?_
    obtain ⟨h21, hr⟩ := it_s hr
    refine x_iald hC (kr_4_11 hi1) h21 dX11_go_92 ?_
    obtain ⟨x30, q22, hr⟩ := bd1_s hr
    refine x_join (M' := M6) (pc' := 115) (lv' := [(1, .ref (G.2.1 i1)), (4, .int ((10 : Int32) * a2)), (7, .int x18)]) (st' := [.int x30, .int (M6 (i1 + 6) (ix (((10 : Int32) * a2) + (1 : Int32))))]) ?_ ?_
    · refine x_iadd hC dX11_go_115 ?_
      obtain ⟨x31, e32, hr⟩ := lz_s hr
      refine x_topi e32 ?_
      refine x_istore hC [(8, .int x31), (1, .ref (G.2.1 i1)), (4, .int ((10 : Int32) * a2)), (7, .int x18)] dX11_go_116  (Nat.le_of_ble_eq_true rfl) rfl ?_
      refine x_aload_n hC dX11_go_118 rfl 1 rfl ?_
      refine gf_X11_66 hC hi1 dX11_go_119 ?_
      refine x_bipush hC (8 : Int32) dX11_go_122 (by decide) ?_
      refine x_iload hC dX11_go_124 0 rfl ?_
      refine x_imul hC dX11_go_126 ?_
      refine x_iload hC dX11_go_127 3 rfl ?_
      refine x_iadd hC dX11_go_129 ?_
      obtain ⟨h33, hr⟩ := it_s hr
      refine x_iald hC (kr_4_7 hi1) h33 dX11_go_130 ?_
      refine x_bipush hC (9 : Int32) dX11_go_131 (by decide) ?_
      refine x_icmp_ne hC 138 dX11_go_133 (by decide) (fun h34 => ?_) (fun h34 => ?_)
      · have hr := (ie_s hr).2 h34
        refine x_aload_n hC dX11_go_138 rfl 1 rfl ?_
        refine gf_X11_239 hC hi1 dX11_go_139 ?_
        refine x_iload hC dX11_go_142 2 rfl ?_
        refine x_iload hC dX11_go_144 3 rfl ?_
        obtain ⟨h35, hr⟩ := it_s hr
        obtain ⟨M36, e37, hr⟩ := lz_s hr
        refine x_iast hC (kr_4_11 hi1) h35 e37 dX11_go_146 ?_
        refine x_aload_n hC dX11_go_147 rfl 1 rfl ?_
        refine gf_X11_239 hC hi1 dX11_go_148 ?_
        refine x_iload hC dX11_go_151 2 rfl ?_
        refine x_iconst hC (1 : Int32) dX11_go_153 (by decide) ?_
        refine x_iadd hC dX11_go_154 ?_
        refine x_iload hC dX11_go_155 0 rfl ?_
        obtain ⟨h38, hr⟩ := it_s hr
        obtain ⟨M39, e40, hr⟩ := lz_s hr
        refine x_iast hC (kr_4_11 hi1) h38 e40 dX11_go_157 ?_
        refine x_iconst hC (1 : Int32) dX11_go_158 (by decide) ?_
        cases hr
        exact x_zret hC rfl (Or.inr rfl) dX11_go_159
      · have hr := (ie_s hr).1 h34
        refine x_iconst hC (0 : Int32) dX11_go_136 (by decide) ?_
        cases hr
        exact x_zret hC rfl (Or.inl rfl) dX11_go_137
    · intro kj
      refine x_icmp_ne hC 114 dX11_go_93 (by decide) (fun h23 => ?_) (fun h23 => ?_)
      · have q22 := (ie_s q22).2 h23
        refine x_iconst hC (0 : Int32) dX11_go_114 (by decide) ?_
        cases q22
        exact x_sub [5, 3, 0] rfl kj
      · have q22 := (ie_s q22).1 h23
        refine x_iload hC dX11_go_96 1 rfl ?_
        refine x_aload_n hC dX11_go_98 rfl 5 rfl ?_
        refine gf_X11_239 hC hi1 dX11_go_99 ?_
        refine x_iload hC dX11_go_102 3 rfl ?_
        refine x_iconst hC (1 : Int32) dX11_go_104 (by decide) ?_
        refine x_iadd hC dX11_go_105 ?_
        obtain ⟨h24, q22⟩ := it_s q22
        refine x_iald hC (kr_4_11 hi1) h24 dX11_go_106 ?_
        refine x_isub hC dX11_go_107 ?_
        obtain ⟨x25, e26, q22⟩ := lz_s q22
        refine x_topi e26 ?_
        obtain ⟨x27, e28, q22⟩ := lz_s q22
        refine x_callS (As := [.int x25]) hC (c_J6_signum_0f7a4 l G M6 x25 e28.symm) kc_yJ6_signum_0f7a4 km_X11_317 kt_yJ6_signum_0f7a4 kn_RJ6 ky_yJ6_signum_0f7a4 rfl ⟨rfl, rfl⟩ ⟨(Nat.le_of_ble_eq_true rfl), (Nat.le_of_ble_eq_true rfl)⟩ rfl (Nat.le_of_ble_eq_true rfl) ⟨(Nat.le_of_ble_eq_true rfl), (Nat.le_of_ble_eq_true rfl)⟩ dX11_go_108 (fun b29 => ?_)
        refine x_goto hC 115 dX11_go_111 (by decide) ?_
        cases q22
        exact x_sub [5, 3, 0] rfl kj
  · have hr := (ie_s hr).1 h12
    refine x_aload_n hC dX11_go_37 rfl 4 rfl ?_
    refine gf_X11_239 hC hi1 dX11_go_38 ?_
    refine x_iload hC dX11_go_41 2 rfl ?_
    refine x_iconst hC (4 : Int32) dX11_go_43 (by decide) ?_
    refine x_iadd hC dX11_go_44 ?_
    refine x_aload_n hC dX11_go_45 rfl 3 rfl ?_
    refine gf_X11_277 hC hi0 dX11_go_46 ?_
    obtain ⟨h41, hr⟩ := it_s hr
    obtain ⟨M42, e43, hr⟩ := lz_s hr
    refine x_iast hC (kr_4_11 hi1) h41 e43 dX11_go_49 ?_
    refine x_iconst hC (0 : Int32) dX11_go_50 (by decide) ?_
    cases hr
    exact x_zret hC rfl (Or.inl rfl) dX11_go_51

theorem dX11_unload_0 : decode cX11_unload 0 = .ok (.iload_n 3, 1) := by decide +kernel
theorem dX11_unload_1 : decode cX11_unload 1 = .ok (.ifCond .ne 14, 3) := by decide +kernel
theorem dX11_unload_4 : decode cX11_unload 4 = .ok (.aload_n 1, 1) := by decide +kernel
theorem dX11_unload_5 : decode cX11_unload 5 = .ok (.getfield 239, 3) := by decide +kernel
theorem dX11_unload_8 : decode cX11_unload 8 = .ok (.iload_n 2, 1) := by decide +kernel
theorem dX11_unload_9 : decode cX11_unload 9 = .ok (.iconst 2, 1) := by decide +kernel
theorem dX11_unload_10 : decode cX11_unload 10 = .ok (.iadd, 1) := by decide +kernel
theorem dX11_unload_11 : decode cX11_unload 11 = .ok (.iaload, 1) := by decide +kernel
theorem dX11_unload_12 : decode cX11_unload 12 = .ok (.goto 23, 3) := by decide +kernel
theorem dX11_unload_15 : decode cX11_unload 15 = .ok (.aload_n 1, 1) := by decide +kernel
theorem dX11_unload_16 : decode cX11_unload 16 = .ok (.getfield 239, 3) := by decide +kernel
theorem dX11_unload_19 : decode cX11_unload 19 = .ok (.iload_n 2, 1) := by decide +kernel
theorem dX11_unload_20 : decode cX11_unload 20 = .ok (.iconst 2, 1) := by decide +kernel
theorem dX11_unload_21 : decode cX11_unload 21 = .ok (.iadd, 1) := by decide +kernel
theorem dX11_unload_22 : decode cX11_unload 22 = .ok (.iaload, 1) := by decide +kernel
theorem dX11_unload_23 : decode cX11_unload 23 = .ok (.bipush 99, 2) := by decide +kernel
theorem dX11_unload_25 : decode cX11_unload 25 = .ok (.aload_n 1, 1) := by decide +kernel
theorem dX11_unload_26 : decode cX11_unload 26 = .ok (.getfield 241, 3) := by decide +kernel
theorem dX11_unload_29 : decode cX11_unload 29 = .ok (.iload_n 3, 1) := by decide +kernel
theorem dX11_unload_30 : decode cX11_unload 30 = .ok (.iaload, 1) := by decide +kernel
theorem dX11_unload_31 : decode cX11_unload 31 = .ok (.isub, 1) := by decide +kernel
theorem dX11_unload_32 : decode cX11_unload 32 = .ok (.invokestatic 256, 3) := by decide +kernel
theorem dX11_unload_35 : decode cX11_unload 35 = .ok (.istore 4, 2) := by decide +kernel
theorem dX11_unload_37 : decode cX11_unload 37 = .ok (.iload 4, 2) := by decide +kernel
theorem dX11_unload_39 : decode cX11_unload 39 = .ok (.ifCond .ne 5, 3) := by decide +kernel
theorem dX11_unload_42 : decode cX11_unload 42 = .ok (.iconst 0, 1) := by decide +kernel
theorem dX11_unload_43 : decode cX11_unload 43 = .ok (.ireturn, 1) := by decide +kernel
theorem dX11_unload_44 : decode cX11_unload 44 = .ok (.iload_n 3, 1) := by decide +kernel
theorem dX11_unload_45 : decode cX11_unload 45 = .ok (.ifCond .eq 21, 3) := by decide +kernel
theorem dX11_unload_48 : decode cX11_unload 48 = .ok (.aload_n 1, 1) := by decide +kernel
theorem dX11_unload_49 : decode cX11_unload 49 = .ok (.iload_n 3, 1) := by decide +kernel
theorem dX11_unload_50 : decode cX11_unload 50 = .ok (.iload 4, 2) := by decide +kernel
theorem dX11_unload_52 : decode cX11_unload 52 = .ok (.aload_n 1, 1) := by decide +kernel
theorem dX11_unload_53 : decode cX11_unload 53 = .ok (.getfield 239, 3) := by decide +kernel
theorem dX11_unload_56 : decode cX11_unload 56 = .ok (.iload_n 2, 1) := by decide +kernel
theorem dX11_unload_57 : decode cX11_unload 57 = .ok (.iconst 3, 1) := by decide +kernel
theorem dX11_unload_58 : decode cX11_unload 58 = .ok (.iadd, 1) := by decide +kernel
theorem dX11_unload_59 : decode cX11_unload 59 = .ok (.iaload, 1) := by decide +kernel
theorem dX11_unload_60 : decode cX11_unload 60 = .ok (.invokevirtual 322, 3) := by decide +kernel
theorem dX11_unload_63 : decode cX11_unload 63 = .ok (.goto 40, 3) := by decide +kernel
theorem dX11_unload_66 : decode cX11_unload 66 = .ok (.aload_n 1, 1) := by decide +kernel
theorem dX11_unload_67 : decode cX11_unload 67 = .ok (.getfield 239, 3) := by decide +kernel
theorem dX11_unload_70 : decode cX11_unload 70 = .ok (.iload_n 2, 1) := by decide +kernel
theorem dX11_unload_71 : decode cX11_unload 71 = .ok (.iconst 3, 1) := by decide +kernel
theorem dX11_unload_72 : decode cX11_unload 72 = .ok (.iadd, 1) := by decide +kernel
theorem dX11_unload_73 : decode cX11_unload 73 = .ok (.iaload, 1) := by decide +kernel
theorem dX11_unload_74 : decode cX11_unload 74 = .ok (.iconst 5, 1) := by decide +kernel
theorem dX11_unload_75 : decode cX11_unload 75 = .ok (.if_icmp .gt 17, 3) := by decide +kernel
theorem dX11_unload_78 : decode cX11_unload 78 = .ok (.aload_n 1, 1) := by decide +kernel
theorem dX11_unload_79 : decode cX11_unload 79 = .ok (.dup, 1) := by decide +kernel
theorem dX11_unload_80 : decode cX11_unload 80 = .ok (.getfield 253, 3) := by decide +kernel
theorem dX11_unload_83 : decode cX11_unload 83 = .ok (.iload 4, 2) := by decide +kernel
theorem dX11_unload_85 : decode cX11_unload 85 = .ok (.iadd, 1) := by decide +kernel
theorem dX11_unload_86 : decode cX11_unload 86 = .ok (.putfield 253, 3) := by decide +kernel
theorem dX11_unload_89 : decode cX11_unload 89 = .ok (.goto 14, 3) := by decide +kernel
theorem dX11_unload_92 : decode cX11_unload 92 = .ok (.aload_n 1, 1) := by decide +kernel
theorem dX11_unload_93 : decode cX11_unload 93 = .ok (.dup, 1) := by decide +kernel
theorem dX11_unload_94 : decode cX11_unload 94 = .ok (.getfield 332, 3) := by decide +kernel
theorem dX11_unload_97 : decode cX11_unload 97 = .ok (.iload 4, 2) := by decide +kernel
theorem dX11_unload_99 : decode cX11_unload 99 = .ok (.iadd, 1) := by decide +kernel
theorem dX11_unload_100 : decode cX11_unload 100 = .ok (.putfield 332, 3) := by decide +kernel
theorem dX11_unload_103 : decode cX11_unload 103 = .ok (.aload_n 1, 1) := by decide +kernel
theorem dX11_unload_104 : decode cX11_unload 104 = .ok (.getfield 239, 3) := by decide +kernel
theorem dX11_unload_107 : decode cX11_unload 107 = .ok (.iload_n 2, 1) := by decide +kernel
theorem dX11_unload_108 : decode cX11_unload 108 = .ok (.iconst 2, 1) := by decide +kernel
theorem dX11_unload_109 : decode cX11_unload 109 = .ok (.iadd, 1) := by decide +kernel
theorem dX11_unload_110 : decode cX11_unload 110 = .ok (.dup2, 1) := by decide +kernel
theorem dX11_unload_111 : decode cX11_unload 111 = .ok (.iaload, 1) := by decide +kernel
theorem dX11_unload_112 : decode cX11_unload 112 = .ok (.iload 4, 2) := by decide +kernel
theorem dX11_unload_114 : decode cX11_unload 114 = .ok (.isub, 1) := by decide +kernel
theorem dX11_unload_115 : decode cX11_unload 115 = .ok (.iastore, 1) := by decide +kernel
theorem dX11_unload_116 : decode cX11_unload 116 = .ok (.aload_n 1, 1) := by decide +kernel
theorem dX11_unload_117 : decode cX11_unload 117 = .ok (.getfield 239, 3) := by decide +kernel
theorem dX11_unload_120 : decode cX11_unload 120 = .ok (.iload_n 2, 1) := by decide +kernel
theorem dX11_unload_121 : decode cX11_unload 121 = .ok (.iconst 2, 1) := by decide +kernel
theorem dX11_unload_122 : decode cX11_unload 122 = .ok (.iadd, 1) := by decide +kernel
theorem dX11_unload_123 : decode cX11_unload 123 = .ok (.iaload, 1) := by decide +kernel
theorem dX11_unload_124 : decode cX11_unload 124 = .ok (.ifCond .ne 12, 3) := by decide +kernel
theorem dX11_unload_127 : decode cX11_unload 127 = .ok (.aload_n 1, 1) := by decide +kernel
theorem dX11_unload_128 : decode cX11_unload 128 = .ok (.getfield 239, 3) := by decide +kernel
theorem dX11_unload_131 : decode cX11_unload 131 = .ok (.iload_n 2, 1) := by decide +kernel
theorem dX11_unload_132 : decode cX11_unload 132 = .ok (.iconst 3, 1) := by decide +kernel
theorem dX11_unload_133 : decode cX11_unload 133 = .ok (.iadd, 1) := by decide +kernel
theorem dX11_unload_134 : decode cX11_unload 134 = .ok (.iconst 0, 1) := by decide +kernel
theorem dX11_unload_135 : decode cX11_unload 135 = .ok (.iastore, 1) := by decide +kernel
theorem dX11_unload_136 : decode cX11_unload 136 = .ok (.iconst 1, 1) := by decide +kernel
theorem dX11_unload_137 : decode cX11_unload 137 = .ok (.ireturn, 1) := by decide +kernel

def f_X11_unload (i0 : Nat) (i1 : Nat) (a2 : Int32) (a3 : Int32) (M : Mm) : Option (Int32 × Mm) :=
  bd1 (if (a3 = 0) then (if 0 ≤ (a2 + (2 : Int32)).toInt ∧ (a2 + (2 : Int32)).toInt < ((40 : Nat) : Int) then (some ((M (i1 + 6) (ix (a2 + (2 : Int32)))))) else none) else (if 0 ≤ (a2 + (2 : Int32)).toInt ∧ (a2 + (2 : Int32)).toInt < ((40 : Nat) : Int) then (if 0 ≤ a3.toInt ∧ a3.toInt < ((64 : Nat) : Int) then (lz (imin (M (i1 + 6) (ix (a2 + (2 : Int32)))) ((99 : Int32) - (M (i1 + 3) (ix a3)))) fun x5 => some (x5)) else none) else none)) fun x8 => if (x8 = 0) then (some ((0 : Int32), M)) else (bd1 (if (a3 = 0) then (if 0 ≤ (a2 + (3 : Int32)).toInt ∧ (a2 + (3 : Int32)).toInt < ((40 : Nat) : Int) then (if ((5 : Int32) < (M (i1 + 6) (ix (a2 + (3 : Int32))))) then (lz (wr M i1 3 ((M i1 3) + x8)) fun M14 => some (M14)) else (lz (wr M i1 2 ((M i1 2) + x8)) fun M16 => some (M16))) else none) else (if 0 ≤ (a2 + (3 : Int32)).toInt ∧ (a2 + (3 : Int32)).toInt < ((40 : Nat) : Int) then (bd1 (f_X10_pile i1 a3 x8 (M (i1 + 6) (ix (a2 + (3 : Int32)))) M) fun M19 => some (M19)) else none)) fun M22 => if 0 ≤ (a2 + (2 : Int32)).toInt ∧ (a2 + (2 : Int32)).toInt < ((40 : Nat) : Int) then (if 0 ≤ (a2 + (2 : Int32)).toInt ∧ (a2 + (2 : Int32)).toInt < ((40 : Nat) : Int) then (lz (wr M22 (i1 + 6) (ix (a2 + (2 : Int32))) ((M22 (i1 + 6) (ix (a2 + (2 : Int32)))) - x8)) fun M25 => if 0 ≤ (a2 + (2 : Int32)).toInt ∧ (a2 + (2 : Int32)).toInt < ((40 : Nat) : Int) then (bd1 (if ((M25 (i1 + 6) (ix (a2 + (2 : Int32)))) = 0) then (if 0 ≤ (a2 + (3 : Int32)).toInt ∧ (a2 + (3 : Int32)).toInt < ((40 : Nat) : Int) then (lz (wr M25 (i1 + 6) (ix (a2 + (3 : Int32))) (0 : Int32)) fun M31 => some (M31)) else none) else (some (M25))) fun M33 => some ((1 : Int32), M33)) else none) else none) else none)

set_option maxHeartbeats 4000000 in
set_option maxRecDepth 100000 in
theorem c_X11_unload (l : Launch) (G : GG) (M : Mm) {i0 : Nat} (hi0 : (kd i0).1 = 5) {i1 : Nat} (hi1 : (kd i1).1 = 4) (a2 : Int32) (a3 : Int32) {r : Int32} {M9 : Mm} (hr : f_X11_unload i0 i1 a2 a3 M = some (r, M9)) : Mo true l yX11_unload (WS yX11_unload cX11_unload 5 (some .boolean)) (RM 1 0 0 40) 0 0 [.ref (G.2.1 i0), .ref (G.2.1 i1), .int a2, .int a3] G M (some (.int r)) M9 := by
  refine Mo.of (by decide +kernel) (Nat.le_of_ble_eq_true rfl) ?_
  intro p e s m args below meth c hC
  have hC : CX p s m args meth c cX11_unload 5 RX11 (some .boolean) G := hC
  rw [f_X11_unload] at hr
  show XJ p l e (RM 1 0 0 40) s m args below meth c G 5 _ 0 0 M 0 [(0, .ref (G.2.1 i0)), (1, .ref (G.2.1 i1)), (2, .int a2), (3, .int a3)] []
  refine x_iload_n hC dX11_unload_0 rfl 3 rfl ?_
  obtain ⟨x8, q1, hr⟩ := bd1_s hr
  refine x_join (M' := M) (pc' := 35) (lv' := [(1, .ref (G.2.1 i1)), (2, .int a2), (3, .int a3)]) (st' := [.int x8]) ?_ ?_
  · refine x_istore hC [(4, .int x8), (1, .ref (G.2.1 i1)), (2, .int a2), (3, .int a3)] dX11_unload_35  (Nat.le_of_ble_eq_true rfl) rfl ?_
    refine x_iload hC dX11_unload_37 0 rfl ?_
    refine x_if_ne hC 44 dX11_unload_39 (by decide) (fun h9 => ?_) (fun h9 => ?_)
    · have hr := (ie_s hr).2 h9
      refine x_iload_n hC dX11_unload_44 rfl 3 rfl ?_
      obtain ⟨M22, q10, hr⟩ := bd1_s hr
      refine x_join (M' := M22) (pc' := 103) (lv' := [(1, .ref (G.2.1 i1)), (2, .int a2), (4, .int x8)]) (st' := []) ?_ ?_
      · refine x_aload_n hC dX11_unload_103 rfl 0 rfl ?_
        refine gf_X11_239 hC hi1 dX11_unload_104 ?_
        refine x_iload_n hC dX11_unload_107 rfl 1 rfl ?_
        refine x_iconst hC (2 : Int32) dX11_unload_108 (by decide) ?_
        refine x_iadd hC dX11_unload_109 ?_
        refine x_dup2 hC dX11_unload_110 rfl rfl ?_
        obtain ⟨h23, hr⟩ := it_s hr
        refine x_iald hC (kr_4_11 hi1) h23 dX11_unload_111 ?_
        refine x_iload hC dX11_unload_112 2 rfl ?_
        refine x_isub hC dX11_unload_114 ?_
        obtain ⟨h24, hr⟩ := it_s hr
        obtain ⟨M25, e26, hr⟩ := lz_s hr
        refine x_iast hC (kr_4_11 hi1) h24 e26 dX11_unload_115 ?_
        refine x_aload_n hC dX11_unload_116 rfl 0 rfl ?_
        refine gf_X11_239 hC hi1 dX11_unload_117 ?_
        refine x_iload_n hC dX11_unload_120 rfl 1 rfl ?_
        refine x_iconst hC (2 : Int32) dX11_unload_121 (by decide) ?_
        refine x_iadd hC dX11_unload_122 ?_
        obtain ⟨h27, hr⟩ := it_s hr
        refine x_iald hC (kr_4_11 hi1) h27 dX11_unload_123 ?_
        obtain ⟨M33, q28, hr⟩ := bd1_s hr
        refine x_join (M' := M33) (pc' := 136) (lv' := []) (st' := []) ?_ ?_
        · refine x_iconst hC (1 : Int32) dX11_unload_136 (by decide) ?_
          cases hr
          exact x_zret hC rfl (Or.inr rfl) dX11_unload_137
        · intro kj
          refine x_if_ne hC 136 dX11_unload_124 (by decide) (fun h29 => ?_) (fun h29 => ?_)
          · have q28 := (ie_s q28).2 h29
            cases q28
            exact x_sub [] rfl kj
          · have q28 := (ie_s q28).1 h29
            refine x_aload_n hC dX11_unload_127 rfl 0 rfl ?_
            refine gf_X11_239 hC hi1 dX11_unload_128 ?_
            refine x_iload_n hC dX11_unload_131 rfl 1 rfl ?_
            refine x_iconst hC (3 : Int32) dX11_unload_132 (by decide) ?_
            refine x_iadd hC dX11_unload_133 ?_
            refine x_iconst hC (0 : Int32) dX11_unload_134 (by decide) ?_
            obtain ⟨h30, q28⟩ := it_s q28
            obtain ⟨M31, e32, q28⟩ := lz_s q28
            refine x_iast hC (kr_4_11 hi1) h30 e32 dX11_unload_135 ?_
            cases q28
            exact x_sub [] rfl kj
      · intro kj
        refine x_if_eq hC 66 dX11_unload_45 (by decide) (fun h11 => ?_) (fun h11 => ?_)
        · have q10 := (ie_s q10).1 h11
          refine x_aload_n hC dX11_unload_66 rfl 1 rfl ?_
          refine gf_X11_239 hC hi1 dX11_unload_67 ?_
          refine x_iload_n hC dX11_unload_70 rfl 2 rfl ?_
          refine x_iconst hC (3 : Int32) dX11_unload_71 (by decide) ?_
          refine x_iadd hC dX11_unload_72 ?_
          obtain ⟨h12, q10⟩ := it_s q10
          refine x_iald hC (kr_4_11 hi1) h12 dX11_unload_73 ?_
          refine x_iconst hC (5 : Int32) dX11_unload_74 (by decide) ?_
          refine x_icmp_gt hC 92 dX11_unload_75 (by decide) (fun h13 => ?_) (fun h13 => ?_)
          · have q10 := (ie_s q10).1 h13
            refine x_aload_n hC dX11_unload_92 rfl 1 rfl ?_
            refine x_dup hC dX11_unload_93 rfl ?_
            refine gf_X11_332 hC hi1 dX11_unload_94 ?_
            refine x_iload hC dX11_unload_97 0 rfl ?_
            refine x_iadd hC dX11_unload_99 ?_
            obtain ⟨M14, e15, q10⟩ := lz_s q10
            refine pf_X11_332 hC hi1 e15 dX11_unload_100 ?_
            cases q10
            exact x_sub [1, 2, 0] rfl kj
          · have q10 := (ie_s q10).2 h13
            refine x_aload_n hC dX11_unload_78 rfl 1 rfl ?_
            refine x_dup hC dX11_unload_79 rfl ?_
            refine gf_X11_253 hC hi1 dX11_unload_80 ?_
            refine x_iload hC dX11_unload_83 0 rfl ?_
            refine x_iadd hC dX11_unload_85 ?_
            obtain ⟨M16, e17, q10⟩ := lz_s q10
            refine pf_X11_253 hC hi1 e17 dX11_unload_86 ?_
            refine x_goto hC 103 dX11_unload_89 (by decide) ?_
            cases q10
            exact x_sub [1, 2, 0] rfl kj
        · have q10 := (ie_s q10).2 h11
          refine x_aload_n hC dX11_unload_48 rfl 1 rfl ?_
          refine x_iload_n hC dX11_unload_49 rfl 3 rfl ?_
          refine x_iload hC dX11_unload_50 0 rfl ?_
          refine x_aload_n hC dX11_unload_52 rfl 1 rfl ?_
          refine gf_X11_239 hC hi1 dX11_unload_53 ?_
          refine x_iload_n hC dX11_unload_56 rfl 2 rfl ?_
          refine x_iconst hC (3 : Int32) dX11_unload_57 (by decide) ?_
          refine x_iadd hC dX11_unload_58 ?_
          obtain ⟨h18, q10⟩ := it_s q10
          refine x_iald hC (kr_4_11 hi1) h18 dX11_unload_59 ?_
          obtain ⟨M19, q20, q10⟩ := bd1_s q10
          refine x_callV (ci := 4) (q := (RX10, TX10, 13)) (As := [.int a3, .int x8, .int (M (i1 + 6) (ix (a2 + (3 : Int32))))]) hC (c_X10_pile l G M hi1 a3 x8 (M (i1 + 6) (ix (a2 + (3 : Int32)))) q20) kc_yX10_pile km_X11_322 ki_yX10_pile kv_yX10_pile kn_RX10 ky_yX10_pile rfl ⟨rfl, rfl⟩ ⟨(Nat.le_of_ble_eq_true rfl), (Nat.le_of_ble_eq_true rfl)⟩ hi1 (by decide) rfl rfl (Nat.le_of_ble_eq_true rfl) ⟨(Nat.le_of_ble_eq_true rfl), (Nat.le_of_ble_eq_true rfl)⟩ dX11_unload_60 (fun b21 => ?_)
          refine x_goto hC 103 dX11_unload_63 (by decide) ?_
          cases q10
          exact x_sub [1, 2, 0] rfl kj
    · have hr := (ie_s hr).1 h9
      refine x_iconst hC (0 : Int32) dX11_unload_42 (by decide) ?_
      cases hr
      exact x_zret hC rfl (Or.inl rfl) dX11_unload_43
  · intro kj
    refine x_if_ne hC 15 dX11_unload_1 (by decide) (fun h2 => ?_) (fun h2 => ?_)
    · have q1 := (ie_s q1).2 h2
      refine x_aload_n hC dX11_unload_15 rfl 1 rfl ?_
      refine gf_X11_239 hC hi1 dX11_unload_16 ?_
      refine x_iload_n hC dX11_unload_19 rfl 2 rfl ?_
      refine x_iconst hC (2 : Int32) dX11_unload_20 (by decide) ?_
      refine x_iadd hC dX11_unload_21 ?_
      obtain ⟨h3, q1⟩ := it_s q1
      refine x_iald hC (kr_4_11 hi1) h3 dX11_unload_22 ?_
      refine x_bipush hC (99 : Int32) dX11_unload_23 (by decide) ?_
      refine x_aload_n hC dX11_unload_25 rfl 1 rfl ?_
      refine gf_X11_241 hC hi1 dX11_unload_26 ?_
      refine x_iload_n hC dX11_unload_29 rfl 3 rfl ?_
      obtain ⟨h4, q1⟩ := it_s q1
      refine x_iald hC (kr_4_8 hi1) h4 dX11_unload_30 ?_
      refine x_isub hC dX11_unload_31 ?_
      refine x_mmin hC km_X11_256 kt_Mmin kn_Math kc_Mmin (Nat.le_of_ble_eq_true rfl) (Nat.le_of_ble_eq_true rfl) ⟨(Nat.le_of_ble_eq_true rfl), (Nat.le_of_ble_eq_true rfl)⟩ dX11_unload_32 ?_
      obtain ⟨x5, e6, q1⟩ := lz_s q1
      refine x_topi e6 ?_
      cases q1
      exact x_sub [1, 2, 3] rfl kj
    · have q1 := (ie_s q1).1 h2
      refine x_aload_n hC dX11_unload_4 rfl 1 rfl ?_
      refine gf_X11_239 hC hi1 dX11_unload_5 ?_
      refine x_iload_n hC dX11_unload_8 rfl 2 rfl ?_
      refine x_iconst hC (2 : Int32) dX11_unload_9 (by decide) ?_
      refine x_iadd hC dX11_unload_10 ?_
      obtain ⟨h7, q1⟩ := it_s q1
      refine x_iald hC (kr_4_11 hi1) h7 dX11_unload_11 ?_
      refine x_goto hC 35 dX11_unload_12 (by decide) ?_
      cases q1
      exact x_sub [1, 2, 3] rfl kj

theorem dX11_cut_0 : decode cX11_cut 0 = .ok (.iload_n 3, 1) := by decide +kernel
theorem dX11_cut_1 : decode cX11_cut 1 = .ok (.bipush 6, 2) := by decide +kernel
theorem dX11_cut_3 : decode cX11_cut 3 = .ok (.invokestatic 256, 3) := by decide +kernel
theorem dX11_cut_6 : decode cX11_cut 6 = .ok (.aload_n 1, 1) := by decide +kernel
theorem dX11_cut_7 : decode cX11_cut 7 = .ok (.getfield 63, 3) := by decide +kernel
theorem dX11_cut_10 : decode cX11_cut 10 = .ok (.iload_n 2, 1) := by decide +kernel
theorem dX11_cut_11 : decode cX11_cut 11 = .ok (.iaload, 1) := by decide +kernel
theorem dX11_cut_12 : decode cX11_cut 12 = .ok (.bipush 99, 2) := by decide +kernel
theorem dX11_cut_14 : decode cX11_cut 14 = .ok (.aload_n 1, 1) := by decide +kernel
theorem dX11_cut_15 : decode cX11_cut 15 = .ok (.getfield 241, 3) := by decide +kernel
theorem dX11_cut_18 : decode cX11_cut 18 = .ok (.iload_n 2, 1) := by decide +kernel
theorem dX11_cut_19 : decode cX11_cut 19 = .ok (.iaload, 1) := by decide +kernel
theorem dX11_cut_20 : decode cX11_cut 20 = .ok (.isub, 1) := by decide +kernel
theorem dX11_cut_21 : decode cX11_cut 21 = .ok (.invokestatic 256, 3) := by decide +kernel
theorem dX11_cut_24 : decode cX11_cut 24 = .ok (.invokestatic 256, 3) := by decide +kernel
theorem dX11_cut_27 : decode cX11_cut 27 = .ok (.istore 4, 2) := by decide +kernel
theorem dX11_cut_29 : decode cX11_cut 29 = .ok (.iload 4, 2) := by decide +kernel
theorem dX11_cut_31 : decode cX11_cut 31 = .ok (.ifCond .gt 5, 3) := by decide +kernel
theorem dX11_cut_34 : decode cX11_cut 34 = .ok (.iconst 0, 1) := by decide +kernel
theorem dX11_cut_35 : decode cX11_cut 35 = .ok (.ireturn, 1) := by decide +kernel
theorem dX11_cut_36 : decode cX11_cut 36 = .ok (.aload_n 1, 1) := by decide +kernel
theorem dX11_cut_37 : decode cX11_cut 37 = .ok (.iload_n 2, 1) := by decide +kernel
theorem dX11_cut_38 : decode cX11_cut 38 = .ok (.iload 4, 2) := by decide +kernel
theorem dX11_cut_40 : decode cX11_cut 40 = .ok (.bipush 20, 2) := by decide +kernel
theorem dX11_cut_42 : decode cX11_cut 42 = .ok (.invokevirtual 322, 3) := by decide +kernel
theorem dX11_cut_45 : decode cX11_cut 45 = .ok (.aload_n 1, 1) := by decide +kernel
theorem dX11_cut_46 : decode cX11_cut 46 = .ok (.getfield 63, 3) := by decide +kernel
theorem dX11_cut_49 : decode cX11_cut 49 = .ok (.iload_n 2, 1) := by decide +kernel
theorem dX11_cut_50 : decode cX11_cut 50 = .ok (.dup2, 1) := by decide +kernel
theorem dX11_cut_51 : decode cX11_cut 51 = .ok (.iaload, 1) := by decide +kernel
theorem dX11_cut_52 : decode cX11_cut 52 = .ok (.iload 4, 2) := by decide +kernel
theorem dX11_cut_54 : decode cX11_cut 54 = .ok (.isub, 1) := by decide +kernel
theorem dX11_cut_55 : decode cX11_cut 55 = .ok (.iastore, 1) := by decide +kernel
theorem dX11_cut_56 : decode cX11_cut 56 = .ok (.aload_n 1, 1) := by decide +kernel
theorem dX11_cut_57 : decode cX11_cut 57 = .ok (.dup, 1) := by decide +kernel
theorem dX11_cut_58 : decode cX11_cut 58 = .ok (.getfield 326, 3) := by decide +kernel
theorem dX11_cut_61 : decode cX11_cut 61 = .ok (.iload 4, 2) := by decide +kernel
theorem dX11_cut_63 : decode cX11_cut 63 = .ok (.iadd, 1) := by decide +kernel
theorem dX11_cut_64 : decode cX11_cut 64 = .ok (.putfield 326, 3) := by decide +kernel
theorem dX11_cut_67 : decode cX11_cut 67 = .ok (.iconst 1, 1) := by decide +kernel
theorem dX11_cut_68 : decode cX11_cut 68 = .ok (.ireturn, 1) := by decide +kernel

def f_X11_cut (i0 : Nat) (i1 : Nat) (a2 : Int32) (a3 : Int32) (M : Mm) : Option (Int32 × Mm) :=
  if 0 ≤ a2.toInt ∧ a2.toInt < ((64 : Nat) : Int) then (if 0 ≤ a2.toInt ∧ a2.toInt < ((64 : Nat) : Int) then (lz (imin (M (i1 + 1) (ix a2)) ((99 : Int32) - (M (i1 + 3) (ix a2)))) fun x3 => lz (imin (imin a3 (6 : Int32)) x3) fun x5 => if (0 < x5) then (bd1 (f_X10_pile i1 a2 x5 (20 : Int32) M) fun M8 => if 0 ≤ a2.toInt ∧ a2.toInt < ((64 : Nat) : Int) then (if 0 ≤ a2.toInt ∧ a2.toInt < ((64 : Nat) : Int) then (lz (wr M8 (i1 + 1) (ix a2) ((M8 (i1 + 1) (ix a2)) - x5)) fun M13 => lz (wr M13 i1 5 ((M13 i1 5) + x5)) fun M15 => some ((1 : Int32), M15)) else none) else none) else (some ((0 : Int32), M))) else none) else none

set_option maxHeartbeats 4000000 in
set_option maxRecDepth 100000 in
theorem c_X11_cut (l : Launch) (G : GG) (M : Mm) {i0 : Nat} (hi0 : (kd i0).1 = 5) {i1 : Nat} (hi1 : (kd i1).1 = 4) (a2 : Int32) (a3 : Int32) {r : Int32} {M9 : Mm} (hr : f_X11_cut i0 i1 a2 a3 M = some (r, M9)) : Mo true l yX11_cut (WS yX11_cut cX11_cut 5 (some .boolean)) (RM 1 0 0 40) 0 0 [.ref (G.2.1 i0), .ref (G.2.1 i1), .int a2, .int a3] G M (some (.int r)) M9 := by
  refine Mo.of (by decide +kernel) (Nat.le_of_ble_eq_true rfl) ?_
  intro p e s m args below meth c hC
  have hC : CX p s m args meth c cX11_cut 5 RX11 (some .boolean) G := hC
  rw [f_X11_cut] at hr
  show XJ p l e (RM 1 0 0 40) s m args below meth c G 5 _ 0 0 M 0 [(0, .ref (G.2.1 i0)), (1, .ref (G.2.1 i1)), (2, .int a2), (3, .int a3)] []
  refine x_iload_n hC dX11_cut_0 rfl 3 rfl ?_
  refine x_bipush hC (6 : Int32) dX11_cut_1 (by decide) ?_
  refine x_mmin hC km_X11_256 kt_Mmin kn_Math kc_Mmin (Nat.le_of_ble_eq_true rfl) (Nat.le_of_ble_eq_true rfl) ⟨(Nat.le_of_ble_eq_true rfl), (Nat.le_of_ble_eq_true rfl)⟩ dX11_cut_3 ?_
  refine x_aload_n hC dX11_cut_6 rfl 1 rfl ?_
  refine gf_X11_63 hC hi1 dX11_cut_7 ?_
  refine x_iload_n hC dX11_cut_10 rfl 2 rfl ?_
  obtain ⟨h1, hr⟩ := it_s hr
  refine x_iald hC (kr_4_6 hi1) h1 dX11_cut_11 ?_
  refine x_bipush hC (99 : Int32) dX11_cut_12 (by decide) ?_
  refine x_aload_n hC dX11_cut_14 rfl 1 rfl ?_
  refine gf_X11_241 hC hi1 dX11_cut_15 ?_
  refine x_iload_n hC dX11_cut_18 rfl 2 rfl ?_
  obtain ⟨h2, hr⟩ := it_s hr
  refine x_iald hC (kr_4_8 hi1) h2 dX11_cut_19 ?_
  refine x_isub hC dX11_cut_20 ?_
  refine x_mmin hC km_X11_256 kt_Mmin kn_Math kc_Mmin (Nat.le_of_ble_eq_true rfl) (Nat.le_of_ble_eq_true rfl) ⟨(Nat.le_of_ble_eq_true rfl), (Nat.le_of_ble_eq_true rfl)⟩ dX11_cut_21 ?_
  obtain ⟨x3, e4, hr⟩ := lz_s hr
  refine x_topi e4 ?_
  refine x_mmin hC km_X11_256 kt_Mmin kn_Math kc_Mmin (Nat.le_of_ble_eq_true rfl) (Nat.le_of_ble_eq_true rfl) ⟨(Nat.le_of_ble_eq_true rfl), (Nat.le_of_ble_eq_true rfl)⟩ dX11_cut_24 ?_
  obtain ⟨x5, e6, hr⟩ := lz_s hr
  refine x_topi e6 ?_
  refine x_istore hC [(4, .int x5), (0, .ref (G.2.1 i0)), (1, .ref (G.2.1 i1)), (2, .int a2), (3, .int a3)] dX11_cut_27  (Nat.le_of_ble_eq_true rfl) rfl ?_
  refine x_iload hC dX11_cut_29 0 rfl ?_
  refine x_if_gt hC 36 dX11_cut_31 (by decide) (fun h7 => ?_) (fun h7 => ?_)
  · have hr := (ie_s hr).1 h7
    refine x_aload_n hC dX11_cut_36 rfl 2 rfl ?_
    refine x_iload_n hC dX11_cut_37 rfl 3 rfl ?_
    refine x_iload hC dX11_cut_38 0 rfl ?_
    refine x_bipush hC (20 : Int32) dX11_cut_40 (by decide) ?_
    obtain ⟨M8, q9, hr⟩ := bd1_s hr
    refine x_callV (ci := 4) (q := (RX10, TX10, 13)) (As := [.int a2, .int x5, .int (20 : Int32)]) hC (c_X10_pile l G M hi1 a2 x5 (20 : Int32) q9) kc_yX10_pile km_X11_322 ki_yX10_pile kv_yX10_pile kn_RX10 ky_yX10_pile rfl ⟨rfl, rfl⟩ ⟨(Nat.le_of_ble_eq_true rfl), (Nat.le_of_ble_eq_true rfl)⟩ hi1 (by decide) rfl rfl (Nat.le_of_ble_eq_true rfl) ⟨(Nat.le_of_ble_eq_true rfl), (Nat.le_of_ble_eq_true rfl)⟩ dX11_cut_42 (fun b10 => ?_)
    refine x_aload_n hC dX11_cut_45 rfl 2 rfl ?_
    refine gf_X11_63 hC hi1 dX11_cut_46 ?_
    refine x_iload_n hC dX11_cut_49 rfl 3 rfl ?_
    refine x_dup2 hC dX11_cut_50 rfl rfl ?_
    obtain ⟨h11, hr⟩ := it_s hr
    refine x_iald hC (kr_4_6 hi1) h11 dX11_cut_51 ?_
    refine x_iload hC dX11_cut_52 0 rfl ?_
    refine x_isub hC dX11_cut_54 ?_
    obtain ⟨h12, hr⟩ := it_s hr
    obtain ⟨M13, e14, hr⟩ := lz_s hr
    refine x_iast hC (kr_4_6 hi1) h12 e14 dX11_cut_55 ?_
    refine x_aload_n hC dX11_cut_56 rfl 2 rfl ?_
    refine x_dup hC dX11_cut_57 rfl ?_
    refine gf_X11_326 hC hi1 dX11_cut_58 ?_
    refine x_iload hC dX11_cut_61 0 rfl ?_
    refine x_iadd hC dX11_cut_63 ?_
    obtain ⟨M15, e16, hr⟩ := lz_s hr
    refine pf_X11_326 hC hi1 e16 dX11_cut_64 ?_
    refine x_iconst hC (1 : Int32) dX11_cut_67 (by decide) ?_
    cases hr
    exact x_zret hC rfl (Or.inr rfl) dX11_cut_68
  · have hr := (ie_s hr).2 h7
    refine x_iconst hC (0 : Int32) dX11_cut_34 (by decide) ?_
    cases hr
    exact x_zret hC rfl (Or.inl rfl) dX11_cut_35

theorem dX11_load_0 : decode cX11_load 0 = .ok (.iload 4, 2) := by decide +kernel
theorem dX11_load_2 : decode cX11_load 2 = .ok (.aload_n 1, 1) := by decide +kernel
theorem dX11_load_3 : decode cX11_load 3 = .ok (.getfield 241, 3) := by decide +kernel
theorem dX11_load_6 : decode cX11_load 6 = .ok (.iload_n 3, 1) := by decide +kernel
theorem dX11_load_7 : decode cX11_load 7 = .ok (.iaload, 1) := by decide +kernel
theorem dX11_load_8 : decode cX11_load 8 = .ok (.bipush 40, 2) := by decide +kernel
theorem dX11_load_10 : decode cX11_load 10 = .ok (.aload_n 1, 1) := by decide +kernel
theorem dX11_load_11 : decode cX11_load 11 = .ok (.getfield 239, 3) := by decide +kernel
theorem dX11_load_14 : decode cX11_load 14 = .ok (.iload_n 2, 1) := by decide +kernel
theorem dX11_load_15 : decode cX11_load 15 = .ok (.iconst 2, 1) := by decide +kernel
theorem dX11_load_16 : decode cX11_load 16 = .ok (.iadd, 1) := by decide +kernel
theorem dX11_load_17 : decode cX11_load 17 = .ok (.iaload, 1) := by decide +kernel
theorem dX11_load_18 : decode cX11_load 18 = .ok (.isub, 1) := by decide +kernel
theorem dX11_load_19 : decode cX11_load 19 = .ok (.invokestatic 256, 3) := by decide +kernel
theorem dX11_load_22 : decode cX11_load 22 = .ok (.invokestatic 256, 3) := by decide +kernel
theorem dX11_load_25 : decode cX11_load 25 = .ok (.istore 5, 2) := by decide +kernel
theorem dX11_load_27 : decode cX11_load 27 = .ok (.iload 5, 2) := by decide +kernel
theorem dX11_load_29 : decode cX11_load 29 = .ok (.ifCond .gt 5, 3) := by decide +kernel
theorem dX11_load_32 : decode cX11_load 32 = .ok (.iconst 0, 1) := by decide +kernel
theorem dX11_load_33 : decode cX11_load 33 = .ok (.ireturn, 1) := by decide +kernel
theorem dX11_load_34 : decode cX11_load 34 = .ok (.aload_n 1, 1) := by decide +kernel
theorem dX11_load_35 : decode cX11_load 35 = .ok (.getfield 239, 3) := by decide +kernel
theorem dX11_load_38 : decode cX11_load 38 = .ok (.iload_n 2, 1) := by decide +kernel
theorem dX11_load_39 : decode cX11_load 39 = .ok (.iconst 3, 1) := by decide +kernel
theorem dX11_load_40 : decode cX11_load 40 = .ok (.iadd, 1) := by decide +kernel
theorem dX11_load_41 : decode cX11_load 41 = .ok (.aload_n 1, 1) := by decide +kernel
theorem dX11_load_42 : decode cX11_load 42 = .ok (.getfield 239, 3) := by decide +kernel
theorem dX11_load_45 : decode cX11_load 45 = .ok (.iload_n 2, 1) := by decide +kernel
theorem dX11_load_46 : decode cX11_load 46 = .ok (.iconst 3, 1) := by decide +kernel
theorem dX11_load_47 : decode cX11_load 47 = .ok (.iadd, 1) := by decide +kernel
theorem dX11_load_48 : decode cX11_load 48 = .ok (.iaload, 1) := by decide +kernel
theorem dX11_load_49 : decode cX11_load 49 = .ok (.aload_n 1, 1) := by decide +kernel
theorem dX11_load_50 : decode cX11_load 50 = .ok (.getfield 239, 3) := by decide +kernel
theorem dX11_load_53 : decode cX11_load 53 = .ok (.iload_n 2, 1) := by decide +kernel
theorem dX11_load_54 : decode cX11_load 54 = .ok (.iconst 2, 1) := by decide +kernel
theorem dX11_load_55 : decode cX11_load 55 = .ok (.iadd, 1) := by decide +kernel
theorem dX11_load_56 : decode cX11_load 56 = .ok (.iaload, 1) := by decide +kernel
theorem dX11_load_57 : decode cX11_load 57 = .ok (.imul, 1) := by decide +kernel
theorem dX11_load_58 : decode cX11_load 58 = .ok (.aload_n 1, 1) := by decide +kernel
theorem dX11_load_59 : decode cX11_load 59 = .ok (.getfield 244, 3) := by decide +kernel
theorem dX11_load_62 : decode cX11_load 62 = .ok (.iload_n 3, 1) := by decide +kernel
theorem dX11_load_63 : decode cX11_load 63 = .ok (.iaload, 1) := by decide +kernel
theorem dX11_load_64 : decode cX11_load 64 = .ok (.iload 5, 2) := by decide +kernel
theorem dX11_load_66 : decode cX11_load 66 = .ok (.imul, 1) := by decide +kernel
theorem dX11_load_67 : decode cX11_load 67 = .ok (.iadd, 1) := by decide +kernel
theorem dX11_load_68 : decode cX11_load 68 = .ok (.aload_n 1, 1) := by decide +kernel
theorem dX11_load_69 : decode cX11_load 69 = .ok (.getfield 239, 3) := by decide +kernel
theorem dX11_load_72 : decode cX11_load 72 = .ok (.iload_n 2, 1) := by decide +kernel
theorem dX11_load_73 : decode cX11_load 73 = .ok (.iconst 2, 1) := by decide +kernel
theorem dX11_load_74 : decode cX11_load 74 = .ok (.iadd, 1) := by decide +kernel
theorem dX11_load_75 : decode cX11_load 75 = .ok (.iaload, 1) := by decide +kernel
theorem dX11_load_76 : decode cX11_load 76 = .ok (.iload 5, 2) := by decide +kernel
theorem dX11_load_78 : decode cX11_load 78 = .ok (.iadd, 1) := by decide +kernel
theorem dX11_load_79 : decode cX11_load 79 = .ok (.idiv, 1) := by decide +kernel
theorem dX11_load_80 : decode cX11_load 80 = .ok (.iastore, 1) := by decide +kernel
theorem dX11_load_81 : decode cX11_load 81 = .ok (.aload_n 1, 1) := by decide +kernel
theorem dX11_load_82 : decode cX11_load 82 = .ok (.getfield 239, 3) := by decide +kernel
theorem dX11_load_85 : decode cX11_load 85 = .ok (.iload_n 2, 1) := by decide +kernel
theorem dX11_load_86 : decode cX11_load 86 = .ok (.iconst 2, 1) := by decide +kernel
theorem dX11_load_87 : decode cX11_load 87 = .ok (.iadd, 1) := by decide +kernel
theorem dX11_load_88 : decode cX11_load 88 = .ok (.dup2, 1) := by decide +kernel
theorem dX11_load_89 : decode cX11_load 89 = .ok (.iaload, 1) := by decide +kernel
theorem dX11_load_90 : decode cX11_load 90 = .ok (.iload 5, 2) := by decide +kernel
theorem dX11_load_92 : decode cX11_load 92 = .ok (.iadd, 1) := by decide +kernel
theorem dX11_load_93 : decode cX11_load 93 = .ok (.iastore, 1) := by decide +kernel
theorem dX11_load_94 : decode cX11_load 94 = .ok (.aload_n 1, 1) := by decide +kernel
theorem dX11_load_95 : decode cX11_load 95 = .ok (.iload_n 3, 1) := by decide +kernel
theorem dX11_load_96 : decode cX11_load 96 = .ok (.iload 5, 2) := by decide +kernel
theorem dX11_load_98 : decode cX11_load 98 = .ok (.invokevirtual 328, 3) := by decide +kernel
theorem dX11_load_101 : decode cX11_load 101 = .ok (.iconst 1, 1) := by decide +kernel
theorem dX11_load_102 : decode cX11_load 102 = .ok (.ireturn, 1) := by decide +kernel

def f_X11_load (i0 : Nat) (i1 : Nat) (a2 : Int32) (a3 : Int32) (a4 : Int32) (M : Mm) : Option (Int32 × Mm) :=
  if 0 ≤ a3.toInt ∧ a3.toInt < ((64 : Nat) : Int) then (if 0 ≤ (a2 + (2 : Int32)).toInt ∧ (a2 + (2 : Int32)).toInt < ((40 : Nat) : Int) then (lz (imin (M (i1 + 3) (ix a3)) ((40 : Int32) - (M (i1 + 6) (ix (a2 + (2 : Int32)))))) fun x3 => if (0 < (imin a4 x3)) then (if 0 ≤ (a2 + (3 : Int32)).toInt ∧ (a2 + (3 : Int32)).toInt < ((40 : Nat) : Int) then (if 0 ≤ (a2 + (2 : Int32)).toInt ∧ (a2 + (2 : Int32)).toInt < ((40 : Nat) : Int) then (lz ((M (i1 + 6) (ix (a2 + (3 : Int32)))) * (M (i1 + 6) (ix (a2 + (2 : Int32))))) fun x8 => if 0 ≤ a3.toInt ∧ a3.toInt < ((64 : Nat) : Int) then (if 0 ≤ (a2 + (2 : Int32)).toInt ∧ (a2 + (2 : Int32)).toInt < ((40 : Nat) : Int) then (if ¬ (((M (i1 + 6) (ix (a2 + (2 : Int32)))) + (imin a4 x3)) = 0) then (lz ((x8 + ((M (i1 + 4) (ix a3)) * (imin a4 x3))) / ((M (i1 + 6) (ix (a2 + (2 : Int32)))) + (imin a4 x3))) fun x13 => if 0 ≤ (a2 + (3 : Int32)).toInt ∧ (a2 + (3 : Int32)).toInt < ((40 : Nat) : Int) then (lz (wr M (i1 + 6) (ix (a2 + (3 : Int32))) x13) fun M16 => if 0 ≤ (a2 + (2 : Int32)).toInt ∧ (a2 + (2 : Int32)).toInt < ((40 : Nat) : Int) then (if 0 ≤ (a2 + (2 : Int32)).toInt ∧ (a2 + (2 : Int32)).toInt < ((40 : Nat) : Int) then (lz (wr M16 (i1 + 6) (ix (a2 + (2 : Int32))) ((M16 (i1 + 6) (ix (a2 + (2 : Int32)))) + (imin a4 x3))) fun M20 => bd1 (f_X10_take i1 a3 (imin a4 x3) M20) fun M22 => some ((1 : Int32), M22)) else none) else none) else none) else none) else none) else none) else none) else none) else (some ((0 : Int32), M))) else none) else none

set_option maxHeartbeats 4000000 in
set_option maxRecDepth 100000 in
theorem c_X11_load (l : Launch) (G : GG) (M : Mm) {i0 : Nat} (hi0 : (kd i0).1 = 5) {i1 : Nat} (hi1 : (kd i1).1 = 4) (a2 : Int32) (a3 : Int32) (a4 : Int32) {r : Int32} {M9 : Mm} (hr : f_X11_load i0 i1 a2 a3 a4 M = some (r, M9)) : Mo true l yX11_load (WS yX11_load cX11_load 6 (some .boolean)) (RM 1 0 0 40) 0 0 [.ref (G.2.1 i0), .ref (G.2.1 i1), .int a2, .int a3, .int a4] G M (some (.int r)) M9 := by
  refine Mo.of (by decide +kernel) (Nat.le_of_ble_eq_true rfl) ?_
  intro p e s m args below meth c hC
  have hC : CX p s m args meth c cX11_load 6 RX11 (some .boolean) G := hC
  rw [f_X11_load] at hr
  show XJ p l e (RM 1 0 0 40) s m args below meth c G 6 _ 0 0 M 0 [(0, .ref (G.2.1 i0)), (1, .ref (G.2.1 i1)), (2, .int a2), (3, .int a3), (4, .int a4)] []
  refine x_iload hC dX11_load_0 4 rfl ?_
  refine x_aload_n hC dX11_load_2 rfl 1 rfl ?_
  refine gf_X11_241 hC hi1 dX11_load_3 ?_
  refine x_iload_n hC dX11_load_6 rfl 3 rfl ?_
  obtain ⟨h1, hr⟩ := it_s hr
  refine x_iald hC (kr_4_8 hi1) h1 dX11_load_7 ?_
  refine x_bipush hC (40 : Int32) dX11_load_8 (by decide) ?_
  refine x_aload_n hC dX11_load_10 rfl 1 rfl ?_
  refine gf_X11_239 hC hi1 dX11_load_11 ?_
  refine x_iload_n hC dX11_load_14 rfl 2 rfl ?_
  refine x_iconst hC (2 : Int32) dX11_load_15 (by decide) ?_
  refine x_iadd hC dX11_load_16 ?_
  obtain ⟨h2, hr⟩ := it_s hr
  refine x_iald hC (kr_4_11 hi1) h2 dX11_load_17 ?_
  refine x_isub hC dX11_load_18 ?_
  refine x_mmin hC km_X11_256 kt_Mmin kn_Math kc_Mmin (Nat.le_of_ble_eq_true rfl) (Nat.le_of_ble_eq_true rfl) ⟨(Nat.le_of_ble_eq_true rfl), (Nat.le_of_ble_eq_true rfl)⟩ dX11_load_19 ?_
  obtain ⟨x3, e4, hr⟩ := lz_s hr
  refine x_topi e4 ?_
  refine x_mmin hC km_X11_256 kt_Mmin kn_Math kc_Mmin (Nat.le_of_ble_eq_true rfl) (Nat.le_of_ble_eq_true rfl) ⟨(Nat.le_of_ble_eq_true rfl), (Nat.le_of_ble_eq_true rfl)⟩ dX11_load_22 ?_
  refine x_istore hC [(5, .int (imin a4 x3)), (0, .ref (G.2.1 i0)), (1, .ref (G.2.1 i1)), (2, .int a2), (3, .int a3), (4, .int a4)] dX11_load_25  (Nat.le_of_ble_eq_true rfl) rfl ?_
  refine x_iload hC dX11_load_27 0 rfl ?_
  refine x_if_gt hC 34 dX11_load_29 (by decide) (fun h5 => ?_) (fun h5 => ?_)
  · have hr := (ie_s hr).1 h5
    refine x_aload_n hC dX11_load_34 rfl 2 rfl ?_
    refine gf_X11_239 hC hi1 dX11_load_35 ?_
    refine x_iload_n hC dX11_load_38 rfl 3 rfl ?_
    refine x_iconst hC (3 : Int32) dX11_load_39 (by decide) ?_
    refine x_iadd hC dX11_load_40 ?_
    refine x_aload_n hC dX11_load_41 rfl 2 rfl ?_
    refine gf_X11_239 hC hi1 dX11_load_42 ?_
    refine x_iload_n hC dX11_load_45 rfl 3 rfl ?_
    refine x_iconst hC (3 : Int32) dX11_load_46 (by decide) ?_
    refine x_iadd hC dX11_load_47 ?_
    obtain ⟨h6, hr⟩ := it_s hr
    refine x_iald hC (kr_4_11 hi1) h6 dX11_load_48 ?_
    refine x_aload_n hC dX11_load_49 rfl 2 rfl ?_
    refine gf_X11_239 hC hi1 dX11_load_50 ?_
    refine x_iload_n hC dX11_load_53 rfl 3 rfl ?_
    refine x_iconst hC (2 : Int32) dX11_load_54 (by decide) ?_
    refine x_iadd hC dX11_load_55 ?_
    obtain ⟨h7, hr⟩ := it_s hr
    refine x_iald hC (kr_4_11 hi1) h7 dX11_load_56 ?_
    refine x_imul hC dX11_load_57 ?_
    obtain ⟨x8, e9, hr⟩ := lz_s hr
    refine x_topi e9 ?_
    refine x_aload_n hC dX11_load_58 rfl 2 rfl ?_
    refine gf_X11_244 hC hi1 dX11_load_59 ?_
    refine x_iload_n hC dX11_load_62 rfl 4 rfl ?_
    obtain ⟨h10, hr⟩ := it_s hr
    refine x_iald hC (kr_4_9 hi1) h10 dX11_load_63 ?_
    refine x_iload hC dX11_load_64 0 rfl ?_
    refine x_imul hC dX11_load_66 ?_
    refine x_iadd hC dX11_load_67 ?_
    refine x_aload_n hC dX11_load_68 rfl 2 rfl ?_
    refine gf_X11_239 hC hi1 dX11_load_69 ?_
    refine x_iload_n hC dX11_load_72 rfl 3 rfl ?_
    refine x_iconst hC (2 : Int32) dX11_load_73 (by decide) ?_
    refine x_iadd hC dX11_load_74 ?_
    obtain ⟨h11, hr⟩ := it_s hr
    refine x_iald hC (kr_4_11 hi1) h11 dX11_load_75 ?_
    refine x_iload hC dX11_load_76 0 rfl ?_
    refine x_iadd hC dX11_load_78 ?_
    obtain ⟨h12, hr⟩ := it_s hr
    refine x_idiv hC dX11_load_79 h12 ?_
    obtain ⟨x13, e14, hr⟩ := lz_s hr
    refine x_topi e14 ?_
    obtain ⟨h15, hr⟩ := it_s hr
    obtain ⟨M16, e17, hr⟩ := lz_s hr
    refine x_iast hC (kr_4_11 hi1) h15 e17 dX11_load_80 ?_
    refine x_aload_n hC dX11_load_81 rfl 2 rfl ?_
    refine gf_X11_239 hC hi1 dX11_load_82 ?_
    refine x_iload_n hC dX11_load_85 rfl 3 rfl ?_
    refine x_iconst hC (2 : Int32) dX11_load_86 (by decide) ?_
    refine x_iadd hC dX11_load_87 ?_
    refine x_dup2 hC dX11_load_88 rfl rfl ?_
    obtain ⟨h18, hr⟩ := it_s hr
    refine x_iald hC (kr_4_11 hi1) h18 dX11_load_89 ?_
    refine x_iload hC dX11_load_90 0 rfl ?_
    refine x_iadd hC dX11_load_92 ?_
    obtain ⟨h19, hr⟩ := it_s hr
    obtain ⟨M20, e21, hr⟩ := lz_s hr
    refine x_iast hC (kr_4_11 hi1) h19 e21 dX11_load_93 ?_
    refine x_aload_n hC dX11_load_94 rfl 2 rfl ?_
    refine x_iload_n hC dX11_load_95 rfl 4 rfl ?_
    refine x_iload hC dX11_load_96 0 rfl ?_
    obtain ⟨M22, q23, hr⟩ := bd1_s hr
    refine x_callV (ci := 4) (q := (RX10, TX10, 13)) (As := [.int a3, .int (imin a4 x3)]) hC (c_X10_take l G M20 hi1 a3 (imin a4 x3) q23) kc_yX10_take km_X11_328 ki_yX10_take kv_yX10_take kn_RX10 ky_yX10_take rfl ⟨rfl, rfl⟩ ⟨(Nat.le_of_ble_eq_true rfl), (Nat.le_of_ble_eq_true rfl)⟩ hi1 (by decide) rfl rfl (Nat.le_of_ble_eq_true rfl) ⟨(Nat.le_of_ble_eq_true rfl), (Nat.le_of_ble_eq_true rfl)⟩ dX11_load_98 (fun b24 => ?_)
    refine x_iconst hC (1 : Int32) dX11_load_101 (by decide) ?_
    cases hr
    exact x_zret hC rfl (Or.inr rfl) dX11_load_102
  · have hr := (ie_s hr).2 h5
    refine x_iconst hC (0 : Int32) dX11_load_32 (by decide) ?_
    cases hr
    exact x_zret hC rfl (Or.inl rfl) dX11_load_33

theorem dX11_act_0 : decode cX11_act 0 = .ok (.bipush 10, 2) := by decide +kernel
theorem dX11_act_2 : decode cX11_act 2 = .ok (.iload_n 2, 1) := by decide +kernel
theorem dX11_act_3 : decode cX11_act 3 = .ok (.imul, 1) := by decide +kernel
theorem dX11_act_4 : decode cX11_act 4 = .ok (.istore 5, 2) := by decide +kernel
theorem dX11_act_6 : decode cX11_act 6 = .ok (.bipush 8, 2) := by decide +kernel
theorem dX11_act_8 : decode cX11_act 8 = .ok (.aload_n 1, 1) := by decide +kernel
theorem dX11_act_9 : decode cX11_act 9 = .ok (.getfield 239, 3) := by decide +kernel
theorem dX11_act_12 : decode cX11_act 12 = .ok (.iload 5, 2) := by decide +kernel
theorem dX11_act_14 : decode cX11_act 14 = .ok (.iconst 1, 1) := by decide +kernel
theorem dX11_act_15 : decode cX11_act 15 = .ok (.iadd, 1) := by decide +kernel
theorem dX11_act_16 : decode cX11_act 16 = .ok (.iaload, 1) := by decide +kernel
theorem dX11_act_17 : decode cX11_act 17 = .ok (.imul, 1) := by decide +kernel
theorem dX11_act_18 : decode cX11_act 18 = .ok (.aload_n 1, 1) := by decide +kernel
theorem dX11_act_19 : decode cX11_act 19 = .ok (.getfield 239, 3) := by decide +kernel
theorem dX11_act_22 : decode cX11_act 22 = .ok (.iload 5, 2) := by decide +kernel
theorem dX11_act_24 : decode cX11_act 24 = .ok (.iaload, 1) := by decide +kernel
theorem dX11_act_25 : decode cX11_act 25 = .ok (.iadd, 1) := by decide +kernel
theorem dX11_act_26 : decode cX11_act 26 = .ok (.istore 6, 2) := by decide +kernel
theorem dX11_act_28 : decode cX11_act 28 = .ok (.iconst 1, 1) := by decide +kernel
theorem dX11_act_29 : decode cX11_act 29 = .ok (.istore 7, 2) := by decide +kernel
theorem dX11_act_31 : decode cX11_act 31 = .ok (.iload_n 3, 1) := by decide +kernel
theorem dX11_act_32 : decode cX11_act 32 = .ok (.iconst 2, 1) := by decide +kernel
theorem dX11_act_33 : decode cX11_act 33 = .ok (.if_icmp .ne 16, 3) := by decide +kernel
theorem dX11_act_36 : decode cX11_act 36 = .ok (.aload_n 0, 1) := by decide +kernel
theorem dX11_act_37 : decode cX11_act 37 = .ok (.aload_n 1, 1) := by decide +kernel
theorem dX11_act_38 : decode cX11_act 38 = .ok (.iload_n 2, 1) := by decide +kernel
theorem dX11_act_39 : decode cX11_act 39 = .ok (.iload 4, 2) := by decide +kernel
theorem dX11_act_41 : decode cX11_act 41 = .ok (.invokevirtual 297, 3) := by decide +kernel
theorem dX11_act_44 : decode cX11_act 44 = .ok (.istore 7, 2) := by decide +kernel
theorem dX11_act_46 : decode cX11_act 46 = .ok (.goto 169, 3) := by decide +kernel
theorem dX11_act_49 : decode cX11_act 49 = .ok (.iload_n 3, 1) := by decide +kernel
theorem dX11_act_50 : decode cX11_act 50 = .ok (.iconst 4, 1) := by decide +kernel
theorem dX11_act_51 : decode cX11_act 51 = .ok (.if_icmp .ne 47, 3) := by decide +kernel
theorem dX11_act_54 : decode cX11_act 54 = .ok (.aload_n 1, 1) := by decide +kernel
theorem dX11_act_55 : decode cX11_act 55 = .ok (.getfield 241, 3) := by decide +kernel
theorem dX11_act_58 : decode cX11_act 58 = .ok (.iload 6, 2) := by decide +kernel
theorem dX11_act_60 : decode cX11_act 60 = .ok (.iaload, 1) := by decide +kernel
theorem dX11_act_61 : decode cX11_act 61 = .ok (.ifCond .le 7, 3) := by decide +kernel
theorem dX11_act_64 : decode cX11_act 64 = .ok (.iconst 1, 1) := by decide +kernel
theorem dX11_act_65 : decode cX11_act 65 = .ok (.goto 4, 3) := by decide +kernel
theorem dX11_act_68 : decode cX11_act 68 = .ok (.iconst 0, 1) := by decide +kernel
theorem dX11_act_69 : decode cX11_act 69 = .ok (.istore 7, 2) := by decide +kernel
theorem dX11_act_71 : decode cX11_act 71 = .ok (.iload 7, 2) := by decide +kernel
theorem dX11_act_73 : decode cX11_act 73 = .ok (.ifCond .eq 11, 3) := by decide +kernel
theorem dX11_act_76 : decode cX11_act 76 = .ok (.aload_n 1, 1) := by decide +kernel
theorem dX11_act_77 : decode cX11_act 77 = .ok (.getfield 300, 3) := by decide +kernel
theorem dX11_act_80 : decode cX11_act 80 = .ok (.iload 6, 2) := by decide +kernel
theorem dX11_act_82 : decode cX11_act 82 = .ok (.iconst 1, 1) := by decide +kernel
theorem dX11_act_83 : decode cX11_act 83 = .ok (.iastore, 1) := by decide +kernel
theorem dX11_act_84 : decode cX11_act 84 = .ok (.aload_n 1, 1) := by decide +kernel
theorem dX11_act_85 : decode cX11_act 85 = .ok (.getfield 239, 3) := by decide +kernel
theorem dX11_act_88 : decode cX11_act 88 = .ok (.iload 5, 2) := by decide +kernel
theorem dX11_act_90 : decode cX11_act 90 = .ok (.iconst 4, 1) := by decide +kernel
theorem dX11_act_91 : decode cX11_act 91 = .ok (.iadd, 1) := by decide +kernel
theorem dX11_act_92 : decode cX11_act 92 = .ok (.iload 4, 2) := by decide +kernel
theorem dX11_act_94 : decode cX11_act 94 = .ok (.iastore, 1) := by decide +kernel
theorem dX11_act_95 : decode cX11_act 95 = .ok (.goto 120, 3) := by decide +kernel
theorem dX11_act_98 : decode cX11_act 98 = .ok (.iload_n 3, 1) := by decide +kernel
theorem dX11_act_99 : decode cX11_act 99 = .ok (.bipush 6, 2) := by decide +kernel
theorem dX11_act_101 : decode cX11_act 101 = .ok (.if_icmp .ne 28, 3) := by decide +kernel
theorem dX11_act_104 : decode cX11_act 104 = .ok (.aload_n 0, 1) := by decide +kernel
theorem dX11_act_105 : decode cX11_act 105 = .ok (.aload_n 1, 1) := by decide +kernel
theorem dX11_act_106 : decode cX11_act 106 = .ok (.iload 5, 2) := by decide +kernel
theorem dX11_act_108 : decode cX11_act 108 = .ok (.iload 6, 2) := by decide +kernel
theorem dX11_act_110 : decode cX11_act 110 = .ok (.invokevirtual 303, 3) := by decide +kernel
theorem dX11_act_113 : decode cX11_act 113 = .ok (.istore 7, 2) := by decide +kernel
theorem dX11_act_115 : decode cX11_act 115 = .ok (.aload_n 1, 1) := by decide +kernel
theorem dX11_act_116 : decode cX11_act 116 = .ok (.getfield 239, 3) := by decide +kernel
theorem dX11_act_119 : decode cX11_act 119 = .ok (.iload 5, 2) := by decide +kernel
theorem dX11_act_121 : decode cX11_act 121 = .ok (.iconst 4, 1) := by decide +kernel
theorem dX11_act_122 : decode cX11_act 122 = .ok (.iadd, 1) := by decide +kernel
theorem dX11_act_123 : decode cX11_act 123 = .ok (.iload 4, 2) := by decide +kernel
theorem dX11_act_125 : decode cX11_act 125 = .ok (.iastore, 1) := by decide +kernel
theorem dX11_act_126 : decode cX11_act 126 = .ok (.goto 89, 3) := by decide +kernel
theorem dX11_act_129 : decode cX11_act 129 = .ok (.aload_n 0, 1) := by decide +kernel
theorem dX11_act_130 : decode cX11_act 130 = .ok (.aload_n 1, 1) := by decide +kernel
theorem dX11_act_131 : decode cX11_act 131 = .ok (.iload_n 2, 1) := by decide +kernel
theorem dX11_act_132 : decode cX11_act 132 = .ok (.iload 4, 2) := by decide +kernel
theorem dX11_act_134 : decode cX11_act 134 = .ok (.invokevirtual 294, 3) := by decide +kernel
theorem dX11_act_137 : decode cX11_act 137 = .ok (.istore 8, 2) := by decide +kernel
theorem dX11_act_139 : decode cX11_act 139 = .ok (.aload_n 1, 1) := by decide +kernel
theorem dX11_act_140 : decode cX11_act 140 = .ok (.getfield 239, 3) := by decide +kernel
theorem dX11_act_143 : decode cX11_act 143 = .ok (.iload 5, 2) := by decide +kernel
theorem dX11_act_145 : decode cX11_act 145 = .ok (.iconst 4, 1) := by decide +kernel
theorem dX11_act_146 : decode cX11_act 146 = .ok (.iadd, 1) := by decide +kernel
theorem dX11_act_147 : decode cX11_act 147 = .ok (.aload_n 0, 1) := by decide +kernel
theorem dX11_act_148 : decode cX11_act 148 = .ok (.getfield 277, 3) := by decide +kernel
theorem dX11_act_151 : decode cX11_act 151 = .ok (.iastore, 1) := by decide +kernel
theorem dX11_act_152 : decode cX11_act 152 = .ok (.iload_n 3, 1) := by decide +kernel
theorem dX11_act_153 : decode cX11_act 153 = .ok (.bipush 7, 2) := by decide +kernel
theorem dX11_act_155 : decode cX11_act 155 = .ok (.if_icmp .ne 30, 3) := by decide +kernel
theorem dX11_act_158 : decode cX11_act 158 = .ok (.aload_n 1, 1) := by decide +kernel
theorem dX11_act_159 : decode cX11_act 159 = .ok (.getfield 239, 3) := by decide +kernel
theorem dX11_act_162 : decode cX11_act 162 = .ok (.iload 5, 2) := by decide +kernel
theorem dX11_act_164 : decode cX11_act 164 = .ok (.bipush 9, 2) := by decide +kernel
theorem dX11_act_166 : decode cX11_act 166 = .ok (.iadd, 1) := by decide +kernel
theorem dX11_act_167 : decode cX11_act 167 = .ok (.iload 8, 2) := by decide +kernel
theorem dX11_act_169 : decode cX11_act 169 = .ok (.iconst 1, 1) := by decide +kernel
theorem dX11_act_170 : decode cX11_act 170 = .ok (.if_icmp .le 10, 3) := by decide +kernel
theorem dX11_act_173 : decode cX11_act 173 = .ok (.iload 8, 2) := by decide +kernel
theorem dX11_act_175 : decode cX11_act 175 = .ok (.iconst 1, 1) := by decide +kernel
theorem dX11_act_176 : decode cX11_act 176 = .ok (.isub, 1) := by decide +kernel
theorem dX11_act_177 : decode cX11_act 177 = .ok (.goto 4, 3) := by decide +kernel
theorem dX11_act_180 : decode cX11_act 180 = .ok (.iconst 0, 1) := by decide +kernel
theorem dX11_act_181 : decode cX11_act 181 = .ok (.iastore, 1) := by decide +kernel
theorem dX11_act_182 : decode cX11_act 182 = .ok (.goto 33, 3) := by decide +kernel
theorem dX11_act_185 : decode cX11_act 185 = .ok (.iload_n 3, 1) := by decide +kernel
theorem dX11_act_186 : decode cX11_act 186 = .ok (.iconst 3, 1) := by decide +kernel
theorem dX11_act_187 : decode cX11_act 187 = .ok (.if_icmp .ne 15, 3) := by decide +kernel
theorem dX11_act_190 : decode cX11_act 190 = .ok (.aload_n 0, 1) := by decide +kernel
theorem dX11_act_191 : decode cX11_act 191 = .ok (.aload_n 1, 1) := by decide +kernel
theorem dX11_act_192 : decode cX11_act 192 = .ok (.iload 6, 2) := by decide +kernel
theorem dX11_act_194 : decode cX11_act 194 = .ok (.iload 8, 2) := by decide +kernel
theorem dX11_act_196 : decode cX11_act 196 = .ok (.invokevirtual 306, 3) := by decide +kernel
theorem dX11_act_199 : decode cX11_act 199 = .ok (.goto 14, 3) := by decide +kernel
theorem dX11_act_202 : decode cX11_act 202 = .ok (.aload_n 0, 1) := by decide +kernel
theorem dX11_act_203 : decode cX11_act 203 = .ok (.aload_n 1, 1) := by decide +kernel
theorem dX11_act_204 : decode cX11_act 204 = .ok (.iload 5, 2) := by decide +kernel
theorem dX11_act_206 : decode cX11_act 206 = .ok (.iload 6, 2) := by decide +kernel
theorem dX11_act_208 : decode cX11_act 208 = .ok (.iload 8, 2) := by decide +kernel
theorem dX11_act_210 : decode cX11_act 210 = .ok (.invokevirtual 309, 3) := by decide +kernel
theorem dX11_act_213 : decode cX11_act 213 = .ok (.istore 7, 2) := by decide +kernel
theorem dX11_act_215 : decode cX11_act 215 = .ok (.iload 7, 2) := by decide +kernel
theorem dX11_act_217 : decode cX11_act 217 = .ok (.ifCond .ne 17, 3) := by decide +kernel
theorem dX11_act_220 : decode cX11_act 220 = .ok (.aload_n 1, 1) := by decide +kernel
theorem dX11_act_221 : decode cX11_act 221 = .ok (.getfield 239, 3) := by decide +kernel
theorem dX11_act_224 : decode cX11_act 224 = .ok (.iload 5, 2) := by decide +kernel
theorem dX11_act_226 : decode cX11_act 226 = .ok (.bipush 7, 2) := by decide +kernel
theorem dX11_act_228 : decode cX11_act 228 = .ok (.iadd, 1) := by decide +kernel
theorem dX11_act_229 : decode cX11_act 229 = .ok (.dup2, 1) := by decide +kernel
theorem dX11_act_230 : decode cX11_act 230 = .ok (.iaload, 1) := by decide +kernel
theorem dX11_act_231 : decode cX11_act 231 = .ok (.iconst 1, 1) := by decide +kernel
theorem dX11_act_232 : decode cX11_act 232 = .ok (.iadd, 1) := by decide +kernel
theorem dX11_act_233 : decode cX11_act 233 = .ok (.iastore, 1) := by decide +kernel
theorem dX11_act_234 : decode cX11_act 234 = .ok (.return_, 1) := by decide +kernel

def f_X11_act (i0 : Nat) (i1 : Nat) (a2 : Int32) (a3 : Int32) (a4 : Int32) (M : Mm) : Option Mm :=
  if 0 ≤ (((10 : Int32) * a2) + (1 : Int32)).toInt ∧ (((10 : Int32) * a2) + (1 : Int32)).toInt < ((40 : Nat) : Int) then (lz ((8 : Int32) * (M (i1 + 6) (ix (((10 : Int32) * a2) + (1 : Int32))))) fun x2 => if 0 ≤ ((10 : Int32) * a2).toInt ∧ ((10 : Int32) * a2).toInt < ((40 : Nat) : Int) then (lz (x2 + (M (i1 + 6) (ix ((10 : Int32) * a2)))) fun x5 => bd2 (if (a3 = (2 : Int32)) then (bd2 (f_X11_go i0 i1 a2 a4 M) fun x61 M62 => some (x61, M62)) else (if (a3 = (4 : Int32)) then (if 0 ≤ x5.toInt ∧ x5.toInt < ((64 : Nat) : Int) then (lz (if ((M (i1 + 3) (ix x5)) ≤ 0) then ((0 : Int32)) else ((1 : Int32))) fun x49 => bd1 (if (x49 = 0) then (some (M)) else (if 0 ≤ x5.toInt ∧ x5.toInt < ((64 : Nat) : Int) then (lz (wr M (i1 + 5) (ix x5) (1 : Int32)) fun M55 => some (M55)) else none)) fun M57 => if 0 ≤ (((10 : Int32) * a2) + (4 : Int32)).toInt ∧ (((10 : Int32) * a2) + (4 : Int32)).toInt < ((40 : Nat) : Int) then (lz (wr M57 (i1 + 6) (ix (((10 : Int32) * a2) + (4 : Int32))) a4) fun M59 => some (x49, M59)) else none) else none) else (if (a3 = (6 : Int32)) then (bd2 (f_X11_unload i0 i1 ((10 : Int32) * a2) x5 M) fun x39 M40 => if 0 ≤ (((10 : Int32) * a2) + (4 : Int32)).toInt ∧ (((10 : Int32) * a2) + (4 : Int32)).toInt < ((40 : Nat) : Int) then (lz (wr M40 (i1 + 6) (ix (((10 : Int32) * a2) + (4 : Int32))) a4) fun M44 => some (x39, M44)) else none) else (bd2 (f_X11_reckon i0 i1 a2 a4 M) fun x11 M12 => if 0 ≤ (((10 : Int32) * a2) + (4 : Int32)).toInt ∧ (((10 : Int32) * a2) + (4 : Int32)).toInt < ((40 : Nat) : Int) then (lz (wr M12 (i1 + 6) (ix (((10 : Int32) * a2) + (4 : Int32))) (M12 i0 28)) fun M16 => if (a3 = (7 : Int32)) then (lz (if (x11 ≤ (1 : Int32)) then ((0 : Int32)) else ((x11 - (1 : Int32)))) fun x34 => if 0 ≤ (((10 : Int32) * a2) + (9 : Int32)).toInt ∧ (((10 : Int32) * a2) + (9 : Int32)).toInt < ((40 : Nat) : Int) then (lz (wr M16 (i1 + 6) (ix (((10 : Int32) * a2) + (9 : Int32))) x34) fun M37 => some ((1 : Int32), M37)) else none) else (bd2 (if (a3 = (3 : Int32)) then (bd2 (f_X11_cut i0 i1 x5 x11 M16) fun x25 M26 => some (x25, M26)) else (bd2 (f_X11_load i0 i1 ((10 : Int32) * a2) x5 x11 M16) fun x21 M22 => some (x21, M22))) fun x29 M30 => some (x29, M30))) else none)))) fun x65 M66 => if (x65 = 0) then (if 0 ≤ (((10 : Int32) * a2) + (7 : Int32)).toInt ∧ (((10 : Int32) * a2) + (7 : Int32)).toInt < ((40 : Nat) : Int) then (lz ((M66 (i1 + 6) (ix (((10 : Int32) * a2) + (7 : Int32)))) + (1 : Int32)) fun x69 => if 0 ≤ (((10 : Int32) * a2) + (7 : Int32)).toInt ∧ (((10 : Int32) * a2) + (7 : Int32)).toInt < ((40 : Nat) : Int) then (lz (wr M66 (i1 + 6) (ix (((10 : Int32) * a2) + (7 : Int32))) x69) fun M72 => some M72) else none) else none) else (some M66)) else none) else none

set_option maxHeartbeats 4000000 in
set_option maxRecDepth 100000 in
theorem c_X11_act (l : Launch) (G : GG) (M : Mm) {i0 : Nat} (hi0 : (kd i0).1 = 5) {i1 : Nat} (hi1 : (kd i1).1 = 4) (a2 : Int32) (a3 : Int32) (a4 : Int32) {M9 : Mm} (hr : f_X11_act i0 i1 a2 a3 a4 M = some M9) : Mo false l yX11_act (WS yX11_act cX11_act 9 none) (RM 4 0 0 116) 0 0 [.ref (G.2.1 i0), .ref (G.2.1 i1), .int a2, .int a3, .int a4] G M none M9 := by
  refine Mo.of (by decide +kernel) (Nat.le_of_ble_eq_true rfl) ?_
  intro p e s m args below meth c hC
  have hC : CX p s m args meth c cX11_act 9 RX11 none G := hC
  rw [f_X11_act] at hr
  show XJ p l e (RM 4 0 0 116) s m args below meth c G 9 _ 0 0 M 0 [(0, .ref (G.2.1 i0)), (1, .ref (G.2.1 i1)), (2, .int a2), (3, .int a3), (4, .int a4)] []
  refine x_bipush hC (10 : Int32) dX11_act_0 (by decide) ?_
  refine x_iload_n hC dX11_act_2 rfl 2 rfl ?_
  refine x_imul hC dX11_act_3 ?_
  refine x_istore hC [(5, .int ((10 : Int32) * a2)), (0, .ref (G.2.1 i0)), (1, .ref (G.2.1 i1)), (2, .int a2), (3, .int a3), (4, .int a4)] dX11_act_4  (Nat.le_of_ble_eq_true rfl) rfl ?_
  refine x_bipush hC (8 : Int32) dX11_act_6 (by decide) ?_
  refine x_aload_n hC dX11_act_8 rfl 2 rfl ?_
  refine gf_X11_239 hC hi1 dX11_act_9 ?_
  refine x_iload hC dX11_act_12 0 rfl ?_
  refine x_iconst hC (1 : Int32) dX11_act_14 (by decide) ?_
  refine x_iadd hC dX11_act_15 ?_
  obtain ⟨h1, hr⟩ := it_s hr
  refine x_iald hC (kr_4_11 hi1) h1 dX11_act_16 ?_
  refine x_imul hC dX11_act_17 ?_
  obtain ⟨x2, e3, hr⟩ := lz_s hr
  refine x_topi e3 ?_
  refine x_aload_n hC dX11_act_18 rfl 2 rfl ?_
  refine gf_X11_239 hC hi1 dX11_act_19 ?_
  refine x_iload hC dX11_act_22 0 rfl ?_
  obtain ⟨h4, hr⟩ := it_s hr
  refine x_iald hC (kr_4_11 hi1) h4 dX11_act_24 ?_
  refine x_iadd hC dX11_act_25 ?_
  obtain ⟨x5, e6, hr⟩ := lz_s hr
  refine x_topi e6 ?_
  refine x_istore hC [(6, .int x5), (5, .int ((10 : Int32) * a2)), (0, .ref (G.2.1 i0)), (1, .ref (G.2.1 i1)), (2, .int a2), (3, .int a3), (4, .int a4)] dX11_act_26  (Nat.le_of_ble_eq_true rfl) rfl ?_
  refine x_iconst hC (1 : Int32) dX11_act_28 (by decide) ?_
  refine x_istore hC [(7, .int (1 : Int32)), (6, .int x5), (5, .int ((10 : Int32) * a2)), (0, .ref (G.2.1 i0)), (1, .ref (G.2.1 i1)), (2, .int a2), (3, .int a3), (4, .int a4)] dX11_act_29  (Nat.le_of_ble_eq_true rfl) rfl ?_
  refine x_iload_n hC dX11_act_31 rfl 6 rfl ?_
  refine x_iconst hC (2 : Int32) dX11_act_32 (by decide) ?_
  obtain ⟨x65, M66, q7, hr⟩ := bd2_s hr
  refine x_join (M' := M66) (pc' := 215) (lv' := [(1, .ref (G.2.1 i1)), (5, .int ((10 : Int32) * a2)), (7, .int x65)]) (st' := []) ?_ ?_
  · refine x_iload hC dX11_act_215 2 rfl ?_
    refine x_if_ne hC 234 dX11_act_217 (by decide) (fun h67 => ?_) (fun h67 => ?_)
    · have hr := (ie_s hr).2 h67
      cases hr
      exact x_vret hC rfl dX11_act_234
    · have hr := (ie_s hr).1 h67
      refine x_aload_n hC dX11_act_220 rfl 0 rfl ?_
      refine gf_X11_239 hC hi1 dX11_act_221 ?_
      refine x_iload hC dX11_act_224 1 rfl ?_
      refine x_bipush hC (7 : Int32) dX11_act_226 (by decide) ?_
      refine x_iadd hC dX11_act_228 ?_
      refine x_dup2 hC dX11_act_229 rfl rfl ?_
      obtain ⟨h68, hr⟩ := it_s hr
      refine x_iald hC (kr_4_11 hi1) h68 dX11_act_230 ?_
      refine x_iconst hC (1 : Int32) dX11_act_231 (by decide) ?_
      refine x_iadd hC dX11_act_232 ?_
      obtain ⟨x69, e70, hr⟩ := lz_s hr
      refine x_topi e70 ?_
      obtain ⟨h71, hr⟩ := it_s hr
      obtain ⟨M72, e73, hr⟩ := lz_s hr
      refine x_iast hC (kr_4_11 hi1) h71 e73 dX11_act_233 ?_
      cases hr
      exact x_vret hC rfl dX11_act_234
  · intro kj
    refine x_icmp_ne hC 49 dX11_act_33 (by decide) (fun h8 => ?_) (fun h8 => ?_)
    · have q7 := (ie_s q7).2 h8
      refine x_iload_n hC dX11_act_49 rfl 6 rfl ?_
      refine x_iconst hC (4 : Int32) dX11_act_50 (by decide) ?_
      refine x_icmp_ne hC 98 dX11_act_51 (by decide) (fun h9 => ?_) (fun h9 => ?_)
      · have q7 := (ie_s q7).2 h9
        refine x_iload_n hC dX11_act_98 rfl 6 rfl ?_
        refine x_bipush hC (6 : Int32) dX11_act_99 (by decide) ?_
        refine x_icmp_ne hC 129 dX11_act_101 (by decide) (fun h10 => ?_) (fun h10 => ?_)
        · have q7 := (ie_s q7).2 h10
          refine x_aload_n hC dX11_act_129 rfl 3 rfl ?_
          refine x_aload_n hC dX11_act_130 rfl 4 rfl ?_
          refine x_iload_n hC dX11_act_131 rfl 5 rfl ?_
          refine x_iload hC dX11_act_132 7 rfl ?_
          obtain ⟨x11, M12, q13, q7⟩ := bd2_s q7
          refine x_callV (ci := 5) (q := (RX11, TX11, 32)) (As := [.ref (G.2.1 i1), .int a2, .int a4]) hC (c_X11_reckon l G M hi0 hi1 a2 a4 q13) kc_yX11_reckon km_X11_294 ki_yX11_reckon kv_yX11_reckon kn_RX11 ky_yX11_reckon rfl ⟨rfl, rfl⟩ ⟨(Nat.le_of_ble_eq_true rfl), (Nat.le_of_ble_eq_true rfl)⟩ hi0 (by decide) rfl rfl (Nat.le_of_ble_eq_true rfl) ⟨(Nat.le_of_ble_eq_true rfl), (Nat.le_of_ble_eq_true rfl)⟩ dX11_act_134 (fun b14 => ?_)
          refine x_istore hC [(8, .int x11), (7, .int (1 : Int32)), (6, .int x5), (5, .int ((10 : Int32) * a2)), (0, .ref (G.2.1 i0)), (1, .ref (G.2.1 i1)), (2, .int a2), (3, .int a3), (4, .int a4)] dX11_act_137  (Nat.le_of_ble_eq_true rfl) rfl ?_
          refine x_aload_n hC dX11_act_139 rfl 5 rfl ?_
          refine gf_X11_239 hC hi1 dX11_act_140 ?_
          refine x_iload hC dX11_act_143 3 rfl ?_
          refine x_iconst hC (4 : Int32) dX11_act_145 (by decide) ?_
          refine x_iadd hC dX11_act_146 ?_
          refine x_aload_n hC dX11_act_147 rfl 4 rfl ?_
          refine gf_X11_277 hC hi0 dX11_act_148 ?_
          obtain ⟨h15, q7⟩ := it_s q7
          obtain ⟨M16, e17, q7⟩ := lz_s q7
          refine x_iast hC (kr_4_11 hi1) h15 e17 dX11_act_151 ?_
          refine x_iload_n hC dX11_act_152 rfl 7 rfl ?_
          refine x_bipush hC (7 : Int32) dX11_act_153 (by decide) ?_
          refine x_icmp_ne hC 185 dX11_act_155 (by decide) (fun h18 => ?_) (fun h18 => ?_)
          · have q7 := (ie_s q7).2 h18
            refine x_iload_n hC dX11_act_185 rfl 7 rfl ?_
            refine x_iconst hC (3 : Int32) dX11_act_186 (by decide) ?_
            obtain ⟨x29, M30, q19, q7⟩ := bd2_s q7
            refine x_joinB (P := (x29 = 0 ∨ x29 = 1)) (M' := M30) (pc' := 213) (lv' := [(1, .ref (G.2.1 i1)), (5, .int ((10 : Int32) * a2))]) (st' := [.int x29]) ?_ ?_
            · intro b31
              refine x_istore hC [(7, .int x29), (1, .ref (G.2.1 i1)), (5, .int ((10 : Int32) * a2))] dX11_act_213  (Nat.le_of_ble_eq_true rfl) rfl ?_
              cases q7
              exact x_sub [1, 2, 0] rfl kj
            · intro kj
              refine x_icmp_ne hC 202 dX11_act_187 (by decide) (fun h20 => ?_) (fun h20 => ?_)
              · have q19 := (ie_s q19).2 h20
                refine x_aload_n hC dX11_act_202 rfl 4 rfl ?_
                refine x_aload_n hC dX11_act_203 rfl 5 rfl ?_
                refine x_iload hC dX11_act_204 3 rfl ?_
                refine x_iload hC dX11_act_206 2 rfl ?_
                refine x_iload hC dX11_act_208 0 rfl ?_
                obtain ⟨x21, M22, q23, q19⟩ := bd2_s q19
                refine x_callV (ci := 5) (q := (RX11, TX11, 32)) (As := [.ref (G.2.1 i1), .int ((10 : Int32) * a2), .int x5, .int x11]) hC (c_X11_load l G M16 hi0 hi1 ((10 : Int32) * a2) x5 x11 q23) kc_yX11_load km_X11_309 ki_yX11_load kv_yX11_load kn_RX11 ky_yX11_load rfl ⟨rfl, rfl⟩ ⟨(Nat.le_of_ble_eq_true rfl), (Nat.le_of_ble_eq_true rfl)⟩ hi0 (by decide) rfl rfl (Nat.le_of_ble_eq_true rfl) ⟨(Nat.le_of_ble_eq_true rfl), (Nat.le_of_ble_eq_true rfl)⟩ dX11_act_210 (fun b24 => ?_)
                cases q19
                exact x_sub [5, 3] rfl (kj (BV.out b24))
              · have q19 := (ie_s q19).1 h20
                refine x_aload_n hC dX11_act_190 rfl 4 rfl ?_
                refine x_aload_n hC dX11_act_191 rfl 5 rfl ?_
                refine x_iload hC dX11_act_192 2 rfl ?_
                refine x_iload hC dX11_act_194 0 rfl ?_
                obtain ⟨x25, M26, q27, q19⟩ := bd2_s q19
                refine x_callV (ci := 5) (q := (RX11, TX11, 32)) (As := [.ref (G.2.1 i1), .int x5, .int x11]) hC (c_X11_cut l G M16 hi0 hi1 x5 x11 q27) kc_yX11_cut km_X11_306 ki_yX11_cut kv_yX11_cut kn_RX11 ky_yX11_cut rfl ⟨rfl, rfl⟩ ⟨(Nat.le_of_ble_eq_true rfl), (Nat.le_of_ble_eq_true rfl)⟩ hi0 (by decide) rfl rfl (Nat.le_of_ble_eq_true rfl) ⟨(Nat.le_of_ble_eq_true rfl), (Nat.le_of_ble_eq_true rfl)⟩ dX11_act_196 (fun b28 => ?_)
                refine x_goto hC 213 dX11_act_199 (by decide) ?_
                cases q19
                exact x_sub [5, 3] rfl (kj (BV.out b28))
          · have q7 := (ie_s q7).1 h18
            refine x_aload_n hC dX11_act_158 rfl 5 rfl ?_
            refine gf_X11_239 hC hi1 dX11_act_159 ?_
            refine x_iload hC dX11_act_162 3 rfl ?_
            refine x_bipush hC (9 : Int32) dX11_act_164 (by decide) ?_
            refine x_iadd hC dX11_act_166 ?_
            refine x_iload hC dX11_act_167 0 rfl ?_
            refine x_iconst hC (1 : Int32) dX11_act_169 (by decide) ?_
            obtain ⟨x34, e35, q7⟩ := lz_s q7
            have q32 := e35.symm
            refine x_join (M' := M16) (pc' := 181) (lv' := [(1, .ref (G.2.1 i1)), (5, .int ((10 : Int32) * a2)), (7, .int (1 : Int32))]) (st' := [.int x34, .int (((10 : Int32) * a2) + (9 : Int32)), .ref (G.2.1 (i1 + 6))]) ?_ ?_
            · obtain ⟨h36, q7⟩ := it_s q7
              obtain ⟨M37, e38, q7⟩ := lz_s q7
              refine x_iast hC (kr_4_11 hi1) h36 e38 dX11_act_181 ?_
              refine x_goto hC 215 dX11_act_182 (by decide) ?_
              cases q7
              exact x_sub [0, 1, 2] rfl kj
            · intro kj
              refine x_icmp_le hC 180 dX11_act_170 (by decide) (fun h33 => ?_) (fun h33 => ?_)
              · have q32 := (ie_s q32).1 h33
                refine x_iconst hC (0 : Int32) dX11_act_180 (by decide) ?_
                subst q32
                exact x_sub [5, 3, 1] rfl kj
              · have q32 := (ie_s q32).2 h33
                refine x_iload hC dX11_act_173 0 rfl ?_
                refine x_iconst hC (1 : Int32) dX11_act_175 (by decide) ?_
                refine x_isub hC dX11_act_176 ?_
                refine x_goto hC 181 dX11_act_177 (by decide) ?_
                subst q32
                exact x_sub [5, 3, 1] rfl kj
        · have q7 := (ie_s q7).1 h10
          refine x_aload_n hC dX11_act_104 rfl 3 rfl ?_
          refine x_aload_n hC dX11_act_105 rfl 4 rfl ?_
          refine x_iload hC dX11_act_106 2 rfl ?_
          refine x_iload hC dX11_act_108 1 rfl ?_
          obtain ⟨x39, M40, q41, q7⟩ := bd2_s q7
          refine x_callV (ci := 5) (q := (RX11, TX11, 32)) (As := [.ref (G.2.1 i1), .int ((10 : Int32) * a2), .int x5]) hC (c_X11_unload l G M hi0 hi1 ((10 : Int32) * a2) x5 q41) kc_yX11_unload km_X11_303 ki_yX11_unload kv_yX11_unload kn_RX11 ky_yX11_unload rfl ⟨rfl, rfl⟩ ⟨(Nat.le_of_ble_eq_true rfl), (Nat.le_of_ble_eq_true rfl)⟩ hi0 (by decide) rfl rfl (Nat.le_of_ble_eq_true rfl) ⟨(Nat.le_of_ble_eq_true rfl), (Nat.le_of_ble_eq_true rfl)⟩ dX11_act_110 (fun b42 => ?_)
          refine x_istore hC [(7, .int x39), (6, .int x5), (5, .int ((10 : Int32) * a2)), (0, .ref (G.2.1 i0)), (1, .ref (G.2.1 i1)), (2, .int a2), (3, .int a3), (4, .int a4)] dX11_act_113  (Nat.le_of_ble_eq_true rfl) rfl ?_
          refine x_aload_n hC dX11_act_115 rfl 4 rfl ?_
          refine gf_X11_239 hC hi1 dX11_act_116 ?_
          refine x_iload hC dX11_act_119 2 rfl ?_
          refine x_iconst hC (4 : Int32) dX11_act_121 (by decide) ?_
          refine x_iadd hC dX11_act_122 ?_
          refine x_iload hC dX11_act_123 7 rfl ?_
          obtain ⟨h43, q7⟩ := it_s q7
          obtain ⟨M44, e45, q7⟩ := lz_s q7
          refine x_iast hC (kr_4_11 hi1) h43 e45 dX11_act_125 ?_
          refine x_goto hC 215 dX11_act_126 (by decide) ?_
          cases q7
          exact x_sub [4, 2, 0] rfl kj
      · have q7 := (ie_s q7).1 h9
        refine x_aload_n hC dX11_act_54 rfl 4 rfl ?_
        refine gf_X11_241 hC hi1 dX11_act_55 ?_
        refine x_iload hC dX11_act_58 1 rfl ?_
        obtain ⟨h46, q7⟩ := it_s q7
        refine x_iald hC (kr_4_8 hi1) h46 dX11_act_60 ?_
        obtain ⟨x49, e50, q7⟩ := lz_s q7
        have q47 := e50.symm
        refine x_joinB (P := (x49 = 0 ∨ x49 = 1)) (M' := M) (pc' := 69) (lv' := [(1, .ref (G.2.1 i1)), (4, .int a4), (5, .int ((10 : Int32) * a2)), (6, .int x5)]) (st' := [.int x49]) ?_ ?_
        · intro b51
          refine x_istore hC [(7, .int x49), (1, .ref (G.2.1 i1)), (4, .int a4), (5, .int ((10 : Int32) * a2)), (6, .int x5)] dX11_act_69  (Nat.le_of_ble_eq_true rfl) rfl ?_
          refine x_iload hC dX11_act_71 0 rfl ?_
          obtain ⟨M57, q52, q7⟩ := bd1_s q7
          refine x_join (M' := M57) (pc' := 84) (lv' := [(1, .ref (G.2.1 i1)), (4, .int a4), (5, .int ((10 : Int32) * a2)), (7, .int x49)]) (st' := []) ?_ ?_
          · refine x_aload_n hC dX11_act_84 rfl 0 rfl ?_
            refine gf_X11_239 hC hi1 dX11_act_85 ?_
            refine x_iload hC dX11_act_88 2 rfl ?_
            refine x_iconst hC (4 : Int32) dX11_act_90 (by decide) ?_
            refine x_iadd hC dX11_act_91 ?_
            refine x_iload hC dX11_act_92 1 rfl ?_
            obtain ⟨h58, q7⟩ := it_s q7
            obtain ⟨M59, e60, q7⟩ := lz_s q7
            refine x_iast hC (kr_4_11 hi1) h58 e60 dX11_act_94 ?_
            refine x_goto hC 215 dX11_act_95 (by decide) ?_
            cases q7
            exact x_sub [0, 2, 3] rfl kj
          · intro kj
            refine x_if_eq hC 84 dX11_act_73 (by decide) (fun h53 => ?_) (fun h53 => ?_)
            · have q52 := (ie_s q52).1 h53
              cases q52
              exact x_sub [1, 2, 3, 0] rfl kj
            · have q52 := (ie_s q52).2 h53
              refine x_aload_n hC dX11_act_76 rfl 1 rfl ?_
              refine gf_X11_300 hC hi1 dX11_act_77 ?_
              refine x_iload hC dX11_act_80 4 rfl ?_
              refine x_iconst hC (1 : Int32) dX11_act_82 (by decide) ?_
              obtain ⟨h54, q52⟩ := it_s q52
              obtain ⟨M55, e56, q52⟩ := lz_s q52
              refine x_iast hC (kr_4_10 hi1) h54 e56 dX11_act_83 ?_
              cases q52
              exact x_sub [1, 2, 3, 0] rfl kj
        · intro kj
          refine x_if_le hC 68 dX11_act_61 (by decide) (fun h48 => ?_) (fun h48 => ?_)
          · have q47 := (ie_s q47).1 h48
            refine x_iconst hC (0 : Int32) dX11_act_68 (by decide) ?_
            subst q47
            exact x_sub [4, 7, 2, 1] rfl (kj (Or.inl rfl))
          · have q47 := (ie_s q47).2 h48
            refine x_iconst hC (1 : Int32) dX11_act_64 (by decide) ?_
            refine x_goto hC 69 dX11_act_65 (by decide) ?_
            subst q47
            exact x_sub [4, 7, 2, 1] rfl (kj (Or.inr rfl))
    · have q7 := (ie_s q7).1 h8
      refine x_aload_n hC dX11_act_36 rfl 3 rfl ?_
      refine x_aload_n hC dX11_act_37 rfl 4 rfl ?_
      refine x_iload_n hC dX11_act_38 rfl 5 rfl ?_
      refine x_iload hC dX11_act_39 7 rfl ?_
      obtain ⟨x61, M62, q63, q7⟩ := bd2_s q7
      refine x_callV (ci := 5) (q := (RX11, TX11, 32)) (As := [.ref (G.2.1 i1), .int a2, .int a4]) hC (c_X11_go l G M hi0 hi1 a2 a4 q63) kc_yX11_go km_X11_297 ki_yX11_go kv_yX11_go kn_RX11 ky_yX11_go rfl ⟨rfl, rfl⟩ ⟨(Nat.le_of_ble_eq_true rfl), (Nat.le_of_ble_eq_true rfl)⟩ hi0 (by decide) rfl rfl (Nat.le_of_ble_eq_true rfl) ⟨(Nat.le_of_ble_eq_true rfl), (Nat.le_of_ble_eq_true rfl)⟩ dX11_act_41 (fun b64 => ?_)
      refine x_istore hC [(7, .int x61), (6, .int x5), (5, .int ((10 : Int32) * a2)), (0, .ref (G.2.1 i0)), (1, .ref (G.2.1 i1)), (2, .int a2), (3, .int a3), (4, .int a4)] dX11_act_44  (Nat.le_of_ble_eq_true rfl) rfl ?_
      refine x_goto hC 215 dX11_act_46 (by decide) ?_
      cases q7
      exact x_sub [4, 2, 0] rfl kj

theorem dX11_goOn_0 : decode cX11_goOn 0 = .ok (.bipush 10, 2) := by decide +kernel
theorem dX11_goOn_2 : decode cX11_goOn 2 = .ok (.iload_n 2, 1) := by decide +kernel
theorem dX11_goOn_3 : decode cX11_goOn 3 = .ok (.imul, 1) := by decide +kernel
theorem dX11_goOn_4 : decode cX11_goOn 4 = .ok (.istore 5, 2) := by decide +kernel
theorem dX11_goOn_6 : decode cX11_goOn 6 = .ok (.iload_n 3, 1) := by decide +kernel
theorem dX11_goOn_7 : decode cX11_goOn 7 = .ok (.bipush 43, 2) := by decide +kernel
theorem dX11_goOn_9 : decode cX11_goOn 9 = .ok (.if_icmp .ne 85, 3) := by decide +kernel
theorem dX11_goOn_12 : decode cX11_goOn 12 = .ok (.bipush 8, 2) := by decide +kernel
theorem dX11_goOn_14 : decode cX11_goOn 14 = .ok (.iload_n 2, 1) := by decide +kernel
theorem dX11_goOn_15 : decode cX11_goOn 15 = .ok (.imul, 1) := by decide +kernel
theorem dX11_goOn_16 : decode cX11_goOn 16 = .ok (.aload_n 0, 1) := by decide +kernel
theorem dX11_goOn_17 : decode cX11_goOn 17 = .ok (.getfield 26, 3) := by decide +kernel
theorem dX11_goOn_20 : decode cX11_goOn 20 = .ok (.iload 4, 2) := by decide +kernel
theorem dX11_goOn_22 : decode cX11_goOn 22 = .ok (.iconst 1, 1) := by decide +kernel
theorem dX11_goOn_23 : decode cX11_goOn 23 = .ok (.iadd, 1) := by decide +kernel
theorem dX11_goOn_24 : decode cX11_goOn 24 = .ok (.iaload, 1) := by decide +kernel
theorem dX11_goOn_25 : decode cX11_goOn 25 = .ok (.iadd, 1) := by decide +kernel
theorem dX11_goOn_26 : decode cX11_goOn 26 = .ok (.istore 6, 2) := by decide +kernel
theorem dX11_goOn_28 : decode cX11_goOn 28 = .ok (.aload_n 1, 1) := by decide +kernel
theorem dX11_goOn_29 : decode cX11_goOn 29 = .ok (.getfield 280, 3) := by decide +kernel
theorem dX11_goOn_32 : decode cX11_goOn 32 = .ok (.iload 6, 2) := by decide +kernel
theorem dX11_goOn_34 : decode cX11_goOn 34 = .ok (.iaload, 1) := by decide +kernel
theorem dX11_goOn_35 : decode cX11_goOn 35 = .ok (.ifCond .le 7, 3) := by decide +kernel
theorem dX11_goOn_38 : decode cX11_goOn 38 = .ok (.iconst 1, 1) := by decide +kernel
theorem dX11_goOn_39 : decode cX11_goOn 39 = .ok (.goto 4, 3) := by decide +kernel
theorem dX11_goOn_42 : decode cX11_goOn 42 = .ok (.iconst 0, 1) := by decide +kernel
theorem dX11_goOn_43 : decode cX11_goOn 43 = .ok (.istore 7, 2) := by decide +kernel
theorem dX11_goOn_45 : decode cX11_goOn 45 = .ok (.iload 7, 2) := by decide +kernel
theorem dX11_goOn_47 : decode cX11_goOn 47 = .ok (.ifCond .eq 14, 3) := by decide +kernel
theorem dX11_goOn_50 : decode cX11_goOn 50 = .ok (.aload_n 1, 1) := by decide +kernel
theorem dX11_goOn_51 : decode cX11_goOn 51 = .ok (.getfield 280, 3) := by decide +kernel
theorem dX11_goOn_54 : decode cX11_goOn 54 = .ok (.iload 6, 2) := by decide +kernel
theorem dX11_goOn_56 : decode cX11_goOn 56 = .ok (.dup2, 1) := by decide +kernel
theorem dX11_goOn_57 : decode cX11_goOn 57 = .ok (.iaload, 1) := by decide +kernel
theorem dX11_goOn_58 : decode cX11_goOn 58 = .ok (.iconst 1, 1) := by decide +kernel
theorem dX11_goOn_59 : decode cX11_goOn 59 = .ok (.isub, 1) := by decide +kernel
theorem dX11_goOn_60 : decode cX11_goOn 60 = .ok (.iastore, 1) := by decide +kernel
theorem dX11_goOn_61 : decode cX11_goOn 61 = .ok (.aload_n 1, 1) := by decide +kernel
theorem dX11_goOn_62 : decode cX11_goOn 62 = .ok (.getfield 239, 3) := by decide +kernel
theorem dX11_goOn_65 : decode cX11_goOn 65 = .ok (.iload 5, 2) := by decide +kernel
theorem dX11_goOn_67 : decode cX11_goOn 67 = .ok (.iconst 4, 1) := by decide +kernel
theorem dX11_goOn_68 : decode cX11_goOn 68 = .ok (.iadd, 1) := by decide +kernel
theorem dX11_goOn_69 : decode cX11_goOn 69 = .ok (.iload 7, 2) := by decide +kernel
theorem dX11_goOn_71 : decode cX11_goOn 71 = .ok (.ifCond .eq 10, 3) := by decide +kernel
theorem dX11_goOn_74 : decode cX11_goOn 74 = .ok (.iload 4, 2) := by decide +kernel
theorem dX11_goOn_76 : decode cX11_goOn 76 = .ok (.iconst 3, 1) := by decide +kernel
theorem dX11_goOn_77 : decode cX11_goOn 77 = .ok (.iadd, 1) := by decide +kernel
theorem dX11_goOn_78 : decode cX11_goOn 78 = .ok (.goto 12, 3) := by decide +kernel
theorem dX11_goOn_81 : decode cX11_goOn 81 = .ok (.aload_n 0, 1) := by decide +kernel
theorem dX11_goOn_82 : decode cX11_goOn 82 = .ok (.getfield 26, 3) := by decide +kernel
theorem dX11_goOn_85 : decode cX11_goOn 85 = .ok (.iload 4, 2) := by decide +kernel
theorem dX11_goOn_87 : decode cX11_goOn 87 = .ok (.iconst 2, 1) := by decide +kernel
theorem dX11_goOn_88 : decode cX11_goOn 88 = .ok (.iadd, 1) := by decide +kernel
theorem dX11_goOn_89 : decode cX11_goOn 89 = .ok (.iaload, 1) := by decide +kernel
theorem dX11_goOn_90 : decode cX11_goOn 90 = .ok (.iastore, 1) := by decide +kernel
theorem dX11_goOn_91 : decode cX11_goOn 91 = .ok (.goto 73, 3) := by decide +kernel
theorem dX11_goOn_94 : decode cX11_goOn 94 = .ok (.iload_n 3, 1) := by decide +kernel
theorem dX11_goOn_95 : decode cX11_goOn 95 = .ok (.iconst 2, 1) := by decide +kernel
theorem dX11_goOn_96 : decode cX11_goOn 96 = .ok (.if_icmp .ne 30, 3) := by decide +kernel
theorem dX11_goOn_99 : decode cX11_goOn 99 = .ok (.aload_n 0, 1) := by decide +kernel
theorem dX11_goOn_100 : decode cX11_goOn 100 = .ok (.aload_n 1, 1) := by decide +kernel
theorem dX11_goOn_101 : decode cX11_goOn 101 = .ok (.iload_n 2, 1) := by decide +kernel
theorem dX11_goOn_102 : decode cX11_goOn 102 = .ok (.iload 4, 2) := by decide +kernel
theorem dX11_goOn_104 : decode cX11_goOn 104 = .ok (.iconst 1, 1) := by decide +kernel
theorem dX11_goOn_105 : decode cX11_goOn 105 = .ok (.iadd, 1) := by decide +kernel
theorem dX11_goOn_106 : decode cX11_goOn 106 = .ok (.invokevirtual 283, 3) := by decide +kernel
theorem dX11_goOn_109 : decode cX11_goOn 109 = .ok (.pop, 1) := by decide +kernel
theorem dX11_goOn_110 : decode cX11_goOn 110 = .ok (.aload_n 1, 1) := by decide +kernel
theorem dX11_goOn_111 : decode cX11_goOn 111 = .ok (.getfield 239, 3) := by decide +kernel
theorem dX11_goOn_114 : decode cX11_goOn 114 = .ok (.iload 5, 2) := by decide +kernel
theorem dX11_goOn_116 : decode cX11_goOn 116 = .ok (.iconst 4, 1) := by decide +kernel
theorem dX11_goOn_117 : decode cX11_goOn 117 = .ok (.iadd, 1) := by decide +kernel
theorem dX11_goOn_118 : decode cX11_goOn 118 = .ok (.aload_n 0, 1) := by decide +kernel
theorem dX11_goOn_119 : decode cX11_goOn 119 = .ok (.getfield 277, 3) := by decide +kernel
theorem dX11_goOn_122 : decode cX11_goOn 122 = .ok (.iastore, 1) := by decide +kernel
theorem dX11_goOn_123 : decode cX11_goOn 123 = .ok (.goto 41, 3) := by decide +kernel
theorem dX11_goOn_126 : decode cX11_goOn 126 = .ok (.aload_n 1, 1) := by decide +kernel
theorem dX11_goOn_127 : decode cX11_goOn 127 = .ok (.getfield 239, 3) := by decide +kernel
theorem dX11_goOn_130 : decode cX11_goOn 130 = .ok (.iload 5, 2) := by decide +kernel
theorem dX11_goOn_132 : decode cX11_goOn 132 = .ok (.iconst 4, 1) := by decide +kernel
theorem dX11_goOn_133 : decode cX11_goOn 133 = .ok (.iadd, 1) := by decide +kernel
theorem dX11_goOn_134 : decode cX11_goOn 134 = .ok (.aload_n 0, 1) := by decide +kernel
theorem dX11_goOn_135 : decode cX11_goOn 135 = .ok (.aload_n 1, 1) := by decide +kernel
theorem dX11_goOn_136 : decode cX11_goOn 136 = .ok (.iload_n 2, 1) := by decide +kernel
theorem dX11_goOn_137 : decode cX11_goOn 137 = .ok (.iload 4, 2) := by decide +kernel
theorem dX11_goOn_139 : decode cX11_goOn 139 = .ok (.iconst 2, 1) := by decide +kernel
theorem dX11_goOn_140 : decode cX11_goOn 140 = .ok (.iadd, 1) := by decide +kernel
theorem dX11_goOn_141 : decode cX11_goOn 141 = .ok (.invokevirtual 294, 3) := by decide +kernel
theorem dX11_goOn_144 : decode cX11_goOn 144 = .ok (.ifCond .eq 10, 3) := by decide +kernel
theorem dX11_goOn_147 : decode cX11_goOn 147 = .ok (.aload_n 0, 1) := by decide +kernel
theorem dX11_goOn_148 : decode cX11_goOn 148 = .ok (.getfield 277, 3) := by decide +kernel
theorem dX11_goOn_151 : decode cX11_goOn 151 = .ok (.goto 12, 3) := by decide +kernel
theorem dX11_goOn_154 : decode cX11_goOn 154 = .ok (.aload_n 0, 1) := by decide +kernel
theorem dX11_goOn_155 : decode cX11_goOn 155 = .ok (.getfield 26, 3) := by decide +kernel
theorem dX11_goOn_158 : decode cX11_goOn 158 = .ok (.iload 4, 2) := by decide +kernel
theorem dX11_goOn_160 : decode cX11_goOn 160 = .ok (.iconst 1, 1) := by decide +kernel
theorem dX11_goOn_161 : decode cX11_goOn 161 = .ok (.iadd, 1) := by decide +kernel
theorem dX11_goOn_162 : decode cX11_goOn 162 = .ok (.iaload, 1) := by decide +kernel
theorem dX11_goOn_163 : decode cX11_goOn 163 = .ok (.iastore, 1) := by decide +kernel
theorem dX11_goOn_164 : decode cX11_goOn 164 = .ok (.return_, 1) := by decide +kernel

def f_X11_goOn (i0 : Nat) (i1 : Nat) (a2 : Int32) (a3 : Int32) (a4 : Int32) (M : Mm) : Option Mm :=
  if (a3 = (43 : Int32)) then (if 0 ≤ (a4 + (1 : Int32)).toInt ∧ (a4 + (1 : Int32)).toInt < ((4000 : Nat) : Int) then (lz (((8 : Int32) * a2) + (M (i0 + 5) (ix (a4 + (1 : Int32))))) fun x22 => if 0 ≤ x22.toInt ∧ x22.toInt < ((32 : Nat) : Int) then (lz (if ((M (i1 + 7) (ix x22)) ≤ 0) then ((0 : Int32)) else ((1 : Int32))) fun x27 => bd1 (if (x27 = 0) then (some (M)) else (if 0 ≤ x22.toInt ∧ x22.toInt < ((32 : Nat) : Int) then (if 0 ≤ x22.toInt ∧ x22.toInt < ((32 : Nat) : Int) then (lz (wr M (i1 + 7) (ix x22) ((M (i1 + 7) (ix x22)) - (1 : Int32))) fun M34 => some (M34)) else none) else none)) fun M36 => bd1 (if (x27 = 0) then (if 0 ≤ (a4 + (2 : Int32)).toInt ∧ (a4 + (2 : Int32)).toInt < ((4000 : Nat) : Int) then (some ((M36 (i0 + 5) (ix (a4 + (2 : Int32)))))) else none) else (some ((a4 + (3 : Int32))))) fun x40 => if 0 ≤ (((10 : Int32) * a2) + (4 : Int32)).toInt ∧ (((10 : Int32) * a2) + (4 : Int32)).toInt < ((40 : Nat) : Int) then (lz (wr M36 (i1 + 6) (ix (((10 : Int32) * a2) + (4 : Int32))) x40) fun M42 => some M42) else none) else none) else none) else (if (a3 = (2 : Int32)) then (bd2 (f_X11_isThere i0 i1 a2 (a4 + (1 : Int32)) M) fun x14 M15 => if 0 ≤ (((10 : Int32) * a2) + (4 : Int32)).toInt ∧ (((10 : Int32) * a2) + (4 : Int32)).toInt < ((40 : Nat) : Int) then (lz (wr M15 (i1 + 6) (ix (((10 : Int32) * a2) + (4 : Int32))) (M15 i0 28)) fun M19 => some M19) else none) else (bd2 (f_X11_reckon i0 i1 a2 (a4 + (2 : Int32)) M) fun x3 M4 => bd1 (if (x3 = 0) then (if 0 ≤ (a4 + (1 : Int32)).toInt ∧ (a4 + (1 : Int32)).toInt < ((4000 : Nat) : Int) then (some ((M4 (i0 + 5) (ix (a4 + (1 : Int32)))))) else none) else (some ((M4 i0 28)))) fun x10 => if 0 ≤ (((10 : Int32) * a2) + (4 : Int32)).toInt ∧ (((10 : Int32) * a2) + (4 : Int32)).toInt < ((40 : Nat) : Int) then (lz (wr M4 (i1 + 6) (ix (((10 : Int32) * a2) + (4 : Int32))) x10) fun M12 => some M12) else none))

set_option maxHeartbeats 4000000 in
set_option maxRecDepth 100000 in
theorem c_X11_goOn (l : Launch) (G : GG) (M : Mm) {i0 : Nat} (hi0 : (kd i0).1 = 5) {i1 : Nat} (hi1 : (kd i1).1 = 4) (a2 : Int32) (a3 : Int32) (a4 : Int32) {M9 : Mm} (hr : f_X11_goOn i0 i1 a2 a3 a4 M = some M9) : Mo false l yX11_goOn (WS yX11_goOn cX11_goOn 8 none) (RM 4 0 0 113) 0 0 [.ref (G.2.1 i0), .ref (G.2.1 i1), .int a2, .int a3, .int a4] G M none M9 := by
  refine Mo.of (by decide +kernel) (Nat.le_of_ble_eq_true rfl) ?_
  intro p e s m args below meth c hC
  have hC : CX p s m args meth c cX11_goOn 8 RX11 none G := hC
  rw [f_X11_goOn] at hr
  show XJ p l e (RM 4 0 0 113) s m args below meth c G 8 _ 0 0 M 0 [(0, .ref (G.2.1 i0)), (1, .ref (G.2.1 i1)), (2, .int a2), (3, .int a3), (4, .int a4)] []
  refine x_bipush hC (10 : Int32) dX11_goOn_0 (by decide) ?_
  refine x_iload_n hC dX11_goOn_2 rfl 2 rfl ?_
  refine x_imul hC dX11_goOn_3 ?_
  refine x_istore hC [(5, .int ((10 : Int32) * a2)), (0, .ref (G.2.1 i0)), (1, .ref (G.2.1 i1)), (2, .int a2), (3, .int a3), (4, .int a4)] dX11_goOn_4  (Nat.le_of_ble_eq_true rfl) rfl ?_
  refine x_iload_n hC dX11_goOn_6 rfl 4 rfl ?_
  refine x_bipush hC (43 : Int32) dX11_goOn_7 (by decide) ?_
  refine x_icmp_ne hC 94 dX11_goOn_9 (by decide) (fun h1 => ?_) (fun h1 => ?_)
  · have hr := (ie_s hr).2 h1
    refine x_iload_n hC dX11_goOn_94 rfl 4 rfl ?_
    refine x_iconst hC (2 : Int32) dX11_goOn_95 (by decide) ?_
    refine x_icmp_ne hC 126 dX11_goOn_96 (by decide) (fun h2 => ?_) (fun h2 => ?_)
    · have hr := (ie_s hr).2 h2
      refine x_aload_n hC dX11_goOn_126 rfl 2 rfl ?_
      refine gf_X11_239 hC hi1 dX11_goOn_127 ?_
      refine x_iload hC dX11_goOn_130 0 rfl ?_
      refine x_iconst hC (4 : Int32) dX11_goOn_132 (by decide) ?_
      refine x_iadd hC dX11_goOn_133 ?_
      refine x_aload_n hC dX11_goOn_134 rfl 1 rfl ?_
      refine x_aload_n hC dX11_goOn_135 rfl 2 rfl ?_
      refine x_iload_n hC dX11_goOn_136 rfl 3 rfl ?_
      refine x_iload hC dX11_goOn_137 5 rfl ?_
      refine x_iconst hC (2 : Int32) dX11_goOn_139 (by decide) ?_
      refine x_iadd hC dX11_goOn_140 ?_
      obtain ⟨x3, M4, q5, hr⟩ := bd2_s hr
      refine x_callV (ci := 5) (q := (RX11, TX11, 32)) (As := [.ref (G.2.1 i1), .int a2, .int (a4 + (2 : Int32))]) hC (c_X11_reckon l G M hi0 hi1 a2 (a4 + (2 : Int32)) q5) kc_yX11_reckon km_X11_294 ki_yX11_reckon kv_yX11_reckon kn_RX11 ky_yX11_reckon rfl ⟨rfl, rfl⟩ ⟨(Nat.le_of_ble_eq_true rfl), (Nat.le_of_ble_eq_true rfl)⟩ hi0 (by decide) rfl rfl (Nat.le_of_ble_eq_true rfl) ⟨(Nat.le_of_ble_eq_true rfl), (Nat.le_of_ble_eq_true rfl)⟩ dX11_goOn_141 (fun b6 => ?_)
      obtain ⟨x10, q7, hr⟩ := bd1_s hr
      refine x_join (M' := M4) (pc' := 163) (lv' := []) (st' := [.int x10, .int (((10 : Int32) * a2) + (4 : Int32)), .ref (G.2.1 (i1 + 6))]) ?_ ?_
      · obtain ⟨h11, hr⟩ := it_s hr
        obtain ⟨M12, e13, hr⟩ := lz_s hr
        refine x_iast hC (kr_4_11 hi1) h11 e13 dX11_goOn_163 ?_
        cases hr
        exact x_vret hC rfl dX11_goOn_164
      · intro kj
        refine x_if_eq hC 154 dX11_goOn_144 (by decide) (fun h8 => ?_) (fun h8 => ?_)
        · have q7 := (ie_s q7).1 h8
          refine x_aload_n hC dX11_goOn_154 rfl 1 rfl ?_
          refine gf_X11_26 hC hi0 dX11_goOn_155 ?_
          refine x_iload hC dX11_goOn_158 5 rfl ?_
          refine x_iconst hC (1 : Int32) dX11_goOn_160 (by decide) ?_
          refine x_iadd hC dX11_goOn_161 ?_
          obtain ⟨h9, q7⟩ := it_s q7
          refine x_iald hC (kr_5_8 hi0) h9 dX11_goOn_162 ?_
          cases q7
          exact x_sub [] rfl kj
        · have q7 := (ie_s q7).2 h8
          refine x_aload_n hC dX11_goOn_147 rfl 1 rfl ?_
          refine gf_X11_277 hC hi0 dX11_goOn_148 ?_
          refine x_goto hC 163 dX11_goOn_151 (by decide) ?_
          cases q7
          exact x_sub [] rfl kj
    · have hr := (ie_s hr).1 h2
      refine x_aload_n hC dX11_goOn_99 rfl 1 rfl ?_
      refine x_aload_n hC dX11_goOn_100 rfl 2 rfl ?_
      refine x_iload_n hC dX11_goOn_101 rfl 3 rfl ?_
      refine x_iload hC dX11_goOn_102 5 rfl ?_
      refine x_iconst hC (1 : Int32) dX11_goOn_104 (by decide) ?_
      refine x_iadd hC dX11_goOn_105 ?_
      obtain ⟨x14, M15, q16, hr⟩ := bd2_s hr
      refine x_callV (ci := 5) (q := (RX11, TX11, 32)) (As := [.ref (G.2.1 i1), .int a2, .int (a4 + (1 : Int32))]) hC (c_X11_isThere l G M hi0 hi1 a2 (a4 + (1 : Int32)) q16) kc_yX11_isThere km_X11_283 ki_yX11_isThere kv_yX11_isThere kn_RX11 ky_yX11_isThere rfl ⟨rfl, rfl⟩ ⟨(Nat.le_of_ble_eq_true rfl), (Nat.le_of_ble_eq_true rfl)⟩ hi0 (by decide) rfl rfl (Nat.le_of_ble_eq_true rfl) ⟨(Nat.le_of_ble_eq_true rfl), (Nat.le_of_ble_eq_true rfl)⟩ dX11_goOn_106 (fun b17 => ?_)
      refine x_pop hC dX11_goOn_109 rfl ?_
      refine x_aload_n hC dX11_goOn_110 rfl 2 rfl ?_
      refine gf_X11_239 hC hi1 dX11_goOn_111 ?_
      refine x_iload hC dX11_goOn_114 0 rfl ?_
      refine x_iconst hC (4 : Int32) dX11_goOn_116 (by decide) ?_
      refine x_iadd hC dX11_goOn_117 ?_
      refine x_aload_n hC dX11_goOn_118 rfl 1 rfl ?_
      refine gf_X11_277 hC hi0 dX11_goOn_119 ?_
      obtain ⟨h18, hr⟩ := it_s hr
      obtain ⟨M19, e20, hr⟩ := lz_s hr
      refine x_iast hC (kr_4_11 hi1) h18 e20 dX11_goOn_122 ?_
      refine x_goto hC 164 dX11_goOn_123 (by decide) ?_
      cases hr
      exact x_vret hC rfl dX11_goOn_164
  · have hr := (ie_s hr).1 h1
    refine x_bipush hC (8 : Int32) dX11_goOn_12 (by decide) ?_
    refine x_iload_n hC dX11_goOn_14 rfl 3 rfl ?_
    refine x_imul hC dX11_goOn_15 ?_
    refine x_aload_n hC dX11_goOn_16 rfl 1 rfl ?_
    refine gf_X11_26 hC hi0 dX11_goOn_17 ?_
    refine x_iload hC dX11_goOn_20 5 rfl ?_
    refine x_iconst hC (1 : Int32) dX11_goOn_22 (by decide) ?_
    refine x_iadd hC dX11_goOn_23 ?_
    obtain ⟨h21, hr⟩ := it_s hr
    refine x_iald hC (kr_5_8 hi0) h21 dX11_goOn_24 ?_
    refine x_iadd hC dX11_goOn_25 ?_
    obtain ⟨x22, e23, hr⟩ := lz_s hr
    refine x_topi e23 ?_
    refine x_istore hC [(6, .int x22), (5, .int ((10 : Int32) * a2)), (0, .ref (G.2.1 i0)), (1, .ref (G.2.1 i1)), (2, .int a2), (3, .int a3), (4, .int a4)] dX11_goOn_26  (Nat.le_of_ble_eq_true rfl) rfl ?_
    refine x_aload_n hC dX11_goOn_28 rfl 3 rfl ?_
    refine gf_X11_280 hC hi1 dX11_goOn_29 ?_
    refine x_iload hC dX11_goOn_32 0 rfl ?_
    obtain ⟨h24, hr⟩ := it_s hr
    refine x_iald hC (kr_4_12 hi1) h24 dX11_goOn_34 ?_
    obtain ⟨x27, e28, hr⟩ := lz_s hr
    have q25 := e28.symm
    refine x_joinB (P := (x27 = 0 ∨ x27 = 1)) (M' := M) (pc' := 43) (lv' := [(0, .ref (G.2.1 i0)), (1, .ref (G.2.1 i1)), (4, .int a4), (5, .int ((10 : Int32) * a2)), (6, .int x22)]) (st' := [.int x27]) ?_ ?_
    · intro b29
      refine x_istore hC [(7, .int x27), (0, .ref (G.2.1 i0)), (1, .ref (G.2.1 i1)), (4, .int a4), (5, .int ((10 : Int32) * a2)), (6, .int x22)] dX11_goOn_43  (Nat.le_of_ble_eq_true rfl) rfl ?_
      refine x_iload hC dX11_goOn_45 0 rfl ?_
      obtain ⟨M36, q30, hr⟩ := bd1_s hr
      refine x_join (M' := M36) (pc' := 61) (lv' := [(0, .ref (G.2.1 i0)), (1, .ref (G.2.1 i1)), (4, .int a4), (5, .int ((10 : Int32) * a2)), (7, .int x27)]) (st' := []) ?_ ?_
      · refine x_aload_n hC dX11_goOn_61 rfl 1 rfl ?_
        refine gf_X11_239 hC hi1 dX11_goOn_62 ?_
        refine x_iload hC dX11_goOn_65 3 rfl ?_
        refine x_iconst hC (4 : Int32) dX11_goOn_67 (by decide) ?_
        refine x_iadd hC dX11_goOn_68 ?_
        refine x_iload hC dX11_goOn_69 4 rfl ?_
        obtain ⟨x40, q37, hr⟩ := bd1_s hr
        refine x_join (M' := M36) (pc' := 90) (lv' := []) (st' := [.int x40, .int (((10 : Int32) * a2) + (4 : Int32)), .ref (G.2.1 (i1 + 6))]) ?_ ?_
        · obtain ⟨h41, hr⟩ := it_s hr
          obtain ⟨M42, e43, hr⟩ := lz_s hr
          refine x_iast hC (kr_4_11 hi1) h41 e43 dX11_goOn_90 ?_
          refine x_goto hC 164 dX11_goOn_91 (by decide) ?_
          cases hr
          exact x_vret hC rfl dX11_goOn_164
        · intro kj
          refine x_if_eq hC 81 dX11_goOn_71 (by decide) (fun h38 => ?_) (fun h38 => ?_)
          · have q37 := (ie_s q37).1 h38
            refine x_aload_n hC dX11_goOn_81 rfl 0 rfl ?_
            refine gf_X11_26 hC hi0 dX11_goOn_82 ?_
            refine x_iload hC dX11_goOn_85 2 rfl ?_
            refine x_iconst hC (2 : Int32) dX11_goOn_87 (by decide) ?_
            refine x_iadd hC dX11_goOn_88 ?_
            obtain ⟨h39, q37⟩ := it_s q37
            refine x_iald hC (kr_5_8 hi0) h39 dX11_goOn_89 ?_
            cases q37
            exact x_sub [] rfl kj
          · have q37 := (ie_s q37).2 h38
            refine x_iload hC dX11_goOn_74 2 rfl ?_
            refine x_iconst hC (3 : Int32) dX11_goOn_76 (by decide) ?_
            refine x_iadd hC dX11_goOn_77 ?_
            refine x_goto hC 90 dX11_goOn_78 (by decide) ?_
            cases q37
            exact x_sub [] rfl kj
      · intro kj
        refine x_if_eq hC 61 dX11_goOn_47 (by decide) (fun h31 => ?_) (fun h31 => ?_)
        · have q30 := (ie_s q30).1 h31
          cases q30
          exact x_sub [1, 2, 3, 4, 0] rfl kj
        · have q30 := (ie_s q30).2 h31
          refine x_aload_n hC dX11_goOn_50 rfl 2 rfl ?_
          refine gf_X11_280 hC hi1 dX11_goOn_51 ?_
          refine x_iload hC dX11_goOn_54 5 rfl ?_
          refine x_dup2 hC dX11_goOn_56 rfl rfl ?_
          obtain ⟨h32, q30⟩ := it_s q30
          refine x_iald hC (kr_4_12 hi1) h32 dX11_goOn_57 ?_
          refine x_iconst hC (1 : Int32) dX11_goOn_58 (by decide) ?_
          refine x_isub hC dX11_goOn_59 ?_
          obtain ⟨h33, q30⟩ := it_s q30
          obtain ⟨M34, e35, q30⟩ := lz_s q30
          refine x_iast hC (kr_4_12 hi1) h33 e35 dX11_goOn_60 ?_
          cases q30
          exact x_sub [1, 2, 3, 4, 0] rfl kj
    · intro kj
      refine x_if_le hC 42 dX11_goOn_35 (by decide) (fun h26 => ?_) (fun h26 => ?_)
      · have q25 := (ie_s q25).1 h26
        refine x_iconst hC (0 : Int32) dX11_goOn_42 (by decide) ?_
        subst q25
        exact x_sub [2, 3, 6, 1, 0] rfl (kj (Or.inl rfl))
      · have q25 := (ie_s q25).2 h26
        refine x_iconst hC (1 : Int32) dX11_goOn_38 (by decide) ?_
        refine x_goto hC 43 dX11_goOn_39 (by decide) ?_
        subst q25
        exact x_sub [2, 3, 6, 1, 0] rfl (kj (Or.inr rfl))

theorem dX11_work_0 : decode cX11_work 0 = .ok (.bipush 10, 2) := by decide +kernel
theorem dX11_work_2 : decode cX11_work 2 = .ok (.iload_n 2, 1) := by decide +kernel
theorem dX11_work_3 : decode cX11_work 3 = .ok (.imul, 1) := by decide +kernel
theorem dX11_work_4 : decode cX11_work 4 = .ok (.istore_n 3, 1) := by decide +kernel
theorem dX11_work_5 : decode cX11_work 5 = .ok (.aload_n 1, 1) := by decide +kernel
theorem dX11_work_6 : decode cX11_work 6 = .ok (.getfield 239, 3) := by decide +kernel
theorem dX11_work_9 : decode cX11_work 9 = .ok (.iload_n 3, 1) := by decide +kernel
theorem dX11_work_10 : decode cX11_work 10 = .ok (.bipush 8, 2) := by decide +kernel
theorem dX11_work_12 : decode cX11_work 12 = .ok (.iadd, 1) := by decide +kernel
theorem dX11_work_13 : decode cX11_work 13 = .ok (.dup2, 1) := by decide +kernel
theorem dX11_work_14 : decode cX11_work 14 = .ok (.iaload, 1) := by decide +kernel
theorem dX11_work_15 : decode cX11_work 15 = .ok (.iconst 1, 1) := by decide +kernel
theorem dX11_work_16 : decode cX11_work 16 = .ok (.iadd, 1) := by decide +kernel
theorem dX11_work_17 : decode cX11_work 17 = .ok (.iastore, 1) := by decide +kernel
theorem dX11_work_18 : decode cX11_work 18 = .ok (.aload_n 1, 1) := by decide +kernel
theorem dX11_work_19 : decode cX11_work 19 = .ok (.getfield 239, 3) := by decide +kernel
theorem dX11_work_22 : decode cX11_work 22 = .ok (.iload_n 3, 1) := by decide +kernel
theorem dX11_work_23 : decode cX11_work 23 = .ok (.bipush 9, 2) := by decide +kernel
theorem dX11_work_25 : decode cX11_work 25 = .ok (.iadd, 1) := by decide +kernel
theorem dX11_work_26 : decode cX11_work 26 = .ok (.iaload, 1) := by decide +kernel
theorem dX11_work_27 : decode cX11_work 27 = .ok (.ifCond .le 17, 3) := by decide +kernel
theorem dX11_work_30 : decode cX11_work 30 = .ok (.aload_n 1, 1) := by decide +kernel
theorem dX11_work_31 : decode cX11_work 31 = .ok (.getfield 239, 3) := by decide +kernel
theorem dX11_work_34 : decode cX11_work 34 = .ok (.iload_n 3, 1) := by decide +kernel
theorem dX11_work_35 : decode cX11_work 35 = .ok (.bipush 9, 2) := by decide +kernel
theorem dX11_work_37 : decode cX11_work 37 = .ok (.iadd, 1) := by decide +kernel
theorem dX11_work_38 : decode cX11_work 38 = .ok (.dup2, 1) := by decide +kernel
theorem dX11_work_39 : decode cX11_work 39 = .ok (.iaload, 1) := by decide +kernel
theorem dX11_work_40 : decode cX11_work 40 = .ok (.iconst 1, 1) := by decide +kernel
theorem dX11_work_41 : decode cX11_work 41 = .ok (.isub, 1) := by decide +kernel
theorem dX11_work_42 : decode cX11_work 42 = .ok (.iastore, 1) := by decide +kernel
theorem dX11_work_43 : decode cX11_work 43 = .ok (.return_, 1) := by decide +kernel
theorem dX11_work_44 : decode cX11_work 44 = .ok (.iconst 0, 1) := by decide +kernel
theorem dX11_work_45 : decode cX11_work 45 = .ok (.istore 4, 2) := by decide +kernel
theorem dX11_work_47 : decode cX11_work 47 = .ok (.aload_n 1, 1) := by decide +kernel
theorem dX11_work_48 : decode cX11_work 48 = .ok (.getfield 239, 3) := by decide +kernel
theorem dX11_work_51 : decode cX11_work 51 = .ok (.iload_n 3, 1) := by decide +kernel
theorem dX11_work_52 : decode cX11_work 52 = .ok (.iconst 4, 1) := by decide +kernel
theorem dX11_work_53 : decode cX11_work 53 = .ok (.iadd, 1) := by decide +kernel
theorem dX11_work_54 : decode cX11_work 54 = .ok (.iaload, 1) := by decide +kernel
theorem dX11_work_55 : decode cX11_work 55 = .ok (.istore 5, 2) := by decide +kernel
theorem dX11_work_57 : decode cX11_work 57 = .ok (.aload_n 0, 1) := by decide +kernel
theorem dX11_work_58 : decode cX11_work 58 = .ok (.getfield 26, 3) := by decide +kernel
theorem dX11_work_61 : decode cX11_work 61 = .ok (.iload 5, 2) := by decide +kernel
theorem dX11_work_63 : decode cX11_work 63 = .ok (.iaload, 1) := by decide +kernel
theorem dX11_work_64 : decode cX11_work 64 = .ok (.istore 6, 2) := by decide +kernel
theorem dX11_work_66 : decode cX11_work 66 = .ok (.iload 6, 2) := by decide +kernel
theorem dX11_work_68 : decode cX11_work 68 = .ok (.bipush 40, 2) := by decide +kernel
theorem dX11_work_70 : decode cX11_work 70 = .ok (.if_icmp .ne 26, 3) := by decide +kernel
theorem dX11_work_73 : decode cX11_work 73 = .ok (.aload_n 1, 1) := by decide +kernel
theorem dX11_work_74 : decode cX11_work 74 = .ok (.getfield 239, 3) := by decide +kernel
theorem dX11_work_77 : decode cX11_work 77 = .ok (.iload_n 3, 1) := by decide +kernel
theorem dX11_work_78 : decode cX11_work 78 = .ok (.iconst 5, 1) := by decide +kernel
theorem dX11_work_79 : decode cX11_work 79 = .ok (.iadd, 1) := by decide +kernel
theorem dX11_work_80 : decode cX11_work 80 = .ok (.iconst 1, 1) := by decide +kernel
theorem dX11_work_81 : decode cX11_work 81 = .ok (.iastore, 1) := by decide +kernel
theorem dX11_work_82 : decode cX11_work 82 = .ok (.aload_n 1, 1) := by decide +kernel
theorem dX11_work_83 : decode cX11_work 83 = .ok (.getfield 239, 3) := by decide +kernel
theorem dX11_work_86 : decode cX11_work 86 = .ok (.iload_n 3, 1) := by decide +kernel
theorem dX11_work_87 : decode cX11_work 87 = .ok (.bipush 6, 2) := by decide +kernel
theorem dX11_work_89 : decode cX11_work 89 = .ok (.iadd, 1) := by decide +kernel
theorem dX11_work_90 : decode cX11_work 90 = .ok (.dup2, 1) := by decide +kernel
theorem dX11_work_91 : decode cX11_work 91 = .ok (.iaload, 1) := by decide +kernel
theorem dX11_work_92 : decode cX11_work 92 = .ok (.iconst 1, 1) := by decide +kernel
theorem dX11_work_93 : decode cX11_work 93 = .ok (.iadd, 1) := by decide +kernel
theorem dX11_work_94 : decode cX11_work 94 = .ok (.iastore, 1) := by decide +kernel
theorem dX11_work_95 : decode cX11_work 95 = .ok (.return_, 1) := by decide +kernel
theorem dX11_work_96 : decode cX11_work 96 = .ok (.iload 6, 2) := by decide +kernel
theorem dX11_work_98 : decode cX11_work 98 = .ok (.bipush 41, 2) := by decide +kernel
theorem dX11_work_100 : decode cX11_work 100 = .ok (.if_icmp .ne 23, 3) := by decide +kernel
theorem dX11_work_103 : decode cX11_work 103 = .ok (.aload_n 1, 1) := by decide +kernel
theorem dX11_work_104 : decode cX11_work 104 = .ok (.getfield 239, 3) := by decide +kernel
theorem dX11_work_107 : decode cX11_work 107 = .ok (.iload_n 3, 1) := by decide +kernel
theorem dX11_work_108 : decode cX11_work 108 = .ok (.iconst 4, 1) := by decide +kernel
theorem dX11_work_109 : decode cX11_work 109 = .ok (.iadd, 1) := by decide +kernel
theorem dX11_work_110 : decode cX11_work 110 = .ok (.aload_n 0, 1) := by decide +kernel
theorem dX11_work_111 : decode cX11_work 111 = .ok (.getfield 26, 3) := by decide +kernel
theorem dX11_work_114 : decode cX11_work 114 = .ok (.iload 5, 2) := by decide +kernel
theorem dX11_work_116 : decode cX11_work 116 = .ok (.iconst 1, 1) := by decide +kernel
theorem dX11_work_117 : decode cX11_work 117 = .ok (.iadd, 1) := by decide +kernel
theorem dX11_work_118 : decode cX11_work 118 = .ok (.iaload, 1) := by decide +kernel
theorem dX11_work_119 : decode cX11_work 119 = .ok (.iastore, 1) := by decide +kernel
theorem dX11_work_120 : decode cX11_work 120 = .ok (.goto (-73), 3) := by decide +kernel
theorem dX11_work_123 : decode cX11_work 123 = .ok (.iload 6, 2) := by decide +kernel
theorem dX11_work_125 : decode cX11_work 125 = .ok (.bipush 42, 2) := by decide +kernel
theorem dX11_work_127 : decode cX11_work 127 = .ok (.if_icmp .ne 46, 3) := by decide +kernel
theorem dX11_work_130 : decode cX11_work 130 = .ok (.aload_n 1, 1) := by decide +kernel
theorem dX11_work_131 : decode cX11_work 131 = .ok (.getfield 280, 3) := by decide +kernel
theorem dX11_work_134 : decode cX11_work 134 = .ok (.bipush 8, 2) := by decide +kernel
theorem dX11_work_136 : decode cX11_work 136 = .ok (.iload_n 2, 1) := by decide +kernel
theorem dX11_work_137 : decode cX11_work 137 = .ok (.imul, 1) := by decide +kernel
theorem dX11_work_138 : decode cX11_work 138 = .ok (.aload_n 0, 1) := by decide +kernel
theorem dX11_work_139 : decode cX11_work 139 = .ok (.getfield 26, 3) := by decide +kernel
theorem dX11_work_142 : decode cX11_work 142 = .ok (.iload 5, 2) := by decide +kernel
theorem dX11_work_144 : decode cX11_work 144 = .ok (.iconst 1, 1) := by decide +kernel
theorem dX11_work_145 : decode cX11_work 145 = .ok (.iadd, 1) := by decide +kernel
theorem dX11_work_146 : decode cX11_work 146 = .ok (.iaload, 1) := by decide +kernel
theorem dX11_work_147 : decode cX11_work 147 = .ok (.iadd, 1) := by decide +kernel
theorem dX11_work_148 : decode cX11_work 148 = .ok (.aload_n 0, 1) := by decide +kernel
theorem dX11_work_149 : decode cX11_work 149 = .ok (.getfield 26, 3) := by decide +kernel
theorem dX11_work_152 : decode cX11_work 152 = .ok (.iload 5, 2) := by decide +kernel
theorem dX11_work_154 : decode cX11_work 154 = .ok (.iconst 2, 1) := by decide +kernel
theorem dX11_work_155 : decode cX11_work 155 = .ok (.iadd, 1) := by decide +kernel
theorem dX11_work_156 : decode cX11_work 156 = .ok (.iaload, 1) := by decide +kernel
theorem dX11_work_157 : decode cX11_work 157 = .ok (.iastore, 1) := by decide +kernel
theorem dX11_work_158 : decode cX11_work 158 = .ok (.aload_n 1, 1) := by decide +kernel
theorem dX11_work_159 : decode cX11_work 159 = .ok (.getfield 239, 3) := by decide +kernel
theorem dX11_work_162 : decode cX11_work 162 = .ok (.iload_n 3, 1) := by decide +kernel
theorem dX11_work_163 : decode cX11_work 163 = .ok (.iconst 4, 1) := by decide +kernel
theorem dX11_work_164 : decode cX11_work 164 = .ok (.iadd, 1) := by decide +kernel
theorem dX11_work_165 : decode cX11_work 165 = .ok (.iload 5, 2) := by decide +kernel
theorem dX11_work_167 : decode cX11_work 167 = .ok (.iconst 3, 1) := by decide +kernel
theorem dX11_work_168 : decode cX11_work 168 = .ok (.iadd, 1) := by decide +kernel
theorem dX11_work_169 : decode cX11_work 169 = .ok (.iastore, 1) := by decide +kernel
theorem dX11_work_170 : decode cX11_work 170 = .ok (.goto (-123), 3) := by decide +kernel
theorem dX11_work_173 : decode cX11_work 173 = .ok (.iload 6, 2) := by decide +kernel
theorem dX11_work_175 : decode cX11_work 175 = .ok (.bipush 8, 2) := by decide +kernel
theorem dX11_work_177 : decode cX11_work 177 = .ok (.if_icmp .eq 36, 3) := by decide +kernel
theorem dX11_work_180 : decode cX11_work 180 = .ok (.iload 6, 2) := by decide +kernel
theorem dX11_work_182 : decode cX11_work 182 = .ok (.bipush 11, 2) := by decide +kernel
theorem dX11_work_184 : decode cX11_work 184 = .ok (.if_icmp .eq 29, 3) := by decide +kernel
theorem dX11_work_187 : decode cX11_work 187 = .ok (.iload 6, 2) := by decide +kernel
theorem dX11_work_189 : decode cX11_work 189 = .ok (.bipush 43, 2) := by decide +kernel
theorem dX11_work_191 : decode cX11_work 191 = .ok (.if_icmp .eq 22, 3) := by decide +kernel
theorem dX11_work_194 : decode cX11_work 194 = .ok (.iload 6, 2) := by decide +kernel
theorem dX11_work_196 : decode cX11_work 196 = .ok (.iconst 2, 1) := by decide +kernel
theorem dX11_work_197 : decode cX11_work 197 = .ok (.if_icmp .ne 20, 3) := by decide +kernel
theorem dX11_work_200 : decode cX11_work 200 = .ok (.aload_n 0, 1) := by decide +kernel
theorem dX11_work_201 : decode cX11_work 201 = .ok (.aload_n 1, 1) := by decide +kernel
theorem dX11_work_202 : decode cX11_work 202 = .ok (.iload_n 2, 1) := by decide +kernel
theorem dX11_work_203 : decode cX11_work 203 = .ok (.iload 5, 2) := by decide +kernel
theorem dX11_work_205 : decode cX11_work 205 = .ok (.iconst 1, 1) := by decide +kernel
theorem dX11_work_206 : decode cX11_work 206 = .ok (.iadd, 1) := by decide +kernel
theorem dX11_work_207 : decode cX11_work 207 = .ok (.invokevirtual 283, 3) := by decide +kernel
theorem dX11_work_210 : decode cX11_work 210 = .ok (.ifCond .eq 7, 3) := by decide +kernel
theorem dX11_work_213 : decode cX11_work 213 = .ok (.iconst 1, 1) := by decide +kernel
theorem dX11_work_214 : decode cX11_work 214 = .ok (.goto 4, 3) := by decide +kernel
theorem dX11_work_217 : decode cX11_work 217 = .ok (.iconst 0, 1) := by decide +kernel
theorem dX11_work_218 : decode cX11_work 218 = .ok (.istore 7, 2) := by decide +kernel
theorem dX11_work_220 : decode cX11_work 220 = .ok (.iload 7, 2) := by decide +kernel
theorem dX11_work_222 : decode cX11_work 222 = .ok (.ifCond .ne 16, 3) := by decide +kernel
theorem dX11_work_225 : decode cX11_work 225 = .ok (.aload_n 0, 1) := by decide +kernel
theorem dX11_work_226 : decode cX11_work 226 = .ok (.aload_n 1, 1) := by decide +kernel
theorem dX11_work_227 : decode cX11_work 227 = .ok (.iload_n 2, 1) := by decide +kernel
theorem dX11_work_228 : decode cX11_work 228 = .ok (.iload 6, 2) := by decide +kernel
theorem dX11_work_230 : decode cX11_work 230 = .ok (.iload 5, 2) := by decide +kernel
theorem dX11_work_232 : decode cX11_work 232 = .ok (.iconst 1, 1) := by decide +kernel
theorem dX11_work_233 : decode cX11_work 233 = .ok (.iadd, 1) := by decide +kernel
theorem dX11_work_234 : decode cX11_work 234 = .ok (.invokevirtual 287, 3) := by decide +kernel
theorem dX11_work_237 : decode cX11_work 237 = .ok (.return_, 1) := by decide +kernel
theorem dX11_work_238 : decode cX11_work 238 = .ok (.iload 4, 2) := by decide +kernel
theorem dX11_work_240 : decode cX11_work 240 = .ok (.bipush 50, 2) := by decide +kernel
theorem dX11_work_242 : decode cX11_work 242 = .ok (.if_icmp .ne 17, 3) := by decide +kernel
theorem dX11_work_245 : decode cX11_work 245 = .ok (.aload_n 1, 1) := by decide +kernel
theorem dX11_work_246 : decode cX11_work 246 = .ok (.getfield 239, 3) := by decide +kernel
theorem dX11_work_249 : decode cX11_work 249 = .ok (.iload_n 3, 1) := by decide +kernel
theorem dX11_work_250 : decode cX11_work 250 = .ok (.bipush 6, 2) := by decide +kernel
theorem dX11_work_252 : decode cX11_work 252 = .ok (.iadd, 1) := by decide +kernel
theorem dX11_work_253 : decode cX11_work 253 = .ok (.dup2, 1) := by decide +kernel
theorem dX11_work_254 : decode cX11_work 254 = .ok (.iaload, 1) := by decide +kernel
theorem dX11_work_255 : decode cX11_work 255 = .ok (.iconst 1, 1) := by decide +kernel
theorem dX11_work_256 : decode cX11_work 256 = .ok (.iadd, 1) := by decide +kernel
theorem dX11_work_257 : decode cX11_work 257 = .ok (.iastore, 1) := by decide +kernel
theorem dX11_work_258 : decode cX11_work 258 = .ok (.return_, 1) := by decide +kernel
theorem dX11_work_259 : decode cX11_work 259 = .ok (.iinc 4 1, 3) := by decide +kernel
theorem dX11_work_262 : decode cX11_work 262 = .ok (.aload_n 0, 1) := by decide +kernel
theorem dX11_work_263 : decode cX11_work 263 = .ok (.aload_n 1, 1) := by decide +kernel
theorem dX11_work_264 : decode cX11_work 264 = .ok (.iload_n 2, 1) := by decide +kernel
theorem dX11_work_265 : decode cX11_work 265 = .ok (.iload 6, 2) := by decide +kernel
theorem dX11_work_267 : decode cX11_work 267 = .ok (.iload 5, 2) := by decide +kernel
theorem dX11_work_269 : decode cX11_work 269 = .ok (.invokevirtual 291, 3) := by decide +kernel
theorem dX11_work_272 : decode cX11_work 272 = .ok (.goto (-225), 3) := by decide +kernel
def f_X11_work_L47 (i0 : Nat) (i1 : Nat) (a2 : Int32) (a3 : Int32) : Nat → Int32 → Mm → Option Mm
  | 0, _, _ => none
  | n + 1, v4, M =>
    if 0 ≤ (a3 + (4 : Int32)).toInt ∧ (a3 + (4 : Int32)).toInt < ((40 : Nat) : Int) then (lz (M (i1 + 6) (ix (a3 + (4 : Int32)))) fun x10 => if 0 ≤ x10.toInt ∧ x10.toInt < ((4000 : Nat) : Int) then (if ((M (i0 + 5) (ix x10)) = (40 : Int32)) then (if 0 ≤ (a3 + (5 : Int32)).toInt ∧ (a3 + (5 : Int32)).toInt < ((40 : Nat) : Int) then (lz (wr M (i1 + 6) (ix (a3 + (5 : Int32))) (1 : Int32)) fun M56 => if 0 ≤ (a3 + (6 : Int32)).toInt ∧ (a3 + (6 : Int32)).toInt < ((40 : Nat) : Int) then (if 0 ≤ (a3 + (6 : Int32)).toInt ∧ (a3 + (6 : Int32)).toInt < ((40 : Nat) : Int) then (lz (wr M56 (i1 + 6) (ix (a3 + (6 : Int32))) ((M56 (i1 + 6) (ix (a3 + (6 : Int32)))) + (1 : Int32))) fun M60 => some M60) else none) else none) else none) else (if ((M (i0 + 5) (ix x10)) = (41 : Int32)) then (if 0 ≤ (x10 + (1 : Int32)).toInt ∧ (x10 + (1 : Int32)).toInt < ((4000 : Nat) : Int) then (if 0 ≤ (a3 + (4 : Int32)).toInt ∧ (a3 + (4 : Int32)).toInt < ((40 : Nat) : Int) then (lz (wr M (i1 + 6) (ix (a3 + (4 : Int32))) (M (i0 + 5) (ix (x10 + (1 : Int32))))) fun M53 => f_X11_work_L47 i0 i1 a2 a3 n v4 M53) else none) else none) else (if ((M (i0 + 5) (ix x10)) = (42 : Int32)) then (if 0 ≤ (x10 + (1 : Int32)).toInt ∧ (x10 + (1 : Int32)).toInt < ((4000 : Nat) : Int) then (if 0 ≤ (x10 + (2 : Int32)).toInt ∧ (x10 + (2 : Int32)).toInt < ((4000 : Nat) : Int) then (if 0 ≤ (((8 : Int32) * a2) + (M (i0 + 5) (ix (x10 + (1 : Int32))))).toInt ∧ (((8 : Int32) * a2) + (M (i0 + 5) (ix (x10 + (1 : Int32))))).toInt < ((32 : Nat) : Int) then (lz (wr M (i1 + 7) (ix (((8 : Int32) * a2) + (M (i0 + 5) (ix (x10 + (1 : Int32)))))) (M (i0 + 5) (ix (x10 + (2 : Int32))))) fun M46 => if 0 ≤ (a3 + (4 : Int32)).toInt ∧ (a3 + (4 : Int32)).toInt < ((40 : Nat) : Int) then (lz (wr M46 (i1 + 6) (ix (a3 + (4 : Int32))) (x10 + (3 : Int32))) fun M49 => f_X11_work_L47 i0 i1 a2 a3 n v4 M49) else none) else none) else none) else none) else (bd2 (if ((M (i0 + 5) (ix x10)) = (8 : Int32)) then (some ((1 : Int32), M)) else (if ((M (i0 + 5) (ix x10)) = (11 : Int32)) then (some ((1 : Int32), M)) else (if ((M (i0 + 5) (ix x10)) = (43 : Int32)) then (some ((1 : Int32), M)) else (if ((M (i0 + 5) (ix x10)) = (2 : Int32)) then (bd2 (f_X11_isThere i0 i1 a2 (x10 + (1 : Int32)) M) fun x21 M22 => if (x21 = 0) then (some ((0 : Int32), M22)) else (some ((1 : Int32), M22))) else (some ((0 : Int32), M)))))) fun x26 M27 => if (x26 = 0) then (bd1 (f_X11_act i0 i1 a2 (M (i0 + 5) (ix x10)) (x10 + (1 : Int32)) M27) fun M40 => some M40) else (if (v4 = (50 : Int32)) then (if 0 ≤ (a3 + (6 : Int32)).toInt ∧ (a3 + (6 : Int32)).toInt < ((40 : Nat) : Int) then (if 0 ≤ (a3 + (6 : Int32)).toInt ∧ (a3 + (6 : Int32)).toInt < ((40 : Nat) : Int) then (lz (wr M27 (i1 + 6) (ix (a3 + (6 : Int32))) ((M27 (i1 + 6) (ix (a3 + (6 : Int32)))) + (1 : Int32))) fun M38 => some M38) else none) else none) else (lz (v4 + (1 : Int32)) fun x31 => bd1 (f_X11_goOn i0 i1 a2 (M (i0 + 5) (ix x10)) x10 M27) fun M33 => f_X11_work_L47 i0 i1 a2 a3 n x31 M33)))))) else none) else none
def f_X11_work (i0 : Nat) (i1 : Nat) (a2 : Int32) (M : Mm) : Option Mm :=
  if 0 ≤ (((10 : Int32) * a2) + (8 : Int32)).toInt ∧ (((10 : Int32) * a2) + (8 : Int32)).toInt < ((40 : Nat) : Int) then (lz ((M (i1 + 6) (ix (((10 : Int32) * a2) + (8 : Int32)))) + (1 : Int32)) fun x2 => if 0 ≤ (((10 : Int32) * a2) + (8 : Int32)).toInt ∧ (((10 : Int32) * a2) + (8 : Int32)).toInt < ((40 : Nat) : Int) then (lz (wr M (i1 + 6) (ix (((10 : Int32) * a2) + (8 : Int32))) x2) fun M5 => if 0 ≤ (((10 : Int32) * a2) + (9 : Int32)).toInt ∧ (((10 : Int32) * a2) + (9 : Int32)).toInt < ((40 : Nat) : Int) then (if ((M5 (i1 + 6) (ix (((10 : Int32) * a2) + (9 : Int32)))) ≤ 0) then ((f_X11_work_L47 i0 i1 a2 ((10 : Int32) * a2) FU (0 : Int32) M5)) else (if 0 ≤ (((10 : Int32) * a2) + (9 : Int32)).toInt ∧ (((10 : Int32) * a2) + (9 : Int32)).toInt < ((40 : Nat) : Int) then (lz ((M5 (i1 + 6) (ix (((10 : Int32) * a2) + (9 : Int32)))) - (1 : Int32)) fun x63 => if 0 ≤ (((10 : Int32) * a2) + (9 : Int32)).toInt ∧ (((10 : Int32) * a2) + (9 : Int32)).toInt < ((40 : Nat) : Int) then (lz (wr M5 (i1 + 6) (ix (((10 : Int32) * a2) + (9 : Int32))) x63) fun M66 => some M66) else none) else none)) else none) else none) else none
set_option maxHeartbeats 4000000 in
set_option maxRecDepth 100000 in
theorem l_X11_work_L47 {p : Program} {e : Env} {s : State} {m : MethodId} {args : Array Value} {below : List Frame} {meth : Method} {c : Code} {l : Launch} {G : GG} (hC : CX p s m args meth c cX11_work 8 RX11 none G) {i0 : Nat} {i1 : Nat} (hi0 : (kd i0).1 = 5) (hi1 : (kd i1).1 = 4) (a2 : Int32) (a3 : Int32) : ∀ (n : Nat) (v4 : Int32) (M : Mm) {M9 : Mm} (hr : f_X11_work_L47 i0 i1 a2 a3 n v4 M = some M9), XJ p l e (RM 5 0 0 144) s m args below meth c G 8 (MQ below (QO G M9 false none s.heap.size) args s 0 0 (AF G s.heap.size)) 0 0 M 47 [(0, .ref (G.2.1 i0)), (1, .ref (G.2.1 i1)), (2, .int a2), (3, .int a3), (4, .int v4)] [] := by
  intro n
  induction n with
  | zero => intro v4 M M9 hr; rw [f_X11_work_L47] at hr; cases hr
  | succ n ih =>
    intro v4 M M9 hr
    rw [f_X11_work_L47] at hr
    refine x_aload_n hC dX11_work_47 rfl 1 rfl ?_
    refine gf_X11_239 hC hi1 dX11_work_48 ?_
    refine x_iload_n hC dX11_work_51 rfl 3 rfl ?_
    refine x_iconst hC (4 : Int32) dX11_work_52 (by decide) ?_
    refine x_iadd hC dX11_work_53 ?_
    obtain ⟨h9, hr⟩ := it_s hr
    refine x_iald hC (kr_4_11 hi1) h9 dX11_work_54 ?_
    obtain ⟨x10, e11, hr⟩ := lz_s hr
    refine x_topi e11 ?_
    refine x_istore hC [(5, .int x10), (0, .ref (G.2.1 i0)), (1, .ref (G.2.1 i1)), (2, .int a2), (3, .int a3), (4, .int v4)] dX11_work_55  (Nat.le_of_ble_eq_true rfl) rfl ?_
    refine x_aload_n hC dX11_work_57 rfl 1 rfl ?_
    refine gf_X11_26 hC hi0 dX11_work_58 ?_
    refine x_iload hC dX11_work_61 0 rfl ?_
    obtain ⟨h12, hr⟩ := it_s hr
    refine x_iald hC (kr_5_8 hi0) h12 dX11_work_63 ?_
    refine x_istore hC [(6, .int (M (i0 + 5) (ix x10))), (5, .int x10), (0, .ref (G.2.1 i0)), (1, .ref (G.2.1 i1)), (2, .int a2), (3, .int a3), (4, .int v4)] dX11_work_64  (Nat.le_of_ble_eq_true rfl) rfl ?_
    refine x_iload hC dX11_work_66 0 rfl ?_
    refine x_bipush hC (40 : Int32) dX11_work_68 (by decide) ?_
    refine x_icmp_ne hC 96 dX11_work_70 (by decide) (fun h13 => ?_) (fun h13 => ?_)
    · have hr := (ie_s hr).2 h13
      refine x_iload hC dX11_work_96 0 rfl ?_
      refine x_bipush hC (41 : Int32) dX11_work_98 (by decide) ?_
      refine x_icmp_ne hC 123 dX11_work_100 (by decide) (fun h14 => ?_) (fun h14 => ?_)
      · have hr := (ie_s hr).2 h14
        refine x_iload hC dX11_work_123 0 rfl ?_
        refine x_bipush hC (42 : Int32) dX11_work_125 (by decide) ?_
        refine x_icmp_ne hC 173 dX11_work_127 (by decide) (fun h15 => ?_) (fun h15 => ?_)
        · have hr := (ie_s hr).2 h15
          refine x_iload hC dX11_work_173 0 rfl ?_
          refine x_bipush hC (8 : Int32) dX11_work_175 (by decide) ?_
          obtain ⟨x26, M27, q16, hr⟩ := bd2_s hr
          refine x_joinB (P := (x26 = 0 ∨ x26 = 1)) (M' := M27) (pc' := 218) (lv' := [(0, .ref (G.2.1 i0)), (1, .ref (G.2.1 i1)), (2, .int a2), (3, .int a3), (4, .int v4), (5, .int x10), (6, .int (M (i0 + 5) (ix x10)))]) (st' := [.int x26]) ?_ ?_
          · intro b28
            refine x_istore hC [(7, .int x26), (0, .ref (G.2.1 i0)), (1, .ref (G.2.1 i1)), (2, .int a2), (3, .int a3), (4, .int v4), (5, .int x10), (6, .int (M (i0 + 5) (ix x10)))] dX11_work_218  (Nat.le_of_ble_eq_true rfl) rfl ?_
            refine x_iload hC dX11_work_220 0 rfl ?_
            refine x_if_ne hC 238 dX11_work_222 (by decide) (fun h29 => ?_) (fun h29 => ?_)
            · have hr := (ie_s hr).2 h29
              refine x_iload hC dX11_work_238 5 rfl ?_
              refine x_bipush hC (50 : Int32) dX11_work_240 (by decide) ?_
              refine x_icmp_ne hC 259 dX11_work_242 (by decide) (fun h30 => ?_) (fun h30 => ?_)
              · have hr := (ie_s hr).2 h30
                obtain ⟨x31, e32, hr⟩ := lz_s hr
                refine x_iinc hC [(4, .int x31), (7, .int x26), (0, .ref (G.2.1 i0)), (1, .ref (G.2.1 i1)), (2, .int a2), (3, .int a3), (5, .int x10), (6, .int (M (i0 + 5) (ix x10)))] dX11_work_259 5 rfl (by rw [e32]; rfl) (Nat.le_of_ble_eq_true rfl) rfl ?_
                refine x_aload_n hC dX11_work_262 rfl 2 rfl ?_
                refine x_aload_n hC dX11_work_263 rfl 3 rfl ?_
                refine x_iload_n hC dX11_work_264 rfl 4 rfl ?_
                refine x_iload hC dX11_work_265 7 rfl ?_
                refine x_iload hC dX11_work_267 6 rfl ?_
                obtain ⟨M33, q34, hr⟩ := bd1_s hr
                refine x_callV (ci := 5) (q := (RX11, TX11, 32)) (As := [.ref (G.2.1 i1), .int a2, .int (M (i0 + 5) (ix x10)), .int x10]) hC (c_X11_goOn l G M27 hi0 hi1 a2 (M (i0 + 5) (ix x10)) x10 q34) kc_yX11_goOn km_X11_291 ki_yX11_goOn kv_yX11_goOn kn_RX11 ky_yX11_goOn rfl ⟨rfl, rfl⟩ ⟨(Nat.le_of_ble_eq_true rfl), (Nat.le_of_ble_eq_true rfl)⟩ hi0 (by decide) rfl rfl (Nat.le_of_ble_eq_true rfl) ⟨(Nat.le_of_ble_eq_true rfl), (Nat.le_of_ble_eq_true rfl)⟩ dX11_work_269 (fun b35 => ?_)
                refine x_goto hC 47 dX11_work_272 (by decide) ?_
                exact x_sub [2, 3, 4, 5, 0] rfl (ih x31 M33 hr)
              · have hr := (ie_s hr).1 h30
                refine x_aload_n hC dX11_work_245 rfl 2 rfl ?_
                refine gf_X11_239 hC hi1 dX11_work_246 ?_
                refine x_iload_n hC dX11_work_249 rfl 4 rfl ?_
                refine x_bipush hC (6 : Int32) dX11_work_250 (by decide) ?_
                refine x_iadd hC dX11_work_252 ?_
                refine x_dup2 hC dX11_work_253 rfl rfl ?_
                obtain ⟨h36, hr⟩ := it_s hr
                refine x_iald hC (kr_4_11 hi1) h36 dX11_work_254 ?_
                refine x_iconst hC (1 : Int32) dX11_work_255 (by decide) ?_
                refine x_iadd hC dX11_work_256 ?_
                obtain ⟨h37, hr⟩ := it_s hr
                obtain ⟨M38, e39, hr⟩ := lz_s hr
                refine x_iast hC (kr_4_11 hi1) h37 e39 dX11_work_257 ?_
                cases hr
                exact x_vret hC rfl dX11_work_258
            · have hr := (ie_s hr).1 h29
              refine x_aload_n hC dX11_work_225 rfl 1 rfl ?_
              refine x_aload_n hC dX11_work_226 rfl 2 rfl ?_
              refine x_iload_n hC dX11_work_227 rfl 3 rfl ?_
              refine x_iload hC dX11_work_228 7 rfl ?_
              refine x_iload hC dX11_work_230 6 rfl ?_
              refine x_iconst hC (1 : Int32) dX11_work_232 (by decide) ?_
              refine x_iadd hC dX11_work_233 ?_
              obtain ⟨M40, q41, hr⟩ := bd1_s hr
              refine x_callV (ci := 5) (q := (RX11, TX11, 32)) (As := [.ref (G.2.1 i1), .int a2, .int (M (i0 + 5) (ix x10)), .int (x10 + (1 : Int32))]) hC (c_X11_act l G M27 hi0 hi1 a2 (M (i0 + 5) (ix x10)) (x10 + (1 : Int32)) q41) kc_yX11_act km_X11_287 ki_yX11_act kv_yX11_act kn_RX11 ky_yX11_act rfl ⟨rfl, rfl⟩ ⟨(Nat.le_of_ble_eq_true rfl), (Nat.le_of_ble_eq_true rfl)⟩ hi0 (by decide) rfl rfl (Nat.le_of_ble_eq_true rfl) ⟨(Nat.le_of_ble_eq_true rfl), (Nat.le_of_ble_eq_true rfl)⟩ dX11_work_234 (fun b42 => ?_)
              cases hr
              exact x_vret hC rfl dX11_work_237
          · intro kj
            refine x_icmp_eq hC 213 dX11_work_177 (by decide) (fun h17 => ?_) (fun h17 => ?_)
            · have q16 := (ie_s q16).1 h17
              refine x_iconst hC (1 : Int32) dX11_work_213 (by decide) ?_
              refine x_goto hC 218 dX11_work_214 (by decide) ?_
              cases q16
              exact x_sub [2, 3, 4, 5, 6, 1, 0] rfl (kj (Or.inr rfl))
            · have q16 := (ie_s q16).2 h17
              refine x_iload hC dX11_work_180 0 rfl ?_
              refine x_bipush hC (11 : Int32) dX11_work_182 (by decide) ?_
              refine x_icmp_eq hC 213 dX11_work_184 (by decide) (fun h18 => ?_) (fun h18 => ?_)
              · have q16 := (ie_s q16).1 h18
                refine x_iconst hC (1 : Int32) dX11_work_213 (by decide) ?_
                refine x_goto hC 218 dX11_work_214 (by decide) ?_
                cases q16
                exact x_sub [2, 3, 4, 5, 6, 1, 0] rfl (kj (Or.inr rfl))
              · have q16 := (ie_s q16).2 h18
                refine x_iload hC dX11_work_187 0 rfl ?_
                refine x_bipush hC (43 : Int32) dX11_work_189 (by decide) ?_
                refine x_icmp_eq hC 213 dX11_work_191 (by decide) (fun h19 => ?_) (fun h19 => ?_)
                · have q16 := (ie_s q16).1 h19
                  refine x_iconst hC (1 : Int32) dX11_work_213 (by decide) ?_
                  refine x_goto hC 218 dX11_work_214 (by decide) ?_
                  cases q16
                  exact x_sub [2, 3, 4, 5, 6, 1, 0] rfl (kj (Or.inr rfl))
                · have q16 := (ie_s q16).2 h19
                  refine x_iload hC dX11_work_194 0 rfl ?_
                  refine x_iconst hC (2 : Int32) dX11_work_196 (by decide) ?_
                  refine x_icmp_ne hC 217 dX11_work_197 (by decide) (fun h20 => ?_) (fun h20 => ?_)
                  · have q16 := (ie_s q16).2 h20
                    refine x_iconst hC (0 : Int32) dX11_work_217 (by decide) ?_
                    cases q16
                    exact x_sub [2, 3, 4, 5, 6, 1, 0] rfl (kj (Or.inl rfl))
                  · have q16 := (ie_s q16).1 h20
                    refine x_aload_n hC dX11_work_200 rfl 2 rfl ?_
                    refine x_aload_n hC dX11_work_201 rfl 3 rfl ?_
                    refine x_iload_n hC dX11_work_202 rfl 4 rfl ?_
                    refine x_iload hC dX11_work_203 1 rfl ?_
                    refine x_iconst hC (1 : Int32) dX11_work_205 (by decide) ?_
                    refine x_iadd hC dX11_work_206 ?_
                    obtain ⟨x21, M22, q23, q16⟩ := bd2_s q16
                    refine x_callV (ci := 5) (q := (RX11, TX11, 32)) (As := [.ref (G.2.1 i1), .int a2, .int (x10 + (1 : Int32))]) hC (c_X11_isThere l G M hi0 hi1 a2 (x10 + (1 : Int32)) q23) kc_yX11_isThere km_X11_283 ki_yX11_isThere kv_yX11_isThere kn_RX11 ky_yX11_isThere rfl ⟨rfl, rfl⟩ ⟨(Nat.le_of_ble_eq_true rfl), (Nat.le_of_ble_eq_true rfl)⟩ hi0 (by decide) rfl rfl (Nat.le_of_ble_eq_true rfl) ⟨(Nat.le_of_ble_eq_true rfl), (Nat.le_of_ble_eq_true rfl)⟩ dX11_work_207 (fun b24 => ?_)
                    refine x_if_eq hC 217 dX11_work_210 (by decide) (fun h25 => ?_) (fun h25 => ?_)
                    · have q16 := (ie_s q16).1 h25
                      refine x_iconst hC (0 : Int32) dX11_work_217 (by decide) ?_
                      cases q16
                      exact x_sub [2, 3, 4, 5, 6, 1, 0] rfl (kj (Or.inl rfl))
                    · have q16 := (ie_s q16).2 h25
                      refine x_iconst hC (1 : Int32) dX11_work_213 (by decide) ?_
                      refine x_goto hC 218 dX11_work_214 (by decide) ?_
                      cases q16
                      exact x_sub [2, 3, 4, 5, 6, 1, 0] rfl (kj (Or.inr rfl))
        · have hr := (ie_s hr).1 h15
          refine x_aload_n hC dX11_work_130 rfl 3 rfl ?_
          refine gf_X11_280 hC hi1 dX11_work_131 ?_
          refine x_bipush hC (8 : Int32) dX11_work_134 (by decide) ?_
          refine x_iload_n hC dX11_work_136 rfl 4 rfl ?_
          refine x_imul hC dX11_work_137 ?_
          refine x_aload_n hC dX11_work_138 rfl 2 rfl ?_
          refine gf_X11_26 hC hi0 dX11_work_139 ?_
          refine x_iload hC dX11_work_142 1 rfl ?_
          refine x_iconst hC (1 : Int32) dX11_work_144 (by decide) ?_
          refine x_iadd hC dX11_work_145 ?_
          obtain ⟨h43, hr⟩ := it_s hr
          refine x_iald hC (kr_5_8 hi0) h43 dX11_work_146 ?_
          refine x_iadd hC dX11_work_147 ?_
          refine x_aload_n hC dX11_work_148 rfl 2 rfl ?_
          refine gf_X11_26 hC hi0 dX11_work_149 ?_
          refine x_iload hC dX11_work_152 1 rfl ?_
          refine x_iconst hC (2 : Int32) dX11_work_154 (by decide) ?_
          refine x_iadd hC dX11_work_155 ?_
          obtain ⟨h44, hr⟩ := it_s hr
          refine x_iald hC (kr_5_8 hi0) h44 dX11_work_156 ?_
          obtain ⟨h45, hr⟩ := it_s hr
          obtain ⟨M46, e47, hr⟩ := lz_s hr
          refine x_iast hC (kr_4_12 hi1) h45 e47 dX11_work_157 ?_
          refine x_aload_n hC dX11_work_158 rfl 3 rfl ?_
          refine gf_X11_239 hC hi1 dX11_work_159 ?_
          refine x_iload_n hC dX11_work_162 rfl 5 rfl ?_
          refine x_iconst hC (4 : Int32) dX11_work_163 (by decide) ?_
          refine x_iadd hC dX11_work_164 ?_
          refine x_iload hC dX11_work_165 1 rfl ?_
          refine x_iconst hC (3 : Int32) dX11_work_167 (by decide) ?_
          refine x_iadd hC dX11_work_168 ?_
          obtain ⟨h48, hr⟩ := it_s hr
          obtain ⟨M49, e50, hr⟩ := lz_s hr
          refine x_iast hC (kr_4_11 hi1) h48 e50 dX11_work_169 ?_
          refine x_goto hC 47 dX11_work_170 (by decide) ?_
          exact x_sub [2, 3, 4, 5, 6] rfl (ih v4 M49 hr)
      · have hr := (ie_s hr).1 h14
        refine x_aload_n hC dX11_work_103 rfl 3 rfl ?_
        refine gf_X11_239 hC hi1 dX11_work_104 ?_
        refine x_iload_n hC dX11_work_107 rfl 5 rfl ?_
        refine x_iconst hC (4 : Int32) dX11_work_108 (by decide) ?_
        refine x_iadd hC dX11_work_109 ?_
        refine x_aload_n hC dX11_work_110 rfl 2 rfl ?_
        refine gf_X11_26 hC hi0 dX11_work_111 ?_
        refine x_iload hC dX11_work_114 1 rfl ?_
        refine x_iconst hC (1 : Int32) dX11_work_116 (by decide) ?_
        refine x_iadd hC dX11_work_117 ?_
        obtain ⟨h51, hr⟩ := it_s hr
        refine x_iald hC (kr_5_8 hi0) h51 dX11_work_118 ?_
        obtain ⟨h52, hr⟩ := it_s hr
        obtain ⟨M53, e54, hr⟩ := lz_s hr
        refine x_iast hC (kr_4_11 hi1) h52 e54 dX11_work_119 ?_
        refine x_goto hC 47 dX11_work_120 (by decide) ?_
        exact x_sub [2, 3, 4, 5, 6] rfl (ih v4 M53 hr)
    · have hr := (ie_s hr).1 h13
      refine x_aload_n hC dX11_work_73 rfl 3 rfl ?_
      refine gf_X11_239 hC hi1 dX11_work_74 ?_
      refine x_iload_n hC dX11_work_77 rfl 5 rfl ?_
      refine x_iconst hC (5 : Int32) dX11_work_78 (by decide) ?_
      refine x_iadd hC dX11_work_79 ?_
      refine x_iconst hC (1 : Int32) dX11_work_80 (by decide) ?_
      obtain ⟨h55, hr⟩ := it_s hr
      obtain ⟨M56, e57, hr⟩ := lz_s hr
      refine x_iast hC (kr_4_11 hi1) h55 e57 dX11_work_81 ?_
      refine x_aload_n hC dX11_work_82 rfl 3 rfl ?_
      refine gf_X11_239 hC hi1 dX11_work_83 ?_
      refine x_iload_n hC dX11_work_86 rfl 5 rfl ?_
      refine x_bipush hC (6 : Int32) dX11_work_87 (by decide) ?_
      refine x_iadd hC dX11_work_89 ?_
      refine x_dup2 hC dX11_work_90 rfl rfl ?_
      obtain ⟨h58, hr⟩ := it_s hr
      refine x_iald hC (kr_4_11 hi1) h58 dX11_work_91 ?_
      refine x_iconst hC (1 : Int32) dX11_work_92 (by decide) ?_
      refine x_iadd hC dX11_work_93 ?_
      obtain ⟨h59, hr⟩ := it_s hr
      obtain ⟨M60, e61, hr⟩ := lz_s hr
      refine x_iast hC (kr_4_11 hi1) h59 e61 dX11_work_94 ?_
      cases hr
      exact x_vret hC rfl dX11_work_95
set_option maxHeartbeats 4000000 in
set_option maxRecDepth 100000 in
theorem c_X11_work (l : Launch) (G : GG) (M : Mm) {i0 : Nat} (hi0 : (kd i0).1 = 5) {i1 : Nat} (hi1 : (kd i1).1 = 4) (a2 : Int32) {M9 : Mm} (hr : f_X11_work i0 i1 a2 M = some M9) : Mo false l yX11_work (WS yX11_work cX11_work 8 none) (RM 5 0 0 144) 0 0 [.ref (G.2.1 i0), .ref (G.2.1 i1), .int a2] G M none M9 := by
  refine Mo.of (by decide +kernel) (Nat.le_of_ble_eq_true rfl) ?_
  intro p e s m args below meth c hC
  have hC : CX p s m args meth c cX11_work 8 RX11 none G := hC
  rw [f_X11_work] at hr
  show XJ p l e (RM 5 0 0 144) s m args below meth c G 8 _ 0 0 M 0 [(0, .ref (G.2.1 i0)), (1, .ref (G.2.1 i1)), (2, .int a2)] []
  refine x_bipush hC (10 : Int32) dX11_work_0 (by decide) ?_
  refine x_iload_n hC dX11_work_2 rfl 2 rfl ?_
  refine x_imul hC dX11_work_3 ?_
  refine x_istore_n hC [(3, .int ((10 : Int32) * a2)), (0, .ref (G.2.1 i0)), (1, .ref (G.2.1 i1)), (2, .int a2)] dX11_work_4 rfl (Nat.le_of_ble_eq_true rfl) rfl ?_
  refine x_aload_n hC dX11_work_5 rfl 2 rfl ?_
  refine gf_X11_239 hC hi1 dX11_work_6 ?_
  refine x_iload_n hC dX11_work_9 rfl 0 rfl ?_
  refine x_bipush hC (8 : Int32) dX11_work_10 (by decide) ?_
  refine x_iadd hC dX11_work_12 ?_
  refine x_dup2 hC dX11_work_13 rfl rfl ?_
  obtain ⟨h1, hr⟩ := it_s hr
  refine x_iald hC (kr_4_11 hi1) h1 dX11_work_14 ?_
  refine x_iconst hC (1 : Int32) dX11_work_15 (by decide) ?_
  refine x_iadd hC dX11_work_16 ?_
  obtain ⟨x2, e3, hr⟩ := lz_s hr
  refine x_topi e3 ?_
  obtain ⟨h4, hr⟩ := it_s hr
  obtain ⟨M5, e6, hr⟩ := lz_s hr
  refine x_iast hC (kr_4_11 hi1) h4 e6 dX11_work_17 ?_
  refine x_aload_n hC dX11_work_18 rfl 2 rfl ?_
  refine gf_X11_239 hC hi1 dX11_work_19 ?_
  refine x_iload_n hC dX11_work_22 rfl 0 rfl ?_
  refine x_bipush hC (9 : Int32) dX11_work_23 (by decide) ?_
  refine x_iadd hC dX11_work_25 ?_
  obtain ⟨h7, hr⟩ := it_s hr
  refine x_iald hC (kr_4_11 hi1) h7 dX11_work_26 ?_
  refine x_if_le hC 44 dX11_work_27 (by decide) (fun h8 => ?_) (fun h8 => ?_)
  · have hr := (ie_s hr).1 h8
    refine x_iconst hC (0 : Int32) dX11_work_44 (by decide) ?_
    refine x_istore hC [(4, .int (0 : Int32)), (3, .int ((10 : Int32) * a2)), (0, .ref (G.2.1 i0)), (1, .ref (G.2.1 i1)), (2, .int a2)] dX11_work_45  (Nat.le_of_ble_eq_true rfl) rfl ?_
    exact x_sub [2, 3, 4, 1, 0] rfl (l_X11_work_L47 hC hi0 hi1 a2 ((10 : Int32) * a2) FU (0 : Int32) M5 hr)
  · have hr := (ie_s hr).2 h8
    refine x_aload_n hC dX11_work_30 rfl 2 rfl ?_
    refine gf_X11_239 hC hi1 dX11_work_31 ?_
    refine x_iload_n hC dX11_work_34 rfl 0 rfl ?_
    refine x_bipush hC (9 : Int32) dX11_work_35 (by decide) ?_
    refine x_iadd hC dX11_work_37 ?_
    refine x_dup2 hC dX11_work_38 rfl rfl ?_
    obtain ⟨h62, hr⟩ := it_s hr
    refine x_iald hC (kr_4_11 hi1) h62 dX11_work_39 ?_
    refine x_iconst hC (1 : Int32) dX11_work_40 (by decide) ?_
    refine x_isub hC dX11_work_41 ?_
    obtain ⟨x63, e64, hr⟩ := lz_s hr
    refine x_topi e64 ?_
    obtain ⟨h65, hr⟩ := it_s hr
    obtain ⟨M66, e67, hr⟩ := lz_s hr
    refine x_iast hC (kr_4_11 hi1) h65 e67 dX11_work_42 ?_
    cases hr
    exact x_vret hC rfl dX11_work_43

theorem dX11_held_0 : decode cX11_held 0 = .ok (.iconst 0, 1) := by decide +kernel
theorem dX11_held_1 : decode cX11_held 1 = .ok (.iload_n 1, 1) := by decide +kernel
theorem dX11_held_2 : decode cX11_held 2 = .ok (.iload_n 0, 1) := by decide +kernel
theorem dX11_held_3 : decode cX11_held 3 = .ok (.invokestatic 256, 3) := by decide +kernel
theorem dX11_held_6 : decode cX11_held 6 = .ok (.invokestatic 262, 3) := by decide +kernel
theorem dX11_held_9 : decode cX11_held 9 = .ok (.ireturn, 1) := by decide +kernel

def f_X11_held (a0 : Int32) (a1 : Int32) : Int32 :=
  (imax (0 : Int32) (imin a1 a0))

set_option maxHeartbeats 4000000 in
set_option maxRecDepth 100000 in
theorem c_X11_held (l : Launch) (G : GG) (M : Mm) (a0 : Int32) (a1 : Int32) {r : Int32} (hr : f_X11_held a0 a1 = r) : Mo false l yX11_held (WS yX11_held cX11_held 2 (some .int)) (RM 1 0 0 40) 0 0 [.int a0, .int a1] G M (some (.int r)) M := by
  refine Mo.of (by decide +kernel) (Nat.le_of_ble_eq_true rfl) ?_
  intro p e s m args below meth c hC
  have hC : CX p s m args meth c cX11_held 2 RX11 (some .int) G := hC
  rw [f_X11_held] at hr
  show XJ p l e (RM 1 0 0 40) s m args below meth c G 2 _ 0 0 M 0 [(0, .int a0), (1, .int a1)] []
  refine x_iconst hC (0 : Int32) dX11_held_0 (by decide) ?_
  refine x_iload_n hC dX11_held_1 rfl 1 rfl ?_
  refine x_iload_n hC dX11_held_2 rfl 0 rfl ?_
  refine x_mmin hC km_X11_256 kt_Mmin kn_Math kc_Mmin (Nat.le_of_ble_eq_true rfl) (Nat.le_of_ble_eq_true rfl) ⟨(Nat.le_of_ble_eq_true rfl), (Nat.le_of_ble_eq_true rfl)⟩ dX11_held_3 ?_
  refine x_mmax hC km_X11_262 kt_Mmax kn_Math kc_Mmax (Nat.le_of_ble_eq_true rfl) (Nat.le_of_ble_eq_true rfl) ⟨(Nat.le_of_ble_eq_true rfl), (Nat.le_of_ble_eq_true rfl)⟩ dX11_held_6 ?_
  subst hr
  exact x_iret hC rfl dX11_held_9

theorem dX11_behindNight_0 : decode cX11_behindNight 0 = .ok (.iload_n 1, 1) := by decide +kernel
theorem dX11_behindNight_1 : decode cX11_behindNight 1 = .ok (.iconst 2, 1) := by decide +kernel
theorem dX11_behindNight_2 : decode cX11_behindNight 2 = .ok (.aload_n 0, 1) := by decide +kernel
theorem dX11_behindNight_3 : decode cX11_behindNight 3 = .ok (.getfield 20, 3) := by decide +kernel
theorem dX11_behindNight_6 : decode cX11_behindNight 6 = .ok (.iload_n 3, 1) := by decide +kernel
theorem dX11_behindNight_7 : decode cX11_behindNight 7 = .ok (.bipush 12, 2) := by decide +kernel
theorem dX11_behindNight_9 : decode cX11_behindNight 9 = .ok (.irem, 1) := by decide +kernel
theorem dX11_behindNight_10 : decode cX11_behindNight 10 = .ok (.iaload, 1) := by decide +kernel
theorem dX11_behindNight_11 : decode cX11_behindNight 11 = .ok (.imul, 1) := by decide +kernel
theorem dX11_behindNight_12 : decode cX11_behindNight 12 = .ok (.iadd, 1) := by decide +kernel
theorem dX11_behindNight_13 : decode cX11_behindNight 13 = .ok (.aload_n 0, 1) := by decide +kernel
theorem dX11_behindNight_14 : decode cX11_behindNight 14 = .ok (.getfield 23, 3) := by decide +kernel
theorem dX11_behindNight_17 : decode cX11_behindNight 17 = .ok (.iload_n 3, 1) := by decide +kernel
theorem dX11_behindNight_18 : decode cX11_behindNight 18 = .ok (.bipush 12, 2) := by decide +kernel
theorem dX11_behindNight_20 : decode cX11_behindNight 20 = .ok (.irem, 1) := by decide +kernel
theorem dX11_behindNight_21 : decode cX11_behindNight 21 = .ok (.iaload, 1) := by decide +kernel
theorem dX11_behindNight_22 : decode cX11_behindNight 22 = .ok (.iconst 1, 1) := by decide +kernel
theorem dX11_behindNight_23 : decode cX11_behindNight 23 = .ok (.iload_n 2, 1) := by decide +kernel
theorem dX11_behindNight_24 : decode cX11_behindNight 24 = .ok (.iadd, 1) := by decide +kernel
theorem dX11_behindNight_25 : decode cX11_behindNight 25 = .ok (.imul, 1) := by decide +kernel
theorem dX11_behindNight_26 : decode cX11_behindNight 26 = .ok (.isub, 1) := by decide +kernel
theorem dX11_behindNight_27 : decode cX11_behindNight 27 = .ok (.bipush 20, 2) := by decide +kernel
theorem dX11_behindNight_29 : decode cX11_behindNight 29 = .ok (.invokestatic 335, 3) := by decide +kernel
theorem dX11_behindNight_32 : decode cX11_behindNight 32 = .ok (.ireturn, 1) := by decide +kernel

def f_X11_behindNight (i0 : Nat) (a1 : Int32) (a2 : Int32) (a3 : Int32) (M : Mm) : Option Int32 :=
  if 0 ≤ (a3 - a3 / (12 : Int32) * (12 : Int32)).toInt ∧ (a3 - a3 / (12 : Int32) * (12 : Int32)).toInt < ((12 : Nat) : Int) then (lz ((2 : Int32) * (M (i0 + 3) (ix (a3 - a3 / (12 : Int32) * (12 : Int32))))) fun x2 => if 0 ≤ (a3 - a3 / (12 : Int32) * (12 : Int32)).toInt ∧ (a3 - a3 / (12 : Int32) * (12 : Int32)).toInt < ((12 : Nat) : Int) then (lz ((M (i0 + 4) (ix (a3 - a3 / (12 : Int32) * (12 : Int32)))) * ((1 : Int32) + a2)) fun x5 => lz (f_X11_held ((a1 + x2) - x5) (20 : Int32)) fun x7 => some x7) else none) else none

set_option maxHeartbeats 4000000 in
set_option maxRecDepth 100000 in
theorem c_X11_behindNight (l : Launch) (G : GG) (M : Mm) {i0 : Nat} (hi0 : (kd i0).1 = 5) (a1 : Int32) (a2 : Int32) (a3 : Int32) {r : Int32} (hr : f_X11_behindNight i0 a1 a2 a3 M = some r) : Mo false l yX11_behindNight (WS yX11_behindNight cX11_behindNight 4 (some .int)) (RM 2 0 0 61) 0 0 [.ref (G.2.1 i0), .int a1, .int a2, .int a3] G M (some (.int r)) M := by
  refine Mo.of (by decide +kernel) (Nat.le_of_ble_eq_true rfl) ?_
  intro p e s m args below meth c hC
  have hC : CX p s m args meth c cX11_behindNight 4 RX11 (some .int) G := hC
  rw [f_X11_behindNight] at hr
  show XJ p l e (RM 2 0 0 61) s m args below meth c G 4 _ 0 0 M 0 [(0, .ref (G.2.1 i0)), (1, .int a1), (2, .int a2), (3, .int a3)] []
  refine x_iload_n hC dX11_behindNight_0 rfl 1 rfl ?_
  refine x_iconst hC (2 : Int32) dX11_behindNight_1 (by decide) ?_
  refine x_aload_n hC dX11_behindNight_2 rfl 0 rfl ?_
  refine gf_X11_20 hC hi0 dX11_behindNight_3 ?_
  refine x_iload_n hC dX11_behindNight_6 rfl 3 rfl ?_
  refine x_bipush hC (12 : Int32) dX11_behindNight_7 (by decide) ?_
  refine x_irem hC dX11_behindNight_9 (by decide) ?_
  obtain ⟨h1, hr⟩ := it_s hr
  refine x_iald hC (kr_5_6 hi0) h1 dX11_behindNight_10 ?_
  refine x_imul hC dX11_behindNight_11 ?_
  obtain ⟨x2, e3, hr⟩ := lz_s hr
  refine x_topi e3 ?_
  refine x_iadd hC dX11_behindNight_12 ?_
  refine x_aload_n hC dX11_behindNight_13 rfl 0 rfl ?_
  refine gf_X11_23 hC hi0 dX11_behindNight_14 ?_
  refine x_iload_n hC dX11_behindNight_17 rfl 3 rfl ?_
  refine x_bipush hC (12 : Int32) dX11_behindNight_18 (by decide) ?_
  refine x_irem hC dX11_behindNight_20 (by decide) ?_
  obtain ⟨h4, hr⟩ := it_s hr
  refine x_iald hC (kr_5_7 hi0) h4 dX11_behindNight_21 ?_
  refine x_iconst hC (1 : Int32) dX11_behindNight_22 (by decide) ?_
  refine x_iload_n hC dX11_behindNight_23 rfl 2 rfl ?_
  refine x_iadd hC dX11_behindNight_24 ?_
  refine x_imul hC dX11_behindNight_25 ?_
  obtain ⟨x5, e6, hr⟩ := lz_s hr
  refine x_topi e6 ?_
  refine x_isub hC dX11_behindNight_26 ?_
  refine x_bipush hC (20 : Int32) dX11_behindNight_27 (by decide) ?_
  obtain ⟨x7, e8, hr⟩ := lz_s hr
  refine x_callS (As := [.int ((a1 + x2) - x5), .int (20 : Int32)]) hC (c_X11_held l G M ((a1 + x2) - x5) (20 : Int32) e8.symm) kc_yX11_held km_X11_335 kt_yX11_held kn_RX11 ky_yX11_held rfl ⟨rfl, rfl⟩ ⟨(Nat.le_of_ble_eq_true rfl), (Nat.le_of_ble_eq_true rfl)⟩ rfl (Nat.le_of_ble_eq_true rfl) ⟨(Nat.le_of_ble_eq_true rfl), (Nat.le_of_ble_eq_true rfl)⟩ dX11_behindNight_29 (fun b9 => ?_)
  cases hr
  exact x_iret hC rfl dX11_behindNight_32

theorem dX11_withPeat_0 : decode cX11_withPeat 0 = .ok (.iload_n 1, 1) := by decide +kernel
theorem dX11_withPeat_1 : decode cX11_withPeat 1 = .ok (.bipush 8, 2) := by decide +kernel
theorem dX11_withPeat_3 : decode cX11_withPeat 3 = .ok (.irem, 1) := by decide +kernel
theorem dX11_withPeat_4 : decode cX11_withPeat 4 = .ok (.istore_n 2, 1) := by decide +kernel
theorem dX11_withPeat_5 : decode cX11_withPeat 5 = .ok (.iload_n 1, 1) := by decide +kernel
theorem dX11_withPeat_6 : decode cX11_withPeat 6 = .ok (.bipush 8, 2) := by decide +kernel
theorem dX11_withPeat_8 : decode cX11_withPeat 8 = .ok (.idiv, 1) := by decide +kernel
theorem dX11_withPeat_9 : decode cX11_withPeat 9 = .ok (.istore_n 3, 1) := by decide +kernel
theorem dX11_withPeat_10 : decode cX11_withPeat 10 = .ok (.iload_n 2, 1) := by decide +kernel
theorem dX11_withPeat_11 : decode cX11_withPeat 11 = .ok (.ifCond .le 18, 3) := by decide +kernel
theorem dX11_withPeat_14 : decode cX11_withPeat 14 = .ok (.aload_n 0, 1) := by decide +kernel
theorem dX11_withPeat_15 : decode cX11_withPeat 15 = .ok (.getfield 60, 3) := by decide +kernel
theorem dX11_withPeat_18 : decode cX11_withPeat 18 = .ok (.iload_n 1, 1) := by decide +kernel
theorem dX11_withPeat_19 : decode cX11_withPeat 19 = .ok (.iconst 1, 1) := by decide +kernel
theorem dX11_withPeat_20 : decode cX11_withPeat 20 = .ok (.isub, 1) := by decide +kernel
theorem dX11_withPeat_21 : decode cX11_withPeat 21 = .ok (.iaload, 1) := by decide +kernel
theorem dX11_withPeat_22 : decode cX11_withPeat 22 = .ok (.ifCond .le 7, 3) := by decide +kernel
theorem dX11_withPeat_25 : decode cX11_withPeat 25 = .ok (.iconst 1, 1) := by decide +kernel
theorem dX11_withPeat_26 : decode cX11_withPeat 26 = .ok (.goto 4, 3) := by decide +kernel
theorem dX11_withPeat_29 : decode cX11_withPeat 29 = .ok (.iconst 0, 1) := by decide +kernel
theorem dX11_withPeat_30 : decode cX11_withPeat 30 = .ok (.invokestatic 265, 3) := by decide +kernel
theorem dX11_withPeat_33 : decode cX11_withPeat 33 = .ok (.iload_n 2, 1) := by decide +kernel
theorem dX11_withPeat_34 : decode cX11_withPeat 34 = .ok (.bipush 7, 2) := by decide +kernel
theorem dX11_withPeat_36 : decode cX11_withPeat 36 = .ok (.if_icmp .ge 18, 3) := by decide +kernel
theorem dX11_withPeat_39 : decode cX11_withPeat 39 = .ok (.aload_n 0, 1) := by decide +kernel
theorem dX11_withPeat_40 : decode cX11_withPeat 40 = .ok (.getfield 60, 3) := by decide +kernel
theorem dX11_withPeat_43 : decode cX11_withPeat 43 = .ok (.iload_n 1, 1) := by decide +kernel
theorem dX11_withPeat_44 : decode cX11_withPeat 44 = .ok (.iconst 1, 1) := by decide +kernel
theorem dX11_withPeat_45 : decode cX11_withPeat 45 = .ok (.iadd, 1) := by decide +kernel
theorem dX11_withPeat_46 : decode cX11_withPeat 46 = .ok (.iaload, 1) := by decide +kernel
theorem dX11_withPeat_47 : decode cX11_withPeat 47 = .ok (.ifCond .le 7, 3) := by decide +kernel
theorem dX11_withPeat_50 : decode cX11_withPeat 50 = .ok (.iconst 1, 1) := by decide +kernel
theorem dX11_withPeat_51 : decode cX11_withPeat 51 = .ok (.goto 4, 3) := by decide +kernel
theorem dX11_withPeat_54 : decode cX11_withPeat 54 = .ok (.iconst 0, 1) := by decide +kernel
theorem dX11_withPeat_55 : decode cX11_withPeat 55 = .ok (.invokestatic 265, 3) := by decide +kernel
theorem dX11_withPeat_58 : decode cX11_withPeat 58 = .ok (.iadd, 1) := by decide +kernel
theorem dX11_withPeat_59 : decode cX11_withPeat 59 = .ok (.iload_n 3, 1) := by decide +kernel
theorem dX11_withPeat_60 : decode cX11_withPeat 60 = .ok (.ifCond .le 19, 3) := by decide +kernel
theorem dX11_withPeat_63 : decode cX11_withPeat 63 = .ok (.aload_n 0, 1) := by decide +kernel
theorem dX11_withPeat_64 : decode cX11_withPeat 64 = .ok (.getfield 60, 3) := by decide +kernel
theorem dX11_withPeat_67 : decode cX11_withPeat 67 = .ok (.iload_n 1, 1) := by decide +kernel
theorem dX11_withPeat_68 : decode cX11_withPeat 68 = .ok (.bipush 8, 2) := by decide +kernel
theorem dX11_withPeat_70 : decode cX11_withPeat 70 = .ok (.isub, 1) := by decide +kernel
theorem dX11_withPeat_71 : decode cX11_withPeat 71 = .ok (.iaload, 1) := by decide +kernel
theorem dX11_withPeat_72 : decode cX11_withPeat 72 = .ok (.ifCond .le 7, 3) := by decide +kernel
theorem dX11_withPeat_75 : decode cX11_withPeat 75 = .ok (.iconst 1, 1) := by decide +kernel
theorem dX11_withPeat_76 : decode cX11_withPeat 76 = .ok (.goto 4, 3) := by decide +kernel
theorem dX11_withPeat_79 : decode cX11_withPeat 79 = .ok (.iconst 0, 1) := by decide +kernel
theorem dX11_withPeat_80 : decode cX11_withPeat 80 = .ok (.invokestatic 265, 3) := by decide +kernel
theorem dX11_withPeat_83 : decode cX11_withPeat 83 = .ok (.iadd, 1) := by decide +kernel
theorem dX11_withPeat_84 : decode cX11_withPeat 84 = .ok (.iload_n 3, 1) := by decide +kernel
theorem dX11_withPeat_85 : decode cX11_withPeat 85 = .ok (.bipush 7, 2) := by decide +kernel
theorem dX11_withPeat_87 : decode cX11_withPeat 87 = .ok (.if_icmp .ge 19, 3) := by decide +kernel
theorem dX11_withPeat_90 : decode cX11_withPeat 90 = .ok (.aload_n 0, 1) := by decide +kernel
theorem dX11_withPeat_91 : decode cX11_withPeat 91 = .ok (.getfield 60, 3) := by decide +kernel
theorem dX11_withPeat_94 : decode cX11_withPeat 94 = .ok (.iload_n 1, 1) := by decide +kernel
theorem dX11_withPeat_95 : decode cX11_withPeat 95 = .ok (.bipush 8, 2) := by decide +kernel
theorem dX11_withPeat_97 : decode cX11_withPeat 97 = .ok (.iadd, 1) := by decide +kernel
theorem dX11_withPeat_98 : decode cX11_withPeat 98 = .ok (.iaload, 1) := by decide +kernel
theorem dX11_withPeat_99 : decode cX11_withPeat 99 = .ok (.ifCond .le 7, 3) := by decide +kernel
theorem dX11_withPeat_102 : decode cX11_withPeat 102 = .ok (.iconst 1, 1) := by decide +kernel
theorem dX11_withPeat_103 : decode cX11_withPeat 103 = .ok (.goto 4, 3) := by decide +kernel
theorem dX11_withPeat_106 : decode cX11_withPeat 106 = .ok (.iconst 0, 1) := by decide +kernel
theorem dX11_withPeat_107 : decode cX11_withPeat 107 = .ok (.invokestatic 265, 3) := by decide +kernel
theorem dX11_withPeat_110 : decode cX11_withPeat 110 = .ok (.iadd, 1) := by decide +kernel
theorem dX11_withPeat_111 : decode cX11_withPeat 111 = .ok (.ireturn, 1) := by decide +kernel

def f_X11_withPeat (i0 : Nat) (a1 : Int32) (M : Mm) : Option Int32 :=
  lz (a1 - a1 / (8 : Int32) * (8 : Int32)) fun x1 => bd1 (if (x1 ≤ 0) then (some ((0 : Int32))) else (if 0 ≤ (a1 - (1 : Int32)).toInt ∧ (a1 - (1 : Int32)).toInt < ((64 : Nat) : Int) then (if ((M (i0 + 13) (ix (a1 - (1 : Int32)))) ≤ 0) then (some ((0 : Int32))) else (some ((1 : Int32)))) else none)) fun x7 => lz (f_X11_flag x7) fun x9 => bd1 (if ((7 : Int32) ≤ x1) then (some ((0 : Int32))) else (if 0 ≤ (a1 + (1 : Int32)).toInt ∧ (a1 + (1 : Int32)).toInt < ((64 : Nat) : Int) then (if ((M (i0 + 13) (ix (a1 + (1 : Int32)))) ≤ 0) then (some ((0 : Int32))) else (some ((1 : Int32)))) else none)) fun x16 => lz (f_X11_flag x16) fun x18 => bd1 (if ((a1 / (8 : Int32)) ≤ 0) then (some ((0 : Int32))) else (if 0 ≤ (a1 - (8 : Int32)).toInt ∧ (a1 - (8 : Int32)).toInt < ((64 : Nat) : Int) then (if ((M (i0 + 13) (ix (a1 - (8 : Int32)))) ≤ 0) then (some ((0 : Int32))) else (some ((1 : Int32)))) else none)) fun x25 => lz (f_X11_flag x25) fun x27 => bd1 (if ((7 : Int32) ≤ (a1 / (8 : Int32))) then (some ((0 : Int32))) else (if 0 ≤ (a1 + (8 : Int32)).toInt ∧ (a1 + (8 : Int32)).toInt < ((64 : Nat) : Int) then (if ((M (i0 + 13) (ix (a1 + (8 : Int32)))) ≤ 0) then (some ((0 : Int32))) else (some ((1 : Int32)))) else none)) fun x34 => lz (f_X11_flag x34) fun x36 => some (((x9 + x18) + x27) + x36)

set_option maxHeartbeats 4000000 in
set_option maxRecDepth 100000 in
theorem c_X11_withPeat (l : Launch) (G : GG) (M : Mm) {i0 : Nat} (hi0 : (kd i0).1 = 5) (a1 : Int32) {r : Int32} (hr : f_X11_withPeat i0 a1 M = some r) : Mo false l yX11_withPeat (WS yX11_withPeat cX11_withPeat 4 (some .int)) (RM 1 0 0 20) 0 0 [.ref (G.2.1 i0), .int a1] G M (some (.int r)) M := by
  refine Mo.of (by decide +kernel) (Nat.le_of_ble_eq_true rfl) ?_
  intro p e s m args below meth c hC
  have hC : CX p s m args meth c cX11_withPeat 4 RX11 (some .int) G := hC
  rw [f_X11_withPeat] at hr
  show XJ p l e (RM 1 0 0 20) s m args below meth c G 4 _ 0 0 M 0 [(0, .ref (G.2.1 i0)), (1, .int a1)] []
  refine x_iload_n hC dX11_withPeat_0 rfl 1 rfl ?_
  refine x_bipush hC (8 : Int32) dX11_withPeat_1 (by decide) ?_
  refine x_irem hC dX11_withPeat_3 (by decide) ?_
  obtain ⟨x1, e2, hr⟩ := lz_s hr
  refine x_topi e2 ?_
  refine x_istore_n hC [(2, .int x1), (0, .ref (G.2.1 i0)), (1, .int a1)] dX11_withPeat_4 rfl (Nat.le_of_ble_eq_true rfl) rfl ?_
  refine x_iload_n hC dX11_withPeat_5 rfl 2 rfl ?_
  refine x_bipush hC (8 : Int32) dX11_withPeat_6 (by decide) ?_
  refine x_idiv hC dX11_withPeat_8 (by decide) ?_
  refine x_istore_n hC [(3, .int (a1 / (8 : Int32))), (2, .int x1), (0, .ref (G.2.1 i0)), (1, .int a1)] dX11_withPeat_9 rfl (Nat.le_of_ble_eq_true rfl) rfl ?_
  refine x_iload_n hC dX11_withPeat_10 rfl 1 rfl ?_
  obtain ⟨x7, q3, hr⟩ := bd1_s hr
  refine x_joinB (P := (x7 = 0 ∨ x7 = 1)) (M' := M) (pc' := 30) (lv' := [(0, .ref (G.2.1 i0)), (1, .int a1), (2, .int x1), (3, .int (a1 / (8 : Int32)))]) (st' := [.int x7]) ?_ ?_
  · intro b8
    obtain ⟨x9, e10, hr⟩ := lz_s hr
    refine x_callS (As := [.int x7]) hC (c_X11_flag l G M x7 e10.symm) kc_yX11_flag km_X11_265 kt_yX11_flag kn_RX11 ky_yX11_flag rfl ⟨rfl, rfl⟩ ⟨(Nat.le_of_ble_eq_true rfl), (Nat.le_of_ble_eq_true rfl)⟩ rfl (Nat.le_of_ble_eq_true rfl) ⟨(Nat.le_of_ble_eq_true rfl), (Nat.le_of_ble_eq_true rfl)⟩ dX11_withPeat_30 (fun b11 => ?_)
    refine x_iload_n hC dX11_withPeat_33 rfl 2 rfl ?_
    refine x_bipush hC (7 : Int32) dX11_withPeat_34 (by decide) ?_
    obtain ⟨x16, q12, hr⟩ := bd1_s hr
    refine x_joinB (P := (x16 = 0 ∨ x16 = 1)) (M' := M) (pc' := 55) (lv' := [(0, .ref (G.2.1 i0)), (1, .int a1), (3, .int (a1 / (8 : Int32)))]) (st' := [.int x16, .int x9]) ?_ ?_
    · intro b17
      obtain ⟨x18, e19, hr⟩ := lz_s hr
      refine x_callS (As := [.int x16]) hC (c_X11_flag l G M x16 e19.symm) kc_yX11_flag km_X11_265 kt_yX11_flag kn_RX11 ky_yX11_flag rfl ⟨rfl, rfl⟩ ⟨(Nat.le_of_ble_eq_true rfl), (Nat.le_of_ble_eq_true rfl)⟩ rfl (Nat.le_of_ble_eq_true rfl) ⟨(Nat.le_of_ble_eq_true rfl), (Nat.le_of_ble_eq_true rfl)⟩ dX11_withPeat_55 (fun b20 => ?_)
      refine x_iadd hC dX11_withPeat_58 ?_
      refine x_iload_n hC dX11_withPeat_59 rfl 2 rfl ?_
      obtain ⟨x25, q21, hr⟩ := bd1_s hr
      refine x_joinB (P := (x25 = 0 ∨ x25 = 1)) (M' := M) (pc' := 80) (lv' := [(0, .ref (G.2.1 i0)), (1, .int a1), (3, .int (a1 / (8 : Int32)))]) (st' := [.int x25, .int (x9 + x18)]) ?_ ?_
      · intro b26
        obtain ⟨x27, e28, hr⟩ := lz_s hr
        refine x_callS (As := [.int x25]) hC (c_X11_flag l G M x25 e28.symm) kc_yX11_flag km_X11_265 kt_yX11_flag kn_RX11 ky_yX11_flag rfl ⟨rfl, rfl⟩ ⟨(Nat.le_of_ble_eq_true rfl), (Nat.le_of_ble_eq_true rfl)⟩ rfl (Nat.le_of_ble_eq_true rfl) ⟨(Nat.le_of_ble_eq_true rfl), (Nat.le_of_ble_eq_true rfl)⟩ dX11_withPeat_80 (fun b29 => ?_)
        refine x_iadd hC dX11_withPeat_83 ?_
        refine x_iload_n hC dX11_withPeat_84 rfl 2 rfl ?_
        refine x_bipush hC (7 : Int32) dX11_withPeat_85 (by decide) ?_
        obtain ⟨x34, q30, hr⟩ := bd1_s hr
        refine x_joinB (P := (x34 = 0 ∨ x34 = 1)) (M' := M) (pc' := 107) (lv' := []) (st' := [.int x34, .int ((x9 + x18) + x27)]) ?_ ?_
        · intro b35
          obtain ⟨x36, e37, hr⟩ := lz_s hr
          refine x_callS (As := [.int x34]) hC (c_X11_flag l G M x34 e37.symm) kc_yX11_flag km_X11_265 kt_yX11_flag kn_RX11 ky_yX11_flag rfl ⟨rfl, rfl⟩ ⟨(Nat.le_of_ble_eq_true rfl), (Nat.le_of_ble_eq_true rfl)⟩ rfl (Nat.le_of_ble_eq_true rfl) ⟨(Nat.le_of_ble_eq_true rfl), (Nat.le_of_ble_eq_true rfl)⟩ dX11_withPeat_107 (fun b38 => ?_)
          refine x_iadd hC dX11_withPeat_110 ?_
          cases hr
          exact x_iret hC rfl dX11_withPeat_111
        · intro kj
          refine x_icmp_ge hC 106 dX11_withPeat_87 (by decide) (fun h31 => ?_) (fun h31 => ?_)
          · have q30 := (ie_s q30).1 h31
            refine x_iconst hC (0 : Int32) dX11_withPeat_106 (by decide) ?_
            cases q30
            exact x_sub [] rfl (kj (Or.inl rfl))
          · have q30 := (ie_s q30).2 h31
            refine x_aload_n hC dX11_withPeat_90 rfl 0 rfl ?_
            refine gf_X11_60 hC hi0 dX11_withPeat_91 ?_
            refine x_iload_n hC dX11_withPeat_94 rfl 1 rfl ?_
            refine x_bipush hC (8 : Int32) dX11_withPeat_95 (by decide) ?_
            refine x_iadd hC dX11_withPeat_97 ?_
            obtain ⟨h32, q30⟩ := it_s q30
            refine x_iald hC (kr_5_31 hi0) h32 dX11_withPeat_98 ?_
            refine x_if_le hC 106 dX11_withPeat_99 (by decide) (fun h33 => ?_) (fun h33 => ?_)
            · have q30 := (ie_s q30).1 h33
              refine x_iconst hC (0 : Int32) dX11_withPeat_106 (by decide) ?_
              cases q30
              exact x_sub [] rfl (kj (Or.inl rfl))
            · have q30 := (ie_s q30).2 h33
              refine x_iconst hC (1 : Int32) dX11_withPeat_102 (by decide) ?_
              refine x_goto hC 107 dX11_withPeat_103 (by decide) ?_
              cases q30
              exact x_sub [] rfl (kj (Or.inr rfl))
      · intro kj
        refine x_if_le hC 79 dX11_withPeat_60 (by decide) (fun h22 => ?_) (fun h22 => ?_)
        · have q21 := (ie_s q21).1 h22
          refine x_iconst hC (0 : Int32) dX11_withPeat_79 (by decide) ?_
          cases q21
          exact x_sub [0, 1, 2] rfl (kj (Or.inl rfl))
        · have q21 := (ie_s q21).2 h22
          refine x_aload_n hC dX11_withPeat_63 rfl 0 rfl ?_
          refine gf_X11_60 hC hi0 dX11_withPeat_64 ?_
          refine x_iload_n hC dX11_withPeat_67 rfl 1 rfl ?_
          refine x_bipush hC (8 : Int32) dX11_withPeat_68 (by decide) ?_
          refine x_isub hC dX11_withPeat_70 ?_
          obtain ⟨h23, q21⟩ := it_s q21
          refine x_iald hC (kr_5_31 hi0) h23 dX11_withPeat_71 ?_
          refine x_if_le hC 79 dX11_withPeat_72 (by decide) (fun h24 => ?_) (fun h24 => ?_)
          · have q21 := (ie_s q21).1 h24
            refine x_iconst hC (0 : Int32) dX11_withPeat_79 (by decide) ?_
            cases q21
            exact x_sub [0, 1, 2] rfl (kj (Or.inl rfl))
          · have q21 := (ie_s q21).2 h24
            refine x_iconst hC (1 : Int32) dX11_withPeat_75 (by decide) ?_
            refine x_goto hC 80 dX11_withPeat_76 (by decide) ?_
            cases q21
            exact x_sub [0, 1, 2] rfl (kj (Or.inr rfl))
    · intro kj
      refine x_icmp_ge hC 54 dX11_withPeat_36 (by decide) (fun h13 => ?_) (fun h13 => ?_)
      · have q12 := (ie_s q12).1 h13
        refine x_iconst hC (0 : Int32) dX11_withPeat_54 (by decide) ?_
        cases q12
        exact x_sub [0, 1, 3] rfl (kj (Or.inl rfl))
      · have q12 := (ie_s q12).2 h13
        refine x_aload_n hC dX11_withPeat_39 rfl 0 rfl ?_
        refine gf_X11_60 hC hi0 dX11_withPeat_40 ?_
        refine x_iload_n hC dX11_withPeat_43 rfl 1 rfl ?_
        refine x_iconst hC (1 : Int32) dX11_withPeat_44 (by decide) ?_
        refine x_iadd hC dX11_withPeat_45 ?_
        obtain ⟨h14, q12⟩ := it_s q12
        refine x_iald hC (kr_5_31 hi0) h14 dX11_withPeat_46 ?_
        refine x_if_le hC 54 dX11_withPeat_47 (by decide) (fun h15 => ?_) (fun h15 => ?_)
        · have q12 := (ie_s q12).1 h15
          refine x_iconst hC (0 : Int32) dX11_withPeat_54 (by decide) ?_
          cases q12
          exact x_sub [0, 1, 3] rfl (kj (Or.inl rfl))
        · have q12 := (ie_s q12).2 h15
          refine x_iconst hC (1 : Int32) dX11_withPeat_50 (by decide) ?_
          refine x_goto hC 55 dX11_withPeat_51 (by decide) ?_
          cases q12
          exact x_sub [0, 1, 3] rfl (kj (Or.inr rfl))
  · intro kj
    refine x_if_le hC 29 dX11_withPeat_11 (by decide) (fun h4 => ?_) (fun h4 => ?_)
    · have q3 := (ie_s q3).1 h4
      refine x_iconst hC (0 : Int32) dX11_withPeat_29 (by decide) ?_
      cases q3
      exact x_sub [2, 3, 1, 0] rfl (kj (Or.inl rfl))
    · have q3 := (ie_s q3).2 h4
      refine x_aload_n hC dX11_withPeat_14 rfl 2 rfl ?_
      refine gf_X11_60 hC hi0 dX11_withPeat_15 ?_
      refine x_iload_n hC dX11_withPeat_18 rfl 3 rfl ?_
      refine x_iconst hC (1 : Int32) dX11_withPeat_19 (by decide) ?_
      refine x_isub hC dX11_withPeat_20 ?_
      obtain ⟨h5, q3⟩ := it_s q3
      refine x_iald hC (kr_5_31 hi0) h5 dX11_withPeat_21 ?_
      refine x_if_le hC 29 dX11_withPeat_22 (by decide) (fun h6 => ?_) (fun h6 => ?_)
      · have q3 := (ie_s q3).1 h6
        refine x_iconst hC (0 : Int32) dX11_withPeat_29 (by decide) ?_
        cases q3
        exact x_sub [2, 3, 1, 0] rfl (kj (Or.inl rfl))
      · have q3 := (ie_s q3).2 h6
        refine x_iconst hC (1 : Int32) dX11_withPeat_25 (by decide) ?_
        refine x_goto hC 30 dX11_withPeat_26 (by decide) ?_
        cases q3
        exact x_sub [2, 3, 1, 0] rfl (kj (Or.inr rfl))

theorem dX11_rise_0 : decode cX11_rise 0 = .ok (.aload_n 1, 1) := by decide +kernel
theorem dX11_rise_1 : decode cX11_rise 1 = .ok (.getfield 63, 3) := by decide +kernel
theorem dX11_rise_4 : decode cX11_rise 4 = .ok (.iconst 0, 1) := by decide +kernel
theorem dX11_rise_5 : decode cX11_rise 5 = .ok (.aload_n 0, 1) := by decide +kernel
theorem dX11_rise_6 : decode cX11_rise 6 = .ok (.getfield 60, 3) := by decide +kernel
theorem dX11_rise_9 : decode cX11_rise 9 = .ok (.iconst 0, 1) := by decide +kernel
theorem dX11_rise_10 : decode cX11_rise 10 = .ok (.bipush 64, 2) := by decide +kernel
theorem dX11_rise_12 : decode cX11_rise 12 = .ok (.invokestatic 230, 3) := by decide +kernel
theorem dX11_rise_15 : decode cX11_rise 15 = .ok (.iconst 1, 1) := by decide +kernel
theorem dX11_rise_16 : decode cX11_rise 16 = .ok (.istore_n 2, 1) := by decide +kernel
theorem dX11_rise_17 : decode cX11_rise 17 = .ok (.iload_n 2, 1) := by decide +kernel
theorem dX11_rise_18 : decode cX11_rise 18 = .ok (.bipush 64, 2) := by decide +kernel
theorem dX11_rise_20 : decode cX11_rise 20 = .ok (.if_icmp .ge 58, 3) := by decide +kernel
theorem dX11_rise_23 : decode cX11_rise 23 = .ok (.aload_n 1, 1) := by decide +kernel
theorem dX11_rise_24 : decode cX11_rise 24 = .ok (.getfield 66, 3) := by decide +kernel
theorem dX11_rise_27 : decode cX11_rise 27 = .ok (.iload_n 2, 1) := by decide +kernel
theorem dX11_rise_28 : decode cX11_rise 28 = .ok (.iaload, 1) := by decide +kernel
theorem dX11_rise_29 : decode cX11_rise 29 = .ok (.iconst 4, 1) := by decide +kernel
theorem dX11_rise_30 : decode cX11_rise 30 = .ok (.if_icmp .lt 42, 3) := by decide +kernel
theorem dX11_rise_33 : decode cX11_rise 33 = .ok (.aload_n 0, 1) := by decide +kernel
theorem dX11_rise_34 : decode cX11_rise 34 = .ok (.getfield 60, 3) := by decide +kernel
theorem dX11_rise_37 : decode cX11_rise 37 = .ok (.iload_n 2, 1) := by decide +kernel
theorem dX11_rise_38 : decode cX11_rise 38 = .ok (.iaload, 1) := by decide +kernel
theorem dX11_rise_39 : decode cX11_rise 39 = .ok (.bipush 60, 2) := by decide +kernel
theorem dX11_rise_41 : decode cX11_rise 41 = .ok (.if_icmp .ge 31, 3) := by decide +kernel
theorem dX11_rise_44 : decode cX11_rise 44 = .ok (.aload_n 0, 1) := by decide +kernel
theorem dX11_rise_45 : decode cX11_rise 45 = .ok (.getfield 60, 3) := by decide +kernel
theorem dX11_rise_48 : decode cX11_rise 48 = .ok (.iload_n 2, 1) := by decide +kernel
theorem dX11_rise_49 : decode cX11_rise 49 = .ok (.iaload, 1) := by decide +kernel
theorem dX11_rise_50 : decode cX11_rise 50 = .ok (.ifCond .gt 12, 3) := by decide +kernel
theorem dX11_rise_53 : decode cX11_rise 53 = .ok (.aload_n 0, 1) := by decide +kernel
theorem dX11_rise_54 : decode cX11_rise 54 = .ok (.iload_n 2, 1) := by decide +kernel
theorem dX11_rise_55 : decode cX11_rise 55 = .ok (.invokevirtual 348, 3) := by decide +kernel
theorem dX11_rise_58 : decode cX11_rise 58 = .ok (.iconst 2, 1) := by decide +kernel
theorem dX11_rise_59 : decode cX11_rise 59 = .ok (.if_icmp .lt 13, 3) := by decide +kernel
theorem dX11_rise_62 : decode cX11_rise 62 = .ok (.aload_n 1, 1) := by decide +kernel
theorem dX11_rise_63 : decode cX11_rise 63 = .ok (.getfield 63, 3) := by decide +kernel
theorem dX11_rise_66 : decode cX11_rise 66 = .ok (.iload_n 2, 1) := by decide +kernel
theorem dX11_rise_67 : decode cX11_rise 67 = .ok (.dup2, 1) := by decide +kernel
theorem dX11_rise_68 : decode cX11_rise 68 = .ok (.iaload, 1) := by decide +kernel
theorem dX11_rise_69 : decode cX11_rise 69 = .ok (.iconst 1, 1) := by decide +kernel
theorem dX11_rise_70 : decode cX11_rise 70 = .ok (.iadd, 1) := by decide +kernel
theorem dX11_rise_71 : decode cX11_rise 71 = .ok (.iastore, 1) := by decide +kernel
theorem dX11_rise_72 : decode cX11_rise 72 = .ok (.iinc 2 1, 3) := by decide +kernel
theorem dX11_rise_75 : decode cX11_rise 75 = .ok (.goto (-58), 3) := by decide +kernel
theorem dX11_rise_78 : decode cX11_rise 78 = .ok (.return_, 1) := by decide +kernel
def f_X11_rise_L17 (i0 : Nat) (i1 : Nat) : Nat → Int32 → Mm → Option (Mm)
  | 0, _, _ => none
  | n + 1, v2, M =>
    if ((64 : Int32) ≤ v2) then (some (M)) else (if 0 ≤ v2.toInt ∧ v2.toInt < ((64 : Nat) : Int) then (bd1 (if ((M (i1 + 2) (ix v2)) < (4 : Int32)) then (some (M)) else (if 0 ≤ v2.toInt ∧ v2.toInt < ((64 : Nat) : Int) then (if ((60 : Int32) ≤ (M (i0 + 13) (ix v2))) then (some (M)) else (if 0 ≤ v2.toInt ∧ v2.toInt < ((64 : Nat) : Int) then (if (0 < (M (i0 + 13) (ix v2))) then (if 0 ≤ v2.toInt ∧ v2.toInt < ((64 : Nat) : Int) then (if 0 ≤ v2.toInt ∧ v2.toInt < ((64 : Nat) : Int) then (lz (wr M (i1 + 1) (ix v2) ((M (i1 + 1) (ix v2)) + (1 : Int32))) fun M14 => some (M14)) else none) else none) else (bd1 (f_X11_withPeat i0 v2 M) fun x16 => if (x16 < (2 : Int32)) then (some (M)) else (if 0 ≤ v2.toInt ∧ v2.toInt < ((64 : Nat) : Int) then (if 0 ≤ v2.toInt ∧ v2.toInt < ((64 : Nat) : Int) then (lz (wr M (i1 + 1) (ix v2) ((M (i1 + 1) (ix v2)) + (1 : Int32))) fun M22 => some (M22)) else none) else none))) else none)) else none)) fun M24 => lz (v2 + (1 : Int32)) fun x25 => f_X11_rise_L17 i0 i1 n x25 M24) else none)
def f_X11_rise (i0 : Nat) (i1 : Nat) (M : Mm) : Option Mm :=
  if 0 ≤ (64 : Int32).toInt ∧ (64 : Int32).toInt ≤ ((64 : Nat) : Int) ∧ (64 : Int32).toInt ≤ ((64 : Nat) : Int) then (lz (wrow M (i0 + 13) (va_cpy (M (i1 + 1)) (M (i0 + 13)) 0 0 (ix (64 : Int32)))) fun M2 => bd1 (f_X11_rise_L17 i0 i1 FU (1 : Int32) M2) fun M28 => some M28) else none
set_option maxHeartbeats 4000000 in
set_option maxRecDepth 100000 in
theorem l_X11_rise_L17 {p : Program} {e : Env} {s : State} {m : MethodId} {args : Array Value} {below : List Frame} {meth : Method} {c : Code} {l : Launch} {G : GG} {Q : State → Prop} (hC : CX p s m args meth c cX11_rise 3 RX11 none G) {i0 : Nat} {i1 : Nat} (hi0 : (kd i0).1 = 5) (hi1 : (kd i1).1 = 4) : ∀ (n : Nat) (v2 : Int32) (M : Mm) {M2 : Mm} (hr : f_X11_rise_L17 i0 i1 n v2 M = some (M2)) (K : XJ p l e (RM 2 0 0 60) s m args below meth c G 3 Q 0 0 M2 78 [] []), XJ p l e (RM 2 0 0 60) s m args below meth c G 3 Q 0 0 M 17 [(0, .ref (G.2.1 i0)), (1, .ref (G.2.1 i1)), (2, .int v2)] [] := by
  intro n
  induction n with
  | zero => intro v2 M M2 hr K; rw [f_X11_rise_L17] at hr; cases hr
  | succ n ih =>
    intro v2 M M2 hr K
    rw [f_X11_rise_L17] at hr
    refine x_iload_n hC dX11_rise_17 rfl 2 rfl ?_
    refine x_bipush hC (64 : Int32) dX11_rise_18 (by decide) ?_
    refine x_icmp_ge hC 78 dX11_rise_20 (by decide) (fun h4 => ?_) (fun h4 => ?_)
    · have hr := (ie_s hr).1 h4
      cases hr
      exact x_sub [] rfl K
    · have hr := (ie_s hr).2 h4
      refine x_aload_n hC dX11_rise_23 rfl 1 rfl ?_
      refine gf_X11_66 hC hi1 dX11_rise_24 ?_
      refine x_iload_n hC dX11_rise_27 rfl 2 rfl ?_
      obtain ⟨h5, hr⟩ := it_s hr
      refine x_iald hC (kr_4_7 hi1) h5 dX11_rise_28 ?_
      refine x_iconst hC (4 : Int32) dX11_rise_29 (by decide) ?_
      obtain ⟨M24, q6, hr⟩ := bd1_s hr
      refine x_join (M' := M24) (pc' := 72) (lv' := [(0, .ref (G.2.1 i0)), (1, .ref (G.2.1 i1)), (2, .int v2)]) (st' := []) ?_ ?_
      · obtain ⟨x25, e26, hr⟩ := lz_s hr
        refine x_iinc hC [(2, .int x25), (0, .ref (G.2.1 i0)), (1, .ref (G.2.1 i1))] dX11_rise_72 2 rfl (by rw [e26]; rfl) (Nat.le_of_ble_eq_true rfl) rfl ?_
        refine x_goto hC 17 dX11_rise_75 (by decide) ?_
        exact x_sub [1, 2, 0] rfl (ih x25 M24 hr K)
      · intro kj
        refine x_icmp_lt hC 72 dX11_rise_30 (by decide) (fun h7 => ?_) (fun h7 => ?_)
        · have q6 := (ie_s q6).1 h7
          cases q6
          exact x_sub [0, 1, 2] rfl kj
        · have q6 := (ie_s q6).2 h7
          refine x_aload_n hC dX11_rise_33 rfl 0 rfl ?_
          refine gf_X11_60 hC hi0 dX11_rise_34 ?_
          refine x_iload_n hC dX11_rise_37 rfl 2 rfl ?_
          obtain ⟨h8, q6⟩ := it_s q6
          refine x_iald hC (kr_5_31 hi0) h8 dX11_rise_38 ?_
          refine x_bipush hC (60 : Int32) dX11_rise_39 (by decide) ?_
          refine x_icmp_ge hC 72 dX11_rise_41 (by decide) (fun h9 => ?_) (fun h9 => ?_)
          · have q6 := (ie_s q6).1 h9
            cases q6
            exact x_sub [0, 1, 2] rfl kj
          · have q6 := (ie_s q6).2 h9
            refine x_aload_n hC dX11_rise_44 rfl 0 rfl ?_
            refine gf_X11_60 hC hi0 dX11_rise_45 ?_
            refine x_iload_n hC dX11_rise_48 rfl 2 rfl ?_
            obtain ⟨h10, q6⟩ := it_s q6
            refine x_iald hC (kr_5_31 hi0) h10 dX11_rise_49 ?_
            refine x_if_gt hC 62 dX11_rise_50 (by decide) (fun h11 => ?_) (fun h11 => ?_)
            · have q6 := (ie_s q6).1 h11
              refine x_aload_n hC dX11_rise_62 rfl 1 rfl ?_
              refine gf_X11_63 hC hi1 dX11_rise_63 ?_
              refine x_iload_n hC dX11_rise_66 rfl 2 rfl ?_
              refine x_dup2 hC dX11_rise_67 rfl rfl ?_
              obtain ⟨h12, q6⟩ := it_s q6
              refine x_iald hC (kr_4_6 hi1) h12 dX11_rise_68 ?_
              refine x_iconst hC (1 : Int32) dX11_rise_69 (by decide) ?_
              refine x_iadd hC dX11_rise_70 ?_
              obtain ⟨h13, q6⟩ := it_s q6
              obtain ⟨M14, e15, q6⟩ := lz_s q6
              refine x_iast hC (kr_4_6 hi1) h13 e15 dX11_rise_71 ?_
              cases q6
              exact x_sub [0, 1, 2] rfl kj
            · have q6 := (ie_s q6).2 h11
              refine x_aload_n hC dX11_rise_53 rfl 0 rfl ?_
              refine x_iload_n hC dX11_rise_54 rfl 2 rfl ?_
              obtain ⟨x16, q17, q6⟩ := bd1_s q6
              refine x_callV (ci := 5) (q := (RX11, TX11, 32)) (As := [.int v2]) hC (c_X11_withPeat l G M hi0 v2 q17) kc_yX11_withPeat km_X11_348 ki_yX11_withPeat kv_yX11_withPeat kn_RX11 ky_yX11_withPeat rfl ⟨rfl, rfl⟩ ⟨(Nat.le_of_ble_eq_true rfl), (Nat.le_of_ble_eq_true rfl)⟩ hi0 (by decide) rfl rfl (Nat.le_of_ble_eq_true rfl) ⟨(Nat.le_of_ble_eq_true rfl), (Nat.le_of_ble_eq_true rfl)⟩ dX11_rise_55 (fun b18 => ?_)
              refine x_iconst hC (2 : Int32) dX11_rise_58 (by decide) ?_
              refine x_icmp_lt hC 72 dX11_rise_59 (by decide) (fun h19 => ?_) (fun h19 => ?_)
              · have q6 := (ie_s q6).1 h19
                cases q6
                exact x_sub [0, 1, 2] rfl kj
              · have q6 := (ie_s q6).2 h19
                refine x_aload_n hC dX11_rise_62 rfl 1 rfl ?_
                refine gf_X11_63 hC hi1 dX11_rise_63 ?_
                refine x_iload_n hC dX11_rise_66 rfl 2 rfl ?_
                refine x_dup2 hC dX11_rise_67 rfl rfl ?_
                obtain ⟨h20, q6⟩ := it_s q6
                refine x_iald hC (kr_4_6 hi1) h20 dX11_rise_68 ?_
                refine x_iconst hC (1 : Int32) dX11_rise_69 (by decide) ?_
                refine x_iadd hC dX11_rise_70 ?_
                obtain ⟨h21, q6⟩ := it_s q6
                obtain ⟨M22, e23, q6⟩ := lz_s q6
                refine x_iast hC (kr_4_6 hi1) h21 e23 dX11_rise_71 ?_
                cases q6
                exact x_sub [0, 1, 2] rfl kj
set_option maxHeartbeats 4000000 in
set_option maxRecDepth 100000 in
theorem c_X11_rise (l : Launch) (G : GG) (M : Mm) {i0 : Nat} (hi0 : (kd i0).1 = 5) {i1 : Nat} (hi1 : (kd i1).1 = 4) {M9 : Mm} (hr : f_X11_rise i0 i1 M = some M9) : Mo false l yX11_rise (WS yX11_rise cX11_rise 3 none) (RM 2 0 0 60) 0 0 [.ref (G.2.1 i0), .ref (G.2.1 i1)] G M none M9 := by
  refine Mo.of (by decide +kernel) (Nat.le_of_ble_eq_true rfl) ?_
  intro p e s m args below meth c hC
  have hC : CX p s m args meth c cX11_rise 3 RX11 none G := hC
  rw [f_X11_rise] at hr
  show XJ p l e (RM 2 0 0 60) s m args below meth c G 3 _ 0 0 M 0 [(0, .ref (G.2.1 i0)), (1, .ref (G.2.1 i1))] []
  refine x_aload_n hC dX11_rise_0 rfl 1 rfl ?_
  refine gf_X11_63 hC hi1 dX11_rise_1 ?_
  refine x_iconst hC (0 : Int32) dX11_rise_4 (by decide) ?_
  refine x_aload_n hC dX11_rise_5 rfl 0 rfl ?_
  refine gf_X11_60 hC hi0 dX11_rise_6 ?_
  refine x_iconst hC (0 : Int32) dX11_rise_9 (by decide) ?_
  refine x_bipush hC (64 : Int32) dX11_rise_10 (by decide) ?_
  obtain ⟨h1, hr⟩ := it_s hr
  obtain ⟨M2, e3, hr⟩ := lz_s hr
  refine x_copy hC km_X11_230 ka_copy kt_copy kn_System (kr_4_6 hi1) (kr_5_31 hi0) h1 e3 (Nat.le_of_ble_eq_true rfl) (Nat.le_of_ble_eq_true rfl) dX11_rise_12 ?_
  refine x_iconst hC (1 : Int32) dX11_rise_15 (by decide) ?_
  refine x_istore_n hC [(2, .int (1 : Int32)), (0, .ref (G.2.1 i0)), (1, .ref (G.2.1 i1))] dX11_rise_16 rfl (Nat.le_of_ble_eq_true rfl) rfl ?_
  obtain ⟨M28, q27, hr⟩ := bd1_s hr
  refine x_sub [1, 2, 0] rfl (l_X11_rise_L17 hC hi0 hi1 FU  (1 : Int32) M2 q27 ?_)
  cases hr
  exact x_vret hC rfl dX11_rise_78

theorem dX11_night_0 : decode cX11_night 0 = .ok (.aload_n 0, 1) := by decide +kernel
theorem dX11_night_1 : decode cX11_night 1 = .ok (.getfield 20, 3) := by decide +kernel
theorem dX11_night_4 : decode cX11_night 4 = .ok (.aload_n 1, 1) := by decide +kernel
theorem dX11_night_5 : decode cX11_night 5 = .ok (.getfield 247, 3) := by decide +kernel
theorem dX11_night_8 : decode cX11_night 8 = .ok (.bipush 12, 2) := by decide +kernel
theorem dX11_night_10 : decode cX11_night 10 = .ok (.irem, 1) := by decide +kernel
theorem dX11_night_11 : decode cX11_night 11 = .ok (.iaload, 1) := by decide +kernel
theorem dX11_night_12 : decode cX11_night 12 = .ok (.istore_n 2, 1) := by decide +kernel
theorem dX11_night_13 : decode cX11_night 13 = .ok (.aload_n 0, 1) := by decide +kernel
theorem dX11_night_14 : decode cX11_night 14 = .ok (.getfield 23, 3) := by decide +kernel
theorem dX11_night_17 : decode cX11_night 17 = .ok (.aload_n 1, 1) := by decide +kernel
theorem dX11_night_18 : decode cX11_night 18 = .ok (.getfield 247, 3) := by decide +kernel
theorem dX11_night_21 : decode cX11_night 21 = .ok (.bipush 12, 2) := by decide +kernel
theorem dX11_night_23 : decode cX11_night 23 = .ok (.irem, 1) := by decide +kernel
theorem dX11_night_24 : decode cX11_night 24 = .ok (.iaload, 1) := by decide +kernel
theorem dX11_night_25 : decode cX11_night 25 = .ok (.istore_n 3, 1) := by decide +kernel
theorem dX11_night_26 : decode cX11_night 26 = .ok (.iconst 0, 1) := by decide +kernel
theorem dX11_night_27 : decode cX11_night 27 = .ok (.istore 4, 2) := by decide +kernel
theorem dX11_night_29 : decode cX11_night 29 = .ok (.iload 4, 2) := by decide +kernel
theorem dX11_night_31 : decode cX11_night 31 = .ok (.bipush 64, 2) := by decide +kernel
theorem dX11_night_33 : decode cX11_night 33 = .ok (.if_icmp .ge 155, 3) := by decide +kernel
theorem dX11_night_36 : decode cX11_night 36 = .ok (.aload_n 1, 1) := by decide +kernel
theorem dX11_night_37 : decode cX11_night 37 = .ok (.getfield 241, 3) := by decide +kernel
theorem dX11_night_40 : decode cX11_night 40 = .ok (.iload 4, 2) := by decide +kernel
theorem dX11_night_42 : decode cX11_night 42 = .ok (.iaload, 1) := by decide +kernel
theorem dX11_night_43 : decode cX11_night 43 = .ok (.ifCond .le 91, 3) := by decide +kernel
theorem dX11_night_46 : decode cX11_night 46 = .ok (.aload_n 1, 1) := by decide +kernel
theorem dX11_night_47 : decode cX11_night 47 = .ok (.getfield 244, 3) := by decide +kernel
theorem dX11_night_50 : decode cX11_night 50 = .ok (.iload 4, 2) := by decide +kernel
theorem dX11_night_52 : decode cX11_night 52 = .ok (.aload_n 0, 1) := by decide +kernel
theorem dX11_night_53 : decode cX11_night 53 = .ok (.aload_n 1, 1) := by decide +kernel
theorem dX11_night_54 : decode cX11_night 54 = .ok (.getfield 244, 3) := by decide +kernel
theorem dX11_night_57 : decode cX11_night 57 = .ok (.iload 4, 2) := by decide +kernel
theorem dX11_night_59 : decode cX11_night 59 = .ok (.iaload, 1) := by decide +kernel
theorem dX11_night_60 : decode cX11_night 60 = .ok (.aload_n 1, 1) := by decide +kernel
theorem dX11_night_61 : decode cX11_night 61 = .ok (.getfield 300, 3) := by decide +kernel
theorem dX11_night_64 : decode cX11_night 64 = .ok (.iload 4, 2) := by decide +kernel
theorem dX11_night_66 : decode cX11_night 66 = .ok (.iaload, 1) := by decide +kernel
theorem dX11_night_67 : decode cX11_night 67 = .ok (.aload_n 1, 1) := by decide +kernel
theorem dX11_night_68 : decode cX11_night 68 = .ok (.getfield 247, 3) := by decide +kernel
theorem dX11_night_71 : decode cX11_night 71 = .ok (.invokevirtual 338, 3) := by decide +kernel
theorem dX11_night_74 : decode cX11_night 74 = .ok (.iastore, 1) := by decide +kernel
theorem dX11_night_75 : decode cX11_night 75 = .ok (.aload_n 1, 1) := by decide +kernel
theorem dX11_night_76 : decode cX11_night 76 = .ok (.getfield 300, 3) := by decide +kernel
theorem dX11_night_79 : decode cX11_night 79 = .ok (.iload 4, 2) := by decide +kernel
theorem dX11_night_81 : decode cX11_night 81 = .ok (.iconst 0, 1) := by decide +kernel
theorem dX11_night_82 : decode cX11_night 82 = .ok (.iastore, 1) := by decide +kernel
theorem dX11_night_83 : decode cX11_night 83 = .ok (.aload_n 1, 1) := by decide +kernel
theorem dX11_night_84 : decode cX11_night 84 = .ok (.getfield 244, 3) := by decide +kernel
theorem dX11_night_87 : decode cX11_night 87 = .ok (.iload 4, 2) := by decide +kernel
theorem dX11_night_89 : decode cX11_night 89 = .ok (.iaload, 1) := by decide +kernel
theorem dX11_night_90 : decode cX11_night 90 = .ok (.bipush 20, 2) := by decide +kernel
theorem dX11_night_92 : decode cX11_night 92 = .ok (.if_icmp .ne 16, 3) := by decide +kernel
theorem dX11_night_95 : decode cX11_night 95 = .ok (.aload_n 1, 1) := by decide +kernel
theorem dX11_night_96 : decode cX11_night 96 = .ok (.getfield 241, 3) := by decide +kernel
theorem dX11_night_99 : decode cX11_night 99 = .ok (.iload 4, 2) := by decide +kernel
theorem dX11_night_101 : decode cX11_night 101 = .ok (.iaload, 1) := by decide +kernel
theorem dX11_night_102 : decode cX11_night 102 = .ok (.bipush 10, 2) := by decide +kernel
theorem dX11_night_104 : decode cX11_night 104 = .ok (.idiv, 1) := by decide +kernel
theorem dX11_night_105 : decode cX11_night 105 = .ok (.goto 4, 3) := by decide +kernel
theorem dX11_night_108 : decode cX11_night 108 = .ok (.iconst 0, 1) := by decide +kernel
theorem dX11_night_109 : decode cX11_night 109 = .ok (.istore 5, 2) := by decide +kernel
theorem dX11_night_111 : decode cX11_night 111 = .ok (.aload_n 1, 1) := by decide +kernel
theorem dX11_night_112 : decode cX11_night 112 = .ok (.getfield 241, 3) := by decide +kernel
theorem dX11_night_115 : decode cX11_night 115 = .ok (.iload 4, 2) := by decide +kernel
theorem dX11_night_117 : decode cX11_night 117 = .ok (.dup2, 1) := by decide +kernel
theorem dX11_night_118 : decode cX11_night 118 = .ok (.iaload, 1) := by decide +kernel
theorem dX11_night_119 : decode cX11_night 119 = .ok (.iload 5, 2) := by decide +kernel
theorem dX11_night_121 : decode cX11_night 121 = .ok (.isub, 1) := by decide +kernel
theorem dX11_night_122 : decode cX11_night 122 = .ok (.iastore, 1) := by decide +kernel
theorem dX11_night_123 : decode cX11_night 123 = .ok (.aload_n 1, 1) := by decide +kernel
theorem dX11_night_124 : decode cX11_night 124 = .ok (.dup, 1) := by decide +kernel
theorem dX11_night_125 : decode cX11_night 125 = .ok (.getfield 341, 3) := by decide +kernel
theorem dX11_night_128 : decode cX11_night 128 = .ok (.iload 5, 2) := by decide +kernel
theorem dX11_night_130 : decode cX11_night 130 = .ok (.iadd, 1) := by decide +kernel
theorem dX11_night_131 : decode cX11_night 131 = .ok (.putfield 341, 3) := by decide +kernel
theorem dX11_night_134 : decode cX11_night 134 = .ok (.aload_n 1, 1) := by decide +kernel
theorem dX11_night_135 : decode cX11_night 135 = .ok (.getfield 66, 3) := by decide +kernel
theorem dX11_night_138 : decode cX11_night 138 = .ok (.iload 4, 2) := by decide +kernel
theorem dX11_night_140 : decode cX11_night 140 = .ok (.aload_n 1, 1) := by decide +kernel
theorem dX11_night_141 : decode cX11_night 141 = .ok (.getfield 66, 3) := by decide +kernel
theorem dX11_night_144 : decode cX11_night 144 = .ok (.iload 4, 2) := by decide +kernel
theorem dX11_night_146 : decode cX11_night 146 = .ok (.iaload, 1) := by decide +kernel
theorem dX11_night_147 : decode cX11_night 147 = .ok (.iload_n 2, 1) := by decide +kernel
theorem dX11_night_148 : decode cX11_night 148 = .ok (.iconst 2, 1) := by decide +kernel
theorem dX11_night_149 : decode cX11_night 149 = .ok (.idiv, 1) := by decide +kernel
theorem dX11_night_150 : decode cX11_night 150 = .ok (.iadd, 1) := by decide +kernel
theorem dX11_night_151 : decode cX11_night 151 = .ok (.iload_n 3, 1) := by decide +kernel
theorem dX11_night_152 : decode cX11_night 152 = .ok (.iconst 4, 1) := by decide +kernel
theorem dX11_night_153 : decode cX11_night 153 = .ok (.idiv, 1) := by decide +kernel
theorem dX11_night_154 : decode cX11_night 154 = .ok (.isub, 1) := by decide +kernel
theorem dX11_night_155 : decode cX11_night 155 = .ok (.iload 4, 2) := by decide +kernel
theorem dX11_night_157 : decode cX11_night 157 = .ok (.ifCond .eq 17, 3) := by decide +kernel
theorem dX11_night_160 : decode cX11_night 160 = .ok (.aload_n 1, 1) := by decide +kernel
theorem dX11_night_161 : decode cX11_night 161 = .ok (.getfield 63, 3) := by decide +kernel
theorem dX11_night_164 : decode cX11_night 164 = .ok (.iload 4, 2) := by decide +kernel
theorem dX11_night_166 : decode cX11_night 166 = .ok (.iaload, 1) := by decide +kernel
theorem dX11_night_167 : decode cX11_night 167 = .ok (.ifCond .ne 7, 3) := by decide +kernel
theorem dX11_night_170 : decode cX11_night 170 = .ok (.iconst 1, 1) := by decide +kernel
theorem dX11_night_171 : decode cX11_night 171 = .ok (.goto 4, 3) := by decide +kernel
theorem dX11_night_174 : decode cX11_night 174 = .ok (.iconst 0, 1) := by decide +kernel
theorem dX11_night_175 : decode cX11_night 175 = .ok (.iadd, 1) := by decide +kernel
theorem dX11_night_176 : decode cX11_night 176 = .ok (.bipush 9, 2) := by decide +kernel
theorem dX11_night_178 : decode cX11_night 178 = .ok (.invokestatic 335, 3) := by decide +kernel
theorem dX11_night_181 : decode cX11_night 181 = .ok (.iastore, 1) := by decide +kernel
theorem dX11_night_182 : decode cX11_night 182 = .ok (.iinc 4 1, 3) := by decide +kernel
theorem dX11_night_185 : decode cX11_night 185 = .ok (.goto (-156), 3) := by decide +kernel
theorem dX11_night_188 : decode cX11_night 188 = .ok (.aload_n 1, 1) := by decide +kernel
theorem dX11_night_189 : decode cX11_night 189 = .ok (.getfield 247, 3) := by decide +kernel
theorem dX11_night_192 : decode cX11_night 192 = .ok (.iconst 1, 1) := by decide +kernel
theorem dX11_night_193 : decode cX11_night 193 = .ok (.iadd, 1) := by decide +kernel
theorem dX11_night_194 : decode cX11_night 194 = .ok (.iconst 4, 1) := by decide +kernel
theorem dX11_night_195 : decode cX11_night 195 = .ok (.irem, 1) := by decide +kernel
theorem dX11_night_196 : decode cX11_night 196 = .ok (.ifCond .ne 8, 3) := by decide +kernel
theorem dX11_night_199 : decode cX11_night 199 = .ok (.aload_n 0, 1) := by decide +kernel
theorem dX11_night_200 : decode cX11_night 200 = .ok (.aload_n 1, 1) := by decide +kernel
theorem dX11_night_201 : decode cX11_night 201 = .ok (.invokevirtual 344, 3) := by decide +kernel
theorem dX11_night_204 : decode cX11_night 204 = .ok (.aload_n 1, 1) := by decide +kernel
theorem dX11_night_205 : decode cX11_night 205 = .ok (.dup, 1) := by decide +kernel
theorem dX11_night_206 : decode cX11_night 206 = .ok (.getfield 247, 3) := by decide +kernel
theorem dX11_night_209 : decode cX11_night 209 = .ok (.iconst 1, 1) := by decide +kernel
theorem dX11_night_210 : decode cX11_night 210 = .ok (.iadd, 1) := by decide +kernel
theorem dX11_night_211 : decode cX11_night 211 = .ok (.putfield 247, 3) := by decide +kernel
theorem dX11_night_214 : decode cX11_night 214 = .ok (.aload_n 1, 1) := by decide +kernel
theorem dX11_night_215 : decode cX11_night 215 = .ok (.iconst 0, 1) := by decide +kernel
theorem dX11_night_216 : decode cX11_night 216 = .ok (.putfield 250, 3) := by decide +kernel
theorem dX11_night_219 : decode cX11_night 219 = .ok (.return_, 1) := by decide +kernel
def f_X11_night_L29 (i0 : Nat) (i1 : Nat) (a2 : Int32) (a3 : Int32) : Nat → Int32 → Mm → Option (Mm)
  | 0, _, _ => none
  | n + 1, v4, M =>
    if ((64 : Int32) ≤ v4) then (some (M)) else (if 0 ≤ v4.toInt ∧ v4.toInt < ((64 : Nat) : Int) then (bd1 (if ((M (i1 + 3) (ix v4)) ≤ 0) then (some (M)) else (if 0 ≤ v4.toInt ∧ v4.toInt < ((64 : Nat) : Int) then (if 0 ≤ v4.toInt ∧ v4.toInt < ((64 : Nat) : Int) then (bd1 (f_X11_behindNight i0 (M (i1 + 4) (ix v4)) (M (i1 + 5) (ix v4)) (M i1 0) M) fun x13 => if 0 ≤ v4.toInt ∧ v4.toInt < ((64 : Nat) : Int) then (lz (wr M (i1 + 4) (ix v4) x13) fun M17 => if 0 ≤ v4.toInt ∧ v4.toInt < ((64 : Nat) : Int) then (lz (wr M17 (i1 + 5) (ix v4) (0 : Int32)) fun M20 => if 0 ≤ v4.toInt ∧ v4.toInt < ((64 : Nat) : Int) then (bd1 (if ((M20 (i1 + 4) (ix v4)) = (20 : Int32)) then (if 0 ≤ v4.toInt ∧ v4.toInt < ((64 : Nat) : Int) then (some (((M20 (i1 + 3) (ix v4)) / (10 : Int32)))) else none) else (some ((0 : Int32)))) fun x26 => if 0 ≤ v4.toInt ∧ v4.toInt < ((64 : Nat) : Int) then (if 0 ≤ v4.toInt ∧ v4.toInt < ((64 : Nat) : Int) then (lz (wr M20 (i1 + 3) (ix v4) ((M20 (i1 + 3) (ix v4)) - x26)) fun M29 => lz (wr M29 i1 4 ((M29 i1 4) + x26)) fun M31 => some (M31)) else none) else none) else none) else none) else none) else none) else none)) fun M33 => if 0 ≤ v4.toInt ∧ v4.toInt < ((64 : Nat) : Int) then (lz (((M33 (i1 + 2) (ix v4)) + (a2 / (2 : Int32))) - (a3 / (4 : Int32))) fun x35 => bd1 (if (v4 = 0) then (some ((0 : Int32))) else (if 0 ≤ v4.toInt ∧ v4.toInt < ((64 : Nat) : Int) then (if ((M33 (i1 + 1) (ix v4)) = 0) then (some ((1 : Int32))) else (some ((0 : Int32)))) else none)) fun x41 => lz (f_X11_held (x35 + x41) (9 : Int32)) fun x43 => if 0 ≤ v4.toInt ∧ v4.toInt < ((64 : Nat) : Int) then (lz (wr M33 (i1 + 2) (ix v4) x43) fun M47 => lz (v4 + (1 : Int32)) fun x49 => f_X11_night_L29 i0 i1 a2 a3 n x49 M47) else none) else none) else none)
def f_X11_night (i0 : Nat) (i1 : Nat) (M : Mm) : Option Mm :=
  if 0 ≤ ((M i1 0) - (M i1 0) / (12 : Int32) * (12 : Int32)).toInt ∧ ((M i1 0) - (M i1 0) / (12 : Int32) * (12 : Int32)).toInt < ((12 : Nat) : Int) then (lz (M (i0 + 3) (ix ((M i1 0) - (M i1 0) / (12 : Int32) * (12 : Int32)))) fun x2 => if 0 ≤ ((M i1 0) - (M i1 0) / (12 : Int32) * (12 : Int32)).toInt ∧ ((M i1 0) - (M i1 0) / (12 : Int32) * (12 : Int32)).toInt < ((12 : Nat) : Int) then (lz (M (i0 + 4) (ix ((M i1 0) - (M i1 0) / (12 : Int32) * (12 : Int32)))) fun x5 => bd1 (f_X11_night_L29 i0 i1 x2 x5 FU (0 : Int32) M) fun M52 => lz (((M52 i1 0) + (1 : Int32)) - ((M52 i1 0) + (1 : Int32)) / (4 : Int32) * (4 : Int32)) fun x53 => bd1 (if (x53 = 0) then (bd1 (f_X11_rise i0 i1 M52) fun M57 => some (M57)) else (some (M52))) fun M60 => lz (wr M60 i1 0 ((M60 i1 0) + (1 : Int32))) fun M61 => lz (wr M61 i1 1 (0 : Int32)) fun M63 => some M63) else none) else none
set_option maxHeartbeats 4000000 in
set_option maxRecDepth 100000 in
theorem l_X11_night_L29 {p : Program} {e : Env} {s : State} {m : MethodId} {args : Array Value} {below : List Frame} {meth : Method} {c : Code} {l : Launch} {G : GG} {Q : State → Prop} (hC : CX p s m args meth c cX11_night 6 RX11 none G) {i0 : Nat} {i1 : Nat} (hi0 : (kd i0).1 = 5) (hi1 : (kd i1).1 = 4) (a2 : Int32) (a3 : Int32) : ∀ (n : Nat) (v4 : Int32) (M : Mm) {M2 : Mm} (hr : f_X11_night_L29 i0 i1 a2 a3 n v4 M = some (M2)) (K : XJ p l e (RM 3 0 0 84) s m args below meth c G 6 Q 0 0 M2 188 [(0, .ref (G.2.1 i0)), (1, .ref (G.2.1 i1))] []), XJ p l e (RM 3 0 0 84) s m args below meth c G 6 Q 0 0 M 29 [(0, .ref (G.2.1 i0)), (1, .ref (G.2.1 i1)), (2, .int a2), (3, .int a3), (4, .int v4)] [] := by
  intro n
  induction n with
  | zero => intro v4 M M2 hr K; rw [f_X11_night_L29] at hr; cases hr
  | succ n ih =>
    intro v4 M M2 hr K
    rw [f_X11_night_L29] at hr
    refine x_iload hC dX11_night_29 4 rfl ?_
    refine x_bipush hC (64 : Int32) dX11_night_31 (by decide) ?_
    refine x_icmp_ge hC 188 dX11_night_33 (by decide) (fun h7 => ?_) (fun h7 => ?_)
    · have hr := (ie_s hr).1 h7
      cases hr
      exact x_sub [0, 1] rfl K
    · have hr := (ie_s hr).2 h7
      refine x_aload_n hC dX11_night_36 rfl 1 rfl ?_
      refine gf_X11_241 hC hi1 dX11_night_37 ?_
      refine x_iload hC dX11_night_40 4 rfl ?_
      obtain ⟨h8, hr⟩ := it_s hr
      refine x_iald hC (kr_4_8 hi1) h8 dX11_night_42 ?_
      obtain ⟨M33, q9, hr⟩ := bd1_s hr
      refine x_join (M' := M33) (pc' := 134) (lv' := [(0, .ref (G.2.1 i0)), (1, .ref (G.2.1 i1)), (2, .int a2), (3, .int a3), (4, .int v4)]) (st' := []) ?_ ?_
      · refine x_aload_n hC dX11_night_134 rfl 1 rfl ?_
        refine gf_X11_66 hC hi1 dX11_night_135 ?_
        refine x_iload hC dX11_night_138 4 rfl ?_
        refine x_aload_n hC dX11_night_140 rfl 1 rfl ?_
        refine gf_X11_66 hC hi1 dX11_night_141 ?_
        refine x_iload hC dX11_night_144 4 rfl ?_
        obtain ⟨h34, hr⟩ := it_s hr
        refine x_iald hC (kr_4_7 hi1) h34 dX11_night_146 ?_
        refine x_iload_n hC dX11_night_147 rfl 2 rfl ?_
        refine x_iconst hC (2 : Int32) dX11_night_148 (by decide) ?_
        refine x_idiv hC dX11_night_149 (by decide) ?_
        refine x_iadd hC dX11_night_150 ?_
        refine x_iload_n hC dX11_night_151 rfl 3 rfl ?_
        refine x_iconst hC (4 : Int32) dX11_night_152 (by decide) ?_
        refine x_idiv hC dX11_night_153 (by decide) ?_
        refine x_isub hC dX11_night_154 ?_
        obtain ⟨x35, e36, hr⟩ := lz_s hr
        refine x_topi e36 ?_
        refine x_iload hC dX11_night_155 4 rfl ?_
        obtain ⟨x41, q37, hr⟩ := bd1_s hr
        refine x_joinB (P := (x41 = 0 ∨ x41 = 1)) (M' := M33) (pc' := 175) (lv' := [(0, .ref (G.2.1 i0)), (1, .ref (G.2.1 i1)), (2, .int a2), (3, .int a3), (4, .int v4)]) (st' := [.int x41, .int x35, .int v4, .ref (G.2.1 (i1 + 2))]) ?_ ?_
        · intro b42
          refine x_iadd hC dX11_night_175 ?_
          refine x_bipush hC (9 : Int32) dX11_night_176 (by decide) ?_
          obtain ⟨x43, e44, hr⟩ := lz_s hr
          refine x_callS (As := [.int (x35 + x41), .int (9 : Int32)]) hC (c_X11_held l G M33 (x35 + x41) (9 : Int32) e44.symm) kc_yX11_held km_X11_335 kt_yX11_held kn_RX11 ky_yX11_held rfl ⟨rfl, rfl⟩ ⟨(Nat.le_of_ble_eq_true rfl), (Nat.le_of_ble_eq_true rfl)⟩ rfl (Nat.le_of_ble_eq_true rfl) ⟨(Nat.le_of_ble_eq_true rfl), (Nat.le_of_ble_eq_true rfl)⟩ dX11_night_178 (fun b45 => ?_)
          obtain ⟨h46, hr⟩ := it_s hr
          obtain ⟨M47, e48, hr⟩ := lz_s hr
          refine x_iast hC (kr_4_7 hi1) h46 e48 dX11_night_181 ?_
          obtain ⟨x49, e50, hr⟩ := lz_s hr
          refine x_iinc hC [(4, .int x49), (0, .ref (G.2.1 i0)), (1, .ref (G.2.1 i1)), (2, .int a2), (3, .int a3)] dX11_night_182 4 rfl (by rw [e50]; rfl) (Nat.le_of_ble_eq_true rfl) rfl ?_
          refine x_goto hC 29 dX11_night_185 (by decide) ?_
          exact x_sub [1, 2, 3, 4, 0] rfl (ih x49 M47 hr K)
        · intro kj
          refine x_if_eq hC 174 dX11_night_157 (by decide) (fun h38 => ?_) (fun h38 => ?_)
          · have q37 := (ie_s q37).1 h38
            refine x_iconst hC (0 : Int32) dX11_night_174 (by decide) ?_
            cases q37
            exact x_sub [0, 1, 2, 3, 4] rfl (kj (Or.inl rfl))
          · have q37 := (ie_s q37).2 h38
            refine x_aload_n hC dX11_night_160 rfl 1 rfl ?_
            refine gf_X11_63 hC hi1 dX11_night_161 ?_
            refine x_iload hC dX11_night_164 4 rfl ?_
            obtain ⟨h39, q37⟩ := it_s q37
            refine x_iald hC (kr_4_6 hi1) h39 dX11_night_166 ?_
            refine x_if_ne hC 174 dX11_night_167 (by decide) (fun h40 => ?_) (fun h40 => ?_)
            · have q37 := (ie_s q37).2 h40
              refine x_iconst hC (0 : Int32) dX11_night_174 (by decide) ?_
              cases q37
              exact x_sub [0, 1, 2, 3, 4] rfl (kj (Or.inl rfl))
            · have q37 := (ie_s q37).1 h40
              refine x_iconst hC (1 : Int32) dX11_night_170 (by decide) ?_
              refine x_goto hC 175 dX11_night_171 (by decide) ?_
              cases q37
              exact x_sub [0, 1, 2, 3, 4] rfl (kj (Or.inr rfl))
      · intro kj
        refine x_if_le hC 134 dX11_night_43 (by decide) (fun h10 => ?_) (fun h10 => ?_)
        · have q9 := (ie_s q9).1 h10
          cases q9
          exact x_sub [0, 1, 2, 3, 4] rfl kj
        · have q9 := (ie_s q9).2 h10
          refine x_aload_n hC dX11_night_46 rfl 1 rfl ?_
          refine gf_X11_244 hC hi1 dX11_night_47 ?_
          refine x_iload hC dX11_night_50 4 rfl ?_
          refine x_aload_n hC dX11_night_52 rfl 0 rfl ?_
          refine x_aload_n hC dX11_night_53 rfl 1 rfl ?_
          refine gf_X11_244 hC hi1 dX11_night_54 ?_
          refine x_iload hC dX11_night_57 4 rfl ?_
          obtain ⟨h11, q9⟩ := it_s q9
          refine x_iald hC (kr_4_9 hi1) h11 dX11_night_59 ?_
          refine x_aload_n hC dX11_night_60 rfl 1 rfl ?_
          refine gf_X11_300 hC hi1 dX11_night_61 ?_
          refine x_iload hC dX11_night_64 4 rfl ?_
          obtain ⟨h12, q9⟩ := it_s q9
          refine x_iald hC (kr_4_10 hi1) h12 dX11_night_66 ?_
          refine x_aload_n hC dX11_night_67 rfl 1 rfl ?_
          refine gf_X11_247 hC hi1 dX11_night_68 ?_
          obtain ⟨x13, q14, q9⟩ := bd1_s q9
          refine x_callV (ci := 5) (q := (RX11, TX11, 32)) (As := [.int (M (i1 + 4) (ix v4)), .int (M (i1 + 5) (ix v4)), .int (M i1 0)]) hC (c_X11_behindNight l G M hi0 (M (i1 + 4) (ix v4)) (M (i1 + 5) (ix v4)) (M i1 0) q14) kc_yX11_behindNight km_X11_338 ki_yX11_behindNight kv_yX11_behindNight kn_RX11 ky_yX11_behindNight rfl ⟨rfl, rfl⟩ ⟨(Nat.le_of_ble_eq_true rfl), (Nat.le_of_ble_eq_true rfl)⟩ hi0 (by decide) rfl rfl (Nat.le_of_ble_eq_true rfl) ⟨(Nat.le_of_ble_eq_true rfl), (Nat.le_of_ble_eq_true rfl)⟩ dX11_night_71 (fun b15 => ?_)
          obtain ⟨h16, q9⟩ := it_s q9
          obtain ⟨M17, e18, q9⟩ := lz_s q9
          refine x_iast hC (kr_4_9 hi1) h16 e18 dX11_night_74 ?_
          refine x_aload_n hC dX11_night_75 rfl 1 rfl ?_
          refine gf_X11_300 hC hi1 dX11_night_76 ?_
          refine x_iload hC dX11_night_79 4 rfl ?_
          refine x_iconst hC (0 : Int32) dX11_night_81 (by decide) ?_
          obtain ⟨h19, q9⟩ := it_s q9
          obtain ⟨M20, e21, q9⟩ := lz_s q9
          refine x_iast hC (kr_4_10 hi1) h19 e21 dX11_night_82 ?_
          refine x_aload_n hC dX11_night_83 rfl 1 rfl ?_
          refine gf_X11_244 hC hi1 dX11_night_84 ?_
          refine x_iload hC dX11_night_87 4 rfl ?_
          obtain ⟨h22, q9⟩ := it_s q9
          refine x_iald hC (kr_4_9 hi1) h22 dX11_night_89 ?_
          refine x_bipush hC (20 : Int32) dX11_night_90 (by decide) ?_
          obtain ⟨x26, q23, q9⟩ := bd1_s q9
          refine x_join (M' := M20) (pc' := 109) (lv' := [(0, .ref (G.2.1 i0)), (1, .ref (G.2.1 i1)), (2, .int a2), (3, .int a3), (4, .int v4)]) (st' := [.int x26]) ?_ ?_
          · refine x_istore hC [(5, .int x26), (0, .ref (G.2.1 i0)), (1, .ref (G.2.1 i1)), (2, .int a2), (3, .int a3), (4, .int v4)] dX11_night_109  (Nat.le_of_ble_eq_true rfl) rfl ?_
            refine x_aload_n hC dX11_night_111 rfl 2 rfl ?_
            refine gf_X11_241 hC hi1 dX11_night_112 ?_
            refine x_iload hC dX11_night_115 5 rfl ?_
            refine x_dup2 hC dX11_night_117 rfl rfl ?_
            obtain ⟨h27, q9⟩ := it_s q9
            refine x_iald hC (kr_4_8 hi1) h27 dX11_night_118 ?_
            refine x_iload hC dX11_night_119 0 rfl ?_
            refine x_isub hC dX11_night_121 ?_
            obtain ⟨h28, q9⟩ := it_s q9
            obtain ⟨M29, e30, q9⟩ := lz_s q9
            refine x_iast hC (kr_4_8 hi1) h28 e30 dX11_night_122 ?_
            refine x_aload_n hC dX11_night_123 rfl 2 rfl ?_
            refine x_dup hC dX11_night_124 rfl ?_
            refine gf_X11_341 hC hi1 dX11_night_125 ?_
            refine x_iload hC dX11_night_128 0 rfl ?_
            refine x_iadd hC dX11_night_130 ?_
            obtain ⟨M31, e32, q9⟩ := lz_s q9
            refine pf_X11_341 hC hi1 e32 dX11_night_131 ?_
            cases q9
            exact x_sub [1, 2, 3, 4, 5] rfl kj
          · intro kj
            refine x_icmp_ne hC 108 dX11_night_92 (by decide) (fun h24 => ?_) (fun h24 => ?_)
            · have q23 := (ie_s q23).2 h24
              refine x_iconst hC (0 : Int32) dX11_night_108 (by decide) ?_
              cases q23
              exact x_sub [0, 1, 2, 3, 4] rfl kj
            · have q23 := (ie_s q23).1 h24
              refine x_aload_n hC dX11_night_95 rfl 1 rfl ?_
              refine gf_X11_241 hC hi1 dX11_night_96 ?_
              refine x_iload hC dX11_night_99 4 rfl ?_
              obtain ⟨h25, q23⟩ := it_s q23
              refine x_iald hC (kr_4_8 hi1) h25 dX11_night_101 ?_
              refine x_bipush hC (10 : Int32) dX11_night_102 (by decide) ?_
              refine x_idiv hC dX11_night_104 (by decide) ?_
              refine x_goto hC 109 dX11_night_105 (by decide) ?_
              cases q23
              exact x_sub [0, 1, 2, 3, 4] rfl kj
set_option maxHeartbeats 4000000 in
set_option maxRecDepth 100000 in
theorem c_X11_night (l : Launch) (G : GG) (M : Mm) {i0 : Nat} (hi0 : (kd i0).1 = 5) {i1 : Nat} (hi1 : (kd i1).1 = 4) {M9 : Mm} (hr : f_X11_night i0 i1 M = some M9) : Mo false l yX11_night (WS yX11_night cX11_night 6 none) (RM 3 0 0 84) 0 0 [.ref (G.2.1 i0), .ref (G.2.1 i1)] G M none M9 := by
  refine Mo.of (by decide +kernel) (Nat.le_of_ble_eq_true rfl) ?_
  intro p e s m args below meth c hC
  have hC : CX p s m args meth c cX11_night 6 RX11 none G := hC
  rw [f_X11_night] at hr
  show XJ p l e (RM 3 0 0 84) s m args below meth c G 6 _ 0 0 M 0 [(0, .ref (G.2.1 i0)), (1, .ref (G.2.1 i1))] []
  refine x_aload_n hC dX11_night_0 rfl 0 rfl ?_
  refine gf_X11_20 hC hi0 dX11_night_1 ?_
  refine x_aload_n hC dX11_night_4 rfl 1 rfl ?_
  refine gf_X11_247 hC hi1 dX11_night_5 ?_
  refine x_bipush hC (12 : Int32) dX11_night_8 (by decide) ?_
  refine x_irem hC dX11_night_10 (by decide) ?_
  obtain ⟨h1, hr⟩ := it_s hr
  refine x_iald hC (kr_5_6 hi0) h1 dX11_night_11 ?_
  obtain ⟨x2, e3, hr⟩ := lz_s hr
  refine x_topi e3 ?_
  refine x_istore_n hC [(2, .int x2), (0, .ref (G.2.1 i0)), (1, .ref (G.2.1 i1))] dX11_night_12 rfl (Nat.le_of_ble_eq_true rfl) rfl ?_
  refine x_aload_n hC dX11_night_13 rfl 1 rfl ?_
  refine gf_X11_23 hC hi0 dX11_night_14 ?_
  refine x_aload_n hC dX11_night_17 rfl 2 rfl ?_
  refine gf_X11_247 hC hi1 dX11_night_18 ?_
  refine x_bipush hC (12 : Int32) dX11_night_21 (by decide) ?_
  refine x_irem hC dX11_night_23 (by decide) ?_
  obtain ⟨h4, hr⟩ := it_s hr
  refine x_iald hC (kr_5_7 hi0) h4 dX11_night_24 ?_
  obtain ⟨x5, e6, hr⟩ := lz_s hr
  refine x_topi e6 ?_
  refine x_istore_n hC [(3, .int x5), (2, .int x2), (0, .ref (G.2.1 i0)), (1, .ref (G.2.1 i1))] dX11_night_25 rfl (Nat.le_of_ble_eq_true rfl) rfl ?_
  refine x_iconst hC (0 : Int32) dX11_night_26 (by decide) ?_
  refine x_istore hC [(4, .int (0 : Int32)), (3, .int x5), (2, .int x2), (0, .ref (G.2.1 i0)), (1, .ref (G.2.1 i1))] dX11_night_27  (Nat.le_of_ble_eq_true rfl) rfl ?_
  obtain ⟨M52, q51, hr⟩ := bd1_s hr
  refine x_sub [3, 4, 2, 1, 0] rfl (l_X11_night_L29 hC hi0 hi1 x2 x5 FU  (0 : Int32) M q51 ?_)
  refine x_aload_n hC dX11_night_188 rfl 1 rfl ?_
  refine gf_X11_247 hC hi1 dX11_night_189 ?_
  refine x_iconst hC (1 : Int32) dX11_night_192 (by decide) ?_
  refine x_iadd hC dX11_night_193 ?_
  refine x_iconst hC (4 : Int32) dX11_night_194 (by decide) ?_
  refine x_irem hC dX11_night_195 (by decide) ?_
  obtain ⟨x53, e54, hr⟩ := lz_s hr
  refine x_topi e54 ?_
  obtain ⟨M60, q55, hr⟩ := bd1_s hr
  refine x_join (M' := M60) (pc' := 204) (lv' := [(1, .ref (G.2.1 i1))]) (st' := []) ?_ ?_
  · refine x_aload_n hC dX11_night_204 rfl 0 rfl ?_
    refine x_dup hC dX11_night_205 rfl ?_
    refine gf_X11_247 hC hi1 dX11_night_206 ?_
    refine x_iconst hC (1 : Int32) dX11_night_209 (by decide) ?_
    refine x_iadd hC dX11_night_210 ?_
    obtain ⟨M61, e62, hr⟩ := lz_s hr
    refine pf_X11_247 hC hi1 e62 dX11_night_211 ?_
    refine x_aload_n hC dX11_night_214 rfl 0 rfl ?_
    refine x_iconst hC (0 : Int32) dX11_night_215 (by decide) ?_
    obtain ⟨M63, e64, hr⟩ := lz_s hr
    refine pf_X11_250 hC hi1 e64 dX11_night_216 ?_
    cases hr
    exact x_vret hC rfl dX11_night_219
  · intro kj
    refine x_if_ne hC 204 dX11_night_196 (by decide) (fun h56 => ?_) (fun h56 => ?_)
    · have q55 := (ie_s q55).2 h56
      cases q55
      exact x_sub [1] rfl kj
    · have q55 := (ie_s q55).1 h56
      refine x_aload_n hC dX11_night_199 rfl 0 rfl ?_
      refine x_aload_n hC dX11_night_200 rfl 1 rfl ?_
      obtain ⟨M57, q58, q55⟩ := bd1_s q55
      refine x_callV (ci := 5) (q := (RX11, TX11, 32)) (As := [.ref (G.2.1 i1)]) hC (c_X11_rise l G M52 hi0 hi1 q58) kc_yX11_rise km_X11_344 ki_yX11_rise kv_yX11_rise kn_RX11 ky_yX11_rise rfl ⟨rfl, rfl⟩ ⟨(Nat.le_of_ble_eq_true rfl), (Nat.le_of_ble_eq_true rfl)⟩ hi0 (by decide) rfl rfl (Nat.le_of_ble_eq_true rfl) ⟨(Nat.le_of_ble_eq_true rfl), (Nat.le_of_ble_eq_true rfl)⟩ dX11_night_201 (fun b59 => ?_)
      cases q55
      exact x_sub [1] rfl kj

theorem dX11_hour_0 : decode cX11_hour 0 = .ok (.iconst 0, 1) := by decide +kernel
theorem dX11_hour_1 : decode cX11_hour 1 = .ok (.istore_n 2, 1) := by decide +kernel
theorem dX11_hour_2 : decode cX11_hour 2 = .ok (.iload_n 2, 1) := by decide +kernel
theorem dX11_hour_3 : decode cX11_hour 3 = .ok (.aload_n 0, 1) := by decide +kernel
theorem dX11_hour_4 : decode cX11_hour 4 = .ok (.getfield 236, 3) := by decide +kernel
theorem dX11_hour_7 : decode cX11_hour 7 = .ok (.if_icmp .ge 15, 3) := by decide +kernel
theorem dX11_hour_10 : decode cX11_hour 10 = .ok (.aload_n 0, 1) := by decide +kernel
theorem dX11_hour_11 : decode cX11_hour 11 = .ok (.aload_n 1, 1) := by decide +kernel
theorem dX11_hour_12 : decode cX11_hour 12 = .ok (.iload_n 2, 1) := by decide +kernel
theorem dX11_hour_13 : decode cX11_hour 13 = .ok (.invokevirtual 351, 3) := by decide +kernel
theorem dX11_hour_16 : decode cX11_hour 16 = .ok (.iinc 2 1, 3) := by decide +kernel
theorem dX11_hour_19 : decode cX11_hour 19 = .ok (.goto (-17), 3) := by decide +kernel
theorem dX11_hour_22 : decode cX11_hour 22 = .ok (.aload_n 1, 1) := by decide +kernel
theorem dX11_hour_23 : decode cX11_hour 23 = .ok (.dup, 1) := by decide +kernel
theorem dX11_hour_24 : decode cX11_hour 24 = .ok (.getfield 250, 3) := by decide +kernel
theorem dX11_hour_27 : decode cX11_hour 27 = .ok (.iconst 1, 1) := by decide +kernel
theorem dX11_hour_28 : decode cX11_hour 28 = .ok (.iadd, 1) := by decide +kernel
theorem dX11_hour_29 : decode cX11_hour 29 = .ok (.putfield 250, 3) := by decide +kernel
theorem dX11_hour_32 : decode cX11_hour 32 = .ok (.aload_n 1, 1) := by decide +kernel
theorem dX11_hour_33 : decode cX11_hour 33 = .ok (.getfield 250, 3) := by decide +kernel
theorem dX11_hour_36 : decode cX11_hour 36 = .ok (.bipush 10, 2) := by decide +kernel
theorem dX11_hour_38 : decode cX11_hour 38 = .ok (.if_icmp .ne 8, 3) := by decide +kernel
theorem dX11_hour_41 : decode cX11_hour 41 = .ok (.aload_n 0, 1) := by decide +kernel
theorem dX11_hour_42 : decode cX11_hour 42 = .ok (.aload_n 1, 1) := by decide +kernel
theorem dX11_hour_43 : decode cX11_hour 43 = .ok (.invokevirtual 355, 3) := by decide +kernel
theorem dX11_hour_46 : decode cX11_hour 46 = .ok (.return_, 1) := by decide +kernel
def f_X11_hour_L2 (i0 : Nat) (i1 : Nat) : Nat → Int32 → Mm → Option (Mm)
  | 0, _, _ => none
  | n + 1, v2, M =>
    if ((M i0 9) ≤ v2) then (some (M)) else (bd1 (f_X11_work i0 i1 v2 M) fun M2 => lz (v2 + (1 : Int32)) fun x5 => f_X11_hour_L2 i0 i1 n x5 M2)
def f_X11_hour (i0 : Nat) (i1 : Nat) (M : Mm) : Option Mm :=
  bd1 (f_X11_hour_L2 i0 i1 FU (0 : Int32) M) fun M8 => lz (wr M8 i1 1 ((M8 i1 1) + (1 : Int32))) fun M9 => if ((M9 i1 1) = (10 : Int32)) then (bd1 (f_X11_night i0 i1 M9) fun M12 => some M12) else (some M9)
set_option maxHeartbeats 4000000 in
set_option maxRecDepth 100000 in
theorem l_X11_hour_L2 {p : Program} {e : Env} {s : State} {m : MethodId} {args : Array Value} {below : List Frame} {meth : Method} {c : Code} {l : Launch} {G : GG} {Q : State → Prop} (hC : CX p s m args meth c cX11_hour 3 RX11 none G) {i0 : Nat} {i1 : Nat} (hi0 : (kd i0).1 = 5) (hi1 : (kd i1).1 = 4) : ∀ (n : Nat) (v2 : Int32) (M : Mm) {M2 : Mm} (hr : f_X11_hour_L2 i0 i1 n v2 M = some (M2)) (K : XJ p l e (RM 6 0 0 171) s m args below meth c G 3 Q 0 0 M2 22 [(0, .ref (G.2.1 i0)), (1, .ref (G.2.1 i1))] []), XJ p l e (RM 6 0 0 171) s m args below meth c G 3 Q 0 0 M 2 [(0, .ref (G.2.1 i0)), (1, .ref (G.2.1 i1)), (2, .int v2)] [] := by
  intro n
  induction n with
  | zero => intro v2 M M2 hr K; rw [f_X11_hour_L2] at hr; cases hr
  | succ n ih =>
    intro v2 M M2 hr K
    rw [f_X11_hour_L2] at hr
    refine x_iload_n hC dX11_hour_2 rfl 2 rfl ?_
    refine x_aload_n hC dX11_hour_3 rfl 0 rfl ?_
    refine gf_X11_236 hC hi0 dX11_hour_4 ?_
    refine x_icmp_ge hC 22 dX11_hour_7 (by decide) (fun h1 => ?_) (fun h1 => ?_)
    · have hr := (ie_s hr).1 h1
      cases hr
      exact x_sub [0, 1] rfl K
    · have hr := (ie_s hr).2 h1
      refine x_aload_n hC dX11_hour_10 rfl 0 rfl ?_
      refine x_aload_n hC dX11_hour_11 rfl 1 rfl ?_
      refine x_iload_n hC dX11_hour_12 rfl 2 rfl ?_
      obtain ⟨M2, q3, hr⟩ := bd1_s hr
      refine x_callV (ci := 5) (q := (RX11, TX11, 32)) (As := [.ref (G.2.1 i1), .int v2]) hC (c_X11_work l G M hi0 hi1 v2 q3) kc_yX11_work km_X11_351 ki_yX11_work kv_yX11_work kn_RX11 ky_yX11_work rfl ⟨rfl, rfl⟩ ⟨(Nat.le_of_ble_eq_true rfl), (Nat.le_of_ble_eq_true rfl)⟩ hi0 (by decide) rfl rfl (Nat.le_of_ble_eq_true rfl) ⟨(Nat.le_of_ble_eq_true rfl), (Nat.le_of_ble_eq_true rfl)⟩ dX11_hour_13 (fun b4 => ?_)
      obtain ⟨x5, e6, hr⟩ := lz_s hr
      refine x_iinc hC [(2, .int x5), (0, .ref (G.2.1 i0)), (1, .ref (G.2.1 i1))] dX11_hour_16 2 rfl (by rw [e6]; rfl) (Nat.le_of_ble_eq_true rfl) rfl ?_
      refine x_goto hC 2 dX11_hour_19 (by decide) ?_
      exact x_sub [1, 2, 0] rfl (ih x5 M2 hr K)
set_option maxHeartbeats 4000000 in
set_option maxRecDepth 100000 in
theorem c_X11_hour (l : Launch) (G : GG) (M : Mm) {i0 : Nat} (hi0 : (kd i0).1 = 5) {i1 : Nat} (hi1 : (kd i1).1 = 4) {M9 : Mm} (hr : f_X11_hour i0 i1 M = some M9) : Mo false l yX11_hour (WS yX11_hour cX11_hour 3 none) (RM 6 0 0 171) 0 0 [.ref (G.2.1 i0), .ref (G.2.1 i1)] G M none M9 := by
  refine Mo.of (by decide +kernel) (Nat.le_of_ble_eq_true rfl) ?_
  intro p e s m args below meth c hC
  have hC : CX p s m args meth c cX11_hour 3 RX11 none G := hC
  rw [f_X11_hour] at hr
  show XJ p l e (RM 6 0 0 171) s m args below meth c G 3 _ 0 0 M 0 [(0, .ref (G.2.1 i0)), (1, .ref (G.2.1 i1))] []
  refine x_iconst hC (0 : Int32) dX11_hour_0 (by decide) ?_
  refine x_istore_n hC [(2, .int (0 : Int32)), (0, .ref (G.2.1 i0)), (1, .ref (G.2.1 i1))] dX11_hour_1 rfl (Nat.le_of_ble_eq_true rfl) rfl ?_
  obtain ⟨M8, q7, hr⟩ := bd1_s hr
  refine x_sub [1, 2, 0] rfl (l_X11_hour_L2 hC hi0 hi1 FU  (0 : Int32) M q7 ?_)
  refine x_aload_n hC dX11_hour_22 rfl 1 rfl ?_
  refine x_dup hC dX11_hour_23 rfl ?_
  refine gf_X11_250 hC hi1 dX11_hour_24 ?_
  refine x_iconst hC (1 : Int32) dX11_hour_27 (by decide) ?_
  refine x_iadd hC dX11_hour_28 ?_
  obtain ⟨M9, e10, hr⟩ := lz_s hr
  refine pf_X11_250 hC hi1 e10 dX11_hour_29 ?_
  refine x_aload_n hC dX11_hour_32 rfl 1 rfl ?_
  refine gf_X11_250 hC hi1 dX11_hour_33 ?_
  refine x_bipush hC (10 : Int32) dX11_hour_36 (by decide) ?_
  refine x_icmp_ne hC 46 dX11_hour_38 (by decide) (fun h11 => ?_) (fun h11 => ?_)
  · have hr := (ie_s hr).2 h11
    cases hr
    exact x_vret hC rfl dX11_hour_46
  · have hr := (ie_s hr).1 h11
    refine x_aload_n hC dX11_hour_41 rfl 0 rfl ?_
    refine x_aload_n hC dX11_hour_42 rfl 1 rfl ?_
    obtain ⟨M12, q13, hr⟩ := bd1_s hr
    refine x_callV (ci := 5) (q := (RX11, TX11, 32)) (As := [.ref (G.2.1 i1)]) hC (c_X11_night l G M9 hi0 hi1 q13) kc_yX11_night km_X11_355 ki_yX11_night kv_yX11_night kn_RX11 ky_yX11_night rfl ⟨rfl, rfl⟩ ⟨(Nat.le_of_ble_eq_true rfl), (Nat.le_of_ble_eq_true rfl)⟩ hi0 (by decide) rfl rfl (Nat.le_of_ble_eq_true rfl) ⟨(Nat.le_of_ble_eq_true rfl), (Nat.le_of_ble_eq_true rfl)⟩ dX11_hour_43 (fun b14 => ?_)
    cases hr
    exact x_vret hC rfl dX11_hour_46

theorem dX11_hours_0 : decode cX11_hours 0 = .ok (.iconst 0, 1) := by decide +kernel
theorem dX11_hours_1 : decode cX11_hours 1 = .ok (.istore_n 3, 1) := by decide +kernel
theorem dX11_hours_2 : decode cX11_hours 2 = .ok (.iload_n 3, 1) := by decide +kernel
theorem dX11_hours_3 : decode cX11_hours 3 = .ok (.iload_n 2, 1) := by decide +kernel
theorem dX11_hours_4 : decode cX11_hours 4 = .ok (.if_icmp .ge 14, 3) := by decide +kernel
theorem dX11_hours_7 : decode cX11_hours 7 = .ok (.aload_n 0, 1) := by decide +kernel
theorem dX11_hours_8 : decode cX11_hours 8 = .ok (.aload_n 1, 1) := by decide +kernel
theorem dX11_hours_9 : decode cX11_hours 9 = .ok (.invokevirtual 358, 3) := by decide +kernel
theorem dX11_hours_12 : decode cX11_hours 12 = .ok (.iinc 3 1, 3) := by decide +kernel
theorem dX11_hours_15 : decode cX11_hours 15 = .ok (.goto (-13), 3) := by decide +kernel
theorem dX11_hours_18 : decode cX11_hours 18 = .ok (.return_, 1) := by decide +kernel
def f_X11_hours_L2 (i0 : Nat) (i1 : Nat) (a2 : Int32) : Nat → Int32 → Mm → Option (Mm)
  | 0, _, _ => none
  | n + 1, v3, M =>
    if (a2 ≤ v3) then (some (M)) else (bd1 (f_X11_hour i0 i1 M) fun M2 => lz (v3 + (1 : Int32)) fun x5 => f_X11_hours_L2 i0 i1 a2 n x5 M2)
def f_X11_hours (i0 : Nat) (i1 : Nat) (a2 : Int32) (M : Mm) : Option Mm :=
  bd1 (f_X11_hours_L2 i0 i1 a2 FU (0 : Int32) M) fun M8 => some M8
set_option maxHeartbeats 4000000 in
set_option maxRecDepth 100000 in
theorem l_X11_hours_L2 {p : Program} {e : Env} {s : State} {m : MethodId} {args : Array Value} {below : List Frame} {meth : Method} {c : Code} {l : Launch} {G : GG} {Q : State → Prop} (hC : CX p s m args meth c cX11_hours 4 RX11 none G) {i0 : Nat} {i1 : Nat} (hi0 : (kd i0).1 = 5) (hi1 : (kd i1).1 = 4) (a2 : Int32) : ∀ (n : Nat) (v3 : Int32) (M : Mm) {M2 : Mm} (hr : f_X11_hours_L2 i0 i1 a2 n v3 M = some (M2)) (K : XJ p l e (RM 7 0 0 193) s m args below meth c G 4 Q 0 0 M2 18 [] []), XJ p l e (RM 7 0 0 193) s m args below meth c G 4 Q 0 0 M 2 [(0, .ref (G.2.1 i0)), (1, .ref (G.2.1 i1)), (2, .int a2), (3, .int v3)] [] := by
  intro n
  induction n with
  | zero => intro v3 M M2 hr K; rw [f_X11_hours_L2] at hr; cases hr
  | succ n ih =>
    intro v3 M M2 hr K
    rw [f_X11_hours_L2] at hr
    refine x_iload_n hC dX11_hours_2 rfl 3 rfl ?_
    refine x_iload_n hC dX11_hours_3 rfl 2 rfl ?_
    refine x_icmp_ge hC 18 dX11_hours_4 (by decide) (fun h1 => ?_) (fun h1 => ?_)
    · have hr := (ie_s hr).1 h1
      cases hr
      exact x_sub [] rfl K
    · have hr := (ie_s hr).2 h1
      refine x_aload_n hC dX11_hours_7 rfl 0 rfl ?_
      refine x_aload_n hC dX11_hours_8 rfl 1 rfl ?_
      obtain ⟨M2, q3, hr⟩ := bd1_s hr
      refine x_callV (ci := 5) (q := (RX11, TX11, 32)) (As := [.ref (G.2.1 i1)]) hC (c_X11_hour l G M hi0 hi1 q3) kc_yX11_hour km_X11_358 ki_yX11_hour kv_yX11_hour kn_RX11 ky_yX11_hour rfl ⟨rfl, rfl⟩ ⟨(Nat.le_of_ble_eq_true rfl), (Nat.le_of_ble_eq_true rfl)⟩ hi0 (by decide) rfl rfl (Nat.le_of_ble_eq_true rfl) ⟨(Nat.le_of_ble_eq_true rfl), (Nat.le_of_ble_eq_true rfl)⟩ dX11_hours_9 (fun b4 => ?_)
      obtain ⟨x5, e6, hr⟩ := lz_s hr
      refine x_iinc hC [(3, .int x5), (0, .ref (G.2.1 i0)), (1, .ref (G.2.1 i1)), (2, .int a2)] dX11_hours_12 3 rfl (by rw [e6]; rfl) (Nat.le_of_ble_eq_true rfl) rfl ?_
      refine x_goto hC 2 dX11_hours_15 (by decide) ?_
      exact x_sub [1, 2, 3, 0] rfl (ih x5 M2 hr K)
set_option maxHeartbeats 4000000 in
set_option maxRecDepth 100000 in
theorem c_X11_hours (l : Launch) (G : GG) (M : Mm) {i0 : Nat} (hi0 : (kd i0).1 = 5) {i1 : Nat} (hi1 : (kd i1).1 = 4) (a2 : Int32) {M9 : Mm} (hr : f_X11_hours i0 i1 a2 M = some M9) : Mo false l yX11_hours (WS yX11_hours cX11_hours 4 none) (RM 7 0 0 193) 0 0 [.ref (G.2.1 i0), .ref (G.2.1 i1), .int a2] G M none M9 := by
  refine Mo.of (by decide +kernel) (Nat.le_of_ble_eq_true rfl) ?_
  intro p e s m args below meth c hC
  have hC : CX p s m args meth c cX11_hours 4 RX11 none G := hC
  rw [f_X11_hours] at hr
  show XJ p l e (RM 7 0 0 193) s m args below meth c G 4 _ 0 0 M 0 [(0, .ref (G.2.1 i0)), (1, .ref (G.2.1 i1)), (2, .int a2)] []
  refine x_iconst hC (0 : Int32) dX11_hours_0 (by decide) ?_
  refine x_istore_n hC [(3, .int (0 : Int32)), (0, .ref (G.2.1 i0)), (1, .ref (G.2.1 i1)), (2, .int a2)] dX11_hours_1 rfl (Nat.le_of_ble_eq_true rfl) rfl ?_
  obtain ⟨M8, q7, hr⟩ := bd1_s hr
  refine x_sub [1, 2, 3, 0] rfl (l_X11_hours_L2 hC hi0 hi1 a2 FU  (0 : Int32) M q7 ?_)
  cases hr
  exact x_vret hC rfl dX11_hours_18

theorem dX11_carts_0 : decode cX11_carts 0 = .ok (.iconst 0, 1) := by decide +kernel
theorem dX11_carts_1 : decode cX11_carts 1 = .ok (.istore_n 1, 1) := by decide +kernel
theorem dX11_carts_2 : decode cX11_carts 2 = .ok (.iconst 0, 1) := by decide +kernel
theorem dX11_carts_3 : decode cX11_carts 3 = .ok (.istore_n 2, 1) := by decide +kernel
theorem dX11_carts_4 : decode cX11_carts 4 = .ok (.iload_n 2, 1) := by decide +kernel
theorem dX11_carts_5 : decode cX11_carts 5 = .ok (.aload_n 0, 1) := by decide +kernel
theorem dX11_carts_6 : decode cX11_carts 6 = .ok (.getfield 236, 3) := by decide +kernel
theorem dX11_carts_9 : decode cX11_carts 9 = .ok (.if_icmp .ge 26, 3) := by decide +kernel
theorem dX11_carts_12 : decode cX11_carts 12 = .ok (.iload_n 1, 1) := by decide +kernel
theorem dX11_carts_13 : decode cX11_carts 13 = .ok (.aload_n 0, 1) := by decide +kernel
theorem dX11_carts_14 : decode cX11_carts 14 = .ok (.getfield 53, 3) := by decide +kernel
theorem dX11_carts_17 : decode cX11_carts 17 = .ok (.getfield 239, 3) := by decide +kernel
theorem dX11_carts_20 : decode cX11_carts 20 = .ok (.bipush 10, 2) := by decide +kernel
theorem dX11_carts_22 : decode cX11_carts 22 = .ok (.iload_n 2, 1) := by decide +kernel
theorem dX11_carts_23 : decode cX11_carts 23 = .ok (.imul, 1) := by decide +kernel
theorem dX11_carts_24 : decode cX11_carts 24 = .ok (.iconst 2, 1) := by decide +kernel
theorem dX11_carts_25 : decode cX11_carts 25 = .ok (.iadd, 1) := by decide +kernel
theorem dX11_carts_26 : decode cX11_carts 26 = .ok (.iaload, 1) := by decide +kernel
theorem dX11_carts_27 : decode cX11_carts 27 = .ok (.iadd, 1) := by decide +kernel
theorem dX11_carts_28 : decode cX11_carts 28 = .ok (.istore_n 1, 1) := by decide +kernel
theorem dX11_carts_29 : decode cX11_carts 29 = .ok (.iinc 2 1, 3) := by decide +kernel
theorem dX11_carts_32 : decode cX11_carts 32 = .ok (.goto (-28), 3) := by decide +kernel
theorem dX11_carts_35 : decode cX11_carts 35 = .ok (.iload_n 1, 1) := by decide +kernel
theorem dX11_carts_36 : decode cX11_carts 36 = .ok (.ireturn, 1) := by decide +kernel
def f_X11_carts_L4 (i0 : Nat) (M : Mm) : Nat → Int32 → Int32 → Option (Int32)
  | 0, _, _ => none
  | n + 1, v1, v2 =>
    if ((M i0 9) ≤ v2) then (some (v1)) else (if 0 ≤ (((10 : Int32) * v2) + (2 : Int32)).toInt ∧ (((10 : Int32) * v2) + (2 : Int32)).toInt < ((40 : Nat) : Int) then (lz (v1 + (M ((i0 + 14) + 6) (ix (((10 : Int32) * v2) + (2 : Int32))))) fun x3 => lz (v2 + (1 : Int32)) fun x5 => f_X11_carts_L4 i0 M n x3 x5) else none)
def f_X11_carts (i0 : Nat) (M : Mm) : Option Int32 :=
  bd1 (f_X11_carts_L4 i0 M FU (0 : Int32) (0 : Int32)) fun x8 => some x8
set_option maxHeartbeats 4000000 in
set_option maxRecDepth 100000 in
theorem l_X11_carts_L4 {p : Program} {e : Env} {s : State} {m : MethodId} {args : Array Value} {below : List Frame} {meth : Method} {c : Code} {l : Launch} {G : GG} {Q : State → Prop} (hC : CX p s m args meth c cX11_carts 3 RX11 (some .int) G) {i0 : Nat} (hi0 : (kd i0).1 = 5) (M : Mm) : ∀ (n : Nat) (v1 : Int32) (v2 : Int32) {o1 : Int32} (hr : f_X11_carts_L4 i0 M n v1 v2 = some (o1)) (K : XJ p l e (RM 0 0 0 0) s m args below meth c G 3 Q 0 0 M 35 [(1, .int o1)] []), XJ p l e (RM 0 0 0 0) s m args below meth c G 3 Q 0 0 M 4 [(0, .ref (G.2.1 i0)), (1, .int v1), (2, .int v2)] [] := by
  intro n
  induction n with
  | zero => intro v1 v2 o1 hr K; rw [f_X11_carts_L4] at hr; cases hr
  | succ n ih =>
    intro v1 v2 o1 hr K
    rw [f_X11_carts_L4] at hr
    refine x_iload_n hC dX11_carts_4 rfl 2 rfl ?_
    refine x_aload_n hC dX11_carts_5 rfl 0 rfl ?_
    refine gf_X11_236 hC hi0 dX11_carts_6 ?_
    refine x_icmp_ge hC 35 dX11_carts_9 (by decide) (fun h1 => ?_) (fun h1 => ?_)
    · have hr := (ie_s hr).1 h1
      cases hr
      exact x_sub [1] rfl K
    · have hr := (ie_s hr).2 h1
      refine x_iload_n hC dX11_carts_12 rfl 1 rfl ?_
      refine x_aload_n hC dX11_carts_13 rfl 0 rfl ?_
      refine gf_X11_53 hC hi0 dX11_carts_14 ?_
      refine gf_X11_239 hC (kr_5_29 hi0) dX11_carts_17 ?_
      refine x_bipush hC (10 : Int32) dX11_carts_20 (by decide) ?_
      refine x_iload_n hC dX11_carts_22 rfl 2 rfl ?_
      refine x_imul hC dX11_carts_23 ?_
      refine x_iconst hC (2 : Int32) dX11_carts_24 (by decide) ?_
      refine x_iadd hC dX11_carts_25 ?_
      obtain ⟨h2, hr⟩ := it_s hr
      refine x_iald hC (kr_4_11 (kr_5_29 hi0)) h2 dX11_carts_26 ?_
      refine x_iadd hC dX11_carts_27 ?_
      obtain ⟨x3, e4, hr⟩ := lz_s hr
      refine x_topi e4 ?_
      refine x_istore_n hC [(1, .int x3), (0, .ref (G.2.1 i0)), (2, .int v2)] dX11_carts_28 rfl (Nat.le_of_ble_eq_true rfl) rfl ?_
      obtain ⟨x5, e6, hr⟩ := lz_s hr
      refine x_iinc hC [(2, .int x5), (1, .int x3), (0, .ref (G.2.1 i0))] dX11_carts_29 2 rfl (by rw [e6]; rfl) (Nat.le_of_ble_eq_true rfl) rfl ?_
      refine x_goto hC 4 dX11_carts_32 (by decide) ?_
      exact x_sub [2, 1, 0] rfl (ih x3 x5 hr K)
set_option maxHeartbeats 4000000 in
set_option maxRecDepth 100000 in
theorem c_X11_carts (l : Launch) (G : GG) (M : Mm) {i0 : Nat} (hi0 : (kd i0).1 = 5) {r : Int32} (hr : f_X11_carts i0 M = some r) : Mo false l yX11_carts (WS yX11_carts cX11_carts 3 (some .int)) (RM 0 0 0 0) 0 0 [.ref (G.2.1 i0)] G M (some (.int r)) M := by
  refine Mo.of (by decide +kernel) (Nat.le_of_ble_eq_true rfl) ?_
  intro p e s m args below meth c hC
  have hC : CX p s m args meth c cX11_carts 3 RX11 (some .int) G := hC
  rw [f_X11_carts] at hr
  show XJ p l e (RM 0 0 0 0) s m args below meth c G 3 _ 0 0 M 0 [(0, .ref (G.2.1 i0))] []
  refine x_iconst hC (0 : Int32) dX11_carts_0 (by decide) ?_
  refine x_istore_n hC [(1, .int (0 : Int32)), (0, .ref (G.2.1 i0))] dX11_carts_1 rfl (Nat.le_of_ble_eq_true rfl) rfl ?_
  refine x_iconst hC (0 : Int32) dX11_carts_2 (by decide) ?_
  refine x_istore_n hC [(2, .int (0 : Int32)), (1, .int (0 : Int32)), (0, .ref (G.2.1 i0))] dX11_carts_3 rfl (Nat.le_of_ble_eq_true rfl) rfl ?_
  obtain ⟨x8, q7, hr⟩ := bd1_s hr
  refine x_sub [2, 1, 0] rfl (l_X11_carts_L4 hC hi0 M FU  (0 : Int32) (0 : Int32) q7 ?_)
  refine x_iload_n hC dX11_carts_35 rfl 0 rfl ?_
  cases hr
  exact x_iret hC rfl dX11_carts_36

theorem dX11_counted_0 : decode cX11_counted 0 = .ok (.iconst 0, 1) := by decide +kernel
theorem dX11_counted_1 : decode cX11_counted 1 = .ok (.istore_n 2, 1) := by decide +kernel
theorem dX11_counted_2 : decode cX11_counted 2 = .ok (.aload_n 0, 1) := by decide +kernel
theorem dX11_counted_3 : decode cX11_counted 3 = .ok (.getfield 53, 3) := by decide +kernel
theorem dX11_counted_6 : decode cX11_counted 6 = .ok (.getfield 66, 3) := by decide +kernel
theorem dX11_counted_9 : decode cX11_counted 9 = .ok (.astore_n 3, 1) := by decide +kernel
theorem dX11_counted_10 : decode cX11_counted 10 = .ok (.aload_n 3, 1) := by decide +kernel
theorem dX11_counted_11 : decode cX11_counted 11 = .ok (.arraylength, 1) := by decide +kernel
theorem dX11_counted_12 : decode cX11_counted 12 = .ok (.istore 4, 2) := by decide +kernel
theorem dX11_counted_14 : decode cX11_counted 14 = .ok (.iconst 0, 1) := by decide +kernel
theorem dX11_counted_15 : decode cX11_counted 15 = .ok (.istore 5, 2) := by decide +kernel
theorem dX11_counted_17 : decode cX11_counted 17 = .ok (.iload 5, 2) := by decide +kernel
theorem dX11_counted_19 : decode cX11_counted 19 = .ok (.iload 4, 2) := by decide +kernel
theorem dX11_counted_21 : decode cX11_counted 21 = .ok (.if_icmp .ge 30, 3) := by decide +kernel
theorem dX11_counted_24 : decode cX11_counted 24 = .ok (.aload_n 3, 1) := by decide +kernel
theorem dX11_counted_25 : decode cX11_counted 25 = .ok (.iload 5, 2) := by decide +kernel
theorem dX11_counted_27 : decode cX11_counted 27 = .ok (.iaload, 1) := by decide +kernel
theorem dX11_counted_28 : decode cX11_counted 28 = .ok (.istore 6, 2) := by decide +kernel
theorem dX11_counted_30 : decode cX11_counted 30 = .ok (.iload_n 2, 1) := by decide +kernel
theorem dX11_counted_31 : decode cX11_counted 31 = .ok (.iload 6, 2) := by decide +kernel
theorem dX11_counted_33 : decode cX11_counted 33 = .ok (.bipush 9, 2) := by decide +kernel
theorem dX11_counted_35 : decode cX11_counted 35 = .ok (.if_icmp .ne 7, 3) := by decide +kernel
theorem dX11_counted_38 : decode cX11_counted 38 = .ok (.iconst 1, 1) := by decide +kernel
theorem dX11_counted_39 : decode cX11_counted 39 = .ok (.goto 4, 3) := by decide +kernel
theorem dX11_counted_42 : decode cX11_counted 42 = .ok (.iconst 0, 1) := by decide +kernel
theorem dX11_counted_43 : decode cX11_counted 43 = .ok (.iadd, 1) := by decide +kernel
theorem dX11_counted_44 : decode cX11_counted 44 = .ok (.istore_n 2, 1) := by decide +kernel
theorem dX11_counted_45 : decode cX11_counted 45 = .ok (.iinc 5 1, 3) := by decide +kernel
theorem dX11_counted_48 : decode cX11_counted 48 = .ok (.goto (-31), 3) := by decide +kernel
theorem dX11_counted_51 : decode cX11_counted 51 = .ok (.bipush 13, 2) := by decide +kernel
theorem dX11_counted_53 : decode cX11_counted 53 = .ok (.newarray .int, 2) := by decide +kernel
theorem dX11_counted_55 : decode cX11_counted 55 = .ok (.dup, 1) := by decide +kernel
theorem dX11_counted_56 : decode cX11_counted 56 = .ok (.iconst 0, 1) := by decide +kernel
theorem dX11_counted_57 : decode cX11_counted 57 = .ok (.aload_n 0, 1) := by decide +kernel
theorem dX11_counted_58 : decode cX11_counted 58 = .ok (.getfield 53, 3) := by decide +kernel
theorem dX11_counted_61 : decode cX11_counted 61 = .ok (.getfield 247, 3) := by decide +kernel
theorem dX11_counted_64 : decode cX11_counted 64 = .ok (.iastore, 1) := by decide +kernel
theorem dX11_counted_65 : decode cX11_counted 65 = .ok (.dup, 1) := by decide +kernel
theorem dX11_counted_66 : decode cX11_counted 66 = .ok (.iconst 1, 1) := by decide +kernel
theorem dX11_counted_67 : decode cX11_counted 67 = .ok (.aload_n 0, 1) := by decide +kernel
theorem dX11_counted_68 : decode cX11_counted 68 = .ok (.getfield 53, 3) := by decide +kernel
theorem dX11_counted_71 : decode cX11_counted 71 = .ok (.getfield 250, 3) := by decide +kernel
theorem dX11_counted_74 : decode cX11_counted 74 = .ok (.iastore, 1) := by decide +kernel
theorem dX11_counted_75 : decode cX11_counted 75 = .ok (.dup, 1) := by decide +kernel
theorem dX11_counted_76 : decode cX11_counted 76 = .ok (.iconst 2, 1) := by decide +kernel
theorem dX11_counted_77 : decode cX11_counted 77 = .ok (.aload_n 0, 1) := by decide +kernel
theorem dX11_counted_78 : decode cX11_counted 78 = .ok (.getfield 236, 3) := by decide +kernel
theorem dX11_counted_81 : decode cX11_counted 81 = .ok (.iastore, 1) := by decide +kernel
theorem dX11_counted_82 : decode cX11_counted 82 = .ok (.dup, 1) := by decide +kernel
theorem dX11_counted_83 : decode cX11_counted 83 = .ok (.iconst 3, 1) := by decide +kernel
theorem dX11_counted_84 : decode cX11_counted 84 = .ok (.aload_n 0, 1) := by decide +kernel
theorem dX11_counted_85 : decode cX11_counted 85 = .ok (.getfield 76, 3) := by decide +kernel
theorem dX11_counted_88 : decode cX11_counted 88 = .ok (.iastore, 1) := by decide +kernel
theorem dX11_counted_89 : decode cX11_counted 89 = .ok (.dup, 1) := by decide +kernel
theorem dX11_counted_90 : decode cX11_counted 90 = .ok (.iconst 4, 1) := by decide +kernel
theorem dX11_counted_91 : decode cX11_counted 91 = .ok (.aload_n 0, 1) := by decide +kernel
theorem dX11_counted_92 : decode cX11_counted 92 = .ok (.getfield 360, 3) := by decide +kernel
theorem dX11_counted_95 : decode cX11_counted 95 = .ok (.iastore, 1) := by decide +kernel
theorem dX11_counted_96 : decode cX11_counted 96 = .ok (.dup, 1) := by decide +kernel
theorem dX11_counted_97 : decode cX11_counted 97 = .ok (.iconst 5, 1) := by decide +kernel
theorem dX11_counted_98 : decode cX11_counted 98 = .ok (.aload_n 0, 1) := by decide +kernel
theorem dX11_counted_99 : decode cX11_counted 99 = .ok (.getfield 53, 3) := by decide +kernel
theorem dX11_counted_102 : decode cX11_counted 102 = .ok (.getfield 253, 3) := by decide +kernel
theorem dX11_counted_105 : decode cX11_counted 105 = .ok (.iastore, 1) := by decide +kernel
theorem dX11_counted_106 : decode cX11_counted 106 = .ok (.dup, 1) := by decide +kernel
theorem dX11_counted_107 : decode cX11_counted 107 = .ok (.bipush 6, 2) := by decide +kernel
theorem dX11_counted_109 : decode cX11_counted 109 = .ok (.aload_n 0, 1) := by decide +kernel
theorem dX11_counted_110 : decode cX11_counted 110 = .ok (.getfield 53, 3) := by decide +kernel
theorem dX11_counted_113 : decode cX11_counted 113 = .ok (.getfield 332, 3) := by decide +kernel
theorem dX11_counted_116 : decode cX11_counted 116 = .ok (.iastore, 1) := by decide +kernel
theorem dX11_counted_117 : decode cX11_counted 117 = .ok (.dup, 1) := by decide +kernel
theorem dX11_counted_118 : decode cX11_counted 118 = .ok (.bipush 7, 2) := by decide +kernel
theorem dX11_counted_120 : decode cX11_counted 120 = .ok (.aload_n 0, 1) := by decide +kernel
theorem dX11_counted_121 : decode cX11_counted 121 = .ok (.getfield 53, 3) := by decide +kernel
theorem dX11_counted_124 : decode cX11_counted 124 = .ok (.aload_n 0, 1) := by decide +kernel
theorem dX11_counted_125 : decode cX11_counted 125 = .ok (.getfield 53, 3) := by decide +kernel
theorem dX11_counted_128 : decode cX11_counted 128 = .ok (.getfield 241, 3) := by decide +kernel
theorem dX11_counted_131 : decode cX11_counted 131 = .ok (.invokevirtual 363, 3) := by decide +kernel
theorem dX11_counted_134 : decode cX11_counted 134 = .ok (.iastore, 1) := by decide +kernel
theorem dX11_counted_135 : decode cX11_counted 135 = .ok (.dup, 1) := by decide +kernel
theorem dX11_counted_136 : decode cX11_counted 136 = .ok (.bipush 8, 2) := by decide +kernel
theorem dX11_counted_138 : decode cX11_counted 138 = .ok (.aload_n 0, 1) := by decide +kernel
theorem dX11_counted_139 : decode cX11_counted 139 = .ok (.invokevirtual 367, 3) := by decide +kernel
theorem dX11_counted_142 : decode cX11_counted 142 = .ok (.iastore, 1) := by decide +kernel
theorem dX11_counted_143 : decode cX11_counted 143 = .ok (.dup, 1) := by decide +kernel
theorem dX11_counted_144 : decode cX11_counted 144 = .ok (.bipush 9, 2) := by decide +kernel
theorem dX11_counted_146 : decode cX11_counted 146 = .ok (.aload_n 0, 1) := by decide +kernel
theorem dX11_counted_147 : decode cX11_counted 147 = .ok (.getfield 53, 3) := by decide +kernel
theorem dX11_counted_150 : decode cX11_counted 150 = .ok (.getfield 341, 3) := by decide +kernel
theorem dX11_counted_153 : decode cX11_counted 153 = .ok (.iastore, 1) := by decide +kernel
theorem dX11_counted_154 : decode cX11_counted 154 = .ok (.dup, 1) := by decide +kernel
theorem dX11_counted_155 : decode cX11_counted 155 = .ok (.bipush 10, 2) := by decide +kernel
theorem dX11_counted_157 : decode cX11_counted 157 = .ok (.aload_n 0, 1) := by decide +kernel
theorem dX11_counted_158 : decode cX11_counted 158 = .ok (.getfield 53, 3) := by decide +kernel
theorem dX11_counted_161 : decode cX11_counted 161 = .ok (.getfield 326, 3) := by decide +kernel
theorem dX11_counted_164 : decode cX11_counted 164 = .ok (.iastore, 1) := by decide +kernel
theorem dX11_counted_165 : decode cX11_counted 165 = .ok (.dup, 1) := by decide +kernel
theorem dX11_counted_166 : decode cX11_counted 166 = .ok (.bipush 11, 2) := by decide +kernel
theorem dX11_counted_168 : decode cX11_counted 168 = .ok (.aload_n 0, 1) := by decide +kernel
theorem dX11_counted_169 : decode cX11_counted 169 = .ok (.getfield 53, 3) := by decide +kernel
theorem dX11_counted_172 : decode cX11_counted 172 = .ok (.aload_n 0, 1) := by decide +kernel
theorem dX11_counted_173 : decode cX11_counted 173 = .ok (.getfield 53, 3) := by decide +kernel
theorem dX11_counted_176 : decode cX11_counted 176 = .ok (.getfield 63, 3) := by decide +kernel
theorem dX11_counted_179 : decode cX11_counted 179 = .ok (.invokevirtual 363, 3) := by decide +kernel
theorem dX11_counted_182 : decode cX11_counted 182 = .ok (.iastore, 1) := by decide +kernel
theorem dX11_counted_183 : decode cX11_counted 183 = .ok (.dup, 1) := by decide +kernel
theorem dX11_counted_184 : decode cX11_counted 184 = .ok (.bipush 12, 2) := by decide +kernel
theorem dX11_counted_186 : decode cX11_counted 186 = .ok (.iload_n 2, 1) := by decide +kernel
theorem dX11_counted_187 : decode cX11_counted 187 = .ok (.iastore, 1) := by decide +kernel
theorem dX11_counted_188 : decode cX11_counted 188 = .ok (.astore_n 3, 1) := by decide +kernel
theorem dX11_counted_189 : decode cX11_counted 189 = .ok (.aload_n 3, 1) := by decide +kernel
theorem dX11_counted_190 : decode cX11_counted 190 = .ok (.iload_n 1, 1) := by decide +kernel
theorem dX11_counted_191 : decode cX11_counted 191 = .ok (.iaload, 1) := by decide +kernel
theorem dX11_counted_192 : decode cX11_counted 192 = .ok (.ireturn, 1) := by decide +kernel
def f_X11_counted_L17 (i0 : Nat) (a1 : Int32) (a4 : Int32) (M : Mm) : Nat → Int32 → Int32 → Option (Int32)
  | 0, _, _ => none
  | n + 1, v2, v5 =>
    if (a4 ≤ v5) then (some (v2)) else (if 0 ≤ v5.toInt ∧ v5.toInt < ((64 : Nat) : Int) then (lz (M ((i0 + 14) + 2) (ix v5)) fun x3 => lz (if (x3 = (9 : Int32)) then ((1 : Int32)) else ((0 : Int32))) fun x7 => lz (v5 + (1 : Int32)) fun x10 => f_X11_counted_L17 i0 a1 a4 M n (v2 + x7) x10) else none)
def f_X11_counted (i0 : Nat) (a1 : Int32) (M : Mm) : Option (Int32 × Mm) :=
  bd1 (f_X11_counted_L17 i0 a1 (64 : Int32) M FU (0 : Int32) (0 : Int32)) fun x13 => lz (wrow M 100 (fun _ => 0)) fun M14 => if 0 ≤ (0 : Int32).toInt ∧ (0 : Int32).toInt < ((13 : Nat) : Int) then (lz (wr M14 100 (ix (0 : Int32)) (M14 (i0 + 14) 0)) fun M17 => if 0 ≤ (1 : Int32).toInt ∧ (1 : Int32).toInt < ((13 : Nat) : Int) then (lz (wr M17 100 (ix (1 : Int32)) (M17 (i0 + 14) 1)) fun M20 => if 0 ≤ (2 : Int32).toInt ∧ (2 : Int32).toInt < ((13 : Nat) : Int) then (lz (wr M20 100 (ix (2 : Int32)) (M20 i0 9)) fun M23 => if 0 ≤ (3 : Int32).toInt ∧ (3 : Int32).toInt < ((13 : Nat) : Int) then (lz (wr M23 100 (ix (3 : Int32)) (M23 i0 2)) fun M26 => if 0 ≤ (4 : Int32).toInt ∧ (4 : Int32).toInt < ((13 : Nat) : Int) then (lz (wr M26 100 (ix (4 : Int32)) (M26 i0 5)) fun M29 => if 0 ≤ (5 : Int32).toInt ∧ (5 : Int32).toInt < ((13 : Nat) : Int) then (lz (wr M29 100 (ix (5 : Int32)) (M29 (i0 + 14) 2)) fun M32 => if 0 ≤ (6 : Int32).toInt ∧ (6 : Int32).toInt < ((13 : Nat) : Int) then (lz (wr M32 100 (ix (6 : Int32)) (M32 (i0 + 14) 3)) fun M35 => bd1 (f_X10_all (i0 + 14) ((i0 + 14) + 3) M35) fun x37 => if 0 ≤ (7 : Int32).toInt ∧ (7 : Int32).toInt < ((13 : Nat) : Int) then (lz (wr M35 100 (ix (7 : Int32)) x37) fun M41 => bd1 (f_X11_carts i0 M41) fun x43 => if 0 ≤ (8 : Int32).toInt ∧ (8 : Int32).toInt < ((13 : Nat) : Int) then (lz (wr M41 100 (ix (8 : Int32)) x43) fun M47 => if 0 ≤ (9 : Int32).toInt ∧ (9 : Int32).toInt < ((13 : Nat) : Int) then (lz (wr M47 100 (ix (9 : Int32)) (M47 (i0 + 14) 4)) fun M50 => if 0 ≤ (10 : Int32).toInt ∧ (10 : Int32).toInt < ((13 : Nat) : Int) then (lz (wr M50 100 (ix (10 : Int32)) (M50 (i0 + 14) 5)) fun M53 => bd1 (f_X10_all (i0 + 14) ((i0 + 14) + 1) M53) fun x55 => if 0 ≤ (11 : Int32).toInt ∧ (11 : Int32).toInt < ((13 : Nat) : Int) then (lz (wr M53 100 (ix (11 : Int32)) x55) fun M59 => if 0 ≤ (12 : Int32).toInt ∧ (12 : Int32).toInt < ((13 : Nat) : Int) then (lz (wr M59 100 (ix (12 : Int32)) x13) fun M62 => if 0 ≤ a1.toInt ∧ a1.toInt < ((13 : Nat) : Int) then (some ((M62 100 (ix a1)), M62)) else none) else none) else none) else none) else none) else none) else none) else none) else none) else none) else none) else none) else none) else none
set_option maxHeartbeats 4000000 in
set_option maxRecDepth 100000 in
theorem l_X11_counted_L17 {p : Program} {e : Env} {s : State} {m : MethodId} {args : Array Value} {below : List Frame} {meth : Method} {c : Code} {l : Launch} {G : GG} {Q : State → Prop} (hC : CX p s m args meth c cX11_counted 7 RX11 (some .int) G) {i0 : Nat} (hi0 : (kd i0).1 = 5) (a1 : Int32) (a4 : Int32) (M : Mm) : ∀ (n : Nat) (v2 : Int32) (v5 : Int32) {o2 : Int32} (hr : f_X11_counted_L17 i0 a1 a4 M n v2 v5 = some (o2)) (K : XJ p l e (RM 1 1 13 26) s m args below meth c G 7 Q 0 0 M 51 [(0, .ref (G.2.1 i0)), (1, .int a1), (2, .int o2)] []), XJ p l e (RM 1 1 13 26) s m args below meth c G 7 Q 0 0 M 17 [(0, .ref (G.2.1 i0)), (1, .int a1), (2, .int v2), (3, .ref (G.2.1 ((i0 + 14) + 2))), (4, .int a4), (5, .int v5)] [] := by
  intro n
  induction n with
  | zero => intro v2 v5 o2 hr K; rw [f_X11_counted_L17] at hr; cases hr
  | succ n ih =>
    intro v2 v5 o2 hr K
    rw [f_X11_counted_L17] at hr
    refine x_iload hC dX11_counted_17 5 rfl ?_
    refine x_iload hC dX11_counted_19 4 rfl ?_
    refine x_icmp_ge hC 51 dX11_counted_21 (by decide) (fun h1 => ?_) (fun h1 => ?_)
    · have hr := (ie_s hr).1 h1
      cases hr
      exact x_sub [0, 1, 2] rfl K
    · have hr := (ie_s hr).2 h1
      refine x_aload_n hC dX11_counted_24 rfl 3 rfl ?_
      refine x_iload hC dX11_counted_25 5 rfl ?_
      obtain ⟨h2, hr⟩ := it_s hr
      refine x_iald hC (kr_4_7 (kr_5_29 hi0)) h2 dX11_counted_27 ?_
      obtain ⟨x3, e4, hr⟩ := lz_s hr
      refine x_topi e4 ?_
      refine x_istore hC [(6, .int x3), (0, .ref (G.2.1 i0)), (1, .int a1), (2, .int v2), (3, .ref (G.2.1 ((i0 + 14) + 2))), (4, .int a4), (5, .int v5)] dX11_counted_28  (Nat.le_of_ble_eq_true rfl) rfl ?_
      refine x_iload_n hC dX11_counted_30 rfl 3 rfl ?_
      refine x_iload hC dX11_counted_31 0 rfl ?_
      refine x_bipush hC (9 : Int32) dX11_counted_33 (by decide) ?_
      obtain ⟨x7, e8, hr⟩ := lz_s hr
      have q5 := e8.symm
      refine x_joinB (P := (x7 = 0 ∨ x7 = 1)) (M' := M) (pc' := 43) (lv' := [(0, .ref (G.2.1 i0)), (1, .int a1), (3, .ref (G.2.1 ((i0 + 14) + 2))), (4, .int a4), (5, .int v5)]) (st' := [.int x7, .int v2]) ?_ ?_
      · intro b9
        refine x_iadd hC dX11_counted_43 ?_
        refine x_istore_n hC [(2, .int (v2 + x7)), (0, .ref (G.2.1 i0)), (1, .int a1), (3, .ref (G.2.1 ((i0 + 14) + 2))), (4, .int a4), (5, .int v5)] dX11_counted_44 rfl (Nat.le_of_ble_eq_true rfl) rfl ?_
        obtain ⟨x10, e11, hr⟩ := lz_s hr
        refine x_iinc hC [(5, .int x10), (2, .int (v2 + x7)), (0, .ref (G.2.1 i0)), (1, .int a1), (3, .ref (G.2.1 ((i0 + 14) + 2))), (4, .int a4)] dX11_counted_45 5 rfl (by rw [e11]; rfl) (Nat.le_of_ble_eq_true rfl) rfl ?_
        refine x_goto hC 17 dX11_counted_48 (by decide) ?_
        exact x_sub [2, 3, 1, 4, 5, 0] rfl (ih (v2 + x7) x10 hr K)
      · intro kj
        refine x_icmp_ne hC 42 dX11_counted_35 (by decide) (fun h6 => ?_) (fun h6 => ?_)
        · have q5 := (ie_s q5).2 h6
          refine x_iconst hC (0 : Int32) dX11_counted_42 (by decide) ?_
          subst q5
          exact x_sub [1, 2, 4, 5, 6] rfl (kj (Or.inl rfl))
        · have q5 := (ie_s q5).1 h6
          refine x_iconst hC (1 : Int32) dX11_counted_38 (by decide) ?_
          refine x_goto hC 43 dX11_counted_39 (by decide) ?_
          subst q5
          exact x_sub [1, 2, 4, 5, 6] rfl (kj (Or.inr rfl))
set_option maxHeartbeats 4000000 in
set_option maxRecDepth 100000 in
theorem c_X11_counted (l : Launch) (G : GG) (M : Mm) (hE : G.2.2.2 = []) {i0 : Nat} (hi0 : (kd i0).1 = 5) (a1 : Int32) {r : Int32} {M9 : Mm} (hr : f_X11_counted i0 a1 M = some (r, M9)) : Mo false l yX11_counted (WS yX11_counted cX11_counted 7 (some .int)) (RM 1 1 13 26) 1 13 [.ref (G.2.1 i0), .int a1] G M (some (.int r)) M9 := by
  refine Mo.of (by decide +kernel) (Nat.le_of_ble_eq_true rfl) ?_
  intro p e s m args below meth c hC
  have hC : CX p s m args meth c cX11_counted 7 RX11 (some .int) G := hC
  rw [f_X11_counted] at hr
  show XJ p l e (RM 1 1 13 26) s m args below meth c G 7 _ 0 0 M 0 [(0, .ref (G.2.1 i0)), (1, .int a1)] []
  refine x_iconst hC (0 : Int32) dX11_counted_0 (by decide) ?_
  refine x_istore_n hC [(2, .int (0 : Int32)), (0, .ref (G.2.1 i0)), (1, .int a1)] dX11_counted_1 rfl (Nat.le_of_ble_eq_true rfl) rfl ?_
  refine x_aload_n hC dX11_counted_2 rfl 1 rfl ?_
  refine gf_X11_53 hC hi0 dX11_counted_3 ?_
  refine gf_X11_66 hC (kr_5_29 hi0) dX11_counted_6 ?_
  refine x_astore_n hC [(3, .ref (G.2.1 ((i0 + 14) + 2))), (2, .int (0 : Int32)), (0, .ref (G.2.1 i0)), (1, .int a1)] dX11_counted_9 rfl (Nat.le_of_ble_eq_true rfl) rfl ?_
  refine x_aload_n hC dX11_counted_10 rfl 0 rfl ?_
  refine x_alen hC (64 : Int32) (kr_4_7 (kr_5_29 hi0)) (by decide) dX11_counted_11 ?_
  refine x_istore hC [(4, .int (64 : Int32)), (3, .ref (G.2.1 ((i0 + 14) + 2))), (2, .int (0 : Int32)), (0, .ref (G.2.1 i0)), (1, .int a1)] dX11_counted_12  (Nat.le_of_ble_eq_true rfl) rfl ?_
  refine x_iconst hC (0 : Int32) dX11_counted_14 (by decide) ?_
  refine x_istore hC [(5, .int (0 : Int32)), (4, .int (64 : Int32)), (3, .ref (G.2.1 ((i0 + 14) + 2))), (2, .int (0 : Int32)), (0, .ref (G.2.1 i0)), (1, .int a1)] dX11_counted_15  (Nat.le_of_ble_eq_true rfl) rfl ?_
  obtain ⟨x13, q12, hr⟩ := bd1_s hr
  refine x_sub [4, 5, 3, 2, 1, 0] rfl (l_X11_counted_L17 hC hi0 a1 (64 : Int32) M FU  (0 : Int32) (0 : Int32) q12 ?_)
  refine x_bipush hC (13 : Int32) dX11_counted_51 (by decide) ?_
  obtain ⟨M14, e15, hr⟩ := lz_s hr
  refine x_newa hC hE (N := 13) (by decide) (by decide) (by decide) ⟨(Nat.le_of_ble_eq_true rfl), (Nat.le_of_ble_eq_true rfl)⟩ e15 ka_int dX11_counted_53 (fun qa hqa hC => ?_)
  refine x_dup hC dX11_counted_55 rfl ?_
  refine x_iconst hC (0 : Int32) dX11_counted_56 (by decide) ?_
  refine x_aload_n hC dX11_counted_57 rfl 0 rfl ?_
  refine gf_X11_53 hC hi0 dX11_counted_58 ?_
  refine gf_X11_247 hC (kr_5_29 hi0) dX11_counted_61 ?_
  obtain ⟨h16, hr⟩ := it_s hr
  obtain ⟨M17, e18, hr⟩ := lz_s hr
  refine x_xast hC rfl h16 e18 dX11_counted_64 ?_
  refine x_dup hC dX11_counted_65 rfl ?_
  refine x_iconst hC (1 : Int32) dX11_counted_66 (by decide) ?_
  refine x_aload_n hC dX11_counted_67 rfl 0 rfl ?_
  refine gf_X11_53 hC hi0 dX11_counted_68 ?_
  refine gf_X11_250 hC (kr_5_29 hi0) dX11_counted_71 ?_
  obtain ⟨h19, hr⟩ := it_s hr
  obtain ⟨M20, e21, hr⟩ := lz_s hr
  refine x_xast hC rfl h19 e21 dX11_counted_74 ?_
  refine x_dup hC dX11_counted_75 rfl ?_
  refine x_iconst hC (2 : Int32) dX11_counted_76 (by decide) ?_
  refine x_aload_n hC dX11_counted_77 rfl 0 rfl ?_
  refine gf_X11_236 hC hi0 dX11_counted_78 ?_
  obtain ⟨h22, hr⟩ := it_s hr
  obtain ⟨M23, e24, hr⟩ := lz_s hr
  refine x_xast hC rfl h22 e24 dX11_counted_81 ?_
  refine x_dup hC dX11_counted_82 rfl ?_
  refine x_iconst hC (3 : Int32) dX11_counted_83 (by decide) ?_
  refine x_aload_n hC dX11_counted_84 rfl 0 rfl ?_
  refine gf_X11_76 hC hi0 dX11_counted_85 ?_
  obtain ⟨h25, hr⟩ := it_s hr
  obtain ⟨M26, e27, hr⟩ := lz_s hr
  refine x_xast hC rfl h25 e27 dX11_counted_88 ?_
  refine x_dup hC dX11_counted_89 rfl ?_
  refine x_iconst hC (4 : Int32) dX11_counted_90 (by decide) ?_
  refine x_aload_n hC dX11_counted_91 rfl 0 rfl ?_
  refine gf_X11_360 hC hi0 dX11_counted_92 ?_
  obtain ⟨h28, hr⟩ := it_s hr
  obtain ⟨M29, e30, hr⟩ := lz_s hr
  refine x_xast hC rfl h28 e30 dX11_counted_95 ?_
  refine x_dup hC dX11_counted_96 rfl ?_
  refine x_iconst hC (5 : Int32) dX11_counted_97 (by decide) ?_
  refine x_aload_n hC dX11_counted_98 rfl 0 rfl ?_
  refine gf_X11_53 hC hi0 dX11_counted_99 ?_
  refine gf_X11_253 hC (kr_5_29 hi0) dX11_counted_102 ?_
  obtain ⟨h31, hr⟩ := it_s hr
  obtain ⟨M32, e33, hr⟩ := lz_s hr
  refine x_xast hC rfl h31 e33 dX11_counted_105 ?_
  refine x_dup hC dX11_counted_106 rfl ?_
  refine x_bipush hC (6 : Int32) dX11_counted_107 (by decide) ?_
  refine x_aload_n hC dX11_counted_109 rfl 0 rfl ?_
  refine gf_X11_53 hC hi0 dX11_counted_110 ?_
  refine gf_X11_332 hC (kr_5_29 hi0) dX11_counted_113 ?_
  obtain ⟨h34, hr⟩ := it_s hr
  obtain ⟨M35, e36, hr⟩ := lz_s hr
  refine x_xast hC rfl h34 e36 dX11_counted_116 ?_
  refine x_dup hC dX11_counted_117 rfl ?_
  refine x_bipush hC (7 : Int32) dX11_counted_118 (by decide) ?_
  refine x_aload_n hC dX11_counted_120 rfl 0 rfl ?_
  refine gf_X11_53 hC hi0 dX11_counted_121 ?_
  refine x_aload_n hC dX11_counted_124 rfl 0 rfl ?_
  refine gf_X11_53 hC hi0 dX11_counted_125 ?_
  refine gf_X11_241 hC (kr_5_29 hi0) dX11_counted_128 ?_
  obtain ⟨x37, q38, hr⟩ := bd1_s hr
  refine x_callV (ci := 4) (q := (RX10, TX10, 13)) (As := [.ref (G.2.1 ((i0 + 14) + 3))]) hC (c_X10_all l (GX G qa 13) M35 (kr_5_29 hi0) (kr_4_8 (kr_5_29 hi0)) q38) kc_yX10_all km_X11_363 ki_yX10_all kv_yX10_all kn_RX10 ky_yX10_all rfl ⟨rfl, rfl⟩ ⟨(Nat.le_of_ble_eq_true rfl), (Nat.le_of_ble_eq_true rfl)⟩ (kr_5_29 hi0) (by decide) rfl rfl (Nat.le_of_ble_eq_true rfl) ⟨(Nat.le_of_ble_eq_true rfl), (Nat.le_of_ble_eq_true rfl)⟩ dX11_counted_131 (fun b39 => ?_)
  obtain ⟨h40, hr⟩ := it_s hr
  obtain ⟨M41, e42, hr⟩ := lz_s hr
  refine x_xast hC rfl h40 e42 dX11_counted_134 ?_
  refine x_dup hC dX11_counted_135 rfl ?_
  refine x_bipush hC (8 : Int32) dX11_counted_136 (by decide) ?_
  refine x_aload_n hC dX11_counted_138 rfl 0 rfl ?_
  obtain ⟨x43, q44, hr⟩ := bd1_s hr
  refine x_callV (ci := 5) (q := (RX11, TX11, 32)) (As := []) hC (c_X11_carts l (GX G qa 13) M41 hi0 q44) kc_yX11_carts km_X11_367 ki_yX11_carts kv_yX11_carts kn_RX11 ky_yX11_carts rfl ⟨rfl, rfl⟩ ⟨(Nat.le_of_ble_eq_true rfl), (Nat.le_of_ble_eq_true rfl)⟩ hi0 (by decide) rfl rfl (Nat.le_of_ble_eq_true rfl) ⟨(Nat.le_of_ble_eq_true rfl), (Nat.le_of_ble_eq_true rfl)⟩ dX11_counted_139 (fun b45 => ?_)
  obtain ⟨h46, hr⟩ := it_s hr
  obtain ⟨M47, e48, hr⟩ := lz_s hr
  refine x_xast hC rfl h46 e48 dX11_counted_142 ?_
  refine x_dup hC dX11_counted_143 rfl ?_
  refine x_bipush hC (9 : Int32) dX11_counted_144 (by decide) ?_
  refine x_aload_n hC dX11_counted_146 rfl 0 rfl ?_
  refine gf_X11_53 hC hi0 dX11_counted_147 ?_
  refine gf_X11_341 hC (kr_5_29 hi0) dX11_counted_150 ?_
  obtain ⟨h49, hr⟩ := it_s hr
  obtain ⟨M50, e51, hr⟩ := lz_s hr
  refine x_xast hC rfl h49 e51 dX11_counted_153 ?_
  refine x_dup hC dX11_counted_154 rfl ?_
  refine x_bipush hC (10 : Int32) dX11_counted_155 (by decide) ?_
  refine x_aload_n hC dX11_counted_157 rfl 0 rfl ?_
  refine gf_X11_53 hC hi0 dX11_counted_158 ?_
  refine gf_X11_326 hC (kr_5_29 hi0) dX11_counted_161 ?_
  obtain ⟨h52, hr⟩ := it_s hr
  obtain ⟨M53, e54, hr⟩ := lz_s hr
  refine x_xast hC rfl h52 e54 dX11_counted_164 ?_
  refine x_dup hC dX11_counted_165 rfl ?_
  refine x_bipush hC (11 : Int32) dX11_counted_166 (by decide) ?_
  refine x_aload_n hC dX11_counted_168 rfl 0 rfl ?_
  refine gf_X11_53 hC hi0 dX11_counted_169 ?_
  refine x_aload_n hC dX11_counted_172 rfl 0 rfl ?_
  refine gf_X11_53 hC hi0 dX11_counted_173 ?_
  refine gf_X11_63 hC (kr_5_29 hi0) dX11_counted_176 ?_
  obtain ⟨x55, q56, hr⟩ := bd1_s hr
  refine x_callV (ci := 4) (q := (RX10, TX10, 13)) (As := [.ref (G.2.1 ((i0 + 14) + 1))]) hC (c_X10_all l (GX G qa 13) M53 (kr_5_29 hi0) (kr_4_6 (kr_5_29 hi0)) q56) kc_yX10_all km_X11_363 ki_yX10_all kv_yX10_all kn_RX10 ky_yX10_all rfl ⟨rfl, rfl⟩ ⟨(Nat.le_of_ble_eq_true rfl), (Nat.le_of_ble_eq_true rfl)⟩ (kr_5_29 hi0) (by decide) rfl rfl (Nat.le_of_ble_eq_true rfl) ⟨(Nat.le_of_ble_eq_true rfl), (Nat.le_of_ble_eq_true rfl)⟩ dX11_counted_179 (fun b57 => ?_)
  obtain ⟨h58, hr⟩ := it_s hr
  obtain ⟨M59, e60, hr⟩ := lz_s hr
  refine x_xast hC rfl h58 e60 dX11_counted_182 ?_
  refine x_dup hC dX11_counted_183 rfl ?_
  refine x_bipush hC (12 : Int32) dX11_counted_184 (by decide) ?_
  refine x_iload_n hC dX11_counted_186 rfl 2 rfl ?_
  obtain ⟨h61, hr⟩ := it_s hr
  obtain ⟨M62, e63, hr⟩ := lz_s hr
  refine x_xast hC rfl h61 e63 dX11_counted_187 ?_
  refine x_astore_n hC [(3, .ref qa), (0, .ref (G.2.1 i0)), (1, .int a1), (2, .int x13)] dX11_counted_188 rfl (Nat.le_of_ble_eq_true rfl) rfl ?_
  refine x_aload_n hC dX11_counted_189 rfl 0 rfl ?_
  refine x_iload_n hC dX11_counted_190 rfl 2 rfl ?_
  obtain ⟨h64, hr⟩ := it_s hr
  refine x_xald hC rfl h64 dX11_counted_191 ?_
  cases hr
  exact x_iretX hC hqa hE rfl dX11_counted_192

theorem dX11_count_0 : decode cX11_count 0 = .ok (.aload_n 0, 1) := by decide +kernel
theorem dX11_count_1 : decode cX11_count 1 = .ok (.iconst 0, 1) := by decide +kernel
theorem dX11_count_2 : decode cX11_count 2 = .ok (.putfield 69, 3) := by decide +kernel
theorem dX11_count_5 : decode cX11_count 5 = .ok (.iload_n 1, 1) := by decide +kernel
theorem dX11_count_6 : decode cX11_count 6 = .ok (.iconst 0, 1) := by decide +kernel
theorem dX11_count_7 : decode cX11_count 7 = .ok (.bipush 12, 2) := by decide +kernel
theorem dX11_count_9 : decode cX11_count 9 = .ok (.invokestatic 72, 3) := by decide +kernel
theorem dX11_count_12 : decode cX11_count 12 = .ok (.ifCond .eq 11, 3) := by decide +kernel
theorem dX11_count_15 : decode cX11_count 15 = .ok (.aload_n 0, 1) := by decide +kernel
theorem dX11_count_16 : decode cX11_count 16 = .ok (.iload_n 1, 1) := by decide +kernel
theorem dX11_count_17 : decode cX11_count 17 = .ok (.invokevirtual 370, 3) := by decide +kernel
theorem dX11_count_20 : decode cX11_count 20 = .ok (.goto 8, 3) := by decide +kernel
theorem dX11_count_23 : decode cX11_count 23 = .ok (.aload_n 0, 1) := by decide +kernel
theorem dX11_count_24 : decode cX11_count 24 = .ok (.iconst 1, 1) := by decide +kernel
theorem dX11_count_25 : decode cX11_count 25 = .ok (.invokevirtual 221, 3) := by decide +kernel
theorem dX11_count_28 : decode cX11_count 28 = .ok (.ireturn, 1) := by decide +kernel

def f_X11_count (i0 : Nat) (a1 : Int32) (M : Mm) : Option (Int32 × Mm) :=
  lz (wr M i0 0 (0 : Int32)) fun M1 => lz (f_X11_isIn a1 (0 : Int32) (12 : Int32)) fun x3 => if (x3 = 0) then (bd2 (f_X11_no i0 (1 : Int32) M1) fun x7 M8 => some (x7, M8)) else (bd2 (f_X11_counted i0 a1 M1) fun x11 M12 => some (x11, M12))

set_option maxHeartbeats 4000000 in
set_option maxRecDepth 100000 in
theorem c_X11_count (l : Launch) (G : GG) (M : Mm) (hE : G.2.2.2 = []) {i0 : Nat} (hi0 : (kd i0).1 = 5) (a1 : Int32) {r : Int32} {M9 : Mm} (hr : f_X11_count i0 a1 M = some (r, M9)) : Mo false l yX11_count (WS yX11_count cX11_count 2 (some .int)) (RM 2 1 13 52) 1 13 [.ref (G.2.1 i0), .int a1] G M (some (.int r)) M9 := by
  refine Mo.of (by decide +kernel) (Nat.le_of_ble_eq_true rfl) ?_
  intro p e s m args below meth c hC
  have hC : CX p s m args meth c cX11_count 2 RX11 (some .int) G := hC
  rw [f_X11_count] at hr
  show XJ p l e (RM 2 1 13 52) s m args below meth c G 2 _ 0 0 M 0 [(0, .ref (G.2.1 i0)), (1, .int a1)] []
  refine x_aload_n hC dX11_count_0 rfl 0 rfl ?_
  refine x_iconst hC (0 : Int32) dX11_count_1 (by decide) ?_
  obtain ⟨M1, e2, hr⟩ := lz_s hr
  refine pf_X11_69 hC hi0 e2 dX11_count_2 ?_
  refine x_iload_n hC dX11_count_5 rfl 1 rfl ?_
  refine x_iconst hC (0 : Int32) dX11_count_6 (by decide) ?_
  refine x_bipush hC (12 : Int32) dX11_count_7 (by decide) ?_
  obtain ⟨x3, e4, hr⟩ := lz_s hr
  refine x_callS (As := [.int a1, .int (0 : Int32), .int (12 : Int32)]) hC (c_X11_isIn l G M1 a1 (0 : Int32) (12 : Int32) e4.symm) kc_yX11_isIn km_X11_72 kt_yX11_isIn kn_RX11 ky_yX11_isIn rfl ⟨rfl, rfl⟩ ⟨(Nat.le_of_ble_eq_true rfl), (Nat.le_of_ble_eq_true rfl)⟩ rfl (Nat.le_of_ble_eq_true rfl) ⟨(Nat.le_of_ble_eq_true rfl), (Nat.le_of_ble_eq_true rfl)⟩ dX11_count_9 (fun b5 => ?_)
  refine x_if_eq hC 23 dX11_count_12 (by decide) (fun h6 => ?_) (fun h6 => ?_)
  · have hr := (ie_s hr).1 h6
    refine x_aload_n hC dX11_count_23 rfl 0 rfl ?_
    refine x_iconst hC (1 : Int32) dX11_count_24 (by decide) ?_
    obtain ⟨x7, M8, q9, hr⟩ := bd2_s hr
    refine x_callV (ci := 5) (q := (RX11, TX11, 32)) (As := [.int (1 : Int32)]) hC (c_X11_no l G M1 hi0 (1 : Int32) q9) kc_yX11_no km_X11_221 ki_yX11_no kv_yX11_no kn_RX11 ky_yX11_no rfl ⟨rfl, rfl⟩ ⟨(Nat.le_of_ble_eq_true rfl), (Nat.le_of_ble_eq_true rfl)⟩ hi0 (by decide) rfl rfl (Nat.le_of_ble_eq_true rfl) ⟨(Nat.le_of_ble_eq_true rfl), (Nat.le_of_ble_eq_true rfl)⟩ dX11_count_25 (fun b10 => ?_)
    cases hr
    exact x_widen (Nat.le_of_ble_eq_true rfl) (Nat.le_of_ble_eq_true rfl) (x_iret hC rfl dX11_count_28)
  · have hr := (ie_s hr).2 h6
    refine x_aload_n hC dX11_count_15 rfl 0 rfl ?_
    refine x_iload_n hC dX11_count_16 rfl 1 rfl ?_
    obtain ⟨x11, M12, q13, hr⟩ := bd2_s hr
    refine x_callV (ci := 5) (q := (RX11, TX11, 32)) (As := [.int a1]) hC (c_X11_counted l G M1 hE hi0 a1 q13) kc_yX11_counted km_X11_370 ki_yX11_counted kv_yX11_counted kn_RX11 ky_yX11_counted rfl ⟨rfl, rfl⟩ ⟨(Nat.le_of_ble_eq_true rfl), (Nat.le_of_ble_eq_true rfl)⟩ hi0 (by decide) rfl rfl (Nat.le_of_ble_eq_true rfl) ⟨(Nat.le_of_ble_eq_true rfl), (Nat.le_of_ble_eq_true rfl)⟩ dX11_count_17 (fun b14 => ?_)
    refine x_goto hC 28 dX11_count_20 (by decide) ?_
    cases hr
    exact x_widen (Nat.le_of_ble_eq_true rfl) (Nat.le_of_ble_eq_true rfl) (x_iret hC rfl dX11_count_28)

theorem dX11_setWeather_0 : decode cX11_setWeather 0 = .ok (.aload_n 0, 1) := by decide +kernel
theorem dX11_setWeather_1 : decode cX11_setWeather 1 = .ok (.iconst 0, 1) := by decide +kernel
theorem dX11_setWeather_2 : decode cX11_setWeather 2 = .ok (.putfield 69, 3) := by decide +kernel
theorem dX11_setWeather_5 : decode cX11_setWeather 5 = .ok (.iload_n 1, 1) := by decide +kernel
theorem dX11_setWeather_6 : decode cX11_setWeather 6 = .ok (.iconst 0, 1) := by decide +kernel
theorem dX11_setWeather_7 : decode cX11_setWeather 7 = .ok (.bipush 11, 2) := by decide +kernel
theorem dX11_setWeather_9 : decode cX11_setWeather 9 = .ok (.invokestatic 72, 3) := by decide +kernel
theorem dX11_setWeather_12 : decode cX11_setWeather 12 = .ok (.ifCond .ne 9, 3) := by decide +kernel
theorem dX11_setWeather_15 : decode cX11_setWeather 15 = .ok (.aload_n 0, 1) := by decide +kernel
theorem dX11_setWeather_16 : decode cX11_setWeather 16 = .ok (.iconst 1, 1) := by decide +kernel
theorem dX11_setWeather_17 : decode cX11_setWeather 17 = .ok (.invokevirtual 221, 3) := by decide +kernel
theorem dX11_setWeather_20 : decode cX11_setWeather 20 = .ok (.ireturn, 1) := by decide +kernel
theorem dX11_setWeather_21 : decode cX11_setWeather 21 = .ok (.iload_n 2, 1) := by decide +kernel
theorem dX11_setWeather_22 : decode cX11_setWeather 22 = .ok (.iconst 0, 1) := by decide +kernel
theorem dX11_setWeather_23 : decode cX11_setWeather 23 = .ok (.bipush 9, 2) := by decide +kernel
theorem dX11_setWeather_25 : decode cX11_setWeather 25 = .ok (.invokestatic 72, 3) := by decide +kernel
theorem dX11_setWeather_28 : decode cX11_setWeather 28 = .ok (.ifCond .eq 13, 3) := by decide +kernel
theorem dX11_setWeather_31 : decode cX11_setWeather 31 = .ok (.iload_n 3, 1) := by decide +kernel
theorem dX11_setWeather_32 : decode cX11_setWeather 32 = .ok (.iconst 0, 1) := by decide +kernel
theorem dX11_setWeather_33 : decode cX11_setWeather 33 = .ok (.bipush 9, 2) := by decide +kernel
theorem dX11_setWeather_35 : decode cX11_setWeather 35 = .ok (.invokestatic 72, 3) := by decide +kernel
theorem dX11_setWeather_38 : decode cX11_setWeather 38 = .ok (.ifCond .ne 9, 3) := by decide +kernel
theorem dX11_setWeather_41 : decode cX11_setWeather 41 = .ok (.aload_n 0, 1) := by decide +kernel
theorem dX11_setWeather_42 : decode cX11_setWeather 42 = .ok (.iconst 2, 1) := by decide +kernel
theorem dX11_setWeather_43 : decode cX11_setWeather 43 = .ok (.invokevirtual 221, 3) := by decide +kernel
theorem dX11_setWeather_46 : decode cX11_setWeather 46 = .ok (.ireturn, 1) := by decide +kernel
theorem dX11_setWeather_47 : decode cX11_setWeather 47 = .ok (.bipush 10, 2) := by decide +kernel
theorem dX11_setWeather_49 : decode cX11_setWeather 49 = .ok (.aload_n 0, 1) := by decide +kernel
theorem dX11_setWeather_50 : decode cX11_setWeather 50 = .ok (.getfield 20, 3) := by decide +kernel
theorem dX11_setWeather_53 : decode cX11_setWeather 53 = .ok (.iload_n 1, 1) := by decide +kernel
theorem dX11_setWeather_54 : decode cX11_setWeather 54 = .ok (.iaload, 1) := by decide +kernel
theorem dX11_setWeather_55 : decode cX11_setWeather 55 = .ok (.imul, 1) := by decide +kernel
theorem dX11_setWeather_56 : decode cX11_setWeather 56 = .ok (.aload_n 0, 1) := by decide +kernel
theorem dX11_setWeather_57 : decode cX11_setWeather 57 = .ok (.getfield 23, 3) := by decide +kernel
theorem dX11_setWeather_60 : decode cX11_setWeather 60 = .ok (.iload_n 1, 1) := by decide +kernel
theorem dX11_setWeather_61 : decode cX11_setWeather 61 = .ok (.iaload, 1) := by decide +kernel
theorem dX11_setWeather_62 : decode cX11_setWeather 62 = .ok (.iadd, 1) := by decide +kernel
theorem dX11_setWeather_63 : decode cX11_setWeather 63 = .ok (.istore 4, 2) := by decide +kernel
theorem dX11_setWeather_65 : decode cX11_setWeather 65 = .ok (.aload_n 0, 1) := by decide +kernel
theorem dX11_setWeather_66 : decode cX11_setWeather 66 = .ok (.getfield 20, 3) := by decide +kernel
theorem dX11_setWeather_69 : decode cX11_setWeather 69 = .ok (.iload_n 1, 1) := by decide +kernel
theorem dX11_setWeather_70 : decode cX11_setWeather 70 = .ok (.iload_n 2, 1) := by decide +kernel
theorem dX11_setWeather_71 : decode cX11_setWeather 71 = .ok (.iastore, 1) := by decide +kernel
theorem dX11_setWeather_72 : decode cX11_setWeather 72 = .ok (.aload_n 0, 1) := by decide +kernel
theorem dX11_setWeather_73 : decode cX11_setWeather 73 = .ok (.getfield 23, 3) := by decide +kernel
theorem dX11_setWeather_76 : decode cX11_setWeather 76 = .ok (.iload_n 1, 1) := by decide +kernel
theorem dX11_setWeather_77 : decode cX11_setWeather 77 = .ok (.iload_n 3, 1) := by decide +kernel
theorem dX11_setWeather_78 : decode cX11_setWeather 78 = .ok (.iastore, 1) := by decide +kernel
theorem dX11_setWeather_79 : decode cX11_setWeather 79 = .ok (.iload 4, 2) := by decide +kernel
theorem dX11_setWeather_81 : decode cX11_setWeather 81 = .ok (.ireturn, 1) := by decide +kernel

def f_X11_setWeather (i0 : Nat) (a1 : Int32) (a2 : Int32) (a3 : Int32) (M : Mm) : Option (Int32 × Mm) :=
  lz (wr M i0 0 (0 : Int32)) fun M1 => lz (f_X11_isIn a1 (0 : Int32) (11 : Int32)) fun x3 => if (x3 = 0) then (bd2 (f_X11_no i0 (1 : Int32) M1) fun x33 M34 => some (x33, M34)) else (lz (f_X11_isIn a2 (0 : Int32) (9 : Int32)) fun x7 => if (x7 = 0) then (bd2 (f_X11_no i0 (2 : Int32) M1) fun x11 M12 => some (x11, M12)) else (lz (f_X11_isIn a3 (0 : Int32) (9 : Int32)) fun x15 => if (x15 = 0) then (bd2 (f_X11_no i0 (2 : Int32) M1) fun x29 M30 => some (x29, M30)) else (if 0 ≤ a1.toInt ∧ a1.toInt < ((12 : Nat) : Int) then (if 0 ≤ a1.toInt ∧ a1.toInt < ((12 : Nat) : Int) then (lz (((10 : Int32) * (M1 (i0 + 3) (ix a1))) + (M1 (i0 + 4) (ix a1))) fun x21 => if 0 ≤ a1.toInt ∧ a1.toInt < ((12 : Nat) : Int) then (lz (wr M1 (i0 + 3) (ix a1) a2) fun M24 => if 0 ≤ a1.toInt ∧ a1.toInt < ((12 : Nat) : Int) then (lz (wr M24 (i0 + 4) (ix a1) a3) fun M27 => some (x21, M27)) else none) else none) else none) else none)))

set_option maxHeartbeats 4000000 in
set_option maxRecDepth 100000 in
theorem c_X11_setWeather (l : Launch) (G : GG) (M : Mm) {i0 : Nat} (hi0 : (kd i0).1 = 5) (a1 : Int32) (a2 : Int32) (a3 : Int32) {r : Int32} {M9 : Mm} (hr : f_X11_setWeather i0 a1 a2 a3 M = some (r, M9)) : Mo false l yX11_setWeather (WS yX11_setWeather cX11_setWeather 5 (some .int)) (RM 1 0 0 22) 0 0 [.ref (G.2.1 i0), .int a1, .int a2, .int a3] G M (some (.int r)) M9 := by
  refine Mo.of (by decide +kernel) (Nat.le_of_ble_eq_true rfl) ?_
  intro p e s m args below meth c hC
  have hC : CX p s m args meth c cX11_setWeather 5 RX11 (some .int) G := hC
  rw [f_X11_setWeather] at hr
  show XJ p l e (RM 1 0 0 22) s m args below meth c G 5 _ 0 0 M 0 [(0, .ref (G.2.1 i0)), (1, .int a1), (2, .int a2), (3, .int a3)] []
  refine x_aload_n hC dX11_setWeather_0 rfl 0 rfl ?_
  refine x_iconst hC (0 : Int32) dX11_setWeather_1 (by decide) ?_
  obtain ⟨M1, e2, hr⟩ := lz_s hr
  refine pf_X11_69 hC hi0 e2 dX11_setWeather_2 ?_
  refine x_iload_n hC dX11_setWeather_5 rfl 1 rfl ?_
  refine x_iconst hC (0 : Int32) dX11_setWeather_6 (by decide) ?_
  refine x_bipush hC (11 : Int32) dX11_setWeather_7 (by decide) ?_
  obtain ⟨x3, e4, hr⟩ := lz_s hr
  refine x_callS (As := [.int a1, .int (0 : Int32), .int (11 : Int32)]) hC (c_X11_isIn l G M1 a1 (0 : Int32) (11 : Int32) e4.symm) kc_yX11_isIn km_X11_72 kt_yX11_isIn kn_RX11 ky_yX11_isIn rfl ⟨rfl, rfl⟩ ⟨(Nat.le_of_ble_eq_true rfl), (Nat.le_of_ble_eq_true rfl)⟩ rfl (Nat.le_of_ble_eq_true rfl) ⟨(Nat.le_of_ble_eq_true rfl), (Nat.le_of_ble_eq_true rfl)⟩ dX11_setWeather_9 (fun b5 => ?_)
  refine x_if_ne hC 21 dX11_setWeather_12 (by decide) (fun h6 => ?_) (fun h6 => ?_)
  · have hr := (ie_s hr).2 h6
    refine x_iload_n hC dX11_setWeather_21 rfl 2 rfl ?_
    refine x_iconst hC (0 : Int32) dX11_setWeather_22 (by decide) ?_
    refine x_bipush hC (9 : Int32) dX11_setWeather_23 (by decide) ?_
    obtain ⟨x7, e8, hr⟩ := lz_s hr
    refine x_callS (As := [.int a2, .int (0 : Int32), .int (9 : Int32)]) hC (c_X11_isIn l G M1 a2 (0 : Int32) (9 : Int32) e8.symm) kc_yX11_isIn km_X11_72 kt_yX11_isIn kn_RX11 ky_yX11_isIn rfl ⟨rfl, rfl⟩ ⟨(Nat.le_of_ble_eq_true rfl), (Nat.le_of_ble_eq_true rfl)⟩ rfl (Nat.le_of_ble_eq_true rfl) ⟨(Nat.le_of_ble_eq_true rfl), (Nat.le_of_ble_eq_true rfl)⟩ dX11_setWeather_25 (fun b9 => ?_)
    refine x_if_eq hC 41 dX11_setWeather_28 (by decide) (fun h10 => ?_) (fun h10 => ?_)
    · have hr := (ie_s hr).1 h10
      refine x_aload_n hC dX11_setWeather_41 rfl 0 rfl ?_
      refine x_iconst hC (2 : Int32) dX11_setWeather_42 (by decide) ?_
      obtain ⟨x11, M12, q13, hr⟩ := bd2_s hr
      refine x_callV (ci := 5) (q := (RX11, TX11, 32)) (As := [.int (2 : Int32)]) hC (c_X11_no l G M1 hi0 (2 : Int32) q13) kc_yX11_no km_X11_221 ki_yX11_no kv_yX11_no kn_RX11 ky_yX11_no rfl ⟨rfl, rfl⟩ ⟨(Nat.le_of_ble_eq_true rfl), (Nat.le_of_ble_eq_true rfl)⟩ hi0 (by decide) rfl rfl (Nat.le_of_ble_eq_true rfl) ⟨(Nat.le_of_ble_eq_true rfl), (Nat.le_of_ble_eq_true rfl)⟩ dX11_setWeather_43 (fun b14 => ?_)
      cases hr
      exact x_iret hC rfl dX11_setWeather_46
    · have hr := (ie_s hr).2 h10
      refine x_iload_n hC dX11_setWeather_31 rfl 3 rfl ?_
      refine x_iconst hC (0 : Int32) dX11_setWeather_32 (by decide) ?_
      refine x_bipush hC (9 : Int32) dX11_setWeather_33 (by decide) ?_
      obtain ⟨x15, e16, hr⟩ := lz_s hr
      refine x_callS (As := [.int a3, .int (0 : Int32), .int (9 : Int32)]) hC (c_X11_isIn l G M1 a3 (0 : Int32) (9 : Int32) e16.symm) kc_yX11_isIn km_X11_72 kt_yX11_isIn kn_RX11 ky_yX11_isIn rfl ⟨rfl, rfl⟩ ⟨(Nat.le_of_ble_eq_true rfl), (Nat.le_of_ble_eq_true rfl)⟩ rfl (Nat.le_of_ble_eq_true rfl) ⟨(Nat.le_of_ble_eq_true rfl), (Nat.le_of_ble_eq_true rfl)⟩ dX11_setWeather_35 (fun b17 => ?_)
      refine x_if_ne hC 47 dX11_setWeather_38 (by decide) (fun h18 => ?_) (fun h18 => ?_)
      · have hr := (ie_s hr).2 h18
        refine x_bipush hC (10 : Int32) dX11_setWeather_47 (by decide) ?_
        refine x_aload_n hC dX11_setWeather_49 rfl 0 rfl ?_
        refine gf_X11_20 hC hi0 dX11_setWeather_50 ?_
        refine x_iload_n hC dX11_setWeather_53 rfl 1 rfl ?_
        obtain ⟨h19, hr⟩ := it_s hr
        refine x_iald hC (kr_5_6 hi0) h19 dX11_setWeather_54 ?_
        refine x_imul hC dX11_setWeather_55 ?_
        refine x_aload_n hC dX11_setWeather_56 rfl 0 rfl ?_
        refine gf_X11_23 hC hi0 dX11_setWeather_57 ?_
        refine x_iload_n hC dX11_setWeather_60 rfl 1 rfl ?_
        obtain ⟨h20, hr⟩ := it_s hr
        refine x_iald hC (kr_5_7 hi0) h20 dX11_setWeather_61 ?_
        refine x_iadd hC dX11_setWeather_62 ?_
        obtain ⟨x21, e22, hr⟩ := lz_s hr
        refine x_topi e22 ?_
        refine x_istore hC [(4, .int x21), (0, .ref (G.2.1 i0)), (1, .int a1), (2, .int a2), (3, .int a3)] dX11_setWeather_63  (Nat.le_of_ble_eq_true rfl) rfl ?_
        refine x_aload_n hC dX11_setWeather_65 rfl 1 rfl ?_
        refine gf_X11_20 hC hi0 dX11_setWeather_66 ?_
        refine x_iload_n hC dX11_setWeather_69 rfl 2 rfl ?_
        refine x_iload_n hC dX11_setWeather_70 rfl 3 rfl ?_
        obtain ⟨h23, hr⟩ := it_s hr
        obtain ⟨M24, e25, hr⟩ := lz_s hr
        refine x_iast hC (kr_5_6 hi0) h23 e25 dX11_setWeather_71 ?_
        refine x_aload_n hC dX11_setWeather_72 rfl 1 rfl ?_
        refine gf_X11_23 hC hi0 dX11_setWeather_73 ?_
        refine x_iload_n hC dX11_setWeather_76 rfl 2 rfl ?_
        refine x_iload_n hC dX11_setWeather_77 rfl 4 rfl ?_
        obtain ⟨h26, hr⟩ := it_s hr
        obtain ⟨M27, e28, hr⟩ := lz_s hr
        refine x_iast hC (kr_5_7 hi0) h26 e28 dX11_setWeather_78 ?_
        refine x_iload hC dX11_setWeather_79 0 rfl ?_
        cases hr
        exact x_iret hC rfl dX11_setWeather_81
      · have hr := (ie_s hr).1 h18
        refine x_aload_n hC dX11_setWeather_41 rfl 0 rfl ?_
        refine x_iconst hC (2 : Int32) dX11_setWeather_42 (by decide) ?_
        obtain ⟨x29, M30, q31, hr⟩ := bd2_s hr
        refine x_callV (ci := 5) (q := (RX11, TX11, 32)) (As := [.int (2 : Int32)]) hC (c_X11_no l G M1 hi0 (2 : Int32) q31) kc_yX11_no km_X11_221 ki_yX11_no kv_yX11_no kn_RX11 ky_yX11_no rfl ⟨rfl, rfl⟩ ⟨(Nat.le_of_ble_eq_true rfl), (Nat.le_of_ble_eq_true rfl)⟩ hi0 (by decide) rfl rfl (Nat.le_of_ble_eq_true rfl) ⟨(Nat.le_of_ble_eq_true rfl), (Nat.le_of_ble_eq_true rfl)⟩ dX11_setWeather_43 (fun b32 => ?_)
        cases hr
        exact x_iret hC rfl dX11_setWeather_46
  · have hr := (ie_s hr).1 h6
    refine x_aload_n hC dX11_setWeather_15 rfl 0 rfl ?_
    refine x_iconst hC (1 : Int32) dX11_setWeather_16 (by decide) ?_
    obtain ⟨x33, M34, q35, hr⟩ := bd2_s hr
    refine x_callV (ci := 5) (q := (RX11, TX11, 32)) (As := [.int (1 : Int32)]) hC (c_X11_no l G M1 hi0 (1 : Int32) q35) kc_yX11_no km_X11_221 ki_yX11_no kv_yX11_no kn_RX11 ky_yX11_no rfl ⟨rfl, rfl⟩ ⟨(Nat.le_of_ble_eq_true rfl), (Nat.le_of_ble_eq_true rfl)⟩ hi0 (by decide) rfl rfl (Nat.le_of_ble_eq_true rfl) ⟨(Nat.le_of_ble_eq_true rfl), (Nat.le_of_ble_eq_true rfl)⟩ dX11_setWeather_17 (fun b36 => ?_)
    cases hr
    exact x_iret hC rfl dX11_setWeather_20

theorem dX11_set_0 : decode cX11_set 0 = .ok (.aload_n 0, 1) := by decide +kernel
theorem dX11_set_1 : decode cX11_set 1 = .ok (.iconst 0, 1) := by decide +kernel
theorem dX11_set_2 : decode cX11_set 2 = .ok (.putfield 69, 3) := by decide +kernel
theorem dX11_set_5 : decode cX11_set 5 = .ok (.iload_n 1, 1) := by decide +kernel
theorem dX11_set_6 : decode cX11_set 6 = .ok (.iload_n 2, 1) := by decide +kernel
theorem dX11_set_7 : decode cX11_set 7 = .ok (.invokestatic 313, 3) := by decide +kernel
theorem dX11_set_10 : decode cX11_set 10 = .ok (.ifCond .ne 9, 3) := by decide +kernel
theorem dX11_set_13 : decode cX11_set 13 = .ok (.aload_n 0, 1) := by decide +kernel
theorem dX11_set_14 : decode cX11_set 14 = .ok (.iconst 1, 1) := by decide +kernel
theorem dX11_set_15 : decode cX11_set 15 = .ok (.invokevirtual 221, 3) := by decide +kernel
theorem dX11_set_18 : decode cX11_set 18 = .ok (.ireturn, 1) := by decide +kernel
theorem dX11_set_19 : decode cX11_set 19 = .ok (.bipush 8, 2) := by decide +kernel
theorem dX11_set_21 : decode cX11_set 21 = .ok (.iload_n 2, 1) := by decide +kernel
theorem dX11_set_22 : decode cX11_set 22 = .ok (.imul, 1) := by decide +kernel
theorem dX11_set_23 : decode cX11_set 23 = .ok (.iload_n 1, 1) := by decide +kernel
theorem dX11_set_24 : decode cX11_set 24 = .ok (.iadd, 1) := by decide +kernel
theorem dX11_set_25 : decode cX11_set 25 = .ok (.istore 5, 2) := by decide +kernel
theorem dX11_set_27 : decode cX11_set 27 = .ok (.iload_n 3, 1) := by decide +kernel
theorem dX11_set_28 : decode cX11_set 28 = .ok (.iconst 0, 1) := by decide +kernel
theorem dX11_set_29 : decode cX11_set 29 = .ok (.bipush 60, 2) := by decide +kernel
theorem dX11_set_31 : decode cX11_set 31 = .ok (.invokestatic 72, 3) := by decide +kernel
theorem dX11_set_34 : decode cX11_set 34 = .ok (.ifCond .eq 23, 3) := by decide +kernel
theorem dX11_set_37 : decode cX11_set 37 = .ok (.iload 4, 2) := by decide +kernel
theorem dX11_set_39 : decode cX11_set 39 = .ok (.iconst 0, 1) := by decide +kernel
theorem dX11_set_40 : decode cX11_set 40 = .ok (.bipush 9, 2) := by decide +kernel
theorem dX11_set_42 : decode cX11_set 42 = .ok (.invokestatic 72, 3) := by decide +kernel
theorem dX11_set_45 : decode cX11_set 45 = .ok (.ifCond .eq 12, 3) := by decide +kernel
theorem dX11_set_48 : decode cX11_set 48 = .ok (.iload 5, 2) := by decide +kernel
theorem dX11_set_50 : decode cX11_set 50 = .ok (.ifCond .ne 13, 3) := by decide +kernel
theorem dX11_set_53 : decode cX11_set 53 = .ok (.iload_n 3, 1) := by decide +kernel
theorem dX11_set_54 : decode cX11_set 54 = .ok (.ifCond .eq 9, 3) := by decide +kernel
theorem dX11_set_57 : decode cX11_set 57 = .ok (.aload_n 0, 1) := by decide +kernel
theorem dX11_set_58 : decode cX11_set 58 = .ok (.iconst 2, 1) := by decide +kernel
theorem dX11_set_59 : decode cX11_set 59 = .ok (.invokevirtual 221, 3) := by decide +kernel
theorem dX11_set_62 : decode cX11_set 62 = .ok (.ireturn, 1) := by decide +kernel
theorem dX11_set_63 : decode cX11_set 63 = .ok (.bipush 10, 2) := by decide +kernel
theorem dX11_set_65 : decode cX11_set 65 = .ok (.aload_n 0, 1) := by decide +kernel
theorem dX11_set_66 : decode cX11_set 66 = .ok (.getfield 53, 3) := by decide +kernel
theorem dX11_set_69 : decode cX11_set 69 = .ok (.getfield 63, 3) := by decide +kernel
theorem dX11_set_72 : decode cX11_set 72 = .ok (.iload 5, 2) := by decide +kernel
theorem dX11_set_74 : decode cX11_set 74 = .ok (.iaload, 1) := by decide +kernel
theorem dX11_set_75 : decode cX11_set 75 = .ok (.imul, 1) := by decide +kernel
theorem dX11_set_76 : decode cX11_set 76 = .ok (.aload_n 0, 1) := by decide +kernel
theorem dX11_set_77 : decode cX11_set 77 = .ok (.getfield 53, 3) := by decide +kernel
theorem dX11_set_80 : decode cX11_set 80 = .ok (.getfield 66, 3) := by decide +kernel
theorem dX11_set_83 : decode cX11_set 83 = .ok (.iload 5, 2) := by decide +kernel
theorem dX11_set_85 : decode cX11_set 85 = .ok (.iaload, 1) := by decide +kernel
theorem dX11_set_86 : decode cX11_set 86 = .ok (.iadd, 1) := by decide +kernel
theorem dX11_set_87 : decode cX11_set 87 = .ok (.istore 6, 2) := by decide +kernel
theorem dX11_set_89 : decode cX11_set 89 = .ok (.aload_n 0, 1) := by decide +kernel
theorem dX11_set_90 : decode cX11_set 90 = .ok (.getfield 53, 3) := by decide +kernel
theorem dX11_set_93 : decode cX11_set 93 = .ok (.getfield 63, 3) := by decide +kernel
theorem dX11_set_96 : decode cX11_set 96 = .ok (.iload 5, 2) := by decide +kernel
theorem dX11_set_98 : decode cX11_set 98 = .ok (.iload_n 3, 1) := by decide +kernel
theorem dX11_set_99 : decode cX11_set 99 = .ok (.iastore, 1) := by decide +kernel
theorem dX11_set_100 : decode cX11_set 100 = .ok (.aload_n 0, 1) := by decide +kernel
theorem dX11_set_101 : decode cX11_set 101 = .ok (.getfield 53, 3) := by decide +kernel
theorem dX11_set_104 : decode cX11_set 104 = .ok (.getfield 66, 3) := by decide +kernel
theorem dX11_set_107 : decode cX11_set 107 = .ok (.iload 5, 2) := by decide +kernel
theorem dX11_set_109 : decode cX11_set 109 = .ok (.iload 4, 2) := by decide +kernel
theorem dX11_set_111 : decode cX11_set 111 = .ok (.iastore, 1) := by decide +kernel
theorem dX11_set_112 : decode cX11_set 112 = .ok (.iload 6, 2) := by decide +kernel
theorem dX11_set_114 : decode cX11_set 114 = .ok (.ireturn, 1) := by decide +kernel

def f_X11_set (i0 : Nat) (a1 : Int32) (a2 : Int32) (a3 : Int32) (a4 : Int32) (M : Mm) : Option (Int32 × Mm) :=
  lz (wr M i0 0 (0 : Int32)) fun M1 => lz (f_X11_isCell a1 a2) fun x3 => if (x3 = 0) then (bd2 (f_X11_no i0 (1 : Int32) M1) fun x51 M52 => some (x51, M52)) else (lz (((8 : Int32) * a2) + a1) fun x7 => lz (f_X11_isIn a3 (0 : Int32) (60 : Int32)) fun x9 => if (x9 = 0) then (bd2 (f_X11_no i0 (2 : Int32) M1) fun x13 M14 => some (x13, M14)) else (lz (f_X11_isIn a4 (0 : Int32) (9 : Int32)) fun x17 => if (x17 = 0) then (bd2 (f_X11_no i0 (2 : Int32) M1) fun x21 M22 => some (x21, M22)) else (if (x7 = 0) then (if (a3 = 0) then (if 0 ≤ x7.toInt ∧ x7.toInt < ((64 : Nat) : Int) then (if 0 ≤ x7.toInt ∧ x7.toInt < ((64 : Nat) : Int) then (lz (((10 : Int32) * (M1 ((i0 + 14) + 1) (ix x7))) + (M1 ((i0 + 14) + 2) (ix x7))) fun x39 => if 0 ≤ x7.toInt ∧ x7.toInt < ((64 : Nat) : Int) then (lz (wr M1 ((i0 + 14) + 1) (ix x7) a3) fun M42 => if 0 ≤ x7.toInt ∧ x7.toInt < ((64 : Nat) : Int) then (lz (wr M42 ((i0 + 14) + 2) (ix x7) a4) fun M45 => some (x39, M45)) else none) else none) else none) else none) else (bd2 (f_X11_no i0 (2 : Int32) M1) fun x47 M48 => some (x47, M48))) else (if 0 ≤ x7.toInt ∧ x7.toInt < ((64 : Nat) : Int) then (if 0 ≤ x7.toInt ∧ x7.toInt < ((64 : Nat) : Int) then (lz (((10 : Int32) * (M1 ((i0 + 14) + 1) (ix x7))) + (M1 ((i0 + 14) + 2) (ix x7))) fun x28 => if 0 ≤ x7.toInt ∧ x7.toInt < ((64 : Nat) : Int) then (lz (wr M1 ((i0 + 14) + 1) (ix x7) a3) fun M31 => if 0 ≤ x7.toInt ∧ x7.toInt < ((64 : Nat) : Int) then (lz (wr M31 ((i0 + 14) + 2) (ix x7) a4) fun M34 => some (x28, M34)) else none) else none) else none) else none))))

set_option maxHeartbeats 4000000 in
set_option maxRecDepth 100000 in
theorem c_X11_set (l : Launch) (G : GG) (M : Mm) {i0 : Nat} (hi0 : (kd i0).1 = 5) (a1 : Int32) (a2 : Int32) (a3 : Int32) (a4 : Int32) {r : Int32} {M9 : Mm} (hr : f_X11_set i0 a1 a2 a3 a4 M = some (r, M9)) : Mo false l yX11_set (WS yX11_set cX11_set 7 (some .int)) (RM 2 0 0 43) 0 0 [.ref (G.2.1 i0), .int a1, .int a2, .int a3, .int a4] G M (some (.int r)) M9 := by
  refine Mo.of (by decide +kernel) (Nat.le_of_ble_eq_true rfl) ?_
  intro p e s m args below meth c hC
  have hC : CX p s m args meth c cX11_set 7 RX11 (some .int) G := hC
  rw [f_X11_set] at hr
  show XJ p l e (RM 2 0 0 43) s m args below meth c G 7 _ 0 0 M 0 [(0, .ref (G.2.1 i0)), (1, .int a1), (2, .int a2), (3, .int a3), (4, .int a4)] []
  refine x_aload_n hC dX11_set_0 rfl 0 rfl ?_
  refine x_iconst hC (0 : Int32) dX11_set_1 (by decide) ?_
  obtain ⟨M1, e2, hr⟩ := lz_s hr
  refine pf_X11_69 hC hi0 e2 dX11_set_2 ?_
  refine x_iload_n hC dX11_set_5 rfl 1 rfl ?_
  refine x_iload_n hC dX11_set_6 rfl 2 rfl ?_
  obtain ⟨x3, e4, hr⟩ := lz_s hr
  refine x_callS (As := [.int a1, .int a2]) hC (c_X11_isCell l G M1 a1 a2 e4.symm) kc_yX11_isCell km_X11_313 kt_yX11_isCell kn_RX11 ky_yX11_isCell rfl ⟨rfl, rfl⟩ ⟨(Nat.le_of_ble_eq_true rfl), (Nat.le_of_ble_eq_true rfl)⟩ rfl (Nat.le_of_ble_eq_true rfl) ⟨(Nat.le_of_ble_eq_true rfl), (Nat.le_of_ble_eq_true rfl)⟩ dX11_set_7 (fun b5 => ?_)
  refine x_if_ne hC 19 dX11_set_10 (by decide) (fun h6 => ?_) (fun h6 => ?_)
  · have hr := (ie_s hr).2 h6
    refine x_bipush hC (8 : Int32) dX11_set_19 (by decide) ?_
    refine x_iload_n hC dX11_set_21 rfl 2 rfl ?_
    refine x_imul hC dX11_set_22 ?_
    refine x_iload_n hC dX11_set_23 rfl 1 rfl ?_
    refine x_iadd hC dX11_set_24 ?_
    obtain ⟨x7, e8, hr⟩ := lz_s hr
    refine x_topi e8 ?_
    refine x_istore hC [(5, .int x7), (0, .ref (G.2.1 i0)), (1, .int a1), (2, .int a2), (3, .int a3), (4, .int a4)] dX11_set_25  (Nat.le_of_ble_eq_true rfl) rfl ?_
    refine x_iload_n hC dX11_set_27 rfl 4 rfl ?_
    refine x_iconst hC (0 : Int32) dX11_set_28 (by decide) ?_
    refine x_bipush hC (60 : Int32) dX11_set_29 (by decide) ?_
    obtain ⟨x9, e10, hr⟩ := lz_s hr
    refine x_callS (As := [.int a3, .int (0 : Int32), .int (60 : Int32)]) hC (c_X11_isIn l G M1 a3 (0 : Int32) (60 : Int32) e10.symm) kc_yX11_isIn km_X11_72 kt_yX11_isIn kn_RX11 ky_yX11_isIn rfl ⟨rfl, rfl⟩ ⟨(Nat.le_of_ble_eq_true rfl), (Nat.le_of_ble_eq_true rfl)⟩ rfl (Nat.le_of_ble_eq_true rfl) ⟨(Nat.le_of_ble_eq_true rfl), (Nat.le_of_ble_eq_true rfl)⟩ dX11_set_31 (fun b11 => ?_)
    refine x_if_eq hC 57 dX11_set_34 (by decide) (fun h12 => ?_) (fun h12 => ?_)
    · have hr := (ie_s hr).1 h12
      refine x_aload_n hC dX11_set_57 rfl 1 rfl ?_
      refine x_iconst hC (2 : Int32) dX11_set_58 (by decide) ?_
      obtain ⟨x13, M14, q15, hr⟩ := bd2_s hr
      refine x_callV (ci := 5) (q := (RX11, TX11, 32)) (As := [.int (2 : Int32)]) hC (c_X11_no l G M1 hi0 (2 : Int32) q15) kc_yX11_no km_X11_221 ki_yX11_no kv_yX11_no kn_RX11 ky_yX11_no rfl ⟨rfl, rfl⟩ ⟨(Nat.le_of_ble_eq_true rfl), (Nat.le_of_ble_eq_true rfl)⟩ hi0 (by decide) rfl rfl (Nat.le_of_ble_eq_true rfl) ⟨(Nat.le_of_ble_eq_true rfl), (Nat.le_of_ble_eq_true rfl)⟩ dX11_set_59 (fun b16 => ?_)
      cases hr
      exact x_iret hC rfl dX11_set_62
    · have hr := (ie_s hr).2 h12
      refine x_iload hC dX11_set_37 5 rfl ?_
      refine x_iconst hC (0 : Int32) dX11_set_39 (by decide) ?_
      refine x_bipush hC (9 : Int32) dX11_set_40 (by decide) ?_
      obtain ⟨x17, e18, hr⟩ := lz_s hr
      refine x_callS (As := [.int a4, .int (0 : Int32), .int (9 : Int32)]) hC (c_X11_isIn l G M1 a4 (0 : Int32) (9 : Int32) e18.symm) kc_yX11_isIn km_X11_72 kt_yX11_isIn kn_RX11 ky_yX11_isIn rfl ⟨rfl, rfl⟩ ⟨(Nat.le_of_ble_eq_true rfl), (Nat.le_of_ble_eq_true rfl)⟩ rfl (Nat.le_of_ble_eq_true rfl) ⟨(Nat.le_of_ble_eq_true rfl), (Nat.le_of_ble_eq_true rfl)⟩ dX11_set_42 (fun b19 => ?_)
      refine x_if_eq hC 57 dX11_set_45 (by decide) (fun h20 => ?_) (fun h20 => ?_)
      · have hr := (ie_s hr).1 h20
        refine x_aload_n hC dX11_set_57 rfl 1 rfl ?_
        refine x_iconst hC (2 : Int32) dX11_set_58 (by decide) ?_
        obtain ⟨x21, M22, q23, hr⟩ := bd2_s hr
        refine x_callV (ci := 5) (q := (RX11, TX11, 32)) (As := [.int (2 : Int32)]) hC (c_X11_no l G M1 hi0 (2 : Int32) q23) kc_yX11_no km_X11_221 ki_yX11_no kv_yX11_no kn_RX11 ky_yX11_no rfl ⟨rfl, rfl⟩ ⟨(Nat.le_of_ble_eq_true rfl), (Nat.le_of_ble_eq_true rfl)⟩ hi0 (by decide) rfl rfl (Nat.le_of_ble_eq_true rfl) ⟨(Nat.le_of_ble_eq_true rfl), (Nat.le_of_ble_eq_true rfl)⟩ dX11_set_59 (fun b24 => ?_)
        cases hr
        exact x_iret hC rfl dX11_set_62
      · have hr := (ie_s hr).2 h20
        refine x_iload hC dX11_set_48 0 rfl ?_
        refine x_if_ne hC 63 dX11_set_50 (by decide) (fun h25 => ?_) (fun h25 => ?_)
        · have hr := (ie_s hr).2 h25
          refine x_bipush hC (10 : Int32) dX11_set_63 (by decide) ?_
          refine x_aload_n hC dX11_set_65 rfl 1 rfl ?_
          refine gf_X11_53 hC hi0 dX11_set_66 ?_
          refine gf_X11_63 hC (kr_5_29 hi0) dX11_set_69 ?_
          refine x_iload hC dX11_set_72 0 rfl ?_
          obtain ⟨h26, hr⟩ := it_s hr
          refine x_iald hC (kr_4_6 (kr_5_29 hi0)) h26 dX11_set_74 ?_
          refine x_imul hC dX11_set_75 ?_
          refine x_aload_n hC dX11_set_76 rfl 1 rfl ?_
          refine gf_X11_53 hC hi0 dX11_set_77 ?_
          refine gf_X11_66 hC (kr_5_29 hi0) dX11_set_80 ?_
          refine x_iload hC dX11_set_83 0 rfl ?_
          obtain ⟨h27, hr⟩ := it_s hr
          refine x_iald hC (kr_4_7 (kr_5_29 hi0)) h27 dX11_set_85 ?_
          refine x_iadd hC dX11_set_86 ?_
          obtain ⟨x28, e29, hr⟩ := lz_s hr
          refine x_topi e29 ?_
          refine x_istore hC [(6, .int x28), (5, .int x7), (0, .ref (G.2.1 i0)), (1, .int a1), (2, .int a2), (3, .int a3), (4, .int a4)] dX11_set_87  (Nat.le_of_ble_eq_true rfl) rfl ?_
          refine x_aload_n hC dX11_set_89 rfl 2 rfl ?_
          refine gf_X11_53 hC hi0 dX11_set_90 ?_
          refine gf_X11_63 hC (kr_5_29 hi0) dX11_set_93 ?_
          refine x_iload hC dX11_set_96 1 rfl ?_
          refine x_iload_n hC dX11_set_98 rfl 5 rfl ?_
          obtain ⟨h30, hr⟩ := it_s hr
          obtain ⟨M31, e32, hr⟩ := lz_s hr
          refine x_iast hC (kr_4_6 (kr_5_29 hi0)) h30 e32 dX11_set_99 ?_
          refine x_aload_n hC dX11_set_100 rfl 2 rfl ?_
          refine gf_X11_53 hC hi0 dX11_set_101 ?_
          refine gf_X11_66 hC (kr_5_29 hi0) dX11_set_104 ?_
          refine x_iload hC dX11_set_107 1 rfl ?_
          refine x_iload hC dX11_set_109 6 rfl ?_
          obtain ⟨h33, hr⟩ := it_s hr
          obtain ⟨M34, e35, hr⟩ := lz_s hr
          refine x_iast hC (kr_4_7 (kr_5_29 hi0)) h33 e35 dX11_set_111 ?_
          refine x_iload hC dX11_set_112 0 rfl ?_
          cases hr
          exact x_iret hC rfl dX11_set_114
        · have hr := (ie_s hr).1 h25
          refine x_iload_n hC dX11_set_53 rfl 4 rfl ?_
          refine x_if_eq hC 63 dX11_set_54 (by decide) (fun h36 => ?_) (fun h36 => ?_)
          · have hr := (ie_s hr).1 h36
            refine x_bipush hC (10 : Int32) dX11_set_63 (by decide) ?_
            refine x_aload_n hC dX11_set_65 rfl 1 rfl ?_
            refine gf_X11_53 hC hi0 dX11_set_66 ?_
            refine gf_X11_63 hC (kr_5_29 hi0) dX11_set_69 ?_
            refine x_iload hC dX11_set_72 0 rfl ?_
            obtain ⟨h37, hr⟩ := it_s hr
            refine x_iald hC (kr_4_6 (kr_5_29 hi0)) h37 dX11_set_74 ?_
            refine x_imul hC dX11_set_75 ?_
            refine x_aload_n hC dX11_set_76 rfl 1 rfl ?_
            refine gf_X11_53 hC hi0 dX11_set_77 ?_
            refine gf_X11_66 hC (kr_5_29 hi0) dX11_set_80 ?_
            refine x_iload hC dX11_set_83 0 rfl ?_
            obtain ⟨h38, hr⟩ := it_s hr
            refine x_iald hC (kr_4_7 (kr_5_29 hi0)) h38 dX11_set_85 ?_
            refine x_iadd hC dX11_set_86 ?_
            obtain ⟨x39, e40, hr⟩ := lz_s hr
            refine x_topi e40 ?_
            refine x_istore hC [(6, .int x39), (5, .int x7), (0, .ref (G.2.1 i0)), (1, .int a1), (2, .int a2), (3, .int a3), (4, .int a4)] dX11_set_87  (Nat.le_of_ble_eq_true rfl) rfl ?_
            refine x_aload_n hC dX11_set_89 rfl 2 rfl ?_
            refine gf_X11_53 hC hi0 dX11_set_90 ?_
            refine gf_X11_63 hC (kr_5_29 hi0) dX11_set_93 ?_
            refine x_iload hC dX11_set_96 1 rfl ?_
            refine x_iload_n hC dX11_set_98 rfl 5 rfl ?_
            obtain ⟨h41, hr⟩ := it_s hr
            obtain ⟨M42, e43, hr⟩ := lz_s hr
            refine x_iast hC (kr_4_6 (kr_5_29 hi0)) h41 e43 dX11_set_99 ?_
            refine x_aload_n hC dX11_set_100 rfl 2 rfl ?_
            refine gf_X11_53 hC hi0 dX11_set_101 ?_
            refine gf_X11_66 hC (kr_5_29 hi0) dX11_set_104 ?_
            refine x_iload hC dX11_set_107 1 rfl ?_
            refine x_iload hC dX11_set_109 6 rfl ?_
            obtain ⟨h44, hr⟩ := it_s hr
            obtain ⟨M45, e46, hr⟩ := lz_s hr
            refine x_iast hC (kr_4_7 (kr_5_29 hi0)) h44 e46 dX11_set_111 ?_
            refine x_iload hC dX11_set_112 0 rfl ?_
            cases hr
            exact x_iret hC rfl dX11_set_114
          · have hr := (ie_s hr).2 h36
            refine x_aload_n hC dX11_set_57 rfl 1 rfl ?_
            refine x_iconst hC (2 : Int32) dX11_set_58 (by decide) ?_
            obtain ⟨x47, M48, q49, hr⟩ := bd2_s hr
            refine x_callV (ci := 5) (q := (RX11, TX11, 32)) (As := [.int (2 : Int32)]) hC (c_X11_no l G M1 hi0 (2 : Int32) q49) kc_yX11_no km_X11_221 ki_yX11_no kv_yX11_no kn_RX11 ky_yX11_no rfl ⟨rfl, rfl⟩ ⟨(Nat.le_of_ble_eq_true rfl), (Nat.le_of_ble_eq_true rfl)⟩ hi0 (by decide) rfl rfl (Nat.le_of_ble_eq_true rfl) ⟨(Nat.le_of_ble_eq_true rfl), (Nat.le_of_ble_eq_true rfl)⟩ dX11_set_59 (fun b50 => ?_)
            cases hr
            exact x_iret hC rfl dX11_set_62
  · have hr := (ie_s hr).1 h6
    refine x_aload_n hC dX11_set_13 rfl 0 rfl ?_
    refine x_iconst hC (1 : Int32) dX11_set_14 (by decide) ?_
    obtain ⟨x51, M52, q53, hr⟩ := bd2_s hr
    refine x_callV (ci := 5) (q := (RX11, TX11, 32)) (As := [.int (1 : Int32)]) hC (c_X11_no l G M1 hi0 (1 : Int32) q53) kc_yX11_no km_X11_221 ki_yX11_no kv_yX11_no kn_RX11 ky_yX11_no rfl ⟨rfl, rfl⟩ ⟨(Nat.le_of_ble_eq_true rfl), (Nat.le_of_ble_eq_true rfl)⟩ hi0 (by decide) rfl rfl (Nat.le_of_ble_eq_true rfl) ⟨(Nat.le_of_ble_eq_true rfl), (Nat.le_of_ble_eq_true rfl)⟩ dX11_set_15 (fun b54 => ?_)
    cases hr
    exact x_iret hC rfl dX11_set_18

theorem dX11_stack_0 : decode cX11_stack 0 = .ok (.aload_n 0, 1) := by decide +kernel
theorem dX11_stack_1 : decode cX11_stack 1 = .ok (.iconst 0, 1) := by decide +kernel
theorem dX11_stack_2 : decode cX11_stack 2 = .ok (.putfield 69, 3) := by decide +kernel
theorem dX11_stack_5 : decode cX11_stack 5 = .ok (.iload_n 1, 1) := by decide +kernel
theorem dX11_stack_6 : decode cX11_stack 6 = .ok (.iload_n 2, 1) := by decide +kernel
theorem dX11_stack_7 : decode cX11_stack 7 = .ok (.invokestatic 313, 3) := by decide +kernel
theorem dX11_stack_10 : decode cX11_stack 10 = .ok (.ifCond .ne 9, 3) := by decide +kernel
theorem dX11_stack_13 : decode cX11_stack 13 = .ok (.aload_n 0, 1) := by decide +kernel
theorem dX11_stack_14 : decode cX11_stack 14 = .ok (.iconst 1, 1) := by decide +kernel
theorem dX11_stack_15 : decode cX11_stack 15 = .ok (.invokevirtual 221, 3) := by decide +kernel
theorem dX11_stack_18 : decode cX11_stack 18 = .ok (.ireturn, 1) := by decide +kernel
theorem dX11_stack_19 : decode cX11_stack 19 = .ok (.iload_n 3, 1) := by decide +kernel
theorem dX11_stack_20 : decode cX11_stack 20 = .ok (.iconst 1, 1) := by decide +kernel
theorem dX11_stack_21 : decode cX11_stack 21 = .ok (.bipush 99, 2) := by decide +kernel
theorem dX11_stack_23 : decode cX11_stack 23 = .ok (.invokestatic 72, 3) := by decide +kernel
theorem dX11_stack_26 : decode cX11_stack 26 = .ok (.ifCond .eq 14, 3) := by decide +kernel
theorem dX11_stack_29 : decode cX11_stack 29 = .ok (.iload 4, 2) := by decide +kernel
theorem dX11_stack_31 : decode cX11_stack 31 = .ok (.iconst 0, 1) := by decide +kernel
theorem dX11_stack_32 : decode cX11_stack 32 = .ok (.bipush 20, 2) := by decide +kernel
theorem dX11_stack_34 : decode cX11_stack 34 = .ok (.invokestatic 72, 3) := by decide +kernel
theorem dX11_stack_37 : decode cX11_stack 37 = .ok (.ifCond .ne 9, 3) := by decide +kernel
theorem dX11_stack_40 : decode cX11_stack 40 = .ok (.aload_n 0, 1) := by decide +kernel
theorem dX11_stack_41 : decode cX11_stack 41 = .ok (.iconst 2, 1) := by decide +kernel
theorem dX11_stack_42 : decode cX11_stack 42 = .ok (.invokevirtual 221, 3) := by decide +kernel
theorem dX11_stack_45 : decode cX11_stack 45 = .ok (.ireturn, 1) := by decide +kernel
theorem dX11_stack_46 : decode cX11_stack 46 = .ok (.bipush 8, 2) := by decide +kernel
theorem dX11_stack_48 : decode cX11_stack 48 = .ok (.iload_n 2, 1) := by decide +kernel
theorem dX11_stack_49 : decode cX11_stack 49 = .ok (.imul, 1) := by decide +kernel
theorem dX11_stack_50 : decode cX11_stack 50 = .ok (.iload_n 1, 1) := by decide +kernel
theorem dX11_stack_51 : decode cX11_stack 51 = .ok (.iadd, 1) := by decide +kernel
theorem dX11_stack_52 : decode cX11_stack 52 = .ok (.istore 5, 2) := by decide +kernel
theorem dX11_stack_54 : decode cX11_stack 54 = .ok (.aload_n 0, 1) := by decide +kernel
theorem dX11_stack_55 : decode cX11_stack 55 = .ok (.getfield 53, 3) := by decide +kernel
theorem dX11_stack_58 : decode cX11_stack 58 = .ok (.getfield 241, 3) := by decide +kernel
theorem dX11_stack_61 : decode cX11_stack 61 = .ok (.iload 5, 2) := by decide +kernel
theorem dX11_stack_63 : decode cX11_stack 63 = .ok (.iaload, 1) := by decide +kernel
theorem dX11_stack_64 : decode cX11_stack 64 = .ok (.iload_n 3, 1) := by decide +kernel
theorem dX11_stack_65 : decode cX11_stack 65 = .ok (.iadd, 1) := by decide +kernel
theorem dX11_stack_66 : decode cX11_stack 66 = .ok (.bipush 99, 2) := by decide +kernel
theorem dX11_stack_68 : decode cX11_stack 68 = .ok (.if_icmp .le 9, 3) := by decide +kernel
theorem dX11_stack_71 : decode cX11_stack 71 = .ok (.aload_n 0, 1) := by decide +kernel
theorem dX11_stack_72 : decode cX11_stack 72 = .ok (.iconst 3, 1) := by decide +kernel
theorem dX11_stack_73 : decode cX11_stack 73 = .ok (.invokevirtual 221, 3) := by decide +kernel
theorem dX11_stack_76 : decode cX11_stack 76 = .ok (.ireturn, 1) := by decide +kernel
theorem dX11_stack_77 : decode cX11_stack 77 = .ok (.aload_n 0, 1) := by decide +kernel
theorem dX11_stack_78 : decode cX11_stack 78 = .ok (.getfield 53, 3) := by decide +kernel
theorem dX11_stack_81 : decode cX11_stack 81 = .ok (.iload 5, 2) := by decide +kernel
theorem dX11_stack_83 : decode cX11_stack 83 = .ok (.iload_n 3, 1) := by decide +kernel
theorem dX11_stack_84 : decode cX11_stack 84 = .ok (.iload 4, 2) := by decide +kernel
theorem dX11_stack_86 : decode cX11_stack 86 = .ok (.invokevirtual 322, 3) := by decide +kernel
theorem dX11_stack_89 : decode cX11_stack 89 = .ok (.aload_n 0, 1) := by decide +kernel
theorem dX11_stack_90 : decode cX11_stack 90 = .ok (.getfield 53, 3) := by decide +kernel
theorem dX11_stack_93 : decode cX11_stack 93 = .ok (.getfield 241, 3) := by decide +kernel
theorem dX11_stack_96 : decode cX11_stack 96 = .ok (.iload 5, 2) := by decide +kernel
theorem dX11_stack_98 : decode cX11_stack 98 = .ok (.iaload, 1) := by decide +kernel
theorem dX11_stack_99 : decode cX11_stack 99 = .ok (.ireturn, 1) := by decide +kernel

def f_X11_stack (i0 : Nat) (a1 : Int32) (a2 : Int32) (a3 : Int32) (a4 : Int32) (M : Mm) : Option (Int32 × Mm) :=
  lz (wr M i0 0 (0 : Int32)) fun M1 => lz (f_X11_isCell a1 a2) fun x3 => if (x3 = 0) then (bd2 (f_X11_no i0 (1 : Int32) M1) fun x35 M36 => some (x35, M36)) else (lz (f_X11_isIn a3 (1 : Int32) (99 : Int32)) fun x7 => if (x7 = 0) then (bd2 (f_X11_no i0 (2 : Int32) M1) fun x11 M12 => some (x11, M12)) else (lz (f_X11_isIn a4 (0 : Int32) (20 : Int32)) fun x15 => if (x15 = 0) then (bd2 (f_X11_no i0 (2 : Int32) M1) fun x31 M32 => some (x31, M32)) else (lz (((8 : Int32) * a2) + a1) fun x19 => if 0 ≤ x19.toInt ∧ x19.toInt < ((64 : Nat) : Int) then (if (((M1 ((i0 + 14) + 3) (ix x19)) + a3) ≤ (99 : Int32)) then (bd1 (f_X10_pile (i0 + 14) x19 a3 a4 M1) fun M23 => if 0 ≤ x19.toInt ∧ x19.toInt < ((64 : Nat) : Int) then (some ((M23 ((i0 + 14) + 3) (ix x19)), M23)) else none) else (bd2 (f_X11_no i0 (3 : Int32) M1) fun x27 M28 => some (x27, M28))) else none)))

set_option maxHeartbeats 4000000 in
set_option maxRecDepth 100000 in
theorem c_X11_stack (l : Launch) (G : GG) (M : Mm) {i0 : Nat} (hi0 : (kd i0).1 = 5) (a1 : Int32) (a2 : Int32) (a3 : Int32) (a4 : Int32) {r : Int32} {M9 : Mm} (hr : f_X11_stack i0 a1 a2 a3 a4 M = some (r, M9)) : Mo false l yX11_stack (WS yX11_stack cX11_stack 6 (some .int)) (RM 2 0 0 43) 0 0 [.ref (G.2.1 i0), .int a1, .int a2, .int a3, .int a4] G M (some (.int r)) M9 := by
  refine Mo.of (by decide +kernel) (Nat.le_of_ble_eq_true rfl) ?_
  intro p e s m args below meth c hC
  have hC : CX p s m args meth c cX11_stack 6 RX11 (some .int) G := hC
  rw [f_X11_stack] at hr
  show XJ p l e (RM 2 0 0 43) s m args below meth c G 6 _ 0 0 M 0 [(0, .ref (G.2.1 i0)), (1, .int a1), (2, .int a2), (3, .int a3), (4, .int a4)] []
  refine x_aload_n hC dX11_stack_0 rfl 0 rfl ?_
  refine x_iconst hC (0 : Int32) dX11_stack_1 (by decide) ?_
  obtain ⟨M1, e2, hr⟩ := lz_s hr
  refine pf_X11_69 hC hi0 e2 dX11_stack_2 ?_
  refine x_iload_n hC dX11_stack_5 rfl 1 rfl ?_
  refine x_iload_n hC dX11_stack_6 rfl 2 rfl ?_
  obtain ⟨x3, e4, hr⟩ := lz_s hr
  refine x_callS (As := [.int a1, .int a2]) hC (c_X11_isCell l G M1 a1 a2 e4.symm) kc_yX11_isCell km_X11_313 kt_yX11_isCell kn_RX11 ky_yX11_isCell rfl ⟨rfl, rfl⟩ ⟨(Nat.le_of_ble_eq_true rfl), (Nat.le_of_ble_eq_true rfl)⟩ rfl (Nat.le_of_ble_eq_true rfl) ⟨(Nat.le_of_ble_eq_true rfl), (Nat.le_of_ble_eq_true rfl)⟩ dX11_stack_7 (fun b5 => ?_)
  refine x_if_ne hC 19 dX11_stack_10 (by decide) (fun h6 => ?_) (fun h6 => ?_)
  · have hr := (ie_s hr).2 h6
    refine x_iload_n hC dX11_stack_19 rfl 3 rfl ?_
    refine x_iconst hC (1 : Int32) dX11_stack_20 (by decide) ?_
    refine x_bipush hC (99 : Int32) dX11_stack_21 (by decide) ?_
    obtain ⟨x7, e8, hr⟩ := lz_s hr
    refine x_callS (As := [.int a3, .int (1 : Int32), .int (99 : Int32)]) hC (c_X11_isIn l G M1 a3 (1 : Int32) (99 : Int32) e8.symm) kc_yX11_isIn km_X11_72 kt_yX11_isIn kn_RX11 ky_yX11_isIn rfl ⟨rfl, rfl⟩ ⟨(Nat.le_of_ble_eq_true rfl), (Nat.le_of_ble_eq_true rfl)⟩ rfl (Nat.le_of_ble_eq_true rfl) ⟨(Nat.le_of_ble_eq_true rfl), (Nat.le_of_ble_eq_true rfl)⟩ dX11_stack_23 (fun b9 => ?_)
    refine x_if_eq hC 40 dX11_stack_26 (by decide) (fun h10 => ?_) (fun h10 => ?_)
    · have hr := (ie_s hr).1 h10
      refine x_aload_n hC dX11_stack_40 rfl 0 rfl ?_
      refine x_iconst hC (2 : Int32) dX11_stack_41 (by decide) ?_
      obtain ⟨x11, M12, q13, hr⟩ := bd2_s hr
      refine x_callV (ci := 5) (q := (RX11, TX11, 32)) (As := [.int (2 : Int32)]) hC (c_X11_no l G M1 hi0 (2 : Int32) q13) kc_yX11_no km_X11_221 ki_yX11_no kv_yX11_no kn_RX11 ky_yX11_no rfl ⟨rfl, rfl⟩ ⟨(Nat.le_of_ble_eq_true rfl), (Nat.le_of_ble_eq_true rfl)⟩ hi0 (by decide) rfl rfl (Nat.le_of_ble_eq_true rfl) ⟨(Nat.le_of_ble_eq_true rfl), (Nat.le_of_ble_eq_true rfl)⟩ dX11_stack_42 (fun b14 => ?_)
      cases hr
      exact x_iret hC rfl dX11_stack_45
    · have hr := (ie_s hr).2 h10
      refine x_iload hC dX11_stack_29 4 rfl ?_
      refine x_iconst hC (0 : Int32) dX11_stack_31 (by decide) ?_
      refine x_bipush hC (20 : Int32) dX11_stack_32 (by decide) ?_
      obtain ⟨x15, e16, hr⟩ := lz_s hr
      refine x_callS (As := [.int a4, .int (0 : Int32), .int (20 : Int32)]) hC (c_X11_isIn l G M1 a4 (0 : Int32) (20 : Int32) e16.symm) kc_yX11_isIn km_X11_72 kt_yX11_isIn kn_RX11 ky_yX11_isIn rfl ⟨rfl, rfl⟩ ⟨(Nat.le_of_ble_eq_true rfl), (Nat.le_of_ble_eq_true rfl)⟩ rfl (Nat.le_of_ble_eq_true rfl) ⟨(Nat.le_of_ble_eq_true rfl), (Nat.le_of_ble_eq_true rfl)⟩ dX11_stack_34 (fun b17 => ?_)
      refine x_if_ne hC 46 dX11_stack_37 (by decide) (fun h18 => ?_) (fun h18 => ?_)
      · have hr := (ie_s hr).2 h18
        refine x_bipush hC (8 : Int32) dX11_stack_46 (by decide) ?_
        refine x_iload_n hC dX11_stack_48 rfl 2 rfl ?_
        refine x_imul hC dX11_stack_49 ?_
        refine x_iload_n hC dX11_stack_50 rfl 1 rfl ?_
        refine x_iadd hC dX11_stack_51 ?_
        obtain ⟨x19, e20, hr⟩ := lz_s hr
        refine x_topi e20 ?_
        refine x_istore hC [(5, .int x19), (0, .ref (G.2.1 i0)), (1, .int a1), (2, .int a2), (3, .int a3), (4, .int a4)] dX11_stack_52  (Nat.le_of_ble_eq_true rfl) rfl ?_
        refine x_aload_n hC dX11_stack_54 rfl 1 rfl ?_
        refine gf_X11_53 hC hi0 dX11_stack_55 ?_
        refine gf_X11_241 hC (kr_5_29 hi0) dX11_stack_58 ?_
        refine x_iload hC dX11_stack_61 0 rfl ?_
        obtain ⟨h21, hr⟩ := it_s hr
        refine x_iald hC (kr_4_8 (kr_5_29 hi0)) h21 dX11_stack_63 ?_
        refine x_iload_n hC dX11_stack_64 rfl 4 rfl ?_
        refine x_iadd hC dX11_stack_65 ?_
        refine x_bipush hC (99 : Int32) dX11_stack_66 (by decide) ?_
        refine x_icmp_le hC 77 dX11_stack_68 (by decide) (fun h22 => ?_) (fun h22 => ?_)
        · have hr := (ie_s hr).1 h22
          refine x_aload_n hC dX11_stack_77 rfl 1 rfl ?_
          refine gf_X11_53 hC hi0 dX11_stack_78 ?_
          refine x_iload hC dX11_stack_81 0 rfl ?_
          refine x_iload_n hC dX11_stack_83 rfl 4 rfl ?_
          refine x_iload hC dX11_stack_84 5 rfl ?_
          obtain ⟨M23, q24, hr⟩ := bd1_s hr
          refine x_callV (ci := 4) (q := (RX10, TX10, 13)) (As := [.int x19, .int a3, .int a4]) hC (c_X10_pile l G M1 (kr_5_29 hi0) x19 a3 a4 q24) kc_yX10_pile km_X11_322 ki_yX10_pile kv_yX10_pile kn_RX10 ky_yX10_pile rfl ⟨rfl, rfl⟩ ⟨(Nat.le_of_ble_eq_true rfl), (Nat.le_of_ble_eq_true rfl)⟩ (kr_5_29 hi0) (by decide) rfl rfl (Nat.le_of_ble_eq_true rfl) ⟨(Nat.le_of_ble_eq_true rfl), (Nat.le_of_ble_eq_true rfl)⟩ dX11_stack_86 (fun b25 => ?_)
          refine x_aload_n hC dX11_stack_89 rfl 1 rfl ?_
          refine gf_X11_53 hC hi0 dX11_stack_90 ?_
          refine gf_X11_241 hC (kr_5_29 hi0) dX11_stack_93 ?_
          refine x_iload hC dX11_stack_96 0 rfl ?_
          obtain ⟨h26, hr⟩ := it_s hr
          refine x_iald hC (kr_4_8 (kr_5_29 hi0)) h26 dX11_stack_98 ?_
          cases hr
          exact x_iret hC rfl dX11_stack_99
        · have hr := (ie_s hr).2 h22
          refine x_aload_n hC dX11_stack_71 rfl 1 rfl ?_
          refine x_iconst hC (3 : Int32) dX11_stack_72 (by decide) ?_
          obtain ⟨x27, M28, q29, hr⟩ := bd2_s hr
          refine x_callV (ci := 5) (q := (RX11, TX11, 32)) (As := [.int (3 : Int32)]) hC (c_X11_no l G M1 hi0 (3 : Int32) q29) kc_yX11_no km_X11_221 ki_yX11_no kv_yX11_no kn_RX11 ky_yX11_no rfl ⟨rfl, rfl⟩ ⟨(Nat.le_of_ble_eq_true rfl), (Nat.le_of_ble_eq_true rfl)⟩ hi0 (by decide) rfl rfl (Nat.le_of_ble_eq_true rfl) ⟨(Nat.le_of_ble_eq_true rfl), (Nat.le_of_ble_eq_true rfl)⟩ dX11_stack_73 (fun b30 => ?_)
          cases hr
          exact x_iret hC rfl dX11_stack_76
      · have hr := (ie_s hr).1 h18
        refine x_aload_n hC dX11_stack_40 rfl 0 rfl ?_
        refine x_iconst hC (2 : Int32) dX11_stack_41 (by decide) ?_
        obtain ⟨x31, M32, q33, hr⟩ := bd2_s hr
        refine x_callV (ci := 5) (q := (RX11, TX11, 32)) (As := [.int (2 : Int32)]) hC (c_X11_no l G M1 hi0 (2 : Int32) q33) kc_yX11_no km_X11_221 ki_yX11_no kv_yX11_no kn_RX11 ky_yX11_no rfl ⟨rfl, rfl⟩ ⟨(Nat.le_of_ble_eq_true rfl), (Nat.le_of_ble_eq_true rfl)⟩ hi0 (by decide) rfl rfl (Nat.le_of_ble_eq_true rfl) ⟨(Nat.le_of_ble_eq_true rfl), (Nat.le_of_ble_eq_true rfl)⟩ dX11_stack_42 (fun b34 => ?_)
        cases hr
        exact x_iret hC rfl dX11_stack_45
  · have hr := (ie_s hr).1 h6
    refine x_aload_n hC dX11_stack_13 rfl 0 rfl ?_
    refine x_iconst hC (1 : Int32) dX11_stack_14 (by decide) ?_
    obtain ⟨x35, M36, q37, hr⟩ := bd2_s hr
    refine x_callV (ci := 5) (q := (RX11, TX11, 32)) (As := [.int (1 : Int32)]) hC (c_X11_no l G M1 hi0 (1 : Int32) q37) kc_yX11_no km_X11_221 ki_yX11_no kv_yX11_no kn_RX11 ky_yX11_no rfl ⟨rfl, rfl⟩ ⟨(Nat.le_of_ble_eq_true rfl), (Nat.le_of_ble_eq_true rfl)⟩ hi0 (by decide) rfl rfl (Nat.le_of_ble_eq_true rfl) ⟨(Nat.le_of_ble_eq_true rfl), (Nat.le_of_ble_eq_true rfl)⟩ dX11_stack_15 (fun b38 => ?_)
    cases hr
    exact x_iret hC rfl dX11_stack_18

theorem dX11_cellTold_0 : decode cX11_cellTold 0 = .ok (.iload_n 2, 1) := by decide +kernel
theorem dX11_cellTold_1 : decode cX11_cellTold 1 = .ok (.ifCond .ne 15, 3) := by decide +kernel
theorem dX11_cellTold_4 : decode cX11_cellTold 4 = .ok (.aload_n 0, 1) := by decide +kernel
theorem dX11_cellTold_5 : decode cX11_cellTold 5 = .ok (.getfield 53, 3) := by decide +kernel
theorem dX11_cellTold_8 : decode cX11_cellTold 8 = .ok (.getfield 63, 3) := by decide +kernel
theorem dX11_cellTold_11 : decode cX11_cellTold 11 = .ok (.iload_n 1, 1) := by decide +kernel
theorem dX11_cellTold_12 : decode cX11_cellTold 12 = .ok (.iaload, 1) := by decide +kernel
theorem dX11_cellTold_13 : decode cX11_cellTold 13 = .ok (.goto 63, 3) := by decide +kernel
theorem dX11_cellTold_16 : decode cX11_cellTold 16 = .ok (.iload_n 2, 1) := by decide +kernel
theorem dX11_cellTold_17 : decode cX11_cellTold 17 = .ok (.iconst 1, 1) := by decide +kernel
theorem dX11_cellTold_18 : decode cX11_cellTold 18 = .ok (.if_icmp .ne 15, 3) := by decide +kernel
theorem dX11_cellTold_21 : decode cX11_cellTold 21 = .ok (.aload_n 0, 1) := by decide +kernel
theorem dX11_cellTold_22 : decode cX11_cellTold 22 = .ok (.getfield 53, 3) := by decide +kernel
theorem dX11_cellTold_25 : decode cX11_cellTold 25 = .ok (.getfield 66, 3) := by decide +kernel
theorem dX11_cellTold_28 : decode cX11_cellTold 28 = .ok (.iload_n 1, 1) := by decide +kernel
theorem dX11_cellTold_29 : decode cX11_cellTold 29 = .ok (.iaload, 1) := by decide +kernel
theorem dX11_cellTold_30 : decode cX11_cellTold 30 = .ok (.goto 46, 3) := by decide +kernel
theorem dX11_cellTold_33 : decode cX11_cellTold 33 = .ok (.iload_n 2, 1) := by decide +kernel
theorem dX11_cellTold_34 : decode cX11_cellTold 34 = .ok (.iconst 2, 1) := by decide +kernel
theorem dX11_cellTold_35 : decode cX11_cellTold 35 = .ok (.if_icmp .ne 15, 3) := by decide +kernel
theorem dX11_cellTold_38 : decode cX11_cellTold 38 = .ok (.aload_n 0, 1) := by decide +kernel
theorem dX11_cellTold_39 : decode cX11_cellTold 39 = .ok (.getfield 53, 3) := by decide +kernel
theorem dX11_cellTold_42 : decode cX11_cellTold 42 = .ok (.getfield 241, 3) := by decide +kernel
theorem dX11_cellTold_45 : decode cX11_cellTold 45 = .ok (.iload_n 1, 1) := by decide +kernel
theorem dX11_cellTold_46 : decode cX11_cellTold 46 = .ok (.iaload, 1) := by decide +kernel
theorem dX11_cellTold_47 : decode cX11_cellTold 47 = .ok (.goto 29, 3) := by decide +kernel
theorem dX11_cellTold_50 : decode cX11_cellTold 50 = .ok (.iload_n 2, 1) := by decide +kernel
theorem dX11_cellTold_51 : decode cX11_cellTold 51 = .ok (.iconst 3, 1) := by decide +kernel
theorem dX11_cellTold_52 : decode cX11_cellTold 52 = .ok (.if_icmp .ne 15, 3) := by decide +kernel
theorem dX11_cellTold_55 : decode cX11_cellTold 55 = .ok (.aload_n 0, 1) := by decide +kernel
theorem dX11_cellTold_56 : decode cX11_cellTold 56 = .ok (.getfield 53, 3) := by decide +kernel
theorem dX11_cellTold_59 : decode cX11_cellTold 59 = .ok (.getfield 244, 3) := by decide +kernel
theorem dX11_cellTold_62 : decode cX11_cellTold 62 = .ok (.iload_n 1, 1) := by decide +kernel
theorem dX11_cellTold_63 : decode cX11_cellTold 63 = .ok (.iaload, 1) := by decide +kernel
theorem dX11_cellTold_64 : decode cX11_cellTold 64 = .ok (.goto 12, 3) := by decide +kernel
theorem dX11_cellTold_67 : decode cX11_cellTold 67 = .ok (.aload_n 0, 1) := by decide +kernel
theorem dX11_cellTold_68 : decode cX11_cellTold 68 = .ok (.getfield 53, 3) := by decide +kernel
theorem dX11_cellTold_71 : decode cX11_cellTold 71 = .ok (.getfield 300, 3) := by decide +kernel
theorem dX11_cellTold_74 : decode cX11_cellTold 74 = .ok (.iload_n 1, 1) := by decide +kernel
theorem dX11_cellTold_75 : decode cX11_cellTold 75 = .ok (.iaload, 1) := by decide +kernel
theorem dX11_cellTold_76 : decode cX11_cellTold 76 = .ok (.ireturn, 1) := by decide +kernel

def f_X11_cellTold (i0 : Nat) (a1 : Int32) (a2 : Int32) (M : Mm) : Option Int32 :=
  if (a2 = 0) then (if 0 ≤ a1.toInt ∧ a1.toInt < ((64 : Nat) : Int) then (some (M ((i0 + 14) + 1) (ix a1))) else none) else (if (a2 = (1 : Int32)) then (if 0 ≤ a1.toInt ∧ a1.toInt < ((64 : Nat) : Int) then (some (M ((i0 + 14) + 2) (ix a1))) else none) else (if (a2 = (2 : Int32)) then (if 0 ≤ a1.toInt ∧ a1.toInt < ((64 : Nat) : Int) then (some (M ((i0 + 14) + 3) (ix a1))) else none) else (if (a2 = (3 : Int32)) then (if 0 ≤ a1.toInt ∧ a1.toInt < ((64 : Nat) : Int) then (some (M ((i0 + 14) + 4) (ix a1))) else none) else (if 0 ≤ a1.toInt ∧ a1.toInt < ((64 : Nat) : Int) then (some (M ((i0 + 14) + 5) (ix a1))) else none))))

set_option maxHeartbeats 4000000 in
set_option maxRecDepth 100000 in
theorem c_X11_cellTold (l : Launch) (G : GG) (M : Mm) {i0 : Nat} (hi0 : (kd i0).1 = 5) (a1 : Int32) (a2 : Int32) {r : Int32} (hr : f_X11_cellTold i0 a1 a2 M = some r) : Mo false l yX11_cellTold (WS yX11_cellTold cX11_cellTold 3 (some .int)) (RM 0 0 0 0) 0 0 [.ref (G.2.1 i0), .int a1, .int a2] G M (some (.int r)) M := by
  refine Mo.of (by decide +kernel) (Nat.le_of_ble_eq_true rfl) ?_
  intro p e s m args below meth c hC
  have hC : CX p s m args meth c cX11_cellTold 3 RX11 (some .int) G := hC
  rw [f_X11_cellTold] at hr
  show XJ p l e (RM 0 0 0 0) s m args below meth c G 3 _ 0 0 M 0 [(0, .ref (G.2.1 i0)), (1, .int a1), (2, .int a2)] []
  refine x_iload_n hC dX11_cellTold_0 rfl 2 rfl ?_
  refine x_if_ne hC 16 dX11_cellTold_1 (by decide) (fun h1 => ?_) (fun h1 => ?_)
  · have hr := (ie_s hr).2 h1
    refine x_iload_n hC dX11_cellTold_16 rfl 2 rfl ?_
    refine x_iconst hC (1 : Int32) dX11_cellTold_17 (by decide) ?_
    refine x_icmp_ne hC 33 dX11_cellTold_18 (by decide) (fun h2 => ?_) (fun h2 => ?_)
    · have hr := (ie_s hr).2 h2
      refine x_iload_n hC dX11_cellTold_33 rfl 2 rfl ?_
      refine x_iconst hC (2 : Int32) dX11_cellTold_34 (by decide) ?_
      refine x_icmp_ne hC 50 dX11_cellTold_35 (by decide) (fun h3 => ?_) (fun h3 => ?_)
      · have hr := (ie_s hr).2 h3
        refine x_iload_n hC dX11_cellTold_50 rfl 2 rfl ?_
        refine x_iconst hC (3 : Int32) dX11_cellTold_51 (by decide) ?_
        refine x_icmp_ne hC 67 dX11_cellTold_52 (by decide) (fun h4 => ?_) (fun h4 => ?_)
        · have hr := (ie_s hr).2 h4
          refine x_aload_n hC dX11_cellTold_67 rfl 0 rfl ?_
          refine gf_X11_53 hC hi0 dX11_cellTold_68 ?_
          refine gf_X11_300 hC (kr_5_29 hi0) dX11_cellTold_71 ?_
          refine x_iload_n hC dX11_cellTold_74 rfl 1 rfl ?_
          obtain ⟨h5, hr⟩ := it_s hr
          refine x_iald hC (kr_4_10 (kr_5_29 hi0)) h5 dX11_cellTold_75 ?_
          cases hr
          exact x_iret hC rfl dX11_cellTold_76
        · have hr := (ie_s hr).1 h4
          refine x_aload_n hC dX11_cellTold_55 rfl 0 rfl ?_
          refine gf_X11_53 hC hi0 dX11_cellTold_56 ?_
          refine gf_X11_244 hC (kr_5_29 hi0) dX11_cellTold_59 ?_
          refine x_iload_n hC dX11_cellTold_62 rfl 1 rfl ?_
          obtain ⟨h6, hr⟩ := it_s hr
          refine x_iald hC (kr_4_9 (kr_5_29 hi0)) h6 dX11_cellTold_63 ?_
          refine x_goto hC 76 dX11_cellTold_64 (by decide) ?_
          cases hr
          exact x_iret hC rfl dX11_cellTold_76
      · have hr := (ie_s hr).1 h3
        refine x_aload_n hC dX11_cellTold_38 rfl 0 rfl ?_
        refine gf_X11_53 hC hi0 dX11_cellTold_39 ?_
        refine gf_X11_241 hC (kr_5_29 hi0) dX11_cellTold_42 ?_
        refine x_iload_n hC dX11_cellTold_45 rfl 1 rfl ?_
        obtain ⟨h7, hr⟩ := it_s hr
        refine x_iald hC (kr_4_8 (kr_5_29 hi0)) h7 dX11_cellTold_46 ?_
        refine x_goto hC 76 dX11_cellTold_47 (by decide) ?_
        cases hr
        exact x_iret hC rfl dX11_cellTold_76
    · have hr := (ie_s hr).1 h2
      refine x_aload_n hC dX11_cellTold_21 rfl 0 rfl ?_
      refine gf_X11_53 hC hi0 dX11_cellTold_22 ?_
      refine gf_X11_66 hC (kr_5_29 hi0) dX11_cellTold_25 ?_
      refine x_iload_n hC dX11_cellTold_28 rfl 1 rfl ?_
      obtain ⟨h8, hr⟩ := it_s hr
      refine x_iald hC (kr_4_7 (kr_5_29 hi0)) h8 dX11_cellTold_29 ?_
      refine x_goto hC 76 dX11_cellTold_30 (by decide) ?_
      cases hr
      exact x_iret hC rfl dX11_cellTold_76
  · have hr := (ie_s hr).1 h1
    refine x_aload_n hC dX11_cellTold_4 rfl 0 rfl ?_
    refine gf_X11_53 hC hi0 dX11_cellTold_5 ?_
    refine gf_X11_63 hC (kr_5_29 hi0) dX11_cellTold_8 ?_
    refine x_iload_n hC dX11_cellTold_11 rfl 1 rfl ?_
    obtain ⟨h9, hr⟩ := it_s hr
    refine x_iald hC (kr_4_6 (kr_5_29 hi0)) h9 dX11_cellTold_12 ?_
    refine x_goto hC 76 dX11_cellTold_13 (by decide) ?_
    cases hr
    exact x_iret hC rfl dX11_cellTold_76

theorem dX11_cell_0 : decode cX11_cell 0 = .ok (.aload_n 0, 1) := by decide +kernel
theorem dX11_cell_1 : decode cX11_cell 1 = .ok (.iconst 0, 1) := by decide +kernel
theorem dX11_cell_2 : decode cX11_cell 2 = .ok (.putfield 69, 3) := by decide +kernel
theorem dX11_cell_5 : decode cX11_cell 5 = .ok (.iload_n 1, 1) := by decide +kernel
theorem dX11_cell_6 : decode cX11_cell 6 = .ok (.iload_n 2, 1) := by decide +kernel
theorem dX11_cell_7 : decode cX11_cell 7 = .ok (.invokestatic 313, 3) := by decide +kernel
theorem dX11_cell_10 : decode cX11_cell 10 = .ok (.ifCond .eq 26, 3) := by decide +kernel
theorem dX11_cell_13 : decode cX11_cell 13 = .ok (.iload_n 3, 1) := by decide +kernel
theorem dX11_cell_14 : decode cX11_cell 14 = .ok (.iconst 0, 1) := by decide +kernel
theorem dX11_cell_15 : decode cX11_cell 15 = .ok (.iconst 4, 1) := by decide +kernel
theorem dX11_cell_16 : decode cX11_cell 16 = .ok (.invokestatic 72, 3) := by decide +kernel
theorem dX11_cell_19 : decode cX11_cell 19 = .ok (.ifCond .eq 17, 3) := by decide +kernel
theorem dX11_cell_22 : decode cX11_cell 22 = .ok (.aload_n 0, 1) := by decide +kernel
theorem dX11_cell_23 : decode cX11_cell 23 = .ok (.bipush 8, 2) := by decide +kernel
theorem dX11_cell_25 : decode cX11_cell 25 = .ok (.iload_n 2, 1) := by decide +kernel
theorem dX11_cell_26 : decode cX11_cell 26 = .ok (.imul, 1) := by decide +kernel
theorem dX11_cell_27 : decode cX11_cell 27 = .ok (.iload_n 1, 1) := by decide +kernel
theorem dX11_cell_28 : decode cX11_cell 28 = .ok (.iadd, 1) := by decide +kernel
theorem dX11_cell_29 : decode cX11_cell 29 = .ok (.iload_n 3, 1) := by decide +kernel
theorem dX11_cell_30 : decode cX11_cell 30 = .ok (.invokevirtual 373, 3) := by decide +kernel
theorem dX11_cell_33 : decode cX11_cell 33 = .ok (.goto 8, 3) := by decide +kernel
theorem dX11_cell_36 : decode cX11_cell 36 = .ok (.aload_n 0, 1) := by decide +kernel
theorem dX11_cell_37 : decode cX11_cell 37 = .ok (.iconst 1, 1) := by decide +kernel
theorem dX11_cell_38 : decode cX11_cell 38 = .ok (.invokevirtual 221, 3) := by decide +kernel
theorem dX11_cell_41 : decode cX11_cell 41 = .ok (.ireturn, 1) := by decide +kernel

def f_X11_cell (i0 : Nat) (a1 : Int32) (a2 : Int32) (a3 : Int32) (M : Mm) : Option (Int32 × Mm) :=
  lz (wr M i0 0 (0 : Int32)) fun M1 => lz (f_X11_isCell a1 a2) fun x3 => if (x3 = 0) then (bd2 (f_X11_no i0 (1 : Int32) M1) fun x7 M8 => some (x7, M8)) else (lz (f_X11_isIn a3 (0 : Int32) (4 : Int32)) fun x11 => if (x11 = 0) then (bd2 (f_X11_no i0 (1 : Int32) M1) fun x15 M16 => some (x15, M16)) else (bd1 (f_X11_cellTold i0 (((8 : Int32) * a2) + a1) a3 M1) fun x19 => some (x19, M1)))

set_option maxHeartbeats 4000000 in
set_option maxRecDepth 100000 in
theorem c_X11_cell (l : Launch) (G : GG) (M : Mm) {i0 : Nat} (hi0 : (kd i0).1 = 5) (a1 : Int32) (a2 : Int32) (a3 : Int32) {r : Int32} {M9 : Mm} (hr : f_X11_cell i0 a1 a2 a3 M = some (r, M9)) : Mo false l yX11_cell (WS yX11_cell cX11_cell 4 (some .int)) (RM 2 0 0 43) 0 0 [.ref (G.2.1 i0), .int a1, .int a2, .int a3] G M (some (.int r)) M9 := by
  refine Mo.of (by decide +kernel) (Nat.le_of_ble_eq_true rfl) ?_
  intro p e s m args below meth c hC
  have hC : CX p s m args meth c cX11_cell 4 RX11 (some .int) G := hC
  rw [f_X11_cell] at hr
  show XJ p l e (RM 2 0 0 43) s m args below meth c G 4 _ 0 0 M 0 [(0, .ref (G.2.1 i0)), (1, .int a1), (2, .int a2), (3, .int a3)] []
  refine x_aload_n hC dX11_cell_0 rfl 0 rfl ?_
  refine x_iconst hC (0 : Int32) dX11_cell_1 (by decide) ?_
  obtain ⟨M1, e2, hr⟩ := lz_s hr
  refine pf_X11_69 hC hi0 e2 dX11_cell_2 ?_
  refine x_iload_n hC dX11_cell_5 rfl 1 rfl ?_
  refine x_iload_n hC dX11_cell_6 rfl 2 rfl ?_
  obtain ⟨x3, e4, hr⟩ := lz_s hr
  refine x_callS (As := [.int a1, .int a2]) hC (c_X11_isCell l G M1 a1 a2 e4.symm) kc_yX11_isCell km_X11_313 kt_yX11_isCell kn_RX11 ky_yX11_isCell rfl ⟨rfl, rfl⟩ ⟨(Nat.le_of_ble_eq_true rfl), (Nat.le_of_ble_eq_true rfl)⟩ rfl (Nat.le_of_ble_eq_true rfl) ⟨(Nat.le_of_ble_eq_true rfl), (Nat.le_of_ble_eq_true rfl)⟩ dX11_cell_7 (fun b5 => ?_)
  refine x_if_eq hC 36 dX11_cell_10 (by decide) (fun h6 => ?_) (fun h6 => ?_)
  · have hr := (ie_s hr).1 h6
    refine x_aload_n hC dX11_cell_36 rfl 0 rfl ?_
    refine x_iconst hC (1 : Int32) dX11_cell_37 (by decide) ?_
    obtain ⟨x7, M8, q9, hr⟩ := bd2_s hr
    refine x_callV (ci := 5) (q := (RX11, TX11, 32)) (As := [.int (1 : Int32)]) hC (c_X11_no l G M1 hi0 (1 : Int32) q9) kc_yX11_no km_X11_221 ki_yX11_no kv_yX11_no kn_RX11 ky_yX11_no rfl ⟨rfl, rfl⟩ ⟨(Nat.le_of_ble_eq_true rfl), (Nat.le_of_ble_eq_true rfl)⟩ hi0 (by decide) rfl rfl (Nat.le_of_ble_eq_true rfl) ⟨(Nat.le_of_ble_eq_true rfl), (Nat.le_of_ble_eq_true rfl)⟩ dX11_cell_38 (fun b10 => ?_)
    cases hr
    exact x_iret hC rfl dX11_cell_41
  · have hr := (ie_s hr).2 h6
    refine x_iload_n hC dX11_cell_13 rfl 3 rfl ?_
    refine x_iconst hC (0 : Int32) dX11_cell_14 (by decide) ?_
    refine x_iconst hC (4 : Int32) dX11_cell_15 (by decide) ?_
    obtain ⟨x11, e12, hr⟩ := lz_s hr
    refine x_callS (As := [.int a3, .int (0 : Int32), .int (4 : Int32)]) hC (c_X11_isIn l G M1 a3 (0 : Int32) (4 : Int32) e12.symm) kc_yX11_isIn km_X11_72 kt_yX11_isIn kn_RX11 ky_yX11_isIn rfl ⟨rfl, rfl⟩ ⟨(Nat.le_of_ble_eq_true rfl), (Nat.le_of_ble_eq_true rfl)⟩ rfl (Nat.le_of_ble_eq_true rfl) ⟨(Nat.le_of_ble_eq_true rfl), (Nat.le_of_ble_eq_true rfl)⟩ dX11_cell_16 (fun b13 => ?_)
    refine x_if_eq hC 36 dX11_cell_19 (by decide) (fun h14 => ?_) (fun h14 => ?_)
    · have hr := (ie_s hr).1 h14
      refine x_aload_n hC dX11_cell_36 rfl 0 rfl ?_
      refine x_iconst hC (1 : Int32) dX11_cell_37 (by decide) ?_
      obtain ⟨x15, M16, q17, hr⟩ := bd2_s hr
      refine x_callV (ci := 5) (q := (RX11, TX11, 32)) (As := [.int (1 : Int32)]) hC (c_X11_no l G M1 hi0 (1 : Int32) q17) kc_yX11_no km_X11_221 ki_yX11_no kv_yX11_no kn_RX11 ky_yX11_no rfl ⟨rfl, rfl⟩ ⟨(Nat.le_of_ble_eq_true rfl), (Nat.le_of_ble_eq_true rfl)⟩ hi0 (by decide) rfl rfl (Nat.le_of_ble_eq_true rfl) ⟨(Nat.le_of_ble_eq_true rfl), (Nat.le_of_ble_eq_true rfl)⟩ dX11_cell_38 (fun b18 => ?_)
      cases hr
      exact x_iret hC rfl dX11_cell_41
    · have hr := (ie_s hr).2 h14
      refine x_aload_n hC dX11_cell_22 rfl 0 rfl ?_
      refine x_bipush hC (8 : Int32) dX11_cell_23 (by decide) ?_
      refine x_iload_n hC dX11_cell_25 rfl 2 rfl ?_
      refine x_imul hC dX11_cell_26 ?_
      refine x_iload_n hC dX11_cell_27 rfl 1 rfl ?_
      refine x_iadd hC dX11_cell_28 ?_
      refine x_iload_n hC dX11_cell_29 rfl 3 rfl ?_
      obtain ⟨x19, q20, hr⟩ := bd1_s hr
      refine x_callV (ci := 5) (q := (RX11, TX11, 32)) (As := [.int (((8 : Int32) * a2) + a1), .int a3]) hC (c_X11_cellTold l G M1 hi0 (((8 : Int32) * a2) + a1) a3 q20) kc_yX11_cellTold km_X11_373 ki_yX11_cellTold kv_yX11_cellTold kn_RX11 ky_yX11_cellTold rfl ⟨rfl, rfl⟩ ⟨(Nat.le_of_ble_eq_true rfl), (Nat.le_of_ble_eq_true rfl)⟩ hi0 (by decide) rfl rfl (Nat.le_of_ble_eq_true rfl) ⟨(Nat.le_of_ble_eq_true rfl), (Nat.le_of_ble_eq_true rfl)⟩ dX11_cell_30 (fun b21 => ?_)
      refine x_goto hC 41 dX11_cell_33 (by decide) ?_
      cases hr
      exact x_iret hC rfl dX11_cell_41

theorem dX11_gangTold_0 : decode cX11_gangTold 0 = .ok (.aload_n 0, 1) := by decide +kernel
theorem dX11_gangTold_1 : decode cX11_gangTold 1 = .ok (.getfield 53, 3) := by decide +kernel
theorem dX11_gangTold_4 : decode cX11_gangTold 4 = .ok (.getfield 239, 3) := by decide +kernel
theorem dX11_gangTold_7 : decode cX11_gangTold 7 = .ok (.bipush 10, 2) := by decide +kernel
theorem dX11_gangTold_9 : decode cX11_gangTold 9 = .ok (.iload_n 1, 1) := by decide +kernel
theorem dX11_gangTold_10 : decode cX11_gangTold 10 = .ok (.imul, 1) := by decide +kernel
theorem dX11_gangTold_11 : decode cX11_gangTold 11 = .ok (.iload_n 2, 1) := by decide +kernel
theorem dX11_gangTold_12 : decode cX11_gangTold 12 = .ok (.iconst 4, 1) := by decide +kernel
theorem dX11_gangTold_13 : decode cX11_gangTold 13 = .ok (.if_icmp .ge 7, 3) := by decide +kernel
theorem dX11_gangTold_16 : decode cX11_gangTold 16 = .ok (.iload_n 2, 1) := by decide +kernel
theorem dX11_gangTold_17 : decode cX11_gangTold 17 = .ok (.goto 6, 3) := by decide +kernel
theorem dX11_gangTold_20 : decode cX11_gangTold 20 = .ok (.iload_n 2, 1) := by decide +kernel
theorem dX11_gangTold_21 : decode cX11_gangTold 21 = .ok (.iconst 1, 1) := by decide +kernel
theorem dX11_gangTold_22 : decode cX11_gangTold 22 = .ok (.iadd, 1) := by decide +kernel
theorem dX11_gangTold_23 : decode cX11_gangTold 23 = .ok (.iadd, 1) := by decide +kernel
theorem dX11_gangTold_24 : decode cX11_gangTold 24 = .ok (.iaload, 1) := by decide +kernel
theorem dX11_gangTold_25 : decode cX11_gangTold 25 = .ok (.ireturn, 1) := by decide +kernel

def f_X11_gangTold (i0 : Nat) (a1 : Int32) (a2 : Int32) (M : Mm) : Option Int32 :=
  lz (if ((4 : Int32) ≤ a2) then ((a2 + (1 : Int32))) else (a2)) fun x3 => if 0 ≤ (((10 : Int32) * a1) + x3).toInt ∧ (((10 : Int32) * a1) + x3).toInt < ((40 : Nat) : Int) then (some (M ((i0 + 14) + 6) (ix (((10 : Int32) * a1) + x3)))) else none

set_option maxHeartbeats 4000000 in
set_option maxRecDepth 100000 in
theorem c_X11_gangTold (l : Launch) (G : GG) (M : Mm) {i0 : Nat} (hi0 : (kd i0).1 = 5) (a1 : Int32) (a2 : Int32) {r : Int32} (hr : f_X11_gangTold i0 a1 a2 M = some r) : Mo false l yX11_gangTold (WS yX11_gangTold cX11_gangTold 3 (some .int)) (RM 0 0 0 0) 0 0 [.ref (G.2.1 i0), .int a1, .int a2] G M (some (.int r)) M := by
  refine Mo.of (by decide +kernel) (Nat.le_of_ble_eq_true rfl) ?_
  intro p e s m args below meth c hC
  have hC : CX p s m args meth c cX11_gangTold 3 RX11 (some .int) G := hC
  rw [f_X11_gangTold] at hr
  show XJ p l e (RM 0 0 0 0) s m args below meth c G 3 _ 0 0 M 0 [(0, .ref (G.2.1 i0)), (1, .int a1), (2, .int a2)] []
  refine x_aload_n hC dX11_gangTold_0 rfl 0 rfl ?_
  refine gf_X11_53 hC hi0 dX11_gangTold_1 ?_
  refine gf_X11_239 hC (kr_5_29 hi0) dX11_gangTold_4 ?_
  refine x_bipush hC (10 : Int32) dX11_gangTold_7 (by decide) ?_
  refine x_iload_n hC dX11_gangTold_9 rfl 1 rfl ?_
  refine x_imul hC dX11_gangTold_10 ?_
  refine x_iload_n hC dX11_gangTold_11 rfl 2 rfl ?_
  refine x_iconst hC (4 : Int32) dX11_gangTold_12 (by decide) ?_
  obtain ⟨x3, e4, hr⟩ := lz_s hr
  have q1 := e4.symm
  refine x_join (M' := M) (pc' := 23) (lv' := []) (st' := [.int x3, .int ((10 : Int32) * a1), .ref (G.2.1 ((i0 + 14) + 6))]) ?_ ?_
  · refine x_iadd hC dX11_gangTold_23 ?_
    obtain ⟨h5, hr⟩ := it_s hr
    refine x_iald hC (kr_4_11 (kr_5_29 hi0)) h5 dX11_gangTold_24 ?_
    cases hr
    exact x_iret hC rfl dX11_gangTold_25
  · intro kj
    refine x_icmp_ge hC 20 dX11_gangTold_13 (by decide) (fun h2 => ?_) (fun h2 => ?_)
    · have q1 := (ie_s q1).1 h2
      refine x_iload_n hC dX11_gangTold_20 rfl 2 rfl ?_
      refine x_iconst hC (1 : Int32) dX11_gangTold_21 (by decide) ?_
      refine x_iadd hC dX11_gangTold_22 ?_
      subst q1
      exact x_sub [] rfl kj
    · have q1 := (ie_s q1).2 h2
      refine x_iload_n hC dX11_gangTold_16 rfl 2 rfl ?_
      refine x_goto hC 23 dX11_gangTold_17 (by decide) ?_
      subst q1
      exact x_sub [] rfl kj

theorem dX11_gang__0 : decode cX11_gang_ 0 = .ok (.aload_n 0, 1) := by decide +kernel
theorem dX11_gang__1 : decode cX11_gang_ 1 = .ok (.iconst 0, 1) := by decide +kernel
theorem dX11_gang__2 : decode cX11_gang_ 2 = .ok (.putfield 69, 3) := by decide +kernel
theorem dX11_gang__5 : decode cX11_gang_ 5 = .ok (.iload_n 1, 1) := by decide +kernel
theorem dX11_gang__6 : decode cX11_gang_ 6 = .ok (.iconst 0, 1) := by decide +kernel
theorem dX11_gang__7 : decode cX11_gang_ 7 = .ok (.aload_n 0, 1) := by decide +kernel
theorem dX11_gang__8 : decode cX11_gang_ 8 = .ok (.getfield 236, 3) := by decide +kernel
theorem dX11_gang__11 : decode cX11_gang_ 11 = .ok (.iconst 1, 1) := by decide +kernel
theorem dX11_gang__12 : decode cX11_gang_ 12 = .ok (.isub, 1) := by decide +kernel
theorem dX11_gang__13 : decode cX11_gang_ 13 = .ok (.invokestatic 72, 3) := by decide +kernel
theorem dX11_gang__16 : decode cX11_gang_ 16 = .ok (.ifCond .eq 22, 3) := by decide +kernel
theorem dX11_gang__19 : decode cX11_gang_ 19 = .ok (.iload_n 2, 1) := by decide +kernel
theorem dX11_gang__20 : decode cX11_gang_ 20 = .ok (.iconst 0, 1) := by decide +kernel
theorem dX11_gang__21 : decode cX11_gang_ 21 = .ok (.bipush 8, 2) := by decide +kernel
theorem dX11_gang__23 : decode cX11_gang_ 23 = .ok (.invokestatic 72, 3) := by decide +kernel
theorem dX11_gang__26 : decode cX11_gang_ 26 = .ok (.ifCond .eq 12, 3) := by decide +kernel
theorem dX11_gang__29 : decode cX11_gang_ 29 = .ok (.aload_n 0, 1) := by decide +kernel
theorem dX11_gang__30 : decode cX11_gang_ 30 = .ok (.iload_n 1, 1) := by decide +kernel
theorem dX11_gang__31 : decode cX11_gang_ 31 = .ok (.iload_n 2, 1) := by decide +kernel
theorem dX11_gang__32 : decode cX11_gang_ 32 = .ok (.invokevirtual 376, 3) := by decide +kernel
theorem dX11_gang__35 : decode cX11_gang_ 35 = .ok (.goto 8, 3) := by decide +kernel
theorem dX11_gang__38 : decode cX11_gang_ 38 = .ok (.aload_n 0, 1) := by decide +kernel
theorem dX11_gang__39 : decode cX11_gang_ 39 = .ok (.iconst 1, 1) := by decide +kernel
theorem dX11_gang__40 : decode cX11_gang_ 40 = .ok (.invokevirtual 221, 3) := by decide +kernel
theorem dX11_gang__43 : decode cX11_gang_ 43 = .ok (.ireturn, 1) := by decide +kernel

def f_X11_gang_ (i0 : Nat) (a1 : Int32) (a2 : Int32) (M : Mm) : Option (Int32 × Mm) :=
  lz (wr M i0 0 (0 : Int32)) fun M1 => lz (f_X11_isIn a1 (0 : Int32) ((M1 i0 9) - (1 : Int32))) fun x3 => if (x3 = 0) then (bd2 (f_X11_no i0 (1 : Int32) M1) fun x7 M8 => some (x7, M8)) else (lz (f_X11_isIn a2 (0 : Int32) (8 : Int32)) fun x11 => if (x11 = 0) then (bd2 (f_X11_no i0 (1 : Int32) M1) fun x15 M16 => some (x15, M16)) else (bd1 (f_X11_gangTold i0 a1 a2 M1) fun x19 => some (x19, M1)))

set_option maxHeartbeats 4000000 in
set_option maxRecDepth 100000 in
theorem c_X11_gang_ (l : Launch) (G : GG) (M : Mm) {i0 : Nat} (hi0 : (kd i0).1 = 5) (a1 : Int32) (a2 : Int32) {r : Int32} {M9 : Mm} (hr : f_X11_gang_ i0 a1 a2 M = some (r, M9)) : Mo false l yX11_gang_ (WS yX11_gang_ cX11_gang_ 3 (some .int)) (RM 1 0 0 22) 0 0 [.ref (G.2.1 i0), .int a1, .int a2] G M (some (.int r)) M9 := by
  refine Mo.of (by decide +kernel) (Nat.le_of_ble_eq_true rfl) ?_
  intro p e s m args below meth c hC
  have hC : CX p s m args meth c cX11_gang_ 3 RX11 (some .int) G := hC
  rw [f_X11_gang_] at hr
  show XJ p l e (RM 1 0 0 22) s m args below meth c G 3 _ 0 0 M 0 [(0, .ref (G.2.1 i0)), (1, .int a1), (2, .int a2)] []
  refine x_aload_n hC dX11_gang__0 rfl 0 rfl ?_
  refine x_iconst hC (0 : Int32) dX11_gang__1 (by decide) ?_
  obtain ⟨M1, e2, hr⟩ := lz_s hr
  refine pf_X11_69 hC hi0 e2 dX11_gang__2 ?_
  refine x_iload_n hC dX11_gang__5 rfl 1 rfl ?_
  refine x_iconst hC (0 : Int32) dX11_gang__6 (by decide) ?_
  refine x_aload_n hC dX11_gang__7 rfl 0 rfl ?_
  refine gf_X11_236 hC hi0 dX11_gang__8 ?_
  refine x_iconst hC (1 : Int32) dX11_gang__11 (by decide) ?_
  refine x_isub hC dX11_gang__12 ?_
  obtain ⟨x3, e4, hr⟩ := lz_s hr
  refine x_callS (As := [.int a1, .int (0 : Int32), .int ((M1 i0 9) - (1 : Int32))]) hC (c_X11_isIn l G M1 a1 (0 : Int32) ((M1 i0 9) - (1 : Int32)) e4.symm) kc_yX11_isIn km_X11_72 kt_yX11_isIn kn_RX11 ky_yX11_isIn rfl ⟨rfl, rfl⟩ ⟨(Nat.le_of_ble_eq_true rfl), (Nat.le_of_ble_eq_true rfl)⟩ rfl (Nat.le_of_ble_eq_true rfl) ⟨(Nat.le_of_ble_eq_true rfl), (Nat.le_of_ble_eq_true rfl)⟩ dX11_gang__13 (fun b5 => ?_)
  refine x_if_eq hC 38 dX11_gang__16 (by decide) (fun h6 => ?_) (fun h6 => ?_)
  · have hr := (ie_s hr).1 h6
    refine x_aload_n hC dX11_gang__38 rfl 0 rfl ?_
    refine x_iconst hC (1 : Int32) dX11_gang__39 (by decide) ?_
    obtain ⟨x7, M8, q9, hr⟩ := bd2_s hr
    refine x_callV (ci := 5) (q := (RX11, TX11, 32)) (As := [.int (1 : Int32)]) hC (c_X11_no l G M1 hi0 (1 : Int32) q9) kc_yX11_no km_X11_221 ki_yX11_no kv_yX11_no kn_RX11 ky_yX11_no rfl ⟨rfl, rfl⟩ ⟨(Nat.le_of_ble_eq_true rfl), (Nat.le_of_ble_eq_true rfl)⟩ hi0 (by decide) rfl rfl (Nat.le_of_ble_eq_true rfl) ⟨(Nat.le_of_ble_eq_true rfl), (Nat.le_of_ble_eq_true rfl)⟩ dX11_gang__40 (fun b10 => ?_)
    cases hr
    exact x_iret hC rfl dX11_gang__43
  · have hr := (ie_s hr).2 h6
    refine x_iload_n hC dX11_gang__19 rfl 2 rfl ?_
    refine x_iconst hC (0 : Int32) dX11_gang__20 (by decide) ?_
    refine x_bipush hC (8 : Int32) dX11_gang__21 (by decide) ?_
    obtain ⟨x11, e12, hr⟩ := lz_s hr
    refine x_callS (As := [.int a2, .int (0 : Int32), .int (8 : Int32)]) hC (c_X11_isIn l G M1 a2 (0 : Int32) (8 : Int32) e12.symm) kc_yX11_isIn km_X11_72 kt_yX11_isIn kn_RX11 ky_yX11_isIn rfl ⟨rfl, rfl⟩ ⟨(Nat.le_of_ble_eq_true rfl), (Nat.le_of_ble_eq_true rfl)⟩ rfl (Nat.le_of_ble_eq_true rfl) ⟨(Nat.le_of_ble_eq_true rfl), (Nat.le_of_ble_eq_true rfl)⟩ dX11_gang__23 (fun b13 => ?_)
    refine x_if_eq hC 38 dX11_gang__26 (by decide) (fun h14 => ?_) (fun h14 => ?_)
    · have hr := (ie_s hr).1 h14
      refine x_aload_n hC dX11_gang__38 rfl 0 rfl ?_
      refine x_iconst hC (1 : Int32) dX11_gang__39 (by decide) ?_
      obtain ⟨x15, M16, q17, hr⟩ := bd2_s hr
      refine x_callV (ci := 5) (q := (RX11, TX11, 32)) (As := [.int (1 : Int32)]) hC (c_X11_no l G M1 hi0 (1 : Int32) q17) kc_yX11_no km_X11_221 ki_yX11_no kv_yX11_no kn_RX11 ky_yX11_no rfl ⟨rfl, rfl⟩ ⟨(Nat.le_of_ble_eq_true rfl), (Nat.le_of_ble_eq_true rfl)⟩ hi0 (by decide) rfl rfl (Nat.le_of_ble_eq_true rfl) ⟨(Nat.le_of_ble_eq_true rfl), (Nat.le_of_ble_eq_true rfl)⟩ dX11_gang__40 (fun b18 => ?_)
      cases hr
      exact x_iret hC rfl dX11_gang__43
    · have hr := (ie_s hr).2 h14
      refine x_aload_n hC dX11_gang__29 rfl 0 rfl ?_
      refine x_iload_n hC dX11_gang__30 rfl 1 rfl ?_
      refine x_iload_n hC dX11_gang__31 rfl 2 rfl ?_
      obtain ⟨x19, q20, hr⟩ := bd1_s hr
      refine x_callV (ci := 5) (q := (RX11, TX11, 32)) (As := [.int a1, .int a2]) hC (c_X11_gangTold l G M1 hi0 a1 a2 q20) kc_yX11_gangTold km_X11_376 ki_yX11_gangTold kv_yX11_gangTold kn_RX11 ky_yX11_gangTold rfl ⟨rfl, rfl⟩ ⟨(Nat.le_of_ble_eq_true rfl), (Nat.le_of_ble_eq_true rfl)⟩ hi0 (by decide) rfl rfl (Nat.le_of_ble_eq_true rfl) ⟨(Nat.le_of_ble_eq_true rfl), (Nat.le_of_ble_eq_true rfl)⟩ dX11_gang__32 (fun b21 => ?_)
      refine x_goto hC 43 dX11_gang__35 (by decide) ?_
      cases hr
      exact x_iret hC rfl dX11_gang__43

theorem dX11_pass_0 : decode cX11_pass 0 = .ok (.aload_n 0, 1) := by decide +kernel
theorem dX11_pass_1 : decode cX11_pass 1 = .ok (.iconst 0, 1) := by decide +kernel
theorem dX11_pass_2 : decode cX11_pass 2 = .ok (.putfield 69, 3) := by decide +kernel
theorem dX11_pass_5 : decode cX11_pass 5 = .ok (.iload_n 1, 1) := by decide +kernel
theorem dX11_pass_6 : decode cX11_pass 6 = .ok (.iconst 1, 1) := by decide +kernel
theorem dX11_pass_7 : decode cX11_pass 7 = .ok (.sipush 200, 3) := by decide +kernel
theorem dX11_pass_10 : decode cX11_pass 10 = .ok (.invokestatic 72, 3) := by decide +kernel
theorem dX11_pass_13 : decode cX11_pass 13 = .ok (.ifCond .ne 9, 3) := by decide +kernel
theorem dX11_pass_16 : decode cX11_pass 16 = .ok (.aload_n 0, 1) := by decide +kernel
theorem dX11_pass_17 : decode cX11_pass 17 = .ok (.iconst 1, 1) := by decide +kernel
theorem dX11_pass_18 : decode cX11_pass 18 = .ok (.invokevirtual 221, 3) := by decide +kernel
theorem dX11_pass_21 : decode cX11_pass 21 = .ok (.ireturn, 1) := by decide +kernel
theorem dX11_pass_22 : decode cX11_pass 22 = .ok (.aload_n 0, 1) := by decide +kernel
theorem dX11_pass_23 : decode cX11_pass 23 = .ok (.getfield 53, 3) := by decide +kernel
theorem dX11_pass_26 : decode cX11_pass 26 = .ok (.getfield 253, 3) := by decide +kernel
theorem dX11_pass_29 : decode cX11_pass 29 = .ok (.istore_n 2, 1) := by decide +kernel
theorem dX11_pass_30 : decode cX11_pass 30 = .ok (.aload_n 0, 1) := by decide +kernel
theorem dX11_pass_31 : decode cX11_pass 31 = .ok (.aload_n 0, 1) := by decide +kernel
theorem dX11_pass_32 : decode cX11_pass 32 = .ok (.getfield 53, 3) := by decide +kernel
theorem dX11_pass_35 : decode cX11_pass 35 = .ok (.iload_n 1, 1) := by decide +kernel
theorem dX11_pass_36 : decode cX11_pass 36 = .ok (.invokevirtual 379, 3) := by decide +kernel
theorem dX11_pass_39 : decode cX11_pass 39 = .ok (.aload_n 0, 1) := by decide +kernel
theorem dX11_pass_40 : decode cX11_pass 40 = .ok (.getfield 53, 3) := by decide +kernel
theorem dX11_pass_43 : decode cX11_pass 43 = .ok (.getfield 253, 3) := by decide +kernel
theorem dX11_pass_46 : decode cX11_pass 46 = .ok (.iload_n 2, 1) := by decide +kernel
theorem dX11_pass_47 : decode cX11_pass 47 = .ok (.isub, 1) := by decide +kernel
theorem dX11_pass_48 : decode cX11_pass 48 = .ok (.ireturn, 1) := by decide +kernel

def f_X11_pass (i0 : Nat) (a1 : Int32) (M : Mm) : Option (Int32 × Mm) :=
  lz (wr M i0 0 (0 : Int32)) fun M1 => lz (f_X11_isIn a1 (1 : Int32) (200 : Int32)) fun x3 => if (x3 = 0) then (bd2 (f_X11_no i0 (1 : Int32) M1) fun x10 M11 => some (x10, M11)) else (bd1 (f_X11_hours i0 (i0 + 14) a1 M1) fun M7 => some (((M7 (i0 + 14) 2) - (M1 (i0 + 14) 2)), M7))

set_option maxHeartbeats 4000000 in
set_option maxRecDepth 100000 in
theorem c_X11_pass (l : Launch) (G : GG) (M : Mm) {i0 : Nat} (hi0 : (kd i0).1 = 5) (a1 : Int32) {r : Int32} {M9 : Mm} (hr : f_X11_pass i0 a1 M = some (r, M9)) : Mo false l yX11_pass (WS yX11_pass cX11_pass 3 (some .int)) (RM 8 0 0 216) 0 0 [.ref (G.2.1 i0), .int a1] G M (some (.int r)) M9 := by
  refine Mo.of (by decide +kernel) (Nat.le_of_ble_eq_true rfl) ?_
  intro p e s m args below meth c hC
  have hC : CX p s m args meth c cX11_pass 3 RX11 (some .int) G := hC
  rw [f_X11_pass] at hr
  show XJ p l e (RM 8 0 0 216) s m args below meth c G 3 _ 0 0 M 0 [(0, .ref (G.2.1 i0)), (1, .int a1)] []
  refine x_aload_n hC dX11_pass_0 rfl 0 rfl ?_
  refine x_iconst hC (0 : Int32) dX11_pass_1 (by decide) ?_
  obtain ⟨M1, e2, hr⟩ := lz_s hr
  refine pf_X11_69 hC hi0 e2 dX11_pass_2 ?_
  refine x_iload_n hC dX11_pass_5 rfl 1 rfl ?_
  refine x_iconst hC (1 : Int32) dX11_pass_6 (by decide) ?_
  refine x_sipush hC (200 : Int32) dX11_pass_7 (by decide) ?_
  obtain ⟨x3, e4, hr⟩ := lz_s hr
  refine x_callS (As := [.int a1, .int (1 : Int32), .int (200 : Int32)]) hC (c_X11_isIn l G M1 a1 (1 : Int32) (200 : Int32) e4.symm) kc_yX11_isIn km_X11_72 kt_yX11_isIn kn_RX11 ky_yX11_isIn rfl ⟨rfl, rfl⟩ ⟨(Nat.le_of_ble_eq_true rfl), (Nat.le_of_ble_eq_true rfl)⟩ rfl (Nat.le_of_ble_eq_true rfl) ⟨(Nat.le_of_ble_eq_true rfl), (Nat.le_of_ble_eq_true rfl)⟩ dX11_pass_10 (fun b5 => ?_)
  refine x_if_ne hC 22 dX11_pass_13 (by decide) (fun h6 => ?_) (fun h6 => ?_)
  · have hr := (ie_s hr).2 h6
    refine x_aload_n hC dX11_pass_22 rfl 0 rfl ?_
    refine gf_X11_53 hC hi0 dX11_pass_23 ?_
    refine gf_X11_253 hC (kr_5_29 hi0) dX11_pass_26 ?_
    refine x_istore_n hC [(2, .int (M1 (i0 + 14) 2)), (0, .ref (G.2.1 i0)), (1, .int a1)] dX11_pass_29 rfl (Nat.le_of_ble_eq_true rfl) rfl ?_
    refine x_aload_n hC dX11_pass_30 rfl 1 rfl ?_
    refine x_aload_n hC dX11_pass_31 rfl 1 rfl ?_
    refine gf_X11_53 hC hi0 dX11_pass_32 ?_
    refine x_iload_n hC dX11_pass_35 rfl 2 rfl ?_
    obtain ⟨M7, q8, hr⟩ := bd1_s hr
    refine x_callV (ci := 5) (q := (RX11, TX11, 32)) (As := [.ref (G.2.1 (i0 + 14)), .int a1]) hC (c_X11_hours l G M1 hi0 (kr_5_29 hi0) a1 q8) kc_yX11_hours km_X11_379 ki_yX11_hours kv_yX11_hours kn_RX11 ky_yX11_hours rfl ⟨rfl, rfl⟩ ⟨(Nat.le_of_ble_eq_true rfl), (Nat.le_of_ble_eq_true rfl)⟩ hi0 (by decide) rfl rfl (Nat.le_of_ble_eq_true rfl) ⟨(Nat.le_of_ble_eq_true rfl), (Nat.le_of_ble_eq_true rfl)⟩ dX11_pass_36 (fun b9 => ?_)
    refine x_aload_n hC dX11_pass_39 rfl 1 rfl ?_
    refine gf_X11_53 hC hi0 dX11_pass_40 ?_
    refine gf_X11_253 hC (kr_5_29 hi0) dX11_pass_43 ?_
    refine x_iload_n hC dX11_pass_46 rfl 0 rfl ?_
    refine x_isub hC dX11_pass_47 ?_
    cases hr
    exact x_iret hC rfl dX11_pass_48
  · have hr := (ie_s hr).1 h6
    refine x_aload_n hC dX11_pass_16 rfl 0 rfl ?_
    refine x_iconst hC (1 : Int32) dX11_pass_17 (by decide) ?_
    obtain ⟨x10, M11, q12, hr⟩ := bd2_s hr
    refine x_callV (ci := 5) (q := (RX11, TX11, 32)) (As := [.int (1 : Int32)]) hC (c_X11_no l G M1 hi0 (1 : Int32) q12) kc_yX11_no km_X11_221 ki_yX11_no kv_yX11_no kn_RX11 ky_yX11_no rfl ⟨rfl, rfl⟩ ⟨(Nat.le_of_ble_eq_true rfl), (Nat.le_of_ble_eq_true rfl)⟩ hi0 (by decide) rfl rfl (Nat.le_of_ble_eq_true rfl) ⟨(Nat.le_of_ble_eq_true rfl), (Nat.le_of_ble_eq_true rfl)⟩ dX11_pass_18 (fun b13 => ?_)
    cases hr
    exact x_iret hC rfl dX11_pass_21

theorem dX11_foresee_0 : decode cX11_foresee 0 = .ok (.aload_n 0, 1) := by decide +kernel
theorem dX11_foresee_1 : decode cX11_foresee 1 = .ok (.iconst 0, 1) := by decide +kernel
theorem dX11_foresee_2 : decode cX11_foresee 2 = .ok (.putfield 69, 3) := by decide +kernel
theorem dX11_foresee_5 : decode cX11_foresee 5 = .ok (.iload_n 1, 1) := by decide +kernel
theorem dX11_foresee_6 : decode cX11_foresee 6 = .ok (.iconst 1, 1) := by decide +kernel
theorem dX11_foresee_7 : decode cX11_foresee 7 = .ok (.sipush 300, 3) := by decide +kernel
theorem dX11_foresee_10 : decode cX11_foresee 10 = .ok (.invokestatic 72, 3) := by decide +kernel
theorem dX11_foresee_13 : decode cX11_foresee 13 = .ok (.ifCond .ne 9, 3) := by decide +kernel
theorem dX11_foresee_16 : decode cX11_foresee 16 = .ok (.aload_n 0, 1) := by decide +kernel
theorem dX11_foresee_17 : decode cX11_foresee 17 = .ok (.iconst 1, 1) := by decide +kernel
theorem dX11_foresee_18 : decode cX11_foresee 18 = .ok (.invokevirtual 221, 3) := by decide +kernel
theorem dX11_foresee_21 : decode cX11_foresee 21 = .ok (.ireturn, 1) := by decide +kernel
theorem dX11_foresee_22 : decode cX11_foresee 22 = .ok (.iload_n 2, 1) := by decide +kernel
theorem dX11_foresee_23 : decode cX11_foresee 23 = .ok (.iconst 0, 1) := by decide +kernel
theorem dX11_foresee_24 : decode cX11_foresee 24 = .ok (.iconst 3, 1) := by decide +kernel
theorem dX11_foresee_25 : decode cX11_foresee 25 = .ok (.invokestatic 72, 3) := by decide +kernel
theorem dX11_foresee_28 : decode cX11_foresee 28 = .ok (.ifCond .ne 9, 3) := by decide +kernel
theorem dX11_foresee_31 : decode cX11_foresee 31 = .ok (.aload_n 0, 1) := by decide +kernel
theorem dX11_foresee_32 : decode cX11_foresee 32 = .ok (.iconst 2, 1) := by decide +kernel
theorem dX11_foresee_33 : decode cX11_foresee 33 = .ok (.invokevirtual 221, 3) := by decide +kernel
theorem dX11_foresee_36 : decode cX11_foresee 36 = .ok (.ireturn, 1) := by decide +kernel
theorem dX11_foresee_37 : decode cX11_foresee 37 = .ok (.aload_n 0, 1) := by decide +kernel
theorem dX11_foresee_38 : decode cX11_foresee 38 = .ok (.getfield 57, 3) := by decide +kernel
theorem dX11_foresee_41 : decode cX11_foresee 41 = .ok (.aload_n 0, 1) := by decide +kernel
theorem dX11_foresee_42 : decode cX11_foresee 42 = .ok (.getfield 53, 3) := by decide +kernel
theorem dX11_foresee_45 : decode cX11_foresee 45 = .ok (.invokevirtual 382, 3) := by decide +kernel
theorem dX11_foresee_48 : decode cX11_foresee 48 = .ok (.aload_n 0, 1) := by decide +kernel
theorem dX11_foresee_49 : decode cX11_foresee 49 = .ok (.aload_n 0, 1) := by decide +kernel
theorem dX11_foresee_50 : decode cX11_foresee 50 = .ok (.getfield 57, 3) := by decide +kernel
theorem dX11_foresee_53 : decode cX11_foresee 53 = .ok (.iload_n 1, 1) := by decide +kernel
theorem dX11_foresee_54 : decode cX11_foresee 54 = .ok (.invokevirtual 379, 3) := by decide +kernel
theorem dX11_foresee_57 : decode cX11_foresee 57 = .ok (.iload_n 2, 1) := by decide +kernel
theorem dX11_foresee_58 : decode cX11_foresee 58 = .ok (.ifCond .ne 13, 3) := by decide +kernel
theorem dX11_foresee_61 : decode cX11_foresee 61 = .ok (.aload_n 0, 1) := by decide +kernel
theorem dX11_foresee_62 : decode cX11_foresee 62 = .ok (.getfield 57, 3) := by decide +kernel
theorem dX11_foresee_65 : decode cX11_foresee 65 = .ok (.getfield 253, 3) := by decide +kernel
theorem dX11_foresee_68 : decode cX11_foresee 68 = .ok (.goto 55, 3) := by decide +kernel
theorem dX11_foresee_71 : decode cX11_foresee 71 = .ok (.iload_n 2, 1) := by decide +kernel
theorem dX11_foresee_72 : decode cX11_foresee 72 = .ok (.iconst 1, 1) := by decide +kernel
theorem dX11_foresee_73 : decode cX11_foresee 73 = .ok (.if_icmp .ne 13, 3) := by decide +kernel
theorem dX11_foresee_76 : decode cX11_foresee 76 = .ok (.aload_n 0, 1) := by decide +kernel
theorem dX11_foresee_77 : decode cX11_foresee 77 = .ok (.getfield 57, 3) := by decide +kernel
theorem dX11_foresee_80 : decode cX11_foresee 80 = .ok (.getfield 332, 3) := by decide +kernel
theorem dX11_foresee_83 : decode cX11_foresee 83 = .ok (.goto 40, 3) := by decide +kernel
theorem dX11_foresee_86 : decode cX11_foresee 86 = .ok (.iload_n 2, 1) := by decide +kernel
theorem dX11_foresee_87 : decode cX11_foresee 87 = .ok (.iconst 2, 1) := by decide +kernel
theorem dX11_foresee_88 : decode cX11_foresee 88 = .ok (.if_icmp .ne 21, 3) := by decide +kernel
theorem dX11_foresee_91 : decode cX11_foresee 91 = .ok (.aload_n 0, 1) := by decide +kernel
theorem dX11_foresee_92 : decode cX11_foresee 92 = .ok (.getfield 57, 3) := by decide +kernel
theorem dX11_foresee_95 : decode cX11_foresee 95 = .ok (.getfield 341, 3) := by decide +kernel
theorem dX11_foresee_98 : decode cX11_foresee 98 = .ok (.aload_n 0, 1) := by decide +kernel
theorem dX11_foresee_99 : decode cX11_foresee 99 = .ok (.getfield 53, 3) := by decide +kernel
theorem dX11_foresee_102 : decode cX11_foresee 102 = .ok (.getfield 341, 3) := by decide +kernel
theorem dX11_foresee_105 : decode cX11_foresee 105 = .ok (.isub, 1) := by decide +kernel
theorem dX11_foresee_106 : decode cX11_foresee 106 = .ok (.goto 17, 3) := by decide +kernel
theorem dX11_foresee_109 : decode cX11_foresee 109 = .ok (.aload_n 0, 1) := by decide +kernel
theorem dX11_foresee_110 : decode cX11_foresee 110 = .ok (.getfield 57, 3) := by decide +kernel
theorem dX11_foresee_113 : decode cX11_foresee 113 = .ok (.aload_n 0, 1) := by decide +kernel
theorem dX11_foresee_114 : decode cX11_foresee 114 = .ok (.getfield 57, 3) := by decide +kernel
theorem dX11_foresee_117 : decode cX11_foresee 117 = .ok (.getfield 63, 3) := by decide +kernel
theorem dX11_foresee_120 : decode cX11_foresee 120 = .ok (.invokevirtual 363, 3) := by decide +kernel
theorem dX11_foresee_123 : decode cX11_foresee 123 = .ok (.ireturn, 1) := by decide +kernel

def f_X11_foresee (i0 : Nat) (a1 : Int32) (a2 : Int32) (M : Mm) : Option (Int32 × Mm) :=
  lz (wr M i0 0 (0 : Int32)) fun M1 => lz (f_X11_isIn a1 (1 : Int32) (300 : Int32)) fun x3 => if (x3 = 0) then (bd2 (f_X11_no i0 (1 : Int32) M1) fun x27 M28 => some (x27, M28)) else (lz (f_X11_isIn a2 (0 : Int32) (3 : Int32)) fun x7 => if (x7 = 0) then (bd2 (f_X11_no i0 (2 : Int32) M1) fun x23 M24 => some (x23, M24)) else (bd1 (f_X10_become (i0 + 22) (i0 + 14) M1) fun M11 => bd1 (f_X11_hours i0 (i0 + 22) a1 M11) fun M14 => if (a2 = 0) then (some ((M14 (i0 + 22) 2), M14)) else (if (a2 = (1 : Int32)) then (some ((M14 (i0 + 22) 3), M14)) else (if (a2 = (2 : Int32)) then (some (((M14 (i0 + 22) 4) - (M14 (i0 + 14) 4)), M14)) else (bd1 (f_X10_all (i0 + 22) ((i0 + 22) + 1) M14) fun x20 => some (x20, M14))))))

set_option maxHeartbeats 4000000 in
set_option maxRecDepth 100000 in
theorem c_X11_foresee (l : Launch) (G : GG) (M : Mm) {i0 : Nat} (hi0 : (kd i0).1 = 5) (a1 : Int32) (a2 : Int32) {r : Int32} {M9 : Mm} (hr : f_X11_foresee i0 a1 a2 M = some (r, M9)) : Mo false l yX11_foresee (WS yX11_foresee cX11_foresee 3 (some .int)) (RM 8 0 0 216) 0 0 [.ref (G.2.1 i0), .int a1, .int a2] G M (some (.int r)) M9 := by
  refine Mo.of (by decide +kernel) (Nat.le_of_ble_eq_true rfl) ?_
  intro p e s m args below meth c hC
  have hC : CX p s m args meth c cX11_foresee 3 RX11 (some .int) G := hC
  rw [f_X11_foresee] at hr
  show XJ p l e (RM 8 0 0 216) s m args below meth c G 3 _ 0 0 M 0 [(0, .ref (G.2.1 i0)), (1, .int a1), (2, .int a2)] []
  refine x_aload_n hC dX11_foresee_0 rfl 0 rfl ?_
  refine x_iconst hC (0 : Int32) dX11_foresee_1 (by decide) ?_
  obtain ⟨M1, e2, hr⟩ := lz_s hr
  refine pf_X11_69 hC hi0 e2 dX11_foresee_2 ?_
  refine x_iload_n hC dX11_foresee_5 rfl 1 rfl ?_
  refine x_iconst hC (1 : Int32) dX11_foresee_6 (by decide) ?_
  refine x_sipush hC (300 : Int32) dX11_foresee_7 (by decide) ?_
  obtain ⟨x3, e4, hr⟩ := lz_s hr
  refine x_callS (As := [.int a1, .int (1 : Int32), .int (300 : Int32)]) hC (c_X11_isIn l G M1 a1 (1 : Int32) (300 : Int32) e4.symm) kc_yX11_isIn km_X11_72 kt_yX11_isIn kn_RX11 ky_yX11_isIn rfl ⟨rfl, rfl⟩ ⟨(Nat.le_of_ble_eq_true rfl), (Nat.le_of_ble_eq_true rfl)⟩ rfl (Nat.le_of_ble_eq_true rfl) ⟨(Nat.le_of_ble_eq_true rfl), (Nat.le_of_ble_eq_true rfl)⟩ dX11_foresee_10 (fun b5 => ?_)
  refine x_if_ne hC 22 dX11_foresee_13 (by decide) (fun h6 => ?_) (fun h6 => ?_)
  · have hr := (ie_s hr).2 h6
    refine x_iload_n hC dX11_foresee_22 rfl 2 rfl ?_
    refine x_iconst hC (0 : Int32) dX11_foresee_23 (by decide) ?_
    refine x_iconst hC (3 : Int32) dX11_foresee_24 (by decide) ?_
    obtain ⟨x7, e8, hr⟩ := lz_s hr
    refine x_callS (As := [.int a2, .int (0 : Int32), .int (3 : Int32)]) hC (c_X11_isIn l G M1 a2 (0 : Int32) (3 : Int32) e8.symm) kc_yX11_isIn km_X11_72 kt_yX11_isIn kn_RX11 ky_yX11_isIn rfl ⟨rfl, rfl⟩ ⟨(Nat.le_of_ble_eq_true rfl), (Nat.le_of_ble_eq_true rfl)⟩ rfl (Nat.le_of_ble_eq_true rfl) ⟨(Nat.le_of_ble_eq_true rfl), (Nat.le_of_ble_eq_true rfl)⟩ dX11_foresee_25 (fun b9 => ?_)
    refine x_if_ne hC 37 dX11_foresee_28 (by decide) (fun h10 => ?_) (fun h10 => ?_)
    · have hr := (ie_s hr).2 h10
      refine x_aload_n hC dX11_foresee_37 rfl 0 rfl ?_
      refine gf_X11_57 hC hi0 dX11_foresee_38 ?_
      refine x_aload_n hC dX11_foresee_41 rfl 0 rfl ?_
      refine gf_X11_53 hC hi0 dX11_foresee_42 ?_
      obtain ⟨M11, q12, hr⟩ := bd1_s hr
      refine x_callV (ci := 4) (q := (RX10, TX10, 13)) (As := [.ref (G.2.1 (i0 + 14))]) hC (c_X10_become l G M1 (kr_5_30 hi0) (kr_5_29 hi0) q12) kc_yX10_become km_X11_382 ki_yX10_become kv_yX10_become kn_RX10 ky_yX10_become rfl ⟨rfl, rfl⟩ ⟨(Nat.le_of_ble_eq_true rfl), (Nat.le_of_ble_eq_true rfl)⟩ (kr_5_30 hi0) (by decide) rfl rfl (Nat.le_of_ble_eq_true rfl) ⟨(Nat.le_of_ble_eq_true rfl), (Nat.le_of_ble_eq_true rfl)⟩ dX11_foresee_45 (fun b13 => ?_)
      refine x_aload_n hC dX11_foresee_48 rfl 0 rfl ?_
      refine x_aload_n hC dX11_foresee_49 rfl 0 rfl ?_
      refine gf_X11_57 hC hi0 dX11_foresee_50 ?_
      refine x_iload_n hC dX11_foresee_53 rfl 1 rfl ?_
      obtain ⟨M14, q15, hr⟩ := bd1_s hr
      refine x_callV (ci := 5) (q := (RX11, TX11, 32)) (As := [.ref (G.2.1 (i0 + 22)), .int a1]) hC (c_X11_hours l G M11 hi0 (kr_5_30 hi0) a1 q15) kc_yX11_hours km_X11_379 ki_yX11_hours kv_yX11_hours kn_RX11 ky_yX11_hours rfl ⟨rfl, rfl⟩ ⟨(Nat.le_of_ble_eq_true rfl), (Nat.le_of_ble_eq_true rfl)⟩ hi0 (by decide) rfl rfl (Nat.le_of_ble_eq_true rfl) ⟨(Nat.le_of_ble_eq_true rfl), (Nat.le_of_ble_eq_true rfl)⟩ dX11_foresee_54 (fun b16 => ?_)
      refine x_iload_n hC dX11_foresee_57 rfl 2 rfl ?_
      refine x_if_ne hC 71 dX11_foresee_58 (by decide) (fun h17 => ?_) (fun h17 => ?_)
      · have hr := (ie_s hr).2 h17
        refine x_iload_n hC dX11_foresee_71 rfl 2 rfl ?_
        refine x_iconst hC (1 : Int32) dX11_foresee_72 (by decide) ?_
        refine x_icmp_ne hC 86 dX11_foresee_73 (by decide) (fun h18 => ?_) (fun h18 => ?_)
        · have hr := (ie_s hr).2 h18
          refine x_iload_n hC dX11_foresee_86 rfl 2 rfl ?_
          refine x_iconst hC (2 : Int32) dX11_foresee_87 (by decide) ?_
          refine x_icmp_ne hC 109 dX11_foresee_88 (by decide) (fun h19 => ?_) (fun h19 => ?_)
          · have hr := (ie_s hr).2 h19
            refine x_aload_n hC dX11_foresee_109 rfl 0 rfl ?_
            refine gf_X11_57 hC hi0 dX11_foresee_110 ?_
            refine x_aload_n hC dX11_foresee_113 rfl 0 rfl ?_
            refine gf_X11_57 hC hi0 dX11_foresee_114 ?_
            refine gf_X11_63 hC (kr_5_30 hi0) dX11_foresee_117 ?_
            obtain ⟨x20, q21, hr⟩ := bd1_s hr
            refine x_callV (ci := 4) (q := (RX10, TX10, 13)) (As := [.ref (G.2.1 ((i0 + 22) + 1))]) hC (c_X10_all l G M14 (kr_5_30 hi0) (kr_4_6 (kr_5_30 hi0)) q21) kc_yX10_all km_X11_363 ki_yX10_all kv_yX10_all kn_RX10 ky_yX10_all rfl ⟨rfl, rfl⟩ ⟨(Nat.le_of_ble_eq_true rfl), (Nat.le_of_ble_eq_true rfl)⟩ (kr_5_30 hi0) (by decide) rfl rfl (Nat.le_of_ble_eq_true rfl) ⟨(Nat.le_of_ble_eq_true rfl), (Nat.le_of_ble_eq_true rfl)⟩ dX11_foresee_120 (fun b22 => ?_)
            cases hr
            exact x_iret hC rfl dX11_foresee_123
          · have hr := (ie_s hr).1 h19
            refine x_aload_n hC dX11_foresee_91 rfl 0 rfl ?_
            refine gf_X11_57 hC hi0 dX11_foresee_92 ?_
            refine gf_X11_341 hC (kr_5_30 hi0) dX11_foresee_95 ?_
            refine x_aload_n hC dX11_foresee_98 rfl 0 rfl ?_
            refine gf_X11_53 hC hi0 dX11_foresee_99 ?_
            refine gf_X11_341 hC (kr_5_29 hi0) dX11_foresee_102 ?_
            refine x_isub hC dX11_foresee_105 ?_
            refine x_goto hC 123 dX11_foresee_106 (by decide) ?_
            cases hr
            exact x_iret hC rfl dX11_foresee_123
        · have hr := (ie_s hr).1 h18
          refine x_aload_n hC dX11_foresee_76 rfl 0 rfl ?_
          refine gf_X11_57 hC hi0 dX11_foresee_77 ?_
          refine gf_X11_332 hC (kr_5_30 hi0) dX11_foresee_80 ?_
          refine x_goto hC 123 dX11_foresee_83 (by decide) ?_
          cases hr
          exact x_iret hC rfl dX11_foresee_123
      · have hr := (ie_s hr).1 h17
        refine x_aload_n hC dX11_foresee_61 rfl 0 rfl ?_
        refine gf_X11_57 hC hi0 dX11_foresee_62 ?_
        refine gf_X11_253 hC (kr_5_30 hi0) dX11_foresee_65 ?_
        refine x_goto hC 123 dX11_foresee_68 (by decide) ?_
        cases hr
        exact x_iret hC rfl dX11_foresee_123
    · have hr := (ie_s hr).1 h10
      refine x_aload_n hC dX11_foresee_31 rfl 0 rfl ?_
      refine x_iconst hC (2 : Int32) dX11_foresee_32 (by decide) ?_
      obtain ⟨x23, M24, q25, hr⟩ := bd2_s hr
      refine x_callV (ci := 5) (q := (RX11, TX11, 32)) (As := [.int (2 : Int32)]) hC (c_X11_no l G M1 hi0 (2 : Int32) q25) kc_yX11_no km_X11_221 ki_yX11_no kv_yX11_no kn_RX11 ky_yX11_no rfl ⟨rfl, rfl⟩ ⟨(Nat.le_of_ble_eq_true rfl), (Nat.le_of_ble_eq_true rfl)⟩ hi0 (by decide) rfl rfl (Nat.le_of_ble_eq_true rfl) ⟨(Nat.le_of_ble_eq_true rfl), (Nat.le_of_ble_eq_true rfl)⟩ dX11_foresee_33 (fun b26 => ?_)
      cases hr
      exact x_iret hC rfl dX11_foresee_36
  · have hr := (ie_s hr).1 h6
    refine x_aload_n hC dX11_foresee_16 rfl 0 rfl ?_
    refine x_iconst hC (1 : Int32) dX11_foresee_17 (by decide) ?_
    obtain ⟨x27, M28, q29, hr⟩ := bd2_s hr
    refine x_callV (ci := 5) (q := (RX11, TX11, 32)) (As := [.int (1 : Int32)]) hC (c_X11_no l G M1 hi0 (1 : Int32) q29) kc_yX11_no km_X11_221 ki_yX11_no kv_yX11_no kn_RX11 ky_yX11_no rfl ⟨rfl, rfl⟩ ⟨(Nat.le_of_ble_eq_true rfl), (Nat.le_of_ble_eq_true rfl)⟩ hi0 (by decide) rfl rfl (Nat.le_of_ble_eq_true rfl) ⟨(Nat.le_of_ble_eq_true rfl), (Nat.le_of_ble_eq_true rfl)⟩ dX11_foresee_18 (fun b30 => ?_)
    cases hr
    exact x_iret hC rfl dX11_foresee_21

theorem dX11_dries_0 : decode cX11_dries 0 = .ok (.aload_n 0, 1) := by decide +kernel
theorem dX11_dries_1 : decode cX11_dries 1 = .ok (.iconst 0, 1) := by decide +kernel
theorem dX11_dries_2 : decode cX11_dries 2 = .ok (.putfield 69, 3) := by decide +kernel
theorem dX11_dries_5 : decode cX11_dries 5 = .ok (.iload_n 1, 1) := by decide +kernel
theorem dX11_dries_6 : decode cX11_dries 6 = .ok (.iload_n 2, 1) := by decide +kernel
theorem dX11_dries_7 : decode cX11_dries 7 = .ok (.invokestatic 313, 3) := by decide +kernel
theorem dX11_dries_10 : decode cX11_dries 10 = .ok (.ifCond .ne 9, 3) := by decide +kernel
theorem dX11_dries_13 : decode cX11_dries 13 = .ok (.aload_n 0, 1) := by decide +kernel
theorem dX11_dries_14 : decode cX11_dries 14 = .ok (.iconst 1, 1) := by decide +kernel
theorem dX11_dries_15 : decode cX11_dries 15 = .ok (.invokevirtual 221, 3) := by decide +kernel
theorem dX11_dries_18 : decode cX11_dries 18 = .ok (.ireturn, 1) := by decide +kernel
theorem dX11_dries_19 : decode cX11_dries 19 = .ok (.bipush 8, 2) := by decide +kernel
theorem dX11_dries_21 : decode cX11_dries 21 = .ok (.iload_n 2, 1) := by decide +kernel
theorem dX11_dries_22 : decode cX11_dries 22 = .ok (.imul, 1) := by decide +kernel
theorem dX11_dries_23 : decode cX11_dries 23 = .ok (.iload_n 1, 1) := by decide +kernel
theorem dX11_dries_24 : decode cX11_dries 24 = .ok (.iadd, 1) := by decide +kernel
theorem dX11_dries_25 : decode cX11_dries 25 = .ok (.istore_n 3, 1) := by decide +kernel
theorem dX11_dries_26 : decode cX11_dries 26 = .ok (.aload_n 0, 1) := by decide +kernel
theorem dX11_dries_27 : decode cX11_dries 27 = .ok (.getfield 53, 3) := by decide +kernel
theorem dX11_dries_30 : decode cX11_dries 30 = .ok (.getfield 244, 3) := by decide +kernel
theorem dX11_dries_33 : decode cX11_dries 33 = .ok (.iload_n 3, 1) := by decide +kernel
theorem dX11_dries_34 : decode cX11_dries 34 = .ok (.iaload, 1) := by decide +kernel
theorem dX11_dries_35 : decode cX11_dries 35 = .ok (.istore 4, 2) := by decide +kernel
theorem dX11_dries_37 : decode cX11_dries 37 = .ok (.aload_n 0, 1) := by decide +kernel
theorem dX11_dries_38 : decode cX11_dries 38 = .ok (.getfield 53, 3) := by decide +kernel
theorem dX11_dries_41 : decode cX11_dries 41 = .ok (.getfield 300, 3) := by decide +kernel
theorem dX11_dries_44 : decode cX11_dries 44 = .ok (.iload_n 3, 1) := by decide +kernel
theorem dX11_dries_45 : decode cX11_dries 45 = .ok (.iaload, 1) := by decide +kernel
theorem dX11_dries_46 : decode cX11_dries 46 = .ok (.istore 5, 2) := by decide +kernel
theorem dX11_dries_48 : decode cX11_dries 48 = .ok (.iconst 0, 1) := by decide +kernel
theorem dX11_dries_49 : decode cX11_dries 49 = .ok (.istore 6, 2) := by decide +kernel
theorem dX11_dries_51 : decode cX11_dries 51 = .ok (.iload 6, 2) := by decide +kernel
theorem dX11_dries_53 : decode cX11_dries 53 = .ok (.bipush 60, 2) := by decide +kernel
theorem dX11_dries_55 : decode cX11_dries 55 = .ok (.if_icmp .gt 53, 3) := by decide +kernel
theorem dX11_dries_58 : decode cX11_dries 58 = .ok (.aload_n 0, 1) := by decide +kernel
theorem dX11_dries_59 : decode cX11_dries 59 = .ok (.getfield 53, 3) := by decide +kernel
theorem dX11_dries_62 : decode cX11_dries 62 = .ok (.getfield 241, 3) := by decide +kernel
theorem dX11_dries_65 : decode cX11_dries 65 = .ok (.iload_n 3, 1) := by decide +kernel
theorem dX11_dries_66 : decode cX11_dries 66 = .ok (.iaload, 1) := by decide +kernel
theorem dX11_dries_67 : decode cX11_dries 67 = .ok (.ifCond .eq 9, 3) := by decide +kernel
theorem dX11_dries_70 : decode cX11_dries 70 = .ok (.iload 4, 2) := by decide +kernel
theorem dX11_dries_72 : decode cX11_dries 72 = .ok (.iconst 5, 1) := by decide +kernel
theorem dX11_dries_73 : decode cX11_dries 73 = .ok (.if_icmp .gt 6, 3) := by decide +kernel
theorem dX11_dries_76 : decode cX11_dries 76 = .ok (.iload 6, 2) := by decide +kernel
theorem dX11_dries_78 : decode cX11_dries 78 = .ok (.ireturn, 1) := by decide +kernel
theorem dX11_dries_79 : decode cX11_dries 79 = .ok (.aload_n 0, 1) := by decide +kernel
theorem dX11_dries_80 : decode cX11_dries 80 = .ok (.iload 4, 2) := by decide +kernel
theorem dX11_dries_82 : decode cX11_dries 82 = .ok (.iload 5, 2) := by decide +kernel
theorem dX11_dries_84 : decode cX11_dries 84 = .ok (.aload_n 0, 1) := by decide +kernel
theorem dX11_dries_85 : decode cX11_dries 85 = .ok (.getfield 53, 3) := by decide +kernel
theorem dX11_dries_88 : decode cX11_dries 88 = .ok (.getfield 247, 3) := by decide +kernel
theorem dX11_dries_91 : decode cX11_dries 91 = .ok (.iload 6, 2) := by decide +kernel
theorem dX11_dries_93 : decode cX11_dries 93 = .ok (.iadd, 1) := by decide +kernel
theorem dX11_dries_94 : decode cX11_dries 94 = .ok (.invokevirtual 338, 3) := by decide +kernel
theorem dX11_dries_97 : decode cX11_dries 97 = .ok (.istore 4, 2) := by decide +kernel
theorem dX11_dries_99 : decode cX11_dries 99 = .ok (.iconst 0, 1) := by decide +kernel
theorem dX11_dries_100 : decode cX11_dries 100 = .ok (.istore 5, 2) := by decide +kernel
theorem dX11_dries_102 : decode cX11_dries 102 = .ok (.iinc 6 1, 3) := by decide +kernel
theorem dX11_dries_105 : decode cX11_dries 105 = .ok (.goto (-54), 3) := by decide +kernel
theorem dX11_dries_108 : decode cX11_dries 108 = .ok (.iconst (-1), 1) := by decide +kernel
theorem dX11_dries_109 : decode cX11_dries 109 = .ok (.ireturn, 1) := by decide +kernel
def f_X11_dries_L51 (i0 : Nat) (a3 : Int32) (M : Mm) : Nat → Int32 → Int32 → Int32 → Option (Int32 × Mm)
  | 0, _, _, _ => none
  | n + 1, v4, v5, v6 =>
    if ((60 : Int32) < v6) then (some ((-1 : Int32), M)) else (if 0 ≤ a3.toInt ∧ a3.toInt < ((64 : Nat) : Int) then (if ((M ((i0 + 14) + 3) (ix a3)) = 0) then (some (v6, M)) else (if ((5 : Int32) < v4) then (bd1 (f_X11_behindNight i0 v4 v5 ((M (i0 + 14) 0) + v6) M) fun x19 => lz (v6 + (1 : Int32)) fun x22 => f_X11_dries_L51 i0 a3 M n x19 (0 : Int32) x22) else (some (v6, M)))) else none)
def f_X11_dries (i0 : Nat) (a1 : Int32) (a2 : Int32) (M : Mm) : Option (Int32 × Mm) :=
  lz (wr M i0 0 (0 : Int32)) fun M1 => lz (f_X11_isCell a1 a2) fun x3 => if (x3 = 0) then (bd2 (f_X11_no i0 (1 : Int32) M1) fun x24 M25 => some (x24, M25)) else (lz (((8 : Int32) * a2) + a1) fun x7 => if 0 ≤ x7.toInt ∧ x7.toInt < ((64 : Nat) : Int) then (lz (M1 ((i0 + 14) + 4) (ix x7)) fun x10 => if 0 ≤ x7.toInt ∧ x7.toInt < ((64 : Nat) : Int) then (lz (M1 ((i0 + 14) + 5) (ix x7)) fun x13 => (f_X11_dries_L51 i0 x7 M1 FU x10 x13 (0 : Int32))) else none) else none)
set_option maxHeartbeats 4000000 in
set_option maxRecDepth 100000 in
theorem l_X11_dries_L51 {p : Program} {e : Env} {s : State} {m : MethodId} {args : Array Value} {below : List Frame} {meth : Method} {c : Code} {l : Launch} {G : GG} (hC : CX p s m args meth c cX11_dries 7 RX11 (some .int) G) {i0 : Nat} (hi0 : (kd i0).1 = 5) (a3 : Int32) (M : Mm) : ∀ (n : Nat) (v4 : Int32) (v5 : Int32) (v6 : Int32) {r : Int32} {M9 : Mm} (hr : f_X11_dries_L51 i0 a3 M n v4 v5 v6 = some (r, M9)), XJ p l e (RM 3 0 0 84) s m args below meth c G 7 (MQ below (QO G M9 false (some (.int r)) s.heap.size) args s 0 0 (AF G s.heap.size)) 0 0 M 51 [(0, .ref (G.2.1 i0)), (3, .int a3), (4, .int v4), (5, .int v5), (6, .int v6)] [] := by
  intro n
  induction n with
  | zero => intro v4 v5 v6 r M9 hr; rw [f_X11_dries_L51] at hr; cases hr
  | succ n ih =>
    intro v4 v5 v6 r M9 hr
    rw [f_X11_dries_L51] at hr
    refine x_iload hC dX11_dries_51 4 rfl ?_
    refine x_bipush hC (60 : Int32) dX11_dries_53 (by decide) ?_
    refine x_icmp_gt hC 108 dX11_dries_55 (by decide) (fun h15 => ?_) (fun h15 => ?_)
    · have hr := (ie_s hr).1 h15
      refine x_iconst hC (-1 : Int32) dX11_dries_108 (by decide) ?_
      cases hr
      exact x_iret hC rfl dX11_dries_109
    · have hr := (ie_s hr).2 h15
      refine x_aload_n hC dX11_dries_58 rfl 0 rfl ?_
      refine gf_X11_53 hC hi0 dX11_dries_59 ?_
      refine gf_X11_241 hC (kr_5_29 hi0) dX11_dries_62 ?_
      refine x_iload_n hC dX11_dries_65 rfl 1 rfl ?_
      obtain ⟨h16, hr⟩ := it_s hr
      refine x_iald hC (kr_4_8 (kr_5_29 hi0)) h16 dX11_dries_66 ?_
      refine x_if_eq hC 76 dX11_dries_67 (by decide) (fun h17 => ?_) (fun h17 => ?_)
      · have hr := (ie_s hr).1 h17
        refine x_iload hC dX11_dries_76 4 rfl ?_
        cases hr
        exact x_iret hC rfl dX11_dries_78
      · have hr := (ie_s hr).2 h17
        refine x_iload hC dX11_dries_70 2 rfl ?_
        refine x_iconst hC (5 : Int32) dX11_dries_72 (by decide) ?_
        refine x_icmp_gt hC 79 dX11_dries_73 (by decide) (fun h18 => ?_) (fun h18 => ?_)
        · have hr := (ie_s hr).1 h18
          refine x_aload_n hC dX11_dries_79 rfl 0 rfl ?_
          refine x_iload hC dX11_dries_80 2 rfl ?_
          refine x_iload hC dX11_dries_82 3 rfl ?_
          refine x_aload_n hC dX11_dries_84 rfl 0 rfl ?_
          refine gf_X11_53 hC hi0 dX11_dries_85 ?_
          refine gf_X11_247 hC (kr_5_29 hi0) dX11_dries_88 ?_
          refine x_iload hC dX11_dries_91 4 rfl ?_
          refine x_iadd hC dX11_dries_93 ?_
          obtain ⟨x19, q20, hr⟩ := bd1_s hr
          refine x_callV (ci := 5) (q := (RX11, TX11, 32)) (As := [.int v4, .int v5, .int ((M (i0 + 14) 0) + v6)]) hC (c_X11_behindNight l G M hi0 v4 v5 ((M (i0 + 14) 0) + v6) q20) kc_yX11_behindNight km_X11_338 ki_yX11_behindNight kv_yX11_behindNight kn_RX11 ky_yX11_behindNight rfl ⟨rfl, rfl⟩ ⟨(Nat.le_of_ble_eq_true rfl), (Nat.le_of_ble_eq_true rfl)⟩ hi0 (by decide) rfl rfl (Nat.le_of_ble_eq_true rfl) ⟨(Nat.le_of_ble_eq_true rfl), (Nat.le_of_ble_eq_true rfl)⟩ dX11_dries_94 (fun b21 => ?_)
          refine x_istore hC [(4, .int x19), (0, .ref (G.2.1 i0)), (3, .int a3), (5, .int v5), (6, .int v6)] dX11_dries_97  (Nat.le_of_ble_eq_true rfl) rfl ?_
          refine x_iconst hC (0 : Int32) dX11_dries_99 (by decide) ?_
          refine x_istore hC [(5, .int (0 : Int32)), (4, .int x19), (0, .ref (G.2.1 i0)), (3, .int a3), (6, .int v6)] dX11_dries_100  (Nat.le_of_ble_eq_true rfl) rfl ?_
          obtain ⟨x22, e23, hr⟩ := lz_s hr
          refine x_iinc hC [(6, .int x22), (5, .int (0 : Int32)), (4, .int x19), (0, .ref (G.2.1 i0)), (3, .int a3)] dX11_dries_102 4 rfl (by rw [e23]; rfl) (Nat.le_of_ble_eq_true rfl) rfl ?_
          refine x_goto hC 51 dX11_dries_105 (by decide) ?_
          exact x_sub [3, 4, 2, 1, 0] rfl (ih x19 (0 : Int32) x22 hr)
        · have hr := (ie_s hr).2 h18
          refine x_iload hC dX11_dries_76 4 rfl ?_
          cases hr
          exact x_iret hC rfl dX11_dries_78
set_option maxHeartbeats 4000000 in
set_option maxRecDepth 100000 in
theorem c_X11_dries (l : Launch) (G : GG) (M : Mm) {i0 : Nat} (hi0 : (kd i0).1 = 5) (a1 : Int32) (a2 : Int32) {r : Int32} {M9 : Mm} (hr : f_X11_dries i0 a1 a2 M = some (r, M9)) : Mo false l yX11_dries (WS yX11_dries cX11_dries 7 (some .int)) (RM 3 0 0 84) 0 0 [.ref (G.2.1 i0), .int a1, .int a2] G M (some (.int r)) M9 := by
  refine Mo.of (by decide +kernel) (Nat.le_of_ble_eq_true rfl) ?_
  intro p e s m args below meth c hC
  have hC : CX p s m args meth c cX11_dries 7 RX11 (some .int) G := hC
  rw [f_X11_dries] at hr
  show XJ p l e (RM 3 0 0 84) s m args below meth c G 7 _ 0 0 M 0 [(0, .ref (G.2.1 i0)), (1, .int a1), (2, .int a2)] []
  refine x_aload_n hC dX11_dries_0 rfl 0 rfl ?_
  refine x_iconst hC (0 : Int32) dX11_dries_1 (by decide) ?_
  obtain ⟨M1, e2, hr⟩ := lz_s hr
  refine pf_X11_69 hC hi0 e2 dX11_dries_2 ?_
  refine x_iload_n hC dX11_dries_5 rfl 1 rfl ?_
  refine x_iload_n hC dX11_dries_6 rfl 2 rfl ?_
  obtain ⟨x3, e4, hr⟩ := lz_s hr
  refine x_callS (As := [.int a1, .int a2]) hC (c_X11_isCell l G M1 a1 a2 e4.symm) kc_yX11_isCell km_X11_313 kt_yX11_isCell kn_RX11 ky_yX11_isCell rfl ⟨rfl, rfl⟩ ⟨(Nat.le_of_ble_eq_true rfl), (Nat.le_of_ble_eq_true rfl)⟩ rfl (Nat.le_of_ble_eq_true rfl) ⟨(Nat.le_of_ble_eq_true rfl), (Nat.le_of_ble_eq_true rfl)⟩ dX11_dries_7 (fun b5 => ?_)
  refine x_if_ne hC 19 dX11_dries_10 (by decide) (fun h6 => ?_) (fun h6 => ?_)
  · have hr := (ie_s hr).2 h6
    refine x_bipush hC (8 : Int32) dX11_dries_19 (by decide) ?_
    refine x_iload_n hC dX11_dries_21 rfl 2 rfl ?_
    refine x_imul hC dX11_dries_22 ?_
    refine x_iload_n hC dX11_dries_23 rfl 1 rfl ?_
    refine x_iadd hC dX11_dries_24 ?_
    obtain ⟨x7, e8, hr⟩ := lz_s hr
    refine x_topi e8 ?_
    refine x_istore_n hC [(3, .int x7), (0, .ref (G.2.1 i0)), (1, .int a1), (2, .int a2)] dX11_dries_25 rfl (Nat.le_of_ble_eq_true rfl) rfl ?_
    refine x_aload_n hC dX11_dries_26 rfl 1 rfl ?_
    refine gf_X11_53 hC hi0 dX11_dries_27 ?_
    refine gf_X11_244 hC (kr_5_29 hi0) dX11_dries_30 ?_
    refine x_iload_n hC dX11_dries_33 rfl 0 rfl ?_
    obtain ⟨h9, hr⟩ := it_s hr
    refine x_iald hC (kr_4_9 (kr_5_29 hi0)) h9 dX11_dries_34 ?_
    obtain ⟨x10, e11, hr⟩ := lz_s hr
    refine x_topi e11 ?_
    refine x_istore hC [(4, .int x10), (3, .int x7), (0, .ref (G.2.1 i0)), (1, .int a1), (2, .int a2)] dX11_dries_35  (Nat.le_of_ble_eq_true rfl) rfl ?_
    refine x_aload_n hC dX11_dries_37 rfl 2 rfl ?_
    refine gf_X11_53 hC hi0 dX11_dries_38 ?_
    refine gf_X11_300 hC (kr_5_29 hi0) dX11_dries_41 ?_
    refine x_iload_n hC dX11_dries_44 rfl 1 rfl ?_
    obtain ⟨h12, hr⟩ := it_s hr
    refine x_iald hC (kr_4_10 (kr_5_29 hi0)) h12 dX11_dries_45 ?_
    obtain ⟨x13, e14, hr⟩ := lz_s hr
    refine x_topi e14 ?_
    refine x_istore hC [(5, .int x13), (4, .int x10), (3, .int x7), (0, .ref (G.2.1 i0)), (1, .int a1), (2, .int a2)] dX11_dries_46  (Nat.le_of_ble_eq_true rfl) rfl ?_
    refine x_iconst hC (0 : Int32) dX11_dries_48 (by decide) ?_
    refine x_istore hC [(6, .int (0 : Int32)), (5, .int x13), (4, .int x10), (3, .int x7), (0, .ref (G.2.1 i0)), (1, .int a1), (2, .int a2)] dX11_dries_49  (Nat.le_of_ble_eq_true rfl) rfl ?_
    exact x_sub [4, 3, 2, 1, 0] rfl (l_X11_dries_L51 hC hi0 x7 M1 FU x10 x13 (0 : Int32) hr)
  · have hr := (ie_s hr).1 h6
    refine x_aload_n hC dX11_dries_13 rfl 0 rfl ?_
    refine x_iconst hC (1 : Int32) dX11_dries_14 (by decide) ?_
    obtain ⟨x24, M25, q26, hr⟩ := bd2_s hr
    refine x_callV (ci := 5) (q := (RX11, TX11, 32)) (As := [.int (1 : Int32)]) hC (c_X11_no l G M1 hi0 (1 : Int32) q26) kc_yX11_no km_X11_221 ki_yX11_no kv_yX11_no kn_RX11 ky_yX11_no rfl ⟨rfl, rfl⟩ ⟨(Nat.le_of_ble_eq_true rfl), (Nat.le_of_ble_eq_true rfl)⟩ hi0 (by decide) rfl rfl (Nat.le_of_ble_eq_true rfl) ⟨(Nat.le_of_ble_eq_true rfl), (Nat.le_of_ble_eq_true rfl)⟩ dX11_dries_15 (fun b27 => ?_)
    cases hr
    exact x_iret hC rfl dX11_dries_18

theorem dX11_done_0 : decode cX11_done 0 = .ok (.aload_n 0, 1) := by decide +kernel
theorem dX11_done_1 : decode cX11_done 1 = .ok (.iconst 0, 1) := by decide +kernel
theorem dX11_done_2 : decode cX11_done 2 = .ok (.putfield 69, 3) := by decide +kernel
theorem dX11_done_5 : decode cX11_done 5 = .ok (.iload_n 1, 1) := by decide +kernel
theorem dX11_done_6 : decode cX11_done 6 = .ok (.iconst 0, 1) := by decide +kernel
theorem dX11_done_7 : decode cX11_done 7 = .ok (.aload_n 0, 1) := by decide +kernel
theorem dX11_done_8 : decode cX11_done 8 = .ok (.getfield 236, 3) := by decide +kernel
theorem dX11_done_11 : decode cX11_done 11 = .ok (.iconst 1, 1) := by decide +kernel
theorem dX11_done_12 : decode cX11_done 12 = .ok (.isub, 1) := by decide +kernel
theorem dX11_done_13 : decode cX11_done 13 = .ok (.invokestatic 72, 3) := by decide +kernel
theorem dX11_done_16 : decode cX11_done 16 = .ok (.ifCond .ne 9, 3) := by decide +kernel
theorem dX11_done_19 : decode cX11_done 19 = .ok (.aload_n 0, 1) := by decide +kernel
theorem dX11_done_20 : decode cX11_done 20 = .ok (.iconst 1, 1) := by decide +kernel
theorem dX11_done_21 : decode cX11_done 21 = .ok (.invokevirtual 221, 3) := by decide +kernel
theorem dX11_done_24 : decode cX11_done 24 = .ok (.ireturn, 1) := by decide +kernel
theorem dX11_done_25 : decode cX11_done 25 = .ok (.aload_n 0, 1) := by decide +kernel
theorem dX11_done_26 : decode cX11_done 26 = .ok (.getfield 57, 3) := by decide +kernel
theorem dX11_done_29 : decode cX11_done 29 = .ok (.aload_n 0, 1) := by decide +kernel
theorem dX11_done_30 : decode cX11_done 30 = .ok (.getfield 53, 3) := by decide +kernel
theorem dX11_done_33 : decode cX11_done 33 = .ok (.invokevirtual 382, 3) := by decide +kernel
theorem dX11_done_36 : decode cX11_done 36 = .ok (.iconst 0, 1) := by decide +kernel
theorem dX11_done_37 : decode cX11_done 37 = .ok (.istore_n 2, 1) := by decide +kernel
theorem dX11_done_38 : decode cX11_done 38 = .ok (.iload_n 2, 1) := by decide +kernel
theorem dX11_done_39 : decode cX11_done 39 = .ok (.sipush 300, 3) := by decide +kernel
theorem dX11_done_42 : decode cX11_done 42 = .ok (.if_icmp .gt 37, 3) := by decide +kernel
theorem dX11_done_45 : decode cX11_done 45 = .ok (.aload_n 0, 1) := by decide +kernel
theorem dX11_done_46 : decode cX11_done 46 = .ok (.getfield 57, 3) := by decide +kernel
theorem dX11_done_49 : decode cX11_done 49 = .ok (.getfield 239, 3) := by decide +kernel
theorem dX11_done_52 : decode cX11_done 52 = .ok (.bipush 10, 2) := by decide +kernel
theorem dX11_done_54 : decode cX11_done 54 = .ok (.iload_n 1, 1) := by decide +kernel
theorem dX11_done_55 : decode cX11_done 55 = .ok (.imul, 1) := by decide +kernel
theorem dX11_done_56 : decode cX11_done 56 = .ok (.iconst 5, 1) := by decide +kernel
theorem dX11_done_57 : decode cX11_done 57 = .ok (.iadd, 1) := by decide +kernel
theorem dX11_done_58 : decode cX11_done 58 = .ok (.iaload, 1) := by decide +kernel
theorem dX11_done_59 : decode cX11_done 59 = .ok (.iconst 1, 1) := by decide +kernel
theorem dX11_done_60 : decode cX11_done 60 = .ok (.if_icmp .ne 5, 3) := by decide +kernel
theorem dX11_done_63 : decode cX11_done 63 = .ok (.iload_n 2, 1) := by decide +kernel
theorem dX11_done_64 : decode cX11_done 64 = .ok (.ireturn, 1) := by decide +kernel
theorem dX11_done_65 : decode cX11_done 65 = .ok (.aload_n 0, 1) := by decide +kernel
theorem dX11_done_66 : decode cX11_done 66 = .ok (.aload_n 0, 1) := by decide +kernel
theorem dX11_done_67 : decode cX11_done 67 = .ok (.getfield 57, 3) := by decide +kernel
theorem dX11_done_70 : decode cX11_done 70 = .ok (.invokevirtual 358, 3) := by decide +kernel
theorem dX11_done_73 : decode cX11_done 73 = .ok (.iinc 2 1, 3) := by decide +kernel
theorem dX11_done_76 : decode cX11_done 76 = .ok (.goto (-38), 3) := by decide +kernel
theorem dX11_done_79 : decode cX11_done 79 = .ok (.iconst (-1), 1) := by decide +kernel
theorem dX11_done_80 : decode cX11_done 80 = .ok (.ireturn, 1) := by decide +kernel
def f_X11_done_L38 (i0 : Nat) (a1 : Int32) : Nat → Int32 → Mm → Option (Int32 × Mm)
  | 0, _, _ => none
  | n + 1, v2, M =>
    if ((300 : Int32) < v2) then (some ((-1 : Int32), M)) else (if 0 ≤ (((10 : Int32) * a1) + (5 : Int32)).toInt ∧ (((10 : Int32) * a1) + (5 : Int32)).toInt < ((40 : Nat) : Int) then (if ((M ((i0 + 22) + 6) (ix (((10 : Int32) * a1) + (5 : Int32)))) = (1 : Int32)) then (some (v2, M)) else (bd1 (f_X11_hour i0 (i0 + 22) M) fun M13 => lz (v2 + (1 : Int32)) fun x16 => f_X11_done_L38 i0 a1 n x16 M13)) else none)
def f_X11_done (i0 : Nat) (a1 : Int32) (M : Mm) : Option (Int32 × Mm) :=
  lz (wr M i0 0 (0 : Int32)) fun M1 => lz (f_X11_isIn a1 (0 : Int32) ((M1 i0 9) - (1 : Int32))) fun x3 => if (x3 = 0) then (bd2 (f_X11_no i0 (1 : Int32) M1) fun x18 M19 => some (x18, M19)) else (bd1 (f_X10_become (i0 + 22) (i0 + 14) M1) fun M7 => (f_X11_done_L38 i0 a1 FU (0 : Int32) M7))
set_option maxHeartbeats 4000000 in
set_option maxRecDepth 100000 in
theorem l_X11_done_L38 {p : Program} {e : Env} {s : State} {m : MethodId} {args : Array Value} {below : List Frame} {meth : Method} {c : Code} {l : Launch} {G : GG} (hC : CX p s m args meth c cX11_done 3 RX11 (some .int) G) {i0 : Nat} (hi0 : (kd i0).1 = 5) (a1 : Int32) : ∀ (n : Nat) (v2 : Int32) (M : Mm) {r : Int32} {M9 : Mm} (hr : f_X11_done_L38 i0 a1 n v2 M = some (r, M9)), XJ p l e (RM 7 0 0 193) s m args below meth c G 3 (MQ below (QO G M9 false (some (.int r)) s.heap.size) args s 0 0 (AF G s.heap.size)) 0 0 M 38 [(0, .ref (G.2.1 i0)), (1, .int a1), (2, .int v2)] [] := by
  intro n
  induction n with
  | zero => intro v2 M r M9 hr; rw [f_X11_done_L38] at hr; cases hr
  | succ n ih =>
    intro v2 M r M9 hr
    rw [f_X11_done_L38] at hr
    refine x_iload_n hC dX11_done_38 rfl 2 rfl ?_
    refine x_sipush hC (300 : Int32) dX11_done_39 (by decide) ?_
    refine x_icmp_gt hC 79 dX11_done_42 (by decide) (fun h10 => ?_) (fun h10 => ?_)
    · have hr := (ie_s hr).1 h10
      refine x_iconst hC (-1 : Int32) dX11_done_79 (by decide) ?_
      cases hr
      exact x_iret hC rfl dX11_done_80
    · have hr := (ie_s hr).2 h10
      refine x_aload_n hC dX11_done_45 rfl 0 rfl ?_
      refine gf_X11_57 hC hi0 dX11_done_46 ?_
      refine gf_X11_239 hC (kr_5_30 hi0) dX11_done_49 ?_
      refine x_bipush hC (10 : Int32) dX11_done_52 (by decide) ?_
      refine x_iload_n hC dX11_done_54 rfl 1 rfl ?_
      refine x_imul hC dX11_done_55 ?_
      refine x_iconst hC (5 : Int32) dX11_done_56 (by decide) ?_
      refine x_iadd hC dX11_done_57 ?_
      obtain ⟨h11, hr⟩ := it_s hr
      refine x_iald hC (kr_4_11 (kr_5_30 hi0)) h11 dX11_done_58 ?_
      refine x_iconst hC (1 : Int32) dX11_done_59 (by decide) ?_
      refine x_icmp_ne hC 65 dX11_done_60 (by decide) (fun h12 => ?_) (fun h12 => ?_)
      · have hr := (ie_s hr).2 h12
        refine x_aload_n hC dX11_done_65 rfl 0 rfl ?_
        refine x_aload_n hC dX11_done_66 rfl 0 rfl ?_
        refine gf_X11_57 hC hi0 dX11_done_67 ?_
        obtain ⟨M13, q14, hr⟩ := bd1_s hr
        refine x_callV (ci := 5) (q := (RX11, TX11, 32)) (As := [.ref (G.2.1 (i0 + 22))]) hC (c_X11_hour l G M hi0 (kr_5_30 hi0) q14) kc_yX11_hour km_X11_358 ki_yX11_hour kv_yX11_hour kn_RX11 ky_yX11_hour rfl ⟨rfl, rfl⟩ ⟨(Nat.le_of_ble_eq_true rfl), (Nat.le_of_ble_eq_true rfl)⟩ hi0 (by decide) rfl rfl (Nat.le_of_ble_eq_true rfl) ⟨(Nat.le_of_ble_eq_true rfl), (Nat.le_of_ble_eq_true rfl)⟩ dX11_done_70 (fun b15 => ?_)
        obtain ⟨x16, e17, hr⟩ := lz_s hr
        refine x_iinc hC [(2, .int x16), (0, .ref (G.2.1 i0)), (1, .int a1)] dX11_done_73 2 rfl (by rw [e17]; rfl) (Nat.le_of_ble_eq_true rfl) rfl ?_
        refine x_goto hC 38 dX11_done_76 (by decide) ?_
        exact x_sub [1, 2, 0] rfl (ih x16 M13 hr)
      · have hr := (ie_s hr).1 h12
        refine x_iload_n hC dX11_done_63 rfl 2 rfl ?_
        cases hr
        exact x_iret hC rfl dX11_done_64
set_option maxHeartbeats 4000000 in
set_option maxRecDepth 100000 in
theorem c_X11_done (l : Launch) (G : GG) (M : Mm) {i0 : Nat} (hi0 : (kd i0).1 = 5) (a1 : Int32) {r : Int32} {M9 : Mm} (hr : f_X11_done i0 a1 M = some (r, M9)) : Mo false l yX11_done (WS yX11_done cX11_done 3 (some .int)) (RM 7 0 0 193) 0 0 [.ref (G.2.1 i0), .int a1] G M (some (.int r)) M9 := by
  refine Mo.of (by decide +kernel) (Nat.le_of_ble_eq_true rfl) ?_
  intro p e s m args below meth c hC
  have hC : CX p s m args meth c cX11_done 3 RX11 (some .int) G := hC
  rw [f_X11_done] at hr
  show XJ p l e (RM 7 0 0 193) s m args below meth c G 3 _ 0 0 M 0 [(0, .ref (G.2.1 i0)), (1, .int a1)] []
  refine x_aload_n hC dX11_done_0 rfl 0 rfl ?_
  refine x_iconst hC (0 : Int32) dX11_done_1 (by decide) ?_
  obtain ⟨M1, e2, hr⟩ := lz_s hr
  refine pf_X11_69 hC hi0 e2 dX11_done_2 ?_
  refine x_iload_n hC dX11_done_5 rfl 1 rfl ?_
  refine x_iconst hC (0 : Int32) dX11_done_6 (by decide) ?_
  refine x_aload_n hC dX11_done_7 rfl 0 rfl ?_
  refine gf_X11_236 hC hi0 dX11_done_8 ?_
  refine x_iconst hC (1 : Int32) dX11_done_11 (by decide) ?_
  refine x_isub hC dX11_done_12 ?_
  obtain ⟨x3, e4, hr⟩ := lz_s hr
  refine x_callS (As := [.int a1, .int (0 : Int32), .int ((M1 i0 9) - (1 : Int32))]) hC (c_X11_isIn l G M1 a1 (0 : Int32) ((M1 i0 9) - (1 : Int32)) e4.symm) kc_yX11_isIn km_X11_72 kt_yX11_isIn kn_RX11 ky_yX11_isIn rfl ⟨rfl, rfl⟩ ⟨(Nat.le_of_ble_eq_true rfl), (Nat.le_of_ble_eq_true rfl)⟩ rfl (Nat.le_of_ble_eq_true rfl) ⟨(Nat.le_of_ble_eq_true rfl), (Nat.le_of_ble_eq_true rfl)⟩ dX11_done_13 (fun b5 => ?_)
  refine x_if_ne hC 25 dX11_done_16 (by decide) (fun h6 => ?_) (fun h6 => ?_)
  · have hr := (ie_s hr).2 h6
    refine x_aload_n hC dX11_done_25 rfl 0 rfl ?_
    refine gf_X11_57 hC hi0 dX11_done_26 ?_
    refine x_aload_n hC dX11_done_29 rfl 0 rfl ?_
    refine gf_X11_53 hC hi0 dX11_done_30 ?_
    obtain ⟨M7, q8, hr⟩ := bd1_s hr
    refine x_callV (ci := 4) (q := (RX10, TX10, 13)) (As := [.ref (G.2.1 (i0 + 14))]) hC (c_X10_become l G M1 (kr_5_30 hi0) (kr_5_29 hi0) q8) kc_yX10_become km_X11_382 ki_yX10_become kv_yX10_become kn_RX10 ky_yX10_become rfl ⟨rfl, rfl⟩ ⟨(Nat.le_of_ble_eq_true rfl), (Nat.le_of_ble_eq_true rfl)⟩ (kr_5_30 hi0) (by decide) rfl rfl (Nat.le_of_ble_eq_true rfl) ⟨(Nat.le_of_ble_eq_true rfl), (Nat.le_of_ble_eq_true rfl)⟩ dX11_done_33 (fun b9 => ?_)
    refine x_iconst hC (0 : Int32) dX11_done_36 (by decide) ?_
    refine x_istore_n hC [(2, .int (0 : Int32)), (0, .ref (G.2.1 i0)), (1, .int a1)] dX11_done_37 rfl (Nat.le_of_ble_eq_true rfl) rfl ?_
    exact x_sub [1, 2, 0] rfl (l_X11_done_L38 hC hi0 a1 FU (0 : Int32) M7 hr)
  · have hr := (ie_s hr).1 h6
    refine x_aload_n hC dX11_done_19 rfl 0 rfl ?_
    refine x_iconst hC (1 : Int32) dX11_done_20 (by decide) ?_
    obtain ⟨x18, M19, q20, hr⟩ := bd2_s hr
    refine x_callV (ci := 5) (q := (RX11, TX11, 32)) (As := [.int (1 : Int32)]) hC (c_X11_no l G M1 hi0 (1 : Int32) q20) kc_yX11_no km_X11_221 ki_yX11_no kv_yX11_no kn_RX11 ky_yX11_no rfl ⟨rfl, rfl⟩ ⟨(Nat.le_of_ble_eq_true rfl), (Nat.le_of_ble_eq_true rfl)⟩ hi0 (by decide) rfl rfl (Nat.le_of_ble_eq_true rfl) ⟨(Nat.le_of_ble_eq_true rfl), (Nat.le_of_ble_eq_true rfl)⟩ dX11_done_21 (fun b21 => ?_)
    cases hr
    exact x_iret hC rfl dX11_done_24

theorem dX11_dryBehind_0 : decode cX11_dryBehind 0 = .ok (.aload_n 0, 1) := by decide +kernel
theorem dX11_dryBehind_1 : decode cX11_dryBehind 1 = .ok (.getfield 57, 3) := by decide +kernel
theorem dX11_dryBehind_4 : decode cX11_dryBehind 4 = .ok (.aload_n 0, 1) := by decide +kernel
theorem dX11_dryBehind_5 : decode cX11_dryBehind 5 = .ok (.getfield 53, 3) := by decide +kernel
theorem dX11_dryBehind_8 : decode cX11_dryBehind 8 = .ok (.invokevirtual 382, 3) := by decide +kernel
theorem dX11_dryBehind_11 : decode cX11_dryBehind 11 = .ok (.aload_n 0, 1) := by decide +kernel
theorem dX11_dryBehind_12 : decode cX11_dryBehind 12 = .ok (.aload_n 0, 1) := by decide +kernel
theorem dX11_dryBehind_13 : decode cX11_dryBehind 13 = .ok (.getfield 57, 3) := by decide +kernel
theorem dX11_dryBehind_16 : decode cX11_dryBehind 16 = .ok (.iload_n 1, 1) := by decide +kernel
theorem dX11_dryBehind_17 : decode cX11_dryBehind 17 = .ok (.invokevirtual 379, 3) := by decide +kernel
theorem dX11_dryBehind_20 : decode cX11_dryBehind 20 = .ok (.aload_n 0, 1) := by decide +kernel
theorem dX11_dryBehind_21 : decode cX11_dryBehind 21 = .ok (.getfield 57, 3) := by decide +kernel
theorem dX11_dryBehind_24 : decode cX11_dryBehind 24 = .ok (.getfield 253, 3) := by decide +kernel
theorem dX11_dryBehind_27 : decode cX11_dryBehind 27 = .ok (.ireturn, 1) := by decide +kernel

def f_X11_dryBehind (i0 : Nat) (a1 : Int32) (M : Mm) : Option (Int32 × Mm) :=
  bd1 (f_X10_become (i0 + 22) (i0 + 14) M) fun M1 => bd1 (f_X11_hours i0 (i0 + 22) a1 M1) fun M4 => some ((M4 (i0 + 22) 2), M4)

set_option maxHeartbeats 4000000 in
set_option maxRecDepth 100000 in
theorem c_X11_dryBehind (l : Launch) (G : GG) (M : Mm) {i0 : Nat} (hi0 : (kd i0).1 = 5) (a1 : Int32) {r : Int32} {M9 : Mm} (hr : f_X11_dryBehind i0 a1 M = some (r, M9)) : Mo false l yX11_dryBehind (WS yX11_dryBehind cX11_dryBehind 2 (some .int)) (RM 8 0 0 216) 0 0 [.ref (G.2.1 i0), .int a1] G M (some (.int r)) M9 := by
  refine Mo.of (by decide +kernel) (Nat.le_of_ble_eq_true rfl) ?_
  intro p e s m args below meth c hC
  have hC : CX p s m args meth c cX11_dryBehind 2 RX11 (some .int) G := hC
  rw [f_X11_dryBehind] at hr
  show XJ p l e (RM 8 0 0 216) s m args below meth c G 2 _ 0 0 M 0 [(0, .ref (G.2.1 i0)), (1, .int a1)] []
  refine x_aload_n hC dX11_dryBehind_0 rfl 0 rfl ?_
  refine gf_X11_57 hC hi0 dX11_dryBehind_1 ?_
  refine x_aload_n hC dX11_dryBehind_4 rfl 0 rfl ?_
  refine gf_X11_53 hC hi0 dX11_dryBehind_5 ?_
  obtain ⟨M1, q2, hr⟩ := bd1_s hr
  refine x_callV (ci := 4) (q := (RX10, TX10, 13)) (As := [.ref (G.2.1 (i0 + 14))]) hC (c_X10_become l G M (kr_5_30 hi0) (kr_5_29 hi0) q2) kc_yX10_become km_X11_382 ki_yX10_become kv_yX10_become kn_RX10 ky_yX10_become rfl ⟨rfl, rfl⟩ ⟨(Nat.le_of_ble_eq_true rfl), (Nat.le_of_ble_eq_true rfl)⟩ (kr_5_30 hi0) (by decide) rfl rfl (Nat.le_of_ble_eq_true rfl) ⟨(Nat.le_of_ble_eq_true rfl), (Nat.le_of_ble_eq_true rfl)⟩ dX11_dryBehind_8 (fun b3 => ?_)
  refine x_aload_n hC dX11_dryBehind_11 rfl 0 rfl ?_
  refine x_aload_n hC dX11_dryBehind_12 rfl 0 rfl ?_
  refine gf_X11_57 hC hi0 dX11_dryBehind_13 ?_
  refine x_iload_n hC dX11_dryBehind_16 rfl 1 rfl ?_
  obtain ⟨M4, q5, hr⟩ := bd1_s hr
  refine x_callV (ci := 5) (q := (RX11, TX11, 32)) (As := [.ref (G.2.1 (i0 + 22)), .int a1]) hC (c_X11_hours l G M1 hi0 (kr_5_30 hi0) a1 q5) kc_yX11_hours km_X11_379 ki_yX11_hours kv_yX11_hours kn_RX11 ky_yX11_hours rfl ⟨rfl, rfl⟩ ⟨(Nat.le_of_ble_eq_true rfl), (Nat.le_of_ble_eq_true rfl)⟩ hi0 (by decide) rfl rfl (Nat.le_of_ble_eq_true rfl) ⟨(Nat.le_of_ble_eq_true rfl), (Nat.le_of_ble_eq_true rfl)⟩ dX11_dryBehind_17 (fun b6 => ?_)
  refine x_aload_n hC dX11_dryBehind_20 rfl 0 rfl ?_
  refine gf_X11_57 hC hi0 dX11_dryBehind_21 ?_
  refine gf_X11_253 hC (kr_5_30 hi0) dX11_dryBehind_24 ?_
  cases hr
  exact x_iret hC rfl dX11_dryBehind_27

theorem dX11_advise_0 : decode cX11_advise 0 = .ok (.aload_n 0, 1) := by decide +kernel
theorem dX11_advise_1 : decode cX11_advise 1 = .ok (.iconst 0, 1) := by decide +kernel
theorem dX11_advise_2 : decode cX11_advise 2 = .ok (.putfield 69, 3) := by decide +kernel
theorem dX11_advise_5 : decode cX11_advise 5 = .ok (.iload_n 1, 1) := by decide +kernel
theorem dX11_advise_6 : decode cX11_advise 6 = .ok (.iconst 1, 1) := by decide +kernel
theorem dX11_advise_7 : decode cX11_advise 7 = .ok (.bipush 120, 2) := by decide +kernel
theorem dX11_advise_9 : decode cX11_advise 9 = .ok (.invokestatic 72, 3) := by decide +kernel
theorem dX11_advise_12 : decode cX11_advise 12 = .ok (.ifCond .ne 9, 3) := by decide +kernel
theorem dX11_advise_15 : decode cX11_advise 15 = .ok (.aload_n 0, 1) := by decide +kernel
theorem dX11_advise_16 : decode cX11_advise 16 = .ok (.iconst 1, 1) := by decide +kernel
theorem dX11_advise_17 : decode cX11_advise 17 = .ok (.invokevirtual 221, 3) := by decide +kernel
theorem dX11_advise_20 : decode cX11_advise 20 = .ok (.ireturn, 1) := by decide +kernel
theorem dX11_advise_21 : decode cX11_advise 21 = .ok (.aload_n 0, 1) := by decide +kernel
theorem dX11_advise_22 : decode cX11_advise 22 = .ok (.iload_n 1, 1) := by decide +kernel
theorem dX11_advise_23 : decode cX11_advise 23 = .ok (.invokevirtual 385, 3) := by decide +kernel
theorem dX11_advise_26 : decode cX11_advise 26 = .ok (.istore_n 2, 1) := by decide +kernel
theorem dX11_advise_27 : decode cX11_advise 27 = .ok (.iconst (-1), 1) := by decide +kernel
theorem dX11_advise_28 : decode cX11_advise 28 = .ok (.istore_n 3, 1) := by decide +kernel
theorem dX11_advise_29 : decode cX11_advise 29 = .ok (.iconst 0, 1) := by decide +kernel
theorem dX11_advise_30 : decode cX11_advise 30 = .ok (.istore 4, 2) := by decide +kernel
theorem dX11_advise_32 : decode cX11_advise 32 = .ok (.iload 4, 2) := by decide +kernel
theorem dX11_advise_34 : decode cX11_advise 34 = .ok (.bipush 12, 2) := by decide +kernel
theorem dX11_advise_36 : decode cX11_advise 36 = .ok (.if_icmp .ge 84, 3) := by decide +kernel
theorem dX11_advise_39 : decode cX11_advise 39 = .ok (.aload_n 0, 1) := by decide +kernel
theorem dX11_advise_40 : decode cX11_advise 40 = .ok (.getfield 20, 3) := by decide +kernel
theorem dX11_advise_43 : decode cX11_advise 43 = .ok (.iload 4, 2) := by decide +kernel
theorem dX11_advise_45 : decode cX11_advise 45 = .ok (.iaload, 1) := by decide +kernel
theorem dX11_advise_46 : decode cX11_advise 46 = .ok (.istore 5, 2) := by decide +kernel
theorem dX11_advise_48 : decode cX11_advise 48 = .ok (.aload_n 0, 1) := by decide +kernel
theorem dX11_advise_49 : decode cX11_advise 49 = .ok (.getfield 23, 3) := by decide +kernel
theorem dX11_advise_52 : decode cX11_advise 52 = .ok (.iload 4, 2) := by decide +kernel
theorem dX11_advise_54 : decode cX11_advise 54 = .ok (.iaload, 1) := by decide +kernel
theorem dX11_advise_55 : decode cX11_advise 55 = .ok (.istore 6, 2) := by decide +kernel
theorem dX11_advise_57 : decode cX11_advise 57 = .ok (.aload_n 0, 1) := by decide +kernel
theorem dX11_advise_58 : decode cX11_advise 58 = .ok (.getfield 20, 3) := by decide +kernel
theorem dX11_advise_61 : decode cX11_advise 61 = .ok (.iload 4, 2) := by decide +kernel
theorem dX11_advise_63 : decode cX11_advise 63 = .ok (.iconst 0, 1) := by decide +kernel
theorem dX11_advise_64 : decode cX11_advise 64 = .ok (.iastore, 1) := by decide +kernel
theorem dX11_advise_65 : decode cX11_advise 65 = .ok (.aload_n 0, 1) := by decide +kernel
theorem dX11_advise_66 : decode cX11_advise 66 = .ok (.getfield 23, 3) := by decide +kernel
theorem dX11_advise_69 : decode cX11_advise 69 = .ok (.iload 4, 2) := by decide +kernel
theorem dX11_advise_71 : decode cX11_advise 71 = .ok (.bipush 9, 2) := by decide +kernel
theorem dX11_advise_73 : decode cX11_advise 73 = .ok (.iastore, 1) := by decide +kernel
theorem dX11_advise_74 : decode cX11_advise 74 = .ok (.aload_n 0, 1) := by decide +kernel
theorem dX11_advise_75 : decode cX11_advise 75 = .ok (.iload_n 1, 1) := by decide +kernel
theorem dX11_advise_76 : decode cX11_advise 76 = .ok (.invokevirtual 385, 3) := by decide +kernel
theorem dX11_advise_79 : decode cX11_advise 79 = .ok (.istore 7, 2) := by decide +kernel
theorem dX11_advise_81 : decode cX11_advise 81 = .ok (.aload_n 0, 1) := by decide +kernel
theorem dX11_advise_82 : decode cX11_advise 82 = .ok (.getfield 20, 3) := by decide +kernel
theorem dX11_advise_85 : decode cX11_advise 85 = .ok (.iload 4, 2) := by decide +kernel
theorem dX11_advise_87 : decode cX11_advise 87 = .ok (.iload 5, 2) := by decide +kernel
theorem dX11_advise_89 : decode cX11_advise 89 = .ok (.iastore, 1) := by decide +kernel
theorem dX11_advise_90 : decode cX11_advise 90 = .ok (.aload_n 0, 1) := by decide +kernel
theorem dX11_advise_91 : decode cX11_advise 91 = .ok (.getfield 23, 3) := by decide +kernel
theorem dX11_advise_94 : decode cX11_advise 94 = .ok (.iload 4, 2) := by decide +kernel
theorem dX11_advise_96 : decode cX11_advise 96 = .ok (.iload 6, 2) := by decide +kernel
theorem dX11_advise_98 : decode cX11_advise 98 = .ok (.iastore, 1) := by decide +kernel
theorem dX11_advise_99 : decode cX11_advise 99 = .ok (.iload 7, 2) := by decide +kernel
theorem dX11_advise_101 : decode cX11_advise 101 = .ok (.iload_n 2, 1) := by decide +kernel
theorem dX11_advise_102 : decode cX11_advise 102 = .ok (.if_icmp .gt 6, 3) := by decide +kernel
theorem dX11_advise_105 : decode cX11_advise 105 = .ok (.goto 9, 3) := by decide +kernel
theorem dX11_advise_108 : decode cX11_advise 108 = .ok (.iload 4, 2) := by decide +kernel
theorem dX11_advise_110 : decode cX11_advise 110 = .ok (.istore_n 3, 1) := by decide +kernel
theorem dX11_advise_111 : decode cX11_advise 111 = .ok (.iload 7, 2) := by decide +kernel
theorem dX11_advise_113 : decode cX11_advise 113 = .ok (.istore_n 2, 1) := by decide +kernel
theorem dX11_advise_114 : decode cX11_advise 114 = .ok (.iinc 4 1, 3) := by decide +kernel
theorem dX11_advise_117 : decode cX11_advise 117 = .ok (.goto (-85), 3) := by decide +kernel
theorem dX11_advise_120 : decode cX11_advise 120 = .ok (.iload_n 3, 1) := by decide +kernel
theorem dX11_advise_121 : decode cX11_advise 121 = .ok (.ireturn, 1) := by decide +kernel
def f_X11_advise_L32 (i0 : Nat) (a1 : Int32) : Nat → Int32 → Int32 → Int32 → Mm → Option (Int32 × Mm)
  | 0, _, _, _, _ => none
  | n + 1, v2, v3, v4, M =>
    if ((12 : Int32) ≤ v4) then (some (v3, M)) else (if 0 ≤ v4.toInt ∧ v4.toInt < ((12 : Nat) : Int) then (if 0 ≤ v4.toInt ∧ v4.toInt < ((12 : Nat) : Int) then (if 0 ≤ v4.toInt ∧ v4.toInt < ((12 : Nat) : Int) then (lz (wr M (i0 + 3) (ix v4) (0 : Int32)) fun M15 => if 0 ≤ v4.toInt ∧ v4.toInt < ((12 : Nat) : Int) then (lz (wr M15 (i0 + 4) (ix v4) (9 : Int32)) fun M18 => bd2 (f_X11_dryBehind i0 a1 M18) fun x20 M21 => if 0 ≤ v4.toInt ∧ v4.toInt < ((12 : Nat) : Int) then (lz (wr M21 (i0 + 3) (ix v4) (M (i0 + 3) (ix v4))) fun M25 => if 0 ≤ v4.toInt ∧ v4.toInt < ((12 : Nat) : Int) then (lz (wr M25 (i0 + 4) (ix v4) (M (i0 + 4) (ix v4))) fun M28 => bd2 (if (v2 < x20) then (some (x20, v4)) else (some (v2, v3))) fun x32 x33 => lz (v4 + (1 : Int32)) fun x34 => f_X11_advise_L32 i0 a1 n x32 x33 x34 M28) else none) else none) else none) else none) else none) else none)
def f_X11_advise (i0 : Nat) (a1 : Int32) (M : Mm) : Option (Int32 × Mm) :=
  lz (wr M i0 0 (0 : Int32)) fun M1 => lz (f_X11_isIn a1 (1 : Int32) (120 : Int32)) fun x3 => if (x3 = 0) then (bd2 (f_X11_no i0 (1 : Int32) M1) fun x39 M40 => some (x39, M40)) else (bd2 (f_X11_dryBehind i0 a1 M1) fun x7 M8 => bd2 (f_X11_advise_L32 i0 a1 FU x7 (-1 : Int32) (0 : Int32) M8) fun x37 M38 => some (x37, M38))
set_option maxHeartbeats 4000000 in
set_option maxRecDepth 100000 in
theorem l_X11_advise_L32 {p : Program} {e : Env} {s : State} {m : MethodId} {args : Array Value} {below : List Frame} {meth : Method} {c : Code} {l : Launch} {G : GG} {Q : State → Prop} (hC : CX p s m args meth c cX11_advise 8 RX11 (some .int) G) {i0 : Nat} (hi0 : (kd i0).1 = 5) (a1 : Int32) : ∀ (n : Nat) (v2 : Int32) (v3 : Int32) (v4 : Int32) (M : Mm) {o3 : Int32} {M2 : Mm} (hr : f_X11_advise_L32 i0 a1 n v2 v3 v4 M = some (o3, M2)) (K : XJ p l e (RM 9 0 0 237) s m args below meth c G 8 Q 0 0 M2 120 [(3, .int o3)] []), XJ p l e (RM 9 0 0 237) s m args below meth c G 8 Q 0 0 M 32 [(0, .ref (G.2.1 i0)), (1, .int a1), (2, .int v2), (3, .int v3), (4, .int v4)] [] := by
  intro n
  induction n with
  | zero => intro v2 v3 v4 M o3 M2 hr K; rw [f_X11_advise_L32] at hr; cases hr
  | succ n ih =>
    intro v2 v3 v4 M o3 M2 hr K
    rw [f_X11_advise_L32] at hr
    refine x_iload hC dX11_advise_32 4 rfl ?_
    refine x_bipush hC (12 : Int32) dX11_advise_34 (by decide) ?_
    refine x_icmp_ge hC 120 dX11_advise_36 (by decide) (fun h11 => ?_) (fun h11 => ?_)
    · have hr := (ie_s hr).1 h11
      cases hr
      exact x_sub [3] rfl K
    · have hr := (ie_s hr).2 h11
      refine x_aload_n hC dX11_advise_39 rfl 0 rfl ?_
      refine gf_X11_20 hC hi0 dX11_advise_40 ?_
      refine x_iload hC dX11_advise_43 4 rfl ?_
      obtain ⟨h12, hr⟩ := it_s hr
      refine x_iald hC (kr_5_6 hi0) h12 dX11_advise_45 ?_
      refine x_istore hC [(5, .int (M (i0 + 3) (ix v4))), (0, .ref (G.2.1 i0)), (1, .int a1), (2, .int v2), (3, .int v3), (4, .int v4)] dX11_advise_46  (Nat.le_of_ble_eq_true rfl) rfl ?_
      refine x_aload_n hC dX11_advise_48 rfl 1 rfl ?_
      refine gf_X11_23 hC hi0 dX11_advise_49 ?_
      refine x_iload hC dX11_advise_52 5 rfl ?_
      obtain ⟨h13, hr⟩ := it_s hr
      refine x_iald hC (kr_5_7 hi0) h13 dX11_advise_54 ?_
      refine x_istore hC [(6, .int (M (i0 + 4) (ix v4))), (5, .int (M (i0 + 3) (ix v4))), (0, .ref (G.2.1 i0)), (1, .int a1), (2, .int v2), (3, .int v3), (4, .int v4)] dX11_advise_55  (Nat.le_of_ble_eq_true rfl) rfl ?_
      refine x_aload_n hC dX11_advise_57 rfl 2 rfl ?_
      refine gf_X11_20 hC hi0 dX11_advise_58 ?_
      refine x_iload hC dX11_advise_61 6 rfl ?_
      refine x_iconst hC (0 : Int32) dX11_advise_63 (by decide) ?_
      obtain ⟨h14, hr⟩ := it_s hr
      obtain ⟨M15, e16, hr⟩ := lz_s hr
      refine x_iast hC (kr_5_6 hi0) h14 e16 dX11_advise_64 ?_
      refine x_aload_n hC dX11_advise_65 rfl 2 rfl ?_
      refine gf_X11_23 hC hi0 dX11_advise_66 ?_
      refine x_iload hC dX11_advise_69 6 rfl ?_
      refine x_bipush hC (9 : Int32) dX11_advise_71 (by decide) ?_
      obtain ⟨h17, hr⟩ := it_s hr
      obtain ⟨M18, e19, hr⟩ := lz_s hr
      refine x_iast hC (kr_5_7 hi0) h17 e19 dX11_advise_73 ?_
      refine x_aload_n hC dX11_advise_74 rfl 2 rfl ?_
      refine x_iload_n hC dX11_advise_75 rfl 3 rfl ?_
      obtain ⟨x20, M21, q22, hr⟩ := bd2_s hr
      refine x_callV (ci := 5) (q := (RX11, TX11, 32)) (As := [.int a1]) hC (c_X11_dryBehind l G M18 hi0 a1 q22) kc_yX11_dryBehind km_X11_385 ki_yX11_dryBehind kv_yX11_dryBehind kn_RX11 ky_yX11_dryBehind rfl ⟨rfl, rfl⟩ ⟨(Nat.le_of_ble_eq_true rfl), (Nat.le_of_ble_eq_true rfl)⟩ hi0 (by decide) rfl rfl (Nat.le_of_ble_eq_true rfl) ⟨(Nat.le_of_ble_eq_true rfl), (Nat.le_of_ble_eq_true rfl)⟩ dX11_advise_76 (fun b23 => ?_)
      refine x_istore hC [(7, .int x20), (6, .int (M (i0 + 4) (ix v4))), (5, .int (M (i0 + 3) (ix v4))), (0, .ref (G.2.1 i0)), (1, .int a1), (2, .int v2), (3, .int v3), (4, .int v4)] dX11_advise_79  (Nat.le_of_ble_eq_true rfl) rfl ?_
      refine x_aload_n hC dX11_advise_81 rfl 3 rfl ?_
      refine gf_X11_20 hC hi0 dX11_advise_82 ?_
      refine x_iload hC dX11_advise_85 7 rfl ?_
      refine x_iload hC dX11_advise_87 2 rfl ?_
      obtain ⟨h24, hr⟩ := it_s hr
      obtain ⟨M25, e26, hr⟩ := lz_s hr
      refine x_iast hC (kr_5_6 hi0) h24 e26 dX11_advise_89 ?_
      refine x_aload_n hC dX11_advise_90 rfl 3 rfl ?_
      refine gf_X11_23 hC hi0 dX11_advise_91 ?_
      refine x_iload hC dX11_advise_94 7 rfl ?_
      refine x_iload hC dX11_advise_96 1 rfl ?_
      obtain ⟨h27, hr⟩ := it_s hr
      obtain ⟨M28, e29, hr⟩ := lz_s hr
      refine x_iast hC (kr_5_7 hi0) h27 e29 dX11_advise_98 ?_
      refine x_iload hC dX11_advise_99 0 rfl ?_
      refine x_iload_n hC dX11_advise_101 rfl 5 rfl ?_
      obtain ⟨x32, x33, q30, hr⟩ := bd2_s hr
      refine x_join (M' := M28) (pc' := 114) (lv' := [(0, .ref (G.2.1 i0)), (1, .int a1), (2, .int x32), (3, .int x33), (4, .int v4)]) (st' := []) ?_ ?_
      · obtain ⟨x34, e35, hr⟩ := lz_s hr
        refine x_iinc hC [(4, .int x34), (0, .ref (G.2.1 i0)), (1, .int a1), (2, .int x32), (3, .int x33)] dX11_advise_114 4 rfl (by rw [e35]; rfl) (Nat.le_of_ble_eq_true rfl) rfl ?_
        refine x_goto hC 32 dX11_advise_117 (by decide) ?_
        exact x_sub [1, 2, 3, 4, 0] rfl (ih x32 x33 x34 M28 hr K)
      · intro kj
        refine x_icmp_gt hC 108 dX11_advise_102 (by decide) (fun h31 => ?_) (fun h31 => ?_)
        · have q30 := (ie_s q30).1 h31
          refine x_iload hC dX11_advise_108 7 rfl ?_
          refine x_istore_n hC [(3, .int v4), (7, .int x20), (6, .int (M (i0 + 4) (ix v4))), (5, .int (M (i0 + 3) (ix v4))), (0, .ref (G.2.1 i0)), (1, .int a1), (2, .int v2), (4, .int v4)] dX11_advise_110 rfl (Nat.le_of_ble_eq_true rfl) rfl ?_
          refine x_iload hC dX11_advise_111 1 rfl ?_
          refine x_istore_n hC [(2, .int x20), (3, .int v4), (7, .int x20), (6, .int (M (i0 + 4) (ix v4))), (5, .int (M (i0 + 3) (ix v4))), (0, .ref (G.2.1 i0)), (1, .int a1), (4, .int v4)] dX11_advise_113 rfl (Nat.le_of_ble_eq_true rfl) rfl ?_
          cases q30
          exact x_sub [5, 6, 0, 1, 7] rfl kj
        · have q30 := (ie_s q30).2 h31
          refine x_goto hC 114 dX11_advise_105 (by decide) ?_
          cases q30
          exact x_sub [3, 4, 5, 6, 7] rfl kj
set_option maxHeartbeats 4000000 in
set_option maxRecDepth 100000 in
theorem c_X11_advise (l : Launch) (G : GG) (M : Mm) {i0 : Nat} (hi0 : (kd i0).1 = 5) (a1 : Int32) {r : Int32} {M9 : Mm} (hr : f_X11_advise i0 a1 M = some (r, M9)) : Mo false l yX11_advise (WS yX11_advise cX11_advise 8 (some .int)) (RM 9 0 0 237) 0 0 [.ref (G.2.1 i0), .int a1] G M (some (.int r)) M9 := by
  refine Mo.of (by decide +kernel) (Nat.le_of_ble_eq_true rfl) ?_
  intro p e s m args below meth c hC
  have hC : CX p s m args meth c cX11_advise 8 RX11 (some .int) G := hC
  rw [f_X11_advise] at hr
  show XJ p l e (RM 9 0 0 237) s m args below meth c G 8 _ 0 0 M 0 [(0, .ref (G.2.1 i0)), (1, .int a1)] []
  refine x_aload_n hC dX11_advise_0 rfl 0 rfl ?_
  refine x_iconst hC (0 : Int32) dX11_advise_1 (by decide) ?_
  obtain ⟨M1, e2, hr⟩ := lz_s hr
  refine pf_X11_69 hC hi0 e2 dX11_advise_2 ?_
  refine x_iload_n hC dX11_advise_5 rfl 1 rfl ?_
  refine x_iconst hC (1 : Int32) dX11_advise_6 (by decide) ?_
  refine x_bipush hC (120 : Int32) dX11_advise_7 (by decide) ?_
  obtain ⟨x3, e4, hr⟩ := lz_s hr
  refine x_callS (As := [.int a1, .int (1 : Int32), .int (120 : Int32)]) hC (c_X11_isIn l G M1 a1 (1 : Int32) (120 : Int32) e4.symm) kc_yX11_isIn km_X11_72 kt_yX11_isIn kn_RX11 ky_yX11_isIn rfl ⟨rfl, rfl⟩ ⟨(Nat.le_of_ble_eq_true rfl), (Nat.le_of_ble_eq_true rfl)⟩ rfl (Nat.le_of_ble_eq_true rfl) ⟨(Nat.le_of_ble_eq_true rfl), (Nat.le_of_ble_eq_true rfl)⟩ dX11_advise_9 (fun b5 => ?_)
  refine x_if_ne hC 21 dX11_advise_12 (by decide) (fun h6 => ?_) (fun h6 => ?_)
  · have hr := (ie_s hr).2 h6
    refine x_aload_n hC dX11_advise_21 rfl 0 rfl ?_
    refine x_iload_n hC dX11_advise_22 rfl 1 rfl ?_
    obtain ⟨x7, M8, q9, hr⟩ := bd2_s hr
    refine x_callV (ci := 5) (q := (RX11, TX11, 32)) (As := [.int a1]) hC (c_X11_dryBehind l G M1 hi0 a1 q9) kc_yX11_dryBehind km_X11_385 ki_yX11_dryBehind kv_yX11_dryBehind kn_RX11 ky_yX11_dryBehind rfl ⟨rfl, rfl⟩ ⟨(Nat.le_of_ble_eq_true rfl), (Nat.le_of_ble_eq_true rfl)⟩ hi0 (by decide) rfl rfl (Nat.le_of_ble_eq_true rfl) ⟨(Nat.le_of_ble_eq_true rfl), (Nat.le_of_ble_eq_true rfl)⟩ dX11_advise_23 (fun b10 => ?_)
    refine x_istore_n hC [(2, .int x7), (0, .ref (G.2.1 i0)), (1, .int a1)] dX11_advise_26 rfl (Nat.le_of_ble_eq_true rfl) rfl ?_
    refine x_iconst hC (-1 : Int32) dX11_advise_27 (by decide) ?_
    refine x_istore_n hC [(3, .int (-1 : Int32)), (2, .int x7), (0, .ref (G.2.1 i0)), (1, .int a1)] dX11_advise_28 rfl (Nat.le_of_ble_eq_true rfl) rfl ?_
    refine x_iconst hC (0 : Int32) dX11_advise_29 (by decide) ?_
    refine x_istore hC [(4, .int (0 : Int32)), (3, .int (-1 : Int32)), (2, .int x7), (0, .ref (G.2.1 i0)), (1, .int a1)] dX11_advise_30  (Nat.le_of_ble_eq_true rfl) rfl ?_
    obtain ⟨x37, M38, q36, hr⟩ := bd2_s hr
    refine x_sub [3, 4, 2, 1, 0] rfl (l_X11_advise_L32 hC hi0 a1 FU  x7 (-1 : Int32) (0 : Int32) M8 q36 ?_)
    refine x_iload_n hC dX11_advise_120 rfl 0 rfl ?_
    cases hr
    exact x_iret hC rfl dX11_advise_121
  · have hr := (ie_s hr).1 h6
    refine x_aload_n hC dX11_advise_15 rfl 0 rfl ?_
    refine x_iconst hC (1 : Int32) dX11_advise_16 (by decide) ?_
    obtain ⟨x39, M40, q41, hr⟩ := bd2_s hr
    refine x_callV (ci := 5) (q := (RX11, TX11, 32)) (As := [.int (1 : Int32)]) hC (c_X11_no l G M1 hi0 (1 : Int32) q41) kc_yX11_no km_X11_221 ki_yX11_no kv_yX11_no kn_RX11 ky_yX11_no rfl ⟨rfl, rfl⟩ ⟨(Nat.le_of_ble_eq_true rfl), (Nat.le_of_ble_eq_true rfl)⟩ hi0 (by decide) rfl rfl (Nat.le_of_ble_eq_true rfl) ⟨(Nat.le_of_ble_eq_true rfl), (Nat.le_of_ble_eq_true rfl)⟩ dX11_advise_17 (fun b42 => ?_)
    cases hr
    exact x_iret hC rfl dX11_advise_20

theorem dX11_isGangIn_0 : decode cX11_isGangIn 0 = .ok (.iconst 0, 1) := by decide +kernel
theorem dX11_isGangIn_1 : decode cX11_isGangIn 1 = .ok (.istore_n 2, 1) := by decide +kernel
theorem dX11_isGangIn_2 : decode cX11_isGangIn 2 = .ok (.iload_n 2, 1) := by decide +kernel
theorem dX11_isGangIn_3 : decode cX11_isGangIn 3 = .ok (.aload_n 0, 1) := by decide +kernel
theorem dX11_isGangIn_4 : decode cX11_isGangIn 4 = .ok (.getfield 236, 3) := by decide +kernel
theorem dX11_isGangIn_7 : decode cX11_isGangIn 7 = .ok (.if_icmp .ge 45, 3) := by decide +kernel
theorem dX11_isGangIn_10 : decode cX11_isGangIn 10 = .ok (.bipush 8, 2) := by decide +kernel
theorem dX11_isGangIn_12 : decode cX11_isGangIn 12 = .ok (.aload_n 0, 1) := by decide +kernel
theorem dX11_isGangIn_13 : decode cX11_isGangIn 13 = .ok (.getfield 53, 3) := by decide +kernel
theorem dX11_isGangIn_16 : decode cX11_isGangIn 16 = .ok (.getfield 239, 3) := by decide +kernel
theorem dX11_isGangIn_19 : decode cX11_isGangIn 19 = .ok (.bipush 10, 2) := by decide +kernel
theorem dX11_isGangIn_21 : decode cX11_isGangIn 21 = .ok (.iload_n 2, 1) := by decide +kernel
theorem dX11_isGangIn_22 : decode cX11_isGangIn 22 = .ok (.imul, 1) := by decide +kernel
theorem dX11_isGangIn_23 : decode cX11_isGangIn 23 = .ok (.iconst 1, 1) := by decide +kernel
theorem dX11_isGangIn_24 : decode cX11_isGangIn 24 = .ok (.iadd, 1) := by decide +kernel
theorem dX11_isGangIn_25 : decode cX11_isGangIn 25 = .ok (.iaload, 1) := by decide +kernel
theorem dX11_isGangIn_26 : decode cX11_isGangIn 26 = .ok (.imul, 1) := by decide +kernel
theorem dX11_isGangIn_27 : decode cX11_isGangIn 27 = .ok (.aload_n 0, 1) := by decide +kernel
theorem dX11_isGangIn_28 : decode cX11_isGangIn 28 = .ok (.getfield 53, 3) := by decide +kernel
theorem dX11_isGangIn_31 : decode cX11_isGangIn 31 = .ok (.getfield 239, 3) := by decide +kernel
theorem dX11_isGangIn_34 : decode cX11_isGangIn 34 = .ok (.bipush 10, 2) := by decide +kernel
theorem dX11_isGangIn_36 : decode cX11_isGangIn 36 = .ok (.iload_n 2, 1) := by decide +kernel
theorem dX11_isGangIn_37 : decode cX11_isGangIn 37 = .ok (.imul, 1) := by decide +kernel
theorem dX11_isGangIn_38 : decode cX11_isGangIn 38 = .ok (.iaload, 1) := by decide +kernel
theorem dX11_isGangIn_39 : decode cX11_isGangIn 39 = .ok (.iadd, 1) := by decide +kernel
theorem dX11_isGangIn_40 : decode cX11_isGangIn 40 = .ok (.iload_n 1, 1) := by decide +kernel
theorem dX11_isGangIn_41 : decode cX11_isGangIn 41 = .ok (.if_icmp .ne 5, 3) := by decide +kernel
theorem dX11_isGangIn_44 : decode cX11_isGangIn 44 = .ok (.iconst 1, 1) := by decide +kernel
theorem dX11_isGangIn_45 : decode cX11_isGangIn 45 = .ok (.ireturn, 1) := by decide +kernel
theorem dX11_isGangIn_46 : decode cX11_isGangIn 46 = .ok (.iinc 2 1, 3) := by decide +kernel
theorem dX11_isGangIn_49 : decode cX11_isGangIn 49 = .ok (.goto (-47), 3) := by decide +kernel
theorem dX11_isGangIn_52 : decode cX11_isGangIn 52 = .ok (.iconst 0, 1) := by decide +kernel
theorem dX11_isGangIn_53 : decode cX11_isGangIn 53 = .ok (.ireturn, 1) := by decide +kernel
def f_X11_isGangIn_L2 (i0 : Nat) (a1 : Int32) (M : Mm) : Nat → Int32 → Option Int32
  | 0, _ => none
  | n + 1, v2 =>
    if ((M i0 9) ≤ v2) then (some (0 : Int32)) else (if 0 ≤ (((10 : Int32) * v2) + (1 : Int32)).toInt ∧ (((10 : Int32) * v2) + (1 : Int32)).toInt < ((40 : Nat) : Int) then (lz ((8 : Int32) * (M ((i0 + 14) + 6) (ix (((10 : Int32) * v2) + (1 : Int32))))) fun x3 => if 0 ≤ ((10 : Int32) * v2).toInt ∧ ((10 : Int32) * v2).toInt < ((40 : Nat) : Int) then (if ((x3 + (M ((i0 + 14) + 6) (ix ((10 : Int32) * v2)))) = a1) then (some (1 : Int32)) else (lz (v2 + (1 : Int32)) fun x7 => f_X11_isGangIn_L2 i0 a1 M n x7)) else none) else none)
def f_X11_isGangIn (i0 : Nat) (a1 : Int32) (M : Mm) : Option Int32 :=
  (f_X11_isGangIn_L2 i0 a1 M FU (0 : Int32))
set_option maxHeartbeats 4000000 in
set_option maxRecDepth 100000 in
theorem l_X11_isGangIn_L2 {p : Program} {e : Env} {s : State} {m : MethodId} {args : Array Value} {below : List Frame} {meth : Method} {c : Code} {l : Launch} {G : GG} (hC : CX p s m args meth c cX11_isGangIn 3 RX11 (some .boolean) G) {i0 : Nat} (hi0 : (kd i0).1 = 5) (a1 : Int32) (M : Mm) : ∀ (n : Nat) (v2 : Int32) {r : Int32} (hr : f_X11_isGangIn_L2 i0 a1 M n v2 = some r), XJ p l e (RM 0 0 0 0) s m args below meth c G 3 (MQ below (QO G M true (some (.int r)) s.heap.size) args s 0 0 (AF G s.heap.size)) 0 0 M 2 [(0, .ref (G.2.1 i0)), (1, .int a1), (2, .int v2)] [] := by
  intro n
  induction n with
  | zero => intro v2 r hr; rw [f_X11_isGangIn_L2] at hr; cases hr
  | succ n ih =>
    intro v2 r hr
    rw [f_X11_isGangIn_L2] at hr
    refine x_iload_n hC dX11_isGangIn_2 rfl 2 rfl ?_
    refine x_aload_n hC dX11_isGangIn_3 rfl 0 rfl ?_
    refine gf_X11_236 hC hi0 dX11_isGangIn_4 ?_
    refine x_icmp_ge hC 52 dX11_isGangIn_7 (by decide) (fun h1 => ?_) (fun h1 => ?_)
    · have hr := (ie_s hr).1 h1
      refine x_iconst hC (0 : Int32) dX11_isGangIn_52 (by decide) ?_
      cases hr
      exact x_zret hC rfl (Or.inl rfl) dX11_isGangIn_53
    · have hr := (ie_s hr).2 h1
      refine x_bipush hC (8 : Int32) dX11_isGangIn_10 (by decide) ?_
      refine x_aload_n hC dX11_isGangIn_12 rfl 0 rfl ?_
      refine gf_X11_53 hC hi0 dX11_isGangIn_13 ?_
      refine gf_X11_239 hC (kr_5_29 hi0) dX11_isGangIn_16 ?_
      refine x_bipush hC (10 : Int32) dX11_isGangIn_19 (by decide) ?_
      refine x_iload_n hC dX11_isGangIn_21 rfl 2 rfl ?_
      refine x_imul hC dX11_isGangIn_22 ?_
      refine x_iconst hC (1 : Int32) dX11_isGangIn_23 (by decide) ?_
      refine x_iadd hC dX11_isGangIn_24 ?_
      obtain ⟨h2, hr⟩ := it_s hr
      refine x_iald hC (kr_4_11 (kr_5_29 hi0)) h2 dX11_isGangIn_25 ?_
      refine x_imul hC dX11_isGangIn_26 ?_
      obtain ⟨x3, e4, hr⟩ := lz_s hr
      refine x_topi e4 ?_
      refine x_aload_n hC dX11_isGangIn_27 rfl 0 rfl ?_
      refine gf_X11_53 hC hi0 dX11_isGangIn_28 ?_
      refine gf_X11_239 hC (kr_5_29 hi0) dX11_isGangIn_31 ?_
      refine x_bipush hC (10 : Int32) dX11_isGangIn_34 (by decide) ?_
      refine x_iload_n hC dX11_isGangIn_36 rfl 2 rfl ?_
      refine x_imul hC dX11_isGangIn_37 ?_
      obtain ⟨h5, hr⟩ := it_s hr
      refine x_iald hC (kr_4_11 (kr_5_29 hi0)) h5 dX11_isGangIn_38 ?_
      refine x_iadd hC dX11_isGangIn_39 ?_
      refine x_iload_n hC dX11_isGangIn_40 rfl 1 rfl ?_
      refine x_icmp_ne hC 46 dX11_isGangIn_41 (by decide) (fun h6 => ?_) (fun h6 => ?_)
      · have hr := (ie_s hr).2 h6
        obtain ⟨x7, e8, hr⟩ := lz_s hr
        refine x_iinc hC [(2, .int x7), (0, .ref (G.2.1 i0)), (1, .int a1)] dX11_isGangIn_46 2 rfl (by rw [e8]; rfl) (Nat.le_of_ble_eq_true rfl) rfl ?_
        refine x_goto hC 2 dX11_isGangIn_49 (by decide) ?_
        exact x_sub [1, 2, 0] rfl (ih x7 hr)
      · have hr := (ie_s hr).1 h6
        refine x_iconst hC (1 : Int32) dX11_isGangIn_44 (by decide) ?_
        cases hr
        exact x_zret hC rfl (Or.inr rfl) dX11_isGangIn_45
set_option maxHeartbeats 4000000 in
set_option maxRecDepth 100000 in
theorem c_X11_isGangIn (l : Launch) (G : GG) (M : Mm) {i0 : Nat} (hi0 : (kd i0).1 = 5) (a1 : Int32) {r : Int32} (hr : f_X11_isGangIn i0 a1 M = some r) : Mo true l yX11_isGangIn (WS yX11_isGangIn cX11_isGangIn 3 (some .boolean)) (RM 0 0 0 0) 0 0 [.ref (G.2.1 i0), .int a1] G M (some (.int r)) M := by
  refine Mo.of (by decide +kernel) (Nat.le_of_ble_eq_true rfl) ?_
  intro p e s m args below meth c hC
  have hC : CX p s m args meth c cX11_isGangIn 3 RX11 (some .boolean) G := hC
  rw [f_X11_isGangIn] at hr
  show XJ p l e (RM 0 0 0 0) s m args below meth c G 3 _ 0 0 M 0 [(0, .ref (G.2.1 i0)), (1, .int a1)] []
  refine x_iconst hC (0 : Int32) dX11_isGangIn_0 (by decide) ?_
  refine x_istore_n hC [(2, .int (0 : Int32)), (0, .ref (G.2.1 i0)), (1, .int a1)] dX11_isGangIn_1 rfl (Nat.le_of_ble_eq_true rfl) rfl ?_
  exact x_sub [1, 2, 0] rfl (l_X11_isGangIn_L2 hC hi0 a1 M FU (0 : Int32) hr)

theorem dX11_drawn_0 : decode cX11_drawn 0 = .ok (.aload_n 0, 1) := by decide +kernel
theorem dX11_drawn_1 : decode cX11_drawn 1 = .ok (.iload_n 1, 1) := by decide +kernel
theorem dX11_drawn_2 : decode cX11_drawn 2 = .ok (.invokevirtual 388, 3) := by decide +kernel
theorem dX11_drawn_5 : decode cX11_drawn 5 = .ok (.ifCond .eq 6, 3) := by decide +kernel
theorem dX11_drawn_8 : decode cX11_drawn 8 = .ok (.bipush 71, 2) := by decide +kernel
theorem dX11_drawn_10 : decode cX11_drawn 10 = .ok (.ireturn, 1) := by decide +kernel
theorem dX11_drawn_11 : decode cX11_drawn 11 = .ok (.iload_n 1, 1) := by decide +kernel
theorem dX11_drawn_12 : decode cX11_drawn 12 = .ok (.ifCond .ne 6, 3) := by decide +kernel
theorem dX11_drawn_15 : decode cX11_drawn 15 = .ok (.bipush 66, 2) := by decide +kernel
theorem dX11_drawn_17 : decode cX11_drawn 17 = .ok (.ireturn, 1) := by decide +kernel
theorem dX11_drawn_18 : decode cX11_drawn 18 = .ok (.aload_n 0, 1) := by decide +kernel
theorem dX11_drawn_19 : decode cX11_drawn 19 = .ok (.getfield 53, 3) := by decide +kernel
theorem dX11_drawn_22 : decode cX11_drawn 22 = .ok (.getfield 241, 3) := by decide +kernel
theorem dX11_drawn_25 : decode cX11_drawn 25 = .ok (.iload_n 1, 1) := by decide +kernel
theorem dX11_drawn_26 : decode cX11_drawn 26 = .ok (.iaload, 1) := by decide +kernel
theorem dX11_drawn_27 : decode cX11_drawn 27 = .ok (.ifCond .le 6, 3) := by decide +kernel
theorem dX11_drawn_30 : decode cX11_drawn 30 = .ok (.bipush 83, 2) := by decide +kernel
theorem dX11_drawn_32 : decode cX11_drawn 32 = .ok (.ireturn, 1) := by decide +kernel
theorem dX11_drawn_33 : decode cX11_drawn 33 = .ok (.aload_n 0, 1) := by decide +kernel
theorem dX11_drawn_34 : decode cX11_drawn 34 = .ok (.getfield 53, 3) := by decide +kernel
theorem dX11_drawn_37 : decode cX11_drawn 37 = .ok (.getfield 66, 3) := by decide +kernel
theorem dX11_drawn_40 : decode cX11_drawn 40 = .ok (.iload_n 1, 1) := by decide +kernel
theorem dX11_drawn_41 : decode cX11_drawn 41 = .ok (.iaload, 1) := by decide +kernel
theorem dX11_drawn_42 : decode cX11_drawn 42 = .ok (.bipush 9, 2) := by decide +kernel
theorem dX11_drawn_44 : decode cX11_drawn 44 = .ok (.if_icmp .ne 6, 3) := by decide +kernel
theorem dX11_drawn_47 : decode cX11_drawn 47 = .ok (.bipush 126, 2) := by decide +kernel
theorem dX11_drawn_49 : decode cX11_drawn 49 = .ok (.ireturn, 1) := by decide +kernel
theorem dX11_drawn_50 : decode cX11_drawn 50 = .ok (.aload_n 0, 1) := by decide +kernel
theorem dX11_drawn_51 : decode cX11_drawn 51 = .ok (.getfield 53, 3) := by decide +kernel
theorem dX11_drawn_54 : decode cX11_drawn 54 = .ok (.getfield 63, 3) := by decide +kernel
theorem dX11_drawn_57 : decode cX11_drawn 57 = .ok (.iload_n 1, 1) := by decide +kernel
theorem dX11_drawn_58 : decode cX11_drawn 58 = .ok (.iaload, 1) := by decide +kernel
theorem dX11_drawn_59 : decode cX11_drawn 59 = .ok (.bipush 40, 2) := by decide +kernel
theorem dX11_drawn_61 : decode cX11_drawn 61 = .ok (.if_icmp .lt 8, 3) := by decide +kernel
theorem dX11_drawn_64 : decode cX11_drawn 64 = .ok (.bipush 35, 2) := by decide +kernel
theorem dX11_drawn_66 : decode cX11_drawn 66 = .ok (.goto 42, 3) := by decide +kernel
theorem dX11_drawn_69 : decode cX11_drawn 69 = .ok (.aload_n 0, 1) := by decide +kernel
theorem dX11_drawn_70 : decode cX11_drawn 70 = .ok (.getfield 53, 3) := by decide +kernel
theorem dX11_drawn_73 : decode cX11_drawn 73 = .ok (.getfield 63, 3) := by decide +kernel
theorem dX11_drawn_76 : decode cX11_drawn 76 = .ok (.iload_n 1, 1) := by decide +kernel
theorem dX11_drawn_77 : decode cX11_drawn 77 = .ok (.iaload, 1) := by decide +kernel
theorem dX11_drawn_78 : decode cX11_drawn 78 = .ok (.bipush 20, 2) := by decide +kernel
theorem dX11_drawn_80 : decode cX11_drawn 80 = .ok (.if_icmp .lt 8, 3) := by decide +kernel
theorem dX11_drawn_83 : decode cX11_drawn 83 = .ok (.bipush 43, 2) := by decide +kernel
theorem dX11_drawn_85 : decode cX11_drawn 85 = .ok (.goto 23, 3) := by decide +kernel
theorem dX11_drawn_88 : decode cX11_drawn 88 = .ok (.aload_n 0, 1) := by decide +kernel
theorem dX11_drawn_89 : decode cX11_drawn 89 = .ok (.getfield 53, 3) := by decide +kernel
theorem dX11_drawn_92 : decode cX11_drawn 92 = .ok (.getfield 63, 3) := by decide +kernel
theorem dX11_drawn_95 : decode cX11_drawn 95 = .ok (.iload_n 1, 1) := by decide +kernel
theorem dX11_drawn_96 : decode cX11_drawn 96 = .ok (.iaload, 1) := by decide +kernel
theorem dX11_drawn_97 : decode cX11_drawn 97 = .ok (.iconst 1, 1) := by decide +kernel
theorem dX11_drawn_98 : decode cX11_drawn 98 = .ok (.if_icmp .lt 8, 3) := by decide +kernel
theorem dX11_drawn_101 : decode cX11_drawn 101 = .ok (.bipush 45, 2) := by decide +kernel
theorem dX11_drawn_103 : decode cX11_drawn 103 = .ok (.goto 5, 3) := by decide +kernel
theorem dX11_drawn_106 : decode cX11_drawn 106 = .ok (.bipush 46, 2) := by decide +kernel
theorem dX11_drawn_108 : decode cX11_drawn 108 = .ok (.ireturn, 1) := by decide +kernel

def f_X11_drawn (i0 : Nat) (a1 : Int32) (M : Mm) : Option Int32 :=
  bd1 (f_X11_isGangIn i0 a1 M) fun x1 => if (x1 = 0) then (if (a1 = 0) then (some (66 : Int32)) else (if 0 ≤ a1.toInt ∧ a1.toInt < ((64 : Nat) : Int) then (if ((M ((i0 + 14) + 3) (ix a1)) ≤ 0) then (if 0 ≤ a1.toInt ∧ a1.toInt < ((64 : Nat) : Int) then (if ((M ((i0 + 14) + 2) (ix a1)) = (9 : Int32)) then (some (126 : Int32)) else (if 0 ≤ a1.toInt ∧ a1.toInt < ((64 : Nat) : Int) then (if ((M ((i0 + 14) + 1) (ix a1)) < (40 : Int32)) then (if 0 ≤ a1.toInt ∧ a1.toInt < ((64 : Nat) : Int) then (if ((M ((i0 + 14) + 1) (ix a1)) < (20 : Int32)) then (if 0 ≤ a1.toInt ∧ a1.toInt < ((64 : Nat) : Int) then (if ((M ((i0 + 14) + 1) (ix a1)) < (1 : Int32)) then (some (46 : Int32)) else (some (45 : Int32))) else none) else (some (43 : Int32))) else none) else (some (35 : Int32))) else none)) else none) else (some (83 : Int32))) else none)) else (some (71 : Int32))

set_option maxHeartbeats 4000000 in
set_option maxRecDepth 100000 in
theorem c_X11_drawn (l : Launch) (G : GG) (M : Mm) {i0 : Nat} (hi0 : (kd i0).1 = 5) (a1 : Int32) {r : Int32} (hr : f_X11_drawn i0 a1 M = some r) : Mo false l yX11_drawn (WS yX11_drawn cX11_drawn 2 (some .int)) (RM 1 0 0 22) 0 0 [.ref (G.2.1 i0), .int a1] G M (some (.int r)) M := by
  refine Mo.of (by decide +kernel) (Nat.le_of_ble_eq_true rfl) ?_
  intro p e s m args below meth c hC
  have hC : CX p s m args meth c cX11_drawn 2 RX11 (some .int) G := hC
  rw [f_X11_drawn] at hr
  show XJ p l e (RM 1 0 0 22) s m args below meth c G 2 _ 0 0 M 0 [(0, .ref (G.2.1 i0)), (1, .int a1)] []
  refine x_aload_n hC dX11_drawn_0 rfl 0 rfl ?_
  refine x_iload_n hC dX11_drawn_1 rfl 1 rfl ?_
  obtain ⟨x1, q2, hr⟩ := bd1_s hr
  refine x_callV (ci := 5) (q := (RX11, TX11, 32)) (As := [.int a1]) hC (c_X11_isGangIn l G M hi0 a1 q2) kc_yX11_isGangIn km_X11_388 ki_yX11_isGangIn kv_yX11_isGangIn kn_RX11 ky_yX11_isGangIn rfl ⟨rfl, rfl⟩ ⟨(Nat.le_of_ble_eq_true rfl), (Nat.le_of_ble_eq_true rfl)⟩ hi0 (by decide) rfl rfl (Nat.le_of_ble_eq_true rfl) ⟨(Nat.le_of_ble_eq_true rfl), (Nat.le_of_ble_eq_true rfl)⟩ dX11_drawn_2 (fun b3 => ?_)
  refine x_if_eq hC 11 dX11_drawn_5 (by decide) (fun h4 => ?_) (fun h4 => ?_)
  · have hr := (ie_s hr).1 h4
    refine x_iload_n hC dX11_drawn_11 rfl 1 rfl ?_
    refine x_if_ne hC 18 dX11_drawn_12 (by decide) (fun h5 => ?_) (fun h5 => ?_)
    · have hr := (ie_s hr).2 h5
      refine x_aload_n hC dX11_drawn_18 rfl 0 rfl ?_
      refine gf_X11_53 hC hi0 dX11_drawn_19 ?_
      refine gf_X11_241 hC (kr_5_29 hi0) dX11_drawn_22 ?_
      refine x_iload_n hC dX11_drawn_25 rfl 1 rfl ?_
      obtain ⟨h6, hr⟩ := it_s hr
      refine x_iald hC (kr_4_8 (kr_5_29 hi0)) h6 dX11_drawn_26 ?_
      refine x_if_le hC 33 dX11_drawn_27 (by decide) (fun h7 => ?_) (fun h7 => ?_)
      · have hr := (ie_s hr).1 h7
        refine x_aload_n hC dX11_drawn_33 rfl 0 rfl ?_
        refine gf_X11_53 hC hi0 dX11_drawn_34 ?_
        refine gf_X11_66 hC (kr_5_29 hi0) dX11_drawn_37 ?_
        refine x_iload_n hC dX11_drawn_40 rfl 1 rfl ?_
        obtain ⟨h8, hr⟩ := it_s hr
        refine x_iald hC (kr_4_7 (kr_5_29 hi0)) h8 dX11_drawn_41 ?_
        refine x_bipush hC (9 : Int32) dX11_drawn_42 (by decide) ?_
        refine x_icmp_ne hC 50 dX11_drawn_44 (by decide) (fun h9 => ?_) (fun h9 => ?_)
        · have hr := (ie_s hr).2 h9
          refine x_aload_n hC dX11_drawn_50 rfl 0 rfl ?_
          refine gf_X11_53 hC hi0 dX11_drawn_51 ?_
          refine gf_X11_63 hC (kr_5_29 hi0) dX11_drawn_54 ?_
          refine x_iload_n hC dX11_drawn_57 rfl 1 rfl ?_
          obtain ⟨h10, hr⟩ := it_s hr
          refine x_iald hC (kr_4_6 (kr_5_29 hi0)) h10 dX11_drawn_58 ?_
          refine x_bipush hC (40 : Int32) dX11_drawn_59 (by decide) ?_
          refine x_icmp_lt hC 69 dX11_drawn_61 (by decide) (fun h11 => ?_) (fun h11 => ?_)
          · have hr := (ie_s hr).1 h11
            refine x_aload_n hC dX11_drawn_69 rfl 0 rfl ?_
            refine gf_X11_53 hC hi0 dX11_drawn_70 ?_
            refine gf_X11_63 hC (kr_5_29 hi0) dX11_drawn_73 ?_
            refine x_iload_n hC dX11_drawn_76 rfl 1 rfl ?_
            obtain ⟨h12, hr⟩ := it_s hr
            refine x_iald hC (kr_4_6 (kr_5_29 hi0)) h12 dX11_drawn_77 ?_
            refine x_bipush hC (20 : Int32) dX11_drawn_78 (by decide) ?_
            refine x_icmp_lt hC 88 dX11_drawn_80 (by decide) (fun h13 => ?_) (fun h13 => ?_)
            · have hr := (ie_s hr).1 h13
              refine x_aload_n hC dX11_drawn_88 rfl 0 rfl ?_
              refine gf_X11_53 hC hi0 dX11_drawn_89 ?_
              refine gf_X11_63 hC (kr_5_29 hi0) dX11_drawn_92 ?_
              refine x_iload_n hC dX11_drawn_95 rfl 1 rfl ?_
              obtain ⟨h14, hr⟩ := it_s hr
              refine x_iald hC (kr_4_6 (kr_5_29 hi0)) h14 dX11_drawn_96 ?_
              refine x_iconst hC (1 : Int32) dX11_drawn_97 (by decide) ?_
              refine x_icmp_lt hC 106 dX11_drawn_98 (by decide) (fun h15 => ?_) (fun h15 => ?_)
              · have hr := (ie_s hr).1 h15
                refine x_bipush hC (46 : Int32) dX11_drawn_106 (by decide) ?_
                cases hr
                exact x_iret hC rfl dX11_drawn_108
              · have hr := (ie_s hr).2 h15
                refine x_bipush hC (45 : Int32) dX11_drawn_101 (by decide) ?_
                refine x_goto hC 108 dX11_drawn_103 (by decide) ?_
                cases hr
                exact x_iret hC rfl dX11_drawn_108
            · have hr := (ie_s hr).2 h13
              refine x_bipush hC (43 : Int32) dX11_drawn_83 (by decide) ?_
              refine x_goto hC 108 dX11_drawn_85 (by decide) ?_
              cases hr
              exact x_iret hC rfl dX11_drawn_108
          · have hr := (ie_s hr).2 h11
            refine x_bipush hC (35 : Int32) dX11_drawn_64 (by decide) ?_
            refine x_goto hC 108 dX11_drawn_66 (by decide) ?_
            cases hr
            exact x_iret hC rfl dX11_drawn_108
        · have hr := (ie_s hr).1 h9
          refine x_bipush hC (126 : Int32) dX11_drawn_47 (by decide) ?_
          cases hr
          exact x_iret hC rfl dX11_drawn_49
      · have hr := (ie_s hr).2 h7
        refine x_bipush hC (83 : Int32) dX11_drawn_30 (by decide) ?_
        cases hr
        exact x_iret hC rfl dX11_drawn_32
    · have hr := (ie_s hr).1 h5
      refine x_bipush hC (66 : Int32) dX11_drawn_15 (by decide) ?_
      cases hr
      exact x_iret hC rfl dX11_drawn_17
  · have hr := (ie_s hr).2 h4
    refine x_bipush hC (71 : Int32) dX11_drawn_8 (by decide) ?_
    cases hr
    exact x_iret hC rfl dX11_drawn_10

theorem dX11_draw_0 : decode cX11_draw 0 = .ok (.aload_n 0, 1) := by decide +kernel
theorem dX11_draw_1 : decode cX11_draw 1 = .ok (.iconst 0, 1) := by decide +kernel
theorem dX11_draw_2 : decode cX11_draw 2 = .ok (.putfield 69, 3) := by decide +kernel
theorem dX11_draw_5 : decode cX11_draw 5 = .ok (.aload_n 0, 1) := by decide +kernel
theorem dX11_draw_6 : decode cX11_draw 6 = .ok (.iconst 0, 1) := by decide +kernel
theorem dX11_draw_7 : decode cX11_draw 7 = .ok (.putfield 360, 3) := by decide +kernel
theorem dX11_draw_10 : decode cX11_draw 10 = .ok (.iconst 0, 1) := by decide +kernel
theorem dX11_draw_11 : decode cX11_draw 11 = .ok (.istore_n 1, 1) := by decide +kernel
theorem dX11_draw_12 : decode cX11_draw 12 = .ok (.iload_n 1, 1) := by decide +kernel
theorem dX11_draw_13 : decode cX11_draw 13 = .ok (.bipush 64, 2) := by decide +kernel
theorem dX11_draw_15 : decode cX11_draw 15 = .ok (.if_icmp .ge 66, 3) := by decide +kernel
theorem dX11_draw_18 : decode cX11_draw 18 = .ok (.aload_n 0, 1) := by decide +kernel
theorem dX11_draw_19 : decode cX11_draw 19 = .ok (.getfield 17, 3) := by decide +kernel
theorem dX11_draw_22 : decode cX11_draw 22 = .ok (.aload_n 0, 1) := by decide +kernel
theorem dX11_draw_23 : decode cX11_draw 23 = .ok (.getfield 360, 3) := by decide +kernel
theorem dX11_draw_26 : decode cX11_draw 26 = .ok (.aload_n 0, 1) := by decide +kernel
theorem dX11_draw_27 : decode cX11_draw 27 = .ok (.iload_n 1, 1) := by decide +kernel
theorem dX11_draw_28 : decode cX11_draw 28 = .ok (.invokevirtual 391, 3) := by decide +kernel
theorem dX11_draw_31 : decode cX11_draw 31 = .ok (.iastore, 1) := by decide +kernel
theorem dX11_draw_32 : decode cX11_draw 32 = .ok (.aload_n 0, 1) := by decide +kernel
theorem dX11_draw_33 : decode cX11_draw 33 = .ok (.dup, 1) := by decide +kernel
theorem dX11_draw_34 : decode cX11_draw 34 = .ok (.getfield 360, 3) := by decide +kernel
theorem dX11_draw_37 : decode cX11_draw 37 = .ok (.iconst 1, 1) := by decide +kernel
theorem dX11_draw_38 : decode cX11_draw 38 = .ok (.iadd, 1) := by decide +kernel
theorem dX11_draw_39 : decode cX11_draw 39 = .ok (.putfield 360, 3) := by decide +kernel
theorem dX11_draw_42 : decode cX11_draw 42 = .ok (.iload_n 1, 1) := by decide +kernel
theorem dX11_draw_43 : decode cX11_draw 43 = .ok (.bipush 8, 2) := by decide +kernel
theorem dX11_draw_45 : decode cX11_draw 45 = .ok (.irem, 1) := by decide +kernel
theorem dX11_draw_46 : decode cX11_draw 46 = .ok (.bipush 7, 2) := by decide +kernel
theorem dX11_draw_48 : decode cX11_draw 48 = .ok (.if_icmp .ge 6, 3) := by decide +kernel
theorem dX11_draw_51 : decode cX11_draw 51 = .ok (.goto 24, 3) := by decide +kernel
theorem dX11_draw_54 : decode cX11_draw 54 = .ok (.aload_n 0, 1) := by decide +kernel
theorem dX11_draw_55 : decode cX11_draw 55 = .ok (.getfield 17, 3) := by decide +kernel
theorem dX11_draw_58 : decode cX11_draw 58 = .ok (.aload_n 0, 1) := by decide +kernel
theorem dX11_draw_59 : decode cX11_draw 59 = .ok (.getfield 360, 3) := by decide +kernel
theorem dX11_draw_62 : decode cX11_draw 62 = .ok (.bipush 10, 2) := by decide +kernel
theorem dX11_draw_64 : decode cX11_draw 64 = .ok (.iastore, 1) := by decide +kernel
theorem dX11_draw_65 : decode cX11_draw 65 = .ok (.aload_n 0, 1) := by decide +kernel
theorem dX11_draw_66 : decode cX11_draw 66 = .ok (.dup, 1) := by decide +kernel
theorem dX11_draw_67 : decode cX11_draw 67 = .ok (.getfield 360, 3) := by decide +kernel
theorem dX11_draw_70 : decode cX11_draw 70 = .ok (.iconst 1, 1) := by decide +kernel
theorem dX11_draw_71 : decode cX11_draw 71 = .ok (.iadd, 1) := by decide +kernel
theorem dX11_draw_72 : decode cX11_draw 72 = .ok (.putfield 360, 3) := by decide +kernel
theorem dX11_draw_75 : decode cX11_draw 75 = .ok (.iinc 1 1, 3) := by decide +kernel
theorem dX11_draw_78 : decode cX11_draw 78 = .ok (.goto (-66), 3) := by decide +kernel
theorem dX11_draw_81 : decode cX11_draw 81 = .ok (.aload_n 0, 1) := by decide +kernel
theorem dX11_draw_82 : decode cX11_draw 82 = .ok (.getfield 360, 3) := by decide +kernel
theorem dX11_draw_85 : decode cX11_draw 85 = .ok (.ireturn, 1) := by decide +kernel
def f_X11_draw_L12 (i0 : Nat) : Nat → Int32 → Mm → Option (Mm)
  | 0, _, _ => none
  | n + 1, v1, M =>
    if ((64 : Int32) ≤ v1) then (some (M)) else (bd1 (f_X11_drawn i0 v1 M) fun x6 => if 0 ≤ (M i0 5).toInt ∧ (M i0 5).toInt < ((72 : Nat) : Int) then (lz (wr M (i0 + 2) (ix (M i0 5)) x6) fun M10 => lz (wr M10 i0 5 ((M10 i0 5) + (1 : Int32))) fun M12 => bd1 (if ((7 : Int32) ≤ (v1 - v1 / (8 : Int32) * (8 : Int32))) then (if 0 ≤ (M12 i0 5).toInt ∧ (M12 i0 5).toInt < ((72 : Nat) : Int) then (lz (wr M12 (i0 + 2) (ix (M12 i0 5)) (10 : Int32)) fun M17 => lz (wr M17 i0 5 ((M17 i0 5) + (1 : Int32))) fun M19 => some (M19)) else none) else (some (M12))) fun M21 => lz (v1 + (1 : Int32)) fun x22 => f_X11_draw_L12 i0 n x22 M21) else none)
def f_X11_draw (i0 : Nat) (M : Mm) : Option (Int32 × Mm) :=
  lz (wr M i0 0 (0 : Int32)) fun M1 => lz (wr M1 i0 5 (0 : Int32)) fun M3 => bd1 (f_X11_draw_L12 i0 FU (0 : Int32) M3) fun M25 => some ((M25 i0 5), M25)
set_option maxHeartbeats 4000000 in
set_option maxRecDepth 100000 in
theorem l_X11_draw_L12 {p : Program} {e : Env} {s : State} {m : MethodId} {args : Array Value} {below : List Frame} {meth : Method} {c : Code} {l : Launch} {G : GG} {Q : State → Prop} (hC : CX p s m args meth c cX11_draw 2 RX11 (some .int) G) {i0 : Nat} (hi0 : (kd i0).1 = 5) : ∀ (n : Nat) (v1 : Int32) (M : Mm) {M2 : Mm} (hr : f_X11_draw_L12 i0 n v1 M = some (M2)) (K : XJ p l e (RM 2 0 0 43) s m args below meth c G 2 Q 0 0 M2 81 [(0, .ref (G.2.1 i0))] []), XJ p l e (RM 2 0 0 43) s m args below meth c G 2 Q 0 0 M 12 [(0, .ref (G.2.1 i0)), (1, .int v1)] [] := by
  intro n
  induction n with
  | zero => intro v1 M M2 hr K; rw [f_X11_draw_L12] at hr; cases hr
  | succ n ih =>
    intro v1 M M2 hr K
    rw [f_X11_draw_L12] at hr
    refine x_iload_n hC dX11_draw_12 rfl 1 rfl ?_
    refine x_bipush hC (64 : Int32) dX11_draw_13 (by decide) ?_
    refine x_icmp_ge hC 81 dX11_draw_15 (by decide) (fun h5 => ?_) (fun h5 => ?_)
    · have hr := (ie_s hr).1 h5
      cases hr
      exact x_sub [0] rfl K
    · have hr := (ie_s hr).2 h5
      refine x_aload_n hC dX11_draw_18 rfl 0 rfl ?_
      refine gf_X11_17 hC hi0 dX11_draw_19 ?_
      refine x_aload_n hC dX11_draw_22 rfl 0 rfl ?_
      refine gf_X11_360 hC hi0 dX11_draw_23 ?_
      refine x_aload_n hC dX11_draw_26 rfl 0 rfl ?_
      refine x_iload_n hC dX11_draw_27 rfl 1 rfl ?_
      obtain ⟨x6, q7, hr⟩ := bd1_s hr
      refine x_callV (ci := 5) (q := (RX11, TX11, 32)) (As := [.int v1]) hC (c_X11_drawn l G M hi0 v1 q7) kc_yX11_drawn km_X11_391 ki_yX11_drawn kv_yX11_drawn kn_RX11 ky_yX11_drawn rfl ⟨rfl, rfl⟩ ⟨(Nat.le_of_ble_eq_true rfl), (Nat.le_of_ble_eq_true rfl)⟩ hi0 (by decide) rfl rfl (Nat.le_of_ble_eq_true rfl) ⟨(Nat.le_of_ble_eq_true rfl), (Nat.le_of_ble_eq_true rfl)⟩ dX11_draw_28 (fun b8 => ?_)
      obtain ⟨h9, hr⟩ := it_s hr
      obtain ⟨M10, e11, hr⟩ := lz_s hr
      refine x_iast hC (kr_5_4 hi0) h9 e11 dX11_draw_31 ?_
      refine x_aload_n hC dX11_draw_32 rfl 0 rfl ?_
      refine x_dup hC dX11_draw_33 rfl ?_
      refine gf_X11_360 hC hi0 dX11_draw_34 ?_
      refine x_iconst hC (1 : Int32) dX11_draw_37 (by decide) ?_
      refine x_iadd hC dX11_draw_38 ?_
      obtain ⟨M12, e13, hr⟩ := lz_s hr
      refine pf_X11_360 hC hi0 e13 dX11_draw_39 ?_
      refine x_iload_n hC dX11_draw_42 rfl 1 rfl ?_
      refine x_bipush hC (8 : Int32) dX11_draw_43 (by decide) ?_
      refine x_irem hC dX11_draw_45 (by decide) ?_
      refine x_bipush hC (7 : Int32) dX11_draw_46 (by decide) ?_
      obtain ⟨M21, q14, hr⟩ := bd1_s hr
      refine x_join (M' := M21) (pc' := 75) (lv' := [(0, .ref (G.2.1 i0)), (1, .int v1)]) (st' := []) ?_ ?_
      · obtain ⟨x22, e23, hr⟩ := lz_s hr
        refine x_iinc hC [(1, .int x22), (0, .ref (G.2.1 i0))] dX11_draw_75 1 rfl (by rw [e23]; rfl) (Nat.le_of_ble_eq_true rfl) rfl ?_
        refine x_goto hC 12 dX11_draw_78 (by decide) ?_
        exact x_sub [1, 0] rfl (ih x22 M21 hr K)
      · intro kj
        refine x_icmp_ge hC 54 dX11_draw_48 (by decide) (fun h15 => ?_) (fun h15 => ?_)
        · have q14 := (ie_s q14).1 h15
          refine x_aload_n hC dX11_draw_54 rfl 0 rfl ?_
          refine gf_X11_17 hC hi0 dX11_draw_55 ?_
          refine x_aload_n hC dX11_draw_58 rfl 0 rfl ?_
          refine gf_X11_360 hC hi0 dX11_draw_59 ?_
          refine x_bipush hC (10 : Int32) dX11_draw_62 (by decide) ?_
          obtain ⟨h16, q14⟩ := it_s q14
          obtain ⟨M17, e18, q14⟩ := lz_s q14
          refine x_iast hC (kr_5_4 hi0) h16 e18 dX11_draw_64 ?_
          refine x_aload_n hC dX11_draw_65 rfl 0 rfl ?_
          refine x_dup hC dX11_draw_66 rfl ?_
          refine gf_X11_360 hC hi0 dX11_draw_67 ?_
          refine x_iconst hC (1 : Int32) dX11_draw_70 (by decide) ?_
          refine x_iadd hC dX11_draw_71 ?_
          obtain ⟨M19, e20, q14⟩ := lz_s q14
          refine pf_X11_360 hC hi0 e20 dX11_draw_72 ?_
          cases q14
          exact x_sub [0, 1] rfl kj
        · have q14 := (ie_s q14).2 h15
          refine x_goto hC 75 dX11_draw_51 (by decide) ?_
          cases q14
          exact x_sub [0, 1] rfl kj
set_option maxHeartbeats 4000000 in
set_option maxRecDepth 100000 in
theorem c_X11_draw (l : Launch) (G : GG) (M : Mm) {i0 : Nat} (hi0 : (kd i0).1 = 5) {r : Int32} {M9 : Mm} (hr : f_X11_draw i0 M = some (r, M9)) : Mo false l yX11_draw (WS yX11_draw cX11_draw 2 (some .int)) (RM 2 0 0 43) 0 0 [.ref (G.2.1 i0)] G M (some (.int r)) M9 := by
  refine Mo.of (by decide +kernel) (Nat.le_of_ble_eq_true rfl) ?_
  intro p e s m args below meth c hC
  have hC : CX p s m args meth c cX11_draw 2 RX11 (some .int) G := hC
  rw [f_X11_draw] at hr
  show XJ p l e (RM 2 0 0 43) s m args below meth c G 2 _ 0 0 M 0 [(0, .ref (G.2.1 i0))] []
  refine x_aload_n hC dX11_draw_0 rfl 0 rfl ?_
  refine x_iconst hC (0 : Int32) dX11_draw_1 (by decide) ?_
  obtain ⟨M1, e2, hr⟩ := lz_s hr
  refine pf_X11_69 hC hi0 e2 dX11_draw_2 ?_
  refine x_aload_n hC dX11_draw_5 rfl 0 rfl ?_
  refine x_iconst hC (0 : Int32) dX11_draw_6 (by decide) ?_
  obtain ⟨M3, e4, hr⟩ := lz_s hr
  refine pf_X11_360 hC hi0 e4 dX11_draw_7 ?_
  refine x_iconst hC (0 : Int32) dX11_draw_10 (by decide) ?_
  refine x_istore_n hC [(1, .int (0 : Int32)), (0, .ref (G.2.1 i0))] dX11_draw_11 rfl (Nat.le_of_ble_eq_true rfl) rfl ?_
  obtain ⟨M25, q24, hr⟩ := bd1_s hr
  refine x_sub [1, 0] rfl (l_X11_draw_L12 hC hi0 FU  (0 : Int32) M3 q24 ?_)
  refine x_aload_n hC dX11_draw_81 rfl 0 rfl ?_
  refine gf_X11_360 hC hi0 dX11_draw_82 ?_
  cases hr
  exact x_iret hC rfl dX11_draw_85

theorem dX11_byteAt_0 : decode cX11_byteAt 0 = .ok (.aload_n 0, 1) := by decide +kernel
theorem dX11_byteAt_1 : decode cX11_byteAt 1 = .ok (.iconst 0, 1) := by decide +kernel
theorem dX11_byteAt_2 : decode cX11_byteAt 2 = .ok (.putfield 69, 3) := by decide +kernel
theorem dX11_byteAt_5 : decode cX11_byteAt 5 = .ok (.iload_n 1, 1) := by decide +kernel
theorem dX11_byteAt_6 : decode cX11_byteAt 6 = .ok (.iconst 0, 1) := by decide +kernel
theorem dX11_byteAt_7 : decode cX11_byteAt 7 = .ok (.aload_n 0, 1) := by decide +kernel
theorem dX11_byteAt_8 : decode cX11_byteAt 8 = .ok (.getfield 360, 3) := by decide +kernel
theorem dX11_byteAt_11 : decode cX11_byteAt 11 = .ok (.iconst 1, 1) := by decide +kernel
theorem dX11_byteAt_12 : decode cX11_byteAt 12 = .ok (.isub, 1) := by decide +kernel
theorem dX11_byteAt_13 : decode cX11_byteAt 13 = .ok (.invokestatic 72, 3) := by decide +kernel
theorem dX11_byteAt_16 : decode cX11_byteAt 16 = .ok (.ifCond .eq 12, 3) := by decide +kernel
theorem dX11_byteAt_19 : decode cX11_byteAt 19 = .ok (.aload_n 0, 1) := by decide +kernel
theorem dX11_byteAt_20 : decode cX11_byteAt 20 = .ok (.getfield 17, 3) := by decide +kernel
theorem dX11_byteAt_23 : decode cX11_byteAt 23 = .ok (.iload_n 1, 1) := by decide +kernel
theorem dX11_byteAt_24 : decode cX11_byteAt 24 = .ok (.iaload, 1) := by decide +kernel
theorem dX11_byteAt_25 : decode cX11_byteAt 25 = .ok (.goto 8, 3) := by decide +kernel
theorem dX11_byteAt_28 : decode cX11_byteAt 28 = .ok (.aload_n 0, 1) := by decide +kernel
theorem dX11_byteAt_29 : decode cX11_byteAt 29 = .ok (.iconst 1, 1) := by decide +kernel
theorem dX11_byteAt_30 : decode cX11_byteAt 30 = .ok (.invokevirtual 221, 3) := by decide +kernel
theorem dX11_byteAt_33 : decode cX11_byteAt 33 = .ok (.ireturn, 1) := by decide +kernel

def f_X11_byteAt (i0 : Nat) (a1 : Int32) (M : Mm) : Option (Int32 × Mm) :=
  lz (wr M i0 0 (0 : Int32)) fun M1 => lz (f_X11_isIn a1 (0 : Int32) ((M1 i0 5) - (1 : Int32))) fun x3 => if (x3 = 0) then (bd2 (f_X11_no i0 (1 : Int32) M1) fun x7 M8 => some (x7, M8)) else (if 0 ≤ a1.toInt ∧ a1.toInt < ((72 : Nat) : Int) then (some ((M1 (i0 + 2) (ix a1)), M1)) else none)

set_option maxHeartbeats 4000000 in
set_option maxRecDepth 100000 in
theorem c_X11_byteAt (l : Launch) (G : GG) (M : Mm) {i0 : Nat} (hi0 : (kd i0).1 = 5) (a1 : Int32) {r : Int32} {M9 : Mm} (hr : f_X11_byteAt i0 a1 M = some (r, M9)) : Mo false l yX11_byteAt (WS yX11_byteAt cX11_byteAt 2 (some .int)) (RM 1 0 0 22) 0 0 [.ref (G.2.1 i0), .int a1] G M (some (.int r)) M9 := by
  refine Mo.of (by decide +kernel) (Nat.le_of_ble_eq_true rfl) ?_
  intro p e s m args below meth c hC
  have hC : CX p s m args meth c cX11_byteAt 2 RX11 (some .int) G := hC
  rw [f_X11_byteAt] at hr
  show XJ p l e (RM 1 0 0 22) s m args below meth c G 2 _ 0 0 M 0 [(0, .ref (G.2.1 i0)), (1, .int a1)] []
  refine x_aload_n hC dX11_byteAt_0 rfl 0 rfl ?_
  refine x_iconst hC (0 : Int32) dX11_byteAt_1 (by decide) ?_
  obtain ⟨M1, e2, hr⟩ := lz_s hr
  refine pf_X11_69 hC hi0 e2 dX11_byteAt_2 ?_
  refine x_iload_n hC dX11_byteAt_5 rfl 1 rfl ?_
  refine x_iconst hC (0 : Int32) dX11_byteAt_6 (by decide) ?_
  refine x_aload_n hC dX11_byteAt_7 rfl 0 rfl ?_
  refine gf_X11_360 hC hi0 dX11_byteAt_8 ?_
  refine x_iconst hC (1 : Int32) dX11_byteAt_11 (by decide) ?_
  refine x_isub hC dX11_byteAt_12 ?_
  obtain ⟨x3, e4, hr⟩ := lz_s hr
  refine x_callS (As := [.int a1, .int (0 : Int32), .int ((M1 i0 5) - (1 : Int32))]) hC (c_X11_isIn l G M1 a1 (0 : Int32) ((M1 i0 5) - (1 : Int32)) e4.symm) kc_yX11_isIn km_X11_72 kt_yX11_isIn kn_RX11 ky_yX11_isIn rfl ⟨rfl, rfl⟩ ⟨(Nat.le_of_ble_eq_true rfl), (Nat.le_of_ble_eq_true rfl)⟩ rfl (Nat.le_of_ble_eq_true rfl) ⟨(Nat.le_of_ble_eq_true rfl), (Nat.le_of_ble_eq_true rfl)⟩ dX11_byteAt_13 (fun b5 => ?_)
  refine x_if_eq hC 28 dX11_byteAt_16 (by decide) (fun h6 => ?_) (fun h6 => ?_)
  · have hr := (ie_s hr).1 h6
    refine x_aload_n hC dX11_byteAt_28 rfl 0 rfl ?_
    refine x_iconst hC (1 : Int32) dX11_byteAt_29 (by decide) ?_
    obtain ⟨x7, M8, q9, hr⟩ := bd2_s hr
    refine x_callV (ci := 5) (q := (RX11, TX11, 32)) (As := [.int (1 : Int32)]) hC (c_X11_no l G M1 hi0 (1 : Int32) q9) kc_yX11_no km_X11_221 ki_yX11_no kv_yX11_no kn_RX11 ky_yX11_no rfl ⟨rfl, rfl⟩ ⟨(Nat.le_of_ble_eq_true rfl), (Nat.le_of_ble_eq_true rfl)⟩ hi0 (by decide) rfl rfl (Nat.le_of_ble_eq_true rfl) ⟨(Nat.le_of_ble_eq_true rfl), (Nat.le_of_ble_eq_true rfl)⟩ dX11_byteAt_30 (fun b10 => ?_)
    cases hr
    exact x_iret hC rfl dX11_byteAt_33
  · have hr := (ie_s hr).2 h6
    refine x_aload_n hC dX11_byteAt_19 rfl 0 rfl ?_
    refine gf_X11_17 hC hi0 dX11_byteAt_20 ?_
    refine x_iload_n hC dX11_byteAt_23 rfl 1 rfl ?_
    obtain ⟨h11, hr⟩ := it_s hr
    refine x_iald hC (kr_5_4 hi0) h11 dX11_byteAt_24 ?_
    refine x_goto hC 33 dX11_byteAt_25 (by decide) ?_
    cases hr
    exact x_iret hC rfl dX11_byteAt_33

theorem dX11_share_0 : decode cX11_share 0 = .ok (.aload_n 0, 1) := by decide +kernel
theorem dX11_share_1 : decode cX11_share 1 = .ok (.iconst 0, 1) := by decide +kernel
theorem dX11_share_2 : decode cX11_share 2 = .ok (.putfield 69, 3) := by decide +kernel
theorem dX11_share_5 : decode cX11_share 5 = .ok (.aload_n 0, 1) := by decide +kernel
theorem dX11_share_6 : decode cX11_share 6 = .ok (.getfield 53, 3) := by decide +kernel
theorem dX11_share_9 : decode cX11_share 9 = .ok (.getfield 326, 3) := by decide +kernel
theorem dX11_share_12 : decode cX11_share 12 = .ok (.ifCond .ne 7, 3) := by decide +kernel
theorem dX11_share_15 : decode cX11_share 15 = .ok (.dconst 0, 1) := by decide +kernel
theorem dX11_share_16 : decode cX11_share 16 = .ok (.goto 20, 3) := by decide +kernel
theorem dX11_share_19 : decode cX11_share 19 = .ok (.aload_n 0, 1) := by decide +kernel
theorem dX11_share_20 : decode cX11_share 20 = .ok (.getfield 53, 3) := by decide +kernel
theorem dX11_share_23 : decode cX11_share 23 = .ok (.getfield 253, 3) := by decide +kernel
theorem dX11_share_26 : decode cX11_share 26 = .ok (.i2d, 1) := by decide +kernel
theorem dX11_share_27 : decode cX11_share 27 = .ok (.aload_n 0, 1) := by decide +kernel
theorem dX11_share_28 : decode cX11_share 28 = .ok (.getfield 53, 3) := by decide +kernel
theorem dX11_share_31 : decode cX11_share 31 = .ok (.getfield 326, 3) := by decide +kernel
theorem dX11_share_34 : decode cX11_share 34 = .ok (.i2d, 1) := by decide +kernel
theorem dX11_share_35 : decode cX11_share 35 = .ok (.ddiv, 1) := by decide +kernel
theorem dX11_share_36 : decode cX11_share 36 = .ok (.dreturn, 1) := by decide +kernel

def f_X11_share (i0 : Nat) (M : Mm) : Option (UInt64 × Mm) :=
  lz (wr M i0 0 (0 : Int32)) fun M1 => if ((M1 (i0 + 14) 5) = 0) then (some (FP.dconst0, M1)) else (if FP.ddiv (FP.i2d (M1 (i0 + 14) 2)) (FP.i2d (M1 (i0 + 14) 5)) &&& 0x7fffffffffffffff ≤ 0x7ff0000000000000 then (some ((FP.ddiv (FP.i2d (M1 (i0 + 14) 2)) (FP.i2d (M1 (i0 + 14) 5))), M1)) else none)

set_option maxHeartbeats 4000000 in
set_option maxRecDepth 100000 in
theorem c_X11_share (l : Launch) (G : GG) (M : Mm) {i0 : Nat} (hi0 : (kd i0).1 = 5) {r : UInt64} {M9 : Mm} (hr : f_X11_share i0 M = some (r, M9)) : Mo false l yX11_share (WS yX11_share cX11_share 1 (some .double)) (RM 0 0 0 0) 0 0 [.ref (G.2.1 i0)] G M (some (.double r)) M9 := by
  refine Mo.of (by decide +kernel) (Nat.le_of_ble_eq_true rfl) ?_
  intro p e s m args below meth c hC
  have hC : CX p s m args meth c cX11_share 1 RX11 (some .double) G := hC
  rw [f_X11_share] at hr
  show XJ p l e (RM 0 0 0 0) s m args below meth c G 1 _ 0 0 M 0 [(0, .ref (G.2.1 i0))] []
  refine x_aload_n hC dX11_share_0 rfl 0 rfl ?_
  refine x_iconst hC (0 : Int32) dX11_share_1 (by decide) ?_
  obtain ⟨M1, e2, hr⟩ := lz_s hr
  refine pf_X11_69 hC hi0 e2 dX11_share_2 ?_
  refine x_aload_n hC dX11_share_5 rfl 0 rfl ?_
  refine gf_X11_53 hC hi0 dX11_share_6 ?_
  refine gf_X11_326 hC (kr_5_29 hi0) dX11_share_9 ?_
  refine x_if_ne hC 19 dX11_share_12 (by decide) (fun h3 => ?_) (fun h3 => ?_)
  · have hr := (ie_s hr).2 h3
    refine x_aload_n hC dX11_share_19 rfl 0 rfl ?_
    refine gf_X11_53 hC hi0 dX11_share_20 ?_
    refine gf_X11_253 hC (kr_5_29 hi0) dX11_share_23 ?_
    refine x_i2d hC dX11_share_26 ?_
    refine x_aload_n hC dX11_share_27 rfl 0 rfl ?_
    refine gf_X11_53 hC hi0 dX11_share_28 ?_
    refine gf_X11_326 hC (kr_5_29 hi0) dX11_share_31 ?_
    refine x_i2d hC dX11_share_34 ?_
    obtain ⟨h4, hr⟩ := it_s hr
    refine x_ddiv hC h4 dX11_share_35 ?_
    cases hr
    exact x_dret hC rfl dX11_share_36
  · have hr := (ie_s hr).1 h3
    refine x_dconst0 hC dX11_share_15 ?_
    refine x_goto hC 36 dX11_share_16 (by decide) ?_
    cases hr
    exact x_dret hC rfl dX11_share_36

theorem dX11_digest_0 : decode cX11_digest 0 = .ok (.aload_n 0, 1) := by decide +kernel
theorem dX11_digest_1 : decode cX11_digest 1 = .ok (.iconst 0, 1) := by decide +kernel
theorem dX11_digest_2 : decode cX11_digest 2 = .ok (.putfield 69, 3) := by decide +kernel
theorem dX11_digest_5 : decode cX11_digest 5 = .ok (.ldc2_w 394, 3) := by decide +kernel
theorem dX11_digest_8 : decode cX11_digest 8 = .ok (.lstore_n 1, 1) := by decide +kernel
theorem dX11_digest_9 : decode cX11_digest 9 = .ok (.iconst 0, 1) := by decide +kernel
theorem dX11_digest_10 : decode cX11_digest 10 = .ok (.istore_n 3, 1) := by decide +kernel
theorem dX11_digest_11 : decode cX11_digest 11 = .ok (.iload_n 3, 1) := by decide +kernel
theorem dX11_digest_12 : decode cX11_digest 12 = .ok (.bipush 13, 2) := by decide +kernel
theorem dX11_digest_14 : decode cX11_digest 14 = .ok (.if_icmp .ge 22, 3) := by decide +kernel
theorem dX11_digest_17 : decode cX11_digest 17 = .ok (.lload_n 1, 1) := by decide +kernel
theorem dX11_digest_18 : decode cX11_digest 18 = .ok (.ldc2_w 396, 3) := by decide +kernel
theorem dX11_digest_21 : decode cX11_digest 21 = .ok (.lmul, 1) := by decide +kernel
theorem dX11_digest_22 : decode cX11_digest 22 = .ok (.aload_n 0, 1) := by decide +kernel
theorem dX11_digest_23 : decode cX11_digest 23 = .ok (.iload_n 3, 1) := by decide +kernel
theorem dX11_digest_24 : decode cX11_digest 24 = .ok (.invokevirtual 370, 3) := by decide +kernel
theorem dX11_digest_27 : decode cX11_digest 27 = .ok (.i2l, 1) := by decide +kernel
theorem dX11_digest_28 : decode cX11_digest 28 = .ok (.ladd, 1) := by decide +kernel
theorem dX11_digest_29 : decode cX11_digest 29 = .ok (.lstore_n 1, 1) := by decide +kernel
theorem dX11_digest_30 : decode cX11_digest 30 = .ok (.iinc 3 1, 3) := by decide +kernel
theorem dX11_digest_33 : decode cX11_digest 33 = .ok (.goto (-22), 3) := by decide +kernel
theorem dX11_digest_36 : decode cX11_digest 36 = .ok (.iconst 0, 1) := by decide +kernel
theorem dX11_digest_37 : decode cX11_digest 37 = .ok (.istore_n 3, 1) := by decide +kernel
theorem dX11_digest_38 : decode cX11_digest 38 = .ok (.iload_n 3, 1) := by decide +kernel
theorem dX11_digest_39 : decode cX11_digest 39 = .ok (.bipush 12, 2) := by decide +kernel
theorem dX11_digest_41 : decode cX11_digest 41 = .ok (.if_icmp .ge 34, 3) := by decide +kernel
theorem dX11_digest_44 : decode cX11_digest 44 = .ok (.lload_n 1, 1) := by decide +kernel
theorem dX11_digest_45 : decode cX11_digest 45 = .ok (.ldc2_w 396, 3) := by decide +kernel
theorem dX11_digest_48 : decode cX11_digest 48 = .ok (.lmul, 1) := by decide +kernel
theorem dX11_digest_49 : decode cX11_digest 49 = .ok (.bipush 10, 2) := by decide +kernel
theorem dX11_digest_51 : decode cX11_digest 51 = .ok (.aload_n 0, 1) := by decide +kernel
theorem dX11_digest_52 : decode cX11_digest 52 = .ok (.getfield 20, 3) := by decide +kernel
theorem dX11_digest_55 : decode cX11_digest 55 = .ok (.iload_n 3, 1) := by decide +kernel
theorem dX11_digest_56 : decode cX11_digest 56 = .ok (.iaload, 1) := by decide +kernel
theorem dX11_digest_57 : decode cX11_digest 57 = .ok (.imul, 1) := by decide +kernel
theorem dX11_digest_58 : decode cX11_digest 58 = .ok (.i2l, 1) := by decide +kernel
theorem dX11_digest_59 : decode cX11_digest 59 = .ok (.ladd, 1) := by decide +kernel
theorem dX11_digest_60 : decode cX11_digest 60 = .ok (.aload_n 0, 1) := by decide +kernel
theorem dX11_digest_61 : decode cX11_digest 61 = .ok (.getfield 23, 3) := by decide +kernel
theorem dX11_digest_64 : decode cX11_digest 64 = .ok (.iload_n 3, 1) := by decide +kernel
theorem dX11_digest_65 : decode cX11_digest 65 = .ok (.iaload, 1) := by decide +kernel
theorem dX11_digest_66 : decode cX11_digest 66 = .ok (.i2l, 1) := by decide +kernel
theorem dX11_digest_67 : decode cX11_digest 67 = .ok (.ladd, 1) := by decide +kernel
theorem dX11_digest_68 : decode cX11_digest 68 = .ok (.lstore_n 1, 1) := by decide +kernel
theorem dX11_digest_69 : decode cX11_digest 69 = .ok (.iinc 3 1, 3) := by decide +kernel
theorem dX11_digest_72 : decode cX11_digest 72 = .ok (.goto (-34), 3) := by decide +kernel
theorem dX11_digest_75 : decode cX11_digest 75 = .ok (.iconst 0, 1) := by decide +kernel
theorem dX11_digest_76 : decode cX11_digest 76 = .ok (.istore_n 3, 1) := by decide +kernel
theorem dX11_digest_77 : decode cX11_digest 77 = .ok (.iload_n 3, 1) := by decide +kernel
theorem dX11_digest_78 : decode cX11_digest 78 = .ok (.sipush 320, 3) := by decide +kernel
theorem dX11_digest_81 : decode cX11_digest 81 = .ok (.if_icmp .ge 27, 3) := by decide +kernel
theorem dX11_digest_84 : decode cX11_digest 84 = .ok (.lload_n 1, 1) := by decide +kernel
theorem dX11_digest_85 : decode cX11_digest 85 = .ok (.ldc2_w 396, 3) := by decide +kernel
theorem dX11_digest_88 : decode cX11_digest 88 = .ok (.lmul, 1) := by decide +kernel
theorem dX11_digest_89 : decode cX11_digest 89 = .ok (.aload_n 0, 1) := by decide +kernel
theorem dX11_digest_90 : decode cX11_digest 90 = .ok (.iload_n 3, 1) := by decide +kernel
theorem dX11_digest_91 : decode cX11_digest 91 = .ok (.iconst 5, 1) := by decide +kernel
theorem dX11_digest_92 : decode cX11_digest 92 = .ok (.idiv, 1) := by decide +kernel
theorem dX11_digest_93 : decode cX11_digest 93 = .ok (.iload_n 3, 1) := by decide +kernel
theorem dX11_digest_94 : decode cX11_digest 94 = .ok (.iconst 5, 1) := by decide +kernel
theorem dX11_digest_95 : decode cX11_digest 95 = .ok (.irem, 1) := by decide +kernel
theorem dX11_digest_96 : decode cX11_digest 96 = .ok (.invokevirtual 373, 3) := by decide +kernel
theorem dX11_digest_99 : decode cX11_digest 99 = .ok (.i2l, 1) := by decide +kernel
theorem dX11_digest_100 : decode cX11_digest 100 = .ok (.ladd, 1) := by decide +kernel
theorem dX11_digest_101 : decode cX11_digest 101 = .ok (.lstore_n 1, 1) := by decide +kernel
theorem dX11_digest_102 : decode cX11_digest 102 = .ok (.iinc 3 1, 3) := by decide +kernel
theorem dX11_digest_105 : decode cX11_digest 105 = .ok (.goto (-28), 3) := by decide +kernel
theorem dX11_digest_108 : decode cX11_digest 108 = .ok (.iconst 0, 1) := by decide +kernel
theorem dX11_digest_109 : decode cX11_digest 109 = .ok (.istore_n 3, 1) := by decide +kernel
theorem dX11_digest_110 : decode cX11_digest 110 = .ok (.iload_n 3, 1) := by decide +kernel
theorem dX11_digest_111 : decode cX11_digest 111 = .ok (.bipush 9, 2) := by decide +kernel
theorem dX11_digest_113 : decode cX11_digest 113 = .ok (.aload_n 0, 1) := by decide +kernel
theorem dX11_digest_114 : decode cX11_digest 114 = .ok (.getfield 236, 3) := by decide +kernel
theorem dX11_digest_117 : decode cX11_digest 117 = .ok (.imul, 1) := by decide +kernel
theorem dX11_digest_118 : decode cX11_digest 118 = .ok (.if_icmp .ge 29, 3) := by decide +kernel
theorem dX11_digest_121 : decode cX11_digest 121 = .ok (.lload_n 1, 1) := by decide +kernel
theorem dX11_digest_122 : decode cX11_digest 122 = .ok (.ldc2_w 396, 3) := by decide +kernel
theorem dX11_digest_125 : decode cX11_digest 125 = .ok (.lmul, 1) := by decide +kernel
theorem dX11_digest_126 : decode cX11_digest 126 = .ok (.aload_n 0, 1) := by decide +kernel
theorem dX11_digest_127 : decode cX11_digest 127 = .ok (.iload_n 3, 1) := by decide +kernel
theorem dX11_digest_128 : decode cX11_digest 128 = .ok (.bipush 9, 2) := by decide +kernel
theorem dX11_digest_130 : decode cX11_digest 130 = .ok (.idiv, 1) := by decide +kernel
theorem dX11_digest_131 : decode cX11_digest 131 = .ok (.iload_n 3, 1) := by decide +kernel
theorem dX11_digest_132 : decode cX11_digest 132 = .ok (.bipush 9, 2) := by decide +kernel
theorem dX11_digest_134 : decode cX11_digest 134 = .ok (.irem, 1) := by decide +kernel
theorem dX11_digest_135 : decode cX11_digest 135 = .ok (.invokevirtual 376, 3) := by decide +kernel
theorem dX11_digest_138 : decode cX11_digest 138 = .ok (.i2l, 1) := by decide +kernel
theorem dX11_digest_139 : decode cX11_digest 139 = .ok (.ladd, 1) := by decide +kernel
theorem dX11_digest_140 : decode cX11_digest 140 = .ok (.lstore_n 1, 1) := by decide +kernel
theorem dX11_digest_141 : decode cX11_digest 141 = .ok (.iinc 3 1, 3) := by decide +kernel
theorem dX11_digest_144 : decode cX11_digest 144 = .ok (.goto (-34), 3) := by decide +kernel
theorem dX11_digest_147 : decode cX11_digest 147 = .ok (.iconst 0, 1) := by decide +kernel
theorem dX11_digest_148 : decode cX11_digest 148 = .ok (.istore_n 3, 1) := by decide +kernel
theorem dX11_digest_149 : decode cX11_digest 149 = .ok (.iload_n 3, 1) := by decide +kernel
theorem dX11_digest_150 : decode cX11_digest 150 = .ok (.aload_n 0, 1) := by decide +kernel
theorem dX11_digest_151 : decode cX11_digest 151 = .ok (.getfield 360, 3) := by decide +kernel
theorem dX11_digest_154 : decode cX11_digest 154 = .ok (.if_icmp .ge 23, 3) := by decide +kernel
theorem dX11_digest_157 : decode cX11_digest 157 = .ok (.lload_n 1, 1) := by decide +kernel
theorem dX11_digest_158 : decode cX11_digest 158 = .ok (.ldc2_w 396, 3) := by decide +kernel
theorem dX11_digest_161 : decode cX11_digest 161 = .ok (.lmul, 1) := by decide +kernel
theorem dX11_digest_162 : decode cX11_digest 162 = .ok (.aload_n 0, 1) := by decide +kernel
theorem dX11_digest_163 : decode cX11_digest 163 = .ok (.getfield 17, 3) := by decide +kernel
theorem dX11_digest_166 : decode cX11_digest 166 = .ok (.iload_n 3, 1) := by decide +kernel
theorem dX11_digest_167 : decode cX11_digest 167 = .ok (.iaload, 1) := by decide +kernel
theorem dX11_digest_168 : decode cX11_digest 168 = .ok (.i2l, 1) := by decide +kernel
theorem dX11_digest_169 : decode cX11_digest 169 = .ok (.ladd, 1) := by decide +kernel
theorem dX11_digest_170 : decode cX11_digest 170 = .ok (.lstore_n 1, 1) := by decide +kernel
theorem dX11_digest_171 : decode cX11_digest 171 = .ok (.iinc 3 1, 3) := by decide +kernel
theorem dX11_digest_174 : decode cX11_digest 174 = .ok (.goto (-25), 3) := by decide +kernel
theorem dX11_digest_177 : decode cX11_digest 177 = .ok (.lload_n 1, 1) := by decide +kernel
theorem dX11_digest_178 : decode cX11_digest 178 = .ok (.lreturn, 1) := by decide +kernel
def f_X11_digest_L11 (i0 : Nat) : Nat → Int64 → Int32 → Mm → Option (Int64 × Mm)
  | 0, _, _, _ => none
  | n + 1, v1, v3, M =>
    if ((13 : Int32) ≤ v3) then (some (v1, M)) else (bd2 (f_X11_counted i0 v3 M) fun x4 M5 => lz ((v1 * (31 : Int64)) + x4.toInt64) fun x8 => lz (v3 + (1 : Int32)) fun x10 => f_X11_digest_L11 i0 n x8 x10 M5)
def f_X11_digest_L38 (i0 : Nat) (M : Mm) : Nat → Int64 → Int32 → Option (Int64)
  | 0, _, _ => none
  | n + 1, v1, v3 =>
    if ((12 : Int32) ≤ v3) then (some (v1)) else (if 0 ≤ v3.toInt ∧ v3.toInt < ((12 : Nat) : Int) then (lz ((v1 * (31 : Int64)) + (((10 : Int32) * (M (i0 + 3) (ix v3)))).toInt64) fun x17 => if 0 ≤ v3.toInt ∧ v3.toInt < ((12 : Nat) : Int) then (lz (x17 + ((M (i0 + 4) (ix v3))).toInt64) fun x20 => lz (v3 + (1 : Int32)) fun x22 => f_X11_digest_L38 i0 M n x20 x22) else none) else none)
def f_X11_digest_L77 (i0 : Nat) (M : Mm) : Nat → Int64 → Int32 → Option (Int64)
  | 0, _, _ => none
  | n + 1, v1, v3 =>
    if ((320 : Int32) ≤ v3) then (some (v1)) else (bd1 (f_X11_cellTold i0 (v3 / (5 : Int32)) (v3 - v3 / (5 : Int32) * (5 : Int32)) M) fun x27 => lz ((v1 * (31 : Int64)) + x27.toInt64) fun x30 => lz (v3 + (1 : Int32)) fun x32 => f_X11_digest_L77 i0 M n x30 x32)
def f_X11_digest_L110 (i0 : Nat) (M : Mm) : Nat → Int64 → Int32 → Option (Int64)
  | 0, _, _ => none
  | n + 1, v1, v3 =>
    if (((9 : Int32) * (M i0 9)) ≤ v3) then (some (v1)) else (bd1 (f_X11_gangTold i0 (v3 / (9 : Int32)) (v3 - v3 / (9 : Int32) * (9 : Int32)) M) fun x37 => lz ((v1 * (31 : Int64)) + x37.toInt64) fun x40 => lz (v3 + (1 : Int32)) fun x42 => f_X11_digest_L110 i0 M n x40 x42)
def f_X11_digest_L149 (i0 : Nat) (M : Mm) : Nat → Int64 → Int32 → Option (Int64)
  | 0, _, _ => none
  | n + 1, v1, v3 =>
    if ((M i0 5) ≤ v3) then (some (v1)) else (if 0 ≤ v3.toInt ∧ v3.toInt < ((72 : Nat) : Int) then (lz ((v1 * (31 : Int64)) + ((M (i0 + 2) (ix v3))).toInt64) fun x48 => lz (v3 + (1 : Int32)) fun x50 => f_X11_digest_L149 i0 M n x48 x50) else none)
def f_X11_digest (i0 : Nat) (M : Mm) : Option (Int64 × Mm) :=
  lz (wr M i0 0 (0 : Int32)) fun M1 => bd2 (f_X11_digest_L11 i0 14 (701 : Int64) (0 : Int32) M1) fun x13 M14 => bd1 (f_X11_digest_L38 i0 M14 FU x13 (0 : Int32)) fun x25 => bd1 (f_X11_digest_L77 i0 M14 FU x25 (0 : Int32)) fun x35 => bd1 (f_X11_digest_L110 i0 M14 FU x35 (0 : Int32)) fun x45 => bd1 (f_X11_digest_L149 i0 M14 FU x45 (0 : Int32)) fun x53 => some (x53, M14)
set_option maxHeartbeats 4000000 in
set_option maxRecDepth 100000 in
theorem l_X11_digest_L11 {p : Program} {e : Env} {s : State} {m : MethodId} {args : Array Value} {below : List Frame} {meth : Method} {c : Code} {l : Launch} {G : GG} {Q : State → Prop} (hC : CX p s m args meth c cX11_digest 4 RX11 (some .long) G) {i0 : Nat} (hE : G.2.2.2 = []) (hi0 : (kd i0).1 = 5) : ∀ (n : Nat) (k0 n0 : Nat) (hk0 : k0 + n * 1 ≤ 14) (hn0 : n0 + n * 13 ≤ 182) (v1 : Int64) (v3 : Int32) (M : Mm) {o1 : Int64} {M2 : Mm} (hr : f_X11_digest_L11 i0 n v1 v3 M = some (o1, M2)) (K : XJ p l e (RM 2 14 182 52) s m args below meth c G 4 Q (k0 + n * 1) (n0 + n * 13) M2 36 [(0, .ref (G.2.1 i0)), (1, .long o1)] []), XJ p l e (RM 2 14 182 52) s m args below meth c G 4 Q k0 n0 M 11 [(0, .ref (G.2.1 i0)), (1, .long v1), (3, .int v3)] [] := by
  intro n
  induction n with
  | zero => intro k0 n0 hk0 hn0 v1 v3 M o1 M2 hr K; rw [f_X11_digest_L11] at hr; cases hr
  | succ n ih =>
    intro k0 n0 hk0 hn0 v1 v3 M o1 M2 hr K
    rw [f_X11_digest_L11] at hr
    refine x_iload_n hC dX11_digest_11 rfl 2 rfl ?_
    refine x_bipush hC (13 : Int32) dX11_digest_12 (by decide) ?_
    refine x_icmp_ge hC 36 dX11_digest_14 (by decide) (fun h3 => ?_) (fun h3 => ?_)
    · have hr := (ie_s hr).1 h3
      cases hr
      exact x_widen (by omega) (by omega) (x_sub [0, 1] rfl K)
    · have hr := (ie_s hr).2 h3
      refine x_lload_n hC dX11_digest_17 rfl 1 rfl ?_
      refine x_ldc2 hC (31 : Int64) kx_X11_396 dX11_digest_18 ?_
      refine x_lmul hC dX11_digest_21 ?_
      refine x_aload_n hC dX11_digest_22 rfl 0 rfl ?_
      refine x_iload_n hC dX11_digest_23 rfl 2 rfl ?_
      obtain ⟨x4, M5, q6, hr⟩ := bd2_s hr
      refine x_callV (ci := 5) (q := (RX11, TX11, 32)) (As := [.int v3]) hC (c_X11_counted l G M hE hi0 v3 q6) kc_yX11_counted km_X11_370 ki_yX11_counted kv_yX11_counted kn_RX11 ky_yX11_counted rfl ⟨rfl, rfl⟩ ⟨(Nat.le_of_ble_eq_true rfl), (Nat.le_of_ble_eq_true rfl)⟩ hi0 (by decide) rfl rfl (Nat.le_of_ble_eq_true rfl) ⟨by show _ ≤ 14; omega, by show _ ≤ 182; omega⟩ dX11_digest_24 (fun b7 => ?_)
      refine x_i2l hC dX11_digest_27 ?_
      refine x_ladd hC dX11_digest_28 ?_
      obtain ⟨x8, e9, hr⟩ := lz_s hr
      refine x_topl e9 ?_
      refine x_lstore_n hC [(1, .long x8), (0, .ref (G.2.1 i0)), (3, .int v3)] dX11_digest_29 rfl (Nat.le_of_ble_eq_true rfl) rfl ?_
      obtain ⟨x10, e11, hr⟩ := lz_s hr
      refine x_iinc hC [(3, .int x10), (1, .long x8), (0, .ref (G.2.1 i0))] dX11_digest_30 2 rfl (by rw [e11]; rfl) (Nat.le_of_ble_eq_true rfl) rfl ?_
      refine x_goto hC 11 dX11_digest_33 (by decide) ?_
      refine x_sub [2, 1, 0] rfl (ih (k0 + 1) (n0 + 13) (by omega) (by omega) x8 x10 M5 hr ?_)
      rw [show k0 + 1 + n * 1 = k0 + (n + 1) * 1 by omega, show n0 + 13 + n * 13 = n0 + (n + 1) * 13 by omega]
      exact K
set_option maxHeartbeats 4000000 in
set_option maxRecDepth 100000 in
theorem l_X11_digest_L38 {p : Program} {e : Env} {s : State} {m : MethodId} {args : Array Value} {below : List Frame} {meth : Method} {c : Code} {l : Launch} {G : GG} {Q : State → Prop} (hC : CX p s m args meth c cX11_digest 4 RX11 (some .long) G) {i0 : Nat} {kk nn : Nat} (hkk : kk ≤ 14) (hnn : nn ≤ 182) (hE : G.2.2.2 = []) (hi0 : (kd i0).1 = 5) (M : Mm) : ∀ (n : Nat) (v1 : Int64) (v3 : Int32) {o1 : Int64} (hr : f_X11_digest_L38 i0 M n v1 v3 = some (o1)) (K : XJ p l e (RM 2 14 182 52) s m args below meth c G 4 Q kk nn M 75 [(0, .ref (G.2.1 i0)), (1, .long o1)] []), XJ p l e (RM 2 14 182 52) s m args below meth c G 4 Q kk nn M 38 [(0, .ref (G.2.1 i0)), (1, .long v1), (3, .int v3)] [] := by
  intro n
  induction n with
  | zero => intro v1 v3 o1 hr K; rw [f_X11_digest_L38] at hr; cases hr
  | succ n ih =>
    intro v1 v3 o1 hr K
    rw [f_X11_digest_L38] at hr
    refine x_iload_n hC dX11_digest_38 rfl 2 rfl ?_
    refine x_bipush hC (12 : Int32) dX11_digest_39 (by decide) ?_
    refine x_icmp_ge hC 75 dX11_digest_41 (by decide) (fun h15 => ?_) (fun h15 => ?_)
    · have hr := (ie_s hr).1 h15
      cases hr
      exact x_sub [0, 1] rfl K
    · have hr := (ie_s hr).2 h15
      refine x_lload_n hC dX11_digest_44 rfl 1 rfl ?_
      refine x_ldc2 hC (31 : Int64) kx_X11_396 dX11_digest_45 ?_
      refine x_lmul hC dX11_digest_48 ?_
      refine x_bipush hC (10 : Int32) dX11_digest_49 (by decide) ?_
      refine x_aload_n hC dX11_digest_51 rfl 0 rfl ?_
      refine gf_X11_20 hC hi0 dX11_digest_52 ?_
      refine x_iload_n hC dX11_digest_55 rfl 2 rfl ?_
      obtain ⟨h16, hr⟩ := it_s hr
      refine x_iald hC (kr_5_6 hi0) h16 dX11_digest_56 ?_
      refine x_imul hC dX11_digest_57 ?_
      refine x_i2l hC dX11_digest_58 ?_
      refine x_ladd hC dX11_digest_59 ?_
      obtain ⟨x17, e18, hr⟩ := lz_s hr
      refine x_topl e18 ?_
      refine x_aload_n hC dX11_digest_60 rfl 0 rfl ?_
      refine gf_X11_23 hC hi0 dX11_digest_61 ?_
      refine x_iload_n hC dX11_digest_64 rfl 2 rfl ?_
      obtain ⟨h19, hr⟩ := it_s hr
      refine x_iald hC (kr_5_7 hi0) h19 dX11_digest_65 ?_
      refine x_i2l hC dX11_digest_66 ?_
      refine x_ladd hC dX11_digest_67 ?_
      obtain ⟨x20, e21, hr⟩ := lz_s hr
      refine x_topl e21 ?_
      refine x_lstore_n hC [(1, .long x20), (0, .ref (G.2.1 i0)), (3, .int v3)] dX11_digest_68 rfl (Nat.le_of_ble_eq_true rfl) rfl ?_
      obtain ⟨x22, e23, hr⟩ := lz_s hr
      refine x_iinc hC [(3, .int x22), (1, .long x20), (0, .ref (G.2.1 i0))] dX11_digest_69 2 rfl (by rw [e23]; rfl) (Nat.le_of_ble_eq_true rfl) rfl ?_
      refine x_goto hC 38 dX11_digest_72 (by decide) ?_
      exact x_sub [2, 1, 0] rfl (ih x20 x22 hr K)
set_option maxHeartbeats 4000000 in
set_option maxRecDepth 100000 in
theorem l_X11_digest_L77 {p : Program} {e : Env} {s : State} {m : MethodId} {args : Array Value} {below : List Frame} {meth : Method} {c : Code} {l : Launch} {G : GG} {Q : State → Prop} (hC : CX p s m args meth c cX11_digest 4 RX11 (some .long) G) {i0 : Nat} {kk nn : Nat} (hkk : kk ≤ 14) (hnn : nn ≤ 182) (hE : G.2.2.2 = []) (hi0 : (kd i0).1 = 5) (M : Mm) : ∀ (n : Nat) (v1 : Int64) (v3 : Int32) {o1 : Int64} (hr : f_X11_digest_L77 i0 M n v1 v3 = some (o1)) (K : XJ p l e (RM 2 14 182 52) s m args below meth c G 4 Q kk nn M 108 [(0, .ref (G.2.1 i0)), (1, .long o1)] []), XJ p l e (RM 2 14 182 52) s m args below meth c G 4 Q kk nn M 77 [(0, .ref (G.2.1 i0)), (1, .long v1), (3, .int v3)] [] := by
  intro n
  induction n with
  | zero => intro v1 v3 o1 hr K; rw [f_X11_digest_L77] at hr; cases hr
  | succ n ih =>
    intro v1 v3 o1 hr K
    rw [f_X11_digest_L77] at hr
    refine x_iload_n hC dX11_digest_77 rfl 2 rfl ?_
    refine x_sipush hC (320 : Int32) dX11_digest_78 (by decide) ?_
    refine x_icmp_ge hC 108 dX11_digest_81 (by decide) (fun h26 => ?_) (fun h26 => ?_)
    · have hr := (ie_s hr).1 h26
      cases hr
      exact x_sub [0, 1] rfl K
    · have hr := (ie_s hr).2 h26
      refine x_lload_n hC dX11_digest_84 rfl 1 rfl ?_
      refine x_ldc2 hC (31 : Int64) kx_X11_396 dX11_digest_85 ?_
      refine x_lmul hC dX11_digest_88 ?_
      refine x_aload_n hC dX11_digest_89 rfl 0 rfl ?_
      refine x_iload_n hC dX11_digest_90 rfl 2 rfl ?_
      refine x_iconst hC (5 : Int32) dX11_digest_91 (by decide) ?_
      refine x_idiv hC dX11_digest_92 (by decide) ?_
      refine x_iload_n hC dX11_digest_93 rfl 2 rfl ?_
      refine x_iconst hC (5 : Int32) dX11_digest_94 (by decide) ?_
      refine x_irem hC dX11_digest_95 (by decide) ?_
      obtain ⟨x27, q28, hr⟩ := bd1_s hr
      refine x_callV (ci := 5) (q := (RX11, TX11, 32)) (As := [.int (v3 / (5 : Int32)), .int (v3 - v3 / (5 : Int32) * (5 : Int32))]) hC (c_X11_cellTold l G M hi0 (v3 / (5 : Int32)) (v3 - v3 / (5 : Int32) * (5 : Int32)) q28) kc_yX11_cellTold km_X11_373 ki_yX11_cellTold kv_yX11_cellTold kn_RX11 ky_yX11_cellTold rfl ⟨rfl, rfl⟩ ⟨(Nat.le_of_ble_eq_true rfl), (Nat.le_of_ble_eq_true rfl)⟩ hi0 (by decide) rfl rfl (Nat.le_of_ble_eq_true rfl) ⟨by show _ ≤ 14; omega, by show _ ≤ 182; omega⟩ dX11_digest_96 (fun b29 => ?_)
      refine x_i2l hC dX11_digest_99 ?_
      refine x_ladd hC dX11_digest_100 ?_
      obtain ⟨x30, e31, hr⟩ := lz_s hr
      refine x_topl e31 ?_
      refine x_lstore_n hC [(1, .long x30), (0, .ref (G.2.1 i0)), (3, .int v3)] dX11_digest_101 rfl (Nat.le_of_ble_eq_true rfl) rfl ?_
      obtain ⟨x32, e33, hr⟩ := lz_s hr
      refine x_iinc hC [(3, .int x32), (1, .long x30), (0, .ref (G.2.1 i0))] dX11_digest_102 2 rfl (by rw [e33]; rfl) (Nat.le_of_ble_eq_true rfl) rfl ?_
      refine x_goto hC 77 dX11_digest_105 (by decide) ?_
      exact x_sub [2, 1, 0] rfl (ih x30 x32 hr K)
set_option maxHeartbeats 4000000 in
set_option maxRecDepth 100000 in
theorem l_X11_digest_L110 {p : Program} {e : Env} {s : State} {m : MethodId} {args : Array Value} {below : List Frame} {meth : Method} {c : Code} {l : Launch} {G : GG} {Q : State → Prop} (hC : CX p s m args meth c cX11_digest 4 RX11 (some .long) G) {i0 : Nat} {kk nn : Nat} (hkk : kk ≤ 14) (hnn : nn ≤ 182) (hE : G.2.2.2 = []) (hi0 : (kd i0).1 = 5) (M : Mm) : ∀ (n : Nat) (v1 : Int64) (v3 : Int32) {o1 : Int64} (hr : f_X11_digest_L110 i0 M n v1 v3 = some (o1)) (K : XJ p l e (RM 2 14 182 52) s m args below meth c G 4 Q kk nn M 147 [(0, .ref (G.2.1 i0)), (1, .long o1)] []), XJ p l e (RM 2 14 182 52) s m args below meth c G 4 Q kk nn M 110 [(0, .ref (G.2.1 i0)), (1, .long v1), (3, .int v3)] [] := by
  intro n
  induction n with
  | zero => intro v1 v3 o1 hr K; rw [f_X11_digest_L110] at hr; cases hr
  | succ n ih =>
    intro v1 v3 o1 hr K
    rw [f_X11_digest_L110] at hr
    refine x_iload_n hC dX11_digest_110 rfl 2 rfl ?_
    refine x_bipush hC (9 : Int32) dX11_digest_111 (by decide) ?_
    refine x_aload_n hC dX11_digest_113 rfl 0 rfl ?_
    refine gf_X11_236 hC hi0 dX11_digest_114 ?_
    refine x_imul hC dX11_digest_117 ?_
    refine x_icmp_ge hC 147 dX11_digest_118 (by decide) (fun h36 => ?_) (fun h36 => ?_)
    · have hr := (ie_s hr).1 h36
      cases hr
      exact x_sub [0, 1] rfl K
    · have hr := (ie_s hr).2 h36
      refine x_lload_n hC dX11_digest_121 rfl 1 rfl ?_
      refine x_ldc2 hC (31 : Int64) kx_X11_396 dX11_digest_122 ?_
      refine x_lmul hC dX11_digest_125 ?_
      refine x_aload_n hC dX11_digest_126 rfl 0 rfl ?_
      refine x_iload_n hC dX11_digest_127 rfl 2 rfl ?_
      refine x_bipush hC (9 : Int32) dX11_digest_128 (by decide) ?_
      refine x_idiv hC dX11_digest_130 (by decide) ?_
      refine x_iload_n hC dX11_digest_131 rfl 2 rfl ?_
      refine x_bipush hC (9 : Int32) dX11_digest_132 (by decide) ?_
      refine x_irem hC dX11_digest_134 (by decide) ?_
      obtain ⟨x37, q38, hr⟩ := bd1_s hr
      refine x_callV (ci := 5) (q := (RX11, TX11, 32)) (As := [.int (v3 / (9 : Int32)), .int (v3 - v3 / (9 : Int32) * (9 : Int32))]) hC (c_X11_gangTold l G M hi0 (v3 / (9 : Int32)) (v3 - v3 / (9 : Int32) * (9 : Int32)) q38) kc_yX11_gangTold km_X11_376 ki_yX11_gangTold kv_yX11_gangTold kn_RX11 ky_yX11_gangTold rfl ⟨rfl, rfl⟩ ⟨(Nat.le_of_ble_eq_true rfl), (Nat.le_of_ble_eq_true rfl)⟩ hi0 (by decide) rfl rfl (Nat.le_of_ble_eq_true rfl) ⟨by show _ ≤ 14; omega, by show _ ≤ 182; omega⟩ dX11_digest_135 (fun b39 => ?_)
      refine x_i2l hC dX11_digest_138 ?_
      refine x_ladd hC dX11_digest_139 ?_
      obtain ⟨x40, e41, hr⟩ := lz_s hr
      refine x_topl e41 ?_
      refine x_lstore_n hC [(1, .long x40), (0, .ref (G.2.1 i0)), (3, .int v3)] dX11_digest_140 rfl (Nat.le_of_ble_eq_true rfl) rfl ?_
      obtain ⟨x42, e43, hr⟩ := lz_s hr
      refine x_iinc hC [(3, .int x42), (1, .long x40), (0, .ref (G.2.1 i0))] dX11_digest_141 2 rfl (by rw [e43]; rfl) (Nat.le_of_ble_eq_true rfl) rfl ?_
      refine x_goto hC 110 dX11_digest_144 (by decide) ?_
      exact x_sub [2, 1, 0] rfl (ih x40 x42 hr K)
set_option maxHeartbeats 4000000 in
set_option maxRecDepth 100000 in
theorem l_X11_digest_L149 {p : Program} {e : Env} {s : State} {m : MethodId} {args : Array Value} {below : List Frame} {meth : Method} {c : Code} {l : Launch} {G : GG} {Q : State → Prop} (hC : CX p s m args meth c cX11_digest 4 RX11 (some .long) G) {i0 : Nat} {kk nn : Nat} (hkk : kk ≤ 14) (hnn : nn ≤ 182) (hE : G.2.2.2 = []) (hi0 : (kd i0).1 = 5) (M : Mm) : ∀ (n : Nat) (v1 : Int64) (v3 : Int32) {o1 : Int64} (hr : f_X11_digest_L149 i0 M n v1 v3 = some (o1)) (K : XJ p l e (RM 2 14 182 52) s m args below meth c G 4 Q kk nn M 177 [(1, .long o1)] []), XJ p l e (RM 2 14 182 52) s m args below meth c G 4 Q kk nn M 149 [(0, .ref (G.2.1 i0)), (1, .long v1), (3, .int v3)] [] := by
  intro n
  induction n with
  | zero => intro v1 v3 o1 hr K; rw [f_X11_digest_L149] at hr; cases hr
  | succ n ih =>
    intro v1 v3 o1 hr K
    rw [f_X11_digest_L149] at hr
    refine x_iload_n hC dX11_digest_149 rfl 2 rfl ?_
    refine x_aload_n hC dX11_digest_150 rfl 0 rfl ?_
    refine gf_X11_360 hC hi0 dX11_digest_151 ?_
    refine x_icmp_ge hC 177 dX11_digest_154 (by decide) (fun h46 => ?_) (fun h46 => ?_)
    · have hr := (ie_s hr).1 h46
      cases hr
      exact x_sub [1] rfl K
    · have hr := (ie_s hr).2 h46
      refine x_lload_n hC dX11_digest_157 rfl 1 rfl ?_
      refine x_ldc2 hC (31 : Int64) kx_X11_396 dX11_digest_158 ?_
      refine x_lmul hC dX11_digest_161 ?_
      refine x_aload_n hC dX11_digest_162 rfl 0 rfl ?_
      refine gf_X11_17 hC hi0 dX11_digest_163 ?_
      refine x_iload_n hC dX11_digest_166 rfl 2 rfl ?_
      obtain ⟨h47, hr⟩ := it_s hr
      refine x_iald hC (kr_5_4 hi0) h47 dX11_digest_167 ?_
      refine x_i2l hC dX11_digest_168 ?_
      refine x_ladd hC dX11_digest_169 ?_
      obtain ⟨x48, e49, hr⟩ := lz_s hr
      refine x_topl e49 ?_
      refine x_lstore_n hC [(1, .long x48), (0, .ref (G.2.1 i0)), (3, .int v3)] dX11_digest_170 rfl (Nat.le_of_ble_eq_true rfl) rfl ?_
      obtain ⟨x50, e51, hr⟩ := lz_s hr
      refine x_iinc hC [(3, .int x50), (1, .long x48), (0, .ref (G.2.1 i0))] dX11_digest_171 2 rfl (by rw [e51]; rfl) (Nat.le_of_ble_eq_true rfl) rfl ?_
      refine x_goto hC 149 dX11_digest_174 (by decide) ?_
      exact x_sub [2, 1, 0] rfl (ih x48 x50 hr K)
set_option maxHeartbeats 4000000 in
set_option maxRecDepth 100000 in
theorem c_X11_digest (l : Launch) (G : GG) (M : Mm) (hE : G.2.2.2 = []) {i0 : Nat} (hi0 : (kd i0).1 = 5) {r : Int64} {M9 : Mm} (hr : f_X11_digest i0 M = some (r, M9)) : Mo false l yX11_digest (WS yX11_digest cX11_digest 4 (some .long)) (RM 2 14 182 52) 14 182 [.ref (G.2.1 i0)] G M (some (.long r)) M9 := by
  refine Mo.of (by decide +kernel) (Nat.le_of_ble_eq_true rfl) ?_
  intro p e s m args below meth c hC
  have hC : CX p s m args meth c cX11_digest 4 RX11 (some .long) G := hC
  rw [f_X11_digest] at hr
  show XJ p l e (RM 2 14 182 52) s m args below meth c G 4 _ 0 0 M 0 [(0, .ref (G.2.1 i0))] []
  refine x_aload_n hC dX11_digest_0 rfl 0 rfl ?_
  refine x_iconst hC (0 : Int32) dX11_digest_1 (by decide) ?_
  obtain ⟨M1, e2, hr⟩ := lz_s hr
  refine pf_X11_69 hC hi0 e2 dX11_digest_2 ?_
  refine x_ldc2 hC (701 : Int64) kx_X11_394 dX11_digest_5 ?_
  refine x_lstore_n hC [(1, .long (701 : Int64)), (0, .ref (G.2.1 i0))] dX11_digest_8 rfl (Nat.le_of_ble_eq_true rfl) rfl ?_
  refine x_iconst hC (0 : Int32) dX11_digest_9 (by decide) ?_
  refine x_istore_n hC [(3, .int (0 : Int32)), (1, .long (701 : Int64)), (0, .ref (G.2.1 i0))] dX11_digest_10 rfl (Nat.le_of_ble_eq_true rfl) rfl ?_
  obtain ⟨x13, M14, q12, hr⟩ := bd2_s hr
  refine x_sub [2, 1, 0] rfl (l_X11_digest_L11 hC hE hi0 14 0 0 (Nat.le_of_ble_eq_true rfl) (Nat.le_of_ble_eq_true rfl) (701 : Int64) (0 : Int32) M1 q12 ?_)
  refine x_iconst hC (0 : Int32) dX11_digest_36 (by decide) ?_
  refine x_istore_n hC [(3, .int (0 : Int32)), (0, .ref (G.2.1 i0)), (1, .long x13)] dX11_digest_37 rfl (Nat.le_of_ble_eq_true rfl) rfl ?_
  obtain ⟨x25, q24, hr⟩ := bd1_s hr
  refine x_sub [1, 2, 0] rfl (l_X11_digest_L38 hC (Nat.le_of_ble_eq_true rfl) (Nat.le_of_ble_eq_true rfl) hE hi0 M14 FU  x13 (0 : Int32) q24 ?_)
  refine x_iconst hC (0 : Int32) dX11_digest_75 (by decide) ?_
  refine x_istore_n hC [(3, .int (0 : Int32)), (0, .ref (G.2.1 i0)), (1, .long x25)] dX11_digest_76 rfl (Nat.le_of_ble_eq_true rfl) rfl ?_
  obtain ⟨x35, q34, hr⟩ := bd1_s hr
  refine x_sub [1, 2, 0] rfl (l_X11_digest_L77 hC (Nat.le_of_ble_eq_true rfl) (Nat.le_of_ble_eq_true rfl) hE hi0 M14 FU  x25 (0 : Int32) q34 ?_)
  refine x_iconst hC (0 : Int32) dX11_digest_108 (by decide) ?_
  refine x_istore_n hC [(3, .int (0 : Int32)), (0, .ref (G.2.1 i0)), (1, .long x35)] dX11_digest_109 rfl (Nat.le_of_ble_eq_true rfl) rfl ?_
  obtain ⟨x45, q44, hr⟩ := bd1_s hr
  refine x_sub [1, 2, 0] rfl (l_X11_digest_L110 hC (Nat.le_of_ble_eq_true rfl) (Nat.le_of_ble_eq_true rfl) hE hi0 M14 FU  x35 (0 : Int32) q44 ?_)
  refine x_iconst hC (0 : Int32) dX11_digest_147 (by decide) ?_
  refine x_istore_n hC [(3, .int (0 : Int32)), (0, .ref (G.2.1 i0)), (1, .long x45)] dX11_digest_148 rfl (Nat.le_of_ble_eq_true rfl) rfl ?_
  obtain ⟨x53, q52, hr⟩ := bd1_s hr
  refine x_sub [1, 2, 0] rfl (l_X11_digest_L149 hC (Nat.le_of_ble_eq_true rfl) (Nat.le_of_ble_eq_true rfl) hE hi0 M14 FU  x45 (0 : Int32) q52 ?_)
  refine x_lload_n hC dX11_digest_177 rfl 0 rfl ?_
  cases hr
  exact x_widen (Nat.le_of_ble_eq_true rfl) (Nat.le_of_ble_eq_true rfl) (x_lret hC rfl dX11_digest_178)
