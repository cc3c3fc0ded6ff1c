theorem dX9_isWithin_0 : decode cX9_isWithin 0 = .ok (.iload_n 0, 1) := by decide +kernel
theorem dX9_isWithin_1 : decode cX9_isWithin 1 = .ok (.iload_n 1, 1) := by decide +kernel
theorem dX9_isWithin_2 : decode cX9_isWithin 2 = .ok (.if_icmp .lt 12, 3) := by decide +kernel
theorem dX9_isWithin_5 : decode cX9_isWithin 5 = .ok (.iload_n 0, 1) := by decide +kernel
theorem dX9_isWithin_6 : decode cX9_isWithin 6 = .ok (.iload_n 2, 1) := by decide +kernel
theorem dX9_isWithin_7 : decode cX9_isWithin 7 = .ok (.if_icmp .gt 7, 3) := by decide +kernel
theorem dX9_isWithin_10 : decode cX9_isWithin 10 = .ok (.iconst 1, 1) := by decide +kernel
theorem dX9_isWithin_11 : decode cX9_isWithin 11 = .ok (.goto 4, 3) := by decide +kernel
theorem dX9_isWithin_14 : decode cX9_isWithin 14 = .ok (.iconst 0, 1) := by decide +kernel
theorem dX9_isWithin_15 : decode cX9_isWithin 15 = .ok (.ireturn, 1) := by decide +kernel

def f_X9_isWithin (a0 : Int32) (a1 : Int32) (a2 : Int32) : Int32 :=
  if (a0 < a1) then ((0 : Int32)) else (if (a2 < a0) then ((0 : Int32)) else ((1 : Int32)))

set_option maxHeartbeats 4000000 in
set_option maxRecDepth 100000 in
theorem c_X9_isWithin (l : Launch) (G : GG) (M : Mm) (a0 : Int32) (a1 : Int32) (a2 : Int32) {r : Int32} (hr : f_X9_isWithin a0 a1 a2 = r) : Mo true l yX9_isWithin (WS yX9_isWithin cX9_isWithin 3 (some .boolean)) (RM 0 0 0 0) 0 0 [.int a0, .int a1, .int a2] G M (some (.int r)) M := by
  refine Mo.of (by decide +kernel) (Nat.le_of_ble_eq_true rfl) ?_
  intro p e s m args below meth c hC
  have hC : CX p s m args meth c cX9_isWithin 3 RX9 (some .boolean) G := hC
  rw [f_X9_isWithin] at hr
  show XJ p l e (RM 0 0 0 0) s m args below meth c G 3 _ 0 0 M 0 [(0, .int a0), (1, .int a1), (2, .int a2)] []
  refine x_iload_n hC dX9_isWithin_0 rfl 0 rfl ?_
  refine x_iload_n hC dX9_isWithin_1 rfl 1 rfl ?_
  refine x_icmp_lt hC 14 dX9_isWithin_2 (by decide) (fun h1 => ?_) (fun h1 => ?_)
  · have hr := (ie_s hr).1 h1
    refine x_iconst hC (0 : Int32) dX9_isWithin_14 (by decide) ?_
    subst hr
    exact x_zret hC rfl (Or.inl rfl) dX9_isWithin_15
  · have hr := (ie_s hr).2 h1
    refine x_iload_n hC dX9_isWithin_5 rfl 0 rfl ?_
    refine x_iload_n hC dX9_isWithin_6 rfl 2 rfl ?_
    refine x_icmp_gt hC 14 dX9_isWithin_7 (by decide) (fun h2 => ?_) (fun h2 => ?_)
    · have hr := (ie_s hr).1 h2
      refine x_iconst hC (0 : Int32) dX9_isWithin_14 (by decide) ?_
      subst hr
      exact x_zret hC rfl (Or.inl rfl) dX9_isWithin_15
    · have hr := (ie_s hr).2 h2
      refine x_iconst hC (1 : Int32) dX9_isWithin_10 (by decide) ?_
      refine x_goto hC 15 dX9_isWithin_11 (by decide) ?_
      subst hr
      exact x_zret hC rfl (Or.inr rfl) dX9_isWithin_15

theorem dX9_isCell_0 : decode cX9_isCell 0 = .ok (.iload_n 0, 1) := by decide +kernel
theorem dX9_isCell_1 : decode cX9_isCell 1 = .ok (.iconst 0, 1) := by decide +kernel
theorem dX9_isCell_2 : decode cX9_isCell 2 = .ok (.bipush 7, 2) := by decide +kernel
theorem dX9_isCell_4 : decode cX9_isCell 4 = .ok (.invokestatic 144, 3) := by decide +kernel
theorem dX9_isCell_7 : decode cX9_isCell 7 = .ok (.ifCond .eq 17, 3) := by decide +kernel
theorem dX9_isCell_10 : decode cX9_isCell 10 = .ok (.iload_n 1, 1) := by decide +kernel
theorem dX9_isCell_11 : decode cX9_isCell 11 = .ok (.iconst 0, 1) := by decide +kernel
theorem dX9_isCell_12 : decode cX9_isCell 12 = .ok (.bipush 7, 2) := by decide +kernel
theorem dX9_isCell_14 : decode cX9_isCell 14 = .ok (.invokestatic 144, 3) := by decide +kernel
theorem dX9_isCell_17 : decode cX9_isCell 17 = .ok (.ifCond .eq 7, 3) := by decide +kernel
theorem dX9_isCell_20 : decode cX9_isCell 20 = .ok (.iconst 1, 1) := by decide +kernel
theorem dX9_isCell_21 : decode cX9_isCell 21 = .ok (.goto 4, 3) := by decide +kernel
theorem dX9_isCell_24 : decode cX9_isCell 24 = .ok (.iconst 0, 1) := by decide +kernel
theorem dX9_isCell_25 : decode cX9_isCell 25 = .ok (.ireturn, 1) := by decide +kernel

def f_X9_isCell (a0 : Int32) (a1 : Int32) : Int32 :=
  lz (f_X9_isWithin a0 (0 : Int32) (7 : Int32)) fun x1 => if (x1 = 0) then ((0 : Int32)) else (lz (f_X9_isWithin a1 (0 : Int32) (7 : Int32)) fun x5 => if (x5 = 0) then ((0 : Int32)) else ((1 : Int32)))

set_option maxHeartbeats 4000000 in
set_option maxRecDepth 100000 in
theorem c_X9_isCell (l : Launch) (G : GG) (M : Mm) (a0 : Int32) (a1 : Int32) {r : Int32} (hr : f_X9_isCell a0 a1 = r) : Mo true l yX9_isCell (WS yX9_isCell cX9_isCell 2 (some .boolean)) (RM 1 0 0 22) 0 0 [.int a0, .int a1] G M (some (.int r)) M := by
  refine Mo.of (by decide +kernel) (Nat.le_of_ble_eq_true rfl) ?_
  intro p e s m args below meth c hC
  have hC : CX p s m args meth c cX9_isCell 2 RX9 (some .boolean) G := hC
  rw [f_X9_isCell] at hr
  show XJ p l e (RM 1 0 0 22) s m args below meth c G 2 _ 0 0 M 0 [(0, .int a0), (1, .int a1)] []
  refine x_iload_n hC dX9_isCell_0 rfl 0 rfl ?_
  refine x_iconst hC (0 : Int32) dX9_isCell_1 (by decide) ?_
  refine x_bipush hC (7 : Int32) dX9_isCell_2 (by decide) ?_
  obtain ⟨x1, e2, hr⟩ := lz_s hr
  refine x_callS (As := [.int a0, .int (0 : Int32), .int (7 : Int32)]) hC (c_X9_isWithin l G M a0 (0 : Int32) (7 : Int32) e2.symm) kc_yX9_isWithin km_X9_144 kt_yX9_isWithin kn_RX9 ky_yX9_isWithin rfl ⟨rfl, rfl⟩ ⟨(Nat.le_of_ble_eq_true rfl), (Nat.le_of_ble_eq_true rfl)⟩ rfl (Nat.le_of_ble_eq_true rfl) ⟨(Nat.le_of_ble_eq_true rfl), (Nat.le_of_ble_eq_true rfl)⟩ dX9_isCell_4 (fun b3 => ?_)
  refine x_if_eq hC 24 dX9_isCell_7 (by decide) (fun h4 => ?_) (fun h4 => ?_)
  · have hr := (ie_s hr).1 h4
    refine x_iconst hC (0 : Int32) dX9_isCell_24 (by decide) ?_
    subst hr
    exact x_zret hC rfl (Or.inl rfl) dX9_isCell_25
  · have hr := (ie_s hr).2 h4
    refine x_iload_n hC dX9_isCell_10 rfl 1 rfl ?_
    refine x_iconst hC (0 : Int32) dX9_isCell_11 (by decide) ?_
    refine x_bipush hC (7 : Int32) dX9_isCell_12 (by decide) ?_
    obtain ⟨x5, e6, hr⟩ := lz_s hr
    refine x_callS (As := [.int a1, .int (0 : Int32), .int (7 : Int32)]) hC (c_X9_isWithin l G M a1 (0 : Int32) (7 : Int32) e6.symm) kc_yX9_isWithin km_X9_144 kt_yX9_isWithin kn_RX9 ky_yX9_isWithin rfl ⟨rfl, rfl⟩ ⟨(Nat.le_of_ble_eq_true rfl), (Nat.le_of_ble_eq_true rfl)⟩ rfl (Nat.le_of_ble_eq_true rfl) ⟨(Nat.le_of_ble_eq_true rfl), (Nat.le_of_ble_eq_true rfl)⟩ dX9_isCell_14 (fun b7 => ?_)
    refine x_if_eq hC 24 dX9_isCell_17 (by decide) (fun h8 => ?_) (fun h8 => ?_)
    · have hr := (ie_s hr).1 h8
      refine x_iconst hC (0 : Int32) dX9_isCell_24 (by decide) ?_
      subst hr
      exact x_zret hC rfl (Or.inl rfl) dX9_isCell_25
    · have hr := (ie_s hr).2 h8
      refine x_iconst hC (1 : Int32) dX9_isCell_20 (by decide) ?_
      refine x_goto hC 25 dX9_isCell_21 (by decide) ?_
      subst hr
      exact x_zret hC rfl (Or.inr rfl) dX9_isCell_25

theorem dX9_sumOf_0 : decode cX9_sumOf 0 = .ok (.iconst 0, 1) := by decide +kernel
theorem dX9_sumOf_1 : decode cX9_sumOf 1 = .ok (.istore_n 1, 1) := by decide +kernel
theorem dX9_sumOf_2 : decode cX9_sumOf 2 = .ok (.aload_n 0, 1) := by decide +kernel
theorem dX9_sumOf_3 : decode cX9_sumOf 3 = .ok (.astore_n 2, 1) := by decide +kernel
theorem dX9_sumOf_4 : decode cX9_sumOf 4 = .ok (.aload_n 2, 1) := by decide +kernel
theorem dX9_sumOf_5 : decode cX9_sumOf 5 = .ok (.arraylength, 1) := by decide +kernel
theorem dX9_sumOf_6 : decode cX9_sumOf 6 = .ok (.istore_n 3, 1) := by decide +kernel
theorem dX9_sumOf_7 : decode cX9_sumOf 7 = .ok (.iconst 0, 1) := by decide +kernel
theorem dX9_sumOf_8 : decode cX9_sumOf 8 = .ok (.istore 4, 2) := by decide +kernel
theorem dX9_sumOf_10 : decode cX9_sumOf 10 = .ok (.iload 4, 2) := by decide +kernel
theorem dX9_sumOf_12 : decode cX9_sumOf 12 = .ok (.iload_n 3, 1) := by decide +kernel
theorem dX9_sumOf_13 : decode cX9_sumOf 13 = .ok (.if_icmp .ge 20, 3) := by decide +kernel
theorem dX9_sumOf_16 : decode cX9_sumOf 16 = .ok (.aload_n 2, 1) := by decide +kernel
theorem dX9_sumOf_17 : decode cX9_sumOf 17 = .ok (.iload 4, 2) := by decide +kernel
theorem dX9_sumOf_19 : decode cX9_sumOf 19 = .ok (.iaload, 1) := by decide +kernel
theorem dX9_sumOf_20 : decode cX9_sumOf 20 = .ok (.istore 5, 2) := by decide +kernel
theorem dX9_sumOf_22 : decode cX9_sumOf 22 = .ok (.iload_n 1, 1) := by decide +kernel
theorem dX9_sumOf_23 : decode cX9_sumOf 23 = .ok (.iload 5, 2) := by decide +kernel
theorem dX9_sumOf_25 : decode cX9_sumOf 25 = .ok (.iadd, 1) := by decide +kernel
theorem dX9_sumOf_26 : decode cX9_sumOf 26 = .ok (.istore_n 1, 1) := by decide +kernel
theorem dX9_sumOf_27 : decode cX9_sumOf 27 = .ok (.iinc 4 1, 3) := by decide +kernel
theorem dX9_sumOf_30 : decode cX9_sumOf 30 = .ok (.goto (-20), 3) := by decide +kernel
theorem dX9_sumOf_33 : decode cX9_sumOf 33 = .ok (.iload_n 1, 1) := by decide +kernel
theorem dX9_sumOf_34 : decode cX9_sumOf 34 = .ok (.ireturn, 1) := by decide +kernel
def f_X9_sumOf_L10 (i0 : Nat) (a3 : Int32) (M : Mm) : Nat → Int32 → Int32 → Option (Int32)
  | 0, _, _ => none
  | n + 1, v1, v4 =>
    if (a3 ≤ v4) then (some (v1)) else (if 0 ≤ v4.toInt ∧ v4.toInt < ((64 : Nat) : Int) then (lz (v4 + (1 : Int32)) fun x3 => f_X9_sumOf_L10 i0 a3 M n (v1 + (M i0 (ix v4))) x3) else none)
def f_X9_sumOf (i0 : Nat) (M : Mm) : Option Int32 :=
  bd1 (f_X9_sumOf_L10 i0 (64 : Int32) M FU (0 : Int32) (0 : Int32)) fun x6 => some x6
set_option maxHeartbeats 4000000 in
set_option maxRecDepth 100000 in
theorem l_X9_sumOf_L10 {p : Program} {e : Env} {s : State} {m : MethodId} {args : Array Value} {below : List Frame} {meth : Method} {c : Code} {l : Launch} {G : GG} {Q : State → Prop} (hC : CX p s m args meth c cX9_sumOf 6 RX9 (some .int) G) {i0 : Nat} (hi0 : kd i0 = (20, 64)) (a3 : Int32) (M : Mm) : ∀ (n : Nat) (v1 : Int32) (v4 : Int32) {o1 : Int32} (hr : f_X9_sumOf_L10 i0 a3 M n v1 v4 = some (o1)) (K : XJ p l e (RM 0 0 0 0) s m args below meth c G 6 Q 0 0 M 33 [(1, .int o1)] []), XJ p l e (RM 0 0 0 0) s m args below meth c G 6 Q 0 0 M 10 [(1, .int v1), (2, .ref (G.2.1 i0)), (3, .int a3), (4, .int v4)] [] := by
  intro n
  induction n with
  | zero => intro v1 v4 o1 hr K; rw [f_X9_sumOf_L10] at hr; cases hr
  | succ n ih =>
    intro v1 v4 o1 hr K
    rw [f_X9_sumOf_L10] at hr
    refine x_iload hC dX9_sumOf_10 3 rfl ?_
    refine x_iload_n hC dX9_sumOf_12 rfl 2 rfl ?_
    refine x_icmp_ge hC 33 dX9_sumOf_13 (by decide) (fun h1 => ?_) (fun h1 => ?_)
    · have hr := (ie_s hr).1 h1
      cases hr
      exact x_sub [0] rfl K
    · have hr := (ie_s hr).2 h1
      refine x_aload_n hC dX9_sumOf_16 rfl 1 rfl ?_
      refine x_iload hC dX9_sumOf_17 3 rfl ?_
      obtain ⟨h2, hr⟩ := it_s hr
      refine x_iald hC hi0 h2 dX9_sumOf_19 ?_
      refine x_istore hC [(5, .int (M i0 (ix v4))), (1, .int v1), (2, .ref (G.2.1 i0)), (3, .int a3), (4, .int v4)] dX9_sumOf_20  (Nat.le_of_ble_eq_true rfl) rfl ?_
      refine x_iload_n hC dX9_sumOf_22 rfl 1 rfl ?_
      refine x_iload hC dX9_sumOf_23 0 rfl ?_
      refine x_iadd hC dX9_sumOf_25 ?_
      refine x_istore_n hC [(1, .int (v1 + (M i0 (ix v4)))), (5, .int (M i0 (ix v4))), (2, .ref (G.2.1 i0)), (3, .int a3), (4, .int v4)] dX9_sumOf_26 rfl (Nat.le_of_ble_eq_true rfl) rfl ?_
      obtain ⟨x3, e4, hr⟩ := lz_s hr
      refine x_iinc hC [(4, .int x3), (1, .int (v1 + (M i0 (ix v4)))), (5, .int (M i0 (ix v4))), (2, .ref (G.2.1 i0)), (3, .int a3)] dX9_sumOf_27 4 rfl (by rw [e4]; rfl) (Nat.le_of_ble_eq_true rfl) rfl ?_
      refine x_goto hC 10 dX9_sumOf_30 (by decide) ?_
      exact x_sub [1, 3, 4, 0] rfl (ih (v1 + (M i0 (ix v4))) x3 hr K)
set_option maxHeartbeats 4000000 in
set_option maxRecDepth 100000 in
theorem c_X9_sumOf (l : Launch) (G : GG) (M : Mm) {i0 : Nat} (hi0 : kd i0 = (20, 64)) {r : Int32} (hr : f_X9_sumOf i0 M = some r) : Mo false l yX9_sumOf (WS yX9_sumOf cX9_sumOf 6 (some .int)) (RM 0 0 0 0) 0 0 [.ref (G.2.1 i0)] G M (some (.int r)) M := by
  refine Mo.of (by decide +kernel) (Nat.le_of_ble_eq_true rfl) ?_
  intro p e s m args below meth c hC
  have hC : CX p s m args meth c cX9_sumOf 6 RX9 (some .int) G := hC
  rw [f_X9_sumOf] at hr
  show XJ p l e (RM 0 0 0 0) s m args below meth c G 6 _ 0 0 M 0 [(0, .ref (G.2.1 i0))] []
  refine x_iconst hC (0 : Int32) dX9_sumOf_0 (by decide) ?_
  refine x_istore_n hC [(1, .int (0 : Int32)), (0, .ref (G.2.1 i0))] dX9_sumOf_1 rfl (Nat.le_of_ble_eq_true rfl) rfl ?_
  refine x_aload_n hC dX9_sumOf_2 rfl 1 rfl ?_
  refine x_astore_n hC [(2, .ref (G.2.1 i0)), (1, .int (0 : Int32)), (0, .ref (G.2.1 i0))] dX9_sumOf_3 rfl (Nat.le_of_ble_eq_true rfl) rfl ?_
  refine x_aload_n hC dX9_sumOf_4 rfl 0 rfl ?_
  refine x_alen hC (64 : Int32) hi0 (by decide) dX9_sumOf_5 ?_
  refine x_istore_n hC [(3, .int (64 : Int32)), (2, .ref (G.2.1 i0)), (1, .int (0 : Int32)), (0, .ref (G.2.1 i0))] dX9_sumOf_6 rfl (Nat.le_of_ble_eq_true rfl) rfl ?_
  refine x_iconst hC (0 : Int32) dX9_sumOf_7 (by decide) ?_
  refine x_istore hC [(4, .int (0 : Int32)), (3, .int (64 : Int32)), (2, .ref (G.2.1 i0)), (1, .int (0 : Int32)), (0, .ref (G.2.1 i0))] dX9_sumOf_8  (Nat.le_of_ble_eq_true rfl) rfl ?_
  obtain ⟨x6, q5, hr⟩ := bd1_s hr
  refine x_sub [3, 2, 1, 0] rfl (l_X9_sumOf_L10 hC hi0 (64 : Int32) M FU  (0 : Int32) (0 : Int32) q5 ?_)
  refine x_iload_n hC dX9_sumOf_33 rfl 0 rfl ?_
  cases hr
  exact x_iret hC rfl dX9_sumOf_34

theorem dX9_cellAt_0 : decode cX9_cellAt 0 = .ok (.iload_n 1, 1) := by decide +kernel
theorem dX9_cellAt_1 : decode cX9_cellAt 1 = .ok (.bipush 8, 2) := by decide +kernel
theorem dX9_cellAt_3 : decode cX9_cellAt 3 = .ok (.imul, 1) := by decide +kernel
theorem dX9_cellAt_4 : decode cX9_cellAt 4 = .ok (.iload_n 0, 1) := by decide +kernel
theorem dX9_cellAt_5 : decode cX9_cellAt 5 = .ok (.iadd, 1) := by decide +kernel
theorem dX9_cellAt_6 : decode cX9_cellAt 6 = .ok (.ireturn, 1) := by decide +kernel

def f_X9_cellAt (a0 : Int32) (a1 : Int32) : Int32 :=
  ((a1 * (8 : Int32)) + a0)

set_option maxHeartbeats 4000000 in
set_option maxRecDepth 100000 in
theorem c_X9_cellAt (l : Launch) (G : GG) (M : Mm) (a0 : Int32) (a1 : Int32) {r : Int32} (hr : f_X9_cellAt a0 a1 = r) : Mo false l yX9_cellAt (WS yX9_cellAt cX9_cellAt 2 (some .int)) (RM 0 0 0 0) 0 0 [.int a0, .int a1] G M (some (.int r)) M := by
  refine Mo.of (by decide +kernel) (Nat.le_of_ble_eq_true rfl) ?_
  intro p e s m args below meth c hC
  have hC : CX p s m args meth c cX9_cellAt 2 RX9 (some .int) G := hC
  rw [f_X9_cellAt] at hr
  show XJ p l e (RM 0 0 0 0) s m args below meth c G 2 _ 0 0 M 0 [(0, .int a0), (1, .int a1)] []
  refine x_iload_n hC dX9_cellAt_0 rfl 1 rfl ?_
  refine x_bipush hC (8 : Int32) dX9_cellAt_1 (by decide) ?_
  refine x_imul hC dX9_cellAt_3 ?_
  refine x_iload_n hC dX9_cellAt_4 rfl 0 rfl ?_
  refine x_iadd hC dX9_cellAt_5 ?_
  subst hr
  exact x_iret hC rfl dX9_cellAt_6

theorem dX9_mixed_0 : decode cX9_mixed 0 = .ok (.iload_n 0, 1) := by decide +kernel
theorem dX9_mixed_1 : decode cX9_mixed 1 = .ok (.iload_n 2, 1) := by decide +kernel
theorem dX9_mixed_2 : decode cX9_mixed 2 = .ok (.iadd, 1) := by decide +kernel
theorem dX9_mixed_3 : decode cX9_mixed 3 = .ok (.istore 4, 2) := by decide +kernel
theorem dX9_mixed_5 : decode cX9_mixed 5 = .ok (.iload 4, 2) := by decide +kernel
theorem dX9_mixed_7 : decode cX9_mixed 7 = .ok (.ifCond .ne 7, 3) := by decide +kernel
theorem dX9_mixed_10 : decode cX9_mixed 10 = .ok (.iconst 0, 1) := by decide +kernel
theorem dX9_mixed_11 : decode cX9_mixed 11 = .ok (.goto 13, 3) := by decide +kernel
theorem dX9_mixed_14 : decode cX9_mixed 14 = .ok (.iload_n 1, 1) := by decide +kernel
theorem dX9_mixed_15 : decode cX9_mixed 15 = .ok (.iload_n 0, 1) := by decide +kernel
theorem dX9_mixed_16 : decode cX9_mixed 16 = .ok (.imul, 1) := by decide +kernel
theorem dX9_mixed_17 : decode cX9_mixed 17 = .ok (.iload_n 3, 1) := by decide +kernel
theorem dX9_mixed_18 : decode cX9_mixed 18 = .ok (.iload_n 2, 1) := by decide +kernel
theorem dX9_mixed_19 : decode cX9_mixed 19 = .ok (.imul, 1) := by decide +kernel
theorem dX9_mixed_20 : decode cX9_mixed 20 = .ok (.iadd, 1) := by decide +kernel
theorem dX9_mixed_21 : decode cX9_mixed 21 = .ok (.iload 4, 2) := by decide +kernel
theorem dX9_mixed_23 : decode cX9_mixed 23 = .ok (.idiv, 1) := by decide +kernel
theorem dX9_mixed_24 : decode cX9_mixed 24 = .ok (.ireturn, 1) := by decide +kernel

def f_X9_mixed (a0 : Int32) (a1 : Int32) (a2 : Int32) (a3 : Int32) (M : Mm) : Option Int32 :=
  if ((a0 + a2) = 0) then (some (0 : Int32)) else (if ¬ ((a0 + a2) = 0) then (some (((a1 * a0) + (a3 * a2)) / (a0 + a2))) else none)

set_option maxHeartbeats 4000000 in
set_option maxRecDepth 100000 in
theorem c_X9_mixed (l : Launch) (G : GG) (M : Mm) (a0 : Int32) (a1 : Int32) (a2 : Int32) (a3 : Int32) {r : Int32} (hr : f_X9_mixed a0 a1 a2 a3 M = some r) : Mo false l yX9_mixed (WS yX9_mixed cX9_mixed 5 (some .int)) (RM 0 0 0 0) 0 0 [.int a0, .int a1, .int a2, .int a3] G M (some (.int r)) M := by
  refine Mo.of (by decide +kernel) (Nat.le_of_ble_eq_true rfl) ?_
  intro p e s m args below meth c hC
  have hC : CX p s m args meth c cX9_mixed 5 RX9 (some .int) G := hC
  rw [f_X9_mixed] at hr
  show XJ p l e (RM 0 0 0 0) s m args below meth c G 5 _ 0 0 M 0 [(0, .int a0), (1, .int a1), (2, .int a2), (3, .int a3)] []
  refine x_iload_n hC dX9_mixed_0 rfl 0 rfl ?_
  refine x_iload_n hC dX9_mixed_1 rfl 2 rfl ?_
  refine x_iadd hC dX9_mixed_2 ?_
  refine x_istore hC [(4, .int (a0 + a2)), (0, .int a0), (1, .int a1), (2, .int a2), (3, .int a3)] dX9_mixed_3  (Nat.le_of_ble_eq_true rfl) rfl ?_
  refine x_iload hC dX9_mixed_5 0 rfl ?_
  refine x_if_ne hC 14 dX9_mixed_7 (by decide) (fun h1 => ?_) (fun h1 => ?_)
  · have hr := (ie_s hr).2 h1
    refine x_iload_n hC dX9_mixed_14 rfl 2 rfl ?_
    refine x_iload_n hC dX9_mixed_15 rfl 1 rfl ?_
    refine x_imul hC dX9_mixed_16 ?_
    refine x_iload_n hC dX9_mixed_17 rfl 4 rfl ?_
    refine x_iload_n hC dX9_mixed_18 rfl 3 rfl ?_
    refine x_imul hC dX9_mixed_19 ?_
    refine x_iadd hC dX9_mixed_20 ?_
    refine x_iload hC dX9_mixed_21 0 rfl ?_
    obtain ⟨h2, hr⟩ := it_s hr
    refine x_idiv hC dX9_mixed_23 h2 ?_
    cases hr
    exact x_iret hC rfl dX9_mixed_24
  · have hr := (ie_s hr).1 h1
    refine x_iconst hC (0 : Int32) dX9_mixed_10 (by decide) ?_
    refine x_goto hC 24 dX9_mixed_11 (by decide) ?_
    cases hr
    exact x_iret hC rfl dX9_mixed_24

theorem dX9_held_0 : decode cX9_held 0 = .ok (.iconst 0, 1) := by decide +kernel
theorem dX9_held_1 : decode cX9_held 1 = .ok (.iload_n 1, 1) := by decide +kernel
theorem dX9_held_2 : decode cX9_held 2 = .ok (.iload_n 0, 1) := by decide +kernel
theorem dX9_held_3 : decode cX9_held 3 = .ok (.invokestatic 231, 3) := by decide +kernel
theorem dX9_held_6 : decode cX9_held 6 = .ok (.invokestatic 236, 3) := by decide +kernel
theorem dX9_held_9 : decode cX9_held 9 = .ok (.ireturn, 1) := by decide +kernel

def f_X9_held (a0 : Int32) (a1 : Int32) : Int32 :=
  (imax (0 : Int32) (imin a1 a0))

set_option maxHeartbeats 4000000 in
set_option maxRecDepth 100000 in
theorem c_X9_held (l : Launch) (G : GG) (M : Mm) (a0 : Int32) (a1 : Int32) {r : Int32} (hr : f_X9_held a0 a1 = r) : Mo false l yX9_held (WS yX9_held cX9_held 2 (some .int)) (RM 1 0 0 40) 0 0 [.int a0, .int a1] G M (some (.int r)) M := by
  refine Mo.of (by decide +kernel) (Nat.le_of_ble_eq_true rfl) ?_
  intro p e s m args below meth c hC
  have hC : CX p s m args meth c cX9_held 2 RX9 (some .int) G := hC
  rw [f_X9_held] at hr
  show XJ p l e (RM 1 0 0 40) s m args below meth c G 2 _ 0 0 M 0 [(0, .int a0), (1, .int a1)] []
  refine x_iconst hC (0 : Int32) dX9_held_0 (by decide) ?_
  refine x_iload_n hC dX9_held_1 rfl 1 rfl ?_
  refine x_iload_n hC dX9_held_2 rfl 0 rfl ?_
  refine x_mmin hC km_X9_231 kt_Mmin kn_Math kc_Mmin (Nat.le_of_ble_eq_true rfl) (Nat.le_of_ble_eq_true rfl) ⟨(Nat.le_of_ble_eq_true rfl), (Nat.le_of_ble_eq_true rfl)⟩ dX9_held_3 ?_
  refine x_mmax hC km_X9_236 kt_Mmax kn_Math kc_Mmax (Nat.le_of_ble_eq_true rfl) (Nat.le_of_ble_eq_true rfl) ⟨(Nat.le_of_ble_eq_true rfl), (Nat.le_of_ble_eq_true rfl)⟩ dX9_held_6 ?_
  subst hr
  exact x_iret hC rfl dX9_held_9

theorem dX9_wetnessBehindNight_0 : decode cX9_wetnessBehindNight 0 = .ok (.iconst 2, 1) := by decide +kernel
theorem dX9_wetnessBehindNight_1 : decode cX9_wetnessBehindNight 1 = .ok (.iload_n 2, 1) := by decide +kernel
theorem dX9_wetnessBehindNight_2 : decode cX9_wetnessBehindNight 2 = .ok (.imul, 1) := by decide +kernel
theorem dX9_wetnessBehindNight_3 : decode cX9_wetnessBehindNight 3 = .ok (.iload_n 3, 1) := by decide +kernel
theorem dX9_wetnessBehindNight_4 : decode cX9_wetnessBehindNight 4 = .ok (.isub, 1) := by decide +kernel
theorem dX9_wetnessBehindNight_5 : decode cX9_wetnessBehindNight 5 = .ok (.iload_n 1, 1) := by decide +kernel
theorem dX9_wetnessBehindNight_6 : decode cX9_wetnessBehindNight 6 = .ok (.ifCond .eq 7, 3) := by decide +kernel
theorem dX9_wetnessBehindNight_9 : decode cX9_wetnessBehindNight 9 = .ok (.iload_n 3, 1) := by decide +kernel
theorem dX9_wetnessBehindNight_10 : decode cX9_wetnessBehindNight 10 = .ok (.goto 4, 3) := by decide +kernel
theorem dX9_wetnessBehindNight_13 : decode cX9_wetnessBehindNight 13 = .ok (.iconst 0, 1) := by decide +kernel
theorem dX9_wetnessBehindNight_14 : decode cX9_wetnessBehindNight 14 = .ok (.isub, 1) := by decide +kernel
theorem dX9_wetnessBehindNight_15 : decode cX9_wetnessBehindNight 15 = .ok (.istore 4, 2) := by decide +kernel
theorem dX9_wetnessBehindNight_17 : decode cX9_wetnessBehindNight 17 = .ok (.iload_n 0, 1) := by decide +kernel
theorem dX9_wetnessBehindNight_18 : decode cX9_wetnessBehindNight 18 = .ok (.iload 4, 2) := by decide +kernel
theorem dX9_wetnessBehindNight_20 : decode cX9_wetnessBehindNight 20 = .ok (.iadd, 1) := by decide +kernel
theorem dX9_wetnessBehindNight_21 : decode cX9_wetnessBehindNight 21 = .ok (.bipush 20, 2) := by decide +kernel
theorem dX9_wetnessBehindNight_23 : decode cX9_wetnessBehindNight 23 = .ok (.invokestatic 228, 3) := by decide +kernel
theorem dX9_wetnessBehindNight_26 : decode cX9_wetnessBehindNight 26 = .ok (.ireturn, 1) := by decide +kernel

def f_X9_wetnessBehindNight (a0 : Int32) (a1 : Int32) (a2 : Int32) (a3 : Int32) : Int32 :=
  lz (if (a1 = 0) then ((0 : Int32)) else (a3)) fun x3 => lz ((((2 : Int32) * a2) - a3) - x3) fun x5 => lz (f_X9_held (a0 + x5) (20 : Int32)) fun x7 => x7

set_option maxHeartbeats 4000000 in
set_option maxRecDepth 100000 in
theorem c_X9_wetnessBehindNight (l : Launch) (G : GG) (M : Mm) (a0 : Int32) (a1 : Int32) (a2 : Int32) (a3 : Int32) {r : Int32} (hr : f_X9_wetnessBehindNight a0 a1 a2 a3 = r) : Mo false l yX9_wetnessBehindNight (WS yX9_wetnessBehindNight cX9_wetnessBehindNight 5 (some .int)) (RM 2 0 0 61) 0 0 [.int a0, .int a1, .int a2, .int a3] G M (some (.int r)) M := by
  refine Mo.of (by decide +kernel) (Nat.le_of_ble_eq_true rfl) ?_
  intro p e s m args below meth c hC
  have hC : CX p s m args meth c cX9_wetnessBehindNight 5 RX9 (some .int) G := hC
  rw [f_X9_wetnessBehindNight] at hr
  show XJ p l e (RM 2 0 0 61) s m args below meth c G 5 _ 0 0 M 0 [(0, .int a0), (1, .int a1), (2, .int a2), (3, .int a3)] []
  refine x_iconst hC (2 : Int32) dX9_wetnessBehindNight_0 (by decide) ?_
  refine x_iload_n hC dX9_wetnessBehindNight_1 rfl 2 rfl ?_
  refine x_imul hC dX9_wetnessBehindNight_2 ?_
  refine x_iload_n hC dX9_wetnessBehindNight_3 rfl 3 rfl ?_
  refine x_isub hC dX9_wetnessBehindNight_4 ?_
  refine x_iload_n hC dX9_wetnessBehindNight_5 rfl 1 rfl ?_
  obtain ⟨x3, e4, hr⟩ := lz_s hr
  have q1 := e4.symm
  refine x_join (M' := M) (pc' := 14) (lv' := [(0, .int a0)]) (st' := [.int x3, .int (((2 : Int32) * a2) - a3)]) ?_ ?_
  · refine x_isub hC dX9_wetnessBehindNight_14 ?_
    obtain ⟨x5, e6, hr⟩ := lz_s hr
    refine x_topi e6 ?_
    refine x_istore hC [(4, .int x5), (0, .int a0)] dX9_wetnessBehindNight_15  (Nat.le_of_ble_eq_true rfl) rfl ?_
    refine x_iload_n hC dX9_wetnessBehindNight_17 rfl 1 rfl ?_
    refine x_iload hC dX9_wetnessBehindNight_18 0 rfl ?_
    refine x_iadd hC dX9_wetnessBehindNight_20 ?_
    refine x_bipush hC (20 : Int32) dX9_wetnessBehindNight_21 (by decide) ?_
    obtain ⟨x7, e8, hr⟩ := lz_s hr
    refine x_callS (As := [.int (a0 + x5), .int (20 : Int32)]) hC (c_X9_held l G M (a0 + x5) (20 : Int32) e8.symm) kc_yX9_held km_X9_228 kt_yX9_held kn_RX9 ky_yX9_held rfl ⟨rfl, rfl⟩ ⟨(Nat.le_of_ble_eq_true rfl), (Nat.le_of_ble_eq_true rfl)⟩ rfl (Nat.le_of_ble_eq_true rfl) ⟨(Nat.le_of_ble_eq_true rfl), (Nat.le_of_ble_eq_true rfl)⟩ dX9_wetnessBehindNight_23 (fun b9 => ?_)
    subst hr
    exact x_iret hC rfl dX9_wetnessBehindNight_26
  · intro kj
    refine x_if_eq hC 13 dX9_wetnessBehindNight_6 (by decide) (fun h2 => ?_) (fun h2 => ?_)
    · have q1 := (ie_s q1).1 h2
      refine x_iconst hC (0 : Int32) dX9_wetnessBehindNight_13 (by decide) ?_
      subst q1
      exact x_sub [0] rfl kj
    · have q1 := (ie_s q1).2 h2
      refine x_iload_n hC dX9_wetnessBehindNight_9 rfl 3 rfl ?_
      refine x_goto hC 14 dX9_wetnessBehindNight_10 (by decide) ?_
      subst q1
      exact x_sub [0] rfl kj
