theorem dX10_pile_0 : decode cX10_pile 0 = .ok (.aload_n 0, 1) := by decide +kernel
theorem dX10_pile_1 : decode cX10_pile 1 = .ok (.getfield 21, 3) := by decide +kernel
theorem dX10_pile_4 : decode cX10_pile 4 = .ok (.iload_n 1, 1) := by decide +kernel
theorem dX10_pile_5 : decode cX10_pile 5 = .ok (.aload_n 0, 1) := by decide +kernel
theorem dX10_pile_6 : decode cX10_pile 6 = .ok (.getfield 21, 3) := by decide +kernel
theorem dX10_pile_9 : decode cX10_pile 9 = .ok (.iload_n 1, 1) := by decide +kernel
theorem dX10_pile_10 : decode cX10_pile 10 = .ok (.iaload, 1) := by decide +kernel
theorem dX10_pile_11 : decode cX10_pile 11 = .ok (.aload_n 0, 1) := by decide +kernel
theorem dX10_pile_12 : decode cX10_pile 12 = .ok (.getfield 18, 3) := by decide +kernel
theorem dX10_pile_15 : decode cX10_pile 15 = .ok (.iload_n 1, 1) := by decide +kernel
theorem dX10_pile_16 : decode cX10_pile 16 = .ok (.iaload, 1) := by decide +kernel
theorem dX10_pile_17 : decode cX10_pile 17 = .ok (.imul, 1) := by decide +kernel
theorem dX10_pile_18 : decode cX10_pile 18 = .ok (.iload_n 3, 1) := by decide +kernel
theorem dX10_pile_19 : decode cX10_pile 19 = .ok (.iload_n 2, 1) := by decide +kernel
theorem dX10_pile_20 : decode cX10_pile 20 = .ok (.imul, 1) := by decide +kernel
theorem dX10_pile_21 : decode cX10_pile 21 = .ok (.iadd, 1) := by decide +kernel
theorem dX10_pile_22 : decode cX10_pile 22 = .ok (.aload_n 0, 1) := by decide +kernel
theorem dX10_pile_23 : decode cX10_pile 23 = .ok (.getfield 18, 3) := by decide +kernel
theorem dX10_pile_26 : decode cX10_pile 26 = .ok (.iload_n 1, 1) := by decide +kernel
theorem dX10_pile_27 : decode cX10_pile 27 = .ok (.iaload, 1) := by decide +kernel
theorem dX10_pile_28 : decode cX10_pile 28 = .ok (.iload_n 2, 1) := by decide +kernel
theorem dX10_pile_29 : decode cX10_pile 29 = .ok (.iadd, 1) := by decide +kernel
theorem dX10_pile_30 : decode cX10_pile 30 = .ok (.idiv, 1) := by decide +kernel
theorem dX10_pile_31 : decode cX10_pile 31 = .ok (.iastore, 1) := by decide +kernel
theorem dX10_pile_32 : decode cX10_pile 32 = .ok (.aload_n 0, 1) := by decide +kernel
theorem dX10_pile_33 : decode cX10_pile 33 = .ok (.getfield 18, 3) := by decide +kernel
theorem dX10_pile_36 : decode cX10_pile 36 = .ok (.iload_n 1, 1) := by decide +kernel
theorem dX10_pile_37 : decode cX10_pile 37 = .ok (.dup2, 1) := by decide +kernel
theorem dX10_pile_38 : decode cX10_pile 38 = .ok (.iaload, 1) := by decide +kernel
theorem dX10_pile_39 : decode cX10_pile 39 = .ok (.iload_n 2, 1) := by decide +kernel
theorem dX10_pile_40 : decode cX10_pile 40 = .ok (.iadd, 1) := by decide +kernel
theorem dX10_pile_41 : decode cX10_pile 41 = .ok (.iastore, 1) := by decide +kernel
theorem dX10_pile_42 : decode cX10_pile 42 = .ok (.return_, 1) := by decide +kernel

def f_X10_pile (i0 : Nat) (a1 : Int32) (a2 : Int32) (a3 : Int32) (M : Mm) : Option Mm :=
  if 0 ≤ a1.toInt ∧ a1.toInt < ((64 : Nat) : Int) then (if 0 ≤ a1.toInt ∧ a1.toInt < ((64 : Nat) : Int) then (if 0 ≤ a1.toInt ∧ a1.toInt < ((64 : Nat) : Int) then (if ¬ (((M (i0 + 3) (ix a1)) + a2) = 0) then (lz ((((M (i0 + 4) (ix a1)) * (M (i0 + 3) (ix a1))) + (a3 * a2)) / ((M (i0 + 3) (ix a1)) + a2)) fun x5 => if 0 ≤ a1.toInt ∧ a1.toInt < ((64 : Nat) : Int) then (lz (wr M (i0 + 4) (ix a1) x5) fun M8 => if 0 ≤ a1.toInt ∧ a1.toInt < ((64 : Nat) : Int) then (if 0 ≤ a1.toInt ∧ a1.toInt < ((64 : Nat) : Int) then (lz (wr M8 (i0 + 3) (ix a1) ((M8 (i0 + 3) (ix a1)) + a2)) fun M12 => some M12) else none) else none) else none) else none) else none) else none) else none

set_option maxHeartbeats 4000000 in
set_option maxRecDepth 100000 in
theorem c_X10_pile (l : Launch) (G : GG) (M : Mm) {i0 : Nat} (hi0 : (kd i0).1 = 4) (a1 : Int32) (a2 : Int32) (a3 : Int32) {M9 : Mm} (hr : f_X10_pile i0 a1 a2 a3 M = some M9) : Mo false l yX10_pile (WS yX10_pile cX10_pile 4 none) (RM 0 0 0 0) 0 0 [.ref (G.2.1 i0), .int a1, .int a2, .int a3] G M none M9 := by
  refine Mo.of (by decide +kernel) (Nat.le_of_ble_eq_true rfl) ?_
  intro p e s m args below meth c hC
  have hC : CX p s m args meth c cX10_pile 4 RX10 none G := hC
  rw [f_X10_pile] at hr
  show XJ p l e (RM 0 0 0 0) s m args below meth c G 4 _ 0 0 M 0 [(0, .ref (G.2.1 i0)), (1, .int a1), (2, .int a2), (3, .int a3)] []
  refine x_aload_n hC dX10_pile_0 rfl 0 rfl ?_
  refine gf_X10_21 hC hi0 dX10_pile_1 ?_
  refine x_iload_n hC dX10_pile_4 rfl 1 rfl ?_
  refine x_aload_n hC dX10_pile_5 rfl 0 rfl ?_
  refine gf_X10_21 hC hi0 dX10_pile_6 ?_
  refine x_iload_n hC dX10_pile_9 rfl 1 rfl ?_
  obtain ⟨h1, hr⟩ := it_s hr
  refine x_iald hC (kr_4_9 hi0) h1 dX10_pile_10 ?_
  refine x_aload_n hC dX10_pile_11 rfl 0 rfl ?_
  refine gf_X10_18 hC hi0 dX10_pile_12 ?_
  refine x_iload_n hC dX10_pile_15 rfl 1 rfl ?_
  obtain ⟨h2, hr⟩ := it_s hr
  refine x_iald hC (kr_4_8 hi0) h2 dX10_pile_16 ?_
  refine x_imul hC dX10_pile_17 ?_
  refine x_iload_n hC dX10_pile_18 rfl 3 rfl ?_
  refine x_iload_n hC dX10_pile_19 rfl 2 rfl ?_
  refine x_imul hC dX10_pile_20 ?_
  refine x_iadd hC dX10_pile_21 ?_
  refine x_aload_n hC dX10_pile_22 rfl 0 rfl ?_
  refine gf_X10_18 hC hi0 dX10_pile_23 ?_
  refine x_iload_n hC dX10_pile_26 rfl 1 rfl ?_
  obtain ⟨h3, hr⟩ := it_s hr
  refine x_iald hC (kr_4_8 hi0) h3 dX10_pile_27 ?_
  refine x_iload_n hC dX10_pile_28 rfl 2 rfl ?_
  refine x_iadd hC dX10_pile_29 ?_
  obtain ⟨h4, hr⟩ := it_s hr
  refine x_idiv hC dX10_pile_30 h4 ?_
  obtain ⟨x5, e6, hr⟩ := lz_s hr
  refine x_topi e6 ?_
  obtain ⟨h7, hr⟩ := it_s hr
  obtain ⟨M8, e9, hr⟩ := lz_s hr
  refine x_iast hC (kr_4_9 hi0) h7 e9 dX10_pile_31 ?_
  refine x_aload_n hC dX10_pile_32 rfl 0 rfl ?_
  refine gf_X10_18 hC hi0 dX10_pile_33 ?_
  refine x_iload_n hC dX10_pile_36 rfl 1 rfl ?_
  refine x_dup2 hC dX10_pile_37 rfl rfl ?_
  obtain ⟨h10, hr⟩ := it_s hr
  refine x_iald hC (kr_4_8 hi0) h10 dX10_pile_38 ?_
  refine x_iload_n hC dX10_pile_39 rfl 2 rfl ?_
  refine x_iadd hC dX10_pile_40 ?_
  obtain ⟨h11, hr⟩ := it_s hr
  obtain ⟨M12, e13, hr⟩ := lz_s hr
  refine x_iast hC (kr_4_8 hi0) h11 e13 dX10_pile_41 ?_
  cases hr
  exact x_vret hC rfl dX10_pile_42

theorem dX10_take_0 : decode cX10_take 0 = .ok (.aload_n 0, 1) := by decide +kernel
theorem dX10_take_1 : decode cX10_take 1 = .ok (.getfield 18, 3) := by decide +kernel
theorem dX10_take_4 : decode cX10_take 4 = .ok (.iload_n 1, 1) := by decide +kernel
theorem dX10_take_5 : decode cX10_take 5 = .ok (.dup2, 1) := by decide +kernel
theorem dX10_take_6 : decode cX10_take 6 = .ok (.iaload, 1) := by decide +kernel
theorem dX10_take_7 : decode cX10_take 7 = .ok (.iload_n 2, 1) := by decide +kernel
theorem dX10_take_8 : decode cX10_take 8 = .ok (.isub, 1) := by decide +kernel
theorem dX10_take_9 : decode cX10_take 9 = .ok (.iastore, 1) := by decide +kernel
theorem dX10_take_10 : decode cX10_take 10 = .ok (.aload_n 0, 1) := by decide +kernel
theorem dX10_take_11 : decode cX10_take 11 = .ok (.getfield 18, 3) := by decide +kernel
theorem dX10_take_14 : decode cX10_take 14 = .ok (.iload_n 1, 1) := by decide +kernel
theorem dX10_take_15 : decode cX10_take 15 = .ok (.iaload, 1) := by decide +kernel
theorem dX10_take_16 : decode cX10_take 16 = .ok (.ifCond .le 4, 3) := by decide +kernel
theorem dX10_take_19 : decode cX10_take 19 = .ok (.return_, 1) := by decide +kernel
theorem dX10_take_20 : decode cX10_take 20 = .ok (.aload_n 0, 1) := by decide +kernel
theorem dX10_take_21 : decode cX10_take 21 = .ok (.getfield 21, 3) := by decide +kernel
theorem dX10_take_24 : decode cX10_take 24 = .ok (.iload_n 1, 1) := by decide +kernel
theorem dX10_take_25 : decode cX10_take 25 = .ok (.iconst 0, 1) := by decide +kernel
theorem dX10_take_26 : decode cX10_take 26 = .ok (.iastore, 1) := by decide +kernel
theorem dX10_take_27 : decode cX10_take 27 = .ok (.aload_n 0, 1) := by decide +kernel
theorem dX10_take_28 : decode cX10_take 28 = .ok (.getfield 24, 3) := by decide +kernel
theorem dX10_take_31 : decode cX10_take 31 = .ok (.iload_n 1, 1) := by decide +kernel
theorem dX10_take_32 : decode cX10_take 32 = .ok (.iconst 0, 1) := by decide +kernel
theorem dX10_take_33 : decode cX10_take 33 = .ok (.iastore, 1) := by decide +kernel
theorem dX10_take_34 : decode cX10_take 34 = .ok (.return_, 1) := by decide +kernel

def f_X10_take (i0 : Nat) (a1 : Int32) (a2 : Int32) (M : Mm) : Option Mm :=
  if 0 ≤ a1.toInt ∧ a1.toInt < ((64 : Nat) : Int) then (if 0 ≤ a1.toInt ∧ a1.toInt < ((64 : Nat) : Int) then (lz (wr M (i0 + 3) (ix a1) ((M (i0 + 3) (ix a1)) - a2)) fun M3 => if 0 ≤ a1.toInt ∧ a1.toInt < ((64 : Nat) : Int) then (if ((M3 (i0 + 3) (ix a1)) ≤ 0) then (if 0 ≤ a1.toInt ∧ a1.toInt < ((64 : Nat) : Int) then (lz (wr M3 (i0 + 4) (ix a1) (0 : Int32)) fun M8 => if 0 ≤ a1.toInt ∧ a1.toInt < ((64 : Nat) : Int) then (lz (wr M8 (i0 + 5) (ix a1) (0 : Int32)) fun M11 => some M11) else none) else none) else (some M3)) else none) else none) else none

set_option maxHeartbeats 4000000 in
set_option maxRecDepth 100000 in
theorem c_X10_take (l : Launch) (G : GG) (M : Mm) {i0 : Nat} (hi0 : (kd i0).1 = 4) (a1 : Int32) (a2 : Int32) {M9 : Mm} (hr : f_X10_take i0 a1 a2 M = some M9) : Mo false l yX10_take (WS yX10_take cX10_take 3 none) (RM 0 0 0 0) 0 0 [.ref (G.2.1 i0), .int a1, .int a2] G M none M9 := by
  refine Mo.of (by decide +kernel) (Nat.le_of_ble_eq_true rfl) ?_
  intro p e s m args below meth c hC
  have hC : CX p s m args meth c cX10_take 3 RX10 none G := hC
  rw [f_X10_take] at hr
  show XJ p l e (RM 0 0 0 0) s m args below meth c G 3 _ 0 0 M 0 [(0, .ref (G.2.1 i0)), (1, .int a1), (2, .int a2)] []
  refine x_aload_n hC dX10_take_0 rfl 0 rfl ?_
  refine gf_X10_18 hC hi0 dX10_take_1 ?_
  refine x_iload_n hC dX10_take_4 rfl 1 rfl ?_
  refine x_dup2 hC dX10_take_5 rfl rfl ?_
  obtain ⟨h1, hr⟩ := it_s hr
  refine x_iald hC (kr_4_8 hi0) h1 dX10_take_6 ?_
  refine x_iload_n hC dX10_take_7 rfl 2 rfl ?_
  refine x_isub hC dX10_take_8 ?_
  obtain ⟨h2, hr⟩ := it_s hr
  obtain ⟨M3, e4, hr⟩ := lz_s hr
  refine x_iast hC (kr_4_8 hi0) h2 e4 dX10_take_9 ?_
  refine x_aload_n hC dX10_take_10 rfl 0 rfl ?_
  refine gf_X10_18 hC hi0 dX10_take_11 ?_
  refine x_iload_n hC dX10_take_14 rfl 1 rfl ?_
  obtain ⟨h5, hr⟩ := it_s hr
  refine x_iald hC (kr_4_8 hi0) h5 dX10_take_15 ?_
  refine x_if_le hC 20 dX10_take_16 (by decide) (fun h6 => ?_) (fun h6 => ?_)
  · have hr := (ie_s hr).1 h6
    refine x_aload_n hC dX10_take_20 rfl 0 rfl ?_
    refine gf_X10_21 hC hi0 dX10_take_21 ?_
    refine x_iload_n hC dX10_take_24 rfl 1 rfl ?_
    refine x_iconst hC (0 : Int32) dX10_take_25 (by decide) ?_
    obtain ⟨h7, hr⟩ := it_s hr
    obtain ⟨M8, e9, hr⟩ := lz_s hr
    refine x_iast hC (kr_4_9 hi0) h7 e9 dX10_take_26 ?_
    refine x_aload_n hC dX10_take_27 rfl 0 rfl ?_
    refine gf_X10_24 hC hi0 dX10_take_28 ?_
    refine x_iload_n hC dX10_take_31 rfl 1 rfl ?_
    refine x_iconst hC (0 : Int32) dX10_take_32 (by decide) ?_
    obtain ⟨h10, hr⟩ := it_s hr
    obtain ⟨M11, e12, hr⟩ := lz_s hr
    refine x_iast hC (kr_4_10 hi0) h10 e12 dX10_take_33 ?_
    cases hr
    exact x_vret hC rfl dX10_take_34
  · have hr := (ie_s hr).2 h6
    cases hr
    exact x_vret hC rfl dX10_take_19

theorem dX10_all_0 : decode cX10_all 0 = .ok (.iconst 0, 1) := by decide +kernel
theorem dX10_all_1 : decode cX10_all 1 = .ok (.istore_n 2, 1) := by decide +kernel
theorem dX10_all_2 : decode cX10_all 2 = .ok (.aload_n 1, 1) := by decide +kernel
theorem dX10_all_3 : decode cX10_all 3 = .ok (.astore_n 3, 1) := by decide +kernel
theorem dX10_all_4 : decode cX10_all 4 = .ok (.aload_n 3, 1) := by decide +kernel
theorem dX10_all_5 : decode cX10_all 5 = .ok (.arraylength, 1) := by decide +kernel
theorem dX10_all_6 : decode cX10_all 6 = .ok (.istore 4, 2) := by decide +kernel
theorem dX10_all_8 : decode cX10_all 8 = .ok (.iconst 0, 1) := by decide +kernel
theorem dX10_all_9 : decode cX10_all 9 = .ok (.istore 5, 2) := by decide +kernel
theorem dX10_all_11 : decode cX10_all 11 = .ok (.iload 5, 2) := by decide +kernel
theorem dX10_all_13 : decode cX10_all 13 = .ok (.iload 4, 2) := by decide +kernel
theorem dX10_all_15 : decode cX10_all 15 = .ok (.if_icmp .ge 20, 3) := by decide +kernel
theorem dX10_all_18 : decode cX10_all 18 = .ok (.aload_n 3, 1) := by decide +kernel
theorem dX10_all_19 : decode cX10_all 19 = .ok (.iload 5, 2) := by decide +kernel
theorem dX10_all_21 : decode cX10_all 21 = .ok (.iaload, 1) := by decide +kernel
theorem dX10_all_22 : decode cX10_all 22 = .ok (.istore 6, 2) := by decide +kernel
theorem dX10_all_24 : decode cX10_all 24 = .ok (.iload_n 2, 1) := by decide +kernel
theorem dX10_all_25 : decode cX10_all 25 = .ok (.iload 6, 2) := by decide +kernel
theorem dX10_all_27 : decode cX10_all 27 = .ok (.iadd, 1) := by decide +kernel
theorem dX10_all_28 : decode cX10_all 28 = .ok (.istore_n 2, 1) := by decide +kernel
theorem dX10_all_29 : decode cX10_all 29 = .ok (.iinc 5 1, 3) := by decide +kernel
theorem dX10_all_32 : decode cX10_all 32 = .ok (.goto (-21), 3) := by decide +kernel
theorem dX10_all_35 : decode cX10_all 35 = .ok (.iload_n 2, 1) := by decide +kernel
theorem dX10_all_36 : decode cX10_all 36 = .ok (.ireturn, 1) := by decide +kernel
def f_X10_all_L11 (i0 : Nat) (i1 : Nat) (a4 : Int32) (M : Mm) : Nat → Int32 → Int32 → Option (Int32)
  | 0, _, _ => none
  | n + 1, v2, v5 =>
    if (a4 ≤ v5) then (some (v2)) else (if 0 ≤ v5.toInt ∧ v5.toInt < ((64 : Nat) : Int) then (lz (v5 + (1 : Int32)) fun x3 => f_X10_all_L11 i0 i1 a4 M n (v2 + (M i1 (ix v5))) x3) else none)
def f_X10_all (i0 : Nat) (i1 : Nat) (M : Mm) : Option Int32 :=
  bd1 (f_X10_all_L11 i0 i1 (64 : Int32) M FU (0 : Int32) (0 : Int32)) fun x6 => some x6
set_option maxHeartbeats 4000000 in
set_option maxRecDepth 100000 in
theorem l_X10_all_L11 {p : Program} {e : Env} {s : State} {m : MethodId} {args : Array Value} {below : List Frame} {meth : Method} {c : Code} {l : Launch} {G : GG} {Q : State → Prop} (hC : CX p s m args meth c cX10_all 7 RX10 (some .int) G) {i0 : Nat} {i1 : Nat} (hi0 : (kd i0).1 = 4) (hi1 : kd i1 = (20, 64)) (a4 : Int32) (M : Mm) : ∀ (n : Nat) (v2 : Int32) (v5 : Int32) {o2 : Int32} (hr : f_X10_all_L11 i0 i1 a4 M n v2 v5 = some (o2)) (K : XJ p l e (RM 0 0 0 0) s m args below meth c G 7 Q 0 0 M 35 [(2, .int o2)] []), XJ p l e (RM 0 0 0 0) s m args below meth c G 7 Q 0 0 M 11 [(2, .int v2), (3, .ref (G.2.1 i1)), (4, .int a4), (5, .int v5)] [] := by
  intro n
  induction n with
  | zero => intro v2 v5 o2 hr K; rw [f_X10_all_L11] at hr; cases hr
  | succ n ih =>
    intro v2 v5 o2 hr K
    rw [f_X10_all_L11] at hr
    refine x_iload hC dX10_all_11 3 rfl ?_
    refine x_iload hC dX10_all_13 2 rfl ?_
    refine x_icmp_ge hC 35 dX10_all_15 (by decide) (fun h1 => ?_) (fun h1 => ?_)
    · have hr := (ie_s hr).1 h1
      cases hr
      exact x_sub [0] rfl K
    · have hr := (ie_s hr).2 h1
      refine x_aload_n hC dX10_all_18 rfl 1 rfl ?_
      refine x_iload hC dX10_all_19 3 rfl ?_
      obtain ⟨h2, hr⟩ := it_s hr
      refine x_iald hC hi1 h2 dX10_all_21 ?_
      refine x_istore hC [(6, .int (M i1 (ix v5))), (2, .int v2), (3, .ref (G.2.1 i1)), (4, .int a4), (5, .int v5)] dX10_all_22  (Nat.le_of_ble_eq_true rfl) rfl ?_
      refine x_iload_n hC dX10_all_24 rfl 1 rfl ?_
      refine x_iload hC dX10_all_25 0 rfl ?_
      refine x_iadd hC dX10_all_27 ?_
      refine x_istore_n hC [(2, .int (v2 + (M i1 (ix v5)))), (6, .int (M i1 (ix v5))), (3, .ref (G.2.1 i1)), (4, .int a4), (5, .int v5)] dX10_all_28 rfl (Nat.le_of_ble_eq_true rfl) rfl ?_
      obtain ⟨x3, e4, hr⟩ := lz_s hr
      refine x_iinc hC [(5, .int x3), (2, .int (v2 + (M i1 (ix v5)))), (6, .int (M i1 (ix v5))), (3, .ref (G.2.1 i1)), (4, .int a4)] dX10_all_29 4 rfl (by rw [e4]; rfl) (Nat.le_of_ble_eq_true rfl) rfl ?_
      refine x_goto hC 11 dX10_all_32 (by decide) ?_
      exact x_sub [1, 3, 4, 0] rfl (ih (v2 + (M i1 (ix v5))) x3 hr K)
set_option maxHeartbeats 4000000 in
set_option maxRecDepth 100000 in
theorem c_X10_all (l : Launch) (G : GG) (M : Mm) {i0 : Nat} (hi0 : (kd i0).1 = 4) {i1 : Nat} (hi1 : kd i1 = (20, 64)) {r : Int32} (hr : f_X10_all i0 i1 M = some r) : Mo false l yX10_all (WS yX10_all cX10_all 7 (some .int)) (RM 0 0 0 0) 0 0 [.ref (G.2.1 i0), .ref (G.2.1 i1)] G M (some (.int r)) M := by
  refine Mo.of (by decide +kernel) (Nat.le_of_ble_eq_true rfl) ?_
  intro p e s m args below meth c hC
  have hC : CX p s m args meth c cX10_all 7 RX10 (some .int) G := hC
  rw [f_X10_all] at hr
  show XJ p l e (RM 0 0 0 0) s m args below meth c G 7 _ 0 0 M 0 [(0, .ref (G.2.1 i0)), (1, .ref (G.2.1 i1))] []
  refine x_iconst hC (0 : Int32) dX10_all_0 (by decide) ?_
  refine x_istore_n hC [(2, .int (0 : Int32)), (0, .ref (G.2.1 i0)), (1, .ref (G.2.1 i1))] dX10_all_1 rfl (Nat.le_of_ble_eq_true rfl) rfl ?_
  refine x_aload_n hC dX10_all_2 rfl 2 rfl ?_
  refine x_astore_n hC [(3, .ref (G.2.1 i1)), (2, .int (0 : Int32)), (0, .ref (G.2.1 i0)), (1, .ref (G.2.1 i1))] dX10_all_3 rfl (Nat.le_of_ble_eq_true rfl) rfl ?_
  refine x_aload_n hC dX10_all_4 rfl 0 rfl ?_
  refine x_alen hC (64 : Int32) hi1 (by decide) dX10_all_5 ?_
  refine x_istore hC [(4, .int (64 : Int32)), (3, .ref (G.2.1 i1)), (2, .int (0 : Int32)), (0, .ref (G.2.1 i0)), (1, .ref (G.2.1 i1))] dX10_all_6  (Nat.le_of_ble_eq_true rfl) rfl ?_
  refine x_iconst hC (0 : Int32) dX10_all_8 (by decide) ?_
  refine x_istore hC [(5, .int (0 : Int32)), (4, .int (64 : Int32)), (3, .ref (G.2.1 i1)), (2, .int (0 : Int32)), (0, .ref (G.2.1 i0)), (1, .ref (G.2.1 i1))] dX10_all_9  (Nat.le_of_ble_eq_true rfl) rfl ?_
  obtain ⟨x6, q5, hr⟩ := bd1_s hr
  refine x_sub [3, 2, 1, 0] rfl (l_X10_all_L11 hC hi0 hi1 (64 : Int32) M FU  (0 : Int32) (0 : Int32) q5 ?_)
  refine x_iload_n hC dX10_all_35 rfl 0 rfl ?_
  cases hr
  exact x_iret hC rfl dX10_all_36

theorem dX10_copy_0 : decode cX10_copy 0 = .ok (.aload_n 0, 1) := by decide +kernel
theorem dX10_copy_1 : decode cX10_copy 1 = .ok (.iconst 0, 1) := by decide +kernel
theorem dX10_copy_2 : decode cX10_copy 2 = .ok (.aload_n 1, 1) := by decide +kernel
theorem dX10_copy_3 : decode cX10_copy 3 = .ok (.iconst 0, 1) := by decide +kernel
theorem dX10_copy_4 : decode cX10_copy 4 = .ok (.aload_n 0, 1) := by decide +kernel
theorem dX10_copy_5 : decode cX10_copy 5 = .ok (.arraylength, 1) := by decide +kernel
theorem dX10_copy_6 : decode cX10_copy 6 = .ok (.invokestatic 33, 3) := by decide +kernel
theorem dX10_copy_9 : decode cX10_copy 9 = .ok (.return_, 1) := by decide +kernel

def f_X10_copy (i0 : Nat) (i1 : Nat) (M : Mm) : Option Mm :=
  if 0 ≤ (Int32.ofNat (kd i0).2).toInt ∧ (Int32.ofNat (kd i0).2).toInt ≤ (((kd i0).2 : Nat) : Int) ∧ (Int32.ofNat (kd i0).2).toInt ≤ (((kd i1).2 : Nat) : Int) then (lz (wrow M i1 (va_cpy (M i0) (M i1) 0 0 (ix (Int32.ofNat (kd i0).2)))) fun M2 => some M2) else none

set_option maxHeartbeats 4000000 in
set_option maxRecDepth 100000 in
theorem c_X10_copy (l : Launch) (G : GG) (M : Mm) {i0 : Nat} (hi0 : (kd i0).1 = 20) {i1 : Nat} (hi1 : (kd i1).1 = 20) {M9 : Mm} (hr : f_X10_copy i0 i1 M = some M9) : Mo false l yX10_copy (WS yX10_copy cX10_copy 2 none) (RM 1 0 0 60) 0 0 [.ref (G.2.1 i0), .ref (G.2.1 i1)] G M none M9 := by
  refine Mo.of (by decide +kernel) (Nat.le_of_ble_eq_true rfl) ?_
  intro p e s m args below meth c hC
  have hC : CX p s m args meth c cX10_copy 2 RX10 none G := hC
  rw [f_X10_copy] at hr
  show XJ p l e (RM 1 0 0 60) s m args below meth c G 2 _ 0 0 M 0 [(0, .ref (G.2.1 i0)), (1, .ref (G.2.1 i1))] []
  refine x_aload_n hC dX10_copy_0 rfl 0 rfl ?_
  refine x_iconst hC (0 : Int32) dX10_copy_1 (by decide) ?_
  refine x_aload_n hC dX10_copy_2 rfl 1 rfl ?_
  refine x_iconst hC (0 : Int32) dX10_copy_3 (by decide) ?_
  refine x_aload_n hC dX10_copy_4 rfl 0 rfl ?_
  refine x_alen hC (Int32.ofNat (kd i0).2) (kd_eta hi0) rfl dX10_copy_5 ?_
  obtain ⟨h1, hr⟩ := it_s hr
  obtain ⟨M2, e3, hr⟩ := lz_s hr
  refine x_copy hC km_X10_33 ka_copy kt_copy kn_System (kd_eta hi0) (kd_eta hi1) h1 e3 (Nat.le_of_ble_eq_true rfl) (Nat.le_of_ble_eq_true rfl) dX10_copy_6 ?_
  cases hr
  exact x_vret hC rfl dX10_copy_9

theorem dX10_become_0 : decode cX10_become 0 = .ok (.aload_n 0, 1) := by decide +kernel
theorem dX10_become_1 : decode cX10_become 1 = .ok (.aload_n 1, 1) := by decide +kernel
theorem dX10_become_2 : decode cX10_become 2 = .ok (.getfield 39, 3) := by decide +kernel
theorem dX10_become_5 : decode cX10_become 5 = .ok (.putfield 39, 3) := by decide +kernel
theorem dX10_become_8 : decode cX10_become 8 = .ok (.aload_n 0, 1) := by decide +kernel
theorem dX10_become_9 : decode cX10_become 9 = .ok (.aload_n 1, 1) := by decide +kernel
theorem dX10_become_10 : decode cX10_become 10 = .ok (.getfield 43, 3) := by decide +kernel
theorem dX10_become_13 : decode cX10_become 13 = .ok (.putfield 43, 3) := by decide +kernel
theorem dX10_become_16 : decode cX10_become 16 = .ok (.aload_n 0, 1) := by decide +kernel
theorem dX10_become_17 : decode cX10_become 17 = .ok (.aload_n 1, 1) := by decide +kernel
theorem dX10_become_18 : decode cX10_become 18 = .ok (.getfield 46, 3) := by decide +kernel
theorem dX10_become_21 : decode cX10_become 21 = .ok (.putfield 46, 3) := by decide +kernel
theorem dX10_become_24 : decode cX10_become 24 = .ok (.aload_n 0, 1) := by decide +kernel
theorem dX10_become_25 : decode cX10_become 25 = .ok (.aload_n 1, 1) := by decide +kernel
theorem dX10_become_26 : decode cX10_become 26 = .ok (.getfield 49, 3) := by decide +kernel
theorem dX10_become_29 : decode cX10_become 29 = .ok (.putfield 49, 3) := by decide +kernel
theorem dX10_become_32 : decode cX10_become 32 = .ok (.aload_n 0, 1) := by decide +kernel
theorem dX10_become_33 : decode cX10_become 33 = .ok (.aload_n 1, 1) := by decide +kernel
theorem dX10_become_34 : decode cX10_become 34 = .ok (.getfield 52, 3) := by decide +kernel
theorem dX10_become_37 : decode cX10_become 37 = .ok (.putfield 52, 3) := by decide +kernel
theorem dX10_become_40 : decode cX10_become 40 = .ok (.aload_n 0, 1) := by decide +kernel
theorem dX10_become_41 : decode cX10_become 41 = .ok (.aload_n 1, 1) := by decide +kernel
theorem dX10_become_42 : decode cX10_become 42 = .ok (.getfield 55, 3) := by decide +kernel
theorem dX10_become_45 : decode cX10_become 45 = .ok (.putfield 55, 3) := by decide +kernel
theorem dX10_become_48 : decode cX10_become 48 = .ok (.aload_n 1, 1) := by decide +kernel
theorem dX10_become_49 : decode cX10_become 49 = .ok (.getfield 9, 3) := by decide +kernel
theorem dX10_become_52 : decode cX10_become 52 = .ok (.aload_n 0, 1) := by decide +kernel
theorem dX10_become_53 : decode cX10_become 53 = .ok (.getfield 9, 3) := by decide +kernel
theorem dX10_become_56 : decode cX10_become 56 = .ok (.invokestatic 58, 3) := by decide +kernel
theorem dX10_become_59 : decode cX10_become 59 = .ok (.aload_n 1, 1) := by decide +kernel
theorem dX10_become_60 : decode cX10_become 60 = .ok (.getfield 15, 3) := by decide +kernel
theorem dX10_become_63 : decode cX10_become 63 = .ok (.aload_n 0, 1) := by decide +kernel
theorem dX10_become_64 : decode cX10_become 64 = .ok (.getfield 15, 3) := by decide +kernel
theorem dX10_become_67 : decode cX10_become 67 = .ok (.invokestatic 58, 3) := by decide +kernel
theorem dX10_become_70 : decode cX10_become 70 = .ok (.aload_n 1, 1) := by decide +kernel
theorem dX10_become_71 : decode cX10_become 71 = .ok (.getfield 18, 3) := by decide +kernel
theorem dX10_become_74 : decode cX10_become 74 = .ok (.aload_n 0, 1) := by decide +kernel
theorem dX10_become_75 : decode cX10_become 75 = .ok (.getfield 18, 3) := by decide +kernel
theorem dX10_become_78 : decode cX10_become 78 = .ok (.invokestatic 58, 3) := by decide +kernel
theorem dX10_become_81 : decode cX10_become 81 = .ok (.aload_n 1, 1) := by decide +kernel
theorem dX10_become_82 : decode cX10_become 82 = .ok (.getfield 21, 3) := by decide +kernel
theorem dX10_become_85 : decode cX10_become 85 = .ok (.aload_n 0, 1) := by decide +kernel
theorem dX10_become_86 : decode cX10_become 86 = .ok (.getfield 21, 3) := by decide +kernel
theorem dX10_become_89 : decode cX10_become 89 = .ok (.invokestatic 58, 3) := by decide +kernel
theorem dX10_become_92 : decode cX10_become 92 = .ok (.aload_n 1, 1) := by decide +kernel
theorem dX10_become_93 : decode cX10_become 93 = .ok (.getfield 24, 3) := by decide +kernel
theorem dX10_become_96 : decode cX10_become 96 = .ok (.aload_n 0, 1) := by decide +kernel
theorem dX10_become_97 : decode cX10_become 97 = .ok (.getfield 24, 3) := by decide +kernel
theorem dX10_become_100 : decode cX10_become 100 = .ok (.invokestatic 58, 3) := by decide +kernel
theorem dX10_become_103 : decode cX10_become 103 = .ok (.aload_n 1, 1) := by decide +kernel
theorem dX10_become_104 : decode cX10_become 104 = .ok (.getfield 27, 3) := by decide +kernel
theorem dX10_become_107 : decode cX10_become 107 = .ok (.aload_n 0, 1) := by decide +kernel
theorem dX10_become_108 : decode cX10_become 108 = .ok (.getfield 27, 3) := by decide +kernel
theorem dX10_become_111 : decode cX10_become 111 = .ok (.invokestatic 58, 3) := by decide +kernel
theorem dX10_become_114 : decode cX10_become 114 = .ok (.aload_n 1, 1) := by decide +kernel
theorem dX10_become_115 : decode cX10_become 115 = .ok (.getfield 30, 3) := by decide +kernel
theorem dX10_become_118 : decode cX10_become 118 = .ok (.aload_n 0, 1) := by decide +kernel
theorem dX10_become_119 : decode cX10_become 119 = .ok (.getfield 30, 3) := by decide +kernel
theorem dX10_become_122 : decode cX10_become 122 = .ok (.invokestatic 58, 3) := by decide +kernel
theorem dX10_become_125 : decode cX10_become 125 = .ok (.return_, 1) := by decide +kernel

def f_X10_become (i0 : Nat) (i1 : Nat) (M : Mm) : Option Mm :=
  lz (wr M i0 0 (M i1 0)) fun M1 => lz (wr M1 i0 1 (M1 i1 1)) fun M3 => lz (wr M3 i0 2 (M3 i1 2)) fun M5 => lz (wr M5 i0 3 (M5 i1 3)) fun M7 => lz (wr M7 i0 4 (M7 i1 4)) fun M9 => lz (wr M9 i0 5 (M9 i1 5)) fun M11 => bd1 (f_X10_copy (i1 + 1) (i0 + 1) M11) fun M13 => bd1 (f_X10_copy (i1 + 2) (i0 + 2) M13) fun M16 => bd1 (f_X10_copy (i1 + 3) (i0 + 3) M16) fun M19 => bd1 (f_X10_copy (i1 + 4) (i0 + 4) M19) fun M22 => bd1 (f_X10_copy (i1 + 5) (i0 + 5) M22) fun M25 => bd1 (f_X10_copy (i1 + 6) (i0 + 6) M25) fun M28 => bd1 (f_X10_copy (i1 + 7) (i0 + 7) M28) fun M31 => some M31

set_option maxHeartbeats 4000000 in
set_option maxRecDepth 100000 in
theorem c_X10_become (l : Launch) (G : GG) (M : Mm) {i0 : Nat} (hi0 : (kd i0).1 = 4) {i1 : Nat} (hi1 : (kd i1).1 = 4) {M9 : Mm} (hr : f_X10_become i0 i1 M = some M9) : Mo false l yX10_become (WS yX10_become cX10_become 2 none) (RM 2 0 0 81) 0 0 [.ref (G.2.1 i0), .ref (G.2.1 i1)] G M none M9 := by
  refine Mo.of (by decide +kernel) (Nat.le_of_ble_eq_true rfl) ?_
  intro p e s m args below meth c hC
  have hC : CX p s m args meth c cX10_become 2 RX10 none G := hC
  rw [f_X10_become] at hr
  show XJ p l e (RM 2 0 0 81) s m args below meth c G 2 _ 0 0 M 0 [(0, .ref (G.2.1 i0)), (1, .ref (G.2.1 i1))] []
  refine x_aload_n hC dX10_become_0 rfl 0 rfl ?_
  refine x_aload_n hC dX10_become_1 rfl 1 rfl ?_
  refine gf_X10_39 hC hi1 dX10_become_2 ?_
  obtain ⟨M1, e2, hr⟩ := lz_s hr
  refine pf_X10_39 hC hi0 e2 dX10_become_5 ?_
  refine x_aload_n hC dX10_become_8 rfl 0 rfl ?_
  refine x_aload_n hC dX10_become_9 rfl 1 rfl ?_
  refine gf_X10_43 hC hi1 dX10_become_10 ?_
  obtain ⟨M3, e4, hr⟩ := lz_s hr
  refine pf_X10_43 hC hi0 e4 dX10_become_13 ?_
  refine x_aload_n hC dX10_become_16 rfl 0 rfl ?_
  refine x_aload_n hC dX10_become_17 rfl 1 rfl ?_
  refine gf_X10_46 hC hi1 dX10_become_18 ?_
  obtain ⟨M5, e6, hr⟩ := lz_s hr
  refine pf_X10_46 hC hi0 e6 dX10_become_21 ?_
  refine x_aload_n hC dX10_become_24 rfl 0 rfl ?_
  refine x_aload_n hC dX10_become_25 rfl 1 rfl ?_
  refine gf_X10_49 hC hi1 dX10_become_26 ?_
  obtain ⟨M7, e8, hr⟩ := lz_s hr
  refine pf_X10_49 hC hi0 e8 dX10_become_29 ?_
  refine x_aload_n hC dX10_become_32 rfl 0 rfl ?_
  refine x_aload_n hC dX10_become_33 rfl 1 rfl ?_
  refine gf_X10_52 hC hi1 dX10_become_34 ?_
  obtain ⟨M9, e10, hr⟩ := lz_s hr
  refine pf_X10_52 hC hi0 e10 dX10_become_37 ?_
  refine x_aload_n hC dX10_become_40 rfl 0 rfl ?_
  refine x_aload_n hC dX10_become_41 rfl 1 rfl ?_
  refine gf_X10_55 hC hi1 dX10_become_42 ?_
  obtain ⟨M11, e12, hr⟩ := lz_s hr
  refine pf_X10_55 hC hi0 e12 dX10_become_45 ?_
  refine x_aload_n hC dX10_become_48 rfl 1 rfl ?_
  refine gf_X10_9 hC hi1 dX10_become_49 ?_
  refine x_aload_n hC dX10_become_52 rfl 0 rfl ?_
  refine gf_X10_9 hC hi0 dX10_become_53 ?_
  obtain ⟨M13, q14, hr⟩ := bd1_s hr
  refine x_callS (As := [.ref (G.2.1 (i1 + 1)), .ref (G.2.1 (i0 + 1))]) hC (c_X10_copy l G M11 (by rw [(kr_4_6 hi1)]) (by rw [(kr_4_6 hi0)]) q14) kc_yX10_copy km_X10_58 kt_yX10_copy kn_RX10 ky_yX10_copy rfl ⟨rfl, rfl⟩ ⟨(Nat.le_of_ble_eq_true rfl), (Nat.le_of_ble_eq_true rfl)⟩ rfl (Nat.le_of_ble_eq_true rfl) ⟨(Nat.le_of_ble_eq_true rfl), (Nat.le_of_ble_eq_true rfl)⟩ dX10_become_56 (fun b15 => ?_)
  refine x_aload_n hC dX10_become_59 rfl 1 rfl ?_
  refine gf_X10_15 hC hi1 dX10_become_60 ?_
  refine x_aload_n hC dX10_become_63 rfl 0 rfl ?_
  refine gf_X10_15 hC hi0 dX10_become_64 ?_
  obtain ⟨M16, q17, hr⟩ := bd1_s hr
  refine x_callS (As := [.ref (G.2.1 (i1 + 2)), .ref (G.2.1 (i0 + 2))]) hC (c_X10_copy l G M13 (by rw [(kr_4_7 hi1)]) (by rw [(kr_4_7 hi0)]) q17) kc_yX10_copy km_X10_58 kt_yX10_copy kn_RX10 ky_yX10_copy rfl ⟨rfl, rfl⟩ ⟨(Nat.le_of_ble_eq_true rfl), (Nat.le_of_ble_eq_true rfl)⟩ rfl (Nat.le_of_ble_eq_true rfl) ⟨(Nat.le_of_ble_eq_true rfl), (Nat.le_of_ble_eq_true rfl)⟩ dX10_become_67 (fun b18 => ?_)
  refine x_aload_n hC dX10_become_70 rfl 1 rfl ?_
  refine gf_X10_18 hC hi1 dX10_become_71 ?_
  refine x_aload_n hC dX10_become_74 rfl 0 rfl ?_
  refine gf_X10_18 hC hi0 dX10_become_75 ?_
  obtain ⟨M19, q20, hr⟩ := bd1_s hr
  refine x_callS (As := [.ref (G.2.1 (i1 + 3)), .ref (G.2.1 (i0 + 3))]) hC (c_X10_copy l G M16 (by rw [(kr_4_8 hi1)]) (by rw [(kr_4_8 hi0)]) q20) kc_yX10_copy km_X10_58 kt_yX10_copy kn_RX10 ky_yX10_copy rfl ⟨rfl, rfl⟩ ⟨(Nat.le_of_ble_eq_true rfl), (Nat.le_of_ble_eq_true rfl)⟩ rfl (Nat.le_of_ble_eq_true rfl) ⟨(Nat.le_of_ble_eq_true rfl), (Nat.le_of_ble_eq_true rfl)⟩ dX10_become_78 (fun b21 => ?_)
  refine x_aload_n hC dX10_become_81 rfl 1 rfl ?_
  refine gf_X10_21 hC hi1 dX10_become_82 ?_
  refine x_aload_n hC dX10_become_85 rfl 0 rfl ?_
  refine gf_X10_21 hC hi0 dX10_become_86 ?_
  obtain ⟨M22, q23, hr⟩ := bd1_s hr
  refine x_callS (As := [.ref (G.2.1 (i1 + 4)), .ref (G.2.1 (i0 + 4))]) hC (c_X10_copy l G M19 (by rw [(kr_4_9 hi1)]) (by rw [(kr_4_9 hi0)]) q23) kc_yX10_copy km_X10_58 kt_yX10_copy kn_RX10 ky_yX10_copy rfl ⟨rfl, rfl⟩ ⟨(Nat.le_of_ble_eq_true rfl), (Nat.le_of_ble_eq_true rfl)⟩ rfl (Nat.le_of_ble_eq_true rfl) ⟨(Nat.le_of_ble_eq_true rfl), (Nat.le_of_ble_eq_true rfl)⟩ dX10_become_89 (fun b24 => ?_)
  refine x_aload_n hC dX10_become_92 rfl 1 rfl ?_
  refine gf_X10_24 hC hi1 dX10_become_93 ?_
  refine x_aload_n hC dX10_become_96 rfl 0 rfl ?_
  refine gf_X10_24 hC hi0 dX10_become_97 ?_
  obtain ⟨M25, q26, hr⟩ := bd1_s hr
  refine x_callS (As := [.ref (G.2.1 (i1 + 5)), .ref (G.2.1 (i0 + 5))]) hC (c_X10_copy l G M22 (by rw [(kr_4_10 hi1)]) (by rw [(kr_4_10 hi0)]) q26) kc_yX10_copy km_X10_58 kt_yX10_copy kn_RX10 ky_yX10_copy rfl ⟨rfl, rfl⟩ ⟨(Nat.le_of_ble_eq_true rfl), (Nat.le_of_ble_eq_true rfl)⟩ rfl (Nat.le_of_ble_eq_true rfl) ⟨(Nat.le_of_ble_eq_true rfl), (Nat.le_of_ble_eq_true rfl)⟩ dX10_become_100 (fun b27 => ?_)
  refine x_aload_n hC dX10_become_103 rfl 1 rfl ?_
  refine gf_X10_27 hC hi1 dX10_become_104 ?_
  refine x_aload_n hC dX10_become_107 rfl 0 rfl ?_
  refine gf_X10_27 hC hi0 dX10_become_108 ?_
  obtain ⟨M28, q29, hr⟩ := bd1_s hr
  refine x_callS (As := [.ref (G.2.1 (i1 + 6)), .ref (G.2.1 (i0 + 6))]) hC (c_X10_copy l G M25 (by rw [(kr_4_11 hi1)]) (by rw [(kr_4_11 hi0)]) q29) kc_yX10_copy km_X10_58 kt_yX10_copy kn_RX10 ky_yX10_copy rfl ⟨rfl, rfl⟩ ⟨(Nat.le_of_ble_eq_true rfl), (Nat.le_of_ble_eq_true rfl)⟩ rfl (Nat.le_of_ble_eq_true rfl) ⟨(Nat.le_of_ble_eq_true rfl), (Nat.le_of_ble_eq_true rfl)⟩ dX10_become_111 (fun b30 => ?_)
  refine x_aload_n hC dX10_become_114 rfl 1 rfl ?_
  refine gf_X10_30 hC hi1 dX10_become_115 ?_
  refine x_aload_n hC dX10_become_118 rfl 0 rfl ?_
  refine gf_X10_30 hC hi0 dX10_become_119 ?_
  obtain ⟨M31, q32, hr⟩ := bd1_s hr
  refine x_callS (As := [.ref (G.2.1 (i1 + 7)), .ref (G.2.1 (i0 + 7))]) hC (c_X10_copy l G M28 (by rw [(kr_4_12 hi1)]) (by rw [(kr_4_12 hi0)]) q32) kc_yX10_copy km_X10_58 kt_yX10_copy kn_RX10 ky_yX10_copy rfl ⟨rfl, rfl⟩ ⟨(Nat.le_of_ble_eq_true rfl), (Nat.le_of_ble_eq_true rfl)⟩ rfl (Nat.le_of_ble_eq_true rfl) ⟨(Nat.le_of_ble_eq_true rfl), (Nat.le_of_ble_eq_true rfl)⟩ dX10_become_122 (fun b33 => ?_)
  cases hr
  exact x_vret hC rfl dX10_become_125
