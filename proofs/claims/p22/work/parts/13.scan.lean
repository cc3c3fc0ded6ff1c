theorem dX6_behindBlanks_0 : decode cX6_behindBlanks 0 = .ok (.iload_n 1, 1) := by decide +kernel
theorem dX6_behindBlanks_1 : decode cX6_behindBlanks 1 = .ok (.istore_n 2, 1) := by decide +kernel
theorem dX6_behindBlanks_2 : decode cX6_behindBlanks 2 = .ok (.iload_n 2, 1) := by decide +kernel
theorem dX6_behindBlanks_3 : decode cX6_behindBlanks 3 = .ok (.aload_n 0, 1) := by decide +kernel
theorem dX6_behindBlanks_4 : decode cX6_behindBlanks 4 = .ok (.getfield 28, 3) := by decide +kernel
theorem dX6_behindBlanks_7 : decode cX6_behindBlanks 7 = .ok (.if_icmp .ge 31, 3) := by decide +kernel
theorem dX6_behindBlanks_10 : decode cX6_behindBlanks 10 = .ok (.aload_n 0, 1) := by decide +kernel
theorem dX6_behindBlanks_11 : decode cX6_behindBlanks 11 = .ok (.getfield 24, 3) := by decide +kernel
theorem dX6_behindBlanks_14 : decode cX6_behindBlanks 14 = .ok (.iload_n 2, 1) := by decide +kernel
theorem dX6_behindBlanks_15 : decode cX6_behindBlanks 15 = .ok (.baload, 1) := by decide +kernel
theorem dX6_behindBlanks_16 : decode cX6_behindBlanks 16 = .ok (.bipush 32, 2) := by decide +kernel
theorem dX6_behindBlanks_18 : decode cX6_behindBlanks 18 = .ok (.if_icmp .eq 14, 3) := by decide +kernel
theorem dX6_behindBlanks_21 : decode cX6_behindBlanks 21 = .ok (.aload_n 0, 1) := by decide +kernel
theorem dX6_behindBlanks_22 : decode cX6_behindBlanks 22 = .ok (.getfield 24, 3) := by decide +kernel
theorem dX6_behindBlanks_25 : decode cX6_behindBlanks 25 = .ok (.iload_n 2, 1) := by decide +kernel
theorem dX6_behindBlanks_26 : decode cX6_behindBlanks 26 = .ok (.baload, 1) := by decide +kernel
theorem dX6_behindBlanks_27 : decode cX6_behindBlanks 27 = .ok (.bipush 10, 2) := by decide +kernel
theorem dX6_behindBlanks_29 : decode cX6_behindBlanks 29 = .ok (.if_icmp .ne 9, 3) := by decide +kernel
theorem dX6_behindBlanks_32 : decode cX6_behindBlanks 32 = .ok (.iinc 2 1, 3) := by decide +kernel
theorem dX6_behindBlanks_35 : decode cX6_behindBlanks 35 = .ok (.goto (-33), 3) := by decide +kernel
theorem dX6_behindBlanks_38 : decode cX6_behindBlanks 38 = .ok (.iload_n 2, 1) := by decide +kernel
theorem dX6_behindBlanks_39 : decode cX6_behindBlanks 39 = .ok (.ireturn, 1) := by decide +kernel
def f_X6_behindBlanks_L2 (i0 : Nat) (M : Mm) : Nat → Int32 → Option (Int32)
  | 0, _ => none
  | n + 1, v2 =>
    if ((M i0 4) ≤ v2) then (some (v2)) else (if okr 21 (M i0 3) then (if 0 ≤ v2.toInt ∧ v2.toInt < (((kd (rid (M i0 3))).2 : Nat) : Int) then (if ((M (rid (M i0 3)) (ix v2)) = (32 : Int32)) then (lz (v2 + (1 : Int32)) fun x5 => f_X6_behindBlanks_L2 i0 M n x5) else (if okr 21 (M i0 3) then (if 0 ≤ v2.toInt ∧ v2.toInt < (((kd (rid (M i0 3))).2 : Nat) : Int) then (if ((M (rid (M i0 3)) (ix v2)) = (10 : Int32)) then (lz (v2 + (1 : Int32)) fun x10 => f_X6_behindBlanks_L2 i0 M n x10) else (some (v2))) else none) else none)) else none) else none)
def f_X6_behindBlanks (i0 : Nat) (a1 : Int32) (M : Mm) : Option Int32 :=
  bd1 (f_X6_behindBlanks_L2 i0 M FU a1) fun x13 => some x13
set_option maxHeartbeats 4000000 in
set_option maxRecDepth 100000 in
theorem l_X6_behindBlanks_L2 {p : Program} {e : Env} {s : State} {m : MethodId} {args : Array Value} {below : List Frame} {meth : Method} {c : Code} {l : Launch} {G : GG} {Q : State → Prop} (hC : CX p s m args meth c cX6_behindBlanks 3 RX6 (some .int) G) {i0 : Nat} (hi0 : (kd i0).1 = 8) (M : Mm) : ∀ (n : Nat) (v2 : Int32) {o2 : Int32} (hr : f_X6_behindBlanks_L2 i0 M n v2 = some (o2)) (K : XJ p l e (RM 0 0 0 0) s m args below meth c G 3 Q 0 0 M 38 [(2, .int o2)] []), XJ p l e (RM 0 0 0 0) s m args below meth c G 3 Q 0 0 M 2 [(0, .ref (G.2.1 i0)), (2, .int v2)] [] := by
  intro n
  induction n with
  | zero => intro v2 o2 hr K; rw [f_X6_behindBlanks_L2] at hr; cases hr
  | succ n ih =>
    intro v2 o2 hr K
    rw [f_X6_behindBlanks_L2] at hr
    refine x_iload_n hC dX6_behindBlanks_2 rfl 1 rfl ?_
    refine x_aload_n hC dX6_behindBlanks_3 rfl 0 rfl ?_
    refine gf_X6_28 hC hi0 dX6_behindBlanks_4 ?_
    refine x_icmp_ge hC 38 dX6_behindBlanks_7 (by decide) (fun h1 => ?_) (fun h1 => ?_)
    · have hr := (ie_s hr).1 h1
      cases hr
      exact x_sub [1] rfl K
    · have hr := (ie_s hr).2 h1
      refine x_aload_n hC dX6_behindBlanks_10 rfl 0 rfl ?_
      obtain ⟨h2, hr⟩ := it_s hr
      refine gf_X6_24 hC hi0 h2 dX6_behindBlanks_11 ?_
      refine x_iload_n hC dX6_behindBlanks_14 rfl 1 rfl ?_
      obtain ⟨h3, hr⟩ := it_s hr
      refine x_bald hC (kd_eta h2.2) h3 dX6_behindBlanks_15 ?_
      refine x_bipush hC (32 : Int32) dX6_behindBlanks_16 (by decide) ?_
      refine x_icmp_eq hC 32 dX6_behindBlanks_18 (by decide) (fun h4 => ?_) (fun h4 => ?_)
      · have hr := (ie_s hr).1 h4
        obtain ⟨x5, e6, hr⟩ := lz_s hr
        refine x_iinc hC [(2, .int x5), (0, .ref (G.2.1 i0))] dX6_behindBlanks_32 1 rfl (by rw [e6]; rfl) (Nat.le_of_ble_eq_true rfl) rfl ?_
        refine x_goto hC 2 dX6_behindBlanks_35 (by decide) ?_
        exact x_sub [1, 0] rfl (ih x5 hr K)
      · have hr := (ie_s hr).2 h4
        refine x_aload_n hC dX6_behindBlanks_21 rfl 0 rfl ?_
        obtain ⟨h7, hr⟩ := it_s hr
        refine gf_X6_24 hC hi0 h7 dX6_behindBlanks_22 ?_
        refine x_iload_n hC dX6_behindBlanks_25 rfl 1 rfl ?_
        obtain ⟨h8, hr⟩ := it_s hr
        refine x_bald hC (kd_eta h7.2) h8 dX6_behindBlanks_26 ?_
        refine x_bipush hC (10 : Int32) dX6_behindBlanks_27 (by decide) ?_
        refine x_icmp_ne hC 38 dX6_behindBlanks_29 (by decide) (fun h9 => ?_) (fun h9 => ?_)
        · have hr := (ie_s hr).2 h9
          cases hr
          exact x_sub [1] rfl K
        · have hr := (ie_s hr).1 h9
          obtain ⟨x10, e11, hr⟩ := lz_s hr
          refine x_iinc hC [(2, .int x10), (0, .ref (G.2.1 i0))] dX6_behindBlanks_32 1 rfl (by rw [e11]; rfl) (Nat.le_of_ble_eq_true rfl) rfl ?_
          refine x_goto hC 2 dX6_behindBlanks_35 (by decide) ?_
          exact x_sub [1, 0] rfl (ih x10 hr K)
set_option maxHeartbeats 4000000 in
set_option maxRecDepth 100000 in
theorem c_X6_behindBlanks (l : Launch) (G : GG) (M : Mm) {i0 : Nat} (hi0 : (kd i0).1 = 8) (a1 : Int32) {r : Int32} (hr : f_X6_behindBlanks i0 a1 M = some r) : Mo false l yX6_behindBlanks (WS yX6_behindBlanks cX6_behindBlanks 3 (some .int)) (RM 0 0 0 0) 0 0 [.ref (G.2.1 i0), .int a1] G M (some (.int r)) M := by
  refine Mo.of (by decide +kernel) (Nat.le_of_ble_eq_true rfl) ?_
  intro p e s m args below meth c hC
  have hC : CX p s m args meth c cX6_behindBlanks 3 RX6 (some .int) G := hC
  rw [f_X6_behindBlanks] at hr
  show XJ p l e (RM 0 0 0 0) s m args below meth c G 3 _ 0 0 M 0 [(0, .ref (G.2.1 i0)), (1, .int a1)] []
  refine x_iload_n hC dX6_behindBlanks_0 rfl 1 rfl ?_
  refine x_istore_n hC [(2, .int a1), (0, .ref (G.2.1 i0)), (1, .int a1)] dX6_behindBlanks_1 rfl (Nat.le_of_ble_eq_true rfl) rfl ?_
  obtain ⟨x13, q12, hr⟩ := bd1_s hr
  refine x_sub [1, 0] rfl (l_X6_behindBlanks_L2 hC hi0 M FU  a1 q12 ?_)
  refine x_iload_n hC dX6_behindBlanks_38 rfl 0 rfl ?_
  cases hr
  exact x_iret hC rfl dX6_behindBlanks_39

theorem dX6_isLetter_0 : decode cX6_isLetter 0 = .ok (.aload_n 0, 1) := by decide +kernel
theorem dX6_isLetter_1 : decode cX6_isLetter 1 = .ok (.getfield 24, 3) := by decide +kernel
theorem dX6_isLetter_4 : decode cX6_isLetter 4 = .ok (.iload_n 1, 1) := by decide +kernel
theorem dX6_isLetter_5 : decode cX6_isLetter 5 = .ok (.baload, 1) := by decide +kernel
theorem dX6_isLetter_6 : decode cX6_isLetter 6 = .ok (.bipush 97, 2) := by decide +kernel
theorem dX6_isLetter_8 : decode cX6_isLetter 8 = .ok (.if_icmp .lt 18, 3) := by decide +kernel
theorem dX6_isLetter_11 : decode cX6_isLetter 11 = .ok (.aload_n 0, 1) := by decide +kernel
theorem dX6_isLetter_12 : decode cX6_isLetter 12 = .ok (.getfield 24, 3) := by decide +kernel
theorem dX6_isLetter_15 : decode cX6_isLetter 15 = .ok (.iload_n 1, 1) := by decide +kernel
theorem dX6_isLetter_16 : decode cX6_isLetter 16 = .ok (.baload, 1) := by decide +kernel
theorem dX6_isLetter_17 : decode cX6_isLetter 17 = .ok (.bipush 122, 2) := by decide +kernel
theorem dX6_isLetter_19 : decode cX6_isLetter 19 = .ok (.if_icmp .gt 7, 3) := by decide +kernel
theorem dX6_isLetter_22 : decode cX6_isLetter 22 = .ok (.iconst 1, 1) := by decide +kernel
theorem dX6_isLetter_23 : decode cX6_isLetter 23 = .ok (.goto 4, 3) := by decide +kernel
theorem dX6_isLetter_26 : decode cX6_isLetter 26 = .ok (.iconst 0, 1) := by decide +kernel
theorem dX6_isLetter_27 : decode cX6_isLetter 27 = .ok (.ireturn, 1) := by decide +kernel

def f_X6_isLetter (i0 : Nat) (a1 : Int32) (M : Mm) : Option Int32 :=
  if okr 21 (M i0 3) then (if 0 ≤ a1.toInt ∧ a1.toInt < (((kd (rid (M i0 3))).2 : Nat) : Int) then (if ((M (rid (M i0 3)) (ix a1)) < (97 : Int32)) then (some (0 : Int32)) else (if okr 21 (M i0 3) then (if 0 ≤ a1.toInt ∧ a1.toInt < (((kd (rid (M i0 3))).2 : Nat) : Int) then (if ((122 : Int32) < (M (rid (M i0 3)) (ix a1))) then (some (0 : Int32)) else (some (1 : Int32))) else none) else none)) else none) else none

set_option maxHeartbeats 4000000 in
set_option maxRecDepth 100000 in
theorem c_X6_isLetter (l : Launch) (G : GG) (M : Mm) {i0 : Nat} (hi0 : (kd i0).1 = 8) (a1 : Int32) {r : Int32} (hr : f_X6_isLetter i0 a1 M = some r) : Mo true l yX6_isLetter (WS yX6_isLetter cX6_isLetter 2 (some .boolean)) (RM 0 0 0 0) 0 0 [.ref (G.2.1 i0), .int a1] G M (some (.int r)) M := by
  refine Mo.of (by decide +kernel) (Nat.le_of_ble_eq_true rfl) ?_
  intro p e s m args below meth c hC
  have hC : CX p s m args meth c cX6_isLetter 2 RX6 (some .boolean) G := hC
  rw [f_X6_isLetter] at hr
  show XJ p l e (RM 0 0 0 0) s m args below meth c G 2 _ 0 0 M 0 [(0, .ref (G.2.1 i0)), (1, .int a1)] []
  refine x_aload_n hC dX6_isLetter_0 rfl 0 rfl ?_
  obtain ⟨h1, hr⟩ := it_s hr
  refine gf_X6_24 hC hi0 h1 dX6_isLetter_1 ?_
  refine x_iload_n hC dX6_isLetter_4 rfl 1 rfl ?_
  obtain ⟨h2, hr⟩ := it_s hr
  refine x_bald hC (kd_eta h1.2) h2 dX6_isLetter_5 ?_
  refine x_bipush hC (97 : Int32) dX6_isLetter_6 (by decide) ?_
  refine x_icmp_lt hC 26 dX6_isLetter_8 (by decide) (fun h3 => ?_) (fun h3 => ?_)
  · have hr := (ie_s hr).1 h3
    refine x_iconst hC (0 : Int32) dX6_isLetter_26 (by decide) ?_
    cases hr
    exact x_zret hC rfl (Or.inl rfl) dX6_isLetter_27
  · have hr := (ie_s hr).2 h3
    refine x_aload_n hC dX6_isLetter_11 rfl 0 rfl ?_
    obtain ⟨h4, hr⟩ := it_s hr
    refine gf_X6_24 hC hi0 h4 dX6_isLetter_12 ?_
    refine x_iload_n hC dX6_isLetter_15 rfl 1 rfl ?_
    obtain ⟨h5, hr⟩ := it_s hr
    refine x_bald hC (kd_eta h4.2) h5 dX6_isLetter_16 ?_
    refine x_bipush hC (122 : Int32) dX6_isLetter_17 (by decide) ?_
    refine x_icmp_gt hC 26 dX6_isLetter_19 (by decide) (fun h6 => ?_) (fun h6 => ?_)
    · have hr := (ie_s hr).1 h6
      refine x_iconst hC (0 : Int32) dX6_isLetter_26 (by decide) ?_
      cases hr
      exact x_zret hC rfl (Or.inl rfl) dX6_isLetter_27
    · have hr := (ie_s hr).2 h6
      refine x_iconst hC (1 : Int32) dX6_isLetter_22 (by decide) ?_
      refine x_goto hC 27 dX6_isLetter_23 (by decide) ?_
      cases hr
      exact x_zret hC rfl (Or.inr rfl) dX6_isLetter_27

theorem dX6_isDigit_0 : decode cX6_isDigit 0 = .ok (.aload_n 0, 1) := by decide +kernel
theorem dX6_isDigit_1 : decode cX6_isDigit 1 = .ok (.getfield 24, 3) := by decide +kernel
theorem dX6_isDigit_4 : decode cX6_isDigit 4 = .ok (.iload_n 1, 1) := by decide +kernel
theorem dX6_isDigit_5 : decode cX6_isDigit 5 = .ok (.baload, 1) := by decide +kernel
theorem dX6_isDigit_6 : decode cX6_isDigit 6 = .ok (.bipush 48, 2) := by decide +kernel
theorem dX6_isDigit_8 : decode cX6_isDigit 8 = .ok (.if_icmp .lt 18, 3) := by decide +kernel
theorem dX6_isDigit_11 : decode cX6_isDigit 11 = .ok (.aload_n 0, 1) := by decide +kernel
theorem dX6_isDigit_12 : decode cX6_isDigit 12 = .ok (.getfield 24, 3) := by decide +kernel
theorem dX6_isDigit_15 : decode cX6_isDigit 15 = .ok (.iload_n 1, 1) := by decide +kernel
theorem dX6_isDigit_16 : decode cX6_isDigit 16 = .ok (.baload, 1) := by decide +kernel
theorem dX6_isDigit_17 : decode cX6_isDigit 17 = .ok (.bipush 57, 2) := by decide +kernel
theorem dX6_isDigit_19 : decode cX6_isDigit 19 = .ok (.if_icmp .gt 7, 3) := by decide +kernel
theorem dX6_isDigit_22 : decode cX6_isDigit 22 = .ok (.iconst 1, 1) := by decide +kernel
theorem dX6_isDigit_23 : decode cX6_isDigit 23 = .ok (.goto 4, 3) := by decide +kernel
theorem dX6_isDigit_26 : decode cX6_isDigit 26 = .ok (.iconst 0, 1) := by decide +kernel
theorem dX6_isDigit_27 : decode cX6_isDigit 27 = .ok (.ireturn, 1) := by decide +kernel

def f_X6_isDigit (i0 : Nat) (a1 : Int32) (M : Mm) : Option Int32 :=
  if okr 21 (M i0 3) then (if 0 ≤ a1.toInt ∧ a1.toInt < (((kd (rid (M i0 3))).2 : Nat) : Int) then (if ((M (rid (M i0 3)) (ix a1)) < (48 : Int32)) then (some (0 : Int32)) else (if okr 21 (M i0 3) then (if 0 ≤ a1.toInt ∧ a1.toInt < (((kd (rid (M i0 3))).2 : Nat) : Int) then (if ((57 : Int32) < (M (rid (M i0 3)) (ix a1))) then (some (0 : Int32)) else (some (1 : Int32))) else none) else none)) else none) else none

set_option maxHeartbeats 4000000 in
set_option maxRecDepth 100000 in
theorem c_X6_isDigit (l : Launch) (G : GG) (M : Mm) {i0 : Nat} (hi0 : (kd i0).1 = 8) (a1 : Int32) {r : Int32} (hr : f_X6_isDigit i0 a1 M = some r) : Mo true l yX6_isDigit (WS yX6_isDigit cX6_isDigit 2 (some .boolean)) (RM 0 0 0 0) 0 0 [.ref (G.2.1 i0), .int a1] G M (some (.int r)) M := by
  refine Mo.of (by decide +kernel) (Nat.le_of_ble_eq_true rfl) ?_
  intro p e s m args below meth c hC
  have hC : CX p s m args meth c cX6_isDigit 2 RX6 (some .boolean) G := hC
  rw [f_X6_isDigit] at hr
  show XJ p l e (RM 0 0 0 0) s m args below meth c G 2 _ 0 0 M 0 [(0, .ref (G.2.1 i0)), (1, .int a1)] []
  refine x_aload_n hC dX6_isDigit_0 rfl 0 rfl ?_
  obtain ⟨h1, hr⟩ := it_s hr
  refine gf_X6_24 hC hi0 h1 dX6_isDigit_1 ?_
  refine x_iload_n hC dX6_isDigit_4 rfl 1 rfl ?_
  obtain ⟨h2, hr⟩ := it_s hr
  refine x_bald hC (kd_eta h1.2) h2 dX6_isDigit_5 ?_
  refine x_bipush hC (48 : Int32) dX6_isDigit_6 (by decide) ?_
  refine x_icmp_lt hC 26 dX6_isDigit_8 (by decide) (fun h3 => ?_) (fun h3 => ?_)
  · have hr := (ie_s hr).1 h3
    refine x_iconst hC (0 : Int32) dX6_isDigit_26 (by decide) ?_
    cases hr
    exact x_zret hC rfl (Or.inl rfl) dX6_isDigit_27
  · have hr := (ie_s hr).2 h3
    refine x_aload_n hC dX6_isDigit_11 rfl 0 rfl ?_
    obtain ⟨h4, hr⟩ := it_s hr
    refine gf_X6_24 hC hi0 h4 dX6_isDigit_12 ?_
    refine x_iload_n hC dX6_isDigit_15 rfl 1 rfl ?_
    obtain ⟨h5, hr⟩ := it_s hr
    refine x_bald hC (kd_eta h4.2) h5 dX6_isDigit_16 ?_
    refine x_bipush hC (57 : Int32) dX6_isDigit_17 (by decide) ?_
    refine x_icmp_gt hC 26 dX6_isDigit_19 (by decide) (fun h6 => ?_) (fun h6 => ?_)
    · have hr := (ie_s hr).1 h6
      refine x_iconst hC (0 : Int32) dX6_isDigit_26 (by decide) ?_
      cases hr
      exact x_zret hC rfl (Or.inl rfl) dX6_isDigit_27
    · have hr := (ie_s hr).2 h6
      refine x_iconst hC (1 : Int32) dX6_isDigit_22 (by decide) ?_
      refine x_goto hC 27 dX6_isDigit_23 (by decide) ?_
      cases hr
      exact x_zret hC rfl (Or.inr rfl) dX6_isDigit_27

theorem dX6_behindWord_0 : decode cX6_behindWord 0 = .ok (.iload_n 1, 1) := by decide +kernel
theorem dX6_behindWord_1 : decode cX6_behindWord 1 = .ok (.istore_n 2, 1) := by decide +kernel
theorem dX6_behindWord_2 : decode cX6_behindWord 2 = .ok (.iload_n 2, 1) := by decide +kernel
theorem dX6_behindWord_3 : decode cX6_behindWord 3 = .ok (.aload_n 0, 1) := by decide +kernel
theorem dX6_behindWord_4 : decode cX6_behindWord 4 = .ok (.getfield 28, 3) := by decide +kernel
theorem dX6_behindWord_7 : decode cX6_behindWord 7 = .ok (.if_icmp .ge 25, 3) := by decide +kernel
theorem dX6_behindWord_10 : decode cX6_behindWord 10 = .ok (.aload_n 0, 1) := by decide +kernel
theorem dX6_behindWord_11 : decode cX6_behindWord 11 = .ok (.iload_n 2, 1) := by decide +kernel
theorem dX6_behindWord_12 : decode cX6_behindWord 12 = .ok (.invokevirtual 53, 3) := by decide +kernel
theorem dX6_behindWord_15 : decode cX6_behindWord 15 = .ok (.ifCond .ne 11, 3) := by decide +kernel
theorem dX6_behindWord_18 : decode cX6_behindWord 18 = .ok (.aload_n 0, 1) := by decide +kernel
theorem dX6_behindWord_19 : decode cX6_behindWord 19 = .ok (.iload_n 2, 1) := by decide +kernel
theorem dX6_behindWord_20 : decode cX6_behindWord 20 = .ok (.invokevirtual 67, 3) := by decide +kernel
theorem dX6_behindWord_23 : decode cX6_behindWord 23 = .ok (.ifCond .eq 9, 3) := by decide +kernel
theorem dX6_behindWord_26 : decode cX6_behindWord 26 = .ok (.iinc 2 1, 3) := by decide +kernel
theorem dX6_behindWord_29 : decode cX6_behindWord 29 = .ok (.goto (-27), 3) := by decide +kernel
theorem dX6_behindWord_32 : decode cX6_behindWord 32 = .ok (.iload_n 2, 1) := by decide +kernel
theorem dX6_behindWord_33 : decode cX6_behindWord 33 = .ok (.ireturn, 1) := by decide +kernel
def f_X6_behindWord_L2 (i0 : Nat) (M : Mm) : Nat → Int32 → Option (Int32)
  | 0, _ => none
  | n + 1, v2 =>
    if ((M i0 4) ≤ v2) then (some (v2)) else (bd1 (f_X6_isLetter i0 v2 M) fun x2 => if (x2 = 0) then (bd1 (f_X6_isDigit i0 v2 M) fun x8 => if (x8 = 0) then (some (v2)) else (lz (v2 + (1 : Int32)) fun x12 => f_X6_behindWord_L2 i0 M n x12)) else (lz (v2 + (1 : Int32)) fun x6 => f_X6_behindWord_L2 i0 M n x6))
def f_X6_behindWord (i0 : Nat) (a1 : Int32) (M : Mm) : Option Int32 :=
  bd1 (f_X6_behindWord_L2 i0 M FU a1) fun x15 => some x15
set_option maxHeartbeats 4000000 in
set_option maxRecDepth 100000 in
theorem l_X6_behindWord_L2 {p : Program} {e : Env} {s : State} {m : MethodId} {args : Array Value} {below : List Frame} {meth : Method} {c : Code} {l : Launch} {G : GG} {Q : State → Prop} (hC : CX p s m args meth c cX6_behindWord 3 RX6 (some .int) G) {i0 : Nat} (hi0 : (kd i0).1 = 8) (M : Mm) : ∀ (n : Nat) (v2 : Int32) {o2 : Int32} (hr : f_X6_behindWord_L2 i0 M n v2 = some (o2)) (K : XJ p l e (RM 1 0 0 21) s m args below meth c G 3 Q 0 0 M 32 [(2, .int o2)] []), XJ p l e (RM 1 0 0 21) s m args below meth c G 3 Q 0 0 M 2 [(0, .ref (G.2.1 i0)), (2, .int v2)] [] := by
  intro n
  induction n with
  | zero => intro v2 o2 hr K; rw [f_X6_behindWord_L2] at hr; cases hr
  | succ n ih =>
    intro v2 o2 hr K
    rw [f_X6_behindWord_L2] at hr
    refine x_iload_n hC dX6_behindWord_2 rfl 1 rfl ?_
    refine x_aload_n hC dX6_behindWord_3 rfl 0 rfl ?_
    refine gf_X6_28 hC hi0 dX6_behindWord_4 ?_
    refine x_icmp_ge hC 32 dX6_behindWord_7 (by decide) (fun h1 => ?_) (fun h1 => ?_)
    · have hr := (ie_s hr).1 h1
      cases hr
      exact x_sub [1] rfl K
    · have hr := (ie_s hr).2 h1
      refine x_aload_n hC dX6_behindWord_10 rfl 0 rfl ?_
      refine x_iload_n hC dX6_behindWord_11 rfl 1 rfl ?_
      obtain ⟨x2, q3, hr⟩ := bd1_s hr
      refine x_callV (ci := 8) (q := (RX6, TX6, 5)) (As := [.int v2]) hC (c_X6_isLetter l G M hi0 v2 q3) kc_yX6_isLetter km_X6_53 ki_yX6_isLetter kv_yX6_isLetter kn_RX6 ky_yX6_isLetter rfl ⟨rfl, rfl⟩ ⟨(Nat.le_of_ble_eq_true rfl), (Nat.le_of_ble_eq_true rfl)⟩ hi0 (by decide) rfl rfl (Nat.le_of_ble_eq_true rfl) ⟨(Nat.le_of_ble_eq_true rfl), (Nat.le_of_ble_eq_true rfl)⟩ dX6_behindWord_12 (fun b4 => ?_)
      refine x_if_ne hC 26 dX6_behindWord_15 (by decide) (fun h5 => ?_) (fun h5 => ?_)
      · have hr := (ie_s hr).2 h5
        obtain ⟨x6, e7, hr⟩ := lz_s hr
        refine x_iinc hC [(2, .int x6), (0, .ref (G.2.1 i0))] dX6_behindWord_26 1 rfl (by rw [e7]; rfl) (Nat.le_of_ble_eq_true rfl) rfl ?_
        refine x_goto hC 2 dX6_behindWord_29 (by decide) ?_
        exact x_sub [1, 0] rfl (ih x6 hr K)
      · have hr := (ie_s hr).1 h5
        refine x_aload_n hC dX6_behindWord_18 rfl 0 rfl ?_
        refine x_iload_n hC dX6_behindWord_19 rfl 1 rfl ?_
        obtain ⟨x8, q9, hr⟩ := bd1_s hr
        refine x_callV (ci := 8) (q := (RX6, TX6, 5)) (As := [.int v2]) hC (c_X6_isDigit l G M hi0 v2 q9) kc_yX6_isDigit km_X6_67 ki_yX6_isDigit kv_yX6_isDigit kn_RX6 ky_yX6_isDigit rfl ⟨rfl, rfl⟩ ⟨(Nat.le_of_ble_eq_true rfl), (Nat.le_of_ble_eq_true rfl)⟩ hi0 (by decide) rfl rfl (Nat.le_of_ble_eq_true rfl) ⟨(Nat.le_of_ble_eq_true rfl), (Nat.le_of_ble_eq_true rfl)⟩ dX6_behindWord_20 (fun b10 => ?_)
        refine x_if_eq hC 32 dX6_behindWord_23 (by decide) (fun h11 => ?_) (fun h11 => ?_)
        · have hr := (ie_s hr).1 h11
          cases hr
          exact x_sub [1] rfl K
        · have hr := (ie_s hr).2 h11
          obtain ⟨x12, e13, hr⟩ := lz_s hr
          refine x_iinc hC [(2, .int x12), (0, .ref (G.2.1 i0))] dX6_behindWord_26 1 rfl (by rw [e13]; rfl) (Nat.le_of_ble_eq_true rfl) rfl ?_
          refine x_goto hC 2 dX6_behindWord_29 (by decide) ?_
          exact x_sub [1, 0] rfl (ih x12 hr K)
set_option maxHeartbeats 4000000 in
set_option maxRecDepth 100000 in
theorem c_X6_behindWord (l : Launch) (G : GG) (M : Mm) {i0 : Nat} (hi0 : (kd i0).1 = 8) (a1 : Int32) {r : Int32} (hr : f_X6_behindWord i0 a1 M = some r) : Mo false l yX6_behindWord (WS yX6_behindWord cX6_behindWord 3 (some .int)) (RM 1 0 0 21) 0 0 [.ref (G.2.1 i0), .int a1] G M (some (.int r)) M := by
  refine Mo.of (by decide +kernel) (Nat.le_of_ble_eq_true rfl) ?_
  intro p e s m args below meth c hC
  have hC : CX p s m args meth c cX6_behindWord 3 RX6 (some .int) G := hC
  rw [f_X6_behindWord] at hr
  show XJ p l e (RM 1 0 0 21) s m args below meth c G 3 _ 0 0 M 0 [(0, .ref (G.2.1 i0)), (1, .int a1)] []
  refine x_iload_n hC dX6_behindWord_0 rfl 1 rfl ?_
  refine x_istore_n hC [(2, .int a1), (0, .ref (G.2.1 i0)), (1, .int a1)] dX6_behindWord_1 rfl (Nat.le_of_ble_eq_true rfl) rfl ?_
  obtain ⟨x15, q14, hr⟩ := bd1_s hr
  refine x_sub [1, 0] rfl (l_X6_behindWord_L2 hC hi0 M FU  a1 q14 ?_)
  refine x_iload_n hC dX6_behindWord_32 rfl 0 rfl ?_
  cases hr
  exact x_iret hC rfl dX6_behindWord_33

theorem dX7_isWritten_0 : decode cX7_isWritten 0 = .ok (.aload_n 0, 1) := by decide +kernel
theorem dX7_isWritten_1 : decode cX7_isWritten 1 = .ok (.getfield 179, 3) := by decide +kernel
theorem dX7_isWritten_4 : decode cX7_isWritten 4 = .ok (.invokevirtual 197, 3) := by decide +kernel
theorem dX7_isWritten_7 : decode cX7_isWritten 7 = .ok (.iload_n 3, 1) := by decide +kernel
theorem dX7_isWritten_8 : decode cX7_isWritten 8 = .ok (.iload_n 2, 1) := by decide +kernel
theorem dX7_isWritten_9 : decode cX7_isWritten 9 = .ok (.isub, 1) := by decide +kernel
theorem dX7_isWritten_10 : decode cX7_isWritten 10 = .ok (.if_icmp .ne 13, 3) := by decide +kernel
theorem dX7_isWritten_13 : decode cX7_isWritten 13 = .ok (.iload_n 2, 1) := by decide +kernel
theorem dX7_isWritten_14 : decode cX7_isWritten 14 = .ok (.ifCond .lt 9, 3) := by decide +kernel
theorem dX7_isWritten_17 : decode cX7_isWritten 17 = .ok (.iload_n 3, 1) := by decide +kernel
theorem dX7_isWritten_18 : decode cX7_isWritten 18 = .ok (.aload_n 1, 1) := by decide +kernel
theorem dX7_isWritten_19 : decode cX7_isWritten 19 = .ok (.arraylength, 1) := by decide +kernel
theorem dX7_isWritten_20 : decode cX7_isWritten 20 = .ok (.if_icmp .le 5, 3) := by decide +kernel
theorem dX7_isWritten_23 : decode cX7_isWritten 23 = .ok (.iconst 0, 1) := by decide +kernel
theorem dX7_isWritten_24 : decode cX7_isWritten 24 = .ok (.ireturn, 1) := by decide +kernel
theorem dX7_isWritten_25 : decode cX7_isWritten 25 = .ok (.iconst 0, 1) := by decide +kernel
theorem dX7_isWritten_26 : decode cX7_isWritten 26 = .ok (.istore 4, 2) := by decide +kernel
theorem dX7_isWritten_28 : decode cX7_isWritten 28 = .ok (.iload 4, 2) := by decide +kernel
theorem dX7_isWritten_30 : decode cX7_isWritten 30 = .ok (.aload_n 0, 1) := by decide +kernel
theorem dX7_isWritten_31 : decode cX7_isWritten 31 = .ok (.getfield 179, 3) := by decide +kernel
theorem dX7_isWritten_34 : decode cX7_isWritten 34 = .ok (.invokevirtual 197, 3) := by decide +kernel
theorem dX7_isWritten_37 : decode cX7_isWritten 37 = .ok (.if_icmp .ge 29, 3) := by decide +kernel
theorem dX7_isWritten_40 : decode cX7_isWritten 40 = .ok (.aload_n 1, 1) := by decide +kernel
theorem dX7_isWritten_41 : decode cX7_isWritten 41 = .ok (.iload_n 2, 1) := by decide +kernel
theorem dX7_isWritten_42 : decode cX7_isWritten 42 = .ok (.iload 4, 2) := by decide +kernel
theorem dX7_isWritten_44 : decode cX7_isWritten 44 = .ok (.iadd, 1) := by decide +kernel
theorem dX7_isWritten_45 : decode cX7_isWritten 45 = .ok (.baload, 1) := by decide +kernel
theorem dX7_isWritten_46 : decode cX7_isWritten 46 = .ok (.aload_n 0, 1) := by decide +kernel
theorem dX7_isWritten_47 : decode cX7_isWritten 47 = .ok (.getfield 179, 3) := by decide +kernel
theorem dX7_isWritten_50 : decode cX7_isWritten 50 = .ok (.iload 4, 2) := by decide +kernel
theorem dX7_isWritten_52 : decode cX7_isWritten 52 = .ok (.invokevirtual 203, 3) := by decide +kernel
theorem dX7_isWritten_55 : decode cX7_isWritten 55 = .ok (.if_icmp .eq 5, 3) := by decide +kernel
theorem dX7_isWritten_58 : decode cX7_isWritten 58 = .ok (.iconst 0, 1) := by decide +kernel
theorem dX7_isWritten_59 : decode cX7_isWritten 59 = .ok (.ireturn, 1) := by decide +kernel
theorem dX7_isWritten_60 : decode cX7_isWritten 60 = .ok (.iinc 4 1, 3) := by decide +kernel
theorem dX7_isWritten_63 : decode cX7_isWritten 63 = .ok (.goto (-35), 3) := by decide +kernel
theorem dX7_isWritten_66 : decode cX7_isWritten 66 = .ok (.iconst 1, 1) := by decide +kernel
theorem dX7_isWritten_67 : decode cX7_isWritten 67 = .ok (.ireturn, 1) := by decide +kernel
def f_X7_isWritten_L28 (i1 : Nat) (a0 : Int32) (a2 : Int32) (M : Mm) : Nat → Int32 → Option Int32
  | 0, _ => none
  | n + 1, v4 =>
    if tkc a0 then (if ix (tkS a0) < 48 then (if ((nI (tkL (tkS a0))) ≤ v4) then (some (1 : Int32)) else (if 0 ≤ (a2 + v4).toInt ∧ (a2 + v4).toInt < (((kd i1).2 : Nat) : Int) then (if tkc a0 then (if ix (tkS a0) < 48 then (if 0 ≤ v4.toInt ∧ v4.toInt < ((tkL (tkS a0) : Nat) : Int) then (if ((M i1 (ix (a2 + v4))) = (tkB (tkS a0) v4)) then (lz (v4 + (1 : Int32)) fun x14 => f_X7_isWritten_L28 i1 a0 a2 M n x14) else (some (0 : Int32))) else none) else none) else none) else none)) else none) else none
def f_X7_isWritten (a0 : Int32) (i1 : Nat) (a2 : Int32) (a3 : Int32) (M : Mm) : Option Int32 :=
  if tkc a0 then (if ix (tkS a0) < 48 then (if ((nI (tkL (tkS a0))) = (a3 - a2)) then (if (a2 < 0) then (some (0 : Int32)) else (if (a3 ≤ (Int32.ofNat (kd i1).2)) then ((f_X7_isWritten_L28 i1 a0 a2 M FU (0 : Int32))) else (some (0 : Int32)))) else (some (0 : Int32))) else none) else none
set_option maxHeartbeats 4000000 in
set_option maxRecDepth 100000 in
theorem l_X7_isWritten_L28 {p : Program} {e : Env} {s : State} {m : MethodId} {args : Array Value} {below : List Frame} {meth : Method} {c : Code} {l : Launch} {G : GG} (hC : CX p s m args meth c cX7_isWritten 5 RX7 (some .boolean) G) {i1 : Nat} (hi1 : (kd i1).1 = 21) (a0 : Int32) (a2 : Int32) (M : Mm) : ∀ (n : Nat) (v4 : Int32) {r : Int32} (hr : f_X7_isWritten_L28 i1 a0 a2 M n v4 = some r), XJ p l e (RM 4 0 0 111) s m args below meth c G 5 (MQ below (QO G M true (some (.int r)) s.heap.size) args s 0 0 (AF G s.heap.size)) 0 0 M 28 [(0, .ref (G.2.1 (rid a0))), (1, .ref (G.2.1 i1)), (2, .int a2), (4, .int v4)] [] := by
  intro n
  induction n with
  | zero => intro v4 r hr; rw [f_X7_isWritten_L28] at hr; cases hr
  | succ n ih =>
    intro v4 r hr
    rw [f_X7_isWritten_L28] at hr
    refine x_iload hC dX7_isWritten_28 3 rfl ?_
    refine x_aload_n hC dX7_isWritten_30 rfl 0 rfl ?_
    obtain ⟨h6, hr⟩ := it_s hr
    refine x_ttext hC (a := a0) h6 kf_X7_179 dX7_isWritten_31 ?_
    obtain ⟨h7, hr⟩ := it_s hr
    refine x_callO (As := []) hC (ts_O h7) (c_J0_length l G M h7) kc_yJ0_length_8abf5 km_X7_197 ki_yJ0_length_8abf5 kv_yJ0_length_8abf5 kn_RJ0 ky_yJ0_length_8abf5 rfl ⟨rfl, rfl⟩ ⟨(Nat.le_of_ble_eq_true rfl), (Nat.le_of_ble_eq_true rfl)⟩ rfl (Nat.le_of_ble_eq_true rfl) ⟨(Nat.le_of_ble_eq_true rfl), (Nat.le_of_ble_eq_true rfl)⟩ dX7_isWritten_34 (fun _ => ?_)
    refine x_icmp_ge hC 66 dX7_isWritten_37 (by decide) (fun h8 => ?_) (fun h8 => ?_)
    · have hr := (ie_s hr).1 h8
      refine x_iconst hC (1 : Int32) dX7_isWritten_66 (by decide) ?_
      cases hr
      exact x_zret hC rfl (Or.inr rfl) dX7_isWritten_67
    · have hr := (ie_s hr).2 h8
      refine x_aload_n hC dX7_isWritten_40 rfl 1 rfl ?_
      refine x_iload_n hC dX7_isWritten_41 rfl 2 rfl ?_
      refine x_iload hC dX7_isWritten_42 3 rfl ?_
      refine x_iadd hC dX7_isWritten_44 ?_
      obtain ⟨h9, hr⟩ := it_s hr
      refine x_bald hC (kd_eta hi1) h9 dX7_isWritten_45 ?_
      refine x_aload_n hC dX7_isWritten_46 rfl 0 rfl ?_
      obtain ⟨h10, hr⟩ := it_s hr
      refine x_ttext hC (a := a0) h10 kf_X7_179 dX7_isWritten_47 ?_
      refine x_iload hC dX7_isWritten_50 3 rfl ?_
      obtain ⟨h11, hr⟩ := it_s hr
      obtain ⟨h12, hr⟩ := it_s hr
      refine x_callO (As := [.int v4]) hC (ts_O h11) (c_J0_charAt l G M h11 h12) kc_yJ0_charAt_5068e km_X7_203 ki_yJ0_charAt_5068e kv_yJ0_charAt_5068e kn_RJ0 ky_yJ0_charAt_5068e rfl ⟨rfl, rfl⟩ ⟨(Nat.le_of_ble_eq_true rfl), (Nat.le_of_ble_eq_true rfl)⟩ rfl (Nat.le_of_ble_eq_true rfl) ⟨(Nat.le_of_ble_eq_true rfl), (Nat.le_of_ble_eq_true rfl)⟩ dX7_isWritten_52 (fun _ => ?_)
      refine x_icmp_eq hC 60 dX7_isWritten_55 (by decide) (fun h13 => ?_) (fun h13 => ?_)
      · have hr := (ie_s hr).1 h13
        obtain ⟨x14, e15, hr⟩ := lz_s hr
        refine x_iinc hC [(4, .int x14), (0, .ref (G.2.1 (rid a0))), (1, .ref (G.2.1 i1)), (2, .int a2)] dX7_isWritten_60 3 rfl (by rw [e15]; rfl) (Nat.le_of_ble_eq_true rfl) rfl ?_
        refine x_goto hC 28 dX7_isWritten_63 (by decide) ?_
        exact x_sub [1, 2, 3, 0] rfl (ih x14 hr)
      · have hr := (ie_s hr).2 h13
        refine x_iconst hC (0 : Int32) dX7_isWritten_58 (by decide) ?_
        cases hr
        exact x_zret hC rfl (Or.inl rfl) dX7_isWritten_59
set_option maxHeartbeats 4000000 in
set_option maxRecDepth 100000 in
theorem c_X7_isWritten (l : Launch) (G : GG) (M : Mm) (a0 : Int32) {i1 : Nat} (hi1 : (kd i1).1 = 21) (a2 : Int32) (a3 : Int32) {r : Int32} (hr : f_X7_isWritten a0 i1 a2 a3 M = some r) : Mo true l yX7_isWritten (WS yX7_isWritten cX7_isWritten 5 (some .boolean)) (RM 4 0 0 111) 0 0 [.ref (G.2.1 (rid a0)), .ref (G.2.1 i1), .int a2, .int a3] G M (some (.int r)) M := by
  refine Mo.of (by decide +kernel) (Nat.le_of_ble_eq_true rfl) ?_
  intro p e s m args below meth c hC
  have hC : CX p s m args meth c cX7_isWritten 5 RX7 (some .boolean) G := hC
  rw [f_X7_isWritten] at hr
  show XJ p l e (RM 4 0 0 111) s m args below meth c G 5 _ 0 0 M 0 [(0, .ref (G.2.1 (rid a0))), (1, .ref (G.2.1 i1)), (2, .int a2), (3, .int a3)] []
  refine x_aload_n hC dX7_isWritten_0 rfl 0 rfl ?_
  obtain ⟨h1, hr⟩ := it_s hr
  refine x_ttext hC (a := a0) h1 kf_X7_179 dX7_isWritten_1 ?_
  obtain ⟨h2, hr⟩ := it_s hr
  refine x_callO (As := []) hC (ts_O h2) (c_J0_length l G M h2) kc_yJ0_length_8abf5 km_X7_197 ki_yJ0_length_8abf5 kv_yJ0_length_8abf5 kn_RJ0 ky_yJ0_length_8abf5 rfl ⟨rfl, rfl⟩ ⟨(Nat.le_of_ble_eq_true rfl), (Nat.le_of_ble_eq_true rfl)⟩ rfl (Nat.le_of_ble_eq_true rfl) ⟨(Nat.le_of_ble_eq_true rfl), (Nat.le_of_ble_eq_true rfl)⟩ dX7_isWritten_4 (fun _ => ?_)
  refine x_iload_n hC dX7_isWritten_7 rfl 3 rfl ?_
  refine x_iload_n hC dX7_isWritten_8 rfl 2 rfl ?_
  refine x_isub hC dX7_isWritten_9 ?_
  refine x_icmp_ne hC 23 dX7_isWritten_10 (by decide) (fun h3 => ?_) (fun h3 => ?_)
  · have hr := (ie_s hr).2 h3
    refine x_iconst hC (0 : Int32) dX7_isWritten_23 (by decide) ?_
    cases hr
    exact x_zret hC rfl (Or.inl rfl) dX7_isWritten_24
  · have hr := (ie_s hr).1 h3
    refine x_iload_n hC dX7_isWritten_13 rfl 2 rfl ?_
    refine x_if_lt hC 23 dX7_isWritten_14 (by decide) (fun h4 => ?_) (fun h4 => ?_)
    · have hr := (ie_s hr).1 h4
      refine x_iconst hC (0 : Int32) dX7_isWritten_23 (by decide) ?_
      cases hr
      exact x_zret hC rfl (Or.inl rfl) dX7_isWritten_24
    · have hr := (ie_s hr).2 h4
      refine x_iload_n hC dX7_isWritten_17 rfl 3 rfl ?_
      refine x_aload_n hC dX7_isWritten_18 rfl 1 rfl ?_
      refine x_alenb hC (Int32.ofNat (kd i1).2) (kd_eta hi1) rfl dX7_isWritten_19 ?_
      refine x_icmp_le hC 25 dX7_isWritten_20 (by decide) (fun h5 => ?_) (fun h5 => ?_)
      · have hr := (ie_s hr).1 h5
        refine x_iconst hC (0 : Int32) dX7_isWritten_25 (by decide) ?_
        refine x_istore hC [(4, .int (0 : Int32)), (0, .ref (G.2.1 (rid a0))), (1, .ref (G.2.1 i1)), (2, .int a2), (3, .int a3)] dX7_isWritten_26  (Nat.le_of_ble_eq_true rfl) rfl ?_
        exact x_sub [1, 2, 3, 0] rfl (l_X7_isWritten_L28 hC hi1 a0 a2 M FU (0 : Int32) hr)
      · have hr := (ie_s hr).2 h5
        refine x_iconst hC (0 : Int32) dX7_isWritten_23 (by decide) ?_
        cases hr
        exact x_zret hC rfl (Or.inl rfl) dX7_isWritten_24

theorem dX7_find_0 : decode cX7_find 0 = .ok (.getstatic 190, 3) := by decide +kernel
theorem dX7_find_3 : decode cX7_find 3 = .ok (.astore 4, 2) := by decide +kernel
theorem dX7_find_5 : decode cX7_find 5 = .ok (.aload 4, 2) := by decide +kernel
theorem dX7_find_7 : decode cX7_find 7 = .ok (.arraylength, 1) := by decide +kernel
theorem dX7_find_8 : decode cX7_find 8 = .ok (.istore 5, 2) := by decide +kernel
theorem dX7_find_10 : decode cX7_find 10 = .ok (.iconst 0, 1) := by decide +kernel
theorem dX7_find_11 : decode cX7_find 11 = .ok (.istore 6, 2) := by decide +kernel
theorem dX7_find_13 : decode cX7_find 13 = .ok (.iload 6, 2) := by decide +kernel
theorem dX7_find_15 : decode cX7_find 15 = .ok (.iload 5, 2) := by decide +kernel
theorem dX7_find_17 : decode cX7_find 17 = .ok (.if_icmp .ge 30, 3) := by decide +kernel
theorem dX7_find_20 : decode cX7_find 20 = .ok (.aload 4, 2) := by decide +kernel
theorem dX7_find_22 : decode cX7_find 22 = .ok (.iload 6, 2) := by decide +kernel
theorem dX7_find_24 : decode cX7_find 24 = .ok (.aaload, 1) := by decide +kernel
theorem dX7_find_25 : decode cX7_find 25 = .ok (.astore 7, 2) := by decide +kernel
theorem dX7_find_27 : decode cX7_find 27 = .ok (.aload 7, 2) := by decide +kernel
theorem dX7_find_29 : decode cX7_find 29 = .ok (.aload_n 0, 1) := by decide +kernel
theorem dX7_find_30 : decode cX7_find 30 = .ok (.iload_n 1, 1) := by decide +kernel
theorem dX7_find_31 : decode cX7_find 31 = .ok (.iload_n 2, 1) := by decide +kernel
theorem dX7_find_32 : decode cX7_find 32 = .ok (.invokevirtual 193, 3) := by decide +kernel
theorem dX7_find_35 : decode cX7_find 35 = .ok (.ifCond .eq 6, 3) := by decide +kernel
theorem dX7_find_38 : decode cX7_find 38 = .ok (.aload 7, 2) := by decide +kernel
theorem dX7_find_40 : decode cX7_find 40 = .ok (.areturn, 1) := by decide +kernel
theorem dX7_find_41 : decode cX7_find 41 = .ok (.iinc 6 1, 3) := by decide +kernel
theorem dX7_find_44 : decode cX7_find 44 = .ok (.goto (-31), 3) := by decide +kernel
theorem dX7_find_47 : decode cX7_find 47 = .ok (.aload_n 3, 1) := by decide +kernel
theorem dX7_find_48 : decode cX7_find 48 = .ok (.areturn, 1) := by decide +kernel
def f_X7_find_L13 (i0 : Nat) (a1 : Int32) (a2 : Int32) (a3 : Int32) (a5 : Int32) (M : Mm) : Nat → Int32 → Option Int32
  | 0, _ => none
  | n + 1, v6 =>
    if (a5 ≤ v6) then (some a3) else (if 0 ≤ v6.toInt ∧ v6.toInt < ((51 : Nat) : Int) then (if tkc (tkA v6) then (bd1 (f_X7_isWritten (tkA v6) i0 a1 a2 M) fun x4 => if (x4 = 0) then (lz (v6 + (1 : Int32)) fun x8 => f_X7_find_L13 i0 a1 a2 a3 a5 M n x8) else (some (tkA v6))) else none) else none)
def f_X7_find (i0 : Nat) (a1 : Int32) (a2 : Int32) (a3 : Int32) (M : Mm) : Option Int32 :=
  (f_X7_find_L13 i0 a1 a2 a3 (51 : Int32) M FU (0 : Int32))
set_option maxHeartbeats 4000000 in
set_option maxRecDepth 100000 in
theorem l_X7_find_L13 {p : Program} {e : Env} {s : State} {m : MethodId} {args : Array Value} {below : List Frame} {meth : Method} {c : Code} {l : Launch} {G : GG} (hC : CX p s m args meth c cX7_find 8 RX7 (some (.object "PeatBog$Token")) G) {i0 : Nat} (hi0 : (kd i0).1 = 21) (a1 : Int32) (a2 : Int32) (a3 : Int32) (a5 : Int32) (M : Mm) : ∀ (n : Nat) (v6 : Int32) {r : Int32} (hr : f_X7_find_L13 i0 a1 a2 a3 a5 M n v6 = some r), XJ p l e (RM 5 0 0 135) s m args below meth c G 8 (MQ below (QO G M false (some (.ref (G.2.1 (rid r)))) s.heap.size) args s 0 0 (AF G s.heap.size)) 0 0 M 13 [(0, .ref (G.2.1 i0)), (1, .int a1), (2, .int a2), (3, .ref (G.2.1 (rid a3))), (4, .ref (G.2.1 1900)), (5, .int a5), (6, .int v6)] [] := by
  intro n
  induction n with
  | zero => intro v6 r hr; rw [f_X7_find_L13] at hr; cases hr
  | succ n ih =>
    intro v6 r hr
    rw [f_X7_find_L13] at hr
    refine x_iload hC dX7_find_13 6 rfl ?_
    refine x_iload hC dX7_find_15 5 rfl ?_
    refine x_icmp_ge hC 47 dX7_find_17 (by decide) (fun h1 => ?_) (fun h1 => ?_)
    · have hr := (ie_s hr).1 h1
      refine x_aload_n hC dX7_find_47 rfl 3 rfl ?_
      cases hr
      exact x_tret hC rfl dX7_find_48
    · have hr := (ie_s hr).2 h1
      refine x_aload hC dX7_find_20 4 rfl ?_
      refine x_iload hC dX7_find_22 6 rfl ?_
      obtain ⟨h2, hr⟩ := it_s hr
      refine x_allGet hC h2 dX7_find_24 ?_
      refine x_astore hC [(7, .ref (G.2.1 (rid (tkA v6)))), (0, .ref (G.2.1 i0)), (1, .int a1), (2, .int a2), (3, .ref (G.2.1 (rid a3))), (4, .ref (G.2.1 1900)), (5, .int a5), (6, .int v6)] dX7_find_25  (Nat.le_of_ble_eq_true rfl) rfl ?_
      refine x_aload hC dX7_find_27 0 rfl ?_
      refine x_aload_n hC dX7_find_29 rfl 1 rfl ?_
      refine x_iload_n hC dX7_find_30 rfl 2 rfl ?_
      refine x_iload_n hC dX7_find_31 rfl 3 rfl ?_
      obtain ⟨h3, hr⟩ := it_s hr
      obtain ⟨x4, q5, hr⟩ := bd1_s hr
      refine x_callO (As := [.ref (G.2.1 i0), .int a1, .int a2]) hC (tk_O h3) (c_X7_isWritten l G M (tkA v6) (by rw [(kd_eta hi0)]) a1 a2 q5) kc_yX7_isWritten km_X7_193 ki_yX7_isWritten kv_yX7_isWritten kn_RX7 ky_yX7_isWritten rfl ⟨rfl, rfl⟩ ⟨(Nat.le_of_ble_eq_true rfl), (Nat.le_of_ble_eq_true rfl)⟩ rfl (Nat.le_of_ble_eq_true rfl) ⟨(Nat.le_of_ble_eq_true rfl), (Nat.le_of_ble_eq_true rfl)⟩ dX7_find_32 (fun b6 => ?_)
      refine x_if_eq hC 41 dX7_find_35 (by decide) (fun h7 => ?_) (fun h7 => ?_)
      · have hr := (ie_s hr).1 h7
        obtain ⟨x8, e9, hr⟩ := lz_s hr
        refine x_iinc hC [(6, .int x8), (7, .ref (G.2.1 (rid (tkA v6)))), (0, .ref (G.2.1 i0)), (1, .int a1), (2, .int a2), (3, .ref (G.2.1 (rid a3))), (4, .ref (G.2.1 1900)), (5, .int a5)] dX7_find_41 7 rfl (by rw [e9]; rfl) (Nat.le_of_ble_eq_true rfl) rfl ?_
        refine x_goto hC 13 dX7_find_44 (by decide) ?_
        exact x_sub [2, 3, 4, 5, 6, 7, 0] rfl (ih x8 hr)
      · have hr := (ie_s hr).2 h7
        refine x_aload hC dX7_find_38 0 rfl ?_
        cases hr
        exact x_tret hC rfl dX7_find_40
set_option maxHeartbeats 4000000 in
set_option maxRecDepth 100000 in
theorem c_X7_find (l : Launch) (G : GG) (M : Mm) {i0 : Nat} (hi0 : (kd i0).1 = 21) (a1 : Int32) (a2 : Int32) (a3 : Int32) {r : Int32} (hr : f_X7_find i0 a1 a2 a3 M = some r) : Mo false l yX7_find (WS yX7_find cX7_find 8 (some (.object "PeatBog$Token"))) (RM 5 0 0 135) 0 0 [.ref (G.2.1 i0), .int a1, .int a2, .ref (G.2.1 (rid a3))] G M (some (.ref (G.2.1 (rid r)))) M := by
  refine Mo.of (by decide +kernel) (Nat.le_of_ble_eq_true rfl) ?_
  intro p e s m args below meth c hC
  have hC : CX p s m args meth c cX7_find 8 RX7 (some (.object "PeatBog$Token")) G := hC
  rw [f_X7_find] at hr
  show XJ p l e (RM 5 0 0 135) s m args below meth c G 8 _ 0 0 M 0 [(0, .ref (G.2.1 i0)), (1, .int a1), (2, .int a2), (3, .ref (G.2.1 (rid a3)))] []
  refine x_gets hC (v := .ref (G.2.1 1900)) (fun A U H h => h.2.2.1) kf_X7_190 dX7_find_0 ?_
  refine x_astore hC [(4, .ref (G.2.1 1900)), (0, .ref (G.2.1 i0)), (1, .int a1), (2, .int a2), (3, .ref (G.2.1 (rid a3)))] dX7_find_3  (Nat.le_of_ble_eq_true rfl) rfl ?_
  refine x_aload hC dX7_find_5 0 rfl ?_
  refine x_allLen hC dX7_find_7 ?_
  refine x_istore hC [(5, .int (51 : Int32)), (4, .ref (G.2.1 1900)), (0, .ref (G.2.1 i0)), (1, .int a1), (2, .int a2), (3, .ref (G.2.1 (rid a3)))] dX7_find_8  (Nat.le_of_ble_eq_true rfl) rfl ?_
  refine x_iconst hC (0 : Int32) dX7_find_10 (by decide) ?_
  refine x_istore hC [(6, .int (0 : Int32)), (5, .int (51 : Int32)), (4, .ref (G.2.1 1900)), (0, .ref (G.2.1 i0)), (1, .int a1), (2, .int a2), (3, .ref (G.2.1 (rid a3)))] dX7_find_11  (Nat.le_of_ble_eq_true rfl) rfl ?_
  exact x_sub [3, 4, 5, 6, 2, 1, 0] rfl (l_X7_find_L13 hC hi0 a1 a2 a3 (51 : Int32) M FU (0 : Int32) hr)

theorem dX6_behindDigits_0 : decode cX6_behindDigits 0 = .ok (.iload_n 1, 1) := by decide +kernel
theorem dX6_behindDigits_1 : decode cX6_behindDigits 1 = .ok (.istore_n 2, 1) := by decide +kernel
theorem dX6_behindDigits_2 : decode cX6_behindDigits 2 = .ok (.iload_n 2, 1) := by decide +kernel
theorem dX6_behindDigits_3 : decode cX6_behindDigits 3 = .ok (.aload_n 0, 1) := by decide +kernel
theorem dX6_behindDigits_4 : decode cX6_behindDigits 4 = .ok (.getfield 28, 3) := by decide +kernel
theorem dX6_behindDigits_7 : decode cX6_behindDigits 7 = .ok (.if_icmp .ge 17, 3) := by decide +kernel
theorem dX6_behindDigits_10 : decode cX6_behindDigits 10 = .ok (.aload_n 0, 1) := by decide +kernel
theorem dX6_behindDigits_11 : decode cX6_behindDigits 11 = .ok (.iload_n 2, 1) := by decide +kernel
theorem dX6_behindDigits_12 : decode cX6_behindDigits 12 = .ok (.invokevirtual 67, 3) := by decide +kernel
theorem dX6_behindDigits_15 : decode cX6_behindDigits 15 = .ok (.ifCond .eq 9, 3) := by decide +kernel
theorem dX6_behindDigits_18 : decode cX6_behindDigits 18 = .ok (.iinc 2 1, 3) := by decide +kernel
theorem dX6_behindDigits_21 : decode cX6_behindDigits 21 = .ok (.goto (-19), 3) := by decide +kernel
theorem dX6_behindDigits_24 : decode cX6_behindDigits 24 = .ok (.iload_n 2, 1) := by decide +kernel
theorem dX6_behindDigits_25 : decode cX6_behindDigits 25 = .ok (.ireturn, 1) := by decide +kernel
def f_X6_behindDigits_L2 (i0 : Nat) (M : Mm) : Nat → Int32 → Option (Int32)
  | 0, _ => none
  | n + 1, v2 =>
    if ((M i0 4) ≤ v2) then (some (v2)) else (bd1 (f_X6_isDigit i0 v2 M) fun x2 => if (x2 = 0) then (some (v2)) else (lz (v2 + (1 : Int32)) fun x6 => f_X6_behindDigits_L2 i0 M n x6))
def f_X6_behindDigits (i0 : Nat) (a1 : Int32) (M : Mm) : Option Int32 :=
  bd1 (f_X6_behindDigits_L2 i0 M FU a1) fun x9 => some x9
set_option maxHeartbeats 4000000 in
set_option maxRecDepth 100000 in
theorem l_X6_behindDigits_L2 {p : Program} {e : Env} {s : State} {m : MethodId} {args : Array Value} {below : List Frame} {meth : Method} {c : Code} {l : Launch} {G : GG} {Q : State → Prop} (hC : CX p s m args meth c cX6_behindDigits 3 RX6 (some .int) G) {i0 : Nat} (hi0 : (kd i0).1 = 8) (M : Mm) : ∀ (n : Nat) (v2 : Int32) {o2 : Int32} (hr : f_X6_behindDigits_L2 i0 M n v2 = some (o2)) (K : XJ p l e (RM 1 0 0 21) s m args below meth c G 3 Q 0 0 M 24 [(2, .int o2)] []), XJ p l e (RM 1 0 0 21) s m args below meth c G 3 Q 0 0 M 2 [(0, .ref (G.2.1 i0)), (2, .int v2)] [] := by
  intro n
  induction n with
  | zero => intro v2 o2 hr K; rw [f_X6_behindDigits_L2] at hr; cases hr
  | succ n ih =>
    intro v2 o2 hr K
    rw [f_X6_behindDigits_L2] at hr
    refine x_iload_n hC dX6_behindDigits_2 rfl 1 rfl ?_
    refine x_aload_n hC dX6_behindDigits_3 rfl 0 rfl ?_
    refine gf_X6_28 hC hi0 dX6_behindDigits_4 ?_
    refine x_icmp_ge hC 24 dX6_behindDigits_7 (by decide) (fun h1 => ?_) (fun h1 => ?_)
    · have hr := (ie_s hr).1 h1
      cases hr
      exact x_sub [1] rfl K
    · have hr := (ie_s hr).2 h1
      refine x_aload_n hC dX6_behindDigits_10 rfl 0 rfl ?_
      refine x_iload_n hC dX6_behindDigits_11 rfl 1 rfl ?_
      obtain ⟨x2, q3, hr⟩ := bd1_s hr
      refine x_callV (ci := 8) (q := (RX6, TX6, 5)) (As := [.int v2]) hC (c_X6_isDigit l G M hi0 v2 q3) kc_yX6_isDigit km_X6_67 ki_yX6_isDigit kv_yX6_isDigit kn_RX6 ky_yX6_isDigit rfl ⟨rfl, rfl⟩ ⟨(Nat.le_of_ble_eq_true rfl), (Nat.le_of_ble_eq_true rfl)⟩ hi0 (by decide) rfl rfl (Nat.le_of_ble_eq_true rfl) ⟨(Nat.le_of_ble_eq_true rfl), (Nat.le_of_ble_eq_true rfl)⟩ dX6_behindDigits_12 (fun b4 => ?_)
      refine x_if_eq hC 24 dX6_behindDigits_15 (by decide) (fun h5 => ?_) (fun h5 => ?_)
      · have hr := (ie_s hr).1 h5
        cases hr
        exact x_sub [1] rfl K
      · have hr := (ie_s hr).2 h5
        obtain ⟨x6, e7, hr⟩ := lz_s hr
        refine x_iinc hC [(2, .int x6), (0, .ref (G.2.1 i0))] dX6_behindDigits_18 1 rfl (by rw [e7]; rfl) (Nat.le_of_ble_eq_true rfl) rfl ?_
        refine x_goto hC 2 dX6_behindDigits_21 (by decide) ?_
        exact x_sub [1, 0] rfl (ih x6 hr K)
set_option maxHeartbeats 4000000 in
set_option maxRecDepth 100000 in
theorem c_X6_behindDigits (l : Launch) (G : GG) (M : Mm) {i0 : Nat} (hi0 : (kd i0).1 = 8) (a1 : Int32) {r : Int32} (hr : f_X6_behindDigits i0 a1 M = some r) : Mo false l yX6_behindDigits (WS yX6_behindDigits cX6_behindDigits 3 (some .int)) (RM 1 0 0 21) 0 0 [.ref (G.2.1 i0), .int a1] G M (some (.int r)) M := by
  refine Mo.of (by decide +kernel) (Nat.le_of_ble_eq_true rfl) ?_
  intro p e s m args below meth c hC
  have hC : CX p s m args meth c cX6_behindDigits 3 RX6 (some .int) G := hC
  rw [f_X6_behindDigits] at hr
  show XJ p l e (RM 1 0 0 21) s m args below meth c G 3 _ 0 0 M 0 [(0, .ref (G.2.1 i0)), (1, .int a1)] []
  refine x_iload_n hC dX6_behindDigits_0 rfl 1 rfl ?_
  refine x_istore_n hC [(2, .int a1), (0, .ref (G.2.1 i0)), (1, .int a1)] dX6_behindDigits_1 rfl (Nat.le_of_ble_eq_true rfl) rfl ?_
  obtain ⟨x9, q8, hr⟩ := bd1_s hr
  refine x_sub [1, 0] rfl (l_X6_behindDigits_L2 hC hi0 M FU  a1 q8 ?_)
  refine x_iload_n hC dX6_behindDigits_24 rfl 0 rfl ?_
  cases hr
  exact x_iret hC rfl dX6_behindDigits_25

theorem dX6_scanSymbol_0 : decode cX6_scanSymbol 0 = .ok (.aload_n 0, 1) := by decide +kernel
theorem dX6_scanSymbol_1 : decode cX6_scanSymbol 1 = .ok (.getfield 17, 3) := by decide +kernel
theorem dX6_scanSymbol_4 : decode cX6_scanSymbol 4 = .ok (.iload_n 1, 1) := by decide +kernel
theorem dX6_scanSymbol_5 : decode cX6_scanSymbol 5 = .ok (.iaload, 1) := by decide +kernel
theorem dX6_scanSymbol_6 : decode cX6_scanSymbol 6 = .ok (.istore_n 2, 1) := by decide +kernel
theorem dX6_scanSymbol_7 : decode cX6_scanSymbol 7 = .ok (.iload_n 2, 1) := by decide +kernel
theorem dX6_scanSymbol_8 : decode cX6_scanSymbol 8 = .ok (.iconst 2, 1) := by decide +kernel
theorem dX6_scanSymbol_9 : decode cX6_scanSymbol 9 = .ok (.iadd, 1) := by decide +kernel
theorem dX6_scanSymbol_10 : decode cX6_scanSymbol 10 = .ok (.aload_n 0, 1) := by decide +kernel
theorem dX6_scanSymbol_11 : decode cX6_scanSymbol 11 = .ok (.getfield 28, 3) := by decide +kernel
theorem dX6_scanSymbol_14 : decode cX6_scanSymbol 14 = .ok (.if_icmp .gt 36, 3) := by decide +kernel
theorem dX6_scanSymbol_17 : decode cX6_scanSymbol 17 = .ok (.aload_n 0, 1) := by decide +kernel
theorem dX6_scanSymbol_18 : decode cX6_scanSymbol 18 = .ok (.getfield 24, 3) := by decide +kernel
theorem dX6_scanSymbol_21 : decode cX6_scanSymbol 21 = .ok (.iload_n 2, 1) := by decide +kernel
theorem dX6_scanSymbol_22 : decode cX6_scanSymbol 22 = .ok (.iload_n 2, 1) := by decide +kernel
theorem dX6_scanSymbol_23 : decode cX6_scanSymbol 23 = .ok (.iconst 2, 1) := by decide +kernel
theorem dX6_scanSymbol_24 : decode cX6_scanSymbol 24 = .ok (.iadd, 1) := by decide +kernel
theorem dX6_scanSymbol_25 : decode cX6_scanSymbol 25 = .ok (.getstatic 50, 3) := by decide +kernel
theorem dX6_scanSymbol_28 : decode cX6_scanSymbol 28 = .ok (.invokestatic 63, 3) := by decide +kernel
theorem dX6_scanSymbol_31 : decode cX6_scanSymbol 31 = .ok (.astore_n 3, 1) := by decide +kernel
theorem dX6_scanSymbol_32 : decode cX6_scanSymbol 32 = .ok (.aload_n 3, 1) := by decide +kernel
theorem dX6_scanSymbol_33 : decode cX6_scanSymbol 33 = .ok (.getstatic 50, 3) := by decide +kernel
theorem dX6_scanSymbol_36 : decode cX6_scanSymbol 36 = .ok (.if_acmp .eq 14, 3) := by decide +kernel
theorem dX6_scanSymbol_39 : decode cX6_scanSymbol 39 = .ok (.aload_n 0, 1) := by decide +kernel
theorem dX6_scanSymbol_40 : decode cX6_scanSymbol 40 = .ok (.getfield 21, 3) := by decide +kernel
theorem dX6_scanSymbol_43 : decode cX6_scanSymbol 43 = .ok (.iload_n 1, 1) := by decide +kernel
theorem dX6_scanSymbol_44 : decode cX6_scanSymbol 44 = .ok (.iload_n 2, 1) := by decide +kernel
theorem dX6_scanSymbol_45 : decode cX6_scanSymbol 45 = .ok (.iconst 2, 1) := by decide +kernel
theorem dX6_scanSymbol_46 : decode cX6_scanSymbol 46 = .ok (.iadd, 1) := by decide +kernel
theorem dX6_scanSymbol_47 : decode cX6_scanSymbol 47 = .ok (.iastore, 1) := by decide +kernel
theorem dX6_scanSymbol_48 : decode cX6_scanSymbol 48 = .ok (.aload_n 3, 1) := by decide +kernel
theorem dX6_scanSymbol_49 : decode cX6_scanSymbol 49 = .ok (.areturn, 1) := by decide +kernel
theorem dX6_scanSymbol_50 : decode cX6_scanSymbol 50 = .ok (.aload_n 0, 1) := by decide +kernel
theorem dX6_scanSymbol_51 : decode cX6_scanSymbol 51 = .ok (.getfield 21, 3) := by decide +kernel
theorem dX6_scanSymbol_54 : decode cX6_scanSymbol 54 = .ok (.iload_n 1, 1) := by decide +kernel
theorem dX6_scanSymbol_55 : decode cX6_scanSymbol 55 = .ok (.iload_n 2, 1) := by decide +kernel
theorem dX6_scanSymbol_56 : decode cX6_scanSymbol 56 = .ok (.iconst 1, 1) := by decide +kernel
theorem dX6_scanSymbol_57 : decode cX6_scanSymbol 57 = .ok (.iadd, 1) := by decide +kernel
theorem dX6_scanSymbol_58 : decode cX6_scanSymbol 58 = .ok (.iastore, 1) := by decide +kernel
theorem dX6_scanSymbol_59 : decode cX6_scanSymbol 59 = .ok (.aload_n 0, 1) := by decide +kernel
theorem dX6_scanSymbol_60 : decode cX6_scanSymbol 60 = .ok (.getfield 24, 3) := by decide +kernel
theorem dX6_scanSymbol_63 : decode cX6_scanSymbol 63 = .ok (.iload_n 2, 1) := by decide +kernel
theorem dX6_scanSymbol_64 : decode cX6_scanSymbol 64 = .ok (.iload_n 2, 1) := by decide +kernel
theorem dX6_scanSymbol_65 : decode cX6_scanSymbol 65 = .ok (.iconst 1, 1) := by decide +kernel
theorem dX6_scanSymbol_66 : decode cX6_scanSymbol 66 = .ok (.iadd, 1) := by decide +kernel
theorem dX6_scanSymbol_67 : decode cX6_scanSymbol 67 = .ok (.getstatic 50, 3) := by decide +kernel
theorem dX6_scanSymbol_70 : decode cX6_scanSymbol 70 = .ok (.invokestatic 63, 3) := by decide +kernel
theorem dX6_scanSymbol_73 : decode cX6_scanSymbol 73 = .ok (.areturn, 1) := by decide +kernel

def f_X6_scanSymbol (i0 : Nat) (a1 : Int32) (M : Mm) : Option (Int32 × Mm) :=
  if 0 ≤ a1.toInt ∧ a1.toInt < ((401 : Nat) : Int) then (if ((M i0 4) < ((M (i0 + 2) (ix a1)) + (2 : Int32))) then (if 0 ≤ a1.toInt ∧ a1.toInt < ((401 : Nat) : Int) then (lz (wr M (i0 + 3) (ix a1) ((M (i0 + 2) (ix a1)) + (1 : Int32))) fun M4 => if okr 21 (M4 i0 3) then (bd1 (f_X7_find (rid (M4 i0 3)) (M (i0 + 2) (ix a1)) ((M (i0 + 2) (ix a1)) + (1 : Int32)) (1051 : Int32) M4) fun x7 => some (x7, M4)) else none) else none) else (if okr 21 (M i0 3) then (bd1 (f_X7_find (rid (M i0 3)) (M (i0 + 2) (ix a1)) ((M (i0 + 2) (ix a1)) + (2 : Int32)) (1051 : Int32) M) fun x11 => if tkc x11 then (if (x11 = (1051 : Int32)) then (if 0 ≤ a1.toInt ∧ a1.toInt < ((401 : Nat) : Int) then (lz (wr M (i0 + 3) (ix a1) ((M (i0 + 2) (ix a1)) + (1 : Int32))) fun M17 => if okr 21 (M17 i0 3) then (bd1 (f_X7_find (rid (M17 i0 3)) (M (i0 + 2) (ix a1)) ((M (i0 + 2) (ix a1)) + (1 : Int32)) (1051 : Int32) M17) fun x20 => some (x20, M17)) else none) else none) else (if 0 ≤ a1.toInt ∧ a1.toInt < ((401 : Nat) : Int) then (lz (wr M (i0 + 3) (ix a1) ((M (i0 + 2) (ix a1)) + (2 : Int32))) fun M24 => some (x11, M24)) else none)) else none) else none)) else none

set_option maxHeartbeats 4000000 in
set_option maxRecDepth 100000 in
theorem c_X6_scanSymbol (l : Launch) (G : GG) (M : Mm) {i0 : Nat} (hi0 : (kd i0).1 = 8) (a1 : Int32) {r : Int32} {M9 : Mm} (hr : f_X6_scanSymbol i0 a1 M = some (r, M9)) : Mo false l yX6_scanSymbol (WS yX6_scanSymbol cX6_scanSymbol 4 (some (.object "PeatBog$Token"))) (RM 6 0 0 162) 0 0 [.ref (G.2.1 i0), .int a1] G M (some (.ref (G.2.1 (rid r)))) M9 := by
  refine Mo.of (by decide +kernel) (Nat.le_of_ble_eq_true rfl) ?_
  intro p e s m args below meth c hC
  have hC : CX p s m args meth c cX6_scanSymbol 4 RX6 (some (.object "PeatBog$Token")) G := hC
  rw [f_X6_scanSymbol] at hr
  show XJ p l e (RM 6 0 0 162) s m args below meth c G 4 _ 0 0 M 0 [(0, .ref (G.2.1 i0)), (1, .int a1)] []
  refine x_aload_n hC dX6_scanSymbol_0 rfl 0 rfl ?_
  refine gf_X6_17 hC hi0 dX6_scanSymbol_1 ?_
  refine x_iload_n hC dX6_scanSymbol_4 rfl 1 rfl ?_
  obtain ⟨h1, hr⟩ := it_s hr
  refine x_iald hC (kr_8_1 hi0) h1 dX6_scanSymbol_5 ?_
  refine x_istore_n hC [(2, .int (M (i0 + 2) (ix a1))), (0, .ref (G.2.1 i0)), (1, .int a1)] dX6_scanSymbol_6 rfl (Nat.le_of_ble_eq_true rfl) rfl ?_
  refine x_iload_n hC dX6_scanSymbol_7 rfl 0 rfl ?_
  refine x_iconst hC (2 : Int32) dX6_scanSymbol_8 (by decide) ?_
  refine x_iadd hC dX6_scanSymbol_9 ?_
  refine x_aload_n hC dX6_scanSymbol_10 rfl 1 rfl ?_
  refine gf_X6_28 hC hi0 dX6_scanSymbol_11 ?_
  refine x_icmp_gt hC 50 dX6_scanSymbol_14 (by decide) (fun h2 => ?_) (fun h2 => ?_)
  · have hr := (ie_s hr).1 h2
    refine x_aload_n hC dX6_scanSymbol_50 rfl 1 rfl ?_
    refine gf_X6_21 hC hi0 dX6_scanSymbol_51 ?_
    refine x_iload_n hC dX6_scanSymbol_54 rfl 2 rfl ?_
    refine x_iload_n hC dX6_scanSymbol_55 rfl 0 rfl ?_
    refine x_iconst hC (1 : Int32) dX6_scanSymbol_56 (by decide) ?_
    refine x_iadd hC dX6_scanSymbol_57 ?_
    obtain ⟨h3, hr⟩ := it_s hr
    obtain ⟨M4, e5, hr⟩ := lz_s hr
    refine x_iast hC (kr_8_2 hi0) h3 e5 dX6_scanSymbol_58 ?_
    refine x_aload_n hC dX6_scanSymbol_59 rfl 1 rfl ?_
    obtain ⟨h6, hr⟩ := it_s hr
    refine gf_X6_24 hC hi0 h6 dX6_scanSymbol_60 ?_
    refine x_iload_n hC dX6_scanSymbol_63 rfl 0 rfl ?_
    refine x_iload_n hC dX6_scanSymbol_64 rfl 0 rfl ?_
    refine x_iconst hC (1 : Int32) dX6_scanSymbol_65 (by decide) ?_
    refine x_iadd hC dX6_scanSymbol_66 ?_
    refine x_tgets hC (a := (1051 : Int32)) 50 (by decide) rfl (by decide) kf_X6_50 dX6_scanSymbol_67 ?_
    obtain ⟨x7, q8, hr⟩ := bd1_s hr
    refine x_callS (As := [.ref (G.2.1 (rid (M4 i0 3))), .int (M (i0 + 2) (ix a1)), .int ((M (i0 + 2) (ix a1)) + (1 : Int32)), .ref (G.2.1 (rid (1051 : Int32)))]) hC (c_X7_find l G M4 (by rw [(kd_eta h6.2)]) (M (i0 + 2) (ix a1)) ((M (i0 + 2) (ix a1)) + (1 : Int32)) (1051 : Int32) q8) kc_yX7_find km_X6_63 kt_yX7_find kn_RX7 ky_yX7_find rfl ⟨rfl, rfl⟩ ⟨(Nat.le_of_ble_eq_true rfl), (Nat.le_of_ble_eq_true rfl)⟩ rfl (Nat.le_of_ble_eq_true rfl) ⟨(Nat.le_of_ble_eq_true rfl), (Nat.le_of_ble_eq_true rfl)⟩ dX6_scanSymbol_70 (fun b9 => ?_)
    cases hr
    exact x_tret hC rfl dX6_scanSymbol_73
  · have hr := (ie_s hr).2 h2
    refine x_aload_n hC dX6_scanSymbol_17 rfl 1 rfl ?_
    obtain ⟨h10, hr⟩ := it_s hr
    refine gf_X6_24 hC hi0 h10 dX6_scanSymbol_18 ?_
    refine x_iload_n hC dX6_scanSymbol_21 rfl 0 rfl ?_
    refine x_iload_n hC dX6_scanSymbol_22 rfl 0 rfl ?_
    refine x_iconst hC (2 : Int32) dX6_scanSymbol_23 (by decide) ?_
    refine x_iadd hC dX6_scanSymbol_24 ?_
    refine x_tgets hC (a := (1051 : Int32)) 50 (by decide) rfl (by decide) kf_X6_50 dX6_scanSymbol_25 ?_
    obtain ⟨x11, q12, hr⟩ := bd1_s hr
    refine x_callS (As := [.ref (G.2.1 (rid (M i0 3))), .int (M (i0 + 2) (ix a1)), .int ((M (i0 + 2) (ix a1)) + (2 : Int32)), .ref (G.2.1 (rid (1051 : Int32)))]) hC (c_X7_find l G M (by rw [(kd_eta h10.2)]) (M (i0 + 2) (ix a1)) ((M (i0 + 2) (ix a1)) + (2 : Int32)) (1051 : Int32) q12) kc_yX7_find km_X6_63 kt_yX7_find kn_RX7 ky_yX7_find rfl ⟨rfl, rfl⟩ ⟨(Nat.le_of_ble_eq_true rfl), (Nat.le_of_ble_eq_true rfl)⟩ rfl (Nat.le_of_ble_eq_true rfl) ⟨(Nat.le_of_ble_eq_true rfl), (Nat.le_of_ble_eq_true rfl)⟩ dX6_scanSymbol_28 (fun b13 => ?_)
    refine x_astore_n hC [(3, .ref (G.2.1 (rid x11))), (2, .int (M (i0 + 2) (ix a1))), (0, .ref (G.2.1 i0)), (1, .int a1)] dX6_scanSymbol_31 rfl (Nat.le_of_ble_eq_true rfl) rfl ?_
    refine x_aload_n hC dX6_scanSymbol_32 rfl 0 rfl ?_
    refine x_tgets hC (a := (1051 : Int32)) 50 (by decide) rfl (by decide) kf_X6_50 dX6_scanSymbol_33 ?_
    obtain ⟨h14, hr⟩ := it_s hr
    refine x_acmp_eq hC 50 ⟨h14, (by decide)⟩ dX6_scanSymbol_36 (by decide) (fun h15 => ?_) (fun h15 => ?_)
    · have hr := (ie_s hr).1 h15
      refine x_aload_n hC dX6_scanSymbol_50 rfl 2 rfl ?_
      refine gf_X6_21 hC hi0 dX6_scanSymbol_51 ?_
      refine x_iload_n hC dX6_scanSymbol_54 rfl 3 rfl ?_
      refine x_iload_n hC dX6_scanSymbol_55 rfl 1 rfl ?_
      refine x_iconst hC (1 : Int32) dX6_scanSymbol_56 (by decide) ?_
      refine x_iadd hC dX6_scanSymbol_57 ?_
      obtain ⟨h16, hr⟩ := it_s hr
      obtain ⟨M17, e18, hr⟩ := lz_s hr
      refine x_iast hC (kr_8_2 hi0) h16 e18 dX6_scanSymbol_58 ?_
      refine x_aload_n hC dX6_scanSymbol_59 rfl 2 rfl ?_
      obtain ⟨h19, hr⟩ := it_s hr
      refine gf_X6_24 hC hi0 h19 dX6_scanSymbol_60 ?_
      refine x_iload_n hC dX6_scanSymbol_63 rfl 1 rfl ?_
      refine x_iload_n hC dX6_scanSymbol_64 rfl 1 rfl ?_
      refine x_iconst hC (1 : Int32) dX6_scanSymbol_65 (by decide) ?_
      refine x_iadd hC dX6_scanSymbol_66 ?_
      refine x_tgets hC (a := (1051 : Int32)) 50 (by decide) rfl (by decide) kf_X6_50 dX6_scanSymbol_67 ?_
      obtain ⟨x20, q21, hr⟩ := bd1_s hr
      refine x_callS (As := [.ref (G.2.1 (rid (M17 i0 3))), .int (M (i0 + 2) (ix a1)), .int ((M (i0 + 2) (ix a1)) + (1 : Int32)), .ref (G.2.1 (rid (1051 : Int32)))]) hC (c_X7_find l G M17 (by rw [(kd_eta h19.2)]) (M (i0 + 2) (ix a1)) ((M (i0 + 2) (ix a1)) + (1 : Int32)) (1051 : Int32) q21) kc_yX7_find km_X6_63 kt_yX7_find kn_RX7 ky_yX7_find rfl ⟨rfl, rfl⟩ ⟨(Nat.le_of_ble_eq_true rfl), (Nat.le_of_ble_eq_true rfl)⟩ rfl (Nat.le_of_ble_eq_true rfl) ⟨(Nat.le_of_ble_eq_true rfl), (Nat.le_of_ble_eq_true rfl)⟩ dX6_scanSymbol_70 (fun b22 => ?_)
      cases hr
      exact x_tret hC rfl dX6_scanSymbol_73
    · have hr := (ie_s hr).2 h15
      refine x_aload_n hC dX6_scanSymbol_39 rfl 2 rfl ?_
      refine gf_X6_21 hC hi0 dX6_scanSymbol_40 ?_
      refine x_iload_n hC dX6_scanSymbol_43 rfl 3 rfl ?_
      refine x_iload_n hC dX6_scanSymbol_44 rfl 1 rfl ?_
      refine x_iconst hC (2 : Int32) dX6_scanSymbol_45 (by decide) ?_
      refine x_iadd hC dX6_scanSymbol_46 ?_
      obtain ⟨h23, hr⟩ := it_s hr
      obtain ⟨M24, e25, hr⟩ := lz_s hr
      refine x_iast hC (kr_8_2 hi0) h23 e25 dX6_scanSymbol_47 ?_
      refine x_aload_n hC dX6_scanSymbol_48 rfl 0 rfl ?_
      cases hr
      exact x_tret hC rfl dX6_scanSymbol_49

theorem dX6_scanToken_0 : decode cX6_scanToken 0 = .ok (.aload_n 0, 1) := by decide +kernel
theorem dX6_scanToken_1 : decode cX6_scanToken 1 = .ok (.getfield 17, 3) := by decide +kernel
theorem dX6_scanToken_4 : decode cX6_scanToken 4 = .ok (.iload_n 1, 1) := by decide +kernel
theorem dX6_scanToken_5 : decode cX6_scanToken 5 = .ok (.iaload, 1) := by decide +kernel
theorem dX6_scanToken_6 : decode cX6_scanToken 6 = .ok (.istore_n 2, 1) := by decide +kernel
theorem dX6_scanToken_7 : decode cX6_scanToken 7 = .ok (.iload_n 2, 1) := by decide +kernel
theorem dX6_scanToken_8 : decode cX6_scanToken 8 = .ok (.aload_n 0, 1) := by decide +kernel
theorem dX6_scanToken_9 : decode cX6_scanToken 9 = .ok (.getfield 28, 3) := by decide +kernel
theorem dX6_scanToken_12 : decode cX6_scanToken 12 = .ok (.if_icmp .lt 7, 3) := by decide +kernel
theorem dX6_scanToken_15 : decode cX6_scanToken 15 = .ok (.getstatic 46, 3) := by decide +kernel
theorem dX6_scanToken_18 : decode cX6_scanToken 18 = .ok (.areturn, 1) := by decide +kernel
theorem dX6_scanToken_19 : decode cX6_scanToken 19 = .ok (.aload_n 0, 1) := by decide +kernel
theorem dX6_scanToken_20 : decode cX6_scanToken 20 = .ok (.iload_n 2, 1) := by decide +kernel
theorem dX6_scanToken_21 : decode cX6_scanToken 21 = .ok (.invokevirtual 53, 3) := by decide +kernel
theorem dX6_scanToken_24 : decode cX6_scanToken 24 = .ok (.ifCond .eq 61, 3) := by decide +kernel
theorem dX6_scanToken_27 : decode cX6_scanToken 27 = .ok (.aload_n 0, 1) := by decide +kernel
theorem dX6_scanToken_28 : decode cX6_scanToken 28 = .ok (.getfield 21, 3) := by decide +kernel
theorem dX6_scanToken_31 : decode cX6_scanToken 31 = .ok (.iload_n 1, 1) := by decide +kernel
theorem dX6_scanToken_32 : decode cX6_scanToken 32 = .ok (.aload_n 0, 1) := by decide +kernel
theorem dX6_scanToken_33 : decode cX6_scanToken 33 = .ok (.iload_n 2, 1) := by decide +kernel
theorem dX6_scanToken_34 : decode cX6_scanToken 34 = .ok (.invokevirtual 57, 3) := by decide +kernel
theorem dX6_scanToken_37 : decode cX6_scanToken 37 = .ok (.iastore, 1) := by decide +kernel
theorem dX6_scanToken_38 : decode cX6_scanToken 38 = .ok (.aload_n 0, 1) := by decide +kernel
theorem dX6_scanToken_39 : decode cX6_scanToken 39 = .ok (.getfield 21, 3) := by decide +kernel
theorem dX6_scanToken_42 : decode cX6_scanToken 42 = .ok (.iload_n 1, 1) := by decide +kernel
theorem dX6_scanToken_43 : decode cX6_scanToken 43 = .ok (.iaload, 1) := by decide +kernel
theorem dX6_scanToken_44 : decode cX6_scanToken 44 = .ok (.iload_n 2, 1) := by decide +kernel
theorem dX6_scanToken_45 : decode cX6_scanToken 45 = .ok (.isub, 1) := by decide +kernel
theorem dX6_scanToken_46 : decode cX6_scanToken 46 = .ok (.bipush 10, 2) := by decide +kernel
theorem dX6_scanToken_48 : decode cX6_scanToken 48 = .ok (.if_icmp .le 7, 3) := by decide +kernel
theorem dX6_scanToken_51 : decode cX6_scanToken 51 = .ok (.iconst 1, 1) := by decide +kernel
theorem dX6_scanToken_52 : decode cX6_scanToken 52 = .ok (.goto 4, 3) := by decide +kernel
theorem dX6_scanToken_55 : decode cX6_scanToken 55 = .ok (.iconst 0, 1) := by decide +kernel
theorem dX6_scanToken_56 : decode cX6_scanToken 56 = .ok (.istore_n 3, 1) := by decide +kernel
theorem dX6_scanToken_57 : decode cX6_scanToken 57 = .ok (.iload_n 3, 1) := by decide +kernel
theorem dX6_scanToken_58 : decode cX6_scanToken 58 = .ok (.ifCond .eq 9, 3) := by decide +kernel
theorem dX6_scanToken_61 : decode cX6_scanToken 61 = .ok (.getstatic 50, 3) := by decide +kernel
theorem dX6_scanToken_64 : decode cX6_scanToken 64 = .ok (.goto 20, 3) := by decide +kernel
theorem dX6_scanToken_67 : decode cX6_scanToken 67 = .ok (.aload_n 0, 1) := by decide +kernel
theorem dX6_scanToken_68 : decode cX6_scanToken 68 = .ok (.getfield 24, 3) := by decide +kernel
theorem dX6_scanToken_71 : decode cX6_scanToken 71 = .ok (.iload_n 2, 1) := by decide +kernel
theorem dX6_scanToken_72 : decode cX6_scanToken 72 = .ok (.aload_n 0, 1) := by decide +kernel
theorem dX6_scanToken_73 : decode cX6_scanToken 73 = .ok (.getfield 21, 3) := by decide +kernel
theorem dX6_scanToken_76 : decode cX6_scanToken 76 = .ok (.iload_n 1, 1) := by decide +kernel
theorem dX6_scanToken_77 : decode cX6_scanToken 77 = .ok (.iaload, 1) := by decide +kernel
theorem dX6_scanToken_78 : decode cX6_scanToken 78 = .ok (.getstatic 60, 3) := by decide +kernel
theorem dX6_scanToken_81 : decode cX6_scanToken 81 = .ok (.invokestatic 63, 3) := by decide +kernel
theorem dX6_scanToken_84 : decode cX6_scanToken 84 = .ok (.areturn, 1) := by decide +kernel
theorem dX6_scanToken_85 : decode cX6_scanToken 85 = .ok (.aload_n 0, 1) := by decide +kernel
theorem dX6_scanToken_86 : decode cX6_scanToken 86 = .ok (.iload_n 2, 1) := by decide +kernel
theorem dX6_scanToken_87 : decode cX6_scanToken 87 = .ok (.invokevirtual 67, 3) := by decide +kernel
theorem dX6_scanToken_90 : decode cX6_scanToken 90 = .ok (.ifCond .eq 37, 3) := by decide +kernel
theorem dX6_scanToken_93 : decode cX6_scanToken 93 = .ok (.aload_n 0, 1) := by decide +kernel
theorem dX6_scanToken_94 : decode cX6_scanToken 94 = .ok (.getfield 21, 3) := by decide +kernel
theorem dX6_scanToken_97 : decode cX6_scanToken 97 = .ok (.iload_n 1, 1) := by decide +kernel
theorem dX6_scanToken_98 : decode cX6_scanToken 98 = .ok (.aload_n 0, 1) := by decide +kernel
theorem dX6_scanToken_99 : decode cX6_scanToken 99 = .ok (.iload_n 2, 1) := by decide +kernel
theorem dX6_scanToken_100 : decode cX6_scanToken 100 = .ok (.invokevirtual 70, 3) := by decide +kernel
theorem dX6_scanToken_103 : decode cX6_scanToken 103 = .ok (.iastore, 1) := by decide +kernel
theorem dX6_scanToken_104 : decode cX6_scanToken 104 = .ok (.aload_n 0, 1) := by decide +kernel
theorem dX6_scanToken_105 : decode cX6_scanToken 105 = .ok (.getfield 21, 3) := by decide +kernel
theorem dX6_scanToken_108 : decode cX6_scanToken 108 = .ok (.iload_n 1, 1) := by decide +kernel
theorem dX6_scanToken_109 : decode cX6_scanToken 109 = .ok (.iaload, 1) := by decide +kernel
theorem dX6_scanToken_110 : decode cX6_scanToken 110 = .ok (.iload_n 2, 1) := by decide +kernel
theorem dX6_scanToken_111 : decode cX6_scanToken 111 = .ok (.isub, 1) := by decide +kernel
theorem dX6_scanToken_112 : decode cX6_scanToken 112 = .ok (.bipush 6, 2) := by decide +kernel
theorem dX6_scanToken_114 : decode cX6_scanToken 114 = .ok (.if_icmp .le 9, 3) := by decide +kernel
theorem dX6_scanToken_117 : decode cX6_scanToken 117 = .ok (.getstatic 50, 3) := by decide +kernel
theorem dX6_scanToken_120 : decode cX6_scanToken 120 = .ok (.goto 6, 3) := by decide +kernel
theorem dX6_scanToken_123 : decode cX6_scanToken 123 = .ok (.getstatic 73, 3) := by decide +kernel
theorem dX6_scanToken_126 : decode cX6_scanToken 126 = .ok (.areturn, 1) := by decide +kernel
theorem dX6_scanToken_127 : decode cX6_scanToken 127 = .ok (.aload_n 0, 1) := by decide +kernel
theorem dX6_scanToken_128 : decode cX6_scanToken 128 = .ok (.iload_n 1, 1) := by decide +kernel
theorem dX6_scanToken_129 : decode cX6_scanToken 129 = .ok (.invokevirtual 76, 3) := by decide +kernel
theorem dX6_scanToken_132 : decode cX6_scanToken 132 = .ok (.areturn, 1) := by decide +kernel

def f_X6_scanToken (i0 : Nat) (a1 : Int32) (M : Mm) : Option (Int32 × Mm) :=
  if 0 ≤ a1.toInt ∧ a1.toInt < ((401 : Nat) : Int) then (if ((M (i0 + 2) (ix a1)) < (M i0 4)) then (bd1 (f_X6_isLetter i0 (M (i0 + 2) (ix a1)) M) fun x3 => if (x3 = 0) then (bd1 (f_X6_isDigit i0 (M (i0 + 2) (ix a1)) M) fun x7 => if (x7 = 0) then (bd2 (f_X6_scanSymbol i0 a1 M) fun x11 M12 => some (x11, M12)) else (bd1 (f_X6_behindDigits i0 (M (i0 + 2) (ix a1)) M) fun x15 => if 0 ≤ a1.toInt ∧ a1.toInt < ((401 : Nat) : Int) then (lz (wr M (i0 + 3) (ix a1) x15) fun M19 => if 0 ≤ a1.toInt ∧ a1.toInt < ((401 : Nat) : Int) then (if (((M19 (i0 + 3) (ix a1)) - (M (i0 + 2) (ix a1))) ≤ (6 : Int32)) then (some ((1049 : Int32), M19)) else (some ((1051 : Int32), M19))) else none) else none)) else (bd1 (f_X6_behindWord i0 (M (i0 + 2) (ix a1)) M) fun x23 => if 0 ≤ a1.toInt ∧ a1.toInt < ((401 : Nat) : Int) then (lz (wr M (i0 + 3) (ix a1) x23) fun M27 => if 0 ≤ a1.toInt ∧ a1.toInt < ((401 : Nat) : Int) then (lz (if (((M27 (i0 + 3) (ix a1)) - (M (i0 + 2) (ix a1))) ≤ (10 : Int32)) then ((0 : Int32)) else ((1 : Int32))) fun x32 => if (x32 = 0) then (if okr 21 (M27 i0 3) then (if 0 ≤ a1.toInt ∧ a1.toInt < ((401 : Nat) : Int) then (bd1 (f_X7_find (rid (M27 i0 3)) (M (i0 + 2) (ix a1)) (M27 (i0 + 3) (ix a1)) (1048 : Int32) M27) fun x38 => some (x38, M27)) else none) else none) else (some ((1051 : Int32), M27))) else none) else none)) else (some ((1050 : Int32), M))) else none

set_option maxHeartbeats 4000000 in
set_option maxRecDepth 100000 in
theorem c_X6_scanToken (l : Launch) (G : GG) (M : Mm) {i0 : Nat} (hi0 : (kd i0).1 = 8) (a1 : Int32) {r : Int32} {M9 : Mm} (hr : f_X6_scanToken i0 a1 M = some (r, M9)) : Mo false l yX6_scanToken (WS yX6_scanToken cX6_scanToken 4 (some (.object "PeatBog$Token"))) (RM 7 0 0 185) 0 0 [.ref (G.2.1 i0), .int a1] G M (some (.ref (G.2.1 (rid r)))) M9 := by
  refine Mo.of (by decide +kernel) (Nat.le_of_ble_eq_true rfl) ?_
  intro p e s m args below meth c hC
  have hC : CX p s m args meth c cX6_scanToken 4 RX6 (some (.object "PeatBog$Token")) G := hC
  rw [f_X6_scanToken] at hr
  show XJ p l e (RM 7 0 0 185) s m args below meth c G 4 _ 0 0 M 0 [(0, .ref (G.2.1 i0)), (1, .int a1)] []
  refine x_aload_n hC dX6_scanToken_0 rfl 0 rfl ?_
  refine gf_X6_17 hC hi0 dX6_scanToken_1 ?_
  refine x_iload_n hC dX6_scanToken_4 rfl 1 rfl ?_
  obtain ⟨h1, hr⟩ := it_s hr
  refine x_iald hC (kr_8_1 hi0) h1 dX6_scanToken_5 ?_
  refine x_istore_n hC [(2, .int (M (i0 + 2) (ix a1))), (0, .ref (G.2.1 i0)), (1, .int a1)] dX6_scanToken_6 rfl (Nat.le_of_ble_eq_true rfl) rfl ?_
  refine x_iload_n hC dX6_scanToken_7 rfl 0 rfl ?_
  refine x_aload_n hC dX6_scanToken_8 rfl 1 rfl ?_
  refine gf_X6_28 hC hi0 dX6_scanToken_9 ?_
  refine x_icmp_lt hC 19 dX6_scanToken_12 (by decide) (fun h2 => ?_) (fun h2 => ?_)
  · have hr := (ie_s hr).1 h2
    refine x_aload_n hC dX6_scanToken_19 rfl 1 rfl ?_
    refine x_iload_n hC dX6_scanToken_20 rfl 0 rfl ?_
    obtain ⟨x3, q4, hr⟩ := bd1_s hr
    refine x_callV (ci := 8) (q := (RX6, TX6, 5)) (As := [.int (M (i0 + 2) (ix a1))]) hC (c_X6_isLetter l G M hi0 (M (i0 + 2) (ix a1)) q4) kc_yX6_isLetter km_X6_53 ki_yX6_isLetter kv_yX6_isLetter kn_RX6 ky_yX6_isLetter rfl ⟨rfl, rfl⟩ ⟨(Nat.le_of_ble_eq_true rfl), (Nat.le_of_ble_eq_true rfl)⟩ hi0 (by decide) rfl rfl (Nat.le_of_ble_eq_true rfl) ⟨(Nat.le_of_ble_eq_true rfl), (Nat.le_of_ble_eq_true rfl)⟩ dX6_scanToken_21 (fun b5 => ?_)
    refine x_if_eq hC 85 dX6_scanToken_24 (by decide) (fun h6 => ?_) (fun h6 => ?_)
    · have hr := (ie_s hr).1 h6
      refine x_aload_n hC dX6_scanToken_85 rfl 1 rfl ?_
      refine x_iload_n hC dX6_scanToken_86 rfl 0 rfl ?_
      obtain ⟨x7, q8, hr⟩ := bd1_s hr
      refine x_callV (ci := 8) (q := (RX6, TX6, 5)) (As := [.int (M (i0 + 2) (ix a1))]) hC (c_X6_isDigit l G M hi0 (M (i0 + 2) (ix a1)) q8) kc_yX6_isDigit km_X6_67 ki_yX6_isDigit kv_yX6_isDigit kn_RX6 ky_yX6_isDigit rfl ⟨rfl, rfl⟩ ⟨(Nat.le_of_ble_eq_true rfl), (Nat.le_of_ble_eq_true rfl)⟩ hi0 (by decide) rfl rfl (Nat.le_of_ble_eq_true rfl) ⟨(Nat.le_of_ble_eq_true rfl), (Nat.le_of_ble_eq_true rfl)⟩ dX6_scanToken_87 (fun b9 => ?_)
      refine x_if_eq hC 127 dX6_scanToken_90 (by decide) (fun h10 => ?_) (fun h10 => ?_)
      · have hr := (ie_s hr).1 h10
        refine x_aload_n hC dX6_scanToken_127 rfl 1 rfl ?_
        refine x_iload_n hC dX6_scanToken_128 rfl 2 rfl ?_
        obtain ⟨x11, M12, q13, hr⟩ := bd2_s hr
        refine x_callV (ci := 8) (q := (RX6, TX6, 5)) (As := [.int a1]) hC (c_X6_scanSymbol l G M hi0 a1 q13) kc_yX6_scanSymbol km_X6_76 ki_yX6_scanSymbol kv_yX6_scanSymbol kn_RX6 ky_yX6_scanSymbol rfl ⟨rfl, rfl⟩ ⟨(Nat.le_of_ble_eq_true rfl), (Nat.le_of_ble_eq_true rfl)⟩ hi0 (by decide) rfl rfl (Nat.le_of_ble_eq_true rfl) ⟨(Nat.le_of_ble_eq_true rfl), (Nat.le_of_ble_eq_true rfl)⟩ dX6_scanToken_129 (fun b14 => ?_)
        cases hr
        exact x_tret hC rfl dX6_scanToken_132
      · have hr := (ie_s hr).2 h10
        refine x_aload_n hC dX6_scanToken_93 rfl 1 rfl ?_
        refine gf_X6_21 hC hi0 dX6_scanToken_94 ?_
        refine x_iload_n hC dX6_scanToken_97 rfl 2 rfl ?_
        refine x_aload_n hC dX6_scanToken_98 rfl 1 rfl ?_
        refine x_iload_n hC dX6_scanToken_99 rfl 0 rfl ?_
        obtain ⟨x15, q16, hr⟩ := bd1_s hr
        refine x_callV (ci := 8) (q := (RX6, TX6, 5)) (As := [.int (M (i0 + 2) (ix a1))]) hC (c_X6_behindDigits l G M hi0 (M (i0 + 2) (ix a1)) q16) kc_yX6_behindDigits km_X6_70 ki_yX6_behindDigits kv_yX6_behindDigits kn_RX6 ky_yX6_behindDigits rfl ⟨rfl, rfl⟩ ⟨(Nat.le_of_ble_eq_true rfl), (Nat.le_of_ble_eq_true rfl)⟩ hi0 (by decide) rfl rfl (Nat.le_of_ble_eq_true rfl) ⟨(Nat.le_of_ble_eq_true rfl), (Nat.le_of_ble_eq_true rfl)⟩ dX6_scanToken_100 (fun b17 => ?_)
        obtain ⟨h18, hr⟩ := it_s hr
        obtain ⟨M19, e20, hr⟩ := lz_s hr
        refine x_iast hC (kr_8_2 hi0) h18 e20 dX6_scanToken_103 ?_
        refine x_aload_n hC dX6_scanToken_104 rfl 1 rfl ?_
        refine gf_X6_21 hC hi0 dX6_scanToken_105 ?_
        refine x_iload_n hC dX6_scanToken_108 rfl 2 rfl ?_
        obtain ⟨h21, hr⟩ := it_s hr
        refine x_iald hC (kr_8_2 hi0) h21 dX6_scanToken_109 ?_
        refine x_iload_n hC dX6_scanToken_110 rfl 0 rfl ?_
        refine x_isub hC dX6_scanToken_111 ?_
        refine x_bipush hC (6 : Int32) dX6_scanToken_112 (by decide) ?_
        refine x_icmp_le hC 123 dX6_scanToken_114 (by decide) (fun h22 => ?_) (fun h22 => ?_)
        · have hr := (ie_s hr).1 h22
          refine x_tgets hC (a := (1049 : Int32)) 48 (by decide) rfl (by decide) kf_X6_73 dX6_scanToken_123 ?_
          cases hr
          exact x_tret hC rfl dX6_scanToken_126
        · have hr := (ie_s hr).2 h22
          refine x_tgets hC (a := (1051 : Int32)) 50 (by decide) rfl (by decide) kf_X6_50 dX6_scanToken_117 ?_
          refine x_goto hC 126 dX6_scanToken_120 (by decide) ?_
          cases hr
          exact x_tret hC rfl dX6_scanToken_126
    · have hr := (ie_s hr).2 h6
      refine x_aload_n hC dX6_scanToken_27 rfl 1 rfl ?_
      refine gf_X6_21 hC hi0 dX6_scanToken_28 ?_
      refine x_iload_n hC dX6_scanToken_31 rfl 2 rfl ?_
      refine x_aload_n hC dX6_scanToken_32 rfl 1 rfl ?_
      refine x_iload_n hC dX6_scanToken_33 rfl 0 rfl ?_
      obtain ⟨x23, q24, hr⟩ := bd1_s hr
      refine x_callV (ci := 8) (q := (RX6, TX6, 5)) (As := [.int (M (i0 + 2) (ix a1))]) hC (c_X6_behindWord l G M hi0 (M (i0 + 2) (ix a1)) q24) kc_yX6_behindWord km_X6_57 ki_yX6_behindWord kv_yX6_behindWord kn_RX6 ky_yX6_behindWord rfl ⟨rfl, rfl⟩ ⟨(Nat.le_of_ble_eq_true rfl), (Nat.le_of_ble_eq_true rfl)⟩ hi0 (by decide) rfl rfl (Nat.le_of_ble_eq_true rfl) ⟨(Nat.le_of_ble_eq_true rfl), (Nat.le_of_ble_eq_true rfl)⟩ dX6_scanToken_34 (fun b25 => ?_)
      obtain ⟨h26, hr⟩ := it_s hr
      obtain ⟨M27, e28, hr⟩ := lz_s hr
      refine x_iast hC (kr_8_2 hi0) h26 e28 dX6_scanToken_37 ?_
      refine x_aload_n hC dX6_scanToken_38 rfl 1 rfl ?_
      refine gf_X6_21 hC hi0 dX6_scanToken_39 ?_
      refine x_iload_n hC dX6_scanToken_42 rfl 2 rfl ?_
      obtain ⟨h29, hr⟩ := it_s hr
      refine x_iald hC (kr_8_2 hi0) h29 dX6_scanToken_43 ?_
      refine x_iload_n hC dX6_scanToken_44 rfl 0 rfl ?_
      refine x_isub hC dX6_scanToken_45 ?_
      refine x_bipush hC (10 : Int32) dX6_scanToken_46 (by decide) ?_
      obtain ⟨x32, e33, hr⟩ := lz_s hr
      have q30 := e33.symm
      refine x_joinB (P := (x32 = 0 ∨ x32 = 1)) (M' := M27) (pc' := 56) (lv' := [(0, .ref (G.2.1 i0)), (1, .int a1), (2, .int (M (i0 + 2) (ix a1)))]) (st' := [.int x32]) ?_ ?_
      · intro b34
        refine x_istore_n hC [(3, .int x32), (0, .ref (G.2.1 i0)), (1, .int a1), (2, .int (M (i0 + 2) (ix a1)))] dX6_scanToken_56 rfl (Nat.le_of_ble_eq_true rfl) rfl ?_
        refine x_iload_n hC dX6_scanToken_57 rfl 0 rfl ?_
        refine x_if_eq hC 67 dX6_scanToken_58 (by decide) (fun h35 => ?_) (fun h35 => ?_)
        · have hr := (ie_s hr).1 h35
          refine x_aload_n hC dX6_scanToken_67 rfl 1 rfl ?_
          obtain ⟨h36, hr⟩ := it_s hr
          refine gf_X6_24 hC hi0 h36 dX6_scanToken_68 ?_
          refine x_iload_n hC dX6_scanToken_71 rfl 3 rfl ?_
          refine x_aload_n hC dX6_scanToken_72 rfl 1 rfl ?_
          refine gf_X6_21 hC hi0 dX6_scanToken_73 ?_
          refine x_iload_n hC dX6_scanToken_76 rfl 2 rfl ?_
          obtain ⟨h37, hr⟩ := it_s hr
          refine x_iald hC (kr_8_2 hi0) h37 dX6_scanToken_77 ?_
          refine x_tgets hC (a := (1048 : Int32)) 47 (by decide) rfl (by decide) kf_X6_60 dX6_scanToken_78 ?_
          obtain ⟨x38, q39, hr⟩ := bd1_s hr
          refine x_callS (As := [.ref (G.2.1 (rid (M27 i0 3))), .int (M (i0 + 2) (ix a1)), .int (M27 (i0 + 3) (ix a1)), .ref (G.2.1 (rid (1048 : Int32)))]) hC (c_X7_find l G M27 (by rw [(kd_eta h36.2)]) (M (i0 + 2) (ix a1)) (M27 (i0 + 3) (ix a1)) (1048 : Int32) q39) kc_yX7_find km_X6_63 kt_yX7_find kn_RX7 ky_yX7_find rfl ⟨rfl, rfl⟩ ⟨(Nat.le_of_ble_eq_true rfl), (Nat.le_of_ble_eq_true rfl)⟩ rfl (Nat.le_of_ble_eq_true rfl) ⟨(Nat.le_of_ble_eq_true rfl), (Nat.le_of_ble_eq_true rfl)⟩ dX6_scanToken_81 (fun b40 => ?_)
          cases hr
          exact x_tret hC rfl dX6_scanToken_84
        · have hr := (ie_s hr).2 h35
          refine x_tgets hC (a := (1051 : Int32)) 50 (by decide) rfl (by decide) kf_X6_50 dX6_scanToken_61 ?_
          refine x_goto hC 84 dX6_scanToken_64 (by decide) ?_
          cases hr
          exact x_tret hC rfl dX6_scanToken_84
      · intro kj
        refine x_icmp_le hC 55 dX6_scanToken_48 (by decide) (fun h31 => ?_) (fun h31 => ?_)
        · have q30 := (ie_s q30).1 h31
          refine x_iconst hC (0 : Int32) dX6_scanToken_55 (by decide) ?_
          subst q30
          exact x_sub [1, 2, 0] rfl (kj (Or.inl rfl))
        · have q30 := (ie_s q30).2 h31
          refine x_iconst hC (1 : Int32) dX6_scanToken_51 (by decide) ?_
          refine x_goto hC 56 dX6_scanToken_52 (by decide) ?_
          subst q30
          exact x_sub [1, 2, 0] rfl (kj (Or.inr rfl))
  · have hr := (ie_s hr).2 h2
    refine x_tgets hC (a := (1050 : Int32)) 49 (by decide) rfl (by decide) kf_X6_46 dX6_scanToken_15 ?_
    cases hr
    exact x_tret hC rfl dX6_scanToken_18

theorem dX6_scan_0 : decode cX6_scan 0 = .ok (.aload_n 0, 1) := by decide +kernel
theorem dX6_scan_1 : decode cX6_scan 1 = .ok (.aload_n 1, 1) := by decide +kernel
theorem dX6_scan_2 : decode cX6_scan 2 = .ok (.putfield 24, 3) := by decide +kernel
theorem dX6_scan_5 : decode cX6_scan 5 = .ok (.aload_n 0, 1) := by decide +kernel
theorem dX6_scan_6 : decode cX6_scan 6 = .ok (.iload_n 2, 1) := by decide +kernel
theorem dX6_scan_7 : decode cX6_scan 7 = .ok (.aload_n 1, 1) := by decide +kernel
theorem dX6_scan_8 : decode cX6_scan 8 = .ok (.arraylength, 1) := by decide +kernel
theorem dX6_scan_9 : decode cX6_scan 9 = .ok (.invokestatic 32, 3) := by decide +kernel
theorem dX6_scan_12 : decode cX6_scan 12 = .ok (.putfield 28, 3) := by decide +kernel
theorem dX6_scan_15 : decode cX6_scan 15 = .ok (.iconst 0, 1) := by decide +kernel
theorem dX6_scan_16 : decode cX6_scan 16 = .ok (.istore_n 3, 1) := by decide +kernel
theorem dX6_scan_17 : decode cX6_scan 17 = .ok (.iconst 0, 1) := by decide +kernel
theorem dX6_scan_18 : decode cX6_scan 18 = .ok (.istore 4, 2) := by decide +kernel
theorem dX6_scan_20 : decode cX6_scan 20 = .ok (.iconst 0, 1) := by decide +kernel
theorem dX6_scan_21 : decode cX6_scan 21 = .ok (.istore 5, 2) := by decide +kernel
theorem dX6_scan_23 : decode cX6_scan 23 = .ok (.iload 5, 2) := by decide +kernel
theorem dX6_scan_25 : decode cX6_scan 25 = .ok (.sipush 400, 3) := by decide +kernel
theorem dX6_scan_28 : decode cX6_scan 28 = .ok (.if_icmp .gt 125, 3) := by decide +kernel
theorem dX6_scan_31 : decode cX6_scan 31 = .ok (.iload 4, 2) := by decide +kernel
theorem dX6_scan_33 : decode cX6_scan 33 = .ok (.ifCond .ne 120, 3) := by decide +kernel
theorem dX6_scan_36 : decode cX6_scan 36 = .ok (.aload_n 0, 1) := by decide +kernel
theorem dX6_scan_37 : decode cX6_scan 37 = .ok (.getfield 17, 3) := by decide +kernel
theorem dX6_scan_40 : decode cX6_scan 40 = .ok (.iload 5, 2) := by decide +kernel
theorem dX6_scan_42 : decode cX6_scan 42 = .ok (.aload_n 0, 1) := by decide +kernel
theorem dX6_scan_43 : decode cX6_scan 43 = .ok (.iload_n 3, 1) := by decide +kernel
theorem dX6_scan_44 : decode cX6_scan 44 = .ok (.invokevirtual 38, 3) := by decide +kernel
theorem dX6_scan_47 : decode cX6_scan 47 = .ok (.iastore, 1) := by decide +kernel
theorem dX6_scan_48 : decode cX6_scan 48 = .ok (.aload_n 0, 1) := by decide +kernel
theorem dX6_scan_49 : decode cX6_scan 49 = .ok (.getfield 21, 3) := by decide +kernel
theorem dX6_scan_52 : decode cX6_scan 52 = .ok (.iload 5, 2) := by decide +kernel
theorem dX6_scan_54 : decode cX6_scan 54 = .ok (.aload_n 0, 1) := by decide +kernel
theorem dX6_scan_55 : decode cX6_scan 55 = .ok (.getfield 17, 3) := by decide +kernel
theorem dX6_scan_58 : decode cX6_scan 58 = .ok (.iload 5, 2) := by decide +kernel
theorem dX6_scan_60 : decode cX6_scan 60 = .ok (.iaload, 1) := by decide +kernel
theorem dX6_scan_61 : decode cX6_scan 61 = .ok (.iastore, 1) := by decide +kernel
theorem dX6_scan_62 : decode cX6_scan 62 = .ok (.aload_n 0, 1) := by decide +kernel
theorem dX6_scan_63 : decode cX6_scan 63 = .ok (.getfield 11, 3) := by decide +kernel
theorem dX6_scan_66 : decode cX6_scan 66 = .ok (.iload 5, 2) := by decide +kernel
theorem dX6_scan_68 : decode cX6_scan 68 = .ok (.aload_n 0, 1) := by decide +kernel
theorem dX6_scan_69 : decode cX6_scan 69 = .ok (.iload 5, 2) := by decide +kernel
theorem dX6_scan_71 : decode cX6_scan 71 = .ok (.invokevirtual 42, 3) := by decide +kernel
theorem dX6_scan_74 : decode cX6_scan 74 = .ok (.aastore, 1) := by decide +kernel
theorem dX6_scan_75 : decode cX6_scan 75 = .ok (.iload 5, 2) := by decide +kernel
theorem dX6_scan_77 : decode cX6_scan 77 = .ok (.sipush 400, 3) := by decide +kernel
theorem dX6_scan_80 : decode cX6_scan 80 = .ok (.if_icmp .ne 26, 3) := by decide +kernel
theorem dX6_scan_83 : decode cX6_scan 83 = .ok (.aload_n 0, 1) := by decide +kernel
theorem dX6_scan_84 : decode cX6_scan 84 = .ok (.getfield 11, 3) := by decide +kernel
theorem dX6_scan_87 : decode cX6_scan 87 = .ok (.iload 5, 2) := by decide +kernel
theorem dX6_scan_89 : decode cX6_scan 89 = .ok (.aaload, 1) := by decide +kernel
theorem dX6_scan_90 : decode cX6_scan 90 = .ok (.getstatic 46, 3) := by decide +kernel
theorem dX6_scan_93 : decode cX6_scan 93 = .ok (.if_acmp .eq 13, 3) := by decide +kernel
theorem dX6_scan_96 : decode cX6_scan 96 = .ok (.aload_n 0, 1) := by decide +kernel
theorem dX6_scan_97 : decode cX6_scan 97 = .ok (.getfield 11, 3) := by decide +kernel
theorem dX6_scan_100 : decode cX6_scan 100 = .ok (.iload 5, 2) := by decide +kernel
theorem dX6_scan_102 : decode cX6_scan 102 = .ok (.getstatic 50, 3) := by decide +kernel
theorem dX6_scan_105 : decode cX6_scan 105 = .ok (.aastore, 1) := by decide +kernel
theorem dX6_scan_106 : decode cX6_scan 106 = .ok (.aload_n 0, 1) := by decide +kernel
theorem dX6_scan_107 : decode cX6_scan 107 = .ok (.getfield 11, 3) := by decide +kernel
theorem dX6_scan_110 : decode cX6_scan 110 = .ok (.iload 5, 2) := by decide +kernel
theorem dX6_scan_112 : decode cX6_scan 112 = .ok (.aaload, 1) := by decide +kernel
theorem dX6_scan_113 : decode cX6_scan 113 = .ok (.getstatic 46, 3) := by decide +kernel
theorem dX6_scan_116 : decode cX6_scan 116 = .ok (.if_acmp .eq 16, 3) := by decide +kernel
theorem dX6_scan_119 : decode cX6_scan 119 = .ok (.aload_n 0, 1) := by decide +kernel
theorem dX6_scan_120 : decode cX6_scan 120 = .ok (.getfield 11, 3) := by decide +kernel
theorem dX6_scan_123 : decode cX6_scan 123 = .ok (.iload 5, 2) := by decide +kernel
theorem dX6_scan_125 : decode cX6_scan 125 = .ok (.aaload, 1) := by decide +kernel
theorem dX6_scan_126 : decode cX6_scan 126 = .ok (.getstatic 50, 3) := by decide +kernel
theorem dX6_scan_129 : decode cX6_scan 129 = .ok (.if_acmp .ne 7, 3) := by decide +kernel
theorem dX6_scan_132 : decode cX6_scan 132 = .ok (.iconst 1, 1) := by decide +kernel
theorem dX6_scan_133 : decode cX6_scan 133 = .ok (.goto 4, 3) := by decide +kernel
theorem dX6_scan_136 : decode cX6_scan 136 = .ok (.iconst 0, 1) := by decide +kernel
theorem dX6_scan_137 : decode cX6_scan 137 = .ok (.istore 4, 2) := by decide +kernel
theorem dX6_scan_139 : decode cX6_scan 139 = .ok (.aload_n 0, 1) := by decide +kernel
theorem dX6_scan_140 : decode cX6_scan 140 = .ok (.getfield 21, 3) := by decide +kernel
theorem dX6_scan_143 : decode cX6_scan 143 = .ok (.iload 5, 2) := by decide +kernel
theorem dX6_scan_145 : decode cX6_scan 145 = .ok (.iaload, 1) := by decide +kernel
theorem dX6_scan_146 : decode cX6_scan 146 = .ok (.istore_n 3, 1) := by decide +kernel
theorem dX6_scan_147 : decode cX6_scan 147 = .ok (.iinc 5 1, 3) := by decide +kernel
theorem dX6_scan_150 : decode cX6_scan 150 = .ok (.goto (-127), 3) := by decide +kernel
theorem dX6_scan_153 : decode cX6_scan 153 = .ok (.return_, 1) := by decide +kernel
def f_X6_scan_L23 (i0 : Nat) (i1 : Nat) : Nat → Int32 → Int32 → Int32 → Mm → Option (Mm)
  | 0, _, _, _, _ => none
  | n + 1, v3, v4, v5, M =>
    if ((400 : Int32) < v5) then (some (M)) else (if (v4 = 0) then (bd1 (f_X6_behindBlanks i0 v3 M) fun x7 => if 0 ≤ v5.toInt ∧ v5.toInt < ((401 : Nat) : Int) then (lz (wr M (i0 + 2) (ix v5) x7) fun M11 => if 0 ≤ v5.toInt ∧ v5.toInt < ((401 : Nat) : Int) then (if 0 ≤ v5.toInt ∧ v5.toInt < ((401 : Nat) : Int) then (lz (wr M11 (i0 + 3) (ix v5) (M11 (i0 + 2) (ix v5))) fun M15 => bd2 (f_X6_scanToken i0 v5 M15) fun x17 M18 => if 0 ≤ v5.toInt ∧ v5.toInt < ((401 : Nat) : Int) then (if tkc x17 then (lz (wr M18 (i0 + 1) (ix v5) x17) fun M23 => bd1 (if (v5 = (400 : Int32)) then (if 0 ≤ v5.toInt ∧ v5.toInt < ((401 : Nat) : Int) then (if tkc (M23 (i0 + 1) (ix v5)) then (if ((M23 (i0 + 1) (ix v5)) = (1050 : Int32)) then (some (M23)) else (if 0 ≤ v5.toInt ∧ v5.toInt < ((401 : Nat) : Int) then (lz (wr M23 (i0 + 1) (ix v5) (1051 : Int32)) fun M31 => some (M31)) else none)) else none) else none) else (some (M23))) fun M33 => if 0 ≤ v5.toInt ∧ v5.toInt < ((401 : Nat) : Int) then (if tkc (M33 (i0 + 1) (ix v5)) then (bd1 (if ((M33 (i0 + 1) (ix v5)) = (1050 : Int32)) then (some ((1 : Int32))) else (if 0 ≤ v5.toInt ∧ v5.toInt < ((401 : Nat) : Int) then (if tkc (M33 (i0 + 1) (ix v5)) then (if ((M33 (i0 + 1) (ix v5)) = (1051 : Int32)) then (some ((1 : Int32))) else (some ((0 : Int32)))) else none) else none)) fun x41 => if 0 ≤ v5.toInt ∧ v5.toInt < ((401 : Nat) : Int) then (lz (v5 + (1 : Int32)) fun x44 => f_X6_scan_L23 i0 i1 n (M33 (i0 + 3) (ix v5)) x41 x44 M33) else none) else none) else none) else none) else none) else none) else none) else none) else (some (M)))
def f_X6_scan (i0 : Nat) (i1 : Nat) (a2 : Int32) (M : Mm) : Option Mm :=
  lz (wr M i0 3 (nI (i1 + 1))) fun M1 => lz (wr M1 i0 4 (imin a2 (2000 : Int32))) fun M3 => bd1 (f_X6_scan_L23 i0 i1 FU (0 : Int32) (0 : Int32) (0 : Int32) M3) fun M47 => some M47
set_option maxHeartbeats 4000000 in
set_option maxRecDepth 100000 in
theorem l_X6_scan_L23 {p : Program} {e : Env} {s : State} {m : MethodId} {args : Array Value} {below : List Frame} {meth : Method} {c : Code} {l : Launch} {G : GG} {Q : State → Prop} (hC : CX p s m args meth c cX6_scan 6 RX6 none G) {i0 : Nat} {i1 : Nat} (hi0 : (kd i0).1 = 8) (hi1 : kd i1 = (21, 2000)) : ∀ (n : Nat) (v3 : Int32) (v4 : Int32) (v5 : Int32) (M : Mm) {M2 : Mm} (hr : f_X6_scan_L23 i0 i1 n v3 v4 v5 M = some (M2)) (K : XJ p l e (RM 8 0 0 208) s m args below meth c G 6 Q 0 0 M2 153 [] []), XJ p l e (RM 8 0 0 208) s m args below meth c G 6 Q 0 0 M 23 [(0, .ref (G.2.1 i0)), (3, .int v3), (4, .int v4), (5, .int v5)] [] := by
  intro n
  induction n with
  | zero => intro v3 v4 v5 M M2 hr K; rw [f_X6_scan_L23] at hr; cases hr
  | succ n ih =>
    intro v3 v4 v5 M M2 hr K
    rw [f_X6_scan_L23] at hr
    refine x_iload hC dX6_scan_23 3 rfl ?_
    refine x_sipush hC (400 : Int32) dX6_scan_25 (by decide) ?_
    refine x_icmp_gt hC 153 dX6_scan_28 (by decide) (fun h5 => ?_) (fun h5 => ?_)
    · have hr := (ie_s hr).1 h5
      cases hr
      exact x_sub [] rfl K
    · have hr := (ie_s hr).2 h5
      refine x_iload hC dX6_scan_31 2 rfl ?_
      refine x_if_ne hC 153 dX6_scan_33 (by decide) (fun h6 => ?_) (fun h6 => ?_)
      · have hr := (ie_s hr).2 h6
        cases hr
        exact x_sub [] rfl K
      · have hr := (ie_s hr).1 h6
        refine x_aload_n hC dX6_scan_36 rfl 0 rfl ?_
        refine gf_X6_17 hC hi0 dX6_scan_37 ?_
        refine x_iload hC dX6_scan_40 3 rfl ?_
        refine x_aload_n hC dX6_scan_42 rfl 0 rfl ?_
        refine x_iload_n hC dX6_scan_43 rfl 1 rfl ?_
        obtain ⟨x7, q8, hr⟩ := bd1_s hr
        refine x_callV (ci := 8) (q := (RX6, TX6, 5)) (As := [.int v3]) hC (c_X6_behindBlanks l G M hi0 v3 q8) kc_yX6_behindBlanks km_X6_38 ki_yX6_behindBlanks kv_yX6_behindBlanks kn_RX6 ky_yX6_behindBlanks rfl ⟨rfl, rfl⟩ ⟨(Nat.le_of_ble_eq_true rfl), (Nat.le_of_ble_eq_true rfl)⟩ hi0 (by decide) rfl rfl (Nat.le_of_ble_eq_true rfl) ⟨(Nat.le_of_ble_eq_true rfl), (Nat.le_of_ble_eq_true rfl)⟩ dX6_scan_44 (fun b9 => ?_)
        obtain ⟨h10, hr⟩ := it_s hr
        obtain ⟨M11, e12, hr⟩ := lz_s hr
        refine x_iast hC (kr_8_1 hi0) h10 e12 dX6_scan_47 ?_
        refine x_aload_n hC dX6_scan_48 rfl 0 rfl ?_
        refine gf_X6_21 hC hi0 dX6_scan_49 ?_
        refine x_iload hC dX6_scan_52 3 rfl ?_
        refine x_aload_n hC dX6_scan_54 rfl 0 rfl ?_
        refine gf_X6_17 hC hi0 dX6_scan_55 ?_
        refine x_iload hC dX6_scan_58 3 rfl ?_
        obtain ⟨h13, hr⟩ := it_s hr
        refine x_iald hC (kr_8_1 hi0) h13 dX6_scan_60 ?_
        obtain ⟨h14, hr⟩ := it_s hr
        obtain ⟨M15, e16, hr⟩ := lz_s hr
        refine x_iast hC (kr_8_2 hi0) h14 e16 dX6_scan_61 ?_
        refine x_aload_n hC dX6_scan_62 rfl 0 rfl ?_
        refine gf_X6_11 hC hi0 dX6_scan_63 ?_
        refine x_iload hC dX6_scan_66 3 rfl ?_
        refine x_aload_n hC dX6_scan_68 rfl 0 rfl ?_
        refine x_iload hC dX6_scan_69 3 rfl ?_
        obtain ⟨x17, M18, q19, hr⟩ := bd2_s hr
        refine x_callV (ci := 8) (q := (RX6, TX6, 5)) (As := [.int v5]) hC (c_X6_scanToken l G M15 hi0 v5 q19) kc_yX6_scanToken km_X6_42 ki_yX6_scanToken kv_yX6_scanToken kn_RX6 ky_yX6_scanToken rfl ⟨rfl, rfl⟩ ⟨(Nat.le_of_ble_eq_true rfl), (Nat.le_of_ble_eq_true rfl)⟩ hi0 (by decide) rfl rfl (Nat.le_of_ble_eq_true rfl) ⟨(Nat.le_of_ble_eq_true rfl), (Nat.le_of_ble_eq_true rfl)⟩ dX6_scan_71 (fun b20 => ?_)
        obtain ⟨h21, hr⟩ := it_s hr
        obtain ⟨h22, hr⟩ := it_s hr
        obtain ⟨M23, e24, hr⟩ := lz_s hr
        refine x_tast hC (kr_8_0 hi0) h21 h22 e24 dX6_scan_74 ?_
        refine x_iload hC dX6_scan_75 3 rfl ?_
        refine x_sipush hC (400 : Int32) dX6_scan_77 (by decide) ?_
        obtain ⟨M33, q25, hr⟩ := bd1_s hr
        refine x_join (M' := M33) (pc' := 106) (lv' := [(0, .ref (G.2.1 i0)), (5, .int v5)]) (st' := []) ?_ ?_
        · refine x_aload_n hC dX6_scan_106 rfl 0 rfl ?_
          refine gf_X6_11 hC hi0 dX6_scan_107 ?_
          refine x_iload hC dX6_scan_110 1 rfl ?_
          obtain ⟨h34, hr⟩ := it_s hr
          refine x_tald hC (kr_8_0 hi0) h34 dX6_scan_112 ?_
          obtain ⟨h35, hr⟩ := it_s hr
          refine x_ct h35 ?_
          refine x_tgets hC (a := (1050 : Int32)) 49 (by decide) rfl (by decide) kf_X6_46 dX6_scan_113 ?_
          obtain ⟨x41, q36, hr⟩ := bd1_s hr
          refine x_joinB (P := (x41 = 0 ∨ x41 = 1)) (M' := M33) (pc' := 137) (lv' := [(0, .ref (G.2.1 i0)), (5, .int v5)]) (st' := [.int x41]) ?_ ?_
          · intro b42
            refine x_istore hC [(4, .int x41), (0, .ref (G.2.1 i0)), (5, .int v5)] dX6_scan_137  (Nat.le_of_ble_eq_true rfl) rfl ?_
            refine x_aload_n hC dX6_scan_139 rfl 1 rfl ?_
            refine gf_X6_21 hC hi0 dX6_scan_140 ?_
            refine x_iload hC dX6_scan_143 2 rfl ?_
            obtain ⟨h43, hr⟩ := it_s hr
            refine x_iald hC (kr_8_2 hi0) h43 dX6_scan_145 ?_
            refine x_istore_n hC [(3, .int (M33 (i0 + 3) (ix v5))), (4, .int x41), (0, .ref (G.2.1 i0)), (5, .int v5)] dX6_scan_146 rfl (Nat.le_of_ble_eq_true rfl) rfl ?_
            obtain ⟨x44, e45, hr⟩ := lz_s hr
            refine x_iinc hC [(5, .int x44), (3, .int (M33 (i0 + 3) (ix v5))), (4, .int x41), (0, .ref (G.2.1 i0))] dX6_scan_147 3 rfl (by rw [e45]; rfl) (Nat.le_of_ble_eq_true rfl) rfl ?_
            refine x_goto hC 23 dX6_scan_150 (by decide) ?_
            exact x_sub [3, 1, 2, 0] rfl (ih (M33 (i0 + 3) (ix v5)) x41 x44 M33 hr K)
          · intro kj
            refine x_acmp_eq hC 132 ⟨h35, (by decide)⟩ dX6_scan_116 (by decide) (fun h37 => ?_) (fun h37 => ?_)
            · have q36 := (ie_s q36).1 h37
              refine x_iconst hC (1 : Int32) dX6_scan_132 (by decide) ?_
              refine x_goto hC 137 dX6_scan_133 (by decide) ?_
              cases q36
              exact x_sub [0, 1] rfl (kj (Or.inr rfl))
            · have q36 := (ie_s q36).2 h37
              refine x_aload_n hC dX6_scan_119 rfl 0 rfl ?_
              refine gf_X6_11 hC hi0 dX6_scan_120 ?_
              refine x_iload hC dX6_scan_123 1 rfl ?_
              obtain ⟨h38, q36⟩ := it_s q36
              refine x_tald hC (kr_8_0 hi0) h38 dX6_scan_125 ?_
              obtain ⟨h39, q36⟩ := it_s q36
              refine x_ct h39 ?_
              refine x_tgets hC (a := (1051 : Int32)) 50 (by decide) rfl (by decide) kf_X6_50 dX6_scan_126 ?_
              refine x_acmp_ne hC 136 ⟨h39, (by decide)⟩ dX6_scan_129 (by decide) (fun h40 => ?_) (fun h40 => ?_)
              · have q36 := (ie_s q36).2 h40
                refine x_iconst hC (0 : Int32) dX6_scan_136 (by decide) ?_
                cases q36
                exact x_sub [0, 1] rfl (kj (Or.inl rfl))
              · have q36 := (ie_s q36).1 h40
                refine x_iconst hC (1 : Int32) dX6_scan_132 (by decide) ?_
                refine x_goto hC 137 dX6_scan_133 (by decide) ?_
                cases q36
                exact x_sub [0, 1] rfl (kj (Or.inr rfl))
        · intro kj
          refine x_icmp_ne hC 106 dX6_scan_80 (by decide) (fun h26 => ?_) (fun h26 => ?_)
          · have q25 := (ie_s q25).2 h26
            cases q25
            exact x_sub [0, 3] rfl kj
          · have q25 := (ie_s q25).1 h26
            refine x_aload_n hC dX6_scan_83 rfl 0 rfl ?_
            refine gf_X6_11 hC hi0 dX6_scan_84 ?_
            refine x_iload hC dX6_scan_87 3 rfl ?_
            obtain ⟨h27, q25⟩ := it_s q25
            refine x_tald hC (kr_8_0 hi0) h27 dX6_scan_89 ?_
            obtain ⟨h28, q25⟩ := it_s q25
            refine x_ct h28 ?_
            refine x_tgets hC (a := (1050 : Int32)) 49 (by decide) rfl (by decide) kf_X6_46 dX6_scan_90 ?_
            refine x_acmp_eq hC 106 ⟨h28, (by decide)⟩ dX6_scan_93 (by decide) (fun h29 => ?_) (fun h29 => ?_)
            · have q25 := (ie_s q25).1 h29
              cases q25
              exact x_sub [0, 3] rfl kj
            · have q25 := (ie_s q25).2 h29
              refine x_aload_n hC dX6_scan_96 rfl 0 rfl ?_
              refine gf_X6_11 hC hi0 dX6_scan_97 ?_
              refine x_iload hC dX6_scan_100 3 rfl ?_
              refine x_tgets hC (a := (1051 : Int32)) 50 (by decide) rfl (by decide) kf_X6_50 dX6_scan_102 ?_
              obtain ⟨h30, q25⟩ := it_s q25
              obtain ⟨M31, e32, q25⟩ := lz_s q25
              refine x_tast hC (kr_8_0 hi0) h30 (by decide) e32 dX6_scan_105 ?_
              cases q25
              exact x_sub [0, 3] rfl kj
set_option maxHeartbeats 4000000 in
set_option maxRecDepth 100000 in
theorem c_X6_scan (l : Launch) (G : GG) (M : Mm) {i0 : Nat} (hi0 : (kd i0).1 = 8) {i1 : Nat} (hi1 : kd i1 = (21, 2000)) (a2 : Int32) {M9 : Mm} (hr : f_X6_scan i0 i1 a2 M = some M9) : Mo false l yX6_scan (WS yX6_scan cX6_scan 6 none) (RM 8 0 0 208) 0 0 [.ref (G.2.1 i0), .ref (G.2.1 i1), .int a2] G M none M9 := by
  refine Mo.of (by decide +kernel) (Nat.le_of_ble_eq_true rfl) ?_
  intro p e s m args below meth c hC
  have hC : CX p s m args meth c cX6_scan 6 RX6 none G := hC
  rw [f_X6_scan] at hr
  show XJ p l e (RM 8 0 0 208) s m args below meth c G 6 _ 0 0 M 0 [(0, .ref (G.2.1 i0)), (1, .ref (G.2.1 i1)), (2, .int a2)] []
  refine x_aload_n hC dX6_scan_0 rfl 0 rfl ?_
  refine x_aload_n hC dX6_scan_1 rfl 1 rfl ?_
  obtain ⟨M1, e2, hr⟩ := lz_s hr
  refine pf_X6_24 hC hi0 (kd_lt2 hi1) e2 dX6_scan_2 ?_
  refine x_aload_n hC dX6_scan_5 rfl 0 rfl ?_
  refine x_iload_n hC dX6_scan_6 rfl 2 rfl ?_
  refine x_aload_n hC dX6_scan_7 rfl 1 rfl ?_
  refine x_alenb hC (2000 : Int32) hi1 (by decide) dX6_scan_8 ?_
  refine x_mmin hC km_X6_32 kt_Mmin kn_Math kc_Mmin (Nat.le_of_ble_eq_true rfl) (Nat.le_of_ble_eq_true rfl) ⟨(Nat.le_of_ble_eq_true rfl), (Nat.le_of_ble_eq_true rfl)⟩ dX6_scan_9 ?_
  obtain ⟨M3, e4, hr⟩ := lz_s hr
  refine pf_X6_28 hC hi0 e4 dX6_scan_12 ?_
  refine x_iconst hC (0 : Int32) dX6_scan_15 (by decide) ?_
  refine x_istore_n hC [(3, .int (0 : Int32)), (0, .ref (G.2.1 i0)), (1, .ref (G.2.1 i1)), (2, .int a2)] dX6_scan_16 rfl (Nat.le_of_ble_eq_true rfl) rfl ?_
  refine x_iconst hC (0 : Int32) dX6_scan_17 (by decide) ?_
  refine x_istore hC [(4, .int (0 : Int32)), (3, .int (0 : Int32)), (0, .ref (G.2.1 i0)), (1, .ref (G.2.1 i1)), (2, .int a2)] dX6_scan_18  (Nat.le_of_ble_eq_true rfl) rfl ?_
  refine x_iconst hC (0 : Int32) dX6_scan_20 (by decide) ?_
  refine x_istore hC [(5, .int (0 : Int32)), (4, .int (0 : Int32)), (3, .int (0 : Int32)), (0, .ref (G.2.1 i0)), (1, .ref (G.2.1 i1)), (2, .int a2)] dX6_scan_21  (Nat.le_of_ble_eq_true rfl) rfl ?_
  obtain ⟨M47, q46, hr⟩ := bd1_s hr
  refine x_sub [3, 2, 1, 0] rfl (l_X6_scan_L23 hC hi0 hi1 FU  (0 : Int32) (0 : Int32) (0 : Int32) M3 q46 ?_)
  cases hr
  exact x_vret hC rfl dX6_scan_153

theorem dX6_kindOf_0 : decode cX6_kindOf 0 = .ok (.iload_n 1, 1) := by decide +kernel
theorem dX6_kindOf_1 : decode cX6_kindOf 1 = .ok (.ifCond .lt 25, 3) := by decide +kernel
theorem dX6_kindOf_4 : decode cX6_kindOf 4 = .ok (.iload_n 1, 1) := by decide +kernel
theorem dX6_kindOf_5 : decode cX6_kindOf 5 = .ok (.aload_n 0, 1) := by decide +kernel
theorem dX6_kindOf_6 : decode cX6_kindOf 6 = .ok (.getfield 11, 3) := by decide +kernel
theorem dX6_kindOf_9 : decode cX6_kindOf 9 = .ok (.arraylength, 1) := by decide +kernel
theorem dX6_kindOf_10 : decode cX6_kindOf 10 = .ok (.if_icmp .ge 16, 3) := by decide +kernel
theorem dX6_kindOf_13 : decode cX6_kindOf 13 = .ok (.aload_n 0, 1) := by decide +kernel
theorem dX6_kindOf_14 : decode cX6_kindOf 14 = .ok (.getfield 11, 3) := by decide +kernel
theorem dX6_kindOf_17 : decode cX6_kindOf 17 = .ok (.iload_n 1, 1) := by decide +kernel
theorem dX6_kindOf_18 : decode cX6_kindOf 18 = .ok (.aaload, 1) := by decide +kernel
theorem dX6_kindOf_19 : decode cX6_kindOf 19 = .ok (.ifnull 7, 3) := by decide +kernel
theorem dX6_kindOf_22 : decode cX6_kindOf 22 = .ok (.iconst 1, 1) := by decide +kernel
theorem dX6_kindOf_23 : decode cX6_kindOf 23 = .ok (.goto 4, 3) := by decide +kernel
theorem dX6_kindOf_26 : decode cX6_kindOf 26 = .ok (.iconst 0, 1) := by decide +kernel
theorem dX6_kindOf_27 : decode cX6_kindOf 27 = .ok (.istore_n 2, 1) := by decide +kernel
theorem dX6_kindOf_28 : decode cX6_kindOf 28 = .ok (.iload_n 2, 1) := by decide +kernel
theorem dX6_kindOf_29 : decode cX6_kindOf 29 = .ok (.ifCond .eq 12, 3) := by decide +kernel
theorem dX6_kindOf_32 : decode cX6_kindOf 32 = .ok (.aload_n 0, 1) := by decide +kernel
theorem dX6_kindOf_33 : decode cX6_kindOf 33 = .ok (.getfield 11, 3) := by decide +kernel
theorem dX6_kindOf_36 : decode cX6_kindOf 36 = .ok (.iload_n 1, 1) := by decide +kernel
theorem dX6_kindOf_37 : decode cX6_kindOf 37 = .ok (.aaload, 1) := by decide +kernel
theorem dX6_kindOf_38 : decode cX6_kindOf 38 = .ok (.goto 6, 3) := by decide +kernel
theorem dX6_kindOf_41 : decode cX6_kindOf 41 = .ok (.getstatic 50, 3) := by decide +kernel
theorem dX6_kindOf_44 : decode cX6_kindOf 44 = .ok (.areturn, 1) := by decide +kernel

def f_X6_kindOf (i0 : Nat) (a1 : Int32) (M : Mm) : Option Int32 :=
  bd1 (if (a1 < 0) then (some ((0 : Int32))) else (if ((401 : Int32) ≤ a1) then (some ((0 : Int32))) else (if 0 ≤ a1.toInt ∧ a1.toInt < ((401 : Nat) : Int) then (if (ix (M (i0 + 1) (ix a1)) = 0) then (some ((0 : Int32))) else (some ((1 : Int32)))) else none))) fun x6 => if (x6 = 0) then (some (1051 : Int32)) else (if 0 ≤ a1.toInt ∧ a1.toInt < ((401 : Nat) : Int) then (if tkc (M (i0 + 1) (ix a1)) then (some (M (i0 + 1) (ix a1))) else none) else none)

set_option maxHeartbeats 4000000 in
set_option maxRecDepth 100000 in
theorem c_X6_kindOf (l : Launch) (G : GG) (M : Mm) {i0 : Nat} (hi0 : (kd i0).1 = 8) (a1 : Int32) {r : Int32} (hr : f_X6_kindOf i0 a1 M = some r) : Mo false l yX6_kindOf (WS yX6_kindOf cX6_kindOf 3 (some (.object "PeatBog$Token"))) (RM 0 0 0 0) 0 0 [.ref (G.2.1 i0), .int a1] G M (some (.ref (G.2.1 (rid r)))) M := by
  refine Mo.of (by decide +kernel) (Nat.le_of_ble_eq_true rfl) ?_
  intro p e s m args below meth c hC
  have hC : CX p s m args meth c cX6_kindOf 3 RX6 (some (.object "PeatBog$Token")) G := hC
  rw [f_X6_kindOf] at hr
  show XJ p l e (RM 0 0 0 0) s m args below meth c G 3 _ 0 0 M 0 [(0, .ref (G.2.1 i0)), (1, .int a1)] []
  refine x_iload_n hC dX6_kindOf_0 rfl 1 rfl ?_
  obtain ⟨x6, q1, hr⟩ := bd1_s hr
  refine x_joinB (P := (x6 = 0 ∨ x6 = 1)) (M' := M) (pc' := 27) (lv' := [(0, .ref (G.2.1 i0)), (1, .int a1)]) (st' := [.int x6]) ?_ ?_
  · intro b7
    refine x_istore_n hC [(2, .int x6), (0, .ref (G.2.1 i0)), (1, .int a1)] dX6_kindOf_27 rfl (Nat.le_of_ble_eq_true rfl) rfl ?_
    refine x_iload_n hC dX6_kindOf_28 rfl 0 rfl ?_
    refine x_if_eq hC 41 dX6_kindOf_29 (by decide) (fun h8 => ?_) (fun h8 => ?_)
    · have hr := (ie_s hr).1 h8
      refine x_tgets hC (a := (1051 : Int32)) 50 (by decide) rfl (by decide) kf_X6_50 dX6_kindOf_41 ?_
      cases hr
      exact x_tret hC rfl dX6_kindOf_44
    · have hr := (ie_s hr).2 h8
      refine x_aload_n hC dX6_kindOf_32 rfl 1 rfl ?_
      refine gf_X6_11 hC hi0 dX6_kindOf_33 ?_
      refine x_iload_n hC dX6_kindOf_36 rfl 2 rfl ?_
      obtain ⟨h9, hr⟩ := it_s hr
      refine x_tald hC (kr_8_0 hi0) h9 dX6_kindOf_37 ?_
      obtain ⟨h10, hr⟩ := it_s hr
      refine x_ct h10 ?_
      refine x_goto hC 44 dX6_kindOf_38 (by decide) ?_
      cases hr
      exact x_tret hC rfl dX6_kindOf_44
  · intro kj
    refine x_if_lt hC 26 dX6_kindOf_1 (by decide) (fun h2 => ?_) (fun h2 => ?_)
    · have q1 := (ie_s q1).1 h2
      refine x_iconst hC (0 : Int32) dX6_kindOf_26 (by decide) ?_
      cases q1
      exact x_sub [0, 1] rfl (kj (Or.inl rfl))
    · have q1 := (ie_s q1).2 h2
      refine x_iload_n hC dX6_kindOf_4 rfl 1 rfl ?_
      refine x_aload_n hC dX6_kindOf_5 rfl 0 rfl ?_
      refine gf_X6_11 hC hi0 dX6_kindOf_6 ?_
      refine x_alent hC (401 : Int32) (kr_8_0 hi0) (by decide) dX6_kindOf_9 ?_
      refine x_icmp_ge hC 26 dX6_kindOf_10 (by decide) (fun h3 => ?_) (fun h3 => ?_)
      · have q1 := (ie_s q1).1 h3
        refine x_iconst hC (0 : Int32) dX6_kindOf_26 (by decide) ?_
        cases q1
        exact x_sub [0, 1] rfl (kj (Or.inl rfl))
      · have q1 := (ie_s q1).2 h3
        refine x_aload_n hC dX6_kindOf_13 rfl 0 rfl ?_
        refine gf_X6_11 hC hi0 dX6_kindOf_14 ?_
        refine x_iload_n hC dX6_kindOf_17 rfl 1 rfl ?_
        obtain ⟨h4, q1⟩ := it_s q1
        refine x_tald hC (kr_8_0 hi0) h4 dX6_kindOf_18 ?_
        refine x_ifnull hC 26 dX6_kindOf_19 (by decide) (fun h5 => ?_) (fun h5 => ?_)
        · have q1 := (ie_s q1).1 h5
          refine x_iconst hC (0 : Int32) dX6_kindOf_26 (by decide) ?_
          cases q1
          exact x_sub [0, 1] rfl (kj (Or.inl rfl))
        · have q1 := (ie_s q1).2 h5
          refine x_iconst hC (1 : Int32) dX6_kindOf_22 (by decide) ?_
          refine x_goto hC 27 dX6_kindOf_23 (by decide) ?_
          cases q1
          exact x_sub [0, 1] rfl (kj (Or.inr rfl))

theorem dX6_startOf_0 : decode cX6_startOf 0 = .ok (.iload_n 1, 1) := by decide +kernel
theorem dX6_startOf_1 : decode cX6_startOf 1 = .ok (.ifCond .lt 21, 3) := by decide +kernel
theorem dX6_startOf_4 : decode cX6_startOf 4 = .ok (.iload_n 1, 1) := by decide +kernel
theorem dX6_startOf_5 : decode cX6_startOf 5 = .ok (.aload_n 0, 1) := by decide +kernel
theorem dX6_startOf_6 : decode cX6_startOf 6 = .ok (.getfield 17, 3) := by decide +kernel
theorem dX6_startOf_9 : decode cX6_startOf 9 = .ok (.arraylength, 1) := by decide +kernel
theorem dX6_startOf_10 : decode cX6_startOf 10 = .ok (.if_icmp .ge 12, 3) := by decide +kernel
theorem dX6_startOf_13 : decode cX6_startOf 13 = .ok (.aload_n 0, 1) := by decide +kernel
theorem dX6_startOf_14 : decode cX6_startOf 14 = .ok (.getfield 17, 3) := by decide +kernel
theorem dX6_startOf_17 : decode cX6_startOf 17 = .ok (.iload_n 1, 1) := by decide +kernel
theorem dX6_startOf_18 : decode cX6_startOf 18 = .ok (.iaload, 1) := by decide +kernel
theorem dX6_startOf_19 : decode cX6_startOf 19 = .ok (.goto 7, 3) := by decide +kernel
theorem dX6_startOf_22 : decode cX6_startOf 22 = .ok (.aload_n 0, 1) := by decide +kernel
theorem dX6_startOf_23 : decode cX6_startOf 23 = .ok (.getfield 28, 3) := by decide +kernel
theorem dX6_startOf_26 : decode cX6_startOf 26 = .ok (.ireturn, 1) := by decide +kernel

def f_X6_startOf (i0 : Nat) (a1 : Int32) (M : Mm) : Option Int32 :=
  if (a1 < 0) then (some (M i0 4)) else (if ((401 : Int32) ≤ a1) then (some (M i0 4)) else (if 0 ≤ a1.toInt ∧ a1.toInt < ((401 : Nat) : Int) then (some (M (i0 + 2) (ix a1))) else none))

set_option maxHeartbeats 4000000 in
set_option maxRecDepth 100000 in
theorem c_X6_startOf (l : Launch) (G : GG) (M : Mm) {i0 : Nat} (hi0 : (kd i0).1 = 8) (a1 : Int32) {r : Int32} (hr : f_X6_startOf i0 a1 M = some r) : Mo false l yX6_startOf (WS yX6_startOf cX6_startOf 2 (some .int)) (RM 0 0 0 0) 0 0 [.ref (G.2.1 i0), .int a1] G M (some (.int r)) M := by
  refine Mo.of (by decide +kernel) (Nat.le_of_ble_eq_true rfl) ?_
  intro p e s m args below meth c hC
  have hC : CX p s m args meth c cX6_startOf 2 RX6 (some .int) G := hC
  rw [f_X6_startOf] at hr
  show XJ p l e (RM 0 0 0 0) s m args below meth c G 2 _ 0 0 M 0 [(0, .ref (G.2.1 i0)), (1, .int a1)] []
  refine x_iload_n hC dX6_startOf_0 rfl 1 rfl ?_
  refine x_if_lt hC 22 dX6_startOf_1 (by decide) (fun h1 => ?_) (fun h1 => ?_)
  · have hr := (ie_s hr).1 h1
    refine x_aload_n hC dX6_startOf_22 rfl 0 rfl ?_
    refine gf_X6_28 hC hi0 dX6_startOf_23 ?_
    cases hr
    exact x_iret hC rfl dX6_startOf_26
  · have hr := (ie_s hr).2 h1
    refine x_iload_n hC dX6_startOf_4 rfl 1 rfl ?_
    refine x_aload_n hC dX6_startOf_5 rfl 0 rfl ?_
    refine gf_X6_17 hC hi0 dX6_startOf_6 ?_
    refine x_alen hC (401 : Int32) (kr_8_1 hi0) (by decide) dX6_startOf_9 ?_
    refine x_icmp_ge hC 22 dX6_startOf_10 (by decide) (fun h2 => ?_) (fun h2 => ?_)
    · have hr := (ie_s hr).1 h2
      refine x_aload_n hC dX6_startOf_22 rfl 0 rfl ?_
      refine gf_X6_28 hC hi0 dX6_startOf_23 ?_
      cases hr
      exact x_iret hC rfl dX6_startOf_26
    · have hr := (ie_s hr).2 h2
      refine x_aload_n hC dX6_startOf_13 rfl 0 rfl ?_
      refine gf_X6_17 hC hi0 dX6_startOf_14 ?_
      refine x_iload_n hC dX6_startOf_17 rfl 1 rfl ?_
      obtain ⟨h3, hr⟩ := it_s hr
      refine x_iald hC (kr_8_1 hi0) h3 dX6_startOf_18 ?_
      refine x_goto hC 26 dX6_startOf_19 (by decide) ?_
      cases hr
      exact x_iret hC rfl dX6_startOf_26

theorem dX6_endOf_0 : decode cX6_endOf 0 = .ok (.iload_n 1, 1) := by decide +kernel
theorem dX6_endOf_1 : decode cX6_endOf 1 = .ok (.ifCond .lt 21, 3) := by decide +kernel
theorem dX6_endOf_4 : decode cX6_endOf 4 = .ok (.iload_n 1, 1) := by decide +kernel
theorem dX6_endOf_5 : decode cX6_endOf 5 = .ok (.aload_n 0, 1) := by decide +kernel
theorem dX6_endOf_6 : decode cX6_endOf 6 = .ok (.getfield 21, 3) := by decide +kernel
theorem dX6_endOf_9 : decode cX6_endOf 9 = .ok (.arraylength, 1) := by decide +kernel
theorem dX6_endOf_10 : decode cX6_endOf 10 = .ok (.if_icmp .ge 12, 3) := by decide +kernel
theorem dX6_endOf_13 : decode cX6_endOf 13 = .ok (.aload_n 0, 1) := by decide +kernel
theorem dX6_endOf_14 : decode cX6_endOf 14 = .ok (.getfield 21, 3) := by decide +kernel
theorem dX6_endOf_17 : decode cX6_endOf 17 = .ok (.iload_n 1, 1) := by decide +kernel
theorem dX6_endOf_18 : decode cX6_endOf 18 = .ok (.iaload, 1) := by decide +kernel
theorem dX6_endOf_19 : decode cX6_endOf 19 = .ok (.goto 7, 3) := by decide +kernel
theorem dX6_endOf_22 : decode cX6_endOf 22 = .ok (.aload_n 0, 1) := by decide +kernel
theorem dX6_endOf_23 : decode cX6_endOf 23 = .ok (.getfield 28, 3) := by decide +kernel
theorem dX6_endOf_26 : decode cX6_endOf 26 = .ok (.ireturn, 1) := by decide +kernel

def f_X6_endOf (i0 : Nat) (a1 : Int32) (M : Mm) : Option Int32 :=
  if (a1 < 0) then (some (M i0 4)) else (if ((401 : Int32) ≤ a1) then (some (M i0 4)) else (if 0 ≤ a1.toInt ∧ a1.toInt < ((401 : Nat) : Int) then (some (M (i0 + 3) (ix a1))) else none))

set_option maxHeartbeats 4000000 in
set_option maxRecDepth 100000 in
theorem c_X6_endOf (l : Launch) (G : GG) (M : Mm) {i0 : Nat} (hi0 : (kd i0).1 = 8) (a1 : Int32) {r : Int32} (hr : f_X6_endOf i0 a1 M = some r) : Mo false l yX6_endOf (WS yX6_endOf cX6_endOf 2 (some .int)) (RM 0 0 0 0) 0 0 [.ref (G.2.1 i0), .int a1] G M (some (.int r)) M := by
  refine Mo.of (by decide +kernel) (Nat.le_of_ble_eq_true rfl) ?_
  intro p e s m args below meth c hC
  have hC : CX p s m args meth c cX6_endOf 2 RX6 (some .int) G := hC
  rw [f_X6_endOf] at hr
  show XJ p l e (RM 0 0 0 0) s m args below meth c G 2 _ 0 0 M 0 [(0, .ref (G.2.1 i0)), (1, .int a1)] []
  refine x_iload_n hC dX6_endOf_0 rfl 1 rfl ?_
  refine x_if_lt hC 22 dX6_endOf_1 (by decide) (fun h1 => ?_) (fun h1 => ?_)
  · have hr := (ie_s hr).1 h1
    refine x_aload_n hC dX6_endOf_22 rfl 0 rfl ?_
    refine gf_X6_28 hC hi0 dX6_endOf_23 ?_
    cases hr
    exact x_iret hC rfl dX6_endOf_26
  · have hr := (ie_s hr).2 h1
    refine x_iload_n hC dX6_endOf_4 rfl 1 rfl ?_
    refine x_aload_n hC dX6_endOf_5 rfl 0 rfl ?_
    refine gf_X6_21 hC hi0 dX6_endOf_6 ?_
    refine x_alen hC (401 : Int32) (kr_8_2 hi0) (by decide) dX6_endOf_9 ?_
    refine x_icmp_ge hC 22 dX6_endOf_10 (by decide) (fun h2 => ?_) (fun h2 => ?_)
    · have hr := (ie_s hr).1 h2
      refine x_aload_n hC dX6_endOf_22 rfl 0 rfl ?_
      refine gf_X6_28 hC hi0 dX6_endOf_23 ?_
      cases hr
      exact x_iret hC rfl dX6_endOf_26
    · have hr := (ie_s hr).2 h2
      refine x_aload_n hC dX6_endOf_13 rfl 0 rfl ?_
      refine gf_X6_21 hC hi0 dX6_endOf_14 ?_
      refine x_iload_n hC dX6_endOf_17 rfl 1 rfl ?_
      obtain ⟨h3, hr⟩ := it_s hr
      refine x_iald hC (kr_8_2 hi0) h3 dX6_endOf_18 ?_
      refine x_goto hC 26 dX6_endOf_19 (by decide) ?_
      cases hr
      exact x_iret hC rfl dX6_endOf_26

theorem dX6_isSameText_0 : decode cX6_isSameText 0 = .ok (.aload_n 0, 1) := by decide +kernel
theorem dX6_isSameText_1 : decode cX6_isSameText 1 = .ok (.iload_n 1, 1) := by decide +kernel
theorem dX6_isSameText_2 : decode cX6_isSameText 2 = .ok (.invokevirtual 82, 3) := by decide +kernel
theorem dX6_isSameText_5 : decode cX6_isSameText 5 = .ok (.istore_n 3, 1) := by decide +kernel
theorem dX6_isSameText_6 : decode cX6_isSameText 6 = .ok (.aload_n 0, 1) := by decide +kernel
theorem dX6_isSameText_7 : decode cX6_isSameText 7 = .ok (.iload_n 2, 1) := by decide +kernel
theorem dX6_isSameText_8 : decode cX6_isSameText 8 = .ok (.invokevirtual 82, 3) := by decide +kernel
theorem dX6_isSameText_11 : decode cX6_isSameText 11 = .ok (.istore 4, 2) := by decide +kernel
theorem dX6_isSameText_13 : decode cX6_isSameText 13 = .ok (.aload_n 0, 1) := by decide +kernel
theorem dX6_isSameText_14 : decode cX6_isSameText 14 = .ok (.iload_n 1, 1) := by decide +kernel
theorem dX6_isSameText_15 : decode cX6_isSameText 15 = .ok (.invokevirtual 79, 3) := by decide +kernel
theorem dX6_isSameText_18 : decode cX6_isSameText 18 = .ok (.iload_n 3, 1) := by decide +kernel
theorem dX6_isSameText_19 : decode cX6_isSameText 19 = .ok (.isub, 1) := by decide +kernel
theorem dX6_isSameText_20 : decode cX6_isSameText 20 = .ok (.istore 5, 2) := by decide +kernel
theorem dX6_isSameText_22 : decode cX6_isSameText 22 = .ok (.aload_n 0, 1) := by decide +kernel
theorem dX6_isSameText_23 : decode cX6_isSameText 23 = .ok (.iload_n 2, 1) := by decide +kernel
theorem dX6_isSameText_24 : decode cX6_isSameText 24 = .ok (.invokevirtual 79, 3) := by decide +kernel
theorem dX6_isSameText_27 : decode cX6_isSameText 27 = .ok (.iload 4, 2) := by decide +kernel
theorem dX6_isSameText_29 : decode cX6_isSameText 29 = .ok (.isub, 1) := by decide +kernel
theorem dX6_isSameText_30 : decode cX6_isSameText 30 = .ok (.iload 5, 2) := by decide +kernel
theorem dX6_isSameText_32 : decode cX6_isSameText 32 = .ok (.if_icmp .eq 5, 3) := by decide +kernel
theorem dX6_isSameText_35 : decode cX6_isSameText 35 = .ok (.iconst 0, 1) := by decide +kernel
theorem dX6_isSameText_36 : decode cX6_isSameText 36 = .ok (.ireturn, 1) := by decide +kernel
theorem dX6_isSameText_37 : decode cX6_isSameText 37 = .ok (.iconst 0, 1) := by decide +kernel
theorem dX6_isSameText_38 : decode cX6_isSameText 38 = .ok (.istore 6, 2) := by decide +kernel
theorem dX6_isSameText_40 : decode cX6_isSameText 40 = .ok (.iload 6, 2) := by decide +kernel
theorem dX6_isSameText_42 : decode cX6_isSameText 42 = .ok (.iload 5, 2) := by decide +kernel
theorem dX6_isSameText_44 : decode cX6_isSameText 44 = .ok (.if_icmp .ge 33, 3) := by decide +kernel
theorem dX6_isSameText_47 : decode cX6_isSameText 47 = .ok (.aload_n 0, 1) := by decide +kernel
theorem dX6_isSameText_48 : decode cX6_isSameText 48 = .ok (.getfield 24, 3) := by decide +kernel
theorem dX6_isSameText_51 : decode cX6_isSameText 51 = .ok (.iload_n 3, 1) := by decide +kernel
theorem dX6_isSameText_52 : decode cX6_isSameText 52 = .ok (.iload 6, 2) := by decide +kernel
theorem dX6_isSameText_54 : decode cX6_isSameText 54 = .ok (.iadd, 1) := by decide +kernel
theorem dX6_isSameText_55 : decode cX6_isSameText 55 = .ok (.baload, 1) := by decide +kernel
theorem dX6_isSameText_56 : decode cX6_isSameText 56 = .ok (.aload_n 0, 1) := by decide +kernel
theorem dX6_isSameText_57 : decode cX6_isSameText 57 = .ok (.getfield 24, 3) := by decide +kernel
theorem dX6_isSameText_60 : decode cX6_isSameText 60 = .ok (.iload 4, 2) := by decide +kernel
theorem dX6_isSameText_62 : decode cX6_isSameText 62 = .ok (.iload 6, 2) := by decide +kernel
theorem dX6_isSameText_64 : decode cX6_isSameText 64 = .ok (.iadd, 1) := by decide +kernel
theorem dX6_isSameText_65 : decode cX6_isSameText 65 = .ok (.baload, 1) := by decide +kernel
theorem dX6_isSameText_66 : decode cX6_isSameText 66 = .ok (.if_icmp .eq 5, 3) := by decide +kernel
theorem dX6_isSameText_69 : decode cX6_isSameText 69 = .ok (.iconst 0, 1) := by decide +kernel
theorem dX6_isSameText_70 : decode cX6_isSameText 70 = .ok (.ireturn, 1) := by decide +kernel
theorem dX6_isSameText_71 : decode cX6_isSameText 71 = .ok (.iinc 6 1, 3) := by decide +kernel
theorem dX6_isSameText_74 : decode cX6_isSameText 74 = .ok (.goto (-34), 3) := by decide +kernel
theorem dX6_isSameText_77 : decode cX6_isSameText 77 = .ok (.iconst 1, 1) := by decide +kernel
theorem dX6_isSameText_78 : decode cX6_isSameText 78 = .ok (.ireturn, 1) := by decide +kernel
def f_X6_isSameText_L40 (i0 : Nat) (a3 : Int32) (a4 : Int32) (a5 : Int32) (M : Mm) : Nat → Int32 → Option Int32
  | 0, _ => none
  | n + 1, v6 =>
    if (a5 ≤ v6) then (some (1 : Int32)) else (if okr 21 (M i0 3) then (if 0 ≤ (a3 + v6).toInt ∧ (a3 + v6).toInt < (((kd (rid (M i0 3))).2 : Nat) : Int) then (if okr 21 (M i0 3) then (if 0 ≤ (a4 + v6).toInt ∧ (a4 + v6).toInt < (((kd (rid (M i0 3))).2 : Nat) : Int) then (if ((M (rid (M i0 3)) (ix (a3 + v6))) = (M (rid (M i0 3)) (ix (a4 + v6)))) then (lz (v6 + (1 : Int32)) fun x20 => f_X6_isSameText_L40 i0 a3 a4 a5 M n x20) else (some (0 : Int32))) else none) else none) else none) else none)
def f_X6_isSameText (i0 : Nat) (a1 : Int32) (a2 : Int32) (M : Mm) : Option Int32 :=
  bd1 (f_X6_startOf i0 a1 M) fun x1 => bd1 (f_X6_startOf i0 a2 M) fun x4 => bd1 (f_X6_endOf i0 a1 M) fun x7 => bd1 (f_X6_endOf i0 a2 M) fun x10 => if ((x10 - x4) = (x7 - x1)) then ((f_X6_isSameText_L40 i0 x1 x4 (x7 - x1) M FU (0 : Int32))) else (some (0 : Int32))
set_option maxHeartbeats 4000000 in
set_option maxRecDepth 100000 in
theorem l_X6_isSameText_L40 {p : Program} {e : Env} {s : State} {m : MethodId} {args : Array Value} {below : List Frame} {meth : Method} {c : Code} {l : Launch} {G : GG} (hC : CX p s m args meth c cX6_isSameText 7 RX6 (some .boolean) G) {i0 : Nat} (hi0 : (kd i0).1 = 8) (a3 : Int32) (a4 : Int32) (a5 : Int32) (M : Mm) : ∀ (n : Nat) (v6 : Int32) {r : Int32} (hr : f_X6_isSameText_L40 i0 a3 a4 a5 M n v6 = some r), XJ p l e (RM 1 0 0 21) s m args below meth c G 7 (MQ below (QO G M true (some (.int r)) s.heap.size) args s 0 0 (AF G s.heap.size)) 0 0 M 40 [(0, .ref (G.2.1 i0)), (3, .int a3), (4, .int a4), (5, .int a5), (6, .int v6)] [] := by
  intro n
  induction n with
  | zero => intro v6 r hr; rw [f_X6_isSameText_L40] at hr; cases hr
  | succ n ih =>
    intro v6 r hr
    rw [f_X6_isSameText_L40] at hr
    refine x_iload hC dX6_isSameText_40 4 rfl ?_
    refine x_iload hC dX6_isSameText_42 3 rfl ?_
    refine x_icmp_ge hC 77 dX6_isSameText_44 (by decide) (fun h14 => ?_) (fun h14 => ?_)
    · have hr := (ie_s hr).1 h14
      refine x_iconst hC (1 : Int32) dX6_isSameText_77 (by decide) ?_
      cases hr
      exact x_zret hC rfl (Or.inr rfl) dX6_isSameText_78
    · have hr := (ie_s hr).2 h14
      refine x_aload_n hC dX6_isSameText_47 rfl 0 rfl ?_
      obtain ⟨h15, hr⟩ := it_s hr
      refine gf_X6_24 hC hi0 h15 dX6_isSameText_48 ?_
      refine x_iload_n hC dX6_isSameText_51 rfl 1 rfl ?_
      refine x_iload hC dX6_isSameText_52 4 rfl ?_
      refine x_iadd hC dX6_isSameText_54 ?_
      obtain ⟨h16, hr⟩ := it_s hr
      refine x_bald hC (kd_eta h15.2) h16 dX6_isSameText_55 ?_
      refine x_aload_n hC dX6_isSameText_56 rfl 0 rfl ?_
      obtain ⟨h17, hr⟩ := it_s hr
      refine gf_X6_24 hC hi0 h17 dX6_isSameText_57 ?_
      refine x_iload hC dX6_isSameText_60 2 rfl ?_
      refine x_iload hC dX6_isSameText_62 4 rfl ?_
      refine x_iadd hC dX6_isSameText_64 ?_
      obtain ⟨h18, hr⟩ := it_s hr
      refine x_bald hC (kd_eta h17.2) h18 dX6_isSameText_65 ?_
      refine x_icmp_eq hC 71 dX6_isSameText_66 (by decide) (fun h19 => ?_) (fun h19 => ?_)
      · have hr := (ie_s hr).1 h19
        obtain ⟨x20, e21, hr⟩ := lz_s hr
        refine x_iinc hC [(6, .int x20), (0, .ref (G.2.1 i0)), (3, .int a3), (4, .int a4), (5, .int a5)] dX6_isSameText_71 4 rfl (by rw [e21]; rfl) (Nat.le_of_ble_eq_true rfl) rfl ?_
        refine x_goto hC 40 dX6_isSameText_74 (by decide) ?_
        exact x_sub [1, 2, 3, 4, 0] rfl (ih x20 hr)
      · have hr := (ie_s hr).2 h19
        refine x_iconst hC (0 : Int32) dX6_isSameText_69 (by decide) ?_
        cases hr
        exact x_zret hC rfl (Or.inl rfl) dX6_isSameText_70
set_option maxHeartbeats 4000000 in
set_option maxRecDepth 100000 in
theorem c_X6_isSameText (l : Launch) (G : GG) (M : Mm) {i0 : Nat} (hi0 : (kd i0).1 = 8) (a1 : Int32) (a2 : Int32) {r : Int32} (hr : f_X6_isSameText i0 a1 a2 M = some r) : Mo true l yX6_isSameText (WS yX6_isSameText cX6_isSameText 7 (some .boolean)) (RM 1 0 0 21) 0 0 [.ref (G.2.1 i0), .int a1, .int a2] G M (some (.int r)) M := by
  refine Mo.of (by decide +kernel) (Nat.le_of_ble_eq_true rfl) ?_
  intro p e s m args below meth c hC
  have hC : CX p s m args meth c cX6_isSameText 7 RX6 (some .boolean) G := hC
  rw [f_X6_isSameText] at hr
  show XJ p l e (RM 1 0 0 21) s m args below meth c G 7 _ 0 0 M 0 [(0, .ref (G.2.1 i0)), (1, .int a1), (2, .int a2)] []
  refine x_aload_n hC dX6_isSameText_0 rfl 0 rfl ?_
  refine x_iload_n hC dX6_isSameText_1 rfl 1 rfl ?_
  obtain ⟨x1, q2, hr⟩ := bd1_s hr
  refine x_callV (ci := 8) (q := (RX6, TX6, 5)) (As := [.int a1]) hC (c_X6_startOf l G M hi0 a1 q2) kc_yX6_startOf km_X6_82 ki_yX6_startOf kv_yX6_startOf kn_RX6 ky_yX6_startOf rfl ⟨rfl, rfl⟩ ⟨(Nat.le_of_ble_eq_true rfl), (Nat.le_of_ble_eq_true rfl)⟩ hi0 (by decide) rfl rfl (Nat.le_of_ble_eq_true rfl) ⟨(Nat.le_of_ble_eq_true rfl), (Nat.le_of_ble_eq_true rfl)⟩ dX6_isSameText_2 (fun b3 => ?_)
  refine x_istore_n hC [(3, .int x1), (0, .ref (G.2.1 i0)), (1, .int a1), (2, .int a2)] dX6_isSameText_5 rfl (Nat.le_of_ble_eq_true rfl) rfl ?_
  refine x_aload_n hC dX6_isSameText_6 rfl 1 rfl ?_
  refine x_iload_n hC dX6_isSameText_7 rfl 3 rfl ?_
  obtain ⟨x4, q5, hr⟩ := bd1_s hr
  refine x_callV (ci := 8) (q := (RX6, TX6, 5)) (As := [.int a2]) hC (c_X6_startOf l G M hi0 a2 q5) kc_yX6_startOf km_X6_82 ki_yX6_startOf kv_yX6_startOf kn_RX6 ky_yX6_startOf rfl ⟨rfl, rfl⟩ ⟨(Nat.le_of_ble_eq_true rfl), (Nat.le_of_ble_eq_true rfl)⟩ hi0 (by decide) rfl rfl (Nat.le_of_ble_eq_true rfl) ⟨(Nat.le_of_ble_eq_true rfl), (Nat.le_of_ble_eq_true rfl)⟩ dX6_isSameText_8 (fun b6 => ?_)
  refine x_istore hC [(4, .int x4), (3, .int x1), (0, .ref (G.2.1 i0)), (1, .int a1), (2, .int a2)] dX6_isSameText_11  (Nat.le_of_ble_eq_true rfl) rfl ?_
  refine x_aload_n hC dX6_isSameText_13 rfl 2 rfl ?_
  refine x_iload_n hC dX6_isSameText_14 rfl 3 rfl ?_
  obtain ⟨x7, q8, hr⟩ := bd1_s hr
  refine x_callV (ci := 8) (q := (RX6, TX6, 5)) (As := [.int a1]) hC (c_X6_endOf l G M hi0 a1 q8) kc_yX6_endOf km_X6_79 ki_yX6_endOf kv_yX6_endOf kn_RX6 ky_yX6_endOf rfl ⟨rfl, rfl⟩ ⟨(Nat.le_of_ble_eq_true rfl), (Nat.le_of_ble_eq_true rfl)⟩ hi0 (by decide) rfl rfl (Nat.le_of_ble_eq_true rfl) ⟨(Nat.le_of_ble_eq_true rfl), (Nat.le_of_ble_eq_true rfl)⟩ dX6_isSameText_15 (fun b9 => ?_)
  refine x_iload_n hC dX6_isSameText_18 rfl 1 rfl ?_
  refine x_isub hC dX6_isSameText_19 ?_
  refine x_istore hC [(5, .int (x7 - x1)), (4, .int x4), (3, .int x1), (0, .ref (G.2.1 i0)), (1, .int a1), (2, .int a2)] dX6_isSameText_20  (Nat.le_of_ble_eq_true rfl) rfl ?_
  refine x_aload_n hC dX6_isSameText_22 rfl 3 rfl ?_
  refine x_iload_n hC dX6_isSameText_23 rfl 5 rfl ?_
  obtain ⟨x10, q11, hr⟩ := bd1_s hr
  refine x_callV (ci := 8) (q := (RX6, TX6, 5)) (As := [.int a2]) hC (c_X6_endOf l G M hi0 a2 q11) kc_yX6_endOf km_X6_79 ki_yX6_endOf kv_yX6_endOf kn_RX6 ky_yX6_endOf rfl ⟨rfl, rfl⟩ ⟨(Nat.le_of_ble_eq_true rfl), (Nat.le_of_ble_eq_true rfl)⟩ hi0 (by decide) rfl rfl (Nat.le_of_ble_eq_true rfl) ⟨(Nat.le_of_ble_eq_true rfl), (Nat.le_of_ble_eq_true rfl)⟩ dX6_isSameText_24 (fun b12 => ?_)
  refine x_iload hC dX6_isSameText_27 1 rfl ?_
  refine x_isub hC dX6_isSameText_29 ?_
  refine x_iload hC dX6_isSameText_30 0 rfl ?_
  refine x_icmp_eq hC 37 dX6_isSameText_32 (by decide) (fun h13 => ?_) (fun h13 => ?_)
  · have hr := (ie_s hr).1 h13
    refine x_iconst hC (0 : Int32) dX6_isSameText_37 (by decide) ?_
    refine x_istore hC [(6, .int (0 : Int32)), (5, .int (x7 - x1)), (4, .int x4), (3, .int x1), (0, .ref (G.2.1 i0)), (1, .int a1), (2, .int a2)] dX6_isSameText_38  (Nat.le_of_ble_eq_true rfl) rfl ?_
    exact x_sub [4, 3, 2, 1, 0] rfl (l_X6_isSameText_L40 hC hi0 x1 x4 (x7 - x1) M FU (0 : Int32) hr)
  · have hr := (ie_s hr).2 h13
    refine x_iconst hC (0 : Int32) dX6_isSameText_35 (by decide) ?_
    cases hr
    exact x_zret hC rfl (Or.inl rfl) dX6_isSameText_36

theorem dX6_numberAt_0 : decode cX6_numberAt 0 = .ok (.iconst 0, 1) := by decide +kernel
theorem dX6_numberAt_1 : decode cX6_numberAt 1 = .ok (.istore_n 2, 1) := by decide +kernel
theorem dX6_numberAt_2 : decode cX6_numberAt 2 = .ok (.aload_n 0, 1) := by decide +kernel
theorem dX6_numberAt_3 : decode cX6_numberAt 3 = .ok (.iload_n 1, 1) := by decide +kernel
theorem dX6_numberAt_4 : decode cX6_numberAt 4 = .ok (.invokevirtual 79, 3) := by decide +kernel
theorem dX6_numberAt_7 : decode cX6_numberAt 7 = .ok (.istore_n 3, 1) := by decide +kernel
theorem dX6_numberAt_8 : decode cX6_numberAt 8 = .ok (.aload_n 0, 1) := by decide +kernel
theorem dX6_numberAt_9 : decode cX6_numberAt 9 = .ok (.iload_n 1, 1) := by decide +kernel
theorem dX6_numberAt_10 : decode cX6_numberAt 10 = .ok (.invokevirtual 82, 3) := by decide +kernel
theorem dX6_numberAt_13 : decode cX6_numberAt 13 = .ok (.istore 4, 2) := by decide +kernel
theorem dX6_numberAt_15 : decode cX6_numberAt 15 = .ok (.iload 4, 2) := by decide +kernel
theorem dX6_numberAt_17 : decode cX6_numberAt 17 = .ok (.iload_n 3, 1) := by decide +kernel
theorem dX6_numberAt_18 : decode cX6_numberAt 18 = .ok (.if_icmp .ge 25, 3) := by decide +kernel
theorem dX6_numberAt_21 : decode cX6_numberAt 21 = .ok (.iload_n 2, 1) := by decide +kernel
theorem dX6_numberAt_22 : decode cX6_numberAt 22 = .ok (.bipush 10, 2) := by decide +kernel
theorem dX6_numberAt_24 : decode cX6_numberAt 24 = .ok (.imul, 1) := by decide +kernel
theorem dX6_numberAt_25 : decode cX6_numberAt 25 = .ok (.aload_n 0, 1) := by decide +kernel
theorem dX6_numberAt_26 : decode cX6_numberAt 26 = .ok (.getfield 24, 3) := by decide +kernel
theorem dX6_numberAt_29 : decode cX6_numberAt 29 = .ok (.iload 4, 2) := by decide +kernel
theorem dX6_numberAt_31 : decode cX6_numberAt 31 = .ok (.baload, 1) := by decide +kernel
theorem dX6_numberAt_32 : decode cX6_numberAt 32 = .ok (.bipush 48, 2) := by decide +kernel
theorem dX6_numberAt_34 : decode cX6_numberAt 34 = .ok (.isub, 1) := by decide +kernel
theorem dX6_numberAt_35 : decode cX6_numberAt 35 = .ok (.iadd, 1) := by decide +kernel
theorem dX6_numberAt_36 : decode cX6_numberAt 36 = .ok (.istore_n 2, 1) := by decide +kernel
theorem dX6_numberAt_37 : decode cX6_numberAt 37 = .ok (.iinc 4 1, 3) := by decide +kernel
theorem dX6_numberAt_40 : decode cX6_numberAt 40 = .ok (.goto (-25), 3) := by decide +kernel
theorem dX6_numberAt_43 : decode cX6_numberAt 43 = .ok (.iload_n 2, 1) := by decide +kernel
theorem dX6_numberAt_44 : decode cX6_numberAt 44 = .ok (.ireturn, 1) := by decide +kernel
def f_X6_numberAt_L15 (i0 : Nat) (a3 : Int32) (M : Mm) : Nat → Int32 → Int32 → Option (Int32)
  | 0, _, _ => none
  | n + 1, v2, v4 =>
    if (a3 ≤ v4) then (some (v2)) else (if okr 21 (M i0 3) then (if 0 ≤ v4.toInt ∧ v4.toInt < (((kd (rid (M i0 3))).2 : Nat) : Int) then (lz ((v2 * (10 : Int32)) + ((M (rid (M i0 3)) (ix v4)) - (48 : Int32))) fun x10 => lz (v4 + (1 : Int32)) fun x12 => f_X6_numberAt_L15 i0 a3 M n x10 x12) else none) else none)
def f_X6_numberAt (i0 : Nat) (a1 : Int32) (M : Mm) : Option Int32 :=
  bd1 (f_X6_endOf i0 a1 M) fun x1 => bd1 (f_X6_startOf i0 a1 M) fun x4 => bd1 (f_X6_numberAt_L15 i0 x1 M FU (0 : Int32) x4) fun x15 => some x15
set_option maxHeartbeats 4000000 in
set_option maxRecDepth 100000 in
theorem l_X6_numberAt_L15 {p : Program} {e : Env} {s : State} {m : MethodId} {args : Array Value} {below : List Frame} {meth : Method} {c : Code} {l : Launch} {G : GG} {Q : State → Prop} (hC : CX p s m args meth c cX6_numberAt 5 RX6 (some .int) G) {i0 : Nat} (hi0 : (kd i0).1 = 8) (a3 : Int32) (M : Mm) : ∀ (n : Nat) (v2 : Int32) (v4 : Int32) {o2 : Int32} (hr : f_X6_numberAt_L15 i0 a3 M n v2 v4 = some (o2)) (K : XJ p l e (RM 1 0 0 21) s m args below meth c G 5 Q 0 0 M 43 [(2, .int o2)] []), XJ p l e (RM 1 0 0 21) s m args below meth c G 5 Q 0 0 M 15 [(0, .ref (G.2.1 i0)), (2, .int v2), (3, .int a3), (4, .int v4)] [] := by
  intro n
  induction n with
  | zero => intro v2 v4 o2 hr K; rw [f_X6_numberAt_L15] at hr; cases hr
  | succ n ih =>
    intro v2 v4 o2 hr K
    rw [f_X6_numberAt_L15] at hr
    refine x_iload hC dX6_numberAt_15 3 rfl ?_
    refine x_iload_n hC dX6_numberAt_17 rfl 2 rfl ?_
    refine x_icmp_ge hC 43 dX6_numberAt_18 (by decide) (fun h7 => ?_) (fun h7 => ?_)
    · have hr := (ie_s hr).1 h7
      cases hr
      exact x_sub [1] rfl K
    · have hr := (ie_s hr).2 h7
      refine x_iload_n hC dX6_numberAt_21 rfl 1 rfl ?_
      refine x_bipush hC (10 : Int32) dX6_numberAt_22 (by decide) ?_
      refine x_imul hC dX6_numberAt_24 ?_
      refine x_aload_n hC dX6_numberAt_25 rfl 0 rfl ?_
      obtain ⟨h8, hr⟩ := it_s hr
      refine gf_X6_24 hC hi0 h8 dX6_numberAt_26 ?_
      refine x_iload hC dX6_numberAt_29 3 rfl ?_
      obtain ⟨h9, hr⟩ := it_s hr
      refine x_bald hC (kd_eta h8.2) h9 dX6_numberAt_31 ?_
      refine x_bipush hC (48 : Int32) dX6_numberAt_32 (by decide) ?_
      refine x_isub hC dX6_numberAt_34 ?_
      refine x_iadd hC dX6_numberAt_35 ?_
      obtain ⟨x10, e11, hr⟩ := lz_s hr
      refine x_topi e11 ?_
      refine x_istore_n hC [(2, .int x10), (0, .ref (G.2.1 i0)), (3, .int a3), (4, .int v4)] dX6_numberAt_36 rfl (Nat.le_of_ble_eq_true rfl) rfl ?_
      obtain ⟨x12, e13, hr⟩ := lz_s hr
      refine x_iinc hC [(4, .int x12), (2, .int x10), (0, .ref (G.2.1 i0)), (3, .int a3)] dX6_numberAt_37 3 rfl (by rw [e13]; rfl) (Nat.le_of_ble_eq_true rfl) rfl ?_
      refine x_goto hC 15 dX6_numberAt_40 (by decide) ?_
      exact x_sub [2, 1, 3, 0] rfl (ih x10 x12 hr K)
set_option maxHeartbeats 4000000 in
set_option maxRecDepth 100000 in
theorem c_X6_numberAt (l : Launch) (G : GG) (M : Mm) {i0 : Nat} (hi0 : (kd i0).1 = 8) (a1 : Int32) {r : Int32} (hr : f_X6_numberAt i0 a1 M = some r) : Mo false l yX6_numberAt (WS yX6_numberAt cX6_numberAt 5 (some .int)) (RM 1 0 0 21) 0 0 [.ref (G.2.1 i0), .int a1] G M (some (.int r)) M := by
  refine Mo.of (by decide +kernel) (Nat.le_of_ble_eq_true rfl) ?_
  intro p e s m args below meth c hC
  have hC : CX p s m args meth c cX6_numberAt 5 RX6 (some .int) G := hC
  rw [f_X6_numberAt] at hr
  show XJ p l e (RM 1 0 0 21) s m args below meth c G 5 _ 0 0 M 0 [(0, .ref (G.2.1 i0)), (1, .int a1)] []
  refine x_iconst hC (0 : Int32) dX6_numberAt_0 (by decide) ?_
  refine x_istore_n hC [(2, .int (0 : Int32)), (0, .ref (G.2.1 i0)), (1, .int a1)] dX6_numberAt_1 rfl (Nat.le_of_ble_eq_true rfl) rfl ?_
  refine x_aload_n hC dX6_numberAt_2 rfl 1 rfl ?_
  refine x_iload_n hC dX6_numberAt_3 rfl 2 rfl ?_
  obtain ⟨x1, q2, hr⟩ := bd1_s hr
  refine x_callV (ci := 8) (q := (RX6, TX6, 5)) (As := [.int a1]) hC (c_X6_endOf l G M hi0 a1 q2) kc_yX6_endOf km_X6_79 ki_yX6_endOf kv_yX6_endOf kn_RX6 ky_yX6_endOf rfl ⟨rfl, rfl⟩ ⟨(Nat.le_of_ble_eq_true rfl), (Nat.le_of_ble_eq_true rfl)⟩ hi0 (by decide) rfl rfl (Nat.le_of_ble_eq_true rfl) ⟨(Nat.le_of_ble_eq_true rfl), (Nat.le_of_ble_eq_true rfl)⟩ dX6_numberAt_4 (fun b3 => ?_)
  refine x_istore_n hC [(3, .int x1), (2, .int (0 : Int32)), (0, .ref (G.2.1 i0)), (1, .int a1)] dX6_numberAt_7 rfl (Nat.le_of_ble_eq_true rfl) rfl ?_
  refine x_aload_n hC dX6_numberAt_8 rfl 2 rfl ?_
  refine x_iload_n hC dX6_numberAt_9 rfl 3 rfl ?_
  obtain ⟨x4, q5, hr⟩ := bd1_s hr
  refine x_callV (ci := 8) (q := (RX6, TX6, 5)) (As := [.int a1]) hC (c_X6_startOf l G M hi0 a1 q5) kc_yX6_startOf km_X6_82 ki_yX6_startOf kv_yX6_startOf kn_RX6 ky_yX6_startOf rfl ⟨rfl, rfl⟩ ⟨(Nat.le_of_ble_eq_true rfl), (Nat.le_of_ble_eq_true rfl)⟩ hi0 (by decide) rfl rfl (Nat.le_of_ble_eq_true rfl) ⟨(Nat.le_of_ble_eq_true rfl), (Nat.le_of_ble_eq_true rfl)⟩ dX6_numberAt_10 (fun b6 => ?_)
  refine x_istore hC [(4, .int x4), (3, .int x1), (2, .int (0 : Int32)), (0, .ref (G.2.1 i0)), (1, .int a1)] dX6_numberAt_13  (Nat.le_of_ble_eq_true rfl) rfl ?_
  obtain ⟨x15, q14, hr⟩ := bd1_s hr
  refine x_sub [3, 2, 1, 0] rfl (l_X6_numberAt_L15 hC hi0 x1 M FU  (0 : Int32) x4 q14 ?_)
  refine x_iload_n hC dX6_numberAt_43 rfl 0 rfl ?_
  cases hr
  exact x_iret hC rfl dX6_numberAt_44
