theorem dX6_behindBlanks_0 : decode cX6_behindBlanks 0 = .ok (.iload_n 1, 1) := by decide +kernel
theorem dX6_behindBlanks_1 : decode cX6_behindBlanks 1 = .ok (.istore_n 2, 1) := by decide +kernel
theorem dX6_behindBlanks_2 : decode cX6_behindBlanks 2 = .ok (.iload_n 2, 1) := by decide +kernel
theorem dX6_behindBlanks_3 : decode cX6_behindBlanks 3 = .ok (.aload_n 0, 1) := by decide +kernel
theorem dX6_behindBlanks_4 : decode cX6_behindBlanks 4 = .ok (.getfield 28, 3) := by decide +kernel
theorem dX6_behindBlanks_7 : decode cX6_behindBlanks 7 = .ok (.if_icmp .ge 31, 3) := by decide +kernel
theorem dX6_behindBlanks_10 : decode cX6_behindBlanks 10 = .ok (.aload_n 0, 1) := by decide +kernel
theorem dX6_behindBlanks_11 : decode cX6_behindBlanks 11 = .ok (.getfield 24, 3) := by decide +kernel
theorem dX6_behindBlanks_14 : decode cX6_behindBlanks 14 = .ok (.iload_n 2, 1) := by decide +kernel
theorem dX6_behindBlanks_15 : decode cX6_behindBlanks 15 = .ok (.baload, 1) := by decide +kernel
theorem dX6_behindBlanks_16 : decode cX6_behindBlanks 16 = .ok (.bipush 32, 2) := by decide +kernel
theorem dX6_behindBlanks_18 : decode cX6_behindBlanks 18 = .ok (.if_icmp .eq 14, 3) := by decide +kernel
theorem dX6_behindBlanks_21 : decode cX6_behindBlanks 21 = .ok (.aload_n 0, 1) := by decide +kernel
theorem dX6_behindBlanks_22 : decode cX6_behindBlanks 22 = .ok (.getfield 24, 3) := by decide +kernel
theorem dX6_behindBlanks_25 : decode cX6_behindBlanks 25 = .ok (.iload_n 2, 1) := by decide +kernel
theorem dX6_behindBlanks_26 : decode cX6_behindBlanks 26 = .ok (.baload, 1) := by decide +kernel
theorem dX6_behindBlanks_27 : decode cX6_behindBlanks 27 = .ok (.bipush 10, 2) := by decide +kernel
theorem dX6_behindBlanks_29 : decode cX6_behindBlanks 29 = .ok (.if_icmp .ne 9, 3) := by decide +kernel
theorem dX6_behindBlanks_32 : decode cX6_behindBlanks 32 = .ok (.iinc 2 1, 3) := by decide +kernel
theorem dX6_behindBlanks_35 : decode cX6_behindBlanks 35 = .ok (.goto (-33), 3) := by decide +kernel
theorem dX6_behindBlanks_38 : decode cX6_behindBlanks 38 = .ok (.iload_n 2, 1) := by decide +kernel
theorem dX6_behindBlanks_39 : decode cX6_behindBlanks 39 = .ok (.ireturn, 1) := by decide +kernel
def f_X6_behindBlanks_L2 (i0 : Nat) (M : Mm) : Nat → Int32 → Option (Int32)
  | 0, _ => none
  | n + 1, v2 =>
    if ((M i0 4) ≤ v2) then (some (v2)) else (if okr 21 (M i0 3) then (if 0 ≤ v2.toInt ∧ v2.toInt < (((kd (rid (M i0 3))).2 : Nat) : Int) then (if ((M (rid (M i0 3)) (ix v2)) = (32 : Int32)) then (lz (v2 + (1 : Int32)) fun x5 => f_X6_behindBlanks_L2 i0 M n x5) else (if okr 21 (M i0 3) then (if 0 ≤ v2.toInt ∧ v2.toInt < (((kd (rid (M i0 3))).2 : Nat) : Int) then (if ((M (rid (M i0 3)) (ix v2)) = (10 : Int32)) then (lz (v2 + (1 : Int32)) fun x10 => f_X6_behindBlanks_L2 i0 M n x10) else (some (v2))) else none) else none)) else none) else none)
def f_X6_behindBlanks (i0 : Nat) (a1 : Int32) (M : Mm) : Option Int32 :=
  bd1 (f_X6_behindBlanks_L2 i0 M FU a1) fun x13 => some x13
set_option maxHeartbeats 4000000 in
set_option maxRecDepth 100000 in
theorem l_X6_behindBlanks_L2 {p : Program} {e : Env} {s : State} {m : MethodId} {args : Array Value} {below : List Frame} {meth : Method} {c : Code} {l : Launch} {G : GG} {Q : State → Prop} (hC : CX p s m args meth c cX6_behindBlanks 3 RX6 (some .int) G) {i0 : Nat} (hi0 : (kd i0).1 = 8) (M : Mm) : ∀ (n : Nat) (v2 : Int32) {o2 : Int32} (hr : f_X6_behindBlanks_L2 i0 M n v2 = some (o2)) (K : XJ p l e (RM 0 0 0 0) s m args below meth c G 3 Q 0 0 M 38 [(2, .int o2)] []), XJ p l e (RM 0 0 0 0) s m args below meth c G 3 Q 0 0 M 2 [(0, .ref (G.2.1 i0)), (2, .int v2)] [] := by
  intro n
  induction n with
  | zero => intro v2 o2 hr K; rw [f_X6_behindBlanks_L2] at hr; cases hr
  | succ n ih =>
    intro v2 o2 hr K
    rw [f_X6_behindBlanks_L2] at hr
    refine x_iload_n hC dX6_behindBlanks_2 rfl 1 rfl ?_
    refine x_aload_n hC dX6_behindBlanks_3 rfl 0 rfl ?_
    refine gf_X6_28 hC hi0 dX6_behindBlanks_4 ?_
    refine x_icmp_ge hC 38 dX6_behindBlanks_7 (by decide) (fun h1 => ?_) (fun h1 => ?_)
    · have hr := (ie_s hr).1 h1
      cases hr
      exact x_sub [1] rfl K
    · have hr := (ie_s hr).2 h1
      refine x_aload_n hC dX6_behindBlanks_10 rfl 0 rfl ?_
      obtain ⟨h2, hr⟩ := it_s hr
      refine gf_X6_24 hC hi0 h2 dX6_behindBlanks_11 ?_
      refine x_iload_n hC dX6_behindBlanks_14 rfl 1 rfl ?_
      obtain ⟨h3, hr⟩ := it_s hr
      refine x_bald hC (kd_eta h2.2) h3 dX6_behindBlanks_15 ?_
      refine x_bipush hC (32 : Int32) dX6_behindBlanks_16 (by decide) ?_
      refine x_icmp_eq hC 32 dX6_behindBlanks_18 (by decide) (fun h4 => ?_) (fun h4 => ?_)
      · have hr := (ie_s hr).1 h4
        obtain ⟨x5, e6, hr⟩ := lz_s hr
        refine x_iinc hC [(2, .int x5), (0, .ref (G.2.1 i0))] dX6_behindBlanks_32 1 rfl (by rw [e6]; rfl) (Nat.le_of_ble_eq_true rfl) rfl ?_
        refine x_goto hC 2 dX6_behindBlanks_35 (by decide) ?_
        exact x_sub [1, 0] rfl (ih x5 hr K)
      · have hr := (ie_s hr).2 h4
        refine x_aload_n hC dX6_behindBlanks_21 rfl 0 rfl ?_
        obtain ⟨h7, hr⟩ := it_s hr
        refine gf_X6_24 hC hi0 h7 dX6_behindBlanks_22 ?_
        refine x_iload_n hC dX6_behindBlanks_25 rfl 1 rfl ?_
        obtain ⟨h8, hr⟩ := it_s hr
        refine x_bald hC (kd_eta h7.2) h8 dX6_behindBlanks_26 ?_
        refine x_bipush hC (10 : Int32) dX6_behindBlanks_27 (by decide) ?_
        refine x_icmp_ne hC 38 dX6_behindBlanks_29 (by decide) (fun h9 => ?_) (fun h9 => ?_)
        · have hr := (ie_s hr).2 h9
          cases hr
          exact x_sub [1] rfl K
        · have hr := (ie_s hr).1 h9
          obtain ⟨x10, e11, hr⟩ := lz_s hr
          refine x_iinc hC [(2, .int x10), (0, .ref (G.2.1 i0))] dX6_behindBlanks_32 1 rfl (by rw [e11]; rfl) (Nat.le_of_ble_eq_true rfl) rfl ?_
          refine x_goto hC 2 dX6_behindBlanks_35 (by decide) ?_
          exact x_sub [1, 0] rfl (ih x10 hr K)
set_option maxHeartbeats 4000000 in
set_option maxRecDepth 100000 in
theorem c_X6_behindBlanks (l : Launch) (G : GG) (M : Mm) {i0 : Nat} (hi0 : (kd i0).1 = 8) (a1 : Int32) {r : Int32} (hr : f_X6_behindBlanks i0 a1 M = some r) : Mo false l yX6_behindBlanks (WS yX6_behindBlanks cX6_behindBlanks 3 (some .int)) (RM 0 0 0 0) 0 0 [.ref (G.2.1 i0), .int a1] G M (some (.int r)) M := by
  refine Mo.of (by decide +kernel) (Nat.le_of_ble_eq_true rfl) ?_
  intro p e s m args below meth c hC
  have hC : CX p s m args meth c cX6_behindBlanks 3 RX6 (some .int) G := hC
  rw [f_X6_behindBlanks] at hr
  show XJ p l e (RM 0 0 0 0) s m args below meth c G 3 _ 0 0 M 0 [(0, .ref (G.2.1 i0)), (1, .int a1)] []
  refine x_iload_n hC dX6_behindBlanks_0 rfl 1 rfl ?_
  refine x_istore_n hC [(2, .int a1), (0, .ref (G.2.1 i0)), (1, .int a1)] dX6_behindBlanks_1 rfl (Nat.le_of_ble_eq_true rfl) rfl ?_
  obtain ⟨x13, q12, hr⟩ := bd1_s hr
  refine x_sub [1, 0] rfl (l_X6_behindBlanks_L2 hC hi0 M FU a1 q12 ?_)
  refine x_iload_n hC dX6_behindBlanks_38 rfl 0 rfl ?_
  cases hr
  exact x_iret hC rfl dX6_behindBlanks_39

theorem dX6_isLetter_0 : decode cX6_isLetter 0 = .ok (.aload_n 0, 1) := by decide +kernel
theorem dX6_isLetter_1 : decode cX6_isLetter 1 = .ok (.getfield 24, 3) := by decide +kernel
theorem dX6_isLetter_4 : decode cX6_isLetter 4 = .ok (.iload_n 1, 1) := by decide +kernel
theorem dX6_isLetter_5 : decode cX6_isLetter 5 = .ok (.baload, 1) := by decide +kernel
theorem dX6_isLetter_6 : decode cX6_isLetter 6 = .ok (.bipush 97, 2) := by decide +kernel
theorem dX6_isLetter_8 : decode cX6_isLetter 8 = .ok (.if_icmp .lt 18, 3) := by decide +kernel
theorem dX6_isLetter_11 : decode cX6_isLetter 11 = .ok (.aload_n 0, 1) := by decide +kernel
theorem dX6_isLetter_12 : decode cX6_isLetter 12 = .ok (.getfield 24, 3) := by decide +kernel
theorem dX6_isLetter_15 : decode cX6_isLetter 15 = .ok (.iload_n 1, 1) := by decide +kernel
theorem dX6_isLetter_16 : decode cX6_isLetter 16 = .ok (.baload, 1) := by decide +kernel
theorem dX6_isLetter_17 : decode cX6_isLetter 17 = .ok (.bipush 122, 2) := by decide +kernel
theorem dX6_isLetter_19 : decode cX6_isLetter 19 = .ok (.if_icmp .gt 7, 3) := by decide +kernel
theorem dX6_isLetter_22 : decode cX6_isLetter 22 = .ok (.iconst 1, 1) := by decide +kernel
theorem dX6_isLetter_23 : decode cX6_isLetter 23 = .ok (.goto 4, 3) := by decide +kernel
theorem dX6_isLetter_26 : decode cX6_isLetter 26 = .ok (.iconst 0, 1) := by decide +kernel
theorem dX6_isLetter_27 : decode cX6_isLetter 27 = .ok (.ireturn, 1) := by decide +kernel

def f_X6_isLetter (i0 : Nat) (a1 : Int32) (M : Mm) : Option Int32 :=
  if okr 21 (M i0 3) then (if 0 ≤ a1.toInt ∧ a1.toInt < (((kd (rid (M i0 3))).2 : Nat) : Int) then (if ((M (rid (M i0 3)) (ix a1)) < (97 : Int32)) then (some (0 : Int32)) else (if okr 21 (M i0 3) then (if 0 ≤ a1.toInt ∧ a1.toInt < (((kd (rid (M i0 3))).2 : Nat) : Int) then (if ((122 : Int32) < (M (rid (M i0 3)) (ix a1))) then (some (0 : Int32)) else (some (1 : Int32))) else none) else none)) else none) else none

set_option maxHeartbeats 4000000 in
set_option maxRecDepth 100000 in
theorem c_X6_isLetter (l : Launch) (G : GG) (M : Mm) {i0 : Nat} (hi0 : (kd i0).1 = 8) (a1 : Int32) {r : Int32} (hr : f_X6_isLetter i0 a1 M = some r) : Mo true l yX6_isLetter (WS yX6_isLetter cX6_isLetter 2 (some .boolean)) (RM 0 0 0 0) 0 0 [.ref (G.2.1 i0), .int a1] G M (some (.int r)) M := by
  refine Mo.of (by decide +kernel) (Nat.le_of_ble_eq_true rfl) ?_
  intro p e s m args below meth c hC
  have hC : CX p s m args meth c cX6_isLetter 2 RX6 (some .boolean) G := hC
  rw [f_X6_isLetter] at hr
  show XJ p l e (RM 0 0 0 0) s m args below meth c G 2 _ 0 0 M 0 [(0, .ref (G.2.1 i0)), (1, .int a1)] []
  refine x_aload_n hC dX6_isLetter_0 rfl 0 rfl ?_
  obtain ⟨h1, hr⟩ := it_s hr
  refine gf_X6_24 hC hi0 h1 dX6_isLetter_1 ?_
  refine x_iload_n hC dX6_isLetter_4 rfl 1 rfl ?_
  obtain ⟨h2, hr⟩ := it_s hr
  refine x_bald hC (kd_eta h1.2) h2 dX6_isLetter_5 ?_
  refine x_bipush hC (97 : Int32) dX6_isLetter_6 (by decide) ?_
  refine x_icmp_lt hC 26 dX6_isLetter_8 (by decide) (fun h3 => ?_) (fun h3 => ?_)
  · have hr := (ie_s hr).1 h3
    refine x_iconst hC (0 : Int32) dX6_isLetter_26 (by decide) ?_
    cases hr
    exact x_zret hC rfl (Or.inl rfl) dX6_isLetter_27
  · have hr := (ie_s hr).2 h3
    refine x_aload_n hC dX6_isLetter_11 rfl 0 rfl ?_
    obtain ⟨h4, hr⟩ := it_s hr
    refine gf_X6_24 hC hi0 h4 dX6_isLetter_12 ?_
    refine x_iload_n hC dX6_isLetter_15 rfl 1 rfl ?_
    obtain ⟨h5, hr⟩ := it_s hr
    refine x_bald hC (kd_eta h4.2) h5 dX6_isLetter_16 ?_
    refine x_bipush hC (122 : Int32) dX6_isLetter_17 (by decide) ?_
    refine x_icmp_gt hC 26 dX6_isLetter_19 (by decide) (fun h6 => ?_) (fun h6 => ?_)
    · have hr := (ie_s hr).1 h6
      refine x_iconst hC (0 : Int32) dX6_isLetter_26 (by decide) ?_
      cases hr
      exact x_zret hC rfl (Or.inl rfl) dX6_isLetter_27
    · have hr := (ie_s hr).2 h6
      refine x_iconst hC (1 : Int32) dX6_isLetter_22 (by decide) ?_
      refine x_goto hC 27 dX6_isLetter_23 (by decide) ?_
      cases hr
      exact x_zret hC rfl (Or.inr rfl) dX6_isLetter_27

theorem dX6_isDigit_0 : decode cX6_isDigit 0 = .ok (.aload_n 0, 1) := by decide +kernel
theorem dX6_isDigit_1 : decode cX6_isDigit 1 = .ok (.getfield 24, 3) := by decide +kernel
theorem dX6_isDigit_4 : decode cX6_isDigit 4 = .ok (.iload_n 1, 1) := by decide +kernel
theorem dX6_isDigit_5 : decode cX6_isDigit 5 = .ok (.baload, 1) := by decide +kernel
theorem dX6_isDigit_6 : decode cX6_isDigit 6 = .ok (.bipush 48, 2) := by decide +kernel
theorem dX6_isDigit_8 : decode cX6_isDigit 8 = .ok (.if_icmp .lt 18, 3) := by decide +kernel
theorem dX6_isDigit_11 : decode cX6_isDigit 11 = .ok (.aload_n 0, 1) := by decide +kernel
theorem dX6_isDigit_12 : decode cX6_isDigit 12 = .ok (.getfield 24, 3) := by decide +kernel
theorem dX6_isDigit_15 : decode cX6_isDigit 15 = .ok (.iload_n 1, 1) := by decide +kernel
theorem dX6_isDigit_16 : decode cX6_isDigit 16 = .ok (.baload, 1) := by decide +kernel
theorem dX6_isDigit_17 : decode cX6_isDigit 17 = .ok (.bipush 57, 2) := by decide +kernel
theorem dX6_isDigit_19 : decode cX6_isDigit 19 = .ok (.if_icmp .gt 7, 3) := by decide +kernel
theorem dX6_isDigit_22 : decode cX6_isDigit 22 = .ok (.iconst 1, 1) := by decide +kernel
theorem dX6_isDigit_23 : decode cX6_isDigit 23 = .ok (.goto 4, 3) := by decide +kernel
theorem dX6_isDigit_26 : decode cX6_isDigit 26 = .ok (.iconst 0, 1) := by decide +kernel
theorem dX6_isDigit_27 : decode cX6_isDigit 27 = .ok (.ireturn, 1) := by decide +kernel

def f_X6_isDigit (i0 : Nat) (a1 : Int32) (M : Mm) : Option Int32 :=
  if okr 21 (M i0 3) then (if 0 ≤ a1.toInt ∧ a1.toInt < (((kd (rid (M i0 3))).2 : Nat) : Int) then (if ((M (rid (M i0 3)) (ix a1)) < (48 : Int32)) then (some (0 : Int32)) else (if okr 21 (M i0 3) then (if 0 ≤ a1.toInt ∧ a1.toInt < (((kd (rid (M i0 3))).2 : Nat) : Int) then (if ((57 : Int32) < (M (rid (M i0 3)) (ix a1))) then (some (0 : Int32)) else (some (1 : Int32))) else none) else none)) else none) else none

set_option maxHeartbeats 4000000 in
set_option maxRecDepth 100000 in
theorem c_X6_isDigit (l : Launch) (G : GG) (M : Mm) {i0 : Nat} (hi0 : (kd i0).1 = 8) (a1 : Int32) {r : Int32} (hr : f_X6_isDigit i0 a1 M = some r) : Mo true l yX6_isDigit (WS yX6_isDigit cX6_isDigit 2 (some .boolean)) (RM 0 0 0 0) 0 0 [.ref (G.2.1 i0), .int a1] G M (some (.int r)) M := by
  refine Mo.of (by decide +kernel) (Nat.le_of_ble_eq_true rfl) ?_
  intro p e s m args below meth c hC
  have hC : CX p s m args meth c cX6_isDigit 2 RX6 (some .boolean) G := hC
  rw [f_X6_isDigit] at hr
  show XJ p l e (RM 0 0 0 0) s m args below meth c G 2 _ 0 0 M 0 [(0, .ref (G.2.1 i0)), (1, .int a1)] []
  refine x_aload_n hC dX6_isDigit_0 rfl 0 rfl ?_
  obtain ⟨h1, hr⟩ := it_s hr
  refine gf_X6_24 hC hi0 h1 dX6_isDigit_1 ?_
  refine x_iload_n hC dX6_isDigit_4 rfl 1 rfl ?_
  obtain ⟨h2, hr⟩ := it_s hr
  refine x_bald hC (kd_eta h1.2) h2 dX6_isDigit_5 ?_
  refine x_bipush hC (48 : Int32) dX6_isDigit_6 (by decide) ?_
  refine x_icmp_lt hC 26 dX6_isDigit_8 (by decide) (fun h3 => ?_) (fun h3 => ?_)
  · have hr := (ie_s hr).1 h3
    refine x_iconst hC (0 : Int32) dX6_isDigit_26 (by decide) ?_
    cases hr
    exact x_zret hC rfl (Or.inl rfl) dX6_isDigit_27
  · have hr := (ie_s hr).2 h3
    refine x_aload_n hC dX6_isDigit_11 rfl 0 rfl ?_
    obtain ⟨h4, hr⟩ := it_s hr
    refine gf_X6_24 hC hi0 h4 dX6_isDigit_12 ?_
    refine x_iload_n hC dX6_isDigit_15 rfl 1 rfl ?_
    obtain ⟨h5, hr⟩ := it_s hr
    refine x_bald hC (kd_eta h4.2) h5 dX6_isDigit_16 ?_
    refine x_bipush hC (57 : Int32) dX6_isDigit_17 (by decide) ?_
    refine x_icmp_gt hC 26 dX6_isDigit_19 (by decide) (fun h6 => ?_) (fun h6 => ?_)
    · have hr := (ie_s hr).1 h6
      refine x_iconst hC (0 : Int32) dX6_isDigit_26 (by decide) ?_
      cases hr
      exact x_zret hC rfl (Or.inl rfl) dX6_isDigit_27
    · have hr := (ie_s hr).2 h6
      refine x_iconst hC (1 : Int32) dX6_isDigit_22 (by decide) ?_
      refine x_goto hC 27 dX6_isDigit_23 (by decide) ?_
      cases hr
      exact x_zret hC rfl (Or.inr rfl) dX6_isDigit_27

theorem dX6_behindWord_0 : decode cX6_behindWord 0 = .ok (.iload_n 1, 1) := by decide +kernel
theorem dX6_behindWord_1 : decode cX6_behindWord 1 = .ok (.istore_n 2, 1) := by decide +kernel
theorem dX6_behindWord_2 : decode cX6_behindWord 2 = .ok (.iload_n 2, 1) := by decide +kernel
theorem dX6_behindWord_3 : decode cX6_behindWord 3 = .ok (.aload_n 0, 1) := by decide +kernel
theorem dX6_behindWord_4 : decode cX6_behindWord 4 = .ok (.getfield 28, 3) := by decide +kernel
theorem dX6_behindWord_7 : decode cX6_behindWord 7 = .ok (.if_icmp .ge 25, 3) := by decide +kernel
theorem dX6_behindWord_10 : decode cX6_behindWord 10 = .ok (.aload_n 0, 1) := by decide +kernel
theorem dX6_behindWord_11 : decode cX6_behindWord 11 = .ok (.iload_n 2, 1) := by decide +kernel
theorem dX6_behindWord_12 : decode cX6_behindWord 12 = .ok (.invokevirtual 53, 3) := by decide +kernel
theorem dX6_behindWord_15 : decode cX6_behindWord 15 = .ok (.ifCond .ne 11, 3) := by decide +kernel
theorem dX6_behindWord_18 : decode cX6_behindWord 18 = .ok (.aload_n 0, 1) := by decide +kernel
theorem dX6_behindWord_19 : decode cX6_behindWord 19 = .ok (.iload_n 2, 1) := by decide +kernel
theorem dX6_behindWord_20 : decode cX6_behindWord 20 = .ok (.invokevirtual 67, 3) := by decide +kernel
theorem dX6_behindWord_23 : decode cX6_behindWord 23 = .ok (.ifCond .eq 9, 3) := by decide +kernel
theorem dX6_behindWord_26 : decode cX6_behindWord 26 = .ok (.iinc 2 1, 3) := by decide +kernel
theorem dX6_behindWord_29 : decode cX6_behindWord 29 = .ok (.goto (-27), 3) := by decide +kernel
theorem dX6_behindWord_32 : decode cX6_behindWord 32 = .ok (.iload_n 2, 1) := by decide +kernel
theorem dX6_behindWord_33 : decode cX6_behindWord 33 = .ok (.ireturn, 1) := by decide +kernel
def f_X6_behindWord_L2 (i0 : Nat) (M : Mm) : Nat → Int32 → Option (Int32)
  | 0, _ => none
  | n + 1, v2 =>
    if ((M i0 4) ≤ v2) then (some (v2)) else (bd1 (f_X6_isLetter i0 v2 M) fun x2 => if (x2 = 0) then (bd1 (f_X6_isDigit i0 v2 M) fun x8 => if (x8 = 0) then (some (v2)) else (lz (v2 + (1 : Int32)) fun x12 => f_X6_behindWord_L2 i0 M n x12)) else (lz (v2 + (1 : Int32)) fun x6 => f_X6_behindWord_L2 i0 M n x6))
def f_X6_behindWord (i0 : Nat) (a1 : Int32) (M : Mm) : Option Int32 :=
  bd1 (f_X6_behindWord_L2 i0 M FU a1) fun x15 => some x15
set_option maxHeartbeats 4000000 in
set_option maxRecDepth 100000 in
theorem l_X6_behindWord_L2 {p : Program} {e : Env} {s : State} {m : MethodId} {args : Array Value} {below : List Frame} {meth : Method} {c : Code} {l : Launch} {G : GG} {Q : State → Prop} (hC : CX p s m args meth c cX6_behindWord 3 RX6 (some .int) G) {i0 : Nat} (hi0 : (kd i0).1 = 8) (M : Mm) : ∀ (n : Nat) (v2 : Int32) {o2 : Int32} (hr : f_X6_behindWord_L2 i0 M n v2 = some (o2)) (K : XJ p l e (RM 1 0 0 21) s m args below meth c G 3 Q 0 0 M 32 [(2, .int o2)] []), XJ p l e (RM 1 0 0 21) s m args below meth c G 3 Q 0 0 M 2 [(0, .ref (G.2.1 i0)), (2, .int v2)] [] := by
  intro n
  induction n with
  | zero => intro v2 o2 hr K; rw [f_X6_behindWord_L2] at hr; cases hr
  | succ n ih =>
    intro v2 o2 hr K
    rw [f_X6_behindWord_L2] at hr
    refine x_iload_n hC dX6_behindWord_2 rfl 1 rfl ?_
    refine x_aload_n hC dX6_behindWord_3 rfl 0 rfl ?_
    refine gf_X6_28 hC hi0 dX6_behindWord_4 ?_
    refine x_icmp_ge hC 32 dX6_behindWord_7 (by decide) (fun h1 => ?_) (fun h1 => ?_)
    · have hr := (ie_s hr).1 h1
      cases hr
      exact x_sub [1] rfl K
    · have hr := (ie_s hr).2 h1
      refine x_aload_n hC dX6_behindWord_10 rfl 0 rfl ?_
      refine x_iload_n hC dX6_behindWord_11 rfl 1 rfl ?_
      obtain ⟨x2, q3, hr⟩ := bd1_s hr
      refine x_callV (ci := 8) (q := (RX6, TX6, 5)) (As := [.int v2]) hC (c_X6_isLetter l G M hi0 v2 q3) kc_yX6_isLetter km_X6_53 ki_yX6_isLetter kv_yX6_isLetter kn_RX6 ky_yX6_isLetter rfl ⟨rfl, rfl⟩ ⟨(Nat.le_of_ble_eq_true rfl), (Nat.le_of_ble_eq_true rfl)⟩ hi0 (by decide) rfl rfl (Nat.le_of_ble_eq_true rfl) ⟨(Nat.le_of_ble_eq_true rfl), (Nat.le_of_ble_eq_true rfl)⟩ dX6_behindWord_12 (fun b4 => ?_)
      refine x_if_ne hC 26 dX6_behindWord_15 (by decide) (fun h5 => ?_) (fun h5 => ?_)
      · have hr := (ie_s hr).2 h5
        obtain ⟨x6, e7, hr⟩ := lz_s hr
        refine x_iinc hC [(2, .int x6), (0, .ref (G.2.1 i0))] dX6_behindWord_26 1 rfl (by rw [e7]; rfl) (Nat.le_of_ble_eq_true rfl) rfl ?_
        refine x_goto hC 2 dX6_behindWord_29 (by decide) ?_
        exact x_sub [1, 0] rfl (ih x6 hr K)
      · have hr := (ie_s hr).1 h5
        refine x_aload_n hC dX6_behindWord_18 rfl 0 rfl ?_
        refine x_iload_n hC dX6_behindWord_19 rfl 1 rfl ?_
        obtain ⟨x8, q9, hr⟩ := bd1_s hr
        refine x_callV (ci := 8) (q := (RX6, TX6, 5)) (As := [.int v2]) hC (c_X6_isDigit l G M hi0 v2 q9) kc_yX6_isDigit km_X6_67 ki_yX6_isDigit kv_yX6_isDigit kn_RX6 ky_yX6_isDigit rfl ⟨rfl, rfl⟩ ⟨(Nat.le_of_ble_eq_true rfl), (Nat.le_of_ble_eq_true rfl)⟩ hi0 (by decide) rfl rfl (Nat.le_of_ble_eq_true rfl) ⟨(Nat.le_of_ble_eq_true rfl), (Nat.le_of_ble_eq_true rfl)⟩ dX6_behindWord_20 (fun b10 => ?_)
        refine x_if_eq hC 32 dX6_behindWord_23 (by decide) (fun h11 => ?_) (fun h11 => ?_)
        · have hr := (ie_s hr).1 h11
          cases hr
          exact x_sub [1] rfl K
        · have hr := (ie_s hr).2 h11
          obtain ⟨x12, e13, hr⟩ := lz_s hr
          refine x_iinc hC [(2, .int x12), (0, .ref (G.2.1 i0))] dX6_behindWord_26 1 rfl (by rw [e13]; rfl) (Nat.le_of_ble_eq_true rfl) rfl ?_
          refine x_goto hC 2 dX6_behindWord_29 (by decide) ?_
          exact x_sub [1, 0] rfl (ih x12 hr K)
set_option maxHeartbeats 4000000 in
set_option maxRecDepth 100000 in
theorem c_X6_behindWord (l : Launch) (G : GG) (M : Mm) {i0 : Nat} (hi0 : (kd i0).1 = 8) (a1 : Int32) {r : Int32} (hr : f_X6_behindWord i0 a1 M = some r) : Mo false l yX6_behindWord (WS yX6_behindWord cX6_behindWord 3 (some .int)) (RM 1 0 0 21) 0 0 [.ref (G.2.1 i0), .int a1] G M (some (.int r)) M := by
  refine Mo.of (by decide +kernel) (Nat.le_of_ble_eq_true rfl) ?_
  intro p e s m args below meth c hC
  have hC : CX p s m args meth c cX6_behindWord 3 RX6 (some .int) G := hC
  rw [f_X6_behindWord] at hr
  show XJ p l e (RM 1 0 0 21) s m args below meth c G 3 _ 0 0 M 0 [(0, .ref (G.2.1 i0)), (1, .int a1)] []
  refine x_iload_n hC dX6_behindWord_0 rfl 1 rfl ?_
  refine x_istore_n hC [(2, .int a1), (0, .ref (G.2.1 i0)), (1, .int a1)] dX6_behindWord_1 rfl (Nat.le_of_ble_eq_true rfl) rfl ?_
  obtain ⟨x15, q14, hr⟩ := bd1_s hr
  refine x_sub [1, 0] rfl (l_X6_behindWord_L2 hC hi0 M FU a1 q14 ?_)
  refine x_iload_n hC dX6_behindWord_32 rfl 0 rfl ?_
  cases hr
  exact x_iret hC rfl dX6_behindWord_33

theorem dX6_behindDigits_0 : decode cX6_behindDigits 0 = .ok (.iload_n 1, 1) := by decide +kernel
theorem dX6_behindDigits_1 : decode cX6_behindDigits 1 = .ok (.istore_n 2, 1) := by decide +kernel
theorem dX6_behindDigits_2 : decode cX6_behindDigits 2 = .ok (.iload_n 2, 1) := by decide +kernel
theorem dX6_behindDigits_3 : decode cX6_behindDigits 3 = .ok (.aload_n 0, 1) := by decide +kernel
theorem dX6_behindDigits_4 : decode cX6_behindDigits 4 = .ok (.getfield 28, 3) := by decide +kernel
theorem dX6_behindDigits_7 : decode cX6_behindDigits 7 = .ok (.if_icmp .ge 17, 3) := by decide +kernel
theorem dX6_behindDigits_10 : decode cX6_behindDigits 10 = .ok (.aload_n 0, 1) := by decide +kernel
theorem dX6_behindDigits_11 : decode cX6_behindDigits 11 = .ok (.iload_n 2, 1) := by decide +kernel
theorem dX6_behindDigits_12 : decode cX6_behindDigits 12 = .ok (.invokevirtual 67, 3) := by decide +kernel
theorem dX6_behindDigits_15 : decode cX6_behindDigits 15 = .ok (.ifCond .eq 9, 3) := by decide +kernel
theorem dX6_behindDigits_18 : decode cX6_behindDigits 18 = .ok (.iinc 2 1, 3) := by decide +kernel
theorem dX6_behindDigits_21 : decode cX6_behindDigits 21 = .ok (.goto (-19), 3) := by decide +kernel
theorem dX6_behindDigits_24 : decode cX6_behindDigits 24 = .ok (.iload_n 2, 1) := by decide +kernel
theorem dX6_behindDigits_25 : decode cX6_behindDigits 25 = .ok (.ireturn, 1) := by decide +kernel
def f_X6_behindDigits_L2 (i0 : Nat) (M : Mm) : Nat → Int32 → Option (Int32)
  | 0, _ => none
  | n + 1, v2 =>
    if ((M i0 4) ≤ v2) then (some (v2)) else (bd1 (f_X6_isDigit i0 v2 M) fun x2 => if (x2 = 0) then (some (v2)) else (lz (v2 + (1 : Int32)) fun x6 => f_X6_behindDigits_L2 i0 M n x6))
def f_X6_behindDigits (i0 : Nat) (a1 : Int32) (M : Mm) : Option Int32 :=
  bd1 (f_X6_behindDigits_L2 i0 M FU a1) fun x9 => some x9
set_option maxHeartbeats 4000000 in
set_option maxRecDepth 100000 in
theorem l_X6_behindDigits_L2 {p : Program} {e : Env} {s : State} {m : MethodId} {args : Array Value} {below : List Frame} {meth : Method} {c : Code} {l : Launch} {G : GG} {Q : State → Prop} (hC : CX p s m args meth c cX6_behindDigits 3 RX6 (some .int) G) {i0 : Nat} (hi0 : (kd i0).1 = 8) (M : Mm) : ∀ (n : Nat) (v2 : Int32) {o2 : Int32} (hr : f_X6_behindDigits_L2 i0 M n v2 = some (o2)) (K : XJ p l e (RM 1 0 0 21) s m args below meth c G 3 Q 0 0 M 24 [(2, .int o2)] []), XJ p l e (RM 1 0 0 21) s m args below meth c G 3 Q 0 0 M 2 [(0, .ref (G.2.1 i0)), (2, .int v2)] [] := by
  intro n
  induction n with
  | zero => intro v2 o2 hr K; rw [f_X6_behindDigits_L2] at hr; cases hr
  | succ n ih =>
    intro v2 o2 hr K
    rw [f_X6_behindDigits_L2] at hr
    refine x_iload_n hC dX6_behindDigits_2 rfl 1 rfl ?_
    refine x_aload_n hC dX6_behindDigits_3 rfl 0 rfl ?_
    refine gf_X6_28 hC hi0 dX6_behindDigits_4 ?_
    refine x_icmp_ge hC 24 dX6_behindDigits_7 (by decide) (fun h1 => ?_) (fun h1 => ?_)
    · have hr := (ie_s hr).1 h1
      cases hr
      exact x_sub [1] rfl K
    · have hr := (ie_s hr).2 h1
      refine x_aload_n hC dX6_behindDigits_10 rfl 0 rfl ?_
      refine x_iload_n hC dX6_behindDigits_11 rfl 1 rfl ?_
      obtain ⟨x2, q3, hr⟩ := bd1_s hr
      refine x_callV (ci := 8) (q := (RX6, TX6, 5)) (As := [.int v2]) hC (c_X6_isDigit l G M hi0 v2 q3) kc_yX6_isDigit km_X6_67 ki_yX6_isDigit kv_yX6_isDigit kn_RX6 ky_yX6_isDigit rfl ⟨rfl, rfl⟩ ⟨(Nat.le_of_ble_eq_true rfl), (Nat.le_of_ble_eq_true rfl)⟩ hi0 (by decide) rfl rfl (Nat.le_of_ble_eq_true rfl) ⟨(Nat.le_of_ble_eq_true rfl), (Nat.le_of_ble_eq_true rfl)⟩ dX6_behindDigits_12 (fun b4 => ?_)
      refine x_if_eq hC 24 dX6_behindDigits_15 (by decide) (fun h5 => ?_) (fun h5 => ?_)
      · have hr := (ie_s hr).1 h5
        cases hr
        exact x_sub [1] rfl K
      · have hr := (ie_s hr).2 h5
        obtain ⟨x6, e7, hr⟩ := lz_s hr
        refine x_iinc hC [(2, .int x6), (0, .ref (G.2.1 i0))] dX6_behindDigits_18 1 rfl (by rw [e7]; rfl) (Nat.le_of_ble_eq_true rfl) rfl ?_
        refine x_goto hC 2 dX6_behindDigits_21 (by decide) ?_
        exact x_sub [1, 0] rfl (ih x6 hr K)
set_option maxHeartbeats 4000000 in
set_option maxRecDepth 100000 in
theorem c_X6_behindDigits (l : Launch) (G : GG) (M : Mm) {i0 : Nat} (hi0 : (kd i0).1 = 8) (a1 : Int32) {r : Int32} (hr : f_X6_behindDigits i0 a1 M = some r) : Mo false l yX6_behindDigits (WS yX6_behindDigits cX6_behindDigits 3 (some .int)) (RM 1 0 0 21) 0 0 [.ref (G.2.1 i0), .int a1] G M (some (.int r)) M := by
  refine Mo.of (by decide +kernel) (Nat.le_of_ble_eq_true rfl) ?_
  intro p e s m args below meth c hC
  have hC : CX p s m args meth c cX6_behindDigits 3 RX6 (some .int) G := hC
  rw [f_X6_behindDigits] at hr
  show XJ p l e (RM 1 0 0 21) s m args below meth c G 3 _ 0 0 M 0 [(0, .ref (G.2.1 i0)), (1, .int a1)] []
  refine x_iload_n hC dX6_behindDigits_0 rfl 1 rfl ?_
  refine x_istore_n hC [(2, .int a1), (0, .ref (G.2.1 i0)), (1, .int a1)] dX6_behindDigits_1 rfl (Nat.le_of_ble_eq_true rfl) rfl ?_
  obtain ⟨x9, q8, hr⟩ := bd1_s hr
  refine x_sub [1, 0] rfl (l_X6_behindDigits_L2 hC hi0 M FU a1 q8 ?_)
  refine x_iload_n hC dX6_behindDigits_24 rfl 0 rfl ?_
  cases hr
  exact x_iret hC rfl dX6_behindDigits_25

theorem dX6_startOf_0 : decode cX6_startOf 0 = .ok (.iload_n 1, 1) := by decide +kernel
theorem dX6_startOf_1 : decode cX6_startOf 1 = .ok (.ifCond .lt 21, 3) := by decide +kernel
theorem dX6_startOf_4 : decode cX6_startOf 4 = .ok (.iload_n 1, 1) := by decide +kernel
theorem dX6_startOf_5 : decode cX6_startOf 5 = .ok (.aload_n 0, 1) := by decide +kernel
theorem dX6_startOf_6 : decode cX6_startOf 6 = .ok (.getfield 17, 3) := by decide +kernel
theorem dX6_startOf_9 : decode cX6_startOf 9 = .ok (.arraylength, 1) := by decide +kernel
theorem dX6_startOf_10 : decode cX6_startOf 10 = .ok (.if_icmp .ge 12, 3) := by decide +kernel
theorem dX6_startOf_13 : decode cX6_startOf 13 = .ok (.aload_n 0, 1) := by decide +kernel
theorem dX6_startOf_14 : decode cX6_startOf 14 = .ok (.getfield 17, 3) := by decide +kernel
theorem dX6_startOf_17 : decode cX6_startOf 17 = .ok (.iload_n 1, 1) := by decide +kernel
theorem dX6_startOf_18 : decode cX6_startOf 18 = .ok (.iaload, 1) := by decide +kernel
theorem dX6_startOf_19 : decode cX6_startOf 19 = .ok (.goto 7, 3) := by decide +kernel
theorem dX6_startOf_22 : decode cX6_startOf 22 = .ok (.aload_n 0, 1) := by decide +kernel
theorem dX6_startOf_23 : decode cX6_startOf 23 = .ok (.getfield 28, 3) := by decide +kernel
theorem dX6_startOf_26 : decode cX6_startOf 26 = .ok (.ireturn, 1) := by decide +kernel

def f_X6_startOf (i0 : Nat) (a1 : Int32) (M : Mm) : Option Int32 :=
  if (a1 < 0) then (some (M i0 4)) else (if ((401 : Int32) ≤ a1) then (some (M i0 4)) else (if 0 ≤ a1.toInt ∧ a1.toInt < ((401 : Nat) : Int) then (some (M (i0 + 2) (ix a1))) else none))

set_option maxHeartbeats 4000000 in
set_option maxRecDepth 100000 in
theorem c_X6_startOf (l : Launch) (G : GG) (M : Mm) {i0 : Nat} (hi0 : (kd i0).1 = 8) (a1 : Int32) {r : Int32} (hr : f_X6_startOf i0 a1 M = some r) : Mo false l yX6_startOf (WS yX6_startOf cX6_startOf 2 (some .int)) (RM 0 0 0 0) 0 0 [.ref (G.2.1 i0), .int a1] G M (some (.int r)) M := by
  refine Mo.of (by decide +kernel) (Nat.le_of_ble_eq_true rfl) ?_
  intro p e s m args below meth c hC
  have hC : CX p s m args meth c cX6_startOf 2 RX6 (some .int) G := hC
  rw [f_X6_startOf] at hr
  show XJ p l e (RM 0 0 0 0) s m args below meth c G 2 _ 0 0 M 0 [(0, .ref (G.2.1 i0)), (1, .int a1)] []
  refine x_iload_n hC dX6_startOf_0 rfl 1 rfl ?_
  refine x_if_lt hC 22 dX6_startOf_1 (by decide) (fun h1 => ?_) (fun h1 => ?_)
  · have hr := (ie_s hr).1 h1
    refine x_aload_n hC dX6_startOf_22 rfl 0 rfl ?_
    refine gf_X6_28 hC hi0 dX6_startOf_23 ?_
    cases hr
    exact x_iret hC rfl dX6_startOf_26
  · have hr := (ie_s hr).2 h1
    refine x_iload_n hC dX6_startOf_4 rfl 1 rfl ?_
    refine x_aload_n hC dX6_startOf_5 rfl 0 rfl ?_
    refine gf_X6_17 hC hi0 dX6_startOf_6 ?_
    refine x_alen hC (401 : Int32) (kr_8_1 hi0) (by decide) dX6_startOf_9 ?_
    refine x_icmp_ge hC 22 dX6_startOf_10 (by decide) (fun h2 => ?_) (fun h2 => ?_)
    · have hr := (ie_s hr).1 h2
      refine x_aload_n hC dX6_startOf_22 rfl 0 rfl ?_
      refine gf_X6_28 hC hi0 dX6_startOf_23 ?_
      cases hr
      exact x_iret hC rfl dX6_startOf_26
    · have hr := (ie_s hr).2 h2
      refine x_aload_n hC dX6_startOf_13 rfl 0 rfl ?_
      refine gf_X6_17 hC hi0 dX6_startOf_14 ?_
      refine x_iload_n hC dX6_startOf_17 rfl 1 rfl ?_
      obtain ⟨h3, hr⟩ := it_s hr
      refine x_iald hC (kr_8_1 hi0) h3 dX6_startOf_18 ?_
      refine x_goto hC 26 dX6_startOf_19 (by decide) ?_
      cases hr
      exact x_iret hC rfl dX6_startOf_26

theorem dX6_endOf_0 : decode cX6_endOf 0 = .ok (.iload_n 1, 1) := by decide +kernel
theorem dX6_endOf_1 : decode cX6_endOf 1 = .ok (.ifCond .lt 21, 3) := by decide +kernel
theorem dX6_endOf_4 : decode cX6_endOf 4 = .ok (.iload_n 1, 1) := by decide +kernel
theorem dX6_endOf_5 : decode cX6_endOf 5 = .ok (.aload_n 0, 1) := by decide +kernel
theorem dX6_endOf_6 : decode cX6_endOf 6 = .ok (.getfield 21, 3) := by decide +kernel
theorem dX6_endOf_9 : decode cX6_endOf 9 = .ok (.arraylength, 1) := by decide +kernel
theorem dX6_endOf_10 : decode cX6_endOf 10 = .ok (.if_icmp .ge 12, 3) := by decide +kernel
theorem dX6_endOf_13 : decode cX6_endOf 13 = .ok (.aload_n 0, 1) := by decide +kernel
theorem dX6_endOf_14 : decode cX6_endOf 14 = .ok (.getfield 21, 3) := by decide +kernel
theorem dX6_endOf_17 : decode cX6_endOf 17 = .ok (.iload_n 1, 1) := by decide +kernel
theorem dX6_endOf_18 : decode cX6_endOf 18 = .ok (.iaload, 1) := by decide +kernel
theorem dX6_endOf_19 : decode cX6_endOf 19 = .ok (.goto 7, 3) := by decide +kernel
theorem dX6_endOf_22 : decode cX6_endOf 22 = .ok (.aload_n 0, 1) := by decide +kernel
theorem dX6_endOf_23 : decode cX6_endOf 23 = .ok (.getfield 28, 3) := by decide +kernel
theorem dX6_endOf_26 : decode cX6_endOf 26 = .ok (.ireturn, 1) := by decide +kernel

def f_X6_endOf (i0 : Nat) (a1 : Int32) (M : Mm) : Option Int32 :=
  if (a1 < 0) then (some (M i0 4)) else (if ((401 : Int32) ≤ a1) then (some (M i0 4)) else (if 0 ≤ a1.toInt ∧ a1.toInt < ((401 : Nat) : Int) then (some (M (i0 + 3) (ix a1))) else none))

set_option maxHeartbeats 4000000 in
set_option maxRecDepth 100000 in
theorem c_X6_endOf (l : Launch) (G : GG) (M : Mm) {i0 : Nat} (hi0 : (kd i0).1 = 8) (a1 : Int32) {r : Int32} (hr : f_X6_endOf i0 a1 M = some r) : Mo false l yX6_endOf (WS yX6_endOf cX6_endOf 2 (some .int)) (RM 0 0 0 0) 0 0 [.ref (G.2.1 i0), .int a1] G M (some (.int r)) M := by
  refine Mo.of (by decide +kernel) (Nat.le_of_ble_eq_true rfl) ?_
  intro p e s m args below meth c hC
  have hC : CX p s m args meth c cX6_endOf 2 RX6 (some .int) G := hC
  rw [f_X6_endOf] at hr
  show XJ p l e (RM 0 0 0 0) s m args below meth c G 2 _ 0 0 M 0 [(0, .ref (G.2.1 i0)), (1, .int a1)] []
  refine x_iload_n hC dX6_endOf_0 rfl 1 rfl ?_
  refine x_if_lt hC 22 dX6_endOf_1 (by decide) (fun h1 => ?_) (fun h1 => ?_)
  · have hr := (ie_s hr).1 h1
    refine x_aload_n hC dX6_endOf_22 rfl 0 rfl ?_
    refine gf_X6_28 hC hi0 dX6_endOf_23 ?_
    cases hr
    exact x_iret hC rfl dX6_endOf_26
  · have hr := (ie_s hr).2 h1
    refine x_iload_n hC dX6_endOf_4 rfl 1 rfl ?_
    refine x_aload_n hC dX6_endOf_5 rfl 0 rfl ?_
    refine gf_X6_21 hC hi0 dX6_endOf_6 ?_
    refine x_alen hC (401 : Int32) (kr_8_2 hi0) (by decide) dX6_endOf_9 ?_
    refine x_icmp_ge hC 22 dX6_endOf_10 (by decide) (fun h2 => ?_) (fun h2 => ?_)
    · have hr := (ie_s hr).1 h2
      refine x_aload_n hC dX6_endOf_22 rfl 0 rfl ?_
      refine gf_X6_28 hC hi0 dX6_endOf_23 ?_
      cases hr
      exact x_iret hC rfl dX6_endOf_26
    · have hr := (ie_s hr).2 h2
      refine x_aload_n hC dX6_endOf_13 rfl 0 rfl ?_
      refine gf_X6_21 hC hi0 dX6_endOf_14 ?_
      refine x_iload_n hC dX6_endOf_17 rfl 1 rfl ?_
      obtain ⟨h3, hr⟩ := it_s hr
      refine x_iald hC (kr_8_2 hi0) h3 dX6_endOf_18 ?_
      refine x_goto hC 26 dX6_endOf_19 (by decide) ?_
      cases hr
      exact x_iret hC rfl dX6_endOf_26

theorem dX6_isSameText_0 : decode cX6_isSameText 0 = .ok (.aload_n 0, 1) := by decide +kernel
theorem dX6_isSameText_1 : decode cX6_isSameText 1 = .ok (.iload_n 1, 1) := by decide +kernel
theorem dX6_isSameText_2 : decode cX6_isSameText 2 = .ok (.invokevirtual 82, 3) := by decide +kernel
theorem dX6_isSameText_5 : decode cX6_isSameText 5 = .ok (.istore_n 3, 1) := by decide +kernel
theorem dX6_isSameText_6 : decode cX6_isSameText 6 = .ok (.aload_n 0, 1) := by decide +kernel
theorem dX6_isSameText_7 : decode cX6_isSameText 7 = .ok (.iload_n 2, 1) := by decide +kernel
theorem dX6_isSameText_8 : decode cX6_isSameText 8 = .ok (.invokevirtual 82, 3) := by decide +kernel
theorem dX6_isSameText_11 : decode cX6_isSameText 11 = .ok (.istore 4, 2) := by decide +kernel
theorem dX6_isSameText_13 : decode cX6_isSameText 13 = .ok (.aload_n 0, 1) := by decide +kernel
theorem dX6_isSameText_14 : decode cX6_isSameText 14 = .ok (.iload_n 1, 1) := by decide +kernel
theorem dX6_isSameText_15 : decode cX6_isSameText 15 = .ok (.invokevirtual 79, 3) := by decide +kernel
theorem dX6_isSameText_18 : decode cX6_isSameText 18 = .ok (.iload_n 3, 1) := by decide +kernel
theorem dX6_isSameText_19 : decode cX6_isSameText 19 = .ok (.isub, 1) := by decide +kernel
theorem dX6_isSameText_20 : decode cX6_isSameText 20 = .ok (.istore 5, 2) := by decide +kernel
theorem dX6_isSameText_22 : decode cX6_isSameText 22 = .ok (.aload_n 0, 1) := by decide +kernel
theorem dX6_isSameText_23 : decode cX6_isSameText 23 = .ok (.iload_n 2, 1) := by decide +kernel
theorem dX6_isSameText_24 : decode cX6_isSameText 24 = .ok (.invokevirtual 79, 3) := by decide +kernel
theorem dX6_isSameText_27 : decode cX6_isSameText 27 = .ok (.iload 4, 2) := by decide +kernel
theorem dX6_isSameText_29 : decode cX6_isSameText 29 = .ok (.isub, 1) := by decide +kernel
theorem dX6_isSameText_30 : decode cX6_isSameText 30 = .ok (.iload 5, 2) := by decide +kernel
theorem dX6_isSameText_32 : decode cX6_isSameText 32 = .ok (.if_icmp .eq 5, 3) := by decide +kernel
theorem dX6_isSameText_35 : decode cX6_isSameText 35 = .ok (.iconst 0, 1) := by decide +kernel
theorem dX6_isSameText_36 : decode cX6_isSameText 36 = .ok (.ireturn, 1) := by decide +kernel
theorem dX6_isSameText_37 : decode cX6_isSameText 37 = .ok (.iconst 0, 1) := by decide +kernel
theorem dX6_isSameText_38 : decode cX6_isSameText 38 = .ok (.istore 6, 2) := by decide +kernel
theorem dX6_isSameText_40 : decode cX6_isSameText 40 = .ok (.iload 6, 2) := by decide +kernel
theorem dX6_isSameText_42 : decode cX6_isSameText 42 = .ok (.iload 5, 2) := by decide +kernel
theorem dX6_isSameText_44 : decode cX6_isSameText 44 = .ok (.if_icmp .ge 33, 3) := by decide +kernel
theorem dX6_isSameText_47 : decode cX6_isSameText 47 = .ok (.aload_n 0, 1) := by decide +kernel
theorem dX6_isSameText_48 : decode cX6_isSameText 48 = .ok (.getfield 24, 3) := by decide +kernel
theorem dX6_isSameText_51 : decode cX6_isSameText 51 = .ok (.iload_n 3, 1) := by decide +kernel
theorem dX6_isSameText_52 : decode cX6_isSameText 52 = .ok (.iload 6, 2) := by decide +kernel
theorem dX6_isSameText_54 : decode cX6_isSameText 54 = .ok (.iadd, 1) := by decide +kernel
theorem dX6_isSameText_55 : decode cX6_isSameText 55 = .ok (.baload, 1) := by decide +kernel
theorem dX6_isSameText_56 : decode cX6_isSameText 56 = .ok (.aload_n 0, 1) := by decide +kernel
theorem dX6_isSameText_57 : decode cX6_isSameText 57 = .ok (.getfield 24, 3) := by decide +kernel
theorem dX6_isSameText_60 : decode cX6_isSameText 60 = .ok (.iload 4, 2) := by decide +kernel
theorem dX6_isSameText_62 : decode cX6_isSameText 62 = .ok (.iload 6, 2) := by decide +kernel
theorem dX6_isSameText_64 : decode cX6_isSameText 64 = .ok (.iadd, 1) := by decide +kernel
theorem dX6_isSameText_65 : decode cX6_isSameText 65 = .ok (.baload, 1) := by decide +kernel
theorem dX6_isSameText_66 : decode cX6_isSameText 66 = .ok (.if_icmp .eq 5, 3) := by decide +kernel
theorem dX6_isSameText_69 : decode cX6_isSameText 69 = .ok (.iconst 0, 1) := by decide +kernel
theorem dX6_isSameText_70 : decode cX6_isSameText 70 = .ok (.ireturn, 1) := by decide +kernel
theorem dX6_isSameText_71 : decode cX6_isSameText 71 = .ok (.iinc 6 1, 3) := by decide +kernel
theorem dX6_isSameText_74 : decode cX6_isSameText 74 = .ok (.goto (-34), 3) := by decide +kernel
theorem dX6_isSameText_77 : decode cX6_isSameText 77 = .ok (.iconst 1, 1) := by decide +kernel
theorem dX6_isSameText_78 : decode cX6_isSameText 78 = .ok (.ireturn, 1) := by decide +kernel
def f_X6_isSameText_L40 (i0 : Nat) (a3 : Int32) (a4 : Int32) (a5 : Int32) (M : Mm) : Nat → Int32 → Option Int32
  | 0, _ => none
  | n + 1, v6 =>
    if (a5 ≤ v6) then (some (1 : Int32)) else (if okr 21 (M i0 3) then (if 0 ≤ (a3 + v6).toInt ∧ (a3 + v6).toInt < (((kd (rid (M i0 3))).2 : Nat) : Int) then (if okr 21 (M i0 3) then (if 0 ≤ (a4 + v6).toInt ∧ (a4 + v6).toInt < (((kd (rid (M i0 3))).2 : Nat) : Int) then (if ((M (rid (M i0 3)) (ix (a3 + v6))) = (M (rid (M i0 3)) (ix (a4 + v6)))) then (lz (v6 + (1 : Int32)) fun x20 => f_X6_isSameText_L40 i0 a3 a4 a5 M n x20) else (some (0 : Int32))) else none) else none) else none) else none)
def f_X6_isSameText (i0 : Nat) (a1 : Int32) (a2 : Int32) (M : Mm) : Option Int32 :=
  bd1 (f_X6_startOf i0 a1 M) fun x1 => bd1 (f_X6_startOf i0 a2 M) fun x4 => bd1 (f_X6_endOf i0 a1 M) fun x7 => bd1 (f_X6_endOf i0 a2 M) fun x10 => if ((x10 - x4) = (x7 - x1)) then ((f_X6_isSameText_L40 i0 x1 x4 (x7 - x1) M FU (0 : Int32))) else (some (0 : Int32))
set_option maxHeartbeats 4000000 in
set_option maxRecDepth 100000 in
theorem l_X6_isSameText_L40 {p : Program} {e : Env} {s : State} {m : MethodId} {args : Array Value} {below : List Frame} {meth : Method} {c : Code} {l : Launch} {G : GG} (hC : CX p s m args meth c cX6_isSameText 7 RX6 (some .boolean) G) {i0 : Nat} (hi0 : (kd i0).1 = 8) (a3 : Int32) (a4 : Int32) (a5 : Int32) (M : Mm) : ∀ (n : Nat) (v6 : Int32) {r : Int32} (hr : f_X6_isSameText_L40 i0 a3 a4 a5 M n v6 = some r), XJ p l e (RM 1 0 0 21) s m args below meth c G 7 (MQ below (QO G M true (some (.int r)) s.heap.size) args s 0 0 (AF G s.heap.size)) 0 0 M 40 [(0, .ref (G.2.1 i0)), (3, .int a3), (4, .int a4), (5, .int a5), (6, .int v6)] [] := by
  intro n
  induction n with
  | zero => intro v6 r hr; rw [f_X6_isSameText_L40] at hr; cases hr
  | succ n ih =>
    intro v6 r hr
    rw [f_X6_isSameText_L40] at hr
    refine x_iload hC dX6_isSameText_40 4 rfl ?_
    refine x_iload hC dX6_isSameText_42 3 rfl ?_
    refine x_icmp_ge hC 77 dX6_isSameText_44 (by decide) (fun h14 => ?_) (fun h14 => ?_)
    · have hr := (ie_s hr).1 h14
      refine x_iconst hC (1 : Int32) dX6_isSameText_77 (by decide) ?_
      cases hr
      exact x_zret hC rfl (Or.inr rfl) dX6_isSameText_78
    · have hr := (ie_s hr).2 h14
      refine x_aload_n hC dX6_isSameText_47 rfl 0 rfl ?_
      obtain ⟨h15, hr⟩ := it_s hr
      refine gf_X6_24 hC hi0 h15 dX6_isSameText_48 ?_
      refine x_iload_n hC dX6_isSameText_51 rfl 1 rfl ?_
      refine x_iload hC dX6_isSameText_52 4 rfl ?_
      refine x_iadd hC dX6_isSameText_54 ?_
      obtain ⟨h16, hr⟩ := it_s hr
      refine x_bald hC (kd_eta h15.2) h16 dX6_isSameText_55 ?_
      refine x_aload_n hC dX6_isSameText_56 rfl 0 rfl ?_
      obtain ⟨h17, hr⟩ := it_s hr
      refine gf_X6_24 hC hi0 h17 dX6_isSameText_57 ?_
      refine x_iload hC dX6_isSameText_60 2 rfl ?_
      refine x_iload hC dX6_isSameText_62 4 rfl ?_
      refine x_iadd hC dX6_isSameText_64 ?_
      obtain ⟨h18, hr⟩ := it_s hr
      refine x_bald hC (kd_eta h17.2) h18 dX6_isSameText_65 ?_
      refine x_icmp_eq hC 71 dX6_isSameText_66 (by decide) (fun h19 => ?_) (fun h19 => ?_)
      · have hr := (ie_s hr).1 h19
        obtain ⟨x20, e21, hr⟩ := lz_s hr
        refine x_iinc hC [(6, .int x20), (0, .ref (G.2.1 i0)), (3, .int a3), (4, .int a4), (5, .int a5)] dX6_isSameText_71 4 rfl (by rw [e21]; rfl) (Nat.le_of_ble_eq_true rfl) rfl ?_
        refine x_goto hC 40 dX6_isSameText_74 (by decide) ?_
        exact x_sub [1, 2, 3, 4, 0] rfl (ih x20 hr)
      · have hr := (ie_s hr).2 h19
        refine x_iconst hC (0 : Int32) dX6_isSameText_69 (by decide) ?_
        cases hr
        exact x_zret hC rfl (Or.inl rfl) dX6_isSameText_70
set_option maxHeartbeats 4000000 in
set_option maxRecDepth 100000 in
theorem c_X6_isSameText (l : Launch) (G : GG) (M : Mm) {i0 : Nat} (hi0 : (kd i0).1 = 8) (a1 : Int32) (a2 : Int32) {r : Int32} (hr : f_X6_isSameText i0 a1 a2 M = some r) : Mo true l yX6_isSameText (WS yX6_isSameText cX6_isSameText 7 (some .boolean)) (RM 1 0 0 21) 0 0 [.ref (G.2.1 i0), .int a1, .int a2] G M (some (.int r)) M := by
  refine Mo.of (by decide +kernel) (Nat.le_of_ble_eq_true rfl) ?_
  intro p e s m args below meth c hC
  have hC : CX p s m args meth c cX6_isSameText 7 RX6 (some .boolean) G := hC
  rw [f_X6_isSameText] at hr
  show XJ p l e (RM 1 0 0 21) s m args below meth c G 7 _ 0 0 M 0 [(0, .ref (G.2.1 i0)), (1, .int a1), (2, .int a2)] []
  refine x_aload_n hC dX6_isSameText_0 rfl 0 rfl ?_
  refine x_iload_n hC dX6_isSameText_1 rfl 1 rfl ?_
  obtain ⟨x1, q2, hr⟩ := bd1_s hr
  refine x_callV (ci := 8) (q := (RX6, TX6, 5)) (As := [.int a1]) hC (c_X6_startOf l G M hi0 a1 q2) kc_yX6_startOf km_X6_82 ki_yX6_startOf kv_yX6_startOf kn_RX6 ky_yX6_startOf rfl ⟨rfl, rfl⟩ ⟨(Nat.le_of_ble_eq_true rfl), (Nat.le_of_ble_eq_true rfl)⟩ hi0 (by decide) rfl rfl (Nat.le_of_ble_eq_true rfl) ⟨(Nat.le_of_ble_eq_true rfl), (Nat.le_of_ble_eq_true rfl)⟩ dX6_isSameText_2 (fun b3 => ?_)
  refine x_istore_n hC [(3, .int x1), (0, .ref (G.2.1 i0)), (1, .int a1), (2, .int a2)] dX6_isSameText_5 rfl (Nat.le_of_ble_eq_true rfl) rfl ?_
  refine x_aload_n hC dX6_isSameText_6 rfl 1 rfl ?_
  refine x_iload_n hC dX6_isSameText_7 rfl 3 rfl ?_
  obtain ⟨x4, q5, hr⟩ := bd1_s hr
  refine x_callV (ci := 8) (q := (RX6, TX6, 5)) (As := [.int a2]) hC (c_X6_startOf l G M hi0 a2 q5) kc_yX6_startOf km_X6_82 ki_yX6_startOf kv_yX6_startOf kn_RX6 ky_yX6_startOf rfl ⟨rfl, rfl⟩ ⟨(Nat.le_of_ble_eq_true rfl), (Nat.le_of_ble_eq_true rfl)⟩ hi0 (by decide) rfl rfl (Nat.le_of_ble_eq_true rfl) ⟨(Nat.le_of_ble_eq_true rfl), (Nat.le_of_ble_eq_true rfl)⟩ dX6_isSameText_8 (fun b6 => ?_)
  refine x_istore hC [(4, .int x4), (3, .int x1), (0, .ref (G.2.1 i0)), (1, .int a1), (2, .int a2)] dX6_isSameText_11  (Nat.le_of_ble_eq_true rfl) rfl ?_
  refine x_aload_n hC dX6_isSameText_13 rfl 2 rfl ?_
  refine x_iload_n hC dX6_isSameText_14 rfl 3 rfl ?_
  obtain ⟨x7, q8, hr⟩ := bd1_s hr
  refine x_callV (ci := 8) (q := (RX6, TX6, 5)) (As := [.int a1]) hC (c_X6_endOf l G M hi0 a1 q8) kc_yX6_endOf km_X6_79 ki_yX6_endOf kv_yX6_endOf kn_RX6 ky_yX6_endOf rfl ⟨rfl, rfl⟩ ⟨(Nat.le_of_ble_eq_true rfl), (Nat.le_of_ble_eq_true rfl)⟩ hi0 (by decide) rfl rfl (Nat.le_of_ble_eq_true rfl) ⟨(Nat.le_of_ble_eq_true rfl), (Nat.le_of_ble_eq_true rfl)⟩ dX6_isSameText_15 (fun b9 => ?_)
  refine x_iload_n hC dX6_isSameText_18 rfl 1 rfl ?_
  refine x_isub hC dX6_isSameText_19 ?_
  refine x_istore hC [(5, .int (x7 - x1)), (4, .int x4), (3, .int x1), (0, .ref (G.2.1 i0)), (1, .int a1), (2, .int a2)] dX6_isSameText_20  (Nat.le_of_ble_eq_true rfl) rfl ?_
  refine x_aload_n hC dX6_isSameText_22 rfl 3 rfl ?_
  refine x_iload_n hC dX6_isSameText_23 rfl 5 rfl ?_
  obtain ⟨x10, q11, hr⟩ := bd1_s hr
  refine x_callV (ci := 8) (q := (RX6, TX6, 5)) (As := [.int a2]) hC (c_X6_endOf l G M hi0 a2 q11) kc_yX6_endOf km_X6_79 ki_yX6_endOf kv_yX6_endOf kn_RX6 ky_yX6_endOf rfl ⟨rfl, rfl⟩ ⟨(Nat.le_of_ble_eq_true rfl), (Nat.le_of_ble_eq_true rfl)⟩ hi0 (by decide) rfl rfl (Nat.le_of_ble_eq_true rfl) ⟨(Nat.le_of_ble_eq_true rfl), (Nat.le_of_ble_eq_true rfl)⟩ dX6_isSameText_24 (fun b12 => ?_)
  refine x_iload hC dX6_isSameText_27 1 rfl ?_
  refine x_isub hC dX6_isSameText_29 ?_
  refine x_iload hC dX6_isSameText_30 0 rfl ?_
  refine x_icmp_eq hC 37 dX6_isSameText_32 (by decide) (fun h13 => ?_) (fun h13 => ?_)
  · have hr := (ie_s hr).1 h13
    refine x_iconst hC (0 : Int32) dX6_isSameText_37 (by decide) ?_
    refine x_istore hC [(6, .int (0 : Int32)), (5, .int (x7 - x1)), (4, .int x4), (3, .int x1), (0, .ref (G.2.1 i0)), (1, .int a1), (2, .int a2)] dX6_isSameText_38  (Nat.le_of_ble_eq_true rfl) rfl ?_
    exact x_sub [4, 3, 2, 1, 0] rfl (l_X6_isSameText_L40 hC hi0 x1 x4 (x7 - x1) M FU (0 : Int32) hr)
  · have hr := (ie_s hr).2 h13
    refine x_iconst hC (0 : Int32) dX6_isSameText_35 (by decide) ?_
    cases hr
    exact x_zret hC rfl (Or.inl rfl) dX6_isSameText_36

theorem dX6_numberAt_0 : decode cX6_numberAt 0 = .ok (.iconst 0, 1) := by decide +kernel
theorem dX6_numberAt_1 : decode cX6_numberAt 1 = .ok (.istore_n 2, 1) := by decide +kernel
theorem dX6_numberAt_2 : decode cX6_numberAt 2 = .ok (.aload_n 0, 1) := by decide +kernel
theorem dX6_numberAt_3 : decode cX6_numberAt 3 = .ok (.iload_n 1, 1) := by decide +kernel
theorem dX6_numberAt_4 : decode cX6_numberAt 4 = .ok (.invokevirtual 79, 3) := by decide +kernel
theorem dX6_numberAt_7 : decode cX6_numberAt 7 = .ok (.istore_n 3, 1) := by decide +kernel
theorem dX6_numberAt_8 : decode cX6_numberAt 8 = .ok (.aload_n 0, 1) := by decide +kernel
theorem dX6_numberAt_9 : decode cX6_numberAt 9 = .ok (.iload_n 1, 1) := by decide +kernel
theorem dX6_numberAt_10 : decode cX6_numberAt 10 = .ok (.invokevirtual 82, 3) := by decide +kernel
theorem dX6_numberAt_13 : decode cX6_numberAt 13 = .ok (.istore 4, 2) := by decide +kernel
theorem dX6_numberAt_15 : decode cX6_numberAt 15 = .ok (.iload 4, 2) := by decide +kernel
theorem dX6_numberAt_17 : decode cX6_numberAt 17 = .ok (.iload_n 3, 1) := by decide +kernel
theorem dX6_numberAt_18 : decode cX6_numberAt 18 = .ok (.if_icmp .ge 25, 3) := by decide +kernel
theorem dX6_numberAt_21 : decode cX6_numberAt 21 = .ok (.iload_n 2, 1) := by decide +kernel
theorem dX6_numberAt_22 : decode cX6_numberAt 22 = .ok (.bipush 10, 2) := by decide +kernel
theorem dX6_numberAt_24 : decode cX6_numberAt 24 = .ok (.imul, 1) := by decide +kernel
theorem dX6_numberAt_25 : decode cX6_numberAt 25 = .ok (.aload_n 0, 1) := by decide +kernel
theorem dX6_numberAt_26 : decode cX6_numberAt 26 = .ok (.getfield 24, 3) := by decide +kernel
theorem dX6_numberAt_29 : decode cX6_numberAt 29 = .ok (.iload 4, 2) := by decide +kernel
theorem dX6_numberAt_31 : decode cX6_numberAt 31 = .ok (.baload, 1) := by decide +kernel
theorem dX6_numberAt_32 : decode cX6_numberAt 32 = .ok (.bipush 48, 2) := by decide +kernel
theorem dX6_numberAt_34 : decode cX6_numberAt 34 = .ok (.isub, 1) := by decide +kernel
theorem dX6_numberAt_35 : decode cX6_numberAt 35 = .ok (.iadd, 1) := by decide +kernel
theorem dX6_numberAt_36 : decode cX6_numberAt 36 = .ok (.istore_n 2, 1) := by decide +kernel
theorem dX6_numberAt_37 : decode cX6_numberAt 37 = .ok (.iinc 4 1, 3) := by decide +kernel
theorem dX6_numberAt_40 : decode cX6_numberAt 40 = .ok (.goto (-25), 3) := by decide +kernel
theorem dX6_numberAt_43 : decode cX6_numberAt 43 = .ok (.iload_n 2, 1) := by decide +kernel
theorem dX6_numberAt_44 : decode cX6_numberAt 44 = .ok (.ireturn, 1) := by decide +kernel
def f_X6_numberAt_L15 (i0 : Nat) (a3 : Int32) (M : Mm) : Nat → Int32 → Int32 → Option (Int32)
  | 0, _, _ => none
  | n + 1, v2, v4 =>
    if (a3 ≤ v4) then (some (v2)) else (if okr 21 (M i0 3) then (if 0 ≤ v4.toInt ∧ v4.toInt < (((kd (rid (M i0 3))).2 : Nat) : Int) then (lz ((v2 * (10 : Int32)) + ((M (rid (M i0 3)) (ix v4)) - (48 : Int32))) fun x10 => lz (v4 + (1 : Int32)) fun x12 => f_X6_numberAt_L15 i0 a3 M n x10 x12) else none) else none)
def f_X6_numberAt (i0 : Nat) (a1 : Int32) (M : Mm) : Option Int32 :=
  bd1 (f_X6_endOf i0 a1 M) fun x1 => bd1 (f_X6_startOf i0 a1 M) fun x4 => bd1 (f_X6_numberAt_L15 i0 x1 M FU (0 : Int32) x4) fun x15 => some x15
set_option maxHeartbeats 4000000 in
set_option maxRecDepth 100000 in
theorem l_X6_numberAt_L15 {p : Program} {e : Env} {s : State} {m : MethodId} {args : Array Value} {below : List Frame} {meth : Method} {c : Code} {l : Launch} {G : GG} {Q : State → Prop} (hC : CX p s m args meth c cX6_numberAt 5 RX6 (some .int) G) {i0 : Nat} (hi0 : (kd i0).1 = 8) (a3 : Int32) (M : Mm) : ∀ (n : Nat) (v2 : Int32) (v4 : Int32) {o2 : Int32} (hr : f_X6_numberAt_L15 i0 a3 M n v2 v4 = some (o2)) (K : XJ p l e (RM 1 0 0 21) s m args below meth c G 5 Q 0 0 M 43 [(2, .int o2)] []), XJ p l e (RM 1 0 0 21) s m args below meth c G 5 Q 0 0 M 15 [(0, .ref (G.2.1 i0)), (2, .int v2), (3, .int a3), (4, .int v4)] [] := by
  intro n
  induction n with
  | zero => intro v2 v4 o2 hr K; rw [f_X6_numberAt_L15] at hr; cases hr
  | succ n ih =>
    intro v2 v4 o2 hr K
    rw [f_X6_numberAt_L15] at hr
    refine x_iload hC dX6_numberAt_15 3 rfl ?_
    refine x_iload_n hC dX6_numberAt_17 rfl 2 rfl ?_
    refine x_icmp_ge hC 43 dX6_numberAt_18 (by decide) (fun h7 => ?_) (fun h7 => ?_)
    · have hr := (ie_s hr).1 h7
      cases hr
      exact x_sub [1] rfl K
    · have hr := (ie_s hr).2 h7
      refine x_iload_n hC dX6_numberAt_21 rfl 1 rfl ?_
      refine x_bipush hC (10 : Int32) dX6_numberAt_22 (by decide) ?_
      refine x_imul hC dX6_numberAt_24 ?_
      refine x_aload_n hC dX6_numberAt_25 rfl 0 rfl ?_
      obtain ⟨h8, hr⟩ := it_s hr
      refine gf_X6_24 hC hi0 h8 dX6_numberAt_26 ?_
      refine x_iload hC dX6_numberAt_29 3 rfl ?_
      obtain ⟨h9, hr⟩ := it_s hr
      refine x_bald hC (kd_eta h8.2) h9 dX6_numberAt_31 ?_
      refine x_bipush hC (48 : Int32) dX6_numberAt_32 (by decide) ?_
      refine x_isub hC dX6_numberAt_34 ?_
      refine x_iadd hC dX6_numberAt_35 ?_
      obtain ⟨x10, e11, hr⟩ := lz_s hr
      refine x_topi e11 ?_
      refine x_istore_n hC [(2, .int x10), (0, .ref (G.2.1 i0)), (3, .int a3), (4, .int v4)] dX6_numberAt_36 rfl (Nat.le_of_ble_eq_true rfl) rfl ?_
      obtain ⟨x12, e13, hr⟩ := lz_s hr
      refine x_iinc hC [(4, .int x12), (2, .int x10), (0, .ref (G.2.1 i0)), (3, .int a3)] dX6_numberAt_37 3 rfl (by rw [e13]; rfl) (Nat.le_of_ble_eq_true rfl) rfl ?_
      refine x_goto hC 15 dX6_numberAt_40 (by decide) ?_
      exact x_sub [2, 1, 3, 0] rfl (ih x10 x12 hr K)
set_option maxHeartbeats 4000000 in
set_option maxRecDepth 100000 in
theorem c_X6_numberAt (l : Launch) (G : GG) (M : Mm) {i0 : Nat} (hi0 : (kd i0).1 = 8) (a1 : Int32) {r : Int32} (hr : f_X6_numberAt i0 a1 M = some r) : Mo false l yX6_numberAt (WS yX6_numberAt cX6_numberAt 5 (some .int)) (RM 1 0 0 21) 0 0 [.ref (G.2.1 i0), .int a1] G M (some (.int r)) M := by
  refine Mo.of (by decide +kernel) (Nat.le_of_ble_eq_true rfl) ?_
  intro p e s m args below meth c hC
  have hC : CX p s m args meth c cX6_numberAt 5 RX6 (some .int) G := hC
  rw [f_X6_numberAt] at hr
  show XJ p l e (RM 1 0 0 21) s m args below meth c G 5 _ 0 0 M 0 [(0, .ref (G.2.1 i0)), (1, .int a1)] []
  refine x_iconst hC (0 : Int32) dX6_numberAt_0 (by decide) ?_
  refine x_istore_n hC [(2, .int (0 : Int32)), (0, .ref (G.2.1 i0)), (1, .int a1)] dX6_numberAt_1 rfl (Nat.le_of_ble_eq_true rfl) rfl ?_
  refine x_aload_n hC dX6_numberAt_2 rfl 1 rfl ?_
  refine x_iload_n hC dX6_numberAt_3 rfl 2 rfl ?_
  obtain ⟨x1, q2, hr⟩ := bd1_s hr
  refine x_callV (ci := 8) (q := (RX6, TX6, 5)) (As := [.int a1]) hC (c_X6_endOf l G M hi0 a1 q2) kc_yX6_endOf km_X6_79 ki_yX6_endOf kv_yX6_endOf kn_RX6 ky_yX6_endOf rfl ⟨rfl, rfl⟩ ⟨(Nat.le_of_ble_eq_true rfl), (Nat.le_of_ble_eq_true rfl)⟩ hi0 (by decide) rfl rfl (Nat.le_of_ble_eq_true rfl) ⟨(Nat.le_of_ble_eq_true rfl), (Nat.le_of_ble_eq_true rfl)⟩ dX6_numberAt_4 (fun b3 => ?_)
  refine x_istore_n hC [(3, .int x1), (2, .int (0 : Int32)), (0, .ref (G.2.1 i0)), (1, .int a1)] dX6_numberAt_7 rfl (Nat.le_of_ble_eq_true rfl) rfl ?_
  refine x_aload_n hC dX6_numberAt_8 rfl 2 rfl ?_
  refine x_iload_n hC dX6_numberAt_9 rfl 3 rfl ?_
  obtain ⟨x4, q5, hr⟩ := bd1_s hr
  refine x_callV (ci := 8) (q := (RX6, TX6, 5)) (As := [.int a1]) hC (c_X6_startOf l G M hi0 a1 q5) kc_yX6_startOf km_X6_82 ki_yX6_startOf kv_yX6_startOf kn_RX6 ky_yX6_startOf rfl ⟨rfl, rfl⟩ ⟨(Nat.le_of_ble_eq_true rfl), (Nat.le_of_ble_eq_true rfl)⟩ hi0 (by decide) rfl rfl (Nat.le_of_ble_eq_true rfl) ⟨(Nat.le_of_ble_eq_true rfl), (Nat.le_of_ble_eq_true rfl)⟩ dX6_numberAt_10 (fun b6 => ?_)
  refine x_istore hC [(4, .int x4), (3, .int x1), (2, .int (0 : Int32)), (0, .ref (G.2.1 i0)), (1, .int a1)] dX6_numberAt_13  (Nat.le_of_ble_eq_true rfl) rfl ?_
  obtain ⟨x15, q14, hr⟩ := bd1_s hr
  refine x_sub [3, 2, 1, 0] rfl (l_X6_numberAt_L15 hC hi0 x1 M FU (0 : Int32) x4 q14 ?_)
  refine x_iload_n hC dX6_numberAt_43 rfl 0 rfl ?_
  cases hr
  exact x_iret hC rfl dX6_numberAt_44
