def OK_P4 (l : Launch) (G : GG) (rec : Nat → Nat → Int32 → Mm → Option (Int32 × Mm)) (rm : Room) : Prop :=
  (∀ {i0 : Nat} (hi0 : (kd i0).1 = 7) (a : Int32) {M : Mm} {r : Int32} {M9 : Mm}, rec 0 i0 a M = some (r, M9) → Mo true l yX4_block (WS yX4_block cX4_block 3 (some .boolean)) rm 0 0 [.ref (G.2.1 i0), .int a] G M (some (.int r)) M9) ∧
  (∀ {i0 : Nat} (hi0 : (kd i0).1 = 7) (a : Int32) {M : Mm} {r : Int32} {M9 : Mm}, rec 1 i0 a M = some (r, M9) → Mo true l yX4_sentence (WS yX4_sentence cX4_sentence 3 (some .boolean)) rm 0 0 [.ref (G.2.1 i0), .int a] G M (some (.int r)) M9) ∧
  (∀ {i0 : Nat} (hi0 : (kd i0).1 = 7) (a : Int32) {M : Mm} {r : Int32} {M9 : Mm}, rec 2 i0 a M = some (r, M9) → Mo true l yX4_choice (WS yX4_choice cX4_choice 4 (some .boolean)) rm 0 0 [.ref (G.2.1 i0), .int a] G M (some (.int r)) M9) ∧
  (∀ {i0 : Nat} (hi0 : (kd i0).1 = 7) (a : Int32) {M : Mm} {r : Int32} {M9 : Mm}, rec 3 i0 a M = some (r, M9) → Mo true l yX4_countedLoop (WS yX4_countedLoop cX4_countedLoop 6 (some .boolean)) rm 0 0 [.ref (G.2.1 i0), .int a] G M (some (.int r)) M9) ∧
  (∀ {i0 : Nat} (hi0 : (kd i0).1 = 7) (a : Int32) {M : Mm} {r : Int32} {M9 : Mm}, rec 4 i0 a M = some (r, M9) → Mo true l yX4_testedLoop (WS yX4_testedLoop cX4_testedLoop 4 (some .boolean)) rm 0 0 [.ref (G.2.1 i0), .int a] G M (some (.int r)) M9) ∧
  (∀ {i0 : Nat} (hi0 : (kd i0).1 = 7) (a : Int32) {M : Mm} {r : Int32} {M9 : Mm}, rec 5 i0 a M = some (r, M9) → Mo true l yX4_test (WS yX4_test cX4_test 4 (some .boolean)) rm 0 0 [.ref (G.2.1 i0), .int a] G M (some (.int r)) M9) ∧
  (∀ {i0 : Nat} (hi0 : (kd i0).1 = 7) (a : Int32) {M : Mm} {r : Int32} {M9 : Mm}, rec 6 i0 a M = some (r, M9) → Mo true l yX4_both (WS yX4_both cX4_both 4 (some .boolean)) rm 0 0 [.ref (G.2.1 i0), .int a] G M (some (.int r)) M9) ∧
  (∀ {i0 : Nat} (hi0 : (kd i0).1 = 7) (a : Int32) {M : Mm} {r : Int32} {M9 : Mm}, rec 7 i0 a M = some (r, M9) → Mo true l yX4_single (WS yX4_single cX4_single 3 (some .boolean)) rm 0 0 [.ref (G.2.1 i0), .int a] G M (some (.int r)) M9) ∧
  (∀ {i0 : Nat} (hi0 : (kd i0).1 = 7) (a : Int32) {M : Mm} {r : Int32} {M9 : Mm}, rec 8 i0 a M = some (r, M9) → Mo true l yX4_sum (WS yX4_sum cX4_sum 5 (some .boolean)) rm 0 0 [.ref (G.2.1 i0), .int a] G M (some (.int r)) M9) ∧
  (∀ {i0 : Nat} (hi0 : (kd i0).1 = 7) (a : Int32) {M : Mm} {r : Int32} {M9 : Mm}, rec 9 i0 a M = some (r, M9) → Mo true l yX4_product (WS yX4_product cX4_product 5 (some .boolean)) rm 0 0 [.ref (G.2.1 i0), .int a] G M (some (.int r)) M9) ∧
  (∀ {i0 : Nat} (hi0 : (kd i0).1 = 7) (a : Int32) {M : Mm} {r : Int32} {M9 : Mm}, rec 10 i0 a M = some (r, M9) → Mo true l yX4_value (WS yX4_value cX4_value 3 (some .boolean)) rm 0 0 [.ref (G.2.1 i0), .int a] G M (some (.int r)) M9)
theorem dX4_block_0 : decode cX4_block 0 = .ok (.aload_n 0, 1) := by decide +kernel
theorem dX4_block_1 : decode cX4_block 1 = .ok (.getstatic 120, 3) := by decide +kernel
theorem dX4_block_4 : decode cX4_block 4 = .ok (.iload_n 1, 1) := by decide +kernel
theorem dX4_block_5 : decode cX4_block 5 = .ok (.invokevirtual 123, 3) := by decide +kernel
theorem dX4_block_8 : decode cX4_block 8 = .ok (.ifCond .ne 5, 3) := by decide +kernel
theorem dX4_block_11 : decode cX4_block 11 = .ok (.iconst 0, 1) := by decide +kernel
theorem dX4_block_12 : decode cX4_block 12 = .ok (.ireturn, 1) := by decide +kernel
theorem dX4_block_13 : decode cX4_block 13 = .ok (.iconst 0, 1) := by decide +kernel
theorem dX4_block_14 : decode cX4_block 14 = .ok (.istore_n 2, 1) := by decide +kernel
theorem dX4_block_15 : decode cX4_block 15 = .ok (.iload_n 2, 1) := by decide +kernel
theorem dX4_block_16 : decode cX4_block 16 = .ok (.sipush 400, 3) := by decide +kernel
theorem dX4_block_19 : decode cX4_block 19 = .ok (.if_icmp .ge 31, 3) := by decide +kernel
theorem dX4_block_22 : decode cX4_block 22 = .ok (.aload_n 0, 1) := by decide +kernel
theorem dX4_block_23 : decode cX4_block 23 = .ok (.invokevirtual 49, 3) := by decide +kernel
theorem dX4_block_26 : decode cX4_block 26 = .ok (.getstatic 127, 3) := by decide +kernel
theorem dX4_block_29 : decode cX4_block 29 = .ok (.if_acmp .eq 21, 3) := by decide +kernel
theorem dX4_block_32 : decode cX4_block 32 = .ok (.aload_n 0, 1) := by decide +kernel
theorem dX4_block_33 : decode cX4_block 33 = .ok (.iload_n 1, 1) := by decide +kernel
theorem dX4_block_34 : decode cX4_block 34 = .ok (.iconst 1, 1) := by decide +kernel
theorem dX4_block_35 : decode cX4_block 35 = .ok (.iadd, 1) := by decide +kernel
theorem dX4_block_36 : decode cX4_block 36 = .ok (.invokevirtual 130, 3) := by decide +kernel
theorem dX4_block_39 : decode cX4_block 39 = .ok (.ifCond .ne 5, 3) := by decide +kernel
theorem dX4_block_42 : decode cX4_block 42 = .ok (.iconst 0, 1) := by decide +kernel
theorem dX4_block_43 : decode cX4_block 43 = .ok (.ireturn, 1) := by decide +kernel
theorem dX4_block_44 : decode cX4_block 44 = .ok (.iinc 2 1, 3) := by decide +kernel
theorem dX4_block_47 : decode cX4_block 47 = .ok (.goto (-32), 3) := by decide +kernel
theorem dX4_block_50 : decode cX4_block 50 = .ok (.aload_n 0, 1) := by decide +kernel
theorem dX4_block_51 : decode cX4_block 51 = .ok (.getstatic 127, 3) := by decide +kernel
theorem dX4_block_54 : decode cX4_block 54 = .ok (.invokevirtual 80, 3) := by decide +kernel
theorem dX4_block_57 : decode cX4_block 57 = .ok (.ireturn, 1) := by decide +kernel
def f_X4_block_L15 (rec : Nat → Nat → Int32 → Mm → Option (Int32 × Mm)) (i0 : Nat) (a1 : Int32) : Nat → Int32 → Mm → Option (Int32 × Mm)
  | 0, _, _ => none
  | n + 1, v2, M =>
    if ((400 : Int32) ≤ v2) then (bd2 (f_X4_expect i0 (1032 : Int32) M) fun x7 M8 => some (x7, M8)) else (bd1 (f_X4_kind i0 M) fun x11 => if tkc x11 then (if (x11 = (1032 : Int32)) then (bd2 (f_X4_expect i0 (1032 : Int32) M) fun x16 M17 => some (x16, M17)) else (bd2 (rec 1 i0 (a1 + (1 : Int32)) M) fun x20 M21 => if (x20 = 0) then (some ((0 : Int32), M21)) else (lz (v2 + (1 : Int32)) fun x25 => f_X4_block_L15 rec i0 a1 n x25 M21))) else none)
def f_X4_block (rec : Nat → Nat → Int32 → Mm → Option (Int32 × Mm)) (i0 : Nat) (a1 : Int32) (M : Mm) : Option (Int32 × Mm) :=
  bd2 (f_X4_enter i0 (1031 : Int32) a1 M) fun x1 M2 => if (x1 = 0) then (some ((0 : Int32), M2)) else ((f_X4_block_L15 rec i0 a1 FU (0 : Int32) M2))
set_option maxHeartbeats 4000000 in
set_option maxRecDepth 100000 in
theorem l_X4_block_L15 {p : Program} {e : Env} {s : State} {m : MethodId} {args : Array Value} {below : List Frame} {meth : Method} {c : Code} {l : Launch} {G : GG} (hC : CX p s m args meth c cX4_block 3 RX4 (some .boolean) G) (rec : Nat → Nat → Int32 → Mm → Option (Int32 × Mm)) {nr : Nat} (hrec : OK_P4 l G rec (RMn nr)) {i0 : Nat} (hi0 : (kd i0).1 = 7) (a1 : Int32) : ∀ (n : Nat) (v2 : Int32) (M : Mm) {r : Int32} {M9 : Mm} (hr : f_X4_block_L15 rec i0 a1 n v2 M = some (r, M9)), XJ p l e (RMn (nr + 1)) s m args below meth c G 3 (MQ below (QO G M9 true (some (.int r)) s.heap.size) args s 0 0 (AF G s.heap.size)) 0 0 M 15 [(0, .ref (G.2.1 i0)), (1, .int a1), (2, .int v2)] [] := by
  intro n
  induction n with
  | zero => intro v2 M r M9 hr; rw [f_X4_block_L15] at hr; cases hr
  | succ n ih =>
    intro v2 M r M9 hr
    rw [f_X4_block_L15] at hr
    refine x_iload_n hC dX4_block_15 rfl 2 rfl ?_
    refine x_sipush hC (400 : Int32) dX4_block_16 (by decide) ?_
    refine x_icmp_ge hC 50 dX4_block_19 (by decide) (fun h6 => ?_) (fun h6 => ?_)
    · have hr := (ie_s hr).1 h6
      refine x_aload_n hC dX4_block_50 rfl 0 rfl ?_
      refine x_tgets hC (a := (1032 : Int32)) 31 (by decide) rfl (by decide) kf_X4_127 dX4_block_51 ?_
      obtain ⟨x7, M8, q9, hr⟩ := bd2_s hr
      refine x_callV (ci := 7) (q := (RX4, TX4, 7)) (As := [.ref (G.2.1 (rid (1032 : Int32)))]) hC (c_X4_expect l G M hi0 (1032 : Int32) q9) kc_yX4_expect km_X4_80 ki_yX4_expect kv_yX4_expect kn_RX4 ky_yX4_expect rfl ⟨rfl, rfl⟩ ⟨rn_f (Nat.le_of_ble_eq_true rfl), rn_l (Nat.le_of_ble_eq_true rfl)⟩ hi0 (by decide) rfl rfl (Nat.le_of_ble_eq_true rfl) ⟨(Nat.le_of_ble_eq_true rfl), (Nat.le_of_ble_eq_true rfl)⟩ dX4_block_54 (fun b10 => ?_)
      cases hr
      exact x_zret hC rfl (BV.out b10) dX4_block_57
    · have hr := (ie_s hr).2 h6
      refine x_aload_n hC dX4_block_22 rfl 0 rfl ?_
      obtain ⟨x11, q12, hr⟩ := bd1_s hr
      refine x_callV (ci := 7) (q := (RX4, TX4, 7)) (As := []) hC (c_X4_kind l G M hi0 q12) kc_yX4_kind km_X4_49 ki_yX4_kind kv_yX4_kind kn_RX4 ky_yX4_kind rfl ⟨rfl, rfl⟩ ⟨rn_f (Nat.le_of_ble_eq_true rfl), rn_l (Nat.le_of_ble_eq_true rfl)⟩ hi0 (by decide) rfl rfl (Nat.le_of_ble_eq_true rfl) ⟨(Nat.le_of_ble_eq_true rfl), (Nat.le_of_ble_eq_true rfl)⟩ dX4_block_23 (fun b13 => ?_)
      refine x_tgets hC (a := (1032 : Int32)) 31 (by decide) rfl (by decide) kf_X4_127 dX4_block_26 ?_
      obtain ⟨h14, hr⟩ := it_s hr
      refine x_acmp_eq hC 50 ⟨h14, (by decide)⟩ dX4_block_29 (by decide) (fun h15 => ?_) (fun h15 => ?_)
      · have hr := (ie_s hr).1 h15
        refine x_aload_n hC dX4_block_50 rfl 0 rfl ?_
        refine x_tgets hC (a := (1032 : Int32)) 31 (by decide) rfl (by decide) kf_X4_127 dX4_block_51 ?_
        obtain ⟨x16, M17, q18, hr⟩ := bd2_s hr
        refine x_callV (ci := 7) (q := (RX4, TX4, 7)) (As := [.ref (G.2.1 (rid (1032 : Int32)))]) hC (c_X4_expect l G M hi0 (1032 : Int32) q18) kc_yX4_expect km_X4_80 ki_yX4_expect kv_yX4_expect kn_RX4 ky_yX4_expect rfl ⟨rfl, rfl⟩ ⟨rn_f (Nat.le_of_ble_eq_true rfl), rn_l (Nat.le_of_ble_eq_true rfl)⟩ hi0 (by decide) rfl rfl (Nat.le_of_ble_eq_true rfl) ⟨(Nat.le_of_ble_eq_true rfl), (Nat.le_of_ble_eq_true rfl)⟩ dX4_block_54 (fun b19 => ?_)
        cases hr
        exact x_zret hC rfl (BV.out b19) dX4_block_57
      · have hr := (ie_s hr).2 h15
        refine x_aload_n hC dX4_block_32 rfl 0 rfl ?_
        refine x_iload_n hC dX4_block_33 rfl 1 rfl ?_
        refine x_iconst hC (1 : Int32) dX4_block_34 (by decide) ?_
        refine x_iadd hC dX4_block_35 ?_
        obtain ⟨x20, M21, q22, hr⟩ := bd2_s hr
        refine x_callV (ci := 7) (q := (RX4, TX4, 7)) (As := [.int (a1 + (1 : Int32))]) hC (hrec.2.1 hi0 (a1 + (1 : Int32)) q22) kc_yX4_sentence km_X4_130 ki_yX4_sentence kv_yX4_sentence kn_RX4 ky_yX4_sentence rfl ⟨rfl, rfl⟩ ⟨rn_gf, rn_gl (Nat.le_of_ble_eq_true rfl)⟩ hi0 (by decide) rfl rfl (Nat.le_of_ble_eq_true rfl) ⟨(Nat.le_of_ble_eq_true rfl), (Nat.le_of_ble_eq_true rfl)⟩ dX4_block_36 (fun b23 => ?_)
        refine x_if_ne hC 44 dX4_block_39 (by decide) (fun h24 => ?_) (fun h24 => ?_)
        · have hr := (ie_s hr).2 h24
          obtain ⟨x25, e26, hr⟩ := lz_s hr
          refine x_iinc hC [(2, .int x25), (0, .ref (G.2.1 i0)), (1, .int a1)] dX4_block_44 2 rfl (by rw [e26]; rfl) (Nat.le_of_ble_eq_true rfl) rfl ?_
          refine x_goto hC 15 dX4_block_47 (by decide) ?_
          exact x_sub [1, 2, 0] rfl (ih x25 M21 hr)
        · have hr := (ie_s hr).1 h24
          refine x_iconst hC (0 : Int32) dX4_block_42 (by decide) ?_
          cases hr
          exact x_zret hC rfl (Or.inl rfl) dX4_block_43
set_option maxHeartbeats 4000000 in
set_option maxRecDepth 100000 in
theorem c_X4_block (l : Launch) (G : GG) (M : Mm) (rec : Nat → Nat → Int32 → Mm → Option (Int32 × Mm)) {nr : Nat} (hrec : OK_P4 l G rec (RMn nr)) {i0 : Nat} (hi0 : (kd i0).1 = 7) (a1 : Int32) {r : Int32} {M9 : Mm} (hr : f_X4_block rec i0 a1 M = some (r, M9)) : Mo true l yX4_block (WS yX4_block cX4_block 3 (some .boolean)) (RMn (nr + 1)) 0 0 [.ref (G.2.1 i0), .int a1] G M (some (.int r)) M9 := by
  refine Mo.of (by decide +kernel) (Nat.le_of_ble_eq_true rfl) ?_
  intro p e s m args below meth c hC
  have hC : CX p s m args meth c cX4_block 3 RX4 (some .boolean) G := hC
  rw [f_X4_block] at hr
  show XJ p l e (RMn (nr + 1)) s m args below meth c G 3 _ 0 0 M 0 [(0, .ref (G.2.1 i0)), (1, .int a1)] []
  refine x_aload_n hC dX4_block_0 rfl 0 rfl ?_
  refine x_tgets hC (a := (1031 : Int32)) 30 (by decide) rfl (by decide) kf_X4_120 dX4_block_1 ?_
  refine x_iload_n hC dX4_block_4 rfl 1 rfl ?_
  obtain ⟨x1, M2, q3, hr⟩ := bd2_s hr
  refine x_callV (ci := 7) (q := (RX4, TX4, 7)) (As := [.ref (G.2.1 (rid (1031 : Int32))), .int a1]) hC (c_X4_enter l G M hi0 (1031 : Int32) a1 q3) kc_yX4_enter km_X4_123 ki_yX4_enter kv_yX4_enter kn_RX4 ky_yX4_enter rfl ⟨rfl, rfl⟩ ⟨rn_f (Nat.le_of_ble_eq_true rfl), rn_l (Nat.le_of_ble_eq_true rfl)⟩ hi0 (by decide) rfl rfl (Nat.le_of_ble_eq_true rfl) ⟨(Nat.le_of_ble_eq_true rfl), (Nat.le_of_ble_eq_true rfl)⟩ dX4_block_5 (fun b4 => ?_)
  refine x_if_ne hC 13 dX4_block_8 (by decide) (fun h5 => ?_) (fun h5 => ?_)
  · have hr := (ie_s hr).2 h5
    refine x_iconst hC (0 : Int32) dX4_block_13 (by decide) ?_
    refine x_istore_n hC [(2, .int (0 : Int32)), (0, .ref (G.2.1 i0)), (1, .int a1)] dX4_block_14 rfl (Nat.le_of_ble_eq_true rfl) rfl ?_
    exact x_sub [1, 2, 0] rfl (l_X4_block_L15 hC rec hrec hi0 a1 FU (0 : Int32) M2 hr)
  · have hr := (ie_s hr).1 h5
    refine x_iconst hC (0 : Int32) dX4_block_11 (by decide) ?_
    cases hr
    exact x_zret hC rfl (Or.inl rfl) dX4_block_12

theorem dX4_sentence_0 : decode cX4_sentence 0 = .ok (.aload_n 0, 1) := by decide +kernel
theorem dX4_sentence_1 : decode cX4_sentence 1 = .ok (.invokevirtual 49, 3) := by decide +kernel
theorem dX4_sentence_4 : decode cX4_sentence 4 = .ok (.astore_n 2, 1) := by decide +kernel
theorem dX4_sentence_5 : decode cX4_sentence 5 = .ok (.getstatic 133, 3) := by decide +kernel
theorem dX4_sentence_8 : decode cX4_sentence 8 = .ok (.aload_n 2, 1) := by decide +kernel
theorem dX4_sentence_9 : decode cX4_sentence 9 = .ok (.invokevirtual 138, 3) := by decide +kernel
theorem dX4_sentence_12 : decode cX4_sentence 12 = .ok (.iaload, 1) := by decide +kernel
theorem dX4_sentence_13 : decode cX4_sentence 13 = .ok (.tableswitch 253 1 9 #[51, 102, 135, 152, 185, 202, 235, 241, 247], 51) := by decide +kernel
theorem dX4_sentence_64 : decode cX4_sentence 64 = .ok (.aload_n 0, 1) := by decide +kernel
theorem dX4_sentence_65 : decode cX4_sentence 65 = .ok (.dup, 1) := by decide +kernel
theorem dX4_sentence_66 : decode cX4_sentence 66 = .ok (.getfield 43, 3) := by decide +kernel
theorem dX4_sentence_69 : decode cX4_sentence 69 = .ok (.iconst 1, 1) := by decide +kernel
theorem dX4_sentence_70 : decode cX4_sentence 70 = .ok (.iadd, 1) := by decide +kernel
theorem dX4_sentence_71 : decode cX4_sentence 71 = .ok (.putfield 43, 3) := by decide +kernel
theorem dX4_sentence_74 : decode cX4_sentence 74 = .ok (.aload_n 0, 1) := by decide +kernel
theorem dX4_sentence_75 : decode cX4_sentence 75 = .ok (.iload_n 1, 1) := by decide +kernel
theorem dX4_sentence_76 : decode cX4_sentence 76 = .ok (.invokevirtual 142, 3) := by decide +kernel
theorem dX4_sentence_79 : decode cX4_sentence 79 = .ok (.ifCond .eq 34, 3) := by decide +kernel
theorem dX4_sentence_82 : decode cX4_sentence 82 = .ok (.aload_n 0, 1) := by decide +kernel
theorem dX4_sentence_83 : decode cX4_sentence 83 = .ok (.getstatic 145, 3) := by decide +kernel
theorem dX4_sentence_86 : decode cX4_sentence 86 = .ok (.invokevirtual 80, 3) := by decide +kernel
theorem dX4_sentence_89 : decode cX4_sentence 89 = .ok (.ifCond .eq 24, 3) := by decide +kernel
theorem dX4_sentence_92 : decode cX4_sentence 92 = .ok (.aload_n 0, 1) := by decide +kernel
theorem dX4_sentence_93 : decode cX4_sentence 93 = .ok (.iload_n 1, 1) := by decide +kernel
theorem dX4_sentence_94 : decode cX4_sentence 94 = .ok (.invokevirtual 142, 3) := by decide +kernel
theorem dX4_sentence_97 : decode cX4_sentence 97 = .ok (.ifCond .eq 16, 3) := by decide +kernel
theorem dX4_sentence_100 : decode cX4_sentence 100 = .ok (.aload_n 0, 1) := by decide +kernel
theorem dX4_sentence_101 : decode cX4_sentence 101 = .ok (.bipush 29, 2) := by decide +kernel
theorem dX4_sentence_103 : decode cX4_sentence 103 = .ok (.invokevirtual 148, 3) := by decide +kernel
theorem dX4_sentence_106 : decode cX4_sentence 106 = .ok (.ifCond .eq 7, 3) := by decide +kernel
theorem dX4_sentence_109 : decode cX4_sentence 109 = .ok (.iconst 1, 1) := by decide +kernel
theorem dX4_sentence_110 : decode cX4_sentence 110 = .ok (.goto 4, 3) := by decide +kernel
theorem dX4_sentence_113 : decode cX4_sentence 113 = .ok (.iconst 0, 1) := by decide +kernel
theorem dX4_sentence_114 : decode cX4_sentence 114 = .ok (.ireturn, 1) := by decide +kernel
theorem dX4_sentence_115 : decode cX4_sentence 115 = .ok (.aload_n 0, 1) := by decide +kernel
theorem dX4_sentence_116 : decode cX4_sentence 116 = .ok (.dup, 1) := by decide +kernel
theorem dX4_sentence_117 : decode cX4_sentence 117 = .ok (.getfield 43, 3) := by decide +kernel
theorem dX4_sentence_120 : decode cX4_sentence 120 = .ok (.iconst 1, 1) := by decide +kernel
theorem dX4_sentence_121 : decode cX4_sentence 121 = .ok (.iadd, 1) := by decide +kernel
theorem dX4_sentence_122 : decode cX4_sentence 122 = .ok (.putfield 43, 3) := by decide +kernel
theorem dX4_sentence_125 : decode cX4_sentence 125 = .ok (.aload_n 0, 1) := by decide +kernel
theorem dX4_sentence_126 : decode cX4_sentence 126 = .ok (.iload_n 1, 1) := by decide +kernel
theorem dX4_sentence_127 : decode cX4_sentence 127 = .ok (.invokevirtual 142, 3) := by decide +kernel
theorem dX4_sentence_130 : decode cX4_sentence 130 = .ok (.ifCond .eq 16, 3) := by decide +kernel
theorem dX4_sentence_133 : decode cX4_sentence 133 = .ok (.aload_n 0, 1) := by decide +kernel
theorem dX4_sentence_134 : decode cX4_sentence 134 = .ok (.bipush 30, 2) := by decide +kernel
theorem dX4_sentence_136 : decode cX4_sentence 136 = .ok (.invokevirtual 148, 3) := by decide +kernel
theorem dX4_sentence_139 : decode cX4_sentence 139 = .ok (.ifCond .eq 7, 3) := by decide +kernel
theorem dX4_sentence_142 : decode cX4_sentence 142 = .ok (.iconst 1, 1) := by decide +kernel
theorem dX4_sentence_143 : decode cX4_sentence 143 = .ok (.goto 4, 3) := by decide +kernel
theorem dX4_sentence_146 : decode cX4_sentence 146 = .ok (.iconst 0, 1) := by decide +kernel
theorem dX4_sentence_147 : decode cX4_sentence 147 = .ok (.ireturn, 1) := by decide +kernel
theorem dX4_sentence_148 : decode cX4_sentence 148 = .ok (.aload_n 0, 1) := by decide +kernel
theorem dX4_sentence_149 : decode cX4_sentence 149 = .ok (.dup, 1) := by decide +kernel
theorem dX4_sentence_150 : decode cX4_sentence 150 = .ok (.getfield 43, 3) := by decide +kernel
theorem dX4_sentence_153 : decode cX4_sentence 153 = .ok (.iconst 1, 1) := by decide +kernel
theorem dX4_sentence_154 : decode cX4_sentence 154 = .ok (.iadd, 1) := by decide +kernel
theorem dX4_sentence_155 : decode cX4_sentence 155 = .ok (.putfield 43, 3) := by decide +kernel
theorem dX4_sentence_158 : decode cX4_sentence 158 = .ok (.aload_n 0, 1) := by decide +kernel
theorem dX4_sentence_159 : decode cX4_sentence 159 = .ok (.bipush 31, 2) := by decide +kernel
theorem dX4_sentence_161 : decode cX4_sentence 161 = .ok (.invokevirtual 148, 3) := by decide +kernel
theorem dX4_sentence_164 : decode cX4_sentence 164 = .ok (.ireturn, 1) := by decide +kernel
theorem dX4_sentence_165 : decode cX4_sentence 165 = .ok (.aload_n 0, 1) := by decide +kernel
theorem dX4_sentence_166 : decode cX4_sentence 166 = .ok (.dup, 1) := by decide +kernel
theorem dX4_sentence_167 : decode cX4_sentence 167 = .ok (.getfield 43, 3) := by decide +kernel
theorem dX4_sentence_170 : decode cX4_sentence 170 = .ok (.iconst 1, 1) := by decide +kernel
theorem dX4_sentence_171 : decode cX4_sentence 171 = .ok (.iadd, 1) := by decide +kernel
theorem dX4_sentence_172 : decode cX4_sentence 172 = .ok (.putfield 43, 3) := by decide +kernel
theorem dX4_sentence_175 : decode cX4_sentence 175 = .ok (.aload_n 0, 1) := by decide +kernel
theorem dX4_sentence_176 : decode cX4_sentence 176 = .ok (.iload_n 1, 1) := by decide +kernel
theorem dX4_sentence_177 : decode cX4_sentence 177 = .ok (.invokevirtual 142, 3) := by decide +kernel
theorem dX4_sentence_180 : decode cX4_sentence 180 = .ok (.ifCond .eq 16, 3) := by decide +kernel
theorem dX4_sentence_183 : decode cX4_sentence 183 = .ok (.aload_n 0, 1) := by decide +kernel
theorem dX4_sentence_184 : decode cX4_sentence 184 = .ok (.bipush 32, 2) := by decide +kernel
theorem dX4_sentence_186 : decode cX4_sentence 186 = .ok (.invokevirtual 148, 3) := by decide +kernel
theorem dX4_sentence_189 : decode cX4_sentence 189 = .ok (.ifCond .eq 7, 3) := by decide +kernel
theorem dX4_sentence_192 : decode cX4_sentence 192 = .ok (.iconst 1, 1) := by decide +kernel
theorem dX4_sentence_193 : decode cX4_sentence 193 = .ok (.goto 4, 3) := by decide +kernel
theorem dX4_sentence_196 : decode cX4_sentence 196 = .ok (.iconst 0, 1) := by decide +kernel
theorem dX4_sentence_197 : decode cX4_sentence 197 = .ok (.ireturn, 1) := by decide +kernel
theorem dX4_sentence_198 : decode cX4_sentence 198 = .ok (.aload_n 0, 1) := by decide +kernel
theorem dX4_sentence_199 : decode cX4_sentence 199 = .ok (.dup, 1) := by decide +kernel
theorem dX4_sentence_200 : decode cX4_sentence 200 = .ok (.getfield 43, 3) := by decide +kernel
theorem dX4_sentence_203 : decode cX4_sentence 203 = .ok (.iconst 1, 1) := by decide +kernel
theorem dX4_sentence_204 : decode cX4_sentence 204 = .ok (.iadd, 1) := by decide +kernel
theorem dX4_sentence_205 : decode cX4_sentence 205 = .ok (.putfield 43, 3) := by decide +kernel
theorem dX4_sentence_208 : decode cX4_sentence 208 = .ok (.aload_n 0, 1) := by decide +kernel
theorem dX4_sentence_209 : decode cX4_sentence 209 = .ok (.bipush 33, 2) := by decide +kernel
theorem dX4_sentence_211 : decode cX4_sentence 211 = .ok (.invokevirtual 148, 3) := by decide +kernel
theorem dX4_sentence_214 : decode cX4_sentence 214 = .ok (.ireturn, 1) := by decide +kernel
theorem dX4_sentence_215 : decode cX4_sentence 215 = .ok (.aload_n 0, 1) := by decide +kernel
theorem dX4_sentence_216 : decode cX4_sentence 216 = .ok (.dup, 1) := by decide +kernel
theorem dX4_sentence_217 : decode cX4_sentence 217 = .ok (.getfield 43, 3) := by decide +kernel
theorem dX4_sentence_220 : decode cX4_sentence 220 = .ok (.iconst 1, 1) := by decide +kernel
theorem dX4_sentence_221 : decode cX4_sentence 221 = .ok (.iadd, 1) := by decide +kernel
theorem dX4_sentence_222 : decode cX4_sentence 222 = .ok (.putfield 43, 3) := by decide +kernel
theorem dX4_sentence_225 : decode cX4_sentence 225 = .ok (.aload_n 0, 1) := by decide +kernel
theorem dX4_sentence_226 : decode cX4_sentence 226 = .ok (.iload_n 1, 1) := by decide +kernel
theorem dX4_sentence_227 : decode cX4_sentence 227 = .ok (.invokevirtual 142, 3) := by decide +kernel
theorem dX4_sentence_230 : decode cX4_sentence 230 = .ok (.ifCond .eq 16, 3) := by decide +kernel
theorem dX4_sentence_233 : decode cX4_sentence 233 = .ok (.aload_n 0, 1) := by decide +kernel
theorem dX4_sentence_234 : decode cX4_sentence 234 = .ok (.bipush 34, 2) := by decide +kernel
theorem dX4_sentence_236 : decode cX4_sentence 236 = .ok (.invokevirtual 148, 3) := by decide +kernel
theorem dX4_sentence_239 : decode cX4_sentence 239 = .ok (.ifCond .eq 7, 3) := by decide +kernel
theorem dX4_sentence_242 : decode cX4_sentence 242 = .ok (.iconst 1, 1) := by decide +kernel
theorem dX4_sentence_243 : decode cX4_sentence 243 = .ok (.goto 4, 3) := by decide +kernel
theorem dX4_sentence_246 : decode cX4_sentence 246 = .ok (.iconst 0, 1) := by decide +kernel
theorem dX4_sentence_247 : decode cX4_sentence 247 = .ok (.ireturn, 1) := by decide +kernel
theorem dX4_sentence_248 : decode cX4_sentence 248 = .ok (.aload_n 0, 1) := by decide +kernel
theorem dX4_sentence_249 : decode cX4_sentence 249 = .ok (.iload_n 1, 1) := by decide +kernel
theorem dX4_sentence_250 : decode cX4_sentence 250 = .ok (.invokevirtual 151, 3) := by decide +kernel
theorem dX4_sentence_253 : decode cX4_sentence 253 = .ok (.ireturn, 1) := by decide +kernel
theorem dX4_sentence_254 : decode cX4_sentence 254 = .ok (.aload_n 0, 1) := by decide +kernel
theorem dX4_sentence_255 : decode cX4_sentence 255 = .ok (.iload_n 1, 1) := by decide +kernel
theorem dX4_sentence_256 : decode cX4_sentence 256 = .ok (.invokevirtual 154, 3) := by decide +kernel
theorem dX4_sentence_259 : decode cX4_sentence 259 = .ok (.ireturn, 1) := by decide +kernel
theorem dX4_sentence_260 : decode cX4_sentence 260 = .ok (.aload_n 0, 1) := by decide +kernel
theorem dX4_sentence_261 : decode cX4_sentence 261 = .ok (.iload_n 1, 1) := by decide +kernel
theorem dX4_sentence_262 : decode cX4_sentence 262 = .ok (.invokevirtual 157, 3) := by decide +kernel
theorem dX4_sentence_265 : decode cX4_sentence 265 = .ok (.ireturn, 1) := by decide +kernel
theorem dX4_sentence_266 : decode cX4_sentence 266 = .ok (.aload_n 0, 1) := by decide +kernel
theorem dX4_sentence_267 : decode cX4_sentence 267 = .ok (.invokevirtual 66, 3) := by decide +kernel
theorem dX4_sentence_270 : decode cX4_sentence 270 = .ok (.ireturn, 1) := by decide +kernel

def f_X4_sentence (rec : Nat → Nat → Int32 → Mm → Option (Int32 × Mm)) (i0 : Nat) (a1 : Int32) (M : Mm) : Option (Int32 × Mm) :=
  bd1 (f_X4_kind i0 M) fun x1 => if tkc x1 then (if 0 ≤ (nI (tkN x1)).toInt ∧ (nI (tkN x1)).toInt < ((51 : Nat) : Int) then (lz (tkSw (nI (tkN x1))) fun x6 => if (x6 = (1 : Int32)) then (lz (wr M i0 4 ((M i0 4) + (1 : Int32))) fun M9 => bd2 (rec 8 i0 a1 M9) fun x11 M12 => if (x11 = 0) then (some ((0 : Int32), M12)) else (bd2 (f_X4_expect i0 (1038 : Int32) M12) fun x16 M17 => if (x16 = 0) then (some ((0 : Int32), M17)) else (bd2 (rec 8 i0 a1 M17) fun x21 M22 => if (x21 = 0) then (some ((0 : Int32), M22)) else (bd2 (f_X4_end i0 (29 : Int32) M22) fun x26 M27 => if (x26 = 0) then (some ((0 : Int32), M27)) else (some ((1 : Int32), M27)))))) else (if (x6 = (2 : Int32)) then (lz (wr M i0 4 ((M i0 4) + (1 : Int32))) fun M32 => bd2 (rec 8 i0 a1 M32) fun x34 M35 => if (x34 = 0) then (some ((0 : Int32), M35)) else (bd2 (f_X4_end i0 (30 : Int32) M35) fun x39 M40 => if (x39 = 0) then (some ((0 : Int32), M40)) else (some ((1 : Int32), M40)))) else (if (x6 = (3 : Int32)) then (lz (wr M i0 4 ((M i0 4) + (1 : Int32))) fun M45 => bd2 (f_X4_end i0 (31 : Int32) M45) fun x47 M48 => some (x47, M48)) else (if (x6 = (4 : Int32)) then (lz (wr M i0 4 ((M i0 4) + (1 : Int32))) fun M52 => bd2 (rec 8 i0 a1 M52) fun x54 M55 => if (x54 = 0) then (some ((0 : Int32), M55)) else (bd2 (f_X4_end i0 (32 : Int32) M55) fun x59 M60 => if (x59 = 0) then (some ((0 : Int32), M60)) else (some ((1 : Int32), M60)))) else (if (x6 = (5 : Int32)) then (lz (wr M i0 4 ((M i0 4) + (1 : Int32))) fun M65 => bd2 (f_X4_end i0 (33 : Int32) M65) fun x67 M68 => some (x67, M68)) else (if (x6 = (6 : Int32)) then (lz (wr M i0 4 ((M i0 4) + (1 : Int32))) fun M72 => bd2 (rec 8 i0 a1 M72) fun x74 M75 => if (x74 = 0) then (some ((0 : Int32), M75)) else (bd2 (f_X4_end i0 (34 : Int32) M75) fun x79 M80 => if (x79 = 0) then (some ((0 : Int32), M80)) else (some ((1 : Int32), M80)))) else (if (x6 = (7 : Int32)) then (bd2 (rec 2 i0 a1 M) fun x85 M86 => some (x85, M86)) else (if (x6 = (8 : Int32)) then (bd2 (rec 3 i0 a1 M) fun x90 M91 => some (x90, M91)) else (if (x6 = (9 : Int32)) then (bd2 (rec 4 i0 a1 M) fun x95 M96 => some (x95, M96)) else (bd2 (f_X4_refuse i0 M) fun x99 M100 => some (x99, M100))))))))))) else none) else none

set_option maxHeartbeats 4000000 in
set_option maxRecDepth 100000 in
theorem c_X4_sentence (l : Launch) (G : GG) (M : Mm) (rec : Nat → Nat → Int32 → Mm → Option (Int32 × Mm)) {nr : Nat} (hrec : OK_P4 l G rec (RMn nr)) {i0 : Nat} (hi0 : (kd i0).1 = 7) (a1 : Int32) {r : Int32} {M9 : Mm} (hr : f_X4_sentence rec i0 a1 M = some (r, M9)) : Mo true l yX4_sentence (WS yX4_sentence cX4_sentence 3 (some .boolean)) (RMn (nr + 1)) 0 0 [.ref (G.2.1 i0), .int a1] G M (some (.int r)) M9 := by
  refine Mo.of (by decide +kernel) (Nat.le_of_ble_eq_true rfl) ?_
  intro p e s m args below meth c hC
  have hC : CX p s m args meth c cX4_sentence 3 RX4 (some .boolean) G := hC
  rw [f_X4_sentence] at hr
  show XJ p l e (RMn (nr + 1)) s m args below meth c G 3 _ 0 0 M 0 [(0, .ref (G.2.1 i0)), (1, .int a1)] []
  refine x_aload_n hC dX4_sentence_0 rfl 0 rfl ?_
  obtain ⟨x1, q2, hr⟩ := bd1_s hr
  refine x_callV (ci := 7) (q := (RX4, TX4, 7)) (As := []) hC (c_X4_kind l G M hi0 q2) kc_yX4_kind km_X4_49 ki_yX4_kind kv_yX4_kind kn_RX4 ky_yX4_kind rfl ⟨rfl, rfl⟩ ⟨rn_f (Nat.le_of_ble_eq_true rfl), rn_l (Nat.le_of_ble_eq_true rfl)⟩ hi0 (by decide) rfl rfl (Nat.le_of_ble_eq_true rfl) ⟨(Nat.le_of_ble_eq_true rfl), (Nat.le_of_ble_eq_true rfl)⟩ dX4_sentence_1 (fun b3 => ?_)
  refine x_astore_n hC [(2, .ref (G.2.1 (rid x1))), (0, .ref (G.2.1 i0)), (1, .int a1)] dX4_sentence_4 rfl (Nat.le_of_ble_eq_true rfl) rfl ?_
  refine x_gets hC (v := .ref (G.2.1 1901)) (fun A U H h => h.2.2.2.2.1) kf_X4_133 dX4_sentence_5 ?_
  refine x_aload_n hC dX4_sentence_8 rfl 0 rfl ?_
  obtain ⟨h4, hr⟩ := it_s hr
  refine x_callU (As := []) hC (tk_O h4) (c_Jx_ordinal l G M h4) kc_yJx29ce0_ordinal_8abf5 km_X4_138 ksm_ord ki_yJx29ce0_ordinal_8abf5 kse_ord kn_RJx29ce0 rfl (by decide +kernel) rfl ⟨rfl, rfl⟩ ⟨rn_f (Nat.le_of_ble_eq_true rfl), rn_l (Nat.le_of_ble_eq_true rfl)⟩ rfl (Nat.le_of_ble_eq_true rfl) ⟨(Nat.le_of_ble_eq_true rfl), (Nat.le_of_ble_eq_true rfl)⟩ dX4_sentence_9 (fun _ => ?_)
  obtain ⟨h5, hr⟩ := it_s hr
  refine x_swGet hC h5 dX4_sentence_12 ?_
  obtain ⟨x6, e7, hr⟩ := lz_s hr
  refine x_topi e7 ?_
  by_cases s8 : x6 = (1 : Int32)
  · have hr := (ie_s hr).1 s8
    refine x_tableIn hC (off := 51) 64 dX4_sentence_13 (by rw [s8]; decide) (by rw [s8]; decide) (by rw [s8]; rfl) (by decide) ?_
    refine x_aload_n hC dX4_sentence_64 rfl 1 rfl ?_
    refine x_dup hC dX4_sentence_65 rfl ?_
    refine gf_X4_43 hC hi0 dX4_sentence_66 ?_
    refine x_iconst hC (1 : Int32) dX4_sentence_69 (by decide) ?_
    refine x_iadd hC dX4_sentence_70 ?_
    obtain ⟨M9, e10, hr⟩ := lz_s hr
    refine pf_X4_43 hC hi0 e10 dX4_sentence_71 ?_
    refine x_aload_n hC dX4_sentence_74 rfl 1 rfl ?_
    refine x_iload_n hC dX4_sentence_75 rfl 2 rfl ?_
    obtain ⟨x11, M12, q13, hr⟩ := bd2_s hr
    refine x_callV (ci := 7) (q := (RX4, TX4, 7)) (As := [.int a1]) hC (hrec.2.2.2.2.2.2.2.2.1 hi0 a1 q13) kc_yX4_sum km_X4_142 ki_yX4_sum kv_yX4_sum kn_RX4 ky_yX4_sum rfl ⟨rfl, rfl⟩ ⟨rn_gf, rn_gl (Nat.le_of_ble_eq_true rfl)⟩ hi0 (by decide) rfl rfl (Nat.le_of_ble_eq_true rfl) ⟨(Nat.le_of_ble_eq_true rfl), (Nat.le_of_ble_eq_true rfl)⟩ dX4_sentence_76 (fun b14 => ?_)
    refine x_if_eq hC 113 dX4_sentence_79 (by decide) (fun h15 => ?_) (fun h15 => ?_)
    · have hr := (ie_s hr).1 h15
      refine x_iconst hC (0 : Int32) dX4_sentence_113 (by decide) ?_
      cases hr
      exact x_zret hC rfl (Or.inl rfl) dX4_sentence_114
    · have hr := (ie_s hr).2 h15
      refine x_aload_n hC dX4_sentence_82 rfl 1 rfl ?_
      refine x_tgets hC (a := (1038 : Int32)) 37 (by decide) rfl (by decide) kf_X4_145 dX4_sentence_83 ?_
      obtain ⟨x16, M17, q18, hr⟩ := bd2_s hr
      refine x_callV (ci := 7) (q := (RX4, TX4, 7)) (As := [.ref (G.2.1 (rid (1038 : Int32)))]) hC (c_X4_expect l G M12 hi0 (1038 : Int32) q18) kc_yX4_expect km_X4_80 ki_yX4_expect kv_yX4_expect kn_RX4 ky_yX4_expect rfl ⟨rfl, rfl⟩ ⟨rn_f (Nat.le_of_ble_eq_true rfl), rn_l (Nat.le_of_ble_eq_true rfl)⟩ hi0 (by decide) rfl rfl (Nat.le_of_ble_eq_true rfl) ⟨(Nat.le_of_ble_eq_true rfl), (Nat.le_of_ble_eq_true rfl)⟩ dX4_sentence_86 (fun b19 => ?_)
      refine x_if_eq hC 113 dX4_sentence_89 (by decide) (fun h20 => ?_) (fun h20 => ?_)
      · have hr := (ie_s hr).1 h20
        refine x_iconst hC (0 : Int32) dX4_sentence_113 (by decide) ?_
        cases hr
        exact x_zret hC rfl (Or.inl rfl) dX4_sentence_114
      · have hr := (ie_s hr).2 h20
        refine x_aload_n hC dX4_sentence_92 rfl 1 rfl ?_
        refine x_iload_n hC dX4_sentence_93 rfl 2 rfl ?_
        obtain ⟨x21, M22, q23, hr⟩ := bd2_s hr
        refine x_callV (ci := 7) (q := (RX4, TX4, 7)) (As := [.int a1]) hC (hrec.2.2.2.2.2.2.2.2.1 hi0 a1 q23) kc_yX4_sum km_X4_142 ki_yX4_sum kv_yX4_sum kn_RX4 ky_yX4_sum rfl ⟨rfl, rfl⟩ ⟨rn_gf, rn_gl (Nat.le_of_ble_eq_true rfl)⟩ hi0 (by decide) rfl rfl (Nat.le_of_ble_eq_true rfl) ⟨(Nat.le_of_ble_eq_true rfl), (Nat.le_of_ble_eq_true rfl)⟩ dX4_sentence_94 (fun b24 => ?_)
        refine x_if_eq hC 113 dX4_sentence_97 (by decide) (fun h25 => ?_) (fun h25 => ?_)
        · have hr := (ie_s hr).1 h25
          refine x_iconst hC (0 : Int32) dX4_sentence_113 (by decide) ?_
          cases hr
          exact x_zret hC rfl (Or.inl rfl) dX4_sentence_114
        · have hr := (ie_s hr).2 h25
          refine x_aload_n hC dX4_sentence_100 rfl 1 rfl ?_
          refine x_bipush hC (29 : Int32) dX4_sentence_101 (by decide) ?_
          obtain ⟨x26, M27, q28, hr⟩ := bd2_s hr
          refine x_callV (ci := 7) (q := (RX4, TX4, 7)) (As := [.int (29 : Int32)]) hC (c_X4_end l G M22 hi0 (29 : Int32) q28) kc_yX4_end km_X4_148 ki_yX4_end kv_yX4_end kn_RX4 ky_yX4_end rfl ⟨rfl, rfl⟩ ⟨rn_f (Nat.le_of_ble_eq_true rfl), rn_l (Nat.le_of_ble_eq_true rfl)⟩ hi0 (by decide) rfl rfl (Nat.le_of_ble_eq_true rfl) ⟨(Nat.le_of_ble_eq_true rfl), (Nat.le_of_ble_eq_true rfl)⟩ dX4_sentence_103 (fun b29 => ?_)
          refine x_if_eq hC 113 dX4_sentence_106 (by decide) (fun h30 => ?_) (fun h30 => ?_)
          · have hr := (ie_s hr).1 h30
            refine x_iconst hC (0 : Int32) dX4_sentence_113 (by decide) ?_
            cases hr
            exact x_zret hC rfl (Or.inl rfl) dX4_sentence_114
          · have hr := (ie_s hr).2 h30
            refine x_iconst hC (1 : Int32) dX4_sentence_109 (by decide) ?_
            refine x_goto hC 114 dX4_sentence_110 (by decide) ?_
            cases hr
            exact x_zret hC rfl (Or.inr rfl) dX4_sentence_114
  · have hr := (ie_s hr).2 s8
    by_cases s31 : x6 = (2 : Int32)
    · have hr := (ie_s hr).1 s31
      refine x_tableIn hC (off := 102) 115 dX4_sentence_13 (by rw [s31]; decide) (by rw [s31]; decide) (by rw [s31]; rfl) (by decide) ?_
      refine x_aload_n hC dX4_sentence_115 rfl 1 rfl ?_
      refine x_dup hC dX4_sentence_116 rfl ?_
      refine gf_X4_43 hC hi0 dX4_sentence_117 ?_
      refine x_iconst hC (1 : Int32) dX4_sentence_120 (by decide) ?_
      refine x_iadd hC dX4_sentence_121 ?_
      obtain ⟨M32, e33, hr⟩ := lz_s hr
      refine pf_X4_43 hC hi0 e33 dX4_sentence_122 ?_
      refine x_aload_n hC dX4_sentence_125 rfl 1 rfl ?_
      refine x_iload_n hC dX4_sentence_126 rfl 2 rfl ?_
      obtain ⟨x34, M35, q36, hr⟩ := bd2_s hr
      refine x_callV (ci := 7) (q := (RX4, TX4, 7)) (As := [.int a1]) hC (hrec.2.2.2.2.2.2.2.2.1 hi0 a1 q36) kc_yX4_sum km_X4_142 ki_yX4_sum kv_yX4_sum kn_RX4 ky_yX4_sum rfl ⟨rfl, rfl⟩ ⟨rn_gf, rn_gl (Nat.le_of_ble_eq_true rfl)⟩ hi0 (by decide) rfl rfl (Nat.le_of_ble_eq_true rfl) ⟨(Nat.le_of_ble_eq_true rfl), (Nat.le_of_ble_eq_true rfl)⟩ dX4_sentence_127 (fun b37 => ?_)
      refine x_if_eq hC 146 dX4_sentence_130 (by decide) (fun h38 => ?_) (fun h38 => ?_)
      · have hr := (ie_s hr).1 h38
        refine x_iconst hC (0 : Int32) dX4_sentence_146 (by decide) ?_
        cases hr
        exact x_zret hC rfl (Or.inl rfl) dX4_sentence_147
      · have hr := (ie_s hr).2 h38
        refine x_aload_n hC dX4_sentence_133 rfl 1 rfl ?_
        refine x_bipush hC (30 : Int32) dX4_sentence_134 (by decide) ?_
        obtain ⟨x39, M40, q41, hr⟩ := bd2_s hr
        refine x_callV (ci := 7) (q := (RX4, TX4, 7)) (As := [.int (30 : Int32)]) hC (c_X4_end l G M35 hi0 (30 : Int32) q41) kc_yX4_end km_X4_148 ki_yX4_end kv_yX4_end kn_RX4 ky_yX4_end rfl ⟨rfl, rfl⟩ ⟨rn_f (Nat.le_of_ble_eq_true rfl), rn_l (Nat.le_of_ble_eq_true rfl)⟩ hi0 (by decide) rfl rfl (Nat.le_of_ble_eq_true rfl) ⟨(Nat.le_of_ble_eq_true rfl), (Nat.le_of_ble_eq_true rfl)⟩ dX4_sentence_136 (fun b42 => ?_)
        refine x_if_eq hC 146 dX4_sentence_139 (by decide) (fun h43 => ?_) (fun h43 => ?_)
        · have hr := (ie_s hr).1 h43
          refine x_iconst hC (0 : Int32) dX4_sentence_146 (by decide) ?_
          cases hr
          exact x_zret hC rfl (Or.inl rfl) dX4_sentence_147
        · have hr := (ie_s hr).2 h43
          refine x_iconst hC (1 : Int32) dX4_sentence_142 (by decide) ?_
          refine x_goto hC 147 dX4_sentence_143 (by decide) ?_
          cases hr
          exact x_zret hC rfl (Or.inr rfl) dX4_sentence_147
    · have hr := (ie_s hr).2 s31
      by_cases s44 : x6 = (3 : Int32)
      · have hr := (ie_s hr).1 s44
        refine x_tableIn hC (off := 135) 148 dX4_sentence_13 (by rw [s44]; decide) (by rw [s44]; decide) (by rw [s44]; rfl) (by decide) ?_
        refine x_aload_n hC dX4_sentence_148 rfl 1 rfl ?_
        refine x_dup hC dX4_sentence_149 rfl ?_
        refine gf_X4_43 hC hi0 dX4_sentence_150 ?_
        refine x_iconst hC (1 : Int32) dX4_sentence_153 (by decide) ?_
        refine x_iadd hC dX4_sentence_154 ?_
        obtain ⟨M45, e46, hr⟩ := lz_s hr
        refine pf_X4_43 hC hi0 e46 dX4_sentence_155 ?_
        refine x_aload_n hC dX4_sentence_158 rfl 1 rfl ?_
        refine x_bipush hC (31 : Int32) dX4_sentence_159 (by decide) ?_
        obtain ⟨x47, M48, q49, hr⟩ := bd2_s hr
        refine x_callV (ci := 7) (q := (RX4, TX4, 7)) (As := [.int (31 : Int32)]) hC (c_X4_end l G M45 hi0 (31 : Int32) q49) kc_yX4_end km_X4_148 ki_yX4_end kv_yX4_end kn_RX4 ky_yX4_end rfl ⟨rfl, rfl⟩ ⟨rn_f (Nat.le_of_ble_eq_true rfl), rn_l (Nat.le_of_ble_eq_true rfl)⟩ hi0 (by decide) rfl rfl (Nat.le_of_ble_eq_true rfl) ⟨(Nat.le_of_ble_eq_true rfl), (Nat.le_of_ble_eq_true rfl)⟩ dX4_sentence_161 (fun b50 => ?_)
        cases hr
        exact x_zret hC rfl (BV.out b50) dX4_sentence_164
      · have hr := (ie_s hr).2 s44
        by_cases s51 : x6 = (4 : Int32)
        · have hr := (ie_s hr).1 s51
          refine x_tableIn hC (off := 152) 165 dX4_sentence_13 (by rw [s51]; decide) (by rw [s51]; decide) (by rw [s51]; rfl) (by decide) ?_
          refine x_aload_n hC dX4_sentence_165 rfl 1 rfl ?_
          refine x_dup hC dX4_sentence_166 rfl ?_
          refine gf_X4_43 hC hi0 dX4_sentence_167 ?_
          refine x_iconst hC (1 : Int32) dX4_sentence_170 (by decide) ?_
          refine x_iadd hC dX4_sentence_171 ?_
          obtain ⟨M52, e53, hr⟩ := lz_s hr
          refine pf_X4_43 hC hi0 e53 dX4_sentence_172 ?_
          refine x_aload_n hC dX4_sentence_175 rfl 1 rfl ?_
          refine x_iload_n hC dX4_sentence_176 rfl 2 rfl ?_
          obtain ⟨x54, M55, q56, hr⟩ := bd2_s hr
          refine x_callV (ci := 7) (q := (RX4, TX4, 7)) (As := [.int a1]) hC (hrec.2.2.2.2.2.2.2.2.1 hi0 a1 q56) kc_yX4_sum km_X4_142 ki_yX4_sum kv_yX4_sum kn_RX4 ky_yX4_sum rfl ⟨rfl, rfl⟩ ⟨rn_gf, rn_gl (Nat.le_of_ble_eq_true rfl)⟩ hi0 (by decide) rfl rfl (Nat.le_of_ble_eq_true rfl) ⟨(Nat.le_of_ble_eq_true rfl), (Nat.le_of_ble_eq_true rfl)⟩ dX4_sentence_177 (fun b57 => ?_)
          refine x_if_eq hC 196 dX4_sentence_180 (by decide) (fun h58 => ?_) (fun h58 => ?_)
          · have hr := (ie_s hr).1 h58
            refine x_iconst hC (0 : Int32) dX4_sentence_196 (by decide) ?_
            cases hr
            exact x_zret hC rfl (Or.inl rfl) dX4_sentence_197
          · have hr := (ie_s hr).2 h58
            refine x_aload_n hC dX4_sentence_183 rfl 1 rfl ?_
            refine x_bipush hC (32 : Int32) dX4_sentence_184 (by decide) ?_
            obtain ⟨x59, M60, q61, hr⟩ := bd2_s hr
            refine x_callV (ci := 7) (q := (RX4, TX4, 7)) (As := [.int (32 : Int32)]) hC (c_X4_end l G M55 hi0 (32 : Int32) q61) kc_yX4_end km_X4_148 ki_yX4_end kv_yX4_end kn_RX4 ky_yX4_end rfl ⟨rfl, rfl⟩ ⟨rn_f (Nat.le_of_ble_eq_true rfl), rn_l (Nat.le_of_ble_eq_true rfl)⟩ hi0 (by decide) rfl rfl (Nat.le_of_ble_eq_true rfl) ⟨(Nat.le_of_ble_eq_true rfl), (Nat.le_of_ble_eq_true rfl)⟩ dX4_sentence_186 (fun b62 => ?_)
            refine x_if_eq hC 196 dX4_sentence_189 (by decide) (fun h63 => ?_) (fun h63 => ?_)
            · have hr := (ie_s hr).1 h63
              refine x_iconst hC (0 : Int32) dX4_sentence_196 (by decide) ?_
              cases hr
              exact x_zret hC rfl (Or.inl rfl) dX4_sentence_197
            · have hr := (ie_s hr).2 h63
              refine x_iconst hC (1 : Int32) dX4_sentence_192 (by decide) ?_
              refine x_goto hC 197 dX4_sentence_193 (by decide) ?_
              cases hr
              exact x_zret hC rfl (Or.inr rfl) dX4_sentence_197
        · have hr := (ie_s hr).2 s51
          by_cases s64 : x6 = (5 : Int32)
          · have hr := (ie_s hr).1 s64
            refine x_tableIn hC (off := 185) 198 dX4_sentence_13 (by rw [s64]; decide) (by rw [s64]; decide) (by rw [s64]; rfl) (by decide) ?_
            refine x_aload_n hC dX4_sentence_198 rfl 1 rfl ?_
            refine x_dup hC dX4_sentence_199 rfl ?_
            refine gf_X4_43 hC hi0 dX4_sentence_200 ?_
            refine x_iconst hC (1 : Int32) dX4_sentence_203 (by decide) ?_
            refine x_iadd hC dX4_sentence_204 ?_
            obtain ⟨M65, e66, hr⟩ := lz_s hr
            refine pf_X4_43 hC hi0 e66 dX4_sentence_205 ?_
            refine x_aload_n hC dX4_sentence_208 rfl 1 rfl ?_
            refine x_bipush hC (33 : Int32) dX4_sentence_209 (by decide) ?_
            obtain ⟨x67, M68, q69, hr⟩ := bd2_s hr
            refine x_callV (ci := 7) (q := (RX4, TX4, 7)) (As := [.int (33 : Int32)]) hC (c_X4_end l G M65 hi0 (33 : Int32) q69) kc_yX4_end km_X4_148 ki_yX4_end kv_yX4_end kn_RX4 ky_yX4_end rfl ⟨rfl, rfl⟩ ⟨rn_f (Nat.le_of_ble_eq_true rfl), rn_l (Nat.le_of_ble_eq_true rfl)⟩ hi0 (by decide) rfl rfl (Nat.le_of_ble_eq_true rfl) ⟨(Nat.le_of_ble_eq_true rfl), (Nat.le_of_ble_eq_true rfl)⟩ dX4_sentence_211 (fun b70 => ?_)
            cases hr
            exact x_zret hC rfl (BV.out b70) dX4_sentence_214
          · have hr := (ie_s hr).2 s64
            by_cases s71 : x6 = (6 : Int32)
            · have hr := (ie_s hr).1 s71
              refine x_tableIn hC (off := 202) 215 dX4_sentence_13 (by rw [s71]; decide) (by rw [s71]; decide) (by rw [s71]; rfl) (by decide) ?_
              refine x_aload_n hC dX4_sentence_215 rfl 1 rfl ?_
              refine x_dup hC dX4_sentence_216 rfl ?_
              refine gf_X4_43 hC hi0 dX4_sentence_217 ?_
              refine x_iconst hC (1 : Int32) dX4_sentence_220 (by decide) ?_
              refine x_iadd hC dX4_sentence_221 ?_
              obtain ⟨M72, e73, hr⟩ := lz_s hr
              refine pf_X4_43 hC hi0 e73 dX4_sentence_222 ?_
              refine x_aload_n hC dX4_sentence_225 rfl 1 rfl ?_
              refine x_iload_n hC dX4_sentence_226 rfl 2 rfl ?_
              obtain ⟨x74, M75, q76, hr⟩ := bd2_s hr
              refine x_callV (ci := 7) (q := (RX4, TX4, 7)) (As := [.int a1]) hC (hrec.2.2.2.2.2.2.2.2.1 hi0 a1 q76) kc_yX4_sum km_X4_142 ki_yX4_sum kv_yX4_sum kn_RX4 ky_yX4_sum rfl ⟨rfl, rfl⟩ ⟨rn_gf, rn_gl (Nat.le_of_ble_eq_true rfl)⟩ hi0 (by decide) rfl rfl (Nat.le_of_ble_eq_true rfl) ⟨(Nat.le_of_ble_eq_true rfl), (Nat.le_of_ble_eq_true rfl)⟩ dX4_sentence_227 (fun b77 => ?_)
              refine x_if_eq hC 246 dX4_sentence_230 (by decide) (fun h78 => ?_) (fun h78 => ?_)
              · have hr := (ie_s hr).1 h78
                refine x_iconst hC (0 : Int32) dX4_sentence_246 (by decide) ?_
                cases hr
                exact x_zret hC rfl (Or.inl rfl) dX4_sentence_247
              · have hr := (ie_s hr).2 h78
                refine x_aload_n hC dX4_sentence_233 rfl 1 rfl ?_
                refine x_bipush hC (34 : Int32) dX4_sentence_234 (by decide) ?_
                obtain ⟨x79, M80, q81, hr⟩ := bd2_s hr
                refine x_callV (ci := 7) (q := (RX4, TX4, 7)) (As := [.int (34 : Int32)]) hC (c_X4_end l G M75 hi0 (34 : Int32) q81) kc_yX4_end km_X4_148 ki_yX4_end kv_yX4_end kn_RX4 ky_yX4_end rfl ⟨rfl, rfl⟩ ⟨rn_f (Nat.le_of_ble_eq_true rfl), rn_l (Nat.le_of_ble_eq_true rfl)⟩ hi0 (by decide) rfl rfl (Nat.le_of_ble_eq_true rfl) ⟨(Nat.le_of_ble_eq_true rfl), (Nat.le_of_ble_eq_true rfl)⟩ dX4_sentence_236 (fun b82 => ?_)
                refine x_if_eq hC 246 dX4_sentence_239 (by decide) (fun h83 => ?_) (fun h83 => ?_)
                · have hr := (ie_s hr).1 h83
                  refine x_iconst hC (0 : Int32) dX4_sentence_246 (by decide) ?_
                  cases hr
                  exact x_zret hC rfl (Or.inl rfl) dX4_sentence_247
                · have hr := (ie_s hr).2 h83
                  refine x_iconst hC (1 : Int32) dX4_sentence_242 (by decide) ?_
                  refine x_goto hC 247 dX4_sentence_243 (by decide) ?_
                  cases hr
                  exact x_zret hC rfl (Or.inr rfl) dX4_sentence_247
            · have hr := (ie_s hr).2 s71
              by_cases s84 : x6 = (7 : Int32)
              · have hr := (ie_s hr).1 s84
                refine x_tableIn hC (off := 235) 248 dX4_sentence_13 (by rw [s84]; decide) (by rw [s84]; decide) (by rw [s84]; rfl) (by decide) ?_
                refine x_aload_n hC dX4_sentence_248 rfl 1 rfl ?_
                refine x_iload_n hC dX4_sentence_249 rfl 2 rfl ?_
                obtain ⟨x85, M86, q87, hr⟩ := bd2_s hr
                refine x_callV (ci := 7) (q := (RX4, TX4, 7)) (As := [.int a1]) hC (hrec.2.2.1 hi0 a1 q87) kc_yX4_choice km_X4_151 ki_yX4_choice kv_yX4_choice kn_RX4 ky_yX4_choice rfl ⟨rfl, rfl⟩ ⟨rn_gf, rn_gl (Nat.le_of_ble_eq_true rfl)⟩ hi0 (by decide) rfl rfl (Nat.le_of_ble_eq_true rfl) ⟨(Nat.le_of_ble_eq_true rfl), (Nat.le_of_ble_eq_true rfl)⟩ dX4_sentence_250 (fun b88 => ?_)
                cases hr
                exact x_zret hC rfl (BV.out b88) dX4_sentence_253
              · have hr := (ie_s hr).2 s84
                by_cases s89 : x6 = (8 : Int32)
                · have hr := (ie_s hr).1 s89
                  refine x_tableIn hC (off := 241) 254 dX4_sentence_13 (by rw [s89]; decide) (by rw [s89]; decide) (by rw [s89]; rfl) (by decide) ?_
                  refine x_aload_n hC dX4_sentence_254 rfl 1 rfl ?_
                  refine x_iload_n hC dX4_sentence_255 rfl 2 rfl ?_
                  obtain ⟨x90, M91, q92, hr⟩ := bd2_s hr
                  refine x_callV (ci := 7) (q := (RX4, TX4, 7)) (As := [.int a1]) hC (hrec.2.2.2.1 hi0 a1 q92) kc_yX4_countedLoop km_X4_154 ki_yX4_countedLoop kv_yX4_countedLoop kn_RX4 ky_yX4_countedLoop rfl ⟨rfl, rfl⟩ ⟨rn_gf, rn_gl (Nat.le_of_ble_eq_true rfl)⟩ hi0 (by decide) rfl rfl (Nat.le_of_ble_eq_true rfl) ⟨(Nat.le_of_ble_eq_true rfl), (Nat.le_of_ble_eq_true rfl)⟩ dX4_sentence_256 (fun b93 => ?_)
                  cases hr
                  exact x_zret hC rfl (BV.out b93) dX4_sentence_259
                · have hr := (ie_s hr).2 s89
                  by_cases s94 : x6 = (9 : Int32)
                  · have hr := (ie_s hr).1 s94
                    refine x_tableIn hC (off := 247) 260 dX4_sentence_13 (by rw [s94]; decide) (by rw [s94]; decide) (by rw [s94]; rfl) (by decide) ?_
                    refine x_aload_n hC dX4_sentence_260 rfl 1 rfl ?_
                    refine x_iload_n hC dX4_sentence_261 rfl 2 rfl ?_
                    obtain ⟨x95, M96, q97, hr⟩ := bd2_s hr
                    refine x_callV (ci := 7) (q := (RX4, TX4, 7)) (As := [.int a1]) hC (hrec.2.2.2.2.1 hi0 a1 q97) kc_yX4_testedLoop km_X4_157 ki_yX4_testedLoop kv_yX4_testedLoop kn_RX4 ky_yX4_testedLoop rfl ⟨rfl, rfl⟩ ⟨rn_gf, rn_gl (Nat.le_of_ble_eq_true rfl)⟩ hi0 (by decide) rfl rfl (Nat.le_of_ble_eq_true rfl) ⟨(Nat.le_of_ble_eq_true rfl), (Nat.le_of_ble_eq_true rfl)⟩ dX4_sentence_262 (fun b98 => ?_)
                    cases hr
                    exact x_zret hC rfl (BV.out b98) dX4_sentence_265
                  · have hr := (ie_s hr).2 s94
                    refine x_tableOut hC 266 dX4_sentence_13 (by have := ne_toI s8 (z := 1) (by decide); have := ne_toI s31 (z := 2) (by decide); have := ne_toI s44 (z := 3) (by decide); have := ne_toI s51 (z := 4) (by decide); have := ne_toI s64 (z := 5) (by decide); have := ne_toI s71 (z := 6) (by decide); have := ne_toI s84 (z := 7) (by decide); have := ne_toI s89 (z := 8) (by decide); have := ne_toI s94 (z := 9) (by decide); omega) (by decide) ?_
                    refine x_aload_n hC dX4_sentence_266 rfl 1 rfl ?_
                    obtain ⟨x99, M100, q101, hr⟩ := bd2_s hr
                    refine x_callV (ci := 7) (q := (RX4, TX4, 7)) (As := []) hC (c_X4_refuse l G M hi0 q101) kc_yX4_refuse km_X4_66 ki_yX4_refuse kv_yX4_refuse kn_RX4 ky_yX4_refuse rfl ⟨rfl, rfl⟩ ⟨rn_f (Nat.le_of_ble_eq_true rfl), rn_l (Nat.le_of_ble_eq_true rfl)⟩ hi0 (by decide) rfl rfl (Nat.le_of_ble_eq_true rfl) ⟨(Nat.le_of_ble_eq_true rfl), (Nat.le_of_ble_eq_true rfl)⟩ dX4_sentence_267 (fun b102 => ?_)
                    cases hr
                    exact x_zret hC rfl (BV.out b102) dX4_sentence_270

theorem dX4_choice_0 : decode cX4_choice 0 = .ok (.aload_n 0, 1) := by decide +kernel
theorem dX4_choice_1 : decode cX4_choice 1 = .ok (.dup, 1) := by decide +kernel
theorem dX4_choice_2 : decode cX4_choice 2 = .ok (.getfield 43, 3) := by decide +kernel
theorem dX4_choice_5 : decode cX4_choice 5 = .ok (.iconst 1, 1) := by decide +kernel
theorem dX4_choice_6 : decode cX4_choice 6 = .ok (.iadd, 1) := by decide +kernel
theorem dX4_choice_7 : decode cX4_choice 7 = .ok (.putfield 43, 3) := by decide +kernel
theorem dX4_choice_10 : decode cX4_choice 10 = .ok (.aload_n 0, 1) := by decide +kernel
theorem dX4_choice_11 : decode cX4_choice 11 = .ok (.iload_n 1, 1) := by decide +kernel
theorem dX4_choice_12 : decode cX4_choice 12 = .ok (.invokevirtual 163, 3) := by decide +kernel
theorem dX4_choice_15 : decode cX4_choice 15 = .ok (.ifCond .ne 5, 3) := by decide +kernel
theorem dX4_choice_18 : decode cX4_choice 18 = .ok (.iconst 0, 1) := by decide +kernel
theorem dX4_choice_19 : decode cX4_choice 19 = .ok (.ireturn, 1) := by decide +kernel
theorem dX4_choice_20 : decode cX4_choice 20 = .ok (.aload_n 0, 1) := by decide +kernel
theorem dX4_choice_21 : decode cX4_choice 21 = .ok (.getfield 25, 3) := by decide +kernel
theorem dX4_choice_24 : decode cX4_choice 24 = .ok (.getfield 166, 3) := by decide +kernel
theorem dX4_choice_27 : decode cX4_choice 27 = .ok (.istore_n 2, 1) := by decide +kernel
theorem dX4_choice_28 : decode cX4_choice 28 = .ok (.aload_n 0, 1) := by decide +kernel
theorem dX4_choice_29 : decode cX4_choice 29 = .ok (.getfield 25, 3) := by decide +kernel
theorem dX4_choice_32 : decode cX4_choice 32 = .ok (.bipush 35, 2) := by decide +kernel
theorem dX4_choice_34 : decode cX4_choice 34 = .ok (.iconst 0, 1) := by decide +kernel
theorem dX4_choice_35 : decode cX4_choice 35 = .ok (.invokevirtual 107, 3) := by decide +kernel
theorem dX4_choice_38 : decode cX4_choice 38 = .ok (.pop, 1) := by decide +kernel
theorem dX4_choice_39 : decode cX4_choice 39 = .ok (.aload_n 0, 1) := by decide +kernel
theorem dX4_choice_40 : decode cX4_choice 40 = .ok (.iload_n 1, 1) := by decide +kernel
theorem dX4_choice_41 : decode cX4_choice 41 = .ok (.invokevirtual 102, 3) := by decide +kernel
theorem dX4_choice_44 : decode cX4_choice 44 = .ok (.ifCond .ne 5, 3) := by decide +kernel
theorem dX4_choice_47 : decode cX4_choice 47 = .ok (.iconst 0, 1) := by decide +kernel
theorem dX4_choice_48 : decode cX4_choice 48 = .ok (.ireturn, 1) := by decide +kernel
theorem dX4_choice_49 : decode cX4_choice 49 = .ok (.aload_n 0, 1) := by decide +kernel
theorem dX4_choice_50 : decode cX4_choice 50 = .ok (.invokevirtual 49, 3) := by decide +kernel
theorem dX4_choice_53 : decode cX4_choice 53 = .ok (.getstatic 169, 3) := by decide +kernel
theorem dX4_choice_56 : decode cX4_choice 56 = .ok (.if_acmp .eq 13, 3) := by decide +kernel
theorem dX4_choice_59 : decode cX4_choice 59 = .ok (.aload_n 0, 1) := by decide +kernel
theorem dX4_choice_60 : decode cX4_choice 60 = .ok (.getfield 25, 3) := by decide +kernel
theorem dX4_choice_63 : decode cX4_choice 63 = .ok (.iload_n 2, 1) := by decide +kernel
theorem dX4_choice_64 : decode cX4_choice 64 = .ok (.invokevirtual 172, 3) := by decide +kernel
theorem dX4_choice_67 : decode cX4_choice 67 = .ok (.iconst 1, 1) := by decide +kernel
theorem dX4_choice_68 : decode cX4_choice 68 = .ok (.ireturn, 1) := by decide +kernel
theorem dX4_choice_69 : decode cX4_choice 69 = .ok (.aload_n 0, 1) := by decide +kernel
theorem dX4_choice_70 : decode cX4_choice 70 = .ok (.dup, 1) := by decide +kernel
theorem dX4_choice_71 : decode cX4_choice 71 = .ok (.getfield 43, 3) := by decide +kernel
theorem dX4_choice_74 : decode cX4_choice 74 = .ok (.iconst 1, 1) := by decide +kernel
theorem dX4_choice_75 : decode cX4_choice 75 = .ok (.iadd, 1) := by decide +kernel
theorem dX4_choice_76 : decode cX4_choice 76 = .ok (.putfield 43, 3) := by decide +kernel
theorem dX4_choice_79 : decode cX4_choice 79 = .ok (.aload_n 0, 1) := by decide +kernel
theorem dX4_choice_80 : decode cX4_choice 80 = .ok (.getfield 25, 3) := by decide +kernel
theorem dX4_choice_83 : decode cX4_choice 83 = .ok (.getfield 166, 3) := by decide +kernel
theorem dX4_choice_86 : decode cX4_choice 86 = .ok (.istore_n 3, 1) := by decide +kernel
theorem dX4_choice_87 : decode cX4_choice 87 = .ok (.aload_n 0, 1) := by decide +kernel
theorem dX4_choice_88 : decode cX4_choice 88 = .ok (.getfield 25, 3) := by decide +kernel
theorem dX4_choice_91 : decode cX4_choice 91 = .ok (.bipush 38, 2) := by decide +kernel
theorem dX4_choice_93 : decode cX4_choice 93 = .ok (.iconst 0, 1) := by decide +kernel
theorem dX4_choice_94 : decode cX4_choice 94 = .ok (.invokevirtual 107, 3) := by decide +kernel
theorem dX4_choice_97 : decode cX4_choice 97 = .ok (.pop, 1) := by decide +kernel
theorem dX4_choice_98 : decode cX4_choice 98 = .ok (.aload_n 0, 1) := by decide +kernel
theorem dX4_choice_99 : decode cX4_choice 99 = .ok (.getfield 25, 3) := by decide +kernel
theorem dX4_choice_102 : decode cX4_choice 102 = .ok (.iload_n 2, 1) := by decide +kernel
theorem dX4_choice_103 : decode cX4_choice 103 = .ok (.invokevirtual 172, 3) := by decide +kernel
theorem dX4_choice_106 : decode cX4_choice 106 = .ok (.aload_n 0, 1) := by decide +kernel
theorem dX4_choice_107 : decode cX4_choice 107 = .ok (.iload_n 1, 1) := by decide +kernel
theorem dX4_choice_108 : decode cX4_choice 108 = .ok (.invokevirtual 102, 3) := by decide +kernel
theorem dX4_choice_111 : decode cX4_choice 111 = .ok (.ifCond .ne 5, 3) := by decide +kernel
theorem dX4_choice_114 : decode cX4_choice 114 = .ok (.iconst 0, 1) := by decide +kernel
theorem dX4_choice_115 : decode cX4_choice 115 = .ok (.ireturn, 1) := by decide +kernel
theorem dX4_choice_116 : decode cX4_choice 116 = .ok (.aload_n 0, 1) := by decide +kernel
theorem dX4_choice_117 : decode cX4_choice 117 = .ok (.getfield 25, 3) := by decide +kernel
theorem dX4_choice_120 : decode cX4_choice 120 = .ok (.iload_n 3, 1) := by decide +kernel
theorem dX4_choice_121 : decode cX4_choice 121 = .ok (.invokevirtual 172, 3) := by decide +kernel
theorem dX4_choice_124 : decode cX4_choice 124 = .ok (.iconst 1, 1) := by decide +kernel
theorem dX4_choice_125 : decode cX4_choice 125 = .ok (.ireturn, 1) := by decide +kernel

def f_X4_choice (rec : Nat → Nat → Int32 → Mm → Option (Int32 × Mm)) (i0 : Nat) (a1 : Int32) (M : Mm) : Option (Int32 × Mm) :=
  lz (wr M i0 4 ((M i0 4) + (1 : Int32))) fun M1 => bd2 (rec 5 i0 a1 M1) fun x3 M4 => if (x3 = 0) then (some ((0 : Int32), M4)) else (if okr 2 (M4 i0 3) then (if okr 2 (M4 i0 3) then (bd2 (f_X5_emit (rid (M4 i0 3)) (35 : Int32) (0 : Int32) M4) fun x10 M11 => bd2 (rec 0 i0 a1 M11) fun x14 M15 => if (x14 = 0) then (some ((0 : Int32), M15)) else (bd1 (f_X4_kind i0 M15) fun x19 => if tkc x19 then (if (x19 = (1010 : Int32)) then (lz (wr M15 i0 4 ((M15 i0 4) + (1 : Int32))) fun M24 => if okr 2 (M24 i0 3) then (if okr 2 (M24 i0 3) then (bd2 (f_X5_emit (rid (M24 i0 3)) (38 : Int32) (0 : Int32) M24) fun x28 M29 => if okr 2 (M29 i0 3) then (bd1 (f_X5_leadHere (rid (M29 i0 3)) (M4 (rid (M4 i0 3)) 2) M29) fun M33 => bd2 (rec 0 i0 a1 M33) fun x36 M37 => if (x36 = 0) then (some ((0 : Int32), M37)) else (if okr 2 (M37 i0 3) then (bd1 (f_X5_leadHere (rid (M37 i0 3)) (M24 (rid (M24 i0 3)) 2) M37) fun M42 => some ((1 : Int32), M42)) else none)) else none) else none) else none) else (if okr 2 (M15 i0 3) then (bd1 (f_X5_leadHere (rid (M15 i0 3)) (M4 (rid (M4 i0 3)) 2) M15) fun M46 => some ((1 : Int32), M46)) else none)) else none)) else none) else none)

set_option maxHeartbeats 4000000 in
set_option maxRecDepth 100000 in
theorem c_X4_choice (l : Launch) (G : GG) (M : Mm) (rec : Nat → Nat → Int32 → Mm → Option (Int32 × Mm)) {nr : Nat} (hrec : OK_P4 l G rec (RMn nr)) {i0 : Nat} (hi0 : (kd i0).1 = 7) (a1 : Int32) {r : Int32} {M9 : Mm} (hr : f_X4_choice rec i0 a1 M = some (r, M9)) : Mo true l yX4_choice (WS yX4_choice cX4_choice 4 (some .boolean)) (RMn (nr + 1)) 0 0 [.ref (G.2.1 i0), .int a1] G M (some (.int r)) M9 := by
  refine Mo.of (by decide +kernel) (Nat.le_of_ble_eq_true rfl) ?_
  intro p e s m args below meth c hC
  have hC : CX p s m args meth c cX4_choice 4 RX4 (some .boolean) G := hC
  rw [f_X4_choice] at hr
  show XJ p l e (RMn (nr + 1)) s m args below meth c G 4 _ 0 0 M 0 [(0, .ref (G.2.1 i0)), (1, .int a1)] []
  refine x_aload_n hC dX4_choice_0 rfl 0 rfl ?_
  refine x_dup hC dX4_choice_1 rfl ?_
  refine gf_X4_43 hC hi0 dX4_choice_2 ?_
  refine x_iconst hC (1 : Int32) dX4_choice_5 (by decide) ?_
  refine x_iadd hC dX4_choice_6 ?_
  obtain ⟨M1, e2, hr⟩ := lz_s hr
  refine pf_X4_43 hC hi0 e2 dX4_choice_7 ?_
  refine x_aload_n hC dX4_choice_10 rfl 0 rfl ?_
  refine x_iload_n hC dX4_choice_11 rfl 1 rfl ?_
  obtain ⟨x3, M4, q5, hr⟩ := bd2_s hr
  refine x_callV (ci := 7) (q := (RX4, TX4, 7)) (As := [.int a1]) hC (hrec.2.2.2.2.2.1 hi0 a1 q5) kc_yX4_test km_X4_163 ki_yX4_test kv_yX4_test kn_RX4 ky_yX4_test rfl ⟨rfl, rfl⟩ ⟨rn_gf, rn_gl (Nat.le_of_ble_eq_true rfl)⟩ hi0 (by decide) rfl rfl (Nat.le_of_ble_eq_true rfl) ⟨(Nat.le_of_ble_eq_true rfl), (Nat.le_of_ble_eq_true rfl)⟩ dX4_choice_12 (fun b6 => ?_)
  refine x_if_ne hC 20 dX4_choice_15 (by decide) (fun h7 => ?_) (fun h7 => ?_)
  · have hr := (ie_s hr).2 h7
    refine x_aload_n hC dX4_choice_20 rfl 0 rfl ?_
    obtain ⟨h8, hr⟩ := it_s hr
    refine gf_X4_25 hC hi0 h8 dX4_choice_21 ?_
    refine gf_X4_166 hC h8.2 dX4_choice_24 ?_
    refine x_istore_n hC [(2, .int (M4 (rid (M4 i0 3)) 2)), (0, .ref (G.2.1 i0)), (1, .int a1)] dX4_choice_27 rfl (Nat.le_of_ble_eq_true rfl) rfl ?_
    refine x_aload_n hC dX4_choice_28 rfl 1 rfl ?_
    obtain ⟨h9, hr⟩ := it_s hr
    refine gf_X4_25 hC hi0 h9 dX4_choice_29 ?_
    refine x_bipush hC (35 : Int32) dX4_choice_32 (by decide) ?_
    refine x_iconst hC (0 : Int32) dX4_choice_34 (by decide) ?_
    obtain ⟨x10, M11, q12, hr⟩ := bd2_s hr
    refine x_callV (ci := 2) (q := (RX5, TX5, 7)) (As := [.int (35 : Int32), .int (0 : Int32)]) hC (c_X5_emit l G M4 h9.2 (35 : Int32) (0 : Int32) q12) kc_yX5_emit km_X4_107 ki_yX5_emit kv_yX5_emit kn_RX5 ky_yX5_emit rfl ⟨rfl, rfl⟩ ⟨rn_f (Nat.le_of_ble_eq_true rfl), rn_l (Nat.le_of_ble_eq_true rfl)⟩ h9.2 (by decide) rfl rfl (Nat.le_of_ble_eq_true rfl) ⟨(Nat.le_of_ble_eq_true rfl), (Nat.le_of_ble_eq_true rfl)⟩ dX4_choice_35 (fun b13 => ?_)
    refine x_pop hC dX4_choice_38 rfl ?_
    refine x_aload_n hC dX4_choice_39 rfl 1 rfl ?_
    refine x_iload_n hC dX4_choice_40 rfl 2 rfl ?_
    obtain ⟨x14, M15, q16, hr⟩ := bd2_s hr
    refine x_callV (ci := 7) (q := (RX4, TX4, 7)) (As := [.int a1]) hC (hrec.1 hi0 a1 q16) kc_yX4_block km_X4_102 ki_yX4_block kv_yX4_block kn_RX4 ky_yX4_block rfl ⟨rfl, rfl⟩ ⟨rn_gf, rn_gl (Nat.le_of_ble_eq_true rfl)⟩ hi0 (by decide) rfl rfl (Nat.le_of_ble_eq_true rfl) ⟨(Nat.le_of_ble_eq_true rfl), (Nat.le_of_ble_eq_true rfl)⟩ dX4_choice_41 (fun b17 => ?_)
    refine x_if_ne hC 49 dX4_choice_44 (by decide) (fun h18 => ?_) (fun h18 => ?_)
    · have hr := (ie_s hr).2 h18
      refine x_aload_n hC dX4_choice_49 rfl 1 rfl ?_
      obtain ⟨x19, q20, hr⟩ := bd1_s hr
      refine x_callV (ci := 7) (q := (RX4, TX4, 7)) (As := []) hC (c_X4_kind l G M15 hi0 q20) kc_yX4_kind km_X4_49 ki_yX4_kind kv_yX4_kind kn_RX4 ky_yX4_kind rfl ⟨rfl, rfl⟩ ⟨rn_f (Nat.le_of_ble_eq_true rfl), rn_l (Nat.le_of_ble_eq_true rfl)⟩ hi0 (by decide) rfl rfl (Nat.le_of_ble_eq_true rfl) ⟨(Nat.le_of_ble_eq_true rfl), (Nat.le_of_ble_eq_true rfl)⟩ dX4_choice_50 (fun b21 => ?_)
      refine x_tgets hC (a := (1010 : Int32)) 9 (by decide) rfl (by decide) kf_X4_169 dX4_choice_53 ?_
      obtain ⟨h22, hr⟩ := it_s hr
      refine x_acmp_eq hC 69 ⟨h22, (by decide)⟩ dX4_choice_56 (by decide) (fun h23 => ?_) (fun h23 => ?_)
      · have hr := (ie_s hr).1 h23
        refine x_aload_n hC dX4_choice_69 rfl 1 rfl ?_
        refine x_dup hC dX4_choice_70 rfl ?_
        refine gf_X4_43 hC hi0 dX4_choice_71 ?_
        refine x_iconst hC (1 : Int32) dX4_choice_74 (by decide) ?_
        refine x_iadd hC dX4_choice_75 ?_
        obtain ⟨M24, e25, hr⟩ := lz_s hr
        refine pf_X4_43 hC hi0 e25 dX4_choice_76 ?_
        refine x_aload_n hC dX4_choice_79 rfl 1 rfl ?_
        obtain ⟨h26, hr⟩ := it_s hr
        refine gf_X4_25 hC hi0 h26 dX4_choice_80 ?_
        refine gf_X4_166 hC h26.2 dX4_choice_83 ?_
        refine x_istore_n hC [(3, .int (M24 (rid (M24 i0 3)) 2)), (2, .int (M4 (rid (M4 i0 3)) 2)), (0, .ref (G.2.1 i0)), (1, .int a1)] dX4_choice_86 rfl (Nat.le_of_ble_eq_true rfl) rfl ?_
        refine x_aload_n hC dX4_choice_87 rfl 2 rfl ?_
        obtain ⟨h27, hr⟩ := it_s hr
        refine gf_X4_25 hC hi0 h27 dX4_choice_88 ?_
        refine x_bipush hC (38 : Int32) dX4_choice_91 (by decide) ?_
        refine x_iconst hC (0 : Int32) dX4_choice_93 (by decide) ?_
        obtain ⟨x28, M29, q30, hr⟩ := bd2_s hr
        refine x_callV (ci := 2) (q := (RX5, TX5, 7)) (As := [.int (38 : Int32), .int (0 : Int32)]) hC (c_X5_emit l G M24 h27.2 (38 : Int32) (0 : Int32) q30) kc_yX5_emit km_X4_107 ki_yX5_emit kv_yX5_emit kn_RX5 ky_yX5_emit rfl ⟨rfl, rfl⟩ ⟨rn_f (Nat.le_of_ble_eq_true rfl), rn_l (Nat.le_of_ble_eq_true rfl)⟩ h27.2 (by decide) rfl rfl (Nat.le_of_ble_eq_true rfl) ⟨(Nat.le_of_ble_eq_true rfl), (Nat.le_of_ble_eq_true rfl)⟩ dX4_choice_94 (fun b31 => ?_)
        refine x_pop hC dX4_choice_97 rfl ?_
        refine x_aload_n hC dX4_choice_98 rfl 2 rfl ?_
        obtain ⟨h32, hr⟩ := it_s hr
        refine gf_X4_25 hC hi0 h32 dX4_choice_99 ?_
        refine x_iload_n hC dX4_choice_102 rfl 1 rfl ?_
        obtain ⟨M33, q34, hr⟩ := bd1_s hr
        refine x_callV (ci := 2) (q := (RX5, TX5, 7)) (As := [.int (M4 (rid (M4 i0 3)) 2)]) hC (c_X5_leadHere l G M29 h32.2 (M4 (rid (M4 i0 3)) 2) q34) kc_yX5_leadHere km_X4_172 ki_yX5_leadHere kv_yX5_leadHere kn_RX5 ky_yX5_leadHere rfl ⟨rfl, rfl⟩ ⟨rn_f (Nat.le_of_ble_eq_true rfl), rn_l (Nat.le_of_ble_eq_true rfl)⟩ h32.2 (by decide) rfl rfl (Nat.le_of_ble_eq_true rfl) ⟨(Nat.le_of_ble_eq_true rfl), (Nat.le_of_ble_eq_true rfl)⟩ dX4_choice_103 (fun b35 => ?_)
        refine x_aload_n hC dX4_choice_106 rfl 2 rfl ?_
        refine x_iload_n hC dX4_choice_107 rfl 3 rfl ?_
        obtain ⟨x36, M37, q38, hr⟩ := bd2_s hr
        refine x_callV (ci := 7) (q := (RX4, TX4, 7)) (As := [.int a1]) hC (hrec.1 hi0 a1 q38) kc_yX4_block km_X4_102 ki_yX4_block kv_yX4_block kn_RX4 ky_yX4_block rfl ⟨rfl, rfl⟩ ⟨rn_gf, rn_gl (Nat.le_of_ble_eq_true rfl)⟩ hi0 (by decide) rfl rfl (Nat.le_of_ble_eq_true rfl) ⟨(Nat.le_of_ble_eq_true rfl), (Nat.le_of_ble_eq_true rfl)⟩ dX4_choice_108 (fun b39 => ?_)
        refine x_if_ne hC 116 dX4_choice_111 (by decide) (fun h40 => ?_) (fun h40 => ?_)
        · have hr := (ie_s hr).2 h40
          refine x_aload_n hC dX4_choice_116 rfl 2 rfl ?_
          obtain ⟨h41, hr⟩ := it_s hr
          refine gf_X4_25 hC hi0 h41 dX4_choice_117 ?_
          refine x_iload_n hC dX4_choice_120 rfl 0 rfl ?_
          obtain ⟨M42, q43, hr⟩ := bd1_s hr
          refine x_callV (ci := 2) (q := (RX5, TX5, 7)) (As := [.int (M24 (rid (M24 i0 3)) 2)]) hC (c_X5_leadHere l G M37 h41.2 (M24 (rid (M24 i0 3)) 2) q43) kc_yX5_leadHere km_X4_172 ki_yX5_leadHere kv_yX5_leadHere kn_RX5 ky_yX5_leadHere rfl ⟨rfl, rfl⟩ ⟨rn_f (Nat.le_of_ble_eq_true rfl), rn_l (Nat.le_of_ble_eq_true rfl)⟩ h41.2 (by decide) rfl rfl (Nat.le_of_ble_eq_true rfl) ⟨(Nat.le_of_ble_eq_true rfl), (Nat.le_of_ble_eq_true rfl)⟩ dX4_choice_121 (fun b44 => ?_)
          refine x_iconst hC (1 : Int32) dX4_choice_124 (by decide) ?_
          cases hr
          exact x_zret hC rfl (Or.inr rfl) dX4_choice_125
        · have hr := (ie_s hr).1 h40
          refine x_iconst hC (0 : Int32) dX4_choice_114 (by decide) ?_
          cases hr
          exact x_zret hC rfl (Or.inl rfl) dX4_choice_115
      · have hr := (ie_s hr).2 h23
        refine x_aload_n hC dX4_choice_59 rfl 1 rfl ?_
        obtain ⟨h45, hr⟩ := it_s hr
        refine gf_X4_25 hC hi0 h45 dX4_choice_60 ?_
        refine x_iload_n hC dX4_choice_63 rfl 0 rfl ?_
        obtain ⟨M46, q47, hr⟩ := bd1_s hr
        refine x_callV (ci := 2) (q := (RX5, TX5, 7)) (As := [.int (M4 (rid (M4 i0 3)) 2)]) hC (c_X5_leadHere l G M15 h45.2 (M4 (rid (M4 i0 3)) 2) q47) kc_yX5_leadHere km_X4_172 ki_yX5_leadHere kv_yX5_leadHere kn_RX5 ky_yX5_leadHere rfl ⟨rfl, rfl⟩ ⟨rn_f (Nat.le_of_ble_eq_true rfl), rn_l (Nat.le_of_ble_eq_true rfl)⟩ h45.2 (by decide) rfl rfl (Nat.le_of_ble_eq_true rfl) ⟨(Nat.le_of_ble_eq_true rfl), (Nat.le_of_ble_eq_true rfl)⟩ dX4_choice_64 (fun b48 => ?_)
        refine x_iconst hC (1 : Int32) dX4_choice_67 (by decide) ?_
        cases hr
        exact x_zret hC rfl (Or.inr rfl) dX4_choice_68
    · have hr := (ie_s hr).1 h18
      refine x_iconst hC (0 : Int32) dX4_choice_47 (by decide) ?_
      cases hr
      exact x_zret hC rfl (Or.inl rfl) dX4_choice_48
  · have hr := (ie_s hr).1 h7
    refine x_iconst hC (0 : Int32) dX4_choice_18 (by decide) ?_
    cases hr
    exact x_zret hC rfl (Or.inl rfl) dX4_choice_19

theorem dX4_countedLoop_0 : decode cX4_countedLoop 0 = .ok (.aload_n 0, 1) := by decide +kernel
theorem dX4_countedLoop_1 : decode cX4_countedLoop 1 = .ok (.dup, 1) := by decide +kernel
theorem dX4_countedLoop_2 : decode cX4_countedLoop 2 = .ok (.getfield 43, 3) := by decide +kernel
theorem dX4_countedLoop_5 : decode cX4_countedLoop 5 = .ok (.iconst 1, 1) := by decide +kernel
theorem dX4_countedLoop_6 : decode cX4_countedLoop 6 = .ok (.iadd, 1) := by decide +kernel
theorem dX4_countedLoop_7 : decode cX4_countedLoop 7 = .ok (.putfield 43, 3) := by decide +kernel
theorem dX4_countedLoop_10 : decode cX4_countedLoop 10 = .ok (.aload_n 0, 1) := by decide +kernel
theorem dX4_countedLoop_11 : decode cX4_countedLoop 11 = .ok (.getfield 43, 3) := by decide +kernel
theorem dX4_countedLoop_14 : decode cX4_countedLoop 14 = .ok (.istore_n 2, 1) := by decide +kernel
theorem dX4_countedLoop_15 : decode cX4_countedLoop 15 = .ok (.aload_n 0, 1) := by decide +kernel
theorem dX4_countedLoop_16 : decode cX4_countedLoop 16 = .ok (.bipush 20, 2) := by decide +kernel
theorem dX4_countedLoop_18 : decode cX4_countedLoop 18 = .ok (.invokevirtual 91, 3) := by decide +kernel
theorem dX4_countedLoop_21 : decode cX4_countedLoop 21 = .ok (.ifCond .ne 5, 3) := by decide +kernel
theorem dX4_countedLoop_24 : decode cX4_countedLoop 24 = .ok (.iconst 0, 1) := by decide +kernel
theorem dX4_countedLoop_25 : decode cX4_countedLoop 25 = .ok (.ireturn, 1) := by decide +kernel
theorem dX4_countedLoop_26 : decode cX4_countedLoop 26 = .ok (.aload_n 0, 1) := by decide +kernel
theorem dX4_countedLoop_27 : decode cX4_countedLoop 27 = .ok (.getfield 12, 3) := by decide +kernel
theorem dX4_countedLoop_30 : decode cX4_countedLoop 30 = .ok (.iload_n 2, 1) := by decide +kernel
theorem dX4_countedLoop_31 : decode cX4_countedLoop 31 = .ok (.invokevirtual 95, 3) := by decide +kernel
theorem dX4_countedLoop_34 : decode cX4_countedLoop 34 = .ok (.istore_n 3, 1) := by decide +kernel
theorem dX4_countedLoop_35 : decode cX4_countedLoop 35 = .ok (.aload_n 0, 1) := by decide +kernel
theorem dX4_countedLoop_36 : decode cX4_countedLoop 36 = .ok (.getfield 25, 3) := by decide +kernel
theorem dX4_countedLoop_39 : decode cX4_countedLoop 39 = .ok (.iconst 0, 1) := by decide +kernel
theorem dX4_countedLoop_40 : decode cX4_countedLoop 40 = .ok (.iload_n 3, 1) := by decide +kernel
theorem dX4_countedLoop_41 : decode cX4_countedLoop 41 = .ok (.invokevirtual 107, 3) := by decide +kernel
theorem dX4_countedLoop_44 : decode cX4_countedLoop 44 = .ok (.pop, 1) := by decide +kernel
theorem dX4_countedLoop_45 : decode cX4_countedLoop 45 = .ok (.aload_n 0, 1) := by decide +kernel
theorem dX4_countedLoop_46 : decode cX4_countedLoop 46 = .ok (.getfield 25, 3) := by decide +kernel
theorem dX4_countedLoop_49 : decode cX4_countedLoop 49 = .ok (.bipush 36, 2) := by decide +kernel
theorem dX4_countedLoop_51 : decode cX4_countedLoop 51 = .ok (.iload_n 1, 1) := by decide +kernel
theorem dX4_countedLoop_52 : decode cX4_countedLoop 52 = .ok (.invokevirtual 107, 3) := by decide +kernel
theorem dX4_countedLoop_55 : decode cX4_countedLoop 55 = .ok (.pop, 1) := by decide +kernel
theorem dX4_countedLoop_56 : decode cX4_countedLoop 56 = .ok (.aload_n 0, 1) := by decide +kernel
theorem dX4_countedLoop_57 : decode cX4_countedLoop 57 = .ok (.getfield 25, 3) := by decide +kernel
theorem dX4_countedLoop_60 : decode cX4_countedLoop 60 = .ok (.getfield 166, 3) := by decide +kernel
theorem dX4_countedLoop_63 : decode cX4_countedLoop 63 = .ok (.istore 4, 2) := by decide +kernel
theorem dX4_countedLoop_65 : decode cX4_countedLoop 65 = .ok (.aload_n 0, 1) := by decide +kernel
theorem dX4_countedLoop_66 : decode cX4_countedLoop 66 = .ok (.getfield 25, 3) := by decide +kernel
theorem dX4_countedLoop_69 : decode cX4_countedLoop 69 = .ok (.iconst 0, 1) := by decide +kernel
theorem dX4_countedLoop_70 : decode cX4_countedLoop 70 = .ok (.iload_n 1, 1) := by decide +kernel
theorem dX4_countedLoop_71 : decode cX4_countedLoop 71 = .ok (.invokevirtual 107, 3) := by decide +kernel
theorem dX4_countedLoop_74 : decode cX4_countedLoop 74 = .ok (.pop, 1) := by decide +kernel
theorem dX4_countedLoop_75 : decode cX4_countedLoop 75 = .ok (.aload_n 0, 1) := by decide +kernel
theorem dX4_countedLoop_76 : decode cX4_countedLoop 76 = .ok (.getfield 25, 3) := by decide +kernel
theorem dX4_countedLoop_79 : decode cX4_countedLoop 79 = .ok (.getfield 166, 3) := by decide +kernel
theorem dX4_countedLoop_82 : decode cX4_countedLoop 82 = .ok (.istore 5, 2) := by decide +kernel
theorem dX4_countedLoop_84 : decode cX4_countedLoop 84 = .ok (.aload_n 0, 1) := by decide +kernel
theorem dX4_countedLoop_85 : decode cX4_countedLoop 85 = .ok (.getfield 25, 3) := by decide +kernel
theorem dX4_countedLoop_88 : decode cX4_countedLoop 88 = .ok (.bipush 37, 2) := by decide +kernel
theorem dX4_countedLoop_90 : decode cX4_countedLoop 90 = .ok (.iconst 0, 1) := by decide +kernel
theorem dX4_countedLoop_91 : decode cX4_countedLoop 91 = .ok (.invokevirtual 107, 3) := by decide +kernel
theorem dX4_countedLoop_94 : decode cX4_countedLoop 94 = .ok (.pop, 1) := by decide +kernel
theorem dX4_countedLoop_95 : decode cX4_countedLoop 95 = .ok (.aload_n 0, 1) := by decide +kernel
theorem dX4_countedLoop_96 : decode cX4_countedLoop 96 = .ok (.iload_n 1, 1) := by decide +kernel
theorem dX4_countedLoop_97 : decode cX4_countedLoop 97 = .ok (.invokevirtual 102, 3) := by decide +kernel
theorem dX4_countedLoop_100 : decode cX4_countedLoop 100 = .ok (.ifCond .ne 5, 3) := by decide +kernel
theorem dX4_countedLoop_103 : decode cX4_countedLoop 103 = .ok (.iconst 0, 1) := by decide +kernel
theorem dX4_countedLoop_104 : decode cX4_countedLoop 104 = .ok (.ireturn, 1) := by decide +kernel
theorem dX4_countedLoop_105 : decode cX4_countedLoop 105 = .ok (.aload_n 0, 1) := by decide +kernel
theorem dX4_countedLoop_106 : decode cX4_countedLoop 106 = .ok (.getfield 25, 3) := by decide +kernel
theorem dX4_countedLoop_109 : decode cX4_countedLoop 109 = .ok (.bipush 38, 2) := by decide +kernel
theorem dX4_countedLoop_111 : decode cX4_countedLoop 111 = .ok (.iload 4, 2) := by decide +kernel
theorem dX4_countedLoop_113 : decode cX4_countedLoop 113 = .ok (.invokevirtual 107, 3) := by decide +kernel
theorem dX4_countedLoop_116 : decode cX4_countedLoop 116 = .ok (.pop, 1) := by decide +kernel
theorem dX4_countedLoop_117 : decode cX4_countedLoop 117 = .ok (.aload_n 0, 1) := by decide +kernel
theorem dX4_countedLoop_118 : decode cX4_countedLoop 118 = .ok (.getfield 25, 3) := by decide +kernel
theorem dX4_countedLoop_121 : decode cX4_countedLoop 121 = .ok (.iload 5, 2) := by decide +kernel
theorem dX4_countedLoop_123 : decode cX4_countedLoop 123 = .ok (.invokevirtual 172, 3) := by decide +kernel
theorem dX4_countedLoop_126 : decode cX4_countedLoop 126 = .ok (.iconst 1, 1) := by decide +kernel
theorem dX4_countedLoop_127 : decode cX4_countedLoop 127 = .ok (.ireturn, 1) := by decide +kernel

def f_X4_countedLoop (rec : Nat → Nat → Int32 → Mm → Option (Int32 × Mm)) (i0 : Nat) (a1 : Int32) (M : Mm) : Option (Int32 × Mm) :=
  lz (wr M i0 4 ((M i0 4) + (1 : Int32))) fun M1 => bd2 (f_X4_limitedNumber i0 (20 : Int32) M1) fun x3 M4 => if (x3 = 0) then (some ((0 : Int32), M4)) else (bd1 (f_X6_numberAt (i0 + 1) (M1 i0 4) M4) fun x8 => if okr 2 (M4 i0 3) then (bd2 (f_X5_emit (rid (M4 i0 3)) (0 : Int32) x8 M4) fun x12 M13 => if okr 2 (M13 i0 3) then (bd2 (f_X5_emit (rid (M13 i0 3)) (36 : Int32) a1 M13) fun x17 M18 => if okr 2 (M18 i0 3) then (if okr 2 (M18 i0 3) then (bd2 (f_X5_emit (rid (M18 i0 3)) (0 : Int32) a1 M18) fun x23 M24 => if okr 2 (M24 i0 3) then (if okr 2 (M24 i0 3) then (bd2 (f_X5_emit (rid (M24 i0 3)) (37 : Int32) (0 : Int32) M24) fun x29 M30 => bd2 (rec 0 i0 a1 M30) fun x33 M34 => if (x33 = 0) then (some ((0 : Int32), M34)) else (if okr 2 (M34 i0 3) then (bd2 (f_X5_emit (rid (M34 i0 3)) (38 : Int32) (M18 (rid (M18 i0 3)) 2) M34) fun x39 M40 => if okr 2 (M40 i0 3) then (bd1 (f_X5_leadHere (rid (M40 i0 3)) (M24 (rid (M24 i0 3)) 2) M40) fun M44 => some ((1 : Int32), M44)) else none) else none)) else none) else none) else none) else none) else none) else none)

set_option maxHeartbeats 4000000 in
set_option maxRecDepth 100000 in
theorem c_X4_countedLoop (l : Launch) (G : GG) (M : Mm) (rec : Nat → Nat → Int32 → Mm → Option (Int32 × Mm)) {nr : Nat} (hrec : OK_P4 l G rec (RMn nr)) {i0 : Nat} (hi0 : (kd i0).1 = 7) (a1 : Int32) {r : Int32} {M9 : Mm} (hr : f_X4_countedLoop rec i0 a1 M = some (r, M9)) : Mo true l yX4_countedLoop (WS yX4_countedLoop cX4_countedLoop 6 (some .boolean)) (RMn (nr + 1)) 0 0 [.ref (G.2.1 i0), .int a1] G M (some (.int r)) M9 := by
  refine Mo.of (by decide +kernel) (Nat.le_of_ble_eq_true rfl) ?_
  intro p e s m args below meth c hC
  have hC : CX p s m args meth c cX4_countedLoop 6 RX4 (some .boolean) G := hC
  rw [f_X4_countedLoop] at hr
  show XJ p l e (RMn (nr + 1)) s m args below meth c G 6 _ 0 0 M 0 [(0, .ref (G.2.1 i0)), (1, .int a1)] []
  refine x_aload_n hC dX4_countedLoop_0 rfl 0 rfl ?_
  refine x_dup hC dX4_countedLoop_1 rfl ?_
  refine gf_X4_43 hC hi0 dX4_countedLoop_2 ?_
  refine x_iconst hC (1 : Int32) dX4_countedLoop_5 (by decide) ?_
  refine x_iadd hC dX4_countedLoop_6 ?_
  obtain ⟨M1, e2, hr⟩ := lz_s hr
  refine pf_X4_43 hC hi0 e2 dX4_countedLoop_7 ?_
  refine x_aload_n hC dX4_countedLoop_10 rfl 0 rfl ?_
  refine gf_X4_43 hC hi0 dX4_countedLoop_11 ?_
  refine x_istore_n hC [(2, .int (M1 i0 4)), (0, .ref (G.2.1 i0)), (1, .int a1)] dX4_countedLoop_14 rfl (Nat.le_of_ble_eq_true rfl) rfl ?_
  refine x_aload_n hC dX4_countedLoop_15 rfl 1 rfl ?_
  refine x_bipush hC (20 : Int32) dX4_countedLoop_16 (by decide) ?_
  obtain ⟨x3, M4, q5, hr⟩ := bd2_s hr
  refine x_callV (ci := 7) (q := (RX4, TX4, 7)) (As := [.int (20 : Int32)]) hC (c_X4_limitedNumber l G M1 hi0 (20 : Int32) q5) kc_yX4_limitedNumber km_X4_91 ki_yX4_limitedNumber kv_yX4_limitedNumber kn_RX4 ky_yX4_limitedNumber rfl ⟨rfl, rfl⟩ ⟨rn_f (Nat.le_of_ble_eq_true rfl), rn_l (Nat.le_of_ble_eq_true rfl)⟩ hi0 (by decide) rfl rfl (Nat.le_of_ble_eq_true rfl) ⟨(Nat.le_of_ble_eq_true rfl), (Nat.le_of_ble_eq_true rfl)⟩ dX4_countedLoop_18 (fun b6 => ?_)
  refine x_if_ne hC 26 dX4_countedLoop_21 (by decide) (fun h7 => ?_) (fun h7 => ?_)
  · have hr := (ie_s hr).2 h7
    refine x_aload_n hC dX4_countedLoop_26 rfl 1 rfl ?_
    refine gf_X4_12 hC hi0 dX4_countedLoop_27 ?_
    refine x_iload_n hC dX4_countedLoop_30 rfl 0 rfl ?_
    obtain ⟨x8, q9, hr⟩ := bd1_s hr
    refine x_callV (ci := 8) (q := (RX6, TX6, 5)) (As := [.int (M1 i0 4)]) hC (c_X6_numberAt l G M4 (kr_7_0 hi0) (M1 i0 4) q9) kc_yX6_numberAt km_X4_95 ki_yX6_numberAt kv_yX6_numberAt kn_RX6 ky_yX6_numberAt rfl ⟨rfl, rfl⟩ ⟨rn_f (Nat.le_of_ble_eq_true rfl), rn_l (Nat.le_of_ble_eq_true rfl)⟩ (kr_7_0 hi0) (by decide) rfl rfl (Nat.le_of_ble_eq_true rfl) ⟨(Nat.le_of_ble_eq_true rfl), (Nat.le_of_ble_eq_true rfl)⟩ dX4_countedLoop_31 (fun b10 => ?_)
    refine x_istore_n hC [(3, .int x8), (2, .int (M1 i0 4)), (0, .ref (G.2.1 i0)), (1, .int a1)] dX4_countedLoop_34 rfl (Nat.le_of_ble_eq_true rfl) rfl ?_
    refine x_aload_n hC dX4_countedLoop_35 rfl 2 rfl ?_
    obtain ⟨h11, hr⟩ := it_s hr
    refine gf_X4_25 hC hi0 h11 dX4_countedLoop_36 ?_
    refine x_iconst hC (0 : Int32) dX4_countedLoop_39 (by decide) ?_
    refine x_iload_n hC dX4_countedLoop_40 rfl 0 rfl ?_
    obtain ⟨x12, M13, q14, hr⟩ := bd2_s hr
    refine x_callV (ci := 2) (q := (RX5, TX5, 7)) (As := [.int (0 : Int32), .int x8]) hC (c_X5_emit l G M4 h11.2 (0 : Int32) x8 q14) kc_yX5_emit km_X4_107 ki_yX5_emit kv_yX5_emit kn_RX5 ky_yX5_emit rfl ⟨rfl, rfl⟩ ⟨rn_f (Nat.le_of_ble_eq_true rfl), rn_l (Nat.le_of_ble_eq_true rfl)⟩ h11.2 (by decide) rfl rfl (Nat.le_of_ble_eq_true rfl) ⟨(Nat.le_of_ble_eq_true rfl), (Nat.le_of_ble_eq_true rfl)⟩ dX4_countedLoop_41 (fun b15 => ?_)
    refine x_pop hC dX4_countedLoop_44 rfl ?_
    refine x_aload_n hC dX4_countedLoop_45 rfl 2 rfl ?_
    obtain ⟨h16, hr⟩ := it_s hr
    refine gf_X4_25 hC hi0 h16 dX4_countedLoop_46 ?_
    refine x_bipush hC (36 : Int32) dX4_countedLoop_49 (by decide) ?_
    refine x_iload_n hC dX4_countedLoop_51 rfl 3 rfl ?_
    obtain ⟨x17, M18, q19, hr⟩ := bd2_s hr
    refine x_callV (ci := 2) (q := (RX5, TX5, 7)) (As := [.int (36 : Int32), .int a1]) hC (c_X5_emit l G M13 h16.2 (36 : Int32) a1 q19) kc_yX5_emit km_X4_107 ki_yX5_emit kv_yX5_emit kn_RX5 ky_yX5_emit rfl ⟨rfl, rfl⟩ ⟨rn_f (Nat.le_of_ble_eq_true rfl), rn_l (Nat.le_of_ble_eq_true rfl)⟩ h16.2 (by decide) rfl rfl (Nat.le_of_ble_eq_true rfl) ⟨(Nat.le_of_ble_eq_true rfl), (Nat.le_of_ble_eq_true rfl)⟩ dX4_countedLoop_52 (fun b20 => ?_)
    refine x_pop hC dX4_countedLoop_55 rfl ?_
    refine x_aload_n hC dX4_countedLoop_56 rfl 2 rfl ?_
    obtain ⟨h21, hr⟩ := it_s hr
    refine gf_X4_25 hC hi0 h21 dX4_countedLoop_57 ?_
    refine gf_X4_166 hC h21.2 dX4_countedLoop_60 ?_
    refine x_istore hC [(4, .int (M18 (rid (M18 i0 3)) 2)), (3, .int x8), (2, .int (M1 i0 4)), (0, .ref (G.2.1 i0)), (1, .int a1)] dX4_countedLoop_63  (Nat.le_of_ble_eq_true rfl) rfl ?_
    refine x_aload_n hC dX4_countedLoop_65 rfl 3 rfl ?_
    obtain ⟨h22, hr⟩ := it_s hr
    refine gf_X4_25 hC hi0 h22 dX4_countedLoop_66 ?_
    refine x_iconst hC (0 : Int32) dX4_countedLoop_69 (by decide) ?_
    refine x_iload_n hC dX4_countedLoop_70 rfl 4 rfl ?_
    obtain ⟨x23, M24, q25, hr⟩ := bd2_s hr
    refine x_callV (ci := 2) (q := (RX5, TX5, 7)) (As := [.int (0 : Int32), .int a1]) hC (c_X5_emit l G M18 h22.2 (0 : Int32) a1 q25) kc_yX5_emit km_X4_107 ki_yX5_emit kv_yX5_emit kn_RX5 ky_yX5_emit rfl ⟨rfl, rfl⟩ ⟨rn_f (Nat.le_of_ble_eq_true rfl), rn_l (Nat.le_of_ble_eq_true rfl)⟩ h22.2 (by decide) rfl rfl (Nat.le_of_ble_eq_true rfl) ⟨(Nat.le_of_ble_eq_true rfl), (Nat.le_of_ble_eq_true rfl)⟩ dX4_countedLoop_71 (fun b26 => ?_)
    refine x_pop hC dX4_countedLoop_74 rfl ?_
    refine x_aload_n hC dX4_countedLoop_75 rfl 3 rfl ?_
    obtain ⟨h27, hr⟩ := it_s hr
    refine gf_X4_25 hC hi0 h27 dX4_countedLoop_76 ?_
    refine gf_X4_166 hC h27.2 dX4_countedLoop_79 ?_
    refine x_istore hC [(5, .int (M24 (rid (M24 i0 3)) 2)), (4, .int (M18 (rid (M18 i0 3)) 2)), (3, .int x8), (2, .int (M1 i0 4)), (0, .ref (G.2.1 i0)), (1, .int a1)] dX4_countedLoop_82  (Nat.le_of_ble_eq_true rfl) rfl ?_
    refine x_aload_n hC dX4_countedLoop_84 rfl 4 rfl ?_
    obtain ⟨h28, hr⟩ := it_s hr
    refine gf_X4_25 hC hi0 h28 dX4_countedLoop_85 ?_
    refine x_bipush hC (37 : Int32) dX4_countedLoop_88 (by decide) ?_
    refine x_iconst hC (0 : Int32) dX4_countedLoop_90 (by decide) ?_
    obtain ⟨x29, M30, q31, hr⟩ := bd2_s hr
    refine x_callV (ci := 2) (q := (RX5, TX5, 7)) (As := [.int (37 : Int32), .int (0 : Int32)]) hC (c_X5_emit l G M24 h28.2 (37 : Int32) (0 : Int32) q31) kc_yX5_emit km_X4_107 ki_yX5_emit kv_yX5_emit kn_RX5 ky_yX5_emit rfl ⟨rfl, rfl⟩ ⟨rn_f (Nat.le_of_ble_eq_true rfl), rn_l (Nat.le_of_ble_eq_true rfl)⟩ h28.2 (by decide) rfl rfl (Nat.le_of_ble_eq_true rfl) ⟨(Nat.le_of_ble_eq_true rfl), (Nat.le_of_ble_eq_true rfl)⟩ dX4_countedLoop_91 (fun b32 => ?_)
    refine x_pop hC dX4_countedLoop_94 rfl ?_
    refine x_aload_n hC dX4_countedLoop_95 rfl 4 rfl ?_
    refine x_iload_n hC dX4_countedLoop_96 rfl 5 rfl ?_
    obtain ⟨x33, M34, q35, hr⟩ := bd2_s hr
    refine x_callV (ci := 7) (q := (RX4, TX4, 7)) (As := [.int a1]) hC (hrec.1 hi0 a1 q35) kc_yX4_block km_X4_102 ki_yX4_block kv_yX4_block kn_RX4 ky_yX4_block rfl ⟨rfl, rfl⟩ ⟨rn_gf, rn_gl (Nat.le_of_ble_eq_true rfl)⟩ hi0 (by decide) rfl rfl (Nat.le_of_ble_eq_true rfl) ⟨(Nat.le_of_ble_eq_true rfl), (Nat.le_of_ble_eq_true rfl)⟩ dX4_countedLoop_97 (fun b36 => ?_)
    refine x_if_ne hC 105 dX4_countedLoop_100 (by decide) (fun h37 => ?_) (fun h37 => ?_)
    · have hr := (ie_s hr).2 h37
      refine x_aload_n hC dX4_countedLoop_105 rfl 4 rfl ?_
      obtain ⟨h38, hr⟩ := it_s hr
      refine gf_X4_25 hC hi0 h38 dX4_countedLoop_106 ?_
      refine x_bipush hC (38 : Int32) dX4_countedLoop_109 (by decide) ?_
      refine x_iload hC dX4_countedLoop_111 1 rfl ?_
      obtain ⟨x39, M40, q41, hr⟩ := bd2_s hr
      refine x_callV (ci := 2) (q := (RX5, TX5, 7)) (As := [.int (38 : Int32), .int (M18 (rid (M18 i0 3)) 2)]) hC (c_X5_emit l G M34 h38.2 (38 : Int32) (M18 (rid (M18 i0 3)) 2) q41) kc_yX5_emit km_X4_107 ki_yX5_emit kv_yX5_emit kn_RX5 ky_yX5_emit rfl ⟨rfl, rfl⟩ ⟨rn_f (Nat.le_of_ble_eq_true rfl), rn_l (Nat.le_of_ble_eq_true rfl)⟩ h38.2 (by decide) rfl rfl (Nat.le_of_ble_eq_true rfl) ⟨(Nat.le_of_ble_eq_true rfl), (Nat.le_of_ble_eq_true rfl)⟩ dX4_countedLoop_113 (fun b42 => ?_)
      refine x_pop hC dX4_countedLoop_116 rfl ?_
      refine x_aload_n hC dX4_countedLoop_117 rfl 4 rfl ?_
      obtain ⟨h43, hr⟩ := it_s hr
      refine gf_X4_25 hC hi0 h43 dX4_countedLoop_118 ?_
      refine x_iload hC dX4_countedLoop_121 0 rfl ?_
      obtain ⟨M44, q45, hr⟩ := bd1_s hr
      refine x_callV (ci := 2) (q := (RX5, TX5, 7)) (As := [.int (M24 (rid (M24 i0 3)) 2)]) hC (c_X5_leadHere l G M40 h43.2 (M24 (rid (M24 i0 3)) 2) q45) kc_yX5_leadHere km_X4_172 ki_yX5_leadHere kv_yX5_leadHere kn_RX5 ky_yX5_leadHere rfl ⟨rfl, rfl⟩ ⟨rn_f (Nat.le_of_ble_eq_true rfl), rn_l (Nat.le_of_ble_eq_true rfl)⟩ h43.2 (by decide) rfl rfl (Nat.le_of_ble_eq_true rfl) ⟨(Nat.le_of_ble_eq_true rfl), (Nat.le_of_ble_eq_true rfl)⟩ dX4_countedLoop_123 (fun b46 => ?_)
      refine x_iconst hC (1 : Int32) dX4_countedLoop_126 (by decide) ?_
      cases hr
      exact x_zret hC rfl (Or.inr rfl) dX4_countedLoop_127
    · have hr := (ie_s hr).1 h37
      refine x_iconst hC (0 : Int32) dX4_countedLoop_103 (by decide) ?_
      cases hr
      exact x_zret hC rfl (Or.inl rfl) dX4_countedLoop_104
  · have hr := (ie_s hr).1 h7
    refine x_iconst hC (0 : Int32) dX4_countedLoop_24 (by decide) ?_
    cases hr
    exact x_zret hC rfl (Or.inl rfl) dX4_countedLoop_25

theorem dX4_testedLoop_0 : decode cX4_testedLoop 0 = .ok (.aload_n 0, 1) := by decide +kernel
theorem dX4_testedLoop_1 : decode cX4_testedLoop 1 = .ok (.dup, 1) := by decide +kernel
theorem dX4_testedLoop_2 : decode cX4_testedLoop 2 = .ok (.getfield 43, 3) := by decide +kernel
theorem dX4_testedLoop_5 : decode cX4_testedLoop 5 = .ok (.iconst 1, 1) := by decide +kernel
theorem dX4_testedLoop_6 : decode cX4_testedLoop 6 = .ok (.iadd, 1) := by decide +kernel
theorem dX4_testedLoop_7 : decode cX4_testedLoop 7 = .ok (.putfield 43, 3) := by decide +kernel
theorem dX4_testedLoop_10 : decode cX4_testedLoop 10 = .ok (.aload_n 0, 1) := by decide +kernel
theorem dX4_testedLoop_11 : decode cX4_testedLoop 11 = .ok (.getfield 25, 3) := by decide +kernel
theorem dX4_testedLoop_14 : decode cX4_testedLoop 14 = .ok (.getfield 166, 3) := by decide +kernel
theorem dX4_testedLoop_17 : decode cX4_testedLoop 17 = .ok (.istore_n 2, 1) := by decide +kernel
theorem dX4_testedLoop_18 : decode cX4_testedLoop 18 = .ok (.aload_n 0, 1) := by decide +kernel
theorem dX4_testedLoop_19 : decode cX4_testedLoop 19 = .ok (.iload_n 1, 1) := by decide +kernel
theorem dX4_testedLoop_20 : decode cX4_testedLoop 20 = .ok (.invokevirtual 163, 3) := by decide +kernel
theorem dX4_testedLoop_23 : decode cX4_testedLoop 23 = .ok (.ifCond .ne 5, 3) := by decide +kernel
theorem dX4_testedLoop_26 : decode cX4_testedLoop 26 = .ok (.iconst 0, 1) := by decide +kernel
theorem dX4_testedLoop_27 : decode cX4_testedLoop 27 = .ok (.ireturn, 1) := by decide +kernel
theorem dX4_testedLoop_28 : decode cX4_testedLoop 28 = .ok (.aload_n 0, 1) := by decide +kernel
theorem dX4_testedLoop_29 : decode cX4_testedLoop 29 = .ok (.getfield 25, 3) := by decide +kernel
theorem dX4_testedLoop_32 : decode cX4_testedLoop 32 = .ok (.getfield 166, 3) := by decide +kernel
theorem dX4_testedLoop_35 : decode cX4_testedLoop 35 = .ok (.istore_n 3, 1) := by decide +kernel
theorem dX4_testedLoop_36 : decode cX4_testedLoop 36 = .ok (.aload_n 0, 1) := by decide +kernel
theorem dX4_testedLoop_37 : decode cX4_testedLoop 37 = .ok (.getfield 25, 3) := by decide +kernel
theorem dX4_testedLoop_40 : decode cX4_testedLoop 40 = .ok (.bipush 35, 2) := by decide +kernel
theorem dX4_testedLoop_42 : decode cX4_testedLoop 42 = .ok (.iconst 0, 1) := by decide +kernel
theorem dX4_testedLoop_43 : decode cX4_testedLoop 43 = .ok (.invokevirtual 107, 3) := by decide +kernel
theorem dX4_testedLoop_46 : decode cX4_testedLoop 46 = .ok (.pop, 1) := by decide +kernel
theorem dX4_testedLoop_47 : decode cX4_testedLoop 47 = .ok (.aload_n 0, 1) := by decide +kernel
theorem dX4_testedLoop_48 : decode cX4_testedLoop 48 = .ok (.iload_n 1, 1) := by decide +kernel
theorem dX4_testedLoop_49 : decode cX4_testedLoop 49 = .ok (.invokevirtual 102, 3) := by decide +kernel
theorem dX4_testedLoop_52 : decode cX4_testedLoop 52 = .ok (.ifCond .ne 5, 3) := by decide +kernel
theorem dX4_testedLoop_55 : decode cX4_testedLoop 55 = .ok (.iconst 0, 1) := by decide +kernel
theorem dX4_testedLoop_56 : decode cX4_testedLoop 56 = .ok (.ireturn, 1) := by decide +kernel
theorem dX4_testedLoop_57 : decode cX4_testedLoop 57 = .ok (.aload_n 0, 1) := by decide +kernel
theorem dX4_testedLoop_58 : decode cX4_testedLoop 58 = .ok (.getfield 25, 3) := by decide +kernel
theorem dX4_testedLoop_61 : decode cX4_testedLoop 61 = .ok (.bipush 38, 2) := by decide +kernel
theorem dX4_testedLoop_63 : decode cX4_testedLoop 63 = .ok (.iload_n 2, 1) := by decide +kernel
theorem dX4_testedLoop_64 : decode cX4_testedLoop 64 = .ok (.invokevirtual 107, 3) := by decide +kernel
theorem dX4_testedLoop_67 : decode cX4_testedLoop 67 = .ok (.pop, 1) := by decide +kernel
theorem dX4_testedLoop_68 : decode cX4_testedLoop 68 = .ok (.aload_n 0, 1) := by decide +kernel
theorem dX4_testedLoop_69 : decode cX4_testedLoop 69 = .ok (.getfield 25, 3) := by decide +kernel
theorem dX4_testedLoop_72 : decode cX4_testedLoop 72 = .ok (.iload_n 3, 1) := by decide +kernel
theorem dX4_testedLoop_73 : decode cX4_testedLoop 73 = .ok (.invokevirtual 172, 3) := by decide +kernel
theorem dX4_testedLoop_76 : decode cX4_testedLoop 76 = .ok (.iconst 1, 1) := by decide +kernel
theorem dX4_testedLoop_77 : decode cX4_testedLoop 77 = .ok (.ireturn, 1) := by decide +kernel

def f_X4_testedLoop (rec : Nat → Nat → Int32 → Mm → Option (Int32 × Mm)) (i0 : Nat) (a1 : Int32) (M : Mm) : Option (Int32 × Mm) :=
  lz (wr M i0 4 ((M i0 4) + (1 : Int32))) fun M1 => if okr 2 (M1 i0 3) then (bd2 (rec 5 i0 a1 M1) fun x4 M5 => if (x4 = 0) then (some ((0 : Int32), M5)) else (if okr 2 (M5 i0 3) then (if okr 2 (M5 i0 3) then (bd2 (f_X5_emit (rid (M5 i0 3)) (35 : Int32) (0 : Int32) M5) fun x11 M12 => bd2 (rec 0 i0 a1 M12) fun x15 M16 => if (x15 = 0) then (some ((0 : Int32), M16)) else (if okr 2 (M16 i0 3) then (bd2 (f_X5_emit (rid (M16 i0 3)) (38 : Int32) (M1 (rid (M1 i0 3)) 2) M16) fun x21 M22 => if okr 2 (M22 i0 3) then (bd1 (f_X5_leadHere (rid (M22 i0 3)) (M5 (rid (M5 i0 3)) 2) M22) fun M26 => some ((1 : Int32), M26)) else none) else none)) else none) else none)) else none

set_option maxHeartbeats 4000000 in
set_option maxRecDepth 100000 in
theorem c_X4_testedLoop (l : Launch) (G : GG) (M : Mm) (rec : Nat → Nat → Int32 → Mm → Option (Int32 × Mm)) {nr : Nat} (hrec : OK_P4 l G rec (RMn nr)) {i0 : Nat} (hi0 : (kd i0).1 = 7) (a1 : Int32) {r : Int32} {M9 : Mm} (hr : f_X4_testedLoop rec i0 a1 M = some (r, M9)) : Mo true l yX4_testedLoop (WS yX4_testedLoop cX4_testedLoop 4 (some .boolean)) (RMn (nr + 1)) 0 0 [.ref (G.2.1 i0), .int a1] G M (some (.int r)) M9 := by
  refine Mo.of (by decide +kernel) (Nat.le_of_ble_eq_true rfl) ?_
  intro p e s m args below meth c hC
  have hC : CX p s m args meth c cX4_testedLoop 4 RX4 (some .boolean) G := hC
  rw [f_X4_testedLoop] at hr
  show XJ p l e (RMn (nr + 1)) s m args below meth c G 4 _ 0 0 M 0 [(0, .ref (G.2.1 i0)), (1, .int a1)] []
  refine x_aload_n hC dX4_testedLoop_0 rfl 0 rfl ?_
  refine x_dup hC dX4_testedLoop_1 rfl ?_
  refine gf_X4_43 hC hi0 dX4_testedLoop_2 ?_
  refine x_iconst hC (1 : Int32) dX4_testedLoop_5 (by decide) ?_
  refine x_iadd hC dX4_testedLoop_6 ?_
  obtain ⟨M1, e2, hr⟩ := lz_s hr
  refine pf_X4_43 hC hi0 e2 dX4_testedLoop_7 ?_
  refine x_aload_n hC dX4_testedLoop_10 rfl 0 rfl ?_
  obtain ⟨h3, hr⟩ := it_s hr
  refine gf_X4_25 hC hi0 h3 dX4_testedLoop_11 ?_
  refine gf_X4_166 hC h3.2 dX4_testedLoop_14 ?_
  refine x_istore_n hC [(2, .int (M1 (rid (M1 i0 3)) 2)), (0, .ref (G.2.1 i0)), (1, .int a1)] dX4_testedLoop_17 rfl (Nat.le_of_ble_eq_true rfl) rfl ?_
  refine x_aload_n hC dX4_testedLoop_18 rfl 1 rfl ?_
  refine x_iload_n hC dX4_testedLoop_19 rfl 2 rfl ?_
  obtain ⟨x4, M5, q6, hr⟩ := bd2_s hr
  refine x_callV (ci := 7) (q := (RX4, TX4, 7)) (As := [.int a1]) hC (hrec.2.2.2.2.2.1 hi0 a1 q6) kc_yX4_test km_X4_163 ki_yX4_test kv_yX4_test kn_RX4 ky_yX4_test rfl ⟨rfl, rfl⟩ ⟨rn_gf, rn_gl (Nat.le_of_ble_eq_true rfl)⟩ hi0 (by decide) rfl rfl (Nat.le_of_ble_eq_true rfl) ⟨(Nat.le_of_ble_eq_true rfl), (Nat.le_of_ble_eq_true rfl)⟩ dX4_testedLoop_20 (fun b7 => ?_)
  refine x_if_ne hC 28 dX4_testedLoop_23 (by decide) (fun h8 => ?_) (fun h8 => ?_)
  · have hr := (ie_s hr).2 h8
    refine x_aload_n hC dX4_testedLoop_28 rfl 1 rfl ?_
    obtain ⟨h9, hr⟩ := it_s hr
    refine gf_X4_25 hC hi0 h9 dX4_testedLoop_29 ?_
    refine gf_X4_166 hC h9.2 dX4_testedLoop_32 ?_
    refine x_istore_n hC [(3, .int (M5 (rid (M5 i0 3)) 2)), (2, .int (M1 (rid (M1 i0 3)) 2)), (0, .ref (G.2.1 i0)), (1, .int a1)] dX4_testedLoop_35 rfl (Nat.le_of_ble_eq_true rfl) rfl ?_
    refine x_aload_n hC dX4_testedLoop_36 rfl 2 rfl ?_
    obtain ⟨h10, hr⟩ := it_s hr
    refine gf_X4_25 hC hi0 h10 dX4_testedLoop_37 ?_
    refine x_bipush hC (35 : Int32) dX4_testedLoop_40 (by decide) ?_
    refine x_iconst hC (0 : Int32) dX4_testedLoop_42 (by decide) ?_
    obtain ⟨x11, M12, q13, hr⟩ := bd2_s hr
    refine x_callV (ci := 2) (q := (RX5, TX5, 7)) (As := [.int (35 : Int32), .int (0 : Int32)]) hC (c_X5_emit l G M5 h10.2 (35 : Int32) (0 : Int32) q13) kc_yX5_emit km_X4_107 ki_yX5_emit kv_yX5_emit kn_RX5 ky_yX5_emit rfl ⟨rfl, rfl⟩ ⟨rn_f (Nat.le_of_ble_eq_true rfl), rn_l (Nat.le_of_ble_eq_true rfl)⟩ h10.2 (by decide) rfl rfl (Nat.le_of_ble_eq_true rfl) ⟨(Nat.le_of_ble_eq_true rfl), (Nat.le_of_ble_eq_true rfl)⟩ dX4_testedLoop_43 (fun b14 => ?_)
    refine x_pop hC dX4_testedLoop_46 rfl ?_
    refine x_aload_n hC dX4_testedLoop_47 rfl 2 rfl ?_
    refine x_iload_n hC dX4_testedLoop_48 rfl 3 rfl ?_
    obtain ⟨x15, M16, q17, hr⟩ := bd2_s hr
    refine x_callV (ci := 7) (q := (RX4, TX4, 7)) (As := [.int a1]) hC (hrec.1 hi0 a1 q17) kc_yX4_block km_X4_102 ki_yX4_block kv_yX4_block kn_RX4 ky_yX4_block rfl ⟨rfl, rfl⟩ ⟨rn_gf, rn_gl (Nat.le_of_ble_eq_true rfl)⟩ hi0 (by decide) rfl rfl (Nat.le_of_ble_eq_true rfl) ⟨(Nat.le_of_ble_eq_true rfl), (Nat.le_of_ble_eq_true rfl)⟩ dX4_testedLoop_49 (fun b18 => ?_)
    refine x_if_ne hC 57 dX4_testedLoop_52 (by decide) (fun h19 => ?_) (fun h19 => ?_)
    · have hr := (ie_s hr).2 h19
      refine x_aload_n hC dX4_testedLoop_57 rfl 2 rfl ?_
      obtain ⟨h20, hr⟩ := it_s hr
      refine gf_X4_25 hC hi0 h20 dX4_testedLoop_58 ?_
      refine x_bipush hC (38 : Int32) dX4_testedLoop_61 (by decide) ?_
      refine x_iload_n hC dX4_testedLoop_63 rfl 1 rfl ?_
      obtain ⟨x21, M22, q23, hr⟩ := bd2_s hr
      refine x_callV (ci := 2) (q := (RX5, TX5, 7)) (As := [.int (38 : Int32), .int (M1 (rid (M1 i0 3)) 2)]) hC (c_X5_emit l G M16 h20.2 (38 : Int32) (M1 (rid (M1 i0 3)) 2) q23) kc_yX5_emit km_X4_107 ki_yX5_emit kv_yX5_emit kn_RX5 ky_yX5_emit rfl ⟨rfl, rfl⟩ ⟨rn_f (Nat.le_of_ble_eq_true rfl), rn_l (Nat.le_of_ble_eq_true rfl)⟩ h20.2 (by decide) rfl rfl (Nat.le_of_ble_eq_true rfl) ⟨(Nat.le_of_ble_eq_true rfl), (Nat.le_of_ble_eq_true rfl)⟩ dX4_testedLoop_64 (fun b24 => ?_)
      refine x_pop hC dX4_testedLoop_67 rfl ?_
      refine x_aload_n hC dX4_testedLoop_68 rfl 2 rfl ?_
      obtain ⟨h25, hr⟩ := it_s hr
      refine gf_X4_25 hC hi0 h25 dX4_testedLoop_69 ?_
      refine x_iload_n hC dX4_testedLoop_72 rfl 0 rfl ?_
      obtain ⟨M26, q27, hr⟩ := bd1_s hr
      refine x_callV (ci := 2) (q := (RX5, TX5, 7)) (As := [.int (M5 (rid (M5 i0 3)) 2)]) hC (c_X5_leadHere l G M22 h25.2 (M5 (rid (M5 i0 3)) 2) q27) kc_yX5_leadHere km_X4_172 ki_yX5_leadHere kv_yX5_leadHere kn_RX5 ky_yX5_leadHere rfl ⟨rfl, rfl⟩ ⟨rn_f (Nat.le_of_ble_eq_true rfl), rn_l (Nat.le_of_ble_eq_true rfl)⟩ h25.2 (by decide) rfl rfl (Nat.le_of_ble_eq_true rfl) ⟨(Nat.le_of_ble_eq_true rfl), (Nat.le_of_ble_eq_true rfl)⟩ dX4_testedLoop_73 (fun b28 => ?_)
      refine x_iconst hC (1 : Int32) dX4_testedLoop_76 (by decide) ?_
      cases hr
      exact x_zret hC rfl (Or.inr rfl) dX4_testedLoop_77
    · have hr := (ie_s hr).1 h19
      refine x_iconst hC (0 : Int32) dX4_testedLoop_55 (by decide) ?_
      cases hr
      exact x_zret hC rfl (Or.inl rfl) dX4_testedLoop_56
  · have hr := (ie_s hr).1 h8
    refine x_iconst hC (0 : Int32) dX4_testedLoop_26 (by decide) ?_
    cases hr
    exact x_zret hC rfl (Or.inl rfl) dX4_testedLoop_27

theorem dX4_test_0 : decode cX4_test 0 = .ok (.aload_n 0, 1) := by decide +kernel
theorem dX4_test_1 : decode cX4_test 1 = .ok (.iload_n 1, 1) := by decide +kernel
theorem dX4_test_2 : decode cX4_test 2 = .ok (.invokevirtual 175, 3) := by decide +kernel
theorem dX4_test_5 : decode cX4_test 5 = .ok (.istore_n 2, 1) := by decide +kernel
theorem dX4_test_6 : decode cX4_test 6 = .ok (.iconst 0, 1) := by decide +kernel
theorem dX4_test_7 : decode cX4_test 7 = .ok (.istore_n 3, 1) := by decide +kernel
theorem dX4_test_8 : decode cX4_test 8 = .ok (.iload_n 3, 1) := by decide +kernel
theorem dX4_test_9 : decode cX4_test 9 = .ok (.sipush 400, 3) := by decide +kernel
theorem dX4_test_12 : decode cX4_test 12 = .ok (.if_icmp .ge 60, 3) := by decide +kernel
theorem dX4_test_15 : decode cX4_test 15 = .ok (.iload_n 2, 1) := by decide +kernel
theorem dX4_test_16 : decode cX4_test 16 = .ok (.ifCond .eq 56, 3) := by decide +kernel
theorem dX4_test_19 : decode cX4_test 19 = .ok (.aload_n 0, 1) := by decide +kernel
theorem dX4_test_20 : decode cX4_test 20 = .ok (.invokevirtual 49, 3) := by decide +kernel
theorem dX4_test_23 : decode cX4_test 23 = .ok (.getstatic 178, 3) := by decide +kernel
theorem dX4_test_26 : decode cX4_test 26 = .ok (.if_acmp .ne 46, 3) := by decide +kernel
theorem dX4_test_29 : decode cX4_test 29 = .ok (.aload_n 0, 1) := by decide +kernel
theorem dX4_test_30 : decode cX4_test 30 = .ok (.dup, 1) := by decide +kernel
theorem dX4_test_31 : decode cX4_test 31 = .ok (.getfield 43, 3) := by decide +kernel
theorem dX4_test_34 : decode cX4_test 34 = .ok (.iconst 1, 1) := by decide +kernel
theorem dX4_test_35 : decode cX4_test 35 = .ok (.iadd, 1) := by decide +kernel
theorem dX4_test_36 : decode cX4_test 36 = .ok (.putfield 43, 3) := by decide +kernel
theorem dX4_test_39 : decode cX4_test 39 = .ok (.aload_n 0, 1) := by decide +kernel
theorem dX4_test_40 : decode cX4_test 40 = .ok (.iload_n 1, 1) := by decide +kernel
theorem dX4_test_41 : decode cX4_test 41 = .ok (.invokevirtual 175, 3) := by decide +kernel
theorem dX4_test_44 : decode cX4_test 44 = .ok (.ifCond .eq 20, 3) := by decide +kernel
theorem dX4_test_47 : decode cX4_test 47 = .ok (.aload_n 0, 1) := by decide +kernel
theorem dX4_test_48 : decode cX4_test 48 = .ok (.getfield 25, 3) := by decide +kernel
theorem dX4_test_51 : decode cX4_test 51 = .ok (.bipush 15, 2) := by decide +kernel
theorem dX4_test_53 : decode cX4_test 53 = .ok (.iconst 0, 1) := by decide +kernel
theorem dX4_test_54 : decode cX4_test 54 = .ok (.invokevirtual 107, 3) := by decide +kernel
theorem dX4_test_57 : decode cX4_test 57 = .ok (.ifCond .eq 7, 3) := by decide +kernel
theorem dX4_test_60 : decode cX4_test 60 = .ok (.iconst 1, 1) := by decide +kernel
theorem dX4_test_61 : decode cX4_test 61 = .ok (.goto 4, 3) := by decide +kernel
theorem dX4_test_64 : decode cX4_test 64 = .ok (.iconst 0, 1) := by decide +kernel
theorem dX4_test_65 : decode cX4_test 65 = .ok (.istore_n 2, 1) := by decide +kernel
theorem dX4_test_66 : decode cX4_test 66 = .ok (.iinc 3 1, 3) := by decide +kernel
theorem dX4_test_69 : decode cX4_test 69 = .ok (.goto (-61), 3) := by decide +kernel
theorem dX4_test_72 : decode cX4_test 72 = .ok (.iload_n 2, 1) := by decide +kernel
theorem dX4_test_73 : decode cX4_test 73 = .ok (.ireturn, 1) := by decide +kernel
def f_X4_test_L8 (rec : Nat → Nat → Int32 → Mm → Option (Int32 × Mm)) (i0 : Nat) (a1 : Int32) : Nat → Int32 → Int32 → Mm → Option (Int32 × Mm)
  | 0, _, _, _ => none
  | n + 1, v2, v3, M =>
    if ((400 : Int32) ≤ v3) then (some (v2, M)) else (if (v2 = 0) then (some (v2, M)) else (bd1 (f_X4_kind i0 M) fun x7 => if tkc x7 then (if (x7 = (1028 : Int32)) then (lz (wr M i0 4 ((M i0 4) + (1 : Int32))) fun M12 => bd2 (rec 6 i0 a1 M12) fun x14 M15 => bd2 (if (x14 = 0) then (some ((0 : Int32), M15)) else (if okr 2 (M15 i0 3) then (bd2 (f_X5_emit (rid (M15 i0 3)) (15 : Int32) (0 : Int32) M15) fun x21 M22 => if (x21 = 0) then (some ((0 : Int32), M22)) else (some ((1 : Int32), M22))) else none)) fun x26 M27 => lz (v3 + (1 : Int32)) fun x29 => f_X4_test_L8 rec i0 a1 n x26 x29 M27) else (some (v2, M))) else none))
def f_X4_test (rec : Nat → Nat → Int32 → Mm → Option (Int32 × Mm)) (i0 : Nat) (a1 : Int32) (M : Mm) : Option (Int32 × Mm) :=
  bd2 (rec 6 i0 a1 M) fun x1 M2 => bd2 (f_X4_test_L8 rec i0 a1 FU x1 (0 : Int32) M2) fun x32 M33 => if (x32 = 0 ∨ x32 = 1) then (some (x32, M33)) else none
set_option maxHeartbeats 4000000 in
set_option maxRecDepth 100000 in
theorem l_X4_test_L8 {p : Program} {e : Env} {s : State} {m : MethodId} {args : Array Value} {below : List Frame} {meth : Method} {c : Code} {l : Launch} {G : GG} {Q : State → Prop} (hC : CX p s m args meth c cX4_test 4 RX4 (some .boolean) G) (rec : Nat → Nat → Int32 → Mm → Option (Int32 × Mm)) {nr : Nat} (hrec : OK_P4 l G rec (RMn nr)) {i0 : Nat} (hi0 : (kd i0).1 = 7) (a1 : Int32) : ∀ (n : Nat) (v2 : Int32) (v3 : Int32) (M : Mm) {o2 : Int32} {M2 : Mm} (hr : f_X4_test_L8 rec i0 a1 n v2 v3 M = some (o2, M2)) (K : XJ p l e (RMn (nr + 1)) s m args below meth c G 4 Q 0 0 M2 72 [(2, .int o2)] []), XJ p l e (RMn (nr + 1)) s m args below meth c G 4 Q 0 0 M 8 [(0, .ref (G.2.1 i0)), (1, .int a1), (2, .int v2), (3, .int v3)] [] := by
  intro n
  induction n with
  | zero => intro v2 v3 M o2 M2 hr K; rw [f_X4_test_L8] at hr; cases hr
  | succ n ih =>
    intro v2 v3 M o2 M2 hr K
    rw [f_X4_test_L8] at hr
    refine x_iload_n hC dX4_test_8 rfl 3 rfl ?_
    refine x_sipush hC (400 : Int32) dX4_test_9 (by decide) ?_
    refine x_icmp_ge hC 72 dX4_test_12 (by decide) (fun h5 => ?_) (fun h5 => ?_)
    · have hr := (ie_s hr).1 h5
      cases hr
      exact x_sub [2] rfl K
    · have hr := (ie_s hr).2 h5
      refine x_iload_n hC dX4_test_15 rfl 2 rfl ?_
      refine x_if_eq hC 72 dX4_test_16 (by decide) (fun h6 => ?_) (fun h6 => ?_)
      · have hr := (ie_s hr).1 h6
        cases hr
        exact x_sub [2] rfl K
      · have hr := (ie_s hr).2 h6
        refine x_aload_n hC dX4_test_19 rfl 0 rfl ?_
        obtain ⟨x7, q8, hr⟩ := bd1_s hr
        refine x_callV (ci := 7) (q := (RX4, TX4, 7)) (As := []) hC (c_X4_kind l G M hi0 q8) kc_yX4_kind km_X4_49 ki_yX4_kind kv_yX4_kind kn_RX4 ky_yX4_kind rfl ⟨rfl, rfl⟩ ⟨rn_f (Nat.le_of_ble_eq_true rfl), rn_l (Nat.le_of_ble_eq_true rfl)⟩ hi0 (by decide) rfl rfl (Nat.le_of_ble_eq_true rfl) ⟨(Nat.le_of_ble_eq_true rfl), (Nat.le_of_ble_eq_true rfl)⟩ dX4_test_20 (fun b9 => ?_)
        refine x_tgets hC (a := (1028 : Int32)) 27 (by decide) rfl (by decide) kf_X4_178 dX4_test_23 ?_
        obtain ⟨h10, hr⟩ := it_s hr
        refine x_acmp_ne hC 72 ⟨h10, (by decide)⟩ dX4_test_26 (by decide) (fun h11 => ?_) (fun h11 => ?_)
        · have hr := (ie_s hr).2 h11
          cases hr
          exact x_sub [2] rfl K
        · have hr := (ie_s hr).1 h11
          refine x_aload_n hC dX4_test_29 rfl 0 rfl ?_
          refine x_dup hC dX4_test_30 rfl ?_
          refine gf_X4_43 hC hi0 dX4_test_31 ?_
          refine x_iconst hC (1 : Int32) dX4_test_34 (by decide) ?_
          refine x_iadd hC dX4_test_35 ?_
          obtain ⟨M12, e13, hr⟩ := lz_s hr
          refine pf_X4_43 hC hi0 e13 dX4_test_36 ?_
          refine x_aload_n hC dX4_test_39 rfl 0 rfl ?_
          refine x_iload_n hC dX4_test_40 rfl 1 rfl ?_
          obtain ⟨x14, M15, q16, hr⟩ := bd2_s hr
          refine x_callV (ci := 7) (q := (RX4, TX4, 7)) (As := [.int a1]) hC (hrec.2.2.2.2.2.2.1 hi0 a1 q16) kc_yX4_both km_X4_175 ki_yX4_both kv_yX4_both kn_RX4 ky_yX4_both rfl ⟨rfl, rfl⟩ ⟨rn_gf, rn_gl (Nat.le_of_ble_eq_true rfl)⟩ hi0 (by decide) rfl rfl (Nat.le_of_ble_eq_true rfl) ⟨(Nat.le_of_ble_eq_true rfl), (Nat.le_of_ble_eq_true rfl)⟩ dX4_test_41 (fun b17 => ?_)
          obtain ⟨x26, M27, q18, hr⟩ := bd2_s hr
          refine x_joinB (P := (x26 = 0 ∨ x26 = 1)) (M' := M27) (pc' := 65) (lv' := [(0, .ref (G.2.1 i0)), (1, .int a1), (3, .int v3)]) (st' := [.int x26]) ?_ ?_
          · intro b28
            refine x_istore_n hC [(2, .int x26), (0, .ref (G.2.1 i0)), (1, .int a1), (3, .int v3)] dX4_test_65 rfl (Nat.le_of_ble_eq_true rfl) rfl ?_
            obtain ⟨x29, e30, hr⟩ := lz_s hr
            refine x_iinc hC [(3, .int x29), (2, .int x26), (0, .ref (G.2.1 i0)), (1, .int a1)] dX4_test_66 3 rfl (by rw [e30]; rfl) (Nat.le_of_ble_eq_true rfl) rfl ?_
            refine x_goto hC 8 dX4_test_69 (by decide) ?_
            exact x_sub [2, 3, 1, 0] rfl (ih x26 x29 M27 hr K)
          · intro kj
            refine x_if_eq hC 64 dX4_test_44 (by decide) (fun h19 => ?_) (fun h19 => ?_)
            · have q18 := (ie_s q18).1 h19
              refine x_iconst hC (0 : Int32) dX4_test_64 (by decide) ?_
              cases q18
              exact x_sub [0, 1, 3] rfl (kj (Or.inl rfl))
            · have q18 := (ie_s q18).2 h19
              refine x_aload_n hC dX4_test_47 rfl 0 rfl ?_
              obtain ⟨h20, q18⟩ := it_s q18
              refine gf_X4_25 hC hi0 h20 dX4_test_48 ?_
              refine x_bipush hC (15 : Int32) dX4_test_51 (by decide) ?_
              refine x_iconst hC (0 : Int32) dX4_test_53 (by decide) ?_
              obtain ⟨x21, M22, q23, q18⟩ := bd2_s q18
              refine x_callV (ci := 2) (q := (RX5, TX5, 7)) (As := [.int (15 : Int32), .int (0 : Int32)]) hC (c_X5_emit l G M15 h20.2 (15 : Int32) (0 : Int32) q23) kc_yX5_emit km_X4_107 ki_yX5_emit kv_yX5_emit kn_RX5 ky_yX5_emit rfl ⟨rfl, rfl⟩ ⟨rn_f (Nat.le_of_ble_eq_true rfl), rn_l (Nat.le_of_ble_eq_true rfl)⟩ h20.2 (by decide) rfl rfl (Nat.le_of_ble_eq_true rfl) ⟨(Nat.le_of_ble_eq_true rfl), (Nat.le_of_ble_eq_true rfl)⟩ dX4_test_54 (fun b24 => ?_)
              refine x_if_eq hC 64 dX4_test_57 (by decide) (fun h25 => ?_) (fun h25 => ?_)
              · have q18 := (ie_s q18).1 h25
                refine x_iconst hC (0 : Int32) dX4_test_64 (by decide) ?_
                cases q18
                exact x_sub [0, 1, 3] rfl (kj (Or.inl rfl))
              · have q18 := (ie_s q18).2 h25
                refine x_iconst hC (1 : Int32) dX4_test_60 (by decide) ?_
                refine x_goto hC 65 dX4_test_61 (by decide) ?_
                cases q18
                exact x_sub [0, 1, 3] rfl (kj (Or.inr rfl))
set_option maxHeartbeats 4000000 in
set_option maxRecDepth 100000 in
theorem c_X4_test (l : Launch) (G : GG) (M : Mm) (rec : Nat → Nat → Int32 → Mm → Option (Int32 × Mm)) {nr : Nat} (hrec : OK_P4 l G rec (RMn nr)) {i0 : Nat} (hi0 : (kd i0).1 = 7) (a1 : Int32) {r : Int32} {M9 : Mm} (hr : f_X4_test rec i0 a1 M = some (r, M9)) : Mo true l yX4_test (WS yX4_test cX4_test 4 (some .boolean)) (RMn (nr + 1)) 0 0 [.ref (G.2.1 i0), .int a1] G M (some (.int r)) M9 := by
  refine Mo.of (by decide +kernel) (Nat.le_of_ble_eq_true rfl) ?_
  intro p e s m args below meth c hC
  have hC : CX p s m args meth c cX4_test 4 RX4 (some .boolean) G := hC
  rw [f_X4_test] at hr
  show XJ p l e (RMn (nr + 1)) s m args below meth c G 4 _ 0 0 M 0 [(0, .ref (G.2.1 i0)), (1, .int a1)] []
  refine x_aload_n hC dX4_test_0 rfl 0 rfl ?_
  refine x_iload_n hC dX4_test_1 rfl 1 rfl ?_
  obtain ⟨x1, M2, q3, hr⟩ := bd2_s hr
  refine x_callV (ci := 7) (q := (RX4, TX4, 7)) (As := [.int a1]) hC (hrec.2.2.2.2.2.2.1 hi0 a1 q3) kc_yX4_both km_X4_175 ki_yX4_both kv_yX4_both kn_RX4 ky_yX4_both rfl ⟨rfl, rfl⟩ ⟨rn_gf, rn_gl (Nat.le_of_ble_eq_true rfl)⟩ hi0 (by decide) rfl rfl (Nat.le_of_ble_eq_true rfl) ⟨(Nat.le_of_ble_eq_true rfl), (Nat.le_of_ble_eq_true rfl)⟩ dX4_test_2 (fun b4 => ?_)
  refine x_istore_n hC [(2, .int x1), (0, .ref (G.2.1 i0)), (1, .int a1)] dX4_test_5 rfl (Nat.le_of_ble_eq_true rfl) rfl ?_
  refine x_iconst hC (0 : Int32) dX4_test_6 (by decide) ?_
  refine x_istore_n hC [(3, .int (0 : Int32)), (2, .int x1), (0, .ref (G.2.1 i0)), (1, .int a1)] dX4_test_7 rfl (Nat.le_of_ble_eq_true rfl) rfl ?_
  obtain ⟨x32, M33, q31, hr⟩ := bd2_s hr
  refine x_sub [2, 3, 1, 0] rfl (l_X4_test_L8 hC rec hrec hi0 a1 FU  x1 (0 : Int32) M2 q31 ?_)
  refine x_iload_n hC dX4_test_72 rfl 0 rfl ?_
  obtain ⟨h34, hr⟩ := it_s hr
  cases hr
  exact x_zret hC rfl h34 dX4_test_73

theorem dX4_both_0 : decode cX4_both 0 = .ok (.aload_n 0, 1) := by decide +kernel
theorem dX4_both_1 : decode cX4_both 1 = .ok (.iload_n 1, 1) := by decide +kernel
theorem dX4_both_2 : decode cX4_both 2 = .ok (.invokevirtual 181, 3) := by decide +kernel
theorem dX4_both_5 : decode cX4_both 5 = .ok (.istore_n 2, 1) := by decide +kernel
theorem dX4_both_6 : decode cX4_both 6 = .ok (.iconst 0, 1) := by decide +kernel
theorem dX4_both_7 : decode cX4_both 7 = .ok (.istore_n 3, 1) := by decide +kernel
theorem dX4_both_8 : decode cX4_both 8 = .ok (.iload_n 3, 1) := by decide +kernel
theorem dX4_both_9 : decode cX4_both 9 = .ok (.sipush 400, 3) := by decide +kernel
theorem dX4_both_12 : decode cX4_both 12 = .ok (.if_icmp .ge 60, 3) := by decide +kernel
theorem dX4_both_15 : decode cX4_both 15 = .ok (.iload_n 2, 1) := by decide +kernel
theorem dX4_both_16 : decode cX4_both 16 = .ok (.ifCond .eq 56, 3) := by decide +kernel
theorem dX4_both_19 : decode cX4_both 19 = .ok (.aload_n 0, 1) := by decide +kernel
theorem dX4_both_20 : decode cX4_both 20 = .ok (.invokevirtual 49, 3) := by decide +kernel
theorem dX4_both_23 : decode cX4_both 23 = .ok (.getstatic 184, 3) := by decide +kernel
theorem dX4_both_26 : decode cX4_both 26 = .ok (.if_acmp .ne 46, 3) := by decide +kernel
theorem dX4_both_29 : decode cX4_both 29 = .ok (.aload_n 0, 1) := by decide +kernel
theorem dX4_both_30 : decode cX4_both 30 = .ok (.dup, 1) := by decide +kernel
theorem dX4_both_31 : decode cX4_both 31 = .ok (.getfield 43, 3) := by decide +kernel
theorem dX4_both_34 : decode cX4_both 34 = .ok (.iconst 1, 1) := by decide +kernel
theorem dX4_both_35 : decode cX4_both 35 = .ok (.iadd, 1) := by decide +kernel
theorem dX4_both_36 : decode cX4_both 36 = .ok (.putfield 43, 3) := by decide +kernel
theorem dX4_both_39 : decode cX4_both 39 = .ok (.aload_n 0, 1) := by decide +kernel
theorem dX4_both_40 : decode cX4_both 40 = .ok (.iload_n 1, 1) := by decide +kernel
theorem dX4_both_41 : decode cX4_both 41 = .ok (.invokevirtual 181, 3) := by decide +kernel
theorem dX4_both_44 : decode cX4_both 44 = .ok (.ifCond .eq 20, 3) := by decide +kernel
theorem dX4_both_47 : decode cX4_both 47 = .ok (.aload_n 0, 1) := by decide +kernel
theorem dX4_both_48 : decode cX4_both 48 = .ok (.getfield 25, 3) := by decide +kernel
theorem dX4_both_51 : decode cX4_both 51 = .ok (.bipush 14, 2) := by decide +kernel
theorem dX4_both_53 : decode cX4_both 53 = .ok (.iconst 0, 1) := by decide +kernel
theorem dX4_both_54 : decode cX4_both 54 = .ok (.invokevirtual 107, 3) := by decide +kernel
theorem dX4_both_57 : decode cX4_both 57 = .ok (.ifCond .eq 7, 3) := by decide +kernel
theorem dX4_both_60 : decode cX4_both 60 = .ok (.iconst 1, 1) := by decide +kernel
theorem dX4_both_61 : decode cX4_both 61 = .ok (.goto 4, 3) := by decide +kernel
theorem dX4_both_64 : decode cX4_both 64 = .ok (.iconst 0, 1) := by decide +kernel
theorem dX4_both_65 : decode cX4_both 65 = .ok (.istore_n 2, 1) := by decide +kernel
theorem dX4_both_66 : decode cX4_both 66 = .ok (.iinc 3 1, 3) := by decide +kernel
theorem dX4_both_69 : decode cX4_both 69 = .ok (.goto (-61), 3) := by decide +kernel
theorem dX4_both_72 : decode cX4_both 72 = .ok (.iload_n 2, 1) := by decide +kernel
theorem dX4_both_73 : decode cX4_both 73 = .ok (.ireturn, 1) := by decide +kernel
def f_X4_both_L8 (rec : Nat → Nat → Int32 → Mm → Option (Int32 × Mm)) (i0 : Nat) (a1 : Int32) : Nat → Int32 → Int32 → Mm → Option (Int32 × Mm)
  | 0, _, _, _ => none
  | n + 1, v2, v3, M =>
    if ((400 : Int32) ≤ v3) then (some (v2, M)) else (if (v2 = 0) then (some (v2, M)) else (bd1 (f_X4_kind i0 M) fun x7 => if tkc x7 then (if (x7 = (1027 : Int32)) then (lz (wr M i0 4 ((M i0 4) + (1 : Int32))) fun M12 => bd2 (rec 7 i0 a1 M12) fun x14 M15 => bd2 (if (x14 = 0) then (some ((0 : Int32), M15)) else (if okr 2 (M15 i0 3) then (bd2 (f_X5_emit (rid (M15 i0 3)) (14 : Int32) (0 : Int32) M15) fun x21 M22 => if (x21 = 0) then (some ((0 : Int32), M22)) else (some ((1 : Int32), M22))) else none)) fun x26 M27 => lz (v3 + (1 : Int32)) fun x29 => f_X4_both_L8 rec i0 a1 n x26 x29 M27) else (some (v2, M))) else none))
def f_X4_both (rec : Nat → Nat → Int32 → Mm → Option (Int32 × Mm)) (i0 : Nat) (a1 : Int32) (M : Mm) : Option (Int32 × Mm) :=
  bd2 (rec 7 i0 a1 M) fun x1 M2 => bd2 (f_X4_both_L8 rec i0 a1 FU x1 (0 : Int32) M2) fun x32 M33 => if (x32 = 0 ∨ x32 = 1) then (some (x32, M33)) else none
set_option maxHeartbeats 4000000 in
set_option maxRecDepth 100000 in
theorem l_X4_both_L8 {p : Program} {e : Env} {s : State} {m : MethodId} {args : Array Value} {below : List Frame} {meth : Method} {c : Code} {l : Launch} {G : GG} {Q : State → Prop} (hC : CX p s m args meth c cX4_both 4 RX4 (some .boolean) G) (rec : Nat → Nat → Int32 → Mm → Option (Int32 × Mm)) {nr : Nat} (hrec : OK_P4 l G rec (RMn nr)) {i0 : Nat} (hi0 : (kd i0).1 = 7) (a1 : Int32) : ∀ (n : Nat) (v2 : Int32) (v3 : Int32) (M : Mm) {o2 : Int32} {M2 : Mm} (hr : f_X4_both_L8 rec i0 a1 n v2 v3 M = some (o2, M2)) (K : XJ p l e (RMn (nr + 1)) s m args below meth c G 4 Q 0 0 M2 72 [(2, .int o2)] []), XJ p l e (RMn (nr + 1)) s m args below meth c G 4 Q 0 0 M 8 [(0, .ref (G.2.1 i0)), (1, .int a1), (2, .int v2), (3, .int v3)] [] := by
  intro n
  induction n with
  | zero => intro v2 v3 M o2 M2 hr K; rw [f_X4_both_L8] at hr; cases hr
  | succ n ih =>
    intro v2 v3 M o2 M2 hr K
    rw [f_X4_both_L8] at hr
    refine x_iload_n hC dX4_both_8 rfl 3 rfl ?_
    refine x_sipush hC (400 : Int32) dX4_both_9 (by decide) ?_
    refine x_icmp_ge hC 72 dX4_both_12 (by decide) (fun h5 => ?_) (fun h5 => ?_)
    · have hr := (ie_s hr).1 h5
      cases hr
      exact x_sub [2] rfl K
    · have hr := (ie_s hr).2 h5
      refine x_iload_n hC dX4_both_15 rfl 2 rfl ?_
      refine x_if_eq hC 72 dX4_both_16 (by decide) (fun h6 => ?_) (fun h6 => ?_)
      · have hr := (ie_s hr).1 h6
        cases hr
        exact x_sub [2] rfl K
      · have hr := (ie_s hr).2 h6
        refine x_aload_n hC dX4_both_19 rfl 0 rfl ?_
        obtain ⟨x7, q8, hr⟩ := bd1_s hr
        refine x_callV (ci := 7) (q := (RX4, TX4, 7)) (As := []) hC (c_X4_kind l G M hi0 q8) kc_yX4_kind km_X4_49 ki_yX4_kind kv_yX4_kind kn_RX4 ky_yX4_kind rfl ⟨rfl, rfl⟩ ⟨rn_f (Nat.le_of_ble_eq_true rfl), rn_l (Nat.le_of_ble_eq_true rfl)⟩ hi0 (by decide) rfl rfl (Nat.le_of_ble_eq_true rfl) ⟨(Nat.le_of_ble_eq_true rfl), (Nat.le_of_ble_eq_true rfl)⟩ dX4_both_20 (fun b9 => ?_)
        refine x_tgets hC (a := (1027 : Int32)) 26 (by decide) rfl (by decide) kf_X4_184 dX4_both_23 ?_
        obtain ⟨h10, hr⟩ := it_s hr
        refine x_acmp_ne hC 72 ⟨h10, (by decide)⟩ dX4_both_26 (by decide) (fun h11 => ?_) (fun h11 => ?_)
        · have hr := (ie_s hr).2 h11
          cases hr
          exact x_sub [2] rfl K
        · have hr := (ie_s hr).1 h11
          refine x_aload_n hC dX4_both_29 rfl 0 rfl ?_
          refine x_dup hC dX4_both_30 rfl ?_
          refine gf_X4_43 hC hi0 dX4_both_31 ?_
          refine x_iconst hC (1 : Int32) dX4_both_34 (by decide) ?_
          refine x_iadd hC dX4_both_35 ?_
          obtain ⟨M12, e13, hr⟩ := lz_s hr
          refine pf_X4_43 hC hi0 e13 dX4_both_36 ?_
          refine x_aload_n hC dX4_both_39 rfl 0 rfl ?_
          refine x_iload_n hC dX4_both_40 rfl 1 rfl ?_
          obtain ⟨x14, M15, q16, hr⟩ := bd2_s hr
          refine x_callV (ci := 7) (q := (RX4, TX4, 7)) (As := [.int a1]) hC (hrec.2.2.2.2.2.2.2.1 hi0 a1 q16) kc_yX4_single km_X4_181 ki_yX4_single kv_yX4_single kn_RX4 ky_yX4_single rfl ⟨rfl, rfl⟩ ⟨rn_gf, rn_gl (Nat.le_of_ble_eq_true rfl)⟩ hi0 (by decide) rfl rfl (Nat.le_of_ble_eq_true rfl) ⟨(Nat.le_of_ble_eq_true rfl), (Nat.le_of_ble_eq_true rfl)⟩ dX4_both_41 (fun b17 => ?_)
          obtain ⟨x26, M27, q18, hr⟩ := bd2_s hr
          refine x_joinB (P := (x26 = 0 ∨ x26 = 1)) (M' := M27) (pc' := 65) (lv' := [(0, .ref (G.2.1 i0)), (1, .int a1), (3, .int v3)]) (st' := [.int x26]) ?_ ?_
          · intro b28
            refine x_istore_n hC [(2, .int x26), (0, .ref (G.2.1 i0)), (1, .int a1), (3, .int v3)] dX4_both_65 rfl (Nat.le_of_ble_eq_true rfl) rfl ?_
            obtain ⟨x29, e30, hr⟩ := lz_s hr
            refine x_iinc hC [(3, .int x29), (2, .int x26), (0, .ref (G.2.1 i0)), (1, .int a1)] dX4_both_66 3 rfl (by rw [e30]; rfl) (Nat.le_of_ble_eq_true rfl) rfl ?_
            refine x_goto hC 8 dX4_both_69 (by decide) ?_
            exact x_sub [2, 3, 1, 0] rfl (ih x26 x29 M27 hr K)
          · intro kj
            refine x_if_eq hC 64 dX4_both_44 (by decide) (fun h19 => ?_) (fun h19 => ?_)
            · have q18 := (ie_s q18).1 h19
              refine x_iconst hC (0 : Int32) dX4_both_64 (by decide) ?_
              cases q18
              exact x_sub [0, 1, 3] rfl (kj (Or.inl rfl))
            · have q18 := (ie_s q18).2 h19
              refine x_aload_n hC dX4_both_47 rfl 0 rfl ?_
              obtain ⟨h20, q18⟩ := it_s q18
              refine gf_X4_25 hC hi0 h20 dX4_both_48 ?_
              refine x_bipush hC (14 : Int32) dX4_both_51 (by decide) ?_
              refine x_iconst hC (0 : Int32) dX4_both_53 (by decide) ?_
              obtain ⟨x21, M22, q23, q18⟩ := bd2_s q18
              refine x_callV (ci := 2) (q := (RX5, TX5, 7)) (As := [.int (14 : Int32), .int (0 : Int32)]) hC (c_X5_emit l G M15 h20.2 (14 : Int32) (0 : Int32) q23) kc_yX5_emit km_X4_107 ki_yX5_emit kv_yX5_emit kn_RX5 ky_yX5_emit rfl ⟨rfl, rfl⟩ ⟨rn_f (Nat.le_of_ble_eq_true rfl), rn_l (Nat.le_of_ble_eq_true rfl)⟩ h20.2 (by decide) rfl rfl (Nat.le_of_ble_eq_true rfl) ⟨(Nat.le_of_ble_eq_true rfl), (Nat.le_of_ble_eq_true rfl)⟩ dX4_both_54 (fun b24 => ?_)
              refine x_if_eq hC 64 dX4_both_57 (by decide) (fun h25 => ?_) (fun h25 => ?_)
              · have q18 := (ie_s q18).1 h25
                refine x_iconst hC (0 : Int32) dX4_both_64 (by decide) ?_
                cases q18
                exact x_sub [0, 1, 3] rfl (kj (Or.inl rfl))
              · have q18 := (ie_s q18).2 h25
                refine x_iconst hC (1 : Int32) dX4_both_60 (by decide) ?_
                refine x_goto hC 65 dX4_both_61 (by decide) ?_
                cases q18
                exact x_sub [0, 1, 3] rfl (kj (Or.inr rfl))
set_option maxHeartbeats 4000000 in
set_option maxRecDepth 100000 in
theorem c_X4_both (l : Launch) (G : GG) (M : Mm) (rec : Nat → Nat → Int32 → Mm → Option (Int32 × Mm)) {nr : Nat} (hrec : OK_P4 l G rec (RMn nr)) {i0 : Nat} (hi0 : (kd i0).1 = 7) (a1 : Int32) {r : Int32} {M9 : Mm} (hr : f_X4_both rec i0 a1 M = some (r, M9)) : Mo true l yX4_both (WS yX4_both cX4_both 4 (some .boolean)) (RMn (nr + 1)) 0 0 [.ref (G.2.1 i0), .int a1] G M (some (.int r)) M9 := by
  refine Mo.of (by decide +kernel) (Nat.le_of_ble_eq_true rfl) ?_
  intro p e s m args below meth c hC
  have hC : CX p s m args meth c cX4_both 4 RX4 (some .boolean) G := hC
  rw [f_X4_both] at hr
  show XJ p l e (RMn (nr + 1)) s m args below meth c G 4 _ 0 0 M 0 [(0, .ref (G.2.1 i0)), (1, .int a1)] []
  refine x_aload_n hC dX4_both_0 rfl 0 rfl ?_
  refine x_iload_n hC dX4_both_1 rfl 1 rfl ?_
  obtain ⟨x1, M2, q3, hr⟩ := bd2_s hr
  refine x_callV (ci := 7) (q := (RX4, TX4, 7)) (As := [.int a1]) hC (hrec.2.2.2.2.2.2.2.1 hi0 a1 q3) kc_yX4_single km_X4_181 ki_yX4_single kv_yX4_single kn_RX4 ky_yX4_single rfl ⟨rfl, rfl⟩ ⟨rn_gf, rn_gl (Nat.le_of_ble_eq_true rfl)⟩ hi0 (by decide) rfl rfl (Nat.le_of_ble_eq_true rfl) ⟨(Nat.le_of_ble_eq_true rfl), (Nat.le_of_ble_eq_true rfl)⟩ dX4_both_2 (fun b4 => ?_)
  refine x_istore_n hC [(2, .int x1), (0, .ref (G.2.1 i0)), (1, .int a1)] dX4_both_5 rfl (Nat.le_of_ble_eq_true rfl) rfl ?_
  refine x_iconst hC (0 : Int32) dX4_both_6 (by decide) ?_
  refine x_istore_n hC [(3, .int (0 : Int32)), (2, .int x1), (0, .ref (G.2.1 i0)), (1, .int a1)] dX4_both_7 rfl (Nat.le_of_ble_eq_true rfl) rfl ?_
  obtain ⟨x32, M33, q31, hr⟩ := bd2_s hr
  refine x_sub [2, 3, 1, 0] rfl (l_X4_both_L8 hC rec hrec hi0 a1 FU  x1 (0 : Int32) M2 q31 ?_)
  refine x_iload_n hC dX4_both_72 rfl 0 rfl ?_
  obtain ⟨h34, hr⟩ := it_s hr
  cases hr
  exact x_zret hC rfl h34 dX4_both_73

theorem dX4_single_0 : decode cX4_single 0 = .ok (.aload_n 0, 1) := by decide +kernel
theorem dX4_single_1 : decode cX4_single 1 = .ok (.invokevirtual 49, 3) := by decide +kernel
theorem dX4_single_4 : decode cX4_single 4 = .ok (.getstatic 187, 3) := by decide +kernel
theorem dX4_single_7 : decode cX4_single 7 = .ok (.if_acmp .ne 43, 3) := by decide +kernel
theorem dX4_single_10 : decode cX4_single 10 = .ok (.aload_n 0, 1) := by decide +kernel
theorem dX4_single_11 : decode cX4_single 11 = .ok (.getstatic 187, 3) := by decide +kernel
theorem dX4_single_14 : decode cX4_single 14 = .ok (.iload_n 1, 1) := by decide +kernel
theorem dX4_single_15 : decode cX4_single 15 = .ok (.invokevirtual 123, 3) := by decide +kernel
theorem dX4_single_18 : decode cX4_single 18 = .ok (.ifCond .eq 30, 3) := by decide +kernel
theorem dX4_single_21 : decode cX4_single 21 = .ok (.aload_n 0, 1) := by decide +kernel
theorem dX4_single_22 : decode cX4_single 22 = .ok (.iload_n 1, 1) := by decide +kernel
theorem dX4_single_23 : decode cX4_single 23 = .ok (.iconst 1, 1) := by decide +kernel
theorem dX4_single_24 : decode cX4_single 24 = .ok (.iadd, 1) := by decide +kernel
theorem dX4_single_25 : decode cX4_single 25 = .ok (.invokevirtual 181, 3) := by decide +kernel
theorem dX4_single_28 : decode cX4_single 28 = .ok (.ifCond .eq 20, 3) := by decide +kernel
theorem dX4_single_31 : decode cX4_single 31 = .ok (.aload_n 0, 1) := by decide +kernel
theorem dX4_single_32 : decode cX4_single 32 = .ok (.getfield 25, 3) := by decide +kernel
theorem dX4_single_35 : decode cX4_single 35 = .ok (.bipush 13, 2) := by decide +kernel
theorem dX4_single_37 : decode cX4_single 37 = .ok (.iconst 0, 1) := by decide +kernel
theorem dX4_single_38 : decode cX4_single 38 = .ok (.invokevirtual 107, 3) := by decide +kernel
theorem dX4_single_41 : decode cX4_single 41 = .ok (.ifCond .eq 7, 3) := by decide +kernel
theorem dX4_single_44 : decode cX4_single 44 = .ok (.iconst 1, 1) := by decide +kernel
theorem dX4_single_45 : decode cX4_single 45 = .ok (.goto 4, 3) := by decide +kernel
theorem dX4_single_48 : decode cX4_single 48 = .ok (.iconst 0, 1) := by decide +kernel
theorem dX4_single_49 : decode cX4_single 49 = .ok (.ireturn, 1) := by decide +kernel
theorem dX4_single_50 : decode cX4_single 50 = .ok (.aload_n 0, 1) := by decide +kernel
theorem dX4_single_51 : decode cX4_single 51 = .ok (.invokevirtual 49, 3) := by decide +kernel
theorem dX4_single_54 : decode cX4_single 54 = .ok (.getstatic 190, 3) := by decide +kernel
theorem dX4_single_57 : decode cX4_single 57 = .ok (.if_acmp .ne 40, 3) := by decide +kernel
theorem dX4_single_60 : decode cX4_single 60 = .ok (.aload_n 0, 1) := by decide +kernel
theorem dX4_single_61 : decode cX4_single 61 = .ok (.getstatic 190, 3) := by decide +kernel
theorem dX4_single_64 : decode cX4_single 64 = .ok (.iload_n 1, 1) := by decide +kernel
theorem dX4_single_65 : decode cX4_single 65 = .ok (.invokevirtual 123, 3) := by decide +kernel
theorem dX4_single_68 : decode cX4_single 68 = .ok (.ifCond .eq 27, 3) := by decide +kernel
theorem dX4_single_71 : decode cX4_single 71 = .ok (.aload_n 0, 1) := by decide +kernel
theorem dX4_single_72 : decode cX4_single 72 = .ok (.iload_n 1, 1) := by decide +kernel
theorem dX4_single_73 : decode cX4_single 73 = .ok (.iconst 1, 1) := by decide +kernel
theorem dX4_single_74 : decode cX4_single 74 = .ok (.iadd, 1) := by decide +kernel
theorem dX4_single_75 : decode cX4_single 75 = .ok (.invokevirtual 163, 3) := by decide +kernel
theorem dX4_single_78 : decode cX4_single 78 = .ok (.ifCond .eq 17, 3) := by decide +kernel
theorem dX4_single_81 : decode cX4_single 81 = .ok (.aload_n 0, 1) := by decide +kernel
theorem dX4_single_82 : decode cX4_single 82 = .ok (.getstatic 193, 3) := by decide +kernel
theorem dX4_single_85 : decode cX4_single 85 = .ok (.invokevirtual 80, 3) := by decide +kernel
theorem dX4_single_88 : decode cX4_single 88 = .ok (.ifCond .eq 7, 3) := by decide +kernel
theorem dX4_single_91 : decode cX4_single 91 = .ok (.iconst 1, 1) := by decide +kernel
theorem dX4_single_92 : decode cX4_single 92 = .ok (.goto 4, 3) := by decide +kernel
theorem dX4_single_95 : decode cX4_single 95 = .ok (.iconst 0, 1) := by decide +kernel
theorem dX4_single_96 : decode cX4_single 96 = .ok (.ireturn, 1) := by decide +kernel
theorem dX4_single_97 : decode cX4_single 97 = .ok (.aload_n 0, 1) := by decide +kernel
theorem dX4_single_98 : decode cX4_single 98 = .ok (.iload_n 1, 1) := by decide +kernel
theorem dX4_single_99 : decode cX4_single 99 = .ok (.invokevirtual 142, 3) := by decide +kernel
theorem dX4_single_102 : decode cX4_single 102 = .ok (.ifCond .ne 5, 3) := by decide +kernel
theorem dX4_single_105 : decode cX4_single 105 = .ok (.iconst 0, 1) := by decide +kernel
theorem dX4_single_106 : decode cX4_single 106 = .ok (.ireturn, 1) := by decide +kernel
theorem dX4_single_107 : decode cX4_single 107 = .ok (.aload_n 0, 1) := by decide +kernel
theorem dX4_single_108 : decode cX4_single 108 = .ok (.invokevirtual 49, 3) := by decide +kernel
theorem dX4_single_111 : decode cX4_single 111 = .ok (.astore_n 2, 1) := by decide +kernel
theorem dX4_single_112 : decode cX4_single 112 = .ok (.aload_n 2, 1) := by decide +kernel
theorem dX4_single_113 : decode cX4_single 113 = .ok (.getfield 196, 3) := by decide +kernel
theorem dX4_single_116 : decode cX4_single 116 = .ok (.iconst 5, 1) := by decide +kernel
theorem dX4_single_117 : decode cX4_single 117 = .ok (.if_icmp .eq 8, 3) := by decide +kernel
theorem dX4_single_120 : decode cX4_single 120 = .ok (.aload_n 0, 1) := by decide +kernel
theorem dX4_single_121 : decode cX4_single 121 = .ok (.invokevirtual 66, 3) := by decide +kernel
theorem dX4_single_124 : decode cX4_single 124 = .ok (.ireturn, 1) := by decide +kernel
theorem dX4_single_125 : decode cX4_single 125 = .ok (.aload_n 0, 1) := by decide +kernel
theorem dX4_single_126 : decode cX4_single 126 = .ok (.dup, 1) := by decide +kernel
theorem dX4_single_127 : decode cX4_single 127 = .ok (.getfield 43, 3) := by decide +kernel
theorem dX4_single_130 : decode cX4_single 130 = .ok (.iconst 1, 1) := by decide +kernel
theorem dX4_single_131 : decode cX4_single 131 = .ok (.iadd, 1) := by decide +kernel
theorem dX4_single_132 : decode cX4_single 132 = .ok (.putfield 43, 3) := by decide +kernel
theorem dX4_single_135 : decode cX4_single 135 = .ok (.aload_n 0, 1) := by decide +kernel
theorem dX4_single_136 : decode cX4_single 136 = .ok (.iload_n 1, 1) := by decide +kernel
theorem dX4_single_137 : decode cX4_single 137 = .ok (.invokevirtual 142, 3) := by decide +kernel
theorem dX4_single_140 : decode cX4_single 140 = .ok (.ifCond .eq 22, 3) := by decide +kernel
theorem dX4_single_143 : decode cX4_single 143 = .ok (.aload_n 0, 1) := by decide +kernel
theorem dX4_single_144 : decode cX4_single 144 = .ok (.getfield 25, 3) := by decide +kernel
theorem dX4_single_147 : decode cX4_single 147 = .ok (.aload_n 2, 1) := by decide +kernel
theorem dX4_single_148 : decode cX4_single 148 = .ok (.getfield 199, 3) := by decide +kernel
theorem dX4_single_151 : decode cX4_single 151 = .ok (.iconst 0, 1) := by decide +kernel
theorem dX4_single_152 : decode cX4_single 152 = .ok (.invokevirtual 107, 3) := by decide +kernel
theorem dX4_single_155 : decode cX4_single 155 = .ok (.ifCond .eq 7, 3) := by decide +kernel
theorem dX4_single_158 : decode cX4_single 158 = .ok (.iconst 1, 1) := by decide +kernel
theorem dX4_single_159 : decode cX4_single 159 = .ok (.goto 4, 3) := by decide +kernel
theorem dX4_single_162 : decode cX4_single 162 = .ok (.iconst 0, 1) := by decide +kernel
theorem dX4_single_163 : decode cX4_single 163 = .ok (.ireturn, 1) := by decide +kernel

def f_X4_single (rec : Nat → Nat → Int32 → Mm → Option (Int32 × Mm)) (i0 : Nat) (a1 : Int32) (M : Mm) : Option (Int32 × Mm) :=
  bd1 (f_X4_kind i0 M) fun x1 => if tkc x1 then (if (x1 = (1026 : Int32)) then (bd2 (f_X4_enter i0 (1026 : Int32) a1 M) fun x54 M55 => if (x54 = 0) then (some ((0 : Int32), M55)) else (bd2 (rec 7 i0 (a1 + (1 : Int32)) M55) fun x59 M60 => if (x59 = 0) then (some ((0 : Int32), M60)) else (if okr 2 (M60 i0 3) then (bd2 (f_X5_emit (rid (M60 i0 3)) (13 : Int32) (0 : Int32) M60) fun x65 M66 => if (x65 = 0) then (some ((0 : Int32), M66)) else (some ((1 : Int32), M66))) else none))) else (bd1 (f_X4_kind i0 M) fun x6 => if tkc x6 then (if (x6 = (1035 : Int32)) then (bd2 (f_X4_enter i0 (1035 : Int32) a1 M) fun x39 M40 => if (x39 = 0) then (some ((0 : Int32), M40)) else (bd2 (rec 5 i0 (a1 + (1 : Int32)) M40) fun x44 M45 => if (x44 = 0) then (some ((0 : Int32), M45)) else (bd2 (f_X4_expect i0 (1036 : Int32) M45) fun x49 M50 => if (x49 = 0) then (some ((0 : Int32), M50)) else (some ((1 : Int32), M50))))) else (bd2 (rec 8 i0 a1 M) fun x11 M12 => if (x11 = 0) then (some ((0 : Int32), M12)) else (bd1 (f_X4_kind i0 M12) fun x16 => if tkc x16 then (if ((tkGr x16) = (5 : Int32)) then (lz (wr M12 i0 4 ((M12 i0 4) + (1 : Int32))) fun M21 => bd2 (rec 8 i0 a1 M21) fun x23 M24 => if (x23 = 0) then (some ((0 : Int32), M24)) else (if okr 2 (M24 i0 3) then (if tkc x16 then (bd2 (f_X5_emit (rid (M24 i0 3)) (tkOp x16) (0 : Int32) M24) fun x30 M31 => if (x30 = 0) then (some ((0 : Int32), M31)) else (some ((1 : Int32), M31))) else none) else none)) else (bd2 (f_X4_refuse i0 M12) fun x35 M36 => some (x35, M36))) else none))) else none)) else none

set_option maxHeartbeats 4000000 in
set_option maxRecDepth 100000 in
theorem c_X4_single (l : Launch) (G : GG) (M : Mm) (rec : Nat → Nat → Int32 → Mm → Option (Int32 × Mm)) {nr : Nat} (hrec : OK_P4 l G rec (RMn nr)) {i0 : Nat} (hi0 : (kd i0).1 = 7) (a1 : Int32) {r : Int32} {M9 : Mm} (hr : f_X4_single rec i0 a1 M = some (r, M9)) : Mo true l yX4_single (WS yX4_single cX4_single 3 (some .boolean)) (RMn (nr + 1)) 0 0 [.ref (G.2.1 i0), .int a1] G M (some (.int r)) M9 := by
  refine Mo.of (by decide +kernel) (Nat.le_of_ble_eq_true rfl) ?_
  intro p e s m args below meth c hC
  have hC : CX p s m args meth c cX4_single 3 RX4 (some .boolean) G := hC
  rw [f_X4_single] at hr
  show XJ p l e (RMn (nr + 1)) s m args below meth c G 3 _ 0 0 M 0 [(0, .ref (G.2.1 i0)), (1, .int a1)] []
  refine x_aload_n hC dX4_single_0 rfl 0 rfl ?_
  obtain ⟨x1, q2, hr⟩ := bd1_s hr
  refine x_callV (ci := 7) (q := (RX4, TX4, 7)) (As := []) hC (c_X4_kind l G M hi0 q2) kc_yX4_kind km_X4_49 ki_yX4_kind kv_yX4_kind kn_RX4 ky_yX4_kind rfl ⟨rfl, rfl⟩ ⟨rn_f (Nat.le_of_ble_eq_true rfl), rn_l (Nat.le_of_ble_eq_true rfl)⟩ hi0 (by decide) rfl rfl (Nat.le_of_ble_eq_true rfl) ⟨(Nat.le_of_ble_eq_true rfl), (Nat.le_of_ble_eq_true rfl)⟩ dX4_single_1 (fun b3 => ?_)
  refine x_tgets hC (a := (1026 : Int32)) 25 (by decide) rfl (by decide) kf_X4_187 dX4_single_4 ?_
  obtain ⟨h4, hr⟩ := it_s hr
  refine x_acmp_ne hC 50 ⟨h4, (by decide)⟩ dX4_single_7 (by decide) (fun h5 => ?_) (fun h5 => ?_)
  · have hr := (ie_s hr).2 h5
    refine x_aload_n hC dX4_single_50 rfl 0 rfl ?_
    obtain ⟨x6, q7, hr⟩ := bd1_s hr
    refine x_callV (ci := 7) (q := (RX4, TX4, 7)) (As := []) hC (c_X4_kind l G M hi0 q7) kc_yX4_kind km_X4_49 ki_yX4_kind kv_yX4_kind kn_RX4 ky_yX4_kind rfl ⟨rfl, rfl⟩ ⟨rn_f (Nat.le_of_ble_eq_true rfl), rn_l (Nat.le_of_ble_eq_true rfl)⟩ hi0 (by decide) rfl rfl (Nat.le_of_ble_eq_true rfl) ⟨(Nat.le_of_ble_eq_true rfl), (Nat.le_of_ble_eq_true rfl)⟩ dX4_single_51 (fun b8 => ?_)
    refine x_tgets hC (a := (1035 : Int32)) 34 (by decide) rfl (by decide) kf_X4_190 dX4_single_54 ?_
    obtain ⟨h9, hr⟩ := it_s hr
    refine x_acmp_ne hC 97 ⟨h9, (by decide)⟩ dX4_single_57 (by decide) (fun h10 => ?_) (fun h10 => ?_)
    · have hr := (ie_s hr).2 h10
      refine x_aload_n hC dX4_single_97 rfl 0 rfl ?_
      refine x_iload_n hC dX4_single_98 rfl 1 rfl ?_
      obtain ⟨x11, M12, q13, hr⟩ := bd2_s hr
      refine x_callV (ci := 7) (q := (RX4, TX4, 7)) (As := [.int a1]) hC (hrec.2.2.2.2.2.2.2.2.1 hi0 a1 q13) kc_yX4_sum km_X4_142 ki_yX4_sum kv_yX4_sum kn_RX4 ky_yX4_sum rfl ⟨rfl, rfl⟩ ⟨rn_gf, rn_gl (Nat.le_of_ble_eq_true rfl)⟩ hi0 (by decide) rfl rfl (Nat.le_of_ble_eq_true rfl) ⟨(Nat.le_of_ble_eq_true rfl), (Nat.le_of_ble_eq_true rfl)⟩ dX4_single_99 (fun b14 => ?_)
      refine x_if_ne hC 107 dX4_single_102 (by decide) (fun h15 => ?_) (fun h15 => ?_)
      · have hr := (ie_s hr).2 h15
        refine x_aload_n hC dX4_single_107 rfl 0 rfl ?_
        obtain ⟨x16, q17, hr⟩ := bd1_s hr
        refine x_callV (ci := 7) (q := (RX4, TX4, 7)) (As := []) hC (c_X4_kind l G M12 hi0 q17) kc_yX4_kind km_X4_49 ki_yX4_kind kv_yX4_kind kn_RX4 ky_yX4_kind rfl ⟨rfl, rfl⟩ ⟨rn_f (Nat.le_of_ble_eq_true rfl), rn_l (Nat.le_of_ble_eq_true rfl)⟩ hi0 (by decide) rfl rfl (Nat.le_of_ble_eq_true rfl) ⟨(Nat.le_of_ble_eq_true rfl), (Nat.le_of_ble_eq_true rfl)⟩ dX4_single_108 (fun b18 => ?_)
        refine x_astore_n hC [(2, .ref (G.2.1 (rid x16))), (0, .ref (G.2.1 i0)), (1, .int a1)] dX4_single_111 rfl (Nat.le_of_ble_eq_true rfl) rfl ?_
        refine x_aload_n hC dX4_single_112 rfl 0 rfl ?_
        obtain ⟨h19, hr⟩ := it_s hr
        refine x_tgroup hC (a := x16) h19 kf_X4_196 dX4_single_113 ?_
        refine x_iconst hC (5 : Int32) dX4_single_116 (by decide) ?_
        refine x_icmp_eq hC 125 dX4_single_117 (by decide) (fun h20 => ?_) (fun h20 => ?_)
        · have hr := (ie_s hr).1 h20
          refine x_aload_n hC dX4_single_125 rfl 1 rfl ?_
          refine x_dup hC dX4_single_126 rfl ?_
          refine gf_X4_43 hC hi0 dX4_single_127 ?_
          refine x_iconst hC (1 : Int32) dX4_single_130 (by decide) ?_
          refine x_iadd hC dX4_single_131 ?_
          obtain ⟨M21, e22, hr⟩ := lz_s hr
          refine pf_X4_43 hC hi0 e22 dX4_single_132 ?_
          refine x_aload_n hC dX4_single_135 rfl 1 rfl ?_
          refine x_iload_n hC dX4_single_136 rfl 2 rfl ?_
          obtain ⟨x23, M24, q25, hr⟩ := bd2_s hr
          refine x_callV (ci := 7) (q := (RX4, TX4, 7)) (As := [.int a1]) hC (hrec.2.2.2.2.2.2.2.2.1 hi0 a1 q25) kc_yX4_sum km_X4_142 ki_yX4_sum kv_yX4_sum kn_RX4 ky_yX4_sum rfl ⟨rfl, rfl⟩ ⟨rn_gf, rn_gl (Nat.le_of_ble_eq_true rfl)⟩ hi0 (by decide) rfl rfl (Nat.le_of_ble_eq_true rfl) ⟨(Nat.le_of_ble_eq_true rfl), (Nat.le_of_ble_eq_true rfl)⟩ dX4_single_137 (fun b26 => ?_)
          refine x_if_eq hC 162 dX4_single_140 (by decide) (fun h27 => ?_) (fun h27 => ?_)
          · have hr := (ie_s hr).1 h27
            refine x_iconst hC (0 : Int32) dX4_single_162 (by decide) ?_
            cases hr
            exact x_zret hC rfl (Or.inl rfl) dX4_single_163
          · have hr := (ie_s hr).2 h27
            refine x_aload_n hC dX4_single_143 rfl 1 rfl ?_
            obtain ⟨h28, hr⟩ := it_s hr
            refine gf_X4_25 hC hi0 h28 dX4_single_144 ?_
            refine x_aload_n hC dX4_single_147 rfl 0 rfl ?_
            obtain ⟨h29, hr⟩ := it_s hr
            refine x_top hC (a := x16) h29 kf_X4_199 dX4_single_148 ?_
            refine x_iconst hC (0 : Int32) dX4_single_151 (by decide) ?_
            obtain ⟨x30, M31, q32, hr⟩ := bd2_s hr
            refine x_callV (ci := 2) (q := (RX5, TX5, 7)) (As := [.int (tkOp x16), .int (0 : Int32)]) hC (c_X5_emit l G M24 h28.2 (tkOp x16) (0 : Int32) q32) kc_yX5_emit km_X4_107 ki_yX5_emit kv_yX5_emit kn_RX5 ky_yX5_emit rfl ⟨rfl, rfl⟩ ⟨rn_f (Nat.le_of_ble_eq_true rfl), rn_l (Nat.le_of_ble_eq_true rfl)⟩ h28.2 (by decide) rfl rfl (Nat.le_of_ble_eq_true rfl) ⟨(Nat.le_of_ble_eq_true rfl), (Nat.le_of_ble_eq_true rfl)⟩ dX4_single_152 (fun b33 => ?_)
            refine x_if_eq hC 162 dX4_single_155 (by decide) (fun h34 => ?_) (fun h34 => ?_)
            · have hr := (ie_s hr).1 h34
              refine x_iconst hC (0 : Int32) dX4_single_162 (by decide) ?_
              cases hr
              exact x_zret hC rfl (Or.inl rfl) dX4_single_163
            · have hr := (ie_s hr).2 h34
              refine x_iconst hC (1 : Int32) dX4_single_158 (by decide) ?_
              refine x_goto hC 163 dX4_single_159 (by decide) ?_
              cases hr
              exact x_zret hC rfl (Or.inr rfl) dX4_single_163
        · have hr := (ie_s hr).2 h20
          refine x_aload_n hC dX4_single_120 rfl 1 rfl ?_
          obtain ⟨x35, M36, q37, hr⟩ := bd2_s hr
          refine x_callV (ci := 7) (q := (RX4, TX4, 7)) (As := []) hC (c_X4_refuse l G M12 hi0 q37) kc_yX4_refuse km_X4_66 ki_yX4_refuse kv_yX4_refuse kn_RX4 ky_yX4_refuse rfl ⟨rfl, rfl⟩ ⟨rn_f (Nat.le_of_ble_eq_true rfl), rn_l (Nat.le_of_ble_eq_true rfl)⟩ hi0 (by decide) rfl rfl (Nat.le_of_ble_eq_true rfl) ⟨(Nat.le_of_ble_eq_true rfl), (Nat.le_of_ble_eq_true rfl)⟩ dX4_single_121 (fun b38 => ?_)
          cases hr
          exact x_zret hC rfl (BV.out b38) dX4_single_124
      · have hr := (ie_s hr).1 h15
        refine x_iconst hC (0 : Int32) dX4_single_105 (by decide) ?_
        cases hr
        exact x_zret hC rfl (Or.inl rfl) dX4_single_106
    · have hr := (ie_s hr).1 h10
      refine x_aload_n hC dX4_single_60 rfl 0 rfl ?_
      refine x_tgets hC (a := (1035 : Int32)) 34 (by decide) rfl (by decide) kf_X4_190 dX4_single_61 ?_
      refine x_iload_n hC dX4_single_64 rfl 1 rfl ?_
      obtain ⟨x39, M40, q41, hr⟩ := bd2_s hr
      refine x_callV (ci := 7) (q := (RX4, TX4, 7)) (As := [.ref (G.2.1 (rid (1035 : Int32))), .int a1]) hC (c_X4_enter l G M hi0 (1035 : Int32) a1 q41) kc_yX4_enter km_X4_123 ki_yX4_enter kv_yX4_enter kn_RX4 ky_yX4_enter rfl ⟨rfl, rfl⟩ ⟨rn_f (Nat.le_of_ble_eq_true rfl), rn_l (Nat.le_of_ble_eq_true rfl)⟩ hi0 (by decide) rfl rfl (Nat.le_of_ble_eq_true rfl) ⟨(Nat.le_of_ble_eq_true rfl), (Nat.le_of_ble_eq_true rfl)⟩ dX4_single_65 (fun b42 => ?_)
      refine x_if_eq hC 95 dX4_single_68 (by decide) (fun h43 => ?_) (fun h43 => ?_)
      · have hr := (ie_s hr).1 h43
        refine x_iconst hC (0 : Int32) dX4_single_95 (by decide) ?_
        cases hr
        exact x_zret hC rfl (Or.inl rfl) dX4_single_96
      · have hr := (ie_s hr).2 h43
        refine x_aload_n hC dX4_single_71 rfl 0 rfl ?_
        refine x_iload_n hC dX4_single_72 rfl 1 rfl ?_
        refine x_iconst hC (1 : Int32) dX4_single_73 (by decide) ?_
        refine x_iadd hC dX4_single_74 ?_
        obtain ⟨x44, M45, q46, hr⟩ := bd2_s hr
        refine x_callV (ci := 7) (q := (RX4, TX4, 7)) (As := [.int (a1 + (1 : Int32))]) hC (hrec.2.2.2.2.2.1 hi0 (a1 + (1 : Int32)) q46) kc_yX4_test km_X4_163 ki_yX4_test kv_yX4_test kn_RX4 ky_yX4_test rfl ⟨rfl, rfl⟩ ⟨rn_gf, rn_gl (Nat.le_of_ble_eq_true rfl)⟩ hi0 (by decide) rfl rfl (Nat.le_of_ble_eq_true rfl) ⟨(Nat.le_of_ble_eq_true rfl), (Nat.le_of_ble_eq_true rfl)⟩ dX4_single_75 (fun b47 => ?_)
        refine x_if_eq hC 95 dX4_single_78 (by decide) (fun h48 => ?_) (fun h48 => ?_)
        · have hr := (ie_s hr).1 h48
          refine x_iconst hC (0 : Int32) dX4_single_95 (by decide) ?_
          cases hr
          exact x_zret hC rfl (Or.inl rfl) dX4_single_96
        · have hr := (ie_s hr).2 h48
          refine x_aload_n hC dX4_single_81 rfl 0 rfl ?_
          refine x_tgets hC (a := (1036 : Int32)) 35 (by decide) rfl (by decide) kf_X4_193 dX4_single_82 ?_
          obtain ⟨x49, M50, q51, hr⟩ := bd2_s hr
          refine x_callV (ci := 7) (q := (RX4, TX4, 7)) (As := [.ref (G.2.1 (rid (1036 : Int32)))]) hC (c_X4_expect l G M45 hi0 (1036 : Int32) q51) kc_yX4_expect km_X4_80 ki_yX4_expect kv_yX4_expect kn_RX4 ky_yX4_expect rfl ⟨rfl, rfl⟩ ⟨rn_f (Nat.le_of_ble_eq_true rfl), rn_l (Nat.le_of_ble_eq_true rfl)⟩ hi0 (by decide) rfl rfl (Nat.le_of_ble_eq_true rfl) ⟨(Nat.le_of_ble_eq_true rfl), (Nat.le_of_ble_eq_true rfl)⟩ dX4_single_85 (fun b52 => ?_)
          refine x_if_eq hC 95 dX4_single_88 (by decide) (fun h53 => ?_) (fun h53 => ?_)
          · have hr := (ie_s hr).1 h53
            refine x_iconst hC (0 : Int32) dX4_single_95 (by decide) ?_
            cases hr
            exact x_zret hC rfl (Or.inl rfl) dX4_single_96
          · have hr := (ie_s hr).2 h53
            refine x_iconst hC (1 : Int32) dX4_single_91 (by decide) ?_
            refine x_goto hC 96 dX4_single_92 (by decide) ?_
            cases hr
            exact x_zret hC rfl (Or.inr rfl) dX4_single_96
  · have hr := (ie_s hr).1 h5
    refine x_aload_n hC dX4_single_10 rfl 0 rfl ?_
    refine x_tgets hC (a := (1026 : Int32)) 25 (by decide) rfl (by decide) kf_X4_187 dX4_single_11 ?_
    refine x_iload_n hC dX4_single_14 rfl 1 rfl ?_
    obtain ⟨x54, M55, q56, hr⟩ := bd2_s hr
    refine x_callV (ci := 7) (q := (RX4, TX4, 7)) (As := [.ref (G.2.1 (rid (1026 : Int32))), .int a1]) hC (c_X4_enter l G M hi0 (1026 : Int32) a1 q56) kc_yX4_enter km_X4_123 ki_yX4_enter kv_yX4_enter kn_RX4 ky_yX4_enter rfl ⟨rfl, rfl⟩ ⟨rn_f (Nat.le_of_ble_eq_true rfl), rn_l (Nat.le_of_ble_eq_true rfl)⟩ hi0 (by decide) rfl rfl (Nat.le_of_ble_eq_true rfl) ⟨(Nat.le_of_ble_eq_true rfl), (Nat.le_of_ble_eq_true rfl)⟩ dX4_single_15 (fun b57 => ?_)
    refine x_if_eq hC 48 dX4_single_18 (by decide) (fun h58 => ?_) (fun h58 => ?_)
    · have hr := (ie_s hr).1 h58
      refine x_iconst hC (0 : Int32) dX4_single_48 (by decide) ?_
      cases hr
      exact x_zret hC rfl (Or.inl rfl) dX4_single_49
    · have hr := (ie_s hr).2 h58
      refine x_aload_n hC dX4_single_21 rfl 0 rfl ?_
      refine x_iload_n hC dX4_single_22 rfl 1 rfl ?_
      refine x_iconst hC (1 : Int32) dX4_single_23 (by decide) ?_
      refine x_iadd hC dX4_single_24 ?_
      obtain ⟨x59, M60, q61, hr⟩ := bd2_s hr
      refine x_callV (ci := 7) (q := (RX4, TX4, 7)) (As := [.int (a1 + (1 : Int32))]) hC (hrec.2.2.2.2.2.2.2.1 hi0 (a1 + (1 : Int32)) q61) kc_yX4_single km_X4_181 ki_yX4_single kv_yX4_single kn_RX4 ky_yX4_single rfl ⟨rfl, rfl⟩ ⟨rn_gf, rn_gl (Nat.le_of_ble_eq_true rfl)⟩ hi0 (by decide) rfl rfl (Nat.le_of_ble_eq_true rfl) ⟨(Nat.le_of_ble_eq_true rfl), (Nat.le_of_ble_eq_true rfl)⟩ dX4_single_25 (fun b62 => ?_)
      refine x_if_eq hC 48 dX4_single_28 (by decide) (fun h63 => ?_) (fun h63 => ?_)
      · have hr := (ie_s hr).1 h63
        refine x_iconst hC (0 : Int32) dX4_single_48 (by decide) ?_
        cases hr
        exact x_zret hC rfl (Or.inl rfl) dX4_single_49
      · have hr := (ie_s hr).2 h63
        refine x_aload_n hC dX4_single_31 rfl 0 rfl ?_
        obtain ⟨h64, hr⟩ := it_s hr
        refine gf_X4_25 hC hi0 h64 dX4_single_32 ?_
        refine x_bipush hC (13 : Int32) dX4_single_35 (by decide) ?_
        refine x_iconst hC (0 : Int32) dX4_single_37 (by decide) ?_
        obtain ⟨x65, M66, q67, hr⟩ := bd2_s hr
        refine x_callV (ci := 2) (q := (RX5, TX5, 7)) (As := [.int (13 : Int32), .int (0 : Int32)]) hC (c_X5_emit l G M60 h64.2 (13 : Int32) (0 : Int32) q67) kc_yX5_emit km_X4_107 ki_yX5_emit kv_yX5_emit kn_RX5 ky_yX5_emit rfl ⟨rfl, rfl⟩ ⟨rn_f (Nat.le_of_ble_eq_true rfl), rn_l (Nat.le_of_ble_eq_true rfl)⟩ h64.2 (by decide) rfl rfl (Nat.le_of_ble_eq_true rfl) ⟨(Nat.le_of_ble_eq_true rfl), (Nat.le_of_ble_eq_true rfl)⟩ dX4_single_38 (fun b68 => ?_)
        refine x_if_eq hC 48 dX4_single_41 (by decide) (fun h69 => ?_) (fun h69 => ?_)
        · have hr := (ie_s hr).1 h69
          refine x_iconst hC (0 : Int32) dX4_single_48 (by decide) ?_
          cases hr
          exact x_zret hC rfl (Or.inl rfl) dX4_single_49
        · have hr := (ie_s hr).2 h69
          refine x_iconst hC (1 : Int32) dX4_single_44 (by decide) ?_
          refine x_goto hC 49 dX4_single_45 (by decide) ?_
          cases hr
          exact x_zret hC rfl (Or.inr rfl) dX4_single_49

theorem dX4_sum_0 : decode cX4_sum 0 = .ok (.aload_n 0, 1) := by decide +kernel
theorem dX4_sum_1 : decode cX4_sum 1 = .ok (.iload_n 1, 1) := by decide +kernel
theorem dX4_sum_2 : decode cX4_sum 2 = .ok (.invokevirtual 202, 3) := by decide +kernel
theorem dX4_sum_5 : decode cX4_sum 5 = .ok (.istore_n 2, 1) := by decide +kernel
theorem dX4_sum_6 : decode cX4_sum 6 = .ok (.iconst 0, 1) := by decide +kernel
theorem dX4_sum_7 : decode cX4_sum 7 = .ok (.istore_n 3, 1) := by decide +kernel
theorem dX4_sum_8 : decode cX4_sum 8 = .ok (.iload_n 3, 1) := by decide +kernel
theorem dX4_sum_9 : decode cX4_sum 9 = .ok (.sipush 400, 3) := by decide +kernel
theorem dX4_sum_12 : decode cX4_sum 12 = .ok (.if_icmp .ge 70, 3) := by decide +kernel
theorem dX4_sum_15 : decode cX4_sum 15 = .ok (.iload_n 2, 1) := by decide +kernel
theorem dX4_sum_16 : decode cX4_sum 16 = .ok (.ifCond .eq 66, 3) := by decide +kernel
theorem dX4_sum_19 : decode cX4_sum 19 = .ok (.aload_n 0, 1) := by decide +kernel
theorem dX4_sum_20 : decode cX4_sum 20 = .ok (.invokevirtual 49, 3) := by decide +kernel
theorem dX4_sum_23 : decode cX4_sum 23 = .ok (.getfield 196, 3) := by decide +kernel
theorem dX4_sum_26 : decode cX4_sum 26 = .ok (.iconst 3, 1) := by decide +kernel
theorem dX4_sum_27 : decode cX4_sum 27 = .ok (.if_icmp .ne 55, 3) := by decide +kernel
theorem dX4_sum_30 : decode cX4_sum 30 = .ok (.aload_n 0, 1) := by decide +kernel
theorem dX4_sum_31 : decode cX4_sum 31 = .ok (.invokevirtual 49, 3) := by decide +kernel
theorem dX4_sum_34 : decode cX4_sum 34 = .ok (.getfield 199, 3) := by decide +kernel
theorem dX4_sum_37 : decode cX4_sum 37 = .ok (.istore 4, 2) := by decide +kernel
theorem dX4_sum_39 : decode cX4_sum 39 = .ok (.aload_n 0, 1) := by decide +kernel
theorem dX4_sum_40 : decode cX4_sum 40 = .ok (.dup, 1) := by decide +kernel
theorem dX4_sum_41 : decode cX4_sum 41 = .ok (.getfield 43, 3) := by decide +kernel
theorem dX4_sum_44 : decode cX4_sum 44 = .ok (.iconst 1, 1) := by decide +kernel
theorem dX4_sum_45 : decode cX4_sum 45 = .ok (.iadd, 1) := by decide +kernel
theorem dX4_sum_46 : decode cX4_sum 46 = .ok (.putfield 43, 3) := by decide +kernel
theorem dX4_sum_49 : decode cX4_sum 49 = .ok (.aload_n 0, 1) := by decide +kernel
theorem dX4_sum_50 : decode cX4_sum 50 = .ok (.iload_n 1, 1) := by decide +kernel
theorem dX4_sum_51 : decode cX4_sum 51 = .ok (.invokevirtual 202, 3) := by decide +kernel
theorem dX4_sum_54 : decode cX4_sum 54 = .ok (.ifCond .eq 20, 3) := by decide +kernel
theorem dX4_sum_57 : decode cX4_sum 57 = .ok (.aload_n 0, 1) := by decide +kernel
theorem dX4_sum_58 : decode cX4_sum 58 = .ok (.getfield 25, 3) := by decide +kernel
theorem dX4_sum_61 : decode cX4_sum 61 = .ok (.iload 4, 2) := by decide +kernel
theorem dX4_sum_63 : decode cX4_sum 63 = .ok (.iconst 0, 1) := by decide +kernel
theorem dX4_sum_64 : decode cX4_sum 64 = .ok (.invokevirtual 107, 3) := by decide +kernel
theorem dX4_sum_67 : decode cX4_sum 67 = .ok (.ifCond .eq 7, 3) := by decide +kernel
theorem dX4_sum_70 : decode cX4_sum 70 = .ok (.iconst 1, 1) := by decide +kernel
theorem dX4_sum_71 : decode cX4_sum 71 = .ok (.goto 4, 3) := by decide +kernel
theorem dX4_sum_74 : decode cX4_sum 74 = .ok (.iconst 0, 1) := by decide +kernel
theorem dX4_sum_75 : decode cX4_sum 75 = .ok (.istore_n 2, 1) := by decide +kernel
theorem dX4_sum_76 : decode cX4_sum 76 = .ok (.iinc 3 1, 3) := by decide +kernel
theorem dX4_sum_79 : decode cX4_sum 79 = .ok (.goto (-71), 3) := by decide +kernel
theorem dX4_sum_82 : decode cX4_sum 82 = .ok (.iload_n 2, 1) := by decide +kernel
theorem dX4_sum_83 : decode cX4_sum 83 = .ok (.ireturn, 1) := by decide +kernel
def f_X4_sum_L8 (rec : Nat → Nat → Int32 → Mm → Option (Int32 × Mm)) (i0 : Nat) (a1 : Int32) : Nat → Int32 → Int32 → Mm → Option (Int32 × Mm)
  | 0, _, _, _ => none
  | n + 1, v2, v3, M =>
    if ((400 : Int32) ≤ v3) then (some (v2, M)) else (if (v2 = 0) then (some (v2, M)) else (bd1 (f_X4_kind i0 M) fun x7 => if tkc x7 then (if ((tkGr x7) = (3 : Int32)) then (bd1 (f_X4_kind i0 M) fun x12 => if tkc x12 then (lz (wr M i0 4 ((M i0 4) + (1 : Int32))) fun M16 => bd2 (rec 9 i0 a1 M16) fun x18 M19 => bd2 (if (x18 = 0) then (some ((0 : Int32), M19)) else (if okr 2 (M19 i0 3) then (bd2 (f_X5_emit (rid (M19 i0 3)) (tkOp x12) (0 : Int32) M19) fun x25 M26 => if (x25 = 0) then (some ((0 : Int32), M26)) else (some ((1 : Int32), M26))) else none)) fun x30 M31 => lz (v3 + (1 : Int32)) fun x33 => f_X4_sum_L8 rec i0 a1 n x30 x33 M31) else none) else (some (v2, M))) else none))
def f_X4_sum (rec : Nat → Nat → Int32 → Mm → Option (Int32 × Mm)) (i0 : Nat) (a1 : Int32) (M : Mm) : Option (Int32 × Mm) :=
  bd2 (rec 9 i0 a1 M) fun x1 M2 => bd2 (f_X4_sum_L8 rec i0 a1 FU x1 (0 : Int32) M2) fun x36 M37 => if (x36 = 0 ∨ x36 = 1) then (some (x36, M37)) else none
set_option maxHeartbeats 4000000 in
set_option maxRecDepth 100000 in
theorem l_X4_sum_L8 {p : Program} {e : Env} {s : State} {m : MethodId} {args : Array Value} {below : List Frame} {meth : Method} {c : Code} {l : Launch} {G : GG} {Q : State → Prop} (hC : CX p s m args meth c cX4_sum 5 RX4 (some .boolean) G) (rec : Nat → Nat → Int32 → Mm → Option (Int32 × Mm)) {nr : Nat} (hrec : OK_P4 l G rec (RMn nr)) {i0 : Nat} (hi0 : (kd i0).1 = 7) (a1 : Int32) : ∀ (n : Nat) (v2 : Int32) (v3 : Int32) (M : Mm) {o2 : Int32} {M2 : Mm} (hr : f_X4_sum_L8 rec i0 a1 n v2 v3 M = some (o2, M2)) (K : XJ p l e (RMn (nr + 1)) s m args below meth c G 5 Q 0 0 M2 82 [(2, .int o2)] []), XJ p l e (RMn (nr + 1)) s m args below meth c G 5 Q 0 0 M 8 [(0, .ref (G.2.1 i0)), (1, .int a1), (2, .int v2), (3, .int v3)] [] := by
  intro n
  induction n with
  | zero => intro v2 v3 M o2 M2 hr K; rw [f_X4_sum_L8] at hr; cases hr
  | succ n ih =>
    intro v2 v3 M o2 M2 hr K
    rw [f_X4_sum_L8] at hr
    refine x_iload_n hC dX4_sum_8 rfl 3 rfl ?_
    refine x_sipush hC (400 : Int32) dX4_sum_9 (by decide) ?_
    refine x_icmp_ge hC 82 dX4_sum_12 (by decide) (fun h5 => ?_) (fun h5 => ?_)
    · have hr := (ie_s hr).1 h5
      cases hr
      exact x_sub [2] rfl K
    · have hr := (ie_s hr).2 h5
      refine x_iload_n hC dX4_sum_15 rfl 2 rfl ?_
      refine x_if_eq hC 82 dX4_sum_16 (by decide) (fun h6 => ?_) (fun h6 => ?_)
      · have hr := (ie_s hr).1 h6
        cases hr
        exact x_sub [2] rfl K
      · have hr := (ie_s hr).2 h6
        refine x_aload_n hC dX4_sum_19 rfl 0 rfl ?_
        obtain ⟨x7, q8, hr⟩ := bd1_s hr
        refine x_callV (ci := 7) (q := (RX4, TX4, 7)) (As := []) hC (c_X4_kind l G M hi0 q8) kc_yX4_kind km_X4_49 ki_yX4_kind kv_yX4_kind kn_RX4 ky_yX4_kind rfl ⟨rfl, rfl⟩ ⟨rn_f (Nat.le_of_ble_eq_true rfl), rn_l (Nat.le_of_ble_eq_true rfl)⟩ hi0 (by decide) rfl rfl (Nat.le_of_ble_eq_true rfl) ⟨(Nat.le_of_ble_eq_true rfl), (Nat.le_of_ble_eq_true rfl)⟩ dX4_sum_20 (fun b9 => ?_)
        obtain ⟨h10, hr⟩ := it_s hr
        refine x_tgroup hC (a := x7) h10 kf_X4_196 dX4_sum_23 ?_
        refine x_iconst hC (3 : Int32) dX4_sum_26 (by decide) ?_
        refine x_icmp_ne hC 82 dX4_sum_27 (by decide) (fun h11 => ?_) (fun h11 => ?_)
        · have hr := (ie_s hr).2 h11
          cases hr
          exact x_sub [2] rfl K
        · have hr := (ie_s hr).1 h11
          refine x_aload_n hC dX4_sum_30 rfl 0 rfl ?_
          obtain ⟨x12, q13, hr⟩ := bd1_s hr
          refine x_callV (ci := 7) (q := (RX4, TX4, 7)) (As := []) hC (c_X4_kind l G M hi0 q13) kc_yX4_kind km_X4_49 ki_yX4_kind kv_yX4_kind kn_RX4 ky_yX4_kind rfl ⟨rfl, rfl⟩ ⟨rn_f (Nat.le_of_ble_eq_true rfl), rn_l (Nat.le_of_ble_eq_true rfl)⟩ hi0 (by decide) rfl rfl (Nat.le_of_ble_eq_true rfl) ⟨(Nat.le_of_ble_eq_true rfl), (Nat.le_of_ble_eq_true rfl)⟩ dX4_sum_31 (fun b14 => ?_)
          obtain ⟨h15, hr⟩ := it_s hr
          refine x_top hC (a := x12) h15 kf_X4_199 dX4_sum_34 ?_
          refine x_istore hC [(4, .int (tkOp x12)), (0, .ref (G.2.1 i0)), (1, .int a1), (2, .int v2), (3, .int v3)] dX4_sum_37  (Nat.le_of_ble_eq_true rfl) rfl ?_
          refine x_aload_n hC dX4_sum_39 rfl 1 rfl ?_
          refine x_dup hC dX4_sum_40 rfl ?_
          refine gf_X4_43 hC hi0 dX4_sum_41 ?_
          refine x_iconst hC (1 : Int32) dX4_sum_44 (by decide) ?_
          refine x_iadd hC dX4_sum_45 ?_
          obtain ⟨M16, e17, hr⟩ := lz_s hr
          refine pf_X4_43 hC hi0 e17 dX4_sum_46 ?_
          refine x_aload_n hC dX4_sum_49 rfl 1 rfl ?_
          refine x_iload_n hC dX4_sum_50 rfl 2 rfl ?_
          obtain ⟨x18, M19, q20, hr⟩ := bd2_s hr
          refine x_callV (ci := 7) (q := (RX4, TX4, 7)) (As := [.int a1]) hC (hrec.2.2.2.2.2.2.2.2.2.1 hi0 a1 q20) kc_yX4_product km_X4_202 ki_yX4_product kv_yX4_product kn_RX4 ky_yX4_product rfl ⟨rfl, rfl⟩ ⟨rn_gf, rn_gl (Nat.le_of_ble_eq_true rfl)⟩ hi0 (by decide) rfl rfl (Nat.le_of_ble_eq_true rfl) ⟨(Nat.le_of_ble_eq_true rfl), (Nat.le_of_ble_eq_true rfl)⟩ dX4_sum_51 (fun b21 => ?_)
          obtain ⟨x30, M31, q22, hr⟩ := bd2_s hr
          refine x_joinB (P := (x30 = 0 ∨ x30 = 1)) (M' := M31) (pc' := 75) (lv' := [(0, .ref (G.2.1 i0)), (1, .int a1), (3, .int v3)]) (st' := [.int x30]) ?_ ?_
          · intro b32
            refine x_istore_n hC [(2, .int x30), (0, .ref (G.2.1 i0)), (1, .int a1), (3, .int v3)] dX4_sum_75 rfl (Nat.le_of_ble_eq_true rfl) rfl ?_
            obtain ⟨x33, e34, hr⟩ := lz_s hr
            refine x_iinc hC [(3, .int x33), (2, .int x30), (0, .ref (G.2.1 i0)), (1, .int a1)] dX4_sum_76 3 rfl (by rw [e34]; rfl) (Nat.le_of_ble_eq_true rfl) rfl ?_
            refine x_goto hC 8 dX4_sum_79 (by decide) ?_
            exact x_sub [2, 3, 1, 0] rfl (ih x30 x33 M31 hr K)
          · intro kj
            refine x_if_eq hC 74 dX4_sum_54 (by decide) (fun h23 => ?_) (fun h23 => ?_)
            · have q22 := (ie_s q22).1 h23
              refine x_iconst hC (0 : Int32) dX4_sum_74 (by decide) ?_
              cases q22
              exact x_sub [1, 2, 4] rfl (kj (Or.inl rfl))
            · have q22 := (ie_s q22).2 h23
              refine x_aload_n hC dX4_sum_57 rfl 1 rfl ?_
              obtain ⟨h24, q22⟩ := it_s q22
              refine gf_X4_25 hC hi0 h24 dX4_sum_58 ?_
              refine x_iload hC dX4_sum_61 0 rfl ?_
              refine x_iconst hC (0 : Int32) dX4_sum_63 (by decide) ?_
              obtain ⟨x25, M26, q27, q22⟩ := bd2_s q22
              refine x_callV (ci := 2) (q := (RX5, TX5, 7)) (As := [.int (tkOp x12), .int (0 : Int32)]) hC (c_X5_emit l G M19 h24.2 (tkOp x12) (0 : Int32) q27) kc_yX5_emit km_X4_107 ki_yX5_emit kv_yX5_emit kn_RX5 ky_yX5_emit rfl ⟨rfl, rfl⟩ ⟨rn_f (Nat.le_of_ble_eq_true rfl), rn_l (Nat.le_of_ble_eq_true rfl)⟩ h24.2 (by decide) rfl rfl (Nat.le_of_ble_eq_true rfl) ⟨(Nat.le_of_ble_eq_true rfl), (Nat.le_of_ble_eq_true rfl)⟩ dX4_sum_64 (fun b28 => ?_)
              refine x_if_eq hC 74 dX4_sum_67 (by decide) (fun h29 => ?_) (fun h29 => ?_)
              · have q22 := (ie_s q22).1 h29
                refine x_iconst hC (0 : Int32) dX4_sum_74 (by decide) ?_
                cases q22
                exact x_sub [1, 2, 4] rfl (kj (Or.inl rfl))
              · have q22 := (ie_s q22).2 h29
                refine x_iconst hC (1 : Int32) dX4_sum_70 (by decide) ?_
                refine x_goto hC 75 dX4_sum_71 (by decide) ?_
                cases q22
                exact x_sub [1, 2, 4] rfl (kj (Or.inr rfl))
set_option maxHeartbeats 4000000 in
set_option maxRecDepth 100000 in
theorem c_X4_sum (l : Launch) (G : GG) (M : Mm) (rec : Nat → Nat → Int32 → Mm → Option (Int32 × Mm)) {nr : Nat} (hrec : OK_P4 l G rec (RMn nr)) {i0 : Nat} (hi0 : (kd i0).1 = 7) (a1 : Int32) {r : Int32} {M9 : Mm} (hr : f_X4_sum rec i0 a1 M = some (r, M9)) : Mo true l yX4_sum (WS yX4_sum cX4_sum 5 (some .boolean)) (RMn (nr + 1)) 0 0 [.ref (G.2.1 i0), .int a1] G M (some (.int r)) M9 := by
  refine Mo.of (by decide +kernel) (Nat.le_of_ble_eq_true rfl) ?_
  intro p e s m args below meth c hC
  have hC : CX p s m args meth c cX4_sum 5 RX4 (some .boolean) G := hC
  rw [f_X4_sum] at hr
  show XJ p l e (RMn (nr + 1)) s m args below meth c G 5 _ 0 0 M 0 [(0, .ref (G.2.1 i0)), (1, .int a1)] []
  refine x_aload_n hC dX4_sum_0 rfl 0 rfl ?_
  refine x_iload_n hC dX4_sum_1 rfl 1 rfl ?_
  obtain ⟨x1, M2, q3, hr⟩ := bd2_s hr
  refine x_callV (ci := 7) (q := (RX4, TX4, 7)) (As := [.int a1]) hC (hrec.2.2.2.2.2.2.2.2.2.1 hi0 a1 q3) kc_yX4_product km_X4_202 ki_yX4_product kv_yX4_product kn_RX4 ky_yX4_product rfl ⟨rfl, rfl⟩ ⟨rn_gf, rn_gl (Nat.le_of_ble_eq_true rfl)⟩ hi0 (by decide) rfl rfl (Nat.le_of_ble_eq_true rfl) ⟨(Nat.le_of_ble_eq_true rfl), (Nat.le_of_ble_eq_true rfl)⟩ dX4_sum_2 (fun b4 => ?_)
  refine x_istore_n hC [(2, .int x1), (0, .ref (G.2.1 i0)), (1, .int a1)] dX4_sum_5 rfl (Nat.le_of_ble_eq_true rfl) rfl ?_
  refine x_iconst hC (0 : Int32) dX4_sum_6 (by decide) ?_
  refine x_istore_n hC [(3, .int (0 : Int32)), (2, .int x1), (0, .ref (G.2.1 i0)), (1, .int a1)] dX4_sum_7 rfl (Nat.le_of_ble_eq_true rfl) rfl ?_
  obtain ⟨x36, M37, q35, hr⟩ := bd2_s hr
  refine x_sub [2, 3, 1, 0] rfl (l_X4_sum_L8 hC rec hrec hi0 a1 FU  x1 (0 : Int32) M2 q35 ?_)
  refine x_iload_n hC dX4_sum_82 rfl 0 rfl ?_
  obtain ⟨h38, hr⟩ := it_s hr
  cases hr
  exact x_zret hC rfl h38 dX4_sum_83

theorem dX4_product_0 : decode cX4_product 0 = .ok (.aload_n 0, 1) := by decide +kernel
theorem dX4_product_1 : decode cX4_product 1 = .ok (.iload_n 1, 1) := by decide +kernel
theorem dX4_product_2 : decode cX4_product 2 = .ok (.invokevirtual 205, 3) := by decide +kernel
theorem dX4_product_5 : decode cX4_product 5 = .ok (.istore_n 2, 1) := by decide +kernel
theorem dX4_product_6 : decode cX4_product 6 = .ok (.iconst 0, 1) := by decide +kernel
theorem dX4_product_7 : decode cX4_product 7 = .ok (.istore_n 3, 1) := by decide +kernel
theorem dX4_product_8 : decode cX4_product 8 = .ok (.iload_n 3, 1) := by decide +kernel
theorem dX4_product_9 : decode cX4_product 9 = .ok (.sipush 400, 3) := by decide +kernel
theorem dX4_product_12 : decode cX4_product 12 = .ok (.if_icmp .ge 70, 3) := by decide +kernel
theorem dX4_product_15 : decode cX4_product 15 = .ok (.iload_n 2, 1) := by decide +kernel
theorem dX4_product_16 : decode cX4_product 16 = .ok (.ifCond .eq 66, 3) := by decide +kernel
theorem dX4_product_19 : decode cX4_product 19 = .ok (.aload_n 0, 1) := by decide +kernel
theorem dX4_product_20 : decode cX4_product 20 = .ok (.invokevirtual 49, 3) := by decide +kernel
theorem dX4_product_23 : decode cX4_product 23 = .ok (.getfield 196, 3) := by decide +kernel
theorem dX4_product_26 : decode cX4_product 26 = .ok (.iconst 4, 1) := by decide +kernel
theorem dX4_product_27 : decode cX4_product 27 = .ok (.if_icmp .ne 55, 3) := by decide +kernel
theorem dX4_product_30 : decode cX4_product 30 = .ok (.aload_n 0, 1) := by decide +kernel
theorem dX4_product_31 : decode cX4_product 31 = .ok (.invokevirtual 49, 3) := by decide +kernel
theorem dX4_product_34 : decode cX4_product 34 = .ok (.getfield 199, 3) := by decide +kernel
theorem dX4_product_37 : decode cX4_product 37 = .ok (.istore 4, 2) := by decide +kernel
theorem dX4_product_39 : decode cX4_product 39 = .ok (.aload_n 0, 1) := by decide +kernel
theorem dX4_product_40 : decode cX4_product 40 = .ok (.dup, 1) := by decide +kernel
theorem dX4_product_41 : decode cX4_product 41 = .ok (.getfield 43, 3) := by decide +kernel
theorem dX4_product_44 : decode cX4_product 44 = .ok (.iconst 1, 1) := by decide +kernel
theorem dX4_product_45 : decode cX4_product 45 = .ok (.iadd, 1) := by decide +kernel
theorem dX4_product_46 : decode cX4_product 46 = .ok (.putfield 43, 3) := by decide +kernel
theorem dX4_product_49 : decode cX4_product 49 = .ok (.aload_n 0, 1) := by decide +kernel
theorem dX4_product_50 : decode cX4_product 50 = .ok (.iload_n 1, 1) := by decide +kernel
theorem dX4_product_51 : decode cX4_product 51 = .ok (.invokevirtual 205, 3) := by decide +kernel
theorem dX4_product_54 : decode cX4_product 54 = .ok (.ifCond .eq 20, 3) := by decide +kernel
theorem dX4_product_57 : decode cX4_product 57 = .ok (.aload_n 0, 1) := by decide +kernel
theorem dX4_product_58 : decode cX4_product 58 = .ok (.getfield 25, 3) := by decide +kernel
theorem dX4_product_61 : decode cX4_product 61 = .ok (.iload 4, 2) := by decide +kernel
theorem dX4_product_63 : decode cX4_product 63 = .ok (.iconst 0, 1) := by decide +kernel
theorem dX4_product_64 : decode cX4_product 64 = .ok (.invokevirtual 107, 3) := by decide +kernel
theorem dX4_product_67 : decode cX4_product 67 = .ok (.ifCond .eq 7, 3) := by decide +kernel
theorem dX4_product_70 : decode cX4_product 70 = .ok (.iconst 1, 1) := by decide +kernel
theorem dX4_product_71 : decode cX4_product 71 = .ok (.goto 4, 3) := by decide +kernel
theorem dX4_product_74 : decode cX4_product 74 = .ok (.iconst 0, 1) := by decide +kernel
theorem dX4_product_75 : decode cX4_product 75 = .ok (.istore_n 2, 1) := by decide +kernel
theorem dX4_product_76 : decode cX4_product 76 = .ok (.iinc 3 1, 3) := by decide +kernel
theorem dX4_product_79 : decode cX4_product 79 = .ok (.goto (-71), 3) := by decide +kernel
theorem dX4_product_82 : decode cX4_product 82 = .ok (.iload_n 2, 1) := by decide +kernel
theorem dX4_product_83 : decode cX4_product 83 = .ok (.ireturn, 1) := by decide +kernel
def f_X4_product_L8 (rec : Nat → Nat → Int32 → Mm → Option (Int32 × Mm)) (i0 : Nat) (a1 : Int32) : Nat → Int32 → Int32 → Mm → Option (Int32 × Mm)
  | 0, _, _, _ => none
  | n + 1, v2, v3, M =>
    if ((400 : Int32) ≤ v3) then (some (v2, M)) else (if (v2 = 0) then (some (v2, M)) else (bd1 (f_X4_kind i0 M) fun x7 => if tkc x7 then (if ((tkGr x7) = (4 : Int32)) then (bd1 (f_X4_kind i0 M) fun x12 => if tkc x12 then (lz (wr M i0 4 ((M i0 4) + (1 : Int32))) fun M16 => bd2 (rec 10 i0 a1 M16) fun x18 M19 => bd2 (if (x18 = 0) then (some ((0 : Int32), M19)) else (if okr 2 (M19 i0 3) then (bd2 (f_X5_emit (rid (M19 i0 3)) (tkOp x12) (0 : Int32) M19) fun x25 M26 => if (x25 = 0) then (some ((0 : Int32), M26)) else (some ((1 : Int32), M26))) else none)) fun x30 M31 => lz (v3 + (1 : Int32)) fun x33 => f_X4_product_L8 rec i0 a1 n x30 x33 M31) else none) else (some (v2, M))) else none))
def f_X4_product (rec : Nat → Nat → Int32 → Mm → Option (Int32 × Mm)) (i0 : Nat) (a1 : Int32) (M : Mm) : Option (Int32 × Mm) :=
  bd2 (rec 10 i0 a1 M) fun x1 M2 => bd2 (f_X4_product_L8 rec i0 a1 FU x1 (0 : Int32) M2) fun x36 M37 => if (x36 = 0 ∨ x36 = 1) then (some (x36, M37)) else none
set_option maxHeartbeats 4000000 in
set_option maxRecDepth 100000 in
theorem l_X4_product_L8 {p : Program} {e : Env} {s : State} {m : MethodId} {args : Array Value} {below : List Frame} {meth : Method} {c : Code} {l : Launch} {G : GG} {Q : State → Prop} (hC : CX p s m args meth c cX4_product 5 RX4 (some .boolean) G) (rec : Nat → Nat → Int32 → Mm → Option (Int32 × Mm)) {nr : Nat} (hrec : OK_P4 l G rec (RMn nr)) {i0 : Nat} (hi0 : (kd i0).1 = 7) (a1 : Int32) : ∀ (n : Nat) (v2 : Int32) (v3 : Int32) (M : Mm) {o2 : Int32} {M2 : Mm} (hr : f_X4_product_L8 rec i0 a1 n v2 v3 M = some (o2, M2)) (K : XJ p l e (RMn (nr + 1)) s m args below meth c G 5 Q 0 0 M2 82 [(2, .int o2)] []), XJ p l e (RMn (nr + 1)) s m args below meth c G 5 Q 0 0 M 8 [(0, .ref (G.2.1 i0)), (1, .int a1), (2, .int v2), (3, .int v3)] [] := by
  intro n
  induction n with
  | zero => intro v2 v3 M o2 M2 hr K; rw [f_X4_product_L8] at hr; cases hr
  | succ n ih =>
    intro v2 v3 M o2 M2 hr K
    rw [f_X4_product_L8] at hr
    refine x_iload_n hC dX4_product_8 rfl 3 rfl ?_
    refine x_sipush hC (400 : Int32) dX4_product_9 (by decide) ?_
    refine x_icmp_ge hC 82 dX4_product_12 (by decide) (fun h5 => ?_) (fun h5 => ?_)
    · have hr := (ie_s hr).1 h5
      cases hr
      exact x_sub [2] rfl K
    · have hr := (ie_s hr).2 h5
      refine x_iload_n hC dX4_product_15 rfl 2 rfl ?_
      refine x_if_eq hC 82 dX4_product_16 (by decide) (fun h6 => ?_) (fun h6 => ?_)
      · have hr := (ie_s hr).1 h6
        cases hr
        exact x_sub [2] rfl K
      · have hr := (ie_s hr).2 h6
        refine x_aload_n hC dX4_product_19 rfl 0 rfl ?_
        obtain ⟨x7, q8, hr⟩ := bd1_s hr
        refine x_callV (ci := 7) (q := (RX4, TX4, 7)) (As := []) hC (c_X4_kind l G M hi0 q8) kc_yX4_kind km_X4_49 ki_yX4_kind kv_yX4_kind kn_RX4 ky_yX4_kind rfl ⟨rfl, rfl⟩ ⟨rn_f (Nat.le_of_ble_eq_true rfl), rn_l (Nat.le_of_ble_eq_true rfl)⟩ hi0 (by decide) rfl rfl (Nat.le_of_ble_eq_true rfl) ⟨(Nat.le_of_ble_eq_true rfl), (Nat.le_of_ble_eq_true rfl)⟩ dX4_product_20 (fun b9 => ?_)
        obtain ⟨h10, hr⟩ := it_s hr
        refine x_tgroup hC (a := x7) h10 kf_X4_196 dX4_product_23 ?_
        refine x_iconst hC (4 : Int32) dX4_product_26 (by decide) ?_
        refine x_icmp_ne hC 82 dX4_product_27 (by decide) (fun h11 => ?_) (fun h11 => ?_)
        · have hr := (ie_s hr).2 h11
          cases hr
          exact x_sub [2] rfl K
        · have hr := (ie_s hr).1 h11
          refine x_aload_n hC dX4_product_30 rfl 0 rfl ?_
          obtain ⟨x12, q13, hr⟩ := bd1_s hr
          refine x_callV (ci := 7) (q := (RX4, TX4, 7)) (As := []) hC (c_X4_kind l G M hi0 q13) kc_yX4_kind km_X4_49 ki_yX4_kind kv_yX4_kind kn_RX4 ky_yX4_kind rfl ⟨rfl, rfl⟩ ⟨rn_f (Nat.le_of_ble_eq_true rfl), rn_l (Nat.le_of_ble_eq_true rfl)⟩ hi0 (by decide) rfl rfl (Nat.le_of_ble_eq_true rfl) ⟨(Nat.le_of_ble_eq_true rfl), (Nat.le_of_ble_eq_true rfl)⟩ dX4_product_31 (fun b14 => ?_)
          obtain ⟨h15, hr⟩ := it_s hr
          refine x_top hC (a := x12) h15 kf_X4_199 dX4_product_34 ?_
          refine x_istore hC [(4, .int (tkOp x12)), (0, .ref (G.2.1 i0)), (1, .int a1), (2, .int v2), (3, .int v3)] dX4_product_37  (Nat.le_of_ble_eq_true rfl) rfl ?_
          refine x_aload_n hC dX4_product_39 rfl 1 rfl ?_
          refine x_dup hC dX4_product_40 rfl ?_
          refine gf_X4_43 hC hi0 dX4_product_41 ?_
          refine x_iconst hC (1 : Int32) dX4_product_44 (by decide) ?_
          refine x_iadd hC dX4_product_45 ?_
          obtain ⟨M16, e17, hr⟩ := lz_s hr
          refine pf_X4_43 hC hi0 e17 dX4_product_46 ?_
          refine x_aload_n hC dX4_product_49 rfl 1 rfl ?_
          refine x_iload_n hC dX4_product_50 rfl 2 rfl ?_
          obtain ⟨x18, M19, q20, hr⟩ := bd2_s hr
          refine x_callV (ci := 7) (q := (RX4, TX4, 7)) (As := [.int a1]) hC (hrec.2.2.2.2.2.2.2.2.2.2 hi0 a1 q20) kc_yX4_value km_X4_205 ki_yX4_value kv_yX4_value kn_RX4 ky_yX4_value rfl ⟨rfl, rfl⟩ ⟨rn_gf, rn_gl (Nat.le_of_ble_eq_true rfl)⟩ hi0 (by decide) rfl rfl (Nat.le_of_ble_eq_true rfl) ⟨(Nat.le_of_ble_eq_true rfl), (Nat.le_of_ble_eq_true rfl)⟩ dX4_product_51 (fun b21 => ?_)
          obtain ⟨x30, M31, q22, hr⟩ := bd2_s hr
          refine x_joinB (P := (x30 = 0 ∨ x30 = 1)) (M' := M31) (pc' := 75) (lv' := [(0, .ref (G.2.1 i0)), (1, .int a1), (3, .int v3)]) (st' := [.int x30]) ?_ ?_
          · intro b32
            refine x_istore_n hC [(2, .int x30), (0, .ref (G.2.1 i0)), (1, .int a1), (3, .int v3)] dX4_product_75 rfl (Nat.le_of_ble_eq_true rfl) rfl ?_
            obtain ⟨x33, e34, hr⟩ := lz_s hr
            refine x_iinc hC [(3, .int x33), (2, .int x30), (0, .ref (G.2.1 i0)), (1, .int a1)] dX4_product_76 3 rfl (by rw [e34]; rfl) (Nat.le_of_ble_eq_true rfl) rfl ?_
            refine x_goto hC 8 dX4_product_79 (by decide) ?_
            exact x_sub [2, 3, 1, 0] rfl (ih x30 x33 M31 hr K)
          · intro kj
            refine x_if_eq hC 74 dX4_product_54 (by decide) (fun h23 => ?_) (fun h23 => ?_)
            · have q22 := (ie_s q22).1 h23
              refine x_iconst hC (0 : Int32) dX4_product_74 (by decide) ?_
              cases q22
              exact x_sub [1, 2, 4] rfl (kj (Or.inl rfl))
            · have q22 := (ie_s q22).2 h23
              refine x_aload_n hC dX4_product_57 rfl 1 rfl ?_
              obtain ⟨h24, q22⟩ := it_s q22
              refine gf_X4_25 hC hi0 h24 dX4_product_58 ?_
              refine x_iload hC dX4_product_61 0 rfl ?_
              refine x_iconst hC (0 : Int32) dX4_product_63 (by decide) ?_
              obtain ⟨x25, M26, q27, q22⟩ := bd2_s q22
              refine x_callV (ci := 2) (q := (RX5, TX5, 7)) (As := [.int (tkOp x12), .int (0 : Int32)]) hC (c_X5_emit l G M19 h24.2 (tkOp x12) (0 : Int32) q27) kc_yX5_emit km_X4_107 ki_yX5_emit kv_yX5_emit kn_RX5 ky_yX5_emit rfl ⟨rfl, rfl⟩ ⟨rn_f (Nat.le_of_ble_eq_true rfl), rn_l (Nat.le_of_ble_eq_true rfl)⟩ h24.2 (by decide) rfl rfl (Nat.le_of_ble_eq_true rfl) ⟨(Nat.le_of_ble_eq_true rfl), (Nat.le_of_ble_eq_true rfl)⟩ dX4_product_64 (fun b28 => ?_)
              refine x_if_eq hC 74 dX4_product_67 (by decide) (fun h29 => ?_) (fun h29 => ?_)
              · have q22 := (ie_s q22).1 h29
                refine x_iconst hC (0 : Int32) dX4_product_74 (by decide) ?_
                cases q22
                exact x_sub [1, 2, 4] rfl (kj (Or.inl rfl))
              · have q22 := (ie_s q22).2 h29
                refine x_iconst hC (1 : Int32) dX4_product_70 (by decide) ?_
                refine x_goto hC 75 dX4_product_71 (by decide) ?_
                cases q22
                exact x_sub [1, 2, 4] rfl (kj (Or.inr rfl))
set_option maxHeartbeats 4000000 in
set_option maxRecDepth 100000 in
theorem c_X4_product (l : Launch) (G : GG) (M : Mm) (rec : Nat → Nat → Int32 → Mm → Option (Int32 × Mm)) {nr : Nat} (hrec : OK_P4 l G rec (RMn nr)) {i0 : Nat} (hi0 : (kd i0).1 = 7) (a1 : Int32) {r : Int32} {M9 : Mm} (hr : f_X4_product rec i0 a1 M = some (r, M9)) : Mo true l yX4_product (WS yX4_product cX4_product 5 (some .boolean)) (RMn (nr + 1)) 0 0 [.ref (G.2.1 i0), .int a1] G M (some (.int r)) M9 := by
  refine Mo.of (by decide +kernel) (Nat.le_of_ble_eq_true rfl) ?_
  intro p e s m args below meth c hC
  have hC : CX p s m args meth c cX4_product 5 RX4 (some .boolean) G := hC
  rw [f_X4_product] at hr
  show XJ p l e (RMn (nr + 1)) s m args below meth c G 5 _ 0 0 M 0 [(0, .ref (G.2.1 i0)), (1, .int a1)] []
  refine x_aload_n hC dX4_product_0 rfl 0 rfl ?_
  refine x_iload_n hC dX4_product_1 rfl 1 rfl ?_
  obtain ⟨x1, M2, q3, hr⟩ := bd2_s hr
  refine x_callV (ci := 7) (q := (RX4, TX4, 7)) (As := [.int a1]) hC (hrec.2.2.2.2.2.2.2.2.2.2 hi0 a1 q3) kc_yX4_value km_X4_205 ki_yX4_value kv_yX4_value kn_RX4 ky_yX4_value rfl ⟨rfl, rfl⟩ ⟨rn_gf, rn_gl (Nat.le_of_ble_eq_true rfl)⟩ hi0 (by decide) rfl rfl (Nat.le_of_ble_eq_true rfl) ⟨(Nat.le_of_ble_eq_true rfl), (Nat.le_of_ble_eq_true rfl)⟩ dX4_product_2 (fun b4 => ?_)
  refine x_istore_n hC [(2, .int x1), (0, .ref (G.2.1 i0)), (1, .int a1)] dX4_product_5 rfl (Nat.le_of_ble_eq_true rfl) rfl ?_
  refine x_iconst hC (0 : Int32) dX4_product_6 (by decide) ?_
  refine x_istore_n hC [(3, .int (0 : Int32)), (2, .int x1), (0, .ref (G.2.1 i0)), (1, .int a1)] dX4_product_7 rfl (Nat.le_of_ble_eq_true rfl) rfl ?_
  obtain ⟨x36, M37, q35, hr⟩ := bd2_s hr
  refine x_sub [2, 3, 1, 0] rfl (l_X4_product_L8 hC rec hrec hi0 a1 FU  x1 (0 : Int32) M2 q35 ?_)
  refine x_iload_n hC dX4_product_82 rfl 0 rfl ?_
  obtain ⟨h38, hr⟩ := it_s hr
  cases hr
  exact x_zret hC rfl h38 dX4_product_83

theorem dX4_value_0 : decode cX4_value 0 = .ok (.aload_n 0, 1) := by decide +kernel
theorem dX4_value_1 : decode cX4_value 1 = .ok (.invokevirtual 49, 3) := by decide +kernel
theorem dX4_value_4 : decode cX4_value 4 = .ok (.astore_n 2, 1) := by decide +kernel
theorem dX4_value_5 : decode cX4_value 5 = .ok (.aload_n 2, 1) := by decide +kernel
theorem dX4_value_6 : decode cX4_value 6 = .ok (.getstatic 117, 3) := by decide +kernel
theorem dX4_value_9 : decode cX4_value 9 = .ok (.if_acmp .ne 35, 3) := by decide +kernel
theorem dX4_value_12 : decode cX4_value 12 = .ok (.aload_n 0, 1) := by decide +kernel
theorem dX4_value_13 : decode cX4_value 13 = .ok (.dup, 1) := by decide +kernel
theorem dX4_value_14 : decode cX4_value 14 = .ok (.getfield 43, 3) := by decide +kernel
theorem dX4_value_17 : decode cX4_value 17 = .ok (.iconst 1, 1) := by decide +kernel
theorem dX4_value_18 : decode cX4_value 18 = .ok (.iadd, 1) := by decide +kernel
theorem dX4_value_19 : decode cX4_value 19 = .ok (.putfield 43, 3) := by decide +kernel
theorem dX4_value_22 : decode cX4_value 22 = .ok (.aload_n 0, 1) := by decide +kernel
theorem dX4_value_23 : decode cX4_value 23 = .ok (.getfield 25, 3) := by decide +kernel
theorem dX4_value_26 : decode cX4_value 26 = .ok (.iconst 0, 1) := by decide +kernel
theorem dX4_value_27 : decode cX4_value 27 = .ok (.aload_n 0, 1) := by decide +kernel
theorem dX4_value_28 : decode cX4_value 28 = .ok (.getfield 12, 3) := by decide +kernel
theorem dX4_value_31 : decode cX4_value 31 = .ok (.aload_n 0, 1) := by decide +kernel
theorem dX4_value_32 : decode cX4_value 32 = .ok (.getfield 43, 3) := by decide +kernel
theorem dX4_value_35 : decode cX4_value 35 = .ok (.iconst 1, 1) := by decide +kernel
theorem dX4_value_36 : decode cX4_value 36 = .ok (.isub, 1) := by decide +kernel
theorem dX4_value_37 : decode cX4_value 37 = .ok (.invokevirtual 95, 3) := by decide +kernel
theorem dX4_value_40 : decode cX4_value 40 = .ok (.invokevirtual 107, 3) := by decide +kernel
theorem dX4_value_43 : decode cX4_value 43 = .ok (.ireturn, 1) := by decide +kernel
theorem dX4_value_44 : decode cX4_value 44 = .ok (.aload_n 2, 1) := by decide +kernel
theorem dX4_value_45 : decode cX4_value 45 = .ok (.getfield 196, 3) := by decide +kernel
theorem dX4_value_48 : decode cX4_value 48 = .ok (.iconst 1, 1) := by decide +kernel
theorem dX4_value_49 : decode cX4_value 49 = .ok (.if_icmp .ne 26, 3) := by decide +kernel
theorem dX4_value_52 : decode cX4_value 52 = .ok (.aload_n 0, 1) := by decide +kernel
theorem dX4_value_53 : decode cX4_value 53 = .ok (.dup, 1) := by decide +kernel
theorem dX4_value_54 : decode cX4_value 54 = .ok (.getfield 43, 3) := by decide +kernel
theorem dX4_value_57 : decode cX4_value 57 = .ok (.iconst 1, 1) := by decide +kernel
theorem dX4_value_58 : decode cX4_value 58 = .ok (.iadd, 1) := by decide +kernel
theorem dX4_value_59 : decode cX4_value 59 = .ok (.putfield 43, 3) := by decide +kernel
theorem dX4_value_62 : decode cX4_value 62 = .ok (.aload_n 0, 1) := by decide +kernel
theorem dX4_value_63 : decode cX4_value 63 = .ok (.getfield 25, 3) := by decide +kernel
theorem dX4_value_66 : decode cX4_value 66 = .ok (.aload_n 2, 1) := by decide +kernel
theorem dX4_value_67 : decode cX4_value 67 = .ok (.getfield 199, 3) := by decide +kernel
theorem dX4_value_70 : decode cX4_value 70 = .ok (.iconst 0, 1) := by decide +kernel
theorem dX4_value_71 : decode cX4_value 71 = .ok (.invokevirtual 107, 3) := by decide +kernel
theorem dX4_value_74 : decode cX4_value 74 = .ok (.ireturn, 1) := by decide +kernel
theorem dX4_value_75 : decode cX4_value 75 = .ok (.aload_n 2, 1) := by decide +kernel
theorem dX4_value_76 : decode cX4_value 76 = .ok (.getstatic 208, 3) := by decide +kernel
theorem dX4_value_79 : decode cX4_value 79 = .ok (.if_acmp .ne 42, 3) := by decide +kernel
theorem dX4_value_82 : decode cX4_value 82 = .ok (.aload_n 0, 1) := by decide +kernel
theorem dX4_value_83 : decode cX4_value 83 = .ok (.getstatic 208, 3) := by decide +kernel
theorem dX4_value_86 : decode cX4_value 86 = .ok (.iload_n 1, 1) := by decide +kernel
theorem dX4_value_87 : decode cX4_value 87 = .ok (.invokevirtual 123, 3) := by decide +kernel
theorem dX4_value_90 : decode cX4_value 90 = .ok (.ifCond .eq 29, 3) := by decide +kernel
theorem dX4_value_93 : decode cX4_value 93 = .ok (.aload_n 0, 1) := by decide +kernel
theorem dX4_value_94 : decode cX4_value 94 = .ok (.iload_n 1, 1) := by decide +kernel
theorem dX4_value_95 : decode cX4_value 95 = .ok (.iconst 1, 1) := by decide +kernel
theorem dX4_value_96 : decode cX4_value 96 = .ok (.iadd, 1) := by decide +kernel
theorem dX4_value_97 : decode cX4_value 97 = .ok (.invokevirtual 205, 3) := by decide +kernel
theorem dX4_value_100 : decode cX4_value 100 = .ok (.ifCond .eq 19, 3) := by decide +kernel
theorem dX4_value_103 : decode cX4_value 103 = .ok (.aload_n 0, 1) := by decide +kernel
theorem dX4_value_104 : decode cX4_value 104 = .ok (.getfield 25, 3) := by decide +kernel
theorem dX4_value_107 : decode cX4_value 107 = .ok (.iconst 1, 1) := by decide +kernel
theorem dX4_value_108 : decode cX4_value 108 = .ok (.iconst 0, 1) := by decide +kernel
theorem dX4_value_109 : decode cX4_value 109 = .ok (.invokevirtual 107, 3) := by decide +kernel
theorem dX4_value_112 : decode cX4_value 112 = .ok (.ifCond .eq 7, 3) := by decide +kernel
theorem dX4_value_115 : decode cX4_value 115 = .ok (.iconst 1, 1) := by decide +kernel
theorem dX4_value_116 : decode cX4_value 116 = .ok (.goto 4, 3) := by decide +kernel
theorem dX4_value_119 : decode cX4_value 119 = .ok (.iconst 0, 1) := by decide +kernel
theorem dX4_value_120 : decode cX4_value 120 = .ok (.ireturn, 1) := by decide +kernel
theorem dX4_value_121 : decode cX4_value 121 = .ok (.aload_n 2, 1) := by decide +kernel
theorem dX4_value_122 : decode cX4_value 122 = .ok (.getstatic 211, 3) := by decide +kernel
theorem dX4_value_125 : decode cX4_value 125 = .ok (.if_acmp .ne 40, 3) := by decide +kernel
theorem dX4_value_128 : decode cX4_value 128 = .ok (.aload_n 0, 1) := by decide +kernel
theorem dX4_value_129 : decode cX4_value 129 = .ok (.getstatic 211, 3) := by decide +kernel
theorem dX4_value_132 : decode cX4_value 132 = .ok (.iload_n 1, 1) := by decide +kernel
theorem dX4_value_133 : decode cX4_value 133 = .ok (.invokevirtual 123, 3) := by decide +kernel
theorem dX4_value_136 : decode cX4_value 136 = .ok (.ifCond .eq 27, 3) := by decide +kernel
theorem dX4_value_139 : decode cX4_value 139 = .ok (.aload_n 0, 1) := by decide +kernel
theorem dX4_value_140 : decode cX4_value 140 = .ok (.iload_n 1, 1) := by decide +kernel
theorem dX4_value_141 : decode cX4_value 141 = .ok (.iconst 1, 1) := by decide +kernel
theorem dX4_value_142 : decode cX4_value 142 = .ok (.iadd, 1) := by decide +kernel
theorem dX4_value_143 : decode cX4_value 143 = .ok (.invokevirtual 142, 3) := by decide +kernel
theorem dX4_value_146 : decode cX4_value 146 = .ok (.ifCond .eq 17, 3) := by decide +kernel
theorem dX4_value_149 : decode cX4_value 149 = .ok (.aload_n 0, 1) := by decide +kernel
theorem dX4_value_150 : decode cX4_value 150 = .ok (.getstatic 214, 3) := by decide +kernel
theorem dX4_value_153 : decode cX4_value 153 = .ok (.invokevirtual 80, 3) := by decide +kernel
theorem dX4_value_156 : decode cX4_value 156 = .ok (.ifCond .eq 7, 3) := by decide +kernel
theorem dX4_value_159 : decode cX4_value 159 = .ok (.iconst 1, 1) := by decide +kernel
theorem dX4_value_160 : decode cX4_value 160 = .ok (.goto 4, 3) := by decide +kernel
theorem dX4_value_163 : decode cX4_value 163 = .ok (.iconst 0, 1) := by decide +kernel
theorem dX4_value_164 : decode cX4_value 164 = .ok (.ireturn, 1) := by decide +kernel
theorem dX4_value_165 : decode cX4_value 165 = .ok (.aload_n 2, 1) := by decide +kernel
theorem dX4_value_166 : decode cX4_value 166 = .ok (.getfield 196, 3) := by decide +kernel
theorem dX4_value_169 : decode cX4_value 169 = .ok (.iconst 2, 1) := by decide +kernel
theorem dX4_value_170 : decode cX4_value 170 = .ok (.if_icmp .ne 85, 3) := by decide +kernel
theorem dX4_value_173 : decode cX4_value 173 = .ok (.aload_n 0, 1) := by decide +kernel
theorem dX4_value_174 : decode cX4_value 174 = .ok (.dup, 1) := by decide +kernel
theorem dX4_value_175 : decode cX4_value 175 = .ok (.getfield 43, 3) := by decide +kernel
theorem dX4_value_178 : decode cX4_value 178 = .ok (.iconst 1, 1) := by decide +kernel
theorem dX4_value_179 : decode cX4_value 179 = .ok (.iadd, 1) := by decide +kernel
theorem dX4_value_180 : decode cX4_value 180 = .ok (.putfield 43, 3) := by decide +kernel
theorem dX4_value_183 : decode cX4_value 183 = .ok (.aload_n 0, 1) := by decide +kernel
theorem dX4_value_184 : decode cX4_value 184 = .ok (.getstatic 211, 3) := by decide +kernel
theorem dX4_value_187 : decode cX4_value 187 = .ok (.iload_n 1, 1) := by decide +kernel
theorem dX4_value_188 : decode cX4_value 188 = .ok (.invokevirtual 123, 3) := by decide +kernel
theorem dX4_value_191 : decode cX4_value 191 = .ok (.ifCond .eq 62, 3) := by decide +kernel
theorem dX4_value_194 : decode cX4_value 194 = .ok (.aload_n 0, 1) := by decide +kernel
theorem dX4_value_195 : decode cX4_value 195 = .ok (.iload_n 1, 1) := by decide +kernel
theorem dX4_value_196 : decode cX4_value 196 = .ok (.iconst 1, 1) := by decide +kernel
theorem dX4_value_197 : decode cX4_value 197 = .ok (.iadd, 1) := by decide +kernel
theorem dX4_value_198 : decode cX4_value 198 = .ok (.invokevirtual 142, 3) := by decide +kernel
theorem dX4_value_201 : decode cX4_value 201 = .ok (.ifCond .eq 52, 3) := by decide +kernel
theorem dX4_value_204 : decode cX4_value 204 = .ok (.aload_n 0, 1) := by decide +kernel
theorem dX4_value_205 : decode cX4_value 205 = .ok (.getstatic 145, 3) := by decide +kernel
theorem dX4_value_208 : decode cX4_value 208 = .ok (.invokevirtual 80, 3) := by decide +kernel
theorem dX4_value_211 : decode cX4_value 211 = .ok (.ifCond .eq 42, 3) := by decide +kernel
theorem dX4_value_214 : decode cX4_value 214 = .ok (.aload_n 0, 1) := by decide +kernel
theorem dX4_value_215 : decode cX4_value 215 = .ok (.iload_n 1, 1) := by decide +kernel
theorem dX4_value_216 : decode cX4_value 216 = .ok (.iconst 1, 1) := by decide +kernel
theorem dX4_value_217 : decode cX4_value 217 = .ok (.iadd, 1) := by decide +kernel
theorem dX4_value_218 : decode cX4_value 218 = .ok (.invokevirtual 142, 3) := by decide +kernel
theorem dX4_value_221 : decode cX4_value 221 = .ok (.ifCond .eq 32, 3) := by decide +kernel
theorem dX4_value_224 : decode cX4_value 224 = .ok (.aload_n 0, 1) := by decide +kernel
theorem dX4_value_225 : decode cX4_value 225 = .ok (.getstatic 214, 3) := by decide +kernel
theorem dX4_value_228 : decode cX4_value 228 = .ok (.invokevirtual 80, 3) := by decide +kernel
theorem dX4_value_231 : decode cX4_value 231 = .ok (.ifCond .eq 22, 3) := by decide +kernel
theorem dX4_value_234 : decode cX4_value 234 = .ok (.aload_n 0, 1) := by decide +kernel
theorem dX4_value_235 : decode cX4_value 235 = .ok (.getfield 25, 3) := by decide +kernel
theorem dX4_value_238 : decode cX4_value 238 = .ok (.aload_n 2, 1) := by decide +kernel
theorem dX4_value_239 : decode cX4_value 239 = .ok (.getfield 199, 3) := by decide +kernel
theorem dX4_value_242 : decode cX4_value 242 = .ok (.iconst 0, 1) := by decide +kernel
theorem dX4_value_243 : decode cX4_value 243 = .ok (.invokevirtual 107, 3) := by decide +kernel
theorem dX4_value_246 : decode cX4_value 246 = .ok (.ifCond .eq 7, 3) := by decide +kernel
theorem dX4_value_249 : decode cX4_value 249 = .ok (.iconst 1, 1) := by decide +kernel
theorem dX4_value_250 : decode cX4_value 250 = .ok (.goto 4, 3) := by decide +kernel
theorem dX4_value_253 : decode cX4_value 253 = .ok (.iconst 0, 1) := by decide +kernel
theorem dX4_value_254 : decode cX4_value 254 = .ok (.ireturn, 1) := by decide +kernel
theorem dX4_value_255 : decode cX4_value 255 = .ok (.aload_n 0, 1) := by decide +kernel
theorem dX4_value_256 : decode cX4_value 256 = .ok (.invokevirtual 66, 3) := by decide +kernel
theorem dX4_value_259 : decode cX4_value 259 = .ok (.ireturn, 1) := by decide +kernel

def f_X4_value (rec : Nat → Nat → Int32 → Mm → Option (Int32 × Mm)) (i0 : Nat) (a1 : Int32) (M : Mm) : Option (Int32 × Mm) :=
  bd1 (f_X4_kind i0 M) fun x1 => if tkc x1 then (if (x1 = (1049 : Int32)) then (lz (wr M i0 4 ((M i0 4) + (1 : Int32))) fun M91 => if okr 2 (M91 i0 3) then (bd1 (f_X6_numberAt (i0 + 1) ((M91 i0 4) - (1 : Int32)) M91) fun x94 => bd2 (f_X5_emit (rid (M91 i0 3)) (0 : Int32) x94 M91) fun x97 M98 => some (x97, M98)) else none) else (if tkc x1 then (if ((tkGr x1) = (1 : Int32)) then (lz (wr M i0 4 ((M i0 4) + (1 : Int32))) fun M83 => if okr 2 (M83 i0 3) then (if tkc x1 then (bd2 (f_X5_emit (rid (M83 i0 3)) (tkOp x1) (0 : Int32) M83) fun x87 M88 => some (x87, M88)) else none) else none) else (if tkc x1 then (if (x1 = (1040 : Int32)) then (bd2 (f_X4_enter i0 (1040 : Int32) a1 M) fun x67 M68 => if (x67 = 0) then (some ((0 : Int32), M68)) else (bd2 (rec 10 i0 (a1 + (1 : Int32)) M68) fun x72 M73 => if (x72 = 0) then (some ((0 : Int32), M73)) else (if okr 2 (M73 i0 3) then (bd2 (f_X5_emit (rid (M73 i0 3)) (1 : Int32) (0 : Int32) M73) fun x78 M79 => if (x78 = 0) then (some ((0 : Int32), M79)) else (some ((1 : Int32), M79))) else none))) else (if tkc x1 then (if (x1 = (1033 : Int32)) then (bd2 (f_X4_enter i0 (1033 : Int32) a1 M) fun x52 M53 => if (x52 = 0) then (some ((0 : Int32), M53)) else (bd2 (rec 8 i0 (a1 + (1 : Int32)) M53) fun x57 M58 => if (x57 = 0) then (some ((0 : Int32), M58)) else (bd2 (f_X4_expect i0 (1034 : Int32) M58) fun x62 M63 => if (x62 = 0) then (some ((0 : Int32), M63)) else (some ((1 : Int32), M63))))) else (if tkc x1 then (if ((tkGr x1) = (2 : Int32)) then (lz (wr M i0 4 ((M i0 4) + (1 : Int32))) fun M18 => bd2 (f_X4_enter i0 (1033 : Int32) a1 M18) fun x20 M21 => if (x20 = 0) then (some ((0 : Int32), M21)) else (bd2 (rec 8 i0 (a1 + (1 : Int32)) M21) fun x25 M26 => if (x25 = 0) then (some ((0 : Int32), M26)) else (bd2 (f_X4_expect i0 (1038 : Int32) M26) fun x30 M31 => if (x30 = 0) then (some ((0 : Int32), M31)) else (bd2 (rec 8 i0 (a1 + (1 : Int32)) M31) fun x35 M36 => if (x35 = 0) then (some ((0 : Int32), M36)) else (bd2 (f_X4_expect i0 (1034 : Int32) M36) fun x40 M41 => if (x40 = 0) then (some ((0 : Int32), M41)) else (if okr 2 (M41 i0 3) then (if tkc x1 then (bd2 (f_X5_emit (rid (M41 i0 3)) (tkOp x1) (0 : Int32) M41) fun x47 M48 => if (x47 = 0) then (some ((0 : Int32), M48)) else (some ((1 : Int32), M48))) else none) else none)))))) else (bd2 (f_X4_refuse i0 M) fun x14 M15 => some (x14, M15))) else none)) else none)) else none)) else none)) else none

set_option maxHeartbeats 4000000 in
set_option maxRecDepth 100000 in
theorem c_X4_value (l : Launch) (G : GG) (M : Mm) (rec : Nat → Nat → Int32 → Mm → Option (Int32 × Mm)) {nr : Nat} (hrec : OK_P4 l G rec (RMn nr)) {i0 : Nat} (hi0 : (kd i0).1 = 7) (a1 : Int32) {r : Int32} {M9 : Mm} (hr : f_X4_value rec i0 a1 M = some (r, M9)) : Mo true l yX4_value (WS yX4_value cX4_value 3 (some .boolean)) (RMn (nr + 1)) 0 0 [.ref (G.2.1 i0), .int a1] G M (some (.int r)) M9 := by
  refine Mo.of (by decide +kernel) (Nat.le_of_ble_eq_true rfl) ?_
  intro p e s m args below meth c hC
  have hC : CX p s m args meth c cX4_value 3 RX4 (some .boolean) G := hC
  rw [f_X4_value] at hr
  show XJ p l e (RMn (nr + 1)) s m args below meth c G 3 _ 0 0 M 0 [(0, .ref (G.2.1 i0)), (1, .int a1)] []
  refine x_aload_n hC dX4_value_0 rfl 0 rfl ?_
  obtain ⟨x1, q2, hr⟩ := bd1_s hr
  refine x_callV (ci := 7) (q := (RX4, TX4, 7)) (As := []) hC (c_X4_kind l G M hi0 q2) kc_yX4_kind km_X4_49 ki_yX4_kind kv_yX4_kind kn_RX4 ky_yX4_kind rfl ⟨rfl, rfl⟩ ⟨rn_f (Nat.le_of_ble_eq_true rfl), rn_l (Nat.le_of_ble_eq_true rfl)⟩ hi0 (by decide) rfl rfl (Nat.le_of_ble_eq_true rfl) ⟨(Nat.le_of_ble_eq_true rfl), (Nat.le_of_ble_eq_true rfl)⟩ dX4_value_1 (fun b3 => ?_)
  refine x_astore_n hC [(2, .ref (G.2.1 (rid x1))), (0, .ref (G.2.1 i0)), (1, .int a1)] dX4_value_4 rfl (Nat.le_of_ble_eq_true rfl) rfl ?_
  refine x_aload_n hC dX4_value_5 rfl 0 rfl ?_
  refine x_tgets hC (a := (1049 : Int32)) 48 (by decide) rfl (by decide) kf_X4_117 dX4_value_6 ?_
  obtain ⟨h4, hr⟩ := it_s hr
  refine x_acmp_ne hC 44 ⟨h4, (by decide)⟩ dX4_value_9 (by decide) (fun h5 => ?_) (fun h5 => ?_)
  · have hr := (ie_s hr).2 h5
    refine x_aload_n hC dX4_value_44 rfl 0 rfl ?_
    obtain ⟨h6, hr⟩ := it_s hr
    refine x_tgroup hC (a := x1) h6 kf_X4_196 dX4_value_45 ?_
    refine x_iconst hC (1 : Int32) dX4_value_48 (by decide) ?_
    refine x_icmp_ne hC 75 dX4_value_49 (by decide) (fun h7 => ?_) (fun h7 => ?_)
    · have hr := (ie_s hr).2 h7
      refine x_aload_n hC dX4_value_75 rfl 0 rfl ?_
      refine x_tgets hC (a := (1040 : Int32)) 39 (by decide) rfl (by decide) kf_X4_208 dX4_value_76 ?_
      obtain ⟨h8, hr⟩ := it_s hr
      refine x_acmp_ne hC 121 ⟨h8, (by decide)⟩ dX4_value_79 (by decide) (fun h9 => ?_) (fun h9 => ?_)
      · have hr := (ie_s hr).2 h9
        refine x_aload_n hC dX4_value_121 rfl 0 rfl ?_
        refine x_tgets hC (a := (1033 : Int32)) 32 (by decide) rfl (by decide) kf_X4_211 dX4_value_122 ?_
        obtain ⟨h10, hr⟩ := it_s hr
        refine x_acmp_ne hC 165 ⟨h10, (by decide)⟩ dX4_value_125 (by decide) (fun h11 => ?_) (fun h11 => ?_)
        · have hr := (ie_s hr).2 h11
          refine x_aload_n hC dX4_value_165 rfl 0 rfl ?_
          obtain ⟨h12, hr⟩ := it_s hr
          refine x_tgroup hC (a := x1) h12 kf_X4_196 dX4_value_166 ?_
          refine x_iconst hC (2 : Int32) dX4_value_169 (by decide) ?_
          refine x_icmp_ne hC 255 dX4_value_170 (by decide) (fun h13 => ?_) (fun h13 => ?_)
          · have hr := (ie_s hr).2 h13
            refine x_aload_n hC dX4_value_255 rfl 1 rfl ?_
            obtain ⟨x14, M15, q16, hr⟩ := bd2_s hr
            refine x_callV (ci := 7) (q := (RX4, TX4, 7)) (As := []) hC (c_X4_refuse l G M hi0 q16) kc_yX4_refuse km_X4_66 ki_yX4_refuse kv_yX4_refuse kn_RX4 ky_yX4_refuse rfl ⟨rfl, rfl⟩ ⟨rn_f (Nat.le_of_ble_eq_true rfl), rn_l (Nat.le_of_ble_eq_true rfl)⟩ hi0 (by decide) rfl rfl (Nat.le_of_ble_eq_true rfl) ⟨(Nat.le_of_ble_eq_true rfl), (Nat.le_of_ble_eq_true rfl)⟩ dX4_value_256 (fun b17 => ?_)
            cases hr
            exact x_zret hC rfl (BV.out b17) dX4_value_259
          · have hr := (ie_s hr).1 h13
            refine x_aload_n hC dX4_value_173 rfl 1 rfl ?_
            refine x_dup hC dX4_value_174 rfl ?_
            refine gf_X4_43 hC hi0 dX4_value_175 ?_
            refine x_iconst hC (1 : Int32) dX4_value_178 (by decide) ?_
            refine x_iadd hC dX4_value_179 ?_
            obtain ⟨M18, e19, hr⟩ := lz_s hr
            refine pf_X4_43 hC hi0 e19 dX4_value_180 ?_
            refine x_aload_n hC dX4_value_183 rfl 1 rfl ?_
            refine x_tgets hC (a := (1033 : Int32)) 32 (by decide) rfl (by decide) kf_X4_211 dX4_value_184 ?_
            refine x_iload_n hC dX4_value_187 rfl 2 rfl ?_
            obtain ⟨x20, M21, q22, hr⟩ := bd2_s hr
            refine x_callV (ci := 7) (q := (RX4, TX4, 7)) (As := [.ref (G.2.1 (rid (1033 : Int32))), .int a1]) hC (c_X4_enter l G M18 hi0 (1033 : Int32) a1 q22) kc_yX4_enter km_X4_123 ki_yX4_enter kv_yX4_enter kn_RX4 ky_yX4_enter rfl ⟨rfl, rfl⟩ ⟨rn_f (Nat.le_of_ble_eq_true rfl), rn_l (Nat.le_of_ble_eq_true rfl)⟩ hi0 (by decide) rfl rfl (Nat.le_of_ble_eq_true rfl) ⟨(Nat.le_of_ble_eq_true rfl), (Nat.le_of_ble_eq_true rfl)⟩ dX4_value_188 (fun b23 => ?_)
            refine x_if_eq hC 253 dX4_value_191 (by decide) (fun h24 => ?_) (fun h24 => ?_)
            · have hr := (ie_s hr).1 h24
              refine x_iconst hC (0 : Int32) dX4_value_253 (by decide) ?_
              cases hr
              exact x_zret hC rfl (Or.inl rfl) dX4_value_254
            · have hr := (ie_s hr).2 h24
              refine x_aload_n hC dX4_value_194 rfl 1 rfl ?_
              refine x_iload_n hC dX4_value_195 rfl 2 rfl ?_
              refine x_iconst hC (1 : Int32) dX4_value_196 (by decide) ?_
              refine x_iadd hC dX4_value_197 ?_
              obtain ⟨x25, M26, q27, hr⟩ := bd2_s hr
              refine x_callV (ci := 7) (q := (RX4, TX4, 7)) (As := [.int (a1 + (1 : Int32))]) hC (hrec.2.2.2.2.2.2.2.2.1 hi0 (a1 + (1 : Int32)) q27) kc_yX4_sum km_X4_142 ki_yX4_sum kv_yX4_sum kn_RX4 ky_yX4_sum rfl ⟨rfl, rfl⟩ ⟨rn_gf, rn_gl (Nat.le_of_ble_eq_true rfl)⟩ hi0 (by decide) rfl rfl (Nat.le_of_ble_eq_true rfl) ⟨(Nat.le_of_ble_eq_true rfl), (Nat.le_of_ble_eq_true rfl)⟩ dX4_value_198 (fun b28 => ?_)
              refine x_if_eq hC 253 dX4_value_201 (by decide) (fun h29 => ?_) (fun h29 => ?_)
              · have hr := (ie_s hr).1 h29
                refine x_iconst hC (0 : Int32) dX4_value_253 (by decide) ?_
                cases hr
                exact x_zret hC rfl (Or.inl rfl) dX4_value_254
              · have hr := (ie_s hr).2 h29
                refine x_aload_n hC dX4_value_204 rfl 1 rfl ?_
                refine x_tgets hC (a := (1038 : Int32)) 37 (by decide) rfl (by decide) kf_X4_145 dX4_value_205 ?_
                obtain ⟨x30, M31, q32, hr⟩ := bd2_s hr
                refine x_callV (ci := 7) (q := (RX4, TX4, 7)) (As := [.ref (G.2.1 (rid (1038 : Int32)))]) hC (c_X4_expect l G M26 hi0 (1038 : Int32) q32) kc_yX4_expect km_X4_80 ki_yX4_expect kv_yX4_expect kn_RX4 ky_yX4_expect rfl ⟨rfl, rfl⟩ ⟨rn_f (Nat.le_of_ble_eq_true rfl), rn_l (Nat.le_of_ble_eq_true rfl)⟩ hi0 (by decide) rfl rfl (Nat.le_of_ble_eq_true rfl) ⟨(Nat.le_of_ble_eq_true rfl), (Nat.le_of_ble_eq_true rfl)⟩ dX4_value_208 (fun b33 => ?_)
                refine x_if_eq hC 253 dX4_value_211 (by decide) (fun h34 => ?_) (fun h34 => ?_)
                · have hr := (ie_s hr).1 h34
                  refine x_iconst hC (0 : Int32) dX4_value_253 (by decide) ?_
                  cases hr
                  exact x_zret hC rfl (Or.inl rfl) dX4_value_254
                · have hr := (ie_s hr).2 h34
                  refine x_aload_n hC dX4_value_214 rfl 1 rfl ?_
                  refine x_iload_n hC dX4_value_215 rfl 2 rfl ?_
                  refine x_iconst hC (1 : Int32) dX4_value_216 (by decide) ?_
                  refine x_iadd hC dX4_value_217 ?_
                  obtain ⟨x35, M36, q37, hr⟩ := bd2_s hr
                  refine x_callV (ci := 7) (q := (RX4, TX4, 7)) (As := [.int (a1 + (1 : Int32))]) hC (hrec.2.2.2.2.2.2.2.2.1 hi0 (a1 + (1 : Int32)) q37) kc_yX4_sum km_X4_142 ki_yX4_sum kv_yX4_sum kn_RX4 ky_yX4_sum rfl ⟨rfl, rfl⟩ ⟨rn_gf, rn_gl (Nat.le_of_ble_eq_true rfl)⟩ hi0 (by decide) rfl rfl (Nat.le_of_ble_eq_true rfl) ⟨(Nat.le_of_ble_eq_true rfl), (Nat.le_of_ble_eq_true rfl)⟩ dX4_value_218 (fun b38 => ?_)
                  refine x_if_eq hC 253 dX4_value_221 (by decide) (fun h39 => ?_) (fun h39 => ?_)
                  · have hr := (ie_s hr).1 h39
                    refine x_iconst hC (0 : Int32) dX4_value_253 (by decide) ?_
                    cases hr
                    exact x_zret hC rfl (Or.inl rfl) dX4_value_254
                  · have hr := (ie_s hr).2 h39
                    refine x_aload_n hC dX4_value_224 rfl 1 rfl ?_
                    refine x_tgets hC (a := (1034 : Int32)) 33 (by decide) rfl (by decide) kf_X4_214 dX4_value_225 ?_
                    obtain ⟨x40, M41, q42, hr⟩ := bd2_s hr
                    refine x_callV (ci := 7) (q := (RX4, TX4, 7)) (As := [.ref (G.2.1 (rid (1034 : Int32)))]) hC (c_X4_expect l G M36 hi0 (1034 : Int32) q42) kc_yX4_expect km_X4_80 ki_yX4_expect kv_yX4_expect kn_RX4 ky_yX4_expect rfl ⟨rfl, rfl⟩ ⟨rn_f (Nat.le_of_ble_eq_true rfl), rn_l (Nat.le_of_ble_eq_true rfl)⟩ hi0 (by decide) rfl rfl (Nat.le_of_ble_eq_true rfl) ⟨(Nat.le_of_ble_eq_true rfl), (Nat.le_of_ble_eq_true rfl)⟩ dX4_value_228 (fun b43 => ?_)
                    refine x_if_eq hC 253 dX4_value_231 (by decide) (fun h44 => ?_) (fun h44 => ?_)
                    · have hr := (ie_s hr).1 h44
                      refine x_iconst hC (0 : Int32) dX4_value_253 (by decide) ?_
                      cases hr
                      exact x_zret hC rfl (Or.inl rfl) dX4_value_254
                    · have hr := (ie_s hr).2 h44
                      refine x_aload_n hC dX4_value_234 rfl 1 rfl ?_
                      obtain ⟨h45, hr⟩ := it_s hr
                      refine gf_X4_25 hC hi0 h45 dX4_value_235 ?_
                      refine x_aload_n hC dX4_value_238 rfl 0 rfl ?_
                      obtain ⟨h46, hr⟩ := it_s hr
                      refine x_top hC (a := x1) h46 kf_X4_199 dX4_value_239 ?_
                      refine x_iconst hC (0 : Int32) dX4_value_242 (by decide) ?_
                      obtain ⟨x47, M48, q49, hr⟩ := bd2_s hr
                      refine x_callV (ci := 2) (q := (RX5, TX5, 7)) (As := [.int (tkOp x1), .int (0 : Int32)]) hC (c_X5_emit l G M41 h45.2 (tkOp x1) (0 : Int32) q49) kc_yX5_emit km_X4_107 ki_yX5_emit kv_yX5_emit kn_RX5 ky_yX5_emit rfl ⟨rfl, rfl⟩ ⟨rn_f (Nat.le_of_ble_eq_true rfl), rn_l (Nat.le_of_ble_eq_true rfl)⟩ h45.2 (by decide) rfl rfl (Nat.le_of_ble_eq_true rfl) ⟨(Nat.le_of_ble_eq_true rfl), (Nat.le_of_ble_eq_true rfl)⟩ dX4_value_243 (fun b50 => ?_)
                      refine x_if_eq hC 253 dX4_value_246 (by decide) (fun h51 => ?_) (fun h51 => ?_)
                      · have hr := (ie_s hr).1 h51
                        refine x_iconst hC (0 : Int32) dX4_value_253 (by decide) ?_
                        cases hr
                        exact x_zret hC rfl (Or.inl rfl) dX4_value_254
                      · have hr := (ie_s hr).2 h51
                        refine x_iconst hC (1 : Int32) dX4_value_249 (by decide) ?_
                        refine x_goto hC 254 dX4_value_250 (by decide) ?_
                        cases hr
                        exact x_zret hC rfl (Or.inr rfl) dX4_value_254
        · have hr := (ie_s hr).1 h11
          refine x_aload_n hC dX4_value_128 rfl 1 rfl ?_
          refine x_tgets hC (a := (1033 : Int32)) 32 (by decide) rfl (by decide) kf_X4_211 dX4_value_129 ?_
          refine x_iload_n hC dX4_value_132 rfl 2 rfl ?_
          obtain ⟨x52, M53, q54, hr⟩ := bd2_s hr
          refine x_callV (ci := 7) (q := (RX4, TX4, 7)) (As := [.ref (G.2.1 (rid (1033 : Int32))), .int a1]) hC (c_X4_enter l G M hi0 (1033 : Int32) a1 q54) kc_yX4_enter km_X4_123 ki_yX4_enter kv_yX4_enter kn_RX4 ky_yX4_enter rfl ⟨rfl, rfl⟩ ⟨rn_f (Nat.le_of_ble_eq_true rfl), rn_l (Nat.le_of_ble_eq_true rfl)⟩ hi0 (by decide) rfl rfl (Nat.le_of_ble_eq_true rfl) ⟨(Nat.le_of_ble_eq_true rfl), (Nat.le_of_ble_eq_true rfl)⟩ dX4_value_133 (fun b55 => ?_)
          refine x_if_eq hC 163 dX4_value_136 (by decide) (fun h56 => ?_) (fun h56 => ?_)
          · have hr := (ie_s hr).1 h56
            refine x_iconst hC (0 : Int32) dX4_value_163 (by decide) ?_
            cases hr
            exact x_zret hC rfl (Or.inl rfl) dX4_value_164
          · have hr := (ie_s hr).2 h56
            refine x_aload_n hC dX4_value_139 rfl 1 rfl ?_
            refine x_iload_n hC dX4_value_140 rfl 2 rfl ?_
            refine x_iconst hC (1 : Int32) dX4_value_141 (by decide) ?_
            refine x_iadd hC dX4_value_142 ?_
            obtain ⟨x57, M58, q59, hr⟩ := bd2_s hr
            refine x_callV (ci := 7) (q := (RX4, TX4, 7)) (As := [.int (a1 + (1 : Int32))]) hC (hrec.2.2.2.2.2.2.2.2.1 hi0 (a1 + (1 : Int32)) q59) kc_yX4_sum km_X4_142 ki_yX4_sum kv_yX4_sum kn_RX4 ky_yX4_sum rfl ⟨rfl, rfl⟩ ⟨rn_gf, rn_gl (Nat.le_of_ble_eq_true rfl)⟩ hi0 (by decide) rfl rfl (Nat.le_of_ble_eq_true rfl) ⟨(Nat.le_of_ble_eq_true rfl), (Nat.le_of_ble_eq_true rfl)⟩ dX4_value_143 (fun b60 => ?_)
            refine x_if_eq hC 163 dX4_value_146 (by decide) (fun h61 => ?_) (fun h61 => ?_)
            · have hr := (ie_s hr).1 h61
              refine x_iconst hC (0 : Int32) dX4_value_163 (by decide) ?_
              cases hr
              exact x_zret hC rfl (Or.inl rfl) dX4_value_164
            · have hr := (ie_s hr).2 h61
              refine x_aload_n hC dX4_value_149 rfl 1 rfl ?_
              refine x_tgets hC (a := (1034 : Int32)) 33 (by decide) rfl (by decide) kf_X4_214 dX4_value_150 ?_
              obtain ⟨x62, M63, q64, hr⟩ := bd2_s hr
              refine x_callV (ci := 7) (q := (RX4, TX4, 7)) (As := [.ref (G.2.1 (rid (1034 : Int32)))]) hC (c_X4_expect l G M58 hi0 (1034 : Int32) q64) kc_yX4_expect km_X4_80 ki_yX4_expect kv_yX4_expect kn_RX4 ky_yX4_expect rfl ⟨rfl, rfl⟩ ⟨rn_f (Nat.le_of_ble_eq_true rfl), rn_l (Nat.le_of_ble_eq_true rfl)⟩ hi0 (by decide) rfl rfl (Nat.le_of_ble_eq_true rfl) ⟨(Nat.le_of_ble_eq_true rfl), (Nat.le_of_ble_eq_true rfl)⟩ dX4_value_153 (fun b65 => ?_)
              refine x_if_eq hC 163 dX4_value_156 (by decide) (fun h66 => ?_) (fun h66 => ?_)
              · have hr := (ie_s hr).1 h66
                refine x_iconst hC (0 : Int32) dX4_value_163 (by decide) ?_
                cases hr
                exact x_zret hC rfl (Or.inl rfl) dX4_value_164
              · have hr := (ie_s hr).2 h66
                refine x_iconst hC (1 : Int32) dX4_value_159 (by decide) ?_
                refine x_goto hC 164 dX4_value_160 (by decide) ?_
                cases hr
                exact x_zret hC rfl (Or.inr rfl) dX4_value_164
      · have hr := (ie_s hr).1 h9
        refine x_aload_n hC dX4_value_82 rfl 1 rfl ?_
        refine x_tgets hC (a := (1040 : Int32)) 39 (by decide) rfl (by decide) kf_X4_208 dX4_value_83 ?_
        refine x_iload_n hC dX4_value_86 rfl 2 rfl ?_
        obtain ⟨x67, M68, q69, hr⟩ := bd2_s hr
        refine x_callV (ci := 7) (q := (RX4, TX4, 7)) (As := [.ref (G.2.1 (rid (1040 : Int32))), .int a1]) hC (c_X4_enter l G M hi0 (1040 : Int32) a1 q69) kc_yX4_enter km_X4_123 ki_yX4_enter kv_yX4_enter kn_RX4 ky_yX4_enter rfl ⟨rfl, rfl⟩ ⟨rn_f (Nat.le_of_ble_eq_true rfl), rn_l (Nat.le_of_ble_eq_true rfl)⟩ hi0 (by decide) rfl rfl (Nat.le_of_ble_eq_true rfl) ⟨(Nat.le_of_ble_eq_true rfl), (Nat.le_of_ble_eq_true rfl)⟩ dX4_value_87 (fun b70 => ?_)
        refine x_if_eq hC 119 dX4_value_90 (by decide) (fun h71 => ?_) (fun h71 => ?_)
        · have hr := (ie_s hr).1 h71
          refine x_iconst hC (0 : Int32) dX4_value_119 (by decide) ?_
          cases hr
          exact x_zret hC rfl (Or.inl rfl) dX4_value_120
        · have hr := (ie_s hr).2 h71
          refine x_aload_n hC dX4_value_93 rfl 1 rfl ?_
          refine x_iload_n hC dX4_value_94 rfl 2 rfl ?_
          refine x_iconst hC (1 : Int32) dX4_value_95 (by decide) ?_
          refine x_iadd hC dX4_value_96 ?_
          obtain ⟨x72, M73, q74, hr⟩ := bd2_s hr
          refine x_callV (ci := 7) (q := (RX4, TX4, 7)) (As := [.int (a1 + (1 : Int32))]) hC (hrec.2.2.2.2.2.2.2.2.2.2 hi0 (a1 + (1 : Int32)) q74) kc_yX4_value km_X4_205 ki_yX4_value kv_yX4_value kn_RX4 ky_yX4_value rfl ⟨rfl, rfl⟩ ⟨rn_gf, rn_gl (Nat.le_of_ble_eq_true rfl)⟩ hi0 (by decide) rfl rfl (Nat.le_of_ble_eq_true rfl) ⟨(Nat.le_of_ble_eq_true rfl), (Nat.le_of_ble_eq_true rfl)⟩ dX4_value_97 (fun b75 => ?_)
          refine x_if_eq hC 119 dX4_value_100 (by decide) (fun h76 => ?_) (fun h76 => ?_)
          · have hr := (ie_s hr).1 h76
            refine x_iconst hC (0 : Int32) dX4_value_119 (by decide) ?_
            cases hr
            exact x_zret hC rfl (Or.inl rfl) dX4_value_120
          · have hr := (ie_s hr).2 h76
            refine x_aload_n hC dX4_value_103 rfl 1 rfl ?_
            obtain ⟨h77, hr⟩ := it_s hr
            refine gf_X4_25 hC hi0 h77 dX4_value_104 ?_
            refine x_iconst hC (1 : Int32) dX4_value_107 (by decide) ?_
            refine x_iconst hC (0 : Int32) dX4_value_108 (by decide) ?_
            obtain ⟨x78, M79, q80, hr⟩ := bd2_s hr
            refine x_callV (ci := 2) (q := (RX5, TX5, 7)) (As := [.int (1 : Int32), .int (0 : Int32)]) hC (c_X5_emit l G M73 h77.2 (1 : Int32) (0 : Int32) q80) kc_yX5_emit km_X4_107 ki_yX5_emit kv_yX5_emit kn_RX5 ky_yX5_emit rfl ⟨rfl, rfl⟩ ⟨rn_f (Nat.le_of_ble_eq_true rfl), rn_l (Nat.le_of_ble_eq_true rfl)⟩ h77.2 (by decide) rfl rfl (Nat.le_of_ble_eq_true rfl) ⟨(Nat.le_of_ble_eq_true rfl), (Nat.le_of_ble_eq_true rfl)⟩ dX4_value_109 (fun b81 => ?_)
            refine x_if_eq hC 119 dX4_value_112 (by decide) (fun h82 => ?_) (fun h82 => ?_)
            · have hr := (ie_s hr).1 h82
              refine x_iconst hC (0 : Int32) dX4_value_119 (by decide) ?_
              cases hr
              exact x_zret hC rfl (Or.inl rfl) dX4_value_120
            · have hr := (ie_s hr).2 h82
              refine x_iconst hC (1 : Int32) dX4_value_115 (by decide) ?_
              refine x_goto hC 120 dX4_value_116 (by decide) ?_
              cases hr
              exact x_zret hC rfl (Or.inr rfl) dX4_value_120
    · have hr := (ie_s hr).1 h7
      refine x_aload_n hC dX4_value_52 rfl 1 rfl ?_
      refine x_dup hC dX4_value_53 rfl ?_
      refine gf_X4_43 hC hi0 dX4_value_54 ?_
      refine x_iconst hC (1 : Int32) dX4_value_57 (by decide) ?_
      refine x_iadd hC dX4_value_58 ?_
      obtain ⟨M83, e84, hr⟩ := lz_s hr
      refine pf_X4_43 hC hi0 e84 dX4_value_59 ?_
      refine x_aload_n hC dX4_value_62 rfl 1 rfl ?_
      obtain ⟨h85, hr⟩ := it_s hr
      refine gf_X4_25 hC hi0 h85 dX4_value_63 ?_
      refine x_aload_n hC dX4_value_66 rfl 0 rfl ?_
      obtain ⟨h86, hr⟩ := it_s hr
      refine x_top hC (a := x1) h86 kf_X4_199 dX4_value_67 ?_
      refine x_iconst hC (0 : Int32) dX4_value_70 (by decide) ?_
      obtain ⟨x87, M88, q89, hr⟩ := bd2_s hr
      refine x_callV (ci := 2) (q := (RX5, TX5, 7)) (As := [.int (tkOp x1), .int (0 : Int32)]) hC (c_X5_emit l G M83 h85.2 (tkOp x1) (0 : Int32) q89) kc_yX5_emit km_X4_107 ki_yX5_emit kv_yX5_emit kn_RX5 ky_yX5_emit rfl ⟨rfl, rfl⟩ ⟨rn_f (Nat.le_of_ble_eq_true rfl), rn_l (Nat.le_of_ble_eq_true rfl)⟩ h85.2 (by decide) rfl rfl (Nat.le_of_ble_eq_true rfl) ⟨(Nat.le_of_ble_eq_true rfl), (Nat.le_of_ble_eq_true rfl)⟩ dX4_value_71 (fun b90 => ?_)
      cases hr
      exact x_zret hC rfl (BV.out b90) dX4_value_74
  · have hr := (ie_s hr).1 h5
    refine x_aload_n hC dX4_value_12 rfl 1 rfl ?_
    refine x_dup hC dX4_value_13 rfl ?_
    refine gf_X4_43 hC hi0 dX4_value_14 ?_
    refine x_iconst hC (1 : Int32) dX4_value_17 (by decide) ?_
    refine x_iadd hC dX4_value_18 ?_
    obtain ⟨M91, e92, hr⟩ := lz_s hr
    refine pf_X4_43 hC hi0 e92 dX4_value_19 ?_
    refine x_aload_n hC dX4_value_22 rfl 1 rfl ?_
    obtain ⟨h93, hr⟩ := it_s hr
    refine gf_X4_25 hC hi0 h93 dX4_value_23 ?_
    refine x_iconst hC (0 : Int32) dX4_value_26 (by decide) ?_
    refine x_aload_n hC dX4_value_27 rfl 1 rfl ?_
    refine gf_X4_12 hC hi0 dX4_value_28 ?_
    refine x_aload_n hC dX4_value_31 rfl 1 rfl ?_
    refine gf_X4_43 hC hi0 dX4_value_32 ?_
    refine x_iconst hC (1 : Int32) dX4_value_35 (by decide) ?_
    refine x_isub hC dX4_value_36 ?_
    obtain ⟨x94, q95, hr⟩ := bd1_s hr
    refine x_callV (ci := 8) (q := (RX6, TX6, 5)) (As := [.int ((M91 i0 4) - (1 : Int32))]) hC (c_X6_numberAt l G M91 (kr_7_0 hi0) ((M91 i0 4) - (1 : Int32)) q95) kc_yX6_numberAt km_X4_95 ki_yX6_numberAt kv_yX6_numberAt kn_RX6 ky_yX6_numberAt rfl ⟨rfl, rfl⟩ ⟨rn_f (Nat.le_of_ble_eq_true rfl), rn_l (Nat.le_of_ble_eq_true rfl)⟩ (kr_7_0 hi0) (by decide) rfl rfl (Nat.le_of_ble_eq_true rfl) ⟨(Nat.le_of_ble_eq_true rfl), (Nat.le_of_ble_eq_true rfl)⟩ dX4_value_37 (fun b96 => ?_)
    obtain ⟨x97, M98, q99, hr⟩ := bd2_s hr
    refine x_callV (ci := 2) (q := (RX5, TX5, 7)) (As := [.int (0 : Int32), .int x94]) hC (c_X5_emit l G M91 h93.2 (0 : Int32) x94 q99) kc_yX5_emit km_X4_107 ki_yX5_emit kv_yX5_emit kn_RX5 ky_yX5_emit rfl ⟨rfl, rfl⟩ ⟨rn_f (Nat.le_of_ble_eq_true rfl), rn_l (Nat.le_of_ble_eq_true rfl)⟩ h93.2 (by decide) rfl rfl (Nat.le_of_ble_eq_true rfl) ⟨(Nat.le_of_ble_eq_true rfl), (Nat.le_of_ble_eq_true rfl)⟩ dX4_value_40 (fun b100 => ?_)
    cases hr
    exact x_zret hC rfl (BV.out b100) dX4_value_43

def f_P4 : Nat → Nat → Nat → Int32 → Mm → Option (Int32 × Mm)
  | 0, _, _, _, _ => none
  | n + 1, k, i0, a, M => if k = 0 then f_X4_block (f_P4 n) i0 a M else if k = 1 then f_X4_sentence (f_P4 n) i0 a M else if k = 2 then f_X4_choice (f_P4 n) i0 a M else if k = 3 then f_X4_countedLoop (f_P4 n) i0 a M else if k = 4 then f_X4_testedLoop (f_P4 n) i0 a M else if k = 5 then f_X4_test (f_P4 n) i0 a M else if k = 6 then f_X4_both (f_P4 n) i0 a M else if k = 7 then f_X4_single (f_P4 n) i0 a M else if k = 8 then f_X4_sum (f_P4 n) i0 a M else if k = 9 then f_X4_product (f_P4 n) i0 a M else if k = 10 then f_X4_value (f_P4 n) i0 a M else none
theorem c_P4 (l : Launch) (G : GG) : ∀ n, OK_P4 l G (f_P4 n) (RMn n) := by
  intro n
  induction n with
  | zero => exact ⟨(fun _ _ _ _ _ h => by cases h), (fun _ _ _ _ _ h => by cases h), (fun _ _ _ _ _ h => by cases h), (fun _ _ _ _ _ h => by cases h), (fun _ _ _ _ _ h => by cases h), (fun _ _ _ _ _ h => by cases h), (fun _ _ _ _ _ h => by cases h), (fun _ _ _ _ _ h => by cases h), (fun _ _ _ _ _ h => by cases h), (fun _ _ _ _ _ h => by cases h), (fun _ _ _ _ _ h => by cases h)⟩
  | succ n ih => exact ⟨(fun hi0 a _ _ _ h => c_X4_block l G _ (f_P4 n) ih hi0 a h),
      (fun hi0 a _ _ _ h => c_X4_sentence l G _ (f_P4 n) ih hi0 a h),
      (fun hi0 a _ _ _ h => c_X4_choice l G _ (f_P4 n) ih hi0 a h),
      (fun hi0 a _ _ _ h => c_X4_countedLoop l G _ (f_P4 n) ih hi0 a h),
      (fun hi0 a _ _ _ h => c_X4_testedLoop l G _ (f_P4 n) ih hi0 a h),
      (fun hi0 a _ _ _ h => c_X4_test l G _ (f_P4 n) ih hi0 a h),
      (fun hi0 a _ _ _ h => c_X4_both l G _ (f_P4 n) ih hi0 a h),
      (fun hi0 a _ _ _ h => c_X4_single l G _ (f_P4 n) ih hi0 a h),
      (fun hi0 a _ _ _ h => c_X4_sum l G _ (f_P4 n) ih hi0 a h),
      (fun hi0 a _ _ _ h => c_X4_product l G _ (f_P4 n) ih hi0 a h),
      (fun hi0 a _ _ _ h => c_X4_value l G _ (f_P4 n) ih hi0 a h)⟩
