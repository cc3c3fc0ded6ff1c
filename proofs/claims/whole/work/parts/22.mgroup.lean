def OK_P11 (l : Launch) (G : GG) (rec : Nat → Nat → Int32 → Mm → Option (Int32 × Mm)) (rm : Room) : Prop :=
  (∀ {i0 : Nat} (hi0 : (kd i0).1 = 5) (a : Int32) {M : Mm} {r : Int32} {M9 : Mm}, rec 0 i0 a M = some (r, M9) → Mo true l yX11_block (WS yX11_block cX11_block 1 (some .boolean)) rm 0 0 [.ref (G.2.1 i0)] G M (some (.int r)) M9) ∧
  (∀ {i0 : Nat} (hi0 : (kd i0).1 = 5) (a : Int32) {M : Mm} {r : Int32} {M9 : Mm}, rec 1 i0 a M = some (r, M9) → Mo true l yX11_sentence (WS yX11_sentence cX11_sentence 2 (some .boolean)) rm 0 0 [.ref (G.2.1 i0)] G M (some (.int r)) M9) ∧
  (∀ {i0 : Nat} (hi0 : (kd i0).1 = 5) (a : Int32) {M : Mm} {r : Int32} {M9 : Mm}, rec 2 i0 a M = some (r, M9) → Mo true l yX11_branch (WS yX11_branch cX11_branch 3 (some .boolean)) rm 0 0 [.ref (G.2.1 i0)] G M (some (.int r)) M9) ∧
  (∀ {i0 : Nat} (hi0 : (kd i0).1 = 5) (a : Int32) {M : Mm} {r : Int32} {M9 : Mm}, rec 3 i0 a M = some (r, M9) → Mo true l yX11_repeat (WS yX11_repeat cX11_repeat 2 (some .boolean)) rm 0 0 [.ref (G.2.1 i0)] G M (some (.int r)) M9) ∧
  (∀ {i0 : Nat} (hi0 : (kd i0).1 = 5) (a : Int32) {M : Mm} {r : Int32} {M9 : Mm}, rec 4 i0 a M = some (r, M9) → Mo true l yX11_loop (WS yX11_loop cX11_loop 2 (some .boolean)) rm 0 0 [.ref (G.2.1 i0)] G M (some (.int r)) M9) ∧
  (∀ {i0 : Nat} (hi0 : (kd i0).1 = 5) (a : Int32) {M : Mm} {r : Int32} {M9 : Mm}, rec 5 i0 a M = some (r, M9) → Mo true l yX11_test (WS yX11_test cX11_test 2 (some .boolean)) rm 0 0 [.ref (G.2.1 i0), .int a] G M (some (.int r)) M9) ∧
  (∀ {i0 : Nat} (hi0 : (kd i0).1 = 5) (a : Int32) {M : Mm} {r : Int32} {M9 : Mm}, rec 6 i0 a M = some (r, M9) → Mo true l yX11_both (WS yX11_both cX11_both 1 (some .boolean)) rm 0 0 [.ref (G.2.1 i0)] G M (some (.int r)) M9) ∧
  (∀ {i0 : Nat} (hi0 : (kd i0).1 = 5) (a : Int32) {M : Mm} {r : Int32} {M9 : Mm}, rec 7 i0 a M = some (r, M9) → Mo true l yX11_single (WS yX11_single cX11_single 2 (some .boolean)) rm 0 0 [.ref (G.2.1 i0)] G M (some (.int r)) M9) ∧
  (∀ {i0 : Nat} (hi0 : (kd i0).1 = 5) (a : Int32) {M : Mm} {r : Int32} {M9 : Mm}, rec 8 i0 a M = some (r, M9) → Mo true l yX11_sum (WS yX11_sum cX11_sum 3 (some .boolean)) rm 0 0 [.ref (G.2.1 i0), .int a] G M (some (.int r)) M9) ∧
  (∀ {i0 : Nat} (hi0 : (kd i0).1 = 5) (a : Int32) {M : Mm} {r : Int32} {M9 : Mm}, rec 9 i0 a M = some (r, M9) → Mo true l yX11_product (WS yX11_product cX11_product 2 (some .boolean)) rm 0 0 [.ref (G.2.1 i0)] G M (some (.int r)) M9) ∧
  (∀ {i0 : Nat} (hi0 : (kd i0).1 = 5) (a : Int32) {M : Mm} {r : Int32} {M9 : Mm}, rec 10 i0 a M = some (r, M9) → Mo true l yX11_value (WS yX11_value cX11_value 2 (some .boolean)) rm 0 0 [.ref (G.2.1 i0)] G M (some (.int r)) M9)
theorem dX11_block_0 : decode cX11_block 0 = .ok (.aload_n 0, 1) := by decide +kernel
theorem dX11_block_1 : decode cX11_block 1 = .ok (.bipush 123, 2) := by decide +kernel
theorem dX11_block_3 : decode cX11_block 3 = .ok (.invokevirtual 134, 3) := by decide +kernel
theorem dX11_block_6 : decode cX11_block 6 = .ok (.ifCond .eq 10, 3) := by decide +kernel
theorem dX11_block_9 : decode cX11_block 9 = .ok (.aload_n 0, 1) := by decide +kernel
theorem dX11_block_10 : decode cX11_block 10 = .ok (.invokevirtual 178, 3) := by decide +kernel
theorem dX11_block_13 : decode cX11_block 13 = .ok (.ifCond .ne 5, 3) := by decide +kernel
theorem dX11_block_16 : decode cX11_block 16 = .ok (.iconst 0, 1) := by decide +kernel
theorem dX11_block_17 : decode cX11_block 17 = .ok (.ireturn, 1) := by decide +kernel
theorem dX11_block_18 : decode cX11_block 18 = .ok (.aload_n 0, 1) := by decide +kernel
theorem dX11_block_19 : decode cX11_block 19 = .ok (.getfield 92, 3) := by decide +kernel
theorem dX11_block_22 : decode cX11_block 22 = .ok (.iconst 2, 1) := by decide +kernel
theorem dX11_block_23 : decode cX11_block 23 = .ok (.if_icmp .ne 38, 3) := by decide +kernel
theorem dX11_block_26 : decode cX11_block 26 = .ok (.aload_n 0, 1) := by decide +kernel
theorem dX11_block_27 : decode cX11_block 27 = .ok (.getfield 89, 3) := by decide +kernel
theorem dX11_block_30 : decode cX11_block 30 = .ok (.iconst 2, 1) := by decide +kernel
theorem dX11_block_31 : decode cX11_block 31 = .ok (.if_icmp .lt 30, 3) := by decide +kernel
theorem dX11_block_34 : decode cX11_block 34 = .ok (.aload_n 0, 1) := by decide +kernel
theorem dX11_block_35 : decode cX11_block 35 = .ok (.getfield 89, 3) := by decide +kernel
theorem dX11_block_38 : decode cX11_block 38 = .ok (.bipush 11, 2) := by decide +kernel
theorem dX11_block_40 : decode cX11_block 40 = .ok (.if_icmp .gt 21, 3) := by decide +kernel
theorem dX11_block_43 : decode cX11_block 43 = .ok (.aload_n 0, 1) := by decide +kernel
theorem dX11_block_44 : decode cX11_block 44 = .ok (.getfield 89, 3) := by decide +kernel
theorem dX11_block_47 : decode cX11_block 47 = .ok (.bipush 9, 2) := by decide +kernel
theorem dX11_block_49 : decode cX11_block 49 = .ok (.if_icmp .eq 12, 3) := by decide +kernel
theorem dX11_block_52 : decode cX11_block 52 = .ok (.aload_n 0, 1) := by decide +kernel
theorem dX11_block_53 : decode cX11_block 53 = .ok (.invokevirtual 181, 3) := by decide +kernel
theorem dX11_block_56 : decode cX11_block 56 = .ok (.ifCond .ne (-38), 3) := by decide +kernel
theorem dX11_block_59 : decode cX11_block 59 = .ok (.iconst 0, 1) := by decide +kernel
theorem dX11_block_60 : decode cX11_block 60 = .ok (.ireturn, 1) := by decide +kernel
theorem dX11_block_61 : decode cX11_block 61 = .ok (.aload_n 0, 1) := by decide +kernel
theorem dX11_block_62 : decode cX11_block 62 = .ok (.bipush 125, 2) := by decide +kernel
theorem dX11_block_64 : decode cX11_block 64 = .ok (.invokevirtual 184, 3) := by decide +kernel
theorem dX11_block_67 : decode cX11_block 67 = .ok (.ireturn, 1) := by decide +kernel
def f_X11_block_L18 (rec : Nat → Nat → Int32 → Mm → Option (Int32 × Mm)) (i0 : Nat) : Nat → Mm → Option (Int32 × Mm)
  | 0, _ => none
  | n + 1, M =>
    if ((M i0 14) = (2 : Int32)) then (if ((M i0 16) < (2 : Int32)) then (bd2 (f_X11_shallower i0 (125 : Int32) M) fun x16 M17 => some (x16, M17)) else (if ((11 : Int32) < (M i0 16)) then (bd2 (f_X11_shallower i0 (125 : Int32) M) fun x21 M22 => some (x21, M22)) else (if ((M i0 16) = (9 : Int32)) then (bd2 (f_X11_shallower i0 (125 : Int32) M) fun x26 M27 => some (x26, M27)) else (bd2 (rec 1 i0 0 M) fun x30 M31 => if (x30 = 0) then (some ((0 : Int32), M31)) else (f_X11_block_L18 rec i0 n M31))))) else (bd2 (f_X11_shallower i0 (125 : Int32) M) fun x11 M12 => some (x11, M12))
def f_X11_block (rec : Nat → Nat → Int32 → Mm → Option (Int32 × Mm)) (i0 : Nat) (M : Mm) : Option (Int32 × Mm) :=
  lz (f_X11_sees i0 (123 : Int32) M) fun x1 => if (x1 = 0) then (some ((0 : Int32), M)) else (bd2 (f_X11_deeper i0 M) fun x5 M6 => if (x5 = 0) then (some ((0 : Int32), M6)) else ((f_X11_block_L18 rec i0 FU M6)))
set_option maxHeartbeats 4000000 in
set_option maxRecDepth 100000 in
theorem l_X11_block_L18 {p : Program} {e : Env} {s : State} {m : MethodId} {args : Array Value} {below : List Frame} {meth : Method} {c : Code} {l : Launch} {G : GG} (hC : CX p s m args meth c cX11_block 1 RX11 (some .boolean) G) (rec : Nat → Nat → Int32 → Mm → Option (Int32 × Mm)) {nr : Nat} (hrec : OK_P11 l G rec (RMn nr)) {i0 : Nat} (hi0 : (kd i0).1 = 5) : ∀ (n : Nat) (M : Mm) {r : Int32} {M9 : Mm} (hr : f_X11_block_L18 rec i0 n M = some (r, M9)), XJ p l e (RMn (nr + 1)) s m args below meth c G 1 (MQ below (QO G M9 true (some (.int r)) s.heap.size) args s 0 0 (AF G s.heap.size)) 0 0 M 18 [(0, .ref (G.2.1 i0))] [] := by
  intro n
  induction n with
  | zero => intro M r M9 hr; rw [f_X11_block_L18] at hr; cases hr
  | succ n ih =>
    intro M r M9 hr
    rw [f_X11_block_L18] at hr
    refine x_aload_n hC dX11_block_18 rfl 0 rfl ?_
    refine gf_X11_92 hC hi0 dX11_block_19 ?_
    refine x_iconst hC (2 : Int32) dX11_block_22 (by decide) ?_
    refine x_icmp_ne hC 61 dX11_block_23 (by decide) (fun h10 => ?_) (fun h10 => ?_)
    · have hr := (ie_s hr).2 h10
      refine x_aload_n hC dX11_block_61 rfl 0 rfl ?_
      refine x_bipush hC (125 : Int32) dX11_block_62 (by decide) ?_
      obtain ⟨x11, M12, q13, hr⟩ := bd2_s hr
      refine x_callV (ci := 5) (q := (RX11, TX11, 32)) (As := [.int (125 : Int32)]) hC (c_X11_shallower l G M hi0 (125 : Int32) q13) kc_yX11_shallower km_X11_184 ki_yX11_shallower kv_yX11_shallower kn_RX11 ky_yX11_shallower rfl ⟨rfl, rfl⟩ ⟨rn_f (Nat.le_of_ble_eq_true rfl), rn_l (Nat.le_of_ble_eq_true rfl)⟩ hi0 (by decide) rfl rfl (Nat.le_of_ble_eq_true rfl) ⟨(Nat.le_of_ble_eq_true rfl), (Nat.le_of_ble_eq_true rfl)⟩ dX11_block_64 (fun b14 => ?_)
      cases hr
      exact x_zret hC rfl (BV.out b14) dX11_block_67
    · have hr := (ie_s hr).1 h10
      refine x_aload_n hC dX11_block_26 rfl 0 rfl ?_
      refine gf_X11_89 hC hi0 dX11_block_27 ?_
      refine x_iconst hC (2 : Int32) dX11_block_30 (by decide) ?_
      refine x_icmp_lt hC 61 dX11_block_31 (by decide) (fun h15 => ?_) (fun h15 => ?_)
      · have hr := (ie_s hr).1 h15
        refine x_aload_n hC dX11_block_61 rfl 0 rfl ?_
        refine x_bipush hC (125 : Int32) dX11_block_62 (by decide) ?_
        obtain ⟨x16, M17, q18, hr⟩ := bd2_s hr
        refine x_callV (ci := 5) (q := (RX11, TX11, 32)) (As := [.int (125 : Int32)]) hC (c_X11_shallower l G M hi0 (125 : Int32) q18) kc_yX11_shallower km_X11_184 ki_yX11_shallower kv_yX11_shallower kn_RX11 ky_yX11_shallower rfl ⟨rfl, rfl⟩ ⟨rn_f (Nat.le_of_ble_eq_true rfl), rn_l (Nat.le_of_ble_eq_true rfl)⟩ hi0 (by decide) rfl rfl (Nat.le_of_ble_eq_true rfl) ⟨(Nat.le_of_ble_eq_true rfl), (Nat.le_of_ble_eq_true rfl)⟩ dX11_block_64 (fun b19 => ?_)
        cases hr
        exact x_zret hC rfl (BV.out b19) dX11_block_67
      · have hr := (ie_s hr).2 h15
        refine x_aload_n hC dX11_block_34 rfl 0 rfl ?_
        refine gf_X11_89 hC hi0 dX11_block_35 ?_
        refine x_bipush hC (11 : Int32) dX11_block_38 (by decide) ?_
        refine x_icmp_gt hC 61 dX11_block_40 (by decide) (fun h20 => ?_) (fun h20 => ?_)
        · have hr := (ie_s hr).1 h20
          refine x_aload_n hC dX11_block_61 rfl 0 rfl ?_
          refine x_bipush hC (125 : Int32) dX11_block_62 (by decide) ?_
          obtain ⟨x21, M22, q23, hr⟩ := bd2_s hr
          refine x_callV (ci := 5) (q := (RX11, TX11, 32)) (As := [.int (125 : Int32)]) hC (c_X11_shallower l G M hi0 (125 : Int32) q23) kc_yX11_shallower km_X11_184 ki_yX11_shallower kv_yX11_shallower kn_RX11 ky_yX11_shallower rfl ⟨rfl, rfl⟩ ⟨rn_f (Nat.le_of_ble_eq_true rfl), rn_l (Nat.le_of_ble_eq_true rfl)⟩ hi0 (by decide) rfl rfl (Nat.le_of_ble_eq_true rfl) ⟨(Nat.le_of_ble_eq_true rfl), (Nat.le_of_ble_eq_true rfl)⟩ dX11_block_64 (fun b24 => ?_)
          cases hr
          exact x_zret hC rfl (BV.out b24) dX11_block_67
        · have hr := (ie_s hr).2 h20
          refine x_aload_n hC dX11_block_43 rfl 0 rfl ?_
          refine gf_X11_89 hC hi0 dX11_block_44 ?_
          refine x_bipush hC (9 : Int32) dX11_block_47 (by decide) ?_
          refine x_icmp_eq hC 61 dX11_block_49 (by decide) (fun h25 => ?_) (fun h25 => ?_)
          · have hr := (ie_s hr).1 h25
            refine x_aload_n hC dX11_block_61 rfl 0 rfl ?_
            refine x_bipush hC (125 : Int32) dX11_block_62 (by decide) ?_
            obtain ⟨x26, M27, q28, hr⟩ := bd2_s hr
            refine x_callV (ci := 5) (q := (RX11, TX11, 32)) (As := [.int (125 : Int32)]) hC (c_X11_shallower l G M hi0 (125 : Int32) q28) kc_yX11_shallower km_X11_184 ki_yX11_shallower kv_yX11_shallower kn_RX11 ky_yX11_shallower rfl ⟨rfl, rfl⟩ ⟨rn_f (Nat.le_of_ble_eq_true rfl), rn_l (Nat.le_of_ble_eq_true rfl)⟩ hi0 (by decide) rfl rfl (Nat.le_of_ble_eq_true rfl) ⟨(Nat.le_of_ble_eq_true rfl), (Nat.le_of_ble_eq_true rfl)⟩ dX11_block_64 (fun b29 => ?_)
            cases hr
            exact x_zret hC rfl (BV.out b29) dX11_block_67
          · have hr := (ie_s hr).2 h25
            refine x_aload_n hC dX11_block_52 rfl 0 rfl ?_
            obtain ⟨x30, M31, q32, hr⟩ := bd2_s hr
            refine x_callV (ci := 5) (q := (RX11, TX11, 32)) (As := []) hC (hrec.2.1 hi0 0 q32) kc_yX11_sentence km_X11_181 ki_yX11_sentence kv_yX11_sentence kn_RX11 ky_yX11_sentence rfl ⟨rfl, rfl⟩ ⟨rn_gf, rn_gl (Nat.le_of_ble_eq_true rfl)⟩ hi0 (by decide) rfl rfl (Nat.le_of_ble_eq_true rfl) ⟨(Nat.le_of_ble_eq_true rfl), (Nat.le_of_ble_eq_true rfl)⟩ dX11_block_53 (fun b33 => ?_)
            refine x_if_ne hC 18 dX11_block_56 (by decide) (fun h34 => ?_) (fun h34 => ?_)
            · have hr := (ie_s hr).2 h34
              exact x_sub [0] rfl (ih M31 hr)
            · have hr := (ie_s hr).1 h34
              refine x_iconst hC (0 : Int32) dX11_block_59 (by decide) ?_
              cases hr
              exact x_zret hC rfl (Or.inl rfl) dX11_block_60
set_option maxHeartbeats 4000000 in
set_option maxRecDepth 100000 in
theorem c_X11_block (l : Launch) (G : GG) (M : Mm) (rec : Nat → Nat → Int32 → Mm → Option (Int32 × Mm)) {nr : Nat} (hrec : OK_P11 l G rec (RMn nr)) {i0 : Nat} (hi0 : (kd i0).1 = 5) {r : Int32} {M9 : Mm} (hr : f_X11_block rec i0 M = some (r, M9)) : Mo true l yX11_block (WS yX11_block cX11_block 1 (some .boolean)) (RMn (nr + 1)) 0 0 [.ref (G.2.1 i0)] G M (some (.int r)) M9 := by
  refine Mo.of (by decide +kernel) (Nat.le_of_ble_eq_true rfl) ?_
  intro p e s m args below meth c hC
  have hC : CX p s m args meth c cX11_block 1 RX11 (some .boolean) G := hC
  rw [f_X11_block] at hr
  show XJ p l e (RMn (nr + 1)) s m args below meth c G 1 _ 0 0 M 0 [(0, .ref (G.2.1 i0))] []
  refine x_aload_n hC dX11_block_0 rfl 0 rfl ?_
  refine x_bipush hC (123 : Int32) dX11_block_1 (by decide) ?_
  obtain ⟨x1, e2, hr⟩ := lz_s hr
  refine x_callV (ci := 5) (q := (RX11, TX11, 32)) (As := [.int (123 : Int32)]) hC (c_X11_sees l G M hi0 (123 : Int32) e2.symm) kc_yX11_sees km_X11_134 ki_yX11_sees kv_yX11_sees kn_RX11 ky_yX11_sees rfl ⟨rfl, rfl⟩ ⟨rn_f (Nat.le_of_ble_eq_true rfl), rn_l (Nat.le_of_ble_eq_true rfl)⟩ hi0 (by decide) rfl rfl (Nat.le_of_ble_eq_true rfl) ⟨(Nat.le_of_ble_eq_true rfl), (Nat.le_of_ble_eq_true rfl)⟩ dX11_block_3 (fun b3 => ?_)
  refine x_if_eq hC 16 dX11_block_6 (by decide) (fun h4 => ?_) (fun h4 => ?_)
  · have hr := (ie_s hr).1 h4
    refine x_iconst hC (0 : Int32) dX11_block_16 (by decide) ?_
    cases hr
    exact x_zret hC rfl (Or.inl rfl) dX11_block_17
  · have hr := (ie_s hr).2 h4
    refine x_aload_n hC dX11_block_9 rfl 0 rfl ?_
    obtain ⟨x5, M6, q7, hr⟩ := bd2_s hr
    refine x_callV (ci := 5) (q := (RX11, TX11, 32)) (As := []) hC (c_X11_deeper l G M hi0 q7) kc_yX11_deeper km_X11_178 ki_yX11_deeper kv_yX11_deeper kn_RX11 ky_yX11_deeper rfl ⟨rfl, rfl⟩ ⟨rn_f (Nat.le_of_ble_eq_true rfl), rn_l (Nat.le_of_ble_eq_true rfl)⟩ hi0 (by decide) rfl rfl (Nat.le_of_ble_eq_true rfl) ⟨(Nat.le_of_ble_eq_true rfl), (Nat.le_of_ble_eq_true rfl)⟩ dX11_block_10 (fun b8 => ?_)
    refine x_if_ne hC 18 dX11_block_13 (by decide) (fun h9 => ?_) (fun h9 => ?_)
    · have hr := (ie_s hr).2 h9
      exact x_sub [0] rfl (l_X11_block_L18 hC rec hrec hi0 FU M6 hr)
    · have hr := (ie_s hr).1 h9
      refine x_iconst hC (0 : Int32) dX11_block_16 (by decide) ?_
      cases hr
      exact x_zret hC rfl (Or.inl rfl) dX11_block_17

theorem dX11_sentence_0 : decode cX11_sentence 0 = .ok (.aload_n 0, 1) := by decide +kernel
theorem dX11_sentence_1 : decode cX11_sentence 1 = .ok (.getfield 89, 3) := by decide +kernel
theorem dX11_sentence_4 : decode cX11_sentence 4 = .ok (.istore_n 1, 1) := by decide +kernel
theorem dX11_sentence_5 : decode cX11_sentence 5 = .ok (.aload_n 0, 1) := by decide +kernel
theorem dX11_sentence_6 : decode cX11_sentence 6 = .ok (.invokevirtual 137, 3) := by decide +kernel
theorem dX11_sentence_9 : decode cX11_sentence 9 = .ok (.iload_n 1, 1) := by decide +kernel
theorem dX11_sentence_10 : decode cX11_sentence 10 = .ok (.tableswitch 145 2 10 #[50, 95, 123, 95, 123, 95, 135, 145, 140], 50) := by decide +kernel
theorem dX11_sentence_60 : decode cX11_sentence 60 = .ok (.aload_n 0, 1) := by decide +kernel
theorem dX11_sentence_61 : decode cX11_sentence 61 = .ok (.iconst 2, 1) := by decide +kernel
theorem dX11_sentence_62 : decode cX11_sentence 62 = .ok (.invokevirtual 175, 3) := by decide +kernel
theorem dX11_sentence_65 : decode cX11_sentence 65 = .ok (.aload_n 0, 1) := by decide +kernel
theorem dX11_sentence_66 : decode cX11_sentence 66 = .ok (.iconst 1, 1) := by decide +kernel
theorem dX11_sentence_67 : decode cX11_sentence 67 = .ok (.invokevirtual 187, 3) := by decide +kernel
theorem dX11_sentence_70 : decode cX11_sentence 70 = .ok (.ifCond .eq 33, 3) := by decide +kernel
theorem dX11_sentence_73 : decode cX11_sentence 73 = .ok (.aload_n 0, 1) := by decide +kernel
theorem dX11_sentence_74 : decode cX11_sentence 74 = .ok (.bipush 44, 2) := by decide +kernel
theorem dX11_sentence_76 : decode cX11_sentence 76 = .ok (.invokevirtual 191, 3) := by decide +kernel
theorem dX11_sentence_79 : decode cX11_sentence 79 = .ok (.ifCond .eq 24, 3) := by decide +kernel
theorem dX11_sentence_82 : decode cX11_sentence 82 = .ok (.aload_n 0, 1) := by decide +kernel
theorem dX11_sentence_83 : decode cX11_sentence 83 = .ok (.iconst 1, 1) := by decide +kernel
theorem dX11_sentence_84 : decode cX11_sentence 84 = .ok (.invokevirtual 187, 3) := by decide +kernel
theorem dX11_sentence_87 : decode cX11_sentence 87 = .ok (.ifCond .eq 16, 3) := by decide +kernel
theorem dX11_sentence_90 : decode cX11_sentence 90 = .ok (.aload_n 0, 1) := by decide +kernel
theorem dX11_sentence_91 : decode cX11_sentence 91 = .ok (.bipush 59, 2) := by decide +kernel
theorem dX11_sentence_93 : decode cX11_sentence 93 = .ok (.invokevirtual 191, 3) := by decide +kernel
theorem dX11_sentence_96 : decode cX11_sentence 96 = .ok (.ifCond .eq 7, 3) := by decide +kernel
theorem dX11_sentence_99 : decode cX11_sentence 99 = .ok (.iconst 1, 1) := by decide +kernel
theorem dX11_sentence_100 : decode cX11_sentence 100 = .ok (.goto 4, 3) := by decide +kernel
theorem dX11_sentence_103 : decode cX11_sentence 103 = .ok (.iconst 0, 1) := by decide +kernel
theorem dX11_sentence_104 : decode cX11_sentence 104 = .ok (.ireturn, 1) := by decide +kernel
theorem dX11_sentence_105 : decode cX11_sentence 105 = .ok (.aload_n 0, 1) := by decide +kernel
theorem dX11_sentence_106 : decode cX11_sentence 106 = .ok (.iload_n 1, 1) := by decide +kernel
theorem dX11_sentence_107 : decode cX11_sentence 107 = .ok (.invokevirtual 175, 3) := by decide +kernel
theorem dX11_sentence_110 : decode cX11_sentence 110 = .ok (.aload_n 0, 1) := by decide +kernel
theorem dX11_sentence_111 : decode cX11_sentence 111 = .ok (.iconst 1, 1) := by decide +kernel
theorem dX11_sentence_112 : decode cX11_sentence 112 = .ok (.invokevirtual 187, 3) := by decide +kernel
theorem dX11_sentence_115 : decode cX11_sentence 115 = .ok (.ifCond .eq 16, 3) := by decide +kernel
theorem dX11_sentence_118 : decode cX11_sentence 118 = .ok (.aload_n 0, 1) := by decide +kernel
theorem dX11_sentence_119 : decode cX11_sentence 119 = .ok (.bipush 59, 2) := by decide +kernel
theorem dX11_sentence_121 : decode cX11_sentence 121 = .ok (.invokevirtual 191, 3) := by decide +kernel
theorem dX11_sentence_124 : decode cX11_sentence 124 = .ok (.ifCond .eq 7, 3) := by decide +kernel
theorem dX11_sentence_127 : decode cX11_sentence 127 = .ok (.iconst 1, 1) := by decide +kernel
theorem dX11_sentence_128 : decode cX11_sentence 128 = .ok (.goto 4, 3) := by decide +kernel
theorem dX11_sentence_131 : decode cX11_sentence 131 = .ok (.iconst 0, 1) := by decide +kernel
theorem dX11_sentence_132 : decode cX11_sentence 132 = .ok (.ireturn, 1) := by decide +kernel
theorem dX11_sentence_133 : decode cX11_sentence 133 = .ok (.aload_n 0, 1) := by decide +kernel
theorem dX11_sentence_134 : decode cX11_sentence 134 = .ok (.iload_n 1, 1) := by decide +kernel
theorem dX11_sentence_135 : decode cX11_sentence 135 = .ok (.invokevirtual 175, 3) := by decide +kernel
theorem dX11_sentence_138 : decode cX11_sentence 138 = .ok (.aload_n 0, 1) := by decide +kernel
theorem dX11_sentence_139 : decode cX11_sentence 139 = .ok (.bipush 59, 2) := by decide +kernel
theorem dX11_sentence_141 : decode cX11_sentence 141 = .ok (.invokevirtual 191, 3) := by decide +kernel
theorem dX11_sentence_144 : decode cX11_sentence 144 = .ok (.ireturn, 1) := by decide +kernel
theorem dX11_sentence_145 : decode cX11_sentence 145 = .ok (.aload_n 0, 1) := by decide +kernel
theorem dX11_sentence_146 : decode cX11_sentence 146 = .ok (.invokevirtual 194, 3) := by decide +kernel
theorem dX11_sentence_149 : decode cX11_sentence 149 = .ok (.ireturn, 1) := by decide +kernel
theorem dX11_sentence_150 : decode cX11_sentence 150 = .ok (.aload_n 0, 1) := by decide +kernel
theorem dX11_sentence_151 : decode cX11_sentence 151 = .ok (.invokevirtual 197, 3) := by decide +kernel
theorem dX11_sentence_154 : decode cX11_sentence 154 = .ok (.ireturn, 1) := by decide +kernel
theorem dX11_sentence_155 : decode cX11_sentence 155 = .ok (.aload_n 0, 1) := by decide +kernel
theorem dX11_sentence_156 : decode cX11_sentence 156 = .ok (.invokevirtual 200, 3) := by decide +kernel
theorem dX11_sentence_159 : decode cX11_sentence 159 = .ok (.ireturn, 1) := by decide +kernel

def f_X11_sentence (rec : Nat → Nat → Int32 → Mm → Option (Int32 × Mm)) (i0 : Nat) (M : Mm) : Option (Int32 × Mm) :=
  bd1 (f_X11_advance i0 M) fun M1 => if ((M i0 16) = (2 : Int32)) then (bd1 (f_X11_put i0 (2 : Int32) M1) fun M5 => bd2 (rec 8 i0 (1 : Int32) M5) fun x8 M9 => if (x8 = 0) then (some ((0 : Int32), M9)) else (bd2 (f_X11_passSymbol i0 (44 : Int32) M9) fun x13 M14 => if (x13 = 0) then (some ((0 : Int32), M14)) else (bd2 (rec 8 i0 (1 : Int32) M14) fun x18 M19 => if (x18 = 0) then (some ((0 : Int32), M19)) else (bd2 (f_X11_passSymbol i0 (59 : Int32) M19) fun x23 M24 => if (x23 = 0) then (some ((0 : Int32), M24)) else (some ((1 : Int32), M24)))))) else (if ((M i0 16) = (3 : Int32)) then (bd1 (f_X11_put i0 (M i0 16) M1) fun M29 => bd2 (rec 8 i0 (1 : Int32) M29) fun x32 M33 => if (x32 = 0) then (some ((0 : Int32), M33)) else (bd2 (f_X11_passSymbol i0 (59 : Int32) M33) fun x37 M38 => if (x37 = 0) then (some ((0 : Int32), M38)) else (some ((1 : Int32), M38)))) else (if ((M i0 16) = (4 : Int32)) then (bd1 (f_X11_put i0 (M i0 16) M1) fun M43 => bd2 (f_X11_passSymbol i0 (59 : Int32) M43) fun x46 M47 => some (x46, M47)) else (if ((M i0 16) = (5 : Int32)) then (bd1 (f_X11_put i0 (M i0 16) M1) fun M51 => bd2 (rec 8 i0 (1 : Int32) M51) fun x54 M55 => if (x54 = 0) then (some ((0 : Int32), M55)) else (bd2 (f_X11_passSymbol i0 (59 : Int32) M55) fun x59 M60 => if (x59 = 0) then (some ((0 : Int32), M60)) else (some ((1 : Int32), M60)))) else (if ((M i0 16) = (6 : Int32)) then (bd1 (f_X11_put i0 (M i0 16) M1) fun M65 => bd2 (f_X11_passSymbol i0 (59 : Int32) M65) fun x68 M69 => some (x68, M69)) else (if ((M i0 16) = (7 : Int32)) then (bd1 (f_X11_put i0 (M i0 16) M1) fun M73 => bd2 (rec 8 i0 (1 : Int32) M73) fun x76 M77 => if (x76 = 0) then (some ((0 : Int32), M77)) else (bd2 (f_X11_passSymbol i0 (59 : Int32) M77) fun x81 M82 => if (x81 = 0) then (some ((0 : Int32), M82)) else (some ((1 : Int32), M82)))) else (if ((M i0 16) = (8 : Int32)) then (bd2 (rec 2 i0 0 M1) fun x87 M88 => some (x87, M88)) else (if ((M i0 16) = (9 : Int32)) then (bd2 (rec 4 i0 0 M1) fun x92 M93 => some (x92, M93)) else (if ((M i0 16) = (10 : Int32)) then (bd2 (rec 3 i0 0 M1) fun x97 M98 => some (x97, M98)) else (bd2 (rec 4 i0 0 M1) fun x101 M102 => some (x101, M102))))))))))

set_option maxHeartbeats 4000000 in
set_option maxRecDepth 100000 in
theorem c_X11_sentence (l : Launch) (G : GG) (M : Mm) (rec : Nat → Nat → Int32 → Mm → Option (Int32 × Mm)) {nr : Nat} (hrec : OK_P11 l G rec (RMn nr)) {i0 : Nat} (hi0 : (kd i0).1 = 5) {r : Int32} {M9 : Mm} (hr : f_X11_sentence rec i0 M = some (r, M9)) : Mo true l yX11_sentence (WS yX11_sentence cX11_sentence 2 (some .boolean)) (RMn (nr + 1)) 0 0 [.ref (G.2.1 i0)] G M (some (.int r)) M9 := by
  refine Mo.of (by decide +kernel) (Nat.le_of_ble_eq_true rfl) ?_
  intro p e s m args below meth c hC
  have hC : CX p s m args meth c cX11_sentence 2 RX11 (some .boolean) G := hC
  rw [f_X11_sentence] at hr
  show XJ p l e (RMn (nr + 1)) s m args below meth c G 2 _ 0 0 M 0 [(0, .ref (G.2.1 i0))] []
  refine x_aload_n hC dX11_sentence_0 rfl 0 rfl ?_
  refine gf_X11_89 hC hi0 dX11_sentence_1 ?_
  refine x_istore_n hC [(1, .int (M i0 16)), (0, .ref (G.2.1 i0))] dX11_sentence_4 rfl (Nat.le_of_ble_eq_true rfl) rfl ?_
  refine x_aload_n hC dX11_sentence_5 rfl 1 rfl ?_
  obtain ⟨M1, q2, hr⟩ := bd1_s hr
  refine x_callV (ci := 5) (q := (RX11, TX11, 32)) (As := []) hC (c_X11_advance l G M hi0 q2) kc_yX11_advance km_X11_137 ki_yX11_advance kv_yX11_advance kn_RX11 ky_yX11_advance rfl ⟨rfl, rfl⟩ ⟨rn_f (Nat.le_of_ble_eq_true rfl), rn_l (Nat.le_of_ble_eq_true rfl)⟩ hi0 (by decide) rfl rfl (Nat.le_of_ble_eq_true rfl) ⟨(Nat.le_of_ble_eq_true rfl), (Nat.le_of_ble_eq_true rfl)⟩ dX11_sentence_6 (fun b3 => ?_)
  refine x_iload_n hC dX11_sentence_9 rfl 0 rfl ?_
  by_cases s4 : (M i0 16) = (2 : Int32)
  · have hr := (ie_s hr).1 s4
    refine x_tableIn hC (off := 50) 60 dX11_sentence_10 (by rw [s4]; decide) (by rw [s4]; decide) (by rw [s4]; rfl) (by decide) ?_
    refine x_aload_n hC dX11_sentence_60 rfl 1 rfl ?_
    refine x_iconst hC (2 : Int32) dX11_sentence_61 (by decide) ?_
    obtain ⟨M5, q6, hr⟩ := bd1_s hr
    refine x_callV (ci := 5) (q := (RX11, TX11, 32)) (As := [.int (2 : Int32)]) hC (c_X11_put l G M1 hi0 (2 : Int32) q6) kc_yX11_put km_X11_175 ki_yX11_put kv_yX11_put kn_RX11 ky_yX11_put rfl ⟨rfl, rfl⟩ ⟨rn_f (Nat.le_of_ble_eq_true rfl), rn_l (Nat.le_of_ble_eq_true rfl)⟩ hi0 (by decide) rfl rfl (Nat.le_of_ble_eq_true rfl) ⟨(Nat.le_of_ble_eq_true rfl), (Nat.le_of_ble_eq_true rfl)⟩ dX11_sentence_62 (fun b7 => ?_)
    refine x_aload_n hC dX11_sentence_65 rfl 1 rfl ?_
    refine x_iconst hC (1 : Int32) dX11_sentence_66 (by decide) ?_
    obtain ⟨x8, M9, q10, hr⟩ := bd2_s hr
    refine x_callV (ci := 5) (q := (RX11, TX11, 32)) (As := [.int (1 : Int32)]) hC (hrec.2.2.2.2.2.2.2.2.1 hi0 (1 : Int32) q10) kc_yX11_sum km_X11_187 ki_yX11_sum kv_yX11_sum kn_RX11 ky_yX11_sum rfl ⟨rfl, rfl⟩ ⟨rn_gf, rn_gl (Nat.le_of_ble_eq_true rfl)⟩ hi0 (by decide) rfl rfl (Nat.le_of_ble_eq_true rfl) ⟨(Nat.le_of_ble_eq_true rfl), (Nat.le_of_ble_eq_true rfl)⟩ dX11_sentence_67 (fun b11 => ?_)
    refine x_if_eq hC 103 dX11_sentence_70 (by decide) (fun h12 => ?_) (fun h12 => ?_)
    · have hr := (ie_s hr).1 h12
      refine x_iconst hC (0 : Int32) dX11_sentence_103 (by decide) ?_
      cases hr
      exact x_zret hC rfl (Or.inl rfl) dX11_sentence_104
    · have hr := (ie_s hr).2 h12
      refine x_aload_n hC dX11_sentence_73 rfl 1 rfl ?_
      refine x_bipush hC (44 : Int32) dX11_sentence_74 (by decide) ?_
      obtain ⟨x13, M14, q15, hr⟩ := bd2_s hr
      refine x_callV (ci := 5) (q := (RX11, TX11, 32)) (As := [.int (44 : Int32)]) hC (c_X11_passSymbol l G M9 hi0 (44 : Int32) q15) kc_yX11_passSymbol km_X11_191 ki_yX11_passSymbol kv_yX11_passSymbol kn_RX11 ky_yX11_passSymbol rfl ⟨rfl, rfl⟩ ⟨rn_f (Nat.le_of_ble_eq_true rfl), rn_l (Nat.le_of_ble_eq_true rfl)⟩ hi0 (by decide) rfl rfl (Nat.le_of_ble_eq_true rfl) ⟨(Nat.le_of_ble_eq_true rfl), (Nat.le_of_ble_eq_true rfl)⟩ dX11_sentence_76 (fun b16 => ?_)
      refine x_if_eq hC 103 dX11_sentence_79 (by decide) (fun h17 => ?_) (fun h17 => ?_)
      · have hr := (ie_s hr).1 h17
        refine x_iconst hC (0 : Int32) dX11_sentence_103 (by decide) ?_
        cases hr
        exact x_zret hC rfl (Or.inl rfl) dX11_sentence_104
      · have hr := (ie_s hr).2 h17
        refine x_aload_n hC dX11_sentence_82 rfl 1 rfl ?_
        refine x_iconst hC (1 : Int32) dX11_sentence_83 (by decide) ?_
        obtain ⟨x18, M19, q20, hr⟩ := bd2_s hr
        refine x_callV (ci := 5) (q := (RX11, TX11, 32)) (As := [.int (1 : Int32)]) hC (hrec.2.2.2.2.2.2.2.2.1 hi0 (1 : Int32) q20) kc_yX11_sum km_X11_187 ki_yX11_sum kv_yX11_sum kn_RX11 ky_yX11_sum rfl ⟨rfl, rfl⟩ ⟨rn_gf, rn_gl (Nat.le_of_ble_eq_true rfl)⟩ hi0 (by decide) rfl rfl (Nat.le_of_ble_eq_true rfl) ⟨(Nat.le_of_ble_eq_true rfl), (Nat.le_of_ble_eq_true rfl)⟩ dX11_sentence_84 (fun b21 => ?_)
        refine x_if_eq hC 103 dX11_sentence_87 (by decide) (fun h22 => ?_) (fun h22 => ?_)
        · have hr := (ie_s hr).1 h22
          refine x_iconst hC (0 : Int32) dX11_sentence_103 (by decide) ?_
          cases hr
          exact x_zret hC rfl (Or.inl rfl) dX11_sentence_104
        · have hr := (ie_s hr).2 h22
          refine x_aload_n hC dX11_sentence_90 rfl 1 rfl ?_
          refine x_bipush hC (59 : Int32) dX11_sentence_91 (by decide) ?_
          obtain ⟨x23, M24, q25, hr⟩ := bd2_s hr
          refine x_callV (ci := 5) (q := (RX11, TX11, 32)) (As := [.int (59 : Int32)]) hC (c_X11_passSymbol l G M19 hi0 (59 : Int32) q25) kc_yX11_passSymbol km_X11_191 ki_yX11_passSymbol kv_yX11_passSymbol kn_RX11 ky_yX11_passSymbol rfl ⟨rfl, rfl⟩ ⟨rn_f (Nat.le_of_ble_eq_true rfl), rn_l (Nat.le_of_ble_eq_true rfl)⟩ hi0 (by decide) rfl rfl (Nat.le_of_ble_eq_true rfl) ⟨(Nat.le_of_ble_eq_true rfl), (Nat.le_of_ble_eq_true rfl)⟩ dX11_sentence_93 (fun b26 => ?_)
          refine x_if_eq hC 103 dX11_sentence_96 (by decide) (fun h27 => ?_) (fun h27 => ?_)
          · have hr := (ie_s hr).1 h27
            refine x_iconst hC (0 : Int32) dX11_sentence_103 (by decide) ?_
            cases hr
            exact x_zret hC rfl (Or.inl rfl) dX11_sentence_104
          · have hr := (ie_s hr).2 h27
            refine x_iconst hC (1 : Int32) dX11_sentence_99 (by decide) ?_
            refine x_goto hC 104 dX11_sentence_100 (by decide) ?_
            cases hr
            exact x_zret hC rfl (Or.inr rfl) dX11_sentence_104
  · have hr := (ie_s hr).2 s4
    by_cases s28 : (M i0 16) = (3 : Int32)
    · have hr := (ie_s hr).1 s28
      refine x_tableIn hC (off := 95) 105 dX11_sentence_10 (by rw [s28]; decide) (by rw [s28]; decide) (by rw [s28]; rfl) (by decide) ?_
      refine x_aload_n hC dX11_sentence_105 rfl 1 rfl ?_
      refine x_iload_n hC dX11_sentence_106 rfl 0 rfl ?_
      obtain ⟨M29, q30, hr⟩ := bd1_s hr
      refine x_callV (ci := 5) (q := (RX11, TX11, 32)) (As := [.int (M i0 16)]) hC (c_X11_put l G M1 hi0 (M i0 16) q30) kc_yX11_put km_X11_175 ki_yX11_put kv_yX11_put kn_RX11 ky_yX11_put rfl ⟨rfl, rfl⟩ ⟨rn_f (Nat.le_of_ble_eq_true rfl), rn_l (Nat.le_of_ble_eq_true rfl)⟩ hi0 (by decide) rfl rfl (Nat.le_of_ble_eq_true rfl) ⟨(Nat.le_of_ble_eq_true rfl), (Nat.le_of_ble_eq_true rfl)⟩ dX11_sentence_107 (fun b31 => ?_)
      refine x_aload_n hC dX11_sentence_110 rfl 1 rfl ?_
      refine x_iconst hC (1 : Int32) dX11_sentence_111 (by decide) ?_
      obtain ⟨x32, M33, q34, hr⟩ := bd2_s hr
      refine x_callV (ci := 5) (q := (RX11, TX11, 32)) (As := [.int (1 : Int32)]) hC (hrec.2.2.2.2.2.2.2.2.1 hi0 (1 : Int32) q34) kc_yX11_sum km_X11_187 ki_yX11_sum kv_yX11_sum kn_RX11 ky_yX11_sum rfl ⟨rfl, rfl⟩ ⟨rn_gf, rn_gl (Nat.le_of_ble_eq_true rfl)⟩ hi0 (by decide) rfl rfl (Nat.le_of_ble_eq_true rfl) ⟨(Nat.le_of_ble_eq_true rfl), (Nat.le_of_ble_eq_true rfl)⟩ dX11_sentence_112 (fun b35 => ?_)
      refine x_if_eq hC 131 dX11_sentence_115 (by decide) (fun h36 => ?_) (fun h36 => ?_)
      · have hr := (ie_s hr).1 h36
        refine x_iconst hC (0 : Int32) dX11_sentence_131 (by decide) ?_
        cases hr
        exact x_zret hC rfl (Or.inl rfl) dX11_sentence_132
      · have hr := (ie_s hr).2 h36
        refine x_aload_n hC dX11_sentence_118 rfl 1 rfl ?_
        refine x_bipush hC (59 : Int32) dX11_sentence_119 (by decide) ?_
        obtain ⟨x37, M38, q39, hr⟩ := bd2_s hr
        refine x_callV (ci := 5) (q := (RX11, TX11, 32)) (As := [.int (59 : Int32)]) hC (c_X11_passSymbol l G M33 hi0 (59 : Int32) q39) kc_yX11_passSymbol km_X11_191 ki_yX11_passSymbol kv_yX11_passSymbol kn_RX11 ky_yX11_passSymbol rfl ⟨rfl, rfl⟩ ⟨rn_f (Nat.le_of_ble_eq_true rfl), rn_l (Nat.le_of_ble_eq_true rfl)⟩ hi0 (by decide) rfl rfl (Nat.le_of_ble_eq_true rfl) ⟨(Nat.le_of_ble_eq_true rfl), (Nat.le_of_ble_eq_true rfl)⟩ dX11_sentence_121 (fun b40 => ?_)
        refine x_if_eq hC 131 dX11_sentence_124 (by decide) (fun h41 => ?_) (fun h41 => ?_)
        · have hr := (ie_s hr).1 h41
          refine x_iconst hC (0 : Int32) dX11_sentence_131 (by decide) ?_
          cases hr
          exact x_zret hC rfl (Or.inl rfl) dX11_sentence_132
        · have hr := (ie_s hr).2 h41
          refine x_iconst hC (1 : Int32) dX11_sentence_127 (by decide) ?_
          refine x_goto hC 132 dX11_sentence_128 (by decide) ?_
          cases hr
          exact x_zret hC rfl (Or.inr rfl) dX11_sentence_132
    · have hr := (ie_s hr).2 s28
      by_cases s42 : (M i0 16) = (4 : Int32)
      · have hr := (ie_s hr).1 s42
        refine x_tableIn hC (off := 123) 133 dX11_sentence_10 (by rw [s42]; decide) (by rw [s42]; decide) (by rw [s42]; rfl) (by decide) ?_
        refine x_aload_n hC dX11_sentence_133 rfl 1 rfl ?_
        refine x_iload_n hC dX11_sentence_134 rfl 0 rfl ?_
        obtain ⟨M43, q44, hr⟩ := bd1_s hr
        refine x_callV (ci := 5) (q := (RX11, TX11, 32)) (As := [.int (M i0 16)]) hC (c_X11_put l G M1 hi0 (M i0 16) q44) kc_yX11_put km_X11_175 ki_yX11_put kv_yX11_put kn_RX11 ky_yX11_put rfl ⟨rfl, rfl⟩ ⟨rn_f (Nat.le_of_ble_eq_true rfl), rn_l (Nat.le_of_ble_eq_true rfl)⟩ hi0 (by decide) rfl rfl (Nat.le_of_ble_eq_true rfl) ⟨(Nat.le_of_ble_eq_true rfl), (Nat.le_of_ble_eq_true rfl)⟩ dX11_sentence_135 (fun b45 => ?_)
        refine x_aload_n hC dX11_sentence_138 rfl 1 rfl ?_
        refine x_bipush hC (59 : Int32) dX11_sentence_139 (by decide) ?_
        obtain ⟨x46, M47, q48, hr⟩ := bd2_s hr
        refine x_callV (ci := 5) (q := (RX11, TX11, 32)) (As := [.int (59 : Int32)]) hC (c_X11_passSymbol l G M43 hi0 (59 : Int32) q48) kc_yX11_passSymbol km_X11_191 ki_yX11_passSymbol kv_yX11_passSymbol kn_RX11 ky_yX11_passSymbol rfl ⟨rfl, rfl⟩ ⟨rn_f (Nat.le_of_ble_eq_true rfl), rn_l (Nat.le_of_ble_eq_true rfl)⟩ hi0 (by decide) rfl rfl (Nat.le_of_ble_eq_true rfl) ⟨(Nat.le_of_ble_eq_true rfl), (Nat.le_of_ble_eq_true rfl)⟩ dX11_sentence_141 (fun b49 => ?_)
        cases hr
        exact x_zret hC rfl (BV.out b49) dX11_sentence_144
      · have hr := (ie_s hr).2 s42
        by_cases s50 : (M i0 16) = (5 : Int32)
        · have hr := (ie_s hr).1 s50
          refine x_tableIn hC (off := 95) 105 dX11_sentence_10 (by rw [s50]; decide) (by rw [s50]; decide) (by rw [s50]; rfl) (by decide) ?_
          refine x_aload_n hC dX11_sentence_105 rfl 1 rfl ?_
          refine x_iload_n hC dX11_sentence_106 rfl 0 rfl ?_
          obtain ⟨M51, q52, hr⟩ := bd1_s hr
          refine x_callV (ci := 5) (q := (RX11, TX11, 32)) (As := [.int (M i0 16)]) hC (c_X11_put l G M1 hi0 (M i0 16) q52) kc_yX11_put km_X11_175 ki_yX11_put kv_yX11_put kn_RX11 ky_yX11_put rfl ⟨rfl, rfl⟩ ⟨rn_f (Nat.le_of_ble_eq_true rfl), rn_l (Nat.le_of_ble_eq_true rfl)⟩ hi0 (by decide) rfl rfl (Nat.le_of_ble_eq_true rfl) ⟨(Nat.le_of_ble_eq_true rfl), (Nat.le_of_ble_eq_true rfl)⟩ dX11_sentence_107 (fun b53 => ?_)
          refine x_aload_n hC dX11_sentence_110 rfl 1 rfl ?_
          refine x_iconst hC (1 : Int32) dX11_sentence_111 (by decide) ?_
          obtain ⟨x54, M55, q56, hr⟩ := bd2_s hr
          refine x_callV (ci := 5) (q := (RX11, TX11, 32)) (As := [.int (1 : Int32)]) hC (hrec.2.2.2.2.2.2.2.2.1 hi0 (1 : Int32) q56) kc_yX11_sum km_X11_187 ki_yX11_sum kv_yX11_sum kn_RX11 ky_yX11_sum rfl ⟨rfl, rfl⟩ ⟨rn_gf, rn_gl (Nat.le_of_ble_eq_true rfl)⟩ hi0 (by decide) rfl rfl (Nat.le_of_ble_eq_true rfl) ⟨(Nat.le_of_ble_eq_true rfl), (Nat.le_of_ble_eq_true rfl)⟩ dX11_sentence_112 (fun b57 => ?_)
          refine x_if_eq hC 131 dX11_sentence_115 (by decide) (fun h58 => ?_) (fun h58 => ?_)
          · have hr := (ie_s hr).1 h58
            refine x_iconst hC (0 : Int32) dX11_sentence_131 (by decide) ?_
            cases hr
            exact x_zret hC rfl (Or.inl rfl) dX11_sentence_132
          · have hr := (ie_s hr).2 h58
            refine x_aload_n hC dX11_sentence_118 rfl 1 rfl ?_
            refine x_bipush hC (59 : Int32) dX11_sentence_119 (by decide) ?_
            obtain ⟨x59, M60, q61, hr⟩ := bd2_s hr
            refine x_callV (ci := 5) (q := (RX11, TX11, 32)) (As := [.int (59 : Int32)]) hC (c_X11_passSymbol l G M55 hi0 (59 : Int32) q61) kc_yX11_passSymbol km_X11_191 ki_yX11_passSymbol kv_yX11_passSymbol kn_RX11 ky_yX11_passSymbol rfl ⟨rfl, rfl⟩ ⟨rn_f (Nat.le_of_ble_eq_true rfl), rn_l (Nat.le_of_ble_eq_true rfl)⟩ hi0 (by decide) rfl rfl (Nat.le_of_ble_eq_true rfl) ⟨(Nat.le_of_ble_eq_true rfl), (Nat.le_of_ble_eq_true rfl)⟩ dX11_sentence_121 (fun b62 => ?_)
            refine x_if_eq hC 131 dX11_sentence_124 (by decide) (fun h63 => ?_) (fun h63 => ?_)
            · have hr := (ie_s hr).1 h63
              refine x_iconst hC (0 : Int32) dX11_sentence_131 (by decide) ?_
              cases hr
              exact x_zret hC rfl (Or.inl rfl) dX11_sentence_132
            · have hr := (ie_s hr).2 h63
              refine x_iconst hC (1 : Int32) dX11_sentence_127 (by decide) ?_
              refine x_goto hC 132 dX11_sentence_128 (by decide) ?_
              cases hr
              exact x_zret hC rfl (Or.inr rfl) dX11_sentence_132
        · have hr := (ie_s hr).2 s50
          by_cases s64 : (M i0 16) = (6 : Int32)
          · have hr := (ie_s hr).1 s64
            refine x_tableIn hC (off := 123) 133 dX11_sentence_10 (by rw [s64]; decide) (by rw [s64]; decide) (by rw [s64]; rfl) (by decide) ?_
            refine x_aload_n hC dX11_sentence_133 rfl 1 rfl ?_
            refine x_iload_n hC dX11_sentence_134 rfl 0 rfl ?_
            obtain ⟨M65, q66, hr⟩ := bd1_s hr
            refine x_callV (ci := 5) (q := (RX11, TX11, 32)) (As := [.int (M i0 16)]) hC (c_X11_put l G M1 hi0 (M i0 16) q66) kc_yX11_put km_X11_175 ki_yX11_put kv_yX11_put kn_RX11 ky_yX11_put rfl ⟨rfl, rfl⟩ ⟨rn_f (Nat.le_of_ble_eq_true rfl), rn_l (Nat.le_of_ble_eq_true rfl)⟩ hi0 (by decide) rfl rfl (Nat.le_of_ble_eq_true rfl) ⟨(Nat.le_of_ble_eq_true rfl), (Nat.le_of_ble_eq_true rfl)⟩ dX11_sentence_135 (fun b67 => ?_)
            refine x_aload_n hC dX11_sentence_138 rfl 1 rfl ?_
            refine x_bipush hC (59 : Int32) dX11_sentence_139 (by decide) ?_
            obtain ⟨x68, M69, q70, hr⟩ := bd2_s hr
            refine x_callV (ci := 5) (q := (RX11, TX11, 32)) (As := [.int (59 : Int32)]) hC (c_X11_passSymbol l G M65 hi0 (59 : Int32) q70) kc_yX11_passSymbol km_X11_191 ki_yX11_passSymbol kv_yX11_passSymbol kn_RX11 ky_yX11_passSymbol rfl ⟨rfl, rfl⟩ ⟨rn_f (Nat.le_of_ble_eq_true rfl), rn_l (Nat.le_of_ble_eq_true rfl)⟩ hi0 (by decide) rfl rfl (Nat.le_of_ble_eq_true rfl) ⟨(Nat.le_of_ble_eq_true rfl), (Nat.le_of_ble_eq_true rfl)⟩ dX11_sentence_141 (fun b71 => ?_)
            cases hr
            exact x_zret hC rfl (BV.out b71) dX11_sentence_144
          · have hr := (ie_s hr).2 s64
            by_cases s72 : (M i0 16) = (7 : Int32)
            · have hr := (ie_s hr).1 s72
              refine x_tableIn hC (off := 95) 105 dX11_sentence_10 (by rw [s72]; decide) (by rw [s72]; decide) (by rw [s72]; rfl) (by decide) ?_
              refine x_aload_n hC dX11_sentence_105 rfl 1 rfl ?_
              refine x_iload_n hC dX11_sentence_106 rfl 0 rfl ?_
              obtain ⟨M73, q74, hr⟩ := bd1_s hr
              refine x_callV (ci := 5) (q := (RX11, TX11, 32)) (As := [.int (M i0 16)]) hC (c_X11_put l G M1 hi0 (M i0 16) q74) kc_yX11_put km_X11_175 ki_yX11_put kv_yX11_put kn_RX11 ky_yX11_put rfl ⟨rfl, rfl⟩ ⟨rn_f (Nat.le_of_ble_eq_true rfl), rn_l (Nat.le_of_ble_eq_true rfl)⟩ hi0 (by decide) rfl rfl (Nat.le_of_ble_eq_true rfl) ⟨(Nat.le_of_ble_eq_true rfl), (Nat.le_of_ble_eq_true rfl)⟩ dX11_sentence_107 (fun b75 => ?_)
              refine x_aload_n hC dX11_sentence_110 rfl 1 rfl ?_
              refine x_iconst hC (1 : Int32) dX11_sentence_111 (by decide) ?_
              obtain ⟨x76, M77, q78, hr⟩ := bd2_s hr
              refine x_callV (ci := 5) (q := (RX11, TX11, 32)) (As := [.int (1 : Int32)]) hC (hrec.2.2.2.2.2.2.2.2.1 hi0 (1 : Int32) q78) kc_yX11_sum km_X11_187 ki_yX11_sum kv_yX11_sum kn_RX11 ky_yX11_sum rfl ⟨rfl, rfl⟩ ⟨rn_gf, rn_gl (Nat.le_of_ble_eq_true rfl)⟩ hi0 (by decide) rfl rfl (Nat.le_of_ble_eq_true rfl) ⟨(Nat.le_of_ble_eq_true rfl), (Nat.le_of_ble_eq_true rfl)⟩ dX11_sentence_112 (fun b79 => ?_)
              refine x_if_eq hC 131 dX11_sentence_115 (by decide) (fun h80 => ?_) (fun h80 => ?_)
              · have hr := (ie_s hr).1 h80
                refine x_iconst hC (0 : Int32) dX11_sentence_131 (by decide) ?_
                cases hr
                exact x_zret hC rfl (Or.inl rfl) dX11_sentence_132
              · have hr := (ie_s hr).2 h80
                refine x_aload_n hC dX11_sentence_118 rfl 1 rfl ?_
                refine x_bipush hC (59 : Int32) dX11_sentence_119 (by decide) ?_
                obtain ⟨x81, M82, q83, hr⟩ := bd2_s hr
                refine x_callV (ci := 5) (q := (RX11, TX11, 32)) (As := [.int (59 : Int32)]) hC (c_X11_passSymbol l G M77 hi0 (59 : Int32) q83) kc_yX11_passSymbol km_X11_191 ki_yX11_passSymbol kv_yX11_passSymbol kn_RX11 ky_yX11_passSymbol rfl ⟨rfl, rfl⟩ ⟨rn_f (Nat.le_of_ble_eq_true rfl), rn_l (Nat.le_of_ble_eq_true rfl)⟩ hi0 (by decide) rfl rfl (Nat.le_of_ble_eq_true rfl) ⟨(Nat.le_of_ble_eq_true rfl), (Nat.le_of_ble_eq_true rfl)⟩ dX11_sentence_121 (fun b84 => ?_)
                refine x_if_eq hC 131 dX11_sentence_124 (by decide) (fun h85 => ?_) (fun h85 => ?_)
                · have hr := (ie_s hr).1 h85
                  refine x_iconst hC (0 : Int32) dX11_sentence_131 (by decide) ?_
                  cases hr
                  exact x_zret hC rfl (Or.inl rfl) dX11_sentence_132
                · have hr := (ie_s hr).2 h85
                  refine x_iconst hC (1 : Int32) dX11_sentence_127 (by decide) ?_
                  refine x_goto hC 132 dX11_sentence_128 (by decide) ?_
                  cases hr
                  exact x_zret hC rfl (Or.inr rfl) dX11_sentence_132
            · have hr := (ie_s hr).2 s72
              by_cases s86 : (M i0 16) = (8 : Int32)
              · have hr := (ie_s hr).1 s86
                refine x_tableIn hC (off := 135) 145 dX11_sentence_10 (by rw [s86]; decide) (by rw [s86]; decide) (by rw [s86]; rfl) (by decide) ?_
                refine x_aload_n hC dX11_sentence_145 rfl 1 rfl ?_
                obtain ⟨x87, M88, q89, hr⟩ := bd2_s hr
                refine x_callV (ci := 5) (q := (RX11, TX11, 32)) (As := []) hC (hrec.2.2.1 hi0 0 q89) kc_yX11_branch km_X11_194 ki_yX11_branch kv_yX11_branch kn_RX11 ky_yX11_branch rfl ⟨rfl, rfl⟩ ⟨rn_gf, rn_gl (Nat.le_of_ble_eq_true rfl)⟩ hi0 (by decide) rfl rfl (Nat.le_of_ble_eq_true rfl) ⟨(Nat.le_of_ble_eq_true rfl), (Nat.le_of_ble_eq_true rfl)⟩ dX11_sentence_146 (fun b90 => ?_)
                cases hr
                exact x_zret hC rfl (BV.out b90) dX11_sentence_149
              · have hr := (ie_s hr).2 s86
                by_cases s91 : (M i0 16) = (9 : Int32)
                · have hr := (ie_s hr).1 s91
                  refine x_tableIn hC (off := 145) 155 dX11_sentence_10 (by rw [s91]; decide) (by rw [s91]; decide) (by rw [s91]; rfl) (by decide) ?_
                  refine x_aload_n hC dX11_sentence_155 rfl 1 rfl ?_
                  obtain ⟨x92, M93, q94, hr⟩ := bd2_s hr
                  refine x_callV (ci := 5) (q := (RX11, TX11, 32)) (As := []) hC (hrec.2.2.2.2.1 hi0 0 q94) kc_yX11_loop km_X11_200 ki_yX11_loop kv_yX11_loop kn_RX11 ky_yX11_loop rfl ⟨rfl, rfl⟩ ⟨rn_gf, rn_gl (Nat.le_of_ble_eq_true rfl)⟩ hi0 (by decide) rfl rfl (Nat.le_of_ble_eq_true rfl) ⟨(Nat.le_of_ble_eq_true rfl), (Nat.le_of_ble_eq_true rfl)⟩ dX11_sentence_156 (fun b95 => ?_)
                  cases hr
                  exact x_zret hC rfl (BV.out b95) dX11_sentence_159
                · have hr := (ie_s hr).2 s91
                  by_cases s96 : (M i0 16) = (10 : Int32)
                  · have hr := (ie_s hr).1 s96
                    refine x_tableIn hC (off := 140) 150 dX11_sentence_10 (by rw [s96]; decide) (by rw [s96]; decide) (by rw [s96]; rfl) (by decide) ?_
                    refine x_aload_n hC dX11_sentence_150 rfl 1 rfl ?_
                    obtain ⟨x97, M98, q99, hr⟩ := bd2_s hr
                    refine x_callV (ci := 5) (q := (RX11, TX11, 32)) (As := []) hC (hrec.2.2.2.1 hi0 0 q99) kc_yX11_repeat km_X11_197 ki_yX11_repeat kv_yX11_repeat kn_RX11 ky_yX11_repeat rfl ⟨rfl, rfl⟩ ⟨rn_gf, rn_gl (Nat.le_of_ble_eq_true rfl)⟩ hi0 (by decide) rfl rfl (Nat.le_of_ble_eq_true rfl) ⟨(Nat.le_of_ble_eq_true rfl), (Nat.le_of_ble_eq_true rfl)⟩ dX11_sentence_151 (fun b100 => ?_)
                    cases hr
                    exact x_zret hC rfl (BV.out b100) dX11_sentence_154
                  · have hr := (ie_s hr).2 s96
                    refine x_tableOut hC 155 dX11_sentence_10 (by have := ne_toI s4 (z := 2) (by decide); have := ne_toI s28 (z := 3) (by decide); have := ne_toI s42 (z := 4) (by decide); have := ne_toI s50 (z := 5) (by decide); have := ne_toI s64 (z := 6) (by decide); have := ne_toI s72 (z := 7) (by decide); have := ne_toI s86 (z := 8) (by decide); have := ne_toI s91 (z := 9) (by decide); have := ne_toI s96 (z := 10) (by decide); omega) (by decide) ?_
                    refine x_aload_n hC dX11_sentence_155 rfl 1 rfl ?_
                    obtain ⟨x101, M102, q103, hr⟩ := bd2_s hr
                    refine x_callV (ci := 5) (q := (RX11, TX11, 32)) (As := []) hC (hrec.2.2.2.2.1 hi0 0 q103) kc_yX11_loop km_X11_200 ki_yX11_loop kv_yX11_loop kn_RX11 ky_yX11_loop rfl ⟨rfl, rfl⟩ ⟨rn_gf, rn_gl (Nat.le_of_ble_eq_true rfl)⟩ hi0 (by decide) rfl rfl (Nat.le_of_ble_eq_true rfl) ⟨(Nat.le_of_ble_eq_true rfl), (Nat.le_of_ble_eq_true rfl)⟩ dX11_sentence_156 (fun b104 => ?_)
                    cases hr
                    exact x_zret hC rfl (BV.out b104) dX11_sentence_159

theorem dX11_branch_0 : decode cX11_branch 0 = .ok (.aload_n 0, 1) := by decide +kernel
theorem dX11_branch_1 : decode cX11_branch 1 = .ok (.bipush 8, 2) := by decide +kernel
theorem dX11_branch_3 : decode cX11_branch 3 = .ok (.invokevirtual 175, 3) := by decide +kernel
theorem dX11_branch_6 : decode cX11_branch 6 = .ok (.aload_n 0, 1) := by decide +kernel
theorem dX11_branch_7 : decode cX11_branch 7 = .ok (.getfield 146, 3) := by decide +kernel
theorem dX11_branch_10 : decode cX11_branch 10 = .ok (.istore_n 1, 1) := by decide +kernel
theorem dX11_branch_11 : decode cX11_branch 11 = .ok (.aload_n 0, 1) := by decide +kernel
theorem dX11_branch_12 : decode cX11_branch 12 = .ok (.iconst 0, 1) := by decide +kernel
theorem dX11_branch_13 : decode cX11_branch 13 = .ok (.invokevirtual 175, 3) := by decide +kernel
theorem dX11_branch_16 : decode cX11_branch 16 = .ok (.aload_n 0, 1) := by decide +kernel
theorem dX11_branch_17 : decode cX11_branch 17 = .ok (.iconst 1, 1) := by decide +kernel
theorem dX11_branch_18 : decode cX11_branch 18 = .ok (.invokevirtual 203, 3) := by decide +kernel
theorem dX11_branch_21 : decode cX11_branch 21 = .ok (.ifCond .eq 10, 3) := by decide +kernel
theorem dX11_branch_24 : decode cX11_branch 24 = .ok (.aload_n 0, 1) := by decide +kernel
theorem dX11_branch_25 : decode cX11_branch 25 = .ok (.invokevirtual 172, 3) := by decide +kernel
theorem dX11_branch_28 : decode cX11_branch 28 = .ok (.ifCond .ne 5, 3) := by decide +kernel
theorem dX11_branch_31 : decode cX11_branch 31 = .ok (.iconst 0, 1) := by decide +kernel
theorem dX11_branch_32 : decode cX11_branch 32 = .ok (.ireturn, 1) := by decide +kernel
theorem dX11_branch_33 : decode cX11_branch 33 = .ok (.aload_n 0, 1) := by decide +kernel
theorem dX11_branch_34 : decode cX11_branch 34 = .ok (.bipush 9, 2) := by decide +kernel
theorem dX11_branch_36 : decode cX11_branch 36 = .ok (.invokevirtual 140, 3) := by decide +kernel
theorem dX11_branch_39 : decode cX11_branch 39 = .ok (.ifCond .ne 15, 3) := by decide +kernel
theorem dX11_branch_42 : decode cX11_branch 42 = .ok (.aload_n 0, 1) := by decide +kernel
theorem dX11_branch_43 : decode cX11_branch 43 = .ok (.getfield 29, 3) := by decide +kernel
theorem dX11_branch_46 : decode cX11_branch 46 = .ok (.iload_n 1, 1) := by decide +kernel
theorem dX11_branch_47 : decode cX11_branch 47 = .ok (.aload_n 0, 1) := by decide +kernel
theorem dX11_branch_48 : decode cX11_branch 48 = .ok (.getfield 146, 3) := by decide +kernel
theorem dX11_branch_51 : decode cX11_branch 51 = .ok (.iastore, 1) := by decide +kernel
theorem dX11_branch_52 : decode cX11_branch 52 = .ok (.iconst 1, 1) := by decide +kernel
theorem dX11_branch_53 : decode cX11_branch 53 = .ok (.ireturn, 1) := by decide +kernel
theorem dX11_branch_54 : decode cX11_branch 54 = .ok (.aload_n 0, 1) := by decide +kernel
theorem dX11_branch_55 : decode cX11_branch 55 = .ok (.invokevirtual 137, 3) := by decide +kernel
theorem dX11_branch_58 : decode cX11_branch 58 = .ok (.aload_n 0, 1) := by decide +kernel
theorem dX11_branch_59 : decode cX11_branch 59 = .ok (.bipush 41, 2) := by decide +kernel
theorem dX11_branch_61 : decode cX11_branch 61 = .ok (.invokevirtual 175, 3) := by decide +kernel
theorem dX11_branch_64 : decode cX11_branch 64 = .ok (.aload_n 0, 1) := by decide +kernel
theorem dX11_branch_65 : decode cX11_branch 65 = .ok (.getfield 146, 3) := by decide +kernel
theorem dX11_branch_68 : decode cX11_branch 68 = .ok (.istore_n 2, 1) := by decide +kernel
theorem dX11_branch_69 : decode cX11_branch 69 = .ok (.aload_n 0, 1) := by decide +kernel
theorem dX11_branch_70 : decode cX11_branch 70 = .ok (.iconst 0, 1) := by decide +kernel
theorem dX11_branch_71 : decode cX11_branch 71 = .ok (.invokevirtual 175, 3) := by decide +kernel
theorem dX11_branch_74 : decode cX11_branch 74 = .ok (.aload_n 0, 1) := by decide +kernel
theorem dX11_branch_75 : decode cX11_branch 75 = .ok (.getfield 29, 3) := by decide +kernel
theorem dX11_branch_78 : decode cX11_branch 78 = .ok (.iload_n 1, 1) := by decide +kernel
theorem dX11_branch_79 : decode cX11_branch 79 = .ok (.aload_n 0, 1) := by decide +kernel
theorem dX11_branch_80 : decode cX11_branch 80 = .ok (.getfield 146, 3) := by decide +kernel
theorem dX11_branch_83 : decode cX11_branch 83 = .ok (.iastore, 1) := by decide +kernel
theorem dX11_branch_84 : decode cX11_branch 84 = .ok (.aload_n 0, 1) := by decide +kernel
theorem dX11_branch_85 : decode cX11_branch 85 = .ok (.invokevirtual 172, 3) := by decide +kernel
theorem dX11_branch_88 : decode cX11_branch 88 = .ok (.ifCond .ne 5, 3) := by decide +kernel
theorem dX11_branch_91 : decode cX11_branch 91 = .ok (.iconst 0, 1) := by decide +kernel
theorem dX11_branch_92 : decode cX11_branch 92 = .ok (.ireturn, 1) := by decide +kernel
theorem dX11_branch_93 : decode cX11_branch 93 = .ok (.aload_n 0, 1) := by decide +kernel
theorem dX11_branch_94 : decode cX11_branch 94 = .ok (.getfield 29, 3) := by decide +kernel
theorem dX11_branch_97 : decode cX11_branch 97 = .ok (.iload_n 2, 1) := by decide +kernel
theorem dX11_branch_98 : decode cX11_branch 98 = .ok (.aload_n 0, 1) := by decide +kernel
theorem dX11_branch_99 : decode cX11_branch 99 = .ok (.getfield 146, 3) := by decide +kernel
theorem dX11_branch_102 : decode cX11_branch 102 = .ok (.iastore, 1) := by decide +kernel
theorem dX11_branch_103 : decode cX11_branch 103 = .ok (.iconst 1, 1) := by decide +kernel
theorem dX11_branch_104 : decode cX11_branch 104 = .ok (.ireturn, 1) := by decide +kernel

def f_X11_branch (rec : Nat → Nat → Int32 → Mm → Option (Int32 × Mm)) (i0 : Nat) (M : Mm) : Option (Int32 × Mm) :=
  bd1 (f_X11_put i0 (8 : Int32) M) fun M1 => bd1 (f_X11_put i0 (0 : Int32) M1) fun M4 => bd2 (rec 5 i0 (1 : Int32) M4) fun x7 M8 => if (x7 = 0) then (some ((0 : Int32), M8)) else (bd2 (rec 0 i0 0 M8) fun x12 M13 => if (x12 = 0) then (some ((0 : Int32), M13)) else (lz (f_X11_reads i0 (9 : Int32) M13) fun x17 => if (x17 = 0) then (if 0 ≤ (M1 i0 11).toInt ∧ (M1 i0 11).toInt < ((4000 : Nat) : Int) then (lz (wr M13 (i0 + 6) (ix (M1 i0 11)) (M13 i0 11)) fun M42 => some ((1 : Int32), M42)) else none) else (bd1 (f_X11_advance i0 M13) fun M21 => bd1 (f_X11_put i0 (41 : Int32) M21) fun M24 => bd1 (f_X11_put i0 (0 : Int32) M24) fun M27 => if 0 ≤ (M1 i0 11).toInt ∧ (M1 i0 11).toInt < ((4000 : Nat) : Int) then (lz (wr M27 (i0 + 6) (ix (M1 i0 11)) (M27 i0 11)) fun M31 => bd2 (rec 0 i0 0 M31) fun x33 M34 => if (x33 = 0) then (some ((0 : Int32), M34)) else (if 0 ≤ (M24 i0 11).toInt ∧ (M24 i0 11).toInt < ((4000 : Nat) : Int) then (lz (wr M34 (i0 + 6) (ix (M24 i0 11)) (M34 i0 11)) fun M39 => some ((1 : Int32), M39)) else none)) else none)))

set_option maxHeartbeats 4000000 in
set_option maxRecDepth 100000 in
theorem c_X11_branch (l : Launch) (G : GG) (M : Mm) (rec : Nat → Nat → Int32 → Mm → Option (Int32 × Mm)) {nr : Nat} (hrec : OK_P11 l G rec (RMn nr)) {i0 : Nat} (hi0 : (kd i0).1 = 5) {r : Int32} {M9 : Mm} (hr : f_X11_branch rec i0 M = some (r, M9)) : Mo true l yX11_branch (WS yX11_branch cX11_branch 3 (some .boolean)) (RMn (nr + 1)) 0 0 [.ref (G.2.1 i0)] G M (some (.int r)) M9 := by
  refine Mo.of (by decide +kernel) (Nat.le_of_ble_eq_true rfl) ?_
  intro p e s m args below meth c hC
  have hC : CX p s m args meth c cX11_branch 3 RX11 (some .boolean) G := hC
  rw [f_X11_branch] at hr
  show XJ p l e (RMn (nr + 1)) s m args below meth c G 3 _ 0 0 M 0 [(0, .ref (G.2.1 i0))] []
  refine x_aload_n hC dX11_branch_0 rfl 0 rfl ?_
  refine x_bipush hC (8 : Int32) dX11_branch_1 (by decide) ?_
  obtain ⟨M1, q2, hr⟩ := bd1_s hr
  refine x_callV (ci := 5) (q := (RX11, TX11, 32)) (As := [.int (8 : Int32)]) hC (c_X11_put l G M hi0 (8 : Int32) q2) kc_yX11_put km_X11_175 ki_yX11_put kv_yX11_put kn_RX11 ky_yX11_put rfl ⟨rfl, rfl⟩ ⟨rn_f (Nat.le_of_ble_eq_true rfl), rn_l (Nat.le_of_ble_eq_true rfl)⟩ hi0 (by decide) rfl rfl (Nat.le_of_ble_eq_true rfl) ⟨(Nat.le_of_ble_eq_true rfl), (Nat.le_of_ble_eq_true rfl)⟩ dX11_branch_3 (fun b3 => ?_)
  refine x_aload_n hC dX11_branch_6 rfl 0 rfl ?_
  refine gf_X11_146 hC hi0 dX11_branch_7 ?_
  refine x_istore_n hC [(1, .int (M1 i0 11)), (0, .ref (G.2.1 i0))] dX11_branch_10 rfl (Nat.le_of_ble_eq_true rfl) rfl ?_
  refine x_aload_n hC dX11_branch_11 rfl 1 rfl ?_
  refine x_iconst hC (0 : Int32) dX11_branch_12 (by decide) ?_
  obtain ⟨M4, q5, hr⟩ := bd1_s hr
  refine x_callV (ci := 5) (q := (RX11, TX11, 32)) (As := [.int (0 : Int32)]) hC (c_X11_put l G M1 hi0 (0 : Int32) q5) kc_yX11_put km_X11_175 ki_yX11_put kv_yX11_put kn_RX11 ky_yX11_put rfl ⟨rfl, rfl⟩ ⟨rn_f (Nat.le_of_ble_eq_true rfl), rn_l (Nat.le_of_ble_eq_true rfl)⟩ hi0 (by decide) rfl rfl (Nat.le_of_ble_eq_true rfl) ⟨(Nat.le_of_ble_eq_true rfl), (Nat.le_of_ble_eq_true rfl)⟩ dX11_branch_13 (fun b6 => ?_)
  refine x_aload_n hC dX11_branch_16 rfl 1 rfl ?_
  refine x_iconst hC (1 : Int32) dX11_branch_17 (by decide) ?_
  obtain ⟨x7, M8, q9, hr⟩ := bd2_s hr
  refine x_callV (ci := 5) (q := (RX11, TX11, 32)) (As := [.int (1 : Int32)]) hC (hrec.2.2.2.2.2.1 hi0 (1 : Int32) q9) kc_yX11_test km_X11_203 ki_yX11_test kv_yX11_test kn_RX11 ky_yX11_test rfl ⟨rfl, rfl⟩ ⟨rn_gf, rn_gl (Nat.le_of_ble_eq_true rfl)⟩ hi0 (by decide) rfl rfl (Nat.le_of_ble_eq_true rfl) ⟨(Nat.le_of_ble_eq_true rfl), (Nat.le_of_ble_eq_true rfl)⟩ dX11_branch_18 (fun b10 => ?_)
  refine x_if_eq hC 31 dX11_branch_21 (by decide) (fun h11 => ?_) (fun h11 => ?_)
  · have hr := (ie_s hr).1 h11
    refine x_iconst hC (0 : Int32) dX11_branch_31 (by decide) ?_
    cases hr
    exact x_zret hC rfl (Or.inl rfl) dX11_branch_32
  · have hr := (ie_s hr).2 h11
    refine x_aload_n hC dX11_branch_24 rfl 1 rfl ?_
    obtain ⟨x12, M13, q14, hr⟩ := bd2_s hr
    refine x_callV (ci := 5) (q := (RX11, TX11, 32)) (As := []) hC (hrec.1 hi0 0 q14) kc_yX11_block km_X11_172 ki_yX11_block kv_yX11_block kn_RX11 ky_yX11_block rfl ⟨rfl, rfl⟩ ⟨rn_gf, rn_gl (Nat.le_of_ble_eq_true rfl)⟩ hi0 (by decide) rfl rfl (Nat.le_of_ble_eq_true rfl) ⟨(Nat.le_of_ble_eq_true rfl), (Nat.le_of_ble_eq_true rfl)⟩ dX11_branch_25 (fun b15 => ?_)
    refine x_if_ne hC 33 dX11_branch_28 (by decide) (fun h16 => ?_) (fun h16 => ?_)
    · have hr := (ie_s hr).2 h16
      refine x_aload_n hC dX11_branch_33 rfl 1 rfl ?_
      refine x_bipush hC (9 : Int32) dX11_branch_34 (by decide) ?_
      obtain ⟨x17, e18, hr⟩ := lz_s hr
      refine x_callV (ci := 5) (q := (RX11, TX11, 32)) (As := [.int (9 : Int32)]) hC (c_X11_reads l G M13 hi0 (9 : Int32) e18.symm) kc_yX11_reads km_X11_140 ki_yX11_reads kv_yX11_reads kn_RX11 ky_yX11_reads rfl ⟨rfl, rfl⟩ ⟨rn_f (Nat.le_of_ble_eq_true rfl), rn_l (Nat.le_of_ble_eq_true rfl)⟩ hi0 (by decide) rfl rfl (Nat.le_of_ble_eq_true rfl) ⟨(Nat.le_of_ble_eq_true rfl), (Nat.le_of_ble_eq_true rfl)⟩ dX11_branch_36 (fun b19 => ?_)
      refine x_if_ne hC 54 dX11_branch_39 (by decide) (fun h20 => ?_) (fun h20 => ?_)
      · have hr := (ie_s hr).2 h20
        refine x_aload_n hC dX11_branch_54 rfl 1 rfl ?_
        obtain ⟨M21, q22, hr⟩ := bd1_s hr
        refine x_callV (ci := 5) (q := (RX11, TX11, 32)) (As := []) hC (c_X11_advance l G M13 hi0 q22) kc_yX11_advance km_X11_137 ki_yX11_advance kv_yX11_advance kn_RX11 ky_yX11_advance rfl ⟨rfl, rfl⟩ ⟨rn_f (Nat.le_of_ble_eq_true rfl), rn_l (Nat.le_of_ble_eq_true rfl)⟩ hi0 (by decide) rfl rfl (Nat.le_of_ble_eq_true rfl) ⟨(Nat.le_of_ble_eq_true rfl), (Nat.le_of_ble_eq_true rfl)⟩ dX11_branch_55 (fun b23 => ?_)
        refine x_aload_n hC dX11_branch_58 rfl 1 rfl ?_
        refine x_bipush hC (41 : Int32) dX11_branch_59 (by decide) ?_
        obtain ⟨M24, q25, hr⟩ := bd1_s hr
        refine x_callV (ci := 5) (q := (RX11, TX11, 32)) (As := [.int (41 : Int32)]) hC (c_X11_put l G M21 hi0 (41 : Int32) q25) kc_yX11_put km_X11_175 ki_yX11_put kv_yX11_put kn_RX11 ky_yX11_put rfl ⟨rfl, rfl⟩ ⟨rn_f (Nat.le_of_ble_eq_true rfl), rn_l (Nat.le_of_ble_eq_true rfl)⟩ hi0 (by decide) rfl rfl (Nat.le_of_ble_eq_true rfl) ⟨(Nat.le_of_ble_eq_true rfl), (Nat.le_of_ble_eq_true rfl)⟩ dX11_branch_61 (fun b26 => ?_)
        refine x_aload_n hC dX11_branch_64 rfl 1 rfl ?_
        refine gf_X11_146 hC hi0 dX11_branch_65 ?_
        refine x_istore_n hC [(2, .int (M24 i0 11)), (1, .int (M1 i0 11)), (0, .ref (G.2.1 i0))] dX11_branch_68 rfl (Nat.le_of_ble_eq_true rfl) rfl ?_
        refine x_aload_n hC dX11_branch_69 rfl 2 rfl ?_
        refine x_iconst hC (0 : Int32) dX11_branch_70 (by decide) ?_
        obtain ⟨M27, q28, hr⟩ := bd1_s hr
        refine x_callV (ci := 5) (q := (RX11, TX11, 32)) (As := [.int (0 : Int32)]) hC (c_X11_put l G M24 hi0 (0 : Int32) q28) kc_yX11_put km_X11_175 ki_yX11_put kv_yX11_put kn_RX11 ky_yX11_put rfl ⟨rfl, rfl⟩ ⟨rn_f (Nat.le_of_ble_eq_true rfl), rn_l (Nat.le_of_ble_eq_true rfl)⟩ hi0 (by decide) rfl rfl (Nat.le_of_ble_eq_true rfl) ⟨(Nat.le_of_ble_eq_true rfl), (Nat.le_of_ble_eq_true rfl)⟩ dX11_branch_71 (fun b29 => ?_)
        refine x_aload_n hC dX11_branch_74 rfl 2 rfl ?_
        refine gf_X11_29 hC hi0 dX11_branch_75 ?_
        refine x_iload_n hC dX11_branch_78 rfl 1 rfl ?_
        refine x_aload_n hC dX11_branch_79 rfl 2 rfl ?_
        refine gf_X11_146 hC hi0 dX11_branch_80 ?_
        obtain ⟨h30, hr⟩ := it_s hr
        obtain ⟨M31, e32, hr⟩ := lz_s hr
        refine x_iast hC (kr_5_10 hi0) h30 e32 dX11_branch_83 ?_
        refine x_aload_n hC dX11_branch_84 rfl 2 rfl ?_
        obtain ⟨x33, M34, q35, hr⟩ := bd2_s hr
        refine x_callV (ci := 5) (q := (RX11, TX11, 32)) (As := []) hC (hrec.1 hi0 0 q35) kc_yX11_block km_X11_172 ki_yX11_block kv_yX11_block kn_RX11 ky_yX11_block rfl ⟨rfl, rfl⟩ ⟨rn_gf, rn_gl (Nat.le_of_ble_eq_true rfl)⟩ hi0 (by decide) rfl rfl (Nat.le_of_ble_eq_true rfl) ⟨(Nat.le_of_ble_eq_true rfl), (Nat.le_of_ble_eq_true rfl)⟩ dX11_branch_85 (fun b36 => ?_)
        refine x_if_ne hC 93 dX11_branch_88 (by decide) (fun h37 => ?_) (fun h37 => ?_)
        · have hr := (ie_s hr).2 h37
          refine x_aload_n hC dX11_branch_93 rfl 2 rfl ?_
          refine gf_X11_29 hC hi0 dX11_branch_94 ?_
          refine x_iload_n hC dX11_branch_97 rfl 0 rfl ?_
          refine x_aload_n hC dX11_branch_98 rfl 2 rfl ?_
          refine gf_X11_146 hC hi0 dX11_branch_99 ?_
          obtain ⟨h38, hr⟩ := it_s hr
          obtain ⟨M39, e40, hr⟩ := lz_s hr
          refine x_iast hC (kr_5_10 hi0) h38 e40 dX11_branch_102 ?_
          refine x_iconst hC (1 : Int32) dX11_branch_103 (by decide) ?_
          cases hr
          exact x_zret hC rfl (Or.inr rfl) dX11_branch_104
        · have hr := (ie_s hr).1 h37
          refine x_iconst hC (0 : Int32) dX11_branch_91 (by decide) ?_
          cases hr
          exact x_zret hC rfl (Or.inl rfl) dX11_branch_92
      · have hr := (ie_s hr).1 h20
        refine x_aload_n hC dX11_branch_42 rfl 1 rfl ?_
        refine gf_X11_29 hC hi0 dX11_branch_43 ?_
        refine x_iload_n hC dX11_branch_46 rfl 0 rfl ?_
        refine x_aload_n hC dX11_branch_47 rfl 1 rfl ?_
        refine gf_X11_146 hC hi0 dX11_branch_48 ?_
        obtain ⟨h41, hr⟩ := it_s hr
        obtain ⟨M42, e43, hr⟩ := lz_s hr
        refine x_iast hC (kr_5_10 hi0) h41 e43 dX11_branch_51 ?_
        refine x_iconst hC (1 : Int32) dX11_branch_52 (by decide) ?_
        cases hr
        exact x_zret hC rfl (Or.inr rfl) dX11_branch_53
    · have hr := (ie_s hr).1 h16
      refine x_iconst hC (0 : Int32) dX11_branch_31 (by decide) ?_
      cases hr
      exact x_zret hC rfl (Or.inl rfl) dX11_branch_32

theorem dX11_repeat_0 : decode cX11_repeat 0 = .ok (.aload_n 0, 1) := by decide +kernel
theorem dX11_repeat_1 : decode cX11_repeat 1 = .ok (.getfield 92, 3) := by decide +kernel
theorem dX11_repeat_4 : decode cX11_repeat 4 = .ok (.iconst 3, 1) := by decide +kernel
theorem dX11_repeat_5 : decode cX11_repeat 5 = .ok (.if_icmp .eq 5, 3) := by decide +kernel
theorem dX11_repeat_8 : decode cX11_repeat 8 = .ok (.iconst 0, 1) := by decide +kernel
theorem dX11_repeat_9 : decode cX11_repeat 9 = .ok (.ireturn, 1) := by decide +kernel
theorem dX11_repeat_10 : decode cX11_repeat 10 = .ok (.aload_n 0, 1) := by decide +kernel
theorem dX11_repeat_11 : decode cX11_repeat 11 = .ok (.getfield 89, 3) := by decide +kernel
theorem dX11_repeat_14 : decode cX11_repeat 14 = .ok (.bipush 20, 2) := by decide +kernel
theorem dX11_repeat_16 : decode cX11_repeat 16 = .ok (.if_icmp .le 8, 3) := by decide +kernel
theorem dX11_repeat_19 : decode cX11_repeat 19 = .ok (.aload_n 0, 1) := by decide +kernel
theorem dX11_repeat_20 : decode cX11_repeat 20 = .ok (.iconst 3, 1) := by decide +kernel
theorem dX11_repeat_21 : decode cX11_repeat 21 = .ok (.invokevirtual 165, 3) := by decide +kernel
theorem dX11_repeat_24 : decode cX11_repeat 24 = .ok (.aload_n 0, 1) := by decide +kernel
theorem dX11_repeat_25 : decode cX11_repeat 25 = .ok (.bipush 42, 2) := by decide +kernel
theorem dX11_repeat_27 : decode cX11_repeat 27 = .ok (.invokevirtual 175, 3) := by decide +kernel
theorem dX11_repeat_30 : decode cX11_repeat 30 = .ok (.aload_n 0, 1) := by decide +kernel
theorem dX11_repeat_31 : decode cX11_repeat 31 = .ok (.aload_n 0, 1) := by decide +kernel
theorem dX11_repeat_32 : decode cX11_repeat 32 = .ok (.getfield 206, 3) := by decide +kernel
theorem dX11_repeat_35 : decode cX11_repeat 35 = .ok (.invokevirtual 175, 3) := by decide +kernel
theorem dX11_repeat_38 : decode cX11_repeat 38 = .ok (.aload_n 0, 1) := by decide +kernel
theorem dX11_repeat_39 : decode cX11_repeat 39 = .ok (.aload_n 0, 1) := by decide +kernel
theorem dX11_repeat_40 : decode cX11_repeat 40 = .ok (.getfield 89, 3) := by decide +kernel
theorem dX11_repeat_43 : decode cX11_repeat 43 = .ok (.invokevirtual 175, 3) := by decide +kernel
theorem dX11_repeat_46 : decode cX11_repeat 46 = .ok (.aload_n 0, 1) := by decide +kernel
theorem dX11_repeat_47 : decode cX11_repeat 47 = .ok (.invokevirtual 137, 3) := by decide +kernel
theorem dX11_repeat_50 : decode cX11_repeat 50 = .ok (.aload_n 0, 1) := by decide +kernel
theorem dX11_repeat_51 : decode cX11_repeat 51 = .ok (.getfield 146, 3) := by decide +kernel
theorem dX11_repeat_54 : decode cX11_repeat 54 = .ok (.istore_n 1, 1) := by decide +kernel
theorem dX11_repeat_55 : decode cX11_repeat 55 = .ok (.aload_n 0, 1) := by decide +kernel
theorem dX11_repeat_56 : decode cX11_repeat 56 = .ok (.bipush 43, 2) := by decide +kernel
theorem dX11_repeat_58 : decode cX11_repeat 58 = .ok (.invokevirtual 175, 3) := by decide +kernel
theorem dX11_repeat_61 : decode cX11_repeat 61 = .ok (.aload_n 0, 1) := by decide +kernel
theorem dX11_repeat_62 : decode cX11_repeat 62 = .ok (.aload_n 0, 1) := by decide +kernel
theorem dX11_repeat_63 : decode cX11_repeat 63 = .ok (.getfield 206, 3) := by decide +kernel
theorem dX11_repeat_66 : decode cX11_repeat 66 = .ok (.invokevirtual 175, 3) := by decide +kernel
theorem dX11_repeat_69 : decode cX11_repeat 69 = .ok (.aload_n 0, 1) := by decide +kernel
theorem dX11_repeat_70 : decode cX11_repeat 70 = .ok (.iconst 0, 1) := by decide +kernel
theorem dX11_repeat_71 : decode cX11_repeat 71 = .ok (.invokevirtual 175, 3) := by decide +kernel
theorem dX11_repeat_74 : decode cX11_repeat 74 = .ok (.aload_n 0, 1) := by decide +kernel
theorem dX11_repeat_75 : decode cX11_repeat 75 = .ok (.dup, 1) := by decide +kernel
theorem dX11_repeat_76 : decode cX11_repeat 76 = .ok (.getfield 206, 3) := by decide +kernel
theorem dX11_repeat_79 : decode cX11_repeat 79 = .ok (.iconst 1, 1) := by decide +kernel
theorem dX11_repeat_80 : decode cX11_repeat 80 = .ok (.iadd, 1) := by decide +kernel
theorem dX11_repeat_81 : decode cX11_repeat 81 = .ok (.putfield 206, 3) := by decide +kernel
theorem dX11_repeat_84 : decode cX11_repeat 84 = .ok (.aload_n 0, 1) := by decide +kernel
theorem dX11_repeat_85 : decode cX11_repeat 85 = .ok (.invokevirtual 172, 3) := by decide +kernel
theorem dX11_repeat_88 : decode cX11_repeat 88 = .ok (.ifCond .ne 5, 3) := by decide +kernel
theorem dX11_repeat_91 : decode cX11_repeat 91 = .ok (.iconst 0, 1) := by decide +kernel
theorem dX11_repeat_92 : decode cX11_repeat 92 = .ok (.ireturn, 1) := by decide +kernel
theorem dX11_repeat_93 : decode cX11_repeat 93 = .ok (.aload_n 0, 1) := by decide +kernel
theorem dX11_repeat_94 : decode cX11_repeat 94 = .ok (.dup, 1) := by decide +kernel
theorem dX11_repeat_95 : decode cX11_repeat 95 = .ok (.getfield 206, 3) := by decide +kernel
theorem dX11_repeat_98 : decode cX11_repeat 98 = .ok (.iconst 1, 1) := by decide +kernel
theorem dX11_repeat_99 : decode cX11_repeat 99 = .ok (.isub, 1) := by decide +kernel
theorem dX11_repeat_100 : decode cX11_repeat 100 = .ok (.putfield 206, 3) := by decide +kernel
theorem dX11_repeat_103 : decode cX11_repeat 103 = .ok (.aload_n 0, 1) := by decide +kernel
theorem dX11_repeat_104 : decode cX11_repeat 104 = .ok (.bipush 41, 2) := by decide +kernel
theorem dX11_repeat_106 : decode cX11_repeat 106 = .ok (.invokevirtual 175, 3) := by decide +kernel
theorem dX11_repeat_109 : decode cX11_repeat 109 = .ok (.aload_n 0, 1) := by decide +kernel
theorem dX11_repeat_110 : decode cX11_repeat 110 = .ok (.iload_n 1, 1) := by decide +kernel
theorem dX11_repeat_111 : decode cX11_repeat 111 = .ok (.invokevirtual 175, 3) := by decide +kernel
theorem dX11_repeat_114 : decode cX11_repeat 114 = .ok (.aload_n 0, 1) := by decide +kernel
theorem dX11_repeat_115 : decode cX11_repeat 115 = .ok (.getfield 29, 3) := by decide +kernel
theorem dX11_repeat_118 : decode cX11_repeat 118 = .ok (.iload_n 1, 1) := by decide +kernel
theorem dX11_repeat_119 : decode cX11_repeat 119 = .ok (.iconst 2, 1) := by decide +kernel
theorem dX11_repeat_120 : decode cX11_repeat 120 = .ok (.iadd, 1) := by decide +kernel
theorem dX11_repeat_121 : decode cX11_repeat 121 = .ok (.aload_n 0, 1) := by decide +kernel
theorem dX11_repeat_122 : decode cX11_repeat 122 = .ok (.getfield 146, 3) := by decide +kernel
theorem dX11_repeat_125 : decode cX11_repeat 125 = .ok (.iastore, 1) := by decide +kernel
theorem dX11_repeat_126 : decode cX11_repeat 126 = .ok (.iconst 1, 1) := by decide +kernel
theorem dX11_repeat_127 : decode cX11_repeat 127 = .ok (.ireturn, 1) := by decide +kernel

def f_X11_repeat (rec : Nat → Nat → Int32 → Mm → Option (Int32 × Mm)) (i0 : Nat) (M : Mm) : Option (Int32 × Mm) :=
  if ((M i0 14) = (3 : Int32)) then (bd1 (if ((M i0 16) ≤ (20 : Int32)) then (some (M)) else (bd1 (f_X11_fault i0 (3 : Int32) M) fun M4 => some (M4))) fun M7 => bd1 (f_X11_put i0 (42 : Int32) M7) fun M8 => bd1 (f_X11_put i0 (M8 i0 18) M8) fun M11 => bd1 (f_X11_put i0 (M11 i0 16) M11) fun M14 => bd1 (f_X11_advance i0 M14) fun M17 => bd1 (f_X11_put i0 (43 : Int32) M17) fun M20 => bd1 (f_X11_put i0 (M20 i0 18) M20) fun M23 => bd1 (f_X11_put i0 (0 : Int32) M23) fun M26 => lz (wr M26 i0 18 ((M26 i0 18) + (1 : Int32))) fun M29 => bd2 (rec 0 i0 0 M29) fun x31 M32 => if (x31 = 0) then (some ((0 : Int32), M32)) else (lz (wr M32 i0 18 ((M32 i0 18) - (1 : Int32))) fun M36 => bd1 (f_X11_put i0 (41 : Int32) M36) fun M38 => bd1 (f_X11_put i0 (M17 i0 11) M38) fun M41 => if 0 ≤ ((M17 i0 11) + (2 : Int32)).toInt ∧ ((M17 i0 11) + (2 : Int32)).toInt < ((4000 : Nat) : Int) then (lz (wr M41 (i0 + 6) (ix ((M17 i0 11) + (2 : Int32))) (M41 i0 11)) fun M45 => some ((1 : Int32), M45)) else none)) else (some ((0 : Int32), M))

set_option maxHeartbeats 4000000 in
set_option maxRecDepth 100000 in
theorem c_X11_repeat (l : Launch) (G : GG) (M : Mm) (rec : Nat → Nat → Int32 → Mm → Option (Int32 × Mm)) {nr : Nat} (hrec : OK_P11 l G rec (RMn nr)) {i0 : Nat} (hi0 : (kd i0).1 = 5) {r : Int32} {M9 : Mm} (hr : f_X11_repeat rec i0 M = some (r, M9)) : Mo true l yX11_repeat (WS yX11_repeat cX11_repeat 2 (some .boolean)) (RMn (nr + 1)) 0 0 [.ref (G.2.1 i0)] G M (some (.int r)) M9 := by
  refine Mo.of (by decide +kernel) (Nat.le_of_ble_eq_true rfl) ?_
  intro p e s m args below meth c hC
  have hC : CX p s m args meth c cX11_repeat 2 RX11 (some .boolean) G := hC
  rw [f_X11_repeat] at hr
  show XJ p l e (RMn (nr + 1)) s m args below meth c G 2 _ 0 0 M 0 [(0, .ref (G.2.1 i0))] []
  refine x_aload_n hC dX11_repeat_0 rfl 0 rfl ?_
  refine gf_X11_92 hC hi0 dX11_repeat_1 ?_
  refine x_iconst hC (3 : Int32) dX11_repeat_4 (by decide) ?_
  refine x_icmp_eq hC 10 dX11_repeat_5 (by decide) (fun h1 => ?_) (fun h1 => ?_)
  · have hr := (ie_s hr).1 h1
    refine x_aload_n hC dX11_repeat_10 rfl 0 rfl ?_
    refine gf_X11_89 hC hi0 dX11_repeat_11 ?_
    refine x_bipush hC (20 : Int32) dX11_repeat_14 (by decide) ?_
    obtain ⟨M7, q2, hr⟩ := bd1_s hr
    refine x_join (M' := M7) (pc' := 24) (lv' := [(0, .ref (G.2.1 i0))]) (st' := []) ?_ ?_
    · refine x_aload_n hC dX11_repeat_24 rfl 0 rfl ?_
      refine x_bipush hC (42 : Int32) dX11_repeat_25 (by decide) ?_
      obtain ⟨M8, q9, hr⟩ := bd1_s hr
      refine x_callV (ci := 5) (q := (RX11, TX11, 32)) (As := [.int (42 : Int32)]) hC (c_X11_put l G M7 hi0 (42 : Int32) q9) kc_yX11_put km_X11_175 ki_yX11_put kv_yX11_put kn_RX11 ky_yX11_put rfl ⟨rfl, rfl⟩ ⟨rn_f (Nat.le_of_ble_eq_true rfl), rn_l (Nat.le_of_ble_eq_true rfl)⟩ hi0 (by decide) rfl rfl (Nat.le_of_ble_eq_true rfl) ⟨(Nat.le_of_ble_eq_true rfl), (Nat.le_of_ble_eq_true rfl)⟩ dX11_repeat_27 (fun b10 => ?_)
      refine x_aload_n hC dX11_repeat_30 rfl 0 rfl ?_
      refine x_aload_n hC dX11_repeat_31 rfl 0 rfl ?_
      refine gf_X11_206 hC hi0 dX11_repeat_32 ?_
      obtain ⟨M11, q12, hr⟩ := bd1_s hr
      refine x_callV (ci := 5) (q := (RX11, TX11, 32)) (As := [.int (M8 i0 18)]) hC (c_X11_put l G M8 hi0 (M8 i0 18) q12) kc_yX11_put km_X11_175 ki_yX11_put kv_yX11_put kn_RX11 ky_yX11_put rfl ⟨rfl, rfl⟩ ⟨rn_f (Nat.le_of_ble_eq_true rfl), rn_l (Nat.le_of_ble_eq_true rfl)⟩ hi0 (by decide) rfl rfl (Nat.le_of_ble_eq_true rfl) ⟨(Nat.le_of_ble_eq_true rfl), (Nat.le_of_ble_eq_true rfl)⟩ dX11_repeat_35 (fun b13 => ?_)
      refine x_aload_n hC dX11_repeat_38 rfl 0 rfl ?_
      refine x_aload_n hC dX11_repeat_39 rfl 0 rfl ?_
      refine gf_X11_89 hC hi0 dX11_repeat_40 ?_
      obtain ⟨M14, q15, hr⟩ := bd1_s hr
      refine x_callV (ci := 5) (q := (RX11, TX11, 32)) (As := [.int (M11 i0 16)]) hC (c_X11_put l G M11 hi0 (M11 i0 16) q15) kc_yX11_put km_X11_175 ki_yX11_put kv_yX11_put kn_RX11 ky_yX11_put rfl ⟨rfl, rfl⟩ ⟨rn_f (Nat.le_of_ble_eq_true rfl), rn_l (Nat.le_of_ble_eq_true rfl)⟩ hi0 (by decide) rfl rfl (Nat.le_of_ble_eq_true rfl) ⟨(Nat.le_of_ble_eq_true rfl), (Nat.le_of_ble_eq_true rfl)⟩ dX11_repeat_43 (fun b16 => ?_)
      refine x_aload_n hC dX11_repeat_46 rfl 0 rfl ?_
      obtain ⟨M17, q18, hr⟩ := bd1_s hr
      refine x_callV (ci := 5) (q := (RX11, TX11, 32)) (As := []) hC (c_X11_advance l G M14 hi0 q18) kc_yX11_advance km_X11_137 ki_yX11_advance kv_yX11_advance kn_RX11 ky_yX11_advance rfl ⟨rfl, rfl⟩ ⟨rn_f (Nat.le_of_ble_eq_true rfl), rn_l (Nat.le_of_ble_eq_true rfl)⟩ hi0 (by decide) rfl rfl (Nat.le_of_ble_eq_true rfl) ⟨(Nat.le_of_ble_eq_true rfl), (Nat.le_of_ble_eq_true rfl)⟩ dX11_repeat_47 (fun b19 => ?_)
      refine x_aload_n hC dX11_repeat_50 rfl 0 rfl ?_
      refine gf_X11_146 hC hi0 dX11_repeat_51 ?_
      refine x_istore_n hC [(1, .int (M17 i0 11)), (0, .ref (G.2.1 i0))] dX11_repeat_54 rfl (Nat.le_of_ble_eq_true rfl) rfl ?_
      refine x_aload_n hC dX11_repeat_55 rfl 1 rfl ?_
      refine x_bipush hC (43 : Int32) dX11_repeat_56 (by decide) ?_
      obtain ⟨M20, q21, hr⟩ := bd1_s hr
      refine x_callV (ci := 5) (q := (RX11, TX11, 32)) (As := [.int (43 : Int32)]) hC (c_X11_put l G M17 hi0 (43 : Int32) q21) kc_yX11_put km_X11_175 ki_yX11_put kv_yX11_put kn_RX11 ky_yX11_put rfl ⟨rfl, rfl⟩ ⟨rn_f (Nat.le_of_ble_eq_true rfl), rn_l (Nat.le_of_ble_eq_true rfl)⟩ hi0 (by decide) rfl rfl (Nat.le_of_ble_eq_true rfl) ⟨(Nat.le_of_ble_eq_true rfl), (Nat.le_of_ble_eq_true rfl)⟩ dX11_repeat_58 (fun b22 => ?_)
      refine x_aload_n hC dX11_repeat_61 rfl 1 rfl ?_
      refine x_aload_n hC dX11_repeat_62 rfl 1 rfl ?_
      refine gf_X11_206 hC hi0 dX11_repeat_63 ?_
      obtain ⟨M23, q24, hr⟩ := bd1_s hr
      refine x_callV (ci := 5) (q := (RX11, TX11, 32)) (As := [.int (M20 i0 18)]) hC (c_X11_put l G M20 hi0 (M20 i0 18) q24) kc_yX11_put km_X11_175 ki_yX11_put kv_yX11_put kn_RX11 ky_yX11_put rfl ⟨rfl, rfl⟩ ⟨rn_f (Nat.le_of_ble_eq_true rfl), rn_l (Nat.le_of_ble_eq_true rfl)⟩ hi0 (by decide) rfl rfl (Nat.le_of_ble_eq_true rfl) ⟨(Nat.le_of_ble_eq_true rfl), (Nat.le_of_ble_eq_true rfl)⟩ dX11_repeat_66 (fun b25 => ?_)
      refine x_aload_n hC dX11_repeat_69 rfl 1 rfl ?_
      refine x_iconst hC (0 : Int32) dX11_repeat_70 (by decide) ?_
      obtain ⟨M26, q27, hr⟩ := bd1_s hr
      refine x_callV (ci := 5) (q := (RX11, TX11, 32)) (As := [.int (0 : Int32)]) hC (c_X11_put l G M23 hi0 (0 : Int32) q27) kc_yX11_put km_X11_175 ki_yX11_put kv_yX11_put kn_RX11 ky_yX11_put rfl ⟨rfl, rfl⟩ ⟨rn_f (Nat.le_of_ble_eq_true rfl), rn_l (Nat.le_of_ble_eq_true rfl)⟩ hi0 (by decide) rfl rfl (Nat.le_of_ble_eq_true rfl) ⟨(Nat.le_of_ble_eq_true rfl), (Nat.le_of_ble_eq_true rfl)⟩ dX11_repeat_71 (fun b28 => ?_)
      refine x_aload_n hC dX11_repeat_74 rfl 1 rfl ?_
      refine x_dup hC dX11_repeat_75 rfl ?_
      refine gf_X11_206 hC hi0 dX11_repeat_76 ?_
      refine x_iconst hC (1 : Int32) dX11_repeat_79 (by decide) ?_
      refine x_iadd hC dX11_repeat_80 ?_
      obtain ⟨M29, e30, hr⟩ := lz_s hr
      refine pf_X11_206 hC hi0 e30 dX11_repeat_81 ?_
      refine x_aload_n hC dX11_repeat_84 rfl 1 rfl ?_
      obtain ⟨x31, M32, q33, hr⟩ := bd2_s hr
      refine x_callV (ci := 5) (q := (RX11, TX11, 32)) (As := []) hC (hrec.1 hi0 0 q33) kc_yX11_block km_X11_172 ki_yX11_block kv_yX11_block kn_RX11 ky_yX11_block rfl ⟨rfl, rfl⟩ ⟨rn_gf, rn_gl (Nat.le_of_ble_eq_true rfl)⟩ hi0 (by decide) rfl rfl (Nat.le_of_ble_eq_true rfl) ⟨(Nat.le_of_ble_eq_true rfl), (Nat.le_of_ble_eq_true rfl)⟩ dX11_repeat_85 (fun b34 => ?_)
      refine x_if_ne hC 93 dX11_repeat_88 (by decide) (fun h35 => ?_) (fun h35 => ?_)
      · have hr := (ie_s hr).2 h35
        refine x_aload_n hC dX11_repeat_93 rfl 1 rfl ?_
        refine x_dup hC dX11_repeat_94 rfl ?_
        refine gf_X11_206 hC hi0 dX11_repeat_95 ?_
        refine x_iconst hC (1 : Int32) dX11_repeat_98 (by decide) ?_
        refine x_isub hC dX11_repeat_99 ?_
        obtain ⟨M36, e37, hr⟩ := lz_s hr
        refine pf_X11_206 hC hi0 e37 dX11_repeat_100 ?_
        refine x_aload_n hC dX11_repeat_103 rfl 1 rfl ?_
        refine x_bipush hC (41 : Int32) dX11_repeat_104 (by decide) ?_
        obtain ⟨M38, q39, hr⟩ := bd1_s hr
        refine x_callV (ci := 5) (q := (RX11, TX11, 32)) (As := [.int (41 : Int32)]) hC (c_X11_put l G M36 hi0 (41 : Int32) q39) kc_yX11_put km_X11_175 ki_yX11_put kv_yX11_put kn_RX11 ky_yX11_put rfl ⟨rfl, rfl⟩ ⟨rn_f (Nat.le_of_ble_eq_true rfl), rn_l (Nat.le_of_ble_eq_true rfl)⟩ hi0 (by decide) rfl rfl (Nat.le_of_ble_eq_true rfl) ⟨(Nat.le_of_ble_eq_true rfl), (Nat.le_of_ble_eq_true rfl)⟩ dX11_repeat_106 (fun b40 => ?_)
        refine x_aload_n hC dX11_repeat_109 rfl 1 rfl ?_
        refine x_iload_n hC dX11_repeat_110 rfl 0 rfl ?_
        obtain ⟨M41, q42, hr⟩ := bd1_s hr
        refine x_callV (ci := 5) (q := (RX11, TX11, 32)) (As := [.int (M17 i0 11)]) hC (c_X11_put l G M38 hi0 (M17 i0 11) q42) kc_yX11_put km_X11_175 ki_yX11_put kv_yX11_put kn_RX11 ky_yX11_put rfl ⟨rfl, rfl⟩ ⟨rn_f (Nat.le_of_ble_eq_true rfl), rn_l (Nat.le_of_ble_eq_true rfl)⟩ hi0 (by decide) rfl rfl (Nat.le_of_ble_eq_true rfl) ⟨(Nat.le_of_ble_eq_true rfl), (Nat.le_of_ble_eq_true rfl)⟩ dX11_repeat_111 (fun b43 => ?_)
        refine x_aload_n hC dX11_repeat_114 rfl 1 rfl ?_
        refine gf_X11_29 hC hi0 dX11_repeat_115 ?_
        refine x_iload_n hC dX11_repeat_118 rfl 0 rfl ?_
        refine x_iconst hC (2 : Int32) dX11_repeat_119 (by decide) ?_
        refine x_iadd hC dX11_repeat_120 ?_
        refine x_aload_n hC dX11_repeat_121 rfl 1 rfl ?_
        refine gf_X11_146 hC hi0 dX11_repeat_122 ?_
        obtain ⟨h44, hr⟩ := it_s hr
        obtain ⟨M45, e46, hr⟩ := lz_s hr
        refine x_iast hC (kr_5_10 hi0) h44 e46 dX11_repeat_125 ?_
        refine x_iconst hC (1 : Int32) dX11_repeat_126 (by decide) ?_
        cases hr
        exact x_zret hC rfl (Or.inr rfl) dX11_repeat_127
      · have hr := (ie_s hr).1 h35
        refine x_iconst hC (0 : Int32) dX11_repeat_91 (by decide) ?_
        cases hr
        exact x_zret hC rfl (Or.inl rfl) dX11_repeat_92
    · intro kj
      refine x_icmp_le hC 24 dX11_repeat_16 (by decide) (fun h3 => ?_) (fun h3 => ?_)
      · have q2 := (ie_s q2).1 h3
        cases q2
        exact x_sub [0] rfl kj
      · have q2 := (ie_s q2).2 h3
        refine x_aload_n hC dX11_repeat_19 rfl 0 rfl ?_
        refine x_iconst hC (3 : Int32) dX11_repeat_20 (by decide) ?_
        obtain ⟨M4, q5, q2⟩ := bd1_s q2
        refine x_callV (ci := 5) (q := (RX11, TX11, 32)) (As := [.int (3 : Int32)]) hC (c_X11_fault l G M hi0 (3 : Int32) q5) kc_yX11_fault km_X11_165 ki_yX11_fault kv_yX11_fault kn_RX11 ky_yX11_fault rfl ⟨rfl, rfl⟩ ⟨rn_f (Nat.le_of_ble_eq_true rfl), rn_l (Nat.le_of_ble_eq_true rfl)⟩ hi0 (by decide) rfl rfl (Nat.le_of_ble_eq_true rfl) ⟨(Nat.le_of_ble_eq_true rfl), (Nat.le_of_ble_eq_true rfl)⟩ dX11_repeat_21 (fun b6 => ?_)
        cases q2
        exact x_sub [0] rfl kj
  · have hr := (ie_s hr).2 h1
    refine x_iconst hC (0 : Int32) dX11_repeat_8 (by decide) ?_
    cases hr
    exact x_zret hC rfl (Or.inl rfl) dX11_repeat_9

theorem dX11_loop_0 : decode cX11_loop 0 = .ok (.aload_n 0, 1) := by decide +kernel
theorem dX11_loop_1 : decode cX11_loop 1 = .ok (.getfield 146, 3) := by decide +kernel
theorem dX11_loop_4 : decode cX11_loop 4 = .ok (.istore_n 1, 1) := by decide +kernel
theorem dX11_loop_5 : decode cX11_loop 5 = .ok (.aload_n 0, 1) := by decide +kernel
theorem dX11_loop_6 : decode cX11_loop 6 = .ok (.bipush 11, 2) := by decide +kernel
theorem dX11_loop_8 : decode cX11_loop 8 = .ok (.invokevirtual 175, 3) := by decide +kernel
theorem dX11_loop_11 : decode cX11_loop 11 = .ok (.aload_n 0, 1) := by decide +kernel
theorem dX11_loop_12 : decode cX11_loop 12 = .ok (.iconst 0, 1) := by decide +kernel
theorem dX11_loop_13 : decode cX11_loop 13 = .ok (.invokevirtual 175, 3) := by decide +kernel
theorem dX11_loop_16 : decode cX11_loop 16 = .ok (.aload_n 0, 1) := by decide +kernel
theorem dX11_loop_17 : decode cX11_loop 17 = .ok (.iconst 1, 1) := by decide +kernel
theorem dX11_loop_18 : decode cX11_loop 18 = .ok (.invokevirtual 203, 3) := by decide +kernel
theorem dX11_loop_21 : decode cX11_loop 21 = .ok (.ifCond .eq 10, 3) := by decide +kernel
theorem dX11_loop_24 : decode cX11_loop 24 = .ok (.aload_n 0, 1) := by decide +kernel
theorem dX11_loop_25 : decode cX11_loop 25 = .ok (.invokevirtual 172, 3) := by decide +kernel
theorem dX11_loop_28 : decode cX11_loop 28 = .ok (.ifCond .ne 5, 3) := by decide +kernel
theorem dX11_loop_31 : decode cX11_loop 31 = .ok (.iconst 0, 1) := by decide +kernel
theorem dX11_loop_32 : decode cX11_loop 32 = .ok (.ireturn, 1) := by decide +kernel
theorem dX11_loop_33 : decode cX11_loop 33 = .ok (.aload_n 0, 1) := by decide +kernel
theorem dX11_loop_34 : decode cX11_loop 34 = .ok (.bipush 41, 2) := by decide +kernel
theorem dX11_loop_36 : decode cX11_loop 36 = .ok (.invokevirtual 175, 3) := by decide +kernel
theorem dX11_loop_39 : decode cX11_loop 39 = .ok (.aload_n 0, 1) := by decide +kernel
theorem dX11_loop_40 : decode cX11_loop 40 = .ok (.iload_n 1, 1) := by decide +kernel
theorem dX11_loop_41 : decode cX11_loop 41 = .ok (.invokevirtual 175, 3) := by decide +kernel
theorem dX11_loop_44 : decode cX11_loop 44 = .ok (.aload_n 0, 1) := by decide +kernel
theorem dX11_loop_45 : decode cX11_loop 45 = .ok (.getfield 29, 3) := by decide +kernel
theorem dX11_loop_48 : decode cX11_loop 48 = .ok (.iload_n 1, 1) := by decide +kernel
theorem dX11_loop_49 : decode cX11_loop 49 = .ok (.iconst 1, 1) := by decide +kernel
theorem dX11_loop_50 : decode cX11_loop 50 = .ok (.iadd, 1) := by decide +kernel
theorem dX11_loop_51 : decode cX11_loop 51 = .ok (.aload_n 0, 1) := by decide +kernel
theorem dX11_loop_52 : decode cX11_loop 52 = .ok (.getfield 146, 3) := by decide +kernel
theorem dX11_loop_55 : decode cX11_loop 55 = .ok (.iastore, 1) := by decide +kernel
theorem dX11_loop_56 : decode cX11_loop 56 = .ok (.iconst 1, 1) := by decide +kernel
theorem dX11_loop_57 : decode cX11_loop 57 = .ok (.ireturn, 1) := by decide +kernel

def f_X11_loop (rec : Nat → Nat → Int32 → Mm → Option (Int32 × Mm)) (i0 : Nat) (M : Mm) : Option (Int32 × Mm) :=
  bd1 (f_X11_put i0 (11 : Int32) M) fun M1 => bd1 (f_X11_put i0 (0 : Int32) M1) fun M4 => bd2 (rec 5 i0 (1 : Int32) M4) fun x7 M8 => if (x7 = 0) then (some ((0 : Int32), M8)) else (bd2 (rec 0 i0 0 M8) fun x12 M13 => if (x12 = 0) then (some ((0 : Int32), M13)) else (bd1 (f_X11_put i0 (41 : Int32) M13) fun M17 => bd1 (f_X11_put i0 (M i0 11) M17) fun M20 => if 0 ≤ ((M i0 11) + (1 : Int32)).toInt ∧ ((M i0 11) + (1 : Int32)).toInt < ((4000 : Nat) : Int) then (lz (wr M20 (i0 + 6) (ix ((M i0 11) + (1 : Int32))) (M20 i0 11)) fun M24 => some ((1 : Int32), M24)) else none))

set_option maxHeartbeats 4000000 in
set_option maxRecDepth 100000 in
theorem c_X11_loop (l : Launch) (G : GG) (M : Mm) (rec : Nat → Nat → Int32 → Mm → Option (Int32 × Mm)) {nr : Nat} (hrec : OK_P11 l G rec (RMn nr)) {i0 : Nat} (hi0 : (kd i0).1 = 5) {r : Int32} {M9 : Mm} (hr : f_X11_loop rec i0 M = some (r, M9)) : Mo true l yX11_loop (WS yX11_loop cX11_loop 2 (some .boolean)) (RMn (nr + 1)) 0 0 [.ref (G.2.1 i0)] G M (some (.int r)) M9 := by
  refine Mo.of (by decide +kernel) (Nat.le_of_ble_eq_true rfl) ?_
  intro p e s m args below meth c hC
  have hC : CX p s m args meth c cX11_loop 2 RX11 (some .boolean) G := hC
  rw [f_X11_loop] at hr
  show XJ p l e (RMn (nr + 1)) s m args below meth c G 2 _ 0 0 M 0 [(0, .ref (G.2.1 i0))] []
  refine x_aload_n hC dX11_loop_0 rfl 0 rfl ?_
  refine gf_X11_146 hC hi0 dX11_loop_1 ?_
  refine x_istore_n hC [(1, .int (M i0 11)), (0, .ref (G.2.1 i0))] dX11_loop_4 rfl (Nat.le_of_ble_eq_true rfl) rfl ?_
  refine x_aload_n hC dX11_loop_5 rfl 1 rfl ?_
  refine x_bipush hC (11 : Int32) dX11_loop_6 (by decide) ?_
  obtain ⟨M1, q2, hr⟩ := bd1_s hr
  refine x_callV (ci := 5) (q := (RX11, TX11, 32)) (As := [.int (11 : Int32)]) hC (c_X11_put l G M hi0 (11 : Int32) q2) kc_yX11_put km_X11_175 ki_yX11_put kv_yX11_put kn_RX11 ky_yX11_put rfl ⟨rfl, rfl⟩ ⟨rn_f (Nat.le_of_ble_eq_true rfl), rn_l (Nat.le_of_ble_eq_true rfl)⟩ hi0 (by decide) rfl rfl (Nat.le_of_ble_eq_true rfl) ⟨(Nat.le_of_ble_eq_true rfl), (Nat.le_of_ble_eq_true rfl)⟩ dX11_loop_8 (fun b3 => ?_)
  refine x_aload_n hC dX11_loop_11 rfl 1 rfl ?_
  refine x_iconst hC (0 : Int32) dX11_loop_12 (by decide) ?_
  obtain ⟨M4, q5, hr⟩ := bd1_s hr
  refine x_callV (ci := 5) (q := (RX11, TX11, 32)) (As := [.int (0 : Int32)]) hC (c_X11_put l G M1 hi0 (0 : Int32) q5) kc_yX11_put km_X11_175 ki_yX11_put kv_yX11_put kn_RX11 ky_yX11_put rfl ⟨rfl, rfl⟩ ⟨rn_f (Nat.le_of_ble_eq_true rfl), rn_l (Nat.le_of_ble_eq_true rfl)⟩ hi0 (by decide) rfl rfl (Nat.le_of_ble_eq_true rfl) ⟨(Nat.le_of_ble_eq_true rfl), (Nat.le_of_ble_eq_true rfl)⟩ dX11_loop_13 (fun b6 => ?_)
  refine x_aload_n hC dX11_loop_16 rfl 1 rfl ?_
  refine x_iconst hC (1 : Int32) dX11_loop_17 (by decide) ?_
  obtain ⟨x7, M8, q9, hr⟩ := bd2_s hr
  refine x_callV (ci := 5) (q := (RX11, TX11, 32)) (As := [.int (1 : Int32)]) hC (hrec.2.2.2.2.2.1 hi0 (1 : Int32) q9) kc_yX11_test km_X11_203 ki_yX11_test kv_yX11_test kn_RX11 ky_yX11_test rfl ⟨rfl, rfl⟩ ⟨rn_gf, rn_gl (Nat.le_of_ble_eq_true rfl)⟩ hi0 (by decide) rfl rfl (Nat.le_of_ble_eq_true rfl) ⟨(Nat.le_of_ble_eq_true rfl), (Nat.le_of_ble_eq_true rfl)⟩ dX11_loop_18 (fun b10 => ?_)
  refine x_if_eq hC 31 dX11_loop_21 (by decide) (fun h11 => ?_) (fun h11 => ?_)
  · have hr := (ie_s hr).1 h11
    refine x_iconst hC (0 : Int32) dX11_loop_31 (by decide) ?_
    cases hr
    exact x_zret hC rfl (Or.inl rfl) dX11_loop_32
  · have hr := (ie_s hr).2 h11
    refine x_aload_n hC dX11_loop_24 rfl 1 rfl ?_
    obtain ⟨x12, M13, q14, hr⟩ := bd2_s hr
    refine x_callV (ci := 5) (q := (RX11, TX11, 32)) (As := []) hC (hrec.1 hi0 0 q14) kc_yX11_block km_X11_172 ki_yX11_block kv_yX11_block kn_RX11 ky_yX11_block rfl ⟨rfl, rfl⟩ ⟨rn_gf, rn_gl (Nat.le_of_ble_eq_true rfl)⟩ hi0 (by decide) rfl rfl (Nat.le_of_ble_eq_true rfl) ⟨(Nat.le_of_ble_eq_true rfl), (Nat.le_of_ble_eq_true rfl)⟩ dX11_loop_25 (fun b15 => ?_)
    refine x_if_ne hC 33 dX11_loop_28 (by decide) (fun h16 => ?_) (fun h16 => ?_)
    · have hr := (ie_s hr).2 h16
      refine x_aload_n hC dX11_loop_33 rfl 1 rfl ?_
      refine x_bipush hC (41 : Int32) dX11_loop_34 (by decide) ?_
      obtain ⟨M17, q18, hr⟩ := bd1_s hr
      refine x_callV (ci := 5) (q := (RX11, TX11, 32)) (As := [.int (41 : Int32)]) hC (c_X11_put l G M13 hi0 (41 : Int32) q18) kc_yX11_put km_X11_175 ki_yX11_put kv_yX11_put kn_RX11 ky_yX11_put rfl ⟨rfl, rfl⟩ ⟨rn_f (Nat.le_of_ble_eq_true rfl), rn_l (Nat.le_of_ble_eq_true rfl)⟩ hi0 (by decide) rfl rfl (Nat.le_of_ble_eq_true rfl) ⟨(Nat.le_of_ble_eq_true rfl), (Nat.le_of_ble_eq_true rfl)⟩ dX11_loop_36 (fun b19 => ?_)
      refine x_aload_n hC dX11_loop_39 rfl 1 rfl ?_
      refine x_iload_n hC dX11_loop_40 rfl 0 rfl ?_
      obtain ⟨M20, q21, hr⟩ := bd1_s hr
      refine x_callV (ci := 5) (q := (RX11, TX11, 32)) (As := [.int (M i0 11)]) hC (c_X11_put l G M17 hi0 (M i0 11) q21) kc_yX11_put km_X11_175 ki_yX11_put kv_yX11_put kn_RX11 ky_yX11_put rfl ⟨rfl, rfl⟩ ⟨rn_f (Nat.le_of_ble_eq_true rfl), rn_l (Nat.le_of_ble_eq_true rfl)⟩ hi0 (by decide) rfl rfl (Nat.le_of_ble_eq_true rfl) ⟨(Nat.le_of_ble_eq_true rfl), (Nat.le_of_ble_eq_true rfl)⟩ dX11_loop_41 (fun b22 => ?_)
      refine x_aload_n hC dX11_loop_44 rfl 1 rfl ?_
      refine gf_X11_29 hC hi0 dX11_loop_45 ?_
      refine x_iload_n hC dX11_loop_48 rfl 0 rfl ?_
      refine x_iconst hC (1 : Int32) dX11_loop_49 (by decide) ?_
      refine x_iadd hC dX11_loop_50 ?_
      refine x_aload_n hC dX11_loop_51 rfl 1 rfl ?_
      refine gf_X11_146 hC hi0 dX11_loop_52 ?_
      obtain ⟨h23, hr⟩ := it_s hr
      obtain ⟨M24, e25, hr⟩ := lz_s hr
      refine x_iast hC (kr_5_10 hi0) h23 e25 dX11_loop_55 ?_
      refine x_iconst hC (1 : Int32) dX11_loop_56 (by decide) ?_
      cases hr
      exact x_zret hC rfl (Or.inr rfl) dX11_loop_57
    · have hr := (ie_s hr).1 h16
      refine x_iconst hC (0 : Int32) dX11_loop_31 (by decide) ?_
      cases hr
      exact x_zret hC rfl (Or.inl rfl) dX11_loop_32

theorem dX11_test_0 : decode cX11_test 0 = .ok (.aload_n 0, 1) := by decide +kernel
theorem dX11_test_1 : decode cX11_test 1 = .ok (.invokevirtual 209, 3) := by decide +kernel
theorem dX11_test_4 : decode cX11_test 4 = .ok (.ifCond .ne 5, 3) := by decide +kernel
theorem dX11_test_7 : decode cX11_test 7 = .ok (.iconst 0, 1) := by decide +kernel
theorem dX11_test_8 : decode cX11_test 8 = .ok (.ireturn, 1) := by decide +kernel
theorem dX11_test_9 : decode cX11_test 9 = .ok (.aload_n 0, 1) := by decide +kernel
theorem dX11_test_10 : decode cX11_test 10 = .ok (.bipush 27, 2) := by decide +kernel
theorem dX11_test_12 : decode cX11_test 12 = .ok (.invokevirtual 140, 3) := by decide +kernel
theorem dX11_test_15 : decode cX11_test 15 = .ok (.ifCond .eq 25, 3) := by decide +kernel
theorem dX11_test_18 : decode cX11_test 18 = .ok (.aload_n 0, 1) := by decide +kernel
theorem dX11_test_19 : decode cX11_test 19 = .ok (.invokevirtual 137, 3) := by decide +kernel
theorem dX11_test_22 : decode cX11_test 22 = .ok (.aload_n 0, 1) := by decide +kernel
theorem dX11_test_23 : decode cX11_test 23 = .ok (.invokevirtual 209, 3) := by decide +kernel
theorem dX11_test_26 : decode cX11_test 26 = .ok (.ifCond .ne 5, 3) := by decide +kernel
theorem dX11_test_29 : decode cX11_test 29 = .ok (.iconst 0, 1) := by decide +kernel
theorem dX11_test_30 : decode cX11_test 30 = .ok (.ireturn, 1) := by decide +kernel
theorem dX11_test_31 : decode cX11_test 31 = .ok (.aload_n 0, 1) := by decide +kernel
theorem dX11_test_32 : decode cX11_test 32 = .ok (.bipush 27, 2) := by decide +kernel
theorem dX11_test_34 : decode cX11_test 34 = .ok (.invokevirtual 175, 3) := by decide +kernel
theorem dX11_test_37 : decode cX11_test 37 = .ok (.goto (-28), 3) := by decide +kernel
theorem dX11_test_40 : decode cX11_test 40 = .ok (.iload_n 1, 1) := by decide +kernel
theorem dX11_test_41 : decode cX11_test 41 = .ok (.ifCond .eq 9, 3) := by decide +kernel
theorem dX11_test_44 : decode cX11_test 44 = .ok (.aload_n 0, 1) := by decide +kernel
theorem dX11_test_45 : decode cX11_test 45 = .ok (.bipush 61, 2) := by decide +kernel
theorem dX11_test_47 : decode cX11_test 47 = .ok (.invokevirtual 175, 3) := by decide +kernel
theorem dX11_test_50 : decode cX11_test 50 = .ok (.iconst 1, 1) := by decide +kernel
theorem dX11_test_51 : decode cX11_test 51 = .ok (.ireturn, 1) := by decide +kernel
def f_X11_test_L9 (rec : Nat → Nat → Int32 → Mm → Option (Int32 × Mm)) (i0 : Nat) (a1 : Int32) : Nat → Mm → Option (Int32 × Mm)
  | 0, _ => none
  | n + 1, M =>
    lz (f_X11_reads i0 (27 : Int32) M) fun x6 => if (x6 = 0) then (if (a1 = 0) then (some ((1 : Int32), M)) else (bd1 (f_X11_put i0 (61 : Int32) M) fun M11 => some ((1 : Int32), M11))) else (bd1 (f_X11_advance i0 M) fun M14 => bd2 (rec 6 i0 0 M14) fun x17 M18 => if (x17 = 0) then (some ((0 : Int32), M18)) else (bd1 (f_X11_put i0 (27 : Int32) M18) fun M22 => f_X11_test_L9 rec i0 a1 n M22))
def f_X11_test (rec : Nat → Nat → Int32 → Mm → Option (Int32 × Mm)) (i0 : Nat) (a1 : Int32) (M : Mm) : Option (Int32 × Mm) :=
  bd2 (rec 6 i0 0 M) fun x1 M2 => if (x1 = 0) then (some ((0 : Int32), M2)) else ((f_X11_test_L9 rec i0 a1 FU M2))
set_option maxHeartbeats 4000000 in
set_option maxRecDepth 100000 in
theorem l_X11_test_L9 {p : Program} {e : Env} {s : State} {m : MethodId} {args : Array Value} {below : List Frame} {meth : Method} {c : Code} {l : Launch} {G : GG} (hC : CX p s m args meth c cX11_test 2 RX11 (some .boolean) G) (rec : Nat → Nat → Int32 → Mm → Option (Int32 × Mm)) {nr : Nat} (hrec : OK_P11 l G rec (RMn nr)) {i0 : Nat} (hi0 : (kd i0).1 = 5) (a1 : Int32) : ∀ (n : Nat) (M : Mm) {r : Int32} {M9 : Mm} (hr : f_X11_test_L9 rec i0 a1 n M = some (r, M9)), XJ p l e (RMn (nr + 1)) s m args below meth c G 2 (MQ below (QO G M9 true (some (.int r)) s.heap.size) args s 0 0 (AF G s.heap.size)) 0 0 M 9 [(0, .ref (G.2.1 i0)), (1, .int a1)] [] := by
  intro n
  induction n with
  | zero => intro M r M9 hr; rw [f_X11_test_L9] at hr; cases hr
  | succ n ih =>
    intro M r M9 hr
    rw [f_X11_test_L9] at hr
    refine x_aload_n hC dX11_test_9 rfl 0 rfl ?_
    refine x_bipush hC (27 : Int32) dX11_test_10 (by decide) ?_
    obtain ⟨x6, e7, hr⟩ := lz_s hr
    refine x_callV (ci := 5) (q := (RX11, TX11, 32)) (As := [.int (27 : Int32)]) hC (c_X11_reads l G M hi0 (27 : Int32) e7.symm) kc_yX11_reads km_X11_140 ki_yX11_reads kv_yX11_reads kn_RX11 ky_yX11_reads rfl ⟨rfl, rfl⟩ ⟨rn_f (Nat.le_of_ble_eq_true rfl), rn_l (Nat.le_of_ble_eq_true rfl)⟩ hi0 (by decide) rfl rfl (Nat.le_of_ble_eq_true rfl) ⟨(Nat.le_of_ble_eq_true rfl), (Nat.le_of_ble_eq_true rfl)⟩ dX11_test_12 (fun b8 => ?_)
    refine x_if_eq hC 40 dX11_test_15 (by decide) (fun h9 => ?_) (fun h9 => ?_)
    · have hr := (ie_s hr).1 h9
      refine x_iload_n hC dX11_test_40 rfl 1 rfl ?_
      refine x_if_eq hC 50 dX11_test_41 (by decide) (fun h10 => ?_) (fun h10 => ?_)
      · have hr := (ie_s hr).1 h10
        refine x_iconst hC (1 : Int32) dX11_test_50 (by decide) ?_
        cases hr
        exact x_zret hC rfl (Or.inr rfl) dX11_test_51
      · have hr := (ie_s hr).2 h10
        refine x_aload_n hC dX11_test_44 rfl 0 rfl ?_
        refine x_bipush hC (61 : Int32) dX11_test_45 (by decide) ?_
        obtain ⟨M11, q12, hr⟩ := bd1_s hr
        refine x_callV (ci := 5) (q := (RX11, TX11, 32)) (As := [.int (61 : Int32)]) hC (c_X11_put l G M hi0 (61 : Int32) q12) kc_yX11_put km_X11_175 ki_yX11_put kv_yX11_put kn_RX11 ky_yX11_put rfl ⟨rfl, rfl⟩ ⟨rn_f (Nat.le_of_ble_eq_true rfl), rn_l (Nat.le_of_ble_eq_true rfl)⟩ hi0 (by decide) rfl rfl (Nat.le_of_ble_eq_true rfl) ⟨(Nat.le_of_ble_eq_true rfl), (Nat.le_of_ble_eq_true rfl)⟩ dX11_test_47 (fun b13 => ?_)
        refine x_iconst hC (1 : Int32) dX11_test_50 (by decide) ?_
        cases hr
        exact x_zret hC rfl (Or.inr rfl) dX11_test_51
    · have hr := (ie_s hr).2 h9
      refine x_aload_n hC dX11_test_18 rfl 0 rfl ?_
      obtain ⟨M14, q15, hr⟩ := bd1_s hr
      refine x_callV (ci := 5) (q := (RX11, TX11, 32)) (As := []) hC (c_X11_advance l G M hi0 q15) kc_yX11_advance km_X11_137 ki_yX11_advance kv_yX11_advance kn_RX11 ky_yX11_advance rfl ⟨rfl, rfl⟩ ⟨rn_f (Nat.le_of_ble_eq_true rfl), rn_l (Nat.le_of_ble_eq_true rfl)⟩ hi0 (by decide) rfl rfl (Nat.le_of_ble_eq_true rfl) ⟨(Nat.le_of_ble_eq_true rfl), (Nat.le_of_ble_eq_true rfl)⟩ dX11_test_19 (fun b16 => ?_)
      refine x_aload_n hC dX11_test_22 rfl 0 rfl ?_
      obtain ⟨x17, M18, q19, hr⟩ := bd2_s hr
      refine x_callV (ci := 5) (q := (RX11, TX11, 32)) (As := []) hC (hrec.2.2.2.2.2.2.1 hi0 0 q19) kc_yX11_both km_X11_209 ki_yX11_both kv_yX11_both kn_RX11 ky_yX11_both rfl ⟨rfl, rfl⟩ ⟨rn_gf, rn_gl (Nat.le_of_ble_eq_true rfl)⟩ hi0 (by decide) rfl rfl (Nat.le_of_ble_eq_true rfl) ⟨(Nat.le_of_ble_eq_true rfl), (Nat.le_of_ble_eq_true rfl)⟩ dX11_test_23 (fun b20 => ?_)
      refine x_if_ne hC 31 dX11_test_26 (by decide) (fun h21 => ?_) (fun h21 => ?_)
      · have hr := (ie_s hr).2 h21
        refine x_aload_n hC dX11_test_31 rfl 0 rfl ?_
        refine x_bipush hC (27 : Int32) dX11_test_32 (by decide) ?_
        obtain ⟨M22, q23, hr⟩ := bd1_s hr
        refine x_callV (ci := 5) (q := (RX11, TX11, 32)) (As := [.int (27 : Int32)]) hC (c_X11_put l G M18 hi0 (27 : Int32) q23) kc_yX11_put km_X11_175 ki_yX11_put kv_yX11_put kn_RX11 ky_yX11_put rfl ⟨rfl, rfl⟩ ⟨rn_f (Nat.le_of_ble_eq_true rfl), rn_l (Nat.le_of_ble_eq_true rfl)⟩ hi0 (by decide) rfl rfl (Nat.le_of_ble_eq_true rfl) ⟨(Nat.le_of_ble_eq_true rfl), (Nat.le_of_ble_eq_true rfl)⟩ dX11_test_34 (fun b24 => ?_)
        refine x_goto hC 9 dX11_test_37 (by decide) ?_
        exact x_sub [0, 1] rfl (ih M22 hr)
      · have hr := (ie_s hr).1 h21
        refine x_iconst hC (0 : Int32) dX11_test_29 (by decide) ?_
        cases hr
        exact x_zret hC rfl (Or.inl rfl) dX11_test_30
set_option maxHeartbeats 4000000 in
set_option maxRecDepth 100000 in
theorem c_X11_test (l : Launch) (G : GG) (M : Mm) (rec : Nat → Nat → Int32 → Mm → Option (Int32 × Mm)) {nr : Nat} (hrec : OK_P11 l G rec (RMn nr)) {i0 : Nat} (hi0 : (kd i0).1 = 5) (a1 : Int32) {r : Int32} {M9 : Mm} (hr : f_X11_test rec i0 a1 M = some (r, M9)) : Mo true l yX11_test (WS yX11_test cX11_test 2 (some .boolean)) (RMn (nr + 1)) 0 0 [.ref (G.2.1 i0), .int a1] G M (some (.int r)) M9 := by
  refine Mo.of (by decide +kernel) (Nat.le_of_ble_eq_true rfl) ?_
  intro p e s m args below meth c hC
  have hC : CX p s m args meth c cX11_test 2 RX11 (some .boolean) G := hC
  rw [f_X11_test] at hr
  show XJ p l e (RMn (nr + 1)) s m args below meth c G 2 _ 0 0 M 0 [(0, .ref (G.2.1 i0)), (1, .int a1)] []
  refine x_aload_n hC dX11_test_0 rfl 0 rfl ?_
  obtain ⟨x1, M2, q3, hr⟩ := bd2_s hr
  refine x_callV (ci := 5) (q := (RX11, TX11, 32)) (As := []) hC (hrec.2.2.2.2.2.2.1 hi0 0 q3) kc_yX11_both km_X11_209 ki_yX11_both kv_yX11_both kn_RX11 ky_yX11_both rfl ⟨rfl, rfl⟩ ⟨rn_gf, rn_gl (Nat.le_of_ble_eq_true rfl)⟩ hi0 (by decide) rfl rfl (Nat.le_of_ble_eq_true rfl) ⟨(Nat.le_of_ble_eq_true rfl), (Nat.le_of_ble_eq_true rfl)⟩ dX11_test_1 (fun b4 => ?_)
  refine x_if_ne hC 9 dX11_test_4 (by decide) (fun h5 => ?_) (fun h5 => ?_)
  · have hr := (ie_s hr).2 h5
    exact x_sub [0, 1] rfl (l_X11_test_L9 hC rec hrec hi0 a1 FU M2 hr)
  · have hr := (ie_s hr).1 h5
    refine x_iconst hC (0 : Int32) dX11_test_7 (by decide) ?_
    cases hr
    exact x_zret hC rfl (Or.inl rfl) dX11_test_8

theorem dX11_both_0 : decode cX11_both 0 = .ok (.aload_n 0, 1) := by decide +kernel
theorem dX11_both_1 : decode cX11_both 1 = .ok (.invokevirtual 212, 3) := by decide +kernel
theorem dX11_both_4 : decode cX11_both 4 = .ok (.ifCond .ne 5, 3) := by decide +kernel
theorem dX11_both_7 : decode cX11_both 7 = .ok (.iconst 0, 1) := by decide +kernel
theorem dX11_both_8 : decode cX11_both 8 = .ok (.ireturn, 1) := by decide +kernel
theorem dX11_both_9 : decode cX11_both 9 = .ok (.aload_n 0, 1) := by decide +kernel
theorem dX11_both_10 : decode cX11_both 10 = .ok (.bipush 26, 2) := by decide +kernel
theorem dX11_both_12 : decode cX11_both 12 = .ok (.invokevirtual 140, 3) := by decide +kernel
theorem dX11_both_15 : decode cX11_both 15 = .ok (.ifCond .eq 25, 3) := by decide +kernel
theorem dX11_both_18 : decode cX11_both 18 = .ok (.aload_n 0, 1) := by decide +kernel
theorem dX11_both_19 : decode cX11_both 19 = .ok (.invokevirtual 137, 3) := by decide +kernel
theorem dX11_both_22 : decode cX11_both 22 = .ok (.aload_n 0, 1) := by decide +kernel
theorem dX11_both_23 : decode cX11_both 23 = .ok (.invokevirtual 212, 3) := by decide +kernel
theorem dX11_both_26 : decode cX11_both 26 = .ok (.ifCond .ne 5, 3) := by decide +kernel
theorem dX11_both_29 : decode cX11_both 29 = .ok (.iconst 0, 1) := by decide +kernel
theorem dX11_both_30 : decode cX11_both 30 = .ok (.ireturn, 1) := by decide +kernel
theorem dX11_both_31 : decode cX11_both 31 = .ok (.aload_n 0, 1) := by decide +kernel
theorem dX11_both_32 : decode cX11_both 32 = .ok (.bipush 26, 2) := by decide +kernel
theorem dX11_both_34 : decode cX11_both 34 = .ok (.invokevirtual 175, 3) := by decide +kernel
theorem dX11_both_37 : decode cX11_both 37 = .ok (.goto (-28), 3) := by decide +kernel
theorem dX11_both_40 : decode cX11_both 40 = .ok (.iconst 1, 1) := by decide +kernel
theorem dX11_both_41 : decode cX11_both 41 = .ok (.ireturn, 1) := by decide +kernel
def f_X11_both_L9 (rec : Nat → Nat → Int32 → Mm → Option (Int32 × Mm)) (i0 : Nat) : Nat → Mm → Option (Int32 × Mm)
  | 0, _ => none
  | n + 1, M =>
    lz (f_X11_reads i0 (26 : Int32) M) fun x6 => if (x6 = 0) then (some ((1 : Int32), M)) else (bd1 (f_X11_advance i0 M) fun M10 => bd2 (rec 7 i0 0 M10) fun x13 M14 => if (x13 = 0) then (some ((0 : Int32), M14)) else (bd1 (f_X11_put i0 (26 : Int32) M14) fun M18 => f_X11_both_L9 rec i0 n M18))
def f_X11_both (rec : Nat → Nat → Int32 → Mm → Option (Int32 × Mm)) (i0 : Nat) (M : Mm) : Option (Int32 × Mm) :=
  bd2 (rec 7 i0 0 M) fun x1 M2 => if (x1 = 0) then (some ((0 : Int32), M2)) else ((f_X11_both_L9 rec i0 FU M2))
set_option maxHeartbeats 4000000 in
set_option maxRecDepth 100000 in
theorem l_X11_both_L9 {p : Program} {e : Env} {s : State} {m : MethodId} {args : Array Value} {below : List Frame} {meth : Method} {c : Code} {l : Launch} {G : GG} (hC : CX p s m args meth c cX11_both 1 RX11 (some .boolean) G) (rec : Nat → Nat → Int32 → Mm → Option (Int32 × Mm)) {nr : Nat} (hrec : OK_P11 l G rec (RMn nr)) {i0 : Nat} (hi0 : (kd i0).1 = 5) : ∀ (n : Nat) (M : Mm) {r : Int32} {M9 : Mm} (hr : f_X11_both_L9 rec i0 n M = some (r, M9)), XJ p l e (RMn (nr + 1)) s m args below meth c G 1 (MQ below (QO G M9 true (some (.int r)) s.heap.size) args s 0 0 (AF G s.heap.size)) 0 0 M 9 [(0, .ref (G.2.1 i0))] [] := by
  intro n
  induction n with
  | zero => intro M r M9 hr; rw [f_X11_both_L9] at hr; cases hr
  | succ n ih =>
    intro M r M9 hr
    rw [f_X11_both_L9] at hr
    refine x_aload_n hC dX11_both_9 rfl 0 rfl ?_
    refine x_bipush hC (26 : Int32) dX11_both_10 (by decide) ?_
    obtain ⟨x6, e7, hr⟩ := lz_s hr
    refine x_callV (ci := 5) (q := (RX11, TX11, 32)) (As := [.int (26 : Int32)]) hC (c_X11_reads l G M hi0 (26 : Int32) e7.symm) kc_yX11_reads km_X11_140 ki_yX11_reads kv_yX11_reads kn_RX11 ky_yX11_reads rfl ⟨rfl, rfl⟩ ⟨rn_f (Nat.le_of_ble_eq_true rfl), rn_l (Nat.le_of_ble_eq_true rfl)⟩ hi0 (by decide) rfl rfl (Nat.le_of_ble_eq_true rfl) ⟨(Nat.le_of_ble_eq_true rfl), (Nat.le_of_ble_eq_true rfl)⟩ dX11_both_12 (fun b8 => ?_)
    refine x_if_eq hC 40 dX11_both_15 (by decide) (fun h9 => ?_) (fun h9 => ?_)
    · have hr := (ie_s hr).1 h9
      refine x_iconst hC (1 : Int32) dX11_both_40 (by decide) ?_
      cases hr
      exact x_zret hC rfl (Or.inr rfl) dX11_both_41
    · have hr := (ie_s hr).2 h9
      refine x_aload_n hC dX11_both_18 rfl 0 rfl ?_
      obtain ⟨M10, q11, hr⟩ := bd1_s hr
      refine x_callV (ci := 5) (q := (RX11, TX11, 32)) (As := []) hC (c_X11_advance l G M hi0 q11) kc_yX11_advance km_X11_137 ki_yX11_advance kv_yX11_advance kn_RX11 ky_yX11_advance rfl ⟨rfl, rfl⟩ ⟨rn_f (Nat.le_of_ble_eq_true rfl), rn_l (Nat.le_of_ble_eq_true rfl)⟩ hi0 (by decide) rfl rfl (Nat.le_of_ble_eq_true rfl) ⟨(Nat.le_of_ble_eq_true rfl), (Nat.le_of_ble_eq_true rfl)⟩ dX11_both_19 (fun b12 => ?_)
      refine x_aload_n hC dX11_both_22 rfl 0 rfl ?_
      obtain ⟨x13, M14, q15, hr⟩ := bd2_s hr
      refine x_callV (ci := 5) (q := (RX11, TX11, 32)) (As := []) hC (hrec.2.2.2.2.2.2.2.1 hi0 0 q15) kc_yX11_single km_X11_212 ki_yX11_single kv_yX11_single kn_RX11 ky_yX11_single rfl ⟨rfl, rfl⟩ ⟨rn_gf, rn_gl (Nat.le_of_ble_eq_true rfl)⟩ hi0 (by decide) rfl rfl (Nat.le_of_ble_eq_true rfl) ⟨(Nat.le_of_ble_eq_true rfl), (Nat.le_of_ble_eq_true rfl)⟩ dX11_both_23 (fun b16 => ?_)
      refine x_if_ne hC 31 dX11_both_26 (by decide) (fun h17 => ?_) (fun h17 => ?_)
      · have hr := (ie_s hr).2 h17
        refine x_aload_n hC dX11_both_31 rfl 0 rfl ?_
        refine x_bipush hC (26 : Int32) dX11_both_32 (by decide) ?_
        obtain ⟨M18, q19, hr⟩ := bd1_s hr
        refine x_callV (ci := 5) (q := (RX11, TX11, 32)) (As := [.int (26 : Int32)]) hC (c_X11_put l G M14 hi0 (26 : Int32) q19) kc_yX11_put km_X11_175 ki_yX11_put kv_yX11_put kn_RX11 ky_yX11_put rfl ⟨rfl, rfl⟩ ⟨rn_f (Nat.le_of_ble_eq_true rfl), rn_l (Nat.le_of_ble_eq_true rfl)⟩ hi0 (by decide) rfl rfl (Nat.le_of_ble_eq_true rfl) ⟨(Nat.le_of_ble_eq_true rfl), (Nat.le_of_ble_eq_true rfl)⟩ dX11_both_34 (fun b20 => ?_)
        refine x_goto hC 9 dX11_both_37 (by decide) ?_
        exact x_sub [0] rfl (ih M18 hr)
      · have hr := (ie_s hr).1 h17
        refine x_iconst hC (0 : Int32) dX11_both_29 (by decide) ?_
        cases hr
        exact x_zret hC rfl (Or.inl rfl) dX11_both_30
set_option maxHeartbeats 4000000 in
set_option maxRecDepth 100000 in
theorem c_X11_both (l : Launch) (G : GG) (M : Mm) (rec : Nat → Nat → Int32 → Mm → Option (Int32 × Mm)) {nr : Nat} (hrec : OK_P11 l G rec (RMn nr)) {i0 : Nat} (hi0 : (kd i0).1 = 5) {r : Int32} {M9 : Mm} (hr : f_X11_both rec i0 M = some (r, M9)) : Mo true l yX11_both (WS yX11_both cX11_both 1 (some .boolean)) (RMn (nr + 1)) 0 0 [.ref (G.2.1 i0)] G M (some (.int r)) M9 := by
  refine Mo.of (by decide +kernel) (Nat.le_of_ble_eq_true rfl) ?_
  intro p e s m args below meth c hC
  have hC : CX p s m args meth c cX11_both 1 RX11 (some .boolean) G := hC
  rw [f_X11_both] at hr
  show XJ p l e (RMn (nr + 1)) s m args below meth c G 1 _ 0 0 M 0 [(0, .ref (G.2.1 i0))] []
  refine x_aload_n hC dX11_both_0 rfl 0 rfl ?_
  obtain ⟨x1, M2, q3, hr⟩ := bd2_s hr
  refine x_callV (ci := 5) (q := (RX11, TX11, 32)) (As := []) hC (hrec.2.2.2.2.2.2.2.1 hi0 0 q3) kc_yX11_single km_X11_212 ki_yX11_single kv_yX11_single kn_RX11 ky_yX11_single rfl ⟨rfl, rfl⟩ ⟨rn_gf, rn_gl (Nat.le_of_ble_eq_true rfl)⟩ hi0 (by decide) rfl rfl (Nat.le_of_ble_eq_true rfl) ⟨(Nat.le_of_ble_eq_true rfl), (Nat.le_of_ble_eq_true rfl)⟩ dX11_both_1 (fun b4 => ?_)
  refine x_if_ne hC 9 dX11_both_4 (by decide) (fun h5 => ?_) (fun h5 => ?_)
  · have hr := (ie_s hr).2 h5
    exact x_sub [0] rfl (l_X11_both_L9 hC rec hrec hi0 FU M2 hr)
  · have hr := (ie_s hr).1 h5
    refine x_iconst hC (0 : Int32) dX11_both_7 (by decide) ?_
    cases hr
    exact x_zret hC rfl (Or.inl rfl) dX11_both_8

theorem dX11_single_0 : decode cX11_single 0 = .ok (.aload_n 0, 1) := by decide +kernel
theorem dX11_single_1 : decode cX11_single 1 = .ok (.bipush 25, 2) := by decide +kernel
theorem dX11_single_3 : decode cX11_single 3 = .ok (.invokevirtual 140, 3) := by decide +kernel
theorem dX11_single_6 : decode cX11_single 6 = .ok (.ifCond .eq 37, 3) := by decide +kernel
theorem dX11_single_9 : decode cX11_single 9 = .ok (.aload_n 0, 1) := by decide +kernel
theorem dX11_single_10 : decode cX11_single 10 = .ok (.invokevirtual 178, 3) := by decide +kernel
theorem dX11_single_13 : decode cX11_single 13 = .ok (.ifCond .eq 10, 3) := by decide +kernel
theorem dX11_single_16 : decode cX11_single 16 = .ok (.aload_n 0, 1) := by decide +kernel
theorem dX11_single_17 : decode cX11_single 17 = .ok (.invokevirtual 212, 3) := by decide +kernel
theorem dX11_single_20 : decode cX11_single 20 = .ok (.ifCond .ne 5, 3) := by decide +kernel
theorem dX11_single_23 : decode cX11_single 23 = .ok (.iconst 0, 1) := by decide +kernel
theorem dX11_single_24 : decode cX11_single 24 = .ok (.ireturn, 1) := by decide +kernel
theorem dX11_single_25 : decode cX11_single 25 = .ok (.aload_n 0, 1) := by decide +kernel
theorem dX11_single_26 : decode cX11_single 26 = .ok (.dup, 1) := by decide +kernel
theorem dX11_single_27 : decode cX11_single 27 = .ok (.getfield 143, 3) := by decide +kernel
theorem dX11_single_30 : decode cX11_single 30 = .ok (.iconst 1, 1) := by decide +kernel
theorem dX11_single_31 : decode cX11_single 31 = .ok (.isub, 1) := by decide +kernel
theorem dX11_single_32 : decode cX11_single 32 = .ok (.putfield 143, 3) := by decide +kernel
theorem dX11_single_35 : decode cX11_single 35 = .ok (.aload_n 0, 1) := by decide +kernel
theorem dX11_single_36 : decode cX11_single 36 = .ok (.bipush 25, 2) := by decide +kernel
theorem dX11_single_38 : decode cX11_single 38 = .ok (.invokevirtual 175, 3) := by decide +kernel
theorem dX11_single_41 : decode cX11_single 41 = .ok (.iconst 1, 1) := by decide +kernel
theorem dX11_single_42 : decode cX11_single 42 = .ok (.ireturn, 1) := by decide +kernel
theorem dX11_single_43 : decode cX11_single 43 = .ok (.aload_n 0, 1) := by decide +kernel
theorem dX11_single_44 : decode cX11_single 44 = .ok (.bipush 91, 2) := by decide +kernel
theorem dX11_single_46 : decode cX11_single 46 = .ok (.invokevirtual 134, 3) := by decide +kernel
theorem dX11_single_49 : decode cX11_single 49 = .ok (.ifCond .eq 33, 3) := by decide +kernel
theorem dX11_single_52 : decode cX11_single 52 = .ok (.aload_n 0, 1) := by decide +kernel
theorem dX11_single_53 : decode cX11_single 53 = .ok (.invokevirtual 178, 3) := by decide +kernel
theorem dX11_single_56 : decode cX11_single 56 = .ok (.ifCond .eq 24, 3) := by decide +kernel
theorem dX11_single_59 : decode cX11_single 59 = .ok (.aload_n 0, 1) := by decide +kernel
theorem dX11_single_60 : decode cX11_single 60 = .ok (.iconst 0, 1) := by decide +kernel
theorem dX11_single_61 : decode cX11_single 61 = .ok (.invokevirtual 203, 3) := by decide +kernel
theorem dX11_single_64 : decode cX11_single 64 = .ok (.ifCond .eq 16, 3) := by decide +kernel
theorem dX11_single_67 : decode cX11_single 67 = .ok (.aload_n 0, 1) := by decide +kernel
theorem dX11_single_68 : decode cX11_single 68 = .ok (.bipush 93, 2) := by decide +kernel
theorem dX11_single_70 : decode cX11_single 70 = .ok (.invokevirtual 184, 3) := by decide +kernel
theorem dX11_single_73 : decode cX11_single 73 = .ok (.ifCond .eq 7, 3) := by decide +kernel
theorem dX11_single_76 : decode cX11_single 76 = .ok (.iconst 1, 1) := by decide +kernel
theorem dX11_single_77 : decode cX11_single 77 = .ok (.goto 4, 3) := by decide +kernel
theorem dX11_single_80 : decode cX11_single 80 = .ok (.iconst 0, 1) := by decide +kernel
theorem dX11_single_81 : decode cX11_single 81 = .ok (.ireturn, 1) := by decide +kernel
theorem dX11_single_82 : decode cX11_single 82 = .ok (.aload_n 0, 1) := by decide +kernel
theorem dX11_single_83 : decode cX11_single 83 = .ok (.iconst 0, 1) := by decide +kernel
theorem dX11_single_84 : decode cX11_single 84 = .ok (.invokevirtual 187, 3) := by decide +kernel
theorem dX11_single_87 : decode cX11_single 87 = .ok (.ifCond .ne 5, 3) := by decide +kernel
theorem dX11_single_90 : decode cX11_single 90 = .ok (.iconst 0, 1) := by decide +kernel
theorem dX11_single_91 : decode cX11_single 91 = .ok (.ireturn, 1) := by decide +kernel
theorem dX11_single_92 : decode cX11_single 92 = .ok (.aload_n 0, 1) := by decide +kernel
theorem dX11_single_93 : decode cX11_single 93 = .ok (.getfield 92, 3) := by decide +kernel
theorem dX11_single_96 : decode cX11_single 96 = .ok (.iconst 4, 1) := by decide +kernel
theorem dX11_single_97 : decode cX11_single 97 = .ok (.if_icmp .eq 7, 3) := by decide +kernel
theorem dX11_single_100 : decode cX11_single 100 = .ok (.iconst (-1), 1) := by decide +kernel
theorem dX11_single_101 : decode cX11_single 101 = .ok (.goto 76, 3) := by decide +kernel
theorem dX11_single_104 : decode cX11_single 104 = .ok (.aload_n 0, 1) := by decide +kernel
theorem dX11_single_105 : decode cX11_single 105 = .ok (.getfield 89, 3) := by decide +kernel
theorem dX11_single_108 : decode cX11_single 108 = .ok (.bipush 60, 2) := by decide +kernel
theorem dX11_single_110 : decode cX11_single 110 = .ok (.if_icmp .ne 8, 3) := by decide +kernel
theorem dX11_single_113 : decode cX11_single 113 = .ok (.bipush 56, 2) := by decide +kernel
theorem dX11_single_115 : decode cX11_single 115 = .ok (.goto 62, 3) := by decide +kernel
theorem dX11_single_118 : decode cX11_single 118 = .ok (.aload_n 0, 1) := by decide +kernel
theorem dX11_single_119 : decode cX11_single 119 = .ok (.getfield 89, 3) := by decide +kernel
theorem dX11_single_122 : decode cX11_single 122 = .ok (.bipush 62, 2) := by decide +kernel
theorem dX11_single_124 : decode cX11_single 124 = .ok (.if_icmp .ne 8, 3) := by decide +kernel
theorem dX11_single_127 : decode cX11_single 127 = .ok (.bipush 57, 2) := by decide +kernel
theorem dX11_single_129 : decode cX11_single 129 = .ok (.goto 48, 3) := by decide +kernel
theorem dX11_single_132 : decode cX11_single 132 = .ok (.aload_n 0, 1) := by decide +kernel
theorem dX11_single_133 : decode cX11_single 133 = .ok (.getfield 89, 3) := by decide +kernel
theorem dX11_single_136 : decode cX11_single 136 = .ok (.bipush 61, 2) := by decide +kernel
theorem dX11_single_138 : decode cX11_single 138 = .ok (.if_icmp .ne 8, 3) := by decide +kernel
theorem dX11_single_141 : decode cX11_single 141 = .ok (.bipush 58, 2) := by decide +kernel
theorem dX11_single_143 : decode cX11_single 143 = .ok (.goto 34, 3) := by decide +kernel
theorem dX11_single_146 : decode cX11_single 146 = .ok (.aload_n 0, 1) := by decide +kernel
theorem dX11_single_147 : decode cX11_single 147 = .ok (.getfield 89, 3) := by decide +kernel
theorem dX11_single_150 : decode cX11_single 150 = .ok (.sipush 256, 3) := by decide +kernel
theorem dX11_single_153 : decode cX11_single 153 = .ok (.if_icmp .ne 8, 3) := by decide +kernel
theorem dX11_single_156 : decode cX11_single 156 = .ok (.bipush 59, 2) := by decide +kernel
theorem dX11_single_158 : decode cX11_single 158 = .ok (.goto 19, 3) := by decide +kernel
theorem dX11_single_161 : decode cX11_single 161 = .ok (.aload_n 0, 1) := by decide +kernel
theorem dX11_single_162 : decode cX11_single 162 = .ok (.getfield 89, 3) := by decide +kernel
theorem dX11_single_165 : decode cX11_single 165 = .ok (.sipush 257, 3) := by decide +kernel
theorem dX11_single_168 : decode cX11_single 168 = .ok (.if_icmp .ne 8, 3) := by decide +kernel
theorem dX11_single_171 : decode cX11_single 171 = .ok (.bipush 60, 2) := by decide +kernel
theorem dX11_single_173 : decode cX11_single 173 = .ok (.goto 4, 3) := by decide +kernel
theorem dX11_single_176 : decode cX11_single 176 = .ok (.iconst (-1), 1) := by decide +kernel
theorem dX11_single_177 : decode cX11_single 177 = .ok (.istore_n 1, 1) := by decide +kernel
theorem dX11_single_178 : decode cX11_single 178 = .ok (.iload_n 1, 1) := by decide +kernel
theorem dX11_single_179 : decode cX11_single 179 = .ok (.iconst (-1), 1) := by decide +kernel
theorem dX11_single_180 : decode cX11_single 180 = .ok (.if_icmp .ne 5, 3) := by decide +kernel
theorem dX11_single_183 : decode cX11_single 183 = .ok (.iconst 0, 1) := by decide +kernel
theorem dX11_single_184 : decode cX11_single 184 = .ok (.ireturn, 1) := by decide +kernel
theorem dX11_single_185 : decode cX11_single 185 = .ok (.aload_n 0, 1) := by decide +kernel
theorem dX11_single_186 : decode cX11_single 186 = .ok (.invokevirtual 137, 3) := by decide +kernel
theorem dX11_single_189 : decode cX11_single 189 = .ok (.aload_n 0, 1) := by decide +kernel
theorem dX11_single_190 : decode cX11_single 190 = .ok (.iconst 0, 1) := by decide +kernel
theorem dX11_single_191 : decode cX11_single 191 = .ok (.invokevirtual 187, 3) := by decide +kernel
theorem dX11_single_194 : decode cX11_single 194 = .ok (.ifCond .ne 5, 3) := by decide +kernel
theorem dX11_single_197 : decode cX11_single 197 = .ok (.iconst 0, 1) := by decide +kernel
theorem dX11_single_198 : decode cX11_single 198 = .ok (.ireturn, 1) := by decide +kernel
theorem dX11_single_199 : decode cX11_single 199 = .ok (.aload_n 0, 1) := by decide +kernel
theorem dX11_single_200 : decode cX11_single 200 = .ok (.iload_n 1, 1) := by decide +kernel
theorem dX11_single_201 : decode cX11_single 201 = .ok (.invokevirtual 175, 3) := by decide +kernel
theorem dX11_single_204 : decode cX11_single 204 = .ok (.iconst 1, 1) := by decide +kernel
theorem dX11_single_205 : decode cX11_single 205 = .ok (.ireturn, 1) := by decide +kernel

def f_X11_single (rec : Nat → Nat → Int32 → Mm → Option (Int32 × Mm)) (i0 : Nat) (M : Mm) : Option (Int32 × Mm) :=
  lz (f_X11_reads i0 (25 : Int32) M) fun x1 => if (x1 = 0) then (lz (f_X11_sees i0 (91 : Int32) M) fun x5 => if (x5 = 0) then (bd2 (rec 8 i0 (0 : Int32) M) fun x9 M10 => if (x9 = 0) then (some ((0 : Int32), M10)) else (lz (if ((M10 i0 14) = (4 : Int32)) then (if ((M10 i0 16) = (60 : Int32)) then ((56 : Int32)) else (if ((M10 i0 16) = (62 : Int32)) then ((57 : Int32)) else (if ((M10 i0 16) = (61 : Int32)) then ((58 : Int32)) else (if ((M10 i0 16) = (256 : Int32)) then ((59 : Int32)) else (if ((M10 i0 16) = (257 : Int32)) then ((60 : Int32)) else ((-1 : Int32))))))) else ((-1 : Int32))) fun x21 => if (x21 = (-1 : Int32)) then (some ((0 : Int32), M10)) else (bd1 (f_X11_advance i0 M10) fun M24 => bd2 (rec 8 i0 (0 : Int32) M24) fun x27 M28 => if (x27 = 0) then (some ((0 : Int32), M28)) else (bd1 (f_X11_put i0 x21 M28) fun M32 => some ((1 : Int32), M32))))) else (bd2 (f_X11_deeper i0 M) fun x35 M36 => if (x35 = 0) then (some ((0 : Int32), M36)) else (bd2 (rec 5 i0 (0 : Int32) M36) fun x40 M41 => if (x40 = 0) then (some ((0 : Int32), M41)) else (bd2 (f_X11_shallower i0 (93 : Int32) M41) fun x45 M46 => if (x45 = 0) then (some ((0 : Int32), M46)) else (some ((1 : Int32), M46)))))) else (bd2 (f_X11_deeper i0 M) fun x50 M51 => if (x50 = 0) then (some ((0 : Int32), M51)) else (bd2 (rec 7 i0 0 M51) fun x55 M56 => if (x55 = 0) then (some ((0 : Int32), M56)) else (lz (wr M56 i0 17 ((M56 i0 17) - (1 : Int32))) fun M60 => bd1 (f_X11_put i0 (25 : Int32) M60) fun M62 => some ((1 : Int32), M62))))

set_option maxHeartbeats 4000000 in
set_option maxRecDepth 100000 in
theorem c_X11_single (l : Launch) (G : GG) (M : Mm) (rec : Nat → Nat → Int32 → Mm → Option (Int32 × Mm)) {nr : Nat} (hrec : OK_P11 l G rec (RMn nr)) {i0 : Nat} (hi0 : (kd i0).1 = 5) {r : Int32} {M9 : Mm} (hr : f_X11_single rec i0 M = some (r, M9)) : Mo true l yX11_single (WS yX11_single cX11_single 2 (some .boolean)) (RMn (nr + 1)) 0 0 [.ref (G.2.1 i0)] G M (some (.int r)) M9 := by
  refine Mo.of (by decide +kernel) (Nat.le_of_ble_eq_true rfl) ?_
  intro p e s m args below meth c hC
  have hC : CX p s m args meth c cX11_single 2 RX11 (some .boolean) G := hC
  rw [f_X11_single] at hr
  show XJ p l e (RMn (nr + 1)) s m args below meth c G 2 _ 0 0 M 0 [(0, .ref (G.2.1 i0))] []
  refine x_aload_n hC dX11_single_0 rfl 0 rfl ?_
  refine x_bipush hC (25 : Int32) dX11_single_1 (by decide) ?_
  obtain ⟨x1, e2, hr⟩ := lz_s hr
  refine x_callV (ci := 5) (q := (RX11, TX11, 32)) (As := [.int (25 : Int32)]) hC (c_X11_reads l G M hi0 (25 : Int32) e2.symm) kc_yX11_reads km_X11_140 ki_yX11_reads kv_yX11_reads kn_RX11 ky_yX11_reads rfl ⟨rfl, rfl⟩ ⟨rn_f (Nat.le_of_ble_eq_true rfl), rn_l (Nat.le_of_ble_eq_true rfl)⟩ hi0 (by decide) rfl rfl (Nat.le_of_ble_eq_true rfl) ⟨(Nat.le_of_ble_eq_true rfl), (Nat.le_of_ble_eq_true rfl)⟩ dX11_single_3 (fun b3 => ?_)
  refine x_if_eq hC 43 dX11_single_6 (by decide) (fun h4 => ?_) (fun h4 => ?_)
  · have hr := (ie_s hr).1 h4
    refine x_aload_n hC dX11_single_43 rfl 0 rfl ?_
    refine x_bipush hC (91 : Int32) dX11_single_44 (by decide) ?_
    obtain ⟨x5, e6, hr⟩ := lz_s hr
    refine x_callV (ci := 5) (q := (RX11, TX11, 32)) (As := [.int (91 : Int32)]) hC (c_X11_sees l G M hi0 (91 : Int32) e6.symm) kc_yX11_sees km_X11_134 ki_yX11_sees kv_yX11_sees kn_RX11 ky_yX11_sees rfl ⟨rfl, rfl⟩ ⟨rn_f (Nat.le_of_ble_eq_true rfl), rn_l (Nat.le_of_ble_eq_true rfl)⟩ hi0 (by decide) rfl rfl (Nat.le_of_ble_eq_true rfl) ⟨(Nat.le_of_ble_eq_true rfl), (Nat.le_of_ble_eq_true rfl)⟩ dX11_single_46 (fun b7 => ?_)
    refine x_if_eq hC 82 dX11_single_49 (by decide) (fun h8 => ?_) (fun h8 => ?_)
    · have hr := (ie_s hr).1 h8
      refine x_aload_n hC dX11_single_82 rfl 0 rfl ?_
      refine x_iconst hC (0 : Int32) dX11_single_83 (by decide) ?_
      obtain ⟨x9, M10, q11, hr⟩ := bd2_s hr
      refine x_callV (ci := 5) (q := (RX11, TX11, 32)) (As := [.int (0 : Int32)]) hC (hrec.2.2.2.2.2.2.2.2.1 hi0 (0 : Int32) q11) kc_yX11_sum km_X11_187 ki_yX11_sum kv_yX11_sum kn_RX11 ky_yX11_sum rfl ⟨rfl, rfl⟩ ⟨rn_gf, rn_gl (Nat.le_of_ble_eq_true rfl)⟩ hi0 (by decide) rfl rfl (Nat.le_of_ble_eq_true rfl) ⟨(Nat.le_of_ble_eq_true rfl), (Nat.le_of_ble_eq_true rfl)⟩ dX11_single_84 (fun b12 => ?_)
      refine x_if_ne hC 92 dX11_single_87 (by decide) (fun h13 => ?_) (fun h13 => ?_)
      · have hr := (ie_s hr).2 h13
        refine x_aload_n hC dX11_single_92 rfl 0 rfl ?_
        refine gf_X11_92 hC hi0 dX11_single_93 ?_
        refine x_iconst hC (4 : Int32) dX11_single_96 (by decide) ?_
        obtain ⟨x21, e22, hr⟩ := lz_s hr
        have q14 := e22.symm
        refine x_join (M' := M10) (pc' := 177) (lv' := [(0, .ref (G.2.1 i0))]) (st' := [.int x21]) ?_ ?_
        · refine x_istore_n hC [(1, .int x21), (0, .ref (G.2.1 i0))] dX11_single_177 rfl (Nat.le_of_ble_eq_true rfl) rfl ?_
          refine x_iload_n hC dX11_single_178 rfl 0 rfl ?_
          refine x_iconst hC (-1 : Int32) dX11_single_179 (by decide) ?_
          refine x_icmp_ne hC 185 dX11_single_180 (by decide) (fun h23 => ?_) (fun h23 => ?_)
          · have hr := (ie_s hr).2 h23
            refine x_aload_n hC dX11_single_185 rfl 1 rfl ?_
            obtain ⟨M24, q25, hr⟩ := bd1_s hr
            refine x_callV (ci := 5) (q := (RX11, TX11, 32)) (As := []) hC (c_X11_advance l G M10 hi0 q25) kc_yX11_advance km_X11_137 ki_yX11_advance kv_yX11_advance kn_RX11 ky_yX11_advance rfl ⟨rfl, rfl⟩ ⟨rn_f (Nat.le_of_ble_eq_true rfl), rn_l (Nat.le_of_ble_eq_true rfl)⟩ hi0 (by decide) rfl rfl (Nat.le_of_ble_eq_true rfl) ⟨(Nat.le_of_ble_eq_true rfl), (Nat.le_of_ble_eq_true rfl)⟩ dX11_single_186 (fun b26 => ?_)
            refine x_aload_n hC dX11_single_189 rfl 1 rfl ?_
            refine x_iconst hC (0 : Int32) dX11_single_190 (by decide) ?_
            obtain ⟨x27, M28, q29, hr⟩ := bd2_s hr
            refine x_callV (ci := 5) (q := (RX11, TX11, 32)) (As := [.int (0 : Int32)]) hC (hrec.2.2.2.2.2.2.2.2.1 hi0 (0 : Int32) q29) kc_yX11_sum km_X11_187 ki_yX11_sum kv_yX11_sum kn_RX11 ky_yX11_sum rfl ⟨rfl, rfl⟩ ⟨rn_gf, rn_gl (Nat.le_of_ble_eq_true rfl)⟩ hi0 (by decide) rfl rfl (Nat.le_of_ble_eq_true rfl) ⟨(Nat.le_of_ble_eq_true rfl), (Nat.le_of_ble_eq_true rfl)⟩ dX11_single_191 (fun b30 => ?_)
            refine x_if_ne hC 199 dX11_single_194 (by decide) (fun h31 => ?_) (fun h31 => ?_)
            · have hr := (ie_s hr).2 h31
              refine x_aload_n hC dX11_single_199 rfl 1 rfl ?_
              refine x_iload_n hC dX11_single_200 rfl 0 rfl ?_
              obtain ⟨M32, q33, hr⟩ := bd1_s hr
              refine x_callV (ci := 5) (q := (RX11, TX11, 32)) (As := [.int x21]) hC (c_X11_put l G M28 hi0 x21 q33) kc_yX11_put km_X11_175 ki_yX11_put kv_yX11_put kn_RX11 ky_yX11_put rfl ⟨rfl, rfl⟩ ⟨rn_f (Nat.le_of_ble_eq_true rfl), rn_l (Nat.le_of_ble_eq_true rfl)⟩ hi0 (by decide) rfl rfl (Nat.le_of_ble_eq_true rfl) ⟨(Nat.le_of_ble_eq_true rfl), (Nat.le_of_ble_eq_true rfl)⟩ dX11_single_201 (fun b34 => ?_)
              refine x_iconst hC (1 : Int32) dX11_single_204 (by decide) ?_
              cases hr
              exact x_zret hC rfl (Or.inr rfl) dX11_single_205
            · have hr := (ie_s hr).1 h31
              refine x_iconst hC (0 : Int32) dX11_single_197 (by decide) ?_
              cases hr
              exact x_zret hC rfl (Or.inl rfl) dX11_single_198
          · have hr := (ie_s hr).1 h23
            refine x_iconst hC (0 : Int32) dX11_single_183 (by decide) ?_
            cases hr
            exact x_zret hC rfl (Or.inl rfl) dX11_single_184
        · intro kj
          refine x_icmp_eq hC 104 dX11_single_97 (by decide) (fun h15 => ?_) (fun h15 => ?_)
          · have q14 := (ie_s q14).1 h15
            refine x_aload_n hC dX11_single_104 rfl 0 rfl ?_
            refine gf_X11_89 hC hi0 dX11_single_105 ?_
            refine x_bipush hC (60 : Int32) dX11_single_108 (by decide) ?_
            refine x_icmp_ne hC 118 dX11_single_110 (by decide) (fun h16 => ?_) (fun h16 => ?_)
            · have q14 := (ie_s q14).2 h16
              refine x_aload_n hC dX11_single_118 rfl 0 rfl ?_
              refine gf_X11_89 hC hi0 dX11_single_119 ?_
              refine x_bipush hC (62 : Int32) dX11_single_122 (by decide) ?_
              refine x_icmp_ne hC 132 dX11_single_124 (by decide) (fun h17 => ?_) (fun h17 => ?_)
              · have q14 := (ie_s q14).2 h17
                refine x_aload_n hC dX11_single_132 rfl 0 rfl ?_
                refine gf_X11_89 hC hi0 dX11_single_133 ?_
                refine x_bipush hC (61 : Int32) dX11_single_136 (by decide) ?_
                refine x_icmp_ne hC 146 dX11_single_138 (by decide) (fun h18 => ?_) (fun h18 => ?_)
                · have q14 := (ie_s q14).2 h18
                  refine x_aload_n hC dX11_single_146 rfl 0 rfl ?_
                  refine gf_X11_89 hC hi0 dX11_single_147 ?_
                  refine x_sipush hC (256 : Int32) dX11_single_150 (by decide) ?_
                  refine x_icmp_ne hC 161 dX11_single_153 (by decide) (fun h19 => ?_) (fun h19 => ?_)
                  · have q14 := (ie_s q14).2 h19
                    refine x_aload_n hC dX11_single_161 rfl 0 rfl ?_
                    refine gf_X11_89 hC hi0 dX11_single_162 ?_
                    refine x_sipush hC (257 : Int32) dX11_single_165 (by decide) ?_
                    refine x_icmp_ne hC 176 dX11_single_168 (by decide) (fun h20 => ?_) (fun h20 => ?_)
                    · have q14 := (ie_s q14).2 h20
                      refine x_iconst hC (-1 : Int32) dX11_single_176 (by decide) ?_
                      subst q14
                      exact x_sub [0] rfl kj
                    · have q14 := (ie_s q14).1 h20
                      refine x_bipush hC (60 : Int32) dX11_single_171 (by decide) ?_
                      refine x_goto hC 177 dX11_single_173 (by decide) ?_
                      subst q14
                      exact x_sub [0] rfl kj
                  · have q14 := (ie_s q14).1 h19
                    refine x_bipush hC (59 : Int32) dX11_single_156 (by decide) ?_
                    refine x_goto hC 177 dX11_single_158 (by decide) ?_
                    subst q14
                    exact x_sub [0] rfl kj
                · have q14 := (ie_s q14).1 h18
                  refine x_bipush hC (58 : Int32) dX11_single_141 (by decide) ?_
                  refine x_goto hC 177 dX11_single_143 (by decide) ?_
                  subst q14
                  exact x_sub [0] rfl kj
              · have q14 := (ie_s q14).1 h17
                refine x_bipush hC (57 : Int32) dX11_single_127 (by decide) ?_
                refine x_goto hC 177 dX11_single_129 (by decide) ?_
                subst q14
                exact x_sub [0] rfl kj
            · have q14 := (ie_s q14).1 h16
              refine x_bipush hC (56 : Int32) dX11_single_113 (by decide) ?_
              refine x_goto hC 177 dX11_single_115 (by decide) ?_
              subst q14
              exact x_sub [0] rfl kj
          · have q14 := (ie_s q14).2 h15
            refine x_iconst hC (-1 : Int32) dX11_single_100 (by decide) ?_
            refine x_goto hC 177 dX11_single_101 (by decide) ?_
            subst q14
            exact x_sub [0] rfl kj
      · have hr := (ie_s hr).1 h13
        refine x_iconst hC (0 : Int32) dX11_single_90 (by decide) ?_
        cases hr
        exact x_zret hC rfl (Or.inl rfl) dX11_single_91
    · have hr := (ie_s hr).2 h8
      refine x_aload_n hC dX11_single_52 rfl 0 rfl ?_
      obtain ⟨x35, M36, q37, hr⟩ := bd2_s hr
      refine x_callV (ci := 5) (q := (RX11, TX11, 32)) (As := []) hC (c_X11_deeper l G M hi0 q37) kc_yX11_deeper km_X11_178 ki_yX11_deeper kv_yX11_deeper kn_RX11 ky_yX11_deeper rfl ⟨rfl, rfl⟩ ⟨rn_f (Nat.le_of_ble_eq_true rfl), rn_l (Nat.le_of_ble_eq_true rfl)⟩ hi0 (by decide) rfl rfl (Nat.le_of_ble_eq_true rfl) ⟨(Nat.le_of_ble_eq_true rfl), (Nat.le_of_ble_eq_true rfl)⟩ dX11_single_53 (fun b38 => ?_)
      refine x_if_eq hC 80 dX11_single_56 (by decide) (fun h39 => ?_) (fun h39 => ?_)
      · have hr := (ie_s hr).1 h39
        refine x_iconst hC (0 : Int32) dX11_single_80 (by decide) ?_
        cases hr
        exact x_zret hC rfl (Or.inl rfl) dX11_single_81
      · have hr := (ie_s hr).2 h39
        refine x_aload_n hC dX11_single_59 rfl 0 rfl ?_
        refine x_iconst hC (0 : Int32) dX11_single_60 (by decide) ?_
        obtain ⟨x40, M41, q42, hr⟩ := bd2_s hr
        refine x_callV (ci := 5) (q := (RX11, TX11, 32)) (As := [.int (0 : Int32)]) hC (hrec.2.2.2.2.2.1 hi0 (0 : Int32) q42) kc_yX11_test km_X11_203 ki_yX11_test kv_yX11_test kn_RX11 ky_yX11_test rfl ⟨rfl, rfl⟩ ⟨rn_gf, rn_gl (Nat.le_of_ble_eq_true rfl)⟩ hi0 (by decide) rfl rfl (Nat.le_of_ble_eq_true rfl) ⟨(Nat.le_of_ble_eq_true rfl), (Nat.le_of_ble_eq_true rfl)⟩ dX11_single_61 (fun b43 => ?_)
        refine x_if_eq hC 80 dX11_single_64 (by decide) (fun h44 => ?_) (fun h44 => ?_)
        · have hr := (ie_s hr).1 h44
          refine x_iconst hC (0 : Int32) dX11_single_80 (by decide) ?_
          cases hr
          exact x_zret hC rfl (Or.inl rfl) dX11_single_81
        · have hr := (ie_s hr).2 h44
          refine x_aload_n hC dX11_single_67 rfl 0 rfl ?_
          refine x_bipush hC (93 : Int32) dX11_single_68 (by decide) ?_
          obtain ⟨x45, M46, q47, hr⟩ := bd2_s hr
          refine x_callV (ci := 5) (q := (RX11, TX11, 32)) (As := [.int (93 : Int32)]) hC (c_X11_shallower l G M41 hi0 (93 : Int32) q47) kc_yX11_shallower km_X11_184 ki_yX11_shallower kv_yX11_shallower kn_RX11 ky_yX11_shallower rfl ⟨rfl, rfl⟩ ⟨rn_f (Nat.le_of_ble_eq_true rfl), rn_l (Nat.le_of_ble_eq_true rfl)⟩ hi0 (by decide) rfl rfl (Nat.le_of_ble_eq_true rfl) ⟨(Nat.le_of_ble_eq_true rfl), (Nat.le_of_ble_eq_true rfl)⟩ dX11_single_70 (fun b48 => ?_)
          refine x_if_eq hC 80 dX11_single_73 (by decide) (fun h49 => ?_) (fun h49 => ?_)
          · have hr := (ie_s hr).1 h49
            refine x_iconst hC (0 : Int32) dX11_single_80 (by decide) ?_
            cases hr
            exact x_zret hC rfl (Or.inl rfl) dX11_single_81
          · have hr := (ie_s hr).2 h49
            refine x_iconst hC (1 : Int32) dX11_single_76 (by decide) ?_
            refine x_goto hC 81 dX11_single_77 (by decide) ?_
            cases hr
            exact x_zret hC rfl (Or.inr rfl) dX11_single_81
  · have hr := (ie_s hr).2 h4
    refine x_aload_n hC dX11_single_9 rfl 0 rfl ?_
    obtain ⟨x50, M51, q52, hr⟩ := bd2_s hr
    refine x_callV (ci := 5) (q := (RX11, TX11, 32)) (As := []) hC (c_X11_deeper l G M hi0 q52) kc_yX11_deeper km_X11_178 ki_yX11_deeper kv_yX11_deeper kn_RX11 ky_yX11_deeper rfl ⟨rfl, rfl⟩ ⟨rn_f (Nat.le_of_ble_eq_true rfl), rn_l (Nat.le_of_ble_eq_true rfl)⟩ hi0 (by decide) rfl rfl (Nat.le_of_ble_eq_true rfl) ⟨(Nat.le_of_ble_eq_true rfl), (Nat.le_of_ble_eq_true rfl)⟩ dX11_single_10 (fun b53 => ?_)
    refine x_if_eq hC 23 dX11_single_13 (by decide) (fun h54 => ?_) (fun h54 => ?_)
    · have hr := (ie_s hr).1 h54
      refine x_iconst hC (0 : Int32) dX11_single_23 (by decide) ?_
      cases hr
      exact x_zret hC rfl (Or.inl rfl) dX11_single_24
    · have hr := (ie_s hr).2 h54
      refine x_aload_n hC dX11_single_16 rfl 0 rfl ?_
      obtain ⟨x55, M56, q57, hr⟩ := bd2_s hr
      refine x_callV (ci := 5) (q := (RX11, TX11, 32)) (As := []) hC (hrec.2.2.2.2.2.2.2.1 hi0 0 q57) kc_yX11_single km_X11_212 ki_yX11_single kv_yX11_single kn_RX11 ky_yX11_single rfl ⟨rfl, rfl⟩ ⟨rn_gf, rn_gl (Nat.le_of_ble_eq_true rfl)⟩ hi0 (by decide) rfl rfl (Nat.le_of_ble_eq_true rfl) ⟨(Nat.le_of_ble_eq_true rfl), (Nat.le_of_ble_eq_true rfl)⟩ dX11_single_17 (fun b58 => ?_)
      refine x_if_ne hC 25 dX11_single_20 (by decide) (fun h59 => ?_) (fun h59 => ?_)
      · have hr := (ie_s hr).2 h59
        refine x_aload_n hC dX11_single_25 rfl 0 rfl ?_
        refine x_dup hC dX11_single_26 rfl ?_
        refine gf_X11_143 hC hi0 dX11_single_27 ?_
        refine x_iconst hC (1 : Int32) dX11_single_30 (by decide) ?_
        refine x_isub hC dX11_single_31 ?_
        obtain ⟨M60, e61, hr⟩ := lz_s hr
        refine pf_X11_143 hC hi0 e61 dX11_single_32 ?_
        refine x_aload_n hC dX11_single_35 rfl 0 rfl ?_
        refine x_bipush hC (25 : Int32) dX11_single_36 (by decide) ?_
        obtain ⟨M62, q63, hr⟩ := bd1_s hr
        refine x_callV (ci := 5) (q := (RX11, TX11, 32)) (As := [.int (25 : Int32)]) hC (c_X11_put l G M60 hi0 (25 : Int32) q63) kc_yX11_put km_X11_175 ki_yX11_put kv_yX11_put kn_RX11 ky_yX11_put rfl ⟨rfl, rfl⟩ ⟨rn_f (Nat.le_of_ble_eq_true rfl), rn_l (Nat.le_of_ble_eq_true rfl)⟩ hi0 (by decide) rfl rfl (Nat.le_of_ble_eq_true rfl) ⟨(Nat.le_of_ble_eq_true rfl), (Nat.le_of_ble_eq_true rfl)⟩ dX11_single_38 (fun b64 => ?_)
        refine x_iconst hC (1 : Int32) dX11_single_41 (by decide) ?_
        cases hr
        exact x_zret hC rfl (Or.inr rfl) dX11_single_42
      · have hr := (ie_s hr).1 h59
        refine x_iconst hC (0 : Int32) dX11_single_23 (by decide) ?_
        cases hr
        exact x_zret hC rfl (Or.inl rfl) dX11_single_24

theorem dX11_sum_0 : decode cX11_sum 0 = .ok (.aload_n 0, 1) := by decide +kernel
theorem dX11_sum_1 : decode cX11_sum 1 = .ok (.invokevirtual 215, 3) := by decide +kernel
theorem dX11_sum_4 : decode cX11_sum 4 = .ok (.ifCond .ne 5, 3) := by decide +kernel
theorem dX11_sum_7 : decode cX11_sum 7 = .ok (.iconst 0, 1) := by decide +kernel
theorem dX11_sum_8 : decode cX11_sum 8 = .ok (.ireturn, 1) := by decide +kernel
theorem dX11_sum_9 : decode cX11_sum 9 = .ok (.aload_n 0, 1) := by decide +kernel
theorem dX11_sum_10 : decode cX11_sum 10 = .ok (.bipush 43, 2) := by decide +kernel
theorem dX11_sum_12 : decode cX11_sum 12 = .ok (.invokevirtual 134, 3) := by decide +kernel
theorem dX11_sum_15 : decode cX11_sum 15 = .ok (.ifCond .ne 12, 3) := by decide +kernel
theorem dX11_sum_18 : decode cX11_sum 18 = .ok (.aload_n 0, 1) := by decide +kernel
theorem dX11_sum_19 : decode cX11_sum 19 = .ok (.bipush 45, 2) := by decide +kernel
theorem dX11_sum_21 : decode cX11_sum 21 = .ok (.invokevirtual 134, 3) := by decide +kernel
theorem dX11_sum_24 : decode cX11_sum 24 = .ok (.ifCond .eq 41, 3) := by decide +kernel
theorem dX11_sum_27 : decode cX11_sum 27 = .ok (.aload_n 0, 1) := by decide +kernel
theorem dX11_sum_28 : decode cX11_sum 28 = .ok (.getfield 89, 3) := by decide +kernel
theorem dX11_sum_31 : decode cX11_sum 31 = .ok (.bipush 43, 2) := by decide +kernel
theorem dX11_sum_33 : decode cX11_sum 33 = .ok (.if_icmp .ne 8, 3) := by decide +kernel
theorem dX11_sum_36 : decode cX11_sum 36 = .ok (.bipush 52, 2) := by decide +kernel
theorem dX11_sum_38 : decode cX11_sum 38 = .ok (.goto 5, 3) := by decide +kernel
theorem dX11_sum_41 : decode cX11_sum 41 = .ok (.bipush 53, 2) := by decide +kernel
theorem dX11_sum_43 : decode cX11_sum 43 = .ok (.istore_n 2, 1) := by decide +kernel
theorem dX11_sum_44 : decode cX11_sum 44 = .ok (.aload_n 0, 1) := by decide +kernel
theorem dX11_sum_45 : decode cX11_sum 45 = .ok (.invokevirtual 137, 3) := by decide +kernel
theorem dX11_sum_48 : decode cX11_sum 48 = .ok (.aload_n 0, 1) := by decide +kernel
theorem dX11_sum_49 : decode cX11_sum 49 = .ok (.invokevirtual 215, 3) := by decide +kernel
theorem dX11_sum_52 : decode cX11_sum 52 = .ok (.ifCond .ne 5, 3) := by decide +kernel
theorem dX11_sum_55 : decode cX11_sum 55 = .ok (.iconst 0, 1) := by decide +kernel
theorem dX11_sum_56 : decode cX11_sum 56 = .ok (.ireturn, 1) := by decide +kernel
theorem dX11_sum_57 : decode cX11_sum 57 = .ok (.aload_n 0, 1) := by decide +kernel
theorem dX11_sum_58 : decode cX11_sum 58 = .ok (.iload_n 2, 1) := by decide +kernel
theorem dX11_sum_59 : decode cX11_sum 59 = .ok (.invokevirtual 175, 3) := by decide +kernel
theorem dX11_sum_62 : decode cX11_sum 62 = .ok (.goto (-53), 3) := by decide +kernel
theorem dX11_sum_65 : decode cX11_sum 65 = .ok (.iload_n 1, 1) := by decide +kernel
theorem dX11_sum_66 : decode cX11_sum 66 = .ok (.ifCond .eq 9, 3) := by decide +kernel
theorem dX11_sum_69 : decode cX11_sum 69 = .ok (.aload_n 0, 1) := by decide +kernel
theorem dX11_sum_70 : decode cX11_sum 70 = .ok (.bipush 61, 2) := by decide +kernel
theorem dX11_sum_72 : decode cX11_sum 72 = .ok (.invokevirtual 175, 3) := by decide +kernel
theorem dX11_sum_75 : decode cX11_sum 75 = .ok (.iconst 1, 1) := by decide +kernel
theorem dX11_sum_76 : decode cX11_sum 76 = .ok (.ireturn, 1) := by decide +kernel
def f_X11_sum_L9 (rec : Nat → Nat → Int32 → Mm → Option (Int32 × Mm)) (i0 : Nat) (a1 : Int32) : Nat → Mm → Option (Int32 × Mm)
  | 0, _ => none
  | n + 1, M =>
    lz (f_X11_sees i0 (43 : Int32) M) fun x6 => if (x6 = 0) then (lz (f_X11_sees i0 (45 : Int32) M) fun x25 => if (x25 = 0) then (if (a1 = 0) then (some ((1 : Int32), M)) else (bd1 (f_X11_put i0 (61 : Int32) M) fun M30 => some ((1 : Int32), M30))) else (lz (if ((M i0 16) = (43 : Int32)) then ((52 : Int32)) else ((53 : Int32))) fun x35 => bd1 (f_X11_advance i0 M) fun M37 => bd2 (rec 9 i0 0 M37) fun x40 M41 => if (x40 = 0) then (some ((0 : Int32), M41)) else (bd1 (f_X11_put i0 x35 M41) fun M45 => f_X11_sum_L9 rec i0 a1 n M45))) else (lz (if ((M i0 16) = (43 : Int32)) then ((52 : Int32)) else ((53 : Int32))) fun x12 => bd1 (f_X11_advance i0 M) fun M14 => bd2 (rec 9 i0 0 M14) fun x17 M18 => if (x17 = 0) then (some ((0 : Int32), M18)) else (bd1 (f_X11_put i0 x12 M18) fun M22 => f_X11_sum_L9 rec i0 a1 n M22))
def f_X11_sum (rec : Nat → Nat → Int32 → Mm → Option (Int32 × Mm)) (i0 : Nat) (a1 : Int32) (M : Mm) : Option (Int32 × Mm) :=
  bd2 (rec 9 i0 0 M) fun x1 M2 => if (x1 = 0) then (some ((0 : Int32), M2)) else ((f_X11_sum_L9 rec i0 a1 FU M2))
set_option maxHeartbeats 4000000 in
set_option maxRecDepth 100000 in
theorem l_X11_sum_L9 {p : Program} {e : Env} {s : State} {m : MethodId} {args : Array Value} {below : List Frame} {meth : Method} {c : Code} {l : Launch} {G : GG} (hC : CX p s m args meth c cX11_sum 3 RX11 (some .boolean) G) (rec : Nat → Nat → Int32 → Mm → Option (Int32 × Mm)) {nr : Nat} (hrec : OK_P11 l G rec (RMn nr)) {i0 : Nat} (hi0 : (kd i0).1 = 5) (a1 : Int32) : ∀ (n : Nat) (M : Mm) {r : Int32} {M9 : Mm} (hr : f_X11_sum_L9 rec i0 a1 n M = some (r, M9)), XJ p l e (RMn (nr + 1)) s m args below meth c G 3 (MQ below (QO G M9 true (some (.int r)) s.heap.size) args s 0 0 (AF G s.heap.size)) 0 0 M 9 [(0, .ref (G.2.1 i0)), (1, .int a1)] [] := by
  intro n
  induction n with
  | zero => intro M r M9 hr; rw [f_X11_sum_L9] at hr; cases hr
  | succ n ih =>
    intro M r M9 hr
    rw [f_X11_sum_L9] at hr
    refine x_aload_n hC dX11_sum_9 rfl 0 rfl ?_
    refine x_bipush hC (43 : Int32) dX11_sum_10 (by decide) ?_
    obtain ⟨x6, e7, hr⟩ := lz_s hr
    refine x_callV (ci := 5) (q := (RX11, TX11, 32)) (As := [.int (43 : Int32)]) hC (c_X11_sees l G M hi0 (43 : Int32) e7.symm) kc_yX11_sees km_X11_134 ki_yX11_sees kv_yX11_sees kn_RX11 ky_yX11_sees rfl ⟨rfl, rfl⟩ ⟨rn_f (Nat.le_of_ble_eq_true rfl), rn_l (Nat.le_of_ble_eq_true rfl)⟩ hi0 (by decide) rfl rfl (Nat.le_of_ble_eq_true rfl) ⟨(Nat.le_of_ble_eq_true rfl), (Nat.le_of_ble_eq_true rfl)⟩ dX11_sum_12 (fun b8 => ?_)
    refine x_if_ne hC 27 dX11_sum_15 (by decide) (fun h9 => ?_) (fun h9 => ?_)
    · have hr := (ie_s hr).2 h9
      refine x_aload_n hC dX11_sum_27 rfl 0 rfl ?_
      refine gf_X11_89 hC hi0 dX11_sum_28 ?_
      refine x_bipush hC (43 : Int32) dX11_sum_31 (by decide) ?_
      obtain ⟨x12, e13, hr⟩ := lz_s hr
      have q10 := e13.symm
      refine x_join (M' := M) (pc' := 43) (lv' := [(0, .ref (G.2.1 i0)), (1, .int a1)]) (st' := [.int x12]) ?_ ?_
      · refine x_istore_n hC [(2, .int x12), (0, .ref (G.2.1 i0)), (1, .int a1)] dX11_sum_43 rfl (Nat.le_of_ble_eq_true rfl) rfl ?_
        refine x_aload_n hC dX11_sum_44 rfl 1 rfl ?_
        obtain ⟨M14, q15, hr⟩ := bd1_s hr
        refine x_callV (ci := 5) (q := (RX11, TX11, 32)) (As := []) hC (c_X11_advance l G M hi0 q15) kc_yX11_advance km_X11_137 ki_yX11_advance kv_yX11_advance kn_RX11 ky_yX11_advance rfl ⟨rfl, rfl⟩ ⟨rn_f (Nat.le_of_ble_eq_true rfl), rn_l (Nat.le_of_ble_eq_true rfl)⟩ hi0 (by decide) rfl rfl (Nat.le_of_ble_eq_true rfl) ⟨(Nat.le_of_ble_eq_true rfl), (Nat.le_of_ble_eq_true rfl)⟩ dX11_sum_45 (fun b16 => ?_)
        refine x_aload_n hC dX11_sum_48 rfl 1 rfl ?_
        obtain ⟨x17, M18, q19, hr⟩ := bd2_s hr
        refine x_callV (ci := 5) (q := (RX11, TX11, 32)) (As := []) hC (hrec.2.2.2.2.2.2.2.2.2.1 hi0 0 q19) kc_yX11_product km_X11_215 ki_yX11_product kv_yX11_product kn_RX11 ky_yX11_product rfl ⟨rfl, rfl⟩ ⟨rn_gf, rn_gl (Nat.le_of_ble_eq_true rfl)⟩ hi0 (by decide) rfl rfl (Nat.le_of_ble_eq_true rfl) ⟨(Nat.le_of_ble_eq_true rfl), (Nat.le_of_ble_eq_true rfl)⟩ dX11_sum_49 (fun b20 => ?_)
        refine x_if_ne hC 57 dX11_sum_52 (by decide) (fun h21 => ?_) (fun h21 => ?_)
        · have hr := (ie_s hr).2 h21
          refine x_aload_n hC dX11_sum_57 rfl 1 rfl ?_
          refine x_iload_n hC dX11_sum_58 rfl 0 rfl ?_
          obtain ⟨M22, q23, hr⟩ := bd1_s hr
          refine x_callV (ci := 5) (q := (RX11, TX11, 32)) (As := [.int x12]) hC (c_X11_put l G M18 hi0 x12 q23) kc_yX11_put km_X11_175 ki_yX11_put kv_yX11_put kn_RX11 ky_yX11_put rfl ⟨rfl, rfl⟩ ⟨rn_f (Nat.le_of_ble_eq_true rfl), rn_l (Nat.le_of_ble_eq_true rfl)⟩ hi0 (by decide) rfl rfl (Nat.le_of_ble_eq_true rfl) ⟨(Nat.le_of_ble_eq_true rfl), (Nat.le_of_ble_eq_true rfl)⟩ dX11_sum_59 (fun b24 => ?_)
          refine x_goto hC 9 dX11_sum_62 (by decide) ?_
          exact x_sub [1, 2] rfl (ih M22 hr)
        · have hr := (ie_s hr).1 h21
          refine x_iconst hC (0 : Int32) dX11_sum_55 (by decide) ?_
          cases hr
          exact x_zret hC rfl (Or.inl rfl) dX11_sum_56
      · intro kj
        refine x_icmp_ne hC 41 dX11_sum_33 (by decide) (fun h11 => ?_) (fun h11 => ?_)
        · have q10 := (ie_s q10).2 h11
          refine x_bipush hC (53 : Int32) dX11_sum_41 (by decide) ?_
          subst q10
          exact x_sub [0, 1] rfl kj
        · have q10 := (ie_s q10).1 h11
          refine x_bipush hC (52 : Int32) dX11_sum_36 (by decide) ?_
          refine x_goto hC 43 dX11_sum_38 (by decide) ?_
          subst q10
          exact x_sub [0, 1] rfl kj
    · have hr := (ie_s hr).1 h9
      refine x_aload_n hC dX11_sum_18 rfl 0 rfl ?_
      refine x_bipush hC (45 : Int32) dX11_sum_19 (by decide) ?_
      obtain ⟨x25, e26, hr⟩ := lz_s hr
      refine x_callV (ci := 5) (q := (RX11, TX11, 32)) (As := [.int (45 : Int32)]) hC (c_X11_sees l G M hi0 (45 : Int32) e26.symm) kc_yX11_sees km_X11_134 ki_yX11_sees kv_yX11_sees kn_RX11 ky_yX11_sees rfl ⟨rfl, rfl⟩ ⟨rn_f (Nat.le_of_ble_eq_true rfl), rn_l (Nat.le_of_ble_eq_true rfl)⟩ hi0 (by decide) rfl rfl (Nat.le_of_ble_eq_true rfl) ⟨(Nat.le_of_ble_eq_true rfl), (Nat.le_of_ble_eq_true rfl)⟩ dX11_sum_21 (fun b27 => ?_)
      refine x_if_eq hC 65 dX11_sum_24 (by decide) (fun h28 => ?_) (fun h28 => ?_)
      · have hr := (ie_s hr).1 h28
        refine x_iload_n hC dX11_sum_65 rfl 1 rfl ?_
        refine x_if_eq hC 75 dX11_sum_66 (by decide) (fun h29 => ?_) (fun h29 => ?_)
        · have hr := (ie_s hr).1 h29
          refine x_iconst hC (1 : Int32) dX11_sum_75 (by decide) ?_
          cases hr
          exact x_zret hC rfl (Or.inr rfl) dX11_sum_76
        · have hr := (ie_s hr).2 h29
          refine x_aload_n hC dX11_sum_69 rfl 0 rfl ?_
          refine x_bipush hC (61 : Int32) dX11_sum_70 (by decide) ?_
          obtain ⟨M30, q31, hr⟩ := bd1_s hr
          refine x_callV (ci := 5) (q := (RX11, TX11, 32)) (As := [.int (61 : Int32)]) hC (c_X11_put l G M hi0 (61 : Int32) q31) kc_yX11_put km_X11_175 ki_yX11_put kv_yX11_put kn_RX11 ky_yX11_put rfl ⟨rfl, rfl⟩ ⟨rn_f (Nat.le_of_ble_eq_true rfl), rn_l (Nat.le_of_ble_eq_true rfl)⟩ hi0 (by decide) rfl rfl (Nat.le_of_ble_eq_true rfl) ⟨(Nat.le_of_ble_eq_true rfl), (Nat.le_of_ble_eq_true rfl)⟩ dX11_sum_72 (fun b32 => ?_)
          refine x_iconst hC (1 : Int32) dX11_sum_75 (by decide) ?_
          cases hr
          exact x_zret hC rfl (Or.inr rfl) dX11_sum_76
      · have hr := (ie_s hr).2 h28
        refine x_aload_n hC dX11_sum_27 rfl 0 rfl ?_
        refine gf_X11_89 hC hi0 dX11_sum_28 ?_
        refine x_bipush hC (43 : Int32) dX11_sum_31 (by decide) ?_
        obtain ⟨x35, e36, hr⟩ := lz_s hr
        have q33 := e36.symm
        refine x_join (M' := M) (pc' := 43) (lv' := [(0, .ref (G.2.1 i0)), (1, .int a1)]) (st' := [.int x35]) ?_ ?_
        · refine x_istore_n hC [(2, .int x35), (0, .ref (G.2.1 i0)), (1, .int a1)] dX11_sum_43 rfl (Nat.le_of_ble_eq_true rfl) rfl ?_
          refine x_aload_n hC dX11_sum_44 rfl 1 rfl ?_
          obtain ⟨M37, q38, hr⟩ := bd1_s hr
          refine x_callV (ci := 5) (q := (RX11, TX11, 32)) (As := []) hC (c_X11_advance l G M hi0 q38) kc_yX11_advance km_X11_137 ki_yX11_advance kv_yX11_advance kn_RX11 ky_yX11_advance rfl ⟨rfl, rfl⟩ ⟨rn_f (Nat.le_of_ble_eq_true rfl), rn_l (Nat.le_of_ble_eq_true rfl)⟩ hi0 (by decide) rfl rfl (Nat.le_of_ble_eq_true rfl) ⟨(Nat.le_of_ble_eq_true rfl), (Nat.le_of_ble_eq_true rfl)⟩ dX11_sum_45 (fun b39 => ?_)
          refine x_aload_n hC dX11_sum_48 rfl 1 rfl ?_
          obtain ⟨x40, M41, q42, hr⟩ := bd2_s hr
          refine x_callV (ci := 5) (q := (RX11, TX11, 32)) (As := []) hC (hrec.2.2.2.2.2.2.2.2.2.1 hi0 0 q42) kc_yX11_product km_X11_215 ki_yX11_product kv_yX11_product kn_RX11 ky_yX11_product rfl ⟨rfl, rfl⟩ ⟨rn_gf, rn_gl (Nat.le_of_ble_eq_true rfl)⟩ hi0 (by decide) rfl rfl (Nat.le_of_ble_eq_true rfl) ⟨(Nat.le_of_ble_eq_true rfl), (Nat.le_of_ble_eq_true rfl)⟩ dX11_sum_49 (fun b43 => ?_)
          refine x_if_ne hC 57 dX11_sum_52 (by decide) (fun h44 => ?_) (fun h44 => ?_)
          · have hr := (ie_s hr).2 h44
            refine x_aload_n hC dX11_sum_57 rfl 1 rfl ?_
            refine x_iload_n hC dX11_sum_58 rfl 0 rfl ?_
            obtain ⟨M45, q46, hr⟩ := bd1_s hr
            refine x_callV (ci := 5) (q := (RX11, TX11, 32)) (As := [.int x35]) hC (c_X11_put l G M41 hi0 x35 q46) kc_yX11_put km_X11_175 ki_yX11_put kv_yX11_put kn_RX11 ky_yX11_put rfl ⟨rfl, rfl⟩ ⟨rn_f (Nat.le_of_ble_eq_true rfl), rn_l (Nat.le_of_ble_eq_true rfl)⟩ hi0 (by decide) rfl rfl (Nat.le_of_ble_eq_true rfl) ⟨(Nat.le_of_ble_eq_true rfl), (Nat.le_of_ble_eq_true rfl)⟩ dX11_sum_59 (fun b47 => ?_)
            refine x_goto hC 9 dX11_sum_62 (by decide) ?_
            exact x_sub [1, 2] rfl (ih M45 hr)
          · have hr := (ie_s hr).1 h44
            refine x_iconst hC (0 : Int32) dX11_sum_55 (by decide) ?_
            cases hr
            exact x_zret hC rfl (Or.inl rfl) dX11_sum_56
        · intro kj
          refine x_icmp_ne hC 41 dX11_sum_33 (by decide) (fun h34 => ?_) (fun h34 => ?_)
          · have q33 := (ie_s q33).2 h34
            refine x_bipush hC (53 : Int32) dX11_sum_41 (by decide) ?_
            subst q33
            exact x_sub [0, 1] rfl kj
          · have q33 := (ie_s q33).1 h34
            refine x_bipush hC (52 : Int32) dX11_sum_36 (by decide) ?_
            refine x_goto hC 43 dX11_sum_38 (by decide) ?_
            subst q33
            exact x_sub [0, 1] rfl kj
set_option maxHeartbeats 4000000 in
set_option maxRecDepth 100000 in
theorem c_X11_sum (l : Launch) (G : GG) (M : Mm) (rec : Nat → Nat → Int32 → Mm → Option (Int32 × Mm)) {nr : Nat} (hrec : OK_P11 l G rec (RMn nr)) {i0 : Nat} (hi0 : (kd i0).1 = 5) (a1 : Int32) {r : Int32} {M9 : Mm} (hr : f_X11_sum rec i0 a1 M = some (r, M9)) : Mo true l yX11_sum (WS yX11_sum cX11_sum 3 (some .boolean)) (RMn (nr + 1)) 0 0 [.ref (G.2.1 i0), .int a1] G M (some (.int r)) M9 := by
  refine Mo.of (by decide +kernel) (Nat.le_of_ble_eq_true rfl) ?_
  intro p e s m args below meth c hC
  have hC : CX p s m args meth c cX11_sum 3 RX11 (some .boolean) G := hC
  rw [f_X11_sum] at hr
  show XJ p l e (RMn (nr + 1)) s m args below meth c G 3 _ 0 0 M 0 [(0, .ref (G.2.1 i0)), (1, .int a1)] []
  refine x_aload_n hC dX11_sum_0 rfl 0 rfl ?_
  obtain ⟨x1, M2, q3, hr⟩ := bd2_s hr
  refine x_callV (ci := 5) (q := (RX11, TX11, 32)) (As := []) hC (hrec.2.2.2.2.2.2.2.2.2.1 hi0 0 q3) kc_yX11_product km_X11_215 ki_yX11_product kv_yX11_product kn_RX11 ky_yX11_product rfl ⟨rfl, rfl⟩ ⟨rn_gf, rn_gl (Nat.le_of_ble_eq_true rfl)⟩ hi0 (by decide) rfl rfl (Nat.le_of_ble_eq_true rfl) ⟨(Nat.le_of_ble_eq_true rfl), (Nat.le_of_ble_eq_true rfl)⟩ dX11_sum_1 (fun b4 => ?_)
  refine x_if_ne hC 9 dX11_sum_4 (by decide) (fun h5 => ?_) (fun h5 => ?_)
  · have hr := (ie_s hr).2 h5
    exact x_sub [0, 1] rfl (l_X11_sum_L9 hC rec hrec hi0 a1 FU M2 hr)
  · have hr := (ie_s hr).1 h5
    refine x_iconst hC (0 : Int32) dX11_sum_7 (by decide) ?_
    cases hr
    exact x_zret hC rfl (Or.inl rfl) dX11_sum_8

theorem dX11_product_0 : decode cX11_product 0 = .ok (.aload_n 0, 1) := by decide +kernel
theorem dX11_product_1 : decode cX11_product 1 = .ok (.invokevirtual 218, 3) := by decide +kernel
theorem dX11_product_4 : decode cX11_product 4 = .ok (.ifCond .ne 5, 3) := by decide +kernel
theorem dX11_product_7 : decode cX11_product 7 = .ok (.iconst 0, 1) := by decide +kernel
theorem dX11_product_8 : decode cX11_product 8 = .ok (.ireturn, 1) := by decide +kernel
theorem dX11_product_9 : decode cX11_product 9 = .ok (.aload_n 0, 1) := by decide +kernel
theorem dX11_product_10 : decode cX11_product 10 = .ok (.bipush 42, 2) := by decide +kernel
theorem dX11_product_12 : decode cX11_product 12 = .ok (.invokevirtual 134, 3) := by decide +kernel
theorem dX11_product_15 : decode cX11_product 15 = .ok (.ifCond .ne 12, 3) := by decide +kernel
theorem dX11_product_18 : decode cX11_product 18 = .ok (.aload_n 0, 1) := by decide +kernel
theorem dX11_product_19 : decode cX11_product 19 = .ok (.bipush 47, 2) := by decide +kernel
theorem dX11_product_21 : decode cX11_product 21 = .ok (.invokevirtual 134, 3) := by decide +kernel
theorem dX11_product_24 : decode cX11_product 24 = .ok (.ifCond .eq 41, 3) := by decide +kernel
theorem dX11_product_27 : decode cX11_product 27 = .ok (.aload_n 0, 1) := by decide +kernel
theorem dX11_product_28 : decode cX11_product 28 = .ok (.getfield 89, 3) := by decide +kernel
theorem dX11_product_31 : decode cX11_product 31 = .ok (.bipush 42, 2) := by decide +kernel
theorem dX11_product_33 : decode cX11_product 33 = .ok (.if_icmp .ne 8, 3) := by decide +kernel
theorem dX11_product_36 : decode cX11_product 36 = .ok (.bipush 54, 2) := by decide +kernel
theorem dX11_product_38 : decode cX11_product 38 = .ok (.goto 5, 3) := by decide +kernel
theorem dX11_product_41 : decode cX11_product 41 = .ok (.bipush 55, 2) := by decide +kernel
theorem dX11_product_43 : decode cX11_product 43 = .ok (.istore_n 1, 1) := by decide +kernel
theorem dX11_product_44 : decode cX11_product 44 = .ok (.aload_n 0, 1) := by decide +kernel
theorem dX11_product_45 : decode cX11_product 45 = .ok (.invokevirtual 137, 3) := by decide +kernel
theorem dX11_product_48 : decode cX11_product 48 = .ok (.aload_n 0, 1) := by decide +kernel
theorem dX11_product_49 : decode cX11_product 49 = .ok (.invokevirtual 218, 3) := by decide +kernel
theorem dX11_product_52 : decode cX11_product 52 = .ok (.ifCond .ne 5, 3) := by decide +kernel
theorem dX11_product_55 : decode cX11_product 55 = .ok (.iconst 0, 1) := by decide +kernel
theorem dX11_product_56 : decode cX11_product 56 = .ok (.ireturn, 1) := by decide +kernel
theorem dX11_product_57 : decode cX11_product 57 = .ok (.aload_n 0, 1) := by decide +kernel
theorem dX11_product_58 : decode cX11_product 58 = .ok (.iload_n 1, 1) := by decide +kernel
theorem dX11_product_59 : decode cX11_product 59 = .ok (.invokevirtual 175, 3) := by decide +kernel
theorem dX11_product_62 : decode cX11_product 62 = .ok (.goto (-53), 3) := by decide +kernel
theorem dX11_product_65 : decode cX11_product 65 = .ok (.iconst 1, 1) := by decide +kernel
theorem dX11_product_66 : decode cX11_product 66 = .ok (.ireturn, 1) := by decide +kernel
def f_X11_product_L9 (rec : Nat → Nat → Int32 → Mm → Option (Int32 × Mm)) (i0 : Nat) : Nat → Mm → Option (Int32 × Mm)
  | 0, _ => none
  | n + 1, M =>
    lz (f_X11_sees i0 (42 : Int32) M) fun x6 => if (x6 = 0) then (lz (f_X11_sees i0 (47 : Int32) M) fun x25 => if (x25 = 0) then (some ((1 : Int32), M)) else (lz (if ((M i0 16) = (42 : Int32)) then ((54 : Int32)) else ((55 : Int32))) fun x31 => bd1 (f_X11_advance i0 M) fun M33 => bd2 (rec 10 i0 0 M33) fun x36 M37 => if (x36 = 0) then (some ((0 : Int32), M37)) else (bd1 (f_X11_put i0 x31 M37) fun M41 => f_X11_product_L9 rec i0 n M41))) else (lz (if ((M i0 16) = (42 : Int32)) then ((54 : Int32)) else ((55 : Int32))) fun x12 => bd1 (f_X11_advance i0 M) fun M14 => bd2 (rec 10 i0 0 M14) fun x17 M18 => if (x17 = 0) then (some ((0 : Int32), M18)) else (bd1 (f_X11_put i0 x12 M18) fun M22 => f_X11_product_L9 rec i0 n M22))
def f_X11_product (rec : Nat → Nat → Int32 → Mm → Option (Int32 × Mm)) (i0 : Nat) (M : Mm) : Option (Int32 × Mm) :=
  bd2 (rec 10 i0 0 M) fun x1 M2 => if (x1 = 0) then (some ((0 : Int32), M2)) else ((f_X11_product_L9 rec i0 FU M2))
set_option maxHeartbeats 4000000 in
set_option maxRecDepth 100000 in
theorem l_X11_product_L9 {p : Program} {e : Env} {s : State} {m : MethodId} {args : Array Value} {below : List Frame} {meth : Method} {c : Code} {l : Launch} {G : GG} (hC : CX p s m args meth c cX11_product 2 RX11 (some .boolean) G) (rec : Nat → Nat → Int32 → Mm → Option (Int32 × Mm)) {nr : Nat} (hrec : OK_P11 l G rec (RMn nr)) {i0 : Nat} (hi0 : (kd i0).1 = 5) : ∀ (n : Nat) (M : Mm) {r : Int32} {M9 : Mm} (hr : f_X11_product_L9 rec i0 n M = some (r, M9)), XJ p l e (RMn (nr + 1)) s m args below meth c G 2 (MQ below (QO G M9 true (some (.int r)) s.heap.size) args s 0 0 (AF G s.heap.size)) 0 0 M 9 [(0, .ref (G.2.1 i0))] [] := by
  intro n
  induction n with
  | zero => intro M r M9 hr; rw [f_X11_product_L9] at hr; cases hr
  | succ n ih =>
    intro M r M9 hr
    rw [f_X11_product_L9] at hr
    refine x_aload_n hC dX11_product_9 rfl 0 rfl ?_
    refine x_bipush hC (42 : Int32) dX11_product_10 (by decide) ?_
    obtain ⟨x6, e7, hr⟩ := lz_s hr
    refine x_callV (ci := 5) (q := (RX11, TX11, 32)) (As := [.int (42 : Int32)]) hC (c_X11_sees l G M hi0 (42 : Int32) e7.symm) kc_yX11_sees km_X11_134 ki_yX11_sees kv_yX11_sees kn_RX11 ky_yX11_sees rfl ⟨rfl, rfl⟩ ⟨rn_f (Nat.le_of_ble_eq_true rfl), rn_l (Nat.le_of_ble_eq_true rfl)⟩ hi0 (by decide) rfl rfl (Nat.le_of_ble_eq_true rfl) ⟨(Nat.le_of_ble_eq_true rfl), (Nat.le_of_ble_eq_true rfl)⟩ dX11_product_12 (fun b8 => ?_)
    refine x_if_ne hC 27 dX11_product_15 (by decide) (fun h9 => ?_) (fun h9 => ?_)
    · have hr := (ie_s hr).2 h9
      refine x_aload_n hC dX11_product_27 rfl 0 rfl ?_
      refine gf_X11_89 hC hi0 dX11_product_28 ?_
      refine x_bipush hC (42 : Int32) dX11_product_31 (by decide) ?_
      obtain ⟨x12, e13, hr⟩ := lz_s hr
      have q10 := e13.symm
      refine x_join (M' := M) (pc' := 43) (lv' := [(0, .ref (G.2.1 i0))]) (st' := [.int x12]) ?_ ?_
      · refine x_istore_n hC [(1, .int x12), (0, .ref (G.2.1 i0))] dX11_product_43 rfl (Nat.le_of_ble_eq_true rfl) rfl ?_
        refine x_aload_n hC dX11_product_44 rfl 1 rfl ?_
        obtain ⟨M14, q15, hr⟩ := bd1_s hr
        refine x_callV (ci := 5) (q := (RX11, TX11, 32)) (As := []) hC (c_X11_advance l G M hi0 q15) kc_yX11_advance km_X11_137 ki_yX11_advance kv_yX11_advance kn_RX11 ky_yX11_advance rfl ⟨rfl, rfl⟩ ⟨rn_f (Nat.le_of_ble_eq_true rfl), rn_l (Nat.le_of_ble_eq_true rfl)⟩ hi0 (by decide) rfl rfl (Nat.le_of_ble_eq_true rfl) ⟨(Nat.le_of_ble_eq_true rfl), (Nat.le_of_ble_eq_true rfl)⟩ dX11_product_45 (fun b16 => ?_)
        refine x_aload_n hC dX11_product_48 rfl 1 rfl ?_
        obtain ⟨x17, M18, q19, hr⟩ := bd2_s hr
        refine x_callV (ci := 5) (q := (RX11, TX11, 32)) (As := []) hC (hrec.2.2.2.2.2.2.2.2.2.2 hi0 0 q19) kc_yX11_value km_X11_218 ki_yX11_value kv_yX11_value kn_RX11 ky_yX11_value rfl ⟨rfl, rfl⟩ ⟨rn_gf, rn_gl (Nat.le_of_ble_eq_true rfl)⟩ hi0 (by decide) rfl rfl (Nat.le_of_ble_eq_true rfl) ⟨(Nat.le_of_ble_eq_true rfl), (Nat.le_of_ble_eq_true rfl)⟩ dX11_product_49 (fun b20 => ?_)
        refine x_if_ne hC 57 dX11_product_52 (by decide) (fun h21 => ?_) (fun h21 => ?_)
        · have hr := (ie_s hr).2 h21
          refine x_aload_n hC dX11_product_57 rfl 1 rfl ?_
          refine x_iload_n hC dX11_product_58 rfl 0 rfl ?_
          obtain ⟨M22, q23, hr⟩ := bd1_s hr
          refine x_callV (ci := 5) (q := (RX11, TX11, 32)) (As := [.int x12]) hC (c_X11_put l G M18 hi0 x12 q23) kc_yX11_put km_X11_175 ki_yX11_put kv_yX11_put kn_RX11 ky_yX11_put rfl ⟨rfl, rfl⟩ ⟨rn_f (Nat.le_of_ble_eq_true rfl), rn_l (Nat.le_of_ble_eq_true rfl)⟩ hi0 (by decide) rfl rfl (Nat.le_of_ble_eq_true rfl) ⟨(Nat.le_of_ble_eq_true rfl), (Nat.le_of_ble_eq_true rfl)⟩ dX11_product_59 (fun b24 => ?_)
          refine x_goto hC 9 dX11_product_62 (by decide) ?_
          exact x_sub [1] rfl (ih M22 hr)
        · have hr := (ie_s hr).1 h21
          refine x_iconst hC (0 : Int32) dX11_product_55 (by decide) ?_
          cases hr
          exact x_zret hC rfl (Or.inl rfl) dX11_product_56
      · intro kj
        refine x_icmp_ne hC 41 dX11_product_33 (by decide) (fun h11 => ?_) (fun h11 => ?_)
        · have q10 := (ie_s q10).2 h11
          refine x_bipush hC (55 : Int32) dX11_product_41 (by decide) ?_
          subst q10
          exact x_sub [0] rfl kj
        · have q10 := (ie_s q10).1 h11
          refine x_bipush hC (54 : Int32) dX11_product_36 (by decide) ?_
          refine x_goto hC 43 dX11_product_38 (by decide) ?_
          subst q10
          exact x_sub [0] rfl kj
    · have hr := (ie_s hr).1 h9
      refine x_aload_n hC dX11_product_18 rfl 0 rfl ?_
      refine x_bipush hC (47 : Int32) dX11_product_19 (by decide) ?_
      obtain ⟨x25, e26, hr⟩ := lz_s hr
      refine x_callV (ci := 5) (q := (RX11, TX11, 32)) (As := [.int (47 : Int32)]) hC (c_X11_sees l G M hi0 (47 : Int32) e26.symm) kc_yX11_sees km_X11_134 ki_yX11_sees kv_yX11_sees kn_RX11 ky_yX11_sees rfl ⟨rfl, rfl⟩ ⟨rn_f (Nat.le_of_ble_eq_true rfl), rn_l (Nat.le_of_ble_eq_true rfl)⟩ hi0 (by decide) rfl rfl (Nat.le_of_ble_eq_true rfl) ⟨(Nat.le_of_ble_eq_true rfl), (Nat.le_of_ble_eq_true rfl)⟩ dX11_product_21 (fun b27 => ?_)
      refine x_if_eq hC 65 dX11_product_24 (by decide) (fun h28 => ?_) (fun h28 => ?_)
      · have hr := (ie_s hr).1 h28
        refine x_iconst hC (1 : Int32) dX11_product_65 (by decide) ?_
        cases hr
        exact x_zret hC rfl (Or.inr rfl) dX11_product_66
      · have hr := (ie_s hr).2 h28
        refine x_aload_n hC dX11_product_27 rfl 0 rfl ?_
        refine gf_X11_89 hC hi0 dX11_product_28 ?_
        refine x_bipush hC (42 : Int32) dX11_product_31 (by decide) ?_
        obtain ⟨x31, e32, hr⟩ := lz_s hr
        have q29 := e32.symm
        refine x_join (M' := M) (pc' := 43) (lv' := [(0, .ref (G.2.1 i0))]) (st' := [.int x31]) ?_ ?_
        · refine x_istore_n hC [(1, .int x31), (0, .ref (G.2.1 i0))] dX11_product_43 rfl (Nat.le_of_ble_eq_true rfl) rfl ?_
          refine x_aload_n hC dX11_product_44 rfl 1 rfl ?_
          obtain ⟨M33, q34, hr⟩ := bd1_s hr
          refine x_callV (ci := 5) (q := (RX11, TX11, 32)) (As := []) hC (c_X11_advance l G M hi0 q34) kc_yX11_advance km_X11_137 ki_yX11_advance kv_yX11_advance kn_RX11 ky_yX11_advance rfl ⟨rfl, rfl⟩ ⟨rn_f (Nat.le_of_ble_eq_true rfl), rn_l (Nat.le_of_ble_eq_true rfl)⟩ hi0 (by decide) rfl rfl (Nat.le_of_ble_eq_true rfl) ⟨(Nat.le_of_ble_eq_true rfl), (Nat.le_of_ble_eq_true rfl)⟩ dX11_product_45 (fun b35 => ?_)
          refine x_aload_n hC dX11_product_48 rfl 1 rfl ?_
          obtain ⟨x36, M37, q38, hr⟩ := bd2_s hr
          refine x_callV (ci := 5) (q := (RX11, TX11, 32)) (As := []) hC (hrec.2.2.2.2.2.2.2.2.2.2 hi0 0 q38) kc_yX11_value km_X11_218 ki_yX11_value kv_yX11_value kn_RX11 ky_yX11_value rfl ⟨rfl, rfl⟩ ⟨rn_gf, rn_gl (Nat.le_of_ble_eq_true rfl)⟩ hi0 (by decide) rfl rfl (Nat.le_of_ble_eq_true rfl) ⟨(Nat.le_of_ble_eq_true rfl), (Nat.le_of_ble_eq_true rfl)⟩ dX11_product_49 (fun b39 => ?_)
          refine x_if_ne hC 57 dX11_product_52 (by decide) (fun h40 => ?_) (fun h40 => ?_)
          · have hr := (ie_s hr).2 h40
            refine x_aload_n hC dX11_product_57 rfl 1 rfl ?_
            refine x_iload_n hC dX11_product_58 rfl 0 rfl ?_
            obtain ⟨M41, q42, hr⟩ := bd1_s hr
            refine x_callV (ci := 5) (q := (RX11, TX11, 32)) (As := [.int x31]) hC (c_X11_put l G M37 hi0 x31 q42) kc_yX11_put km_X11_175 ki_yX11_put kv_yX11_put kn_RX11 ky_yX11_put rfl ⟨rfl, rfl⟩ ⟨rn_f (Nat.le_of_ble_eq_true rfl), rn_l (Nat.le_of_ble_eq_true rfl)⟩ hi0 (by decide) rfl rfl (Nat.le_of_ble_eq_true rfl) ⟨(Nat.le_of_ble_eq_true rfl), (Nat.le_of_ble_eq_true rfl)⟩ dX11_product_59 (fun b43 => ?_)
            refine x_goto hC 9 dX11_product_62 (by decide) ?_
            exact x_sub [1] rfl (ih M41 hr)
          · have hr := (ie_s hr).1 h40
            refine x_iconst hC (0 : Int32) dX11_product_55 (by decide) ?_
            cases hr
            exact x_zret hC rfl (Or.inl rfl) dX11_product_56
        · intro kj
          refine x_icmp_ne hC 41 dX11_product_33 (by decide) (fun h30 => ?_) (fun h30 => ?_)
          · have q29 := (ie_s q29).2 h30
            refine x_bipush hC (55 : Int32) dX11_product_41 (by decide) ?_
            subst q29
            exact x_sub [0] rfl kj
          · have q29 := (ie_s q29).1 h30
            refine x_bipush hC (54 : Int32) dX11_product_36 (by decide) ?_
            refine x_goto hC 43 dX11_product_38 (by decide) ?_
            subst q29
            exact x_sub [0] rfl kj
set_option maxHeartbeats 4000000 in
set_option maxRecDepth 100000 in
theorem c_X11_product (l : Launch) (G : GG) (M : Mm) (rec : Nat → Nat → Int32 → Mm → Option (Int32 × Mm)) {nr : Nat} (hrec : OK_P11 l G rec (RMn nr)) {i0 : Nat} (hi0 : (kd i0).1 = 5) {r : Int32} {M9 : Mm} (hr : f_X11_product rec i0 M = some (r, M9)) : Mo true l yX11_product (WS yX11_product cX11_product 2 (some .boolean)) (RMn (nr + 1)) 0 0 [.ref (G.2.1 i0)] G M (some (.int r)) M9 := by
  refine Mo.of (by decide +kernel) (Nat.le_of_ble_eq_true rfl) ?_
  intro p e s m args below meth c hC
  have hC : CX p s m args meth c cX11_product 2 RX11 (some .boolean) G := hC
  rw [f_X11_product] at hr
  show XJ p l e (RMn (nr + 1)) s m args below meth c G 2 _ 0 0 M 0 [(0, .ref (G.2.1 i0))] []
  refine x_aload_n hC dX11_product_0 rfl 0 rfl ?_
  obtain ⟨x1, M2, q3, hr⟩ := bd2_s hr
  refine x_callV (ci := 5) (q := (RX11, TX11, 32)) (As := []) hC (hrec.2.2.2.2.2.2.2.2.2.2 hi0 0 q3) kc_yX11_value km_X11_218 ki_yX11_value kv_yX11_value kn_RX11 ky_yX11_value rfl ⟨rfl, rfl⟩ ⟨rn_gf, rn_gl (Nat.le_of_ble_eq_true rfl)⟩ hi0 (by decide) rfl rfl (Nat.le_of_ble_eq_true rfl) ⟨(Nat.le_of_ble_eq_true rfl), (Nat.le_of_ble_eq_true rfl)⟩ dX11_product_1 (fun b4 => ?_)
  refine x_if_ne hC 9 dX11_product_4 (by decide) (fun h5 => ?_) (fun h5 => ?_)
  · have hr := (ie_s hr).2 h5
    exact x_sub [0] rfl (l_X11_product_L9 hC rec hrec hi0 FU M2 hr)
  · have hr := (ie_s hr).1 h5
    refine x_iconst hC (0 : Int32) dX11_product_7 (by decide) ?_
    cases hr
    exact x_zret hC rfl (Or.inl rfl) dX11_product_8

theorem dX11_value_0 : decode cX11_value 0 = .ok (.aload_n 0, 1) := by decide +kernel
theorem dX11_value_1 : decode cX11_value 1 = .ok (.getfield 92, 3) := by decide +kernel
theorem dX11_value_4 : decode cX11_value 4 = .ok (.iconst 3, 1) := by decide +kernel
theorem dX11_value_5 : decode cX11_value 5 = .ok (.if_icmp .ne 23, 3) := by decide +kernel
theorem dX11_value_8 : decode cX11_value 8 = .ok (.aload_n 0, 1) := by decide +kernel
theorem dX11_value_9 : decode cX11_value 9 = .ok (.bipush 50, 2) := by decide +kernel
theorem dX11_value_11 : decode cX11_value 11 = .ok (.invokevirtual 175, 3) := by decide +kernel
theorem dX11_value_14 : decode cX11_value 14 = .ok (.aload_n 0, 1) := by decide +kernel
theorem dX11_value_15 : decode cX11_value 15 = .ok (.aload_n 0, 1) := by decide +kernel
theorem dX11_value_16 : decode cX11_value 16 = .ok (.getfield 89, 3) := by decide +kernel
theorem dX11_value_19 : decode cX11_value 19 = .ok (.invokevirtual 175, 3) := by decide +kernel
theorem dX11_value_22 : decode cX11_value 22 = .ok (.aload_n 0, 1) := by decide +kernel
theorem dX11_value_23 : decode cX11_value 23 = .ok (.invokevirtual 137, 3) := by decide +kernel
theorem dX11_value_26 : decode cX11_value 26 = .ok (.iconst 1, 1) := by decide +kernel
theorem dX11_value_27 : decode cX11_value 27 = .ok (.ireturn, 1) := by decide +kernel
theorem dX11_value_28 : decode cX11_value 28 = .ok (.aload_n 0, 1) := by decide +kernel
theorem dX11_value_29 : decode cX11_value 29 = .ok (.getfield 92, 3) := by decide +kernel
theorem dX11_value_32 : decode cX11_value 32 = .ok (.iconst 2, 1) := by decide +kernel
theorem dX11_value_33 : decode cX11_value 33 = .ok (.if_icmp .ne 31, 3) := by decide +kernel
theorem dX11_value_36 : decode cX11_value 36 = .ok (.aload_n 0, 1) := by decide +kernel
theorem dX11_value_37 : decode cX11_value 37 = .ok (.getfield 89, 3) := by decide +kernel
theorem dX11_value_40 : decode cX11_value 40 = .ok (.bipush 12, 2) := by decide +kernel
theorem dX11_value_42 : decode cX11_value 42 = .ok (.bipush 24, 2) := by decide +kernel
theorem dX11_value_44 : decode cX11_value 44 = .ok (.invokestatic 72, 3) := by decide +kernel
theorem dX11_value_47 : decode cX11_value 47 = .ok (.ifCond .eq 17, 3) := by decide +kernel
theorem dX11_value_50 : decode cX11_value 50 = .ok (.aload_n 0, 1) := by decide +kernel
theorem dX11_value_51 : decode cX11_value 51 = .ok (.aload_n 0, 1) := by decide +kernel
theorem dX11_value_52 : decode cX11_value 52 = .ok (.getfield 89, 3) := by decide +kernel
theorem dX11_value_55 : decode cX11_value 55 = .ok (.invokevirtual 175, 3) := by decide +kernel
theorem dX11_value_58 : decode cX11_value 58 = .ok (.aload_n 0, 1) := by decide +kernel
theorem dX11_value_59 : decode cX11_value 59 = .ok (.invokevirtual 137, 3) := by decide +kernel
theorem dX11_value_62 : decode cX11_value 62 = .ok (.iconst 1, 1) := by decide +kernel
theorem dX11_value_63 : decode cX11_value 63 = .ok (.ireturn, 1) := by decide +kernel
theorem dX11_value_64 : decode cX11_value 64 = .ok (.aload_n 0, 1) := by decide +kernel
theorem dX11_value_65 : decode cX11_value 65 = .ok (.bipush 45, 2) := by decide +kernel
theorem dX11_value_67 : decode cX11_value 67 = .ok (.invokevirtual 134, 3) := by decide +kernel
theorem dX11_value_70 : decode cX11_value 70 = .ok (.ifCond .eq 37, 3) := by decide +kernel
theorem dX11_value_73 : decode cX11_value 73 = .ok (.aload_n 0, 1) := by decide +kernel
theorem dX11_value_74 : decode cX11_value 74 = .ok (.invokevirtual 178, 3) := by decide +kernel
theorem dX11_value_77 : decode cX11_value 77 = .ok (.ifCond .eq 10, 3) := by decide +kernel
theorem dX11_value_80 : decode cX11_value 80 = .ok (.aload_n 0, 1) := by decide +kernel
theorem dX11_value_81 : decode cX11_value 81 = .ok (.invokevirtual 218, 3) := by decide +kernel
theorem dX11_value_84 : decode cX11_value 84 = .ok (.ifCond .ne 5, 3) := by decide +kernel
theorem dX11_value_87 : decode cX11_value 87 = .ok (.iconst 0, 1) := by decide +kernel
theorem dX11_value_88 : decode cX11_value 88 = .ok (.ireturn, 1) := by decide +kernel
theorem dX11_value_89 : decode cX11_value 89 = .ok (.aload_n 0, 1) := by decide +kernel
theorem dX11_value_90 : decode cX11_value 90 = .ok (.dup, 1) := by decide +kernel
theorem dX11_value_91 : decode cX11_value 91 = .ok (.getfield 143, 3) := by decide +kernel
theorem dX11_value_94 : decode cX11_value 94 = .ok (.iconst 1, 1) := by decide +kernel
theorem dX11_value_95 : decode cX11_value 95 = .ok (.isub, 1) := by decide +kernel
theorem dX11_value_96 : decode cX11_value 96 = .ok (.putfield 143, 3) := by decide +kernel
theorem dX11_value_99 : decode cX11_value 99 = .ok (.aload_n 0, 1) := by decide +kernel
theorem dX11_value_100 : decode cX11_value 100 = .ok (.bipush 51, 2) := by decide +kernel
theorem dX11_value_102 : decode cX11_value 102 = .ok (.invokevirtual 175, 3) := by decide +kernel
theorem dX11_value_105 : decode cX11_value 105 = .ok (.iconst 1, 1) := by decide +kernel
theorem dX11_value_106 : decode cX11_value 106 = .ok (.ireturn, 1) := by decide +kernel
theorem dX11_value_107 : decode cX11_value 107 = .ok (.aload_n 0, 1) := by decide +kernel
theorem dX11_value_108 : decode cX11_value 108 = .ok (.bipush 40, 2) := by decide +kernel
theorem dX11_value_110 : decode cX11_value 110 = .ok (.invokevirtual 134, 3) := by decide +kernel
theorem dX11_value_113 : decode cX11_value 113 = .ok (.ifCond .eq 33, 3) := by decide +kernel
theorem dX11_value_116 : decode cX11_value 116 = .ok (.aload_n 0, 1) := by decide +kernel
theorem dX11_value_117 : decode cX11_value 117 = .ok (.invokevirtual 178, 3) := by decide +kernel
theorem dX11_value_120 : decode cX11_value 120 = .ok (.ifCond .eq 24, 3) := by decide +kernel
theorem dX11_value_123 : decode cX11_value 123 = .ok (.aload_n 0, 1) := by decide +kernel
theorem dX11_value_124 : decode cX11_value 124 = .ok (.iconst 0, 1) := by decide +kernel
theorem dX11_value_125 : decode cX11_value 125 = .ok (.invokevirtual 187, 3) := by decide +kernel
theorem dX11_value_128 : decode cX11_value 128 = .ok (.ifCond .eq 16, 3) := by decide +kernel
theorem dX11_value_131 : decode cX11_value 131 = .ok (.aload_n 0, 1) := by decide +kernel
theorem dX11_value_132 : decode cX11_value 132 = .ok (.bipush 41, 2) := by decide +kernel
theorem dX11_value_134 : decode cX11_value 134 = .ok (.invokevirtual 184, 3) := by decide +kernel
theorem dX11_value_137 : decode cX11_value 137 = .ok (.ifCond .eq 7, 3) := by decide +kernel
theorem dX11_value_140 : decode cX11_value 140 = .ok (.iconst 1, 1) := by decide +kernel
theorem dX11_value_141 : decode cX11_value 141 = .ok (.goto 4, 3) := by decide +kernel
theorem dX11_value_144 : decode cX11_value 144 = .ok (.iconst 0, 1) := by decide +kernel
theorem dX11_value_145 : decode cX11_value 145 = .ok (.ireturn, 1) := by decide +kernel
theorem dX11_value_146 : decode cX11_value 146 = .ok (.aload_n 0, 1) := by decide +kernel
theorem dX11_value_147 : decode cX11_value 147 = .ok (.bipush 28, 2) := by decide +kernel
theorem dX11_value_149 : decode cX11_value 149 = .ok (.invokevirtual 140, 3) := by decide +kernel
theorem dX11_value_152 : decode cX11_value 152 = .ok (.ifCond .ne 14, 3) := by decide +kernel
theorem dX11_value_155 : decode cX11_value 155 = .ok (.aload_n 0, 1) := by decide +kernel
theorem dX11_value_156 : decode cX11_value 156 = .ok (.bipush 29, 2) := by decide +kernel
theorem dX11_value_158 : decode cX11_value 158 = .ok (.invokevirtual 140, 3) := by decide +kernel
theorem dX11_value_161 : decode cX11_value 161 = .ok (.ifCond .ne 5, 3) := by decide +kernel
theorem dX11_value_164 : decode cX11_value 164 = .ok (.iconst 0, 1) := by decide +kernel
theorem dX11_value_165 : decode cX11_value 165 = .ok (.ireturn, 1) := by decide +kernel
theorem dX11_value_166 : decode cX11_value 166 = .ok (.aload_n 0, 1) := by decide +kernel
theorem dX11_value_167 : decode cX11_value 167 = .ok (.getfield 89, 3) := by decide +kernel
theorem dX11_value_170 : decode cX11_value 170 = .ok (.istore_n 1, 1) := by decide +kernel
theorem dX11_value_171 : decode cX11_value 171 = .ok (.aload_n 0, 1) := by decide +kernel
theorem dX11_value_172 : decode cX11_value 172 = .ok (.invokevirtual 137, 3) := by decide +kernel
theorem dX11_value_175 : decode cX11_value 175 = .ok (.aload_n 0, 1) := by decide +kernel
theorem dX11_value_176 : decode cX11_value 176 = .ok (.bipush 40, 2) := by decide +kernel
theorem dX11_value_178 : decode cX11_value 178 = .ok (.invokevirtual 134, 3) := by decide +kernel
theorem dX11_value_181 : decode cX11_value 181 = .ok (.ifCond .eq 44, 3) := by decide +kernel
theorem dX11_value_184 : decode cX11_value 184 = .ok (.aload_n 0, 1) := by decide +kernel
theorem dX11_value_185 : decode cX11_value 185 = .ok (.invokevirtual 178, 3) := by decide +kernel
theorem dX11_value_188 : decode cX11_value 188 = .ok (.ifCond .eq 37, 3) := by decide +kernel
theorem dX11_value_191 : decode cX11_value 191 = .ok (.aload_n 0, 1) := by decide +kernel
theorem dX11_value_192 : decode cX11_value 192 = .ok (.iconst 0, 1) := by decide +kernel
theorem dX11_value_193 : decode cX11_value 193 = .ok (.invokevirtual 187, 3) := by decide +kernel
theorem dX11_value_196 : decode cX11_value 196 = .ok (.ifCond .eq 29, 3) := by decide +kernel
theorem dX11_value_199 : decode cX11_value 199 = .ok (.aload_n 0, 1) := by decide +kernel
theorem dX11_value_200 : decode cX11_value 200 = .ok (.bipush 44, 2) := by decide +kernel
theorem dX11_value_202 : decode cX11_value 202 = .ok (.invokevirtual 191, 3) := by decide +kernel
theorem dX11_value_205 : decode cX11_value 205 = .ok (.ifCond .eq 20, 3) := by decide +kernel
theorem dX11_value_208 : decode cX11_value 208 = .ok (.aload_n 0, 1) := by decide +kernel
theorem dX11_value_209 : decode cX11_value 209 = .ok (.iconst 0, 1) := by decide +kernel
theorem dX11_value_210 : decode cX11_value 210 = .ok (.invokevirtual 187, 3) := by decide +kernel
theorem dX11_value_213 : decode cX11_value 213 = .ok (.ifCond .eq 12, 3) := by decide +kernel
theorem dX11_value_216 : decode cX11_value 216 = .ok (.aload_n 0, 1) := by decide +kernel
theorem dX11_value_217 : decode cX11_value 217 = .ok (.bipush 41, 2) := by decide +kernel
theorem dX11_value_219 : decode cX11_value 219 = .ok (.invokevirtual 184, 3) := by decide +kernel
theorem dX11_value_222 : decode cX11_value 222 = .ok (.ifCond .ne 5, 3) := by decide +kernel
theorem dX11_value_225 : decode cX11_value 225 = .ok (.iconst 0, 1) := by decide +kernel
theorem dX11_value_226 : decode cX11_value 226 = .ok (.ireturn, 1) := by decide +kernel
theorem dX11_value_227 : decode cX11_value 227 = .ok (.aload_n 0, 1) := by decide +kernel
theorem dX11_value_228 : decode cX11_value 228 = .ok (.iload_n 1, 1) := by decide +kernel
theorem dX11_value_229 : decode cX11_value 229 = .ok (.invokevirtual 175, 3) := by decide +kernel
theorem dX11_value_232 : decode cX11_value 232 = .ok (.iconst 1, 1) := by decide +kernel
theorem dX11_value_233 : decode cX11_value 233 = .ok (.ireturn, 1) := by decide +kernel

def f_X11_value (rec : Nat → Nat → Int32 → Mm → Option (Int32 × Mm)) (i0 : Nat) (M : Mm) : Option (Int32 × Mm) :=
  if ((M i0 14) = (3 : Int32)) then (bd1 (f_X11_put i0 (50 : Int32) M) fun M245 => bd1 (f_X11_put i0 (M245 i0 16) M245) fun M248 => bd1 (f_X11_advance i0 M248) fun M251 => some ((1 : Int32), M251)) else (if ((M i0 14) = (2 : Int32)) then (lz (f_X11_isIn (M i0 16) (12 : Int32) (24 : Int32)) fun x119 => if (x119 = 0) then (lz (f_X11_sees i0 (45 : Int32) M) fun x123 => if (x123 = 0) then (lz (f_X11_sees i0 (40 : Int32) M) fun x127 => if (x127 = 0) then (lz (f_X11_reads i0 (28 : Int32) M) fun x131 => if (x131 = 0) then (lz (f_X11_reads i0 (29 : Int32) M) fun x170 => if (x170 = 0) then (some ((0 : Int32), M)) else (bd1 (f_X11_advance i0 M) fun M174 => lz (f_X11_sees i0 (40 : Int32) M174) fun x177 => if (x177 = 0) then (some ((0 : Int32), M174)) else (bd2 (f_X11_deeper i0 M174) fun x181 M182 => if (x181 = 0) then (some ((0 : Int32), M182)) else (bd2 (rec 8 i0 (0 : Int32) M182) fun x186 M187 => if (x186 = 0) then (some ((0 : Int32), M187)) else (bd2 (f_X11_passSymbol i0 (44 : Int32) M187) fun x191 M192 => if (x191 = 0) then (some ((0 : Int32), M192)) else (bd2 (rec 8 i0 (0 : Int32) M192) fun x196 M197 => if (x196 = 0) then (some ((0 : Int32), M197)) else (bd2 (f_X11_shallower i0 (41 : Int32) M197) fun x201 M202 => if (x201 = 0) then (some ((0 : Int32), M202)) else (bd1 (f_X11_put i0 (M i0 16) M202) fun M206 => some ((1 : Int32), M206))))))))) else (bd1 (f_X11_advance i0 M) fun M135 => lz (f_X11_sees i0 (40 : Int32) M135) fun x138 => if (x138 = 0) then (some ((0 : Int32), M135)) else (bd2 (f_X11_deeper i0 M135) fun x142 M143 => if (x142 = 0) then (some ((0 : Int32), M143)) else (bd2 (rec 8 i0 (0 : Int32) M143) fun x147 M148 => if (x147 = 0) then (some ((0 : Int32), M148)) else (bd2 (f_X11_passSymbol i0 (44 : Int32) M148) fun x152 M153 => if (x152 = 0) then (some ((0 : Int32), M153)) else (bd2 (rec 8 i0 (0 : Int32) M153) fun x157 M158 => if (x157 = 0) then (some ((0 : Int32), M158)) else (bd2 (f_X11_shallower i0 (41 : Int32) M158) fun x162 M163 => if (x162 = 0) then (some ((0 : Int32), M163)) else (bd1 (f_X11_put i0 (M i0 16) M163) fun M167 => some ((1 : Int32), M167))))))))) else (bd2 (f_X11_deeper i0 M) fun x209 M210 => if (x209 = 0) then (some ((0 : Int32), M210)) else (bd2 (rec 8 i0 (0 : Int32) M210) fun x214 M215 => if (x214 = 0) then (some ((0 : Int32), M215)) else (bd2 (f_X11_shallower i0 (41 : Int32) M215) fun x219 M220 => if (x219 = 0) then (some ((0 : Int32), M220)) else (some ((1 : Int32), M220)))))) else (bd2 (f_X11_deeper i0 M) fun x224 M225 => if (x224 = 0) then (some ((0 : Int32), M225)) else (bd2 (rec 10 i0 0 M225) fun x229 M230 => if (x229 = 0) then (some ((0 : Int32), M230)) else (lz (wr M230 i0 17 ((M230 i0 17) - (1 : Int32))) fun M234 => bd1 (f_X11_put i0 (51 : Int32) M234) fun M236 => some ((1 : Int32), M236))))) else (bd1 (f_X11_put i0 (M i0 16) M) fun M239 => bd1 (f_X11_advance i0 M239) fun M242 => some ((1 : Int32), M242))) else (lz (f_X11_sees i0 (45 : Int32) M) fun x3 => if (x3 = 0) then (lz (f_X11_sees i0 (40 : Int32) M) fun x7 => if (x7 = 0) then (lz (f_X11_reads i0 (28 : Int32) M) fun x11 => if (x11 = 0) then (lz (f_X11_reads i0 (29 : Int32) M) fun x50 => if (x50 = 0) then (some ((0 : Int32), M)) else (bd1 (f_X11_advance i0 M) fun M54 => lz (f_X11_sees i0 (40 : Int32) M54) fun x57 => if (x57 = 0) then (some ((0 : Int32), M54)) else (bd2 (f_X11_deeper i0 M54) fun x61 M62 => if (x61 = 0) then (some ((0 : Int32), M62)) else (bd2 (rec 8 i0 (0 : Int32) M62) fun x66 M67 => if (x66 = 0) then (some ((0 : Int32), M67)) else (bd2 (f_X11_passSymbol i0 (44 : Int32) M67) fun x71 M72 => if (x71 = 0) then (some ((0 : Int32), M72)) else (bd2 (rec 8 i0 (0 : Int32) M72) fun x76 M77 => if (x76 = 0) then (some ((0 : Int32), M77)) else (bd2 (f_X11_shallower i0 (41 : Int32) M77) fun x81 M82 => if (x81 = 0) then (some ((0 : Int32), M82)) else (bd1 (f_X11_put i0 (M i0 16) M82) fun M86 => some ((1 : Int32), M86))))))))) else (bd1 (f_X11_advance i0 M) fun M15 => lz (f_X11_sees i0 (40 : Int32) M15) fun x18 => if (x18 = 0) then (some ((0 : Int32), M15)) else (bd2 (f_X11_deeper i0 M15) fun x22 M23 => if (x22 = 0) then (some ((0 : Int32), M23)) else (bd2 (rec 8 i0 (0 : Int32) M23) fun x27 M28 => if (x27 = 0) then (some ((0 : Int32), M28)) else (bd2 (f_X11_passSymbol i0 (44 : Int32) M28) fun x32 M33 => if (x32 = 0) then (some ((0 : Int32), M33)) else (bd2 (rec 8 i0 (0 : Int32) M33) fun x37 M38 => if (x37 = 0) then (some ((0 : Int32), M38)) else (bd2 (f_X11_shallower i0 (41 : Int32) M38) fun x42 M43 => if (x42 = 0) then (some ((0 : Int32), M43)) else (bd1 (f_X11_put i0 (M i0 16) M43) fun M47 => some ((1 : Int32), M47))))))))) else (bd2 (f_X11_deeper i0 M) fun x89 M90 => if (x89 = 0) then (some ((0 : Int32), M90)) else (bd2 (rec 8 i0 (0 : Int32) M90) fun x94 M95 => if (x94 = 0) then (some ((0 : Int32), M95)) else (bd2 (f_X11_shallower i0 (41 : Int32) M95) fun x99 M100 => if (x99 = 0) then (some ((0 : Int32), M100)) else (some ((1 : Int32), M100)))))) else (bd2 (f_X11_deeper i0 M) fun x104 M105 => if (x104 = 0) then (some ((0 : Int32), M105)) else (bd2 (rec 10 i0 0 M105) fun x109 M110 => if (x109 = 0) then (some ((0 : Int32), M110)) else (lz (wr M110 i0 17 ((M110 i0 17) - (1 : Int32))) fun M114 => bd1 (f_X11_put i0 (51 : Int32) M114) fun M116 => some ((1 : Int32), M116))))))

set_option maxHeartbeats 4000000 in
set_option maxRecDepth 100000 in
theorem c_X11_value (l : Launch) (G : GG) (M : Mm) (rec : Nat → Nat → Int32 → Mm → Option (Int32 × Mm)) {nr : Nat} (hrec : OK_P11 l G rec (RMn nr)) {i0 : Nat} (hi0 : (kd i0).1 = 5) {r : Int32} {M9 : Mm} (hr : f_X11_value rec i0 M = some (r, M9)) : Mo true l yX11_value (WS yX11_value cX11_value 2 (some .boolean)) (RMn (nr + 1)) 0 0 [.ref (G.2.1 i0)] G M (some (.int r)) M9 := by
  refine Mo.of (by decide +kernel) (Nat.le_of_ble_eq_true rfl) ?_
  intro p e s m args below meth c hC
  have hC : CX p s m args meth c cX11_value 2 RX11 (some .boolean) G := hC
  rw [f_X11_value] at hr
  show XJ p l e (RMn (nr + 1)) s m args below meth c G 2 _ 0 0 M 0 [(0, .ref (G.2.1 i0))] []
  refine x_aload_n hC dX11_value_0 rfl 0 rfl ?_
  refine gf_X11_92 hC hi0 dX11_value_1 ?_
  refine x_iconst hC (3 : Int32) dX11_value_4 (by decide) ?_
  refine x_icmp_ne hC 28 dX11_value_5 (by decide) (fun h1 => ?_) (fun h1 => ?_)
  · have hr := (ie_s hr).2 h1
    refine x_aload_n hC dX11_value_28 rfl 0 rfl ?_
    refine gf_X11_92 hC hi0 dX11_value_29 ?_
    refine x_iconst hC (2 : Int32) dX11_value_32 (by decide) ?_
    refine x_icmp_ne hC 64 dX11_value_33 (by decide) (fun h2 => ?_) (fun h2 => ?_)
    · have hr := (ie_s hr).2 h2
      refine x_aload_n hC dX11_value_64 rfl 0 rfl ?_
      refine x_bipush hC (45 : Int32) dX11_value_65 (by decide) ?_
      obtain ⟨x3, e4, hr⟩ := lz_s hr
      refine x_callV (ci := 5) (q := (RX11, TX11, 32)) (As := [.int (45 : Int32)]) hC (c_X11_sees l G M hi0 (45 : Int32) e4.symm) kc_yX11_sees km_X11_134 ki_yX11_sees kv_yX11_sees kn_RX11 ky_yX11_sees rfl ⟨rfl, rfl⟩ ⟨rn_f (Nat.le_of_ble_eq_true rfl), rn_l (Nat.le_of_ble_eq_true rfl)⟩ hi0 (by decide) rfl rfl (Nat.le_of_ble_eq_true rfl) ⟨(Nat.le_of_ble_eq_true rfl), (Nat.le_of_ble_eq_true rfl)⟩ dX11_value_67 (fun b5 => ?_)
      refine x_if_eq hC 107 dX11_value_70 (by decide) (fun h6 => ?_) (fun h6 => ?_)
      · have hr := (ie_s hr).1 h6
        refine x_aload_n hC dX11_value_107 rfl 0 rfl ?_
        refine x_bipush hC (40 : Int32) dX11_value_108 (by decide) ?_
        obtain ⟨x7, e8, hr⟩ := lz_s hr
        refine x_callV (ci := 5) (q := (RX11, TX11, 32)) (As := [.int (40 : Int32)]) hC (c_X11_sees l G M hi0 (40 : Int32) e8.symm) kc_yX11_sees km_X11_134 ki_yX11_sees kv_yX11_sees kn_RX11 ky_yX11_sees rfl ⟨rfl, rfl⟩ ⟨rn_f (Nat.le_of_ble_eq_true rfl), rn_l (Nat.le_of_ble_eq_true rfl)⟩ hi0 (by decide) rfl rfl (Nat.le_of_ble_eq_true rfl) ⟨(Nat.le_of_ble_eq_true rfl), (Nat.le_of_ble_eq_true rfl)⟩ dX11_value_110 (fun b9 => ?_)
        refine x_if_eq hC 146 dX11_value_113 (by decide) (fun h10 => ?_) (fun h10 => ?_)
        · have hr := (ie_s hr).1 h10
          refine x_aload_n hC dX11_value_146 rfl 0 rfl ?_
          refine x_bipush hC (28 : Int32) dX11_value_147 (by decide) ?_
          obtain ⟨x11, e12, hr⟩ := lz_s hr
          refine x_callV (ci := 5) (q := (RX11, TX11, 32)) (As := [.int (28 : Int32)]) hC (c_X11_reads l G M hi0 (28 : Int32) e12.symm) kc_yX11_reads km_X11_140 ki_yX11_reads kv_yX11_reads kn_RX11 ky_yX11_reads rfl ⟨rfl, rfl⟩ ⟨rn_f (Nat.le_of_ble_eq_true rfl), rn_l (Nat.le_of_ble_eq_true rfl)⟩ hi0 (by decide) rfl rfl (Nat.le_of_ble_eq_true rfl) ⟨(Nat.le_of_ble_eq_true rfl), (Nat.le_of_ble_eq_true rfl)⟩ dX11_value_149 (fun b13 => ?_)
          refine x_if_ne hC 166 dX11_value_152 (by decide) (fun h14 => ?_) (fun h14 => ?_)
          · have hr := (ie_s hr).2 h14
            refine x_aload_n hC dX11_value_166 rfl 0 rfl ?_
            refine gf_X11_89 hC hi0 dX11_value_167 ?_
            refine x_istore_n hC [(1, .int (M i0 16)), (0, .ref (G.2.1 i0))] dX11_value_170 rfl (Nat.le_of_ble_eq_true rfl) rfl ?_
            refine x_aload_n hC dX11_value_171 rfl 1 rfl ?_
            obtain ⟨M15, q16, hr⟩ := bd1_s hr
            refine x_callV (ci := 5) (q := (RX11, TX11, 32)) (As := []) hC (c_X11_advance l G M hi0 q16) kc_yX11_advance km_X11_137 ki_yX11_advance kv_yX11_advance kn_RX11 ky_yX11_advance rfl ⟨rfl, rfl⟩ ⟨rn_f (Nat.le_of_ble_eq_true rfl), rn_l (Nat.le_of_ble_eq_true rfl)⟩ hi0 (by decide) rfl rfl (Nat.le_of_ble_eq_true rfl) ⟨(Nat.le_of_ble_eq_true rfl), (Nat.le_of_ble_eq_true rfl)⟩ dX11_value_172 (fun b17 => ?_)
            refine x_aload_n hC dX11_value_175 rfl 1 rfl ?_
            refine x_bipush hC (40 : Int32) dX11_value_176 (by decide) ?_
            obtain ⟨x18, e19, hr⟩ := lz_s hr
            refine x_callV (ci := 5) (q := (RX11, TX11, 32)) (As := [.int (40 : Int32)]) hC (c_X11_sees l G M15 hi0 (40 : Int32) e19.symm) kc_yX11_sees km_X11_134 ki_yX11_sees kv_yX11_sees kn_RX11 ky_yX11_sees rfl ⟨rfl, rfl⟩ ⟨rn_f (Nat.le_of_ble_eq_true rfl), rn_l (Nat.le_of_ble_eq_true rfl)⟩ hi0 (by decide) rfl rfl (Nat.le_of_ble_eq_true rfl) ⟨(Nat.le_of_ble_eq_true rfl), (Nat.le_of_ble_eq_true rfl)⟩ dX11_value_178 (fun b20 => ?_)
            refine x_if_eq hC 225 dX11_value_181 (by decide) (fun h21 => ?_) (fun h21 => ?_)
            · have hr := (ie_s hr).1 h21
              refine x_iconst hC (0 : Int32) dX11_value_225 (by decide) ?_
              cases hr
              exact x_zret hC rfl (Or.inl rfl) dX11_value_226
            · have hr := (ie_s hr).2 h21
              refine x_aload_n hC dX11_value_184 rfl 1 rfl ?_
              obtain ⟨x22, M23, q24, hr⟩ := bd2_s hr
              refine x_callV (ci := 5) (q := (RX11, TX11, 32)) (As := []) hC (c_X11_deeper l G M15 hi0 q24) kc_yX11_deeper km_X11_178 ki_yX11_deeper kv_yX11_deeper kn_RX11 ky_yX11_deeper rfl ⟨rfl, rfl⟩ ⟨rn_f (Nat.le_of_ble_eq_true rfl), rn_l (Nat.le_of_ble_eq_true rfl)⟩ hi0 (by decide) rfl rfl (Nat.le_of_ble_eq_true rfl) ⟨(Nat.le_of_ble_eq_true rfl), (Nat.le_of_ble_eq_true rfl)⟩ dX11_value_185 (fun b25 => ?_)
              refine x_if_eq hC 225 dX11_value_188 (by decide) (fun h26 => ?_) (fun h26 => ?_)
              · have hr := (ie_s hr).1 h26
                refine x_iconst hC (0 : Int32) dX11_value_225 (by decide) ?_
                cases hr
                exact x_zret hC rfl (Or.inl rfl) dX11_value_226
              · have hr := (ie_s hr).2 h26
                refine x_aload_n hC dX11_value_191 rfl 1 rfl ?_
                refine x_iconst hC (0 : Int32) dX11_value_192 (by decide) ?_
                obtain ⟨x27, M28, q29, hr⟩ := bd2_s hr
                refine x_callV (ci := 5) (q := (RX11, TX11, 32)) (As := [.int (0 : Int32)]) hC (hrec.2.2.2.2.2.2.2.2.1 hi0 (0 : Int32) q29) kc_yX11_sum km_X11_187 ki_yX11_sum kv_yX11_sum kn_RX11 ky_yX11_sum rfl ⟨rfl, rfl⟩ ⟨rn_gf, rn_gl (Nat.le_of_ble_eq_true rfl)⟩ hi0 (by decide) rfl rfl (Nat.le_of_ble_eq_true rfl) ⟨(Nat.le_of_ble_eq_true rfl), (Nat.le_of_ble_eq_true rfl)⟩ dX11_value_193 (fun b30 => ?_)
                refine x_if_eq hC 225 dX11_value_196 (by decide) (fun h31 => ?_) (fun h31 => ?_)
                · have hr := (ie_s hr).1 h31
                  refine x_iconst hC (0 : Int32) dX11_value_225 (by decide) ?_
                  cases hr
                  exact x_zret hC rfl (Or.inl rfl) dX11_value_226
                · have hr := (ie_s hr).2 h31
                  refine x_aload_n hC dX11_value_199 rfl 1 rfl ?_
                  refine x_bipush hC (44 : Int32) dX11_value_200 (by decide) ?_
                  obtain ⟨x32, M33, q34, hr⟩ := bd2_s hr
                  refine x_callV (ci := 5) (q := (RX11, TX11, 32)) (As := [.int (44 : Int32)]) hC (c_X11_passSymbol l G M28 hi0 (44 : Int32) q34) kc_yX11_passSymbol km_X11_191 ki_yX11_passSymbol kv_yX11_passSymbol kn_RX11 ky_yX11_passSymbol rfl ⟨rfl, rfl⟩ ⟨rn_f (Nat.le_of_ble_eq_true rfl), rn_l (Nat.le_of_ble_eq_true rfl)⟩ hi0 (by decide) rfl rfl (Nat.le_of_ble_eq_true rfl) ⟨(Nat.le_of_ble_eq_true rfl), (Nat.le_of_ble_eq_true rfl)⟩ dX11_value_202 (fun b35 => ?_)
                  refine x_if_eq hC 225 dX11_value_205 (by decide) (fun h36 => ?_) (fun h36 => ?_)
                  · have hr := (ie_s hr).1 h36
                    refine x_iconst hC (0 : Int32) dX11_value_225 (by decide) ?_
                    cases hr
                    exact x_zret hC rfl (Or.inl rfl) dX11_value_226
                  · have hr := (ie_s hr).2 h36
                    refine x_aload_n hC dX11_value_208 rfl 1 rfl ?_
                    refine x_iconst hC (0 : Int32) dX11_value_209 (by decide) ?_
                    obtain ⟨x37, M38, q39, hr⟩ := bd2_s hr
                    refine x_callV (ci := 5) (q := (RX11, TX11, 32)) (As := [.int (0 : Int32)]) hC (hrec.2.2.2.2.2.2.2.2.1 hi0 (0 : Int32) q39) kc_yX11_sum km_X11_187 ki_yX11_sum kv_yX11_sum kn_RX11 ky_yX11_sum rfl ⟨rfl, rfl⟩ ⟨rn_gf, rn_gl (Nat.le_of_ble_eq_true rfl)⟩ hi0 (by decide) rfl rfl (Nat.le_of_ble_eq_true rfl) ⟨(Nat.le_of_ble_eq_true rfl), (Nat.le_of_ble_eq_true rfl)⟩ dX11_value_210 (fun b40 => ?_)
                    refine x_if_eq hC 225 dX11_value_213 (by decide) (fun h41 => ?_) (fun h41 => ?_)
                    · have hr := (ie_s hr).1 h41
                      refine x_iconst hC (0 : Int32) dX11_value_225 (by decide) ?_
                      cases hr
                      exact x_zret hC rfl (Or.inl rfl) dX11_value_226
                    · have hr := (ie_s hr).2 h41
                      refine x_aload_n hC dX11_value_216 rfl 1 rfl ?_
                      refine x_bipush hC (41 : Int32) dX11_value_217 (by decide) ?_
                      obtain ⟨x42, M43, q44, hr⟩ := bd2_s hr
                      refine x_callV (ci := 5) (q := (RX11, TX11, 32)) (As := [.int (41 : Int32)]) hC (c_X11_shallower l G M38 hi0 (41 : Int32) q44) kc_yX11_shallower km_X11_184 ki_yX11_shallower kv_yX11_shallower kn_RX11 ky_yX11_shallower rfl ⟨rfl, rfl⟩ ⟨rn_f (Nat.le_of_ble_eq_true rfl), rn_l (Nat.le_of_ble_eq_true rfl)⟩ hi0 (by decide) rfl rfl (Nat.le_of_ble_eq_true rfl) ⟨(Nat.le_of_ble_eq_true rfl), (Nat.le_of_ble_eq_true rfl)⟩ dX11_value_219 (fun b45 => ?_)
                      refine x_if_ne hC 227 dX11_value_222 (by decide) (fun h46 => ?_) (fun h46 => ?_)
                      · have hr := (ie_s hr).2 h46
                        refine x_aload_n hC dX11_value_227 rfl 1 rfl ?_
                        refine x_iload_n hC dX11_value_228 rfl 0 rfl ?_
                        obtain ⟨M47, q48, hr⟩ := bd1_s hr
                        refine x_callV (ci := 5) (q := (RX11, TX11, 32)) (As := [.int (M i0 16)]) hC (c_X11_put l G M43 hi0 (M i0 16) q48) kc_yX11_put km_X11_175 ki_yX11_put kv_yX11_put kn_RX11 ky_yX11_put rfl ⟨rfl, rfl⟩ ⟨rn_f (Nat.le_of_ble_eq_true rfl), rn_l (Nat.le_of_ble_eq_true rfl)⟩ hi0 (by decide) rfl rfl (Nat.le_of_ble_eq_true rfl) ⟨(Nat.le_of_ble_eq_true rfl), (Nat.le_of_ble_eq_true rfl)⟩ dX11_value_229 (fun b49 => ?_)
                        refine x_iconst hC (1 : Int32) dX11_value_232 (by decide) ?_
                        cases hr
                        exact x_zret hC rfl (Or.inr rfl) dX11_value_233
                      · have hr := (ie_s hr).1 h46
                        refine x_iconst hC (0 : Int32) dX11_value_225 (by decide) ?_
                        cases hr
                        exact x_zret hC rfl (Or.inl rfl) dX11_value_226
          · have hr := (ie_s hr).1 h14
            refine x_aload_n hC dX11_value_155 rfl 0 rfl ?_
            refine x_bipush hC (29 : Int32) dX11_value_156 (by decide) ?_
            obtain ⟨x50, e51, hr⟩ := lz_s hr
            refine x_callV (ci := 5) (q := (RX11, TX11, 32)) (As := [.int (29 : Int32)]) hC (c_X11_reads l G M hi0 (29 : Int32) e51.symm) kc_yX11_reads km_X11_140 ki_yX11_reads kv_yX11_reads kn_RX11 ky_yX11_reads rfl ⟨rfl, rfl⟩ ⟨rn_f (Nat.le_of_ble_eq_true rfl), rn_l (Nat.le_of_ble_eq_true rfl)⟩ hi0 (by decide) rfl rfl (Nat.le_of_ble_eq_true rfl) ⟨(Nat.le_of_ble_eq_true rfl), (Nat.le_of_ble_eq_true rfl)⟩ dX11_value_158 (fun b52 => ?_)
            refine x_if_ne hC 166 dX11_value_161 (by decide) (fun h53 => ?_) (fun h53 => ?_)
            · have hr := (ie_s hr).2 h53
              refine x_aload_n hC dX11_value_166 rfl 0 rfl ?_
              refine gf_X11_89 hC hi0 dX11_value_167 ?_
              refine x_istore_n hC [(1, .int (M i0 16)), (0, .ref (G.2.1 i0))] dX11_value_170 rfl (Nat.le_of_ble_eq_true rfl) rfl ?_
              refine x_aload_n hC dX11_value_171 rfl 1 rfl ?_
              obtain ⟨M54, q55, hr⟩ := bd1_s hr
              refine x_callV (ci := 5) (q := (RX11, TX11, 32)) (As := []) hC (c_X11_advance l G M hi0 q55) kc_yX11_advance km_X11_137 ki_yX11_advance kv_yX11_advance kn_RX11 ky_yX11_advance rfl ⟨rfl, rfl⟩ ⟨rn_f (Nat.le_of_ble_eq_true rfl), rn_l (Nat.le_of_ble_eq_true rfl)⟩ hi0 (by decide) rfl rfl (Nat.le_of_ble_eq_true rfl) ⟨(Nat.le_of_ble_eq_true rfl), (Nat.le_of_ble_eq_true rfl)⟩ dX11_value_172 (fun b56 => ?_)
              refine x_aload_n hC dX11_value_175 rfl 1 rfl ?_
              refine x_bipush hC (40 : Int32) dX11_value_176 (by decide) ?_
              obtain ⟨x57, e58, hr⟩ := lz_s hr
              refine x_callV (ci := 5) (q := (RX11, TX11, 32)) (As := [.int (40 : Int32)]) hC (c_X11_sees l G M54 hi0 (40 : Int32) e58.symm) kc_yX11_sees km_X11_134 ki_yX11_sees kv_yX11_sees kn_RX11 ky_yX11_sees rfl ⟨rfl, rfl⟩ ⟨rn_f (Nat.le_of_ble_eq_true rfl), rn_l (Nat.le_of_ble_eq_true rfl)⟩ hi0 (by decide) rfl rfl (Nat.le_of_ble_eq_true rfl) ⟨(Nat.le_of_ble_eq_true rfl), (Nat.le_of_ble_eq_true rfl)⟩ dX11_value_178 (fun b59 => ?_)
              refine x_if_eq hC 225 dX11_value_181 (by decide) (fun h60 => ?_) (fun h60 => ?_)
              · have hr := (ie_s hr).1 h60
                refine x_iconst hC (0 : Int32) dX11_value_225 (by decide) ?_
                cases hr
                exact x_zret hC rfl (Or.inl rfl) dX11_value_226
              · have hr := (ie_s hr).2 h60
                refine x_aload_n hC dX11_value_184 rfl 1 rfl ?_
                obtain ⟨x61, M62, q63, hr⟩ := bd2_s hr
                refine x_callV (ci := 5) (q := (RX11, TX11, 32)) (As := []) hC (c_X11_deeper l G M54 hi0 q63) kc_yX11_deeper km_X11_178 ki_yX11_deeper kv_yX11_deeper kn_RX11 ky_yX11_deeper rfl ⟨rfl, rfl⟩ ⟨rn_f (Nat.le_of_ble_eq_true rfl), rn_l (Nat.le_of_ble_eq_true rfl)⟩ hi0 (by decide) rfl rfl (Nat.le_of_ble_eq_true rfl) ⟨(Nat.le_of_ble_eq_true rfl), (Nat.le_of_ble_eq_true rfl)⟩ dX11_value_185 (fun b64 => ?_)
                refine x_if_eq hC 225 dX11_value_188 (by decide) (fun h65 => ?_) (fun h65 => ?_)
                · have hr := (ie_s hr).1 h65
                  refine x_iconst hC (0 : Int32) dX11_value_225 (by decide) ?_
                  cases hr
                  exact x_zret hC rfl (Or.inl rfl) dX11_value_226
                · have hr := (ie_s hr).2 h65
                  refine x_aload_n hC dX11_value_191 rfl 1 rfl ?_
                  refine x_iconst hC (0 : Int32) dX11_value_192 (by decide) ?_
                  obtain ⟨x66, M67, q68, hr⟩ := bd2_s hr
                  refine x_callV (ci := 5) (q := (RX11, TX11, 32)) (As := [.int (0 : Int32)]) hC (hrec.2.2.2.2.2.2.2.2.1 hi0 (0 : Int32) q68) kc_yX11_sum km_X11_187 ki_yX11_sum kv_yX11_sum kn_RX11 ky_yX11_sum rfl ⟨rfl, rfl⟩ ⟨rn_gf, rn_gl (Nat.le_of_ble_eq_true rfl)⟩ hi0 (by decide) rfl rfl (Nat.le_of_ble_eq_true rfl) ⟨(Nat.le_of_ble_eq_true rfl), (Nat.le_of_ble_eq_true rfl)⟩ dX11_value_193 (fun b69 => ?_)
                  refine x_if_eq hC 225 dX11_value_196 (by decide) (fun h70 => ?_) (fun h70 => ?_)
                  · have hr := (ie_s hr).1 h70
                    refine x_iconst hC (0 : Int32) dX11_value_225 (by decide) ?_
                    cases hr
                    exact x_zret hC rfl (Or.inl rfl) dX11_value_226
                  · have hr := (ie_s hr).2 h70
                    refine x_aload_n hC dX11_value_199 rfl 1 rfl ?_
                    refine x_bipush hC (44 : Int32) dX11_value_200 (by decide) ?_
                    obtain ⟨x71, M72, q73, hr⟩ := bd2_s hr
                    refine x_callV (ci := 5) (q := (RX11, TX11, 32)) (As := [.int (44 : Int32)]) hC (c_X11_passSymbol l G M67 hi0 (44 : Int32) q73) kc_yX11_passSymbol km_X11_191 ki_yX11_passSymbol kv_yX11_passSymbol kn_RX11 ky_yX11_passSymbol rfl ⟨rfl, rfl⟩ ⟨rn_f (Nat.le_of_ble_eq_true rfl), rn_l (Nat.le_of_ble_eq_true rfl)⟩ hi0 (by decide) rfl rfl (Nat.le_of_ble_eq_true rfl) ⟨(Nat.le_of_ble_eq_true rfl), (Nat.le_of_ble_eq_true rfl)⟩ dX11_value_202 (fun b74 => ?_)
                    refine x_if_eq hC 225 dX11_value_205 (by decide) (fun h75 => ?_) (fun h75 => ?_)
                    · have hr := (ie_s hr).1 h75
                      refine x_iconst hC (0 : Int32) dX11_value_225 (by decide) ?_
                      cases hr
                      exact x_zret hC rfl (Or.inl rfl) dX11_value_226
                    · have hr := (ie_s hr).2 h75
                      refine x_aload_n hC dX11_value_208 rfl 1 rfl ?_
                      refine x_iconst hC (0 : Int32) dX11_value_209 (by decide) ?_
                      obtain ⟨x76, M77, q78, hr⟩ := bd2_s hr
                      refine x_callV (ci := 5) (q := (RX11, TX11, 32)) (As := [.int (0 : Int32)]) hC (hrec.2.2.2.2.2.2.2.2.1 hi0 (0 : Int32) q78) kc_yX11_sum km_X11_187 ki_yX11_sum kv_yX11_sum kn_RX11 ky_yX11_sum rfl ⟨rfl, rfl⟩ ⟨rn_gf, rn_gl (Nat.le_of_ble_eq_true rfl)⟩ hi0 (by decide) rfl rfl (Nat.le_of_ble_eq_true rfl) ⟨(Nat.le_of_ble_eq_true rfl), (Nat.le_of_ble_eq_true rfl)⟩ dX11_value_210 (fun b79 => ?_)
                      refine x_if_eq hC 225 dX11_value_213 (by decide) (fun h80 => ?_) (fun h80 => ?_)
                      · have hr := (ie_s hr).1 h80
                        refine x_iconst hC (0 : Int32) dX11_value_225 (by decide) ?_
                        cases hr
                        exact x_zret hC rfl (Or.inl rfl) dX11_value_226
                      · have hr := (ie_s hr).2 h80
                        refine x_aload_n hC dX11_value_216 rfl 1 rfl ?_
                        refine x_bipush hC (41 : Int32) dX11_value_217 (by decide) ?_
                        obtain ⟨x81, M82, q83, hr⟩ := bd2_s hr
                        refine x_callV (ci := 5) (q := (RX11, TX11, 32)) (As := [.int (41 : Int32)]) hC (c_X11_shallower l G M77 hi0 (41 : Int32) q83) kc_yX11_shallower km_X11_184 ki_yX11_shallower kv_yX11_shallower kn_RX11 ky_yX11_shallower rfl ⟨rfl, rfl⟩ ⟨rn_f (Nat.le_of_ble_eq_true rfl), rn_l (Nat.le_of_ble_eq_true rfl)⟩ hi0 (by decide) rfl rfl (Nat.le_of_ble_eq_true rfl) ⟨(Nat.le_of_ble_eq_true rfl), (Nat.le_of_ble_eq_true rfl)⟩ dX11_value_219 (fun b84 => ?_)
                        refine x_if_ne hC 227 dX11_value_222 (by decide) (fun h85 => ?_) (fun h85 => ?_)
                        · have hr := (ie_s hr).2 h85
                          refine x_aload_n hC dX11_value_227 rfl 1 rfl ?_
                          refine x_iload_n hC dX11_value_228 rfl 0 rfl ?_
                          obtain ⟨M86, q87, hr⟩ := bd1_s hr
                          refine x_callV (ci := 5) (q := (RX11, TX11, 32)) (As := [.int (M i0 16)]) hC (c_X11_put l G M82 hi0 (M i0 16) q87) kc_yX11_put km_X11_175 ki_yX11_put kv_yX11_put kn_RX11 ky_yX11_put rfl ⟨rfl, rfl⟩ ⟨rn_f (Nat.le_of_ble_eq_true rfl), rn_l (Nat.le_of_ble_eq_true rfl)⟩ hi0 (by decide) rfl rfl (Nat.le_of_ble_eq_true rfl) ⟨(Nat.le_of_ble_eq_true rfl), (Nat.le_of_ble_eq_true rfl)⟩ dX11_value_229 (fun b88 => ?_)
                          refine x_iconst hC (1 : Int32) dX11_value_232 (by decide) ?_
                          cases hr
                          exact x_zret hC rfl (Or.inr rfl) dX11_value_233
                        · have hr := (ie_s hr).1 h85
                          refine x_iconst hC (0 : Int32) dX11_value_225 (by decide) ?_
                          cases hr
                          exact x_zret hC rfl (Or.inl rfl) dX11_value_226
            · have hr := (ie_s hr).1 h53
              refine x_iconst hC (0 : Int32) dX11_value_164 (by decide) ?_
              cases hr
              exact x_zret hC rfl (Or.inl rfl) dX11_value_165
        · have hr := (ie_s hr).2 h10
          refine x_aload_n hC dX11_value_116 rfl 0 rfl ?_
          obtain ⟨x89, M90, q91, hr⟩ := bd2_s hr
          refine x_callV (ci := 5) (q := (RX11, TX11, 32)) (As := []) hC (c_X11_deeper l G M hi0 q91) kc_yX11_deeper km_X11_178 ki_yX11_deeper kv_yX11_deeper kn_RX11 ky_yX11_deeper rfl ⟨rfl, rfl⟩ ⟨rn_f (Nat.le_of_ble_eq_true rfl), rn_l (Nat.le_of_ble_eq_true rfl)⟩ hi0 (by decide) rfl rfl (Nat.le_of_ble_eq_true rfl) ⟨(Nat.le_of_ble_eq_true rfl), (Nat.le_of_ble_eq_true rfl)⟩ dX11_value_117 (fun b92 => ?_)
          refine x_if_eq hC 144 dX11_value_120 (by decide) (fun h93 => ?_) (fun h93 => ?_)
          · have hr := (ie_s hr).1 h93
            refine x_iconst hC (0 : Int32) dX11_value_144 (by decide) ?_
            cases hr
            exact x_zret hC rfl (Or.inl rfl) dX11_value_145
          · have hr := (ie_s hr).2 h93
            refine x_aload_n hC dX11_value_123 rfl 0 rfl ?_
            refine x_iconst hC (0 : Int32) dX11_value_124 (by decide) ?_
            obtain ⟨x94, M95, q96, hr⟩ := bd2_s hr
            refine x_callV (ci := 5) (q := (RX11, TX11, 32)) (As := [.int (0 : Int32)]) hC (hrec.2.2.2.2.2.2.2.2.1 hi0 (0 : Int32) q96) kc_yX11_sum km_X11_187 ki_yX11_sum kv_yX11_sum kn_RX11 ky_yX11_sum rfl ⟨rfl, rfl⟩ ⟨rn_gf, rn_gl (Nat.le_of_ble_eq_true rfl)⟩ hi0 (by decide) rfl rfl (Nat.le_of_ble_eq_true rfl) ⟨(Nat.le_of_ble_eq_true rfl), (Nat.le_of_ble_eq_true rfl)⟩ dX11_value_125 (fun b97 => ?_)
            refine x_if_eq hC 144 dX11_value_128 (by decide) (fun h98 => ?_) (fun h98 => ?_)
            · have hr := (ie_s hr).1 h98
              refine x_iconst hC (0 : Int32) dX11_value_144 (by decide) ?_
              cases hr
              exact x_zret hC rfl (Or.inl rfl) dX11_value_145
            · have hr := (ie_s hr).2 h98
              refine x_aload_n hC dX11_value_131 rfl 0 rfl ?_
              refine x_bipush hC (41 : Int32) dX11_value_132 (by decide) ?_
              obtain ⟨x99, M100, q101, hr⟩ := bd2_s hr
              refine x_callV (ci := 5) (q := (RX11, TX11, 32)) (As := [.int (41 : Int32)]) hC (c_X11_shallower l G M95 hi0 (41 : Int32) q101) kc_yX11_shallower km_X11_184 ki_yX11_shallower kv_yX11_shallower kn_RX11 ky_yX11_shallower rfl ⟨rfl, rfl⟩ ⟨rn_f (Nat.le_of_ble_eq_true rfl), rn_l (Nat.le_of_ble_eq_true rfl)⟩ hi0 (by decide) rfl rfl (Nat.le_of_ble_eq_true rfl) ⟨(Nat.le_of_ble_eq_true rfl), (Nat.le_of_ble_eq_true rfl)⟩ dX11_value_134 (fun b102 => ?_)
              refine x_if_eq hC 144 dX11_value_137 (by decide) (fun h103 => ?_) (fun h103 => ?_)
              · have hr := (ie_s hr).1 h103
                refine x_iconst hC (0 : Int32) dX11_value_144 (by decide) ?_
                cases hr
                exact x_zret hC rfl (Or.inl rfl) dX11_value_145
              · have hr := (ie_s hr).2 h103
                refine x_iconst hC (1 : Int32) dX11_value_140 (by decide) ?_
                refine x_goto hC 145 dX11_value_141 (by decide) ?_
                cases hr
                exact x_zret hC rfl (Or.inr rfl) dX11_value_145
      · have hr := (ie_s hr).2 h6
        refine x_aload_n hC dX11_value_73 rfl 0 rfl ?_
        obtain ⟨x104, M105, q106, hr⟩ := bd2_s hr
        refine x_callV (ci := 5) (q := (RX11, TX11, 32)) (As := []) hC (c_X11_deeper l G M hi0 q106) kc_yX11_deeper km_X11_178 ki_yX11_deeper kv_yX11_deeper kn_RX11 ky_yX11_deeper rfl ⟨rfl, rfl⟩ ⟨rn_f (Nat.le_of_ble_eq_true rfl), rn_l (Nat.le_of_ble_eq_true rfl)⟩ hi0 (by decide) rfl rfl (Nat.le_of_ble_eq_true rfl) ⟨(Nat.le_of_ble_eq_true rfl), (Nat.le_of_ble_eq_true rfl)⟩ dX11_value_74 (fun b107 => ?_)
        refine x_if_eq hC 87 dX11_value_77 (by decide) (fun h108 => ?_) (fun h108 => ?_)
        · have hr := (ie_s hr).1 h108
          refine x_iconst hC (0 : Int32) dX11_value_87 (by decide) ?_
          cases hr
          exact x_zret hC rfl (Or.inl rfl) dX11_value_88
        · have hr := (ie_s hr).2 h108
          refine x_aload_n hC dX11_value_80 rfl 0 rfl ?_
          obtain ⟨x109, M110, q111, hr⟩ := bd2_s hr
          refine x_callV (ci := 5) (q := (RX11, TX11, 32)) (As := []) hC (hrec.2.2.2.2.2.2.2.2.2.2 hi0 0 q111) kc_yX11_value km_X11_218 ki_yX11_value kv_yX11_value kn_RX11 ky_yX11_value rfl ⟨rfl, rfl⟩ ⟨rn_gf, rn_gl (Nat.le_of_ble_eq_true rfl)⟩ hi0 (by decide) rfl rfl (Nat.le_of_ble_eq_true rfl) ⟨(Nat.le_of_ble_eq_true rfl), (Nat.le_of_ble_eq_true rfl)⟩ dX11_value_81 (fun b112 => ?_)
          refine x_if_ne hC 89 dX11_value_84 (by decide) (fun h113 => ?_) (fun h113 => ?_)
          · have hr := (ie_s hr).2 h113
            refine x_aload_n hC dX11_value_89 rfl 0 rfl ?_
            refine x_dup hC dX11_value_90 rfl ?_
            refine gf_X11_143 hC hi0 dX11_value_91 ?_
            refine x_iconst hC (1 : Int32) dX11_value_94 (by decide) ?_
            refine x_isub hC dX11_value_95 ?_
            obtain ⟨M114, e115, hr⟩ := lz_s hr
            refine pf_X11_143 hC hi0 e115 dX11_value_96 ?_
            refine x_aload_n hC dX11_value_99 rfl 0 rfl ?_
            refine x_bipush hC (51 : Int32) dX11_value_100 (by decide) ?_
            obtain ⟨M116, q117, hr⟩ := bd1_s hr
            refine x_callV (ci := 5) (q := (RX11, TX11, 32)) (As := [.int (51 : Int32)]) hC (c_X11_put l G M114 hi0 (51 : Int32) q117) kc_yX11_put km_X11_175 ki_yX11_put kv_yX11_put kn_RX11 ky_yX11_put rfl ⟨rfl, rfl⟩ ⟨rn_f (Nat.le_of_ble_eq_true rfl), rn_l (Nat.le_of_ble_eq_true rfl)⟩ hi0 (by decide) rfl rfl (Nat.le_of_ble_eq_true rfl) ⟨(Nat.le_of_ble_eq_true rfl), (Nat.le_of_ble_eq_true rfl)⟩ dX11_value_102 (fun b118 => ?_)
            refine x_iconst hC (1 : Int32) dX11_value_105 (by decide) ?_
            cases hr
            exact x_zret hC rfl (Or.inr rfl) dX11_value_106
          · have hr := (ie_s hr).1 h113
            refine x_iconst hC (0 : Int32) dX11_value_87 (by decide) ?_
            cases hr
            exact x_zret hC rfl (Or.inl rfl) dX11_value_88
    · have hr := (ie_s hr).1 h2
      refine x_aload_n hC dX11_value_36 rfl 0 rfl ?_
      refine gf_X11_89 hC hi0 dX11_value_37 ?_
      refine x_bipush hC (12 : Int32) dX11_value_40 (by decide) ?_
      refine x_bipush hC (24 : Int32) dX11_value_42 (by decide) ?_
      obtain ⟨x119, e120, hr⟩ := lz_s hr
      refine x_callS (As := [.int (M i0 16), .int (12 : Int32), .int (24 : Int32)]) hC (c_X11_isIn l G M (M i0 16) (12 : Int32) (24 : Int32) e120.symm) kc_yX11_isIn km_X11_72 kt_yX11_isIn kn_RX11 ky_yX11_isIn rfl ⟨rfl, rfl⟩ ⟨rn_f (Nat.le_of_ble_eq_true rfl), rn_l (Nat.le_of_ble_eq_true rfl)⟩ rfl (Nat.le_of_ble_eq_true rfl) ⟨(Nat.le_of_ble_eq_true rfl), (Nat.le_of_ble_eq_true rfl)⟩ dX11_value_44 (fun b121 => ?_)
      refine x_if_eq hC 64 dX11_value_47 (by decide) (fun h122 => ?_) (fun h122 => ?_)
      · have hr := (ie_s hr).1 h122
        refine x_aload_n hC dX11_value_64 rfl 0 rfl ?_
        refine x_bipush hC (45 : Int32) dX11_value_65 (by decide) ?_
        obtain ⟨x123, e124, hr⟩ := lz_s hr
        refine x_callV (ci := 5) (q := (RX11, TX11, 32)) (As := [.int (45 : Int32)]) hC (c_X11_sees l G M hi0 (45 : Int32) e124.symm) kc_yX11_sees km_X11_134 ki_yX11_sees kv_yX11_sees kn_RX11 ky_yX11_sees rfl ⟨rfl, rfl⟩ ⟨rn_f (Nat.le_of_ble_eq_true rfl), rn_l (Nat.le_of_ble_eq_true rfl)⟩ hi0 (by decide) rfl rfl (Nat.le_of_ble_eq_true rfl) ⟨(Nat.le_of_ble_eq_true rfl), (Nat.le_of_ble_eq_true rfl)⟩ dX11_value_67 (fun b125 => ?_)
        refine x_if_eq hC 107 dX11_value_70 (by decide) (fun h126 => ?_) (fun h126 => ?_)
        · have hr := (ie_s hr).1 h126
          refine x_aload_n hC dX11_value_107 rfl 0 rfl ?_
          refine x_bipush hC (40 : Int32) dX11_value_108 (by decide) ?_
          obtain ⟨x127, e128, hr⟩ := lz_s hr
          refine x_callV (ci := 5) (q := (RX11, TX11, 32)) (As := [.int (40 : Int32)]) hC (c_X11_sees l G M hi0 (40 : Int32) e128.symm) kc_yX11_sees km_X11_134 ki_yX11_sees kv_yX11_sees kn_RX11 ky_yX11_sees rfl ⟨rfl, rfl⟩ ⟨rn_f (Nat.le_of_ble_eq_true rfl), rn_l (Nat.le_of_ble_eq_true rfl)⟩ hi0 (by decide) rfl rfl (Nat.le_of_ble_eq_true rfl) ⟨(Nat.le_of_ble_eq_true rfl), (Nat.le_of_ble_eq_true rfl)⟩ dX11_value_110 (fun b129 => ?_)
          refine x_if_eq hC 146 dX11_value_113 (by decide) (fun h130 => ?_) (fun h130 => ?_)
          · have hr := (ie_s hr).1 h130
            refine x_aload_n hC dX11_value_146 rfl 0 rfl ?_
            refine x_bipush hC (28 : Int32) dX11_value_147 (by decide) ?_
            obtain ⟨x131, e132, hr⟩ := lz_s hr
            refine x_callV (ci := 5) (q := (RX11, TX11, 32)) (As := [.int (28 : Int32)]) hC (c_X11_reads l G M hi0 (28 : Int32) e132.symm) kc_yX11_reads km_X11_140 ki_yX11_reads kv_yX11_reads kn_RX11 ky_yX11_reads rfl ⟨rfl, rfl⟩ ⟨rn_f (Nat.le_of_ble_eq_true rfl), rn_l (Nat.le_of_ble_eq_true rfl)⟩ hi0 (by decide) rfl rfl (Nat.le_of_ble_eq_true rfl) ⟨(Nat.le_of_ble_eq_true rfl), (Nat.le_of_ble_eq_true rfl)⟩ dX11_value_149 (fun b133 => ?_)
            refine x_if_ne hC 166 dX11_value_152 (by decide) (fun h134 => ?_) (fun h134 => ?_)
            · have hr := (ie_s hr).2 h134
              refine x_aload_n hC dX11_value_166 rfl 0 rfl ?_
              refine gf_X11_89 hC hi0 dX11_value_167 ?_
              refine x_istore_n hC [(1, .int (M i0 16)), (0, .ref (G.2.1 i0))] dX11_value_170 rfl (Nat.le_of_ble_eq_true rfl) rfl ?_
              refine x_aload_n hC dX11_value_171 rfl 1 rfl ?_
              obtain ⟨M135, q136, hr⟩ := bd1_s hr
              refine x_callV (ci := 5) (q := (RX11, TX11, 32)) (As := []) hC (c_X11_advance l G M hi0 q136) kc_yX11_advance km_X11_137 ki_yX11_advance kv_yX11_advance kn_RX11 ky_yX11_advance rfl ⟨rfl, rfl⟩ ⟨rn_f (Nat.le_of_ble_eq_true rfl), rn_l (Nat.le_of_ble_eq_true rfl)⟩ hi0 (by decide) rfl rfl (Nat.le_of_ble_eq_true rfl) ⟨(Nat.le_of_ble_eq_true rfl), (Nat.le_of_ble_eq_true rfl)⟩ dX11_value_172 (fun b137 => ?_)
              refine x_aload_n hC dX11_value_175 rfl 1 rfl ?_
              refine x_bipush hC (40 : Int32) dX11_value_176 (by decide) ?_
              obtain ⟨x138, e139, hr⟩ := lz_s hr
              refine x_callV (ci := 5) (q := (RX11, TX11, 32)) (As := [.int (40 : Int32)]) hC (c_X11_sees l G M135 hi0 (40 : Int32) e139.symm) kc_yX11_sees km_X11_134 ki_yX11_sees kv_yX11_sees kn_RX11 ky_yX11_sees rfl ⟨rfl, rfl⟩ ⟨rn_f (Nat.le_of_ble_eq_true rfl), rn_l (Nat.le_of_ble_eq_true rfl)⟩ hi0 (by decide) rfl rfl (Nat.le_of_ble_eq_true rfl) ⟨(Nat.le_of_ble_eq_true rfl), (Nat.le_of_ble_eq_true rfl)⟩ dX11_value_178 (fun b140 => ?_)
              refine x_if_eq hC 225 dX11_value_181 (by decide) (fun h141 => ?_) (fun h141 => ?_)
              · have hr := (ie_s hr).1 h141
                refine x_iconst hC (0 : Int32) dX11_value_225 (by decide) ?_
                cases hr
                exact x_zret hC rfl (Or.inl rfl) dX11_value_226
              · have hr := (ie_s hr).2 h141
                refine x_aload_n hC dX11_value_184 rfl 1 rfl ?_
                obtain ⟨x142, M143, q144, hr⟩ := bd2_s hr
                refine x_callV (ci := 5) (q := (RX11, TX11, 32)) (As := []) hC (c_X11_deeper l G M135 hi0 q144) kc_yX11_deeper km_X11_178 ki_yX11_deeper kv_yX11_deeper kn_RX11 ky_yX11_deeper rfl ⟨rfl, rfl⟩ ⟨rn_f (Nat.le_of_ble_eq_true rfl), rn_l (Nat.le_of_ble_eq_true rfl)⟩ hi0 (by decide) rfl rfl (Nat.le_of_ble_eq_true rfl) ⟨(Nat.le_of_ble_eq_true rfl), (Nat.le_of_ble_eq_true rfl)⟩ dX11_value_185 (fun b145 => ?_)
                refine x_if_eq hC 225 dX11_value_188 (by decide) (fun h146 => ?_) (fun h146 => ?_)
                · have hr := (ie_s hr).1 h146
                  refine x_iconst hC (0 : Int32) dX11_value_225 (by decide) ?_
                  cases hr
                  exact x_zret hC rfl (Or.inl rfl) dX11_value_226
                · have hr := (ie_s hr).2 h146
                  refine x_aload_n hC dX11_value_191 rfl 1 rfl ?_
                  refine x_iconst hC (0 : Int32) dX11_value_192 (by decide) ?_
                  obtain ⟨x147, M148, q149, hr⟩ := bd2_s hr
                  refine x_callV (ci := 5) (q := (RX11, TX11, 32)) (As := [.int (0 : Int32)]) hC (hrec.2.2.2.2.2.2.2.2.1 hi0 (0 : Int32) q149) kc_yX11_sum km_X11_187 ki_yX11_sum kv_yX11_sum kn_RX11 ky_yX11_sum rfl ⟨rfl, rfl⟩ ⟨rn_gf, rn_gl (Nat.le_of_ble_eq_true rfl)⟩ hi0 (by decide) rfl rfl (Nat.le_of_ble_eq_true rfl) ⟨(Nat.le_of_ble_eq_true rfl), (Nat.le_of_ble_eq_true rfl)⟩ dX11_value_193 (fun b150 => ?_)
                  refine x_if_eq hC 225 dX11_value_196 (by decide) (fun h151 => ?_) (fun h151 => ?_)
                  · have hr := (ie_s hr).1 h151
                    refine x_iconst hC (0 : Int32) dX11_value_225 (by decide) ?_
                    cases hr
                    exact x_zret hC rfl (Or.inl rfl) dX11_value_226
                  · have hr := (ie_s hr).2 h151
                    refine x_aload_n hC dX11_value_199 rfl 1 rfl ?_
                    refine x_bipush hC (44 : Int32) dX11_value_200 (by decide) ?_
                    obtain ⟨x152, M153, q154, hr⟩ := bd2_s hr
                    refine x_callV (ci := 5) (q := (RX11, TX11, 32)) (As := [.int (44 : Int32)]) hC (c_X11_passSymbol l G M148 hi0 (44 : Int32) q154) kc_yX11_passSymbol km_X11_191 ki_yX11_passSymbol kv_yX11_passSymbol kn_RX11 ky_yX11_passSymbol rfl ⟨rfl, rfl⟩ ⟨rn_f (Nat.le_of_ble_eq_true rfl), rn_l (Nat.le_of_ble_eq_true rfl)⟩ hi0 (by decide) rfl rfl (Nat.le_of_ble_eq_true rfl) ⟨(Nat.le_of_ble_eq_true rfl), (Nat.le_of_ble_eq_true rfl)⟩ dX11_value_202 (fun b155 => ?_)
                    refine x_if_eq hC 225 dX11_value_205 (by decide) (fun h156 => ?_) (fun h156 => ?_)
                    · have hr := (ie_s hr).1 h156
                      refine x_iconst hC (0 : Int32) dX11_value_225 (by decide) ?_
                      cases hr
                      exact x_zret hC rfl (Or.inl rfl) dX11_value_226
                    · have hr := (ie_s hr).2 h156
                      refine x_aload_n hC dX11_value_208 rfl 1 rfl ?_
                      refine x_iconst hC (0 : Int32) dX11_value_209 (by decide) ?_
                      obtain ⟨x157, M158, q159, hr⟩ := bd2_s hr
                      refine x_callV (ci := 5) (q := (RX11, TX11, 32)) (As := [.int (0 : Int32)]) hC (hrec.2.2.2.2.2.2.2.2.1 hi0 (0 : Int32) q159) kc_yX11_sum km_X11_187 ki_yX11_sum kv_yX11_sum kn_RX11 ky_yX11_sum rfl ⟨rfl, rfl⟩ ⟨rn_gf, rn_gl (Nat.le_of_ble_eq_true rfl)⟩ hi0 (by decide) rfl rfl (Nat.le_of_ble_eq_true rfl) ⟨(Nat.le_of_ble_eq_true rfl), (Nat.le_of_ble_eq_true rfl)⟩ dX11_value_210 (fun b160 => ?_)
                      refine x_if_eq hC 225 dX11_value_213 (by decide) (fun h161 => ?_) (fun h161 => ?_)
                      · have hr := (ie_s hr).1 h161
                        refine x_iconst hC (0 : Int32) dX11_value_225 (by decide) ?_
                        cases hr
                        exact x_zret hC rfl (Or.inl rfl) dX11_value_226
                      · have hr := (ie_s hr).2 h161
                        refine x_aload_n hC dX11_value_216 rfl 1 rfl ?_
                        refine x_bipush hC (41 : Int32) dX11_value_217 (by decide) ?_
                        obtain ⟨x162, M163, q164, hr⟩ := bd2_s hr
                        refine x_callV (ci := 5) (q := (RX11, TX11, 32)) (As := [.int (41 : Int32)]) hC (c_X11_shallower l G M158 hi0 (41 : Int32) q164) kc_yX11_shallower km_X11_184 ki_yX11_shallower kv_yX11_shallower kn_RX11 ky_yX11_shallower rfl ⟨rfl, rfl⟩ ⟨rn_f (Nat.le_of_ble_eq_true rfl), rn_l (Nat.le_of_ble_eq_true rfl)⟩ hi0 (by decide) rfl rfl (Nat.le_of_ble_eq_true rfl) ⟨(Nat.le_of_ble_eq_true rfl), (Nat.le_of_ble_eq_true rfl)⟩ dX11_value_219 (fun b165 => ?_)
                        refine x_if_ne hC 227 dX11_value_222 (by decide) (fun h166 => ?_) (fun h166 => ?_)
                        · have hr := (ie_s hr).2 h166
                          refine x_aload_n hC dX11_value_227 rfl 1 rfl ?_
                          refine x_iload_n hC dX11_value_228 rfl 0 rfl ?_
                          obtain ⟨M167, q168, hr⟩ := bd1_s hr
                          refine x_callV (ci := 5) (q := (RX11, TX11, 32)) (As := [.int (M i0 16)]) hC (c_X11_put l G M163 hi0 (M i0 16) q168) kc_yX11_put km_X11_175 ki_yX11_put kv_yX11_put kn_RX11 ky_yX11_put rfl ⟨rfl, rfl⟩ ⟨rn_f (Nat.le_of_ble_eq_true rfl), rn_l (Nat.le_of_ble_eq_true rfl)⟩ hi0 (by decide) rfl rfl (Nat.le_of_ble_eq_true rfl) ⟨(Nat.le_of_ble_eq_true rfl), (Nat.le_of_ble_eq_true rfl)⟩ dX11_value_229 (fun b169 => ?_)
                          refine x_iconst hC (1 : Int32) dX11_value_232 (by decide) ?_
                          cases hr
                          exact x_zret hC rfl (Or.inr rfl) dX11_value_233
                        · have hr := (ie_s hr).1 h166
                          refine x_iconst hC (0 : Int32) dX11_value_225 (by decide) ?_
                          cases hr
                          exact x_zret hC rfl (Or.inl rfl) dX11_value_226
            · have hr := (ie_s hr).1 h134
              refine x_aload_n hC dX11_value_155 rfl 0 rfl ?_
              refine x_bipush hC (29 : Int32) dX11_value_156 (by decide) ?_
              obtain ⟨x170, e171, hr⟩ := lz_s hr
              refine x_callV (ci := 5) (q := (RX11, TX11, 32)) (As := [.int (29 : Int32)]) hC (c_X11_reads l G M hi0 (29 : Int32) e171.symm) kc_yX11_reads km_X11_140 ki_yX11_reads kv_yX11_reads kn_RX11 ky_yX11_reads rfl ⟨rfl, rfl⟩ ⟨rn_f (Nat.le_of_ble_eq_true rfl), rn_l (Nat.le_of_ble_eq_true rfl)⟩ hi0 (by decide) rfl rfl (Nat.le_of_ble_eq_true rfl) ⟨(Nat.le_of_ble_eq_true rfl), (Nat.le_of_ble_eq_true rfl)⟩ dX11_value_158 (fun b172 => ?_)
              refine x_if_ne hC 166 dX11_value_161 (by decide) (fun h173 => ?_) (fun h173 => ?_)
              · have hr := (ie_s hr).2 h173
                refine x_aload_n hC dX11_value_166 rfl 0 rfl ?_
                refine gf_X11_89 hC hi0 dX11_value_167 ?_
                refine x_istore_n hC [(1, .int (M i0 16)), (0, .ref (G.2.1 i0))] dX11_value_170 rfl (Nat.le_of_ble_eq_true rfl) rfl ?_
                refine x_aload_n hC dX11_value_171 rfl 1 rfl ?_
                obtain ⟨M174, q175, hr⟩ := bd1_s hr
                refine x_callV (ci := 5) (q := (RX11, TX11, 32)) (As := []) hC (c_X11_advance l G M hi0 q175) kc_yX11_advance km_X11_137 ki_yX11_advance kv_yX11_advance kn_RX11 ky_yX11_advance rfl ⟨rfl, rfl⟩ ⟨rn_f (Nat.le_of_ble_eq_true rfl), rn_l (Nat.le_of_ble_eq_true rfl)⟩ hi0 (by decide) rfl rfl (Nat.le_of_ble_eq_true rfl) ⟨(Nat.le_of_ble_eq_true rfl), (Nat.le_of_ble_eq_true rfl)⟩ dX11_value_172 (fun b176 => ?_)
                refine x_aload_n hC dX11_value_175 rfl 1 rfl ?_
                refine x_bipush hC (40 : Int32) dX11_value_176 (by decide) ?_
                obtain ⟨x177, e178, hr⟩ := lz_s hr
                refine x_callV (ci := 5) (q := (RX11, TX11, 32)) (As := [.int (40 : Int32)]) hC (c_X11_sees l G M174 hi0 (40 : Int32) e178.symm) kc_yX11_sees km_X11_134 ki_yX11_sees kv_yX11_sees kn_RX11 ky_yX11_sees rfl ⟨rfl, rfl⟩ ⟨rn_f (Nat.le_of_ble_eq_true rfl), rn_l (Nat.le_of_ble_eq_true rfl)⟩ hi0 (by decide) rfl rfl (Nat.le_of_ble_eq_true rfl) ⟨(Nat.le_of_ble_eq_true rfl), (Nat.le_of_ble_eq_true rfl)⟩ dX11_value_178 (fun b179 => ?_)
                refine x_if_eq hC 225 dX11_value_181 (by decide) (fun h180 => ?_) (fun h180 => ?_)
                · have hr := (ie_s hr).1 h180
                  refine x_iconst hC (0 : Int32) dX11_value_225 (by decide) ?_
                  cases hr
                  exact x_zret hC rfl (Or.inl rfl) dX11_value_226
                · have hr := (ie_s hr).2 h180
                  refine x_aload_n hC dX11_value_184 rfl 1 rfl ?_
                  obtain ⟨x181, M182, q183, hr⟩ := bd2_s hr
                  refine x_callV (ci := 5) (q := (RX11, TX11, 32)) (As := []) hC (c_X11_deeper l G M174 hi0 q183) kc_yX11_deeper km_X11_178 ki_yX11_deeper kv_yX11_deeper kn_RX11 ky_yX11_deeper rfl ⟨rfl, rfl⟩ ⟨rn_f (Nat.le_of_ble_eq_true rfl), rn_l (Nat.le_of_ble_eq_true rfl)⟩ hi0 (by decide) rfl rfl (Nat.le_of_ble_eq_true rfl) ⟨(Nat.le_of_ble_eq_true rfl), (Nat.le_of_ble_eq_true rfl)⟩ dX11_value_185 (fun b184 => ?_)
                  refine x_if_eq hC 225 dX11_value_188 (by decide) (fun h185 => ?_) (fun h185 => ?_)
                  · have hr := (ie_s hr).1 h185
                    refine x_iconst hC (0 : Int32) dX11_value_225 (by decide) ?_
                    cases hr
                    exact x_zret hC rfl (Or.inl rfl) dX11_value_226
                  · have hr := (ie_s hr).2 h185
                    refine x_aload_n hC dX11_value_191 rfl 1 rfl ?_
                    refine x_iconst hC (0 : Int32) dX11_value_192 (by decide) ?_
                    obtain ⟨x186, M187, q188, hr⟩ := bd2_s hr
                    refine x_callV (ci := 5) (q := (RX11, TX11, 32)) (As := [.int (0 : Int32)]) hC (hrec.2.2.2.2.2.2.2.2.1 hi0 (0 : Int32) q188) kc_yX11_sum km_X11_187 ki_yX11_sum kv_yX11_sum kn_RX11 ky_yX11_sum rfl ⟨rfl, rfl⟩ ⟨rn_gf, rn_gl (Nat.le_of_ble_eq_true rfl)⟩ hi0 (by decide) rfl rfl (Nat.le_of_ble_eq_true rfl) ⟨(Nat.le_of_ble_eq_true rfl), (Nat.le_of_ble_eq_true rfl)⟩ dX11_value_193 (fun b189 => ?_)
                    refine x_if_eq hC 225 dX11_value_196 (by decide) (fun h190 => ?_) (fun h190 => ?_)
                    · have hr := (ie_s hr).1 h190
                      refine x_iconst hC (0 : Int32) dX11_value_225 (by decide) ?_
                      cases hr
                      exact x_zret hC rfl (Or.inl rfl) dX11_value_226
                    · have hr := (ie_s hr).2 h190
                      refine x_aload_n hC dX11_value_199 rfl 1 rfl ?_
                      refine x_bipush hC (44 : Int32) dX11_value_200 (by decide) ?_
                      obtain ⟨x191, M192, q193, hr⟩ := bd2_s hr
                      refine x_callV (ci := 5) (q := (RX11, TX11, 32)) (As := [.int (44 : Int32)]) hC (c_X11_passSymbol l G M187 hi0 (44 : Int32) q193) kc_yX11_passSymbol km_X11_191 ki_yX11_passSymbol kv_yX11_passSymbol kn_RX11 ky_yX11_passSymbol rfl ⟨rfl, rfl⟩ ⟨rn_f (Nat.le_of_ble_eq_true rfl), rn_l (Nat.le_of_ble_eq_true rfl)⟩ hi0 (by decide) rfl rfl (Nat.le_of_ble_eq_true rfl) ⟨(Nat.le_of_ble_eq_true rfl), (Nat.le_of_ble_eq_true rfl)⟩ dX11_value_202 (fun b194 => ?_)
                      refine x_if_eq hC 225 dX11_value_205 (by decide) (fun h195 => ?_) (fun h195 => ?_)
                      · have hr := (ie_s hr).1 h195
                        refine x_iconst hC (0 : Int32) dX11_value_225 (by decide) ?_
                        cases hr
                        exact x_zret hC rfl (Or.inl rfl) dX11_value_226
                      · have hr := (ie_s hr).2 h195
                        refine x_aload_n hC dX11_value_208 rfl 1 rfl ?_
                        refine x_iconst hC (0 : Int32) dX11_value_209 (by decide) ?_
                        obtain ⟨x196, M197, q198, hr⟩ := bd2_s hr
                        refine x_callV (ci := 5) (q := (RX11, TX11, 32)) (As := [.int (0 : Int32)]) hC (hrec.2.2.2.2.2.2.2.2.1 hi0 (0 : Int32) q198) kc_yX11_sum km_X11_187 ki_yX11_sum kv_yX11_sum kn_RX11 ky_yX11_sum rfl ⟨rfl, rfl⟩ ⟨rn_gf, rn_gl (Nat.le_of_ble_eq_true rfl)⟩ hi0 (by decide) rfl rfl (Nat.le_of_ble_eq_true rfl) ⟨(Nat.le_of_ble_eq_true rfl), (Nat.le_of_ble_eq_true rfl)⟩ dX11_value_210 (fun b199 => ?_)
                        refine x_if_eq hC 225 dX11_value_213 (by decide) (fun h200 => ?_) (fun h200 => ?_)
                        · have hr := (ie_s hr).1 h200
                          refine x_iconst hC (0 : Int32) dX11_value_225 (by decide) ?_
                          cases hr
                          exact x_zret hC rfl (Or.inl rfl) dX11_value_226
                        · have hr := (ie_s hr).2 h200
                          refine x_aload_n hC dX11_value_216 rfl 1 rfl ?_
                          refine x_bipush hC (41 : Int32) dX11_value_217 (by decide) ?_
                          obtain ⟨x201, M202, q203, hr⟩ := bd2_s hr
                          refine x_callV (ci := 5) (q := (RX11, TX11, 32)) (As := [.int (41 : Int32)]) hC (c_X11_shallower l G M197 hi0 (41 : Int32) q203) kc_yX11_shallower km_X11_184 ki_yX11_shallower kv_yX11_shallower kn_RX11 ky_yX11_shallower rfl ⟨rfl, rfl⟩ ⟨rn_f (Nat.le_of_ble_eq_true rfl), rn_l (Nat.le_of_ble_eq_true rfl)⟩ hi0 (by decide) rfl rfl (Nat.le_of_ble_eq_true rfl) ⟨(Nat.le_of_ble_eq_true rfl), (Nat.le_of_ble_eq_true rfl)⟩ dX11_value_219 (fun b204 => ?_)
                          refine x_if_ne hC 227 dX11_value_222 (by decide) (fun h205 => ?_) (fun h205 => ?_)
                          · have hr := (ie_s hr).2 h205
                            refine x_aload_n hC dX11_value_227 rfl 1 rfl ?_
                            refine x_iload_n hC dX11_value_228 rfl 0 rfl ?_
                            obtain ⟨M206, q207, hr⟩ := bd1_s hr
                            refine x_callV (ci := 5) (q := (RX11, TX11, 32)) (As := [.int (M i0 16)]) hC (c_X11_put l G M202 hi0 (M i0 16) q207) kc_yX11_put km_X11_175 ki_yX11_put kv_yX11_put kn_RX11 ky_yX11_put rfl ⟨rfl, rfl⟩ ⟨rn_f (Nat.le_of_ble_eq_true rfl), rn_l (Nat.le_of_ble_eq_true rfl)⟩ hi0 (by decide) rfl rfl (Nat.le_of_ble_eq_true rfl) ⟨(Nat.le_of_ble_eq_true rfl), (Nat.le_of_ble_eq_true rfl)⟩ dX11_value_229 (fun b208 => ?_)
                            refine x_iconst hC (1 : Int32) dX11_value_232 (by decide) ?_
                            cases hr
                            exact x_zret hC rfl (Or.inr rfl) dX11_value_233
                          · have hr := (ie_s hr).1 h205
                            refine x_iconst hC (0 : Int32) dX11_value_225 (by decide) ?_
                            cases hr
                            exact x_zret hC rfl (Or.inl rfl) dX11_value_226
              · have hr := (ie_s hr).1 h173
                refine x_iconst hC (0 : Int32) dX11_value_164 (by decide) ?_
                cases hr
                exact x_zret hC rfl (Or.inl rfl) dX11_value_165
          · have hr := (ie_s hr).2 h130
            refine x_aload_n hC dX11_value_116 rfl 0 rfl ?_
            obtain ⟨x209, M210, q211, hr⟩ := bd2_s hr
            refine x_callV (ci := 5) (q := (RX11, TX11, 32)) (As := []) hC (c_X11_deeper l G M hi0 q211) kc_yX11_deeper km_X11_178 ki_yX11_deeper kv_yX11_deeper kn_RX11 ky_yX11_deeper rfl ⟨rfl, rfl⟩ ⟨rn_f (Nat.le_of_ble_eq_true rfl), rn_l (Nat.le_of_ble_eq_true rfl)⟩ hi0 (by decide) rfl rfl (Nat.le_of_ble_eq_true rfl) ⟨(Nat.le_of_ble_eq_true rfl), (Nat.le_of_ble_eq_true rfl)⟩ dX11_value_117 (fun b212 => ?_)
            refine x_if_eq hC 144 dX11_value_120 (by decide) (fun h213 => ?_) (fun h213 => ?_)
            · have hr := (ie_s hr).1 h213
              refine x_iconst hC (0 : Int32) dX11_value_144 (by decide) ?_
              cases hr
              exact x_zret hC rfl (Or.inl rfl) dX11_value_145
            · have hr := (ie_s hr).2 h213
              refine x_aload_n hC dX11_value_123 rfl 0 rfl ?_
              refine x_iconst hC (0 : Int32) dX11_value_124 (by decide) ?_
              obtain ⟨x214, M215, q216, hr⟩ := bd2_s hr
              refine x_callV (ci := 5) (q := (RX11, TX11, 32)) (As := [.int (0 : Int32)]) hC (hrec.2.2.2.2.2.2.2.2.1 hi0 (0 : Int32) q216) kc_yX11_sum km_X11_187 ki_yX11_sum kv_yX11_sum kn_RX11 ky_yX11_sum rfl ⟨rfl, rfl⟩ ⟨rn_gf, rn_gl (Nat.le_of_ble_eq_true rfl)⟩ hi0 (by decide) rfl rfl (Nat.le_of_ble_eq_true rfl) ⟨(Nat.le_of_ble_eq_true rfl), (Nat.le_of_ble_eq_true rfl)⟩ dX11_value_125 (fun b217 => ?_)
              refine x_if_eq hC 144 dX11_value_128 (by decide) (fun h218 => ?_) (fun h218 => ?_)
              · have hr := (ie_s hr).1 h218
                refine x_iconst hC (0 : Int32) dX11_value_144 (by decide) ?_
                cases hr
                exact x_zret hC rfl (Or.inl rfl) dX11_value_145
              · have hr := (ie_s hr).2 h218
                refine x_aload_n hC dX11_value_131 rfl 0 rfl ?_
                refine x_bipush hC (41 : Int32) dX11_value_132 (by decide) ?_
                obtain ⟨x219, M220, q221, hr⟩ := bd2_s hr
                refine x_callV (ci := 5) (q := (RX11, TX11, 32)) (As := [.int (41 : Int32)]) hC (c_X11_shallower l G M215 hi0 (41 : Int32) q221) kc_yX11_shallower km_X11_184 ki_yX11_shallower kv_yX11_shallower kn_RX11 ky_yX11_shallower rfl ⟨rfl, rfl⟩ ⟨rn_f (Nat.le_of_ble_eq_true rfl), rn_l (Nat.le_of_ble_eq_true rfl)⟩ hi0 (by decide) rfl rfl (Nat.le_of_ble_eq_true rfl) ⟨(Nat.le_of_ble_eq_true rfl), (Nat.le_of_ble_eq_true rfl)⟩ dX11_value_134 (fun b222 => ?_)
                refine x_if_eq hC 144 dX11_value_137 (by decide) (fun h223 => ?_) (fun h223 => ?_)
                · have hr := (ie_s hr).1 h223
                  refine x_iconst hC (0 : Int32) dX11_value_144 (by decide) ?_
                  cases hr
                  exact x_zret hC rfl (Or.inl rfl) dX11_value_145
                · have hr := (ie_s hr).2 h223
                  refine x_iconst hC (1 : Int32) dX11_value_140 (by decide) ?_
                  refine x_goto hC 145 dX11_value_141 (by decide) ?_
                  cases hr
                  exact x_zret hC rfl (Or.inr rfl) dX11_value_145
        · have hr := (ie_s hr).2 h126
          refine x_aload_n hC dX11_value_73 rfl 0 rfl ?_
          obtain ⟨x224, M225, q226, hr⟩ := bd2_s hr
          refine x_callV (ci := 5) (q := (RX11, TX11, 32)) (As := []) hC (c_X11_deeper l G M hi0 q226) kc_yX11_deeper km_X11_178 ki_yX11_deeper kv_yX11_deeper kn_RX11 ky_yX11_deeper rfl ⟨rfl, rfl⟩ ⟨rn_f (Nat.le_of_ble_eq_true rfl), rn_l (Nat.le_of_ble_eq_true rfl)⟩ hi0 (by decide) rfl rfl (Nat.le_of_ble_eq_true rfl) ⟨(Nat.le_of_ble_eq_true rfl), (Nat.le_of_ble_eq_true rfl)⟩ dX11_value_74 (fun b227 => ?_)
          refine x_if_eq hC 87 dX11_value_77 (by decide) (fun h228 => ?_) (fun h228 => ?_)
          · have hr := (ie_s hr).1 h228
            refine x_iconst hC (0 : Int32) dX11_value_87 (by decide) ?_
            cases hr
            exact x_zret hC rfl (Or.inl rfl) dX11_value_88
          · have hr := (ie_s hr).2 h228
            refine x_aload_n hC dX11_value_80 rfl 0 rfl ?_
            obtain ⟨x229, M230, q231, hr⟩ := bd2_s hr
            refine x_callV (ci := 5) (q := (RX11, TX11, 32)) (As := []) hC (hrec.2.2.2.2.2.2.2.2.2.2 hi0 0 q231) kc_yX11_value km_X11_218 ki_yX11_value kv_yX11_value kn_RX11 ky_yX11_value rfl ⟨rfl, rfl⟩ ⟨rn_gf, rn_gl (Nat.le_of_ble_eq_true rfl)⟩ hi0 (by decide) rfl rfl (Nat.le_of_ble_eq_true rfl) ⟨(Nat.le_of_ble_eq_true rfl), (Nat.le_of_ble_eq_true rfl)⟩ dX11_value_81 (fun b232 => ?_)
            refine x_if_ne hC 89 dX11_value_84 (by decide) (fun h233 => ?_) (fun h233 => ?_)
            · have hr := (ie_s hr).2 h233
              refine x_aload_n hC dX11_value_89 rfl 0 rfl ?_
              refine x_dup hC dX11_value_90 rfl ?_
              refine gf_X11_143 hC hi0 dX11_value_91 ?_
              refine x_iconst hC (1 : Int32) dX11_value_94 (by decide) ?_
              refine x_isub hC dX11_value_95 ?_
              obtain ⟨M234, e235, hr⟩ := lz_s hr
              refine pf_X11_143 hC hi0 e235 dX11_value_96 ?_
              refine x_aload_n hC dX11_value_99 rfl 0 rfl ?_
              refine x_bipush hC (51 : Int32) dX11_value_100 (by decide) ?_
              obtain ⟨M236, q237, hr⟩ := bd1_s hr
              refine x_callV (ci := 5) (q := (RX11, TX11, 32)) (As := [.int (51 : Int32)]) hC (c_X11_put l G M234 hi0 (51 : Int32) q237) kc_yX11_put km_X11_175 ki_yX11_put kv_yX11_put kn_RX11 ky_yX11_put rfl ⟨rfl, rfl⟩ ⟨rn_f (Nat.le_of_ble_eq_true rfl), rn_l (Nat.le_of_ble_eq_true rfl)⟩ hi0 (by decide) rfl rfl (Nat.le_of_ble_eq_true rfl) ⟨(Nat.le_of_ble_eq_true rfl), (Nat.le_of_ble_eq_true rfl)⟩ dX11_value_102 (fun b238 => ?_)
              refine x_iconst hC (1 : Int32) dX11_value_105 (by decide) ?_
              cases hr
              exact x_zret hC rfl (Or.inr rfl) dX11_value_106
            · have hr := (ie_s hr).1 h233
              refine x_iconst hC (0 : Int32) dX11_value_87 (by decide) ?_
              cases hr
              exact x_zret hC rfl (Or.inl rfl) dX11_value_88
      · have hr := (ie_s hr).2 h122
        refine x_aload_n hC dX11_value_50 rfl 0 rfl ?_
        refine x_aload_n hC dX11_value_51 rfl 0 rfl ?_
        refine gf_X11_89 hC hi0 dX11_value_52 ?_
        obtain ⟨M239, q240, hr⟩ := bd1_s hr
        refine x_callV (ci := 5) (q := (RX11, TX11, 32)) (As := [.int (M i0 16)]) hC (c_X11_put l G M hi0 (M i0 16) q240) kc_yX11_put km_X11_175 ki_yX11_put kv_yX11_put kn_RX11 ky_yX11_put rfl ⟨rfl, rfl⟩ ⟨rn_f (Nat.le_of_ble_eq_true rfl), rn_l (Nat.le_of_ble_eq_true rfl)⟩ hi0 (by decide) rfl rfl (Nat.le_of_ble_eq_true rfl) ⟨(Nat.le_of_ble_eq_true rfl), (Nat.le_of_ble_eq_true rfl)⟩ dX11_value_55 (fun b241 => ?_)
        refine x_aload_n hC dX11_value_58 rfl 0 rfl ?_
        obtain ⟨M242, q243, hr⟩ := bd1_s hr
        refine x_callV (ci := 5) (q := (RX11, TX11, 32)) (As := []) hC (c_X11_advance l G M239 hi0 q243) kc_yX11_advance km_X11_137 ki_yX11_advance kv_yX11_advance kn_RX11 ky_yX11_advance rfl ⟨rfl, rfl⟩ ⟨rn_f (Nat.le_of_ble_eq_true rfl), rn_l (Nat.le_of_ble_eq_true rfl)⟩ hi0 (by decide) rfl rfl (Nat.le_of_ble_eq_true rfl) ⟨(Nat.le_of_ble_eq_true rfl), (Nat.le_of_ble_eq_true rfl)⟩ dX11_value_59 (fun b244 => ?_)
        refine x_iconst hC (1 : Int32) dX11_value_62 (by decide) ?_
        cases hr
        exact x_zret hC rfl (Or.inr rfl) dX11_value_63
  · have hr := (ie_s hr).1 h1
    refine x_aload_n hC dX11_value_8 rfl 0 rfl ?_
    refine x_bipush hC (50 : Int32) dX11_value_9 (by decide) ?_
    obtain ⟨M245, q246, hr⟩ := bd1_s hr
    refine x_callV (ci := 5) (q := (RX11, TX11, 32)) (As := [.int (50 : Int32)]) hC (c_X11_put l G M hi0 (50 : Int32) q246) kc_yX11_put km_X11_175 ki_yX11_put kv_yX11_put kn_RX11 ky_yX11_put rfl ⟨rfl, rfl⟩ ⟨rn_f (Nat.le_of_ble_eq_true rfl), rn_l (Nat.le_of_ble_eq_true rfl)⟩ hi0 (by decide) rfl rfl (Nat.le_of_ble_eq_true rfl) ⟨(Nat.le_of_ble_eq_true rfl), (Nat.le_of_ble_eq_true rfl)⟩ dX11_value_11 (fun b247 => ?_)
    refine x_aload_n hC dX11_value_14 rfl 0 rfl ?_
    refine x_aload_n hC dX11_value_15 rfl 0 rfl ?_
    refine gf_X11_89 hC hi0 dX11_value_16 ?_
    obtain ⟨M248, q249, hr⟩ := bd1_s hr
    refine x_callV (ci := 5) (q := (RX11, TX11, 32)) (As := [.int (M245 i0 16)]) hC (c_X11_put l G M245 hi0 (M245 i0 16) q249) kc_yX11_put km_X11_175 ki_yX11_put kv_yX11_put kn_RX11 ky_yX11_put rfl ⟨rfl, rfl⟩ ⟨rn_f (Nat.le_of_ble_eq_true rfl), rn_l (Nat.le_of_ble_eq_true rfl)⟩ hi0 (by decide) rfl rfl (Nat.le_of_ble_eq_true rfl) ⟨(Nat.le_of_ble_eq_true rfl), (Nat.le_of_ble_eq_true rfl)⟩ dX11_value_19 (fun b250 => ?_)
    refine x_aload_n hC dX11_value_22 rfl 0 rfl ?_
    obtain ⟨M251, q252, hr⟩ := bd1_s hr
    refine x_callV (ci := 5) (q := (RX11, TX11, 32)) (As := []) hC (c_X11_advance l G M248 hi0 q252) kc_yX11_advance km_X11_137 ki_yX11_advance kv_yX11_advance kn_RX11 ky_yX11_advance rfl ⟨rfl, rfl⟩ ⟨rn_f (Nat.le_of_ble_eq_true rfl), rn_l (Nat.le_of_ble_eq_true rfl)⟩ hi0 (by decide) rfl rfl (Nat.le_of_ble_eq_true rfl) ⟨(Nat.le_of_ble_eq_true rfl), (Nat.le_of_ble_eq_true rfl)⟩ dX11_value_23 (fun b253 => ?_)
    refine x_iconst hC (1 : Int32) dX11_value_26 (by decide) ?_
    cases hr
    exact x_zret hC rfl (Or.inr rfl) dX11_value_27

def f_P11 : Nat → Nat → Nat → Int32 → Mm → Option (Int32 × Mm)
  | 0, _, _, _, _ => none
  | n + 1, k, i0, a, M => if k = 0 then f_X11_block (f_P11 n) i0 M else if k = 1 then f_X11_sentence (f_P11 n) i0 M else if k = 2 then f_X11_branch (f_P11 n) i0 M else if k = 3 then f_X11_repeat (f_P11 n) i0 M else if k = 4 then f_X11_loop (f_P11 n) i0 M else if k = 5 then f_X11_test (f_P11 n) i0 a M else if k = 6 then f_X11_both (f_P11 n) i0 M else if k = 7 then f_X11_single (f_P11 n) i0 M else if k = 8 then f_X11_sum (f_P11 n) i0 a M else if k = 9 then f_X11_product (f_P11 n) i0 M else if k = 10 then f_X11_value (f_P11 n) i0 M else none
theorem c_P11 (l : Launch) (G : GG) : ∀ n, OK_P11 l G (f_P11 n) (RMn n) := by
  intro n
  induction n with
  | zero => exact ⟨(fun _ _ _ _ _ h => by cases h), (fun _ _ _ _ _ h => by cases h), (fun _ _ _ _ _ h => by cases h), (fun _ _ _ _ _ h => by cases h), (fun _ _ _ _ _ h => by cases h), (fun _ _ _ _ _ h => by cases h), (fun _ _ _ _ _ h => by cases h), (fun _ _ _ _ _ h => by cases h), (fun _ _ _ _ _ h => by cases h), (fun _ _ _ _ _ h => by cases h), (fun _ _ _ _ _ h => by cases h)⟩
  | succ n ih => exact ⟨(fun hi0 a _ _ _ h => c_X11_block l G _ (f_P11 n) ih hi0 h),
      (fun hi0 a _ _ _ h => c_X11_sentence l G _ (f_P11 n) ih hi0 h),
      (fun hi0 a _ _ _ h => c_X11_branch l G _ (f_P11 n) ih hi0 h),
      (fun hi0 a _ _ _ h => c_X11_repeat l G _ (f_P11 n) ih hi0 h),
      (fun hi0 a _ _ _ h => c_X11_loop l G _ (f_P11 n) ih hi0 h),
      (fun hi0 a _ _ _ h => c_X11_test l G _ (f_P11 n) ih hi0 a h),
      (fun hi0 a _ _ _ h => c_X11_both l G _ (f_P11 n) ih hi0 h),
      (fun hi0 a _ _ _ h => c_X11_single l G _ (f_P11 n) ih hi0 h),
      (fun hi0 a _ _ _ h => c_X11_sum l G _ (f_P11 n) ih hi0 a h),
      (fun hi0 a _ _ _ h => c_X11_product l G _ (f_P11 n) ih hi0 h),
      (fun hi0 a _ _ _ h => c_X11_value l G _ (f_P11 n) ih hi0 h)⟩
