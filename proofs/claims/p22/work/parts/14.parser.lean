theorem dX4_kind_0 : decode cX4_kind 0 = .ok (.aload_n 0, 1) := by decide +kernel
theorem dX4_kind_1 : decode cX4_kind 1 = .ok (.getfield 12, 3) := by decide +kernel
theorem dX4_kind_4 : decode cX4_kind 4 = .ok (.aload_n 0, 1) := by decide +kernel
theorem dX4_kind_5 : decode cX4_kind 5 = .ok (.getfield 43, 3) := by decide +kernel
theorem dX4_kind_8 : decode cX4_kind 8 = .ok (.invokevirtual 69, 3) := by decide +kernel
theorem dX4_kind_11 : decode cX4_kind 11 = .ok (.areturn, 1) := by decide +kernel

def f_X4_kind (i0 : Nat) (M : Mm) : Option Int32 :=
  bd1 (f_X6_kindOf (i0 + 1) (M i0 4) M) fun x1 => some x1

set_option maxHeartbeats 4000000 in
set_option maxRecDepth 100000 in
theorem c_X4_kind (l : Launch) (G : GG) (M : Mm) {i0 : Nat} (hi0 : (kd i0).1 = 7) {r : Int32} (hr : f_X4_kind i0 M = some r) : Mo false l yX4_kind (WS yX4_kind cX4_kind 1 (some (.object "PeatBog$Token"))) (RM 1 0 0 22) 0 0 [.ref (G.2.1 i0)] G M (some (.ref (G.2.1 (rid r)))) M := by
  refine Mo.of (by decide +kernel) (Nat.le_of_ble_eq_true rfl) ?_
  intro p e s m args below meth c hC
  have hC : CX p s m args meth c cX4_kind 1 RX4 (some (.object "PeatBog$Token")) G := hC
  rw [f_X4_kind] at hr
  show XJ p l e (RM 1 0 0 22) s m args below meth c G 1 _ 0 0 M 0 [(0, .ref (G.2.1 i0))] []
  refine x_aload_n hC dX4_kind_0 rfl 0 rfl ?_
  refine gf_X4_12 hC hi0 dX4_kind_1 ?_
  refine x_aload_n hC dX4_kind_4 rfl 0 rfl ?_
  refine gf_X4_43 hC hi0 dX4_kind_5 ?_
  obtain ⟨x1, q2, hr⟩ := bd1_s hr
  refine x_callV (ci := 8) (q := (RX6, TX6, 5)) (As := [.int (M i0 4)]) hC (c_X6_kindOf l G M (kr_7_0 hi0) (M i0 4) q2) kc_yX6_kindOf km_X4_69 ki_yX6_kindOf kv_yX6_kindOf kn_RX6 ky_yX6_kindOf rfl ⟨rfl, rfl⟩ ⟨(Nat.le_of_ble_eq_true rfl), (Nat.le_of_ble_eq_true rfl)⟩ (kr_7_0 hi0) (by decide) rfl rfl (Nat.le_of_ble_eq_true rfl) ⟨(Nat.le_of_ble_eq_true rfl), (Nat.le_of_ble_eq_true rfl)⟩ dX4_kind_8 (fun b3 => ?_)
  cases hr
  exact x_tret hC rfl dX4_kind_11

theorem dX4_refuse_0 : decode cX4_refuse 0 = .ok (.aload_n 0, 1) := by decide +kernel
theorem dX4_refuse_1 : decode cX4_refuse 1 = .ok (.iconst 1, 1) := by decide +kernel
theorem dX4_refuse_2 : decode cX4_refuse 2 = .ok (.putfield 29, 3) := by decide +kernel
theorem dX4_refuse_5 : decode cX4_refuse 5 = .ok (.aload_n 0, 1) := by decide +kernel
theorem dX4_refuse_6 : decode cX4_refuse 6 = .ok (.aload_n 0, 1) := by decide +kernel
theorem dX4_refuse_7 : decode cX4_refuse 7 = .ok (.getfield 12, 3) := by decide +kernel
theorem dX4_refuse_10 : decode cX4_refuse 10 = .ok (.aload_n 0, 1) := by decide +kernel
theorem dX4_refuse_11 : decode cX4_refuse 11 = .ok (.getfield 43, 3) := by decide +kernel
theorem dX4_refuse_14 : decode cX4_refuse 14 = .ok (.invokevirtual 73, 3) := by decide +kernel
theorem dX4_refuse_17 : decode cX4_refuse 17 = .ok (.putfield 33, 3) := by decide +kernel
theorem dX4_refuse_20 : decode cX4_refuse 20 = .ok (.iconst 0, 1) := by decide +kernel
theorem dX4_refuse_21 : decode cX4_refuse 21 = .ok (.ireturn, 1) := by decide +kernel

def f_X4_refuse (i0 : Nat) (M : Mm) : Option (Int32 × Mm) :=
  lz (wr M i0 5 (1 : Int32)) fun M1 => bd1 (f_X6_startOf (i0 + 1) (M1 i0 4) M1) fun x3 => lz (wr M1 i0 6 x3) fun M6 => some ((0 : Int32), M6)

set_option maxHeartbeats 4000000 in
set_option maxRecDepth 100000 in
theorem c_X4_refuse (l : Launch) (G : GG) (M : Mm) {i0 : Nat} (hi0 : (kd i0).1 = 7) {r : Int32} {M9 : Mm} (hr : f_X4_refuse i0 M = some (r, M9)) : Mo true l yX4_refuse (WS yX4_refuse cX4_refuse 1 (some .boolean)) (RM 1 0 0 21) 0 0 [.ref (G.2.1 i0)] G M (some (.int r)) M9 := by
  refine Mo.of (by decide +kernel) (Nat.le_of_ble_eq_true rfl) ?_
  intro p e s m args below meth c hC
  have hC : CX p s m args meth c cX4_refuse 1 RX4 (some .boolean) G := hC
  rw [f_X4_refuse] at hr
  show XJ p l e (RM 1 0 0 21) s m args below meth c G 1 _ 0 0 M 0 [(0, .ref (G.2.1 i0))] []
  refine x_aload_n hC dX4_refuse_0 rfl 0 rfl ?_
  refine x_iconst hC (1 : Int32) dX4_refuse_1 (by decide) ?_
  obtain ⟨M1, e2, hr⟩ := lz_s hr
  refine pf_X4_29 hC hi0 e2 dX4_refuse_2 ?_
  refine x_aload_n hC dX4_refuse_5 rfl 0 rfl ?_
  refine x_aload_n hC dX4_refuse_6 rfl 0 rfl ?_
  refine gf_X4_12 hC hi0 dX4_refuse_7 ?_
  refine x_aload_n hC dX4_refuse_10 rfl 0 rfl ?_
  refine gf_X4_43 hC hi0 dX4_refuse_11 ?_
  obtain ⟨x3, q4, hr⟩ := bd1_s hr
  refine x_callV (ci := 8) (q := (RX6, TX6, 5)) (As := [.int (M1 i0 4)]) hC (c_X6_startOf l G M1 (kr_7_0 hi0) (M1 i0 4) q4) kc_yX6_startOf km_X4_73 ki_yX6_startOf kv_yX6_startOf kn_RX6 ky_yX6_startOf rfl ⟨rfl, rfl⟩ ⟨(Nat.le_of_ble_eq_true rfl), (Nat.le_of_ble_eq_true rfl)⟩ (kr_7_0 hi0) (by decide) rfl rfl (Nat.le_of_ble_eq_true rfl) ⟨(Nat.le_of_ble_eq_true rfl), (Nat.le_of_ble_eq_true rfl)⟩ dX4_refuse_14 (fun b5 => ?_)
  obtain ⟨M6, e7, hr⟩ := lz_s hr
  refine pf_X4_33 hC hi0 e7 dX4_refuse_17 ?_
  refine x_iconst hC (0 : Int32) dX4_refuse_20 (by decide) ?_
  cases hr
  exact x_zret hC rfl (Or.inl rfl) dX4_refuse_21

theorem dX4_expect_0 : decode cX4_expect 0 = .ok (.aload_n 0, 1) := by decide +kernel
theorem dX4_expect_1 : decode cX4_expect 1 = .ok (.invokevirtual 49, 3) := by decide +kernel
theorem dX4_expect_4 : decode cX4_expect 4 = .ok (.aload_n 1, 1) := by decide +kernel
theorem dX4_expect_5 : decode cX4_expect 5 = .ok (.if_acmp .eq 8, 3) := by decide +kernel
theorem dX4_expect_8 : decode cX4_expect 8 = .ok (.aload_n 0, 1) := by decide +kernel
theorem dX4_expect_9 : decode cX4_expect 9 = .ok (.invokevirtual 66, 3) := by decide +kernel
theorem dX4_expect_12 : decode cX4_expect 12 = .ok (.ireturn, 1) := by decide +kernel
theorem dX4_expect_13 : decode cX4_expect 13 = .ok (.aload_n 0, 1) := by decide +kernel
theorem dX4_expect_14 : decode cX4_expect 14 = .ok (.dup, 1) := by decide +kernel
theorem dX4_expect_15 : decode cX4_expect 15 = .ok (.getfield 43, 3) := by decide +kernel
theorem dX4_expect_18 : decode cX4_expect 18 = .ok (.iconst 1, 1) := by decide +kernel
theorem dX4_expect_19 : decode cX4_expect 19 = .ok (.iadd, 1) := by decide +kernel
theorem dX4_expect_20 : decode cX4_expect 20 = .ok (.putfield 43, 3) := by decide +kernel
theorem dX4_expect_23 : decode cX4_expect 23 = .ok (.iconst 1, 1) := by decide +kernel
theorem dX4_expect_24 : decode cX4_expect 24 = .ok (.ireturn, 1) := by decide +kernel

def f_X4_expect (i0 : Nat) (a1 : Int32) (M : Mm) : Option (Int32 × Mm) :=
  bd1 (f_X4_kind i0 M) fun x1 => if tkc x1 then (if tkc a1 then (if (x1 = a1) then (lz (wr M i0 4 ((M i0 4) + (1 : Int32))) fun M7 => some ((1 : Int32), M7)) else (bd2 (f_X4_refuse i0 M) fun x9 M10 => some (x9, M10))) else none) else none

set_option maxHeartbeats 4000000 in
set_option maxRecDepth 100000 in
theorem c_X4_expect (l : Launch) (G : GG) (M : Mm) {i0 : Nat} (hi0 : (kd i0).1 = 7) (a1 : Int32) {r : Int32} {M9 : Mm} (hr : f_X4_expect i0 a1 M = some (r, M9)) : Mo true l yX4_expect (WS yX4_expect cX4_expect 2 (some .boolean)) (RM 2 0 0 42) 0 0 [.ref (G.2.1 i0), .ref (G.2.1 (rid a1))] G M (some (.int r)) M9 := by
  refine Mo.of (by decide +kernel) (Nat.le_of_ble_eq_true rfl) ?_
  intro p e s m args below meth c hC
  have hC : CX p s m args meth c cX4_expect 2 RX4 (some .boolean) G := hC
  rw [f_X4_expect] at hr
  show XJ p l e (RM 2 0 0 42) s m args below meth c G 2 _ 0 0 M 0 [(0, .ref (G.2.1 i0)), (1, .ref (G.2.1 (rid a1)))] []
  refine x_aload_n hC dX4_expect_0 rfl 0 rfl ?_
  obtain ⟨x1, q2, hr⟩ := bd1_s hr
  refine x_callV (ci := 7) (q := (RX4, TX4, 7)) (As := []) hC (c_X4_kind l G M hi0 q2) kc_yX4_kind km_X4_49 ki_yX4_kind kv_yX4_kind kn_RX4 ky_yX4_kind rfl ⟨rfl, rfl⟩ ⟨(Nat.le_of_ble_eq_true rfl), (Nat.le_of_ble_eq_true rfl)⟩ hi0 (by decide) rfl rfl (Nat.le_of_ble_eq_true rfl) ⟨(Nat.le_of_ble_eq_true rfl), (Nat.le_of_ble_eq_true rfl)⟩ dX4_expect_1 (fun b3 => ?_)
  refine x_aload_n hC dX4_expect_4 rfl 1 rfl ?_
  obtain ⟨h4, hr⟩ := it_s hr
  obtain ⟨h5, hr⟩ := it_s hr
  refine x_acmp_eq hC 13 ⟨h4, h5⟩ dX4_expect_5 (by decide) (fun h6 => ?_) (fun h6 => ?_)
  · have hr := (ie_s hr).1 h6
    refine x_aload_n hC dX4_expect_13 rfl 0 rfl ?_
    refine x_dup hC dX4_expect_14 rfl ?_
    refine gf_X4_43 hC hi0 dX4_expect_15 ?_
    refine x_iconst hC (1 : Int32) dX4_expect_18 (by decide) ?_
    refine x_iadd hC dX4_expect_19 ?_
    obtain ⟨M7, e8, hr⟩ := lz_s hr
    refine pf_X4_43 hC hi0 e8 dX4_expect_20 ?_
    refine x_iconst hC (1 : Int32) dX4_expect_23 (by decide) ?_
    cases hr
    exact x_zret hC rfl (Or.inr rfl) dX4_expect_24
  · have hr := (ie_s hr).2 h6
    refine x_aload_n hC dX4_expect_8 rfl 0 rfl ?_
    obtain ⟨x9, M10, q11, hr⟩ := bd2_s hr
    refine x_callV (ci := 7) (q := (RX4, TX4, 7)) (As := []) hC (c_X4_refuse l G M hi0 q11) kc_yX4_refuse km_X4_66 ki_yX4_refuse kv_yX4_refuse kn_RX4 ky_yX4_refuse rfl ⟨rfl, rfl⟩ ⟨(Nat.le_of_ble_eq_true rfl), (Nat.le_of_ble_eq_true rfl)⟩ hi0 (by decide) rfl rfl (Nat.le_of_ble_eq_true rfl) ⟨(Nat.le_of_ble_eq_true rfl), (Nat.le_of_ble_eq_true rfl)⟩ dX4_expect_9 (fun b12 => ?_)
    cases hr
    exact x_zret hC rfl (BV.out b12) dX4_expect_12

theorem dX4_note_0 : decode cX4_note 0 = .ok (.aload_n 0, 1) := by decide +kernel
theorem dX4_note_1 : decode cX4_note 1 = .ok (.getfield 29, 3) := by decide +kernel
theorem dX4_note_4 : decode cX4_note 4 = .ok (.ifCond .ne 20, 3) := by decide +kernel
theorem dX4_note_7 : decode cX4_note 7 = .ok (.aload_n 0, 1) := by decide +kernel
theorem dX4_note_8 : decode cX4_note 8 = .ok (.iload_n 1, 1) := by decide +kernel
theorem dX4_note_9 : decode cX4_note 9 = .ok (.putfield 29, 3) := by decide +kernel
theorem dX4_note_12 : decode cX4_note 12 = .ok (.aload_n 0, 1) := by decide +kernel
theorem dX4_note_13 : decode cX4_note 13 = .ok (.aload_n 0, 1) := by decide +kernel
theorem dX4_note_14 : decode cX4_note 14 = .ok (.getfield 12, 3) := by decide +kernel
theorem dX4_note_17 : decode cX4_note 17 = .ok (.iload_n 2, 1) := by decide +kernel
theorem dX4_note_18 : decode cX4_note 18 = .ok (.invokevirtual 73, 3) := by decide +kernel
theorem dX4_note_21 : decode cX4_note 21 = .ok (.putfield 33, 3) := by decide +kernel
theorem dX4_note_24 : decode cX4_note 24 = .ok (.return_, 1) := by decide +kernel

def f_X4_note (i0 : Nat) (a1 : Int32) (a2 : Int32) (M : Mm) : Option Mm :=
  if ((M i0 5) = 0) then (lz (wr M i0 5 a1) fun M2 => bd1 (f_X6_startOf (i0 + 1) a2 M2) fun x4 => lz (wr M2 i0 6 x4) fun M7 => some M7) else (some M)

set_option maxHeartbeats 4000000 in
set_option maxRecDepth 100000 in
theorem c_X4_note (l : Launch) (G : GG) (M : Mm) {i0 : Nat} (hi0 : (kd i0).1 = 7) (a1 : Int32) (a2 : Int32) {M9 : Mm} (hr : f_X4_note i0 a1 a2 M = some M9) : Mo false l yX4_note (WS yX4_note cX4_note 3 none) (RM 1 0 0 21) 0 0 [.ref (G.2.1 i0), .int a1, .int a2] G M none M9 := by
  refine Mo.of (by decide +kernel) (Nat.le_of_ble_eq_true rfl) ?_
  intro p e s m args below meth c hC
  have hC : CX p s m args meth c cX4_note 3 RX4 none G := hC
  rw [f_X4_note] at hr
  show XJ p l e (RM 1 0 0 21) s m args below meth c G 3 _ 0 0 M 0 [(0, .ref (G.2.1 i0)), (1, .int a1), (2, .int a2)] []
  refine x_aload_n hC dX4_note_0 rfl 0 rfl ?_
  refine gf_X4_29 hC hi0 dX4_note_1 ?_
  refine x_if_ne hC 24 dX4_note_4 (by decide) (fun h1 => ?_) (fun h1 => ?_)
  · have hr := (ie_s hr).2 h1
    cases hr
    exact x_vret hC rfl dX4_note_24
  · have hr := (ie_s hr).1 h1
    refine x_aload_n hC dX4_note_7 rfl 0 rfl ?_
    refine x_iload_n hC dX4_note_8 rfl 1 rfl ?_
    obtain ⟨M2, e3, hr⟩ := lz_s hr
    refine pf_X4_29 hC hi0 e3 dX4_note_9 ?_
    refine x_aload_n hC dX4_note_12 rfl 0 rfl ?_
    refine x_aload_n hC dX4_note_13 rfl 0 rfl ?_
    refine gf_X4_12 hC hi0 dX4_note_14 ?_
    refine x_iload_n hC dX4_note_17 rfl 2 rfl ?_
    obtain ⟨x4, q5, hr⟩ := bd1_s hr
    refine x_callV (ci := 8) (q := (RX6, TX6, 5)) (As := [.int a2]) hC (c_X6_startOf l G M2 (kr_7_0 hi0) a2 q5) kc_yX6_startOf km_X4_73 ki_yX6_startOf kv_yX6_startOf kn_RX6 ky_yX6_startOf rfl ⟨rfl, rfl⟩ ⟨(Nat.le_of_ble_eq_true rfl), (Nat.le_of_ble_eq_true rfl)⟩ (kr_7_0 hi0) (by decide) rfl rfl (Nat.le_of_ble_eq_true rfl) ⟨(Nat.le_of_ble_eq_true rfl), (Nat.le_of_ble_eq_true rfl)⟩ dX4_note_18 (fun b6 => ?_)
    obtain ⟨M7, e8, hr⟩ := lz_s hr
    refine pf_X4_33 hC hi0 e8 dX4_note_21 ?_
    cases hr
    exact x_vret hC rfl dX4_note_24

theorem dX4_noteName_0 : decode cX4_noteName 0 = .ok (.iconst 0, 1) := by decide +kernel
theorem dX4_noteName_1 : decode cX4_noteName 1 = .ok (.istore_n 2, 1) := by decide +kernel
theorem dX4_noteName_2 : decode cX4_noteName 2 = .ok (.iload_n 2, 1) := by decide +kernel
theorem dX4_noteName_3 : decode cX4_noteName 3 = .ok (.aload_n 0, 1) := by decide +kernel
theorem dX4_noteName_4 : decode cX4_noteName 4 = .ok (.getfield 46, 3) := by decide +kernel
theorem dX4_noteName_7 : decode cX4_noteName 7 = .ok (.if_icmp .ge 32, 3) := by decide +kernel
theorem dX4_noteName_10 : decode cX4_noteName 10 = .ok (.aload_n 0, 1) := by decide +kernel
theorem dX4_noteName_11 : decode cX4_noteName 11 = .ok (.getfield 12, 3) := by decide +kernel
theorem dX4_noteName_14 : decode cX4_noteName 14 = .ok (.aload_n 0, 1) := by decide +kernel
theorem dX4_noteName_15 : decode cX4_noteName 15 = .ok (.getfield 18, 3) := by decide +kernel
theorem dX4_noteName_18 : decode cX4_noteName 18 = .ok (.iload_n 2, 1) := by decide +kernel
theorem dX4_noteName_19 : decode cX4_noteName 19 = .ok (.iaload, 1) := by decide +kernel
theorem dX4_noteName_20 : decode cX4_noteName 20 = .ok (.iload_n 1, 1) := by decide +kernel
theorem dX4_noteName_21 : decode cX4_noteName 21 = .ok (.invokevirtual 111, 3) := by decide +kernel
theorem dX4_noteName_24 : decode cX4_noteName 24 = .ok (.ifCond .eq 9, 3) := by decide +kernel
theorem dX4_noteName_27 : decode cX4_noteName 27 = .ok (.aload_n 0, 1) := by decide +kernel
theorem dX4_noteName_28 : decode cX4_noteName 28 = .ok (.iconst 2, 1) := by decide +kernel
theorem dX4_noteName_29 : decode cX4_noteName 29 = .ok (.iload_n 1, 1) := by decide +kernel
theorem dX4_noteName_30 : decode cX4_noteName 30 = .ok (.invokevirtual 114, 3) := by decide +kernel
theorem dX4_noteName_33 : decode cX4_noteName 33 = .ok (.iinc 2 1, 3) := by decide +kernel
theorem dX4_noteName_36 : decode cX4_noteName 36 = .ok (.goto (-34), 3) := by decide +kernel
theorem dX4_noteName_39 : decode cX4_noteName 39 = .ok (.aload_n 0, 1) := by decide +kernel
theorem dX4_noteName_40 : decode cX4_noteName 40 = .ok (.getfield 46, 3) := by decide +kernel
theorem dX4_noteName_43 : decode cX4_noteName 43 = .ok (.iconst 4, 1) := by decide +kernel
theorem dX4_noteName_44 : decode cX4_noteName 44 = .ok (.if_icmp .ge 26, 3) := by decide +kernel
theorem dX4_noteName_47 : decode cX4_noteName 47 = .ok (.aload_n 0, 1) := by decide +kernel
theorem dX4_noteName_48 : decode cX4_noteName 48 = .ok (.getfield 18, 3) := by decide +kernel
theorem dX4_noteName_51 : decode cX4_noteName 51 = .ok (.aload_n 0, 1) := by decide +kernel
theorem dX4_noteName_52 : decode cX4_noteName 52 = .ok (.getfield 46, 3) := by decide +kernel
theorem dX4_noteName_55 : decode cX4_noteName 55 = .ok (.iload_n 1, 1) := by decide +kernel
theorem dX4_noteName_56 : decode cX4_noteName 56 = .ok (.iastore, 1) := by decide +kernel
theorem dX4_noteName_57 : decode cX4_noteName 57 = .ok (.aload_n 0, 1) := by decide +kernel
theorem dX4_noteName_58 : decode cX4_noteName 58 = .ok (.dup, 1) := by decide +kernel
theorem dX4_noteName_59 : decode cX4_noteName 59 = .ok (.getfield 46, 3) := by decide +kernel
theorem dX4_noteName_62 : decode cX4_noteName 62 = .ok (.iconst 1, 1) := by decide +kernel
theorem dX4_noteName_63 : decode cX4_noteName 63 = .ok (.iadd, 1) := by decide +kernel
theorem dX4_noteName_64 : decode cX4_noteName 64 = .ok (.putfield 46, 3) := by decide +kernel
theorem dX4_noteName_67 : decode cX4_noteName 67 = .ok (.goto 9, 3) := by decide +kernel
theorem dX4_noteName_70 : decode cX4_noteName 70 = .ok (.aload_n 0, 1) := by decide +kernel
theorem dX4_noteName_71 : decode cX4_noteName 71 = .ok (.iconst 4, 1) := by decide +kernel
theorem dX4_noteName_72 : decode cX4_noteName 72 = .ok (.iload_n 1, 1) := by decide +kernel
theorem dX4_noteName_73 : decode cX4_noteName 73 = .ok (.invokevirtual 114, 3) := by decide +kernel
theorem dX4_noteName_76 : decode cX4_noteName 76 = .ok (.return_, 1) := by decide +kernel
def f_X4_noteName_L2 (i0 : Nat) (a1 : Int32) : Nat → Int32 → Mm → Option (Mm)
  | 0, _, _ => none
  | n + 1, v2, M =>
    if ((M i0 2) ≤ v2) then (some (M)) else (if 0 ≤ v2.toInt ∧ v2.toInt < ((4 : Nat) : Int) then (bd1 (f_X6_isSameText (i0 + 1) (M (i0 + 6) (ix v2)) a1 M) fun x3 => bd1 (if (x3 = 0) then (some (M)) else (bd1 (f_X4_note i0 (2 : Int32) a1 M) fun M8 => some (M8))) fun M11 => lz (v2 + (1 : Int32)) fun x12 => f_X4_noteName_L2 i0 a1 n x12 M11) else none)
def f_X4_noteName (i0 : Nat) (a1 : Int32) (M : Mm) : Option Mm :=
  bd1 (f_X4_noteName_L2 i0 a1 FU (0 : Int32) M) fun M15 => if ((4 : Int32) ≤ (M15 i0 2)) then (bd1 (f_X4_note i0 (4 : Int32) a1 M15) fun M17 => some M17) else (if 0 ≤ (M15 i0 2).toInt ∧ (M15 i0 2).toInt < ((4 : Nat) : Int) then (lz (wr M15 (i0 + 6) (ix (M15 i0 2)) a1) fun M21 => lz (wr M21 i0 2 ((M21 i0 2) + (1 : Int32))) fun M23 => some M23) else none)
set_option maxHeartbeats 4000000 in
set_option maxRecDepth 100000 in
theorem l_X4_noteName_L2 {p : Program} {e : Env} {s : State} {m : MethodId} {args : Array Value} {below : List Frame} {meth : Method} {c : Code} {l : Launch} {G : GG} {Q : State → Prop} (hC : CX p s m args meth c cX4_noteName 3 RX4 none G) {i0 : Nat} (hi0 : (kd i0).1 = 7) (a1 : Int32) : ∀ (n : Nat) (v2 : Int32) (M : Mm) {M2 : Mm} (hr : f_X4_noteName_L2 i0 a1 n v2 M = some (M2)) (K : XJ p l e (RM 2 0 0 47) s m args below meth c G 3 Q 0 0 M2 39 [(0, .ref (G.2.1 i0)), (1, .int a1)] []), XJ p l e (RM 2 0 0 47) s m args below meth c G 3 Q 0 0 M 2 [(0, .ref (G.2.1 i0)), (1, .int a1), (2, .int v2)] [] := by
  intro n
  induction n with
  | zero => intro v2 M M2 hr K; rw [f_X4_noteName_L2] at hr; cases hr
  | succ n ih =>
    intro v2 M M2 hr K
    rw [f_X4_noteName_L2] at hr
    refine x_iload_n hC dX4_noteName_2 rfl 2 rfl ?_
    refine x_aload_n hC dX4_noteName_3 rfl 0 rfl ?_
    refine gf_X4_46 hC hi0 dX4_noteName_4 ?_
    refine x_icmp_ge hC 39 dX4_noteName_7 (by decide) (fun h1 => ?_) (fun h1 => ?_)
    · have hr := (ie_s hr).1 h1
      cases hr
      exact x_sub [0, 1] rfl K
    · have hr := (ie_s hr).2 h1
      refine x_aload_n hC dX4_noteName_10 rfl 0 rfl ?_
      refine gf_X4_12 hC hi0 dX4_noteName_11 ?_
      refine x_aload_n hC dX4_noteName_14 rfl 0 rfl ?_
      refine gf_X4_18 hC hi0 dX4_noteName_15 ?_
      refine x_iload_n hC dX4_noteName_18 rfl 2 rfl ?_
      obtain ⟨h2, hr⟩ := it_s hr
      refine x_iald hC (kr_7_1 hi0) h2 dX4_noteName_19 ?_
      refine x_iload_n hC dX4_noteName_20 rfl 1 rfl ?_
      obtain ⟨x3, q4, hr⟩ := bd1_s hr
      refine x_callV (ci := 8) (q := (RX6, TX6, 5)) (As := [.int (M (i0 + 6) (ix v2)), .int a1]) hC (c_X6_isSameText l G M (kr_7_0 hi0) (M (i0 + 6) (ix v2)) a1 q4) kc_yX6_isSameText km_X4_111 ki_yX6_isSameText kv_yX6_isSameText kn_RX6 ky_yX6_isSameText rfl ⟨rfl, rfl⟩ ⟨(Nat.le_of_ble_eq_true rfl), (Nat.le_of_ble_eq_true rfl)⟩ (kr_7_0 hi0) (by decide) rfl rfl (Nat.le_of_ble_eq_true rfl) ⟨(Nat.le_of_ble_eq_true rfl), (Nat.le_of_ble_eq_true rfl)⟩ dX4_noteName_21 (fun b5 => ?_)
      obtain ⟨M11, q6, hr⟩ := bd1_s hr
      refine x_join (M' := M11) (pc' := 33) (lv' := [(0, .ref (G.2.1 i0)), (1, .int a1), (2, .int v2)]) (st' := []) ?_ ?_
      · obtain ⟨x12, e13, hr⟩ := lz_s hr
        refine x_iinc hC [(2, .int x12), (0, .ref (G.2.1 i0)), (1, .int a1)] dX4_noteName_33 2 rfl (by rw [e13]; rfl) (Nat.le_of_ble_eq_true rfl) rfl ?_
        refine x_goto hC 2 dX4_noteName_36 (by decide) ?_
        exact x_sub [1, 2, 0] rfl (ih x12 M11 hr K)
      · intro kj
        refine x_if_eq hC 33 dX4_noteName_24 (by decide) (fun h7 => ?_) (fun h7 => ?_)
        · have q6 := (ie_s q6).1 h7
          cases q6
          exact x_sub [0, 1, 2] rfl kj
        · have q6 := (ie_s q6).2 h7
          refine x_aload_n hC dX4_noteName_27 rfl 0 rfl ?_
          refine x_iconst hC (2 : Int32) dX4_noteName_28 (by decide) ?_
          refine x_iload_n hC dX4_noteName_29 rfl 1 rfl ?_
          obtain ⟨M8, q9, q6⟩ := bd1_s q6
          refine x_callV (ci := 7) (q := (RX4, TX4, 7)) (As := [.int (2 : Int32), .int a1]) hC (c_X4_note l G M hi0 (2 : Int32) a1 q9) kc_yX4_note km_X4_114 ki_yX4_note kv_yX4_note kn_RX4 ky_yX4_note rfl ⟨rfl, rfl⟩ ⟨(Nat.le_of_ble_eq_true rfl), (Nat.le_of_ble_eq_true rfl)⟩ hi0 (by decide) rfl rfl (Nat.le_of_ble_eq_true rfl) ⟨(Nat.le_of_ble_eq_true rfl), (Nat.le_of_ble_eq_true rfl)⟩ dX4_noteName_30 (fun b10 => ?_)
          cases q6
          exact x_sub [0, 1, 2] rfl kj
set_option maxHeartbeats 4000000 in
set_option maxRecDepth 100000 in
theorem c_X4_noteName (l : Launch) (G : GG) (M : Mm) {i0 : Nat} (hi0 : (kd i0).1 = 7) (a1 : Int32) {M9 : Mm} (hr : f_X4_noteName i0 a1 M = some M9) : Mo false l yX4_noteName (WS yX4_noteName cX4_noteName 3 none) (RM 2 0 0 47) 0 0 [.ref (G.2.1 i0), .int a1] G M none M9 := by
  refine Mo.of (by decide +kernel) (Nat.le_of_ble_eq_true rfl) ?_
  intro p e s m args below meth c hC
  have hC : CX p s m args meth c cX4_noteName 3 RX4 none G := hC
  rw [f_X4_noteName] at hr
  show XJ p l e (RM 2 0 0 47) s m args below meth c G 3 _ 0 0 M 0 [(0, .ref (G.2.1 i0)), (1, .int a1)] []
  refine x_iconst hC (0 : Int32) dX4_noteName_0 (by decide) ?_
  refine x_istore_n hC [(2, .int (0 : Int32)), (0, .ref (G.2.1 i0)), (1, .int a1)] dX4_noteName_1 rfl (Nat.le_of_ble_eq_true rfl) rfl ?_
  obtain ⟨M15, q14, hr⟩ := bd1_s hr
  refine x_sub [1, 2, 0] rfl (l_X4_noteName_L2 hC hi0 a1 FU  (0 : Int32) M q14 ?_)
  refine x_aload_n hC dX4_noteName_39 rfl 0 rfl ?_
  refine gf_X4_46 hC hi0 dX4_noteName_40 ?_
  refine x_iconst hC (4 : Int32) dX4_noteName_43 (by decide) ?_
  refine x_icmp_ge hC 70 dX4_noteName_44 (by decide) (fun h16 => ?_) (fun h16 => ?_)
  · have hr := (ie_s hr).1 h16
    refine x_aload_n hC dX4_noteName_70 rfl 0 rfl ?_
    refine x_iconst hC (4 : Int32) dX4_noteName_71 (by decide) ?_
    refine x_iload_n hC dX4_noteName_72 rfl 1 rfl ?_
    obtain ⟨M17, q18, hr⟩ := bd1_s hr
    refine x_callV (ci := 7) (q := (RX4, TX4, 7)) (As := [.int (4 : Int32), .int a1]) hC (c_X4_note l G M15 hi0 (4 : Int32) a1 q18) kc_yX4_note km_X4_114 ki_yX4_note kv_yX4_note kn_RX4 ky_yX4_note rfl ⟨rfl, rfl⟩ ⟨(Nat.le_of_ble_eq_true rfl), (Nat.le_of_ble_eq_true rfl)⟩ hi0 (by decide) rfl rfl (Nat.le_of_ble_eq_true rfl) ⟨(Nat.le_of_ble_eq_true rfl), (Nat.le_of_ble_eq_true rfl)⟩ dX4_noteName_73 (fun b19 => ?_)
    cases hr
    exact x_vret hC rfl dX4_noteName_76
  · have hr := (ie_s hr).2 h16
    refine x_aload_n hC dX4_noteName_47 rfl 0 rfl ?_
    refine gf_X4_18 hC hi0 dX4_noteName_48 ?_
    refine x_aload_n hC dX4_noteName_51 rfl 0 rfl ?_
    refine gf_X4_46 hC hi0 dX4_noteName_52 ?_
    refine x_iload_n hC dX4_noteName_55 rfl 1 rfl ?_
    obtain ⟨h20, hr⟩ := it_s hr
    obtain ⟨M21, e22, hr⟩ := lz_s hr
    refine x_iast hC (kr_7_1 hi0) h20 e22 dX4_noteName_56 ?_
    refine x_aload_n hC dX4_noteName_57 rfl 0 rfl ?_
    refine x_dup hC dX4_noteName_58 rfl ?_
    refine gf_X4_46 hC hi0 dX4_noteName_59 ?_
    refine x_iconst hC (1 : Int32) dX4_noteName_62 (by decide) ?_
    refine x_iadd hC dX4_noteName_63 ?_
    obtain ⟨M23, e24, hr⟩ := lz_s hr
    refine pf_X4_46 hC hi0 e24 dX4_noteName_64 ?_
    refine x_goto hC 76 dX4_noteName_67 (by decide) ?_
    cases hr
    exact x_vret hC rfl dX4_noteName_76

theorem dX4_limitedNumber_0 : decode cX4_limitedNumber 0 = .ok (.aload_n 0, 1) := by decide +kernel
theorem dX4_limitedNumber_1 : decode cX4_limitedNumber 1 = .ok (.getfield 43, 3) := by decide +kernel
theorem dX4_limitedNumber_4 : decode cX4_limitedNumber 4 = .ok (.istore_n 2, 1) := by decide +kernel
theorem dX4_limitedNumber_5 : decode cX4_limitedNumber 5 = .ok (.aload_n 0, 1) := by decide +kernel
theorem dX4_limitedNumber_6 : decode cX4_limitedNumber 6 = .ok (.getstatic 117, 3) := by decide +kernel
theorem dX4_limitedNumber_9 : decode cX4_limitedNumber 9 = .ok (.invokevirtual 80, 3) := by decide +kernel
theorem dX4_limitedNumber_12 : decode cX4_limitedNumber 12 = .ok (.ifCond .ne 5, 3) := by decide +kernel
theorem dX4_limitedNumber_15 : decode cX4_limitedNumber 15 = .ok (.iconst 0, 1) := by decide +kernel
theorem dX4_limitedNumber_16 : decode cX4_limitedNumber 16 = .ok (.ireturn, 1) := by decide +kernel
theorem dX4_limitedNumber_17 : decode cX4_limitedNumber 17 = .ok (.aload_n 0, 1) := by decide +kernel
theorem dX4_limitedNumber_18 : decode cX4_limitedNumber 18 = .ok (.getfield 12, 3) := by decide +kernel
theorem dX4_limitedNumber_21 : decode cX4_limitedNumber 21 = .ok (.iload_n 2, 1) := by decide +kernel
theorem dX4_limitedNumber_22 : decode cX4_limitedNumber 22 = .ok (.invokevirtual 95, 3) := by decide +kernel
theorem dX4_limitedNumber_25 : decode cX4_limitedNumber 25 = .ok (.iload_n 1, 1) := by decide +kernel
theorem dX4_limitedNumber_26 : decode cX4_limitedNumber 26 = .ok (.if_icmp .le 9, 3) := by decide +kernel
theorem dX4_limitedNumber_29 : decode cX4_limitedNumber 29 = .ok (.aload_n 0, 1) := by decide +kernel
theorem dX4_limitedNumber_30 : decode cX4_limitedNumber 30 = .ok (.iconst 3, 1) := by decide +kernel
theorem dX4_limitedNumber_31 : decode cX4_limitedNumber 31 = .ok (.iload_n 2, 1) := by decide +kernel
theorem dX4_limitedNumber_32 : decode cX4_limitedNumber 32 = .ok (.invokevirtual 114, 3) := by decide +kernel
theorem dX4_limitedNumber_35 : decode cX4_limitedNumber 35 = .ok (.iconst 1, 1) := by decide +kernel
theorem dX4_limitedNumber_36 : decode cX4_limitedNumber 36 = .ok (.ireturn, 1) := by decide +kernel

def f_X4_limitedNumber (i0 : Nat) (a1 : Int32) (M : Mm) : Option (Int32 × Mm) :=
  bd2 (f_X4_expect i0 (1049 : Int32) M) fun x1 M2 => if (x1 = 0) then (some ((0 : Int32), M2)) else (bd1 (f_X6_numberAt (i0 + 1) (M i0 4) M2) fun x6 => bd1 (if (x6 ≤ a1) then (some (M2)) else (bd1 (f_X4_note i0 (3 : Int32) (M i0 4) M2) fun M11 => some (M11))) fun M14 => some ((1 : Int32), M14))

set_option maxHeartbeats 4000000 in
set_option maxRecDepth 100000 in
theorem c_X4_limitedNumber (l : Launch) (G : GG) (M : Mm) {i0 : Nat} (hi0 : (kd i0).1 = 7) (a1 : Int32) {r : Int32} {M9 : Mm} (hr : f_X4_limitedNumber i0 a1 M = some (r, M9)) : Mo true l yX4_limitedNumber (WS yX4_limitedNumber cX4_limitedNumber 3 (some .boolean)) (RM 3 0 0 63) 0 0 [.ref (G.2.1 i0), .int a1] G M (some (.int r)) M9 := by
  refine Mo.of (by decide +kernel) (Nat.le_of_ble_eq_true rfl) ?_
  intro p e s m args below meth c hC
  have hC : CX p s m args meth c cX4_limitedNumber 3 RX4 (some .boolean) G := hC
  rw [f_X4_limitedNumber] at hr
  show XJ p l e (RM 3 0 0 63) s m args below meth c G 3 _ 0 0 M 0 [(0, .ref (G.2.1 i0)), (1, .int a1)] []
  refine x_aload_n hC dX4_limitedNumber_0 rfl 0 rfl ?_
  refine gf_X4_43 hC hi0 dX4_limitedNumber_1 ?_
  refine x_istore_n hC [(2, .int (M i0 4)), (0, .ref (G.2.1 i0)), (1, .int a1)] dX4_limitedNumber_4 rfl (Nat.le_of_ble_eq_true rfl) rfl ?_
  refine x_aload_n hC dX4_limitedNumber_5 rfl 1 rfl ?_
  refine x_tgets hC (a := (1049 : Int32)) 48 (by decide) rfl (by decide) kf_X4_117 dX4_limitedNumber_6 ?_
  obtain ⟨x1, M2, q3, hr⟩ := bd2_s hr
  refine x_callV (ci := 7) (q := (RX4, TX4, 7)) (As := [.ref (G.2.1 (rid (1049 : Int32)))]) hC (c_X4_expect l G M hi0 (1049 : Int32) q3) kc_yX4_expect km_X4_80 ki_yX4_expect kv_yX4_expect kn_RX4 ky_yX4_expect rfl ⟨rfl, rfl⟩ ⟨(Nat.le_of_ble_eq_true rfl), (Nat.le_of_ble_eq_true rfl)⟩ hi0 (by decide) rfl rfl (Nat.le_of_ble_eq_true rfl) ⟨(Nat.le_of_ble_eq_true rfl), (Nat.le_of_ble_eq_true rfl)⟩ dX4_limitedNumber_9 (fun b4 => ?_)
  refine x_if_ne hC 17 dX4_limitedNumber_12 (by decide) (fun h5 => ?_) (fun h5 => ?_)
  · have hr := (ie_s hr).2 h5
    refine x_aload_n hC dX4_limitedNumber_17 rfl 1 rfl ?_
    refine gf_X4_12 hC hi0 dX4_limitedNumber_18 ?_
    refine x_iload_n hC dX4_limitedNumber_21 rfl 0 rfl ?_
    obtain ⟨x6, q7, hr⟩ := bd1_s hr
    refine x_callV (ci := 8) (q := (RX6, TX6, 5)) (As := [.int (M i0 4)]) hC (c_X6_numberAt l G M2 (kr_7_0 hi0) (M i0 4) q7) kc_yX6_numberAt km_X4_95 ki_yX6_numberAt kv_yX6_numberAt kn_RX6 ky_yX6_numberAt rfl ⟨rfl, rfl⟩ ⟨(Nat.le_of_ble_eq_true rfl), (Nat.le_of_ble_eq_true rfl)⟩ (kr_7_0 hi0) (by decide) rfl rfl (Nat.le_of_ble_eq_true rfl) ⟨(Nat.le_of_ble_eq_true rfl), (Nat.le_of_ble_eq_true rfl)⟩ dX4_limitedNumber_22 (fun b8 => ?_)
    refine x_iload_n hC dX4_limitedNumber_25 rfl 2 rfl ?_
    obtain ⟨M14, q9, hr⟩ := bd1_s hr
    refine x_join (M' := M14) (pc' := 35) (lv' := []) (st' := []) ?_ ?_
    · refine x_iconst hC (1 : Int32) dX4_limitedNumber_35 (by decide) ?_
      cases hr
      exact x_zret hC rfl (Or.inr rfl) dX4_limitedNumber_36
    · intro kj
      refine x_icmp_le hC 35 dX4_limitedNumber_26 (by decide) (fun h10 => ?_) (fun h10 => ?_)
      · have q9 := (ie_s q9).1 h10
        cases q9
        exact x_sub [] rfl kj
      · have q9 := (ie_s q9).2 h10
        refine x_aload_n hC dX4_limitedNumber_29 rfl 1 rfl ?_
        refine x_iconst hC (3 : Int32) dX4_limitedNumber_30 (by decide) ?_
        refine x_iload_n hC dX4_limitedNumber_31 rfl 0 rfl ?_
        obtain ⟨M11, q12, q9⟩ := bd1_s q9
        refine x_callV (ci := 7) (q := (RX4, TX4, 7)) (As := [.int (3 : Int32), .int (M i0 4)]) hC (c_X4_note l G M2 hi0 (3 : Int32) (M i0 4) q12) kc_yX4_note km_X4_114 ki_yX4_note kv_yX4_note kn_RX4 ky_yX4_note rfl ⟨rfl, rfl⟩ ⟨(Nat.le_of_ble_eq_true rfl), (Nat.le_of_ble_eq_true rfl)⟩ hi0 (by decide) rfl rfl (Nat.le_of_ble_eq_true rfl) ⟨(Nat.le_of_ble_eq_true rfl), (Nat.le_of_ble_eq_true rfl)⟩ dX4_limitedNumber_32 (fun b13 => ?_)
        cases q9
        exact x_sub [] rfl kj
  · have hr := (ie_s hr).1 h5
    refine x_iconst hC (0 : Int32) dX4_limitedNumber_15 (by decide) ?_
    cases hr
    exact x_zret hC rfl (Or.inl rfl) dX4_limitedNumber_16

theorem dX4_enter_0 : decode cX4_enter 0 = .ok (.aload_n 0, 1) := by decide +kernel
theorem dX4_enter_1 : decode cX4_enter 1 = .ok (.invokevirtual 49, 3) := by decide +kernel
theorem dX4_enter_4 : decode cX4_enter 4 = .ok (.aload_n 1, 1) := by decide +kernel
theorem dX4_enter_5 : decode cX4_enter 5 = .ok (.if_acmp .ne 9, 3) := by decide +kernel
theorem dX4_enter_8 : decode cX4_enter 8 = .ok (.iload_n 2, 1) := by decide +kernel
theorem dX4_enter_9 : decode cX4_enter 9 = .ok (.bipush 8, 2) := by decide +kernel
theorem dX4_enter_11 : decode cX4_enter 11 = .ok (.if_icmp .lt 8, 3) := by decide +kernel
theorem dX4_enter_14 : decode cX4_enter 14 = .ok (.aload_n 0, 1) := by decide +kernel
theorem dX4_enter_15 : decode cX4_enter 15 = .ok (.invokevirtual 66, 3) := by decide +kernel
theorem dX4_enter_18 : decode cX4_enter 18 = .ok (.ireturn, 1) := by decide +kernel
theorem dX4_enter_19 : decode cX4_enter 19 = .ok (.aload_n 0, 1) := by decide +kernel
theorem dX4_enter_20 : decode cX4_enter 20 = .ok (.dup, 1) := by decide +kernel
theorem dX4_enter_21 : decode cX4_enter 21 = .ok (.getfield 43, 3) := by decide +kernel
theorem dX4_enter_24 : decode cX4_enter 24 = .ok (.iconst 1, 1) := by decide +kernel
theorem dX4_enter_25 : decode cX4_enter 25 = .ok (.iadd, 1) := by decide +kernel
theorem dX4_enter_26 : decode cX4_enter 26 = .ok (.putfield 43, 3) := by decide +kernel
theorem dX4_enter_29 : decode cX4_enter 29 = .ok (.iconst 1, 1) := by decide +kernel
theorem dX4_enter_30 : decode cX4_enter 30 = .ok (.ireturn, 1) := by decide +kernel

def f_X4_enter (i0 : Nat) (a1 : Int32) (a2 : Int32) (M : Mm) : Option (Int32 × Mm) :=
  bd1 (f_X4_kind i0 M) fun x1 => if tkc x1 then (if tkc a1 then (if (x1 = a1) then (if (a2 < (8 : Int32)) then (lz (wr M i0 4 ((M i0 4) + (1 : Int32))) fun M12 => some ((1 : Int32), M12)) else (bd2 (f_X4_refuse i0 M) fun x14 M15 => some (x14, M15))) else (bd2 (f_X4_refuse i0 M) fun x7 M8 => some (x7, M8))) else none) else none

set_option maxHeartbeats 4000000 in
set_option maxRecDepth 100000 in
theorem c_X4_enter (l : Launch) (G : GG) (M : Mm) {i0 : Nat} (hi0 : (kd i0).1 = 7) (a1 : Int32) (a2 : Int32) {r : Int32} {M9 : Mm} (hr : f_X4_enter i0 a1 a2 M = some (r, M9)) : Mo true l yX4_enter (WS yX4_enter cX4_enter 3 (some .boolean)) (RM 2 0 0 42) 0 0 [.ref (G.2.1 i0), .ref (G.2.1 (rid a1)), .int a2] G M (some (.int r)) M9 := by
  refine Mo.of (by decide +kernel) (Nat.le_of_ble_eq_true rfl) ?_
  intro p e s m args below meth c hC
  have hC : CX p s m args meth c cX4_enter 3 RX4 (some .boolean) G := hC
  rw [f_X4_enter] at hr
  show XJ p l e (RM 2 0 0 42) s m args below meth c G 3 _ 0 0 M 0 [(0, .ref (G.2.1 i0)), (1, .ref (G.2.1 (rid a1))), (2, .int a2)] []
  refine x_aload_n hC dX4_enter_0 rfl 0 rfl ?_
  obtain ⟨x1, q2, hr⟩ := bd1_s hr
  refine x_callV (ci := 7) (q := (RX4, TX4, 7)) (As := []) hC (c_X4_kind l G M hi0 q2) kc_yX4_kind km_X4_49 ki_yX4_kind kv_yX4_kind kn_RX4 ky_yX4_kind rfl ⟨rfl, rfl⟩ ⟨(Nat.le_of_ble_eq_true rfl), (Nat.le_of_ble_eq_true rfl)⟩ hi0 (by decide) rfl rfl (Nat.le_of_ble_eq_true rfl) ⟨(Nat.le_of_ble_eq_true rfl), (Nat.le_of_ble_eq_true rfl)⟩ dX4_enter_1 (fun b3 => ?_)
  refine x_aload_n hC dX4_enter_4 rfl 1 rfl ?_
  obtain ⟨h4, hr⟩ := it_s hr
  obtain ⟨h5, hr⟩ := it_s hr
  refine x_acmp_ne hC 14 ⟨h4, h5⟩ dX4_enter_5 (by decide) (fun h6 => ?_) (fun h6 => ?_)
  · have hr := (ie_s hr).2 h6
    refine x_aload_n hC dX4_enter_14 rfl 0 rfl ?_
    obtain ⟨x7, M8, q9, hr⟩ := bd2_s hr
    refine x_callV (ci := 7) (q := (RX4, TX4, 7)) (As := []) hC (c_X4_refuse l G M hi0 q9) kc_yX4_refuse km_X4_66 ki_yX4_refuse kv_yX4_refuse kn_RX4 ky_yX4_refuse rfl ⟨rfl, rfl⟩ ⟨(Nat.le_of_ble_eq_true rfl), (Nat.le_of_ble_eq_true rfl)⟩ hi0 (by decide) rfl rfl (Nat.le_of_ble_eq_true rfl) ⟨(Nat.le_of_ble_eq_true rfl), (Nat.le_of_ble_eq_true rfl)⟩ dX4_enter_15 (fun b10 => ?_)
    cases hr
    exact x_zret hC rfl (BV.out b10) dX4_enter_18
  · have hr := (ie_s hr).1 h6
    refine x_iload_n hC dX4_enter_8 rfl 2 rfl ?_
    refine x_bipush hC (8 : Int32) dX4_enter_9 (by decide) ?_
    refine x_icmp_lt hC 19 dX4_enter_11 (by decide) (fun h11 => ?_) (fun h11 => ?_)
    · have hr := (ie_s hr).1 h11
      refine x_aload_n hC dX4_enter_19 rfl 0 rfl ?_
      refine x_dup hC dX4_enter_20 rfl ?_
      refine gf_X4_43 hC hi0 dX4_enter_21 ?_
      refine x_iconst hC (1 : Int32) dX4_enter_24 (by decide) ?_
      refine x_iadd hC dX4_enter_25 ?_
      obtain ⟨M12, e13, hr⟩ := lz_s hr
      refine pf_X4_43 hC hi0 e13 dX4_enter_26 ?_
      refine x_iconst hC (1 : Int32) dX4_enter_29 (by decide) ?_
      cases hr
      exact x_zret hC rfl (Or.inr rfl) dX4_enter_30
    · have hr := (ie_s hr).2 h11
      refine x_aload_n hC dX4_enter_14 rfl 0 rfl ?_
      obtain ⟨x14, M15, q16, hr⟩ := bd2_s hr
      refine x_callV (ci := 7) (q := (RX4, TX4, 7)) (As := []) hC (c_X4_refuse l G M hi0 q16) kc_yX4_refuse km_X4_66 ki_yX4_refuse kv_yX4_refuse kn_RX4 ky_yX4_refuse rfl ⟨rfl, rfl⟩ ⟨(Nat.le_of_ble_eq_true rfl), (Nat.le_of_ble_eq_true rfl)⟩ hi0 (by decide) rfl rfl (Nat.le_of_ble_eq_true rfl) ⟨(Nat.le_of_ble_eq_true rfl), (Nat.le_of_ble_eq_true rfl)⟩ dX4_enter_15 (fun b17 => ?_)
      cases hr
      exact x_zret hC rfl (BV.out b17) dX4_enter_18

theorem dX4_end_0 : decode cX4_end 0 = .ok (.aload_n 0, 1) := by decide +kernel
theorem dX4_end_1 : decode cX4_end 1 = .ok (.getstatic 160, 3) := by decide +kernel
theorem dX4_end_4 : decode cX4_end 4 = .ok (.invokevirtual 80, 3) := by decide +kernel
theorem dX4_end_7 : decode cX4_end 7 = .ok (.ifCond .eq 19, 3) := by decide +kernel
theorem dX4_end_10 : decode cX4_end 10 = .ok (.aload_n 0, 1) := by decide +kernel
theorem dX4_end_11 : decode cX4_end 11 = .ok (.getfield 25, 3) := by decide +kernel
theorem dX4_end_14 : decode cX4_end 14 = .ok (.iload_n 1, 1) := by decide +kernel
theorem dX4_end_15 : decode cX4_end 15 = .ok (.iconst 0, 1) := by decide +kernel
theorem dX4_end_16 : decode cX4_end 16 = .ok (.invokevirtual 107, 3) := by decide +kernel
theorem dX4_end_19 : decode cX4_end 19 = .ok (.ifCond .eq 7, 3) := by decide +kernel
theorem dX4_end_22 : decode cX4_end 22 = .ok (.iconst 1, 1) := by decide +kernel
theorem dX4_end_23 : decode cX4_end 23 = .ok (.goto 4, 3) := by decide +kernel
theorem dX4_end_26 : decode cX4_end 26 = .ok (.iconst 0, 1) := by decide +kernel
theorem dX4_end_27 : decode cX4_end 27 = .ok (.ireturn, 1) := by decide +kernel

def f_X4_end (i0 : Nat) (a1 : Int32) (M : Mm) : Option (Int32 × Mm) :=
  bd2 (f_X4_expect i0 (1037 : Int32) M) fun x1 M2 => if (x1 = 0) then (some ((0 : Int32), M2)) else (if okr 2 (M2 i0 3) then (bd2 (f_X5_emit (rid (M2 i0 3)) a1 (0 : Int32) M2) fun x7 M8 => if (x7 = 0) then (some ((0 : Int32), M8)) else (some ((1 : Int32), M8))) else none)

set_option maxHeartbeats 4000000 in
set_option maxRecDepth 100000 in
theorem c_X4_end (l : Launch) (G : GG) (M : Mm) {i0 : Nat} (hi0 : (kd i0).1 = 7) (a1 : Int32) {r : Int32} {M9 : Mm} (hr : f_X4_end i0 a1 M = some (r, M9)) : Mo true l yX4_end (WS yX4_end cX4_end 2 (some .boolean)) (RM 3 0 0 63) 0 0 [.ref (G.2.1 i0), .int a1] G M (some (.int r)) M9 := by
  refine Mo.of (by decide +kernel) (Nat.le_of_ble_eq_true rfl) ?_
  intro p e s m args below meth c hC
  have hC : CX p s m args meth c cX4_end 2 RX4 (some .boolean) G := hC
  rw [f_X4_end] at hr
  show XJ p l e (RM 3 0 0 63) s m args below meth c G 2 _ 0 0 M 0 [(0, .ref (G.2.1 i0)), (1, .int a1)] []
  refine x_aload_n hC dX4_end_0 rfl 0 rfl ?_
  refine x_tgets hC (a := (1037 : Int32)) 36 (by decide) rfl (by decide) kf_X4_160 dX4_end_1 ?_
  obtain ⟨x1, M2, q3, hr⟩ := bd2_s hr
  refine x_callV (ci := 7) (q := (RX4, TX4, 7)) (As := [.ref (G.2.1 (rid (1037 : Int32)))]) hC (c_X4_expect l G M hi0 (1037 : Int32) q3) kc_yX4_expect km_X4_80 ki_yX4_expect kv_yX4_expect kn_RX4 ky_yX4_expect rfl ⟨rfl, rfl⟩ ⟨(Nat.le_of_ble_eq_true rfl), (Nat.le_of_ble_eq_true rfl)⟩ hi0 (by decide) rfl rfl (Nat.le_of_ble_eq_true rfl) ⟨(Nat.le_of_ble_eq_true rfl), (Nat.le_of_ble_eq_true rfl)⟩ dX4_end_4 (fun b4 => ?_)
  refine x_if_eq hC 26 dX4_end_7 (by decide) (fun h5 => ?_) (fun h5 => ?_)
  · have hr := (ie_s hr).1 h5
    refine x_iconst hC (0 : Int32) dX4_end_26 (by decide) ?_
    cases hr
    exact x_zret hC rfl (Or.inl rfl) dX4_end_27
  · have hr := (ie_s hr).2 h5
    refine x_aload_n hC dX4_end_10 rfl 0 rfl ?_
    obtain ⟨h6, hr⟩ := it_s hr
    refine gf_X4_25 hC hi0 h6 dX4_end_11 ?_
    refine x_iload_n hC dX4_end_14 rfl 1 rfl ?_
    refine x_iconst hC (0 : Int32) dX4_end_15 (by decide) ?_
    obtain ⟨x7, M8, q9, hr⟩ := bd2_s hr
    refine x_callV (ci := 2) (q := (RX5, TX5, 7)) (As := [.int a1, .int (0 : Int32)]) hC (c_X5_emit l G M2 h6.2 a1 (0 : Int32) q9) kc_yX5_emit km_X4_107 ki_yX5_emit kv_yX5_emit kn_RX5 ky_yX5_emit rfl ⟨rfl, rfl⟩ ⟨(Nat.le_of_ble_eq_true rfl), (Nat.le_of_ble_eq_true rfl)⟩ h6.2 (by decide) rfl rfl (Nat.le_of_ble_eq_true rfl) ⟨(Nat.le_of_ble_eq_true rfl), (Nat.le_of_ble_eq_true rfl)⟩ dX4_end_16 (fun b10 => ?_)
    refine x_if_eq hC 26 dX4_end_19 (by decide) (fun h11 => ?_) (fun h11 => ?_)
    · have hr := (ie_s hr).1 h11
      refine x_iconst hC (0 : Int32) dX4_end_26 (by decide) ?_
      cases hr
      exact x_zret hC rfl (Or.inl rfl) dX4_end_27
    · have hr := (ie_s hr).2 h11
      refine x_iconst hC (1 : Int32) dX4_end_22 (by decide) ?_
      refine x_goto hC 27 dX4_end_23 (by decide) ?_
      cases hr
      exact x_zret hC rfl (Or.inr rfl) dX4_end_27
