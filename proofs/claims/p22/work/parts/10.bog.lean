theorem dX5_clear_0 : decode cX5_clear 0 = .ok (.aload_n 0, 1) := by decide +kernel
theorem dX5_clear_1 : decode cX5_clear 1 = .ok (.iconst 0, 1) := by decide +kernel
theorem dX5_clear_2 : decode cX5_clear 2 = .ok (.putfield 18, 3) := by decide +kernel
theorem dX5_clear_5 : decode cX5_clear 5 = .ok (.aload_n 0, 1) := by decide +kernel
theorem dX5_clear_6 : decode cX5_clear 6 = .ok (.iconst 0, 1) := by decide +kernel
theorem dX5_clear_7 : decode cX5_clear 7 = .ok (.putfield 31, 3) := by decide +kernel
theorem dX5_clear_10 : decode cX5_clear 10 = .ok (.return_, 1) := by decide +kernel

def f_X5_clear (i0 : Nat) (M : Mm) : Option Mm :=
  lz (wr M i0 2 (0 : Int32)) fun M1 => lz (wr M1 i0 6 (0 : Int32)) fun M3 => some M3

set_option maxHeartbeats 4000000 in
set_option maxRecDepth 100000 in
theorem c_X5_clear (l : Launch) (G : GG) (M : Mm) {i0 : Nat} (hi0 : (kd i0).1 = 2) {M9 : Mm} (hr : f_X5_clear i0 M = some M9) : Mo false l yX5_clear (WS yX5_clear cX5_clear 1 none) (RM 0 0 0 0) 0 0 [.ref (G.2.1 i0)] G M none M9 := by
  refine Mo.of (by decide +kernel) (Nat.le_of_ble_eq_true rfl) ?_
  intro p e s m args below meth c hC
  have hC : CX p s m args meth c cX5_clear 1 RX5 none G := hC
  rw [f_X5_clear] at hr
  show XJ p l e (RM 0 0 0 0) s m args below meth c G 1 _ 0 0 M 0 [(0, .ref (G.2.1 i0))] []
  refine x_aload_n hC dX5_clear_0 rfl 0 rfl ?_
  refine x_iconst hC (0 : Int32) dX5_clear_1 (by decide) ?_
  obtain ⟨M1, e2, hr⟩ := lz_s hr
  refine pf_X5_18 hC hi0 e2 dX5_clear_2 ?_
  refine x_aload_n hC dX5_clear_5 rfl 0 rfl ?_
  refine x_iconst hC (0 : Int32) dX5_clear_6 (by decide) ?_
  obtain ⟨M3, e4, hr⟩ := lz_s hr
  refine pf_X5_31 hC hi0 e4 dX5_clear_7 ?_
  cases hr
  exact x_vret hC rfl dX5_clear_10

theorem dX5_addGang_0 : decode cX5_addGang 0 = .ok (.aload_n 0, 1) := by decide +kernel
theorem dX5_addGang_1 : decode cX5_addGang 1 = .ok (.getfield 31, 3) := by decide +kernel
theorem dX5_addGang_4 : decode cX5_addGang 4 = .ok (.iconst 4, 1) := by decide +kernel
theorem dX5_addGang_5 : decode cX5_addGang 5 = .ok (.if_icmp .ge 54, 3) := by decide +kernel
theorem dX5_addGang_8 : decode cX5_addGang 8 = .ok (.iload_n 1, 1) := by decide +kernel
theorem dX5_addGang_9 : decode cX5_addGang 9 = .ok (.iload_n 2, 1) := by decide +kernel
theorem dX5_addGang_10 : decode cX5_addGang 10 = .ok (.invokestatic 34, 3) := by decide +kernel
theorem dX5_addGang_13 : decode cX5_addGang 13 = .ok (.ifCond .eq 46, 3) := by decide +kernel
theorem dX5_addGang_16 : decode cX5_addGang 16 = .ok (.aload_n 0, 1) := by decide +kernel
theorem dX5_addGang_17 : decode cX5_addGang 17 = .ok (.getfield 22, 3) := by decide +kernel
theorem dX5_addGang_20 : decode cX5_addGang 20 = .ok (.aload_n 0, 1) := by decide +kernel
theorem dX5_addGang_21 : decode cX5_addGang 21 = .ok (.getfield 31, 3) := by decide +kernel
theorem dX5_addGang_24 : decode cX5_addGang 24 = .ok (.aload_n 0, 1) := by decide +kernel
theorem dX5_addGang_25 : decode cX5_addGang 25 = .ok (.getfield 18, 3) := by decide +kernel
theorem dX5_addGang_28 : decode cX5_addGang 28 = .ok (.iastore, 1) := by decide +kernel
theorem dX5_addGang_29 : decode cX5_addGang 29 = .ok (.aload_n 0, 1) := by decide +kernel
theorem dX5_addGang_30 : decode cX5_addGang 30 = .ok (.getfield 25, 3) := by decide +kernel
theorem dX5_addGang_33 : decode cX5_addGang 33 = .ok (.aload_n 0, 1) := by decide +kernel
theorem dX5_addGang_34 : decode cX5_addGang 34 = .ok (.getfield 31, 3) := by decide +kernel
theorem dX5_addGang_37 : decode cX5_addGang 37 = .ok (.iload_n 1, 1) := by decide +kernel
theorem dX5_addGang_38 : decode cX5_addGang 38 = .ok (.iastore, 1) := by decide +kernel
theorem dX5_addGang_39 : decode cX5_addGang 39 = .ok (.aload_n 0, 1) := by decide +kernel
theorem dX5_addGang_40 : decode cX5_addGang 40 = .ok (.getfield 28, 3) := by decide +kernel
theorem dX5_addGang_43 : decode cX5_addGang 43 = .ok (.aload_n 0, 1) := by decide +kernel
theorem dX5_addGang_44 : decode cX5_addGang 44 = .ok (.getfield 31, 3) := by decide +kernel
theorem dX5_addGang_47 : decode cX5_addGang 47 = .ok (.iload_n 2, 1) := by decide +kernel
theorem dX5_addGang_48 : decode cX5_addGang 48 = .ok (.iastore, 1) := by decide +kernel
theorem dX5_addGang_49 : decode cX5_addGang 49 = .ok (.aload_n 0, 1) := by decide +kernel
theorem dX5_addGang_50 : decode cX5_addGang 50 = .ok (.dup, 1) := by decide +kernel
theorem dX5_addGang_51 : decode cX5_addGang 51 = .ok (.getfield 31, 3) := by decide +kernel
theorem dX5_addGang_54 : decode cX5_addGang 54 = .ok (.iconst 1, 1) := by decide +kernel
theorem dX5_addGang_55 : decode cX5_addGang 55 = .ok (.iadd, 1) := by decide +kernel
theorem dX5_addGang_56 : decode cX5_addGang 56 = .ok (.putfield 31, 3) := by decide +kernel
theorem dX5_addGang_59 : decode cX5_addGang 59 = .ok (.return_, 1) := by decide +kernel

def f_X5_addGang (i0 : Nat) (a1 : Int32) (a2 : Int32) (M : Mm) : Option Mm :=
  if ((4 : Int32) ≤ (M i0 6)) then (some M) else (lz (f_X9_isCell a1 a2) fun x2 => if (x2 = 0) then (some M) else (if 0 ≤ (M i0 6).toInt ∧ (M i0 6).toInt < ((4 : Nat) : Int) then (lz (wr M (i0 + 3) (ix (M i0 6)) (M i0 2)) fun M7 => if 0 ≤ (M7 i0 6).toInt ∧ (M7 i0 6).toInt < ((4 : Nat) : Int) then (lz (wr M7 (i0 + 4) (ix (M7 i0 6)) a1) fun M10 => if 0 ≤ (M10 i0 6).toInt ∧ (M10 i0 6).toInt < ((4 : Nat) : Int) then (lz (wr M10 (i0 + 5) (ix (M10 i0 6)) a2) fun M13 => lz (wr M13 i0 6 ((M13 i0 6) + (1 : Int32))) fun M15 => some M15) else none) else none) else none))

set_option maxHeartbeats 4000000 in
set_option maxRecDepth 100000 in
theorem c_X5_addGang (l : Launch) (G : GG) (M : Mm) {i0 : Nat} (hi0 : (kd i0).1 = 2) (a1 : Int32) (a2 : Int32) {M9 : Mm} (hr : f_X5_addGang i0 a1 a2 M = some M9) : Mo false l yX5_addGang (WS yX5_addGang cX5_addGang 3 none) (RM 2 0 0 43) 0 0 [.ref (G.2.1 i0), .int a1, .int a2] G M none M9 := by
  refine Mo.of (by decide +kernel) (Nat.le_of_ble_eq_true rfl) ?_
  intro p e s m args below meth c hC
  have hC : CX p s m args meth c cX5_addGang 3 RX5 none G := hC
  rw [f_X5_addGang] at hr
  show XJ p l e (RM 2 0 0 43) s m args below meth c G 3 _ 0 0 M 0 [(0, .ref (G.2.1 i0)), (1, .int a1), (2, .int a2)] []
  refine x_aload_n hC dX5_addGang_0 rfl 0 rfl ?_
  refine gf_X5_31 hC hi0 dX5_addGang_1 ?_
  refine x_iconst hC (4 : Int32) dX5_addGang_4 (by decide) ?_
  refine x_icmp_ge hC 59 dX5_addGang_5 (by decide) (fun h1 => ?_) (fun h1 => ?_)
  · have hr := (ie_s hr).1 h1
    cases hr
    exact x_vret hC rfl dX5_addGang_59
  · have hr := (ie_s hr).2 h1
    refine x_iload_n hC dX5_addGang_8 rfl 1 rfl ?_
    refine x_iload_n hC dX5_addGang_9 rfl 2 rfl ?_
    obtain ⟨x2, e3, hr⟩ := lz_s hr
    refine x_callSN (As := [.int a1, .int a2]) hC (c_X9_isCell l G M a1 a2 e3.symm) kc_yX9_isCell kmn_X5_34 kt_yX9_isCell kn_RX9 ky_yX9_isCell rfl ⟨rfl, rfl⟩ ⟨(Nat.le_of_ble_eq_true rfl), (Nat.le_of_ble_eq_true rfl)⟩ rfl (Nat.le_of_ble_eq_true rfl) ⟨(Nat.le_of_ble_eq_true rfl), (Nat.le_of_ble_eq_true rfl)⟩ dX5_addGang_10 (fun b4 => ?_)
    refine x_if_eq hC 59 dX5_addGang_13 (by decide) (fun h5 => ?_) (fun h5 => ?_)
    · have hr := (ie_s hr).1 h5
      cases hr
      exact x_vret hC rfl dX5_addGang_59
    · have hr := (ie_s hr).2 h5
      refine x_aload_n hC dX5_addGang_16 rfl 0 rfl ?_
      refine gf_X5_22 hC hi0 dX5_addGang_17 ?_
      refine x_aload_n hC dX5_addGang_20 rfl 0 rfl ?_
      refine gf_X5_31 hC hi0 dX5_addGang_21 ?_
      refine x_aload_n hC dX5_addGang_24 rfl 0 rfl ?_
      refine gf_X5_18 hC hi0 dX5_addGang_25 ?_
      obtain ⟨h6, hr⟩ := it_s hr
      obtain ⟨M7, e8, hr⟩ := lz_s hr
      refine x_iast hC (kr_2_3 hi0) h6 e8 dX5_addGang_28 ?_
      refine x_aload_n hC dX5_addGang_29 rfl 0 rfl ?_
      refine gf_X5_25 hC hi0 dX5_addGang_30 ?_
      refine x_aload_n hC dX5_addGang_33 rfl 0 rfl ?_
      refine gf_X5_31 hC hi0 dX5_addGang_34 ?_
      refine x_iload_n hC dX5_addGang_37 rfl 1 rfl ?_
      obtain ⟨h9, hr⟩ := it_s hr
      obtain ⟨M10, e11, hr⟩ := lz_s hr
      refine x_iast hC (kr_2_4 hi0) h9 e11 dX5_addGang_38 ?_
      refine x_aload_n hC dX5_addGang_39 rfl 0 rfl ?_
      refine gf_X5_28 hC hi0 dX5_addGang_40 ?_
      refine x_aload_n hC dX5_addGang_43 rfl 0 rfl ?_
      refine gf_X5_31 hC hi0 dX5_addGang_44 ?_
      refine x_iload_n hC dX5_addGang_47 rfl 2 rfl ?_
      obtain ⟨h12, hr⟩ := it_s hr
      obtain ⟨M13, e14, hr⟩ := lz_s hr
      refine x_iast hC (kr_2_5 hi0) h12 e14 dX5_addGang_48 ?_
      refine x_aload_n hC dX5_addGang_49 rfl 0 rfl ?_
      refine x_dup hC dX5_addGang_50 rfl ?_
      refine gf_X5_31 hC hi0 dX5_addGang_51 ?_
      refine x_iconst hC (1 : Int32) dX5_addGang_54 (by decide) ?_
      refine x_iadd hC dX5_addGang_55 ?_
      obtain ⟨M15, e16, hr⟩ := lz_s hr
      refine pf_X5_31 hC hi0 e16 dX5_addGang_56 ?_
      cases hr
      exact x_vret hC rfl dX5_addGang_59

theorem dX5_emit_0 : decode cX5_emit 0 = .ok (.aload_n 0, 1) := by decide +kernel
theorem dX5_emit_1 : decode cX5_emit 1 = .ok (.getfield 18, 3) := by decide +kernel
theorem dX5_emit_4 : decode cX5_emit 4 = .ok (.sipush 800, 3) := by decide +kernel
theorem dX5_emit_7 : decode cX5_emit 7 = .ok (.if_icmp .ge 33, 3) := by decide +kernel
theorem dX5_emit_10 : decode cX5_emit 10 = .ok (.aload_n 0, 1) := by decide +kernel
theorem dX5_emit_11 : decode cX5_emit 11 = .ok (.getfield 11, 3) := by decide +kernel
theorem dX5_emit_14 : decode cX5_emit 14 = .ok (.aload_n 0, 1) := by decide +kernel
theorem dX5_emit_15 : decode cX5_emit 15 = .ok (.getfield 18, 3) := by decide +kernel
theorem dX5_emit_18 : decode cX5_emit 18 = .ok (.iload_n 1, 1) := by decide +kernel
theorem dX5_emit_19 : decode cX5_emit 19 = .ok (.iastore, 1) := by decide +kernel
theorem dX5_emit_20 : decode cX5_emit 20 = .ok (.aload_n 0, 1) := by decide +kernel
theorem dX5_emit_21 : decode cX5_emit 21 = .ok (.getfield 15, 3) := by decide +kernel
theorem dX5_emit_24 : decode cX5_emit 24 = .ok (.aload_n 0, 1) := by decide +kernel
theorem dX5_emit_25 : decode cX5_emit 25 = .ok (.getfield 18, 3) := by decide +kernel
theorem dX5_emit_28 : decode cX5_emit 28 = .ok (.iload_n 2, 1) := by decide +kernel
theorem dX5_emit_29 : decode cX5_emit 29 = .ok (.iastore, 1) := by decide +kernel
theorem dX5_emit_30 : decode cX5_emit 30 = .ok (.aload_n 0, 1) := by decide +kernel
theorem dX5_emit_31 : decode cX5_emit 31 = .ok (.dup, 1) := by decide +kernel
theorem dX5_emit_32 : decode cX5_emit 32 = .ok (.getfield 18, 3) := by decide +kernel
theorem dX5_emit_35 : decode cX5_emit 35 = .ok (.iconst 1, 1) := by decide +kernel
theorem dX5_emit_36 : decode cX5_emit 36 = .ok (.iadd, 1) := by decide +kernel
theorem dX5_emit_37 : decode cX5_emit 37 = .ok (.putfield 18, 3) := by decide +kernel
theorem dX5_emit_40 : decode cX5_emit 40 = .ok (.iconst 1, 1) := by decide +kernel
theorem dX5_emit_41 : decode cX5_emit 41 = .ok (.ireturn, 1) := by decide +kernel

def f_X5_emit (i0 : Nat) (a1 : Int32) (a2 : Int32) (M : Mm) : Option (Int32 × Mm) :=
  bd1 (if ((800 : Int32) ≤ (M i0 2)) then (some (M)) else (if 0 ≤ (M i0 2).toInt ∧ (M i0 2).toInt < ((800 : Nat) : Int) then (lz (wr M (i0 + 1) (ix (M i0 2)) a1) fun M4 => if 0 ≤ (M4 i0 2).toInt ∧ (M4 i0 2).toInt < ((800 : Nat) : Int) then (lz (wr M4 (i0 + 2) (ix (M4 i0 2)) a2) fun M7 => lz (wr M7 i0 2 ((M7 i0 2) + (1 : Int32))) fun M9 => some (M9)) else none) else none)) fun M11 => some ((1 : Int32), M11)

set_option maxHeartbeats 4000000 in
set_option maxRecDepth 100000 in
theorem c_X5_emit (l : Launch) (G : GG) (M : Mm) {i0 : Nat} (hi0 : (kd i0).1 = 2) (a1 : Int32) (a2 : Int32) {r : Int32} {M9 : Mm} (hr : f_X5_emit i0 a1 a2 M = some (r, M9)) : Mo true l yX5_emit (WS yX5_emit cX5_emit 3 (some .boolean)) (RM 0 0 0 0) 0 0 [.ref (G.2.1 i0), .int a1, .int a2] G M (some (.int r)) M9 := by
  refine Mo.of (by decide +kernel) (Nat.le_of_ble_eq_true rfl) ?_
  intro p e s m args below meth c hC
  have hC : CX p s m args meth c cX5_emit 3 RX5 (some .boolean) G := hC
  rw [f_X5_emit] at hr
  show XJ p l e (RM 0 0 0 0) s m args below meth c G 3 _ 0 0 M 0 [(0, .ref (G.2.1 i0)), (1, .int a1), (2, .int a2)] []
  refine x_aload_n hC dX5_emit_0 rfl 0 rfl ?_
  refine gf_X5_18 hC hi0 dX5_emit_1 ?_
  refine x_sipush hC (800 : Int32) dX5_emit_4 (by decide) ?_
  obtain ⟨M11, q1, hr⟩ := bd1_s hr
  refine x_join (M' := M11) (pc' := 40) (lv' := []) (st' := []) ?_ ?_
  · refine x_iconst hC (1 : Int32) dX5_emit_40 (by decide) ?_
    cases hr
    exact x_zret hC rfl (Or.inr rfl) dX5_emit_41
  · intro kj
    refine x_icmp_ge hC 40 dX5_emit_7 (by decide) (fun h2 => ?_) (fun h2 => ?_)
    · have q1 := (ie_s q1).1 h2
      cases q1
      exact x_sub [] rfl kj
    · have q1 := (ie_s q1).2 h2
      refine x_aload_n hC dX5_emit_10 rfl 0 rfl ?_
      refine gf_X5_11 hC hi0 dX5_emit_11 ?_
      refine x_aload_n hC dX5_emit_14 rfl 0 rfl ?_
      refine gf_X5_18 hC hi0 dX5_emit_15 ?_
      refine x_iload_n hC dX5_emit_18 rfl 1 rfl ?_
      obtain ⟨h3, q1⟩ := it_s q1
      obtain ⟨M4, e5, q1⟩ := lz_s q1
      refine x_iast hC (kr_2_0 hi0) h3 e5 dX5_emit_19 ?_
      refine x_aload_n hC dX5_emit_20 rfl 0 rfl ?_
      refine gf_X5_15 hC hi0 dX5_emit_21 ?_
      refine x_aload_n hC dX5_emit_24 rfl 0 rfl ?_
      refine gf_X5_18 hC hi0 dX5_emit_25 ?_
      refine x_iload_n hC dX5_emit_28 rfl 2 rfl ?_
      obtain ⟨h6, q1⟩ := it_s q1
      obtain ⟨M7, e8, q1⟩ := lz_s q1
      refine x_iast hC (kr_2_1 hi0) h6 e8 dX5_emit_29 ?_
      refine x_aload_n hC dX5_emit_30 rfl 0 rfl ?_
      refine x_dup hC dX5_emit_31 rfl ?_
      refine gf_X5_18 hC hi0 dX5_emit_32 ?_
      refine x_iconst hC (1 : Int32) dX5_emit_35 (by decide) ?_
      refine x_iadd hC dX5_emit_36 ?_
      obtain ⟨M9, e10, q1⟩ := lz_s q1
      refine pf_X5_18 hC hi0 e10 dX5_emit_37 ?_
      cases q1
      exact x_sub [] rfl kj

theorem dX5_leadHere_0 : decode cX5_leadHere 0 = .ok (.iload_n 1, 1) := by decide +kernel
theorem dX5_leadHere_1 : decode cX5_leadHere 1 = .ok (.ifCond .lt 21, 3) := by decide +kernel
theorem dX5_leadHere_4 : decode cX5_leadHere 4 = .ok (.iload_n 1, 1) := by decide +kernel
theorem dX5_leadHere_5 : decode cX5_leadHere 5 = .ok (.aload_n 0, 1) := by decide +kernel
theorem dX5_leadHere_6 : decode cX5_leadHere 6 = .ok (.getfield 18, 3) := by decide +kernel
theorem dX5_leadHere_9 : decode cX5_leadHere 9 = .ok (.if_icmp .ge 13, 3) := by decide +kernel
theorem dX5_leadHere_12 : decode cX5_leadHere 12 = .ok (.aload_n 0, 1) := by decide +kernel
theorem dX5_leadHere_13 : decode cX5_leadHere 13 = .ok (.getfield 15, 3) := by decide +kernel
theorem dX5_leadHere_16 : decode cX5_leadHere 16 = .ok (.iload_n 1, 1) := by decide +kernel
theorem dX5_leadHere_17 : decode cX5_leadHere 17 = .ok (.aload_n 0, 1) := by decide +kernel
theorem dX5_leadHere_18 : decode cX5_leadHere 18 = .ok (.getfield 18, 3) := by decide +kernel
theorem dX5_leadHere_21 : decode cX5_leadHere 21 = .ok (.iastore, 1) := by decide +kernel
theorem dX5_leadHere_22 : decode cX5_leadHere 22 = .ok (.return_, 1) := by decide +kernel

def f_X5_leadHere (i0 : Nat) (a1 : Int32) (M : Mm) : Option Mm :=
  if (a1 < 0) then (some M) else (if ((M i0 2) ≤ a1) then (some M) else (if 0 ≤ a1.toInt ∧ a1.toInt < ((800 : Nat) : Int) then (lz (wr M (i0 + 2) (ix a1) (M i0 2)) fun M4 => some M4) else none))

set_option maxHeartbeats 4000000 in
set_option maxRecDepth 100000 in
theorem c_X5_leadHere (l : Launch) (G : GG) (M : Mm) {i0 : Nat} (hi0 : (kd i0).1 = 2) (a1 : Int32) {M9 : Mm} (hr : f_X5_leadHere i0 a1 M = some M9) : Mo false l yX5_leadHere (WS yX5_leadHere cX5_leadHere 2 none) (RM 0 0 0 0) 0 0 [.ref (G.2.1 i0), .int a1] G M none M9 := by
  refine Mo.of (by decide +kernel) (Nat.le_of_ble_eq_true rfl) ?_
  intro p e s m args below meth c hC
  have hC : CX p s m args meth c cX5_leadHere 2 RX5 none G := hC
  rw [f_X5_leadHere] at hr
  show XJ p l e (RM 0 0 0 0) s m args below meth c G 2 _ 0 0 M 0 [(0, .ref (G.2.1 i0)), (1, .int a1)] []
  refine x_iload_n hC dX5_leadHere_0 rfl 1 rfl ?_
  refine x_if_lt hC 22 dX5_leadHere_1 (by decide) (fun h1 => ?_) (fun h1 => ?_)
  · have hr := (ie_s hr).1 h1
    cases hr
    exact x_vret hC rfl dX5_leadHere_22
  · have hr := (ie_s hr).2 h1
    refine x_iload_n hC dX5_leadHere_4 rfl 1 rfl ?_
    refine x_aload_n hC dX5_leadHere_5 rfl 0 rfl ?_
    refine gf_X5_18 hC hi0 dX5_leadHere_6 ?_
    refine x_icmp_ge hC 22 dX5_leadHere_9 (by decide) (fun h2 => ?_) (fun h2 => ?_)
    · have hr := (ie_s hr).1 h2
      cases hr
      exact x_vret hC rfl dX5_leadHere_22
    · have hr := (ie_s hr).2 h2
      refine x_aload_n hC dX5_leadHere_12 rfl 0 rfl ?_
      refine gf_X5_15 hC hi0 dX5_leadHere_13 ?_
      refine x_iload_n hC dX5_leadHere_16 rfl 1 rfl ?_
      refine x_aload_n hC dX5_leadHere_17 rfl 0 rfl ?_
      refine gf_X5_18 hC hi0 dX5_leadHere_18 ?_
      obtain ⟨h3, hr⟩ := it_s hr
      obtain ⟨M4, e5, hr⟩ := lz_s hr
      refine x_iast hC (kr_2_1 hi0) h3 e5 dX5_leadHere_21 ?_
      cases hr
      exact x_vret hC rfl dX5_leadHere_22

theorem dX2_begin_0 : decode cX2_begin 0 = .ok (.aload_n 0, 1) := by decide +kernel
theorem dX2_begin_1 : decode cX2_begin 1 = .ok (.iload_n 1, 1) := by decide +kernel
theorem dX2_begin_2 : decode cX2_begin 2 = .ok (.putfield 15, 3) := by decide +kernel
theorem dX2_begin_5 : decode cX2_begin 5 = .ok (.aload_n 0, 1) := by decide +kernel
theorem dX2_begin_6 : decode cX2_begin 6 = .ok (.iload_n 2, 1) := by decide +kernel
theorem dX2_begin_7 : decode cX2_begin 7 = .ok (.putfield 19, 3) := by decide +kernel
theorem dX2_begin_10 : decode cX2_begin 10 = .ok (.aload_n 0, 1) := by decide +kernel
theorem dX2_begin_11 : decode cX2_begin 11 = .ok (.iconst 0, 1) := by decide +kernel
theorem dX2_begin_12 : decode cX2_begin 12 = .ok (.putfield 22, 3) := by decide +kernel
theorem dX2_begin_15 : decode cX2_begin 15 = .ok (.aload_n 0, 1) := by decide +kernel
theorem dX2_begin_16 : decode cX2_begin 16 = .ok (.iconst 0, 1) := by decide +kernel
theorem dX2_begin_17 : decode cX2_begin 17 = .ok (.putfield 25, 3) := by decide +kernel
theorem dX2_begin_20 : decode cX2_begin 20 = .ok (.aload_n 0, 1) := by decide +kernel
theorem dX2_begin_21 : decode cX2_begin 21 = .ok (.iconst 0, 1) := by decide +kernel
theorem dX2_begin_22 : decode cX2_begin 22 = .ok (.putfield 28, 3) := by decide +kernel
theorem dX2_begin_25 : decode cX2_begin 25 = .ok (.aload_n 0, 1) := by decide +kernel
theorem dX2_begin_26 : decode cX2_begin 26 = .ok (.iconst 0, 1) := by decide +kernel
theorem dX2_begin_27 : decode cX2_begin 27 = .ok (.putfield 32, 3) := by decide +kernel
theorem dX2_begin_30 : decode cX2_begin 30 = .ok (.aload_n 0, 1) := by decide +kernel
theorem dX2_begin_31 : decode cX2_begin 31 = .ok (.iconst 0, 1) := by decide +kernel
theorem dX2_begin_32 : decode cX2_begin 32 = .ok (.putfield 35, 3) := by decide +kernel
theorem dX2_begin_35 : decode cX2_begin 35 = .ok (.aload_n 0, 1) := by decide +kernel
theorem dX2_begin_36 : decode cX2_begin 36 = .ok (.iconst 0, 1) := by decide +kernel
theorem dX2_begin_37 : decode cX2_begin 37 = .ok (.putfield 38, 3) := by decide +kernel
theorem dX2_begin_40 : decode cX2_begin 40 = .ok (.aload_n 0, 1) := by decide +kernel
theorem dX2_begin_41 : decode cX2_begin 41 = .ok (.iconst 0, 1) := by decide +kernel
theorem dX2_begin_42 : decode cX2_begin 42 = .ok (.putfield 41, 3) := by decide +kernel
theorem dX2_begin_45 : decode cX2_begin 45 = .ok (.aload_n 0, 1) := by decide +kernel
theorem dX2_begin_46 : decode cX2_begin 46 = .ok (.iload_n 3, 1) := by decide +kernel
theorem dX2_begin_47 : decode cX2_begin 47 = .ok (.putfield 44, 3) := by decide +kernel
theorem dX2_begin_50 : decode cX2_begin 50 = .ok (.return_, 1) := by decide +kernel

def f_X2_begin (i0 : Nat) (a1 : Int32) (a2 : Int32) (a3 : Int32) (M : Mm) : Option Mm :=
  lz (wr M i0 0 a1) fun M1 => lz (wr M1 i0 1 a2) fun M3 => lz (wr M3 i0 2 (0 : Int32)) fun M5 => lz (wr M5 i0 3 (0 : Int32)) fun M7 => lz (wr M7 i0 4 (0 : Int32)) fun M9 => lz (wr M9 i0 5 (0 : Int32)) fun M11 => lz (wr M11 i0 6 (0 : Int32)) fun M13 => lz (wr M13 i0 7 (0 : Int32)) fun M15 => lz (wr M15 i0 8 (0 : Int32)) fun M17 => lz (wr M17 i0 9 a3) fun M19 => some M19

set_option maxHeartbeats 4000000 in
set_option maxRecDepth 100000 in
theorem c_X2_begin (l : Launch) (G : GG) (M : Mm) {i0 : Nat} (hi0 : (kd i0).1 = 1) (a1 : Int32) (a2 : Int32) (a3 : Int32) {M9 : Mm} (hr : f_X2_begin i0 a1 a2 a3 M = some M9) : Mo false l yX2_begin (WS yX2_begin cX2_begin 4 none) (RM 0 0 0 0) 0 0 [.ref (G.2.1 i0), .int a1, .int a2, .int a3] G M none M9 := by
  refine Mo.of (by decide +kernel) (Nat.le_of_ble_eq_true rfl) ?_
  intro p e s m args below meth c hC
  have hC : CX p s m args meth c cX2_begin 4 RX2 none G := hC
  rw [f_X2_begin] at hr
  show XJ p l e (RM 0 0 0 0) s m args below meth c G 4 _ 0 0 M 0 [(0, .ref (G.2.1 i0)), (1, .int a1), (2, .int a2), (3, .int a3)] []
  refine x_aload_n hC dX2_begin_0 rfl 0 rfl ?_
  refine x_iload_n hC dX2_begin_1 rfl 1 rfl ?_
  obtain ⟨M1, e2, hr⟩ := lz_s hr
  refine pf_X2_15 hC hi0 e2 dX2_begin_2 ?_
  refine x_aload_n hC dX2_begin_5 rfl 0 rfl ?_
  refine x_iload_n hC dX2_begin_6 rfl 2 rfl ?_
  obtain ⟨M3, e4, hr⟩ := lz_s hr
  refine pf_X2_19 hC hi0 e4 dX2_begin_7 ?_
  refine x_aload_n hC dX2_begin_10 rfl 0 rfl ?_
  refine x_iconst hC (0 : Int32) dX2_begin_11 (by decide) ?_
  obtain ⟨M5, e6, hr⟩ := lz_s hr
  refine pf_X2_22 hC hi0 e6 dX2_begin_12 ?_
  refine x_aload_n hC dX2_begin_15 rfl 0 rfl ?_
  refine x_iconst hC (0 : Int32) dX2_begin_16 (by decide) ?_
  obtain ⟨M7, e8, hr⟩ := lz_s hr
  refine pf_X2_25 hC hi0 e8 dX2_begin_17 ?_
  refine x_aload_n hC dX2_begin_20 rfl 0 rfl ?_
  refine x_iconst hC (0 : Int32) dX2_begin_21 (by decide) ?_
  obtain ⟨M9, e10, hr⟩ := lz_s hr
  refine pf_X2_28 hC hi0 (Or.inl rfl) e10 dX2_begin_22 ?_
  refine x_aload_n hC dX2_begin_25 rfl 0 rfl ?_
  refine x_iconst hC (0 : Int32) dX2_begin_26 (by decide) ?_
  obtain ⟨M11, e12, hr⟩ := lz_s hr
  refine pf_X2_32 hC hi0 e12 dX2_begin_27 ?_
  refine x_aload_n hC dX2_begin_30 rfl 0 rfl ?_
  refine x_iconst hC (0 : Int32) dX2_begin_31 (by decide) ?_
  obtain ⟨M13, e14, hr⟩ := lz_s hr
  refine pf_X2_35 hC hi0 e14 dX2_begin_32 ?_
  refine x_aload_n hC dX2_begin_35 rfl 0 rfl ?_
  refine x_iconst hC (0 : Int32) dX2_begin_36 (by decide) ?_
  obtain ⟨M15, e16, hr⟩ := lz_s hr
  refine pf_X2_38 hC hi0 e16 dX2_begin_37 ?_
  refine x_aload_n hC dX2_begin_40 rfl 0 rfl ?_
  refine x_iconst hC (0 : Int32) dX2_begin_41 (by decide) ?_
  obtain ⟨M17, e18, hr⟩ := lz_s hr
  refine pf_X2_41 hC hi0 e18 dX2_begin_42 ?_
  refine x_aload_n hC dX2_begin_45 rfl 0 rfl ?_
  refine x_iload_n hC dX2_begin_46 rfl 3 rfl ?_
  obtain ⟨M19, e20, hr⟩ := lz_s hr
  refine pf_X2_44 hC hi0 e20 dX2_begin_47 ?_
  cases hr
  exact x_vret hC rfl dX2_begin_50

theorem dX1_employ_0 : decode cX1_employ 0 = .ok (.aload_n 0, 1) := by decide +kernel
theorem dX1_employ_1 : decode cX1_employ 1 = .ok (.aload_n 1, 1) := by decide +kernel
theorem dX1_employ_2 : decode cX1_employ 2 = .ok (.putfield 64, 3) := by decide +kernel
theorem dX1_employ_5 : decode cX1_employ 5 = .ok (.aload_n 0, 1) := by decide +kernel
theorem dX1_employ_6 : decode cX1_employ 6 = .ok (.aload_n 1, 1) := by decide +kernel
theorem dX1_employ_7 : decode cX1_employ 7 = .ok (.getfield 79, 3) := by decide +kernel
theorem dX1_employ_10 : decode cX1_employ 10 = .ok (.putfield 61, 3) := by decide +kernel
theorem dX1_employ_13 : decode cX1_employ 13 = .ok (.iconst 0, 1) := by decide +kernel
theorem dX1_employ_14 : decode cX1_employ 14 = .ok (.istore_n 2, 1) := by decide +kernel
theorem dX1_employ_15 : decode cX1_employ 15 = .ok (.iload_n 2, 1) := by decide +kernel
theorem dX1_employ_16 : decode cX1_employ 16 = .ok (.aload_n 0, 1) := by decide +kernel
theorem dX1_employ_17 : decode cX1_employ 17 = .ok (.getfield 61, 3) := by decide +kernel
theorem dX1_employ_20 : decode cX1_employ 20 = .ok (.if_icmp .ge 36, 3) := by decide +kernel
theorem dX1_employ_23 : decode cX1_employ 23 = .ok (.aload_n 0, 1) := by decide +kernel
theorem dX1_employ_24 : decode cX1_employ 24 = .ok (.getfield 57, 3) := by decide +kernel
theorem dX1_employ_27 : decode cX1_employ 27 = .ok (.iload_n 2, 1) := by decide +kernel
theorem dX1_employ_28 : decode cX1_employ 28 = .ok (.aaload, 1) := by decide +kernel
theorem dX1_employ_29 : decode cX1_employ 29 = .ok (.aload_n 1, 1) := by decide +kernel
theorem dX1_employ_30 : decode cX1_employ 30 = .ok (.getfield 82, 3) := by decide +kernel
theorem dX1_employ_33 : decode cX1_employ 33 = .ok (.iload_n 2, 1) := by decide +kernel
theorem dX1_employ_34 : decode cX1_employ 34 = .ok (.iaload, 1) := by decide +kernel
theorem dX1_employ_35 : decode cX1_employ 35 = .ok (.aload_n 1, 1) := by decide +kernel
theorem dX1_employ_36 : decode cX1_employ 36 = .ok (.getfield 85, 3) := by decide +kernel
theorem dX1_employ_39 : decode cX1_employ 39 = .ok (.iload_n 2, 1) := by decide +kernel
theorem dX1_employ_40 : decode cX1_employ 40 = .ok (.iaload, 1) := by decide +kernel
theorem dX1_employ_41 : decode cX1_employ 41 = .ok (.aload_n 1, 1) := by decide +kernel
theorem dX1_employ_42 : decode cX1_employ 42 = .ok (.getfield 88, 3) := by decide +kernel
theorem dX1_employ_45 : decode cX1_employ 45 = .ok (.iload_n 2, 1) := by decide +kernel
theorem dX1_employ_46 : decode cX1_employ 46 = .ok (.iaload, 1) := by decide +kernel
theorem dX1_employ_47 : decode cX1_employ 47 = .ok (.invokevirtual 91, 3) := by decide +kernel
theorem dX1_employ_50 : decode cX1_employ 50 = .ok (.iinc 2 1, 3) := by decide +kernel
theorem dX1_employ_53 : decode cX1_employ 53 = .ok (.goto (-38), 3) := by decide +kernel
theorem dX1_employ_56 : decode cX1_employ 56 = .ok (.return_, 1) := by decide +kernel
def f_X1_employ_L15 (i0 : Nat) (i1 : Nat) : Nat → Int32 → Mm → Option (Mm)
  | 0, _, _ => none
  | n + 1, v2, M =>
    if ((M i0 15) ≤ v2) then (some (M)) else (if 0 ≤ v2.toInt ∧ v2.toInt < ((4 : Nat) : Int) then (if 0 ≤ v2.toInt ∧ v2.toInt < ((4 : Nat) : Int) then (if 0 ≤ v2.toInt ∧ v2.toInt < ((4 : Nat) : Int) then (if 0 ≤ v2.toInt ∧ v2.toInt < ((4 : Nat) : Int) then (bd1 (f_X2_begin ((i0 + 9) + 1 + 2 * ix v2) (M (i1 + 4) (ix v2)) (M (i1 + 5) (ix v2)) (M (i1 + 3) (ix v2)) M) fun M10 => lz (v2 + (1 : Int32)) fun x13 => f_X1_employ_L15 i0 i1 n x13 M10) else none) else none) else none) else none)
def f_X1_employ (i0 : Nat) (i1 : Nat) (M : Mm) : Option Mm :=
  lz (wr M i0 16 (nI (i1 + 1))) fun M1 => lz (wr M1 i0 15 (M1 i1 6)) fun M3 => bd1 (f_X1_employ_L15 i0 i1 FU (0 : Int32) M3) fun M16 => some M16
set_option maxHeartbeats 4000000 in
set_option maxRecDepth 100000 in
theorem l_X1_employ_L15 {p : Program} {e : Env} {s : State} {m : MethodId} {args : Array Value} {below : List Frame} {meth : Method} {c : Code} {l : Launch} {G : GG} {Q : State → Prop} (hC : CX p s m args meth c cX1_employ 3 RX1 none G) {i0 : Nat} {i1 : Nat} (hi0 : (kd i0).1 = 0) (hi1 : (kd i1).1 = 2) : ∀ (n : Nat) (v2 : Int32) (M : Mm) {M2 : Mm} (hr : f_X1_employ_L15 i0 i1 n v2 M = some (M2)) (K : XJ p l e (RM 1 0 0 23) s m args below meth c G 3 Q 0 0 M2 56 [] []), XJ p l e (RM 1 0 0 23) s m args below meth c G 3 Q 0 0 M 15 [(0, .ref (G.2.1 i0)), (1, .ref (G.2.1 i1)), (2, .int v2)] [] := by
  intro n
  induction n with
  | zero => intro v2 M M2 hr K; rw [f_X1_employ_L15] at hr; cases hr
  | succ n ih =>
    intro v2 M M2 hr K
    rw [f_X1_employ_L15] at hr
    refine x_iload_n hC dX1_employ_15 rfl 2 rfl ?_
    refine x_aload_n hC dX1_employ_16 rfl 0 rfl ?_
    refine gf_X1_61 hC hi0 dX1_employ_17 ?_
    refine x_icmp_ge hC 56 dX1_employ_20 (by decide) (fun h5 => ?_) (fun h5 => ?_)
    · have hr := (ie_s hr).1 h5
      cases hr
      exact x_sub [] rfl K
    · have hr := (ie_s hr).2 h5
      refine x_aload_n hC dX1_employ_23 rfl 0 rfl ?_
      refine gf_X1_57 hC hi0 dX1_employ_24 ?_
      refine x_iload_n hC dX1_employ_27 rfl 2 rfl ?_
      obtain ⟨h6, hr⟩ := it_s hr
      refine x_gald hC (kr_0_14 hi0) h6 dX1_employ_28 ?_
      refine x_aload_n hC dX1_employ_29 rfl 1 rfl ?_
      refine gf_X1_82 hC hi1 dX1_employ_30 ?_
      refine x_iload_n hC dX1_employ_33 rfl 2 rfl ?_
      obtain ⟨h7, hr⟩ := it_s hr
      refine x_iald hC (kr_2_4 hi1) h7 dX1_employ_34 ?_
      refine x_aload_n hC dX1_employ_35 rfl 1 rfl ?_
      refine gf_X1_85 hC hi1 dX1_employ_36 ?_
      refine x_iload_n hC dX1_employ_39 rfl 2 rfl ?_
      obtain ⟨h8, hr⟩ := it_s hr
      refine x_iald hC (kr_2_5 hi1) h8 dX1_employ_40 ?_
      refine x_aload_n hC dX1_employ_41 rfl 1 rfl ?_
      refine gf_X1_88 hC hi1 dX1_employ_42 ?_
      refine x_iload_n hC dX1_employ_45 rfl 2 rfl ?_
      obtain ⟨h9, hr⟩ := it_s hr
      refine x_iald hC (kr_2_3 hi1) h9 dX1_employ_46 ?_
      obtain ⟨M10, q11, hr⟩ := bd1_s hr
      refine x_callV (ci := 1) (q := (RX2, TX2, 11)) (As := [.int (M (i1 + 4) (ix v2)), .int (M (i1 + 5) (ix v2)), .int (M (i1 + 3) (ix v2))]) hC (c_X2_begin l G M (kr_gang (kr_0_14 hi0) h6) (M (i1 + 4) (ix v2)) (M (i1 + 5) (ix v2)) (M (i1 + 3) (ix v2)) q11) kc_yX2_begin km_X1_91 ki_yX2_begin kv_yX2_begin kn_RX2 ky_yX2_begin rfl ⟨rfl, rfl⟩ ⟨(Nat.le_of_ble_eq_true rfl), (Nat.le_of_ble_eq_true rfl)⟩ (kr_gang (kr_0_14 hi0) h6) (by decide) rfl rfl (Nat.le_of_ble_eq_true rfl) ⟨(Nat.le_of_ble_eq_true rfl), (Nat.le_of_ble_eq_true rfl)⟩ dX1_employ_47 (fun b12 => ?_)
      obtain ⟨x13, e14, hr⟩ := lz_s hr
      refine x_iinc hC [(2, .int x13), (0, .ref (G.2.1 i0)), (1, .ref (G.2.1 i1))] dX1_employ_50 2 rfl (by rw [e14]; rfl) (Nat.le_of_ble_eq_true rfl) rfl ?_
      refine x_goto hC 15 dX1_employ_53 (by decide) ?_
      exact x_sub [1, 2, 0] rfl (ih x13 M10 hr K)
set_option maxHeartbeats 4000000 in
set_option maxRecDepth 100000 in
theorem c_X1_employ (l : Launch) (G : GG) (M : Mm) {i0 : Nat} (hi0 : (kd i0).1 = 0) {i1 : Nat} (hi1 : (kd i1).1 = 2) {M9 : Mm} (hr : f_X1_employ i0 i1 M = some M9) : Mo false l yX1_employ (WS yX1_employ cX1_employ 3 none) (RM 1 0 0 23) 0 0 [.ref (G.2.1 i0), .ref (G.2.1 i1)] G M none M9 := by
  refine Mo.of (by decide +kernel) (Nat.le_of_ble_eq_true rfl) ?_
  intro p e s m args below meth c hC
  have hC : CX p s m args meth c cX1_employ 3 RX1 none G := hC
  rw [f_X1_employ] at hr
  show XJ p l e (RM 1 0 0 23) s m args below meth c G 3 _ 0 0 M 0 [(0, .ref (G.2.1 i0)), (1, .ref (G.2.1 i1))] []
  refine x_aload_n hC dX1_employ_0 rfl 0 rfl ?_
  refine x_aload_n hC dX1_employ_1 rfl 1 rfl ?_
  obtain ⟨M1, e2, hr⟩ := lz_s hr
  refine pf_X1_64 hC hi0 (kd_lt hi1) e2 dX1_employ_2 ?_
  refine x_aload_n hC dX1_employ_5 rfl 0 rfl ?_
  refine x_aload_n hC dX1_employ_6 rfl 1 rfl ?_
  refine gf_X1_79 hC hi1 dX1_employ_7 ?_
  obtain ⟨M3, e4, hr⟩ := lz_s hr
  refine pf_X1_61 hC hi0 e4 dX1_employ_10 ?_
  refine x_iconst hC (0 : Int32) dX1_employ_13 (by decide) ?_
  refine x_istore_n hC [(2, .int (0 : Int32)), (0, .ref (G.2.1 i0)), (1, .ref (G.2.1 i1))] dX1_employ_14 rfl (Nat.le_of_ble_eq_true rfl) rfl ?_
  obtain ⟨M16, q15, hr⟩ := bd1_s hr
  refine x_sub [1, 2, 0] rfl (l_X1_employ_L15 hC hi0 hi1 FU  (0 : Int32) M3 q15 ?_)
  cases hr
  exact x_vret hC rfl dX1_employ_56

theorem dX1_bricksInCarts_0 : decode cX1_bricksInCarts 0 = .ok (.iconst 0, 1) := by decide +kernel
theorem dX1_bricksInCarts_1 : decode cX1_bricksInCarts 1 = .ok (.istore_n 1, 1) := by decide +kernel
theorem dX1_bricksInCarts_2 : decode cX1_bricksInCarts 2 = .ok (.iconst 0, 1) := by decide +kernel
theorem dX1_bricksInCarts_3 : decode cX1_bricksInCarts 3 = .ok (.istore_n 2, 1) := by decide +kernel
theorem dX1_bricksInCarts_4 : decode cX1_bricksInCarts 4 = .ok (.iload_n 2, 1) := by decide +kernel
theorem dX1_bricksInCarts_5 : decode cX1_bricksInCarts 5 = .ok (.aload_n 0, 1) := by decide +kernel
theorem dX1_bricksInCarts_6 : decode cX1_bricksInCarts 6 = .ok (.getfield 61, 3) := by decide +kernel
theorem dX1_bricksInCarts_9 : decode cX1_bricksInCarts 9 = .ok (.if_icmp .ge 21, 3) := by decide +kernel
theorem dX1_bricksInCarts_12 : decode cX1_bricksInCarts 12 = .ok (.iload_n 1, 1) := by decide +kernel
theorem dX1_bricksInCarts_13 : decode cX1_bricksInCarts 13 = .ok (.aload_n 0, 1) := by decide +kernel
theorem dX1_bricksInCarts_14 : decode cX1_bricksInCarts 14 = .ok (.getfield 57, 3) := by decide +kernel
theorem dX1_bricksInCarts_17 : decode cX1_bricksInCarts 17 = .ok (.iload_n 2, 1) := by decide +kernel
theorem dX1_bricksInCarts_18 : decode cX1_bricksInCarts 18 = .ok (.aaload, 1) := by decide +kernel
theorem dX1_bricksInCarts_19 : decode cX1_bricksInCarts 19 = .ok (.getfield 95, 3) := by decide +kernel
theorem dX1_bricksInCarts_22 : decode cX1_bricksInCarts 22 = .ok (.iadd, 1) := by decide +kernel
theorem dX1_bricksInCarts_23 : decode cX1_bricksInCarts 23 = .ok (.istore_n 1, 1) := by decide +kernel
theorem dX1_bricksInCarts_24 : decode cX1_bricksInCarts 24 = .ok (.iinc 2 1, 3) := by decide +kernel
theorem dX1_bricksInCarts_27 : decode cX1_bricksInCarts 27 = .ok (.goto (-23), 3) := by decide +kernel
theorem dX1_bricksInCarts_30 : decode cX1_bricksInCarts 30 = .ok (.iload_n 1, 1) := by decide +kernel
theorem dX1_bricksInCarts_31 : decode cX1_bricksInCarts 31 = .ok (.ireturn, 1) := by decide +kernel
def f_X1_bricksInCarts_L4 (i0 : Nat) (M : Mm) : Nat → Int32 → Int32 → Option (Int32)
  | 0, _, _ => none
  | n + 1, v1, v2 =>
    if ((M i0 15) ≤ v2) then (some (v1)) else (if 0 ≤ v2.toInt ∧ v2.toInt < ((4 : Nat) : Int) then (lz (v1 + (M ((i0 + 9) + 1 + 2 * ix v2) 2)) fun x3 => lz (v2 + (1 : Int32)) fun x5 => f_X1_bricksInCarts_L4 i0 M n x3 x5) else none)
def f_X1_bricksInCarts (i0 : Nat) (M : Mm) : Option Int32 :=
  bd1 (f_X1_bricksInCarts_L4 i0 M FU (0 : Int32) (0 : Int32)) fun x8 => some x8
set_option maxHeartbeats 4000000 in
set_option maxRecDepth 100000 in
theorem l_X1_bricksInCarts_L4 {p : Program} {e : Env} {s : State} {m : MethodId} {args : Array Value} {below : List Frame} {meth : Method} {c : Code} {l : Launch} {G : GG} {Q : State → Prop} (hC : CX p s m args meth c cX1_bricksInCarts 3 RX1 (some .int) G) {i0 : Nat} (hi0 : (kd i0).1 = 0) (M : Mm) : ∀ (n : Nat) (v1 : Int32) (v2 : Int32) {o1 : Int32} (hr : f_X1_bricksInCarts_L4 i0 M n v1 v2 = some (o1)) (K : XJ p l e (RM 0 0 0 0) s m args below meth c G 3 Q 0 0 M 30 [(1, .int o1)] []), XJ p l e (RM 0 0 0 0) s m args below meth c G 3 Q 0 0 M 4 [(0, .ref (G.2.1 i0)), (1, .int v1), (2, .int v2)] [] := by
  intro n
  induction n with
  | zero => intro v1 v2 o1 hr K; rw [f_X1_bricksInCarts_L4] at hr; cases hr
  | succ n ih =>
    intro v1 v2 o1 hr K
    rw [f_X1_bricksInCarts_L4] at hr
    refine x_iload_n hC dX1_bricksInCarts_4 rfl 2 rfl ?_
    refine x_aload_n hC dX1_bricksInCarts_5 rfl 0 rfl ?_
    refine gf_X1_61 hC hi0 dX1_bricksInCarts_6 ?_
    refine x_icmp_ge hC 30 dX1_bricksInCarts_9 (by decide) (fun h1 => ?_) (fun h1 => ?_)
    · have hr := (ie_s hr).1 h1
      cases hr
      exact x_sub [1] rfl K
    · have hr := (ie_s hr).2 h1
      refine x_iload_n hC dX1_bricksInCarts_12 rfl 1 rfl ?_
      refine x_aload_n hC dX1_bricksInCarts_13 rfl 0 rfl ?_
      refine gf_X1_57 hC hi0 dX1_bricksInCarts_14 ?_
      refine x_iload_n hC dX1_bricksInCarts_17 rfl 2 rfl ?_
      obtain ⟨h2, hr⟩ := it_s hr
      refine x_gald hC (kr_0_14 hi0) h2 dX1_bricksInCarts_18 ?_
      refine gf_X1_95 hC (kr_gang (kr_0_14 hi0) h2) dX1_bricksInCarts_19 ?_
      refine x_iadd hC dX1_bricksInCarts_22 ?_
      obtain ⟨x3, e4, hr⟩ := lz_s hr
      refine x_topi e4 ?_
      refine x_istore_n hC [(1, .int x3), (0, .ref (G.2.1 i0)), (2, .int v2)] dX1_bricksInCarts_23 rfl (Nat.le_of_ble_eq_true rfl) rfl ?_
      obtain ⟨x5, e6, hr⟩ := lz_s hr
      refine x_iinc hC [(2, .int x5), (1, .int x3), (0, .ref (G.2.1 i0))] dX1_bricksInCarts_24 2 rfl (by rw [e6]; rfl) (Nat.le_of_ble_eq_true rfl) rfl ?_
      refine x_goto hC 4 dX1_bricksInCarts_27 (by decide) ?_
      exact x_sub [2, 1, 0] rfl (ih x3 x5 hr K)
set_option maxHeartbeats 4000000 in
set_option maxRecDepth 100000 in
theorem c_X1_bricksInCarts (l : Launch) (G : GG) (M : Mm) {i0 : Nat} (hi0 : (kd i0).1 = 0) {r : Int32} (hr : f_X1_bricksInCarts i0 M = some r) : Mo false l yX1_bricksInCarts (WS yX1_bricksInCarts cX1_bricksInCarts 3 (some .int)) (RM 0 0 0 0) 0 0 [.ref (G.2.1 i0)] G M (some (.int r)) M := by
  refine Mo.of (by decide +kernel) (Nat.le_of_ble_eq_true rfl) ?_
  intro p e s m args below meth c hC
  have hC : CX p s m args meth c cX1_bricksInCarts 3 RX1 (some .int) G := hC
  rw [f_X1_bricksInCarts] at hr
  show XJ p l e (RM 0 0 0 0) s m args below meth c G 3 _ 0 0 M 0 [(0, .ref (G.2.1 i0))] []
  refine x_iconst hC (0 : Int32) dX1_bricksInCarts_0 (by decide) ?_
  refine x_istore_n hC [(1, .int (0 : Int32)), (0, .ref (G.2.1 i0))] dX1_bricksInCarts_1 rfl (Nat.le_of_ble_eq_true rfl) rfl ?_
  refine x_iconst hC (0 : Int32) dX1_bricksInCarts_2 (by decide) ?_
  refine x_istore_n hC [(2, .int (0 : Int32)), (1, .int (0 : Int32)), (0, .ref (G.2.1 i0))] dX1_bricksInCarts_3 rfl (Nat.le_of_ble_eq_true rfl) rfl ?_
  obtain ⟨x8, q7, hr⟩ := bd1_s hr
  refine x_sub [2, 1, 0] rfl (l_X1_bricksInCarts_L4 hC hi0 M FU  (0 : Int32) (0 : Int32) q7 ?_)
  refine x_iload_n hC dX1_bricksInCarts_30 rfl 0 rfl ?_
  cases hr
  exact x_iret hC rfl dX1_bricksInCarts_31

theorem dX1_floodedCells_0 : decode cX1_floodedCells 0 = .ok (.iconst 0, 1) := by decide +kernel
theorem dX1_floodedCells_1 : decode cX1_floodedCells 1 = .ok (.istore_n 1, 1) := by decide +kernel
theorem dX1_floodedCells_2 : decode cX1_floodedCells 2 = .ok (.iconst 0, 1) := by decide +kernel
theorem dX1_floodedCells_3 : decode cX1_floodedCells 3 = .ok (.istore_n 2, 1) := by decide +kernel
theorem dX1_floodedCells_4 : decode cX1_floodedCells 4 = .ok (.iload_n 2, 1) := by decide +kernel
theorem dX1_floodedCells_5 : decode cX1_floodedCells 5 = .ok (.bipush 64, 2) := by decide +kernel
theorem dX1_floodedCells_7 : decode cX1_floodedCells 7 = .ok (.if_icmp .ge 23, 3) := by decide +kernel
theorem dX1_floodedCells_10 : decode cX1_floodedCells 10 = .ok (.aload_n 0, 1) := by decide +kernel
theorem dX1_floodedCells_11 : decode cX1_floodedCells 11 = .ok (.getfield 18, 3) := by decide +kernel
theorem dX1_floodedCells_14 : decode cX1_floodedCells 14 = .ok (.iload_n 2, 1) := by decide +kernel
theorem dX1_floodedCells_15 : decode cX1_floodedCells 15 = .ok (.iaload, 1) := by decide +kernel
theorem dX1_floodedCells_16 : decode cX1_floodedCells 16 = .ok (.bipush 9, 2) := by decide +kernel
theorem dX1_floodedCells_18 : decode cX1_floodedCells 18 = .ok (.if_icmp .ne 6, 3) := by decide +kernel
theorem dX1_floodedCells_21 : decode cX1_floodedCells 21 = .ok (.iinc 1 1, 3) := by decide +kernel
theorem dX1_floodedCells_24 : decode cX1_floodedCells 24 = .ok (.iinc 2 1, 3) := by decide +kernel
theorem dX1_floodedCells_27 : decode cX1_floodedCells 27 = .ok (.goto (-23), 3) := by decide +kernel
theorem dX1_floodedCells_30 : decode cX1_floodedCells 30 = .ok (.iload_n 1, 1) := by decide +kernel
theorem dX1_floodedCells_31 : decode cX1_floodedCells 31 = .ok (.ireturn, 1) := by decide +kernel
def f_X1_floodedCells_L4 (i0 : Nat) (M : Mm) : Nat → Int32 → Int32 → Option (Int32)
  | 0, _, _ => none
  | n + 1, v1, v2 =>
    if ((64 : Int32) ≤ v2) then (some (v1)) else (if 0 ≤ v2.toInt ∧ v2.toInt < ((64 : Nat) : Int) then (lz (if ((M (i0 + 3) (ix v2)) = (9 : Int32)) then (lz (v1 + (1 : Int32)) fun x5 => x5) else (v1)) fun x7 => lz (v2 + (1 : Int32)) fun x9 => f_X1_floodedCells_L4 i0 M n x7 x9) else none)
def f_X1_floodedCells (i0 : Nat) (M : Mm) : Option Int32 :=
  bd1 (f_X1_floodedCells_L4 i0 M FU (0 : Int32) (0 : Int32)) fun x12 => some x12
set_option maxHeartbeats 4000000 in
set_option maxRecDepth 100000 in
theorem l_X1_floodedCells_L4 {p : Program} {e : Env} {s : State} {m : MethodId} {args : Array Value} {below : List Frame} {meth : Method} {c : Code} {l : Launch} {G : GG} {Q : State → Prop} (hC : CX p s m args meth c cX1_floodedCells 3 RX1 (some .int) G) {i0 : Nat} (hi0 : (kd i0).1 = 0) (M : Mm) : ∀ (n : Nat) (v1 : Int32) (v2 : Int32) {o1 : Int32} (hr : f_X1_floodedCells_L4 i0 M n v1 v2 = some (o1)) (K : XJ p l e (RM 0 0 0 0) s m args below meth c G 3 Q 0 0 M 30 [(1, .int o1)] []), XJ p l e (RM 0 0 0 0) s m args below meth c G 3 Q 0 0 M 4 [(0, .ref (G.2.1 i0)), (1, .int v1), (2, .int v2)] [] := by
  intro n
  induction n with
  | zero => intro v1 v2 o1 hr K; rw [f_X1_floodedCells_L4] at hr; cases hr
  | succ n ih =>
    intro v1 v2 o1 hr K
    rw [f_X1_floodedCells_L4] at hr
    refine x_iload_n hC dX1_floodedCells_4 rfl 2 rfl ?_
    refine x_bipush hC (64 : Int32) dX1_floodedCells_5 (by decide) ?_
    refine x_icmp_ge hC 30 dX1_floodedCells_7 (by decide) (fun h1 => ?_) (fun h1 => ?_)
    · have hr := (ie_s hr).1 h1
      cases hr
      exact x_sub [1] rfl K
    · have hr := (ie_s hr).2 h1
      refine x_aload_n hC dX1_floodedCells_10 rfl 0 rfl ?_
      refine gf_X1_18 hC hi0 dX1_floodedCells_11 ?_
      refine x_iload_n hC dX1_floodedCells_14 rfl 2 rfl ?_
      obtain ⟨h2, hr⟩ := it_s hr
      refine x_iald hC (kr_0_2 hi0) h2 dX1_floodedCells_15 ?_
      refine x_bipush hC (9 : Int32) dX1_floodedCells_16 (by decide) ?_
      obtain ⟨x7, e8, hr⟩ := lz_s hr
      have q3 := e8.symm
      refine x_join (M' := M) (pc' := 24) (lv' := [(0, .ref (G.2.1 i0)), (1, .int x7), (2, .int v2)]) (st' := []) ?_ ?_
      · obtain ⟨x9, e10, hr⟩ := lz_s hr
        refine x_iinc hC [(2, .int x9), (0, .ref (G.2.1 i0)), (1, .int x7)] dX1_floodedCells_24 2 rfl (by rw [e10]; rfl) (Nat.le_of_ble_eq_true rfl) rfl ?_
        refine x_goto hC 4 dX1_floodedCells_27 (by decide) ?_
        exact x_sub [1, 2, 0] rfl (ih x7 x9 hr K)
      · intro kj
        refine x_icmp_ne hC 24 dX1_floodedCells_18 (by decide) (fun h4 => ?_) (fun h4 => ?_)
        · have q3 := (ie_s q3).2 h4
          subst q3
          exact x_sub [0, 1, 2] rfl kj
        · have q3 := (ie_s q3).1 h4
          obtain ⟨x5, e6, q3⟩ := lz_s q3
          refine x_iinc hC [(1, .int x5), (0, .ref (G.2.1 i0)), (2, .int v2)] dX1_floodedCells_21 1 rfl (by rw [e6]; rfl) (Nat.le_of_ble_eq_true rfl) rfl ?_
          subst q3
          exact x_sub [1, 0, 2] rfl kj
set_option maxHeartbeats 4000000 in
set_option maxRecDepth 100000 in
theorem c_X1_floodedCells (l : Launch) (G : GG) (M : Mm) {i0 : Nat} (hi0 : (kd i0).1 = 0) {r : Int32} (hr : f_X1_floodedCells i0 M = some r) : Mo false l yX1_floodedCells (WS yX1_floodedCells cX1_floodedCells 3 (some .int)) (RM 0 0 0 0) 0 0 [.ref (G.2.1 i0)] G M (some (.int r)) M := by
  refine Mo.of (by decide +kernel) (Nat.le_of_ble_eq_true rfl) ?_
  intro p e s m args below meth c hC
  have hC : CX p s m args meth c cX1_floodedCells 3 RX1 (some .int) G := hC
  rw [f_X1_floodedCells] at hr
  show XJ p l e (RM 0 0 0 0) s m args below meth c G 3 _ 0 0 M 0 [(0, .ref (G.2.1 i0))] []
  refine x_iconst hC (0 : Int32) dX1_floodedCells_0 (by decide) ?_
  refine x_istore_n hC [(1, .int (0 : Int32)), (0, .ref (G.2.1 i0))] dX1_floodedCells_1 rfl (Nat.le_of_ble_eq_true rfl) rfl ?_
  refine x_iconst hC (0 : Int32) dX1_floodedCells_2 (by decide) ?_
  refine x_istore_n hC [(2, .int (0 : Int32)), (1, .int (0 : Int32)), (0, .ref (G.2.1 i0))] dX1_floodedCells_3 rfl (Nat.le_of_ble_eq_true rfl) rfl ?_
  obtain ⟨x12, q11, hr⟩ := bd1_s hr
  refine x_sub [2, 1, 0] rfl (l_X1_floodedCells_L4 hC hi0 M FU  (0 : Int32) (0 : Int32) q11 ?_)
  refine x_iload_n hC dX1_floodedCells_30 rfl 0 rfl ?_
  cases hr
  exact x_iret hC rfl dX1_floodedCells_31

theorem dX1_addToStack_0 : decode cX1_addToStack 0 = .ok (.aload_n 0, 1) := by decide +kernel
theorem dX1_addToStack_1 : decode cX1_addToStack 1 = .ok (.getfield 24, 3) := by decide +kernel
theorem dX1_addToStack_4 : decode cX1_addToStack 4 = .ok (.iload_n 1, 1) := by decide +kernel
theorem dX1_addToStack_5 : decode cX1_addToStack 5 = .ok (.aload_n 0, 1) := by decide +kernel
theorem dX1_addToStack_6 : decode cX1_addToStack 6 = .ok (.getfield 21, 3) := by decide +kernel
theorem dX1_addToStack_9 : decode cX1_addToStack 9 = .ok (.iload_n 1, 1) := by decide +kernel
theorem dX1_addToStack_10 : decode cX1_addToStack 10 = .ok (.iaload, 1) := by decide +kernel
theorem dX1_addToStack_11 : decode cX1_addToStack 11 = .ok (.aload_n 0, 1) := by decide +kernel
theorem dX1_addToStack_12 : decode cX1_addToStack 12 = .ok (.getfield 24, 3) := by decide +kernel
theorem dX1_addToStack_15 : decode cX1_addToStack 15 = .ok (.iload_n 1, 1) := by decide +kernel
theorem dX1_addToStack_16 : decode cX1_addToStack 16 = .ok (.iaload, 1) := by decide +kernel
theorem dX1_addToStack_17 : decode cX1_addToStack 17 = .ok (.iload_n 2, 1) := by decide +kernel
theorem dX1_addToStack_18 : decode cX1_addToStack 18 = .ok (.iload_n 3, 1) := by decide +kernel
theorem dX1_addToStack_19 : decode cX1_addToStack 19 = .ok (.invokestatic 108, 3) := by decide +kernel
theorem dX1_addToStack_22 : decode cX1_addToStack 22 = .ok (.iastore, 1) := by decide +kernel
theorem dX1_addToStack_23 : decode cX1_addToStack 23 = .ok (.aload_n 0, 1) := by decide +kernel
theorem dX1_addToStack_24 : decode cX1_addToStack 24 = .ok (.getfield 21, 3) := by decide +kernel
theorem dX1_addToStack_27 : decode cX1_addToStack 27 = .ok (.iload_n 1, 1) := by decide +kernel
theorem dX1_addToStack_28 : decode cX1_addToStack 28 = .ok (.dup2, 1) := by decide +kernel
theorem dX1_addToStack_29 : decode cX1_addToStack 29 = .ok (.iaload, 1) := by decide +kernel
theorem dX1_addToStack_30 : decode cX1_addToStack 30 = .ok (.iload_n 2, 1) := by decide +kernel
theorem dX1_addToStack_31 : decode cX1_addToStack 31 = .ok (.iadd, 1) := by decide +kernel
theorem dX1_addToStack_32 : decode cX1_addToStack 32 = .ok (.iastore, 1) := by decide +kernel
theorem dX1_addToStack_33 : decode cX1_addToStack 33 = .ok (.return_, 1) := by decide +kernel

def f_X1_addToStack (i0 : Nat) (a1 : Int32) (a2 : Int32) (a3 : Int32) (M : Mm) : Option Mm :=
  if 0 ≤ a1.toInt ∧ a1.toInt < ((64 : Nat) : Int) then (if 0 ≤ a1.toInt ∧ a1.toInt < ((64 : Nat) : Int) then (bd1 (f_X9_mixed (M (i0 + 4) (ix a1)) (M (i0 + 5) (ix a1)) a2 a3 M) fun x3 => if 0 ≤ a1.toInt ∧ a1.toInt < ((64 : Nat) : Int) then (lz (wr M (i0 + 5) (ix a1) x3) fun M7 => if 0 ≤ a1.toInt ∧ a1.toInt < ((64 : Nat) : Int) then (if 0 ≤ a1.toInt ∧ a1.toInt < ((64 : Nat) : Int) then (lz (wr M7 (i0 + 4) (ix a1) ((M7 (i0 + 4) (ix a1)) + a2)) fun M11 => some M11) else none) else none) else none) else none) else none

set_option maxHeartbeats 4000000 in
set_option maxRecDepth 100000 in
theorem c_X1_addToStack (l : Launch) (G : GG) (M : Mm) {i0 : Nat} (hi0 : (kd i0).1 = 0) (a1 : Int32) (a2 : Int32) (a3 : Int32) {M9 : Mm} (hr : f_X1_addToStack i0 a1 a2 a3 M = some M9) : Mo false l yX1_addToStack (WS yX1_addToStack cX1_addToStack 4 none) (RM 1 0 0 24) 0 0 [.ref (G.2.1 i0), .int a1, .int a2, .int a3] G M none M9 := by
  refine Mo.of (by decide +kernel) (Nat.le_of_ble_eq_true rfl) ?_
  intro p e s m args below meth c hC
  have hC : CX p s m args meth c cX1_addToStack 4 RX1 none G := hC
  rw [f_X1_addToStack] at hr
  show XJ p l e (RM 1 0 0 24) s m args below meth c G 4 _ 0 0 M 0 [(0, .ref (G.2.1 i0)), (1, .int a1), (2, .int a2), (3, .int a3)] []
  refine x_aload_n hC dX1_addToStack_0 rfl 0 rfl ?_
  refine gf_X1_24 hC hi0 dX1_addToStack_1 ?_
  refine x_iload_n hC dX1_addToStack_4 rfl 1 rfl ?_
  refine x_aload_n hC dX1_addToStack_5 rfl 0 rfl ?_
  refine gf_X1_21 hC hi0 dX1_addToStack_6 ?_
  refine x_iload_n hC dX1_addToStack_9 rfl 1 rfl ?_
  obtain ⟨h1, hr⟩ := it_s hr
  refine x_iald hC (kr_0_3 hi0) h1 dX1_addToStack_10 ?_
  refine x_aload_n hC dX1_addToStack_11 rfl 0 rfl ?_
  refine gf_X1_24 hC hi0 dX1_addToStack_12 ?_
  refine x_iload_n hC dX1_addToStack_15 rfl 1 rfl ?_
  obtain ⟨h2, hr⟩ := it_s hr
  refine x_iald hC (kr_0_4 hi0) h2 dX1_addToStack_16 ?_
  refine x_iload_n hC dX1_addToStack_17 rfl 2 rfl ?_
  refine x_iload_n hC dX1_addToStack_18 rfl 3 rfl ?_
  obtain ⟨x3, q4, hr⟩ := bd1_s hr
  refine x_callSN (As := [.int (M (i0 + 4) (ix a1)), .int (M (i0 + 5) (ix a1)), .int a2, .int a3]) hC (c_X9_mixed l G M (M (i0 + 4) (ix a1)) (M (i0 + 5) (ix a1)) a2 a3 q4) kc_yX9_mixed kmn_X1_108 kt_yX9_mixed kn_RX9 ky_yX9_mixed rfl ⟨rfl, rfl⟩ ⟨(Nat.le_of_ble_eq_true rfl), (Nat.le_of_ble_eq_true rfl)⟩ rfl (Nat.le_of_ble_eq_true rfl) ⟨(Nat.le_of_ble_eq_true rfl), (Nat.le_of_ble_eq_true rfl)⟩ dX1_addToStack_19 (fun b5 => ?_)
  obtain ⟨h6, hr⟩ := it_s hr
  obtain ⟨M7, e8, hr⟩ := lz_s hr
  refine x_iast hC (kr_0_4 hi0) h6 e8 dX1_addToStack_22 ?_
  refine x_aload_n hC dX1_addToStack_23 rfl 0 rfl ?_
  refine gf_X1_21 hC hi0 dX1_addToStack_24 ?_
  refine x_iload_n hC dX1_addToStack_27 rfl 1 rfl ?_
  refine x_dup2 hC dX1_addToStack_28 rfl rfl ?_
  obtain ⟨h9, hr⟩ := it_s hr
  refine x_iald hC (kr_0_3 hi0) h9 dX1_addToStack_29 ?_
  refine x_iload_n hC dX1_addToStack_30 rfl 2 rfl ?_
  refine x_iadd hC dX1_addToStack_31 ?_
  obtain ⟨h10, hr⟩ := it_s hr
  obtain ⟨M11, e12, hr⟩ := lz_s hr
  refine x_iast hC (kr_0_3 hi0) h10 e12 dX1_addToStack_32 ?_
  cases hr
  exact x_vret hC rfl dX1_addToStack_33

theorem dX1_tellCell_0 : decode cX1_tellCell 0 = .ok (.iload_n 2, 1) := by decide +kernel
theorem dX1_tellCell_1 : decode cX1_tellCell 1 = .ok (.tableswitch 59 0 3 #[31, 38, 45, 52], 31) := by decide +kernel
theorem dX1_tellCell_32 : decode cX1_tellCell 32 = .ok (.aload_n 0, 1) := by decide +kernel
theorem dX1_tellCell_33 : decode cX1_tellCell 33 = .ok (.getfield 9, 3) := by decide +kernel
theorem dX1_tellCell_36 : decode cX1_tellCell 36 = .ok (.iload_n 1, 1) := by decide +kernel
theorem dX1_tellCell_37 : decode cX1_tellCell 37 = .ok (.iaload, 1) := by decide +kernel
theorem dX1_tellCell_38 : decode cX1_tellCell 38 = .ok (.ireturn, 1) := by decide +kernel
theorem dX1_tellCell_39 : decode cX1_tellCell 39 = .ok (.aload_n 0, 1) := by decide +kernel
theorem dX1_tellCell_40 : decode cX1_tellCell 40 = .ok (.getfield 18, 3) := by decide +kernel
theorem dX1_tellCell_43 : decode cX1_tellCell 43 = .ok (.iload_n 1, 1) := by decide +kernel
theorem dX1_tellCell_44 : decode cX1_tellCell 44 = .ok (.iaload, 1) := by decide +kernel
theorem dX1_tellCell_45 : decode cX1_tellCell 45 = .ok (.ireturn, 1) := by decide +kernel
theorem dX1_tellCell_46 : decode cX1_tellCell 46 = .ok (.aload_n 0, 1) := by decide +kernel
theorem dX1_tellCell_47 : decode cX1_tellCell 47 = .ok (.getfield 21, 3) := by decide +kernel
theorem dX1_tellCell_50 : decode cX1_tellCell 50 = .ok (.iload_n 1, 1) := by decide +kernel
theorem dX1_tellCell_51 : decode cX1_tellCell 51 = .ok (.iaload, 1) := by decide +kernel
theorem dX1_tellCell_52 : decode cX1_tellCell 52 = .ok (.ireturn, 1) := by decide +kernel
theorem dX1_tellCell_53 : decode cX1_tellCell 53 = .ok (.aload_n 0, 1) := by decide +kernel
theorem dX1_tellCell_54 : decode cX1_tellCell 54 = .ok (.getfield 24, 3) := by decide +kernel
theorem dX1_tellCell_57 : decode cX1_tellCell 57 = .ok (.iload_n 1, 1) := by decide +kernel
theorem dX1_tellCell_58 : decode cX1_tellCell 58 = .ok (.iaload, 1) := by decide +kernel
theorem dX1_tellCell_59 : decode cX1_tellCell 59 = .ok (.ireturn, 1) := by decide +kernel
theorem dX1_tellCell_60 : decode cX1_tellCell 60 = .ok (.aload_n 0, 1) := by decide +kernel
theorem dX1_tellCell_61 : decode cX1_tellCell 61 = .ok (.getfield 27, 3) := by decide +kernel
theorem dX1_tellCell_64 : decode cX1_tellCell 64 = .ok (.iload_n 1, 1) := by decide +kernel
theorem dX1_tellCell_65 : decode cX1_tellCell 65 = .ok (.iaload, 1) := by decide +kernel
theorem dX1_tellCell_66 : decode cX1_tellCell 66 = .ok (.ireturn, 1) := by decide +kernel

def f_X1_tellCell (i0 : Nat) (a1 : Int32) (a2 : Int32) (M : Mm) : Option Int32 :=
  if (a2 = (0 : Int32)) then (if 0 ≤ a1.toInt ∧ a1.toInt < ((64 : Nat) : Int) then (some (M (i0 + 1) (ix a1))) else none) else (if (a2 = (1 : Int32)) then (if 0 ≤ a1.toInt ∧ a1.toInt < ((64 : Nat) : Int) then (some (M (i0 + 3) (ix a1))) else none) else (if (a2 = (2 : Int32)) then (if 0 ≤ a1.toInt ∧ a1.toInt < ((64 : Nat) : Int) then (some (M (i0 + 4) (ix a1))) else none) else (if (a2 = (3 : Int32)) then (if 0 ≤ a1.toInt ∧ a1.toInt < ((64 : Nat) : Int) then (some (M (i0 + 5) (ix a1))) else none) else (if 0 ≤ a1.toInt ∧ a1.toInt < ((64 : Nat) : Int) then (some (M (i0 + 6) (ix a1))) else none))))

set_option maxHeartbeats 4000000 in
set_option maxRecDepth 100000 in
theorem c_X1_tellCell (l : Launch) (G : GG) (M : Mm) {i0 : Nat} (hi0 : (kd i0).1 = 0) (a1 : Int32) (a2 : Int32) {r : Int32} (hr : f_X1_tellCell i0 a1 a2 M = some r) : Mo false l yX1_tellCell (WS yX1_tellCell cX1_tellCell 3 (some .int)) (RM 0 0 0 0) 0 0 [.ref (G.2.1 i0), .int a1, .int a2] G M (some (.int r)) M := by
  refine Mo.of (by decide +kernel) (Nat.le_of_ble_eq_true rfl) ?_
  intro p e s m args below meth c hC
  have hC : CX p s m args meth c cX1_tellCell 3 RX1 (some .int) G := hC
  rw [f_X1_tellCell] at hr
  show XJ p l e (RM 0 0 0 0) s m args below meth c G 3 _ 0 0 M 0 [(0, .ref (G.2.1 i0)), (1, .int a1), (2, .int a2)] []
  refine x_iload_n hC dX1_tellCell_0 rfl 2 rfl ?_
  by_cases s1 : a2 = (0 : Int32)
  · have hr := (ie_s hr).1 s1
    refine x_tableIn hC (off := 31) 32 dX1_tellCell_1 (by rw [s1]; decide) (by rw [s1]; decide) (by rw [s1]; rfl) (by decide) ?_
    refine x_aload_n hC dX1_tellCell_32 rfl 0 rfl ?_
    refine gf_X1_9 hC hi0 dX1_tellCell_33 ?_
    refine x_iload_n hC dX1_tellCell_36 rfl 1 rfl ?_
    obtain ⟨h2, hr⟩ := it_s hr
    refine x_iald hC (kr_0_0 hi0) h2 dX1_tellCell_37 ?_
    cases hr
    exact x_iret hC rfl dX1_tellCell_38
  · have hr := (ie_s hr).2 s1
    by_cases s3 : a2 = (1 : Int32)
    · have hr := (ie_s hr).1 s3
      refine x_tableIn hC (off := 38) 39 dX1_tellCell_1 (by rw [s3]; decide) (by rw [s3]; decide) (by rw [s3]; rfl) (by decide) ?_
      refine x_aload_n hC dX1_tellCell_39 rfl 0 rfl ?_
      refine gf_X1_18 hC hi0 dX1_tellCell_40 ?_
      refine x_iload_n hC dX1_tellCell_43 rfl 1 rfl ?_
      obtain ⟨h4, hr⟩ := it_s hr
      refine x_iald hC (kr_0_2 hi0) h4 dX1_tellCell_44 ?_
      cases hr
      exact x_iret hC rfl dX1_tellCell_45
    · have hr := (ie_s hr).2 s3
      by_cases s5 : a2 = (2 : Int32)
      · have hr := (ie_s hr).1 s5
        refine x_tableIn hC (off := 45) 46 dX1_tellCell_1 (by rw [s5]; decide) (by rw [s5]; decide) (by rw [s5]; rfl) (by decide) ?_
        refine x_aload_n hC dX1_tellCell_46 rfl 0 rfl ?_
        refine gf_X1_21 hC hi0 dX1_tellCell_47 ?_
        refine x_iload_n hC dX1_tellCell_50 rfl 1 rfl ?_
        obtain ⟨h6, hr⟩ := it_s hr
        refine x_iald hC (kr_0_3 hi0) h6 dX1_tellCell_51 ?_
        cases hr
        exact x_iret hC rfl dX1_tellCell_52
      · have hr := (ie_s hr).2 s5
        by_cases s7 : a2 = (3 : Int32)
        · have hr := (ie_s hr).1 s7
          refine x_tableIn hC (off := 52) 53 dX1_tellCell_1 (by rw [s7]; decide) (by rw [s7]; decide) (by rw [s7]; rfl) (by decide) ?_
          refine x_aload_n hC dX1_tellCell_53 rfl 0 rfl ?_
          refine gf_X1_24 hC hi0 dX1_tellCell_54 ?_
          refine x_iload_n hC dX1_tellCell_57 rfl 1 rfl ?_
          obtain ⟨h8, hr⟩ := it_s hr
          refine x_iald hC (kr_0_4 hi0) h8 dX1_tellCell_58 ?_
          cases hr
          exact x_iret hC rfl dX1_tellCell_59
        · have hr := (ie_s hr).2 s7
          refine x_tableOut hC 60 dX1_tellCell_1 (by have := ne_toI s1 (z := 0) (by decide); have := ne_toI s3 (z := 1) (by decide); have := ne_toI s5 (z := 2) (by decide); have := ne_toI s7 (z := 3) (by decide); omega) (by decide) ?_
          refine x_aload_n hC dX1_tellCell_60 rfl 0 rfl ?_
          refine gf_X1_27 hC hi0 dX1_tellCell_61 ?_
          refine x_iload_n hC dX1_tellCell_64 rfl 1 rfl ?_
          obtain ⟨h9, hr⟩ := it_s hr
          refine x_iald hC (kr_0_5 hi0) h9 dX1_tellCell_65 ?_
          cases hr
          exact x_iret hC rfl dX1_tellCell_66

theorem dX2_tell_0 : decode cX2_tell 0 = .ok (.iload_n 1, 1) := by decide +kernel
theorem dX2_tell_1 : decode cX2_tell 1 = .ok (.tableswitch 95 0 7 #[47, 52, 57, 62, 67, 80, 85, 90], 47) := by decide +kernel
theorem dX2_tell_48 : decode cX2_tell 48 = .ok (.aload_n 0, 1) := by decide +kernel
theorem dX2_tell_49 : decode cX2_tell 49 = .ok (.getfield 15, 3) := by decide +kernel
theorem dX2_tell_52 : decode cX2_tell 52 = .ok (.ireturn, 1) := by decide +kernel
theorem dX2_tell_53 : decode cX2_tell 53 = .ok (.aload_n 0, 1) := by decide +kernel
theorem dX2_tell_54 : decode cX2_tell 54 = .ok (.getfield 19, 3) := by decide +kernel
theorem dX2_tell_57 : decode cX2_tell 57 = .ok (.ireturn, 1) := by decide +kernel
theorem dX2_tell_58 : decode cX2_tell 58 = .ok (.aload_n 0, 1) := by decide +kernel
theorem dX2_tell_59 : decode cX2_tell 59 = .ok (.getfield 22, 3) := by decide +kernel
theorem dX2_tell_62 : decode cX2_tell 62 = .ok (.ireturn, 1) := by decide +kernel
theorem dX2_tell_63 : decode cX2_tell 63 = .ok (.aload_n 0, 1) := by decide +kernel
theorem dX2_tell_64 : decode cX2_tell 64 = .ok (.getfield 25, 3) := by decide +kernel
theorem dX2_tell_67 : decode cX2_tell 67 = .ok (.ireturn, 1) := by decide +kernel
theorem dX2_tell_68 : decode cX2_tell 68 = .ok (.aload_n 0, 1) := by decide +kernel
theorem dX2_tell_69 : decode cX2_tell 69 = .ok (.getfield 28, 3) := by decide +kernel
theorem dX2_tell_72 : decode cX2_tell 72 = .ok (.ifCond .eq 7, 3) := by decide +kernel
theorem dX2_tell_75 : decode cX2_tell 75 = .ok (.iconst 1, 1) := by decide +kernel
theorem dX2_tell_76 : decode cX2_tell 76 = .ok (.goto 4, 3) := by decide +kernel
theorem dX2_tell_79 : decode cX2_tell 79 = .ok (.iconst 0, 1) := by decide +kernel
theorem dX2_tell_80 : decode cX2_tell 80 = .ok (.ireturn, 1) := by decide +kernel
theorem dX2_tell_81 : decode cX2_tell 81 = .ok (.aload_n 0, 1) := by decide +kernel
theorem dX2_tell_82 : decode cX2_tell 82 = .ok (.getfield 32, 3) := by decide +kernel
theorem dX2_tell_85 : decode cX2_tell 85 = .ok (.ireturn, 1) := by decide +kernel
theorem dX2_tell_86 : decode cX2_tell 86 = .ok (.aload_n 0, 1) := by decide +kernel
theorem dX2_tell_87 : decode cX2_tell 87 = .ok (.getfield 35, 3) := by decide +kernel
theorem dX2_tell_90 : decode cX2_tell 90 = .ok (.ireturn, 1) := by decide +kernel
theorem dX2_tell_91 : decode cX2_tell 91 = .ok (.aload_n 0, 1) := by decide +kernel
theorem dX2_tell_92 : decode cX2_tell 92 = .ok (.getfield 38, 3) := by decide +kernel
theorem dX2_tell_95 : decode cX2_tell 95 = .ok (.ireturn, 1) := by decide +kernel
theorem dX2_tell_96 : decode cX2_tell 96 = .ok (.aload_n 0, 1) := by decide +kernel
theorem dX2_tell_97 : decode cX2_tell 97 = .ok (.getfield 41, 3) := by decide +kernel
theorem dX2_tell_100 : decode cX2_tell 100 = .ok (.ireturn, 1) := by decide +kernel

def f_X2_tell (i0 : Nat) (a1 : Int32) (M : Mm) : Int32 :=
  if (a1 = (0 : Int32)) then ((M i0 0)) else (if (a1 = (1 : Int32)) then ((M i0 1)) else (if (a1 = (2 : Int32)) then ((M i0 2)) else (if (a1 = (3 : Int32)) then ((M i0 3)) else (if (a1 = (4 : Int32)) then (if ((M i0 4) = 0) then ((0 : Int32)) else ((1 : Int32))) else (if (a1 = (5 : Int32)) then ((M i0 5)) else (if (a1 = (6 : Int32)) then ((M i0 6)) else (if (a1 = (7 : Int32)) then ((M i0 7)) else ((M i0 8)))))))))

set_option maxHeartbeats 4000000 in
set_option maxRecDepth 100000 in
theorem c_X2_tell (l : Launch) (G : GG) (M : Mm) {i0 : Nat} (hi0 : (kd i0).1 = 1) (a1 : Int32) {r : Int32} (hr : f_X2_tell i0 a1 M = r) : Mo false l yX2_tell (WS yX2_tell cX2_tell 2 (some .int)) (RM 0 0 0 0) 0 0 [.ref (G.2.1 i0), .int a1] G M (some (.int r)) M := by
  refine Mo.of (by decide +kernel) (Nat.le_of_ble_eq_true rfl) ?_
  intro p e s m args below meth c hC
  have hC : CX p s m args meth c cX2_tell 2 RX2 (some .int) G := hC
  rw [f_X2_tell] at hr
  show XJ p l e (RM 0 0 0 0) s m args below meth c G 2 _ 0 0 M 0 [(0, .ref (G.2.1 i0)), (1, .int a1)] []
  refine x_iload_n hC dX2_tell_0 rfl 1 rfl ?_
  by_cases s1 : a1 = (0 : Int32)
  · have hr := (ie_s hr).1 s1
    refine x_tableIn hC (off := 47) 48 dX2_tell_1 (by rw [s1]; decide) (by rw [s1]; decide) (by rw [s1]; rfl) (by decide) ?_
    refine x_aload_n hC dX2_tell_48 rfl 0 rfl ?_
    refine gf_X2_15 hC hi0 dX2_tell_49 ?_
    subst hr
    exact x_iret hC rfl dX2_tell_52
  · have hr := (ie_s hr).2 s1
    by_cases s2 : a1 = (1 : Int32)
    · have hr := (ie_s hr).1 s2
      refine x_tableIn hC (off := 52) 53 dX2_tell_1 (by rw [s2]; decide) (by rw [s2]; decide) (by rw [s2]; rfl) (by decide) ?_
      refine x_aload_n hC dX2_tell_53 rfl 0 rfl ?_
      refine gf_X2_19 hC hi0 dX2_tell_54 ?_
      subst hr
      exact x_iret hC rfl dX2_tell_57
    · have hr := (ie_s hr).2 s2
      by_cases s3 : a1 = (2 : Int32)
      · have hr := (ie_s hr).1 s3
        refine x_tableIn hC (off := 57) 58 dX2_tell_1 (by rw [s3]; decide) (by rw [s3]; decide) (by rw [s3]; rfl) (by decide) ?_
        refine x_aload_n hC dX2_tell_58 rfl 0 rfl ?_
        refine gf_X2_22 hC hi0 dX2_tell_59 ?_
        subst hr
        exact x_iret hC rfl dX2_tell_62
      · have hr := (ie_s hr).2 s3
        by_cases s4 : a1 = (3 : Int32)
        · have hr := (ie_s hr).1 s4
          refine x_tableIn hC (off := 62) 63 dX2_tell_1 (by rw [s4]; decide) (by rw [s4]; decide) (by rw [s4]; rfl) (by decide) ?_
          refine x_aload_n hC dX2_tell_63 rfl 0 rfl ?_
          refine gf_X2_25 hC hi0 dX2_tell_64 ?_
          subst hr
          exact x_iret hC rfl dX2_tell_67
        · have hr := (ie_s hr).2 s4
          by_cases s5 : a1 = (4 : Int32)
          · have hr := (ie_s hr).1 s5
            refine x_tableIn hC (off := 67) 68 dX2_tell_1 (by rw [s5]; decide) (by rw [s5]; decide) (by rw [s5]; rfl) (by decide) ?_
            refine x_aload_n hC dX2_tell_68 rfl 0 rfl ?_
            refine gf_X2_28 hC hi0 dX2_tell_69 ?_
            refine x_if_eq hC 79 dX2_tell_72 (by decide) (fun h6 => ?_) (fun h6 => ?_)
            · have hr := (ie_s hr).1 h6
              refine x_iconst hC (0 : Int32) dX2_tell_79 (by decide) ?_
              subst hr
              exact x_iret hC rfl dX2_tell_80
            · have hr := (ie_s hr).2 h6
              refine x_iconst hC (1 : Int32) dX2_tell_75 (by decide) ?_
              refine x_goto hC 80 dX2_tell_76 (by decide) ?_
              subst hr
              exact x_iret hC rfl dX2_tell_80
          · have hr := (ie_s hr).2 s5
            by_cases s7 : a1 = (5 : Int32)
            · have hr := (ie_s hr).1 s7
              refine x_tableIn hC (off := 80) 81 dX2_tell_1 (by rw [s7]; decide) (by rw [s7]; decide) (by rw [s7]; rfl) (by decide) ?_
              refine x_aload_n hC dX2_tell_81 rfl 0 rfl ?_
              refine gf_X2_32 hC hi0 dX2_tell_82 ?_
              subst hr
              exact x_iret hC rfl dX2_tell_85
            · have hr := (ie_s hr).2 s7
              by_cases s8 : a1 = (6 : Int32)
              · have hr := (ie_s hr).1 s8
                refine x_tableIn hC (off := 85) 86 dX2_tell_1 (by rw [s8]; decide) (by rw [s8]; decide) (by rw [s8]; rfl) (by decide) ?_
                refine x_aload_n hC dX2_tell_86 rfl 0 rfl ?_
                refine gf_X2_35 hC hi0 dX2_tell_87 ?_
                subst hr
                exact x_iret hC rfl dX2_tell_90
              · have hr := (ie_s hr).2 s8
                by_cases s9 : a1 = (7 : Int32)
                · have hr := (ie_s hr).1 s9
                  refine x_tableIn hC (off := 90) 91 dX2_tell_1 (by rw [s9]; decide) (by rw [s9]; decide) (by rw [s9]; rfl) (by decide) ?_
                  refine x_aload_n hC dX2_tell_91 rfl 0 rfl ?_
                  refine gf_X2_38 hC hi0 dX2_tell_92 ?_
                  subst hr
                  exact x_iret hC rfl dX2_tell_95
                · have hr := (ie_s hr).2 s9
                  refine x_tableOut hC 96 dX2_tell_1 (by have := ne_toI s1 (z := 0) (by decide); have := ne_toI s2 (z := 1) (by decide); have := ne_toI s3 (z := 2) (by decide); have := ne_toI s4 (z := 3) (by decide); have := ne_toI s5 (z := 4) (by decide); have := ne_toI s7 (z := 5) (by decide); have := ne_toI s8 (z := 6) (by decide); have := ne_toI s9 (z := 7) (by decide); omega) (by decide) ?_
                  refine x_aload_n hC dX2_tell_96 rfl 0 rfl ?_
                  refine gf_X2_41 hC hi0 dX2_tell_97 ?_
                  subst hr
                  exact x_iret hC rfl dX2_tell_100

theorem dX1_rainOfDay_0 : decode cX1_rainOfDay 0 = .ok (.aload_n 0, 1) := by decide +kernel
theorem dX1_rainOfDay_1 : decode cX1_rainOfDay 1 = .ok (.getfield 30, 3) := by decide +kernel
theorem dX1_rainOfDay_4 : decode cX1_rainOfDay 4 = .ok (.aload_n 0, 1) := by decide +kernel
theorem dX1_rainOfDay_5 : decode cX1_rainOfDay 5 = .ok (.getfield 36, 3) := by decide +kernel
theorem dX1_rainOfDay_8 : decode cX1_rainOfDay 8 = .ok (.bipush 12, 2) := by decide +kernel
theorem dX1_rainOfDay_10 : decode cX1_rainOfDay 10 = .ok (.irem, 1) := by decide +kernel
theorem dX1_rainOfDay_11 : decode cX1_rainOfDay 11 = .ok (.iaload, 1) := by decide +kernel
theorem dX1_rainOfDay_12 : decode cX1_rainOfDay 12 = .ok (.ireturn, 1) := by decide +kernel

def f_X1_rainOfDay (i0 : Nat) (M : Mm) : Option Int32 :=
  if 0 ≤ ((M i0 8) - (M i0 8) / (12 : Int32) * (12 : Int32)).toInt ∧ ((M i0 8) - (M i0 8) / (12 : Int32) * (12 : Int32)).toInt < ((12 : Nat) : Int) then (lz (M (i0 + 7) (ix ((M i0 8) - (M i0 8) / (12 : Int32) * (12 : Int32)))) fun x2 => some x2) else none

set_option maxHeartbeats 4000000 in
set_option maxRecDepth 100000 in
theorem c_X1_rainOfDay (l : Launch) (G : GG) (M : Mm) {i0 : Nat} (hi0 : (kd i0).1 = 0) {r : Int32} (hr : f_X1_rainOfDay i0 M = some r) : Mo false l yX1_rainOfDay (WS yX1_rainOfDay cX1_rainOfDay 1 (some .int)) (RM 0 0 0 0) 0 0 [.ref (G.2.1 i0)] G M (some (.int r)) M := by
  refine Mo.of (by decide +kernel) (Nat.le_of_ble_eq_true rfl) ?_
  intro p e s m args below meth c hC
  have hC : CX p s m args meth c cX1_rainOfDay 1 RX1 (some .int) G := hC
  rw [f_X1_rainOfDay] at hr
  show XJ p l e (RM 0 0 0 0) s m args below meth c G 1 _ 0 0 M 0 [(0, .ref (G.2.1 i0))] []
  refine x_aload_n hC dX1_rainOfDay_0 rfl 0 rfl ?_
  refine gf_X1_30 hC hi0 dX1_rainOfDay_1 ?_
  refine x_aload_n hC dX1_rainOfDay_4 rfl 0 rfl ?_
  refine gf_X1_36 hC hi0 dX1_rainOfDay_5 ?_
  refine x_bipush hC (12 : Int32) dX1_rainOfDay_8 (by decide) ?_
  refine x_irem hC dX1_rainOfDay_10 (by decide) ?_
  obtain ⟨h1, hr⟩ := it_s hr
  refine x_iald hC (kr_0_6 hi0) h1 dX1_rainOfDay_11 ?_
  obtain ⟨x2, e3, hr⟩ := lz_s hr
  refine x_topi e3 ?_
  cases hr
  exact x_iret hC rfl dX1_rainOfDay_12

theorem dX1_sunOfDay_0 : decode cX1_sunOfDay 0 = .ok (.aload_n 0, 1) := by decide +kernel
theorem dX1_sunOfDay_1 : decode cX1_sunOfDay 1 = .ok (.getfield 33, 3) := by decide +kernel
theorem dX1_sunOfDay_4 : decode cX1_sunOfDay 4 = .ok (.aload_n 0, 1) := by decide +kernel
theorem dX1_sunOfDay_5 : decode cX1_sunOfDay 5 = .ok (.getfield 36, 3) := by decide +kernel
theorem dX1_sunOfDay_8 : decode cX1_sunOfDay 8 = .ok (.bipush 12, 2) := by decide +kernel
theorem dX1_sunOfDay_10 : decode cX1_sunOfDay 10 = .ok (.irem, 1) := by decide +kernel
theorem dX1_sunOfDay_11 : decode cX1_sunOfDay 11 = .ok (.iaload, 1) := by decide +kernel
theorem dX1_sunOfDay_12 : decode cX1_sunOfDay 12 = .ok (.ireturn, 1) := by decide +kernel

def f_X1_sunOfDay (i0 : Nat) (M : Mm) : Option Int32 :=
  if 0 ≤ ((M i0 8) - (M i0 8) / (12 : Int32) * (12 : Int32)).toInt ∧ ((M i0 8) - (M i0 8) / (12 : Int32) * (12 : Int32)).toInt < ((12 : Nat) : Int) then (lz (M (i0 + 8) (ix ((M i0 8) - (M i0 8) / (12 : Int32) * (12 : Int32)))) fun x2 => some x2) else none

set_option maxHeartbeats 4000000 in
set_option maxRecDepth 100000 in
theorem c_X1_sunOfDay (l : Launch) (G : GG) (M : Mm) {i0 : Nat} (hi0 : (kd i0).1 = 0) {r : Int32} (hr : f_X1_sunOfDay i0 M = some r) : Mo false l yX1_sunOfDay (WS yX1_sunOfDay cX1_sunOfDay 1 (some .int)) (RM 0 0 0 0) 0 0 [.ref (G.2.1 i0)] G M (some (.int r)) M := by
  refine Mo.of (by decide +kernel) (Nat.le_of_ble_eq_true rfl) ?_
  intro p e s m args below meth c hC
  have hC : CX p s m args meth c cX1_sunOfDay 1 RX1 (some .int) G := hC
  rw [f_X1_sunOfDay] at hr
  show XJ p l e (RM 0 0 0 0) s m args below meth c G 1 _ 0 0 M 0 [(0, .ref (G.2.1 i0))] []
  refine x_aload_n hC dX1_sunOfDay_0 rfl 0 rfl ?_
  refine gf_X1_33 hC hi0 dX1_sunOfDay_1 ?_
  refine x_aload_n hC dX1_sunOfDay_4 rfl 0 rfl ?_
  refine gf_X1_36 hC hi0 dX1_sunOfDay_5 ?_
  refine x_bipush hC (12 : Int32) dX1_sunOfDay_8 (by decide) ?_
  refine x_irem hC dX1_sunOfDay_10 (by decide) ?_
  obtain ⟨h1, hr⟩ := it_s hr
  refine x_iald hC (kr_0_7 hi0) h1 dX1_sunOfDay_11 ?_
  obtain ⟨x2, e3, hr⟩ := lz_s hr
  refine x_topi e3 ?_
  cases hr
  exact x_iret hC rfl dX1_sunOfDay_12

theorem dX5_argumentAt_0 : decode cX5_argumentAt 0 = .ok (.iload_n 1, 1) := by decide +kernel
theorem dX5_argumentAt_1 : decode cX5_argumentAt 1 = .ok (.ifCond .lt 20, 3) := by decide +kernel
theorem dX5_argumentAt_4 : decode cX5_argumentAt 4 = .ok (.iload_n 1, 1) := by decide +kernel
theorem dX5_argumentAt_5 : decode cX5_argumentAt 5 = .ok (.aload_n 0, 1) := by decide +kernel
theorem dX5_argumentAt_6 : decode cX5_argumentAt 6 = .ok (.getfield 18, 3) := by decide +kernel
theorem dX5_argumentAt_9 : decode cX5_argumentAt 9 = .ok (.if_icmp .ge 12, 3) := by decide +kernel
theorem dX5_argumentAt_12 : decode cX5_argumentAt 12 = .ok (.aload_n 0, 1) := by decide +kernel
theorem dX5_argumentAt_13 : decode cX5_argumentAt 13 = .ok (.getfield 15, 3) := by decide +kernel
theorem dX5_argumentAt_16 : decode cX5_argumentAt 16 = .ok (.iload_n 1, 1) := by decide +kernel
theorem dX5_argumentAt_17 : decode cX5_argumentAt 17 = .ok (.iaload, 1) := by decide +kernel
theorem dX5_argumentAt_18 : decode cX5_argumentAt 18 = .ok (.goto 4, 3) := by decide +kernel
theorem dX5_argumentAt_21 : decode cX5_argumentAt 21 = .ok (.iconst 0, 1) := by decide +kernel
theorem dX5_argumentAt_22 : decode cX5_argumentAt 22 = .ok (.ireturn, 1) := by decide +kernel

def f_X5_argumentAt (i0 : Nat) (a1 : Int32) (M : Mm) : Option Int32 :=
  if (a1 < 0) then (some (0 : Int32)) else (if ((M i0 2) ≤ a1) then (some (0 : Int32)) else (if 0 ≤ a1.toInt ∧ a1.toInt < ((800 : Nat) : Int) then (some (M (i0 + 2) (ix a1))) else none))

set_option maxHeartbeats 4000000 in
set_option maxRecDepth 100000 in
theorem c_X5_argumentAt (l : Launch) (G : GG) (M : Mm) {i0 : Nat} (hi0 : (kd i0).1 = 2) (a1 : Int32) {r : Int32} (hr : f_X5_argumentAt i0 a1 M = some r) : Mo false l yX5_argumentAt (WS yX5_argumentAt cX5_argumentAt 2 (some .int)) (RM 0 0 0 0) 0 0 [.ref (G.2.1 i0), .int a1] G M (some (.int r)) M := by
  refine Mo.of (by decide +kernel) (Nat.le_of_ble_eq_true rfl) ?_
  intro p e s m args below meth c hC
  have hC : CX p s m args meth c cX5_argumentAt 2 RX5 (some .int) G := hC
  rw [f_X5_argumentAt] at hr
  show XJ p l e (RM 0 0 0 0) s m args below meth c G 2 _ 0 0 M 0 [(0, .ref (G.2.1 i0)), (1, .int a1)] []
  refine x_iload_n hC dX5_argumentAt_0 rfl 1 rfl ?_
  refine x_if_lt hC 21 dX5_argumentAt_1 (by decide) (fun h1 => ?_) (fun h1 => ?_)
  · have hr := (ie_s hr).1 h1
    refine x_iconst hC (0 : Int32) dX5_argumentAt_21 (by decide) ?_
    cases hr
    exact x_iret hC rfl dX5_argumentAt_22
  · have hr := (ie_s hr).2 h1
    refine x_iload_n hC dX5_argumentAt_4 rfl 1 rfl ?_
    refine x_aload_n hC dX5_argumentAt_5 rfl 0 rfl ?_
    refine gf_X5_18 hC hi0 dX5_argumentAt_6 ?_
    refine x_icmp_ge hC 21 dX5_argumentAt_9 (by decide) (fun h2 => ?_) (fun h2 => ?_)
    · have hr := (ie_s hr).1 h2
      refine x_iconst hC (0 : Int32) dX5_argumentAt_21 (by decide) ?_
      cases hr
      exact x_iret hC rfl dX5_argumentAt_22
    · have hr := (ie_s hr).2 h2
      refine x_aload_n hC dX5_argumentAt_12 rfl 0 rfl ?_
      refine gf_X5_15 hC hi0 dX5_argumentAt_13 ?_
      refine x_iload_n hC dX5_argumentAt_16 rfl 1 rfl ?_
      obtain ⟨h3, hr⟩ := it_s hr
      refine x_iald hC (kr_2_1 hi0) h3 dX5_argumentAt_17 ?_
      refine x_goto hC 22 dX5_argumentAt_18 (by decide) ?_
      cases hr
      exact x_iret hC rfl dX5_argumentAt_22

theorem dX5_opAt_0 : decode cX5_opAt 0 = .ok (.iload_n 1, 1) := by decide +kernel
theorem dX5_opAt_1 : decode cX5_opAt 1 = .ok (.ifCond .lt 20, 3) := by decide +kernel
theorem dX5_opAt_4 : decode cX5_opAt 4 = .ok (.iload_n 1, 1) := by decide +kernel
theorem dX5_opAt_5 : decode cX5_opAt 5 = .ok (.aload_n 0, 1) := by decide +kernel
theorem dX5_opAt_6 : decode cX5_opAt 6 = .ok (.getfield 18, 3) := by decide +kernel
theorem dX5_opAt_9 : decode cX5_opAt 9 = .ok (.if_icmp .ge 12, 3) := by decide +kernel
theorem dX5_opAt_12 : decode cX5_opAt 12 = .ok (.aload_n 0, 1) := by decide +kernel
theorem dX5_opAt_13 : decode cX5_opAt 13 = .ok (.getfield 11, 3) := by decide +kernel
theorem dX5_opAt_16 : decode cX5_opAt 16 = .ok (.iload_n 1, 1) := by decide +kernel
theorem dX5_opAt_17 : decode cX5_opAt 17 = .ok (.iaload, 1) := by decide +kernel
theorem dX5_opAt_18 : decode cX5_opAt 18 = .ok (.goto 5, 3) := by decide +kernel
theorem dX5_opAt_21 : decode cX5_opAt 21 = .ok (.bipush 39, 2) := by decide +kernel
theorem dX5_opAt_23 : decode cX5_opAt 23 = .ok (.ireturn, 1) := by decide +kernel

def f_X5_opAt (i0 : Nat) (a1 : Int32) (M : Mm) : Option Int32 :=
  if (a1 < 0) then (some (39 : Int32)) else (if ((M i0 2) ≤ a1) then (some (39 : Int32)) else (if 0 ≤ a1.toInt ∧ a1.toInt < ((800 : Nat) : Int) then (some (M (i0 + 1) (ix a1))) else none))

set_option maxHeartbeats 4000000 in
set_option maxRecDepth 100000 in
theorem c_X5_opAt (l : Launch) (G : GG) (M : Mm) {i0 : Nat} (hi0 : (kd i0).1 = 2) (a1 : Int32) {r : Int32} (hr : f_X5_opAt i0 a1 M = some r) : Mo false l yX5_opAt (WS yX5_opAt cX5_opAt 2 (some .int)) (RM 0 0 0 0) 0 0 [.ref (G.2.1 i0), .int a1] G M (some (.int r)) M := by
  refine Mo.of (by decide +kernel) (Nat.le_of_ble_eq_true rfl) ?_
  intro p e s m args below meth c hC
  have hC : CX p s m args meth c cX5_opAt 2 RX5 (some .int) G := hC
  rw [f_X5_opAt] at hr
  show XJ p l e (RM 0 0 0 0) s m args below meth c G 2 _ 0 0 M 0 [(0, .ref (G.2.1 i0)), (1, .int a1)] []
  refine x_iload_n hC dX5_opAt_0 rfl 1 rfl ?_
  refine x_if_lt hC 21 dX5_opAt_1 (by decide) (fun h1 => ?_) (fun h1 => ?_)
  · have hr := (ie_s hr).1 h1
    refine x_bipush hC (39 : Int32) dX5_opAt_21 (by decide) ?_
    cases hr
    exact x_iret hC rfl dX5_opAt_23
  · have hr := (ie_s hr).2 h1
    refine x_iload_n hC dX5_opAt_4 rfl 1 rfl ?_
    refine x_aload_n hC dX5_opAt_5 rfl 0 rfl ?_
    refine gf_X5_18 hC hi0 dX5_opAt_6 ?_
    refine x_icmp_ge hC 21 dX5_opAt_9 (by decide) (fun h2 => ?_) (fun h2 => ?_)
    · have hr := (ie_s hr).1 h2
      refine x_bipush hC (39 : Int32) dX5_opAt_21 (by decide) ?_
      cases hr
      exact x_iret hC rfl dX5_opAt_23
    · have hr := (ie_s hr).2 h2
      refine x_aload_n hC dX5_opAt_12 rfl 0 rfl ?_
      refine gf_X5_11 hC hi0 dX5_opAt_13 ?_
      refine x_iload_n hC dX5_opAt_16 rfl 1 rfl ?_
      obtain ⟨h3, hr⟩ := it_s hr
      refine x_iald hC (kr_2_0 hi0) h3 dX5_opAt_17 ?_
      refine x_goto hC 23 dX5_opAt_18 (by decide) ?_
      cases hr
      exact x_iret hC rfl dX5_opAt_23

theorem dX2_addToCart_0 : decode cX2_addToCart 0 = .ok (.aload_n 0, 1) := by decide +kernel
theorem dX2_addToCart_1 : decode cX2_addToCart 1 = .ok (.aload_n 0, 1) := by decide +kernel
theorem dX2_addToCart_2 : decode cX2_addToCart 2 = .ok (.getfield 22, 3) := by decide +kernel
theorem dX2_addToCart_5 : decode cX2_addToCart 5 = .ok (.aload_n 0, 1) := by decide +kernel
theorem dX2_addToCart_6 : decode cX2_addToCart 6 = .ok (.getfield 25, 3) := by decide +kernel
theorem dX2_addToCart_9 : decode cX2_addToCart 9 = .ok (.iload_n 1, 1) := by decide +kernel
theorem dX2_addToCart_10 : decode cX2_addToCart 10 = .ok (.iload_n 2, 1) := by decide +kernel
theorem dX2_addToCart_11 : decode cX2_addToCart 11 = .ok (.invokestatic 53, 3) := by decide +kernel
theorem dX2_addToCart_14 : decode cX2_addToCart 14 = .ok (.putfield 25, 3) := by decide +kernel
theorem dX2_addToCart_17 : decode cX2_addToCart 17 = .ok (.aload_n 0, 1) := by decide +kernel
theorem dX2_addToCart_18 : decode cX2_addToCart 18 = .ok (.dup, 1) := by decide +kernel
theorem dX2_addToCart_19 : decode cX2_addToCart 19 = .ok (.getfield 22, 3) := by decide +kernel
theorem dX2_addToCart_22 : decode cX2_addToCart 22 = .ok (.iload_n 1, 1) := by decide +kernel
theorem dX2_addToCart_23 : decode cX2_addToCart 23 = .ok (.iadd, 1) := by decide +kernel
theorem dX2_addToCart_24 : decode cX2_addToCart 24 = .ok (.putfield 22, 3) := by decide +kernel
theorem dX2_addToCart_27 : decode cX2_addToCart 27 = .ok (.return_, 1) := by decide +kernel

def f_X2_addToCart (i0 : Nat) (a1 : Int32) (a2 : Int32) (M : Mm) : Option Mm :=
  bd1 (f_X9_mixed (M i0 2) (M i0 3) a1 a2 M) fun x1 => lz (wr M i0 3 x1) fun M4 => lz (wr M4 i0 2 ((M4 i0 2) + a1)) fun M6 => some M6

set_option maxHeartbeats 4000000 in
set_option maxRecDepth 100000 in
theorem c_X2_addToCart (l : Launch) (G : GG) (M : Mm) {i0 : Nat} (hi0 : (kd i0).1 = 1) (a1 : Int32) (a2 : Int32) {M9 : Mm} (hr : f_X2_addToCart i0 a1 a2 M = some M9) : Mo false l yX2_addToCart (WS yX2_addToCart cX2_addToCart 3 none) (RM 1 0 0 24) 0 0 [.ref (G.2.1 i0), .int a1, .int a2] G M none M9 := by
  refine Mo.of (by decide +kernel) (Nat.le_of_ble_eq_true rfl) ?_
  intro p e s m args below meth c hC
  have hC : CX p s m args meth c cX2_addToCart 3 RX2 none G := hC
  rw [f_X2_addToCart] at hr
  show XJ p l e (RM 1 0 0 24) s m args below meth c G 3 _ 0 0 M 0 [(0, .ref (G.2.1 i0)), (1, .int a1), (2, .int a2)] []
  refine x_aload_n hC dX2_addToCart_0 rfl 0 rfl ?_
  refine x_aload_n hC dX2_addToCart_1 rfl 0 rfl ?_
  refine gf_X2_22 hC hi0 dX2_addToCart_2 ?_
  refine x_aload_n hC dX2_addToCart_5 rfl 0 rfl ?_
  refine gf_X2_25 hC hi0 dX2_addToCart_6 ?_
  refine x_iload_n hC dX2_addToCart_9 rfl 1 rfl ?_
  refine x_iload_n hC dX2_addToCart_10 rfl 2 rfl ?_
  obtain ⟨x1, q2, hr⟩ := bd1_s hr
  refine x_callSN (As := [.int (M i0 2), .int (M i0 3), .int a1, .int a2]) hC (c_X9_mixed l G M (M i0 2) (M i0 3) a1 a2 q2) kc_yX9_mixed kmn_X2_53 kt_yX9_mixed kn_RX9 ky_yX9_mixed rfl ⟨rfl, rfl⟩ ⟨(Nat.le_of_ble_eq_true rfl), (Nat.le_of_ble_eq_true rfl)⟩ rfl (Nat.le_of_ble_eq_true rfl) ⟨(Nat.le_of_ble_eq_true rfl), (Nat.le_of_ble_eq_true rfl)⟩ dX2_addToCart_11 (fun b3 => ?_)
  obtain ⟨M4, e5, hr⟩ := lz_s hr
  refine pf_X2_25 hC hi0 e5 dX2_addToCart_14 ?_
  refine x_aload_n hC dX2_addToCart_17 rfl 0 rfl ?_
  refine x_dup hC dX2_addToCart_18 rfl ?_
  refine gf_X2_22 hC hi0 dX2_addToCart_19 ?_
  refine x_iload_n hC dX2_addToCart_22 rfl 1 rfl ?_
  refine x_iadd hC dX2_addToCart_23 ?_
  obtain ⟨M6, e7, hr⟩ := lz_s hr
  refine pf_X2_22 hC hi0 e7 dX2_addToCart_24 ?_
  cases hr
  exact x_vret hC rfl dX2_addToCart_27

theorem dX1_takeFromStack_0 : decode cX1_takeFromStack 0 = .ok (.aload_n 0, 1) := by decide +kernel
theorem dX1_takeFromStack_1 : decode cX1_takeFromStack 1 = .ok (.getfield 21, 3) := by decide +kernel
theorem dX1_takeFromStack_4 : decode cX1_takeFromStack 4 = .ok (.iload_n 1, 1) := by decide +kernel
theorem dX1_takeFromStack_5 : decode cX1_takeFromStack 5 = .ok (.dup2, 1) := by decide +kernel
theorem dX1_takeFromStack_6 : decode cX1_takeFromStack 6 = .ok (.iaload, 1) := by decide +kernel
theorem dX1_takeFromStack_7 : decode cX1_takeFromStack 7 = .ok (.iload_n 2, 1) := by decide +kernel
theorem dX1_takeFromStack_8 : decode cX1_takeFromStack 8 = .ok (.isub, 1) := by decide +kernel
theorem dX1_takeFromStack_9 : decode cX1_takeFromStack 9 = .ok (.iastore, 1) := by decide +kernel
theorem dX1_takeFromStack_10 : decode cX1_takeFromStack 10 = .ok (.aload_n 0, 1) := by decide +kernel
theorem dX1_takeFromStack_11 : decode cX1_takeFromStack 11 = .ok (.getfield 21, 3) := by decide +kernel
theorem dX1_takeFromStack_14 : decode cX1_takeFromStack 14 = .ok (.iload_n 1, 1) := by decide +kernel
theorem dX1_takeFromStack_15 : decode cX1_takeFromStack 15 = .ok (.iaload, 1) := by decide +kernel
theorem dX1_takeFromStack_16 : decode cX1_takeFromStack 16 = .ok (.ifCond .ne 17, 3) := by decide +kernel
theorem dX1_takeFromStack_19 : decode cX1_takeFromStack 19 = .ok (.aload_n 0, 1) := by decide +kernel
theorem dX1_takeFromStack_20 : decode cX1_takeFromStack 20 = .ok (.getfield 24, 3) := by decide +kernel
theorem dX1_takeFromStack_23 : decode cX1_takeFromStack 23 = .ok (.iload_n 1, 1) := by decide +kernel
theorem dX1_takeFromStack_24 : decode cX1_takeFromStack 24 = .ok (.iconst 0, 1) := by decide +kernel
theorem dX1_takeFromStack_25 : decode cX1_takeFromStack 25 = .ok (.iastore, 1) := by decide +kernel
theorem dX1_takeFromStack_26 : decode cX1_takeFromStack 26 = .ok (.aload_n 0, 1) := by decide +kernel
theorem dX1_takeFromStack_27 : decode cX1_takeFromStack 27 = .ok (.getfield 27, 3) := by decide +kernel
theorem dX1_takeFromStack_30 : decode cX1_takeFromStack 30 = .ok (.iload_n 1, 1) := by decide +kernel
theorem dX1_takeFromStack_31 : decode cX1_takeFromStack 31 = .ok (.iconst 0, 1) := by decide +kernel
theorem dX1_takeFromStack_32 : decode cX1_takeFromStack 32 = .ok (.iastore, 1) := by decide +kernel
theorem dX1_takeFromStack_33 : decode cX1_takeFromStack 33 = .ok (.return_, 1) := by decide +kernel

def f_X1_takeFromStack (i0 : Nat) (a1 : Int32) (a2 : Int32) (M : Mm) : Option Mm :=
  if 0 ≤ a1.toInt ∧ a1.toInt < ((64 : Nat) : Int) then (if 0 ≤ a1.toInt ∧ a1.toInt < ((64 : Nat) : Int) then (lz (wr M (i0 + 4) (ix a1) ((M (i0 + 4) (ix a1)) - a2)) fun M3 => if 0 ≤ a1.toInt ∧ a1.toInt < ((64 : Nat) : Int) then (if ((M3 (i0 + 4) (ix a1)) = 0) then (if 0 ≤ a1.toInt ∧ a1.toInt < ((64 : Nat) : Int) then (lz (wr M3 (i0 + 5) (ix a1) (0 : Int32)) fun M8 => if 0 ≤ a1.toInt ∧ a1.toInt < ((64 : Nat) : Int) then (lz (wr M8 (i0 + 6) (ix a1) (0 : Int32)) fun M11 => some M11) else none) else none) else (some M3)) else none) else none) else none

set_option maxHeartbeats 4000000 in
set_option maxRecDepth 100000 in
theorem c_X1_takeFromStack (l : Launch) (G : GG) (M : Mm) {i0 : Nat} (hi0 : (kd i0).1 = 0) (a1 : Int32) (a2 : Int32) {M9 : Mm} (hr : f_X1_takeFromStack i0 a1 a2 M = some M9) : Mo false l yX1_takeFromStack (WS yX1_takeFromStack cX1_takeFromStack 3 none) (RM 0 0 0 0) 0 0 [.ref (G.2.1 i0), .int a1, .int a2] G M none M9 := by
  refine Mo.of (by decide +kernel) (Nat.le_of_ble_eq_true rfl) ?_
  intro p e s m args below meth c hC
  have hC : CX p s m args meth c cX1_takeFromStack 3 RX1 none G := hC
  rw [f_X1_takeFromStack] at hr
  show XJ p l e (RM 0 0 0 0) s m args below meth c G 3 _ 0 0 M 0 [(0, .ref (G.2.1 i0)), (1, .int a1), (2, .int a2)] []
  refine x_aload_n hC dX1_takeFromStack_0 rfl 0 rfl ?_
  refine gf_X1_21 hC hi0 dX1_takeFromStack_1 ?_
  refine x_iload_n hC dX1_takeFromStack_4 rfl 1 rfl ?_
  refine x_dup2 hC dX1_takeFromStack_5 rfl rfl ?_
  obtain ⟨h1, hr⟩ := it_s hr
  refine x_iald hC (kr_0_3 hi0) h1 dX1_takeFromStack_6 ?_
  refine x_iload_n hC dX1_takeFromStack_7 rfl 2 rfl ?_
  refine x_isub hC dX1_takeFromStack_8 ?_
  obtain ⟨h2, hr⟩ := it_s hr
  obtain ⟨M3, e4, hr⟩ := lz_s hr
  refine x_iast hC (kr_0_3 hi0) h2 e4 dX1_takeFromStack_9 ?_
  refine x_aload_n hC dX1_takeFromStack_10 rfl 0 rfl ?_
  refine gf_X1_21 hC hi0 dX1_takeFromStack_11 ?_
  refine x_iload_n hC dX1_takeFromStack_14 rfl 1 rfl ?_
  obtain ⟨h5, hr⟩ := it_s hr
  refine x_iald hC (kr_0_3 hi0) h5 dX1_takeFromStack_15 ?_
  refine x_if_ne hC 33 dX1_takeFromStack_16 (by decide) (fun h6 => ?_) (fun h6 => ?_)
  · have hr := (ie_s hr).2 h6
    cases hr
    exact x_vret hC rfl dX1_takeFromStack_33
  · have hr := (ie_s hr).1 h6
    refine x_aload_n hC dX1_takeFromStack_19 rfl 0 rfl ?_
    refine gf_X1_24 hC hi0 dX1_takeFromStack_20 ?_
    refine x_iload_n hC dX1_takeFromStack_23 rfl 1 rfl ?_
    refine x_iconst hC (0 : Int32) dX1_takeFromStack_24 (by decide) ?_
    obtain ⟨h7, hr⟩ := it_s hr
    obtain ⟨M8, e9, hr⟩ := lz_s hr
    refine x_iast hC (kr_0_4 hi0) h7 e9 dX1_takeFromStack_25 ?_
    refine x_aload_n hC dX1_takeFromStack_26 rfl 0 rfl ?_
    refine gf_X1_27 hC hi0 dX1_takeFromStack_27 ?_
    refine x_iload_n hC dX1_takeFromStack_30 rfl 1 rfl ?_
    refine x_iconst hC (0 : Int32) dX1_takeFromStack_31 (by decide) ?_
    obtain ⟨h10, hr⟩ := it_s hr
    obtain ⟨M11, e12, hr⟩ := lz_s hr
    refine x_iast hC (kr_0_5 hi0) h10 e12 dX1_takeFromStack_32 ?_
    cases hr
    exact x_vret hC rfl dX1_takeFromStack_33

theorem dX2_takeFromCart_0 : decode cX2_takeFromCart 0 = .ok (.aload_n 0, 1) := by decide +kernel
theorem dX2_takeFromCart_1 : decode cX2_takeFromCart 1 = .ok (.dup, 1) := by decide +kernel
theorem dX2_takeFromCart_2 : decode cX2_takeFromCart 2 = .ok (.getfield 22, 3) := by decide +kernel
theorem dX2_takeFromCart_5 : decode cX2_takeFromCart 5 = .ok (.iload_n 1, 1) := by decide +kernel
theorem dX2_takeFromCart_6 : decode cX2_takeFromCart 6 = .ok (.isub, 1) := by decide +kernel
theorem dX2_takeFromCart_7 : decode cX2_takeFromCart 7 = .ok (.putfield 22, 3) := by decide +kernel
theorem dX2_takeFromCart_10 : decode cX2_takeFromCart 10 = .ok (.aload_n 0, 1) := by decide +kernel
theorem dX2_takeFromCart_11 : decode cX2_takeFromCart 11 = .ok (.getfield 22, 3) := by decide +kernel
theorem dX2_takeFromCart_14 : decode cX2_takeFromCart 14 = .ok (.ifCond .ne 8, 3) := by decide +kernel
theorem dX2_takeFromCart_17 : decode cX2_takeFromCart 17 = .ok (.aload_n 0, 1) := by decide +kernel
theorem dX2_takeFromCart_18 : decode cX2_takeFromCart 18 = .ok (.iconst 0, 1) := by decide +kernel
theorem dX2_takeFromCart_19 : decode cX2_takeFromCart 19 = .ok (.putfield 25, 3) := by decide +kernel
theorem dX2_takeFromCart_22 : decode cX2_takeFromCart 22 = .ok (.return_, 1) := by decide +kernel

def f_X2_takeFromCart (i0 : Nat) (a1 : Int32) (M : Mm) : Option Mm :=
  lz (wr M i0 2 ((M i0 2) - a1)) fun M1 => if ((M1 i0 2) = 0) then (lz (wr M1 i0 3 (0 : Int32)) fun M4 => some M4) else (some M1)

set_option maxHeartbeats 4000000 in
set_option maxRecDepth 100000 in
theorem c_X2_takeFromCart (l : Launch) (G : GG) (M : Mm) {i0 : Nat} (hi0 : (kd i0).1 = 1) (a1 : Int32) {M9 : Mm} (hr : f_X2_takeFromCart i0 a1 M = some M9) : Mo false l yX2_takeFromCart (WS yX2_takeFromCart cX2_takeFromCart 2 none) (RM 0 0 0 0) 0 0 [.ref (G.2.1 i0), .int a1] G M none M9 := by
  refine Mo.of (by decide +kernel) (Nat.le_of_ble_eq_true rfl) ?_
  intro p e s m args below meth c hC
  have hC : CX p s m args meth c cX2_takeFromCart 2 RX2 none G := hC
  rw [f_X2_takeFromCart] at hr
  show XJ p l e (RM 0 0 0 0) s m args below meth c G 2 _ 0 0 M 0 [(0, .ref (G.2.1 i0)), (1, .int a1)] []
  refine x_aload_n hC dX2_takeFromCart_0 rfl 0 rfl ?_
  refine x_dup hC dX2_takeFromCart_1 rfl ?_
  refine gf_X2_22 hC hi0 dX2_takeFromCart_2 ?_
  refine x_iload_n hC dX2_takeFromCart_5 rfl 1 rfl ?_
  refine x_isub hC dX2_takeFromCart_6 ?_
  obtain ⟨M1, e2, hr⟩ := lz_s hr
  refine pf_X2_22 hC hi0 e2 dX2_takeFromCart_7 ?_
  refine x_aload_n hC dX2_takeFromCart_10 rfl 0 rfl ?_
  refine gf_X2_22 hC hi0 dX2_takeFromCart_11 ?_
  refine x_if_ne hC 22 dX2_takeFromCart_14 (by decide) (fun h3 => ?_) (fun h3 => ?_)
  · have hr := (ie_s hr).2 h3
    cases hr
    exact x_vret hC rfl dX2_takeFromCart_22
  · have hr := (ie_s hr).1 h3
    refine x_aload_n hC dX2_takeFromCart_17 rfl 0 rfl ?_
    refine x_iconst hC (0 : Int32) dX2_takeFromCart_18 (by decide) ?_
    obtain ⟨M4, e5, hr⟩ := lz_s hr
    refine pf_X2_25 hC hi0 e5 dX2_takeFromCart_19 ?_
    cases hr
    exact x_vret hC rfl dX2_takeFromCart_22

theorem dX1_dryStacks_0 : decode cX1_dryStacks 0 = .ok (.iconst 0, 1) := by decide +kernel
theorem dX1_dryStacks_1 : decode cX1_dryStacks 1 = .ok (.istore_n 1, 1) := by decide +kernel
theorem dX1_dryStacks_2 : decode cX1_dryStacks 2 = .ok (.iload_n 1, 1) := by decide +kernel
theorem dX1_dryStacks_3 : decode cX1_dryStacks 3 = .ok (.bipush 64, 2) := by decide +kernel
theorem dX1_dryStacks_5 : decode cX1_dryStacks 5 = .ok (.if_icmp .ge 103, 3) := by decide +kernel
theorem dX1_dryStacks_8 : decode cX1_dryStacks 8 = .ok (.aload_n 0, 1) := by decide +kernel
theorem dX1_dryStacks_9 : decode cX1_dryStacks 9 = .ok (.getfield 21, 3) := by decide +kernel
theorem dX1_dryStacks_12 : decode cX1_dryStacks 12 = .ok (.iload_n 1, 1) := by decide +kernel
theorem dX1_dryStacks_13 : decode cX1_dryStacks 13 = .ok (.iaload, 1) := by decide +kernel
theorem dX1_dryStacks_14 : decode cX1_dryStacks 14 = .ok (.ifCond .le 88, 3) := by decide +kernel
theorem dX1_dryStacks_17 : decode cX1_dryStacks 17 = .ok (.aload_n 0, 1) := by decide +kernel
theorem dX1_dryStacks_18 : decode cX1_dryStacks 18 = .ok (.getfield 24, 3) := by decide +kernel
theorem dX1_dryStacks_21 : decode cX1_dryStacks 21 = .ok (.iload_n 1, 1) := by decide +kernel
theorem dX1_dryStacks_22 : decode cX1_dryStacks 22 = .ok (.aload_n 0, 1) := by decide +kernel
theorem dX1_dryStacks_23 : decode cX1_dryStacks 23 = .ok (.getfield 24, 3) := by decide +kernel
theorem dX1_dryStacks_26 : decode cX1_dryStacks 26 = .ok (.iload_n 1, 1) := by decide +kernel
theorem dX1_dryStacks_27 : decode cX1_dryStacks 27 = .ok (.iaload, 1) := by decide +kernel
theorem dX1_dryStacks_28 : decode cX1_dryStacks 28 = .ok (.aload_n 0, 1) := by decide +kernel
theorem dX1_dryStacks_29 : decode cX1_dryStacks 29 = .ok (.getfield 27, 3) := by decide +kernel
theorem dX1_dryStacks_32 : decode cX1_dryStacks 32 = .ok (.iload_n 1, 1) := by decide +kernel
theorem dX1_dryStacks_33 : decode cX1_dryStacks 33 = .ok (.iaload, 1) := by decide +kernel
theorem dX1_dryStacks_34 : decode cX1_dryStacks 34 = .ok (.ifCond .eq 7, 3) := by decide +kernel
theorem dX1_dryStacks_37 : decode cX1_dryStacks 37 = .ok (.iconst 1, 1) := by decide +kernel
theorem dX1_dryStacks_38 : decode cX1_dryStacks 38 = .ok (.goto 4, 3) := by decide +kernel
theorem dX1_dryStacks_41 : decode cX1_dryStacks 41 = .ok (.iconst 0, 1) := by decide +kernel
theorem dX1_dryStacks_42 : decode cX1_dryStacks 42 = .ok (.aload_n 0, 1) := by decide +kernel
theorem dX1_dryStacks_43 : decode cX1_dryStacks 43 = .ok (.invokevirtual 121, 3) := by decide +kernel
theorem dX1_dryStacks_46 : decode cX1_dryStacks 46 = .ok (.aload_n 0, 1) := by decide +kernel
theorem dX1_dryStacks_47 : decode cX1_dryStacks 47 = .ok (.invokevirtual 125, 3) := by decide +kernel
theorem dX1_dryStacks_50 : decode cX1_dryStacks 50 = .ok (.invokestatic 128, 3) := by decide +kernel
theorem dX1_dryStacks_53 : decode cX1_dryStacks 53 = .ok (.iastore, 1) := by decide +kernel
theorem dX1_dryStacks_54 : decode cX1_dryStacks 54 = .ok (.aload_n 0, 1) := by decide +kernel
theorem dX1_dryStacks_55 : decode cX1_dryStacks 55 = .ok (.getfield 27, 3) := by decide +kernel
theorem dX1_dryStacks_58 : decode cX1_dryStacks 58 = .ok (.iload_n 1, 1) := by decide +kernel
theorem dX1_dryStacks_59 : decode cX1_dryStacks 59 = .ok (.iconst 0, 1) := by decide +kernel
theorem dX1_dryStacks_60 : decode cX1_dryStacks 60 = .ok (.iastore, 1) := by decide +kernel
theorem dX1_dryStacks_61 : decode cX1_dryStacks 61 = .ok (.aload_n 0, 1) := by decide +kernel
theorem dX1_dryStacks_62 : decode cX1_dryStacks 62 = .ok (.getfield 24, 3) := by decide +kernel
theorem dX1_dryStacks_65 : decode cX1_dryStacks 65 = .ok (.iload_n 1, 1) := by decide +kernel
theorem dX1_dryStacks_66 : decode cX1_dryStacks 66 = .ok (.iaload, 1) := by decide +kernel
theorem dX1_dryStacks_67 : decode cX1_dryStacks 67 = .ok (.bipush 20, 2) := by decide +kernel
theorem dX1_dryStacks_69 : decode cX1_dryStacks 69 = .ok (.if_icmp .ne 33, 3) := by decide +kernel
theorem dX1_dryStacks_72 : decode cX1_dryStacks 72 = .ok (.aload_n 0, 1) := by decide +kernel
theorem dX1_dryStacks_73 : decode cX1_dryStacks 73 = .ok (.getfield 21, 3) := by decide +kernel
theorem dX1_dryStacks_76 : decode cX1_dryStacks 76 = .ok (.iload_n 1, 1) := by decide +kernel
theorem dX1_dryStacks_77 : decode cX1_dryStacks 77 = .ok (.iaload, 1) := by decide +kernel
theorem dX1_dryStacks_78 : decode cX1_dryStacks 78 = .ok (.bipush 10, 2) := by decide +kernel
theorem dX1_dryStacks_80 : decode cX1_dryStacks 80 = .ok (.idiv, 1) := by decide +kernel
theorem dX1_dryStacks_81 : decode cX1_dryStacks 81 = .ok (.istore_n 2, 1) := by decide +kernel
theorem dX1_dryStacks_82 : decode cX1_dryStacks 82 = .ok (.aload_n 0, 1) := by decide +kernel
theorem dX1_dryStacks_83 : decode cX1_dryStacks 83 = .ok (.getfield 21, 3) := by decide +kernel
theorem dX1_dryStacks_86 : decode cX1_dryStacks 86 = .ok (.iload_n 1, 1) := by decide +kernel
theorem dX1_dryStacks_87 : decode cX1_dryStacks 87 = .ok (.dup2, 1) := by decide +kernel
theorem dX1_dryStacks_88 : decode cX1_dryStacks 88 = .ok (.iaload, 1) := by decide +kernel
theorem dX1_dryStacks_89 : decode cX1_dryStacks 89 = .ok (.iload_n 2, 1) := by decide +kernel
theorem dX1_dryStacks_90 : decode cX1_dryStacks 90 = .ok (.isub, 1) := by decide +kernel
theorem dX1_dryStacks_91 : decode cX1_dryStacks 91 = .ok (.iastore, 1) := by decide +kernel
theorem dX1_dryStacks_92 : decode cX1_dryStacks 92 = .ok (.aload_n 0, 1) := by decide +kernel
theorem dX1_dryStacks_93 : decode cX1_dryStacks 93 = .ok (.dup, 1) := by decide +kernel
theorem dX1_dryStacks_94 : decode cX1_dryStacks 94 = .ok (.getfield 49, 3) := by decide +kernel
theorem dX1_dryStacks_97 : decode cX1_dryStacks 97 = .ok (.iload_n 2, 1) := by decide +kernel
theorem dX1_dryStacks_98 : decode cX1_dryStacks 98 = .ok (.iadd, 1) := by decide +kernel
theorem dX1_dryStacks_99 : decode cX1_dryStacks 99 = .ok (.putfield 49, 3) := by decide +kernel
theorem dX1_dryStacks_102 : decode cX1_dryStacks 102 = .ok (.iinc 1 1, 3) := by decide +kernel
theorem dX1_dryStacks_105 : decode cX1_dryStacks 105 = .ok (.goto (-103), 3) := by decide +kernel
theorem dX1_dryStacks_108 : decode cX1_dryStacks 108 = .ok (.return_, 1) := by decide +kernel
def f_X1_dryStacks_L2 (i0 : Nat) : Nat → Int32 → Mm → Option (Mm)
  | 0, _, _ => none
  | n + 1, v1, M =>
    if ((64 : Int32) ≤ v1) then (some (M)) else (if 0 ≤ v1.toInt ∧ v1.toInt < ((64 : Nat) : Int) then (bd1 (if ((M (i0 + 4) (ix v1)) ≤ 0) then (some (M)) else (if 0 ≤ v1.toInt ∧ v1.toInt < ((64 : Nat) : Int) then (if 0 ≤ v1.toInt ∧ v1.toInt < ((64 : Nat) : Int) then (lz (if ((M (i0 + 6) (ix v1)) = 0) then ((0 : Int32)) else ((1 : Int32))) fun x9 => bd1 (f_X1_rainOfDay i0 M) fun x12 => bd1 (f_X1_sunOfDay i0 M) fun x15 => lz (f_X9_wetnessBehindNight (M (i0 + 5) (ix v1)) x9 x12 x15) fun x18 => if 0 ≤ v1.toInt ∧ v1.toInt < ((64 : Nat) : Int) then (lz (wr M (i0 + 5) (ix v1) x18) fun M22 => if 0 ≤ v1.toInt ∧ v1.toInt < ((64 : Nat) : Int) then (lz (wr M22 (i0 + 6) (ix v1) (0 : Int32)) fun M25 => if 0 ≤ v1.toInt ∧ v1.toInt < ((64 : Nat) : Int) then (if ((M25 (i0 + 5) (ix v1)) = (20 : Int32)) then (if 0 ≤ v1.toInt ∧ v1.toInt < ((64 : Nat) : Int) then (lz ((M25 (i0 + 4) (ix v1)) / (10 : Int32)) fun x30 => if 0 ≤ v1.toInt ∧ v1.toInt < ((64 : Nat) : Int) then (if 0 ≤ v1.toInt ∧ v1.toInt < ((64 : Nat) : Int) then (lz (wr M25 (i0 + 4) (ix v1) ((M25 (i0 + 4) (ix v1)) - x30)) fun M34 => lz (wr M34 i0 12 ((M34 i0 12) + x30)) fun M36 => some (M36)) else none) else none) else none) else (some (M25))) else none) else none) else none) else none) else none)) fun M38 => lz (v1 + (1 : Int32)) fun x39 => f_X1_dryStacks_L2 i0 n x39 M38) else none)
def f_X1_dryStacks (i0 : Nat) (M : Mm) : Option Mm :=
  bd1 (f_X1_dryStacks_L2 i0 FU (0 : Int32) M) fun M42 => some M42
set_option maxHeartbeats 4000000 in
set_option maxRecDepth 100000 in
theorem l_X1_dryStacks_L2 {p : Program} {e : Env} {s : State} {m : MethodId} {args : Array Value} {below : List Frame} {meth : Method} {c : Code} {l : Launch} {G : GG} {Q : State → Prop} (hC : CX p s m args meth c cX1_dryStacks 3 RX1 none G) {i0 : Nat} (hi0 : (kd i0).1 = 0) : ∀ (n : Nat) (v1 : Int32) (M : Mm) {M2 : Mm} (hr : f_X1_dryStacks_L2 i0 n v1 M = some (M2)) (K : XJ p l e (RM 3 0 0 85) s m args below meth c G 3 Q 0 0 M2 108 [] []), XJ p l e (RM 3 0 0 85) s m args below meth c G 3 Q 0 0 M 2 [(0, .ref (G.2.1 i0)), (1, .int v1)] [] := by
  intro n
  induction n with
  | zero => intro v1 M M2 hr K; rw [f_X1_dryStacks_L2] at hr; cases hr
  | succ n ih =>
    intro v1 M M2 hr K
    rw [f_X1_dryStacks_L2] at hr
    refine x_iload_n hC dX1_dryStacks_2 rfl 1 rfl ?_
    refine x_bipush hC (64 : Int32) dX1_dryStacks_3 (by decide) ?_
    refine x_icmp_ge hC 108 dX1_dryStacks_5 (by decide) (fun h1 => ?_) (fun h1 => ?_)
    · have hr := (ie_s hr).1 h1
      cases hr
      exact x_sub [] rfl K
    · have hr := (ie_s hr).2 h1
      refine x_aload_n hC dX1_dryStacks_8 rfl 0 rfl ?_
      refine gf_X1_21 hC hi0 dX1_dryStacks_9 ?_
      refine x_iload_n hC dX1_dryStacks_12 rfl 1 rfl ?_
      obtain ⟨h2, hr⟩ := it_s hr
      refine x_iald hC (kr_0_3 hi0) h2 dX1_dryStacks_13 ?_
      obtain ⟨M38, q3, hr⟩ := bd1_s hr
      refine x_join (M' := M38) (pc' := 102) (lv' := [(0, .ref (G.2.1 i0)), (1, .int v1)]) (st' := []) ?_ ?_
      · obtain ⟨x39, e40, hr⟩ := lz_s hr
        refine x_iinc hC [(1, .int x39), (0, .ref (G.2.1 i0))] dX1_dryStacks_102 1 rfl (by rw [e40]; rfl) (Nat.le_of_ble_eq_true rfl) rfl ?_
        refine x_goto hC 2 dX1_dryStacks_105 (by decide) ?_
        exact x_sub [1, 0] rfl (ih x39 M38 hr K)
      · intro kj
        refine x_if_le hC 102 dX1_dryStacks_14 (by decide) (fun h4 => ?_) (fun h4 => ?_)
        · have q3 := (ie_s q3).1 h4
          cases q3
          exact x_sub [0, 1] rfl kj
        · have q3 := (ie_s q3).2 h4
          refine x_aload_n hC dX1_dryStacks_17 rfl 0 rfl ?_
          refine gf_X1_24 hC hi0 dX1_dryStacks_18 ?_
          refine x_iload_n hC dX1_dryStacks_21 rfl 1 rfl ?_
          refine x_aload_n hC dX1_dryStacks_22 rfl 0 rfl ?_
          refine gf_X1_24 hC hi0 dX1_dryStacks_23 ?_
          refine x_iload_n hC dX1_dryStacks_26 rfl 1 rfl ?_
          obtain ⟨h5, q3⟩ := it_s q3
          refine x_iald hC (kr_0_4 hi0) h5 dX1_dryStacks_27 ?_
          refine x_aload_n hC dX1_dryStacks_28 rfl 0 rfl ?_
          refine gf_X1_27 hC hi0 dX1_dryStacks_29 ?_
          refine x_iload_n hC dX1_dryStacks_32 rfl 1 rfl ?_
          obtain ⟨h6, q3⟩ := it_s q3
          refine x_iald hC (kr_0_5 hi0) h6 dX1_dryStacks_33 ?_
          obtain ⟨x9, e10, q3⟩ := lz_s q3
          have q7 := e10.symm
          refine x_joinB (P := (x9 = 0 ∨ x9 = 1)) (M' := M) (pc' := 42) (lv' := [(0, .ref (G.2.1 i0)), (1, .int v1)]) (st' := [.int x9, .int (M (i0 + 5) (ix v1)), .int v1, .ref (G.2.1 (i0 + 5))]) ?_ ?_
          · intro b11
            refine x_aload_n hC dX1_dryStacks_42 rfl 0 rfl ?_
            obtain ⟨x12, q13, q3⟩ := bd1_s q3
            refine x_callV (ci := 0) (q := (RX1, TX1, 17)) (As := []) hC (c_X1_rainOfDay l G M hi0 q13) kc_yX1_rainOfDay km_X1_121 ki_yX1_rainOfDay kv_yX1_rainOfDay kn_RX1 ky_yX1_rainOfDay rfl ⟨rfl, rfl⟩ ⟨(Nat.le_of_ble_eq_true rfl), (Nat.le_of_ble_eq_true rfl)⟩ hi0 (by decide) rfl rfl (Nat.le_of_ble_eq_true rfl) ⟨(Nat.le_of_ble_eq_true rfl), (Nat.le_of_ble_eq_true rfl)⟩ dX1_dryStacks_43 (fun b14 => ?_)
            refine x_aload_n hC dX1_dryStacks_46 rfl 0 rfl ?_
            obtain ⟨x15, q16, q3⟩ := bd1_s q3
            refine x_callV (ci := 0) (q := (RX1, TX1, 17)) (As := []) hC (c_X1_sunOfDay l G M hi0 q16) kc_yX1_sunOfDay km_X1_125 ki_yX1_sunOfDay kv_yX1_sunOfDay kn_RX1 ky_yX1_sunOfDay rfl ⟨rfl, rfl⟩ ⟨(Nat.le_of_ble_eq_true rfl), (Nat.le_of_ble_eq_true rfl)⟩ hi0 (by decide) rfl rfl (Nat.le_of_ble_eq_true rfl) ⟨(Nat.le_of_ble_eq_true rfl), (Nat.le_of_ble_eq_true rfl)⟩ dX1_dryStacks_47 (fun b17 => ?_)
            obtain ⟨x18, e19, q3⟩ := lz_s q3
            refine x_callSN (As := [.int (M (i0 + 5) (ix v1)), .int x9, .int x12, .int x15]) hC (c_X9_wetnessBehindNight l G M (M (i0 + 5) (ix v1)) x9 x12 x15 e19.symm) kc_yX9_wetnessBehindNight kmn_X1_128 kt_yX9_wetnessBehindNight kn_RX9 ky_yX9_wetnessBehindNight rfl ⟨rfl, rfl⟩ ⟨(Nat.le_of_ble_eq_true rfl), (Nat.le_of_ble_eq_true rfl)⟩ rfl (Nat.le_of_ble_eq_true rfl) ⟨(Nat.le_of_ble_eq_true rfl), (Nat.le_of_ble_eq_true rfl)⟩ dX1_dryStacks_50 (fun b20 => ?_)
            obtain ⟨h21, q3⟩ := it_s q3
            obtain ⟨M22, e23, q3⟩ := lz_s q3
            refine x_iast hC (kr_0_4 hi0) h21 e23 dX1_dryStacks_53 ?_
            refine x_aload_n hC dX1_dryStacks_54 rfl 0 rfl ?_
            refine gf_X1_27 hC hi0 dX1_dryStacks_55 ?_
            refine x_iload_n hC dX1_dryStacks_58 rfl 1 rfl ?_
            refine x_iconst hC (0 : Int32) dX1_dryStacks_59 (by decide) ?_
            obtain ⟨h24, q3⟩ := it_s q3
            obtain ⟨M25, e26, q3⟩ := lz_s q3
            refine x_iast hC (kr_0_5 hi0) h24 e26 dX1_dryStacks_60 ?_
            refine x_aload_n hC dX1_dryStacks_61 rfl 0 rfl ?_
            refine gf_X1_24 hC hi0 dX1_dryStacks_62 ?_
            refine x_iload_n hC dX1_dryStacks_65 rfl 1 rfl ?_
            obtain ⟨h27, q3⟩ := it_s q3
            refine x_iald hC (kr_0_4 hi0) h27 dX1_dryStacks_66 ?_
            refine x_bipush hC (20 : Int32) dX1_dryStacks_67 (by decide) ?_
            refine x_icmp_ne hC 102 dX1_dryStacks_69 (by decide) (fun h28 => ?_) (fun h28 => ?_)
            · have q3 := (ie_s q3).2 h28
              cases q3
              exact x_sub [0, 1] rfl kj
            · have q3 := (ie_s q3).1 h28
              refine x_aload_n hC dX1_dryStacks_72 rfl 0 rfl ?_
              refine gf_X1_21 hC hi0 dX1_dryStacks_73 ?_
              refine x_iload_n hC dX1_dryStacks_76 rfl 1 rfl ?_
              obtain ⟨h29, q3⟩ := it_s q3
              refine x_iald hC (kr_0_3 hi0) h29 dX1_dryStacks_77 ?_
              refine x_bipush hC (10 : Int32) dX1_dryStacks_78 (by decide) ?_
              refine x_idiv hC dX1_dryStacks_80 (by decide) ?_
              obtain ⟨x30, e31, q3⟩ := lz_s q3
              refine x_topi e31 ?_
              refine x_istore_n hC [(2, .int x30), (0, .ref (G.2.1 i0)), (1, .int v1)] dX1_dryStacks_81 rfl (Nat.le_of_ble_eq_true rfl) rfl ?_
              refine x_aload_n hC dX1_dryStacks_82 rfl 1 rfl ?_
              refine gf_X1_21 hC hi0 dX1_dryStacks_83 ?_
              refine x_iload_n hC dX1_dryStacks_86 rfl 2 rfl ?_
              refine x_dup2 hC dX1_dryStacks_87 rfl rfl ?_
              obtain ⟨h32, q3⟩ := it_s q3
              refine x_iald hC (kr_0_3 hi0) h32 dX1_dryStacks_88 ?_
              refine x_iload_n hC dX1_dryStacks_89 rfl 0 rfl ?_
              refine x_isub hC dX1_dryStacks_90 ?_
              obtain ⟨h33, q3⟩ := it_s q3
              obtain ⟨M34, e35, q3⟩ := lz_s q3
              refine x_iast hC (kr_0_3 hi0) h33 e35 dX1_dryStacks_91 ?_
              refine x_aload_n hC dX1_dryStacks_92 rfl 1 rfl ?_
              refine x_dup hC dX1_dryStacks_93 rfl ?_
              refine gf_X1_49 hC hi0 dX1_dryStacks_94 ?_
              refine x_iload_n hC dX1_dryStacks_97 rfl 0 rfl ?_
              refine x_iadd hC dX1_dryStacks_98 ?_
              obtain ⟨M36, e37, q3⟩ := lz_s q3
              refine pf_X1_49 hC hi0 e37 dX1_dryStacks_99 ?_
              cases q3
              exact x_sub [1, 2] rfl kj
          · intro kj
            refine x_if_eq hC 41 dX1_dryStacks_34 (by decide) (fun h8 => ?_) (fun h8 => ?_)
            · have q7 := (ie_s q7).1 h8
              refine x_iconst hC (0 : Int32) dX1_dryStacks_41 (by decide) ?_
              subst q7
              exact x_sub [0, 1] rfl (kj (Or.inl rfl))
            · have q7 := (ie_s q7).2 h8
              refine x_iconst hC (1 : Int32) dX1_dryStacks_37 (by decide) ?_
              refine x_goto hC 42 dX1_dryStacks_38 (by decide) ?_
              subst q7
              exact x_sub [0, 1] rfl (kj (Or.inr rfl))
set_option maxHeartbeats 4000000 in
set_option maxRecDepth 100000 in
theorem c_X1_dryStacks (l : Launch) (G : GG) (M : Mm) {i0 : Nat} (hi0 : (kd i0).1 = 0) {M9 : Mm} (hr : f_X1_dryStacks i0 M = some M9) : Mo false l yX1_dryStacks (WS yX1_dryStacks cX1_dryStacks 3 none) (RM 3 0 0 85) 0 0 [.ref (G.2.1 i0)] G M none M9 := by
  refine Mo.of (by decide +kernel) (Nat.le_of_ble_eq_true rfl) ?_
  intro p e s m args below meth c hC
  have hC : CX p s m args meth c cX1_dryStacks 3 RX1 none G := hC
  rw [f_X1_dryStacks] at hr
  show XJ p l e (RM 3 0 0 85) s m args below meth c G 3 _ 0 0 M 0 [(0, .ref (G.2.1 i0))] []
  refine x_iconst hC (0 : Int32) dX1_dryStacks_0 (by decide) ?_
  refine x_istore_n hC [(1, .int (0 : Int32)), (0, .ref (G.2.1 i0))] dX1_dryStacks_1 rfl (Nat.le_of_ble_eq_true rfl) rfl ?_
  obtain ⟨M42, q41, hr⟩ := bd1_s hr
  refine x_sub [1, 0] rfl (l_X1_dryStacks_L2 hC hi0 FU  (0 : Int32) M q41 ?_)
  cases hr
  exact x_vret hC rfl dX1_dryStacks_108

theorem dX1_moveWater_0 : decode cX1_moveWater 0 = .ok (.aload_n 0, 1) := by decide +kernel
theorem dX1_moveWater_1 : decode cX1_moveWater 1 = .ok (.invokevirtual 121, 3) := by decide +kernel
theorem dX1_moveWater_4 : decode cX1_moveWater 4 = .ok (.iconst 2, 1) := by decide +kernel
theorem dX1_moveWater_5 : decode cX1_moveWater 5 = .ok (.idiv, 1) := by decide +kernel
theorem dX1_moveWater_6 : decode cX1_moveWater 6 = .ok (.aload_n 0, 1) := by decide +kernel
theorem dX1_moveWater_7 : decode cX1_moveWater 7 = .ok (.invokevirtual 125, 3) := by decide +kernel
theorem dX1_moveWater_10 : decode cX1_moveWater 10 = .ok (.iconst 4, 1) := by decide +kernel
theorem dX1_moveWater_11 : decode cX1_moveWater 11 = .ok (.idiv, 1) := by decide +kernel
theorem dX1_moveWater_12 : decode cX1_moveWater 12 = .ok (.isub, 1) := by decide +kernel
theorem dX1_moveWater_13 : decode cX1_moveWater 13 = .ok (.istore_n 1, 1) := by decide +kernel
theorem dX1_moveWater_14 : decode cX1_moveWater 14 = .ok (.iconst 0, 1) := by decide +kernel
theorem dX1_moveWater_15 : decode cX1_moveWater 15 = .ok (.istore_n 2, 1) := by decide +kernel
theorem dX1_moveWater_16 : decode cX1_moveWater 16 = .ok (.iload_n 2, 1) := by decide +kernel
theorem dX1_moveWater_17 : decode cX1_moveWater 17 = .ok (.bipush 64, 2) := by decide +kernel
theorem dX1_moveWater_19 : decode cX1_moveWater 19 = .ok (.if_icmp .ge 49, 3) := by decide +kernel
theorem dX1_moveWater_22 : decode cX1_moveWater 22 = .ok (.aload_n 0, 1) := by decide +kernel
theorem dX1_moveWater_23 : decode cX1_moveWater 23 = .ok (.getfield 9, 3) := by decide +kernel
theorem dX1_moveWater_26 : decode cX1_moveWater 26 = .ok (.iload_n 2, 1) := by decide +kernel
theorem dX1_moveWater_27 : decode cX1_moveWater 27 = .ok (.iaload, 1) := by decide +kernel
theorem dX1_moveWater_28 : decode cX1_moveWater 28 = .ok (.ifCond .ne 11, 3) := by decide +kernel
theorem dX1_moveWater_31 : decode cX1_moveWater 31 = .ok (.iload_n 2, 1) := by decide +kernel
theorem dX1_moveWater_32 : decode cX1_moveWater 32 = .ok (.ifCond .eq 7, 3) := by decide +kernel
theorem dX1_moveWater_35 : decode cX1_moveWater 35 = .ok (.iconst 1, 1) := by decide +kernel
theorem dX1_moveWater_36 : decode cX1_moveWater 36 = .ok (.goto 4, 3) := by decide +kernel
theorem dX1_moveWater_39 : decode cX1_moveWater 39 = .ok (.iconst 0, 1) := by decide +kernel
theorem dX1_moveWater_40 : decode cX1_moveWater 40 = .ok (.istore_n 3, 1) := by decide +kernel
theorem dX1_moveWater_41 : decode cX1_moveWater 41 = .ok (.aload_n 0, 1) := by decide +kernel
theorem dX1_moveWater_42 : decode cX1_moveWater 42 = .ok (.getfield 18, 3) := by decide +kernel
theorem dX1_moveWater_45 : decode cX1_moveWater 45 = .ok (.iload_n 2, 1) := by decide +kernel
theorem dX1_moveWater_46 : decode cX1_moveWater 46 = .ok (.aload_n 0, 1) := by decide +kernel
theorem dX1_moveWater_47 : decode cX1_moveWater 47 = .ok (.getfield 18, 3) := by decide +kernel
theorem dX1_moveWater_50 : decode cX1_moveWater 50 = .ok (.iload_n 2, 1) := by decide +kernel
theorem dX1_moveWater_51 : decode cX1_moveWater 51 = .ok (.iaload, 1) := by decide +kernel
theorem dX1_moveWater_52 : decode cX1_moveWater 52 = .ok (.iload_n 1, 1) := by decide +kernel
theorem dX1_moveWater_53 : decode cX1_moveWater 53 = .ok (.iadd, 1) := by decide +kernel
theorem dX1_moveWater_54 : decode cX1_moveWater 54 = .ok (.iload_n 3, 1) := by decide +kernel
theorem dX1_moveWater_55 : decode cX1_moveWater 55 = .ok (.iadd, 1) := by decide +kernel
theorem dX1_moveWater_56 : decode cX1_moveWater 56 = .ok (.bipush 9, 2) := by decide +kernel
theorem dX1_moveWater_58 : decode cX1_moveWater 58 = .ok (.invokestatic 132, 3) := by decide +kernel
theorem dX1_moveWater_61 : decode cX1_moveWater 61 = .ok (.iastore, 1) := by decide +kernel
theorem dX1_moveWater_62 : decode cX1_moveWater 62 = .ok (.iinc 2 1, 3) := by decide +kernel
theorem dX1_moveWater_65 : decode cX1_moveWater 65 = .ok (.goto (-49), 3) := by decide +kernel
theorem dX1_moveWater_68 : decode cX1_moveWater 68 = .ok (.return_, 1) := by decide +kernel
def f_X1_moveWater_L16 (i0 : Nat) (a1 : Int32) : Nat → Int32 → Mm → Option (Mm)
  | 0, _, _ => none
  | n + 1, v2, M =>
    if ((64 : Int32) ≤ v2) then (some (M)) else (if 0 ≤ v2.toInt ∧ v2.toInt < ((64 : Nat) : Int) then (lz (if ((M (i0 + 1) (ix v2)) = 0) then (if (v2 = 0) then ((0 : Int32)) else ((1 : Int32))) else ((0 : Int32))) fun x14 => if 0 ≤ v2.toInt ∧ v2.toInt < ((64 : Nat) : Int) then (lz (f_X9_held (((M (i0 + 3) (ix v2)) + a1) + x14) (9 : Int32)) fun x18 => if 0 ≤ v2.toInt ∧ v2.toInt < ((64 : Nat) : Int) then (lz (wr M (i0 + 3) (ix v2) x18) fun M22 => lz (v2 + (1 : Int32)) fun x24 => f_X1_moveWater_L16 i0 a1 n x24 M22) else none) else none) else none)
def f_X1_moveWater (i0 : Nat) (M : Mm) : Option Mm :=
  bd1 (f_X1_rainOfDay i0 M) fun x1 => bd1 (f_X1_sunOfDay i0 M) fun x4 => lz ((x1 / (2 : Int32)) - (x4 / (4 : Int32))) fun x7 => bd1 (f_X1_moveWater_L16 i0 x7 FU (0 : Int32) M) fun M27 => some M27
set_option maxHeartbeats 4000000 in
set_option maxRecDepth 100000 in
theorem l_X1_moveWater_L16 {p : Program} {e : Env} {s : State} {m : MethodId} {args : Array Value} {below : List Frame} {meth : Method} {c : Code} {l : Launch} {G : GG} {Q : State → Prop} (hC : CX p s m args meth c cX1_moveWater 4 RX1 none G) {i0 : Nat} (hi0 : (kd i0).1 = 0) (a1 : Int32) : ∀ (n : Nat) (v2 : Int32) (M : Mm) {M2 : Mm} (hr : f_X1_moveWater_L16 i0 a1 n v2 M = some (M2)) (K : XJ p l e (RM 2 0 0 61) s m args below meth c G 4 Q 0 0 M2 68 [] []), XJ p l e (RM 2 0 0 61) s m args below meth c G 4 Q 0 0 M 16 [(0, .ref (G.2.1 i0)), (1, .int a1), (2, .int v2)] [] := by
  intro n
  induction n with
  | zero => intro v2 M M2 hr K; rw [f_X1_moveWater_L16] at hr; cases hr
  | succ n ih =>
    intro v2 M M2 hr K
    rw [f_X1_moveWater_L16] at hr
    refine x_iload_n hC dX1_moveWater_16 rfl 2 rfl ?_
    refine x_bipush hC (64 : Int32) dX1_moveWater_17 (by decide) ?_
    refine x_icmp_ge hC 68 dX1_moveWater_19 (by decide) (fun h9 => ?_) (fun h9 => ?_)
    · have hr := (ie_s hr).1 h9
      cases hr
      exact x_sub [] rfl K
    · have hr := (ie_s hr).2 h9
      refine x_aload_n hC dX1_moveWater_22 rfl 0 rfl ?_
      refine gf_X1_9 hC hi0 dX1_moveWater_23 ?_
      refine x_iload_n hC dX1_moveWater_26 rfl 2 rfl ?_
      obtain ⟨h10, hr⟩ := it_s hr
      refine x_iald hC (kr_0_0 hi0) h10 dX1_moveWater_27 ?_
      obtain ⟨x14, e15, hr⟩ := lz_s hr
      have q11 := e15.symm
      refine x_joinB (P := (x14 = 0 ∨ x14 = 1)) (M' := M) (pc' := 40) (lv' := [(0, .ref (G.2.1 i0)), (1, .int a1), (2, .int v2)]) (st' := [.int x14]) ?_ ?_
      · intro b16
        refine x_istore_n hC [(3, .int x14), (0, .ref (G.2.1 i0)), (1, .int a1), (2, .int v2)] dX1_moveWater_40 rfl (Nat.le_of_ble_eq_true rfl) rfl ?_
        refine x_aload_n hC dX1_moveWater_41 rfl 1 rfl ?_
        refine gf_X1_18 hC hi0 dX1_moveWater_42 ?_
        refine x_iload_n hC dX1_moveWater_45 rfl 3 rfl ?_
        refine x_aload_n hC dX1_moveWater_46 rfl 1 rfl ?_
        refine gf_X1_18 hC hi0 dX1_moveWater_47 ?_
        refine x_iload_n hC dX1_moveWater_50 rfl 3 rfl ?_
        obtain ⟨h17, hr⟩ := it_s hr
        refine x_iald hC (kr_0_2 hi0) h17 dX1_moveWater_51 ?_
        refine x_iload_n hC dX1_moveWater_52 rfl 2 rfl ?_
        refine x_iadd hC dX1_moveWater_53 ?_
        refine x_iload_n hC dX1_moveWater_54 rfl 0 rfl ?_
        refine x_iadd hC dX1_moveWater_55 ?_
        refine x_bipush hC (9 : Int32) dX1_moveWater_56 (by decide) ?_
        obtain ⟨x18, e19, hr⟩ := lz_s hr
        refine x_callSN (As := [.int (((M (i0 + 3) (ix v2)) + a1) + x14), .int (9 : Int32)]) hC (c_X9_held l G M (((M (i0 + 3) (ix v2)) + a1) + x14) (9 : Int32) e19.symm) kc_yX9_held kmn_X1_132 kt_yX9_held kn_RX9 ky_yX9_held rfl ⟨rfl, rfl⟩ ⟨(Nat.le_of_ble_eq_true rfl), (Nat.le_of_ble_eq_true rfl)⟩ rfl (Nat.le_of_ble_eq_true rfl) ⟨(Nat.le_of_ble_eq_true rfl), (Nat.le_of_ble_eq_true rfl)⟩ dX1_moveWater_58 (fun b20 => ?_)
        obtain ⟨h21, hr⟩ := it_s hr
        obtain ⟨M22, e23, hr⟩ := lz_s hr
        refine x_iast hC (kr_0_2 hi0) h21 e23 dX1_moveWater_61 ?_
        obtain ⟨x24, e25, hr⟩ := lz_s hr
        refine x_iinc hC [(2, .int x24), (3, .int x14), (0, .ref (G.2.1 i0)), (1, .int a1)] dX1_moveWater_62 3 rfl (by rw [e25]; rfl) (Nat.le_of_ble_eq_true rfl) rfl ?_
        refine x_goto hC 16 dX1_moveWater_65 (by decide) ?_
        exact x_sub [2, 3, 0] rfl (ih x24 M22 hr K)
      · intro kj
        refine x_if_ne hC 39 dX1_moveWater_28 (by decide) (fun h12 => ?_) (fun h12 => ?_)
        · have q11 := (ie_s q11).2 h12
          refine x_iconst hC (0 : Int32) dX1_moveWater_39 (by decide) ?_
          subst q11
          exact x_sub [0, 1, 2] rfl (kj (Or.inl rfl))
        · have q11 := (ie_s q11).1 h12
          refine x_iload_n hC dX1_moveWater_31 rfl 2 rfl ?_
          refine x_if_eq hC 39 dX1_moveWater_32 (by decide) (fun h13 => ?_) (fun h13 => ?_)
          · have q11 := (ie_s q11).1 h13
            refine x_iconst hC (0 : Int32) dX1_moveWater_39 (by decide) ?_
            subst q11
            exact x_sub [0, 1, 2] rfl (kj (Or.inl rfl))
          · have q11 := (ie_s q11).2 h13
            refine x_iconst hC (1 : Int32) dX1_moveWater_35 (by decide) ?_
            refine x_goto hC 40 dX1_moveWater_36 (by decide) ?_
            subst q11
            exact x_sub [0, 1, 2] rfl (kj (Or.inr rfl))
set_option maxHeartbeats 4000000 in
set_option maxRecDepth 100000 in
theorem c_X1_moveWater (l : Launch) (G : GG) (M : Mm) {i0 : Nat} (hi0 : (kd i0).1 = 0) {M9 : Mm} (hr : f_X1_moveWater i0 M = some M9) : Mo false l yX1_moveWater (WS yX1_moveWater cX1_moveWater 4 none) (RM 2 0 0 61) 0 0 [.ref (G.2.1 i0)] G M none M9 := by
  refine Mo.of (by decide +kernel) (Nat.le_of_ble_eq_true rfl) ?_
  intro p e s m args below meth c hC
  have hC : CX p s m args meth c cX1_moveWater 4 RX1 none G := hC
  rw [f_X1_moveWater] at hr
  show XJ p l e (RM 2 0 0 61) s m args below meth c G 4 _ 0 0 M 0 [(0, .ref (G.2.1 i0))] []
  refine x_aload_n hC dX1_moveWater_0 rfl 0 rfl ?_
  obtain ⟨x1, q2, hr⟩ := bd1_s hr
  refine x_callV (ci := 0) (q := (RX1, TX1, 17)) (As := []) hC (c_X1_rainOfDay l G M hi0 q2) kc_yX1_rainOfDay km_X1_121 ki_yX1_rainOfDay kv_yX1_rainOfDay kn_RX1 ky_yX1_rainOfDay rfl ⟨rfl, rfl⟩ ⟨(Nat.le_of_ble_eq_true rfl), (Nat.le_of_ble_eq_true rfl)⟩ hi0 (by decide) rfl rfl (Nat.le_of_ble_eq_true rfl) ⟨(Nat.le_of_ble_eq_true rfl), (Nat.le_of_ble_eq_true rfl)⟩ dX1_moveWater_1 (fun b3 => ?_)
  refine x_iconst hC (2 : Int32) dX1_moveWater_4 (by decide) ?_
  refine x_idiv hC dX1_moveWater_5 (by decide) ?_
  refine x_aload_n hC dX1_moveWater_6 rfl 0 rfl ?_
  obtain ⟨x4, q5, hr⟩ := bd1_s hr
  refine x_callV (ci := 0) (q := (RX1, TX1, 17)) (As := []) hC (c_X1_sunOfDay l G M hi0 q5) kc_yX1_sunOfDay km_X1_125 ki_yX1_sunOfDay kv_yX1_sunOfDay kn_RX1 ky_yX1_sunOfDay rfl ⟨rfl, rfl⟩ ⟨(Nat.le_of_ble_eq_true rfl), (Nat.le_of_ble_eq_true rfl)⟩ hi0 (by decide) rfl rfl (Nat.le_of_ble_eq_true rfl) ⟨(Nat.le_of_ble_eq_true rfl), (Nat.le_of_ble_eq_true rfl)⟩ dX1_moveWater_7 (fun b6 => ?_)
  refine x_iconst hC (4 : Int32) dX1_moveWater_10 (by decide) ?_
  refine x_idiv hC dX1_moveWater_11 (by decide) ?_
  refine x_isub hC dX1_moveWater_12 ?_
  obtain ⟨x7, e8, hr⟩ := lz_s hr
  refine x_topi e8 ?_
  refine x_istore_n hC [(1, .int x7), (0, .ref (G.2.1 i0))] dX1_moveWater_13 rfl (Nat.le_of_ble_eq_true rfl) rfl ?_
  refine x_iconst hC (0 : Int32) dX1_moveWater_14 (by decide) ?_
  refine x_istore_n hC [(2, .int (0 : Int32)), (1, .int x7), (0, .ref (G.2.1 i0))] dX1_moveWater_15 rfl (Nat.le_of_ble_eq_true rfl) rfl ?_
  obtain ⟨M27, q26, hr⟩ := bd1_s hr
  refine x_sub [2, 1, 0] rfl (l_X1_moveWater_L16 hC hi0 x7 FU  (0 : Int32) M q26 ?_)
  cases hr
  exact x_vret hC rfl dX1_moveWater_68

theorem dX1_neighboursWithPeat_0 : decode cX1_neighboursWithPeat 0 = .ok (.iload_n 1, 1) := by decide +kernel
theorem dX1_neighboursWithPeat_1 : decode cX1_neighboursWithPeat 1 = .ok (.bipush 8, 2) := by decide +kernel
theorem dX1_neighboursWithPeat_3 : decode cX1_neighboursWithPeat 3 = .ok (.irem, 1) := by decide +kernel
theorem dX1_neighboursWithPeat_4 : decode cX1_neighboursWithPeat 4 = .ok (.istore_n 2, 1) := by decide +kernel
theorem dX1_neighboursWithPeat_5 : decode cX1_neighboursWithPeat 5 = .ok (.iload_n 1, 1) := by decide +kernel
theorem dX1_neighboursWithPeat_6 : decode cX1_neighboursWithPeat 6 = .ok (.bipush 8, 2) := by decide +kernel
theorem dX1_neighboursWithPeat_8 : decode cX1_neighboursWithPeat 8 = .ok (.idiv, 1) := by decide +kernel
theorem dX1_neighboursWithPeat_9 : decode cX1_neighboursWithPeat 9 = .ok (.istore_n 3, 1) := by decide +kernel
theorem dX1_neighboursWithPeat_10 : decode cX1_neighboursWithPeat 10 = .ok (.iconst 0, 1) := by decide +kernel
theorem dX1_neighboursWithPeat_11 : decode cX1_neighboursWithPeat 11 = .ok (.istore 4, 2) := by decide +kernel
theorem dX1_neighboursWithPeat_13 : decode cX1_neighboursWithPeat 13 = .ok (.iload_n 2, 1) := by decide +kernel
theorem dX1_neighboursWithPeat_14 : decode cX1_neighboursWithPeat 14 = .ok (.ifCond .le 17, 3) := by decide +kernel
theorem dX1_neighboursWithPeat_17 : decode cX1_neighboursWithPeat 17 = .ok (.aload_n 0, 1) := by decide +kernel
theorem dX1_neighboursWithPeat_18 : decode cX1_neighboursWithPeat 18 = .ok (.getfield 15, 3) := by decide +kernel
theorem dX1_neighboursWithPeat_21 : decode cX1_neighboursWithPeat 21 = .ok (.iload_n 1, 1) := by decide +kernel
theorem dX1_neighboursWithPeat_22 : decode cX1_neighboursWithPeat 22 = .ok (.iconst 1, 1) := by decide +kernel
theorem dX1_neighboursWithPeat_23 : decode cX1_neighboursWithPeat 23 = .ok (.isub, 1) := by decide +kernel
theorem dX1_neighboursWithPeat_24 : decode cX1_neighboursWithPeat 24 = .ok (.iaload, 1) := by decide +kernel
theorem dX1_neighboursWithPeat_25 : decode cX1_neighboursWithPeat 25 = .ok (.ifCond .le 6, 3) := by decide +kernel
theorem dX1_neighboursWithPeat_28 : decode cX1_neighboursWithPeat 28 = .ok (.iinc 4 1, 3) := by decide +kernel
theorem dX1_neighboursWithPeat_31 : decode cX1_neighboursWithPeat 31 = .ok (.iload_n 2, 1) := by decide +kernel
theorem dX1_neighboursWithPeat_32 : decode cX1_neighboursWithPeat 32 = .ok (.bipush 7, 2) := by decide +kernel
theorem dX1_neighboursWithPeat_34 : decode cX1_neighboursWithPeat 34 = .ok (.if_icmp .ge 17, 3) := by decide +kernel
theorem dX1_neighboursWithPeat_37 : decode cX1_neighboursWithPeat 37 = .ok (.aload_n 0, 1) := by decide +kernel
theorem dX1_neighboursWithPeat_38 : decode cX1_neighboursWithPeat 38 = .ok (.getfield 15, 3) := by decide +kernel
theorem dX1_neighboursWithPeat_41 : decode cX1_neighboursWithPeat 41 = .ok (.iload_n 1, 1) := by decide +kernel
theorem dX1_neighboursWithPeat_42 : decode cX1_neighboursWithPeat 42 = .ok (.iconst 1, 1) := by decide +kernel
theorem dX1_neighboursWithPeat_43 : decode cX1_neighboursWithPeat 43 = .ok (.iadd, 1) := by decide +kernel
theorem dX1_neighboursWithPeat_44 : decode cX1_neighboursWithPeat 44 = .ok (.iaload, 1) := by decide +kernel
theorem dX1_neighboursWithPeat_45 : decode cX1_neighboursWithPeat 45 = .ok (.ifCond .le 6, 3) := by decide +kernel
theorem dX1_neighboursWithPeat_48 : decode cX1_neighboursWithPeat 48 = .ok (.iinc 4 1, 3) := by decide +kernel
theorem dX1_neighboursWithPeat_51 : decode cX1_neighboursWithPeat 51 = .ok (.iload_n 3, 1) := by decide +kernel
theorem dX1_neighboursWithPeat_52 : decode cX1_neighboursWithPeat 52 = .ok (.ifCond .le 18, 3) := by decide +kernel
theorem dX1_neighboursWithPeat_55 : decode cX1_neighboursWithPeat 55 = .ok (.aload_n 0, 1) := by decide +kernel
theorem dX1_neighboursWithPeat_56 : decode cX1_neighboursWithPeat 56 = .ok (.getfield 15, 3) := by decide +kernel
theorem dX1_neighboursWithPeat_59 : decode cX1_neighboursWithPeat 59 = .ok (.iload_n 1, 1) := by decide +kernel
theorem dX1_neighboursWithPeat_60 : decode cX1_neighboursWithPeat 60 = .ok (.bipush 8, 2) := by decide +kernel
theorem dX1_neighboursWithPeat_62 : decode cX1_neighboursWithPeat 62 = .ok (.isub, 1) := by decide +kernel
theorem dX1_neighboursWithPeat_63 : decode cX1_neighboursWithPeat 63 = .ok (.iaload, 1) := by decide +kernel
theorem dX1_neighboursWithPeat_64 : decode cX1_neighboursWithPeat 64 = .ok (.ifCond .le 6, 3) := by decide +kernel
theorem dX1_neighboursWithPeat_67 : decode cX1_neighboursWithPeat 67 = .ok (.iinc 4 1, 3) := by decide +kernel
theorem dX1_neighboursWithPeat_70 : decode cX1_neighboursWithPeat 70 = .ok (.iload_n 3, 1) := by decide +kernel
theorem dX1_neighboursWithPeat_71 : decode cX1_neighboursWithPeat 71 = .ok (.bipush 7, 2) := by decide +kernel
theorem dX1_neighboursWithPeat_73 : decode cX1_neighboursWithPeat 73 = .ok (.if_icmp .ge 18, 3) := by decide +kernel
theorem dX1_neighboursWithPeat_76 : decode cX1_neighboursWithPeat 76 = .ok (.aload_n 0, 1) := by decide +kernel
theorem dX1_neighboursWithPeat_77 : decode cX1_neighboursWithPeat 77 = .ok (.getfield 15, 3) := by decide +kernel
theorem dX1_neighboursWithPeat_80 : decode cX1_neighboursWithPeat 80 = .ok (.iload_n 1, 1) := by decide +kernel
theorem dX1_neighboursWithPeat_81 : decode cX1_neighboursWithPeat 81 = .ok (.bipush 8, 2) := by decide +kernel
theorem dX1_neighboursWithPeat_83 : decode cX1_neighboursWithPeat 83 = .ok (.iadd, 1) := by decide +kernel
theorem dX1_neighboursWithPeat_84 : decode cX1_neighboursWithPeat 84 = .ok (.iaload, 1) := by decide +kernel
theorem dX1_neighboursWithPeat_85 : decode cX1_neighboursWithPeat 85 = .ok (.ifCond .le 6, 3) := by decide +kernel
theorem dX1_neighboursWithPeat_88 : decode cX1_neighboursWithPeat 88 = .ok (.iinc 4 1, 3) := by decide +kernel
theorem dX1_neighboursWithPeat_91 : decode cX1_neighboursWithPeat 91 = .ok (.iload 4, 2) := by decide +kernel
theorem dX1_neighboursWithPeat_93 : decode cX1_neighboursWithPeat 93 = .ok (.ireturn, 1) := by decide +kernel

def f_X1_neighboursWithPeat (i0 : Nat) (a1 : Int32) (M : Mm) : Option Int32 :=
  lz (a1 - a1 / (8 : Int32) * (8 : Int32)) fun x1 => bd1 (if (x1 ≤ 0) then (some ((0 : Int32))) else (if 0 ≤ (a1 - (1 : Int32)).toInt ∧ (a1 - (1 : Int32)).toInt < ((64 : Nat) : Int) then (if ((M (i0 + 2) (ix (a1 - (1 : Int32)))) ≤ 0) then (some ((0 : Int32))) else (lz ((0 : Int32) + (1 : Int32)) fun x7 => some (x7))) else none)) fun x9 => bd1 (if ((7 : Int32) ≤ x1) then (some (x9)) else (if 0 ≤ (a1 + (1 : Int32)).toInt ∧ (a1 + (1 : Int32)).toInt < ((64 : Nat) : Int) then (if ((M (i0 + 2) (ix (a1 + (1 : Int32)))) ≤ 0) then (some (x9)) else (lz (x9 + (1 : Int32)) fun x14 => some (x14))) else none)) fun x16 => bd1 (if ((a1 / (8 : Int32)) ≤ 0) then (some (x16)) else (if 0 ≤ (a1 - (8 : Int32)).toInt ∧ (a1 - (8 : Int32)).toInt < ((64 : Nat) : Int) then (if ((M (i0 + 2) (ix (a1 - (8 : Int32)))) ≤ 0) then (some (x16)) else (lz (x16 + (1 : Int32)) fun x21 => some (x21))) else none)) fun x23 => bd1 (if ((7 : Int32) ≤ (a1 / (8 : Int32))) then (some (x23)) else (if 0 ≤ (a1 + (8 : Int32)).toInt ∧ (a1 + (8 : Int32)).toInt < ((64 : Nat) : Int) then (if ((M (i0 + 2) (ix (a1 + (8 : Int32)))) ≤ 0) then (some (x23)) else (lz (x23 + (1 : Int32)) fun x28 => some (x28))) else none)) fun x30 => some x30

set_option maxHeartbeats 4000000 in
set_option maxRecDepth 100000 in
theorem c_X1_neighboursWithPeat (l : Launch) (G : GG) (M : Mm) {i0 : Nat} (hi0 : (kd i0).1 = 0) (a1 : Int32) {r : Int32} (hr : f_X1_neighboursWithPeat i0 a1 M = some r) : Mo false l yX1_neighboursWithPeat (WS yX1_neighboursWithPeat cX1_neighboursWithPeat 5 (some .int)) (RM 0 0 0 0) 0 0 [.ref (G.2.1 i0), .int a1] G M (some (.int r)) M := by
  refine Mo.of (by decide +kernel) (Nat.le_of_ble_eq_true rfl) ?_
  intro p e s m args below meth c hC
  have hC : CX p s m args meth c cX1_neighboursWithPeat 5 RX1 (some .int) G := hC
  rw [f_X1_neighboursWithPeat] at hr
  show XJ p l e (RM 0 0 0 0) s m args below meth c G 5 _ 0 0 M 0 [(0, .ref (G.2.1 i0)), (1, .int a1)] []
  refine x_iload_n hC dX1_neighboursWithPeat_0 rfl 1 rfl ?_
  refine x_bipush hC (8 : Int32) dX1_neighboursWithPeat_1 (by decide) ?_
  refine x_irem hC dX1_neighboursWithPeat_3 (by decide) ?_
  obtain ⟨x1, e2, hr⟩ := lz_s hr
  refine x_topi e2 ?_
  refine x_istore_n hC [(2, .int x1), (0, .ref (G.2.1 i0)), (1, .int a1)] dX1_neighboursWithPeat_4 rfl (Nat.le_of_ble_eq_true rfl) rfl ?_
  refine x_iload_n hC dX1_neighboursWithPeat_5 rfl 2 rfl ?_
  refine x_bipush hC (8 : Int32) dX1_neighboursWithPeat_6 (by decide) ?_
  refine x_idiv hC dX1_neighboursWithPeat_8 (by decide) ?_
  refine x_istore_n hC [(3, .int (a1 / (8 : Int32))), (2, .int x1), (0, .ref (G.2.1 i0)), (1, .int a1)] dX1_neighboursWithPeat_9 rfl (Nat.le_of_ble_eq_true rfl) rfl ?_
  refine x_iconst hC (0 : Int32) dX1_neighboursWithPeat_10 (by decide) ?_
  refine x_istore hC [(4, .int (0 : Int32)), (3, .int (a1 / (8 : Int32))), (2, .int x1), (0, .ref (G.2.1 i0)), (1, .int a1)] dX1_neighboursWithPeat_11  (Nat.le_of_ble_eq_true rfl) rfl ?_
  refine x_iload_n hC dX1_neighboursWithPeat_13 rfl 2 rfl ?_
  obtain ⟨x9, q3, hr⟩ := bd1_s hr
  refine x_join (M' := M) (pc' := 31) (lv' := [(0, .ref (G.2.1 i0)), (1, .int a1), (2, .int x1), (3, .int (a1 / (8 : Int32))), (4, .int x9)]) (st' := []) ?_ ?_
  · refine x_iload_n hC dX1_neighboursWithPeat_31 rfl 2 rfl ?_
    refine x_bipush hC (7 : Int32) dX1_neighboursWithPeat_32 (by decide) ?_
    obtain ⟨x16, q10, hr⟩ := bd1_s hr
    refine x_join (M' := M) (pc' := 51) (lv' := [(0, .ref (G.2.1 i0)), (1, .int a1), (3, .int (a1 / (8 : Int32))), (4, .int x16)]) (st' := []) ?_ ?_
    · refine x_iload_n hC dX1_neighboursWithPeat_51 rfl 2 rfl ?_
      obtain ⟨x23, q17, hr⟩ := bd1_s hr
      refine x_join (M' := M) (pc' := 70) (lv' := [(0, .ref (G.2.1 i0)), (1, .int a1), (3, .int (a1 / (8 : Int32))), (4, .int x23)]) (st' := []) ?_ ?_
      · refine x_iload_n hC dX1_neighboursWithPeat_70 rfl 2 rfl ?_
        refine x_bipush hC (7 : Int32) dX1_neighboursWithPeat_71 (by decide) ?_
        obtain ⟨x30, q24, hr⟩ := bd1_s hr
        refine x_join (M' := M) (pc' := 91) (lv' := [(4, .int x30)]) (st' := []) ?_ ?_
        · refine x_iload hC dX1_neighboursWithPeat_91 0 rfl ?_
          cases hr
          exact x_iret hC rfl dX1_neighboursWithPeat_93
        · intro kj
          refine x_icmp_ge hC 91 dX1_neighboursWithPeat_73 (by decide) (fun h25 => ?_) (fun h25 => ?_)
          · have q24 := (ie_s q24).1 h25
            cases q24
            exact x_sub [3] rfl kj
          · have q24 := (ie_s q24).2 h25
            refine x_aload_n hC dX1_neighboursWithPeat_76 rfl 0 rfl ?_
            refine gf_X1_15 hC hi0 dX1_neighboursWithPeat_77 ?_
            refine x_iload_n hC dX1_neighboursWithPeat_80 rfl 1 rfl ?_
            refine x_bipush hC (8 : Int32) dX1_neighboursWithPeat_81 (by decide) ?_
            refine x_iadd hC dX1_neighboursWithPeat_83 ?_
            obtain ⟨h26, q24⟩ := it_s q24
            refine x_iald hC (kr_0_1 hi0) h26 dX1_neighboursWithPeat_84 ?_
            refine x_if_le hC 91 dX1_neighboursWithPeat_85 (by decide) (fun h27 => ?_) (fun h27 => ?_)
            · have q24 := (ie_s q24).1 h27
              cases q24
              exact x_sub [3] rfl kj
            · have q24 := (ie_s q24).2 h27
              obtain ⟨x28, e29, q24⟩ := lz_s q24
              refine x_iinc hC [(4, .int x28), (0, .ref (G.2.1 i0)), (1, .int a1), (3, .int (a1 / (8 : Int32)))] dX1_neighboursWithPeat_88 3 rfl (by rw [e29]; rfl) (Nat.le_of_ble_eq_true rfl) rfl ?_
              cases q24
              exact x_sub [0] rfl kj
      · intro kj
        refine x_if_le hC 70 dX1_neighboursWithPeat_52 (by decide) (fun h18 => ?_) (fun h18 => ?_)
        · have q17 := (ie_s q17).1 h18
          cases q17
          exact x_sub [0, 1, 2, 3] rfl kj
        · have q17 := (ie_s q17).2 h18
          refine x_aload_n hC dX1_neighboursWithPeat_55 rfl 0 rfl ?_
          refine gf_X1_15 hC hi0 dX1_neighboursWithPeat_56 ?_
          refine x_iload_n hC dX1_neighboursWithPeat_59 rfl 1 rfl ?_
          refine x_bipush hC (8 : Int32) dX1_neighboursWithPeat_60 (by decide) ?_
          refine x_isub hC dX1_neighboursWithPeat_62 ?_
          obtain ⟨h19, q17⟩ := it_s q17
          refine x_iald hC (kr_0_1 hi0) h19 dX1_neighboursWithPeat_63 ?_
          refine x_if_le hC 70 dX1_neighboursWithPeat_64 (by decide) (fun h20 => ?_) (fun h20 => ?_)
          · have q17 := (ie_s q17).1 h20
            cases q17
            exact x_sub [0, 1, 2, 3] rfl kj
          · have q17 := (ie_s q17).2 h20
            obtain ⟨x21, e22, q17⟩ := lz_s q17
            refine x_iinc hC [(4, .int x21), (0, .ref (G.2.1 i0)), (1, .int a1), (3, .int (a1 / (8 : Int32)))] dX1_neighboursWithPeat_67 3 rfl (by rw [e22]; rfl) (Nat.le_of_ble_eq_true rfl) rfl ?_
            cases q17
            exact x_sub [1, 2, 3, 0] rfl kj
    · intro kj
      refine x_icmp_ge hC 51 dX1_neighboursWithPeat_34 (by decide) (fun h11 => ?_) (fun h11 => ?_)
      · have q10 := (ie_s q10).1 h11
        cases q10
        exact x_sub [0, 1, 3, 4] rfl kj
      · have q10 := (ie_s q10).2 h11
        refine x_aload_n hC dX1_neighboursWithPeat_37 rfl 0 rfl ?_
        refine gf_X1_15 hC hi0 dX1_neighboursWithPeat_38 ?_
        refine x_iload_n hC dX1_neighboursWithPeat_41 rfl 1 rfl ?_
        refine x_iconst hC (1 : Int32) dX1_neighboursWithPeat_42 (by decide) ?_
        refine x_iadd hC dX1_neighboursWithPeat_43 ?_
        obtain ⟨h12, q10⟩ := it_s q10
        refine x_iald hC (kr_0_1 hi0) h12 dX1_neighboursWithPeat_44 ?_
        refine x_if_le hC 51 dX1_neighboursWithPeat_45 (by decide) (fun h13 => ?_) (fun h13 => ?_)
        · have q10 := (ie_s q10).1 h13
          cases q10
          exact x_sub [0, 1, 3, 4] rfl kj
        · have q10 := (ie_s q10).2 h13
          obtain ⟨x14, e15, q10⟩ := lz_s q10
          refine x_iinc hC [(4, .int x14), (0, .ref (G.2.1 i0)), (1, .int a1), (2, .int x1), (3, .int (a1 / (8 : Int32)))] dX1_neighboursWithPeat_48 4 rfl (by rw [e15]; rfl) (Nat.le_of_ble_eq_true rfl) rfl ?_
          cases q10
          exact x_sub [1, 2, 4, 0] rfl kj
  · intro kj
    refine x_if_le hC 31 dX1_neighboursWithPeat_14 (by decide) (fun h4 => ?_) (fun h4 => ?_)
    · have q3 := (ie_s q3).1 h4
      cases q3
      exact x_sub [3, 4, 2, 1, 0] rfl kj
    · have q3 := (ie_s q3).2 h4
      refine x_aload_n hC dX1_neighboursWithPeat_17 rfl 3 rfl ?_
      refine gf_X1_15 hC hi0 dX1_neighboursWithPeat_18 ?_
      refine x_iload_n hC dX1_neighboursWithPeat_21 rfl 4 rfl ?_
      refine x_iconst hC (1 : Int32) dX1_neighboursWithPeat_22 (by decide) ?_
      refine x_isub hC dX1_neighboursWithPeat_23 ?_
      obtain ⟨h5, q3⟩ := it_s q3
      refine x_iald hC (kr_0_1 hi0) h5 dX1_neighboursWithPeat_24 ?_
      refine x_if_le hC 31 dX1_neighboursWithPeat_25 (by decide) (fun h6 => ?_) (fun h6 => ?_)
      · have q3 := (ie_s q3).1 h6
        cases q3
        exact x_sub [3, 4, 2, 1, 0] rfl kj
      · have q3 := (ie_s q3).2 h6
        obtain ⟨x7, e8, q3⟩ := lz_s q3
        refine x_iinc hC [(4, .int x7), (3, .int (a1 / (8 : Int32))), (2, .int x1), (0, .ref (G.2.1 i0)), (1, .int a1)] dX1_neighboursWithPeat_28 0 rfl (by rw [e8]; rfl) (Nat.le_of_ble_eq_true rfl) rfl ?_
        cases q3
        exact x_sub [3, 4, 2, 1, 0] rfl kj

theorem dX1_rise_0 : decode cX1_rise 0 = .ok (.aload_n 0, 1) := by decide +kernel
theorem dX1_rise_1 : decode cX1_rise 1 = .ok (.getfield 9, 3) := by decide +kernel
theorem dX1_rise_4 : decode cX1_rise 4 = .ok (.iconst 0, 1) := by decide +kernel
theorem dX1_rise_5 : decode cX1_rise 5 = .ok (.aload_n 0, 1) := by decide +kernel
theorem dX1_rise_6 : decode cX1_rise 6 = .ok (.getfield 15, 3) := by decide +kernel
theorem dX1_rise_9 : decode cX1_rise 9 = .ok (.iconst 0, 1) := by decide +kernel
theorem dX1_rise_10 : decode cX1_rise 10 = .ok (.bipush 64, 2) := by decide +kernel
theorem dX1_rise_12 : decode cX1_rise 12 = .ok (.invokestatic 69, 3) := by decide +kernel
theorem dX1_rise_15 : decode cX1_rise 15 = .ok (.iconst 0, 1) := by decide +kernel
theorem dX1_rise_16 : decode cX1_rise 16 = .ok (.istore_n 1, 1) := by decide +kernel
theorem dX1_rise_17 : decode cX1_rise 17 = .ok (.iload_n 1, 1) := by decide +kernel
theorem dX1_rise_18 : decode cX1_rise 18 = .ok (.bipush 64, 2) := by decide +kernel
theorem dX1_rise_20 : decode cX1_rise 20 = .ok (.if_icmp .ge 72, 3) := by decide +kernel
theorem dX1_rise_23 : decode cX1_rise 23 = .ok (.iload_n 1, 1) := by decide +kernel
theorem dX1_rise_24 : decode cX1_rise 24 = .ok (.ifCond .eq 28, 3) := by decide +kernel
theorem dX1_rise_27 : decode cX1_rise 27 = .ok (.aload_n 0, 1) := by decide +kernel
theorem dX1_rise_28 : decode cX1_rise 28 = .ok (.getfield 18, 3) := by decide +kernel
theorem dX1_rise_31 : decode cX1_rise 31 = .ok (.iload_n 1, 1) := by decide +kernel
theorem dX1_rise_32 : decode cX1_rise 32 = .ok (.iaload, 1) := by decide +kernel
theorem dX1_rise_33 : decode cX1_rise 33 = .ok (.iconst 4, 1) := by decide +kernel
theorem dX1_rise_34 : decode cX1_rise 34 = .ok (.if_icmp .lt 18, 3) := by decide +kernel
theorem dX1_rise_37 : decode cX1_rise 37 = .ok (.aload_n 0, 1) := by decide +kernel
theorem dX1_rise_38 : decode cX1_rise 38 = .ok (.getfield 15, 3) := by decide +kernel
theorem dX1_rise_41 : decode cX1_rise 41 = .ok (.iload_n 1, 1) := by decide +kernel
theorem dX1_rise_42 : decode cX1_rise 42 = .ok (.iaload, 1) := by decide +kernel
theorem dX1_rise_43 : decode cX1_rise 43 = .ok (.bipush 60, 2) := by decide +kernel
theorem dX1_rise_45 : decode cX1_rise 45 = .ok (.if_icmp .ge 7, 3) := by decide +kernel
theorem dX1_rise_48 : decode cX1_rise 48 = .ok (.iconst 1, 1) := by decide +kernel
theorem dX1_rise_49 : decode cX1_rise 49 = .ok (.goto 4, 3) := by decide +kernel
theorem dX1_rise_52 : decode cX1_rise 52 = .ok (.iconst 0, 1) := by decide +kernel
theorem dX1_rise_53 : decode cX1_rise 53 = .ok (.istore_n 2, 1) := by decide +kernel
theorem dX1_rise_54 : decode cX1_rise 54 = .ok (.iload_n 2, 1) := by decide +kernel
theorem dX1_rise_55 : decode cX1_rise 55 = .ok (.ifCond .eq 31, 3) := by decide +kernel
theorem dX1_rise_58 : decode cX1_rise 58 = .ok (.aload_n 0, 1) := by decide +kernel
theorem dX1_rise_59 : decode cX1_rise 59 = .ok (.getfield 15, 3) := by decide +kernel
theorem dX1_rise_62 : decode cX1_rise 62 = .ok (.iload_n 1, 1) := by decide +kernel
theorem dX1_rise_63 : decode cX1_rise 63 = .ok (.iaload, 1) := by decide +kernel
theorem dX1_rise_64 : decode cX1_rise 64 = .ok (.ifCond .gt 12, 3) := by decide +kernel
theorem dX1_rise_67 : decode cX1_rise 67 = .ok (.aload_n 0, 1) := by decide +kernel
theorem dX1_rise_68 : decode cX1_rise 68 = .ok (.iload_n 1, 1) := by decide +kernel
theorem dX1_rise_69 : decode cX1_rise 69 = .ok (.invokevirtual 135, 3) := by decide +kernel
theorem dX1_rise_72 : decode cX1_rise 72 = .ok (.iconst 2, 1) := by decide +kernel
theorem dX1_rise_73 : decode cX1_rise 73 = .ok (.if_icmp .lt 13, 3) := by decide +kernel
theorem dX1_rise_76 : decode cX1_rise 76 = .ok (.aload_n 0, 1) := by decide +kernel
theorem dX1_rise_77 : decode cX1_rise 77 = .ok (.getfield 9, 3) := by decide +kernel
theorem dX1_rise_80 : decode cX1_rise 80 = .ok (.iload_n 1, 1) := by decide +kernel
theorem dX1_rise_81 : decode cX1_rise 81 = .ok (.dup2, 1) := by decide +kernel
theorem dX1_rise_82 : decode cX1_rise 82 = .ok (.iaload, 1) := by decide +kernel
theorem dX1_rise_83 : decode cX1_rise 83 = .ok (.iconst 1, 1) := by decide +kernel
theorem dX1_rise_84 : decode cX1_rise 84 = .ok (.iadd, 1) := by decide +kernel
theorem dX1_rise_85 : decode cX1_rise 85 = .ok (.iastore, 1) := by decide +kernel
theorem dX1_rise_86 : decode cX1_rise 86 = .ok (.iinc 1 1, 3) := by decide +kernel
theorem dX1_rise_89 : decode cX1_rise 89 = .ok (.goto (-72), 3) := by decide +kernel
theorem dX1_rise_92 : decode cX1_rise 92 = .ok (.return_, 1) := by decide +kernel
def f_X1_rise_L17 (i0 : Nat) : Nat → Int32 → Mm → Option (Mm)
  | 0, _, _ => none
  | n + 1, v1, M =>
    if ((64 : Int32) ≤ v1) then (some (M)) else (bd1 (if (v1 = 0) then (some ((0 : Int32))) else (if 0 ≤ v1.toInt ∧ v1.toInt < ((64 : Nat) : Int) then (if ((M (i0 + 3) (ix v1)) < (4 : Int32)) then (some ((0 : Int32))) else (if 0 ≤ v1.toInt ∧ v1.toInt < ((64 : Nat) : Int) then (if ((60 : Int32) ≤ (M (i0 + 2) (ix v1))) then (some ((0 : Int32))) else (some ((1 : Int32)))) else none)) else none)) fun x11 => bd1 (if (x11 = 0) then (some (M)) else (if 0 ≤ v1.toInt ∧ v1.toInt < ((64 : Nat) : Int) then (if (0 < (M (i0 + 2) (ix v1))) then (if 0 ≤ v1.toInt ∧ v1.toInt < ((64 : Nat) : Int) then (if 0 ≤ v1.toInt ∧ v1.toInt < ((64 : Nat) : Int) then (lz (wr M (i0 + 1) (ix v1) ((M (i0 + 1) (ix v1)) + (1 : Int32))) fun M19 => some (M19)) else none) else none) else (bd1 (f_X1_neighboursWithPeat i0 v1 M) fun x21 => if (x21 < (2 : Int32)) then (some (M)) else (if 0 ≤ v1.toInt ∧ v1.toInt < ((64 : Nat) : Int) then (if 0 ≤ v1.toInt ∧ v1.toInt < ((64 : Nat) : Int) then (lz (wr M (i0 + 1) (ix v1) ((M (i0 + 1) (ix v1)) + (1 : Int32))) fun M27 => some (M27)) else none) else none))) else none)) fun M29 => lz (v1 + (1 : Int32)) fun x30 => f_X1_rise_L17 i0 n x30 M29)
def f_X1_rise (i0 : Nat) (M : Mm) : Option Mm :=
  if 0 ≤ (64 : Int32).toInt ∧ (64 : Int32).toInt ≤ ((64 : Nat) : Int) ∧ (64 : Int32).toInt ≤ ((64 : Nat) : Int) then (lz (wrow M (i0 + 2) (va_cpy (M (i0 + 1)) (M (i0 + 2)) 0 0 (ix (64 : Int32)))) fun M2 => bd1 (f_X1_rise_L17 i0 FU (0 : Int32) M2) fun M33 => some M33) else none
set_option maxHeartbeats 4000000 in
set_option maxRecDepth 100000 in
theorem l_X1_rise_L17 {p : Program} {e : Env} {s : State} {m : MethodId} {args : Array Value} {below : List Frame} {meth : Method} {c : Code} {l : Launch} {G : GG} {Q : State → Prop} (hC : CX p s m args meth c cX1_rise 3 RX1 none G) {i0 : Nat} (hi0 : (kd i0).1 = 0) : ∀ (n : Nat) (v1 : Int32) (M : Mm) {M2 : Mm} (hr : f_X1_rise_L17 i0 n v1 M = some (M2)) (K : XJ p l e (RM 1 0 0 60) s m args below meth c G 3 Q 0 0 M2 92 [] []), XJ p l e (RM 1 0 0 60) s m args below meth c G 3 Q 0 0 M 17 [(0, .ref (G.2.1 i0)), (1, .int v1)] [] := by
  intro n
  induction n with
  | zero => intro v1 M M2 hr K; rw [f_X1_rise_L17] at hr; cases hr
  | succ n ih =>
    intro v1 M M2 hr K
    rw [f_X1_rise_L17] at hr
    refine x_iload_n hC dX1_rise_17 rfl 1 rfl ?_
    refine x_bipush hC (64 : Int32) dX1_rise_18 (by decide) ?_
    refine x_icmp_ge hC 92 dX1_rise_20 (by decide) (fun h4 => ?_) (fun h4 => ?_)
    · have hr := (ie_s hr).1 h4
      cases hr
      exact x_sub [] rfl K
    · have hr := (ie_s hr).2 h4
      refine x_iload_n hC dX1_rise_23 rfl 1 rfl ?_
      obtain ⟨x11, q5, hr⟩ := bd1_s hr
      refine x_joinB (P := (x11 = 0 ∨ x11 = 1)) (M' := M) (pc' := 53) (lv' := [(0, .ref (G.2.1 i0)), (1, .int v1)]) (st' := [.int x11]) ?_ ?_
      · intro b12
        refine x_istore_n hC [(2, .int x11), (0, .ref (G.2.1 i0)), (1, .int v1)] dX1_rise_53 rfl (Nat.le_of_ble_eq_true rfl) rfl ?_
        refine x_iload_n hC dX1_rise_54 rfl 0 rfl ?_
        obtain ⟨M29, q13, hr⟩ := bd1_s hr
        refine x_join (M' := M29) (pc' := 86) (lv' := [(0, .ref (G.2.1 i0)), (1, .int v1)]) (st' := []) ?_ ?_
        · obtain ⟨x30, e31, hr⟩ := lz_s hr
          refine x_iinc hC [(1, .int x30), (0, .ref (G.2.1 i0))] dX1_rise_86 1 rfl (by rw [e31]; rfl) (Nat.le_of_ble_eq_true rfl) rfl ?_
          refine x_goto hC 17 dX1_rise_89 (by decide) ?_
          exact x_sub [1, 0] rfl (ih x30 M29 hr K)
        · intro kj
          refine x_if_eq hC 86 dX1_rise_55 (by decide) (fun h14 => ?_) (fun h14 => ?_)
          · have q13 := (ie_s q13).1 h14
            cases q13
            exact x_sub [1, 2] rfl kj
          · have q13 := (ie_s q13).2 h14
            refine x_aload_n hC dX1_rise_58 rfl 1 rfl ?_
            refine gf_X1_15 hC hi0 dX1_rise_59 ?_
            refine x_iload_n hC dX1_rise_62 rfl 2 rfl ?_
            obtain ⟨h15, q13⟩ := it_s q13
            refine x_iald hC (kr_0_1 hi0) h15 dX1_rise_63 ?_
            refine x_if_gt hC 76 dX1_rise_64 (by decide) (fun h16 => ?_) (fun h16 => ?_)
            · have q13 := (ie_s q13).1 h16
              refine x_aload_n hC dX1_rise_76 rfl 1 rfl ?_
              refine gf_X1_9 hC hi0 dX1_rise_77 ?_
              refine x_iload_n hC dX1_rise_80 rfl 2 rfl ?_
              refine x_dup2 hC dX1_rise_81 rfl rfl ?_
              obtain ⟨h17, q13⟩ := it_s q13
              refine x_iald hC (kr_0_0 hi0) h17 dX1_rise_82 ?_
              refine x_iconst hC (1 : Int32) dX1_rise_83 (by decide) ?_
              refine x_iadd hC dX1_rise_84 ?_
              obtain ⟨h18, q13⟩ := it_s q13
              obtain ⟨M19, e20, q13⟩ := lz_s q13
              refine x_iast hC (kr_0_0 hi0) h18 e20 dX1_rise_85 ?_
              cases q13
              exact x_sub [1, 2] rfl kj
            · have q13 := (ie_s q13).2 h16
              refine x_aload_n hC dX1_rise_67 rfl 1 rfl ?_
              refine x_iload_n hC dX1_rise_68 rfl 2 rfl ?_
              obtain ⟨x21, q22, q13⟩ := bd1_s q13
              refine x_callV (ci := 0) (q := (RX1, TX1, 17)) (As := [.int v1]) hC (c_X1_neighboursWithPeat l G M hi0 v1 q22) kc_yX1_neighboursWithPeat km_X1_135 ki_yX1_neighboursWithPeat kv_yX1_neighboursWithPeat kn_RX1 ky_yX1_neighboursWithPeat rfl ⟨rfl, rfl⟩ ⟨(Nat.le_of_ble_eq_true rfl), (Nat.le_of_ble_eq_true rfl)⟩ hi0 (by decide) rfl rfl (Nat.le_of_ble_eq_true rfl) ⟨(Nat.le_of_ble_eq_true rfl), (Nat.le_of_ble_eq_true rfl)⟩ dX1_rise_69 (fun b23 => ?_)
              refine x_iconst hC (2 : Int32) dX1_rise_72 (by decide) ?_
              refine x_icmp_lt hC 86 dX1_rise_73 (by decide) (fun h24 => ?_) (fun h24 => ?_)
              · have q13 := (ie_s q13).1 h24
                cases q13
                exact x_sub [1, 2] rfl kj
              · have q13 := (ie_s q13).2 h24
                refine x_aload_n hC dX1_rise_76 rfl 1 rfl ?_
                refine gf_X1_9 hC hi0 dX1_rise_77 ?_
                refine x_iload_n hC dX1_rise_80 rfl 2 rfl ?_
                refine x_dup2 hC dX1_rise_81 rfl rfl ?_
                obtain ⟨h25, q13⟩ := it_s q13
                refine x_iald hC (kr_0_0 hi0) h25 dX1_rise_82 ?_
                refine x_iconst hC (1 : Int32) dX1_rise_83 (by decide) ?_
                refine x_iadd hC dX1_rise_84 ?_
                obtain ⟨h26, q13⟩ := it_s q13
                obtain ⟨M27, e28, q13⟩ := lz_s q13
                refine x_iast hC (kr_0_0 hi0) h26 e28 dX1_rise_85 ?_
                cases q13
                exact x_sub [1, 2] rfl kj
      · intro kj
        refine x_if_eq hC 52 dX1_rise_24 (by decide) (fun h6 => ?_) (fun h6 => ?_)
        · have q5 := (ie_s q5).1 h6
          refine x_iconst hC (0 : Int32) dX1_rise_52 (by decide) ?_
          cases q5
          exact x_sub [0, 1] rfl (kj (Or.inl rfl))
        · have q5 := (ie_s q5).2 h6
          refine x_aload_n hC dX1_rise_27 rfl 0 rfl ?_
          refine gf_X1_18 hC hi0 dX1_rise_28 ?_
          refine x_iload_n hC dX1_rise_31 rfl 1 rfl ?_
          obtain ⟨h7, q5⟩ := it_s q5
          refine x_iald hC (kr_0_2 hi0) h7 dX1_rise_32 ?_
          refine x_iconst hC (4 : Int32) dX1_rise_33 (by decide) ?_
          refine x_icmp_lt hC 52 dX1_rise_34 (by decide) (fun h8 => ?_) (fun h8 => ?_)
          · have q5 := (ie_s q5).1 h8
            refine x_iconst hC (0 : Int32) dX1_rise_52 (by decide) ?_
            cases q5
            exact x_sub [0, 1] rfl (kj (Or.inl rfl))
          · have q5 := (ie_s q5).2 h8
            refine x_aload_n hC dX1_rise_37 rfl 0 rfl ?_
            refine gf_X1_15 hC hi0 dX1_rise_38 ?_
            refine x_iload_n hC dX1_rise_41 rfl 1 rfl ?_
            obtain ⟨h9, q5⟩ := it_s q5
            refine x_iald hC (kr_0_1 hi0) h9 dX1_rise_42 ?_
            refine x_bipush hC (60 : Int32) dX1_rise_43 (by decide) ?_
            refine x_icmp_ge hC 52 dX1_rise_45 (by decide) (fun h10 => ?_) (fun h10 => ?_)
            · have q5 := (ie_s q5).1 h10
              refine x_iconst hC (0 : Int32) dX1_rise_52 (by decide) ?_
              cases q5
              exact x_sub [0, 1] rfl (kj (Or.inl rfl))
            · have q5 := (ie_s q5).2 h10
              refine x_iconst hC (1 : Int32) dX1_rise_48 (by decide) ?_
              refine x_goto hC 53 dX1_rise_49 (by decide) ?_
              cases q5
              exact x_sub [0, 1] rfl (kj (Or.inr rfl))
set_option maxHeartbeats 4000000 in
set_option maxRecDepth 100000 in
theorem c_X1_rise (l : Launch) (G : GG) (M : Mm) {i0 : Nat} (hi0 : (kd i0).1 = 0) {M9 : Mm} (hr : f_X1_rise i0 M = some M9) : Mo false l yX1_rise (WS yX1_rise cX1_rise 3 none) (RM 1 0 0 60) 0 0 [.ref (G.2.1 i0)] G M none M9 := by
  refine Mo.of (by decide +kernel) (Nat.le_of_ble_eq_true rfl) ?_
  intro p e s m args below meth c hC
  have hC : CX p s m args meth c cX1_rise 3 RX1 none G := hC
  rw [f_X1_rise] at hr
  show XJ p l e (RM 1 0 0 60) s m args below meth c G 3 _ 0 0 M 0 [(0, .ref (G.2.1 i0))] []
  refine x_aload_n hC dX1_rise_0 rfl 0 rfl ?_
  refine gf_X1_9 hC hi0 dX1_rise_1 ?_
  refine x_iconst hC (0 : Int32) dX1_rise_4 (by decide) ?_
  refine x_aload_n hC dX1_rise_5 rfl 0 rfl ?_
  refine gf_X1_15 hC hi0 dX1_rise_6 ?_
  refine x_iconst hC (0 : Int32) dX1_rise_9 (by decide) ?_
  refine x_bipush hC (64 : Int32) dX1_rise_10 (by decide) ?_
  obtain ⟨h1, hr⟩ := it_s hr
  obtain ⟨M2, e3, hr⟩ := lz_s hr
  refine x_copy hC km_X1_69 ka_copy kt_copy kn_System (kr_0_0 hi0) (kr_0_1 hi0) h1 e3 (Nat.le_of_ble_eq_true rfl) (Nat.le_of_ble_eq_true rfl) dX1_rise_12 ?_
  refine x_iconst hC (0 : Int32) dX1_rise_15 (by decide) ?_
  refine x_istore_n hC [(1, .int (0 : Int32)), (0, .ref (G.2.1 i0))] dX1_rise_16 rfl (Nat.le_of_ble_eq_true rfl) rfl ?_
  obtain ⟨M33, q32, hr⟩ := bd1_s hr
  refine x_sub [1, 0] rfl (l_X1_rise_L17 hC hi0 FU  (0 : Int32) M2 q32 ?_)
  cases hr
  exact x_vret hC rfl dX1_rise_92

theorem dX1_endHour_0 : decode cX1_endHour 0 = .ok (.aload_n 0, 1) := by decide +kernel
theorem dX1_endHour_1 : decode cX1_endHour 1 = .ok (.dup, 1) := by decide +kernel
theorem dX1_endHour_2 : decode cX1_endHour 2 = .ok (.getfield 40, 3) := by decide +kernel
theorem dX1_endHour_5 : decode cX1_endHour 5 = .ok (.iconst 1, 1) := by decide +kernel
theorem dX1_endHour_6 : decode cX1_endHour 6 = .ok (.iadd, 1) := by decide +kernel
theorem dX1_endHour_7 : decode cX1_endHour 7 = .ok (.putfield 40, 3) := by decide +kernel
theorem dX1_endHour_10 : decode cX1_endHour 10 = .ok (.aload_n 0, 1) := by decide +kernel
theorem dX1_endHour_11 : decode cX1_endHour 11 = .ok (.getfield 40, 3) := by decide +kernel
theorem dX1_endHour_14 : decode cX1_endHour 14 = .ok (.bipush 10, 2) := by decide +kernel
theorem dX1_endHour_16 : decode cX1_endHour 16 = .ok (.if_icmp .ne 41, 3) := by decide +kernel
theorem dX1_endHour_19 : decode cX1_endHour 19 = .ok (.aload_n 0, 1) := by decide +kernel
theorem dX1_endHour_20 : decode cX1_endHour 20 = .ok (.invokevirtual 112, 3) := by decide +kernel
theorem dX1_endHour_23 : decode cX1_endHour 23 = .ok (.aload_n 0, 1) := by decide +kernel
theorem dX1_endHour_24 : decode cX1_endHour 24 = .ok (.invokevirtual 115, 3) := by decide +kernel
theorem dX1_endHour_27 : decode cX1_endHour 27 = .ok (.aload_n 0, 1) := by decide +kernel
theorem dX1_endHour_28 : decode cX1_endHour 28 = .ok (.getfield 36, 3) := by decide +kernel
theorem dX1_endHour_31 : decode cX1_endHour 31 = .ok (.iconst 1, 1) := by decide +kernel
theorem dX1_endHour_32 : decode cX1_endHour 32 = .ok (.iadd, 1) := by decide +kernel
theorem dX1_endHour_33 : decode cX1_endHour 33 = .ok (.iconst 4, 1) := by decide +kernel
theorem dX1_endHour_34 : decode cX1_endHour 34 = .ok (.irem, 1) := by decide +kernel
theorem dX1_endHour_35 : decode cX1_endHour 35 = .ok (.ifCond .ne 7, 3) := by decide +kernel
theorem dX1_endHour_38 : decode cX1_endHour 38 = .ok (.aload_n 0, 1) := by decide +kernel
theorem dX1_endHour_39 : decode cX1_endHour 39 = .ok (.invokevirtual 118, 3) := by decide +kernel
theorem dX1_endHour_42 : decode cX1_endHour 42 = .ok (.aload_n 0, 1) := by decide +kernel
theorem dX1_endHour_43 : decode cX1_endHour 43 = .ok (.dup, 1) := by decide +kernel
theorem dX1_endHour_44 : decode cX1_endHour 44 = .ok (.getfield 36, 3) := by decide +kernel
theorem dX1_endHour_47 : decode cX1_endHour 47 = .ok (.iconst 1, 1) := by decide +kernel
theorem dX1_endHour_48 : decode cX1_endHour 48 = .ok (.iadd, 1) := by decide +kernel
theorem dX1_endHour_49 : decode cX1_endHour 49 = .ok (.putfield 36, 3) := by decide +kernel
theorem dX1_endHour_52 : decode cX1_endHour 52 = .ok (.aload_n 0, 1) := by decide +kernel
theorem dX1_endHour_53 : decode cX1_endHour 53 = .ok (.iconst 0, 1) := by decide +kernel
theorem dX1_endHour_54 : decode cX1_endHour 54 = .ok (.putfield 40, 3) := by decide +kernel
theorem dX1_endHour_57 : decode cX1_endHour 57 = .ok (.return_, 1) := by decide +kernel

def f_X1_endHour (i0 : Nat) (M : Mm) : Option Mm :=
  lz (wr M i0 9 ((M i0 9) + (1 : Int32))) fun M1 => if ((M1 i0 9) = (10 : Int32)) then (bd1 (f_X1_dryStacks i0 M1) fun M4 => bd1 (f_X1_moveWater i0 M4) fun M7 => lz (((M7 i0 8) + (1 : Int32)) - ((M7 i0 8) + (1 : Int32)) / (4 : Int32) * (4 : Int32)) fun x10 => bd1 (if (x10 = 0) then (bd1 (f_X1_rise i0 M7) fun M14 => some (M14)) else (some (M7))) fun M17 => lz (wr M17 i0 8 ((M17 i0 8) + (1 : Int32))) fun M18 => lz (wr M18 i0 9 (0 : Int32)) fun M20 => some M20) else (some M1)

set_option maxHeartbeats 4000000 in
set_option maxRecDepth 100000 in
theorem c_X1_endHour (l : Launch) (G : GG) (M : Mm) {i0 : Nat} (hi0 : (kd i0).1 = 0) {M9 : Mm} (hr : f_X1_endHour i0 M = some M9) : Mo false l yX1_endHour (WS yX1_endHour cX1_endHour 1 none) (RM 4 0 0 107) 0 0 [.ref (G.2.1 i0)] G M none M9 := by
  refine Mo.of (by decide +kernel) (Nat.le_of_ble_eq_true rfl) ?_
  intro p e s m args below meth c hC
  have hC : CX p s m args meth c cX1_endHour 1 RX1 none G := hC
  rw [f_X1_endHour] at hr
  show XJ p l e (RM 4 0 0 107) s m args below meth c G 1 _ 0 0 M 0 [(0, .ref (G.2.1 i0))] []
  refine x_aload_n hC dX1_endHour_0 rfl 0 rfl ?_
  refine x_dup hC dX1_endHour_1 rfl ?_
  refine gf_X1_40 hC hi0 dX1_endHour_2 ?_
  refine x_iconst hC (1 : Int32) dX1_endHour_5 (by decide) ?_
  refine x_iadd hC dX1_endHour_6 ?_
  obtain ⟨M1, e2, hr⟩ := lz_s hr
  refine pf_X1_40 hC hi0 e2 dX1_endHour_7 ?_
  refine x_aload_n hC dX1_endHour_10 rfl 0 rfl ?_
  refine gf_X1_40 hC hi0 dX1_endHour_11 ?_
  refine x_bipush hC (10 : Int32) dX1_endHour_14 (by decide) ?_
  refine x_icmp_ne hC 57 dX1_endHour_16 (by decide) (fun h3 => ?_) (fun h3 => ?_)
  · have hr := (ie_s hr).2 h3
    cases hr
    exact x_vret hC rfl dX1_endHour_57
  · have hr := (ie_s hr).1 h3
    refine x_aload_n hC dX1_endHour_19 rfl 0 rfl ?_
    obtain ⟨M4, q5, hr⟩ := bd1_s hr
    refine x_callV (ci := 0) (q := (RX1, TX1, 17)) (As := []) hC (c_X1_dryStacks l G M1 hi0 q5) kc_yX1_dryStacks km_X1_112 ki_yX1_dryStacks kv_yX1_dryStacks kn_RX1 ky_yX1_dryStacks rfl ⟨rfl, rfl⟩ ⟨(Nat.le_of_ble_eq_true rfl), (Nat.le_of_ble_eq_true rfl)⟩ hi0 (by decide) rfl rfl (Nat.le_of_ble_eq_true rfl) ⟨(Nat.le_of_ble_eq_true rfl), (Nat.le_of_ble_eq_true rfl)⟩ dX1_endHour_20 (fun b6 => ?_)
    refine x_aload_n hC dX1_endHour_23 rfl 0 rfl ?_
    obtain ⟨M7, q8, hr⟩ := bd1_s hr
    refine x_callV (ci := 0) (q := (RX1, TX1, 17)) (As := []) hC (c_X1_moveWater l G M4 hi0 q8) kc_yX1_moveWater km_X1_115 ki_yX1_moveWater kv_yX1_moveWater kn_RX1 ky_yX1_moveWater rfl ⟨rfl, rfl⟩ ⟨(Nat.le_of_ble_eq_true rfl), (Nat.le_of_ble_eq_true rfl)⟩ hi0 (by decide) rfl rfl (Nat.le_of_ble_eq_true rfl) ⟨(Nat.le_of_ble_eq_true rfl), (Nat.le_of_ble_eq_true rfl)⟩ dX1_endHour_24 (fun b9 => ?_)
    refine x_aload_n hC dX1_endHour_27 rfl 0 rfl ?_
    refine gf_X1_36 hC hi0 dX1_endHour_28 ?_
    refine x_iconst hC (1 : Int32) dX1_endHour_31 (by decide) ?_
    refine x_iadd hC dX1_endHour_32 ?_
    refine x_iconst hC (4 : Int32) dX1_endHour_33 (by decide) ?_
    refine x_irem hC dX1_endHour_34 (by decide) ?_
    obtain ⟨x10, e11, hr⟩ := lz_s hr
    refine x_topi e11 ?_
    obtain ⟨M17, q12, hr⟩ := bd1_s hr
    refine x_join (M' := M17) (pc' := 42) (lv' := [(0, .ref (G.2.1 i0))]) (st' := []) ?_ ?_
    · refine x_aload_n hC dX1_endHour_42 rfl 0 rfl ?_
      refine x_dup hC dX1_endHour_43 rfl ?_
      refine gf_X1_36 hC hi0 dX1_endHour_44 ?_
      refine x_iconst hC (1 : Int32) dX1_endHour_47 (by decide) ?_
      refine x_iadd hC dX1_endHour_48 ?_
      obtain ⟨M18, e19, hr⟩ := lz_s hr
      refine pf_X1_36 hC hi0 e19 dX1_endHour_49 ?_
      refine x_aload_n hC dX1_endHour_52 rfl 0 rfl ?_
      refine x_iconst hC (0 : Int32) dX1_endHour_53 (by decide) ?_
      obtain ⟨M20, e21, hr⟩ := lz_s hr
      refine pf_X1_40 hC hi0 e21 dX1_endHour_54 ?_
      cases hr
      exact x_vret hC rfl dX1_endHour_57
    · intro kj
      refine x_if_ne hC 42 dX1_endHour_35 (by decide) (fun h13 => ?_) (fun h13 => ?_)
      · have q12 := (ie_s q12).2 h13
        cases q12
        exact x_sub [0] rfl kj
      · have q12 := (ie_s q12).1 h13
        refine x_aload_n hC dX1_endHour_38 rfl 0 rfl ?_
        obtain ⟨M14, q15, q12⟩ := bd1_s q12
        refine x_callV (ci := 0) (q := (RX1, TX1, 17)) (As := []) hC (c_X1_rise l G M7 hi0 q15) kc_yX1_rise km_X1_118 ki_yX1_rise kv_yX1_rise kn_RX1 ky_yX1_rise rfl ⟨rfl, rfl⟩ ⟨(Nat.le_of_ble_eq_true rfl), (Nat.le_of_ble_eq_true rfl)⟩ hi0 (by decide) rfl rfl (Nat.le_of_ble_eq_true rfl) ⟨(Nat.le_of_ble_eq_true rfl), (Nat.le_of_ble_eq_true rfl)⟩ dX1_endHour_39 (fun b16 => ?_)
        cases q12
        exact x_sub [0] rfl kj

theorem dX2_copy_0 : decode cX2_copy 0 = .ok (.aload_n 0, 1) := by decide +kernel
theorem dX2_copy_1 : decode cX2_copy 1 = .ok (.aload_n 1, 1) := by decide +kernel
theorem dX2_copy_2 : decode cX2_copy 2 = .ok (.getfield 15, 3) := by decide +kernel
theorem dX2_copy_5 : decode cX2_copy 5 = .ok (.putfield 15, 3) := by decide +kernel
theorem dX2_copy_8 : decode cX2_copy 8 = .ok (.aload_n 0, 1) := by decide +kernel
theorem dX2_copy_9 : decode cX2_copy 9 = .ok (.aload_n 1, 1) := by decide +kernel
theorem dX2_copy_10 : decode cX2_copy 10 = .ok (.getfield 19, 3) := by decide +kernel
theorem dX2_copy_13 : decode cX2_copy 13 = .ok (.putfield 19, 3) := by decide +kernel
theorem dX2_copy_16 : decode cX2_copy 16 = .ok (.aload_n 0, 1) := by decide +kernel
theorem dX2_copy_17 : decode cX2_copy 17 = .ok (.aload_n 1, 1) := by decide +kernel
theorem dX2_copy_18 : decode cX2_copy 18 = .ok (.getfield 22, 3) := by decide +kernel
theorem dX2_copy_21 : decode cX2_copy 21 = .ok (.putfield 22, 3) := by decide +kernel
theorem dX2_copy_24 : decode cX2_copy 24 = .ok (.aload_n 0, 1) := by decide +kernel
theorem dX2_copy_25 : decode cX2_copy 25 = .ok (.aload_n 1, 1) := by decide +kernel
theorem dX2_copy_26 : decode cX2_copy 26 = .ok (.getfield 25, 3) := by decide +kernel
theorem dX2_copy_29 : decode cX2_copy 29 = .ok (.putfield 25, 3) := by decide +kernel
theorem dX2_copy_32 : decode cX2_copy 32 = .ok (.aload_n 0, 1) := by decide +kernel
theorem dX2_copy_33 : decode cX2_copy 33 = .ok (.aload_n 1, 1) := by decide +kernel
theorem dX2_copy_34 : decode cX2_copy 34 = .ok (.getfield 28, 3) := by decide +kernel
theorem dX2_copy_37 : decode cX2_copy 37 = .ok (.putfield 28, 3) := by decide +kernel
theorem dX2_copy_40 : decode cX2_copy 40 = .ok (.aload_n 0, 1) := by decide +kernel
theorem dX2_copy_41 : decode cX2_copy 41 = .ok (.aload_n 1, 1) := by decide +kernel
theorem dX2_copy_42 : decode cX2_copy 42 = .ok (.getfield 32, 3) := by decide +kernel
theorem dX2_copy_45 : decode cX2_copy 45 = .ok (.putfield 32, 3) := by decide +kernel
theorem dX2_copy_48 : decode cX2_copy 48 = .ok (.aload_n 0, 1) := by decide +kernel
theorem dX2_copy_49 : decode cX2_copy 49 = .ok (.aload_n 1, 1) := by decide +kernel
theorem dX2_copy_50 : decode cX2_copy 50 = .ok (.getfield 35, 3) := by decide +kernel
theorem dX2_copy_53 : decode cX2_copy 53 = .ok (.putfield 35, 3) := by decide +kernel
theorem dX2_copy_56 : decode cX2_copy 56 = .ok (.aload_n 0, 1) := by decide +kernel
theorem dX2_copy_57 : decode cX2_copy 57 = .ok (.aload_n 1, 1) := by decide +kernel
theorem dX2_copy_58 : decode cX2_copy 58 = .ok (.getfield 38, 3) := by decide +kernel
theorem dX2_copy_61 : decode cX2_copy 61 = .ok (.putfield 38, 3) := by decide +kernel
theorem dX2_copy_64 : decode cX2_copy 64 = .ok (.aload_n 0, 1) := by decide +kernel
theorem dX2_copy_65 : decode cX2_copy 65 = .ok (.aload_n 1, 1) := by decide +kernel
theorem dX2_copy_66 : decode cX2_copy 66 = .ok (.getfield 41, 3) := by decide +kernel
theorem dX2_copy_69 : decode cX2_copy 69 = .ok (.putfield 41, 3) := by decide +kernel
theorem dX2_copy_72 : decode cX2_copy 72 = .ok (.aload_n 0, 1) := by decide +kernel
theorem dX2_copy_73 : decode cX2_copy 73 = .ok (.aload_n 1, 1) := by decide +kernel
theorem dX2_copy_74 : decode cX2_copy 74 = .ok (.getfield 44, 3) := by decide +kernel
theorem dX2_copy_77 : decode cX2_copy 77 = .ok (.putfield 44, 3) := by decide +kernel
theorem dX2_copy_80 : decode cX2_copy 80 = .ok (.aload_n 1, 1) := by decide +kernel
theorem dX2_copy_81 : decode cX2_copy 81 = .ok (.getfield 9, 3) := by decide +kernel
theorem dX2_copy_84 : decode cX2_copy 84 = .ok (.iconst 0, 1) := by decide +kernel
theorem dX2_copy_85 : decode cX2_copy 85 = .ok (.aload_n 0, 1) := by decide +kernel
theorem dX2_copy_86 : decode cX2_copy 86 = .ok (.getfield 9, 3) := by decide +kernel
theorem dX2_copy_89 : decode cX2_copy 89 = .ok (.iconst 0, 1) := by decide +kernel
theorem dX2_copy_90 : decode cX2_copy 90 = .ok (.aload_n 0, 1) := by decide +kernel
theorem dX2_copy_91 : decode cX2_copy 91 = .ok (.getfield 9, 3) := by decide +kernel
theorem dX2_copy_94 : decode cX2_copy 94 = .ok (.arraylength, 1) := by decide +kernel
theorem dX2_copy_95 : decode cX2_copy 95 = .ok (.invokestatic 47, 3) := by decide +kernel
theorem dX2_copy_98 : decode cX2_copy 98 = .ok (.return_, 1) := by decide +kernel

def f_X2_copy (i0 : Nat) (i1 : Nat) (M : Mm) : Option Mm :=
  lz (wr M i0 0 (M i1 0)) fun M1 => lz (wr M1 i0 1 (M1 i1 1)) fun M3 => lz (wr M3 i0 2 (M3 i1 2)) fun M5 => lz (wr M5 i0 3 (M5 i1 3)) fun M7 => if (M7 i1 4) = 0 ∨ (M7 i1 4) = 1 then (lz (wr M7 i0 4 (M7 i1 4)) fun M9 => lz (wr M9 i0 5 (M9 i1 5)) fun M12 => lz (wr M12 i0 6 (M12 i1 6)) fun M14 => lz (wr M14 i0 7 (M14 i1 7)) fun M16 => lz (wr M16 i0 8 (M16 i1 8)) fun M18 => lz (wr M18 i0 9 (M18 i1 9)) fun M20 => if 0 ≤ (9 : Int32).toInt ∧ (9 : Int32).toInt ≤ ((9 : Nat) : Int) ∧ (9 : Int32).toInt ≤ ((9 : Nat) : Int) then (lz (wrow M20 (i0 + 1) (va_cpy (M20 (i1 + 1)) (M20 (i0 + 1)) 0 0 (ix (9 : Int32)))) fun M23 => some M23) else none) else none

set_option maxHeartbeats 4000000 in
set_option maxRecDepth 100000 in
theorem c_X2_copy (l : Launch) (G : GG) (M : Mm) {i0 : Nat} (hi0 : (kd i0).1 = 1) {i1 : Nat} (hi1 : (kd i1).1 = 1) {M9 : Mm} (hr : f_X2_copy i0 i1 M = some M9) : Mo false l yX2_copy (WS yX2_copy cX2_copy 2 none) (RM 1 0 0 60) 0 0 [.ref (G.2.1 i0), .ref (G.2.1 i1)] G M none M9 := by
  refine Mo.of (by decide +kernel) (Nat.le_of_ble_eq_true rfl) ?_
  intro p e s m args below meth c hC
  have hC : CX p s m args meth c cX2_copy 2 RX2 none G := hC
  rw [f_X2_copy] at hr
  show XJ p l e (RM 1 0 0 60) s m args below meth c G 2 _ 0 0 M 0 [(0, .ref (G.2.1 i0)), (1, .ref (G.2.1 i1))] []
  refine x_aload_n hC dX2_copy_0 rfl 0 rfl ?_
  refine x_aload_n hC dX2_copy_1 rfl 1 rfl ?_
  refine gf_X2_15 hC hi1 dX2_copy_2 ?_
  obtain ⟨M1, e2, hr⟩ := lz_s hr
  refine pf_X2_15 hC hi0 e2 dX2_copy_5 ?_
  refine x_aload_n hC dX2_copy_8 rfl 0 rfl ?_
  refine x_aload_n hC dX2_copy_9 rfl 1 rfl ?_
  refine gf_X2_19 hC hi1 dX2_copy_10 ?_
  obtain ⟨M3, e4, hr⟩ := lz_s hr
  refine pf_X2_19 hC hi0 e4 dX2_copy_13 ?_
  refine x_aload_n hC dX2_copy_16 rfl 0 rfl ?_
  refine x_aload_n hC dX2_copy_17 rfl 1 rfl ?_
  refine gf_X2_22 hC hi1 dX2_copy_18 ?_
  obtain ⟨M5, e6, hr⟩ := lz_s hr
  refine pf_X2_22 hC hi0 e6 dX2_copy_21 ?_
  refine x_aload_n hC dX2_copy_24 rfl 0 rfl ?_
  refine x_aload_n hC dX2_copy_25 rfl 1 rfl ?_
  refine gf_X2_25 hC hi1 dX2_copy_26 ?_
  obtain ⟨M7, e8, hr⟩ := lz_s hr
  refine pf_X2_25 hC hi0 e8 dX2_copy_29 ?_
  refine x_aload_n hC dX2_copy_32 rfl 0 rfl ?_
  refine x_aload_n hC dX2_copy_33 rfl 1 rfl ?_
  refine gf_X2_28 hC hi1 dX2_copy_34 ?_
  obtain ⟨h11, hr⟩ := it_s hr
  obtain ⟨M9, e10, hr⟩ := lz_s hr
  refine pf_X2_28 hC hi0 h11 e10 dX2_copy_37 ?_
  refine x_aload_n hC dX2_copy_40 rfl 0 rfl ?_
  refine x_aload_n hC dX2_copy_41 rfl 1 rfl ?_
  refine gf_X2_32 hC hi1 dX2_copy_42 ?_
  obtain ⟨M12, e13, hr⟩ := lz_s hr
  refine pf_X2_32 hC hi0 e13 dX2_copy_45 ?_
  refine x_aload_n hC dX2_copy_48 rfl 0 rfl ?_
  refine x_aload_n hC dX2_copy_49 rfl 1 rfl ?_
  refine gf_X2_35 hC hi1 dX2_copy_50 ?_
  obtain ⟨M14, e15, hr⟩ := lz_s hr
  refine pf_X2_35 hC hi0 e15 dX2_copy_53 ?_
  refine x_aload_n hC dX2_copy_56 rfl 0 rfl ?_
  refine x_aload_n hC dX2_copy_57 rfl 1 rfl ?_
  refine gf_X2_38 hC hi1 dX2_copy_58 ?_
  obtain ⟨M16, e17, hr⟩ := lz_s hr
  refine pf_X2_38 hC hi0 e17 dX2_copy_61 ?_
  refine x_aload_n hC dX2_copy_64 rfl 0 rfl ?_
  refine x_aload_n hC dX2_copy_65 rfl 1 rfl ?_
  refine gf_X2_41 hC hi1 dX2_copy_66 ?_
  obtain ⟨M18, e19, hr⟩ := lz_s hr
  refine pf_X2_41 hC hi0 e19 dX2_copy_69 ?_
  refine x_aload_n hC dX2_copy_72 rfl 0 rfl ?_
  refine x_aload_n hC dX2_copy_73 rfl 1 rfl ?_
  refine gf_X2_44 hC hi1 dX2_copy_74 ?_
  obtain ⟨M20, e21, hr⟩ := lz_s hr
  refine pf_X2_44 hC hi0 e21 dX2_copy_77 ?_
  refine x_aload_n hC dX2_copy_80 rfl 1 rfl ?_
  refine gf_X2_9 hC hi1 dX2_copy_81 ?_
  refine x_iconst hC (0 : Int32) dX2_copy_84 (by decide) ?_
  refine x_aload_n hC dX2_copy_85 rfl 0 rfl ?_
  refine gf_X2_9 hC hi0 dX2_copy_86 ?_
  refine x_iconst hC (0 : Int32) dX2_copy_89 (by decide) ?_
  refine x_aload_n hC dX2_copy_90 rfl 0 rfl ?_
  refine gf_X2_9 hC hi0 dX2_copy_91 ?_
  refine x_alen hC (9 : Int32) (kr_1_10 hi0) (by decide) dX2_copy_94 ?_
  obtain ⟨h22, hr⟩ := it_s hr
  obtain ⟨M23, e24, hr⟩ := lz_s hr
  refine x_copy hC km_X2_47 ka_copy kt_copy kn_System (kr_1_10 hi1) (kr_1_10 hi0) h22 e24 (Nat.le_of_ble_eq_true rfl) (Nat.le_of_ble_eq_true rfl) dX2_copy_95 ?_
  cases hr
  exact x_vret hC rfl dX2_copy_98

theorem dX1_copy_0 : decode cX1_copy 0 = .ok (.aload_n 1, 1) := by decide +kernel
theorem dX1_copy_1 : decode cX1_copy 1 = .ok (.getfield 9, 3) := by decide +kernel
theorem dX1_copy_4 : decode cX1_copy 4 = .ok (.iconst 0, 1) := by decide +kernel
theorem dX1_copy_5 : decode cX1_copy 5 = .ok (.aload_n 0, 1) := by decide +kernel
theorem dX1_copy_6 : decode cX1_copy 6 = .ok (.getfield 9, 3) := by decide +kernel
theorem dX1_copy_9 : decode cX1_copy 9 = .ok (.iconst 0, 1) := by decide +kernel
theorem dX1_copy_10 : decode cX1_copy 10 = .ok (.bipush 64, 2) := by decide +kernel
theorem dX1_copy_12 : decode cX1_copy 12 = .ok (.invokestatic 69, 3) := by decide +kernel
theorem dX1_copy_15 : decode cX1_copy 15 = .ok (.aload_n 1, 1) := by decide +kernel
theorem dX1_copy_16 : decode cX1_copy 16 = .ok (.getfield 18, 3) := by decide +kernel
theorem dX1_copy_19 : decode cX1_copy 19 = .ok (.iconst 0, 1) := by decide +kernel
theorem dX1_copy_20 : decode cX1_copy 20 = .ok (.aload_n 0, 1) := by decide +kernel
theorem dX1_copy_21 : decode cX1_copy 21 = .ok (.getfield 18, 3) := by decide +kernel
theorem dX1_copy_24 : decode cX1_copy 24 = .ok (.iconst 0, 1) := by decide +kernel
theorem dX1_copy_25 : decode cX1_copy 25 = .ok (.bipush 64, 2) := by decide +kernel
theorem dX1_copy_27 : decode cX1_copy 27 = .ok (.invokestatic 69, 3) := by decide +kernel
theorem dX1_copy_30 : decode cX1_copy 30 = .ok (.aload_n 1, 1) := by decide +kernel
theorem dX1_copy_31 : decode cX1_copy 31 = .ok (.getfield 21, 3) := by decide +kernel
theorem dX1_copy_34 : decode cX1_copy 34 = .ok (.iconst 0, 1) := by decide +kernel
theorem dX1_copy_35 : decode cX1_copy 35 = .ok (.aload_n 0, 1) := by decide +kernel
theorem dX1_copy_36 : decode cX1_copy 36 = .ok (.getfield 21, 3) := by decide +kernel
theorem dX1_copy_39 : decode cX1_copy 39 = .ok (.iconst 0, 1) := by decide +kernel
theorem dX1_copy_40 : decode cX1_copy 40 = .ok (.bipush 64, 2) := by decide +kernel
theorem dX1_copy_42 : decode cX1_copy 42 = .ok (.invokestatic 69, 3) := by decide +kernel
theorem dX1_copy_45 : decode cX1_copy 45 = .ok (.aload_n 1, 1) := by decide +kernel
theorem dX1_copy_46 : decode cX1_copy 46 = .ok (.getfield 24, 3) := by decide +kernel
theorem dX1_copy_49 : decode cX1_copy 49 = .ok (.iconst 0, 1) := by decide +kernel
theorem dX1_copy_50 : decode cX1_copy 50 = .ok (.aload_n 0, 1) := by decide +kernel
theorem dX1_copy_51 : decode cX1_copy 51 = .ok (.getfield 24, 3) := by decide +kernel
theorem dX1_copy_54 : decode cX1_copy 54 = .ok (.iconst 0, 1) := by decide +kernel
theorem dX1_copy_55 : decode cX1_copy 55 = .ok (.bipush 64, 2) := by decide +kernel
theorem dX1_copy_57 : decode cX1_copy 57 = .ok (.invokestatic 69, 3) := by decide +kernel
theorem dX1_copy_60 : decode cX1_copy 60 = .ok (.aload_n 1, 1) := by decide +kernel
theorem dX1_copy_61 : decode cX1_copy 61 = .ok (.getfield 27, 3) := by decide +kernel
theorem dX1_copy_64 : decode cX1_copy 64 = .ok (.iconst 0, 1) := by decide +kernel
theorem dX1_copy_65 : decode cX1_copy 65 = .ok (.aload_n 0, 1) := by decide +kernel
theorem dX1_copy_66 : decode cX1_copy 66 = .ok (.getfield 27, 3) := by decide +kernel
theorem dX1_copy_69 : decode cX1_copy 69 = .ok (.iconst 0, 1) := by decide +kernel
theorem dX1_copy_70 : decode cX1_copy 70 = .ok (.bipush 64, 2) := by decide +kernel
theorem dX1_copy_72 : decode cX1_copy 72 = .ok (.invokestatic 69, 3) := by decide +kernel
theorem dX1_copy_75 : decode cX1_copy 75 = .ok (.aload_n 1, 1) := by decide +kernel
theorem dX1_copy_76 : decode cX1_copy 76 = .ok (.getfield 30, 3) := by decide +kernel
theorem dX1_copy_79 : decode cX1_copy 79 = .ok (.iconst 0, 1) := by decide +kernel
theorem dX1_copy_80 : decode cX1_copy 80 = .ok (.aload_n 0, 1) := by decide +kernel
theorem dX1_copy_81 : decode cX1_copy 81 = .ok (.getfield 30, 3) := by decide +kernel
theorem dX1_copy_84 : decode cX1_copy 84 = .ok (.iconst 0, 1) := by decide +kernel
theorem dX1_copy_85 : decode cX1_copy 85 = .ok (.bipush 12, 2) := by decide +kernel
theorem dX1_copy_87 : decode cX1_copy 87 = .ok (.invokestatic 69, 3) := by decide +kernel
theorem dX1_copy_90 : decode cX1_copy 90 = .ok (.aload_n 1, 1) := by decide +kernel
theorem dX1_copy_91 : decode cX1_copy 91 = .ok (.getfield 33, 3) := by decide +kernel
theorem dX1_copy_94 : decode cX1_copy 94 = .ok (.iconst 0, 1) := by decide +kernel
theorem dX1_copy_95 : decode cX1_copy 95 = .ok (.aload_n 0, 1) := by decide +kernel
theorem dX1_copy_96 : decode cX1_copy 96 = .ok (.getfield 33, 3) := by decide +kernel
theorem dX1_copy_99 : decode cX1_copy 99 = .ok (.iconst 0, 1) := by decide +kernel
theorem dX1_copy_100 : decode cX1_copy 100 = .ok (.bipush 12, 2) := by decide +kernel
theorem dX1_copy_102 : decode cX1_copy 102 = .ok (.invokestatic 69, 3) := by decide +kernel
theorem dX1_copy_105 : decode cX1_copy 105 = .ok (.aload_n 0, 1) := by decide +kernel
theorem dX1_copy_106 : decode cX1_copy 106 = .ok (.aload_n 1, 1) := by decide +kernel
theorem dX1_copy_107 : decode cX1_copy 107 = .ok (.getfield 36, 3) := by decide +kernel
theorem dX1_copy_110 : decode cX1_copy 110 = .ok (.putfield 36, 3) := by decide +kernel
theorem dX1_copy_113 : decode cX1_copy 113 = .ok (.aload_n 0, 1) := by decide +kernel
theorem dX1_copy_114 : decode cX1_copy 114 = .ok (.aload_n 1, 1) := by decide +kernel
theorem dX1_copy_115 : decode cX1_copy 115 = .ok (.getfield 40, 3) := by decide +kernel
theorem dX1_copy_118 : decode cX1_copy 118 = .ok (.putfield 40, 3) := by decide +kernel
theorem dX1_copy_121 : decode cX1_copy 121 = .ok (.aload_n 0, 1) := by decide +kernel
theorem dX1_copy_122 : decode cX1_copy 122 = .ok (.aload_n 1, 1) := by decide +kernel
theorem dX1_copy_123 : decode cX1_copy 123 = .ok (.getfield 43, 3) := by decide +kernel
theorem dX1_copy_126 : decode cX1_copy 126 = .ok (.putfield 43, 3) := by decide +kernel
theorem dX1_copy_129 : decode cX1_copy 129 = .ok (.aload_n 0, 1) := by decide +kernel
theorem dX1_copy_130 : decode cX1_copy 130 = .ok (.aload_n 1, 1) := by decide +kernel
theorem dX1_copy_131 : decode cX1_copy 131 = .ok (.getfield 46, 3) := by decide +kernel
theorem dX1_copy_134 : decode cX1_copy 134 = .ok (.putfield 46, 3) := by decide +kernel
theorem dX1_copy_137 : decode cX1_copy 137 = .ok (.aload_n 0, 1) := by decide +kernel
theorem dX1_copy_138 : decode cX1_copy 138 = .ok (.aload_n 1, 1) := by decide +kernel
theorem dX1_copy_139 : decode cX1_copy 139 = .ok (.getfield 49, 3) := by decide +kernel
theorem dX1_copy_142 : decode cX1_copy 142 = .ok (.putfield 49, 3) := by decide +kernel
theorem dX1_copy_145 : decode cX1_copy 145 = .ok (.aload_n 0, 1) := by decide +kernel
theorem dX1_copy_146 : decode cX1_copy 146 = .ok (.aload_n 1, 1) := by decide +kernel
theorem dX1_copy_147 : decode cX1_copy 147 = .ok (.getfield 52, 3) := by decide +kernel
theorem dX1_copy_150 : decode cX1_copy 150 = .ok (.putfield 52, 3) := by decide +kernel
theorem dX1_copy_153 : decode cX1_copy 153 = .ok (.aload_n 0, 1) := by decide +kernel
theorem dX1_copy_154 : decode cX1_copy 154 = .ok (.aload_n 1, 1) := by decide +kernel
theorem dX1_copy_155 : decode cX1_copy 155 = .ok (.getfield 61, 3) := by decide +kernel
theorem dX1_copy_158 : decode cX1_copy 158 = .ok (.putfield 61, 3) := by decide +kernel
theorem dX1_copy_161 : decode cX1_copy 161 = .ok (.aload_n 0, 1) := by decide +kernel
theorem dX1_copy_162 : decode cX1_copy 162 = .ok (.aload_n 1, 1) := by decide +kernel
theorem dX1_copy_163 : decode cX1_copy 163 = .ok (.getfield 64, 3) := by decide +kernel
theorem dX1_copy_166 : decode cX1_copy 166 = .ok (.putfield 64, 3) := by decide +kernel
theorem dX1_copy_169 : decode cX1_copy 169 = .ok (.iconst 0, 1) := by decide +kernel
theorem dX1_copy_170 : decode cX1_copy 170 = .ok (.istore_n 2, 1) := by decide +kernel
theorem dX1_copy_171 : decode cX1_copy 171 = .ok (.iload_n 2, 1) := by decide +kernel
theorem dX1_copy_172 : decode cX1_copy 172 = .ok (.aload_n 0, 1) := by decide +kernel
theorem dX1_copy_173 : decode cX1_copy 173 = .ok (.getfield 61, 3) := by decide +kernel
theorem dX1_copy_176 : decode cX1_copy 176 = .ok (.if_icmp .ge 24, 3) := by decide +kernel
theorem dX1_copy_179 : decode cX1_copy 179 = .ok (.aload_n 0, 1) := by decide +kernel
theorem dX1_copy_180 : decode cX1_copy 180 = .ok (.getfield 57, 3) := by decide +kernel
theorem dX1_copy_183 : decode cX1_copy 183 = .ok (.iload_n 2, 1) := by decide +kernel
theorem dX1_copy_184 : decode cX1_copy 184 = .ok (.aaload, 1) := by decide +kernel
theorem dX1_copy_185 : decode cX1_copy 185 = .ok (.aload_n 1, 1) := by decide +kernel
theorem dX1_copy_186 : decode cX1_copy 186 = .ok (.getfield 57, 3) := by decide +kernel
theorem dX1_copy_189 : decode cX1_copy 189 = .ok (.iload_n 2, 1) := by decide +kernel
theorem dX1_copy_190 : decode cX1_copy 190 = .ok (.aaload, 1) := by decide +kernel
theorem dX1_copy_191 : decode cX1_copy 191 = .ok (.invokevirtual 75, 3) := by decide +kernel
theorem dX1_copy_194 : decode cX1_copy 194 = .ok (.iinc 2 1, 3) := by decide +kernel
theorem dX1_copy_197 : decode cX1_copy 197 = .ok (.goto (-26), 3) := by decide +kernel
theorem dX1_copy_200 : decode cX1_copy 200 = .ok (.return_, 1) := by decide +kernel
def f_X1_copy_L171 (i0 : Nat) (i1 : Nat) : Nat → Int32 → Mm → Option (Mm)
  | 0, _, _ => none
  | n + 1, v2, M =>
    if ((M i0 15) ≤ v2) then (some (M)) else (if 0 ≤ v2.toInt ∧ v2.toInt < ((4 : Nat) : Int) then (if 0 ≤ v2.toInt ∧ v2.toInt < ((4 : Nat) : Int) then (bd1 (f_X2_copy ((i0 + 9) + 1 + 2 * ix v2) ((i1 + 9) + 1 + 2 * ix v2) M) fun M42 => lz (v2 + (1 : Int32)) fun x45 => f_X1_copy_L171 i0 i1 n x45 M42) else none) else none)
def f_X1_copy (i0 : Nat) (i1 : Nat) (M : Mm) : Option Mm :=
  if 0 ≤ (64 : Int32).toInt ∧ (64 : Int32).toInt ≤ ((64 : Nat) : Int) ∧ (64 : Int32).toInt ≤ ((64 : Nat) : Int) then (lz (wrow M (i0 + 1) (va_cpy (M (i1 + 1)) (M (i0 + 1)) 0 0 (ix (64 : Int32)))) fun M2 => if 0 ≤ (64 : Int32).toInt ∧ (64 : Int32).toInt ≤ ((64 : Nat) : Int) ∧ (64 : Int32).toInt ≤ ((64 : Nat) : Int) then (lz (wrow M2 (i0 + 3) (va_cpy (M2 (i1 + 3)) (M2 (i0 + 3)) 0 0 (ix (64 : Int32)))) fun M5 => if 0 ≤ (64 : Int32).toInt ∧ (64 : Int32).toInt ≤ ((64 : Nat) : Int) ∧ (64 : Int32).toInt ≤ ((64 : Nat) : Int) then (lz (wrow M5 (i0 + 4) (va_cpy (M5 (i1 + 4)) (M5 (i0 + 4)) 0 0 (ix (64 : Int32)))) fun M8 => if 0 ≤ (64 : Int32).toInt ∧ (64 : Int32).toInt ≤ ((64 : Nat) : Int) ∧ (64 : Int32).toInt ≤ ((64 : Nat) : Int) then (lz (wrow M8 (i0 + 5) (va_cpy (M8 (i1 + 5)) (M8 (i0 + 5)) 0 0 (ix (64 : Int32)))) fun M11 => if 0 ≤ (64 : Int32).toInt ∧ (64 : Int32).toInt ≤ ((64 : Nat) : Int) ∧ (64 : Int32).toInt ≤ ((64 : Nat) : Int) then (lz (wrow M11 (i0 + 6) (va_cpy (M11 (i1 + 6)) (M11 (i0 + 6)) 0 0 (ix (64 : Int32)))) fun M14 => if 0 ≤ (12 : Int32).toInt ∧ (12 : Int32).toInt ≤ ((12 : Nat) : Int) ∧ (12 : Int32).toInt ≤ ((12 : Nat) : Int) then (lz (wrow M14 (i0 + 7) (va_cpy (M14 (i1 + 7)) (M14 (i0 + 7)) 0 0 (ix (12 : Int32)))) fun M17 => if 0 ≤ (12 : Int32).toInt ∧ (12 : Int32).toInt ≤ ((12 : Nat) : Int) ∧ (12 : Int32).toInt ≤ ((12 : Nat) : Int) then (lz (wrow M17 (i0 + 8) (va_cpy (M17 (i1 + 8)) (M17 (i0 + 8)) 0 0 (ix (12 : Int32)))) fun M20 => lz (wr M20 i0 8 (M20 i1 8)) fun M22 => lz (wr M22 i0 9 (M22 i1 9)) fun M24 => lz (wr M24 i0 10 (M24 i1 10)) fun M26 => lz (wr M26 i0 11 (M26 i1 11)) fun M28 => lz (wr M28 i0 12 (M28 i1 12)) fun M30 => lz (wr M30 i0 13 (M30 i1 13)) fun M32 => lz (wr M32 i0 15 (M32 i1 15)) fun M34 => if okr 2 (M34 i1 16) then (lz (wr M34 i0 16 (nI ((rid (M34 i1 16)) + 1))) fun M37 => bd1 (f_X1_copy_L171 i0 i1 FU (0 : Int32) M37) fun M48 => some M48) else none) else none) else none) else none) else none) else none) else none) else none
set_option maxHeartbeats 4000000 in
set_option maxRecDepth 100000 in
theorem l_X1_copy_L171 {p : Program} {e : Env} {s : State} {m : MethodId} {args : Array Value} {below : List Frame} {meth : Method} {c : Code} {l : Launch} {G : GG} {Q : State → Prop} (hC : CX p s m args meth c cX1_copy 3 RX1 none G) {i0 : Nat} {i1 : Nat} (hi0 : (kd i0).1 = 0) (hi1 : (kd i1).1 = 0) : ∀ (n : Nat) (v2 : Int32) (M : Mm) {M2 : Mm} (hr : f_X1_copy_L171 i0 i1 n v2 M = some (M2)) (K : XJ p l e (RM 2 0 0 81) s m args below meth c G 3 Q 0 0 M2 200 [] []), XJ p l e (RM 2 0 0 81) s m args below meth c G 3 Q 0 0 M 171 [(0, .ref (G.2.1 i0)), (1, .ref (G.2.1 i1)), (2, .int v2)] [] := by
  intro n
  induction n with
  | zero => intro v2 M M2 hr K; rw [f_X1_copy_L171] at hr; cases hr
  | succ n ih =>
    intro v2 M M2 hr K
    rw [f_X1_copy_L171] at hr
    refine x_iload_n hC dX1_copy_171 rfl 2 rfl ?_
    refine x_aload_n hC dX1_copy_172 rfl 0 rfl ?_
    refine gf_X1_61 hC hi0 dX1_copy_173 ?_
    refine x_icmp_ge hC 200 dX1_copy_176 (by decide) (fun h39 => ?_) (fun h39 => ?_)
    · have hr := (ie_s hr).1 h39
      cases hr
      exact x_sub [] rfl K
    · have hr := (ie_s hr).2 h39
      refine x_aload_n hC dX1_copy_179 rfl 0 rfl ?_
      refine gf_X1_57 hC hi0 dX1_copy_180 ?_
      refine x_iload_n hC dX1_copy_183 rfl 2 rfl ?_
      obtain ⟨h40, hr⟩ := it_s hr
      refine x_gald hC (kr_0_14 hi0) h40 dX1_copy_184 ?_
      refine x_aload_n hC dX1_copy_185 rfl 1 rfl ?_
      refine gf_X1_57 hC hi1 dX1_copy_186 ?_
      refine x_iload_n hC dX1_copy_189 rfl 2 rfl ?_
      obtain ⟨h41, hr⟩ := it_s hr
      refine x_gald hC (kr_0_14 hi1) h41 dX1_copy_190 ?_
      obtain ⟨M42, q43, hr⟩ := bd1_s hr
      refine x_callV (ci := 1) (q := (RX2, TX2, 11)) (As := [.ref (G.2.1 ((i1 + 9) + 1 + 2 * ix v2))]) hC (c_X2_copy l G M (kr_gang (kr_0_14 hi0) h40) (kr_gang (kr_0_14 hi1) h41) q43) kc_yX2_copy km_X1_75 ki_yX2_copy kv_yX2_copy kn_RX2 ky_yX2_copy rfl ⟨rfl, rfl⟩ ⟨(Nat.le_of_ble_eq_true rfl), (Nat.le_of_ble_eq_true rfl)⟩ (kr_gang (kr_0_14 hi0) h40) (by decide) rfl rfl (Nat.le_of_ble_eq_true rfl) ⟨(Nat.le_of_ble_eq_true rfl), (Nat.le_of_ble_eq_true rfl)⟩ dX1_copy_191 (fun b44 => ?_)
      obtain ⟨x45, e46, hr⟩ := lz_s hr
      refine x_iinc hC [(2, .int x45), (0, .ref (G.2.1 i0)), (1, .ref (G.2.1 i1))] dX1_copy_194 2 rfl (by rw [e46]; rfl) (Nat.le_of_ble_eq_true rfl) rfl ?_
      refine x_goto hC 171 dX1_copy_197 (by decide) ?_
      exact x_sub [1, 2, 0] rfl (ih x45 M42 hr K)
set_option maxHeartbeats 4000000 in
set_option maxRecDepth 100000 in
theorem c_X1_copy (l : Launch) (G : GG) (M : Mm) {i0 : Nat} (hi0 : (kd i0).1 = 0) {i1 : Nat} (hi1 : (kd i1).1 = 0) {M9 : Mm} (hr : f_X1_copy i0 i1 M = some M9) : Mo false l yX1_copy (WS yX1_copy cX1_copy 3 none) (RM 2 0 0 81) 0 0 [.ref (G.2.1 i0), .ref (G.2.1 i1)] G M none M9 := by
  refine Mo.of (by decide +kernel) (Nat.le_of_ble_eq_true rfl) ?_
  intro p e s m args below meth c hC
  have hC : CX p s m args meth c cX1_copy 3 RX1 none G := hC
  rw [f_X1_copy] at hr
  show XJ p l e (RM 2 0 0 81) s m args below meth c G 3 _ 0 0 M 0 [(0, .ref (G.2.1 i0)), (1, .ref (G.2.1 i1))] []
  refine x_aload_n hC dX1_copy_0 rfl 1 rfl ?_
  refine gf_X1_9 hC hi1 dX1_copy_1 ?_
  refine x_iconst hC (0 : Int32) dX1_copy_4 (by decide) ?_
  refine x_aload_n hC dX1_copy_5 rfl 0 rfl ?_
  refine gf_X1_9 hC hi0 dX1_copy_6 ?_
  refine x_iconst hC (0 : Int32) dX1_copy_9 (by decide) ?_
  refine x_bipush hC (64 : Int32) dX1_copy_10 (by decide) ?_
  obtain ⟨h1, hr⟩ := it_s hr
  obtain ⟨M2, e3, hr⟩ := lz_s hr
  refine x_copy hC km_X1_69 ka_copy kt_copy kn_System (kr_0_0 hi1) (kr_0_0 hi0) h1 e3 (Nat.le_of_ble_eq_true rfl) (Nat.le_of_ble_eq_true rfl) dX1_copy_12 ?_
  refine x_aload_n hC dX1_copy_15 rfl 1 rfl ?_
  refine gf_X1_18 hC hi1 dX1_copy_16 ?_
  refine x_iconst hC (0 : Int32) dX1_copy_19 (by decide) ?_
  refine x_aload_n hC dX1_copy_20 rfl 0 rfl ?_
  refine gf_X1_18 hC hi0 dX1_copy_21 ?_
  refine x_iconst hC (0 : Int32) dX1_copy_24 (by decide) ?_
  refine x_bipush hC (64 : Int32) dX1_copy_25 (by decide) ?_
  obtain ⟨h4, hr⟩ := it_s hr
  obtain ⟨M5, e6, hr⟩ := lz_s hr
  refine x_copy hC km_X1_69 ka_copy kt_copy kn_System (kr_0_2 hi1) (kr_0_2 hi0) h4 e6 (Nat.le_of_ble_eq_true rfl) (Nat.le_of_ble_eq_true rfl) dX1_copy_27 ?_
  refine x_aload_n hC dX1_copy_30 rfl 1 rfl ?_
  refine gf_X1_21 hC hi1 dX1_copy_31 ?_
  refine x_iconst hC (0 : Int32) dX1_copy_34 (by decide) ?_
  refine x_aload_n hC dX1_copy_35 rfl 0 rfl ?_
  refine gf_X1_21 hC hi0 dX1_copy_36 ?_
  refine x_iconst hC (0 : Int32) dX1_copy_39 (by decide) ?_
  refine x_bipush hC (64 : Int32) dX1_copy_40 (by decide) ?_
  obtain ⟨h7, hr⟩ := it_s hr
  obtain ⟨M8, e9, hr⟩ := lz_s hr
  refine x_copy hC km_X1_69 ka_copy kt_copy kn_System (kr_0_3 hi1) (kr_0_3 hi0) h7 e9 (Nat.le_of_ble_eq_true rfl) (Nat.le_of_ble_eq_true rfl) dX1_copy_42 ?_
  refine x_aload_n hC dX1_copy_45 rfl 1 rfl ?_
  refine gf_X1_24 hC hi1 dX1_copy_46 ?_
  refine x_iconst hC (0 : Int32) dX1_copy_49 (by decide) ?_
  refine x_aload_n hC dX1_copy_50 rfl 0 rfl ?_
  refine gf_X1_24 hC hi0 dX1_copy_51 ?_
  refine x_iconst hC (0 : Int32) dX1_copy_54 (by decide) ?_
  refine x_bipush hC (64 : Int32) dX1_copy_55 (by decide) ?_
  obtain ⟨h10, hr⟩ := it_s hr
  obtain ⟨M11, e12, hr⟩ := lz_s hr
  refine x_copy hC km_X1_69 ka_copy kt_copy kn_System (kr_0_4 hi1) (kr_0_4 hi0) h10 e12 (Nat.le_of_ble_eq_true rfl) (Nat.le_of_ble_eq_true rfl) dX1_copy_57 ?_
  refine x_aload_n hC dX1_copy_60 rfl 1 rfl ?_
  refine gf_X1_27 hC hi1 dX1_copy_61 ?_
  refine x_iconst hC (0 : Int32) dX1_copy_64 (by decide) ?_
  refine x_aload_n hC dX1_copy_65 rfl 0 rfl ?_
  refine gf_X1_27 hC hi0 dX1_copy_66 ?_
  refine x_iconst hC (0 : Int32) dX1_copy_69 (by decide) ?_
  refine x_bipush hC (64 : Int32) dX1_copy_70 (by decide) ?_
  obtain ⟨h13, hr⟩ := it_s hr
  obtain ⟨M14, e15, hr⟩ := lz_s hr
  refine x_copy hC km_X1_69 ka_copy kt_copy kn_System (kr_0_5 hi1) (kr_0_5 hi0) h13 e15 (Nat.le_of_ble_eq_true rfl) (Nat.le_of_ble_eq_true rfl) dX1_copy_72 ?_
  refine x_aload_n hC dX1_copy_75 rfl 1 rfl ?_
  refine gf_X1_30 hC hi1 dX1_copy_76 ?_
  refine x_iconst hC (0 : Int32) dX1_copy_79 (by decide) ?_
  refine x_aload_n hC dX1_copy_80 rfl 0 rfl ?_
  refine gf_X1_30 hC hi0 dX1_copy_81 ?_
  refine x_iconst hC (0 : Int32) dX1_copy_84 (by decide) ?_
  refine x_bipush hC (12 : Int32) dX1_copy_85 (by decide) ?_
  obtain ⟨h16, hr⟩ := it_s hr
  obtain ⟨M17, e18, hr⟩ := lz_s hr
  refine x_copy hC km_X1_69 ka_copy kt_copy kn_System (kr_0_6 hi1) (kr_0_6 hi0) h16 e18 (Nat.le_of_ble_eq_true rfl) (Nat.le_of_ble_eq_true rfl) dX1_copy_87 ?_
  refine x_aload_n hC dX1_copy_90 rfl 1 rfl ?_
  refine gf_X1_33 hC hi1 dX1_copy_91 ?_
  refine x_iconst hC (0 : Int32) dX1_copy_94 (by decide) ?_
  refine x_aload_n hC dX1_copy_95 rfl 0 rfl ?_
  refine gf_X1_33 hC hi0 dX1_copy_96 ?_
  refine x_iconst hC (0 : Int32) dX1_copy_99 (by decide) ?_
  refine x_bipush hC (12 : Int32) dX1_copy_100 (by decide) ?_
  obtain ⟨h19, hr⟩ := it_s hr
  obtain ⟨M20, e21, hr⟩ := lz_s hr
  refine x_copy hC km_X1_69 ka_copy kt_copy kn_System (kr_0_7 hi1) (kr_0_7 hi0) h19 e21 (Nat.le_of_ble_eq_true rfl) (Nat.le_of_ble_eq_true rfl) dX1_copy_102 ?_
  refine x_aload_n hC dX1_copy_105 rfl 0 rfl ?_
  refine x_aload_n hC dX1_copy_106 rfl 1 rfl ?_
  refine gf_X1_36 hC hi1 dX1_copy_107 ?_
  obtain ⟨M22, e23, hr⟩ := lz_s hr
  refine pf_X1_36 hC hi0 e23 dX1_copy_110 ?_
  refine x_aload_n hC dX1_copy_113 rfl 0 rfl ?_
  refine x_aload_n hC dX1_copy_114 rfl 1 rfl ?_
  refine gf_X1_40 hC hi1 dX1_copy_115 ?_
  obtain ⟨M24, e25, hr⟩ := lz_s hr
  refine pf_X1_40 hC hi0 e25 dX1_copy_118 ?_
  refine x_aload_n hC dX1_copy_121 rfl 0 rfl ?_
  refine x_aload_n hC dX1_copy_122 rfl 1 rfl ?_
  refine gf_X1_43 hC hi1 dX1_copy_123 ?_
  obtain ⟨M26, e27, hr⟩ := lz_s hr
  refine pf_X1_43 hC hi0 e27 dX1_copy_126 ?_
  refine x_aload_n hC dX1_copy_129 rfl 0 rfl ?_
  refine x_aload_n hC dX1_copy_130 rfl 1 rfl ?_
  refine gf_X1_46 hC hi1 dX1_copy_131 ?_
  obtain ⟨M28, e29, hr⟩ := lz_s hr
  refine pf_X1_46 hC hi0 e29 dX1_copy_134 ?_
  refine x_aload_n hC dX1_copy_137 rfl 0 rfl ?_
  refine x_aload_n hC dX1_copy_138 rfl 1 rfl ?_
  refine gf_X1_49 hC hi1 dX1_copy_139 ?_
  obtain ⟨M30, e31, hr⟩ := lz_s hr
  refine pf_X1_49 hC hi0 e31 dX1_copy_142 ?_
  refine x_aload_n hC dX1_copy_145 rfl 0 rfl ?_
  refine x_aload_n hC dX1_copy_146 rfl 1 rfl ?_
  refine gf_X1_52 hC hi1 dX1_copy_147 ?_
  obtain ⟨M32, e33, hr⟩ := lz_s hr
  refine pf_X1_52 hC hi0 e33 dX1_copy_150 ?_
  refine x_aload_n hC dX1_copy_153 rfl 0 rfl ?_
  refine x_aload_n hC dX1_copy_154 rfl 1 rfl ?_
  refine gf_X1_61 hC hi1 dX1_copy_155 ?_
  obtain ⟨M34, e35, hr⟩ := lz_s hr
  refine pf_X1_61 hC hi0 e35 dX1_copy_158 ?_
  refine x_aload_n hC dX1_copy_161 rfl 0 rfl ?_
  refine x_aload_n hC dX1_copy_162 rfl 1 rfl ?_
  obtain ⟨h36, hr⟩ := it_s hr
  refine gf_X1_64 hC hi1 h36 dX1_copy_163 ?_
  obtain ⟨M37, e38, hr⟩ := lz_s hr
  refine pf_X1_64 hC hi0 (kd_lt h36.2) e38 dX1_copy_166 ?_
  refine x_iconst hC (0 : Int32) dX1_copy_169 (by decide) ?_
  refine x_istore_n hC [(2, .int (0 : Int32)), (0, .ref (G.2.1 i0)), (1, .ref (G.2.1 i1))] dX1_copy_170 rfl (Nat.le_of_ble_eq_true rfl) rfl ?_
  obtain ⟨M48, q47, hr⟩ := bd1_s hr
  refine x_sub [1, 2, 0] rfl (l_X1_copy_L171 hC hi0 hi1 FU  (0 : Int32) M37 q47 ?_)
  cases hr
  exact x_vret hC rfl dX1_copy_200
