theorem dL_feed_0 : decode cL_feed 0 = .ok (.aload 6, 2) := by decide +kernel
theorem dL_feed_2 : decode cL_feed 2 = .ok (.iconst 0, 1) := by decide +kernel
theorem dL_feed_3 : decode cL_feed 3 = .ok (.aload_n 0, 1) := by decide +kernel
theorem dL_feed_4 : decode cL_feed 4 = .ok (.iload_n 1, 1) := by decide +kernel
theorem dL_feed_5 : decode cL_feed 5 = .ok (.iload_n 2, 1) := by decide +kernel
theorem dL_feed_6 : decode cL_feed 6 = .ok (.iload_n 3, 1) := by decide +kernel
theorem dL_feed_7 : decode cL_feed 7 = .ok (.iload 4, 2) := by decide +kernel
theorem dL_feed_9 : decode cL_feed 9 = .ok (.iload 5, 2) := by decide +kernel
theorem dL_feed_11 : decode cL_feed 11 = .ok (.invokevirtual 7, 3) := by decide +kernel
theorem dL_feed_14 : decode cL_feed 14 = .ok (.i2l, 1) := by decide +kernel
theorem dL_feed_15 : decode cL_feed 15 = .ok (.lastore, 1) := by decide +kernel
theorem dL_feed_16 : decode cL_feed 16 = .ok (.goto 7, 3) := by decide +kernel
theorem dL_feed_19 : decode cL_feed 19 = .ok (.astore 7, 2) := by decide +kernel
theorem dL_feed_21 : decode cL_feed 21 = .ok (.iconst 1, 1) := by decide +kernel
theorem dL_feed_22 : decode cL_feed 22 = .ok (.ireturn, 1) := by decide +kernel
theorem dL_feed_23 : decode cL_feed 23 = .ok (.iconst 0, 1) := by decide +kernel
theorem dL_feed_24 : decode cL_feed 24 = .ok (.ireturn, 1) := by decide +kernel
def f_L_feed (i0 : Nat) (a1 : Int32) (a2 : Int32) (a3 : Int32) (a4 : Int32) (a5 : Int32) (i9 : Nat) (M : Mm) : Option (Int32 × Mm) :=
  bd3 (f_X9_feed i0 a1 a2 a3 a4 a5 M) fun r v M1 => if r = (0 : Int32) then (lz (wr M1 i9 0 v) fun M2 => some ((0 : Int32), M2)) else (if r = (1 : Int32) then some ((1 : Int32), M1) else none)
set_option maxHeartbeats 4000000 in
set_option maxRecDepth 100000 in
theorem c_L_feed (l : Launch) (hlt : l.stackTraces = false) (G : GG) (M : Mm) {i0 : Nat} (hi0 : (kd i0).1 = 6) (a1 : Int32) (a2 : Int32) (a3 : Int32) (a4 : Int32) (a5 : Int32) {i9 : Nat} (hi9 : kd i9 = (24, 1)) {r0 : Int32} {M9 : Mm} (hr : f_L_feed i0 a1 a2 a3 a4 a5 i9 M = some (r0, M9)) : Mo false l yL_feed (.codeWith yL_feed cL_feed 8 (some .int) [(0, 16, 19, 13)] :: TBL) (RM 7 1 6 165) 1 6 [.ref (G.2.1 i0), .int a1, .int a2, .int a3, .int a4, .int a5, .ref (G.2.1 i9)] G M (some (.int r0)) M9 := by
  refine Mo.ofT (by decide +kernel) (Nat.le_of_ble_eq_true rfl) ?_
  intro p e s m args below meth c hC htab
  have hC : CX p s m args meth c cL_feed 8 RL (some .int) G := hC
  rw [f_L_feed] at hr
  obtain ⟨r, v, M1, q, hr⟩ := bd3_s hr
  show XJ p l e (RM 7 1 6 165) s m args below meth c G 8 _ 0 0 M 0 [(0, .ref (G.2.1 i0)), (1, .int a1), (2, .int a2), (3, .int a3), (4, .int a4), (5, .int a5), (6, .ref (G.2.1 i9))] []
  refine x_aload hC dL_feed_0 6 rfl ?_
  refine x_iconst hC (0 : Int32) dL_feed_2 (by decide) ?_
  refine x_aload_n hC dL_feed_3 rfl 0 rfl ?_
  refine x_iload_n hC dL_feed_4 rfl 1 rfl ?_
  refine x_iload_n hC dL_feed_5 rfl 2 rfl ?_
  refine x_iload_n hC dL_feed_6 rfl 3 rfl ?_
  refine x_iload hC dL_feed_7 4 rfl ?_
  refine x_iload hC dL_feed_9 5 rfl ?_
  refine x_callX (ci := 6) (q := (RX9, TX9, 11)) (As := [.int a1, .int a2, .int a3, .int a4, .int a5]) hC (c_X9_feed l hlt G M hi0 a1 a2 a3 a4 a5 q) kc_yX9_feed km_L_7 ki_yX9_feed kv_yX9_feed kn_RX9 ky_yX9_feed rfl ⟨rfl, rfl⟩ ⟨(Nat.le_of_ble_eq_true rfl), (Nat.le_of_ble_eq_true rfl)⟩ hi0 (by decide) rfl rfl (Nat.le_of_ble_eq_true rfl) ⟨(Nat.le_of_ble_eq_true rfl), (Nat.le_of_ble_eq_true rfl)⟩ dL_feed_11 (fun q9 ce H locs ls hne hP hS hl hcell hv hcl => ?_) (fun h0 => ?_)
  · rw [if_neg hne] at hr
    by_cases e0 : r = (1 : Int32)
    · subst e0
      rw [if_pos rfl] at hr
      refine x_catch (E := excN (1 : Int32)) (name := excN (1 : Int32)) hC htab [] ⟨0, 16, 19, 13⟩ [] rfl (fun z hz => by cases hz) rfl (by decide) exL1 exK1 rfl hP hS hl hcell hv hcl ?_
      refine x_astore hC [(7, .ref q9), (0, .ref (G.2.1 i0)), (1, .int a1), (2, .int a2), (3, .int a3), (4, .int a4), (5, .int a5), (6, .ref (G.2.1 i9))] dL_feed_19 (Nat.le_of_ble_eq_true rfl) rfl ?_
      refine x_iconst hC (1 : Int32) dL_feed_21 (by decide) ?_
      cases hr
      exact x_iret hC rfl dL_feed_22
    · rw [if_neg e0] at hr
      cases hr
  · subst h0
    rw [if_pos rfl] at hr
    obtain ⟨M2, e1, hr⟩ := lz_s hr
    refine x_i2l hC dL_feed_14 ?_
    refine x_oast hC hi9 (by decide) e1 dL_feed_15 ?_
    refine x_goto hC 23 dL_feed_16 (by decide) ?_
    refine x_iconst hC (0 : Int32) dL_feed_23 (by decide) ?_
    cases hr
    exact x_iret hC rfl dL_feed_24

theorem dL_trim_0 : decode cL_trim 0 = .ok (.aload_n 2, 1) := by decide +kernel
theorem dL_trim_1 : decode cL_trim 1 = .ok (.iconst 0, 1) := by decide +kernel
theorem dL_trim_2 : decode cL_trim 2 = .ok (.aload_n 0, 1) := by decide +kernel
theorem dL_trim_3 : decode cL_trim 3 = .ok (.iload_n 1, 1) := by decide +kernel
theorem dL_trim_4 : decode cL_trim 4 = .ok (.invokevirtual 15, 3) := by decide +kernel
theorem dL_trim_7 : decode cL_trim 7 = .ok (.i2l, 1) := by decide +kernel
theorem dL_trim_8 : decode cL_trim 8 = .ok (.lastore, 1) := by decide +kernel
theorem dL_trim_9 : decode cL_trim 9 = .ok (.goto 6, 3) := by decide +kernel
theorem dL_trim_12 : decode cL_trim 12 = .ok (.astore_n 3, 1) := by decide +kernel
theorem dL_trim_13 : decode cL_trim 13 = .ok (.iconst 1, 1) := by decide +kernel
theorem dL_trim_14 : decode cL_trim 14 = .ok (.ireturn, 1) := by decide +kernel
theorem dL_trim_15 : decode cL_trim 15 = .ok (.iconst 0, 1) := by decide +kernel
theorem dL_trim_16 : decode cL_trim 16 = .ok (.ireturn, 1) := by decide +kernel
def f_L_trim (i0 : Nat) (a1 : Int32) (i9 : Nat) (M : Mm) : Option (Int32 × Mm) :=
  bd3 (f_X9_trim i0 a1 M) fun r v M1 => if r = (0 : Int32) then (lz (wr M1 i9 0 v) fun M2 => some ((0 : Int32), M2)) else (if r = (2 : Int32) then some ((1 : Int32), M1) else none)
set_option maxHeartbeats 4000000 in
set_option maxRecDepth 100000 in
theorem c_L_trim (l : Launch) (hlt : l.stackTraces = false) (G : GG) (M : Mm) {i0 : Nat} (hi0 : (kd i0).1 = 6) (a1 : Int32) {i9 : Nat} (hi9 : kd i9 = (24, 1)) {r0 : Int32} {M9 : Mm} (hr : f_L_trim i0 a1 i9 M = some (r0, M9)) : Mo false l yL_trim (.codeWith yL_trim cL_trim 4 (some .int) [(0, 9, 12, 19)] :: TBL) (RM 7 1 6 161) 1 6 [.ref (G.2.1 i0), .int a1, .ref (G.2.1 i9)] G M (some (.int r0)) M9 := by
  refine Mo.ofT (by decide +kernel) (Nat.le_of_ble_eq_true rfl) ?_
  intro p e s m args below meth c hC htab
  have hC : CX p s m args meth c cL_trim 4 RL (some .int) G := hC
  rw [f_L_trim] at hr
  obtain ⟨r, v, M1, q, hr⟩ := bd3_s hr
  show XJ p l e (RM 7 1 6 161) s m args below meth c G 4 _ 0 0 M 0 [(0, .ref (G.2.1 i0)), (1, .int a1), (2, .ref (G.2.1 i9))] []
  refine x_aload_n hC dL_trim_0 rfl 2 rfl ?_
  refine x_iconst hC (0 : Int32) dL_trim_1 (by decide) ?_
  refine x_aload_n hC dL_trim_2 rfl 0 rfl ?_
  refine x_iload_n hC dL_trim_3 rfl 1 rfl ?_
  refine x_callX (ci := 6) (q := (RX9, TX9, 11)) (As := [.int a1]) hC (c_X9_trim l hlt G M hi0 a1 q) kc_yX9_trim km_L_15 ki_yX9_trim kv_yX9_trim kn_RX9 ky_yX9_trim rfl ⟨rfl, rfl⟩ ⟨(Nat.le_of_ble_eq_true rfl), (Nat.le_of_ble_eq_true rfl)⟩ hi0 (by decide) rfl rfl (Nat.le_of_ble_eq_true rfl) ⟨(Nat.le_of_ble_eq_true rfl), (Nat.le_of_ble_eq_true rfl)⟩ dL_trim_4 (fun q9 ce H locs ls hne hP hS hl hcell hv hcl => ?_) (fun h0 => ?_)
  · rw [if_neg hne] at hr
    by_cases e0 : r = (2 : Int32)
    · subst e0
      rw [if_pos rfl] at hr
      refine x_catch (E := excN (2 : Int32)) (name := excN (2 : Int32)) hC htab [] ⟨0, 9, 12, 19⟩ [] rfl (fun z hz => by cases hz) rfl (by decide) exL2 exK2 rfl hP hS hl hcell hv hcl ?_
      refine x_astore_n hC [(3, .ref q9), (0, .ref (G.2.1 i0)), (1, .int a1), (2, .ref (G.2.1 i9))] dL_trim_12 rfl (Nat.le_of_ble_eq_true rfl) rfl ?_
      refine x_iconst hC (1 : Int32) dL_trim_13 (by decide) ?_
      cases hr
      exact x_iret hC rfl dL_trim_14
    · rw [if_neg e0] at hr
      cases hr
  · subst h0
    rw [if_pos rfl] at hr
    obtain ⟨M2, e1, hr⟩ := lz_s hr
    refine x_i2l hC dL_trim_7 ?_
    refine x_oast hC hi9 (by decide) e1 dL_trim_8 ?_
    refine x_goto hC 15 dL_trim_9 (by decide) ?_
    refine x_iconst hC (0 : Int32) dL_trim_15 (by decide) ?_
    cases hr
    exact x_iret hC rfl dL_trim_16

theorem dL_count_0 : decode cL_count 0 = .ok (.aload_n 2, 1) := by decide +kernel
theorem dL_count_1 : decode cL_count 1 = .ok (.iconst 0, 1) := by decide +kernel
theorem dL_count_2 : decode cL_count 2 = .ok (.aload_n 0, 1) := by decide +kernel
theorem dL_count_3 : decode cL_count 3 = .ok (.iload_n 1, 1) := by decide +kernel
theorem dL_count_4 : decode cL_count 4 = .ok (.invokevirtual 21, 3) := by decide +kernel
theorem dL_count_7 : decode cL_count 7 = .ok (.i2l, 1) := by decide +kernel
theorem dL_count_8 : decode cL_count 8 = .ok (.lastore, 1) := by decide +kernel
theorem dL_count_9 : decode cL_count 9 = .ok (.goto 6, 3) := by decide +kernel
theorem dL_count_12 : decode cL_count 12 = .ok (.astore_n 3, 1) := by decide +kernel
theorem dL_count_13 : decode cL_count 13 = .ok (.iconst 1, 1) := by decide +kernel
theorem dL_count_14 : decode cL_count 14 = .ok (.ireturn, 1) := by decide +kernel
theorem dL_count_15 : decode cL_count 15 = .ok (.iconst 0, 1) := by decide +kernel
theorem dL_count_16 : decode cL_count 16 = .ok (.ireturn, 1) := by decide +kernel
def f_L_count (i0 : Nat) (a1 : Int32) (i9 : Nat) (M : Mm) : Option (Int32 × Mm) :=
  bd3 (f_X9_count i0 a1 M) fun r v M1 => if r = (0 : Int32) then (lz (wr M1 i9 0 v) fun M2 => some ((0 : Int32), M2)) else (if r = (3 : Int32) then some ((1 : Int32), M1) else none)
set_option maxHeartbeats 4000000 in
set_option maxRecDepth 100000 in
theorem c_L_count (l : Launch) (hlt : l.stackTraces = false) (G : GG) (M : Mm) {i0 : Nat} (hi0 : (kd i0).1 = 6) (a1 : Int32) {i9 : Nat} (hi9 : kd i9 = (24, 1)) {r0 : Int32} {M9 : Mm} (hr : f_L_count i0 a1 i9 M = some (r0, M9)) : Mo false l yL_count (.codeWith yL_count cL_count 4 (some .int) [(0, 9, 12, 24)] :: TBL) (RM 7 1 6 161) 1 6 [.ref (G.2.1 i0), .int a1, .ref (G.2.1 i9)] G M (some (.int r0)) M9 := by
  refine Mo.ofT (by decide +kernel) (Nat.le_of_ble_eq_true rfl) ?_
  intro p e s m args below meth c hC htab
  have hC : CX p s m args meth c cL_count 4 RL (some .int) G := hC
  rw [f_L_count] at hr
  obtain ⟨r, v, M1, q, hr⟩ := bd3_s hr
  show XJ p l e (RM 7 1 6 161) s m args below meth c G 4 _ 0 0 M 0 [(0, .ref (G.2.1 i0)), (1, .int a1), (2, .ref (G.2.1 i9))] []
  refine x_aload_n hC dL_count_0 rfl 2 rfl ?_
  refine x_iconst hC (0 : Int32) dL_count_1 (by decide) ?_
  refine x_aload_n hC dL_count_2 rfl 0 rfl ?_
  refine x_iload_n hC dL_count_3 rfl 1 rfl ?_
  refine x_callX (ci := 6) (q := (RX9, TX9, 11)) (As := [.int a1]) hC (c_X9_count l hlt G M hi0 a1 q) kc_yX9_count km_L_21 ki_yX9_count kv_yX9_count kn_RX9 ky_yX9_count rfl ⟨rfl, rfl⟩ ⟨(Nat.le_of_ble_eq_true rfl), (Nat.le_of_ble_eq_true rfl)⟩ hi0 (by decide) rfl rfl (Nat.le_of_ble_eq_true rfl) ⟨(Nat.le_of_ble_eq_true rfl), (Nat.le_of_ble_eq_true rfl)⟩ dL_count_4 (fun q9 ce H locs ls hne hP hS hl hcell hv hcl => ?_) (fun h0 => ?_)
  · rw [if_neg hne] at hr
    by_cases e0 : r = (3 : Int32)
    · subst e0
      rw [if_pos rfl] at hr
      refine x_catch (E := excN (3 : Int32)) (name := excN (3 : Int32)) hC htab [] ⟨0, 9, 12, 24⟩ [] rfl (fun z hz => by cases hz) rfl (by decide) exL3 exK3 rfl hP hS hl hcell hv hcl ?_
      refine x_astore_n hC [(3, .ref q9), (0, .ref (G.2.1 i0)), (1, .int a1), (2, .ref (G.2.1 i9))] dL_count_12 rfl (Nat.le_of_ble_eq_true rfl) rfl ?_
      refine x_iconst hC (1 : Int32) dL_count_13 (by decide) ?_
      cases hr
      exact x_iret hC rfl dL_count_14
    · rw [if_neg e0] at hr
      cases hr
  · subst h0
    rw [if_pos rfl] at hr
    obtain ⟨M2, e1, hr⟩ := lz_s hr
    refine x_i2l hC dL_count_7 ?_
    refine x_oast hC hi9 (by decide) e1 dL_count_8 ?_
    refine x_goto hC 15 dL_count_9 (by decide) ?_
    refine x_iconst hC (0 : Int32) dL_count_15 (by decide) ?_
    cases hr
    exact x_iret hC rfl dL_count_16

theorem dL_setWeather_0 : decode cL_setWeather 0 = .ok (.aload 4, 2) := by decide +kernel
theorem dL_setWeather_2 : decode cL_setWeather 2 = .ok (.iconst 0, 1) := by decide +kernel
theorem dL_setWeather_3 : decode cL_setWeather 3 = .ok (.aload_n 0, 1) := by decide +kernel
theorem dL_setWeather_4 : decode cL_setWeather 4 = .ok (.iload_n 1, 1) := by decide +kernel
theorem dL_setWeather_5 : decode cL_setWeather 5 = .ok (.iload_n 2, 1) := by decide +kernel
theorem dL_setWeather_6 : decode cL_setWeather 6 = .ok (.iload_n 3, 1) := by decide +kernel
theorem dL_setWeather_7 : decode cL_setWeather 7 = .ok (.invokevirtual 26, 3) := by decide +kernel
theorem dL_setWeather_10 : decode cL_setWeather 10 = .ok (.i2l, 1) := by decide +kernel
theorem dL_setWeather_11 : decode cL_setWeather 11 = .ok (.lastore, 1) := by decide +kernel
theorem dL_setWeather_12 : decode cL_setWeather 12 = .ok (.goto 11, 3) := by decide +kernel
theorem dL_setWeather_15 : decode cL_setWeather 15 = .ok (.astore 5, 2) := by decide +kernel
theorem dL_setWeather_17 : decode cL_setWeather 17 = .ok (.iconst 1, 1) := by decide +kernel
theorem dL_setWeather_18 : decode cL_setWeather 18 = .ok (.ireturn, 1) := by decide +kernel
theorem dL_setWeather_19 : decode cL_setWeather 19 = .ok (.astore 5, 2) := by decide +kernel
theorem dL_setWeather_21 : decode cL_setWeather 21 = .ok (.iconst 2, 1) := by decide +kernel
theorem dL_setWeather_22 : decode cL_setWeather 22 = .ok (.ireturn, 1) := by decide +kernel
theorem dL_setWeather_23 : decode cL_setWeather 23 = .ok (.iconst 0, 1) := by decide +kernel
theorem dL_setWeather_24 : decode cL_setWeather 24 = .ok (.ireturn, 1) := by decide +kernel
def f_L_setWeather (i0 : Nat) (a1 : Int32) (a2 : Int32) (a3 : Int32) (i9 : Nat) (M : Mm) : Option (Int32 × Mm) :=
  bd3 (f_X9_setWeather i0 a1 a2 a3 M) fun r v M1 => if r = (0 : Int32) then (lz (wr M1 i9 0 v) fun M2 => some ((0 : Int32), M2)) else (if r = (3 : Int32) then some ((1 : Int32), M1) else if r = (2 : Int32) then some ((2 : Int32), M1) else none)
set_option maxHeartbeats 4000000 in
set_option maxRecDepth 100000 in
theorem c_L_setWeather (l : Launch) (hlt : l.stackTraces = false) (G : GG) (M : Mm) {i0 : Nat} (hi0 : (kd i0).1 = 6) (a1 : Int32) (a2 : Int32) (a3 : Int32) {i9 : Nat} (hi9 : kd i9 = (24, 1)) {r0 : Int32} {M9 : Mm} (hr : f_L_setWeather i0 a1 a2 a3 i9 M = some (r0, M9)) : Mo false l yL_setWeather (.codeWith yL_setWeather cL_setWeather 6 (some .int) [(0, 12, 15, 24), (0, 12, 19, 19)] :: TBL) (RM 7 1 6 164) 1 6 [.ref (G.2.1 i0), .int a1, .int a2, .int a3, .ref (G.2.1 i9)] G M (some (.int r0)) M9 := by
  refine Mo.ofT (by decide +kernel) (Nat.le_of_ble_eq_true rfl) ?_
  intro p e s m args below meth c hC htab
  have hC : CX p s m args meth c cL_setWeather 6 RL (some .int) G := hC
  rw [f_L_setWeather] at hr
  obtain ⟨r, v, M1, q, hr⟩ := bd3_s hr
  show XJ p l e (RM 7 1 6 164) s m args below meth c G 6 _ 0 0 M 0 [(0, .ref (G.2.1 i0)), (1, .int a1), (2, .int a2), (3, .int a3), (4, .ref (G.2.1 i9))] []
  refine x_aload hC dL_setWeather_0 4 rfl ?_
  refine x_iconst hC (0 : Int32) dL_setWeather_2 (by decide) ?_
  refine x_aload_n hC dL_setWeather_3 rfl 0 rfl ?_
  refine x_iload_n hC dL_setWeather_4 rfl 1 rfl ?_
  refine x_iload_n hC dL_setWeather_5 rfl 2 rfl ?_
  refine x_iload_n hC dL_setWeather_6 rfl 3 rfl ?_
  refine x_callX (ci := 6) (q := (RX9, TX9, 11)) (As := [.int a1, .int a2, .int a3]) hC (c_X9_setWeather l hlt G M hi0 a1 a2 a3 q) kc_yX9_setWeather km_L_26 ki_yX9_setWeather kv_yX9_setWeather kn_RX9 ky_yX9_setWeather rfl ⟨rfl, rfl⟩ ⟨(Nat.le_of_ble_eq_true rfl), (Nat.le_of_ble_eq_true rfl)⟩ hi0 (by decide) rfl rfl (Nat.le_of_ble_eq_true rfl) ⟨(Nat.le_of_ble_eq_true rfl), (Nat.le_of_ble_eq_true rfl)⟩ dL_setWeather_7 (fun q9 ce H locs ls hne hP hS hl hcell hv hcl => ?_) (fun h0 => ?_)
  · rw [if_neg hne] at hr
    by_cases e0 : r = (3 : Int32)
    · subst e0
      rw [if_pos rfl] at hr
      refine x_catch (E := excN (3 : Int32)) (name := excN (3 : Int32)) hC htab [] ⟨0, 12, 15, 24⟩ [⟨0, 12, 19, 19⟩] rfl (fun z hz => by cases hz) rfl (by decide) exL3 exK3 rfl hP hS hl hcell hv hcl ?_
      refine x_astore hC [(5, .ref q9), (0, .ref (G.2.1 i0)), (1, .int a1), (2, .int a2), (3, .int a3), (4, .ref (G.2.1 i9))] dL_setWeather_15 (Nat.le_of_ble_eq_true rfl) rfl ?_
      refine x_iconst hC (1 : Int32) dL_setWeather_17 (by decide) ?_
      cases hr
      exact x_iret hC rfl dL_setWeather_18
    · rw [if_neg e0] at hr
      by_cases e1 : r = (2 : Int32)
      · subst e1
        rw [if_pos rfl] at hr
        refine x_catch (E := excN (2 : Int32)) (name := excN (2 : Int32)) hC htab [⟨0, 12, 15, 24⟩] ⟨0, 12, 19, 19⟩ [] rfl (fun z hz => by
      simp only [List.mem_cons, List.not_mem_nil, or_false] at hz
      rcases hz with rfl
      · exact ⟨by decide, eIOE, exL3, hC.2.2.2.2.2.2.2.2.2.2.2.2.2.2.2.2.1⟩) rfl (by decide) exL2 exK2 rfl hP hS hl hcell hv hcl ?_
        refine x_astore hC [(5, .ref q9), (0, .ref (G.2.1 i0)), (1, .int a1), (2, .int a2), (3, .int a3), (4, .ref (G.2.1 i9))] dL_setWeather_19 (Nat.le_of_ble_eq_true rfl) rfl ?_
        refine x_iconst hC (2 : Int32) dL_setWeather_21 (by decide) ?_
        cases hr
        exact x_iret hC rfl dL_setWeather_22
      · rw [if_neg e1] at hr
        cases hr
  · subst h0
    rw [if_pos rfl] at hr
    obtain ⟨M2, e1, hr⟩ := lz_s hr
    refine x_i2l hC dL_setWeather_10 ?_
    refine x_oast hC hi9 (by decide) e1 dL_setWeather_11 ?_
    refine x_goto hC 23 dL_setWeather_12 (by decide) ?_
    refine x_iconst hC (0 : Int32) dL_setWeather_23 (by decide) ?_
    cases hr
    exact x_iret hC rfl dL_setWeather_24

theorem dL_set_0 : decode cL_set 0 = .ok (.aload 5, 2) := by decide +kernel
theorem dL_set_2 : decode cL_set 2 = .ok (.iconst 0, 1) := by decide +kernel
theorem dL_set_3 : decode cL_set 3 = .ok (.aload_n 0, 1) := by decide +kernel
theorem dL_set_4 : decode cL_set 4 = .ok (.iload_n 1, 1) := by decide +kernel
theorem dL_set_5 : decode cL_set 5 = .ok (.iload_n 2, 1) := by decide +kernel
theorem dL_set_6 : decode cL_set 6 = .ok (.iload_n 3, 1) := by decide +kernel
theorem dL_set_7 : decode cL_set 7 = .ok (.iload 4, 2) := by decide +kernel
theorem dL_set_9 : decode cL_set 9 = .ok (.invokevirtual 30, 3) := by decide +kernel
theorem dL_set_12 : decode cL_set 12 = .ok (.i2l, 1) := by decide +kernel
theorem dL_set_13 : decode cL_set 13 = .ok (.lastore, 1) := by decide +kernel
theorem dL_set_14 : decode cL_set 14 = .ok (.goto 11, 3) := by decide +kernel
theorem dL_set_17 : decode cL_set 17 = .ok (.astore 6, 2) := by decide +kernel
theorem dL_set_19 : decode cL_set 19 = .ok (.iconst 1, 1) := by decide +kernel
theorem dL_set_20 : decode cL_set 20 = .ok (.ireturn, 1) := by decide +kernel
theorem dL_set_21 : decode cL_set 21 = .ok (.astore 6, 2) := by decide +kernel
theorem dL_set_23 : decode cL_set 23 = .ok (.iconst 2, 1) := by decide +kernel
theorem dL_set_24 : decode cL_set 24 = .ok (.ireturn, 1) := by decide +kernel
theorem dL_set_25 : decode cL_set 25 = .ok (.iconst 0, 1) := by decide +kernel
theorem dL_set_26 : decode cL_set 26 = .ok (.ireturn, 1) := by decide +kernel
def f_L_set (i0 : Nat) (a1 : Int32) (a2 : Int32) (a3 : Int32) (a4 : Int32) (i9 : Nat) (M : Mm) : Option (Int32 × Mm) :=
  bd3 (f_X9_set i0 a1 a2 a3 a4 M) fun r v M1 => if r = (0 : Int32) then (lz (wr M1 i9 0 v) fun M2 => some ((0 : Int32), M2)) else (if r = (3 : Int32) then some ((1 : Int32), M1) else if r = (2 : Int32) then some ((2 : Int32), M1) else none)
set_option maxHeartbeats 4000000 in
set_option maxRecDepth 100000 in
theorem c_L_set (l : Launch) (hlt : l.stackTraces = false) (G : GG) (M : Mm) {i0 : Nat} (hi0 : (kd i0).1 = 6) (a1 : Int32) (a2 : Int32) (a3 : Int32) (a4 : Int32) {i9 : Nat} (hi9 : kd i9 = (24, 1)) {r0 : Int32} {M9 : Mm} (hr : f_L_set i0 a1 a2 a3 a4 i9 M = some (r0, M9)) : Mo false l yL_set (.codeWith yL_set cL_set 7 (some .int) [(0, 14, 17, 24), (0, 14, 21, 19)] :: TBL) (RM 7 1 6 166) 1 6 [.ref (G.2.1 i0), .int a1, .int a2, .int a3, .int a4, .ref (G.2.1 i9)] G M (some (.int r0)) M9 := by
  refine Mo.ofT (by decide +kernel) (Nat.le_of_ble_eq_true rfl) ?_
  intro p e s m args below meth c hC htab
  have hC : CX p s m args meth c cL_set 7 RL (some .int) G := hC
  rw [f_L_set] at hr
  obtain ⟨r, v, M1, q, hr⟩ := bd3_s hr
  show XJ p l e (RM 7 1 6 166) s m args below meth c G 7 _ 0 0 M 0 [(0, .ref (G.2.1 i0)), (1, .int a1), (2, .int a2), (3, .int a3), (4, .int a4), (5, .ref (G.2.1 i9))] []
  refine x_aload hC dL_set_0 5 rfl ?_
  refine x_iconst hC (0 : Int32) dL_set_2 (by decide) ?_
  refine x_aload_n hC dL_set_3 rfl 0 rfl ?_
  refine x_iload_n hC dL_set_4 rfl 1 rfl ?_
  refine x_iload_n hC dL_set_5 rfl 2 rfl ?_
  refine x_iload_n hC dL_set_6 rfl 3 rfl ?_
  refine x_iload hC dL_set_7 4 rfl ?_
  refine x_callX (ci := 6) (q := (RX9, TX9, 11)) (As := [.int a1, .int a2, .int a3, .int a4]) hC (c_X9_set l hlt G M hi0 a1 a2 a3 a4 q) kc_yX9_set km_L_30 ki_yX9_set kv_yX9_set kn_RX9 ky_yX9_set rfl ⟨rfl, rfl⟩ ⟨(Nat.le_of_ble_eq_true rfl), (Nat.le_of_ble_eq_true rfl)⟩ hi0 (by decide) rfl rfl (Nat.le_of_ble_eq_true rfl) ⟨(Nat.le_of_ble_eq_true rfl), (Nat.le_of_ble_eq_true rfl)⟩ dL_set_9 (fun q9 ce H locs ls hne hP hS hl hcell hv hcl => ?_) (fun h0 => ?_)
  · rw [if_neg hne] at hr
    by_cases e0 : r = (3 : Int32)
    · subst e0
      rw [if_pos rfl] at hr
      refine x_catch (E := excN (3 : Int32)) (name := excN (3 : Int32)) hC htab [] ⟨0, 14, 17, 24⟩ [⟨0, 14, 21, 19⟩] rfl (fun z hz => by cases hz) rfl (by decide) exL3 exK3 rfl hP hS hl hcell hv hcl ?_
      refine x_astore hC [(6, .ref q9), (0, .ref (G.2.1 i0)), (1, .int a1), (2, .int a2), (3, .int a3), (4, .int a4), (5, .ref (G.2.1 i9))] dL_set_17 (Nat.le_of_ble_eq_true rfl) rfl ?_
      refine x_iconst hC (1 : Int32) dL_set_19 (by decide) ?_
      cases hr
      exact x_iret hC rfl dL_set_20
    · rw [if_neg e0] at hr
      by_cases e1 : r = (2 : Int32)
      · subst e1
        rw [if_pos rfl] at hr
        refine x_catch (E := excN (2 : Int32)) (name := excN (2 : Int32)) hC htab [⟨0, 14, 17, 24⟩] ⟨0, 14, 21, 19⟩ [] rfl (fun z hz => by
      simp only [List.mem_cons, List.not_mem_nil, or_false] at hz
      rcases hz with rfl
      · exact ⟨by decide, eIOE, exL3, hC.2.2.2.2.2.2.2.2.2.2.2.2.2.2.2.2.1⟩) rfl (by decide) exL2 exK2 rfl hP hS hl hcell hv hcl ?_
        refine x_astore hC [(6, .ref q9), (0, .ref (G.2.1 i0)), (1, .int a1), (2, .int a2), (3, .int a3), (4, .int a4), (5, .ref (G.2.1 i9))] dL_set_21 (Nat.le_of_ble_eq_true rfl) rfl ?_
        refine x_iconst hC (2 : Int32) dL_set_23 (by decide) ?_
        cases hr
        exact x_iret hC rfl dL_set_24
      · rw [if_neg e1] at hr
        cases hr
  · subst h0
    rw [if_pos rfl] at hr
    obtain ⟨M2, e1, hr⟩ := lz_s hr
    refine x_i2l hC dL_set_12 ?_
    refine x_oast hC hi9 (by decide) e1 dL_set_13 ?_
    refine x_goto hC 25 dL_set_14 (by decide) ?_
    refine x_iconst hC (0 : Int32) dL_set_25 (by decide) ?_
    cases hr
    exact x_iret hC rfl dL_set_26

theorem dL_stack_0 : decode cL_stack 0 = .ok (.aload 5, 2) := by decide +kernel
theorem dL_stack_2 : decode cL_stack 2 = .ok (.iconst 0, 1) := by decide +kernel
theorem dL_stack_3 : decode cL_stack 3 = .ok (.aload_n 0, 1) := by decide +kernel
theorem dL_stack_4 : decode cL_stack 4 = .ok (.iload_n 1, 1) := by decide +kernel
theorem dL_stack_5 : decode cL_stack 5 = .ok (.iload_n 2, 1) := by decide +kernel
theorem dL_stack_6 : decode cL_stack 6 = .ok (.iload_n 3, 1) := by decide +kernel
theorem dL_stack_7 : decode cL_stack 7 = .ok (.iload 4, 2) := by decide +kernel
theorem dL_stack_9 : decode cL_stack 9 = .ok (.invokevirtual 34, 3) := by decide +kernel
theorem dL_stack_12 : decode cL_stack 12 = .ok (.i2l, 1) := by decide +kernel
theorem dL_stack_13 : decode cL_stack 13 = .ok (.lastore, 1) := by decide +kernel
theorem dL_stack_14 : decode cL_stack 14 = .ok (.goto 15, 3) := by decide +kernel
theorem dL_stack_17 : decode cL_stack 17 = .ok (.astore 6, 2) := by decide +kernel
theorem dL_stack_19 : decode cL_stack 19 = .ok (.iconst 1, 1) := by decide +kernel
theorem dL_stack_20 : decode cL_stack 20 = .ok (.ireturn, 1) := by decide +kernel
theorem dL_stack_21 : decode cL_stack 21 = .ok (.astore 6, 2) := by decide +kernel
theorem dL_stack_23 : decode cL_stack 23 = .ok (.iconst 2, 1) := by decide +kernel
theorem dL_stack_24 : decode cL_stack 24 = .ok (.ireturn, 1) := by decide +kernel
theorem dL_stack_25 : decode cL_stack 25 = .ok (.astore 6, 2) := by decide +kernel
theorem dL_stack_27 : decode cL_stack 27 = .ok (.iconst 3, 1) := by decide +kernel
theorem dL_stack_28 : decode cL_stack 28 = .ok (.ireturn, 1) := by decide +kernel
theorem dL_stack_29 : decode cL_stack 29 = .ok (.iconst 0, 1) := by decide +kernel
theorem dL_stack_30 : decode cL_stack 30 = .ok (.ireturn, 1) := by decide +kernel
def f_L_stack (i0 : Nat) (a1 : Int32) (a2 : Int32) (a3 : Int32) (a4 : Int32) (i9 : Nat) (M : Mm) : Option (Int32 × Mm) :=
  bd3 (f_X9_stack i0 a1 a2 a3 a4 M) fun r v M1 => if r = (0 : Int32) then (lz (wr M1 i9 0 v) fun M2 => some ((0 : Int32), M2)) else (if r = (3 : Int32) then some ((1 : Int32), M1) else if r = (2 : Int32) then some ((2 : Int32), M1) else if r = (1 : Int32) then some ((3 : Int32), M1) else none)
set_option maxHeartbeats 4000000 in
set_option maxRecDepth 100000 in
theorem c_L_stack (l : Launch) (hlt : l.stackTraces = false) (G : GG) (M : Mm) {i0 : Nat} (hi0 : (kd i0).1 = 6) (a1 : Int32) (a2 : Int32) (a3 : Int32) (a4 : Int32) {i9 : Nat} (hi9 : kd i9 = (24, 1)) {r0 : Int32} {M9 : Mm} (hr : f_L_stack i0 a1 a2 a3 a4 i9 M = some (r0, M9)) : Mo false l yL_stack (.codeWith yL_stack cL_stack 7 (some .int) [(0, 14, 17, 24), (0, 14, 21, 19), (0, 14, 25, 13)] :: TBL) (RM 7 1 6 165) 1 6 [.ref (G.2.1 i0), .int a1, .int a2, .int a3, .int a4, .ref (G.2.1 i9)] G M (some (.int r0)) M9 := by
  refine Mo.ofT (by decide +kernel) (Nat.le_of_ble_eq_true rfl) ?_
  intro p e s m args below meth c hC htab
  have hC : CX p s m args meth c cL_stack 7 RL (some .int) G := hC
  rw [f_L_stack] at hr
  obtain ⟨r, v, M1, q, hr⟩ := bd3_s hr
  show XJ p l e (RM 7 1 6 165) s m args below meth c G 7 _ 0 0 M 0 [(0, .ref (G.2.1 i0)), (1, .int a1), (2, .int a2), (3, .int a3), (4, .int a4), (5, .ref (G.2.1 i9))] []
  refine x_aload hC dL_stack_0 5 rfl ?_
  refine x_iconst hC (0 : Int32) dL_stack_2 (by decide) ?_
  refine x_aload_n hC dL_stack_3 rfl 0 rfl ?_
  refine x_iload_n hC dL_stack_4 rfl 1 rfl ?_
  refine x_iload_n hC dL_stack_5 rfl 2 rfl ?_
  refine x_iload_n hC dL_stack_6 rfl 3 rfl ?_
  refine x_iload hC dL_stack_7 4 rfl ?_
  refine x_callX (ci := 6) (q := (RX9, TX9, 11)) (As := [.int a1, .int a2, .int a3, .int a4]) hC (c_X9_stack l hlt G M hi0 a1 a2 a3 a4 q) kc_yX9_stack km_L_34 ki_yX9_stack kv_yX9_stack kn_RX9 ky_yX9_stack rfl ⟨rfl, rfl⟩ ⟨(Nat.le_of_ble_eq_true rfl), (Nat.le_of_ble_eq_true rfl)⟩ hi0 (by decide) rfl rfl (Nat.le_of_ble_eq_true rfl) ⟨(Nat.le_of_ble_eq_true rfl), (Nat.le_of_ble_eq_true rfl)⟩ dL_stack_9 (fun q9 ce H locs ls hne hP hS hl hcell hv hcl => ?_) (fun h0 => ?_)
  · rw [if_neg hne] at hr
    by_cases e0 : r = (3 : Int32)
    · subst e0
      rw [if_pos rfl] at hr
      refine x_catch (E := excN (3 : Int32)) (name := excN (3 : Int32)) hC htab [] ⟨0, 14, 17, 24⟩ [⟨0, 14, 21, 19⟩, ⟨0, 14, 25, 13⟩] rfl (fun z hz => by cases hz) rfl (by decide) exL3 exK3 rfl hP hS hl hcell hv hcl ?_
      refine x_astore hC [(6, .ref q9), (0, .ref (G.2.1 i0)), (1, .int a1), (2, .int a2), (3, .int a3), (4, .int a4), (5, .ref (G.2.1 i9))] dL_stack_17 (Nat.le_of_ble_eq_true rfl) rfl ?_
      refine x_iconst hC (1 : Int32) dL_stack_19 (by decide) ?_
      cases hr
      exact x_iret hC rfl dL_stack_20
    · rw [if_neg e0] at hr
      by_cases e1 : r = (2 : Int32)
      · subst e1
        rw [if_pos rfl] at hr
        refine x_catch (E := excN (2 : Int32)) (name := excN (2 : Int32)) hC htab [⟨0, 14, 17, 24⟩] ⟨0, 14, 21, 19⟩ [⟨0, 14, 25, 13⟩] rfl (fun z hz => by
      simp only [List.mem_cons, List.not_mem_nil, or_false] at hz
      rcases hz with rfl
      · exact ⟨by decide, eIOE, exL3, hC.2.2.2.2.2.2.2.2.2.2.2.2.2.2.2.2.1⟩) rfl (by decide) exL2 exK2 rfl hP hS hl hcell hv hcl ?_
        refine x_astore hC [(6, .ref q9), (0, .ref (G.2.1 i0)), (1, .int a1), (2, .int a2), (3, .int a3), (4, .int a4), (5, .ref (G.2.1 i9))] dL_stack_21 (Nat.le_of_ble_eq_true rfl) rfl ?_
        refine x_iconst hC (2 : Int32) dL_stack_23 (by decide) ?_
        cases hr
        exact x_iret hC rfl dL_stack_24
      · rw [if_neg e1] at hr
        by_cases e2 : r = (1 : Int32)
        · subst e2
          rw [if_pos rfl] at hr
          refine x_catch (E := excN (1 : Int32)) (name := excN (1 : Int32)) hC htab [⟨0, 14, 17, 24⟩, ⟨0, 14, 21, 19⟩] ⟨0, 14, 25, 13⟩ [] rfl (fun z hz => by
      simp only [List.mem_cons, List.not_mem_nil, or_false] at hz
      rcases hz with rfl | rfl
      · exact ⟨by decide, eIOE, exL3, hC.2.2.2.2.2.2.2.2.2.2.2.2.2.2.1⟩
      · exact ⟨by decide, eIAE, exL2, hC.2.2.2.2.2.2.2.2.2.2.2.2.2.1⟩) rfl (by decide) exL1 exK1 rfl hP hS hl hcell hv hcl ?_
          refine x_astore hC [(6, .ref q9), (0, .ref (G.2.1 i0)), (1, .int a1), (2, .int a2), (3, .int a3), (4, .int a4), (5, .ref (G.2.1 i9))] dL_stack_25 (Nat.le_of_ble_eq_true rfl) rfl ?_
          refine x_iconst hC (3 : Int32) dL_stack_27 (by decide) ?_
          cases hr
          exact x_iret hC rfl dL_stack_28
        · rw [if_neg e2] at hr
          cases hr
  · subst h0
    rw [if_pos rfl] at hr
    obtain ⟨M2, e1, hr⟩ := lz_s hr
    refine x_i2l hC dL_stack_12 ?_
    refine x_oast hC hi9 (by decide) e1 dL_stack_13 ?_
    refine x_goto hC 29 dL_stack_14 (by decide) ?_
    refine x_iconst hC (0 : Int32) dL_stack_29 (by decide) ?_
    cases hr
    exact x_iret hC rfl dL_stack_30

theorem dL_cell_0 : decode cL_cell 0 = .ok (.aload 4, 2) := by decide +kernel
theorem dL_cell_2 : decode cL_cell 2 = .ok (.iconst 0, 1) := by decide +kernel
theorem dL_cell_3 : decode cL_cell 3 = .ok (.aload_n 0, 1) := by decide +kernel
theorem dL_cell_4 : decode cL_cell 4 = .ok (.iload_n 1, 1) := by decide +kernel
theorem dL_cell_5 : decode cL_cell 5 = .ok (.iload_n 2, 1) := by decide +kernel
theorem dL_cell_6 : decode cL_cell 6 = .ok (.iload_n 3, 1) := by decide +kernel
theorem dL_cell_7 : decode cL_cell 7 = .ok (.invokevirtual 37, 3) := by decide +kernel
theorem dL_cell_10 : decode cL_cell 10 = .ok (.i2l, 1) := by decide +kernel
theorem dL_cell_11 : decode cL_cell 11 = .ok (.lastore, 1) := by decide +kernel
theorem dL_cell_12 : decode cL_cell 12 = .ok (.goto 7, 3) := by decide +kernel
theorem dL_cell_15 : decode cL_cell 15 = .ok (.astore 5, 2) := by decide +kernel
theorem dL_cell_17 : decode cL_cell 17 = .ok (.iconst 1, 1) := by decide +kernel
theorem dL_cell_18 : decode cL_cell 18 = .ok (.ireturn, 1) := by decide +kernel
theorem dL_cell_19 : decode cL_cell 19 = .ok (.iconst 0, 1) := by decide +kernel
theorem dL_cell_20 : decode cL_cell 20 = .ok (.ireturn, 1) := by decide +kernel
def f_L_cell (i0 : Nat) (a1 : Int32) (a2 : Int32) (a3 : Int32) (i9 : Nat) (M : Mm) : Option (Int32 × Mm) :=
  bd3 (f_X9_cell i0 a1 a2 a3 M) fun r v M1 => if r = (0 : Int32) then (lz (wr M1 i9 0 v) fun M2 => some ((0 : Int32), M2)) else (if r = (3 : Int32) then some ((1 : Int32), M1) else none)
set_option maxHeartbeats 4000000 in
set_option maxRecDepth 100000 in
theorem c_L_cell (l : Launch) (hlt : l.stackTraces = false) (G : GG) (M : Mm) {i0 : Nat} (hi0 : (kd i0).1 = 6) (a1 : Int32) (a2 : Int32) (a3 : Int32) {i9 : Nat} (hi9 : kd i9 = (24, 1)) {r0 : Int32} {M9 : Mm} (hr : f_L_cell i0 a1 a2 a3 i9 M = some (r0, M9)) : Mo false l yL_cell (.codeWith yL_cell cL_cell 6 (some .int) [(0, 12, 15, 24)] :: TBL) (RM 7 1 6 163) 1 6 [.ref (G.2.1 i0), .int a1, .int a2, .int a3, .ref (G.2.1 i9)] G M (some (.int r0)) M9 := by
  refine Mo.ofT (by decide +kernel) (Nat.le_of_ble_eq_true rfl) ?_
  intro p e s m args below meth c hC htab
  have hC : CX p s m args meth c cL_cell 6 RL (some .int) G := hC
  rw [f_L_cell] at hr
  obtain ⟨r, v, M1, q, hr⟩ := bd3_s hr
  show XJ p l e (RM 7 1 6 163) s m args below meth c G 6 _ 0 0 M 0 [(0, .ref (G.2.1 i0)), (1, .int a1), (2, .int a2), (3, .int a3), (4, .ref (G.2.1 i9))] []
  refine x_aload hC dL_cell_0 4 rfl ?_
  refine x_iconst hC (0 : Int32) dL_cell_2 (by decide) ?_
  refine x_aload_n hC dL_cell_3 rfl 0 rfl ?_
  refine x_iload_n hC dL_cell_4 rfl 1 rfl ?_
  refine x_iload_n hC dL_cell_5 rfl 2 rfl ?_
  refine x_iload_n hC dL_cell_6 rfl 3 rfl ?_
  refine x_callX (ci := 6) (q := (RX9, TX9, 11)) (As := [.int a1, .int a2, .int a3]) hC (c_X9_cell l hlt G M hi0 a1 a2 a3 q) kc_yX9_cell km_L_37 ki_yX9_cell kv_yX9_cell kn_RX9 ky_yX9_cell rfl ⟨rfl, rfl⟩ ⟨(Nat.le_of_ble_eq_true rfl), (Nat.le_of_ble_eq_true rfl)⟩ hi0 (by decide) rfl rfl (Nat.le_of_ble_eq_true rfl) ⟨(Nat.le_of_ble_eq_true rfl), (Nat.le_of_ble_eq_true rfl)⟩ dL_cell_7 (fun q9 ce H locs ls hne hP hS hl hcell hv hcl => ?_) (fun h0 => ?_)
  · rw [if_neg hne] at hr
    by_cases e0 : r = (3 : Int32)
    · subst e0
      rw [if_pos rfl] at hr
      refine x_catch (E := excN (3 : Int32)) (name := excN (3 : Int32)) hC htab [] ⟨0, 12, 15, 24⟩ [] rfl (fun z hz => by cases hz) rfl (by decide) exL3 exK3 rfl hP hS hl hcell hv hcl ?_
      refine x_astore hC [(5, .ref q9), (0, .ref (G.2.1 i0)), (1, .int a1), (2, .int a2), (3, .int a3), (4, .ref (G.2.1 i9))] dL_cell_15 (Nat.le_of_ble_eq_true rfl) rfl ?_
      refine x_iconst hC (1 : Int32) dL_cell_17 (by decide) ?_
      cases hr
      exact x_iret hC rfl dL_cell_18
    · rw [if_neg e0] at hr
      cases hr
  · subst h0
    rw [if_pos rfl] at hr
    obtain ⟨M2, e1, hr⟩ := lz_s hr
    refine x_i2l hC dL_cell_10 ?_
    refine x_oast hC hi9 (by decide) e1 dL_cell_11 ?_
    refine x_goto hC 19 dL_cell_12 (by decide) ?_
    refine x_iconst hC (0 : Int32) dL_cell_19 (by decide) ?_
    cases hr
    exact x_iret hC rfl dL_cell_20

theorem dL_gang_0 : decode cL_gang 0 = .ok (.aload_n 3, 1) := by decide +kernel
theorem dL_gang_1 : decode cL_gang 1 = .ok (.iconst 0, 1) := by decide +kernel
theorem dL_gang_2 : decode cL_gang 2 = .ok (.aload_n 0, 1) := by decide +kernel
theorem dL_gang_3 : decode cL_gang 3 = .ok (.iload_n 1, 1) := by decide +kernel
theorem dL_gang_4 : decode cL_gang 4 = .ok (.iload_n 2, 1) := by decide +kernel
theorem dL_gang_5 : decode cL_gang 5 = .ok (.invokevirtual 40, 3) := by decide +kernel
theorem dL_gang_8 : decode cL_gang 8 = .ok (.i2l, 1) := by decide +kernel
theorem dL_gang_9 : decode cL_gang 9 = .ok (.lastore, 1) := by decide +kernel
theorem dL_gang_10 : decode cL_gang 10 = .ok (.goto 7, 3) := by decide +kernel
theorem dL_gang_13 : decode cL_gang 13 = .ok (.astore 4, 2) := by decide +kernel
theorem dL_gang_15 : decode cL_gang 15 = .ok (.iconst 1, 1) := by decide +kernel
theorem dL_gang_16 : decode cL_gang 16 = .ok (.ireturn, 1) := by decide +kernel
theorem dL_gang_17 : decode cL_gang 17 = .ok (.iconst 0, 1) := by decide +kernel
theorem dL_gang_18 : decode cL_gang 18 = .ok (.ireturn, 1) := by decide +kernel
def f_L_gang (i0 : Nat) (a1 : Int32) (a2 : Int32) (i9 : Nat) (M : Mm) : Option (Int32 × Mm) :=
  bd3 (f_X9_gang i0 a1 a2 M) fun r v M1 => if r = (0 : Int32) then (lz (wr M1 i9 0 v) fun M2 => some ((0 : Int32), M2)) else (if r = (3 : Int32) then some ((1 : Int32), M1) else none)
set_option maxHeartbeats 4000000 in
set_option maxRecDepth 100000 in
theorem c_L_gang (l : Launch) (hlt : l.stackTraces = false) (G : GG) (M : Mm) {i0 : Nat} (hi0 : (kd i0).1 = 6) (a1 : Int32) (a2 : Int32) {i9 : Nat} (hi9 : kd i9 = (24, 1)) {r0 : Int32} {M9 : Mm} (hr : f_L_gang i0 a1 a2 i9 M = some (r0, M9)) : Mo false l yL_gang (.codeWith yL_gang cL_gang 5 (some .int) [(0, 10, 13, 24)] :: TBL) (RM 7 1 6 162) 1 6 [.ref (G.2.1 i0), .int a1, .int a2, .ref (G.2.1 i9)] G M (some (.int r0)) M9 := by
  refine Mo.ofT (by decide +kernel) (Nat.le_of_ble_eq_true rfl) ?_
  intro p e s m args below meth c hC htab
  have hC : CX p s m args meth c cL_gang 5 RL (some .int) G := hC
  rw [f_L_gang] at hr
  obtain ⟨r, v, M1, q, hr⟩ := bd3_s hr
  show XJ p l e (RM 7 1 6 162) s m args below meth c G 5 _ 0 0 M 0 [(0, .ref (G.2.1 i0)), (1, .int a1), (2, .int a2), (3, .ref (G.2.1 i9))] []
  refine x_aload_n hC dL_gang_0 rfl 3 rfl ?_
  refine x_iconst hC (0 : Int32) dL_gang_1 (by decide) ?_
  refine x_aload_n hC dL_gang_2 rfl 0 rfl ?_
  refine x_iload_n hC dL_gang_3 rfl 1 rfl ?_
  refine x_iload_n hC dL_gang_4 rfl 2 rfl ?_
  refine x_callX (ci := 6) (q := (RX9, TX9, 11)) (As := [.int a1, .int a2]) hC (c_X9_gang l hlt G M hi0 a1 a2 q) kc_yX9_gang km_L_40 ki_yX9_gang kv_yX9_gang kn_RX9 ky_yX9_gang rfl ⟨rfl, rfl⟩ ⟨(Nat.le_of_ble_eq_true rfl), (Nat.le_of_ble_eq_true rfl)⟩ hi0 (by decide) rfl rfl (Nat.le_of_ble_eq_true rfl) ⟨(Nat.le_of_ble_eq_true rfl), (Nat.le_of_ble_eq_true rfl)⟩ dL_gang_5 (fun q9 ce H locs ls hne hP hS hl hcell hv hcl => ?_) (fun h0 => ?_)
  · rw [if_neg hne] at hr
    by_cases e0 : r = (3 : Int32)
    · subst e0
      rw [if_pos rfl] at hr
      refine x_catch (E := excN (3 : Int32)) (name := excN (3 : Int32)) hC htab [] ⟨0, 10, 13, 24⟩ [] rfl (fun z hz => by cases hz) rfl (by decide) exL3 exK3 rfl hP hS hl hcell hv hcl ?_
      refine x_astore hC [(4, .ref q9), (0, .ref (G.2.1 i0)), (1, .int a1), (2, .int a2), (3, .ref (G.2.1 i9))] dL_gang_13 (Nat.le_of_ble_eq_true rfl) rfl ?_
      refine x_iconst hC (1 : Int32) dL_gang_15 (by decide) ?_
      cases hr
      exact x_iret hC rfl dL_gang_16
    · rw [if_neg e0] at hr
      cases hr
  · subst h0
    rw [if_pos rfl] at hr
    obtain ⟨M2, e1, hr⟩ := lz_s hr
    refine x_i2l hC dL_gang_8 ?_
    refine x_oast hC hi9 (by decide) e1 dL_gang_9 ?_
    refine x_goto hC 17 dL_gang_10 (by decide) ?_
    refine x_iconst hC (0 : Int32) dL_gang_17 (by decide) ?_
    cases hr
    exact x_iret hC rfl dL_gang_18

theorem dL_pass_0 : decode cL_pass 0 = .ok (.aload_n 2, 1) := by decide +kernel
theorem dL_pass_1 : decode cL_pass 1 = .ok (.iconst 0, 1) := by decide +kernel
theorem dL_pass_2 : decode cL_pass 2 = .ok (.aload_n 0, 1) := by decide +kernel
theorem dL_pass_3 : decode cL_pass 3 = .ok (.iload_n 1, 1) := by decide +kernel
theorem dL_pass_4 : decode cL_pass 4 = .ok (.invokevirtual 44, 3) := by decide +kernel
theorem dL_pass_7 : decode cL_pass 7 = .ok (.i2l, 1) := by decide +kernel
theorem dL_pass_8 : decode cL_pass 8 = .ok (.lastore, 1) := by decide +kernel
theorem dL_pass_9 : decode cL_pass 9 = .ok (.goto 6, 3) := by decide +kernel
theorem dL_pass_12 : decode cL_pass 12 = .ok (.astore_n 3, 1) := by decide +kernel
theorem dL_pass_13 : decode cL_pass 13 = .ok (.iconst 1, 1) := by decide +kernel
theorem dL_pass_14 : decode cL_pass 14 = .ok (.ireturn, 1) := by decide +kernel
theorem dL_pass_15 : decode cL_pass 15 = .ok (.iconst 0, 1) := by decide +kernel
theorem dL_pass_16 : decode cL_pass 16 = .ok (.ireturn, 1) := by decide +kernel
def f_L_pass (i0 : Nat) (a1 : Int32) (i9 : Nat) (M : Mm) : Option (Int32 × Mm) :=
  bd3 (f_X9_pass i0 a1 M) fun r v M1 => if r = (0 : Int32) then (lz (wr M1 i9 0 v) fun M2 => some ((0 : Int32), M2)) else (if r = (2 : Int32) then some ((1 : Int32), M1) else none)
set_option maxHeartbeats 4000000 in
set_option maxRecDepth 100000 in
theorem c_L_pass (l : Launch) (hlt : l.stackTraces = false) (G : GG) (M : Mm) {i0 : Nat} (hi0 : (kd i0).1 = 6) (a1 : Int32) {i9 : Nat} (hi9 : kd i9 = (24, 1)) {r0 : Int32} {M9 : Mm} (hr : f_L_pass i0 a1 i9 M = some (r0, M9)) : Mo false l yL_pass (.codeWith yL_pass cL_pass 4 (some .int) [(0, 9, 12, 19)] :: TBL) (RM 7 1 6 215) 1 6 [.ref (G.2.1 i0), .int a1, .ref (G.2.1 i9)] G M (some (.int r0)) M9 := by
  refine Mo.ofT (by decide +kernel) (Nat.le_of_ble_eq_true rfl) ?_
  intro p e s m args below meth c hC htab
  have hC : CX p s m args meth c cL_pass 4 RL (some .int) G := hC
  rw [f_L_pass] at hr
  obtain ⟨r, v, M1, q, hr⟩ := bd3_s hr
  show XJ p l e (RM 7 1 6 215) s m args below meth c G 4 _ 0 0 M 0 [(0, .ref (G.2.1 i0)), (1, .int a1), (2, .ref (G.2.1 i9))] []
  refine x_aload_n hC dL_pass_0 rfl 2 rfl ?_
  refine x_iconst hC (0 : Int32) dL_pass_1 (by decide) ?_
  refine x_aload_n hC dL_pass_2 rfl 0 rfl ?_
  refine x_iload_n hC dL_pass_3 rfl 1 rfl ?_
  refine x_callX (ci := 6) (q := (RX9, TX9, 11)) (As := [.int a1]) hC (c_X9_pass l hlt G M hi0 a1 q) kc_yX9_pass km_L_44 ki_yX9_pass kv_yX9_pass kn_RX9 ky_yX9_pass rfl ⟨rfl, rfl⟩ ⟨(Nat.le_of_ble_eq_true rfl), (Nat.le_of_ble_eq_true rfl)⟩ hi0 (by decide) rfl rfl (Nat.le_of_ble_eq_true rfl) ⟨(Nat.le_of_ble_eq_true rfl), (Nat.le_of_ble_eq_true rfl)⟩ dL_pass_4 (fun q9 ce H locs ls hne hP hS hl hcell hv hcl => ?_) (fun h0 => ?_)
  · rw [if_neg hne] at hr
    by_cases e0 : r = (2 : Int32)
    · subst e0
      rw [if_pos rfl] at hr
      refine x_catch (E := excN (2 : Int32)) (name := excN (2 : Int32)) hC htab [] ⟨0, 9, 12, 19⟩ [] rfl (fun z hz => by cases hz) rfl (by decide) exL2 exK2 rfl hP hS hl hcell hv hcl ?_
      refine x_astore_n hC [(3, .ref q9), (0, .ref (G.2.1 i0)), (1, .int a1), (2, .ref (G.2.1 i9))] dL_pass_12 rfl (Nat.le_of_ble_eq_true rfl) rfl ?_
      refine x_iconst hC (1 : Int32) dL_pass_13 (by decide) ?_
      cases hr
      exact x_iret hC rfl dL_pass_14
    · rw [if_neg e0] at hr
      cases hr
  · subst h0
    rw [if_pos rfl] at hr
    obtain ⟨M2, e1, hr⟩ := lz_s hr
    refine x_i2l hC dL_pass_7 ?_
    refine x_oast hC hi9 (by decide) e1 dL_pass_8 ?_
    refine x_goto hC 15 dL_pass_9 (by decide) ?_
    refine x_iconst hC (0 : Int32) dL_pass_15 (by decide) ?_
    cases hr
    exact x_iret hC rfl dL_pass_16

theorem dL_foresee_0 : decode cL_foresee 0 = .ok (.aload_n 3, 1) := by decide +kernel
theorem dL_foresee_1 : decode cL_foresee 1 = .ok (.iconst 0, 1) := by decide +kernel
theorem dL_foresee_2 : decode cL_foresee 2 = .ok (.aload_n 0, 1) := by decide +kernel
theorem dL_foresee_3 : decode cL_foresee 3 = .ok (.iload_n 1, 1) := by decide +kernel
theorem dL_foresee_4 : decode cL_foresee 4 = .ok (.iload_n 2, 1) := by decide +kernel
theorem dL_foresee_5 : decode cL_foresee 5 = .ok (.invokevirtual 47, 3) := by decide +kernel
theorem dL_foresee_8 : decode cL_foresee 8 = .ok (.i2l, 1) := by decide +kernel
theorem dL_foresee_9 : decode cL_foresee 9 = .ok (.lastore, 1) := by decide +kernel
theorem dL_foresee_10 : decode cL_foresee 10 = .ok (.goto 11, 3) := by decide +kernel
theorem dL_foresee_13 : decode cL_foresee 13 = .ok (.astore 4, 2) := by decide +kernel
theorem dL_foresee_15 : decode cL_foresee 15 = .ok (.iconst 1, 1) := by decide +kernel
theorem dL_foresee_16 : decode cL_foresee 16 = .ok (.ireturn, 1) := by decide +kernel
theorem dL_foresee_17 : decode cL_foresee 17 = .ok (.astore 4, 2) := by decide +kernel
theorem dL_foresee_19 : decode cL_foresee 19 = .ok (.iconst 2, 1) := by decide +kernel
theorem dL_foresee_20 : decode cL_foresee 20 = .ok (.ireturn, 1) := by decide +kernel
theorem dL_foresee_21 : decode cL_foresee 21 = .ok (.iconst 0, 1) := by decide +kernel
theorem dL_foresee_22 : decode cL_foresee 22 = .ok (.ireturn, 1) := by decide +kernel
def f_L_foresee (i0 : Nat) (a1 : Int32) (a2 : Int32) (i9 : Nat) (M : Mm) : Option (Int32 × Mm) :=
  bd3 (f_X9_foresee i0 a1 a2 M) fun r v M1 => if r = (0 : Int32) then (lz (wr M1 i9 0 v) fun M2 => some ((0 : Int32), M2)) else (if r = (2 : Int32) then some ((1 : Int32), M1) else if r = (3 : Int32) then some ((2 : Int32), M1) else none)
set_option maxHeartbeats 4000000 in
set_option maxRecDepth 100000 in
theorem c_L_foresee (l : Launch) (hlt : l.stackTraces = false) (G : GG) (M : Mm) {i0 : Nat} (hi0 : (kd i0).1 = 6) (a1 : Int32) (a2 : Int32) {i9 : Nat} (hi9 : kd i9 = (24, 1)) {r0 : Int32} {M9 : Mm} (hr : f_L_foresee i0 a1 a2 i9 M = some (r0, M9)) : Mo false l yL_foresee (.codeWith yL_foresee cL_foresee 5 (some .int) [(0, 10, 13, 19), (0, 10, 17, 24)] :: TBL) (RM 7 1 6 215) 1 6 [.ref (G.2.1 i0), .int a1, .int a2, .ref (G.2.1 i9)] G M (some (.int r0)) M9 := by
  refine Mo.ofT (by decide +kernel) (Nat.le_of_ble_eq_true rfl) ?_
  intro p e s m args below meth c hC htab
  have hC : CX p s m args meth c cL_foresee 5 RL (some .int) G := hC
  rw [f_L_foresee] at hr
  obtain ⟨r, v, M1, q, hr⟩ := bd3_s hr
  show XJ p l e (RM 7 1 6 215) s m args below meth c G 5 _ 0 0 M 0 [(0, .ref (G.2.1 i0)), (1, .int a1), (2, .int a2), (3, .ref (G.2.1 i9))] []
  refine x_aload_n hC dL_foresee_0 rfl 3 rfl ?_
  refine x_iconst hC (0 : Int32) dL_foresee_1 (by decide) ?_
  refine x_aload_n hC dL_foresee_2 rfl 0 rfl ?_
  refine x_iload_n hC dL_foresee_3 rfl 1 rfl ?_
  refine x_iload_n hC dL_foresee_4 rfl 2 rfl ?_
  refine x_callX (ci := 6) (q := (RX9, TX9, 11)) (As := [.int a1, .int a2]) hC (c_X9_foresee l hlt G M hi0 a1 a2 q) kc_yX9_foresee km_L_47 ki_yX9_foresee kv_yX9_foresee kn_RX9 ky_yX9_foresee rfl ⟨rfl, rfl⟩ ⟨(Nat.le_of_ble_eq_true rfl), (Nat.le_of_ble_eq_true rfl)⟩ hi0 (by decide) rfl rfl (Nat.le_of_ble_eq_true rfl) ⟨(Nat.le_of_ble_eq_true rfl), (Nat.le_of_ble_eq_true rfl)⟩ dL_foresee_5 (fun q9 ce H locs ls hne hP hS hl hcell hv hcl => ?_) (fun h0 => ?_)
  · rw [if_neg hne] at hr
    by_cases e0 : r = (2 : Int32)
    · subst e0
      rw [if_pos rfl] at hr
      refine x_catch (E := excN (2 : Int32)) (name := excN (2 : Int32)) hC htab [] ⟨0, 10, 13, 19⟩ [⟨0, 10, 17, 24⟩] rfl (fun z hz => by cases hz) rfl (by decide) exL2 exK2 rfl hP hS hl hcell hv hcl ?_
      refine x_astore hC [(4, .ref q9), (0, .ref (G.2.1 i0)), (1, .int a1), (2, .int a2), (3, .ref (G.2.1 i9))] dL_foresee_13 (Nat.le_of_ble_eq_true rfl) rfl ?_
      refine x_iconst hC (1 : Int32) dL_foresee_15 (by decide) ?_
      cases hr
      exact x_iret hC rfl dL_foresee_16
    · rw [if_neg e0] at hr
      by_cases e1 : r = (3 : Int32)
      · subst e1
        rw [if_pos rfl] at hr
        refine x_catch (E := excN (3 : Int32)) (name := excN (3 : Int32)) hC htab [⟨0, 10, 13, 19⟩] ⟨0, 10, 17, 24⟩ [] rfl (fun z hz => by
      simp only [List.mem_cons, List.not_mem_nil, or_false] at hz
      rcases hz with rfl
      · exact ⟨by decide, eIAE, exL2, hC.2.2.2.2.2.2.2.2.2.2.2.2.2.2.2.2.2.2.1⟩) rfl (by decide) exL3 exK3 rfl hP hS hl hcell hv hcl ?_
        refine x_astore hC [(4, .ref q9), (0, .ref (G.2.1 i0)), (1, .int a1), (2, .int a2), (3, .ref (G.2.1 i9))] dL_foresee_17 (Nat.le_of_ble_eq_true rfl) rfl ?_
        refine x_iconst hC (2 : Int32) dL_foresee_19 (by decide) ?_
        cases hr
        exact x_iret hC rfl dL_foresee_20
      · rw [if_neg e1] at hr
        cases hr
  · subst h0
    rw [if_pos rfl] at hr
    obtain ⟨M2, e1, hr⟩ := lz_s hr
    refine x_i2l hC dL_foresee_8 ?_
    refine x_oast hC hi9 (by decide) e1 dL_foresee_9 ?_
    refine x_goto hC 21 dL_foresee_10 (by decide) ?_
    refine x_iconst hC (0 : Int32) dL_foresee_21 (by decide) ?_
    cases hr
    exact x_iret hC rfl dL_foresee_22

theorem dL_dries_0 : decode cL_dries 0 = .ok (.aload_n 3, 1) := by decide +kernel
theorem dL_dries_1 : decode cL_dries 1 = .ok (.iconst 0, 1) := by decide +kernel
theorem dL_dries_2 : decode cL_dries 2 = .ok (.aload_n 0, 1) := by decide +kernel
theorem dL_dries_3 : decode cL_dries 3 = .ok (.iload_n 1, 1) := by decide +kernel
theorem dL_dries_4 : decode cL_dries 4 = .ok (.iload_n 2, 1) := by decide +kernel
theorem dL_dries_5 : decode cL_dries 5 = .ok (.invokevirtual 50, 3) := by decide +kernel
theorem dL_dries_8 : decode cL_dries 8 = .ok (.i2l, 1) := by decide +kernel
theorem dL_dries_9 : decode cL_dries 9 = .ok (.lastore, 1) := by decide +kernel
theorem dL_dries_10 : decode cL_dries 10 = .ok (.goto 7, 3) := by decide +kernel
theorem dL_dries_13 : decode cL_dries 13 = .ok (.astore 4, 2) := by decide +kernel
theorem dL_dries_15 : decode cL_dries 15 = .ok (.iconst 1, 1) := by decide +kernel
theorem dL_dries_16 : decode cL_dries 16 = .ok (.ireturn, 1) := by decide +kernel
theorem dL_dries_17 : decode cL_dries 17 = .ok (.iconst 0, 1) := by decide +kernel
theorem dL_dries_18 : decode cL_dries 18 = .ok (.ireturn, 1) := by decide +kernel
def f_L_dries (i0 : Nat) (a1 : Int32) (a2 : Int32) (i9 : Nat) (M : Mm) : Option (Int32 × Mm) :=
  bd3 (f_X9_dries i0 a1 a2 M) fun r v M1 => if r = (0 : Int32) then (lz (wr M1 i9 0 v) fun M2 => some ((0 : Int32), M2)) else (if r = (3 : Int32) then some ((1 : Int32), M1) else none)
set_option maxHeartbeats 4000000 in
set_option maxRecDepth 100000 in
theorem c_L_dries (l : Launch) (hlt : l.stackTraces = false) (G : GG) (M : Mm) {i0 : Nat} (hi0 : (kd i0).1 = 6) (a1 : Int32) (a2 : Int32) {i9 : Nat} (hi9 : kd i9 = (24, 1)) {r0 : Int32} {M9 : Mm} (hr : f_L_dries i0 a1 a2 i9 M = some (r0, M9)) : Mo false l yL_dries (.codeWith yL_dries cL_dries 5 (some .int) [(0, 10, 13, 24)] :: TBL) (RM 7 1 6 167) 1 6 [.ref (G.2.1 i0), .int a1, .int a2, .ref (G.2.1 i9)] G M (some (.int r0)) M9 := by
  refine Mo.ofT (by decide +kernel) (Nat.le_of_ble_eq_true rfl) ?_
  intro p e s m args below meth c hC htab
  have hC : CX p s m args meth c cL_dries 5 RL (some .int) G := hC
  rw [f_L_dries] at hr
  obtain ⟨r, v, M1, q, hr⟩ := bd3_s hr
  show XJ p l e (RM 7 1 6 167) s m args below meth c G 5 _ 0 0 M 0 [(0, .ref (G.2.1 i0)), (1, .int a1), (2, .int a2), (3, .ref (G.2.1 i9))] []
  refine x_aload_n hC dL_dries_0 rfl 3 rfl ?_
  refine x_iconst hC (0 : Int32) dL_dries_1 (by decide) ?_
  refine x_aload_n hC dL_dries_2 rfl 0 rfl ?_
  refine x_iload_n hC dL_dries_3 rfl 1 rfl ?_
  refine x_iload_n hC dL_dries_4 rfl 2 rfl ?_
  refine x_callX (ci := 6) (q := (RX9, TX9, 11)) (As := [.int a1, .int a2]) hC (c_X9_dries l hlt G M hi0 a1 a2 q) kc_yX9_dries km_L_50 ki_yX9_dries kv_yX9_dries kn_RX9 ky_yX9_dries rfl ⟨rfl, rfl⟩ ⟨(Nat.le_of_ble_eq_true rfl), (Nat.le_of_ble_eq_true rfl)⟩ hi0 (by decide) rfl rfl (Nat.le_of_ble_eq_true rfl) ⟨(Nat.le_of_ble_eq_true rfl), (Nat.le_of_ble_eq_true rfl)⟩ dL_dries_5 (fun q9 ce H locs ls hne hP hS hl hcell hv hcl => ?_) (fun h0 => ?_)
  · rw [if_neg hne] at hr
    by_cases e0 : r = (3 : Int32)
    · subst e0
      rw [if_pos rfl] at hr
      refine x_catch (E := excN (3 : Int32)) (name := excN (3 : Int32)) hC htab [] ⟨0, 10, 13, 24⟩ [] rfl (fun z hz => by cases hz) rfl (by decide) exL3 exK3 rfl hP hS hl hcell hv hcl ?_
      refine x_astore hC [(4, .ref q9), (0, .ref (G.2.1 i0)), (1, .int a1), (2, .int a2), (3, .ref (G.2.1 i9))] dL_dries_13 (Nat.le_of_ble_eq_true rfl) rfl ?_
      refine x_iconst hC (1 : Int32) dL_dries_15 (by decide) ?_
      cases hr
      exact x_iret hC rfl dL_dries_16
    · rw [if_neg e0] at hr
      cases hr
  · subst h0
    rw [if_pos rfl] at hr
    obtain ⟨M2, e1, hr⟩ := lz_s hr
    refine x_i2l hC dL_dries_8 ?_
    refine x_oast hC hi9 (by decide) e1 dL_dries_9 ?_
    refine x_goto hC 17 dL_dries_10 (by decide) ?_
    refine x_iconst hC (0 : Int32) dL_dries_17 (by decide) ?_
    cases hr
    exact x_iret hC rfl dL_dries_18

theorem dL_done_0 : decode cL_done 0 = .ok (.aload_n 2, 1) := by decide +kernel
theorem dL_done_1 : decode cL_done 1 = .ok (.iconst 0, 1) := by decide +kernel
theorem dL_done_2 : decode cL_done 2 = .ok (.aload_n 0, 1) := by decide +kernel
theorem dL_done_3 : decode cL_done 3 = .ok (.iload_n 1, 1) := by decide +kernel
theorem dL_done_4 : decode cL_done 4 = .ok (.invokevirtual 53, 3) := by decide +kernel
theorem dL_done_7 : decode cL_done 7 = .ok (.i2l, 1) := by decide +kernel
theorem dL_done_8 : decode cL_done 8 = .ok (.lastore, 1) := by decide +kernel
theorem dL_done_9 : decode cL_done 9 = .ok (.goto 6, 3) := by decide +kernel
theorem dL_done_12 : decode cL_done 12 = .ok (.astore_n 3, 1) := by decide +kernel
theorem dL_done_13 : decode cL_done 13 = .ok (.iconst 1, 1) := by decide +kernel
theorem dL_done_14 : decode cL_done 14 = .ok (.ireturn, 1) := by decide +kernel
theorem dL_done_15 : decode cL_done 15 = .ok (.iconst 0, 1) := by decide +kernel
theorem dL_done_16 : decode cL_done 16 = .ok (.ireturn, 1) := by decide +kernel
def f_L_done (i0 : Nat) (a1 : Int32) (i9 : Nat) (M : Mm) : Option (Int32 × Mm) :=
  bd3 (f_X9_done i0 a1 M) fun r v M1 => if r = (0 : Int32) then (lz (wr M1 i9 0 v) fun M2 => some ((0 : Int32), M2)) else (if r = (3 : Int32) then some ((1 : Int32), M1) else none)
set_option maxHeartbeats 4000000 in
set_option maxRecDepth 100000 in
theorem c_L_done (l : Launch) (hlt : l.stackTraces = false) (G : GG) (M : Mm) {i0 : Nat} (hi0 : (kd i0).1 = 6) (a1 : Int32) {i9 : Nat} (hi9 : kd i9 = (24, 1)) {r0 : Int32} {M9 : Mm} (hr : f_L_done i0 a1 i9 M = some (r0, M9)) : Mo false l yL_done (.codeWith yL_done cL_done 4 (some .int) [(0, 9, 12, 24)] :: TBL) (RM 7 1 6 215) 1 6 [.ref (G.2.1 i0), .int a1, .ref (G.2.1 i9)] G M (some (.int r0)) M9 := by
  refine Mo.ofT (by decide +kernel) (Nat.le_of_ble_eq_true rfl) ?_
  intro p e s m args below meth c hC htab
  have hC : CX p s m args meth c cL_done 4 RL (some .int) G := hC
  rw [f_L_done] at hr
  obtain ⟨r, v, M1, q, hr⟩ := bd3_s hr
  show XJ p l e (RM 7 1 6 215) s m args below meth c G 4 _ 0 0 M 0 [(0, .ref (G.2.1 i0)), (1, .int a1), (2, .ref (G.2.1 i9))] []
  refine x_aload_n hC dL_done_0 rfl 2 rfl ?_
  refine x_iconst hC (0 : Int32) dL_done_1 (by decide) ?_
  refine x_aload_n hC dL_done_2 rfl 0 rfl ?_
  refine x_iload_n hC dL_done_3 rfl 1 rfl ?_
  refine x_callX (ci := 6) (q := (RX9, TX9, 11)) (As := [.int a1]) hC (c_X9_done l hlt G M hi0 a1 q) kc_yX9_done km_L_53 ki_yX9_done kv_yX9_done kn_RX9 ky_yX9_done rfl ⟨rfl, rfl⟩ ⟨(Nat.le_of_ble_eq_true rfl), (Nat.le_of_ble_eq_true rfl)⟩ hi0 (by decide) rfl rfl (Nat.le_of_ble_eq_true rfl) ⟨(Nat.le_of_ble_eq_true rfl), (Nat.le_of_ble_eq_true rfl)⟩ dL_done_4 (fun q9 ce H locs ls hne hP hS hl hcell hv hcl => ?_) (fun h0 => ?_)
  · rw [if_neg hne] at hr
    by_cases e0 : r = (3 : Int32)
    · subst e0
      rw [if_pos rfl] at hr
      refine x_catch (E := excN (3 : Int32)) (name := excN (3 : Int32)) hC htab [] ⟨0, 9, 12, 24⟩ [] rfl (fun z hz => by cases hz) rfl (by decide) exL3 exK3 rfl hP hS hl hcell hv hcl ?_
      refine x_astore_n hC [(3, .ref q9), (0, .ref (G.2.1 i0)), (1, .int a1), (2, .ref (G.2.1 i9))] dL_done_12 rfl (Nat.le_of_ble_eq_true rfl) rfl ?_
      refine x_iconst hC (1 : Int32) dL_done_13 (by decide) ?_
      cases hr
      exact x_iret hC rfl dL_done_14
    · rw [if_neg e0] at hr
      cases hr
  · subst h0
    rw [if_pos rfl] at hr
    obtain ⟨M2, e1, hr⟩ := lz_s hr
    refine x_i2l hC dL_done_7 ?_
    refine x_oast hC hi9 (by decide) e1 dL_done_8 ?_
    refine x_goto hC 15 dL_done_9 (by decide) ?_
    refine x_iconst hC (0 : Int32) dL_done_15 (by decide) ?_
    cases hr
    exact x_iret hC rfl dL_done_16

theorem dL_advise_0 : decode cL_advise 0 = .ok (.aload_n 2, 1) := by decide +kernel
theorem dL_advise_1 : decode cL_advise 1 = .ok (.iconst 0, 1) := by decide +kernel
theorem dL_advise_2 : decode cL_advise 2 = .ok (.aload_n 0, 1) := by decide +kernel
theorem dL_advise_3 : decode cL_advise 3 = .ok (.iload_n 1, 1) := by decide +kernel
theorem dL_advise_4 : decode cL_advise 4 = .ok (.invokevirtual 56, 3) := by decide +kernel
theorem dL_advise_7 : decode cL_advise 7 = .ok (.i2l, 1) := by decide +kernel
theorem dL_advise_8 : decode cL_advise 8 = .ok (.lastore, 1) := by decide +kernel
theorem dL_advise_9 : decode cL_advise 9 = .ok (.goto 6, 3) := by decide +kernel
theorem dL_advise_12 : decode cL_advise 12 = .ok (.astore_n 3, 1) := by decide +kernel
theorem dL_advise_13 : decode cL_advise 13 = .ok (.iconst 1, 1) := by decide +kernel
theorem dL_advise_14 : decode cL_advise 14 = .ok (.ireturn, 1) := by decide +kernel
theorem dL_advise_15 : decode cL_advise 15 = .ok (.iconst 0, 1) := by decide +kernel
theorem dL_advise_16 : decode cL_advise 16 = .ok (.ireturn, 1) := by decide +kernel
def f_L_advise (i0 : Nat) (a1 : Int32) (i9 : Nat) (M : Mm) : Option (Int32 × Mm) :=
  bd3 (f_X9_advise i0 a1 M) fun r v M1 => if r = (0 : Int32) then (lz (wr M1 i9 0 v) fun M2 => some ((0 : Int32), M2)) else (if r = (2 : Int32) then some ((1 : Int32), M1) else none)
set_option maxHeartbeats 4000000 in
set_option maxRecDepth 100000 in
theorem c_L_advise (l : Launch) (hlt : l.stackTraces = false) (G : GG) (M : Mm) {i0 : Nat} (hi0 : (kd i0).1 = 6) (a1 : Int32) {i9 : Nat} (hi9 : kd i9 = (24, 1)) {r0 : Int32} {M9 : Mm} (hr : f_L_advise i0 a1 i9 M = some (r0, M9)) : Mo false l yL_advise (.codeWith yL_advise cL_advise 4 (some .int) [(0, 9, 12, 19)] :: TBL) (RM 7 1 6 217) 1 6 [.ref (G.2.1 i0), .int a1, .ref (G.2.1 i9)] G M (some (.int r0)) M9 := by
  refine Mo.ofT (by decide +kernel) (Nat.le_of_ble_eq_true rfl) ?_
  intro p e s m args below meth c hC htab
  have hC : CX p s m args meth c cL_advise 4 RL (some .int) G := hC
  rw [f_L_advise] at hr
  obtain ⟨r, v, M1, q, hr⟩ := bd3_s hr
  show XJ p l e (RM 7 1 6 217) s m args below meth c G 4 _ 0 0 M 0 [(0, .ref (G.2.1 i0)), (1, .int a1), (2, .ref (G.2.1 i9))] []
  refine x_aload_n hC dL_advise_0 rfl 2 rfl ?_
  refine x_iconst hC (0 : Int32) dL_advise_1 (by decide) ?_
  refine x_aload_n hC dL_advise_2 rfl 0 rfl ?_
  refine x_iload_n hC dL_advise_3 rfl 1 rfl ?_
  refine x_callX (ci := 6) (q := (RX9, TX9, 11)) (As := [.int a1]) hC (c_X9_advise l hlt G M hi0 a1 q) kc_yX9_advise km_L_56 ki_yX9_advise kv_yX9_advise kn_RX9 ky_yX9_advise rfl ⟨rfl, rfl⟩ ⟨(Nat.le_of_ble_eq_true rfl), (Nat.le_of_ble_eq_true rfl)⟩ hi0 (by decide) rfl rfl (Nat.le_of_ble_eq_true rfl) ⟨(Nat.le_of_ble_eq_true rfl), (Nat.le_of_ble_eq_true rfl)⟩ dL_advise_4 (fun q9 ce H locs ls hne hP hS hl hcell hv hcl => ?_) (fun h0 => ?_)
  · rw [if_neg hne] at hr
    by_cases e0 : r = (2 : Int32)
    · subst e0
      rw [if_pos rfl] at hr
      refine x_catch (E := excN (2 : Int32)) (name := excN (2 : Int32)) hC htab [] ⟨0, 9, 12, 19⟩ [] rfl (fun z hz => by cases hz) rfl (by decide) exL2 exK2 rfl hP hS hl hcell hv hcl ?_
      refine x_astore_n hC [(3, .ref q9), (0, .ref (G.2.1 i0)), (1, .int a1), (2, .ref (G.2.1 i9))] dL_advise_12 rfl (Nat.le_of_ble_eq_true rfl) rfl ?_
      refine x_iconst hC (1 : Int32) dL_advise_13 (by decide) ?_
      cases hr
      exact x_iret hC rfl dL_advise_14
    · rw [if_neg e0] at hr
      cases hr
  · subst h0
    rw [if_pos rfl] at hr
    obtain ⟨M2, e1, hr⟩ := lz_s hr
    refine x_i2l hC dL_advise_7 ?_
    refine x_oast hC hi9 (by decide) e1 dL_advise_8 ?_
    refine x_goto hC 15 dL_advise_9 (by decide) ?_
    refine x_iconst hC (0 : Int32) dL_advise_15 (by decide) ?_
    cases hr
    exact x_iret hC rfl dL_advise_16

theorem dL_byteAt_0 : decode cL_byteAt 0 = .ok (.aload_n 2, 1) := by decide +kernel
theorem dL_byteAt_1 : decode cL_byteAt 1 = .ok (.iconst 0, 1) := by decide +kernel
theorem dL_byteAt_2 : decode cL_byteAt 2 = .ok (.aload_n 0, 1) := by decide +kernel
theorem dL_byteAt_3 : decode cL_byteAt 3 = .ok (.iload_n 1, 1) := by decide +kernel
theorem dL_byteAt_4 : decode cL_byteAt 4 = .ok (.invokevirtual 59, 3) := by decide +kernel
theorem dL_byteAt_7 : decode cL_byteAt 7 = .ok (.i2l, 1) := by decide +kernel
theorem dL_byteAt_8 : decode cL_byteAt 8 = .ok (.lastore, 1) := by decide +kernel
theorem dL_byteAt_9 : decode cL_byteAt 9 = .ok (.goto 6, 3) := by decide +kernel
theorem dL_byteAt_12 : decode cL_byteAt 12 = .ok (.astore_n 3, 1) := by decide +kernel
theorem dL_byteAt_13 : decode cL_byteAt 13 = .ok (.iconst 1, 1) := by decide +kernel
theorem dL_byteAt_14 : decode cL_byteAt 14 = .ok (.ireturn, 1) := by decide +kernel
theorem dL_byteAt_15 : decode cL_byteAt 15 = .ok (.iconst 0, 1) := by decide +kernel
theorem dL_byteAt_16 : decode cL_byteAt 16 = .ok (.ireturn, 1) := by decide +kernel
def f_L_byteAt (i0 : Nat) (a1 : Int32) (i9 : Nat) (M : Mm) : Option (Int32 × Mm) :=
  bd3 (f_X9_byteAt i0 a1 M) fun r v M1 => if r = (0 : Int32) then (lz (wr M1 i9 0 v) fun M2 => some ((0 : Int32), M2)) else (if r = (3 : Int32) then some ((1 : Int32), M1) else none)
set_option maxHeartbeats 4000000 in
set_option maxRecDepth 100000 in
theorem c_L_byteAt (l : Launch) (hlt : l.stackTraces = false) (G : GG) (M : Mm) {i0 : Nat} (hi0 : (kd i0).1 = 6) (a1 : Int32) {i9 : Nat} (hi9 : kd i9 = (24, 1)) {r0 : Int32} {M9 : Mm} (hr : f_L_byteAt i0 a1 i9 M = some (r0, M9)) : Mo false l yL_byteAt (.codeWith yL_byteAt cL_byteAt 4 (some .int) [(0, 9, 12, 24)] :: TBL) (RM 7 1 6 161) 1 6 [.ref (G.2.1 i0), .int a1, .ref (G.2.1 i9)] G M (some (.int r0)) M9 := by
  refine Mo.ofT (by decide +kernel) (Nat.le_of_ble_eq_true rfl) ?_
  intro p e s m args below meth c hC htab
  have hC : CX p s m args meth c cL_byteAt 4 RL (some .int) G := hC
  rw [f_L_byteAt] at hr
  obtain ⟨r, v, M1, q, hr⟩ := bd3_s hr
  show XJ p l e (RM 7 1 6 161) s m args below meth c G 4 _ 0 0 M 0 [(0, .ref (G.2.1 i0)), (1, .int a1), (2, .ref (G.2.1 i9))] []
  refine x_aload_n hC dL_byteAt_0 rfl 2 rfl ?_
  refine x_iconst hC (0 : Int32) dL_byteAt_1 (by decide) ?_
  refine x_aload_n hC dL_byteAt_2 rfl 0 rfl ?_
  refine x_iload_n hC dL_byteAt_3 rfl 1 rfl ?_
  refine x_callX (ci := 6) (q := (RX9, TX9, 11)) (As := [.int a1]) hC (c_X9_byteAt l hlt G M hi0 a1 q) kc_yX9_byteAt km_L_59 ki_yX9_byteAt kv_yX9_byteAt kn_RX9 ky_yX9_byteAt rfl ⟨rfl, rfl⟩ ⟨(Nat.le_of_ble_eq_true rfl), (Nat.le_of_ble_eq_true rfl)⟩ hi0 (by decide) rfl rfl (Nat.le_of_ble_eq_true rfl) ⟨(Nat.le_of_ble_eq_true rfl), (Nat.le_of_ble_eq_true rfl)⟩ dL_byteAt_4 (fun q9 ce H locs ls hne hP hS hl hcell hv hcl => ?_) (fun h0 => ?_)
  · rw [if_neg hne] at hr
    by_cases e0 : r = (3 : Int32)
    · subst e0
      rw [if_pos rfl] at hr
      refine x_catch (E := excN (3 : Int32)) (name := excN (3 : Int32)) hC htab [] ⟨0, 9, 12, 24⟩ [] rfl (fun z hz => by cases hz) rfl (by decide) exL3 exK3 rfl hP hS hl hcell hv hcl ?_
      refine x_astore_n hC [(3, .ref q9), (0, .ref (G.2.1 i0)), (1, .int a1), (2, .ref (G.2.1 i9))] dL_byteAt_12 rfl (Nat.le_of_ble_eq_true rfl) rfl ?_
      refine x_iconst hC (1 : Int32) dL_byteAt_13 (by decide) ?_
      cases hr
      exact x_iret hC rfl dL_byteAt_14
    · rw [if_neg e0] at hr
      cases hr
  · subst h0
    rw [if_pos rfl] at hr
    obtain ⟨M2, e1, hr⟩ := lz_s hr
    refine x_i2l hC dL_byteAt_7 ?_
    refine x_oast hC hi9 (by decide) e1 dL_byteAt_8 ?_
    refine x_goto hC 15 dL_byteAt_9 (by decide) ?_
    refine x_iconst hC (0 : Int32) dL_byteAt_15 (by decide) ?_
    cases hr
    exact x_iret hC rfl dL_byteAt_16
