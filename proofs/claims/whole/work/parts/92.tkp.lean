/-! needs 30 91 -/
/-! the start, in the words of the worlds -/
theorem fp_rp : FLC[76]? = some (.isRef (.static "jdk/internal/util/Preconditions" "SIOOBE_FORMATTER" "Ljava/util/function/BiFunction;")) := by decide +kernel
theorem fp_ru : FLC[214]? = some (.isRef (.static "java/lang/Throwable" "UNASSIGNED_STACK" "[Ljava/lang/StackTraceElement;")) := by decide +kernel
theorem fp_rs : FLC[215]? = some (.isRef (.static "java/lang/Throwable" "SUPPRESSED_SENTINEL" "Ljava/util/List;")) := by decide +kernel
theorem wp_l_un : lw_tbl[805]? = some (.laysStatic "java/lang/Throwable" "UNASSIGNED_STACK" "[Ljava/lang/StackTraceElement;") := by decide +kernel
theorem wp_l_su : lw_tbl[807]? = some (.laysStatic "java/lang/Throwable" "SUPPRESSED_SENTINEL" "Ljava/util/List;") := by decide +kernel
section SK
variable {args : Array Value} {s : State}
theorem tw_in (hts : ∀ w ∈ lw_tbl, w.before args s = true) {w : Cond} (i : Nat) (h : lw_tbl[i]? = some w) : w.before args s = true := hts w (List.mem_of_getElem? h)
theorem ex_ev {t : Term} {cls : String} (h : (Cond.exactly t cls).before args s = true) : ∃ a : Nat, t.eval args s none [] s = some (.ref a) := by
  obtain ⟨a, c, cell, k, q1, -⟩ := Cond.exactly_spec (args := args) (first := s) (o := none) (s := s) (idx := []) (t := t) (cls := cls) h
  exact ⟨a, q1⟩
theorem tk_text (i : Nat) (h : i < 51) : tkT i < 48 := tkT_lt i
theorem byl (i : Nat) (h : i < 48) : (txB.getD i []).length < 2 ^ 31 := by have := (tx_ok i h).1; omega
theorem tkp_start (hts : ∀ w ∈ lw_tbl, w.before args s = true) (hg : (Cond.and given_1 narrow_1).before args s = true) :
    ∃ (tok : Nat → Nat) (ad : Nat → Nat × Nat) (t0 t1 t2 : Nat), ∀ (G : GG) (A : Nat → Prop), (∀ a : Nat, a < s.heap.size → ¬ A a) → (∀ i, i < 51 → G.2.1 (1000 + i) = tok i) → (∀ i, i < 48 → G.2.1 (2000 + i) = (ad i).1 ∧ G.2.1 (3000 + i) = (ad i).2) → G.2.1 1900 = t0 → G.2.1 1901 = t1 → G.2.1 1902 = t2 → TKP G A s s.heap ∧ TKI G := by
  have hF : ∀ a : Nat, a < s.heap.size → ¬ (fun _ : Nat => False) a := fun _ _ h => h
  have h0 : ∀ i, ∃ a : Nat, i < 51 → (Term.static "PeatBog$Token" (tkNm.getD i "") "LPeatBog$Token;").eval args s none [] s = some (.ref a) := by
    intro i
    by_cases hi : i < 51
    · obtain ⟨a, ha⟩ := ex_ev (fl_in hg _ (fp_ex i hi))
      exact ⟨a, fun _ => ha⟩
    · exact ⟨0, fun h => absurd h hi⟩
  obtain ⟨tok, htok⟩ := Classical.axiomOfChoice h0
  have h1 : ∀ i, ∃ q : Nat × Nat, i < 48 → (Term.string "PeatBog$Token" (kTx.getD i 0)).eval args s none [] s = some (.ref q.1) ∧ (Term.field (Term.string "PeatBog$Token" (kTx.getD i 0)) "java/lang/String" "value" "[B").eval args s none [] s = some (.ref q.2) := by
    intro i
    by_cases hi : i < 48
    · obtain ⟨a, ha⟩ := ex_ev (fl_in hg _ (fp_sx i hi))
      obtain ⟨t, ht, -⟩ := va_Tof (f := fun j => .int ((txB.getD i []).getD j 0)) (A := fun _ => False) (byl i hi) (fl_in hg _ (fp_sa i hi)) (va_eqt (fl_in hg _ (fp_sl i hi))) (fun j hj => va_eqt (fl_in hg _ (fp_sb i hi j hj))) hF
      exact ⟨(a, t), fun _ => ⟨ha, ht⟩⟩
    · exact ⟨(0, 0), fun h => absurd h hi⟩
  obtain ⟨ad, had⟩ := Classical.axiomOfChoice h1
  have hkw : ∀ j, j < 30 → (Term.string "PeatBogModel" (kMx.getD j 0)).eval args s none [] s = some (.ref (ad j).1) := by
    intro j hj
    obtain ⟨x, hx⟩ := ex_ev (fl_in hg _ (fp_kx j hj))
    have ha := (had j (by omega)).1
    rcases fp_ke j hj with h | h
    · have h2 := va_eqv (fl_in hg _ h) hx
      rw [ha] at h2
      rw [hx]
      exact h2.symm
    · exact va_eqv (fl_in hg _ h) ha
  have hall : ∀ j, j < 51 → (Term.elem (Term.static "PeatBog$Token" "ALL" "[LPeatBog$Token;") (.int (Int32.ofNat j))).eval args s none [] s = some (.ref (tok j)) := fun j hj => va_eqv (fl_in hg _ (fp_all j hj)) (htok j hj)
  have hsw : ∀ j, j < 51 → (Term.elem (Term.static "PeatBog$1" "$SwitchMap$PeatBog$Token" "[I") (.int (Int32.ofNat j))).eval args s none [] s = some (.int (tkW.getD j 0)) := fun j hj => va_eqt (fl_in hg _ (fp_sw j hj))
  have hky : ∀ j, j < 30 → (Term.elem (Term.static "PeatBogModel" "KEYWORDS" "[Ljava/lang/String;") (.int (Int32.ofNat j))).eval args s none [] s = some (.ref (ad j).1) := fun j hj => va_eqv (fl_in hg _ (fp_kw j hj)) (hkw j hj)
  obtain ⟨t0, e0, -⟩ := va_Tof (N := 51) (f := fun j => .ref (tok j)) (A := fun _ => False) (by decide) (fl_in hg _ fp_allA) (va_eqt (fl_in hg _ fp_allL)) hall hF
  obtain ⟨t1, e1, -⟩ := va_Tof (N := 51) (f := fun j => .int (tkW.getD j 0)) (A := fun _ => False) (by decide) (fl_in hg _ fp_swA) (va_eqt (fl_in hg _ fp_swL)) hsw hF
  obtain ⟨t2, e2, -⟩ := va_Tof (N := 30) (f := fun j => .ref (ad j).1) (A := fun _ => False) (by decide) (fl_in hg _ fp_kwA) (va_eqt (fl_in hg _ fp_kwL)) hky hF
  refine ⟨tok, ad, t0, t1, t2, fun G A hA g1 g2 g3 g4 g5 => ⟨⟨fun i hi => ?_, fun i hi => ?_, ?_, ?_, ?_, ?_, ?_, ?_, ?_, ?_, ?_, ?_⟩, fun i j hi hj e => ?_⟩⟩
  · rw [g1 i hi, (g2 (tkT i) (tk_text i hi)).1]
    have ht := htok i hi
    exact ⟨va_Zof (tw_in hts _ (wp_ls i hi)) (tw_in hts _ wp_i_tok) ht hA, va_Oof (fl_in hg _ (fp_ex i hi)) ht hA, vk_OFof ht (va_eqt (fl_in hg _ (fp_ord i hi))) hA, vk_OFof ht (va_eqt (fl_in hg _ (fp_grp i hi))) hA, vk_OFof ht (va_eqt (fl_in hg _ (fp_op i hi))) hA, vk_OFof ht (va_eqv (fl_in hg _ (fp_txt i hi)) (had (tkT i) (tk_text i hi)).1) hA⟩
  · rw [(g2 i hi).1, (g2 i hi).2]
    obtain ⟨ha, hv⟩ := had i hi
    obtain ⟨t, ht, hT⟩ := va_Tof (f := fun j => .int ((txB.getD i []).getD j 0)) (A := A) (byl i hi) (fl_in hg _ (fp_sa i hi)) (va_eqt (fl_in hg _ (fp_sl i hi))) (fun j hj => va_eqt (fl_in hg _ (fp_sb i hi j hj))) hA
    rw [hv] at ht
    cases ht
    exact ⟨va_Oof (fl_in hg _ (fp_sx i hi)) ha hA, vk_OFof ha (va_eqt (fl_in hg _ (fp_sc i hi))) hA, vk_OFof ha hv hA, hT⟩
  · rw [g3]; exact va_Zof (tw_in hts _ wp_l_all) (tw_in hts _ wp_i_tok) e0 hA
  · rw [g3]
    obtain ⟨t, ht, hT⟩ := va_Tof (N := 51) (f := fun j => .ref (G.2.1 (1000 + j))) (A := A) (by decide) (fl_in hg _ fp_allA) (va_eqt (fl_in hg _ fp_allL)) (fun j hj => by rw [g1 j hj]; exact hall j hj) hA
    rw [e0] at ht
    cases ht
    exact hT
  · rw [g4]; exact va_Zof (tw_in hts _ wp_l_sw) (tw_in hts _ wp_i_one) e1 hA
  · rw [g4]
    obtain ⟨t, ht, hT⟩ := va_Tof (N := 51) (f := fun j => .int (tkW.getD j 0)) (A := A) (by decide) (fl_in hg _ fp_swA) (va_eqt (fl_in hg _ fp_swL)) hsw hA
    rw [e1] at ht
    cases ht
    exact hT
  · rw [g5]; exact va_Zof (tw_in hts _ wp_l_kw) (tw_in hts _ wp_i_mod) e2 hA
  · rw [g5]
    obtain ⟨t, ht, hT⟩ := va_Tof (N := 30) (f := fun j => .ref (G.2.1 (2000 + j))) (A := A) (by decide) (fl_in hg _ fp_kwA) (va_eqt (fl_in hg _ fp_kwL)) (fun j hj => by rw [(g2 j (by omega)).1]; exact hky j hj) hA
    rw [e2] at ht
    cases ht
    exact hT
  · exact va_Zof (tw_in hts _ wp_l_cs) (tw_in hts _ wp_i_str) (va_eqt (fl_in hg _ fp_cs)) hA
  · exact va_Zqof (tw_in hts _ wp_l_pf) (tw_in hts _ wp_i_pre) (fl_in hg _ fp_rp) hA
  · exact vx_Zqof (tw_in hts _ wp_l_un) (tw_in hts _ wp_i_thr) (fl_in hg _ fp_ru) hA
  · exact vx_Zqof (tw_in hts _ wp_l_su) (tw_in hts _ wp_i_thr) (fl_in hg _ fp_rs) hA
  · rw [g1 i hi, g1 j hj] at e
    have a1 := va_eqt (fl_in hg _ (fp_ord i hi))
    have a2 := va_eqt (fl_in hg _ (fp_ord j hj))
    rw [va_fe (htok i hi)] at a1
    rw [va_fe (htok j hj)] at a2
    rw [e, a2] at a1
    have h3 : nI j = nI i := Value.int.inj (Option.some.inj a1)
    exact ((n_inj (by omega) (by omega)).mp h3).symm
theorem msg_start (hts : ∀ w ∈ lw_tbl, w.before args s = true) (hg : (Cond.and given_1 narrow_1).before args s = true) : MSG s := by
  refine ⟨fun q hq => ?_, va_Nc.of (fl_in hg _ fp_eISEeIAE), va_Nc.of (fl_in hg _ fp_eISEeIOE), va_Nc.of (fl_in hg _ fp_eIAEeISE), va_Nc.of (fl_in hg _ fp_eIAEeIOE), va_Nc.of (fl_in hg _ fp_eIOEeISE), va_Nc.of (fl_in hg _ fp_eIOEeIAE), cas.of (tw_in hts _ wp_c_ise), cas.of (tw_in hts _ wp_c_iae), cas.of (tw_in hts _ wp_c_ioe)⟩
  obtain ⟨i, hi, e⟩ := List.mem_iff_getElem.mp hq
  have hi17 : i < 17 := hi
  have e2 : msgL.getD i (0, "") = q := by rw [List.getD_eq_getElem?_getD, List.getElem?_eq_getElem hi, e]; rfl
  have h1 := fp_mx i hi17
  have h2 := wp_mx i hi17
  rw [e2] at h1 h2
  obtain ⟨a, ha⟩ := ex_ev (fl_in hg _ h1)
  exact ⟨a, vk_R.of (tw_in hts _ h2) ha⟩
theorem k_start (hts : ∀ w ∈ lw_tbl, w.before args s = true) : ∃ D : DG, KG D s := by
  have ht : ∀ w ∈ TBL, w.before args s = true := fun w h => hts w (tbl_good w h).1
  obtain ⟨c0, i0, k0⟩ := u_known (C := RX1) (T := TX1) (N := 17) ht fw_0 (ht _ (tb_5 (List.mem_of_getElem? (i := 23) rfl)))
  obtain ⟨c1, i1, k1⟩ := u_known (C := RX2) (T := TX2) (N := 11) ht fw_1 (ht _ (tb_5 (List.mem_of_getElem? (i := 29) rfl)))
  obtain ⟨c2, i2, k2⟩ := u_known (C := RX5) (T := TX5) (N := 7) ht fw_2 (ht _ (tb_4 (List.mem_of_getElem? (i := 13) rfl)))
  obtain ⟨c3, i3, k3⟩ := u_known (C := RX8) (T := TX8) (N := 5) ht fw_3 (ht _ (tb_8 (List.mem_of_getElem? (i := 0) rfl)))
  obtain ⟨c4, i4, k4⟩ := u_known (C := RX10) (T := TX10) (N := 13) ht fw_4 (ht _ (tb_24 (List.mem_of_getElem? (i := 27) rfl)))
  obtain ⟨c5, i5, k5⟩ := u_known (C := RX11) (T := TX11) (N := 32) ht fw_5 (ht _ (tb_24 (List.mem_of_getElem? (i := 21) rfl)))
  obtain ⟨c6, i6, k6⟩ := u_known (C := RX9) (T := TX9) (N := 11) ht fw_6 (ht _ (tb_3 (List.mem_of_getElem? (i := 16) rfl)))
  obtain ⟨c7, i7, k7⟩ := u_known (C := RX4) (T := TX4) (N := 7) ht fw_7 (ht _ (tb_3 (List.mem_of_getElem? (i := 24) rfl)))
  obtain ⟨c8, i8, k8⟩ := u_known (C := RX6) (T := TX6) (N := 5) ht fw_8 (ht _ (tb_3 (List.mem_of_getElem? (i := 29) rfl)))
  obtain ⟨b0, kA0, m0, x0, y0, z0⟩ := Cond.arrayClass_spec (args := args) (first := s) (o := none) (s := s) (idx := []) (type := .int) (tw_in hts _ wp_a_int)
  obtain ⟨b1, kA1, m1, x1, y1, z1⟩ := Cond.arrayClass_spec (args := args) (first := s) (o := none) (s := s) (idx := []) (type := .byte) (tw_in hts _ wp_a_byte)
  obtain ⟨b4, kA4, m4, x4, y4, z4⟩ := Cond.arrayClass_spec (args := args) (first := s) (o := none) (s := s) (idx := []) (type := .long) (tw_in hts _ wp_a_long)
  obtain ⟨m2, b2, kA2, v2, w2, x2, y2, z2⟩ := Cond.arrayOver_spec (args := args) (first := s) (o := none) (s := s) (idx := []) (n := "PeatBog$Gang") (tw_in hts _ wp_o_gang)
  obtain ⟨m3, b3, kA3, v3, w3, x3, y3, z3⟩ := Cond.arrayOver_spec (args := args) (first := s) (o := none) (s := s) (idx := []) (n := "PeatBog$Token") (tw_in hts _ wp_o_tok)
  refine ⟨((fun c => [c0, c1, c2, c3, c4, c5, c6, c7, c8].getD c c0, fun c => [i0, i1, i2, i3, i4, i5, i6, i7, i8].getD c i0), fun c => [b0, b1, b2, b3, b4].getD c b0), ⟨fun c q hq => ?_, fun k q hq => ?_⟩, fun w hw => ?_, va_AO.of (tw_in hts _ wp_o_gang), va_AO.of (tw_in hts _ wp_o_tok)⟩
  · have hc : c < 9 := (List.getElem?_eq_some_iff.mp hq).1
    have : c = 0 ∨ c = 1 ∨ c = 2 ∨ c = 3 ∨ c = 4 ∨ c = 5 ∨ c = 6 ∨ c = 7 ∨ c = 8 := by omega
    rcases this with rfl | rfl | rfl | rfl | rfl | rfl | rfl | rfl | rfl
    · cases hq; exact k0
    · cases hq; exact k1
    · cases hq; exact k2
    · cases hq; exact k3
    · cases hq; exact k4
    · cases hq; exact k5
    · cases hq; exact k6
    · cases hq; exact k7
    · cases hq; exact k8
  · have hk : k < 5 := (List.getElem?_eq_some_iff.mp hq).1
    have : k = 0 ∨ k = 1 ∨ k = 2 ∨ k = 3 ∨ k = 4 := by omega
    rcases this with rfl | rfl | rfl | rfl | rfl
    · cases hq; exact ⟨fun n z => ⟨fun k h => (by cases h), kA0, y0, m0, z0⟩, x0⟩
    · cases hq; exact ⟨fun n z => ⟨fun k h => (by cases h), kA1, y1, m1, z1⟩, x1⟩
    · cases hq; exact ⟨fun n z => ⟨fun k h => (by cases h), kA2, x2, m2, y2⟩, kA2, m2, x2, y2, v2, z2⟩
    · cases hq; exact ⟨fun n z => ⟨fun k h => (by cases h), kA3, x3, m3, y3⟩, kA3, m3, x3, y3, v3, z3⟩
    · cases hq; exact ⟨fun n z => ⟨fun k h => (by cases h), kA4, y4, m4, z4⟩, x4⟩
  · have h2 : w ∈ lw_tbl := by
      rw [wp_ntl] at hw
      obtain ⟨i, -, hi⟩ := List.mem_filterMap.mp hw
      exact List.mem_of_getElem? hi
    have h3 := hts w h2
    rcases ntl_fm w hw with ⟨_, _, _, _, _, _, e⟩ | ⟨_, _, _, _, e⟩
    · subst e; exact h3
    · subst e; exact h3
end SK
