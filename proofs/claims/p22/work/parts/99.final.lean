/-! the law -/
theorem w_Ds {p : Program} {l : Launch} {e : Env} {s : State} {m : MethodId} {args : Array Value} {below : List Frame} {meth : Method} {c : Code} {D : DG} {F : EF} {A : Nat → Prop} {Q : State → Prop} {k n : Nat} {a N : Nat} {f : Nat → Int32} {G : GG} (hC : CY p s m args meth c cL_law 12 RL (some .boolean) D A) (hE : ENV F A s s.heap) (hg : GO D F G) (hm : (a, N, f) ∈ F.2.1) (hN : N < 2147483648) (hT : LTX F) {M : Mm} {H ng : Nat} (hV : LV H ng M) {t : Nat} {lost stk : Int32} (ht24 : t < 24) (hk : k ≤ 600086) (hn : n ≤ 7301442) (K : XC p l e (RM 2048 600086 7301442 84000) s m args below meth c D A 12 Q (k) (n) ([] ++ WL G M) 502 [(8, .int (nI 64)), (7, .int (cvA ng M 7)), (4, .int (nI (t))), (3, .int lost), (2, .int stk), (1, .ref (G.2.1 0)), (0, .ref a)] []) : ∀ (r j : Nat) (br : Int32), j + r = 64 → accL (M 33) r j br = cvA ng M 7 → XC p l e (RM 2048 600086 7301442 84000) s m args below meth c D A 12 Q (k) (n) ([] ++ WL G M) 502 [(8, .int (nI j)), (7, .int br), (4, .int (nI (t))), (3, .int lost), (2, .int stk), (1, .ref (G.2.1 0)), (0, .ref a)] [] := by
  intro r
  induction r with
  | zero =>
    intro j br h e
    obtain rfl : j = 64 := by omega
    have e2 : br = cvA ng M 7 := e
    rw [e2]
    exact K
  | succ r ih =>
    intro j br h e
    refine w_D1 hC hE hg hm hN hT hV ht24 (by omega) (by omega) (by omega) ?_
    refine w_D2 hC hE hg hm hN hT hV ht24 (by omega) (by omega) (by omega) ?_
    exact ih (j + 1) (br + M 33 j) (by omega) e
theorem w_Es {p : Program} {l : Launch} {e : Env} {s : State} {m : MethodId} {args : Array Value} {below : List Frame} {meth : Method} {c : Code} {D : DG} {F : EF} {A : Nat → Prop} {Q : State → Prop} {k n : Nat} {a N : Nat} {f : Nat → Int32} {G : GG} (hC : CY p s m args meth c cL_law 12 RL (some .boolean) D A) (hE : ENV F A s s.heap) (hg : GO D F G) (hm : (a, N, f) ∈ F.2.1) (hN : N < 2147483648) (hT : LTX F) {M : Mm} {H ng : Nat} (hV : LV H ng M) {t : Nat} {lost stk : Int32} (ht24 : t < 24) (hk : k ≤ 600086) (hn : n ≤ 7301442) (hH : H < 90000) {br : Int32} (K : XC p l e (RM 2048 600086 7301442 84000) s m args below meth c D A 12 Q (k) (n) ([] ++ WL G M) 723 [(9, .int (nI ng)), (8, .int (cvA ng M 8)), (7, .int br), (4, .int (nI (t))), (3, .int lost), (2, .int stk), (1, .ref (G.2.1 0)), (0, .ref a)] []) : ∀ (r g : Nat) (ca : Int32), g + r = ng → accL (fun g => M (39 + 2 * g) 2) r g ca = cvA ng M 8 → XC p l e (RM 2048 600086 7301442 84000) s m args below meth c D A 12 Q (k) (n) ([] ++ WL G M) 723 [(9, .int (nI g)), (8, .int ca), (7, .int br), (4, .int (nI (t))), (3, .int lost), (2, .int stk), (1, .ref (G.2.1 0)), (0, .ref a)] [] := by
  intro r
  induction r with
  | zero =>
    intro g ca h e
    obtain rfl : g = ng := by omega
    have e2 : ca = cvA g M 8 := e
    rw [e2]
    exact K
  | succ r ih =>
    intro g ca h e
    refine w_E1 hC hE hg hm hN hT hV ht24 (by omega) hH (by omega) (by omega) ?_
    refine w_E2 hC hE hg hm hN hT hV ht24 (by omega) hH (by omega) (by omega) ?_
    exact ih (g + 1) (ca + M (39 + 2 * g) 2) (by omega) e
theorem w_tail {p : Program} {l : Launch} {e : Env} {s : State} {m : MethodId} {args : Array Value} {below : List Frame} {meth : Method} {c : Code} {D : DG} {F : EF} {A : Nat → Prop} {Q : State → Prop} {k n : Nat} {a N : Nat} {f : Nat → Int32} {G : GG} (hC : CY p s m args meth c cL_law 12 RL (some .boolean) D A) (hE : ENV F A s s.heap) (hg : GO D F G) (hm : (a, N, f) ∈ F.2.1) (hN : N < 2147483648) (hT : LTX F) {M : Mm} {H ng : Nat} (hV : LV H ng M) {t : Nat} {lost stk : Int32} (ht24 : t < 24) (hk : k ≤ 600086) (hn : n ≤ 7301442) (hH : H < 90000) (hTA : TA 29 ng M + lost = stk) (K : XC p l e (RM 2048 600086 7301442 84000) s m args below meth c D A 12 Q (k) (n) ([] ++ WL G M) 17 [(4, .int (nI (t + 1))), (3, .int lost), (2, .int stk), (1, .ref (G.2.1 0)), (0, .ref a)] []) : XC p l e (RM 2048 600086 7301442 84000) s m args below meth c D A 12 Q (k) (n) ([] ++ WL G M) 496 [(4, .int (nI (t))), (3, .int lost), (2, .int stk), (1, .ref (G.2.1 0)), (0, .ref a)] [] := by
  refine w_G hC hE hg hm hN hT hV ht24 (by omega) (by omega) ?_
  refine w_Ds hC hE hg hm hN hT hV ht24 (by omega) (by omega) ?_ 64 0 0 rfl rfl
  refine w_H hC hE hg hm hN hT hV ht24 (by omega) (by omega) ?_
  refine w_Es hC hE hg hm hN hT hV ht24 (by omega) (by omega) hH ?_ ng 0 0 (by omega) rfl
  exact w_F hC hE hg hm hN hT hV ht24 hTA (by omega) (by omega) K
def LI (t : Nat) (M : Mm) (ng : Nat) (lost stk : Int32) : Prop := LV (25 * t) ng M ∧ M 0 1 = nI 0 ∧ TA 29 ng M + lost = stk
set_option maxRecDepth 100000 in
theorem w_round {p : Program} {l : Launch} {e : Env} {s : State} {m : MethodId} {args : Array Value} {below : List Frame} {meth : Method} {c : Code} {D : DG} {F : EF} {A : Nat → Prop} {Q : State → Prop} {k n : Nat} {a N : Nat} {f : Nat → Int32} {G : GG} (hC : CY p s m args meth c cL_law 12 RL (some .boolean) D A) (hE : ENV F A s s.heap) (hg : GO D F G) (hm : (a, N, f) ∈ F.2.1) (hN : N < 2147483648) (hT : LTX F) {M : Mm} {ng t : Nat} {lost stk : Int32} (hI : LI t M ng lost stk) (ht24 : t < 24) (hk : k + 143 ≤ 600086) (hn : n + 69082 ≤ 7301442) (K : ∀ (M2 : Mm) (m2 : Nat) (l2 s2 : Int32), LI (t + 1) M2 m2 l2 s2 → XC p l e (RM 2048 600086 7301442 84000) s m args below meth c D A 12 Q (k + 143) (n + 69082) ([] ++ WL G M2) 17 [(4, .int (nI (t + 1))), (3, .int l2), (2, .int s2), (1, .ref (G.2.1 0)), (0, .ref a)] []) : XC p l e (RM 2048 600086 7301442 84000) s m args below meth c D A 12 Q (k) (n) ([] ++ WL G M) 17 [(4, .int (nI (t))), (3, .int lost), (2, .int stk), (1, .ref (G.2.1 0)), (0, .ref a)] [] := by
  obtain ⟨hV, h0, hTA⟩ := hI
  refine w_r1 hC hE hg hm hN hT hV ht24 (by omega) (by omega) (fun x r1 h64 => ?_) (fun x r1 h64 => ?_)
  · refine w_own0 hC hE hg hm hN hT hV ht24 h64 (by omega) (by omega) (fun q => ?_)
    refine w_own hC hE hg hm hN hT hV ht24 h64 (by omega) (by omega) (fun g => ?_) 16 0 _ rfl
    refine w_A1 hC hE hg hm hN hT hV ht24 h64 (by omega) (by omega) (fun W sT xT NT gT w1 w2 w3 w4 w5 => ?_)
    refine w_A2 hC hE hg hm hN hT hV ht24 h64 w1 w2 w3 w4 w5 (by omega) (by omega) (fun ee sU xU NU gU u1 u2 => ?_)
    refine w_A3 hC hE hg hm hN hT hV ht24 h64 h0 w1 w2 w3 u1 u2 (by omega) (by omega) (fun M2 m2 l2 v1 v2 v3 => ?_)
    refine cx_widen (k' := k + 143) (n' := n + 69082) (by omega) (by omega) ?_
    have v3' := v3.trans hTA
    exact w_tail hC hE hg hm hN hT v1 ht24 (by omega) (by omega) (by omega) v3' (K M2 m2 l2 stk ⟨v1.mono (by omega), v2, v3'⟩)
  · refine w_B hC hE hg hm hN hT hV ht24 h64 (by omega) (by omega) (fun M1 s2 v1 v2 v3 => ?_) ?_
    · refine cx_widen (k' := k + 143) (n' := n + 69082) (by omega) (by omega) ?_
      have v3' : TA 29 ng M1 + lost = s2 := by rw [v3, ← hTA]; grind
      exact w_tail hC hE hg hm hN hT v1 ht24 (by omega) (by omega) (by omega) v3' (K M1 ng lost s2 ⟨v1.mono (by omega), by rw [v2]; exact h0, v3'⟩)
    · refine w_C1 hC hE hg hm hN hT hV ht24 h64 (by omega) (by omega) (by omega) (fun M2 dry d0 r7 c1 c2 c3 c4 => ?_)
      refine w_C2 hC hE hg hm hN hT hV ht24 h64 c1 c2 c3 c4 (by omega) (by omega) (fun M3 v1 v2 v3 => ?_)
      refine cx_widen (k' := k + 143) (n' := n + 69082) (by omega) (by omega) ?_
      have v3' : TA 29 ng M3 + lost = stk := by rw [v3]; exact hTA
      exact w_tail hC hE hg hm hN hT v1 ht24 (by omega) (by omega) (by omega) v3' (K M3 ng lost stk ⟨v1.mono (by omega), by rw [v2]; exact h0, v3'⟩)
theorem wk_a {n c r B : Nat} (h : n + c * (r + 1) ≤ B) : n + c ≤ B := by
  rw [Nat.mul_add_one] at h
  omega
theorem wk_b {n c r B : Nat} (h : n + c * (r + 1) ≤ B) : n + c + c * r ≤ B := by
  rw [Nat.mul_add_one] at h
  omega
set_option maxRecDepth 100000 in
theorem w_loop {p : Program} {l : Launch} {e : Env} {s : State} {m : MethodId} {args : Array Value} {below : List Frame} {meth : Method} {c : Code} {D : DG} {F : EF} {A : Nat → Prop} {Q : State → Prop} {a N : Nat} {f : Nat → Int32} {G : GG} (hC : CY p s m args meth c cL_law 12 RL (some .boolean) D A) (hE : ENV F A s s.heap) (hg : GO D F G) (hm : (a, N, f) ∈ F.2.1) (hN : N < 2147483648) (hT : LTX F) (K : ∀ (M2 : Mm) (m2 k n : Nat) (l2 s2 : Int32), k ≤ 600086 → n ≤ 7301442 → XC p l e (RM 2048 600086 7301442 84000) s m args below meth c D A 12 Q (k) (n) ([] ++ WL G M2) 17 [(4, .int (nI (24))), (3, .int l2), (2, .int s2), (1, .ref (G.2.1 0)), (0, .ref a)] []) : ∀ (r t k n : Nat) (M : Mm) (ng : Nat) (lost stk : Int32), t + r = 24 → k + 143 * r ≤ 600086 → n + 69082 * r ≤ 7301442 → LI t M ng lost stk → XC p l e (RM 2048 600086 7301442 84000) s m args below meth c D A 12 Q (k) (n) ([] ++ WL G M) 17 [(4, .int (nI (t))), (3, .int lost), (2, .int stk), (1, .ref (G.2.1 0)), (0, .ref a)] [] := by
  intro r
  induction r with
  | zero =>
    intro t k n M ng lost stk h hk hn hI
    obtain rfl : t = 24 := by omega
    exact K M ng k n lost stk (by omega) (by omega)
  | succ r ih =>
    intro t k n M ng lost stk h hk hn hI
    refine w_round hC hE hg hm hN hT hI (by omega) (wk_a hk) (wk_a hn) (fun M2 m2 l2 s2 h2 => ?_)
    exact ih (t + 1) _ _ M2 m2 l2 s2 (by omega) (wk_b hk) (wk_b hn) h2
theorem dL_law_0 : decode cL_law 0 = .ok (.aload_n 0, 1) := by decide +kernel
theorem dL_law_1 : decode cL_law 1 = .ok (.invokestatic 98, 3) := by decide +kernel
theorem dL_law_4 : decode cL_law 4 = .ok (.astore_n 1, 1) := by decide +kernel
theorem dL_law_5 : decode cL_law 5 = .ok (.aload_n 1, 1) := by decide +kernel
theorem dL_law_6 : decode cL_law 6 = .ok (.bipush 7, 2) := by decide +kernel
theorem dL_law_8 : decode cL_law 8 = .ok (.invokevirtual 19, 3) := by decide +kernel
theorem dL_law_11 : decode cL_law 11 = .ok (.istore_n 2, 1) := by decide +kernel
theorem dL_law_12 : decode cL_law 12 = .ok (.iconst 0, 1) := by decide +kernel
theorem dL_law_13 : decode cL_law 13 = .ok (.istore_n 3, 1) := by decide +kernel
theorem dL_law_14 : decode cL_law 14 = .ok (.iconst 0, 1) := by decide +kernel
theorem dL_law_15 : decode cL_law 15 = .ok (.istore 4, 2) := by decide +kernel
theorem dL_law_956 : decode cL_law 956 = .ok (.iconst 1, 1) := by decide +kernel
theorem dL_law_957 : decode cL_law 957 = .ok (.ireturn, 1) := by decide +kernel
set_option maxRecDepth 100000 in
theorem w_law {p : Program} {l : Launch} {e : Env} {s : State} {m : MethodId} {args : Array Value} {below : List Frame} {meth : Method} {c : Code} {D : DG} {F : EF} {A : Nat → Prop} {Q : State → Prop} {a N : Nat} {f : Nat → Int32} (hC : CY p s m args meth c cL_law 12 RL (some .boolean) D A) (hE : ENV F A s s.heap) (hm : (a, N, f) ∈ F.2.1) (hN : N < 2147483648) (hT : LTX F) (hI : TKI (GT F.2.2.2)) (K : ∀ (H : Heap) (locs : List Loc) (ls : Array Slot), va_S A s.heap H locs → W p l e (RM 2048 600086 7301442 84000) s m args below meth c H locs 600086 7301442 Q (F0 m 957 ls [.int (1 : Int32)])) : XC p l e (RM 2048 600086 7301442 84000) s m args below meth c D A 12 Q 0 0 [] 0 [(0, .ref a)] [] := by
  refine cx_aload_n hC dL_law_0 rfl 0 rfl ?_
  refine cy_callS hC (y := yL_bog) (cy := cL_bog) (maxL := 5) (nA := 1) (r := (some (.object "PeatBog"))) (rm := (RM 9 68 9315 300)) (mc := 68) (ms := 9315) (As := [.ref a]) (wr := []) (l_bog l D F hm hN hI) [] [] rfl rfl rfl rfl (by decide) (ef_sub hC hE [] rfl) kc_yL_bog km_L_98 kt_yL_bog kn_RL ky_yL_bog rfl ⟨rfl, rfl⟩ ⟨Nat.le_of_ble_eq_true rfl, Nat.le_of_ble_eq_true rfl⟩ rfl (Nat.le_of_ble_eq_true rfl) ⟨Nat.le_of_ble_eq_true rfl, Nat.le_of_ble_eq_true rfl⟩ dL_law_1 (fun o w1 h => ?_)
  obtain ⟨G, M, rfl, rfl, hg, hB⟩ := h
  refine cx_at (ws' := ([] ++ WL G M)) (st' := [.ref (G.2.1 0)]) rfl rfl ?_
  refine cx_astore_n hC [(1, .ref (G.2.1 0)), (0, .ref a)] dL_law_4 rfl (Nat.le_of_ble_eq_true rfl) rfl ?_
  refine cx_aload_n hC dL_law_5 rfl 0 rfl ?_
  refine cx_bipush hC (7 : Int32) dL_law_6 (by decide) ?_
  refine cx_topi (y := (nI 7)) (rfl) ?_
  refine cy_callV hC (E := RX9) (y := yX9_count) (cy := cX9_count) (maxL := 2) (nA := 1) (r := (some .int)) (rm := (RM 2 0 0 46)) (mc := 0) (ms := 0) (As := [.int (nI 7)]) (wr := []) (yo_mo (c_X9_count l G M (i0 := 0) rfl _ (count_v hB.1 (k := 7) (by decide))) hg) (wz_i 0) (List.range 0) (wz_C rfl rfl) (wz_X rfl rfl) (by decide +kernel) (by decide +kernel) (by decide +kernel) (rc_g hC rfl) (ef_sub hC hE (wz_i 0) (wz_C rfl rfl)) kc_yX9_count km_L_19 ki_yX9_count kv_yX9_count kn_RX9 ky_yX9_count rfl ⟨rfl, rfl⟩ ⟨Nat.le_of_ble_eq_true rfl, Nat.le_of_ble_eq_true rfl⟩ rfl (Nat.le_of_ble_eq_true rfl) ⟨Nat.le_of_ble_eq_true rfl, Nat.le_of_ble_eq_true rfl⟩ dL_law_8 (fun o w1 h => ?_)
  obtain ⟨rfl, rfl, -⟩ := h
  refine cx_at (ws' := ([] ++ WL G M)) (st' := [.int (cvA 0 M 7)]) rfl rfl ?_
  refine cx_istore_n hC [(2, .int (cvA 0 M 7)), (1, .ref (G.2.1 0)), (0, .ref a)] dL_law_11 rfl (Nat.le_of_ble_eq_true rfl) rfl ?_
  refine cx_iconst hC (0 : Int32) dL_law_12 (by decide) ?_
  refine cx_istore_n hC [(3, .int (0 : Int32)), (2, .int (cvA 0 M 7)), (1, .ref (G.2.1 0)), (0, .ref a)] dL_law_13 rfl (Nat.le_of_ble_eq_true rfl) rfl ?_
  refine cx_iconst hC (0 : Int32) dL_law_14 (by decide) ?_
  refine cx_topi (y := (nI 0)) (rfl) ?_
  refine cx_istore hC [(4, .int (nI 0)), (3, .int (0 : Int32)), (2, .int (cvA 0 M 7)), (1, .ref (G.2.1 0)), (0, .ref a)] dL_law_15 (Nat.le_of_ble_eq_true rfl) rfl ?_
  refine cx_sub [0, 1, 2, 3, 4] (lv' := [(4, .int (nI 0)), (3, .int (0 : Int32)), (2, .int (cvA 0 M 7)), (1, .ref (G.2.1 0)), (0, .ref a)]) rfl ?_
  have hb29 := hB.2.1
  have hTA : TA 29 0 M + 0 = cvA 0 M 7 := by
    have h1 := TA.cnt (ng := 0) M
    have e8 : cvA 0 M 8 = 0 := rfl
    have e5 : cvA 0 M 5 = 0 := by show M 29 10 = 0; rw [hb29]; rfl
    have e6 : cvA 0 M 6 = 0 := by show M 29 11 = 0; rw [hb29]; rfl
    have e9 : cvA 0 M 9 = 0 := by show M 29 12 = 0; rw [hb29]; rfl
    have e10 : cvA 0 M 10 = 0 := by show M 29 13 = 0; rw [hb29]; rfl
    rw [h1, e8, e5, e6, e9, e10]; grind
  refine w_loop hC hE hg hm hN hT (fun M2 m2 k n l2 s2 hk hn => ?_) 24 0 _ _ M 0 0 (cvA 0 M 7) rfl (by decide) (by decide) ⟨hB.1, by rw [hB.2.2]; rfl, hTA⟩
  refine cx_iload hC dL_law_17 0 rfl ?_
  refine cx_bipush hC (24 : Int32) dL_law_19 (by decide) ?_
  refine cx_icmp_ge hC 956 dL_law_21 (by decide) (fun _ => ?_) (fun h => absurd (by decide) h)
  refine cx_iconst hC (1 : Int32) dL_law_956 (by decide) ?_
  exact fun H locs ls hP hD hS hl => W.widen hk hn (K H locs ls hS)
def R_law : String := "PeatBogLaw"
def lw_P (b : Addr) (xs : List Int32) (args : Array Value) (s : State) : Prop := args = #[.ref b] ∧ s.IntsAt b xs ∧ xs.length ≤ 260 ∧ (Jvm.Cond.and given_1 narrow_1).before args s = true
def lw_Q (_ : Array Value) (s : State) (o : Outcome) (t : State) : Prop := o = .returned (some (.int 1)) ∧ Framed s o t [] 600086 7301442
def lw_Z (below : List Frame) (a : Array Value) (s : State) : State → Prop := fun t => ∃ o, t.status = .running ∧ Ended t below o ∧ lw_Q a s o t
/-- the law's own end, with 1 on the stack, nothing written that was there before, its room as the claim has it -/
theorem lw_ret {p : Program} {l : Launch} {e : Env} {s : State} {m : MethodId} {below : List Frame} {meth : Method} {c : Code} {b : Nat} (hx : p.tables.exec = Jvm.exec) (hb : c.code = code) (hr : meth.sig.returnType = ret) (hlocks : meth.locks = false) {pc : Nat} {H : Heap} {ls : Array Slot} (hdg : decode code pc = .ok (.ireturn, 1)) : W p l e room_1 s m #[Value.ref b] below meth c H [] 600086 7301442 (lw_Z below #[Value.ref b] s) (F0 m pc ls [.int 1]) := by
  intro T hT X
  obtain ⟨fs, hret, hrun, hended, hW, hframe⟩ := X.leave (v := some (.int 1)) (hlocks := hlocks) (fun h => by rw [hr] at h; cases h)
  have hmeth' : T.vm.method? m = some meth := X.method'
  refine ⟨T.setFrames fs, ?_, .returned (some (.int 1)), hrun, hended, rfl, ⟨_, rfl⟩, hW, hframe⟩
  jvm_step X.here [X.here.top, hx, hb, hdg, hmeth', hr, ret, narrow_b1]
  (try refine ⟨rfl, ?_⟩); (try refine ⟨rfl, ?_⟩)
  first | (intro acts; rw [hret _ acts rfl rfl rfl]) | rw [hret _ _ rfl rfl rfl]
  exact Steps.refl _
/-- what holds at the law's entry: the machine, the code, the tables' words (any of lw_tbl by 'hts w (by decide +kernel)'), the script of L ints xs at the cell b, what the Statement gives of the start (any of its parts by flat_of_before) -/
def lw_At (p : Program) (s : State) (m : MethodId) (meth : Method) (c : Code) (b L : Nat) (xs : Nat → Int32) : Prop :=
  p.tables.exec = Jvm.exec ∧ c.code = code ∧ meth.sig.returnType = ret ∧ c.maxLocals = 12 ∧ s.vm.findClass R_law = some m.cls ∧ (∀ w ∈ lw_tbl, w.before #[Value.ref b] s = true) ∧ va_X b L xs s s.heap ∧ b < s.heap.size ∧ meth.locks = false ∧ (Jvm.Cond.and given_1 narrow_1).before #[Value.ref b] s = true
set_option maxHeartbeats 4000000 in
/-- from the entry, for every script of at most 260 ints, the law comes to its end with true -/
theorem whole_start {p : Program} {e : Env} {s : State} {m : MethodId} {below : List Frame} {meth : Method} {c : Code} (l : Launch) (hflags : l.flags = flags0) {b L : Nat} {xs : Nat → Int32} (hL : L ≤ 260) (C0 : lw_At p s m meth c b L xs) : W p l e room_1 s m #[Value.ref b] below meth c s.heap [] 0 0 (lw_Z below #[Value.ref b] s) (entryFrame m ([Value.ref b] : List Value).toArray 12) := by
  obtain ⟨hx, hb, hr, hml, hown, hts, hX, hbl, hlocks, hgv⟩ := C0
  have htb := tb_start hts
  obtain ⟨D, hD0⟩ := k_start hts
  obtain ⟨F, hF1, hF2, hF3, hF4⟩ := env_start hts hgv hX hbl
  have hC : CY p s m #[Value.ref b] meth c code 12 RL ret D (fun q => s.heap.size ≤ q) := ⟨hx, hb, hml, hown, htb, hlocks, hr, hD0, fun q h => h⟩
  have hl := lv_entry [.ref b] (n := 12) (Nat.le_of_ble_eq_true rfl)
  rw [lg_entry_eq]
  have hP0 : va_P D.1 CLS [] s.heap := fun k q hk => absurd hk (by simp)
  have hD00 : va_D (fun q => s.heap.size ≤ q) [] := ⟨fun i j p q hi => absurd hi (by simp), fun k q hk => absurd hk (by simp)⟩
  refine w_law hC (hF4 _ (fun q h1 h2 => by omega)) hF1 (by omega) hF2 hF3 (fun H locs ls hS => ?_) s.heap [] _ hP0 hD00 va_S.rf hl
  exact va_forget (fun q hq => hS.2.2 q hq) (lw_ret hx hb hr hlocks dL_law_957)
set_option maxHeartbeats 4000000 in
theorem lw_walk (l : Launch) (hflags : l.flags = flags0) (b : Addr) (xs : List Int32) : MetFree l x (headSpec (Jvm.Cond.code x code maxLocals ret :: tables_1) room_1) (lw_P b xs) (fun _ _ _ _ _ => True) lw_Q := by
  refine MetFree.of_bodyS (code := code) (maxLocals := maxLocals) (ret := ret) (by decide) ?_ ?_
  · intro args s m h hn
    obtain ⟨meth, c, h1, h2, h3, h4, h5, h6, -, -⟩ := Cond.code_spec hn (atoms_spec (ws := Jvm.Cond.code x code maxLocals ret :: tables_1) h _ List.mem_cons_self)
    exact ⟨meth, c, h1, h2, h3, h4, h5, h6⟩
  · intro p e s m args below meth c s₁ B hml0 hP _
    obtain ⟨rfl, hx, hbd, hgv⟩ := hP
    obtain ⟨scr, harrAt, hlist, hof, hsmall⟩ := hx
    obtain ⟨hcb, hkn, -, -⟩ := State.arrayAt?_spec harrAt
    have hown : s.vm.findClass R_law = some m.cls := findClass_of_methodNamed B.named
    have hts0 : ∀ c ∈ (Jvm.Cond.code x code maxLocals ret :: tables_1), c.before #[Value.ref b] s = true := atoms_spec (ws := Jvm.Cond.code x code maxLocals ret :: tables_1) B.pre
    have hts : ∀ w ∈ lw_tbl, w.before #[Value.ref b] s = true := k2_hts_sels lw_privs (fun w hw => hts0 w (List.mem_cons_of_mem _ hw)) lw_privs_ok
    have hml : c.maxLocals = 12 := B.maxLocals_eq (hts0 _ List.mem_cons_self)
    have X₀ : Stand p l e room_1 s m #[Value.ref b] below meth c s₁ [] 0 0 := Stand.of_body B
    have hh0 : s₁.heap = s.heap := by rw [B.state]; rfl
    have hsz : scr.slots.size = xs.length := by rw [← Array.length_toList, hlist, List.length_map]
    have hval : ∀ j : Nat, j < xs.length → scr.slots[j]? = some (.int (xs.getD j 0)) := fun j hj => by
      rw [← Array.getElem?_toList, hlist]
      simp [hj]
    have hbl : b < s.heap.size := (Array.getElem?_eq_some_iff.mp hcb).1
    have hX : va_X b xs.length (fun j => xs.getD j 0) s s.heap := ⟨scr, hcb, hof, hkn, hsz, hval⟩
    have K : W p l e room_1 s m #[Value.ref b] below meth c s₁.heap [] 0 0 (lw_Z below #[Value.ref b] s) (entryFrame m ([Value.ref b] : List Value).toArray 12) := by
      rw [hh0]
      exact whole_start l hflags hbd ⟨B.exec, B.bytes, B.returns, hml, hown, hts, hX, hbl, B.notSynchronized, hgv⟩
    obtain ⟨t, a1, o, b1, b2, b3⟩ := K s₁ rfl X₀
    exact ⟨t, o, a1, b1, b2, b3⟩
theorem lw_pre_spec {args : Array Value} {s : State} (h : (Jvm.Cond.and given_1 narrow_1).before args s = true) (hr : rest_1_c.before args s = true) : ∃ (b : Addr) (xs : List Int32), lw_P b xs args s := by
  have hs := flat_of_before _ h
  have hq := flat_of_before _ hr
  have hc : (Cond.count 1).before args s = true := hs _ (by decide +kernel)
  have harr : (Cond.arrayOf (.arg 0) .int).before args s = true := hs _ (by decide +kernel)
  have hle : (Cond.le (.length (.arg 0)) (.int 260)).before args s = true := hs _ (by decide +kernel)
  have hlen : (Cond.isInt (.length (.arg 0))).before args s = true := hq _ (by decide +kernel)
  have hall : (Cond.all (.arg 0) (.isInt (.elem (.arg 0) (.index 0)))).before args s = true := hq _ (by decide +kernel)
  obtain ⟨b, xs, hb, hx⟩ := State.ints_of_pre rfl harr hlen hall
  have hsm : xs.length < 2 ^ 31 := hx.choose_spec.2.2.2
  have hev : (Term.length (.arg 0)).eval args s none [] s = some (.int xs.length.toInt32) := hx.length_eval hb
  have hv := Cond.le_ints hev (show (Term.int 260).eval args s none [] s = some (.int 260) from rfl)
  have hd : xs.length.toInt32 ≤ 260 := by
    simpa [Cond.before, Cond.holds, hv] using hle
  have hN : xs.length ≤ 260 := (Int32.ofNat_le_ofNat hsm (by decide)).mp (show Int32.ofNat xs.length ≤ Int32.ofNat 260 from hd)
  exact ⟨b, xs, Cond.one_arg hc (show args[0]? = some (.ref b) from hb), hx, hN, h⟩
theorem lw_comes (l : Launch) (hflags : l.flags = flags0) : Comes l x (Jvm.Cond.code x code maxLocals ret :: tables_1) room_1 (fun tb e args s => Calls_1 tb e args s ∧ rest_1 tb e args s ∧ Pre_1 tb e args s)
    (fun _ _ args s o t => lw_Q args s o t) := by
  intro p e ha hc hk s m args below hf hfit hheap happ hpre
  obtain ⟨b, xs, hP⟩ := lw_pre_spec hpre.2.2 hpre.2.1
  obtain ⟨k, o, h1, h2, h3, hQ⟩ := lw_walk l hflags b xs p e ha hc hk s m args below hf ((Spec.applies_iff_loose hf).mp happ).1 hP trivial
  exact ⟨k, o, h1, h2, h3, hQ⟩
theorem lw_frame {s t : State} {o : Outcome} {args : Array Value} (h : Framed s o t [] 600086 7301442) :
    Framed s o t (fieldLocs frame_1_writes args s ++ arrayLocs frame_1_arrays args s ++ staticLocs frame_1_statics s) 600086 7301442 := h
theorem lw_limb (L : Cond) (hL : ∀ (args : Array Value) (s t : State), L.after args s (.returned (some (.int 1))) t = true) :
    ArmFor flags0 classFile x code maxLocals ret World_1 tables_1 room_1 Calls_1 rest_1 Pre_1
      (fun tb e a s o t => postC L tb e a s o t ∧ Framed s o t (fieldLocs frame_1_writes a s ++ arrayLocs frame_1_arrays a s ++ staticLocs frame_1_statics s) 600086 7301442) := by
  intro l hflags _ _ p e ha hc hk s m args below hf hfit hheap happ hpre
  obtain ⟨k, o, h1, h2, h3, rfl, hF⟩ := lw_comes l hflags p e ha hc hk s m args below hf hfit hheap happ hpre
  exact ⟨k, _, h1, h2, h3, hL args s _, lw_frame hF⟩
theorem i_vc : Claimed_1_1 ∧ Claimed_1_2 := ⟨lw_limb limb_1_1 (fun args s t => by simp [limb_1_1, Cond.after, Cond.holds, Cond.value]), lw_limb limb_1_2 (fun args s t => Cond.after_iff.mpr (by
  first | (rw [show limb_1_2 = Cond.eq .result (.int 1) from rfl, Cond.eq_ints (x := 1) (y := 1) rfl rfl]; simp; done) | (simp [limb_1_2, Cond.value, Term.eval]; done)))⟩
