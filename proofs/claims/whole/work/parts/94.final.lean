/-! needs 81 90 91 92 93 -/
/-! THE CLAIM OUT OF ONE WALK OF THE LAW'S BODY. Your part is whole_start (and what it stands on); all else here is the same for every law, but numbers. -/
def R_law : String := "PeatBogLaw"
def lw_P (b : Addr) (xs : List Int32) (args : Array Value) (s : State) : Prop := args = #[.ref b] ∧ s.IntsAt b xs ∧ xs.length ≤ 3072 ∧ (Jvm.Cond.and given_1 narrow_1).before args s = true
/-- what a walk over the start with the record d0 says of its end, said of the start itself -/
theorem lw_closed {s t : State} {o : Outcome} {d0 : Drawn} {L : List Loc} {k n : Nat} (hd0 : s.drawn.sameBut d0 lw_cs) (hv : ∃ v, o = .returned v) (hW : (s.setDrawn d0).WarmedH t.vm) (hs : (s.setDrawn d0).sameButNew ({ t with vm := s.vm } : State) L k n) : State.butDraws s t lw_cs (fun t1 => Framed s o t1 L k n) := by
  have h2 : t.drawn = d0 := congrArg State.drawn hs.1
  refine ⟨⟨hv, hW, State.sameButNew.setDrawn hs s.drawn⟩, ?_, by decide⟩
  rw [h2]
  exact hd0
def lw_Q (_ : Array Value) (s : State) (o : Outcome) (t : State) : Prop := o = .returned (some (.int 1)) ∧ State.butDraws s t lw_cs (fun t1 => Framed s o t1 [] 601024 7293034)
def lw_Z (below : List Frame) (a : Array Value) (s : State) : State → Prop := fun t => ∃ o, t.status = .running ∧ Ended t below o ∧ lw_Q a s o t
/-- the law's own end, with 1 on the stack, nothing written that was there before, its room as the claim has it; d0: the record of draws at this point (at the entry s.drawn: begin with 'refine W.base ?_' and 'have hd0 := Drawn.sameBut.refl s.drawn lw_cs') -/
theorem lw_ret {p : Program} {l : Launch} {e : Env} {s : State} {m : MethodId} {below : List Frame} {meth : Method} {c : Code} {b : Nat} {d0 : Drawn} (hd0 : s.drawn.sameBut d0 lw_cs) (hx : p.tables.exec = Jvm.exec) (hb : c.code = code) (hr : meth.sig.returnType = ret) (hlocks : meth.locks = false) {pc : Nat} {H : Heap} {ls : Array Slot} (hdg : decode code pc = .ok (.ireturn, 1)) : W p l e room_1 (s.setDrawn d0) m #[Value.ref b] below meth c H [] 601024 7293034 (lw_Z below #[Value.ref b] s) (F0 m pc ls [.int 1]) := by
  intro T hT X
  obtain ⟨fs, hret, hrun, hended, hW, hframe⟩ := X.leave (v := some (.int 1)) (hlocks := hlocks) (fun h => by rw [hr] at h; cases h)
  have hmeth' : T.vm.method? m = some meth := X.method'
  refine ⟨T.setFrames fs, ?_, .returned (some (.int 1)), hrun, hended, rfl, lw_closed hd0 ⟨_, rfl⟩ hW hframe⟩
  jvm_step X.here [X.here.top, hx, hb, hdg, hmeth', hr, ret, narrow_b1]
  (try refine ⟨rfl, ?_⟩); (try refine ⟨rfl, ?_⟩)
  first | (intro acts; rw [hret _ acts rfl rfl rfl]) | rw [hret _ _ rfl rfl rfl]
  exact Steps.refl _
/-- what holds at the law's entry: the machine, the code, the tables' words (any of lw_tbl by 'hts w (by decide +kernel)'), the script of L ints xs at the cell b, what the Statement gives of the start (any of its parts by flat_of_before) -/
def lw_At (p : Program) (s : State) (m : MethodId) (meth : Method) (c : Code) (b L : Nat) (xs : Nat → Int32) : Prop :=
  p.tables.exec = Jvm.exec ∧ c.code = code ∧ meth.sig.returnType = ret ∧ c.maxLocals = 9 ∧ s.vm.findClass R_law = some m.cls ∧ (∀ w ∈ lw_tbl, w.before #[Value.ref b] s = true) ∧ va_X b L xs s s.heap ∧ b < s.heap.size ∧ meth.locks = false ∧ (Jvm.Cond.and given_1 narrow_1).before #[Value.ref b] s = true
theorem k_mono {A A' : Nat → Prop} {H0 H : Heap} {locs : List Loc} (h : va_S A H0 H locs) (hA : ∀ q, A q → A' q) : va_S A' H0 H locs := ⟨h.1, fun q h1 h2 => h.2.1 q h1 (fun z => h2 (hA q z)), fun l hl => hA _ (h.2.2 l hl)⟩
def tkA0 (tok : Nat → Nat) (ad : Nat → Nat × Nat) (t0 t1 t2 : Nat) (i : Nat) : Nat := if i = 1900 then t0 else if i = 1901 then t1 else if i = 1902 then t2 else if i < 2000 then tok (i - 1000) else if i < 3000 then (ad (i - 2000)).1 else (ad (i - 3000)).2
set_option maxHeartbeats 4000000 in
set_option maxRecDepth 100000 in
/-- from the entry, for every script of at most 3072 ints, the law comes to its end with true -/
theorem whole_start {p : Program} {e : Env} {s : State} {m : MethodId} {below : List Frame} {meth : Method} {c : Code} (l : Launch) (hflags : l.flags = flags0) {b L : Nat} {xs : Nat → Int32} (hL : L ≤ 3072) (C0 : lw_At p s m meth c b L xs) : W p l e room_1 s m #[Value.ref b] below meth c s.heap [] 0 0 (lw_Z below #[Value.ref b] s) (entryFrame m ([Value.ref b] : List Value).toArray 9) := by
  obtain ⟨hx, hb, hr, hml, hown, hts, hX, hbl, hlocks, hgv⟩ := C0
  have hlt : l.stackTraces = false := by unfold Launch.stackTraces; rw [hflags]; decide
  have htb : ∀ w ∈ TBL, w.before #[Value.ref b] s = true := fun w h => hts w (tbl_good w h).1
  obtain ⟨D, hD0⟩ := k_start hts
  obtain ⟨tok, ad, t0, t1, t2, htk⟩ := tkp_start hts hgv
  have hmsg := msg_start hts hgv
  have hC : CY p s m #[Value.ref b] meth c code 9 RL ret D (fun q => s.heap.size ≤ q) := ⟨hx, hb, hml, hown, htb, hlocks, hr, hD0, fun q h => h⟩
  have hl := lv_entry [.ref b] (n := 9) (Nat.le_of_ble_eq_true rfl)
  rw [lg_entry_eq]
  have hP0 : va_P D.1 CLS [] s.heap := fun k q hk => absurd hk (by simp)
  have hD00 : va_D (fun q => s.heap.size ≤ q) [] := ⟨fun i j p q hi => absurd hi (by simp), fun k q hk => absurd hk (by simp)⟩
  refine law_pre (rt := ret) hC ?_ s.heap [] _ hP0 hD00 va_S.rf hl
  intro a101 a102 a103 a104 a105 a106 a107 a108 a109 a110 a111 a112 a113 a114 a115 a116 a117 a118 a119 a120 a121 a122 a123 a124 a125 a126 a127 a128 a129 a130 a131 a132 a133 a134 a135 a136 a137 a138 a139 a140 a141 a142 a143 a144 a145 a146 a147 a148 a149 a150 a151 a152 a153 a154 a155 a156 a157 a158 a159 a160 a161 a162 a163 a164 a165 a166 a167 a168 a169 a170 a171 a172 a173 a174 a175 a176 a177 a178 a179 a180 a181 a182 a183 a184 a185 a186 a187 a188 a189 a190 a191 a192 a193 a194 a195 a196 a197 a198 a199 H locs ls hP hD hS hl
  have hm : ∀ i, i < 99 → HM D (G0 D (tkA0 tok ad t0 t1 t2) [a101, a102, a103, a104, a105, a106, a107, a108, a109, a110, a111, a112, a113, a114, a115, a116, a117, a118, a119, a120, a121, a122, a123, a124, a125, a126, a127, a128, a199, a146, a129, a130, a131, a132, a133, a134, a135, a136, a147, a137, a138, a139, a140, a141, a142, a143, a144, a166, a149, a150, a151, a152, a153, a154, a155, a156, a167, a157, a158, a159, a160, a161, a162, a163, a164, a145, a148, a165, a168, a169, a170, a171, a172, a173, a174, a175, a176, a177, a178, a179, a180, a181, a198, a182, a183, a184, a185, a186, a187, a188, a189, a190, a191, a192, a193, a194, a195, a196, a197]) [(a101, .inr (6, [.ref a102, .int (0 : Int32), .ref a103, .int (0 : Int32), .int (-1 : Int32), .ref a104, .ref a117, .ref a146, .ref a145, .ref a166, .ref a165])), (a102, .inl (D.2 1, 2000, .inl (fun _ => 0))), (a103, .inl (D.2 1, 72, .inl (fun _ => 0))), (a104, .inr (7, [.ref a105, .ref a110, .int 0, .ref a111, .int 0, .int (0 : Int32), .int (-1 : Int32)])), (a105, .inr (8, [.ref a106, .ref a107, .ref a108, .ref a109, .int (0 : Int32)])), (a106, .inl (D.2 3, 401, .inr (.inr (.inr (.inr (fun _ => none)))))), (a107, .inl (D.2 0, 401, .inl (fun _ => 0))), (a108, .inl (D.2 0, 401, .inl (fun _ => 0))), (a109, .inl (D.2 1, 0, .inl (fun _ => 0))), (a110, .inl (D.2 0, 4, .inl (fun _ => 0))), (a111, .inr (2, [.ref a112, .ref a113, .int (0 : Int32), .ref a114, .ref a115, .ref a116, .int (0 : Int32)])), (a112, .inl (D.2 0, 800, .inl (fun _ => 0))), (a113, .inl (D.2 0, 800, .inl (fun _ => 0))), (a114, .inl (D.2 0, 4, .inl (fun _ => 0))), (a115, .inl (D.2 0, 4, .inl (fun _ => 0))), (a116, .inl (D.2 0, 4, .inl (fun _ => 0))), (a117, .inr (2, [.ref a118, .ref a119, .int (0 : Int32), .ref a120, .ref a121, .ref a122, .int (0 : Int32)])), (a118, .inl (D.2 0, 800, .inl (fun _ => 0))), (a119, .inl (D.2 0, 800, .inl (fun _ => 0))), (a120, .inl (D.2 0, 4, .inl (fun _ => 0))), (a121, .inl (D.2 0, 4, .inl (fun _ => 0))), (a122, .inl (D.2 0, 4, .inl (fun _ => 0))), (a123, .inr (2, [.ref a124, .ref a125, .int (0 : Int32), .ref a126, .ref a127, .ref a128, .int (0 : Int32)])), (a124, .inl (D.2 0, 800, .inl (fun _ => 0))), (a125, .inl (D.2 0, 800, .inl (fun _ => 0))), (a126, .inl (D.2 0, 4, .inl (fun _ => 0))), (a127, .inl (D.2 0, 4, .inl (fun _ => 0))), (a128, .inl (D.2 0, 4, .inl (fun _ => 0))), (a129, .inl (D.2 0, 64, .inl (fillP 64))), (a130, .inl (D.2 0, 64, .inl (fun _ => 0))), (a131, .inl (D.2 0, 64, .inl (fillC 3 64))), (a132, .inl (D.2 0, 64, .inl (fun _ => 0))), (a133, .inl (D.2 0, 64, .inl (fun _ => 0))), (a134, .inl (D.2 0, 64, .inl (fun _ => 0))), (a135, .inl (D.2 0, 12, .inl (fun _ => 0))), (a136, .inl (D.2 0, 12, .inl (fillC 4 12))), (a137, .inr (1, [.int 0, .int 0, .int 0, .int 0, .int 0, .int 0, .int 0, .int 0, .int 0, .int 0, .ref a138])), (a138, .inl (D.2 0, 9, .inl (fun _ => 0))), (a139, .inr (1, [.int 0, .int 0, .int 0, .int 0, .int 0, .int 0, .int 0, .int 0, .int 0, .int 0, .ref a140])), (a140, .inl (D.2 0, 9, .inl (fun _ => 0))), (a141, .inr (1, [.int 0, .int 0, .int 0, .int 0, .int 0, .int 0, .int 0, .int 0, .int 0, .int 0, .ref a142])), (a142, .inl (D.2 0, 9, .inl (fun _ => 0))), (a143, .inr (1, [.int 0, .int 0, .int 0, .int 0, .int 0, .int 0, .int 0, .int 0, .int 0, .int 0, .ref a144])), (a144, .inl (D.2 0, 9, .inl (fun _ => 0))), (a145, .inr (3, [.ref a146, .ref a137, .ref a148, .int (0 : Int32), .int (0 : Int32)])), (a146, .inr (0, [.ref a129, .ref a130, .ref a131, .ref a132, .ref a133, .ref a134, .ref a135, .ref a136, .int (0 : Int32), .int (0 : Int32), .int (0 : Int32), .int (0 : Int32), .int (0 : Int32), .int (0 : Int32), .ref a147, .int (0 : Int32), .ref a123])), (a147, .inl (D.2 2, 4, .inr (.inr (.inr (.inr (va_up (va_up (va_up (va_up (fun _ => none) (ix (0 : Int32)) (some a137)) (ix (1 : Int32)) (some a139)) (ix (2 : Int32)) (some a141)) (ix (3 : Int32)) (some a143))))))), (a148, .inl (D.2 0, 64, .inl (fun _ => 0))), (a149, .inl (D.2 0, 64, .inl (fillP 64))), (a150, .inl (D.2 0, 64, .inl (fun _ => 0))), (a151, .inl (D.2 0, 64, .inl (fillC 3 64))), (a152, .inl (D.2 0, 64, .inl (fun _ => 0))), (a153, .inl (D.2 0, 64, .inl (fun _ => 0))), (a154, .inl (D.2 0, 64, .inl (fun _ => 0))), (a155, .inl (D.2 0, 12, .inl (fun _ => 0))), (a156, .inl (D.2 0, 12, .inl (fillC 4 12))), (a157, .inr (1, [.int 0, .int 0, .int 0, .int 0, .int 0, .int 0, .int 0, .int 0, .int 0, .int 0, .ref a158])), (a158, .inl (D.2 0, 9, .inl (fun _ => 0))), (a159, .inr (1, [.int 0, .int 0, .int 0, .int 0, .int 0, .int 0, .int 0, .int 0, .int 0, .int 0, .ref a160])), (a160, .inl (D.2 0, 9, .inl (fun _ => 0))), (a161, .inr (1, [.int 0, .int 0, .int 0, .int 0, .int 0, .int 0, .int 0, .int 0, .int 0, .int 0, .ref a162])), (a162, .inl (D.2 0, 9, .inl (fun _ => 0))), (a163, .inr (1, [.int 0, .int 0, .int 0, .int 0, .int 0, .int 0, .int 0, .int 0, .int 0, .int 0, .ref a164])), (a164, .inl (D.2 0, 9, .inl (fun _ => 0))), (a165, .inr (3, [.ref a166, .ref a157, .ref a168, .int (0 : Int32), .int (0 : Int32)])), (a166, .inr (0, [.ref a149, .ref a150, .ref a151, .ref a152, .ref a153, .ref a154, .ref a155, .ref a156, .int (0 : Int32), .int (0 : Int32), .int (0 : Int32), .int (0 : Int32), .int (0 : Int32), .int (0 : Int32), .ref a167, .int (0 : Int32), .ref a123])), (a167, .inl (D.2 2, 4, .inr (.inr (.inr (.inr (va_up (va_up (va_up (va_up (fun _ => none) (ix (0 : Int32)) (some a157)) (ix (1 : Int32)) (some a159)) (ix (2 : Int32)) (some a161)) (ix (3 : Int32)) (some a163))))))), (a168, .inl (D.2 0, 64, .inl (fun _ => 0))), (a169, .inr (5, [.int 0, .ref a170, .int 0, .int (-1 : Int32), .ref a171, .int 0, .ref a172, .ref a173, .ref a174, .int 0, .ref a175, .int 0, .int 0, .int 0, .int 0, .int 0, .int 0, .int 0, .int 0, .int 0, .int 0, .int 0, .ref a176, .ref a177, .ref a178, .ref a179, .ref a180, .ref a181, .int 0, .ref a182, .ref a190, .ref a198])), (a170, .inl (D.2 0, 2000, .inl (fun _ => 0))), (a171, .inl (D.2 0, 72, .inl (fun _ => 0))), (a172, .inl (D.2 0, 12, .inl (fun _ => 0))), (a173, .inl (D.2 0, 12, .inl (fillC 4 12))), (a174, .inl (D.2 0, 4000, .inl (upd (fun _ => 0) (ix (0 : Int32)) (40 : Int32)))), (a175, .inl (D.2 0, 4000, .inl (fun _ => 0))), (a176, .inl (D.2 0, 100, .inl (fun _ => 0))), (a177, .inl (D.2 0, 100, .inl (fun _ => 0))), (a178, .inl (D.2 0, 100, .inl (fun _ => 0))), (a179, .inl (D.2 0, 100, .inl (fun _ => 0))), (a180, .inl (D.2 0, 100, .inl (fun _ => 0))), (a181, .inl (D.2 0, 400, .inl (fun _ => 0))), (a182, .inr (4, [.int 0, .int 0, .int 0, .int 0, .int 0, .int 0, .ref a183, .ref a184, .ref a185, .ref a186, .ref a187, .ref a188, .ref a189])), (a183, .inl (D.2 0, 64, .inl (fillP 64))), (a184, .inl (D.2 0, 64, .inl (fillC 3 64))), (a185, .inl (D.2 0, 64, .inl (fun _ => 0))), (a186, .inl (D.2 0, 64, .inl (fun _ => 0))), (a187, .inl (D.2 0, 64, .inl (fun _ => 0))), (a188, .inl (D.2 0, 40, .inl (fun _ => 0))), (a189, .inl (D.2 0, 32, .inl (fun _ => 0))), (a190, .inr (4, [.int 0, .int 0, .int 0, .int 0, .int 0, .int 0, .ref a191, .ref a192, .ref a193, .ref a194, .ref a195, .ref a196, .ref a197])), (a191, .inl (D.2 0, 64, .inl (fun _ => 0))), (a192, .inl (D.2 0, 64, .inl (fun _ => 0))), (a193, .inl (D.2 0, 64, .inl (fun _ => 0))), (a194, .inl (D.2 0, 64, .inl (fun _ => 0))), (a195, .inl (D.2 0, 64, .inl (fun _ => 0))), (a196, .inl (D.2 0, 40, .inl (fun _ => 0))), (a197, .inl (D.2 0, 32, .inl (fun _ => 0))), (a198, .inl (D.2 0, 64, .inl (fun _ => 0))), (a199, .inl (D.2 4, 1, .inr (.inl (fun _ => 0))))] H i := hm_all D (tkA0 tok ad t0 t1 t2) H
  have hGI := hm_I rfl hm hD
  have hGA := hm_A hm hD
  have hPW := hm_P rfl rfl hm hP
  have hlc : lv_has ls 9 [(4, .int (nI (6 * 0))), (0, .ref b), (1, .ref ((G0 D (tkA0 tok ad t0 t1 t2) [a101, a102, a103, a104, a105, a106, a107, a108, a109, a110, a111, a112, a113, a114, a115, a116, a117, a118, a119, a120, a121, a122, a123, a124, a125, a126, a127, a128, a199, a146, a129, a130, a131, a132, a133, a134, a135, a136, a147, a137, a138, a139, a140, a141, a142, a143, a144, a166, a149, a150, a151, a152, a153, a154, a155, a156, a167, a157, a158, a159, a160, a161, a162, a163, a164, a145, a148, a165, a168, a169, a170, a171, a172, a173, a174, a175, a176, a177, a178, a179, a180, a181, a198, a182, a183, a184, a185, a186, a187, a188, a189, a190, a191, a192, a193, a194, a195, a196, a197]).2.1 0)), (2, .ref ((G0 D (tkA0 tok ad t0 t1 t2) [a101, a102, a103, a104, a105, a106, a107, a108, a109, a110, a111, a112, a113, a114, a115, a116, a117, a118, a119, a120, a121, a122, a123, a124, a125, a126, a127, a128, a199, a146, a129, a130, a131, a132, a133, a134, a135, a136, a147, a137, a138, a139, a140, a141, a142, a143, a144, a166, a149, a150, a151, a152, a153, a154, a155, a156, a167, a157, a158, a159, a160, a161, a162, a163, a164, a145, a148, a165, a168, a169, a170, a171, a172, a173, a174, a175, a176, a177, a178, a179, a180, a181, a198, a182, a183, a184, a185, a186, a187, a188, a189, a190, a191, a192, a193, a194, a195, a196, a197]).2.1 69)), (3, .ref ((G0 D (tkA0 tok ad t0 t1 t2) [a101, a102, a103, a104, a105, a106, a107, a108, a109, a110, a111, a112, a113, a114, a115, a116, a117, a118, a119, a120, a121, a122, a123, a124, a125, a126, a127, a128, a199, a146, a129, a130, a131, a132, a133, a134, a135, a136, a147, a137, a138, a139, a140, a141, a142, a143, a144, a166, a149, a150, a151, a152, a153, a154, a155, a156, a167, a157, a158, a159, a160, a161, a162, a163, a164, a145, a148, a165, a168, a169, a170, a171, a172, a173, a174, a175, a176, a177, a178, a179, a180, a181, a198, a182, a183, a184, a185, a186, a187, a188, a189, a190, a191, a192, a193, a194, a195, a196, a197]).2.1 28))] := lv_sub hl [0, 4, 3, 2, 1] rfl
  have hG1 : (G0 D (tkA0 tok ad t0 t1 t2) [a101, a102, a103, a104, a105, a106, a107, a108, a109, a110, a111, a112, a113, a114, a115, a116, a117, a118, a119, a120, a121, a122, a123, a124, a125, a126, a127, a128, a199, a146, a129, a130, a131, a132, a133, a134, a135, a136, a147, a137, a138, a139, a140, a141, a142, a143, a144, a166, a149, a150, a151, a152, a153, a154, a155, a156, a167, a157, a158, a159, a160, a161, a162, a163, a164, a145, a148, a165, a168, a169, a170, a171, a172, a173, a174, a175, a176, a177, a178, a179, a180, a181, a198, a182, a183, a184, a185, a186, a187, a188, a189, a190, a191, a192, a193, a194, a195, a196, a197]).1 = D.1 := rfl
  have hG3 : (G0 D (tkA0 tok ad t0 t1 t2) [a101, a102, a103, a104, a105, a106, a107, a108, a109, a110, a111, a112, a113, a114, a115, a116, a117, a118, a119, a120, a121, a122, a123, a124, a125, a126, a127, a128, a199, a146, a129, a130, a131, a132, a133, a134, a135, a136, a147, a137, a138, a139, a140, a141, a142, a143, a144, a166, a149, a150, a151, a152, a153, a154, a155, a156, a167, a157, a158, a159, a160, a161, a162, a163, a164, a145, a148, a165, a168, a169, a170, a171, a172, a173, a174, a175, a176, a177, a178, a179, a180, a181, a198, a182, a183, a184, a185, a186, a187, a188, a189, a190, a191, a192, a193, a194, a195, a196, a197]).2.2.1 = D.2 := rfl
  have hE : (G0 D (tkA0 tok ad t0 t1 t2) [a101, a102, a103, a104, a105, a106, a107, a108, a109, a110, a111, a112, a113, a114, a115, a116, a117, a118, a119, a120, a121, a122, a123, a124, a125, a126, a127, a128, a199, a146, a129, a130, a131, a132, a133, a134, a135, a136, a147, a137, a138, a139, a140, a141, a142, a143, a144, a166, a149, a150, a151, a152, a153, a154, a155, a156, a167, a157, a158, a159, a160, a161, a162, a163, a164, a145, a148, a165, a168, a169, a170, a171, a172, a173, a174, a175, a176, a177, a178, a179, a180, a181, a198, a182, a183, a184, a185, a186, a187, a188, a189, a190, a191, a192, a193, a194, a195, a196, a197]).2.2.2 = [] := rfl
  have hT : ∀ i, 99 ≤ i → (G0 D (tkA0 tok ad t0 t1 t2) [a101, a102, a103, a104, a105, a106, a107, a108, a109, a110, a111, a112, a113, a114, a115, a116, a117, a118, a119, a120, a121, a122, a123, a124, a125, a126, a127, a128, a199, a146, a129, a130, a131, a132, a133, a134, a135, a136, a147, a137, a138, a139, a140, a141, a142, a143, a144, a166, a149, a150, a151, a152, a153, a154, a155, a156, a167, a157, a158, a159, a160, a161, a162, a163, a164, a145, a148, a165, a168, a169, a170, a171, a172, a173, a174, a175, a176, a177, a178, a179, a180, a181, a198, a182, a183, a184, a185, a186, a187, a188, a189, a190, a191, a192, a193, a194, a195, a196, a197]).2.1 i = tkA0 tok ad t0 t1 t2 i := fun i hi => if_neg (by omega)
  clear hP hD hm hl
  generalize G0 D (tkA0 tok ad t0 t1 t2) [a101, a102, a103, a104, a105, a106, a107, a108, a109, a110, a111, a112, a113, a114, a115, a116, a117, a118, a119, a120, a121, a122, a123, a124, a125, a126, a127, a128, a199, a146, a129, a130, a131, a132, a133, a134, a135, a136, a147, a137, a138, a139, a140, a141, a142, a143, a144, a166, a149, a150, a151, a152, a153, a154, a155, a156, a167, a157, a158, a159, a160, a161, a162, a163, a164, a145, a148, a165, a168, a169, a170, a171, a172, a173, a174, a175, a176, a177, a178, a179, a180, a181, a198, a182, a183, a184, a185, a186, a187, a188, a189, a190, a191, a192, a193, a194, a195, a196, a197] = G at hGI hGA hPW hlc hG1 hG3 hE hT
  have hAF : ∀ q, AF G s.heap.size q → s.heap.size ≤ q := by
    intro q h
    rcases h with (⟨i, hi, rfl⟩ | ⟨z, hz, -⟩) | h
    · exact hGA i hi
    · rw [hE] at hz; cases hz
    · exact h
  have hAn : ∀ a : Nat, a < s.heap.size → ¬ AF G s.heap.size a := fun a h1 h2 => by have := hAF a h2; omega
  obtain ⟨hTK, hTI⟩ := htk G (AF G s.heap.size) hAn (fun i hi => by
      rw [hT _ (by omega)]
      unfold tkA0
      rw [if_neg (by omega), if_neg (by omega), if_neg (by omega), if_pos (by omega), show 1000 + i - 1000 = i by omega]) (fun i hi => by
      rw [hT _ (by omega), hT _ (by omega)]
      unfold tkA0
      constructor
      · rw [if_neg (by omega), if_neg (by omega), if_neg (by omega), if_neg (by omega), if_pos (by omega), show 2000 + i - 2000 = i by omega]
      · rw [if_neg (by omega), if_neg (by omega), if_neg (by omega), if_neg (by omega), if_neg (by omega), show 3000 + i - 3000 = i by omega]) (hT 1900 (by omega)) (hT 1901 (by omega)) (hT 1902 (by omega))
  have hOK : OKG G s := ⟨hGI, by rw [hG1]; unfold TYS; rw [hG3]; exact hD0.1, hD0.2.1, hTI, hTK, hmsg⟩
  have hCX : CX p s m #[Value.ref b] meth c code 9 RL ret G := ⟨hx, hb, hml, hown, htb, hlocks, hr, hOK⟩
  refine law_loop hCX hlt hE hX hbl (hAn b hbl) hL (fun k n M pc lv hk hn hdg H1 locs1 ls1 hP1 hS1 hl1 => ?_) 600 0 99 21218 M0 (by omega) (by omega) (by omega) (by omega) rel_0 H locs ls hPW (k_mono hS (fun q h => Or.inr h)) hlc
  refine W.widen hk hn (va_forget (fun q hq => hAF _ (hS1.2.2 q hq)) ?_)
  exact W.base (lw_ret (Drawn.sameBut.refl s.drawn lw_cs) hx hb hr hlocks hdg)
set_option maxHeartbeats 4000000 in
theorem lw_walk (l : Launch) (hflags : l.flags = flags0) (b : Addr) (xs : List Int32) : MetFree l x (headSpec (Jvm.Cond.code x code maxLocals ret :: tables_1) room_1) (lw_P b xs) (fun _ _ _ _ _ => True) lw_Q := by
  refine MetFree.of_bodyS (code := code) (maxLocals := maxLocals) (ret := ret) (by decide) ?_ ?_
  · intro args s m h hn
    obtain ⟨meth, c, h1, h2, h3, h4, h5, h6, -, -⟩ := Cond.code_spec hn (atoms_spec (ws := Jvm.Cond.code x code maxLocals ret :: tables_1) h _ List.mem_cons_self)
    exact ⟨meth, c, h1, h2, h3, h4, h5, h6⟩
  · intro p e s m args below meth c s₁ B hml0 hP _
    obtain ⟨rfl, hx, hbd, hgv⟩ := hP
    obtain ⟨scr, harrAt, hlist, hof, hsmall⟩ := hx
    obtain ⟨hcb, hkn, -, -⟩ := State.arrayAt?_spec harrAt
    have hown : s.vm.findClass R_law = some m.cls := findClass_of_methodNamed B.named
    have hts0 : ∀ c ∈ (Jvm.Cond.code x code maxLocals ret :: tables_1), c.before #[Value.ref b] s = true := atoms_spec (ws := Jvm.Cond.code x code maxLocals ret :: tables_1) B.pre
    have hts : ∀ w ∈ lw_tbl, w.before #[Value.ref b] s = true := k2_hts_sels lw_privs (fun w hw => hts0 w (List.mem_cons_of_mem _ hw)) lw_privs_ok
    have hml : c.maxLocals = 9 := B.maxLocals_eq (hts0 _ List.mem_cons_self)
    have X₀ : Stand p l e room_1 s m #[Value.ref b] below meth c s₁ [] 0 0 := Stand.of_body B
    have hh0 : s₁.heap = s.heap := by rw [B.state]; rfl
    have hsz : scr.slots.size = xs.length := by rw [← Array.length_toList, hlist, List.length_map]
    have hval : ∀ j : Nat, j < xs.length → scr.slots[j]? = some (.int (xs.getD j 0)) := fun j hj => by
      rw [← Array.getElem?_toList, hlist]
      simp [hj]
    have hbl : b < s.heap.size := (Array.getElem?_eq_some_iff.mp hcb).1
    have hX : va_X b xs.length (fun j => xs.getD j 0) s s.heap := ⟨scr, hcb, hof, hkn, hsz, hval⟩
    have K : W p l e room_1 s m #[Value.ref b] below meth c s₁.heap [] 0 0 (lw_Z below #[Value.ref b] s) (entryFrame m ([Value.ref b] : List Value).toArray 9) := by
      rw [hh0]
      exact whole_start l hflags hbd ⟨B.exec, B.bytes, B.returns, hml, hown, hts, hX, hbl, B.notSynchronized, hgv⟩
    obtain ⟨t, a1, o, b1, b2, b3⟩ := K s₁ rfl X₀
    exact ⟨t, o, a1, b1, b2, b3⟩
theorem lw_pre_spec {args : Array Value} {s : State} (h : (Jvm.Cond.and given_1 narrow_1).before args s = true) (hr : rest_1_c.before args s = true) : ∃ (b : Addr) (xs : List Int32), lw_P b xs args s := by
  have hs := flat_of_before _ h
  have hq := flat_of_before _ hr
  have hc : (Cond.count 1).before args s = true := hs _ (by decide +kernel)
  have harr : (Cond.arrayOf (.arg 0) .int).before args s = true := hs _ (by decide +kernel)
  have hle : (Cond.le (.length (.arg 0)) (.int 3072)).before args s = true := hs _ (by decide +kernel)
  have hlen : (Cond.isInt (.length (.arg 0))).before args s = true := hq _ (by decide +kernel)
  have hall : (Cond.all (.arg 0) (.isInt (.elem (.arg 0) (.index 0)))).before args s = true := hq _ (by decide +kernel)
  obtain ⟨b, xs, hb, hx⟩ := State.ints_of_pre rfl harr hlen hall
  have hsm : xs.length < 2 ^ 31 := hx.choose_spec.2.2.2
  have hev : (Term.length (.arg 0)).eval args s none [] s = some (.int xs.length.toInt32) := hx.length_eval hb
  have hv := Cond.le_ints hev (show (Term.int 3072).eval args s none [] s = some (.int 3072) from rfl)
  have hd : xs.length.toInt32 ≤ 3072 := by
    simpa [Cond.before, Cond.holds, hv] using hle
  have hN : xs.length ≤ 3072 := (Int32.ofNat_le_ofNat hsm (by decide)).mp (show Int32.ofNat xs.length ≤ Int32.ofNat 3072 from hd)
  exact ⟨b, xs, Cond.one_arg hc (show args[0]? = some (.ref b) from hb), hx, hN, h⟩
theorem lw_comes (l : Launch) (hflags : l.flags = flags0) : Comes l x (Jvm.Cond.code x code maxLocals ret :: tables_1) room_1 (fun tb e args s => Calls_1 tb e args s ∧ rest_1 tb e args s ∧ Pre_1 tb e args s)
    (fun _ _ args s o t => lw_Q args s o t) := by
  intro p e ha hc hk s m args below hf hfit hheap happ hpre
  obtain ⟨b, xs, hP⟩ := lw_pre_spec hpre.2.2 hpre.2.1
  obtain ⟨k, o, h1, h2, h3, hQ⟩ := lw_walk l hflags b xs p e ha hc hk s m args below hf ((Spec.applies_iff_loose hf).mp happ).1 hP trivial
  exact ⟨k, o, h1, h2, h3, hQ⟩
theorem lw_frame {s t : State} {o : Outcome} {args : Array Value} (h : State.butDraws s t lw_cs (fun t1 => Framed s o t1 [] 601024 7293034)) :
    State.butDraws s t [Jvm.Choice.named "NaN.bits"] (fun t1 => Framed s o t1 (fieldLocs frame_1_writes args s ++ arrayLocs frame_1_arrays args s ++ staticLocs frame_1_statics s) 601024 7293034) := h
theorem lw_limb (L : Cond) (hL : ∀ (args : Array Value) (s t : State), L.after args s (.returned (some (.int 1))) t = true) :
    ArmFor flags0 classFile x code maxLocals ret World_1 tables_1 room_1 Calls_1 rest_1 Pre_1
      (fun tb e a s o t => postC L tb e a s o t ∧ State.butDraws s t [Jvm.Choice.named "NaN.bits"] (fun t1 => Framed s o t1 (fieldLocs frame_1_writes a s ++ arrayLocs frame_1_arrays a s ++ staticLocs frame_1_statics s) 601024 7293034)) := by
  intro l hflags _ _ p e ha hc hk s m args below hf hfit hheap happ hpre
  obtain ⟨k, o, h1, h2, h3, rfl, hF⟩ := lw_comes l hflags p e ha hc hk s m args below hf hfit hheap happ hpre
  exact ⟨k, _, h1, h2, h3, hL args s _, lw_frame hF⟩
theorem i_vc : Claimed_1_1 ∧ Claimed_1_2 := ⟨lw_limb limb_1_1 (fun args s t => by simp [limb_1_1, Cond.after, Cond.holds, Cond.value]), lw_limb limb_1_2 (fun args s t => Cond.after_iff.mpr (by
  first | (rw [show limb_1_2 = Cond.eq .result (.int 1) from rfl, Cond.eq_ints (x := 1) (y := 1) rfl rfl]; simp; done) | (simp [limb_1_2, Cond.value, Term.eval]; done)))⟩
