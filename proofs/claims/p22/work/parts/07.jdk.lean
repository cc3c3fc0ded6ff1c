theorem dJ6_compare_7cf53_0 : decode cJ6_compare_7cf53 0 = .ok (.iload_n 0, 1) := by decide +kernel
theorem dJ6_compare_7cf53_1 : decode cJ6_compare_7cf53 1 = .ok (.iload_n 1, 1) := by decide +kernel
theorem dJ6_compare_7cf53_2 : decode cJ6_compare_7cf53 2 = .ok (.if_icmp .ge 7, 3) := by decide +kernel
theorem dJ6_compare_7cf53_5 : decode cJ6_compare_7cf53 5 = .ok (.iconst (-1), 1) := by decide +kernel
theorem dJ6_compare_7cf53_6 : decode cJ6_compare_7cf53 6 = .ok (.goto 13, 3) := by decide +kernel
theorem dJ6_compare_7cf53_9 : decode cJ6_compare_7cf53 9 = .ok (.iload_n 0, 1) := by decide +kernel
theorem dJ6_compare_7cf53_10 : decode cJ6_compare_7cf53 10 = .ok (.iload_n 1, 1) := by decide +kernel
theorem dJ6_compare_7cf53_11 : decode cJ6_compare_7cf53 11 = .ok (.if_icmp .ne 7, 3) := by decide +kernel
theorem dJ6_compare_7cf53_14 : decode cJ6_compare_7cf53 14 = .ok (.iconst 0, 1) := by decide +kernel
theorem dJ6_compare_7cf53_15 : decode cJ6_compare_7cf53 15 = .ok (.goto 4, 3) := by decide +kernel
theorem dJ6_compare_7cf53_18 : decode cJ6_compare_7cf53 18 = .ok (.iconst 1, 1) := by decide +kernel
theorem dJ6_compare_7cf53_19 : decode cJ6_compare_7cf53 19 = .ok (.ireturn, 1) := by decide +kernel

def f_J6_compare_7cf53 (a0 : Int32) (a1 : Int32) : Int32 :=
  if (a1 ≤ a0) then (if (a0 = a1) then ((0 : Int32)) else ((1 : Int32))) else ((-1 : Int32))

set_option maxHeartbeats 4000000 in
set_option maxRecDepth 100000 in
theorem c_J6_compare_7cf53 (l : Launch) (G : GG) (M : Mm) (a0 : Int32) (a1 : Int32) {r : Int32} (hr : f_J6_compare_7cf53 a0 a1 = r) : Mo false l yJ6_compare_7cf53 (WS yJ6_compare_7cf53 cJ6_compare_7cf53 2 (some .int)) (RM 0 0 0 0) 0 0 [.int a0, .int a1] G M (some (.int r)) M := by
  refine Mo.of (by decide +kernel) (Nat.le_of_ble_eq_true rfl) ?_
  intro p e s m args below meth c hC
  have hC : CX p s m args meth c cJ6_compare_7cf53 2 RJ6 (some .int) G := hC
  rw [f_J6_compare_7cf53] at hr
  show XJ p l e (RM 0 0 0 0) s m args below meth c G 2 _ 0 0 M 0 [(0, .int a0), (1, .int a1)] []
  refine x_iload_n hC dJ6_compare_7cf53_0 rfl 0 rfl ?_
  refine x_iload_n hC dJ6_compare_7cf53_1 rfl 1 rfl ?_
  refine x_icmp_ge hC 9 dJ6_compare_7cf53_2 (by decide) (fun h1 => ?_) (fun h1 => ?_)
  · have hr := (ie_s hr).1 h1
    refine x_iload_n hC dJ6_compare_7cf53_9 rfl 0 rfl ?_
    refine x_iload_n hC dJ6_compare_7cf53_10 rfl 1 rfl ?_
    refine x_icmp_ne hC 18 dJ6_compare_7cf53_11 (by decide) (fun h2 => ?_) (fun h2 => ?_)
    · have hr := (ie_s hr).2 h2
      refine x_iconst hC (1 : Int32) dJ6_compare_7cf53_18 (by decide) ?_
      subst hr
      exact x_iret hC rfl dJ6_compare_7cf53_19
    · have hr := (ie_s hr).1 h2
      refine x_iconst hC (0 : Int32) dJ6_compare_7cf53_14 (by decide) ?_
      refine x_goto hC 19 dJ6_compare_7cf53_15 (by decide) ?_
      subst hr
      exact x_iret hC rfl dJ6_compare_7cf53_19
  · have hr := (ie_s hr).2 h1
    refine x_iconst hC (-1 : Int32) dJ6_compare_7cf53_5 (by decide) ?_
    refine x_goto hC 19 dJ6_compare_7cf53_6 (by decide) ?_
    subst hr
    exact x_iret hC rfl dJ6_compare_7cf53_19
