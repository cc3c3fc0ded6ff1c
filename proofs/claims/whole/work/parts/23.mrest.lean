theorem dX11_gang_0 : decode cX11_gang 0 = .ok (.aload_n 0, 1) := by decide +kernel
theorem dX11_gang_1 : decode cX11_gang 1 = .ok (.invokevirtual 137, 3) := by decide +kernel
theorem dX11_gang_4 : decode cX11_gang 4 = .ok (.aload_n 0, 1) := by decide +kernel
theorem dX11_gang_5 : decode cX11_gang 5 = .ok (.getfield 92, 3) := by decide +kernel
theorem dX11_gang_8 : decode cX11_gang 8 = .ok (.iconst 2, 1) := by decide +kernel
theorem dX11_gang_9 : decode cX11_gang 9 = .ok (.if_icmp .ne 11, 3) := by decide +kernel
theorem dX11_gang_12 : decode cX11_gang 12 = .ok (.aload_n 0, 1) := by decide +kernel
theorem dX11_gang_13 : decode cX11_gang 13 = .ok (.getfield 89, 3) := by decide +kernel
theorem dX11_gang_16 : decode cX11_gang 16 = .ok (.iconst (-1), 1) := by decide +kernel
theorem dX11_gang_17 : decode cX11_gang 17 = .ok (.if_icmp .eq 5, 3) := by decide +kernel
theorem dX11_gang_20 : decode cX11_gang 20 = .ok (.iconst 0, 1) := by decide +kernel
theorem dX11_gang_21 : decode cX11_gang 21 = .ok (.ireturn, 1) := by decide +kernel
theorem dX11_gang_22 : decode cX11_gang 22 = .ok (.iconst 0, 1) := by decide +kernel
theorem dX11_gang_23 : decode cX11_gang 23 = .ok (.istore_n 1, 1) := by decide +kernel
theorem dX11_gang_24 : decode cX11_gang 24 = .ok (.iload_n 1, 1) := by decide +kernel
theorem dX11_gang_25 : decode cX11_gang 25 = .ok (.aload_n 0, 1) := by decide +kernel
theorem dX11_gang_26 : decode cX11_gang 26 = .ok (.getfield 159, 3) := by decide +kernel
theorem dX11_gang_29 : decode cX11_gang 29 = .ok (.if_icmp .ge 22, 3) := by decide +kernel
theorem dX11_gang_32 : decode cX11_gang 32 = .ok (.aload_n 0, 1) := by decide +kernel
theorem dX11_gang_33 : decode cX11_gang 33 = .ok (.iload_n 1, 1) := by decide +kernel
theorem dX11_gang_34 : decode cX11_gang 34 = .ok (.invokevirtual 162, 3) := by decide +kernel
theorem dX11_gang_37 : decode cX11_gang 37 = .ok (.ifCond .eq 8, 3) := by decide +kernel
theorem dX11_gang_40 : decode cX11_gang 40 = .ok (.aload_n 0, 1) := by decide +kernel
theorem dX11_gang_41 : decode cX11_gang 41 = .ok (.iconst 2, 1) := by decide +kernel
theorem dX11_gang_42 : decode cX11_gang 42 = .ok (.invokevirtual 165, 3) := by decide +kernel
theorem dX11_gang_45 : decode cX11_gang 45 = .ok (.iinc 1 1, 3) := by decide +kernel
theorem dX11_gang_48 : decode cX11_gang 48 = .ok (.goto (-24), 3) := by decide +kernel
theorem dX11_gang_51 : decode cX11_gang 51 = .ok (.aload_n 0, 1) := by decide +kernel
theorem dX11_gang_52 : decode cX11_gang 52 = .ok (.getfield 159, 3) := by decide +kernel
theorem dX11_gang_55 : decode cX11_gang 55 = .ok (.iconst 4, 1) := by decide +kernel
theorem dX11_gang_56 : decode cX11_gang 56 = .ok (.if_icmp .lt 8, 3) := by decide +kernel
theorem dX11_gang_59 : decode cX11_gang 59 = .ok (.aload_n 0, 1) := by decide +kernel
theorem dX11_gang_60 : decode cX11_gang 60 = .ok (.iconst 4, 1) := by decide +kernel
theorem dX11_gang_61 : decode cX11_gang 61 = .ok (.invokevirtual 165, 3) := by decide +kernel
theorem dX11_gang_64 : decode cX11_gang 64 = .ok (.aload_n 0, 1) := by decide +kernel
theorem dX11_gang_65 : decode cX11_gang 65 = .ok (.getfield 32, 3) := by decide +kernel
theorem dX11_gang_68 : decode cX11_gang 68 = .ok (.aload_n 0, 1) := by decide +kernel
theorem dX11_gang_69 : decode cX11_gang 69 = .ok (.getfield 159, 3) := by decide +kernel
theorem dX11_gang_72 : decode cX11_gang 72 = .ok (.aload_n 0, 1) := by decide +kernel
theorem dX11_gang_73 : decode cX11_gang 73 = .ok (.getfield 86, 3) := by decide +kernel
theorem dX11_gang_76 : decode cX11_gang 76 = .ok (.iastore, 1) := by decide +kernel
theorem dX11_gang_77 : decode cX11_gang 77 = .ok (.aload_n 0, 1) := by decide +kernel
theorem dX11_gang_78 : decode cX11_gang 78 = .ok (.getfield 35, 3) := by decide +kernel
theorem dX11_gang_81 : decode cX11_gang 81 = .ok (.aload_n 0, 1) := by decide +kernel
theorem dX11_gang_82 : decode cX11_gang 82 = .ok (.getfield 159, 3) := by decide +kernel
theorem dX11_gang_85 : decode cX11_gang 85 = .ok (.aload_n 0, 1) := by decide +kernel
theorem dX11_gang_86 : decode cX11_gang 86 = .ok (.getfield 83, 3) := by decide +kernel
theorem dX11_gang_89 : decode cX11_gang 89 = .ok (.aload_n 0, 1) := by decide +kernel
theorem dX11_gang_90 : decode cX11_gang 90 = .ok (.getfield 86, 3) := by decide +kernel
theorem dX11_gang_93 : decode cX11_gang 93 = .ok (.isub, 1) := by decide +kernel
theorem dX11_gang_94 : decode cX11_gang 94 = .ok (.iastore, 1) := by decide +kernel
theorem dX11_gang_95 : decode cX11_gang 95 = .ok (.aload_n 0, 1) := by decide +kernel
theorem dX11_gang_96 : decode cX11_gang 96 = .ok (.invokevirtual 137, 3) := by decide +kernel
theorem dX11_gang_99 : decode cX11_gang 99 = .ok (.aload_n 0, 1) := by decide +kernel
theorem dX11_gang_100 : decode cX11_gang 100 = .ok (.iconst 1, 1) := by decide +kernel
theorem dX11_gang_101 : decode cX11_gang 101 = .ok (.invokevirtual 169, 3) := by decide +kernel
theorem dX11_gang_104 : decode cX11_gang 104 = .ok (.ifCond .eq 11, 3) := by decide +kernel
theorem dX11_gang_107 : decode cX11_gang 107 = .ok (.aload_n 0, 1) := by decide +kernel
theorem dX11_gang_108 : decode cX11_gang 108 = .ok (.getfield 92, 3) := by decide +kernel
theorem dX11_gang_111 : decode cX11_gang 111 = .ok (.iconst 3, 1) := by decide +kernel
theorem dX11_gang_112 : decode cX11_gang 112 = .ok (.if_icmp .eq 5, 3) := by decide +kernel
theorem dX11_gang_115 : decode cX11_gang 115 = .ok (.iconst 0, 1) := by decide +kernel
theorem dX11_gang_116 : decode cX11_gang 116 = .ok (.ireturn, 1) := by decide +kernel
theorem dX11_gang_117 : decode cX11_gang 117 = .ok (.aload_n 0, 1) := by decide +kernel
theorem dX11_gang_118 : decode cX11_gang 118 = .ok (.getfield 41, 3) := by decide +kernel
theorem dX11_gang_121 : decode cX11_gang 121 = .ok (.aload_n 0, 1) := by decide +kernel
theorem dX11_gang_122 : decode cX11_gang 122 = .ok (.getfield 159, 3) := by decide +kernel
theorem dX11_gang_125 : decode cX11_gang 125 = .ok (.aload_n 0, 1) := by decide +kernel
theorem dX11_gang_126 : decode cX11_gang 126 = .ok (.getfield 89, 3) := by decide +kernel
theorem dX11_gang_129 : decode cX11_gang 129 = .ok (.iastore, 1) := by decide +kernel
theorem dX11_gang_130 : decode cX11_gang 130 = .ok (.aload_n 0, 1) := by decide +kernel
theorem dX11_gang_131 : decode cX11_gang 131 = .ok (.getfield 89, 3) := by decide +kernel
theorem dX11_gang_134 : decode cX11_gang 134 = .ok (.bipush 8, 2) := by decide +kernel
theorem dX11_gang_136 : decode cX11_gang 136 = .ok (.if_icmp .lt 8, 3) := by decide +kernel
theorem dX11_gang_139 : decode cX11_gang 139 = .ok (.aload_n 0, 1) := by decide +kernel
theorem dX11_gang_140 : decode cX11_gang 140 = .ok (.iconst 3, 1) := by decide +kernel
theorem dX11_gang_141 : decode cX11_gang 141 = .ok (.invokevirtual 165, 3) := by decide +kernel
theorem dX11_gang_144 : decode cX11_gang 144 = .ok (.aload_n 0, 1) := by decide +kernel
theorem dX11_gang_145 : decode cX11_gang 145 = .ok (.invokevirtual 137, 3) := by decide +kernel
theorem dX11_gang_148 : decode cX11_gang 148 = .ok (.aload_n 0, 1) := by decide +kernel
theorem dX11_gang_149 : decode cX11_gang 149 = .ok (.getfield 92, 3) := by decide +kernel
theorem dX11_gang_152 : decode cX11_gang 152 = .ok (.iconst 3, 1) := by decide +kernel
theorem dX11_gang_153 : decode cX11_gang 153 = .ok (.if_icmp .eq 5, 3) := by decide +kernel
theorem dX11_gang_156 : decode cX11_gang 156 = .ok (.iconst 0, 1) := by decide +kernel
theorem dX11_gang_157 : decode cX11_gang 157 = .ok (.ireturn, 1) := by decide +kernel
theorem dX11_gang_158 : decode cX11_gang 158 = .ok (.aload_n 0, 1) := by decide +kernel
theorem dX11_gang_159 : decode cX11_gang 159 = .ok (.getfield 44, 3) := by decide +kernel
theorem dX11_gang_162 : decode cX11_gang 162 = .ok (.aload_n 0, 1) := by decide +kernel
theorem dX11_gang_163 : decode cX11_gang 163 = .ok (.getfield 159, 3) := by decide +kernel
theorem dX11_gang_166 : decode cX11_gang 166 = .ok (.aload_n 0, 1) := by decide +kernel
theorem dX11_gang_167 : decode cX11_gang 167 = .ok (.getfield 89, 3) := by decide +kernel
theorem dX11_gang_170 : decode cX11_gang 170 = .ok (.iastore, 1) := by decide +kernel
theorem dX11_gang_171 : decode cX11_gang 171 = .ok (.aload_n 0, 1) := by decide +kernel
theorem dX11_gang_172 : decode cX11_gang 172 = .ok (.getfield 89, 3) := by decide +kernel
theorem dX11_gang_175 : decode cX11_gang 175 = .ok (.bipush 8, 2) := by decide +kernel
theorem dX11_gang_177 : decode cX11_gang 177 = .ok (.if_icmp .lt 8, 3) := by decide +kernel
theorem dX11_gang_180 : decode cX11_gang 180 = .ok (.aload_n 0, 1) := by decide +kernel
theorem dX11_gang_181 : decode cX11_gang 181 = .ok (.iconst 3, 1) := by decide +kernel
theorem dX11_gang_182 : decode cX11_gang 182 = .ok (.invokevirtual 165, 3) := by decide +kernel
theorem dX11_gang_185 : decode cX11_gang 185 = .ok (.aload_n 0, 1) := by decide +kernel
theorem dX11_gang_186 : decode cX11_gang 186 = .ok (.invokevirtual 137, 3) := by decide +kernel
theorem dX11_gang_189 : decode cX11_gang 189 = .ok (.aload_n 0, 1) := by decide +kernel
theorem dX11_gang_190 : decode cX11_gang 190 = .ok (.getfield 38, 3) := by decide +kernel
theorem dX11_gang_193 : decode cX11_gang 193 = .ok (.aload_n 0, 1) := by decide +kernel
theorem dX11_gang_194 : decode cX11_gang 194 = .ok (.getfield 159, 3) := by decide +kernel
theorem dX11_gang_197 : decode cX11_gang 197 = .ok (.aload_n 0, 1) := by decide +kernel
theorem dX11_gang_198 : decode cX11_gang 198 = .ok (.getfield 146, 3) := by decide +kernel
theorem dX11_gang_201 : decode cX11_gang 201 = .ok (.iastore, 1) := by decide +kernel
theorem dX11_gang_202 : decode cX11_gang 202 = .ok (.aload_n 0, 1) := by decide +kernel
theorem dX11_gang_203 : decode cX11_gang 203 = .ok (.dup, 1) := by decide +kernel
theorem dX11_gang_204 : decode cX11_gang 204 = .ok (.getfield 159, 3) := by decide +kernel
theorem dX11_gang_207 : decode cX11_gang 207 = .ok (.iconst 1, 1) := by decide +kernel
theorem dX11_gang_208 : decode cX11_gang 208 = .ok (.iadd, 1) := by decide +kernel
theorem dX11_gang_209 : decode cX11_gang 209 = .ok (.putfield 159, 3) := by decide +kernel
theorem dX11_gang_212 : decode cX11_gang 212 = .ok (.aload_n 0, 1) := by decide +kernel
theorem dX11_gang_213 : decode cX11_gang 213 = .ok (.invokevirtual 172, 3) := by decide +kernel
theorem dX11_gang_216 : decode cX11_gang 216 = .ok (.ifCond .ne 5, 3) := by decide +kernel
theorem dX11_gang_219 : decode cX11_gang 219 = .ok (.iconst 0, 1) := by decide +kernel
theorem dX11_gang_220 : decode cX11_gang 220 = .ok (.ireturn, 1) := by decide +kernel
theorem dX11_gang_221 : decode cX11_gang 221 = .ok (.aload_n 0, 1) := by decide +kernel
theorem dX11_gang_222 : decode cX11_gang 222 = .ok (.bipush 40, 2) := by decide +kernel
theorem dX11_gang_224 : decode cX11_gang 224 = .ok (.invokevirtual 175, 3) := by decide +kernel
theorem dX11_gang_227 : decode cX11_gang 227 = .ok (.iconst 1, 1) := by decide +kernel
theorem dX11_gang_228 : decode cX11_gang 228 = .ok (.ireturn, 1) := by decide +kernel
def f_X11_gang_L24 (i0 : Nat) : Nat → Int32 → Mm → Option (Mm)
  | 0, _, _ => none
  | n + 1, v1, M =>
    if ((M i0 19) ≤ v1) then (some (M)) else (bd1 (f_X11_isNameOf i0 v1 M) fun x7 => bd1 (if (x7 = 0) then (some (M)) else (bd1 (f_X11_fault i0 (2 : Int32) M) fun M12 => some (M12))) fun M15 => lz (v1 + (1 : Int32)) fun x16 => f_X11_gang_L24 i0 n x16 M15)
def f_X11_gang (i0 : Nat) (M : Mm) : Option (Int32 × Mm) :=
  bd1 (f_X11_advance i0 M) fun M1 => if ((M1 i0 14) = (2 : Int32)) then (if ((M1 i0 16) = (-1 : Int32)) then (bd1 (f_X11_gang_L24 i0 FU (0 : Int32) M1) fun M19 => bd1 (if ((M19 i0 19) < (4 : Int32)) then (some (M19)) else (bd1 (f_X11_fault i0 (4 : Int32) M19) fun M22 => some (M22))) fun M25 => if 0 ≤ (M25 i0 19).toInt ∧ (M25 i0 19).toInt < ((100 : Nat) : Int) then (lz (wr M25 (i0 + 7) (ix (M25 i0 19)) (M25 i0 15)) fun M27 => if 0 ≤ (M27 i0 19).toInt ∧ (M27 i0 19).toInt < ((100 : Nat) : Int) then (lz (wr M27 (i0 + 8) (ix (M27 i0 19)) ((M27 i0 12) - (M27 i0 15))) fun M30 => bd1 (f_X11_advance i0 M30) fun M32 => bd2 (f_X11_passWord i0 (1 : Int32) M32) fun x35 M36 => if (x35 = 0) then (some ((0 : Int32), M36)) else (if ((M36 i0 14) = (3 : Int32)) then (if 0 ≤ (M36 i0 19).toInt ∧ (M36 i0 19).toInt < ((100 : Nat) : Int) then (lz (wr M36 (i0 + 10) (ix (M36 i0 19)) (M36 i0 16)) fun M42 => bd1 (if ((M42 i0 16) < (8 : Int32)) then (some (M42)) else (bd1 (f_X11_fault i0 (3 : Int32) M42) fun M46 => some (M46))) fun M49 => bd1 (f_X11_advance i0 M49) fun M50 => if ((M50 i0 14) = (3 : Int32)) then (if 0 ≤ (M50 i0 19).toInt ∧ (M50 i0 19).toInt < ((100 : Nat) : Int) then (lz (wr M50 (i0 + 11) (ix (M50 i0 19)) (M50 i0 16)) fun M55 => bd1 (if ((M55 i0 16) < (8 : Int32)) then (some (M55)) else (bd1 (f_X11_fault i0 (3 : Int32) M55) fun M59 => some (M59))) fun M62 => bd1 (f_X11_advance i0 M62) fun M63 => if 0 ≤ (M63 i0 19).toInt ∧ (M63 i0 19).toInt < ((100 : Nat) : Int) then (lz (wr M63 (i0 + 9) (ix (M63 i0 19)) (M63 i0 11)) fun M67 => lz (wr M67 i0 19 ((M67 i0 19) + (1 : Int32))) fun M69 => bd2 (f_P11 100 0 i0 0 M69) fun x71 M72 => if (x71 = 0) then (some ((0 : Int32), M72)) else (bd1 (f_X11_put i0 (40 : Int32) M72) fun M76 => some ((1 : Int32), M76))) else none) else none) else (some ((0 : Int32), M50))) else none) else (some ((0 : Int32), M36)))) else none) else none) else (some ((0 : Int32), M1))) else (some ((0 : Int32), M1))
set_option maxHeartbeats 4000000 in
set_option maxRecDepth 100000 in
theorem l_X11_gang_L24 {p : Program} {e : Env} {s : State} {m : MethodId} {args : Array Value} {below : List Frame} {meth : Method} {c : Code} {l : Launch} {G : GG} {Q : State → Prop} (hC : CX p s m args meth c cX11_gang 2 RX11 (some .boolean) G) {i0 : Nat} (hi0 : (kd i0).1 = 5) : ∀ (n : Nat) (v1 : Int32) (M : Mm) {M2 : Mm} (hr : f_X11_gang_L24 i0 n v1 M = some (M2)) (K : XJ p l e (RM 121 0 0 5020) s m args below meth c G 2 Q 0 0 M2 51 [(0, .ref (G.2.1 i0))] []), XJ p l e (RM 121 0 0 5020) s m args below meth c G 2 Q 0 0 M 24 [(0, .ref (G.2.1 i0)), (1, .int v1)] [] := by
  intro n
  induction n with
  | zero => intro v1 M M2 hr K; rw [f_X11_gang_L24] at hr; cases hr
  | succ n ih =>
    intro v1 M M2 hr K
    rw [f_X11_gang_L24] at hr
    refine x_iload_n hC dX11_gang_24 rfl 1 rfl ?_
    refine x_aload_n hC dX11_gang_25 rfl 0 rfl ?_
    refine gf_X11_159 hC hi0 dX11_gang_26 ?_
    refine x_icmp_ge hC 51 dX11_gang_29 (by decide) (fun h6 => ?_) (fun h6 => ?_)
    · have hr := (ie_s hr).1 h6
      cases hr
      exact x_sub [0] rfl K
    · have hr := (ie_s hr).2 h6
      refine x_aload_n hC dX11_gang_32 rfl 0 rfl ?_
      refine x_iload_n hC dX11_gang_33 rfl 1 rfl ?_
      obtain ⟨x7, q8, hr⟩ := bd1_s hr
      refine x_callV (ci := 5) (q := (RX11, TX11, 32)) (As := [.int v1]) hC (c_X11_isNameOf l G M hi0 v1 q8) kc_yX11_isNameOf km_X11_162 ki_yX11_isNameOf kv_yX11_isNameOf kn_RX11 ky_yX11_isNameOf rfl ⟨rfl, rfl⟩ ⟨(Nat.le_of_ble_eq_true rfl), (Nat.le_of_ble_eq_true rfl)⟩ hi0 (by decide) rfl rfl (Nat.le_of_ble_eq_true rfl) ⟨(Nat.le_of_ble_eq_true rfl), (Nat.le_of_ble_eq_true rfl)⟩ dX11_gang_34 (fun b9 => ?_)
      obtain ⟨M15, q10, hr⟩ := bd1_s hr
      refine x_join (M' := M15) (pc' := 45) (lv' := [(0, .ref (G.2.1 i0)), (1, .int v1)]) (st' := []) ?_ ?_
      · obtain ⟨x16, e17, hr⟩ := lz_s hr
        refine x_iinc hC [(1, .int x16), (0, .ref (G.2.1 i0))] dX11_gang_45 1 rfl (by rw [e17]; rfl) (Nat.le_of_ble_eq_true rfl) rfl ?_
        refine x_goto hC 24 dX11_gang_48 (by decide) ?_
        exact x_sub [1, 0] rfl (ih x16 M15 hr K)
      · intro kj
        refine x_if_eq hC 45 dX11_gang_37 (by decide) (fun h11 => ?_) (fun h11 => ?_)
        · have q10 := (ie_s q10).1 h11
          cases q10
          exact x_sub [0, 1] rfl kj
        · have q10 := (ie_s q10).2 h11
          refine x_aload_n hC dX11_gang_40 rfl 0 rfl ?_
          refine x_iconst hC (2 : Int32) dX11_gang_41 (by decide) ?_
          obtain ⟨M12, q13, q10⟩ := bd1_s q10
          refine x_callV (ci := 5) (q := (RX11, TX11, 32)) (As := [.int (2 : Int32)]) hC (c_X11_fault l G M hi0 (2 : Int32) q13) kc_yX11_fault km_X11_165 ki_yX11_fault kv_yX11_fault kn_RX11 ky_yX11_fault rfl ⟨rfl, rfl⟩ ⟨(Nat.le_of_ble_eq_true rfl), (Nat.le_of_ble_eq_true rfl)⟩ hi0 (by decide) rfl rfl (Nat.le_of_ble_eq_true rfl) ⟨(Nat.le_of_ble_eq_true rfl), (Nat.le_of_ble_eq_true rfl)⟩ dX11_gang_42 (fun b14 => ?_)
          cases q10
          exact x_sub [0, 1] rfl kj
set_option maxHeartbeats 4000000 in
set_option maxRecDepth 100000 in
theorem c_X11_gang (l : Launch) (G : GG) (M : Mm) {i0 : Nat} (hi0 : (kd i0).1 = 5) {r : Int32} {M9 : Mm} (hr : f_X11_gang i0 M = some (r, M9)) : Mo true l yX11_gang (WS yX11_gang cX11_gang 2 (some .boolean)) (RM 121 0 0 5020) 0 0 [.ref (G.2.1 i0)] G M (some (.int r)) M9 := by
  refine Mo.of (by decide +kernel) (Nat.le_of_ble_eq_true rfl) ?_
  intro p e s m args below meth c hC
  have hC : CX p s m args meth c cX11_gang 2 RX11 (some .boolean) G := hC
  rw [f_X11_gang] at hr
  show XJ p l e (RM 121 0 0 5020) s m args below meth c G 2 _ 0 0 M 0 [(0, .ref (G.2.1 i0))] []
  refine x_aload_n hC dX11_gang_0 rfl 0 rfl ?_
  obtain ⟨M1, q2, hr⟩ := bd1_s hr
  refine x_callV (ci := 5) (q := (RX11, TX11, 32)) (As := []) hC (c_X11_advance l G M hi0 q2) kc_yX11_advance km_X11_137 ki_yX11_advance kv_yX11_advance kn_RX11 ky_yX11_advance rfl ⟨rfl, rfl⟩ ⟨(Nat.le_of_ble_eq_true rfl), (Nat.le_of_ble_eq_true rfl)⟩ hi0 (by decide) rfl rfl (Nat.le_of_ble_eq_true rfl) ⟨(Nat.le_of_ble_eq_true rfl), (Nat.le_of_ble_eq_true rfl)⟩ dX11_gang_1 (fun b3 => ?_)
  refine x_aload_n hC dX11_gang_4 rfl 0 rfl ?_
  refine gf_X11_92 hC hi0 dX11_gang_5 ?_
  refine x_iconst hC (2 : Int32) dX11_gang_8 (by decide) ?_
  refine x_icmp_ne hC 20 dX11_gang_9 (by decide) (fun h4 => ?_) (fun h4 => ?_)
  · have hr := (ie_s hr).2 h4
    refine x_iconst hC (0 : Int32) dX11_gang_20 (by decide) ?_
    cases hr
    exact x_zret hC rfl (Or.inl rfl) dX11_gang_21
  · have hr := (ie_s hr).1 h4
    refine x_aload_n hC dX11_gang_12 rfl 0 rfl ?_
    refine gf_X11_89 hC hi0 dX11_gang_13 ?_
    refine x_iconst hC (-1 : Int32) dX11_gang_16 (by decide) ?_
    refine x_icmp_eq hC 22 dX11_gang_17 (by decide) (fun h5 => ?_) (fun h5 => ?_)
    · have hr := (ie_s hr).1 h5
      refine x_iconst hC (0 : Int32) dX11_gang_22 (by decide) ?_
      refine x_istore_n hC [(1, .int (0 : Int32)), (0, .ref (G.2.1 i0))] dX11_gang_23 rfl (Nat.le_of_ble_eq_true rfl) rfl ?_
      obtain ⟨M19, q18, hr⟩ := bd1_s hr
      refine x_sub [1, 0] rfl (l_X11_gang_L24 hC hi0 FU  (0 : Int32) M1 q18 ?_)
      refine x_aload_n hC dX11_gang_51 rfl 0 rfl ?_
      refine gf_X11_159 hC hi0 dX11_gang_52 ?_
      refine x_iconst hC (4 : Int32) dX11_gang_55 (by decide) ?_
      obtain ⟨M25, q20, hr⟩ := bd1_s hr
      refine x_join (M' := M25) (pc' := 64) (lv' := [(0, .ref (G.2.1 i0))]) (st' := []) ?_ ?_
      · refine x_aload_n hC dX11_gang_64 rfl 0 rfl ?_
        refine gf_X11_32 hC hi0 dX11_gang_65 ?_
        refine x_aload_n hC dX11_gang_68 rfl 0 rfl ?_
        refine gf_X11_159 hC hi0 dX11_gang_69 ?_
        refine x_aload_n hC dX11_gang_72 rfl 0 rfl ?_
        refine gf_X11_86 hC hi0 dX11_gang_73 ?_
        obtain ⟨h26, hr⟩ := it_s hr
        obtain ⟨M27, e28, hr⟩ := lz_s hr
        refine x_iast hC (kr_5_22 hi0) h26 e28 dX11_gang_76 ?_
        refine x_aload_n hC dX11_gang_77 rfl 0 rfl ?_
        refine gf_X11_35 hC hi0 dX11_gang_78 ?_
        refine x_aload_n hC dX11_gang_81 rfl 0 rfl ?_
        refine gf_X11_159 hC hi0 dX11_gang_82 ?_
        refine x_aload_n hC dX11_gang_85 rfl 0 rfl ?_
        refine gf_X11_83 hC hi0 dX11_gang_86 ?_
        refine x_aload_n hC dX11_gang_89 rfl 0 rfl ?_
        refine gf_X11_86 hC hi0 dX11_gang_90 ?_
        refine x_isub hC dX11_gang_93 ?_
        obtain ⟨h29, hr⟩ := it_s hr
        obtain ⟨M30, e31, hr⟩ := lz_s hr
        refine x_iast hC (kr_5_23 hi0) h29 e31 dX11_gang_94 ?_
        refine x_aload_n hC dX11_gang_95 rfl 0 rfl ?_
        obtain ⟨M32, q33, hr⟩ := bd1_s hr
        refine x_callV (ci := 5) (q := (RX11, TX11, 32)) (As := []) hC (c_X11_advance l G M30 hi0 q33) kc_yX11_advance km_X11_137 ki_yX11_advance kv_yX11_advance kn_RX11 ky_yX11_advance rfl ⟨rfl, rfl⟩ ⟨(Nat.le_of_ble_eq_true rfl), (Nat.le_of_ble_eq_true rfl)⟩ hi0 (by decide) rfl rfl (Nat.le_of_ble_eq_true rfl) ⟨(Nat.le_of_ble_eq_true rfl), (Nat.le_of_ble_eq_true rfl)⟩ dX11_gang_96 (fun b34 => ?_)
        refine x_aload_n hC dX11_gang_99 rfl 0 rfl ?_
        refine x_iconst hC (1 : Int32) dX11_gang_100 (by decide) ?_
        obtain ⟨x35, M36, q37, hr⟩ := bd2_s hr
        refine x_callV (ci := 5) (q := (RX11, TX11, 32)) (As := [.int (1 : Int32)]) hC (c_X11_passWord l G M32 hi0 (1 : Int32) q37) kc_yX11_passWord km_X11_169 ki_yX11_passWord kv_yX11_passWord kn_RX11 ky_yX11_passWord rfl ⟨rfl, rfl⟩ ⟨(Nat.le_of_ble_eq_true rfl), (Nat.le_of_ble_eq_true rfl)⟩ hi0 (by decide) rfl rfl (Nat.le_of_ble_eq_true rfl) ⟨(Nat.le_of_ble_eq_true rfl), (Nat.le_of_ble_eq_true rfl)⟩ dX11_gang_101 (fun b38 => ?_)
        refine x_if_eq hC 115 dX11_gang_104 (by decide) (fun h39 => ?_) (fun h39 => ?_)
        · have hr := (ie_s hr).1 h39
          refine x_iconst hC (0 : Int32) dX11_gang_115 (by decide) ?_
          cases hr
          exact x_zret hC rfl (Or.inl rfl) dX11_gang_116
        · have hr := (ie_s hr).2 h39
          refine x_aload_n hC dX11_gang_107 rfl 0 rfl ?_
          refine gf_X11_92 hC hi0 dX11_gang_108 ?_
          refine x_iconst hC (3 : Int32) dX11_gang_111 (by decide) ?_
          refine x_icmp_eq hC 117 dX11_gang_112 (by decide) (fun h40 => ?_) (fun h40 => ?_)
          · have hr := (ie_s hr).1 h40
            refine x_aload_n hC dX11_gang_117 rfl 0 rfl ?_
            refine gf_X11_41 hC hi0 dX11_gang_118 ?_
            refine x_aload_n hC dX11_gang_121 rfl 0 rfl ?_
            refine gf_X11_159 hC hi0 dX11_gang_122 ?_
            refine x_aload_n hC dX11_gang_125 rfl 0 rfl ?_
            refine gf_X11_89 hC hi0 dX11_gang_126 ?_
            obtain ⟨h41, hr⟩ := it_s hr
            obtain ⟨M42, e43, hr⟩ := lz_s hr
            refine x_iast hC (kr_5_25 hi0) h41 e43 dX11_gang_129 ?_
            refine x_aload_n hC dX11_gang_130 rfl 0 rfl ?_
            refine gf_X11_89 hC hi0 dX11_gang_131 ?_
            refine x_bipush hC (8 : Int32) dX11_gang_134 (by decide) ?_
            obtain ⟨M49, q44, hr⟩ := bd1_s hr
            refine x_join (M' := M49) (pc' := 144) (lv' := [(0, .ref (G.2.1 i0))]) (st' := []) ?_ ?_
            · refine x_aload_n hC dX11_gang_144 rfl 0 rfl ?_
              obtain ⟨M50, q51, hr⟩ := bd1_s hr
              refine x_callV (ci := 5) (q := (RX11, TX11, 32)) (As := []) hC (c_X11_advance l G M49 hi0 q51) kc_yX11_advance km_X11_137 ki_yX11_advance kv_yX11_advance kn_RX11 ky_yX11_advance rfl ⟨rfl, rfl⟩ ⟨(Nat.le_of_ble_eq_true rfl), (Nat.le_of_ble_eq_true rfl)⟩ hi0 (by decide) rfl rfl (Nat.le_of_ble_eq_true rfl) ⟨(Nat.le_of_ble_eq_true rfl), (Nat.le_of_ble_eq_true rfl)⟩ dX11_gang_145 (fun b52 => ?_)
              refine x_aload_n hC dX11_gang_148 rfl 0 rfl ?_
              refine gf_X11_92 hC hi0 dX11_gang_149 ?_
              refine x_iconst hC (3 : Int32) dX11_gang_152 (by decide) ?_
              refine x_icmp_eq hC 158 dX11_gang_153 (by decide) (fun h53 => ?_) (fun h53 => ?_)
              · have hr := (ie_s hr).1 h53
                refine x_aload_n hC dX11_gang_158 rfl 0 rfl ?_
                refine gf_X11_44 hC hi0 dX11_gang_159 ?_
                refine x_aload_n hC dX11_gang_162 rfl 0 rfl ?_
                refine gf_X11_159 hC hi0 dX11_gang_163 ?_
                refine x_aload_n hC dX11_gang_166 rfl 0 rfl ?_
                refine gf_X11_89 hC hi0 dX11_gang_167 ?_
                obtain ⟨h54, hr⟩ := it_s hr
                obtain ⟨M55, e56, hr⟩ := lz_s hr
                refine x_iast hC (kr_5_26 hi0) h54 e56 dX11_gang_170 ?_
                refine x_aload_n hC dX11_gang_171 rfl 0 rfl ?_
                refine gf_X11_89 hC hi0 dX11_gang_172 ?_
                refine x_bipush hC (8 : Int32) dX11_gang_175 (by decide) ?_
                obtain ⟨M62, q57, hr⟩ := bd1_s hr
                refine x_join (M' := M62) (pc' := 185) (lv' := [(0, .ref (G.2.1 i0))]) (st' := []) ?_ ?_
                · refine x_aload_n hC dX11_gang_185 rfl 0 rfl ?_
                  obtain ⟨M63, q64, hr⟩ := bd1_s hr
                  refine x_callV (ci := 5) (q := (RX11, TX11, 32)) (As := []) hC (c_X11_advance l G M62 hi0 q64) kc_yX11_advance km_X11_137 ki_yX11_advance kv_yX11_advance kn_RX11 ky_yX11_advance rfl ⟨rfl, rfl⟩ ⟨(Nat.le_of_ble_eq_true rfl), (Nat.le_of_ble_eq_true rfl)⟩ hi0 (by decide) rfl rfl (Nat.le_of_ble_eq_true rfl) ⟨(Nat.le_of_ble_eq_true rfl), (Nat.le_of_ble_eq_true rfl)⟩ dX11_gang_186 (fun b65 => ?_)
                  refine x_aload_n hC dX11_gang_189 rfl 0 rfl ?_
                  refine gf_X11_38 hC hi0 dX11_gang_190 ?_
                  refine x_aload_n hC dX11_gang_193 rfl 0 rfl ?_
                  refine gf_X11_159 hC hi0 dX11_gang_194 ?_
                  refine x_aload_n hC dX11_gang_197 rfl 0 rfl ?_
                  refine gf_X11_146 hC hi0 dX11_gang_198 ?_
                  obtain ⟨h66, hr⟩ := it_s hr
                  obtain ⟨M67, e68, hr⟩ := lz_s hr
                  refine x_iast hC (kr_5_24 hi0) h66 e68 dX11_gang_201 ?_
                  refine x_aload_n hC dX11_gang_202 rfl 0 rfl ?_
                  refine x_dup hC dX11_gang_203 rfl ?_
                  refine gf_X11_159 hC hi0 dX11_gang_204 ?_
                  refine x_iconst hC (1 : Int32) dX11_gang_207 (by decide) ?_
                  refine x_iadd hC dX11_gang_208 ?_
                  obtain ⟨M69, e70, hr⟩ := lz_s hr
                  refine pf_X11_159 hC hi0 e70 dX11_gang_209 ?_
                  refine x_aload_n hC dX11_gang_212 rfl 0 rfl ?_
                  obtain ⟨x71, M72, q73, hr⟩ := bd2_s hr
                  refine x_callV (ci := 5) (q := (RX11, TX11, 32)) (As := []) hC ((c_P11 l G 100).1 hi0 0 q73) kc_yX11_block km_X11_172 ki_yX11_block kv_yX11_block kn_RX11 ky_yX11_block rfl ⟨rfl, rfl⟩ ⟨(Nat.le_of_ble_eq_true rfl), (Nat.le_of_ble_eq_true rfl)⟩ hi0 (by decide) rfl rfl (Nat.le_of_ble_eq_true rfl) ⟨(Nat.le_of_ble_eq_true rfl), (Nat.le_of_ble_eq_true rfl)⟩ dX11_gang_213 (fun b74 => ?_)
                  refine x_if_ne hC 221 dX11_gang_216 (by decide) (fun h75 => ?_) (fun h75 => ?_)
                  · have hr := (ie_s hr).2 h75
                    refine x_aload_n hC dX11_gang_221 rfl 0 rfl ?_
                    refine x_bipush hC (40 : Int32) dX11_gang_222 (by decide) ?_
                    obtain ⟨M76, q77, hr⟩ := bd1_s hr
                    refine x_callV (ci := 5) (q := (RX11, TX11, 32)) (As := [.int (40 : Int32)]) hC (c_X11_put l G M72 hi0 (40 : Int32) q77) kc_yX11_put km_X11_175 ki_yX11_put kv_yX11_put kn_RX11 ky_yX11_put rfl ⟨rfl, rfl⟩ ⟨(Nat.le_of_ble_eq_true rfl), (Nat.le_of_ble_eq_true rfl)⟩ hi0 (by decide) rfl rfl (Nat.le_of_ble_eq_true rfl) ⟨(Nat.le_of_ble_eq_true rfl), (Nat.le_of_ble_eq_true rfl)⟩ dX11_gang_224 (fun b78 => ?_)
                    refine x_iconst hC (1 : Int32) dX11_gang_227 (by decide) ?_
                    cases hr
                    exact x_zret hC rfl (Or.inr rfl) dX11_gang_228
                  · have hr := (ie_s hr).1 h75
                    refine x_iconst hC (0 : Int32) dX11_gang_219 (by decide) ?_
                    cases hr
                    exact x_zret hC rfl (Or.inl rfl) dX11_gang_220
                · intro kj
                  refine x_icmp_lt hC 185 dX11_gang_177 (by decide) (fun h58 => ?_) (fun h58 => ?_)
                  · have q57 := (ie_s q57).1 h58
                    cases q57
                    exact x_sub [0] rfl kj
                  · have q57 := (ie_s q57).2 h58
                    refine x_aload_n hC dX11_gang_180 rfl 0 rfl ?_
                    refine x_iconst hC (3 : Int32) dX11_gang_181 (by decide) ?_
                    obtain ⟨M59, q60, q57⟩ := bd1_s q57
                    refine x_callV (ci := 5) (q := (RX11, TX11, 32)) (As := [.int (3 : Int32)]) hC (c_X11_fault l G M55 hi0 (3 : Int32) q60) kc_yX11_fault km_X11_165 ki_yX11_fault kv_yX11_fault kn_RX11 ky_yX11_fault rfl ⟨rfl, rfl⟩ ⟨(Nat.le_of_ble_eq_true rfl), (Nat.le_of_ble_eq_true rfl)⟩ hi0 (by decide) rfl rfl (Nat.le_of_ble_eq_true rfl) ⟨(Nat.le_of_ble_eq_true rfl), (Nat.le_of_ble_eq_true rfl)⟩ dX11_gang_182 (fun b61 => ?_)
                    cases q57
                    exact x_sub [0] rfl kj
              · have hr := (ie_s hr).2 h53
                refine x_iconst hC (0 : Int32) dX11_gang_156 (by decide) ?_
                cases hr
                exact x_zret hC rfl (Or.inl rfl) dX11_gang_157
            · intro kj
              refine x_icmp_lt hC 144 dX11_gang_136 (by decide) (fun h45 => ?_) (fun h45 => ?_)
              · have q44 := (ie_s q44).1 h45
                cases q44
                exact x_sub [0] rfl kj
              · have q44 := (ie_s q44).2 h45
                refine x_aload_n hC dX11_gang_139 rfl 0 rfl ?_
                refine x_iconst hC (3 : Int32) dX11_gang_140 (by decide) ?_
                obtain ⟨M46, q47, q44⟩ := bd1_s q44
                refine x_callV (ci := 5) (q := (RX11, TX11, 32)) (As := [.int (3 : Int32)]) hC (c_X11_fault l G M42 hi0 (3 : Int32) q47) kc_yX11_fault km_X11_165 ki_yX11_fault kv_yX11_fault kn_RX11 ky_yX11_fault rfl ⟨rfl, rfl⟩ ⟨(Nat.le_of_ble_eq_true rfl), (Nat.le_of_ble_eq_true rfl)⟩ hi0 (by decide) rfl rfl (Nat.le_of_ble_eq_true rfl) ⟨(Nat.le_of_ble_eq_true rfl), (Nat.le_of_ble_eq_true rfl)⟩ dX11_gang_141 (fun b48 => ?_)
                cases q44
                exact x_sub [0] rfl kj
          · have hr := (ie_s hr).2 h40
            refine x_iconst hC (0 : Int32) dX11_gang_115 (by decide) ?_
            cases hr
            exact x_zret hC rfl (Or.inl rfl) dX11_gang_116
      · intro kj
        refine x_icmp_lt hC 64 dX11_gang_56 (by decide) (fun h21 => ?_) (fun h21 => ?_)
        · have q20 := (ie_s q20).1 h21
          cases q20
          exact x_sub [0] rfl kj
        · have q20 := (ie_s q20).2 h21
          refine x_aload_n hC dX11_gang_59 rfl 0 rfl ?_
          refine x_iconst hC (4 : Int32) dX11_gang_60 (by decide) ?_
          obtain ⟨M22, q23, q20⟩ := bd1_s q20
          refine x_callV (ci := 5) (q := (RX11, TX11, 32)) (As := [.int (4 : Int32)]) hC (c_X11_fault l G M19 hi0 (4 : Int32) q23) kc_yX11_fault km_X11_165 ki_yX11_fault kv_yX11_fault kn_RX11 ky_yX11_fault rfl ⟨rfl, rfl⟩ ⟨(Nat.le_of_ble_eq_true rfl), (Nat.le_of_ble_eq_true rfl)⟩ hi0 (by decide) rfl rfl (Nat.le_of_ble_eq_true rfl) ⟨(Nat.le_of_ble_eq_true rfl), (Nat.le_of_ble_eq_true rfl)⟩ dX11_gang_61 (fun b24 => ?_)
          cases q20
          exact x_sub [0] rfl kj
    · have hr := (ie_s hr).2 h5
      refine x_iconst hC (0 : Int32) dX11_gang_20 (by decide) ?_
      cases hr
      exact x_zret hC rfl (Or.inl rfl) dX11_gang_21

theorem dX11_text_0 : decode cX11_text 0 = .ok (.aload_n 0, 1) := by decide +kernel
theorem dX11_text_1 : decode cX11_text 1 = .ok (.iconst 0, 1) := by decide +kernel
theorem dX11_text_2 : decode cX11_text 2 = .ok (.invokevirtual 140, 3) := by decide +kernel
theorem dX11_text_5 : decode cX11_text 5 = .ok (.ifCond .eq 12, 3) := by decide +kernel
theorem dX11_text_8 : decode cX11_text 8 = .ok (.aload_n 0, 1) := by decide +kernel
theorem dX11_text_9 : decode cX11_text 9 = .ok (.invokevirtual 155, 3) := by decide +kernel
theorem dX11_text_12 : decode cX11_text 12 = .ok (.ifCond .ne (-12), 3) := by decide +kernel
theorem dX11_text_15 : decode cX11_text 15 = .ok (.iconst 0, 1) := by decide +kernel
theorem dX11_text_16 : decode cX11_text 16 = .ok (.ireturn, 1) := by decide +kernel
theorem dX11_text_17 : decode cX11_text 17 = .ok (.aload_n 0, 1) := by decide +kernel
theorem dX11_text_18 : decode cX11_text 18 = .ok (.getfield 92, 3) := by decide +kernel
theorem dX11_text_21 : decode cX11_text 21 = .ok (.iconst 1, 1) := by decide +kernel
theorem dX11_text_22 : decode cX11_text 22 = .ok (.if_icmp .ne 7, 3) := by decide +kernel
theorem dX11_text_25 : decode cX11_text 25 = .ok (.iconst 1, 1) := by decide +kernel
theorem dX11_text_26 : decode cX11_text 26 = .ok (.goto 4, 3) := by decide +kernel
theorem dX11_text_29 : decode cX11_text 29 = .ok (.iconst 0, 1) := by decide +kernel
theorem dX11_text_30 : decode cX11_text 30 = .ok (.ireturn, 1) := by decide +kernel
def f_X11_text_L0 (i0 : Nat) : Nat → Mm → Option (Int32 × Mm)
  | 0, _ => none
  | n + 1, M =>
    lz (f_X11_reads i0 (0 : Int32) M) fun x1 => if (x1 = 0) then (if ((M i0 14) = (1 : Int32)) then (some ((1 : Int32), M)) else (some ((0 : Int32), M))) else (bd2 (f_X11_gang i0 M) fun x6 M7 => if (x6 = 0) then (some ((0 : Int32), M7)) else (f_X11_text_L0 i0 n M7))
def f_X11_text (i0 : Nat) (M : Mm) : Option (Int32 × Mm) :=
  (f_X11_text_L0 i0 FU M)
set_option maxHeartbeats 4000000 in
set_option maxRecDepth 100000 in
theorem l_X11_text_L0 {p : Program} {e : Env} {s : State} {m : MethodId} {args : Array Value} {below : List Frame} {meth : Method} {c : Code} {l : Launch} {G : GG} (hC : CX p s m args meth c cX11_text 1 RX11 (some .boolean) G) {i0 : Nat} (hi0 : (kd i0).1 = 5) : ∀ (n : Nat) (M : Mm) {r : Int32} {M9 : Mm} (hr : f_X11_text_L0 i0 n M = some (r, M9)), XJ p l e (RM 122 0 0 5041) s m args below meth c G 1 (MQ below (QO G M9 true (some (.int r)) s.heap.size) args s 0 0 (AF G s.heap.size)) 0 0 M 0 [(0, .ref (G.2.1 i0))] [] := by
  intro n
  induction n with
  | zero => intro M r M9 hr; rw [f_X11_text_L0] at hr; cases hr
  | succ n ih =>
    intro M r M9 hr
    rw [f_X11_text_L0] at hr
    refine x_aload_n hC dX11_text_0 rfl 0 rfl ?_
    refine x_iconst hC (0 : Int32) dX11_text_1 (by decide) ?_
    obtain ⟨x1, e2, hr⟩ := lz_s hr
    refine x_callV (ci := 5) (q := (RX11, TX11, 32)) (As := [.int (0 : Int32)]) hC (c_X11_reads l G M hi0 (0 : Int32) e2.symm) kc_yX11_reads km_X11_140 ki_yX11_reads kv_yX11_reads kn_RX11 ky_yX11_reads rfl ⟨rfl, rfl⟩ ⟨(Nat.le_of_ble_eq_true rfl), (Nat.le_of_ble_eq_true rfl)⟩ hi0 (by decide) rfl rfl (Nat.le_of_ble_eq_true rfl) ⟨(Nat.le_of_ble_eq_true rfl), (Nat.le_of_ble_eq_true rfl)⟩ dX11_text_2 (fun b3 => ?_)
    refine x_if_eq hC 17 dX11_text_5 (by decide) (fun h4 => ?_) (fun h4 => ?_)
    · have hr := (ie_s hr).1 h4
      refine x_aload_n hC dX11_text_17 rfl 0 rfl ?_
      refine gf_X11_92 hC hi0 dX11_text_18 ?_
      refine x_iconst hC (1 : Int32) dX11_text_21 (by decide) ?_
      refine x_icmp_ne hC 29 dX11_text_22 (by decide) (fun h5 => ?_) (fun h5 => ?_)
      · have hr := (ie_s hr).2 h5
        refine x_iconst hC (0 : Int32) dX11_text_29 (by decide) ?_
        cases hr
        exact x_zret hC rfl (Or.inl rfl) dX11_text_30
      · have hr := (ie_s hr).1 h5
        refine x_iconst hC (1 : Int32) dX11_text_25 (by decide) ?_
        refine x_goto hC 30 dX11_text_26 (by decide) ?_
        cases hr
        exact x_zret hC rfl (Or.inr rfl) dX11_text_30
    · have hr := (ie_s hr).2 h4
      refine x_aload_n hC dX11_text_8 rfl 0 rfl ?_
      obtain ⟨x6, M7, q8, hr⟩ := bd2_s hr
      refine x_callV (ci := 5) (q := (RX11, TX11, 32)) (As := []) hC (c_X11_gang l G M hi0 q8) kc_yX11_gang km_X11_155 ki_yX11_gang kv_yX11_gang kn_RX11 ky_yX11_gang rfl ⟨rfl, rfl⟩ ⟨(Nat.le_of_ble_eq_true rfl), (Nat.le_of_ble_eq_true rfl)⟩ hi0 (by decide) rfl rfl (Nat.le_of_ble_eq_true rfl) ⟨(Nat.le_of_ble_eq_true rfl), (Nat.le_of_ble_eq_true rfl)⟩ dX11_text_9 (fun b9 => ?_)
      refine x_if_ne hC 0 dX11_text_12 (by decide) (fun h10 => ?_) (fun h10 => ?_)
      · have hr := (ie_s hr).2 h10
        exact x_sub [0] rfl (ih M7 hr)
      · have hr := (ie_s hr).1 h10
        refine x_iconst hC (0 : Int32) dX11_text_15 (by decide) ?_
        cases hr
        exact x_zret hC rfl (Or.inl rfl) dX11_text_16
set_option maxHeartbeats 4000000 in
set_option maxRecDepth 100000 in
theorem c_X11_text (l : Launch) (G : GG) (M : Mm) {i0 : Nat} (hi0 : (kd i0).1 = 5) {r : Int32} {M9 : Mm} (hr : f_X11_text i0 M = some (r, M9)) : Mo true l yX11_text (WS yX11_text cX11_text 1 (some .boolean)) (RM 122 0 0 5041) 0 0 [.ref (G.2.1 i0)] G M (some (.int r)) M9 := by
  refine Mo.of (by decide +kernel) (Nat.le_of_ble_eq_true rfl) ?_
  intro p e s m args below meth c hC
  have hC : CX p s m args meth c cX11_text 1 RX11 (some .boolean) G := hC
  rw [f_X11_text] at hr
  show XJ p l e (RM 122 0 0 5041) s m args below meth c G 1 _ 0 0 M 0 [(0, .ref (G.2.1 i0))] []
  exact x_sub [0] rfl (l_X11_text_L0 hC hi0 FU M hr)

theorem dX11_teach_0 : decode cX11_teach 0 = .ok (.aload_n 0, 1) := by decide +kernel
theorem dX11_teach_1 : decode cX11_teach 1 = .ok (.iconst 0, 1) := by decide +kernel
theorem dX11_teach_2 : decode cX11_teach 2 = .ok (.putfield 69, 3) := by decide +kernel
theorem dX11_teach_5 : decode cX11_teach 5 = .ok (.aload_n 0, 1) := by decide +kernel
theorem dX11_teach_6 : decode cX11_teach 6 = .ok (.iconst 0, 1) := by decide +kernel
theorem dX11_teach_7 : decode cX11_teach 7 = .ok (.putfield 146, 3) := by decide +kernel
theorem dX11_teach_10 : decode cX11_teach 10 = .ok (.aload_n 0, 1) := by decide +kernel
theorem dX11_teach_11 : decode cX11_teach 11 = .ok (.iconst 0, 1) := by decide +kernel
theorem dX11_teach_12 : decode cX11_teach 12 = .ok (.putfield 83, 3) := by decide +kernel
theorem dX11_teach_15 : decode cX11_teach 15 = .ok (.aload_n 0, 1) := by decide +kernel
theorem dX11_teach_16 : decode cX11_teach 16 = .ok (.iconst 0, 1) := by decide +kernel
theorem dX11_teach_17 : decode cX11_teach 17 = .ok (.putfield 95, 3) := by decide +kernel
theorem dX11_teach_20 : decode cX11_teach 20 = .ok (.aload_n 0, 1) := by decide +kernel
theorem dX11_teach_21 : decode cX11_teach 21 = .ok (.iconst 0, 1) := by decide +kernel
theorem dX11_teach_22 : decode cX11_teach 22 = .ok (.putfield 143, 3) := by decide +kernel
theorem dX11_teach_25 : decode cX11_teach 25 = .ok (.aload_n 0, 1) := by decide +kernel
theorem dX11_teach_26 : decode cX11_teach 26 = .ok (.iconst 0, 1) := by decide +kernel
theorem dX11_teach_27 : decode cX11_teach 27 = .ok (.putfield 206, 3) := by decide +kernel
theorem dX11_teach_30 : decode cX11_teach 30 = .ok (.aload_n 0, 1) := by decide +kernel
theorem dX11_teach_31 : decode cX11_teach 31 = .ok (.iconst 0, 1) := by decide +kernel
theorem dX11_teach_32 : decode cX11_teach 32 = .ok (.putfield 159, 3) := by decide +kernel
theorem dX11_teach_35 : decode cX11_teach 35 = .ok (.aload_n 0, 1) := by decide +kernel
theorem dX11_teach_36 : decode cX11_teach 36 = .ok (.iconst 0, 1) := by decide +kernel
theorem dX11_teach_37 : decode cX11_teach 37 = .ok (.putfield 149, 3) := by decide +kernel
theorem dX11_teach_40 : decode cX11_teach 40 = .ok (.aload_n 0, 1) := by decide +kernel
theorem dX11_teach_41 : decode cX11_teach 41 = .ok (.invokevirtual 137, 3) := by decide +kernel
theorem dX11_teach_44 : decode cX11_teach 44 = .ok (.aload_n 0, 1) := by decide +kernel
theorem dX11_teach_45 : decode cX11_teach 45 = .ok (.invokevirtual 224, 3) := by decide +kernel
theorem dX11_teach_48 : decode cX11_teach 48 = .ok (.ifCond .ne 16, 3) := by decide +kernel
theorem dX11_teach_51 : decode cX11_teach 51 = .ok (.aload_n 0, 1) := by decide +kernel
theorem dX11_teach_52 : decode cX11_teach 52 = .ok (.iconst 1, 1) := by decide +kernel
theorem dX11_teach_53 : decode cX11_teach 53 = .ok (.putfield 149, 3) := by decide +kernel
theorem dX11_teach_56 : decode cX11_teach 56 = .ok (.aload_n 0, 1) := by decide +kernel
theorem dX11_teach_57 : decode cX11_teach 57 = .ok (.aload_n 0, 1) := by decide +kernel
theorem dX11_teach_58 : decode cX11_teach 58 = .ok (.getfield 86, 3) := by decide +kernel
theorem dX11_teach_61 : decode cX11_teach 61 = .ok (.putfield 152, 3) := by decide +kernel
theorem dX11_teach_64 : decode cX11_teach 64 = .ok (.aload_n 0, 1) := by decide +kernel
theorem dX11_teach_65 : decode cX11_teach 65 = .ok (.iconst 0, 1) := by decide +kernel
theorem dX11_teach_66 : decode cX11_teach 66 = .ok (.putfield 76, 3) := by decide +kernel
theorem dX11_teach_69 : decode cX11_teach 69 = .ok (.aload_n 0, 1) := by decide +kernel
theorem dX11_teach_70 : decode cX11_teach 70 = .ok (.aload_n 0, 1) := by decide +kernel
theorem dX11_teach_71 : decode cX11_teach 71 = .ok (.getfield 149, 3) := by decide +kernel
theorem dX11_teach_74 : decode cX11_teach 74 = .ok (.ifCond .ne 7, 3) := by decide +kernel
theorem dX11_teach_77 : decode cX11_teach 77 = .ok (.iconst (-1), 1) := by decide +kernel
theorem dX11_teach_78 : decode cX11_teach 78 = .ok (.goto 7, 3) := by decide +kernel
theorem dX11_teach_81 : decode cX11_teach 81 = .ok (.aload_n 0, 1) := by decide +kernel
theorem dX11_teach_82 : decode cX11_teach 82 = .ok (.getfield 152, 3) := by decide +kernel
theorem dX11_teach_85 : decode cX11_teach 85 = .ok (.putfield 13, 3) := by decide +kernel
theorem dX11_teach_88 : decode cX11_teach 88 = .ok (.aload_n 0, 1) := by decide +kernel
theorem dX11_teach_89 : decode cX11_teach 89 = .ok (.getfield 149, 3) := by decide +kernel
theorem dX11_teach_92 : decode cX11_teach 92 = .ok (.ifCond .ne 7, 3) := by decide +kernel
theorem dX11_teach_95 : decode cX11_teach 95 = .ok (.aload_n 0, 1) := by decide +kernel
theorem dX11_teach_96 : decode cX11_teach 96 = .ok (.invokevirtual 227, 3) := by decide +kernel
theorem dX11_teach_99 : decode cX11_teach 99 = .ok (.aload_n 0, 1) := by decide +kernel
theorem dX11_teach_100 : decode cX11_teach 100 = .ok (.getfield 149, 3) := by decide +kernel
theorem dX11_teach_103 : decode cX11_teach 103 = .ok (.ireturn, 1) := by decide +kernel

def f_X11_teach (i0 : Nat) (M : Mm) : Option (Int32 × Mm) :=
  lz (wr M i0 0 (0 : Int32)) fun M1 => lz (wr M1 i0 11 (0 : Int32)) fun M3 => lz (wr M3 i0 12 (0 : Int32)) fun M5 => lz (wr M5 i0 13 (0 : Int32)) fun M7 => lz (wr M7 i0 17 (0 : Int32)) fun M9 => lz (wr M9 i0 18 (0 : Int32)) fun M11 => lz (wr M11 i0 19 (0 : Int32)) fun M13 => lz (wr M13 i0 20 (0 : Int32)) fun M15 => bd1 (f_X11_advance i0 M15) fun M17 => bd2 (f_X11_text i0 M17) fun x20 M21 => lz (if (x20 = 0) then (lz (wr M21 i0 20 (1 : Int32)) fun M26 => lz (wr M26 i0 21 (M26 i0 15)) fun M28 => M28) else (M21)) fun M30 => lz (wr M30 i0 2 (0 : Int32)) fun M32 => lz (if ((M32 i0 20) = 0) then ((-1 : Int32)) else ((M32 i0 21))) fun x36 => lz (wr M32 i0 3 x36) fun M38 => bd1 (if ((M38 i0 20) = 0) then (bd1 (f_X11_learn i0 M38) fun M42 => some (M42)) else (some (M38))) fun M45 => some ((M45 i0 20), M45)

set_option maxHeartbeats 4000000 in
set_option maxRecDepth 100000 in
theorem c_X11_teach (l : Launch) (G : GG) (M : Mm) {i0 : Nat} (hi0 : (kd i0).1 = 5) {r : Int32} {M9 : Mm} (hr : f_X11_teach i0 M = some (r, M9)) : Mo false l yX11_teach (WS yX11_teach cX11_teach 1 (some .int)) (RM 123 0 0 5061) 0 0 [.ref (G.2.1 i0)] G M (some (.int r)) M9 := by
  refine Mo.of (by decide +kernel) (Nat.le_of_ble_eq_true rfl) ?_
  intro p e s m args below meth c hC
  have hC : CX p s m args meth c cX11_teach 1 RX11 (some .int) G := hC
  rw [f_X11_teach] at hr
  show XJ p l e (RM 123 0 0 5061) s m args below meth c G 1 _ 0 0 M 0 [(0, .ref (G.2.1 i0))] []
  refine x_aload_n hC dX11_teach_0 rfl 0 rfl ?_
  refine x_iconst hC (0 : Int32) dX11_teach_1 (by decide) ?_
  obtain ⟨M1, e2, hr⟩ := lz_s hr
  refine pf_X11_69 hC hi0 e2 dX11_teach_2 ?_
  refine x_aload_n hC dX11_teach_5 rfl 0 rfl ?_
  refine x_iconst hC (0 : Int32) dX11_teach_6 (by decide) ?_
  obtain ⟨M3, e4, hr⟩ := lz_s hr
  refine pf_X11_146 hC hi0 e4 dX11_teach_7 ?_
  refine x_aload_n hC dX11_teach_10 rfl 0 rfl ?_
  refine x_iconst hC (0 : Int32) dX11_teach_11 (by decide) ?_
  obtain ⟨M5, e6, hr⟩ := lz_s hr
  refine pf_X11_83 hC hi0 e6 dX11_teach_12 ?_
  refine x_aload_n hC dX11_teach_15 rfl 0 rfl ?_
  refine x_iconst hC (0 : Int32) dX11_teach_16 (by decide) ?_
  obtain ⟨M7, e8, hr⟩ := lz_s hr
  refine pf_X11_95 hC hi0 e8 dX11_teach_17 ?_
  refine x_aload_n hC dX11_teach_20 rfl 0 rfl ?_
  refine x_iconst hC (0 : Int32) dX11_teach_21 (by decide) ?_
  obtain ⟨M9, e10, hr⟩ := lz_s hr
  refine pf_X11_143 hC hi0 e10 dX11_teach_22 ?_
  refine x_aload_n hC dX11_teach_25 rfl 0 rfl ?_
  refine x_iconst hC (0 : Int32) dX11_teach_26 (by decide) ?_
  obtain ⟨M11, e12, hr⟩ := lz_s hr
  refine pf_X11_206 hC hi0 e12 dX11_teach_27 ?_
  refine x_aload_n hC dX11_teach_30 rfl 0 rfl ?_
  refine x_iconst hC (0 : Int32) dX11_teach_31 (by decide) ?_
  obtain ⟨M13, e14, hr⟩ := lz_s hr
  refine pf_X11_159 hC hi0 e14 dX11_teach_32 ?_
  refine x_aload_n hC dX11_teach_35 rfl 0 rfl ?_
  refine x_iconst hC (0 : Int32) dX11_teach_36 (by decide) ?_
  obtain ⟨M15, e16, hr⟩ := lz_s hr
  refine pf_X11_149 hC hi0 e16 dX11_teach_37 ?_
  refine x_aload_n hC dX11_teach_40 rfl 0 rfl ?_
  obtain ⟨M17, q18, hr⟩ := bd1_s hr
  refine x_callV (ci := 5) (q := (RX11, TX11, 32)) (As := []) hC (c_X11_advance l G M15 hi0 q18) kc_yX11_advance km_X11_137 ki_yX11_advance kv_yX11_advance kn_RX11 ky_yX11_advance rfl ⟨rfl, rfl⟩ ⟨(Nat.le_of_ble_eq_true rfl), (Nat.le_of_ble_eq_true rfl)⟩ hi0 (by decide) rfl rfl (Nat.le_of_ble_eq_true rfl) ⟨(Nat.le_of_ble_eq_true rfl), (Nat.le_of_ble_eq_true rfl)⟩ dX11_teach_41 (fun b19 => ?_)
  refine x_aload_n hC dX11_teach_44 rfl 0 rfl ?_
  obtain ⟨x20, M21, q22, hr⟩ := bd2_s hr
  refine x_callV (ci := 5) (q := (RX11, TX11, 32)) (As := []) hC (c_X11_text l G M17 hi0 q22) kc_yX11_text km_X11_224 ki_yX11_text kv_yX11_text kn_RX11 ky_yX11_text rfl ⟨rfl, rfl⟩ ⟨(Nat.le_of_ble_eq_true rfl), (Nat.le_of_ble_eq_true rfl)⟩ hi0 (by decide) rfl rfl (Nat.le_of_ble_eq_true rfl) ⟨(Nat.le_of_ble_eq_true rfl), (Nat.le_of_ble_eq_true rfl)⟩ dX11_teach_45 (fun b23 => ?_)
  obtain ⟨M30, e31, hr⟩ := lz_s hr
  have q24 := e31.symm
  refine x_join (M' := M30) (pc' := 64) (lv' := [(0, .ref (G.2.1 i0))]) (st' := []) ?_ ?_
  · refine x_aload_n hC dX11_teach_64 rfl 0 rfl ?_
    refine x_iconst hC (0 : Int32) dX11_teach_65 (by decide) ?_
    obtain ⟨M32, e33, hr⟩ := lz_s hr
    refine pf_X11_76 hC hi0 e33 dX11_teach_66 ?_
    refine x_aload_n hC dX11_teach_69 rfl 0 rfl ?_
    refine x_aload_n hC dX11_teach_70 rfl 0 rfl ?_
    refine gf_X11_149 hC hi0 dX11_teach_71 ?_
    obtain ⟨x36, e37, hr⟩ := lz_s hr
    have q34 := e37.symm
    refine x_join (M' := M32) (pc' := 85) (lv' := [(0, .ref (G.2.1 i0))]) (st' := [.int x36, .ref (G.2.1 i0)]) ?_ ?_
    · obtain ⟨M38, e39, hr⟩ := lz_s hr
      refine pf_X11_13 hC hi0 e39 dX11_teach_85 ?_
      refine x_aload_n hC dX11_teach_88 rfl 0 rfl ?_
      refine gf_X11_149 hC hi0 dX11_teach_89 ?_
      obtain ⟨M45, q40, hr⟩ := bd1_s hr
      refine x_join (M' := M45) (pc' := 99) (lv' := [(0, .ref (G.2.1 i0))]) (st' := []) ?_ ?_
      · refine x_aload_n hC dX11_teach_99 rfl 0 rfl ?_
        refine gf_X11_149 hC hi0 dX11_teach_100 ?_
        cases hr
        exact x_iret hC rfl dX11_teach_103
      · intro kj
        refine x_if_ne hC 99 dX11_teach_92 (by decide) (fun h41 => ?_) (fun h41 => ?_)
        · have q40 := (ie_s q40).2 h41
          cases q40
          exact x_sub [0] rfl kj
        · have q40 := (ie_s q40).1 h41
          refine x_aload_n hC dX11_teach_95 rfl 0 rfl ?_
          obtain ⟨M42, q43, q40⟩ := bd1_s q40
          refine x_callV (ci := 5) (q := (RX11, TX11, 32)) (As := []) hC (c_X11_learn l G M38 hi0 q43) kc_yX11_learn km_X11_227 ki_yX11_learn kv_yX11_learn kn_RX11 ky_yX11_learn rfl ⟨rfl, rfl⟩ ⟨(Nat.le_of_ble_eq_true rfl), (Nat.le_of_ble_eq_true rfl)⟩ hi0 (by decide) rfl rfl (Nat.le_of_ble_eq_true rfl) ⟨(Nat.le_of_ble_eq_true rfl), (Nat.le_of_ble_eq_true rfl)⟩ dX11_teach_96 (fun b44 => ?_)
          cases q40
          exact x_sub [0] rfl kj
    · intro kj
      refine x_if_ne hC 81 dX11_teach_74 (by decide) (fun h35 => ?_) (fun h35 => ?_)
      · have q34 := (ie_s q34).2 h35
        refine x_aload_n hC dX11_teach_81 rfl 0 rfl ?_
        refine gf_X11_152 hC hi0 dX11_teach_82 ?_
        subst q34
        exact x_sub [0] rfl kj
      · have q34 := (ie_s q34).1 h35
        refine x_iconst hC (-1 : Int32) dX11_teach_77 (by decide) ?_
        refine x_goto hC 85 dX11_teach_78 (by decide) ?_
        subst q34
        exact x_sub [0] rfl kj
  · intro kj
    refine x_if_ne hC 64 dX11_teach_48 (by decide) (fun h25 => ?_) (fun h25 => ?_)
    · have q24 := (ie_s q24).2 h25
      subst q24
      exact x_sub [0] rfl kj
    · have q24 := (ie_s q24).1 h25
      refine x_aload_n hC dX11_teach_51 rfl 0 rfl ?_
      refine x_iconst hC (1 : Int32) dX11_teach_52 (by decide) ?_
      obtain ⟨M26, e27, q24⟩ := lz_s q24
      refine pf_X11_149 hC hi0 e27 dX11_teach_53 ?_
      refine x_aload_n hC dX11_teach_56 rfl 0 rfl ?_
      refine x_aload_n hC dX11_teach_57 rfl 0 rfl ?_
      refine gf_X11_86 hC hi0 dX11_teach_58 ?_
      obtain ⟨M28, e29, q24⟩ := lz_s q24
      refine pf_X11_152 hC hi0 e29 dX11_teach_61 ?_
      subst q24
      exact x_sub [0] rfl kj
