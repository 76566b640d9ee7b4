theorem d_M_register_0 : decode (pw_cc cx_M_register) 0 = .ok (.iload_n 1, 1) := by decide +kernel
theorem d_M_register_1 : decode (pw_cc cx_M_register) 1 = .ok (.iconst 0, 1) := by decide +kernel
theorem d_M_register_2 : decode (pw_cc cx_M_register) 2 = .ok (.iconst 2, 1) := by decide +kernel
theorem d_M_register_3 : decode (pw_cc cx_M_register) 3 = .ok (.invokestatic 124, 3) := by decide +kernel
theorem d_M_register_6 : decode (pw_cc cx_M_register) 6 = .ok (.ifCond .eq 22, 3) := by decide +kernel
theorem d_M_register_9 : decode (pw_cc cx_M_register) 9 = .ok (.aload_n 0, 1) := by decide +kernel
theorem d_M_register_10 : decode (pw_cc cx_M_register) 10 = .ok (.iload_n 2, 1) := by decide +kernel
theorem d_M_register_11 : decode (pw_cc cx_M_register) 11 = .ok (.invokevirtual 159, 3) := by decide +kernel
theorem d_M_register_14 : decode (pw_cc cx_M_register) 14 = .ok (.ifCond .eq 14, 3) := by decide +kernel
theorem d_M_register_17 : decode (pw_cc cx_M_register) 17 = .ok (.iload_n 3, 1) := by decide +kernel
theorem d_M_register_18 : decode (pw_cc cx_M_register) 18 = .ok (.invokestatic 166, 3) := by decide +kernel
theorem d_M_register_21 : decode (pw_cc cx_M_register) 21 = .ok (.ifCond .eq 7, 3) := by decide +kernel
theorem d_M_register_24 : decode (pw_cc cx_M_register) 24 = .ok (.iconst 1, 1) := by decide +kernel
theorem d_M_register_25 : decode (pw_cc cx_M_register) 25 = .ok (.goto 4, 3) := by decide +kernel
theorem d_M_register_28 : decode (pw_cc cx_M_register) 28 = .ok (.iconst 0, 1) := by decide +kernel
theorem d_M_register_29 : decode (pw_cc cx_M_register) 29 = .ok (.istore 5, 2) := by decide +kernel
theorem d_M_register_31 : decode (pw_cc cx_M_register) 31 = .ok (.iload_n 1, 1) := by decide +kernel
theorem d_M_register_32 : decode (pw_cc cx_M_register) 32 = .ok (.ifCond .ne 14, 3) := by decide +kernel
theorem d_M_register_35 : decode (pw_cc cx_M_register) 35 = .ok (.iload 4, 2) := by decide +kernel
theorem d_M_register_37 : decode (pw_cc cx_M_register) 37 = .ok (.iconst 1, 1) := by decide +kernel
theorem d_M_register_38 : decode (pw_cc cx_M_register) 38 = .ok (.bipush 99, 2) := by decide +kernel
theorem d_M_register_40 : decode (pw_cc cx_M_register) 40 = .ok (.invokestatic 124, 3) := by decide +kernel
theorem d_M_register_43 : decode (pw_cc cx_M_register) 43 = .ok (.ifCond .eq 7, 3) := by decide +kernel
theorem d_M_register_46 : decode (pw_cc cx_M_register) 46 = .ok (.iconst 1, 1) := by decide +kernel
theorem d_M_register_47 : decode (pw_cc cx_M_register) 47 = .ok (.goto 4, 3) := by decide +kernel
theorem d_M_register_50 : decode (pw_cc cx_M_register) 50 = .ok (.iconst 0, 1) := by decide +kernel
theorem d_M_register_51 : decode (pw_cc cx_M_register) 51 = .ok (.istore 6, 2) := by decide +kernel
theorem d_M_register_53 : decode (pw_cc cx_M_register) 53 = .ok (.aload_n 0, 1) := by decide +kernel
theorem d_M_register_54 : decode (pw_cc cx_M_register) 54 = .ok (.iload 5, 2) := by decide +kernel
theorem d_M_register_56 : decode (pw_cc cx_M_register) 56 = .ok (.ifCond .ne 7, 3) := by decide +kernel
theorem d_M_register_59 : decode (pw_cc cx_M_register) 59 = .ok (.iconst 1, 1) := by decide +kernel
theorem d_M_register_60 : decode (pw_cc cx_M_register) 60 = .ok (.goto 49, 3) := by decide +kernel
theorem d_M_register_63 : decode (pw_cc cx_M_register) 63 = .ok (.iload 6, 2) := by decide +kernel
theorem d_M_register_65 : decode (pw_cc cx_M_register) 65 = .ok (.ifCond .ne 7, 3) := by decide +kernel
theorem d_M_register_68 : decode (pw_cc cx_M_register) 68 = .ok (.iconst 2, 1) := by decide +kernel
theorem d_M_register_69 : decode (pw_cc cx_M_register) 69 = .ok (.goto 40, 3) := by decide +kernel
theorem d_M_register_72 : decode (pw_cc cx_M_register) 72 = .ok (.aload_n 0, 1) := by decide +kernel
theorem d_M_register_73 : decode (pw_cc cx_M_register) 73 = .ok (.getfield 104, 3) := by decide +kernel
theorem d_M_register_76 : decode (pw_cc cx_M_register) 76 = .ok (.iload_n 3, 1) := by decide +kernel
theorem d_M_register_77 : decode (pw_cc cx_M_register) 77 = .ok (.baload, 1) := by decide +kernel
theorem d_M_register_78 : decode (pw_cc cx_M_register) 78 = .ok (.ifCond .ne 26, 3) := by decide +kernel
theorem d_M_register_81 : decode (pw_cc cx_M_register) 81 = .ok (.aload_n 0, 1) := by decide +kernel
theorem d_M_register_82 : decode (pw_cc cx_M_register) 82 = .ok (.iload_n 1, 1) := by decide +kernel
theorem d_M_register_83 : decode (pw_cc cx_M_register) 83 = .ok (.aload_n 0, 1) := by decide +kernel
theorem d_M_register_84 : decode (pw_cc cx_M_register) 84 = .ok (.iload_n 2, 1) := by decide +kernel
theorem d_M_register_85 : decode (pw_cc cx_M_register) 85 = .ok (.invokevirtual 172, 3) := by decide +kernel
theorem d_M_register_88 : decode (pw_cc cx_M_register) 88 = .ok (.iload_n 3, 1) := by decide +kernel
theorem d_M_register_89 : decode (pw_cc cx_M_register) 89 = .ok (.invokevirtual 192, 3) := by decide +kernel
theorem d_M_register_92 : decode (pw_cc cx_M_register) 92 = .ok (.ifCond .ne 12, 3) := by decide +kernel
theorem d_M_register_95 : decode (pw_cc cx_M_register) 95 = .ok (.aload_n 0, 1) := by decide +kernel
theorem d_M_register_96 : decode (pw_cc cx_M_register) 96 = .ok (.getfield 131, 3) := by decide +kernel
theorem d_M_register_99 : decode (pw_cc cx_M_register) 99 = .ok (.bipush 80, 2) := by decide +kernel
theorem d_M_register_101 : decode (pw_cc cx_M_register) 101 = .ok (.if_icmp .ne 7, 3) := by decide +kernel
theorem d_M_register_104 : decode (pw_cc cx_M_register) 104 = .ok (.iconst 3, 1) := by decide +kernel
theorem d_M_register_105 : decode (pw_cc cx_M_register) 105 = .ok (.goto 4, 3) := by decide +kernel
theorem d_M_register_108 : decode (pw_cc cx_M_register) 108 = .ok (.iconst 0, 1) := by decide +kernel
theorem d_M_register_109 : decode (pw_cc cx_M_register) 109 = .ok (.invokevirtual 179, 3) := by decide +kernel
theorem d_M_register_112 : decode (pw_cc cx_M_register) 112 = .ok (.ifCond .ne 5, 3) := by decide +kernel
theorem d_M_register_115 : decode (pw_cc cx_M_register) 115 = .ok (.iconst 0, 1) := by decide +kernel
theorem d_M_register_116 : decode (pw_cc cx_M_register) 116 = .ok (.ireturn, 1) := by decide +kernel
theorem d_M_register_117 : decode (pw_cc cx_M_register) 117 = .ok (.aload_n 0, 1) := by decide +kernel
theorem d_M_register_118 : decode (pw_cc cx_M_register) 118 = .ok (.iload_n 1, 1) := by decide +kernel
theorem d_M_register_119 : decode (pw_cc cx_M_register) 119 = .ok (.aload_n 0, 1) := by decide +kernel
theorem d_M_register_120 : decode (pw_cc cx_M_register) 120 = .ok (.iload_n 2, 1) := by decide +kernel
theorem d_M_register_121 : decode (pw_cc cx_M_register) 121 = .ok (.invokevirtual 172, 3) := by decide +kernel
theorem d_M_register_124 : decode (pw_cc cx_M_register) 124 = .ok (.iload_n 3, 1) := by decide +kernel
theorem d_M_register_125 : decode (pw_cc cx_M_register) 125 = .ok (.iload_n 1, 1) := by decide +kernel
theorem d_M_register_126 : decode (pw_cc cx_M_register) 126 = .ok (.ifCond .ne 8, 3) := by decide +kernel
theorem d_M_register_129 : decode (pw_cc cx_M_register) 129 = .ok (.iload 4, 2) := by decide +kernel
theorem d_M_register_131 : decode (pw_cc cx_M_register) 131 = .ok (.goto 4, 3) := by decide +kernel
theorem d_M_register_134 : decode (pw_cc cx_M_register) 134 = .ok (.iconst 0, 1) := by decide +kernel
theorem d_M_register_135 : decode (pw_cc cx_M_register) 135 = .ok (.iconst (-1), 1) := by decide +kernel
theorem d_M_register_136 : decode (pw_cc cx_M_register) 136 = .ok (.invokevirtual 188, 3) := by decide +kernel
theorem d_M_register_139 : decode (pw_cc cx_M_register) 139 = .ok (.aload_n 0, 1) := by decide +kernel
theorem d_M_register_140 : decode (pw_cc cx_M_register) 140 = .ok (.getfield 131, 3) := by decide +kernel
theorem d_M_register_143 : decode (pw_cc cx_M_register) 143 = .ok (.iconst 1, 1) := by decide +kernel
theorem d_M_register_144 : decode (pw_cc cx_M_register) 144 = .ok (.isub, 1) := by decide +kernel
theorem d_M_register_145 : decode (pw_cc cx_M_register) 145 = .ok (.ireturn, 1) := by decide +kernel
set_option maxHeartbeats 4000000 in
set_option maxRecDepth 20000 in
def jp_M_register_135 (Q : pw_W → Int32 → Prop) (X : pw_W → Nat → Prop) (s0 s1 s2 s3 : Int32) (w : pw_W) : Prop := wp_M_makesRight w s3 s2 s1 s0 (-1) (fun w1 r2 => Q w1 ((w1.1 8 0 26) - 1)) (fun _ _ => False)
set_option maxHeartbeats 4000000 in
set_option maxRecDepth 20000 in
theorem vjp_M_register_135 {l : Launch} {g : pw_G} {Q : pw_W → Int32 → Prop} {X : pw_W → Nat → Prop} (hl0 : l.stackTraces = false) (s0 s1 s2 s3 : Int32) (w : pw_W) (h : jp_M_register_135 Q X s0 s1 s2 s3 w) : pw_V l g cx_M_register Q X 135 [(10, 0), (1, 0), (1, 0), (1, 0), (1, 0), (1, 0), (1, 0)] [(0, s0), (0, s1), (0, s2), (0, s3), (10, 0)] w := by
  unfold jp_M_register_135 at h
  refine pv_iconst (v := -1) (n := 136) d_M_register_135 (by decide) rfl ?_
  refine pv_callV (n := 139) (x := 0) [(0, s3), (0, s2), (0, s1), (0, s0), (0, -1)] [] (con_M_makesRight hl0 h) pw_cf8 rfl q_490 q_491 q_492 q_458 q_489 pyo_M_makesRight (by decide) rfl rfl (by decide) d_M_register_136 rfl (fun w1 r2 h _ => ?_) (fun _ _ h => h.elim)
  show pw_V l g cx_M_register Q X 139 [(10, 0), (1, 0), (1, 0), (1, 0), (1, 0), (1, 0), (1, 0)] [] w1
  refine pv_aload_n (n := 140) d_M_register_139 rfl rfl rfl ?_
  refine gt_M_131 (n := 143) rfl d_M_register_140 (by decide) rfl ?_
  refine pv_iconst (v := 1) (n := 144) d_M_register_143 (by decide) rfl ?_
  refine pv_isub (n := 145) d_M_register_144 rfl ?_
  exact pv_iret rfl rfl d_M_register_145 h
set_option maxHeartbeats 4000000 in
set_option maxRecDepth 20000 in
def jp_M_register_109 (Q : pw_W → Int32 → Prop) (X : pw_W → Nat → Prop) (a1 a2 a3 a4 s0 : Int32) (w : pw_W) : Prop := wp_M_isFine w s0 (fun w3 r4 => (¬ r4 = 0 → wp_M_now w3 a2 (fun w6 r7 => (¬ a1 = 0 → jp_M_register_135 Q X 0 a3 r7 a1 w6) ∧ (a1 = 0 → jp_M_register_135 Q X a4 a3 r7 a1 w6)) (fun _ _ => False)) ∧ (r4 = 0 → Q w3 0)) (fun _ _ => False)
set_option maxHeartbeats 4000000 in
set_option maxRecDepth 20000 in
theorem vjp_M_register_109 {l : Launch} {g : pw_G} {Q : pw_W → Int32 → Prop} {X : pw_W → Nat → Prop} (hl0 : l.stackTraces = false) (a1 a2 a3 a4 s0 : Int32) (w : pw_W) (h : jp_M_register_109 Q X a1 a2 a3 a4 s0 w) : pw_V l g cx_M_register Q X 109 [(10, 0), (0, a1), (0, a2), (0, a3), (0, a4), (1, 0), (1, 0)] [(0, s0), (10, 0)] w := by
  unfold jp_M_register_109 at h
  refine pv_callV (n := 112) (x := 0) [(0, s0)] [] (con_M_isFine hl0 h) pw_cf8 rfl q_506 q_507 q_508 q_458 q_505 pyo_M_isFine (by decide) rfl rfl (by decide) d_M_register_109 rfl (fun w3 r4 h _ => ?_) (fun _ _ h => h.elim)
  show pw_V l g cx_M_register Q X 112 [(10, 0), (0, a1), (0, a2), (0, a3), (0, a4), (1, 0), (1, 0)] [(0, r4)] w3
  refine pv_if_ne (n := 115) (tgt := 117) d_M_register_112 (by decide) rfl (fun c5 => ?_) (fun c5 => ?_)
  · replace h := h.1 c5
    refine pv_aload_n (n := 118) d_M_register_117 rfl rfl rfl ?_
    refine pv_iload_n (n := 119) d_M_register_118 rfl rfl rfl ?_
    refine pv_aload_n (n := 120) d_M_register_119 rfl rfl rfl ?_
    refine pv_iload_n (n := 121) d_M_register_120 rfl rfl rfl ?_
    refine pv_callV (n := 124) (x := 0) [(0, a2)] [(0, a1), (10, 0)] (con_M_now hl0 h) pw_cf8 rfl q_502 q_503 q_504 q_458 q_501 pyo_M_now (by decide) rfl rfl (by decide) d_M_register_121 rfl (fun w6 r7 h _ => ?_) (fun _ _ h => h.elim)
    show pw_V l g cx_M_register Q X 124 [(10, 0), (0, a1), (0, a2), (0, a3), (0, a4), (1, 0), (1, 0)] [(0, r7), (0, a1), (10, 0)] w6
    refine pv_iload_n (n := 125) d_M_register_124 rfl rfl rfl ?_
    refine pv_iload_n (n := 126) d_M_register_125 rfl rfl rfl ?_
    refine pv_if_ne (n := 129) (tgt := 134) d_M_register_126 (by decide) rfl (fun c8 => ?_) (fun c8 => ?_)
    · replace h := h.1 c8
      refine pv_iconst (v := 0) (n := 135) d_M_register_134 (by decide) rfl ?_
      refine pv_unset (i := 1) (L1 := [(10, 0), (1, 0), (0, a2), (0, a3), (0, a4), (1, 0), (1, 0)]) rfl ?_
      refine pv_unset (i := 2) (L1 := [(10, 0), (1, 0), (1, 0), (0, a3), (0, a4), (1, 0), (1, 0)]) rfl ?_
      refine pv_unset (i := 3) (L1 := [(10, 0), (1, 0), (1, 0), (1, 0), (0, a4), (1, 0), (1, 0)]) rfl ?_
      refine pv_unset (i := 4) (L1 := [(10, 0), (1, 0), (1, 0), (1, 0), (1, 0), (1, 0), (1, 0)]) rfl ?_
      exact vjp_M_register_135 hl0 _ _ _ _ _ h
    · replace h := h.2 c8
      refine pv_iload (n := 131) d_M_register_129 rfl rfl ?_
      refine pv_goto (tgt := 135) d_M_register_131 (by decide) ?_
      refine pv_unset (i := 1) (L1 := [(10, 0), (1, 0), (0, a2), (0, a3), (0, a4), (1, 0), (1, 0)]) rfl ?_
      refine pv_unset (i := 2) (L1 := [(10, 0), (1, 0), (1, 0), (0, a3), (0, a4), (1, 0), (1, 0)]) rfl ?_
      refine pv_unset (i := 3) (L1 := [(10, 0), (1, 0), (1, 0), (1, 0), (0, a4), (1, 0), (1, 0)]) rfl ?_
      refine pv_unset (i := 4) (L1 := [(10, 0), (1, 0), (1, 0), (1, 0), (1, 0), (1, 0), (1, 0)]) rfl ?_
      exact vjp_M_register_135 hl0 _ _ _ _ _ h
  · replace h := h.2 c5
    refine pv_iconst (v := 0) (n := 116) d_M_register_115 (by decide) rfl ?_
    exact pv_iret rfl rfl d_M_register_116 h
set_option maxHeartbeats 4000000 in
set_option maxRecDepth 20000 in
def jp_M_register_104 (Q : pw_W → Int32 → Prop) (X : pw_W → Nat → Prop) (a1 a2 a3 a4 : Int32) (w : pw_W) : Prop := jp_M_register_109 Q X a1 a2 a3 a4 3 w
set_option maxHeartbeats 4000000 in
set_option maxRecDepth 20000 in
theorem vjp_M_register_104 {l : Launch} {g : pw_G} {Q : pw_W → Int32 → Prop} {X : pw_W → Nat → Prop} (hl0 : l.stackTraces = false) (a1 a2 a3 a4 : Int32) (w : pw_W) (h : jp_M_register_104 Q X a1 a2 a3 a4 w) : pw_V l g cx_M_register Q X 104 [(10, 0), (0, a1), (0, a2), (0, a3), (0, a4), (1, 0), (1, 0)] [(10, 0)] w := by
  unfold jp_M_register_104 at h
  refine pv_iconst (v := 3) (n := 105) d_M_register_104 (by decide) rfl ?_
  refine pv_goto (tgt := 109) d_M_register_105 (by decide) ?_
  exact vjp_M_register_109 hl0 _ _ _ _ _ _ h
set_option maxHeartbeats 4000000 in
set_option maxRecDepth 20000 in
def jp_M_register_51 (Q : pw_W → Int32 → Prop) (X : pw_W → Nat → Prop) (a1 a2 a3 a4 a5 s0 : Int32) (w : pw_W) : Prop := (¬ a5 = 0 → (¬ s0 = 0 → w.1 8 0 42 = 0 ∧ pw_jn a3 (pw_ln w 242 0) ∧ (¬ (w.1 242 0 (pw_i a3)) = 0 → jp_M_register_104 Q X a1 a2 a3 a4 w) ∧ ((w.1 242 0 (pw_i a3)) = 0 → wp_M_now w a2 (fun w14 r15 => wp_M_hasRight w14 a1 r15 a3 (fun w16 r17 => (¬ r17 = 0 → jp_M_register_104 Q X a1 a2 a3 a4 w16) ∧ (r17 = 0 → (¬ (w16.1 8 0 26) = 80 → jp_M_register_109 Q X a1 a2 a3 a4 0 w16) ∧ ((w16.1 8 0 26) = 80 → jp_M_register_104 Q X a1 a2 a3 a4 w16))) (fun _ _ => False)) (fun _ _ => False))) ∧ (s0 = 0 → jp_M_register_109 Q X a1 a2 a3 a4 2 w)) ∧ (a5 = 0 → jp_M_register_109 Q X a1 a2 a3 a4 1 w)
set_option maxHeartbeats 4000000 in
set_option maxRecDepth 20000 in
theorem vjp_M_register_51 {l : Launch} {g : pw_G} {Q : pw_W → Int32 → Prop} {X : pw_W → Nat → Prop} (hl0 : l.stackTraces = false) (a1 a2 a3 a4 a5 s0 : Int32) (w : pw_W) (h : jp_M_register_51 Q X a1 a2 a3 a4 a5 s0 w) : pw_V l g cx_M_register Q X 51 [(10, 0), (0, a1), (0, a2), (0, a3), (0, a4), (0, a5), (1, 0)] [(0, s0)] w := by
  unfold jp_M_register_51 at h
  refine pv_istore (n := 53) (L' := [(10, 0), (0, a1), (0, a2), (0, a3), (0, a4), (0, a5), (0, s0)]) d_M_register_51 (by decide) rfl rfl ?_
  refine pv_aload_n (n := 54) d_M_register_53 rfl rfl rfl ?_
  refine pv_iload (n := 56) d_M_register_54 rfl rfl ?_
  refine pv_if_ne (n := 59) (tgt := 63) d_M_register_56 (by decide) rfl (fun c9 => ?_) (fun c9 => ?_)
  · replace h := h.1 c9
    refine pv_iload (n := 65) d_M_register_63 rfl rfl ?_
    refine pv_if_ne (n := 68) (tgt := 72) d_M_register_65 (by decide) rfl (fun c10 => ?_) (fun c10 => ?_)
    · replace h := h.1 c10
      refine pv_aload_n (n := 73) d_M_register_72 rfl rfl rfl ?_
      obtain ⟨g11, h⟩ := h
      refine gt_M_104 (n := 76) rfl d_M_register_73 (by decide) g11 rfl ?_
      refine pv_iload_n (n := 77) d_M_register_76 rfl rfl rfl ?_
      obtain ⟨g12, h⟩ := h
      refine pv_zald (n := 78) (f := 242) (by decide) rfl d_M_register_77 (by decide) g12 rfl ?_
      refine pv_if_ne (n := 81) (tgt := 104) d_M_register_78 (by decide) rfl (fun c13 => ?_) (fun c13 => ?_)
      · replace h := h.1 c13
        refine pv_unset (i := 5) (L1 := [(10, 0), (0, a1), (0, a2), (0, a3), (0, a4), (1, 0), (0, s0)]) rfl ?_
        refine pv_unset (i := 6) (L1 := [(10, 0), (0, a1), (0, a2), (0, a3), (0, a4), (1, 0), (1, 0)]) rfl ?_
        exact vjp_M_register_104 hl0 _ _ _ _ _ h
      · replace h := h.2 c13
        refine pv_aload_n (n := 82) d_M_register_81 rfl rfl rfl ?_
        refine pv_iload_n (n := 83) d_M_register_82 rfl rfl rfl ?_
        refine pv_aload_n (n := 84) d_M_register_83 rfl rfl rfl ?_
        refine pv_iload_n (n := 85) d_M_register_84 rfl rfl rfl ?_
        refine pv_callV (n := 88) (x := 0) [(0, a2)] [(0, a1), (10, 0), (10, 0)] (con_M_now hl0 h) pw_cf8 rfl q_502 q_503 q_504 q_458 q_501 pyo_M_now (by decide) rfl rfl (by decide) d_M_register_85 rfl (fun w14 r15 h _ => ?_) (fun _ _ h => h.elim)
        show pw_V l g cx_M_register Q X 88 [(10, 0), (0, a1), (0, a2), (0, a3), (0, a4), (0, a5), (0, s0)] [(0, r15), (0, a1), (10, 0), (10, 0)] w14
        refine pv_iload_n (n := 89) d_M_register_88 rfl rfl rfl ?_
        refine pv_callV (n := 92) (x := 0) [(0, a1), (0, r15), (0, a3)] [(10, 0)] (con_M_hasRight hl0 h) pw_cf8 rfl q_527 q_528 q_529 q_458 q_526 pyo_M_hasRight (by decide) rfl rfl (by decide) d_M_register_89 rfl (fun w16 r17 h _ => ?_) (fun _ _ h => h.elim)
        show pw_V l g cx_M_register Q X 92 [(10, 0), (0, a1), (0, a2), (0, a3), (0, a4), (0, a5), (0, s0)] [(0, r17), (10, 0)] w16
        refine pv_if_ne (n := 95) (tgt := 104) d_M_register_92 (by decide) rfl (fun c18 => ?_) (fun c18 => ?_)
        · replace h := h.1 c18
          refine pv_unset (i := 5) (L1 := [(10, 0), (0, a1), (0, a2), (0, a3), (0, a4), (1, 0), (0, s0)]) rfl ?_
          refine pv_unset (i := 6) (L1 := [(10, 0), (0, a1), (0, a2), (0, a3), (0, a4), (1, 0), (1, 0)]) rfl ?_
          exact vjp_M_register_104 hl0 _ _ _ _ _ h
        · replace h := h.2 c18
          refine pv_aload_n (n := 96) d_M_register_95 rfl rfl rfl ?_
          refine gt_M_131 (n := 99) rfl d_M_register_96 (by decide) rfl ?_
          refine pv_bipush (v := 80) (n := 101) d_M_register_99 (by decide) rfl ?_
          refine pv_icmp_ne (n := 104) (tgt := 108) d_M_register_101 (by decide) rfl (fun c19 => ?_) (fun c19 => ?_)
          · replace h := h.1 c19
            refine pv_iconst (v := 0) (n := 109) d_M_register_108 (by decide) rfl ?_
            refine pv_unset (i := 5) (L1 := [(10, 0), (0, a1), (0, a2), (0, a3), (0, a4), (1, 0), (0, s0)]) rfl ?_
            refine pv_unset (i := 6) (L1 := [(10, 0), (0, a1), (0, a2), (0, a3), (0, a4), (1, 0), (1, 0)]) rfl ?_
            exact vjp_M_register_109 hl0 _ _ _ _ _ _ h
          · replace h := h.2 c19
            refine pv_unset (i := 5) (L1 := [(10, 0), (0, a1), (0, a2), (0, a3), (0, a4), (1, 0), (0, s0)]) rfl ?_
            refine pv_unset (i := 6) (L1 := [(10, 0), (0, a1), (0, a2), (0, a3), (0, a4), (1, 0), (1, 0)]) rfl ?_
            exact vjp_M_register_104 hl0 _ _ _ _ _ h
    · replace h := h.2 c10
      refine pv_iconst (v := 2) (n := 69) d_M_register_68 (by decide) rfl ?_
      refine pv_goto (tgt := 109) d_M_register_69 (by decide) ?_
      refine pv_unset (i := 5) (L1 := [(10, 0), (0, a1), (0, a2), (0, a3), (0, a4), (1, 0), (0, s0)]) rfl ?_
      refine pv_unset (i := 6) (L1 := [(10, 0), (0, a1), (0, a2), (0, a3), (0, a4), (1, 0), (1, 0)]) rfl ?_
      exact vjp_M_register_109 hl0 _ _ _ _ _ _ h
  · replace h := h.2 c9
    refine pv_iconst (v := 1) (n := 60) d_M_register_59 (by decide) rfl ?_
    refine pv_goto (tgt := 109) d_M_register_60 (by decide) ?_
    refine pv_unset (i := 5) (L1 := [(10, 0), (0, a1), (0, a2), (0, a3), (0, a4), (1, 0), (0, s0)]) rfl ?_
    refine pv_unset (i := 6) (L1 := [(10, 0), (0, a1), (0, a2), (0, a3), (0, a4), (1, 0), (1, 0)]) rfl ?_
    exact vjp_M_register_109 hl0 _ _ _ _ _ _ h
set_option maxHeartbeats 4000000 in
set_option maxRecDepth 20000 in
def jp_M_register_46 (Q : pw_W → Int32 → Prop) (X : pw_W → Nat → Prop) (a1 a2 a3 a4 a5 : Int32) (w : pw_W) : Prop := jp_M_register_51 Q X a1 a2 a3 a4 a5 1 w
set_option maxHeartbeats 4000000 in
set_option maxRecDepth 20000 in
theorem vjp_M_register_46 {l : Launch} {g : pw_G} {Q : pw_W → Int32 → Prop} {X : pw_W → Nat → Prop} (hl0 : l.stackTraces = false) (a1 a2 a3 a4 a5 : Int32) (w : pw_W) (h : jp_M_register_46 Q X a1 a2 a3 a4 a5 w) : pw_V l g cx_M_register Q X 46 [(10, 0), (0, a1), (0, a2), (0, a3), (0, a4), (0, a5), (1, 0)] [] w := by
  unfold jp_M_register_46 at h
  refine pv_iconst (v := 1) (n := 47) d_M_register_46 (by decide) rfl ?_
  refine pv_goto (tgt := 51) d_M_register_47 (by decide) ?_
  exact vjp_M_register_51 hl0 _ _ _ _ _ _ _ h
set_option maxHeartbeats 4000000 in
set_option maxRecDepth 20000 in
def jp_M_register_29 (Q : pw_W → Int32 → Prop) (X : pw_W → Nat → Prop) (a1 a2 a3 a4 s0 : Int32) (w : pw_W) : Prop := (¬ a1 = 0 → jp_M_register_46 Q X a1 a2 a3 a4 s0 w) ∧ (a1 = 0 → wp_M_isIn w a4 1 99 (fun w21 r22 => (r22 = 0 → jp_M_register_51 Q X a1 a2 a3 a4 s0 0 w21) ∧ (¬ r22 = 0 → jp_M_register_46 Q X a1 a2 a3 a4 s0 w21)) (fun _ _ => False))
set_option maxHeartbeats 4000000 in
set_option maxRecDepth 20000 in
theorem vjp_M_register_29 {l : Launch} {g : pw_G} {Q : pw_W → Int32 → Prop} {X : pw_W → Nat → Prop} (hl0 : l.stackTraces = false) (a1 a2 a3 a4 s0 : Int32) (w : pw_W) (h : jp_M_register_29 Q X a1 a2 a3 a4 s0 w) : pw_V l g cx_M_register Q X 29 [(10, 0), (0, a1), (0, a2), (0, a3), (0, a4), (1, 0), (1, 0)] [(0, s0)] w := by
  unfold jp_M_register_29 at h
  refine pv_istore (n := 31) (L' := [(10, 0), (0, a1), (0, a2), (0, a3), (0, a4), (0, s0), (1, 0)]) d_M_register_29 (by decide) rfl rfl ?_
  refine pv_iload_n (n := 32) d_M_register_31 rfl rfl rfl ?_
  refine pv_if_ne (n := 35) (tgt := 46) d_M_register_32 (by decide) rfl (fun c20 => ?_) (fun c20 => ?_)
  · replace h := h.1 c20
    exact vjp_M_register_46 hl0 _ _ _ _ _ _ h
  · replace h := h.2 c20
    refine pv_iload (n := 37) d_M_register_35 rfl rfl ?_
    refine pv_iconst (v := 1) (n := 38) d_M_register_37 (by decide) rfl ?_
    refine pv_bipush (v := 99) (n := 40) d_M_register_38 (by decide) rfl ?_
    refine pv_callS (n := 43) [(0, a4), (0, 1), (0, 99)] [] (con_M_isIn hl0 h) q_459 q_460 q_458 q_457 pyo_M_isIn (by decide) rfl rfl d_M_register_40 rfl (fun w21 r22 h _ => ?_) (fun _ _ h => h.elim)
    show pw_V l g cx_M_register Q X 43 [(10, 0), (0, a1), (0, a2), (0, a3), (0, a4), (0, s0), (1, 0)] [(0, r22)] w21
    refine pv_if_eq (n := 46) (tgt := 50) d_M_register_43 (by decide) rfl (fun c23 => ?_) (fun c23 => ?_)
    · replace h := h.1 c23
      refine pv_iconst (v := 0) (n := 51) d_M_register_50 (by decide) rfl ?_
      exact vjp_M_register_51 hl0 _ _ _ _ _ _ _ h
    · replace h := h.2 c23
      exact vjp_M_register_46 hl0 _ _ _ _ _ _ h
set_option maxHeartbeats 4000000 in
set_option maxRecDepth 20000 in
def jp_M_register_28 (Q : pw_W → Int32 → Prop) (X : pw_W → Nat → Prop) (a1 a2 a3 a4 : Int32) (w : pw_W) : Prop := jp_M_register_29 Q X a1 a2 a3 a4 0 w
set_option maxHeartbeats 4000000 in
set_option maxRecDepth 20000 in
theorem vjp_M_register_28 {l : Launch} {g : pw_G} {Q : pw_W → Int32 → Prop} {X : pw_W → Nat → Prop} (hl0 : l.stackTraces = false) (a1 a2 a3 a4 : Int32) (w : pw_W) (h : jp_M_register_28 Q X a1 a2 a3 a4 w) : pw_V l g cx_M_register Q X 28 [(10, 0), (0, a1), (0, a2), (0, a3), (0, a4), (1, 0), (1, 0)] [] w := by
  unfold jp_M_register_28 at h
  refine pv_iconst (v := 0) (n := 29) d_M_register_28 (by decide) rfl ?_
  exact vjp_M_register_29 hl0 _ _ _ _ _ _ h
set_option maxHeartbeats 4000000 in
set_option maxRecDepth 20000 in
def wp_M_register (w : pw_W) (a1 a2 a3 a4 : Int32) (Q : pw_W → Int32 → Prop) (X : pw_W → Nat → Prop) : Prop := wp_M_isIn w a1 0 2 (fun w24 r25 => (r25 = 0 → jp_M_register_28 Q X a1 a2 a3 a4 w24) ∧ (¬ r25 = 0 → wp_M_isParcel w24 a2 (fun w27 r28 => (r28 = 0 → jp_M_register_28 Q X a1 a2 a3 a4 w27) ∧ (¬ r28 = 0 → wp_M_isPerson w27 a3 (fun w30 r31 => (r31 = 0 → jp_M_register_28 Q X a1 a2 a3 a4 w30) ∧ (¬ r31 = 0 → jp_M_register_29 Q X a1 a2 a3 a4 1 w30)) (fun _ _ => False))) (fun _ _ => False))) (fun _ _ => False)
set_option maxHeartbeats 4000000 in
set_option maxRecDepth 20000 in
theorem vw_M_register {l : Launch} {g : pw_G} {Q : pw_W → Int32 → Prop} {X : pw_W → Nat → Prop} (hl0 : l.stackTraces = false) {w : pw_W} {a1 a2 a3 a4 : Int32} (h : wp_M_register w a1 a2 a3 a4 Q X) : pw_V l g cx_M_register Q X 0 [(10, 0), (0, a1), (0, a2), (0, a3), (0, a4), (1, 0), (1, 0)] [] w := by
  unfold wp_M_register at h
  refine pv_iload_n (n := 1) d_M_register_0 rfl rfl rfl ?_
  refine pv_iconst (v := 0) (n := 2) d_M_register_1 (by decide) rfl ?_
  refine pv_iconst (v := 2) (n := 3) d_M_register_2 (by decide) rfl ?_
  refine pv_callS (n := 6) [(0, a1), (0, 0), (0, 2)] [] (con_M_isIn hl0 h) q_459 q_460 q_458 q_457 pyo_M_isIn (by decide) rfl rfl d_M_register_3 rfl (fun w24 r25 h _ => ?_) (fun _ _ h => h.elim)
  show pw_V l g cx_M_register Q X 6 [(10, 0), (0, a1), (0, a2), (0, a3), (0, a4), (1, 0), (1, 0)] [(0, r25)] w24
  refine pv_if_eq (n := 9) (tgt := 28) d_M_register_6 (by decide) rfl (fun c26 => ?_) (fun c26 => ?_)
  · replace h := h.1 c26
    exact vjp_M_register_28 hl0 _ _ _ _ _ h
  · replace h := h.2 c26
    refine pv_aload_n (n := 10) d_M_register_9 rfl rfl rfl ?_
    refine pv_iload_n (n := 11) d_M_register_10 rfl rfl rfl ?_
    refine pv_callV (n := 14) (x := 0) [(0, a2)] [] (con_M_isParcel hl0 h) pw_cf8 rfl q_523 q_524 q_525 q_458 q_522 pyo_M_isParcel (by decide) rfl rfl (by decide) d_M_register_11 rfl (fun w27 r28 h _ => ?_) (fun _ _ h => h.elim)
    show pw_V l g cx_M_register Q X 14 [(10, 0), (0, a1), (0, a2), (0, a3), (0, a4), (1, 0), (1, 0)] [(0, r28)] w27
    refine pv_if_eq (n := 17) (tgt := 28) d_M_register_14 (by decide) rfl (fun c29 => ?_) (fun c29 => ?_)
    · replace h := h.1 c29
      exact vjp_M_register_28 hl0 _ _ _ _ _ h
    · replace h := h.2 c29
      refine pv_iload_n (n := 18) d_M_register_17 rfl rfl rfl ?_
      refine pv_callS (n := 21) [(0, a3)] [] (con_M_isPerson hl0 h) q_517 q_518 q_458 q_516 pyo_M_isPerson (by decide) rfl rfl d_M_register_18 rfl (fun w30 r31 h _ => ?_) (fun _ _ h => h.elim)
      show pw_V l g cx_M_register Q X 21 [(10, 0), (0, a1), (0, a2), (0, a3), (0, a4), (1, 0), (1, 0)] [(0, r31)] w30
      refine pv_if_eq (n := 24) (tgt := 28) d_M_register_21 (by decide) rfl (fun c32 => ?_) (fun c32 => ?_)
      · replace h := h.1 c32
        exact vjp_M_register_28 hl0 _ _ _ _ _ h
      · replace h := h.2 c32
        refine pv_iconst (v := 1) (n := 25) d_M_register_24 (by decide) rfl ?_
        refine pv_goto (tgt := 29) d_M_register_25 (by decide) ?_
        exact vjp_M_register_29 hl0 _ _ _ _ _ _ h
set_option maxHeartbeats 4000000 in
set_option maxRecDepth 20000 in
theorem con_M_register {l : Launch} {g : pw_G} {Q : pw_W → Int32 → Prop} {X : pw_W → Nat → Prop} (hl0 : l.stackTraces = false) {w : pw_W} {a1 a2 a3 a4 : Int32} (h : wp_M_register w a1 a2 a3 a4 Q X) : pw_Con l g y_M_register cx_M_register [(10, 0), (0, a1), (0, a2), (0, a3), (0, a4)] w Q X :=
  pw_con (by decide +kernel) rfl rfl hl0 rfl (Nat.le_of_ble_eq_true rfl) (by simp) (vw_M_register hl0 h)
theorem d_M_release_0 : decode (pw_cc cx_M_release) 0 = .ok (.aload_n 0, 1) := by decide +kernel
theorem d_M_release_1 : decode (pw_cc cx_M_release) 1 = .ok (.iload_n 1, 1) := by decide +kernel
theorem d_M_release_2 : decode (pw_cc cx_M_release) 2 = .ok (.iconst 0, 1) := by decide +kernel
theorem d_M_release_3 : decode (pw_cc cx_M_release) 3 = .ok (.aload_n 0, 1) := by decide +kernel
theorem d_M_release_4 : decode (pw_cc cx_M_release) 4 = .ok (.getfield 131, 3) := by decide +kernel
theorem d_M_release_7 : decode (pw_cc cx_M_release) 7 = .ok (.iconst 1, 1) := by decide +kernel
theorem d_M_release_8 : decode (pw_cc cx_M_release) 8 = .ok (.isub, 1) := by decide +kernel
theorem d_M_release_9 : decode (pw_cc cx_M_release) 9 = .ok (.invokestatic 124, 3) := by decide +kernel
theorem d_M_release_12 : decode (pw_cc cx_M_release) 12 = .ok (.ifCond .eq 7, 3) := by decide +kernel
theorem d_M_release_15 : decode (pw_cc cx_M_release) 15 = .ok (.iconst 0, 1) := by decide +kernel
theorem d_M_release_16 : decode (pw_cc cx_M_release) 16 = .ok (.goto 4, 3) := by decide +kernel
theorem d_M_release_19 : decode (pw_cc cx_M_release) 19 = .ok (.iconst 1, 1) := by decide +kernel
theorem d_M_release_20 : decode (pw_cc cx_M_release) 20 = .ok (.invokevirtual 179, 3) := by decide +kernel
theorem d_M_release_23 : decode (pw_cc cx_M_release) 23 = .ok (.ifCond .ne 5, 3) := by decide +kernel
theorem d_M_release_26 : decode (pw_cc cx_M_release) 26 = .ok (.iconst 0, 1) := by decide +kernel
theorem d_M_release_27 : decode (pw_cc cx_M_release) 27 = .ok (.ireturn, 1) := by decide +kernel
theorem d_M_release_28 : decode (pw_cc cx_M_release) 28 = .ok (.aload_n 0, 1) := by decide +kernel
theorem d_M_release_29 : decode (pw_cc cx_M_release) 29 = .ok (.getfield 64, 3) := by decide +kernel
theorem d_M_release_32 : decode (pw_cc cx_M_release) 32 = .ok (.iload_n 1, 1) := by decide +kernel
theorem d_M_release_33 : decode (pw_cc cx_M_release) 33 = .ok (.baload, 1) := by decide +kernel
theorem d_M_release_34 : decode (pw_cc cx_M_release) 34 = .ok (.ifCond .ne 7, 3) := by decide +kernel
theorem d_M_release_37 : decode (pw_cc cx_M_release) 37 = .ok (.iconst 1, 1) := by decide +kernel
theorem d_M_release_38 : decode (pw_cc cx_M_release) 38 = .ok (.goto 4, 3) := by decide +kernel
theorem d_M_release_41 : decode (pw_cc cx_M_release) 41 = .ok (.iconst 0, 1) := by decide +kernel
theorem d_M_release_42 : decode (pw_cc cx_M_release) 42 = .ok (.istore_n 2, 1) := by decide +kernel
theorem d_M_release_43 : decode (pw_cc cx_M_release) 43 = .ok (.aload_n 0, 1) := by decide +kernel
theorem d_M_release_44 : decode (pw_cc cx_M_release) 44 = .ok (.getfield 64, 3) := by decide +kernel
theorem d_M_release_47 : decode (pw_cc cx_M_release) 47 = .ok (.iload_n 1, 1) := by decide +kernel
theorem d_M_release_48 : decode (pw_cc cx_M_release) 48 = .ok (.iconst 1, 1) := by decide +kernel
theorem d_M_release_49 : decode (pw_cc cx_M_release) 49 = .ok (.bastore, 1) := by decide +kernel
theorem d_M_release_50 : decode (pw_cc cx_M_release) 50 = .ok (.iload_n 2, 1) := by decide +kernel
theorem d_M_release_51 : decode (pw_cc cx_M_release) 51 = .ok (.ireturn, 1) := by decide +kernel
set_option maxHeartbeats 4000000 in
set_option maxRecDepth 20000 in
def jp_M_release_42 (Q : pw_W → Int32 → Prop) (X : pw_W → Nat → Prop) (a1 s0 : Int32) (w : pw_W) : Prop := w.1 8 0 25 = 0 ∧ pw_jn a1 (pw_ln w 225 0) ∧ ∀ w3, w3 = pw_ps w 225 0 (pw_i a1) 1 → (s0 = 0 ∨ s0 = 1) ∧ Q w3 s0
set_option maxHeartbeats 4000000 in
set_option maxRecDepth 20000 in
theorem vjp_M_release_42 {l : Launch} {g : pw_G} {Q : pw_W → Int32 → Prop} {X : pw_W → Nat → Prop} (hl0 : l.stackTraces = false) (a1 s0 : Int32) (w : pw_W) (h : jp_M_release_42 Q X a1 s0 w) : pw_V l g cx_M_release Q X 42 [(10, 0), (0, a1), (1, 0)] [(0, s0)] w := by
  unfold jp_M_release_42 at h
  refine pv_istore_n (n := 43) (L' := [(10, 0), (0, a1), (0, s0)]) d_M_release_42 rfl (by decide) rfl rfl ?_
  refine pv_aload_n (n := 44) d_M_release_43 rfl rfl rfl ?_
  obtain ⟨g1, h⟩ := h
  refine gt_M_64 (n := 47) rfl d_M_release_44 (by decide) g1 rfl ?_
  refine pv_iload_n (n := 48) d_M_release_47 rfl rfl rfl ?_
  refine pv_iconst (v := 1) (n := 49) d_M_release_48 (by decide) rfl ?_
  obtain ⟨g2, h⟩ := h
  refine pv_zast1 (n := 50) (f := 225) (by decide) rfl (fun _ => rfl) d_M_release_49 (by decide) g2 (by decide) rfl (fun w3 e4 => ?_)
  replace h := h w3 e4
  refine pv_iload_n (n := 51) d_M_release_50 rfl rfl rfl ?_
  obtain ⟨g5, h⟩ := h
  exact pv_zret rfl rfl d_M_release_51 g5 h
set_option maxHeartbeats 4000000 in
set_option maxRecDepth 20000 in
def jp_M_release_20 (Q : pw_W → Int32 → Prop) (X : pw_W → Nat → Prop) (a1 s0 : Int32) (w : pw_W) : Prop := wp_M_isFine w s0 (fun w6 r7 => (¬ r7 = 0 → w6.1 8 0 25 = 0 ∧ pw_jn a1 (pw_ln w6 225 0) ∧ (¬ (w6.1 225 0 (pw_i a1)) = 0 → jp_M_release_42 Q X a1 0 w6) ∧ ((w6.1 225 0 (pw_i a1)) = 0 → jp_M_release_42 Q X a1 1 w6)) ∧ (r7 = 0 → Q w6 0)) (fun _ _ => False)
set_option maxHeartbeats 4000000 in
set_option maxRecDepth 20000 in
theorem vjp_M_release_20 {l : Launch} {g : pw_G} {Q : pw_W → Int32 → Prop} {X : pw_W → Nat → Prop} (hl0 : l.stackTraces = false) (a1 s0 : Int32) (w : pw_W) (h : jp_M_release_20 Q X a1 s0 w) : pw_V l g cx_M_release Q X 20 [(10, 0), (0, a1), (1, 0)] [(0, s0), (10, 0)] w := by
  unfold jp_M_release_20 at h
  refine pv_callV (n := 23) (x := 0) [(0, s0)] [] (con_M_isFine hl0 h) pw_cf8 rfl q_506 q_507 q_508 q_458 q_505 pyo_M_isFine (by decide) rfl rfl (by decide) d_M_release_20 rfl (fun w6 r7 h _ => ?_) (fun _ _ h => h.elim)
  show pw_V l g cx_M_release Q X 23 [(10, 0), (0, a1), (1, 0)] [(0, r7)] w6
  refine pv_if_ne (n := 26) (tgt := 28) d_M_release_23 (by decide) rfl (fun c8 => ?_) (fun c8 => ?_)
  · replace h := h.1 c8
    refine pv_aload_n (n := 29) d_M_release_28 rfl rfl rfl ?_
    obtain ⟨g9, h⟩ := h
    refine gt_M_64 (n := 32) rfl d_M_release_29 (by decide) g9 rfl ?_
    refine pv_iload_n (n := 33) d_M_release_32 rfl rfl rfl ?_
    obtain ⟨g10, h⟩ := h
    refine pv_zald (n := 34) (f := 225) (by decide) rfl d_M_release_33 (by decide) g10 rfl ?_
    refine pv_if_ne (n := 37) (tgt := 41) d_M_release_34 (by decide) rfl (fun c11 => ?_) (fun c11 => ?_)
    · replace h := h.1 c11
      refine pv_iconst (v := 0) (n := 42) d_M_release_41 (by decide) rfl ?_
      exact vjp_M_release_42 hl0 _ _ _ h
    · replace h := h.2 c11
      refine pv_iconst (v := 1) (n := 38) d_M_release_37 (by decide) rfl ?_
      refine pv_goto (tgt := 42) d_M_release_38 (by decide) ?_
      exact vjp_M_release_42 hl0 _ _ _ h
  · replace h := h.2 c8
    refine pv_iconst (v := 0) (n := 27) d_M_release_26 (by decide) rfl ?_
    exact pv_zret rfl rfl d_M_release_27 (by decide) h
set_option maxHeartbeats 4000000 in
set_option maxRecDepth 20000 in
def wp_M_release (w : pw_W) (a1 : Int32) (Q : pw_W → Int32 → Prop) (X : pw_W → Nat → Prop) : Prop := wp_M_isIn w a1 0 ((w.1 8 0 26) - 1) (fun w12 r13 => (r13 = 0 → jp_M_release_20 Q X a1 1 w12) ∧ (¬ r13 = 0 → jp_M_release_20 Q X a1 0 w12)) (fun _ _ => False)
set_option maxHeartbeats 4000000 in
set_option maxRecDepth 20000 in
theorem vw_M_release {l : Launch} {g : pw_G} {Q : pw_W → Int32 → Prop} {X : pw_W → Nat → Prop} (hl0 : l.stackTraces = false) {w : pw_W} {a1 : Int32} (h : wp_M_release w a1 Q X) : pw_V l g cx_M_release Q X 0 [(10, 0), (0, a1), (1, 0)] [] w := by
  unfold wp_M_release at h
  refine pv_aload_n (n := 1) d_M_release_0 rfl rfl rfl ?_
  refine pv_iload_n (n := 2) d_M_release_1 rfl rfl rfl ?_
  refine pv_iconst (v := 0) (n := 3) d_M_release_2 (by decide) rfl ?_
  refine pv_aload_n (n := 4) d_M_release_3 rfl rfl rfl ?_
  refine gt_M_131 (n := 7) rfl d_M_release_4 (by decide) rfl ?_
  refine pv_iconst (v := 1) (n := 8) d_M_release_7 (by decide) rfl ?_
  refine pv_isub (n := 9) d_M_release_8 rfl ?_
  refine pv_callS (n := 12) [(0, a1), (0, 0), (0, ((w.1 8 0 26) - 1))] [(10, 0)] (con_M_isIn hl0 h) q_459 q_460 q_458 q_457 pyo_M_isIn (by decide) rfl rfl d_M_release_9 rfl (fun w12 r13 h _ => ?_) (fun _ _ h => h.elim)
  show pw_V l g cx_M_release Q X 12 [(10, 0), (0, a1), (1, 0)] [(0, r13), (10, 0)] w12
  refine pv_if_eq (n := 15) (tgt := 19) d_M_release_12 (by decide) rfl (fun c14 => ?_) (fun c14 => ?_)
  · replace h := h.1 c14
    refine pv_iconst (v := 1) (n := 20) d_M_release_19 (by decide) rfl ?_
    exact vjp_M_release_20 hl0 _ _ _ h
  · replace h := h.2 c14
    refine pv_iconst (v := 0) (n := 16) d_M_release_15 (by decide) rfl ?_
    refine pv_goto (tgt := 20) d_M_release_16 (by decide) ?_
    exact vjp_M_release_20 hl0 _ _ _ h
set_option maxHeartbeats 4000000 in
set_option maxRecDepth 20000 in
theorem con_M_release {l : Launch} {g : pw_G} {Q : pw_W → Int32 → Prop} {X : pw_W → Nat → Prop} (hl0 : l.stackTraces = false) {w : pw_W} {a1 : Int32} (h : wp_M_release w a1 Q X) : pw_Con l g y_M_release cx_M_release [(10, 0), (0, a1)] w Q X :=
  pw_con (by decide +kernel) rfl rfl hl0 rfl (Nat.le_of_ble_eq_true rfl) (by simp) (vw_M_release hl0 h)
theorem d_M_graze_0 : decode (pw_cc cx_M_graze) 0 = .ok (.iload_n 1, 1) := by decide +kernel
theorem d_M_graze_1 : decode (pw_cc cx_M_graze) 1 = .ok (.invokestatic 166, 3) := by decide +kernel
theorem d_M_graze_4 : decode (pw_cc cx_M_graze) 4 = .ok (.ifCond .eq 15, 3) := by decide +kernel
theorem d_M_graze_7 : decode (pw_cc cx_M_graze) 7 = .ok (.aload_n 0, 1) := by decide +kernel
theorem d_M_graze_8 : decode (pw_cc cx_M_graze) 8 = .ok (.iload_n 2, 1) := by decide +kernel
theorem d_M_graze_9 : decode (pw_cc cx_M_graze) 9 = .ok (.invokevirtual 159, 3) := by decide +kernel
theorem d_M_graze_12 : decode (pw_cc cx_M_graze) 12 = .ok (.ifCond .eq 7, 3) := by decide +kernel
theorem d_M_graze_15 : decode (pw_cc cx_M_graze) 15 = .ok (.iconst 1, 1) := by decide +kernel
theorem d_M_graze_16 : decode (pw_cc cx_M_graze) 16 = .ok (.goto 4, 3) := by decide +kernel
theorem d_M_graze_19 : decode (pw_cc cx_M_graze) 19 = .ok (.iconst 0, 1) := by decide +kernel
theorem d_M_graze_20 : decode (pw_cc cx_M_graze) 20 = .ok (.istore 4, 2) := by decide +kernel
theorem d_M_graze_22 : decode (pw_cc cx_M_graze) 22 = .ok (.aload_n 0, 1) := by decide +kernel
theorem d_M_graze_23 : decode (pw_cc cx_M_graze) 23 = .ok (.iload 4, 2) := by decide +kernel
theorem d_M_graze_25 : decode (pw_cc cx_M_graze) 25 = .ok (.ifCond .ne 7, 3) := by decide +kernel
theorem d_M_graze_28 : decode (pw_cc cx_M_graze) 28 = .ok (.iconst 1, 1) := by decide +kernel
theorem d_M_graze_29 : decode (pw_cc cx_M_graze) 29 = .ok (.goto 37, 3) := by decide +kernel
theorem d_M_graze_32 : decode (pw_cc cx_M_graze) 32 = .ok (.iload_n 3, 1) := by decide +kernel
theorem d_M_graze_33 : decode (pw_cc cx_M_graze) 33 = .ok (.iconst 0, 1) := by decide +kernel
theorem d_M_graze_34 : decode (pw_cc cx_M_graze) 34 = .ok (.sipush 400, 3) := by decide +kernel
theorem d_M_graze_37 : decode (pw_cc cx_M_graze) 37 = .ok (.invokestatic 124, 3) := by decide +kernel
theorem d_M_graze_40 : decode (pw_cc cx_M_graze) 40 = .ok (.ifCond .ne 7, 3) := by decide +kernel
theorem d_M_graze_43 : decode (pw_cc cx_M_graze) 43 = .ok (.iconst 2, 1) := by decide +kernel
theorem d_M_graze_44 : decode (pw_cc cx_M_graze) 44 = .ok (.goto 22, 3) := by decide +kernel
theorem d_M_graze_47 : decode (pw_cc cx_M_graze) 47 = .ok (.iload_n 3, 1) := by decide +kernel
theorem d_M_graze_48 : decode (pw_cc cx_M_graze) 48 = .ok (.aload_n 0, 1) := by decide +kernel
theorem d_M_graze_49 : decode (pw_cc cx_M_graze) 49 = .ok (.iload_n 1, 1) := by decide +kernel
theorem d_M_graze_50 : decode (pw_cc cx_M_graze) 50 = .ok (.aload_n 0, 1) := by decide +kernel
theorem d_M_graze_51 : decode (pw_cc cx_M_graze) 51 = .ok (.iload_n 2, 1) := by decide +kernel
theorem d_M_graze_52 : decode (pw_cc cx_M_graze) 52 = .ok (.invokevirtual 172, 3) := by decide +kernel
theorem d_M_graze_55 : decode (pw_cc cx_M_graze) 55 = .ok (.invokevirtual 236, 3) := by decide +kernel
theorem d_M_graze_58 : decode (pw_cc cx_M_graze) 58 = .ok (.if_icmp .le 7, 3) := by decide +kernel
theorem d_M_graze_61 : decode (pw_cc cx_M_graze) 61 = .ok (.iconst 3, 1) := by decide +kernel
theorem d_M_graze_62 : decode (pw_cc cx_M_graze) 62 = .ok (.goto 4, 3) := by decide +kernel
theorem d_M_graze_65 : decode (pw_cc cx_M_graze) 65 = .ok (.iconst 0, 1) := by decide +kernel
theorem d_M_graze_66 : decode (pw_cc cx_M_graze) 66 = .ok (.invokevirtual 179, 3) := by decide +kernel
theorem d_M_graze_69 : decode (pw_cc cx_M_graze) 69 = .ok (.ifCond .ne 5, 3) := by decide +kernel
theorem d_M_graze_72 : decode (pw_cc cx_M_graze) 72 = .ok (.iconst 0, 1) := by decide +kernel
theorem d_M_graze_73 : decode (pw_cc cx_M_graze) 73 = .ok (.ireturn, 1) := by decide +kernel
theorem d_M_graze_74 : decode (pw_cc cx_M_graze) 74 = .ok (.aload_n 0, 1) := by decide +kernel
theorem d_M_graze_75 : decode (pw_cc cx_M_graze) 75 = .ok (.getfield 46, 3) := by decide +kernel
theorem d_M_graze_78 : decode (pw_cc cx_M_graze) 78 = .ok (.bipush 12, 2) := by decide +kernel
theorem d_M_graze_80 : decode (pw_cc cx_M_graze) 80 = .ok (.aload_n 0, 1) := by decide +kernel
theorem d_M_graze_81 : decode (pw_cc cx_M_graze) 81 = .ok (.iload_n 2, 1) := by decide +kernel
theorem d_M_graze_82 : decode (pw_cc cx_M_graze) 82 = .ok (.invokevirtual 172, 3) := by decide +kernel
theorem d_M_graze_85 : decode (pw_cc cx_M_graze) 85 = .ok (.imul, 1) := by decide +kernel
theorem d_M_graze_86 : decode (pw_cc cx_M_graze) 86 = .ok (.iload_n 1, 1) := by decide +kernel
theorem d_M_graze_87 : decode (pw_cc cx_M_graze) 87 = .ok (.iadd, 1) := by decide +kernel
theorem d_M_graze_88 : decode (pw_cc cx_M_graze) 88 = .ok (.iaload, 1) := by decide +kernel
theorem d_M_graze_89 : decode (pw_cc cx_M_graze) 89 = .ok (.istore 5, 2) := by decide +kernel
theorem d_M_graze_91 : decode (pw_cc cx_M_graze) 91 = .ok (.aload_n 0, 1) := by decide +kernel
theorem d_M_graze_92 : decode (pw_cc cx_M_graze) 92 = .ok (.getfield 46, 3) := by decide +kernel
theorem d_M_graze_95 : decode (pw_cc cx_M_graze) 95 = .ok (.bipush 12, 2) := by decide +kernel
theorem d_M_graze_97 : decode (pw_cc cx_M_graze) 97 = .ok (.aload_n 0, 1) := by decide +kernel
theorem d_M_graze_98 : decode (pw_cc cx_M_graze) 98 = .ok (.iload_n 2, 1) := by decide +kernel
theorem d_M_graze_99 : decode (pw_cc cx_M_graze) 99 = .ok (.invokevirtual 172, 3) := by decide +kernel
theorem d_M_graze_102 : decode (pw_cc cx_M_graze) 102 = .ok (.imul, 1) := by decide +kernel
theorem d_M_graze_103 : decode (pw_cc cx_M_graze) 103 = .ok (.iload_n 1, 1) := by decide +kernel
theorem d_M_graze_104 : decode (pw_cc cx_M_graze) 104 = .ok (.iadd, 1) := by decide +kernel
theorem d_M_graze_105 : decode (pw_cc cx_M_graze) 105 = .ok (.iload_n 3, 1) := by decide +kernel
theorem d_M_graze_106 : decode (pw_cc cx_M_graze) 106 = .ok (.iastore, 1) := by decide +kernel
theorem d_M_graze_107 : decode (pw_cc cx_M_graze) 107 = .ok (.iload 5, 2) := by decide +kernel
theorem d_M_graze_109 : decode (pw_cc cx_M_graze) 109 = .ok (.ireturn, 1) := by decide +kernel
set_option maxHeartbeats 4000000 in
set_option maxRecDepth 20000 in
def jp_M_graze_66 (Q : pw_W → Int32 → Prop) (X : pw_W → Nat → Prop) (a1 a2 a3 s0 : Int32) (w : pw_W) : Prop := wp_M_isFine w s0 (fun w1 r2 => (¬ r2 = 0 → w1.1 8 0 19 = 0 ∧ wp_M_now w1 a2 (fun w5 r6 => pw_jn (((12 : Int32) * r6) + a1) (pw_ln w5 219 0) ∧ ∀ v8, v8 = (w5.1 219 0 (pw_i (((12 : Int32) * r6) + a1))) → w5.1 8 0 19 = 0 ∧ wp_M_now w5 a2 (fun w11 r12 => pw_jn (((12 : Int32) * r12) + a1) (pw_ln w11 219 0) ∧ ∀ w14, w14 = pw_ps w11 219 0 (pw_i (((12 : Int32) * r12) + a1)) a3 → Q w14 v8) (fun _ _ => False)) (fun _ _ => False)) ∧ (r2 = 0 → Q w1 0)) (fun _ _ => False)
set_option maxHeartbeats 4000000 in
set_option maxRecDepth 20000 in
theorem vjp_M_graze_66 {l : Launch} {g : pw_G} {Q : pw_W → Int32 → Prop} {X : pw_W → Nat → Prop} (hl0 : l.stackTraces = false) (a1 a2 a3 s0 : Int32) (w : pw_W) (h : jp_M_graze_66 Q X a1 a2 a3 s0 w) : pw_V l g cx_M_graze Q X 66 [(10, 0), (0, a1), (0, a2), (0, a3), (1, 0), (1, 0)] [(0, s0), (10, 0)] w := by
  unfold jp_M_graze_66 at h
  refine pv_callV (n := 69) (x := 0) [(0, s0)] [] (con_M_isFine hl0 h) pw_cf8 rfl q_506 q_507 q_508 q_458 q_505 pyo_M_isFine (by decide) rfl rfl (by decide) d_M_graze_66 rfl (fun w1 r2 h _ => ?_) (fun _ _ h => h.elim)
  show pw_V l g cx_M_graze Q X 69 [(10, 0), (0, a1), (0, a2), (0, a3), (1, 0), (1, 0)] [(0, r2)] w1
  refine pv_if_ne (n := 72) (tgt := 74) d_M_graze_69 (by decide) rfl (fun c3 => ?_) (fun c3 => ?_)
  · replace h := h.1 c3
    refine pv_aload_n (n := 75) d_M_graze_74 rfl rfl rfl ?_
    obtain ⟨g4, h⟩ := h
    refine gt_M_46 (n := 78) rfl d_M_graze_75 (by decide) g4 rfl ?_
    refine pv_bipush (v := 12) (n := 80) d_M_graze_78 (by decide) rfl ?_
    refine pv_aload_n (n := 81) d_M_graze_80 rfl rfl rfl ?_
    refine pv_iload_n (n := 82) d_M_graze_81 rfl rfl rfl ?_
    refine pv_callV (n := 85) (x := 0) [(0, a2)] [(0, 12), (221, 0)] (con_M_now hl0 h) pw_cf8 rfl q_502 q_503 q_504 q_458 q_501 pyo_M_now (by decide) rfl rfl (by decide) d_M_graze_82 rfl (fun w5 r6 h _ => ?_) (fun _ _ h => h.elim)
    show pw_V l g cx_M_graze Q X 85 [(10, 0), (0, a1), (0, a2), (0, a3), (1, 0), (1, 0)] [(0, r6), (0, 12), (221, 0)] w5
    refine pv_imul (n := 86) d_M_graze_85 rfl ?_
    refine pv_iload_n (n := 87) d_M_graze_86 rfl rfl rfl ?_
    refine pv_iadd (n := 88) d_M_graze_87 rfl ?_
    obtain ⟨g7, h⟩ := h
    refine pv_iald (n := 89) (f := 219) (by decide) rfl d_M_graze_88 (by decide) g7 rfl ?_
    refine pv_nm (fun v8 e9 => ?_)
    replace h := h v8 e9
    refine pv_istore (n := 91) (L' := [(10, 0), (0, a1), (0, a2), (0, a3), (1, 0), (0, v8)]) d_M_graze_89 (by decide) rfl rfl ?_
    refine pv_aload_n (n := 92) d_M_graze_91 rfl rfl rfl ?_
    obtain ⟨g10, h⟩ := h
    refine gt_M_46 (n := 95) rfl d_M_graze_92 (by decide) g10 rfl ?_
    refine pv_bipush (v := 12) (n := 97) d_M_graze_95 (by decide) rfl ?_
    refine pv_aload_n (n := 98) d_M_graze_97 rfl rfl rfl ?_
    refine pv_iload_n (n := 99) d_M_graze_98 rfl rfl rfl ?_
    refine pv_callV (n := 102) (x := 0) [(0, a2)] [(0, 12), (221, 0)] (con_M_now hl0 h) pw_cf8 rfl q_502 q_503 q_504 q_458 q_501 pyo_M_now (by decide) rfl rfl (by decide) d_M_graze_99 rfl (fun w11 r12 h _ => ?_) (fun _ _ h => h.elim)
    show pw_V l g cx_M_graze Q X 102 [(10, 0), (0, a1), (0, a2), (0, a3), (1, 0), (0, v8)] [(0, r12), (0, 12), (221, 0)] w11
    refine pv_imul (n := 103) d_M_graze_102 rfl ?_
    refine pv_iload_n (n := 104) d_M_graze_103 rfl rfl rfl ?_
    refine pv_iadd (n := 105) d_M_graze_104 rfl ?_
    refine pv_iload_n (n := 106) d_M_graze_105 rfl rfl rfl ?_
    obtain ⟨g13, h⟩ := h
    refine pv_iast1 (n := 107) (f := 219) (by decide) rfl (fun _ => rfl) d_M_graze_106 (by decide) g13 rfl (fun w14 e15 => ?_)
    replace h := h w14 e15
    refine pv_iload (n := 109) d_M_graze_107 rfl rfl ?_
    exact pv_iret rfl rfl d_M_graze_109 h
  · replace h := h.2 c3
    refine pv_iconst (v := 0) (n := 73) d_M_graze_72 (by decide) rfl ?_
    exact pv_iret rfl rfl d_M_graze_73 h
set_option maxHeartbeats 4000000 in
set_option maxRecDepth 20000 in
def jp_M_graze_20 (Q : pw_W → Int32 → Prop) (X : pw_W → Nat → Prop) (a1 a2 a3 s0 : Int32) (w : pw_W) : Prop := (¬ s0 = 0 → wp_M_isIn w a3 0 400 (fun w17 r18 => (¬ r18 = 0 → wp_M_now w17 a2 (fun w20 r21 => wp_M_worthOf w20 a1 r21 (fun w22 r23 => (a3 ≤ r23 → jp_M_graze_66 Q X a1 a2 a3 0 w22) ∧ (¬ a3 ≤ r23 → jp_M_graze_66 Q X a1 a2 a3 3 w22)) (fun _ _ => False)) (fun _ _ => False)) ∧ (r18 = 0 → jp_M_graze_66 Q X a1 a2 a3 2 w17)) (fun _ _ => False)) ∧ (s0 = 0 → jp_M_graze_66 Q X a1 a2 a3 1 w)
set_option maxHeartbeats 4000000 in
set_option maxRecDepth 20000 in
theorem vjp_M_graze_20 {l : Launch} {g : pw_G} {Q : pw_W → Int32 → Prop} {X : pw_W → Nat → Prop} (hl0 : l.stackTraces = false) (a1 a2 a3 s0 : Int32) (w : pw_W) (h : jp_M_graze_20 Q X a1 a2 a3 s0 w) : pw_V l g cx_M_graze Q X 20 [(10, 0), (0, a1), (0, a2), (0, a3), (1, 0), (1, 0)] [(0, s0)] w := by
  unfold jp_M_graze_20 at h
  refine pv_istore (n := 22) (L' := [(10, 0), (0, a1), (0, a2), (0, a3), (0, s0), (1, 0)]) d_M_graze_20 (by decide) rfl rfl ?_
  refine pv_aload_n (n := 23) d_M_graze_22 rfl rfl rfl ?_
  refine pv_iload (n := 25) d_M_graze_23 rfl rfl ?_
  refine pv_if_ne (n := 28) (tgt := 32) d_M_graze_25 (by decide) rfl (fun c16 => ?_) (fun c16 => ?_)
  · replace h := h.1 c16
    refine pv_iload_n (n := 33) d_M_graze_32 rfl rfl rfl ?_
    refine pv_iconst (v := 0) (n := 34) d_M_graze_33 (by decide) rfl ?_
    refine pv_sipush (v := 400) (n := 37) d_M_graze_34 (by decide) rfl ?_
    refine pv_callS (n := 40) [(0, a3), (0, 0), (0, 400)] [(10, 0)] (con_M_isIn hl0 h) q_459 q_460 q_458 q_457 pyo_M_isIn (by decide) rfl rfl d_M_graze_37 rfl (fun w17 r18 h _ => ?_) (fun _ _ h => h.elim)
    show pw_V l g cx_M_graze Q X 40 [(10, 0), (0, a1), (0, a2), (0, a3), (0, s0), (1, 0)] [(0, r18), (10, 0)] w17
    refine pv_if_ne (n := 43) (tgt := 47) d_M_graze_40 (by decide) rfl (fun c19 => ?_) (fun c19 => ?_)
    · replace h := h.1 c19
      refine pv_iload_n (n := 48) d_M_graze_47 rfl rfl rfl ?_
      refine pv_aload_n (n := 49) d_M_graze_48 rfl rfl rfl ?_
      refine pv_iload_n (n := 50) d_M_graze_49 rfl rfl rfl ?_
      refine pv_aload_n (n := 51) d_M_graze_50 rfl rfl rfl ?_
      refine pv_iload_n (n := 52) d_M_graze_51 rfl rfl rfl ?_
      refine pv_callV (n := 55) (x := 0) [(0, a2)] [(0, a1), (10, 0), (0, a3), (10, 0)] (con_M_now hl0 h) pw_cf8 rfl q_502 q_503 q_504 q_458 q_501 pyo_M_now (by decide) rfl rfl (by decide) d_M_graze_52 rfl (fun w20 r21 h _ => ?_) (fun _ _ h => h.elim)
      show pw_V l g cx_M_graze Q X 55 [(10, 0), (0, a1), (0, a2), (0, a3), (0, s0), (1, 0)] [(0, r21), (0, a1), (10, 0), (0, a3), (10, 0)] w20
      refine pv_callV (n := 58) (x := 0) [(0, a1), (0, r21)] [(0, a3), (10, 0)] (con_M_worthOf hl0 h) pw_cf8 rfl q_577 q_578 q_579 q_458 q_576 pyo_M_worthOf (by decide) rfl rfl (by decide) d_M_graze_55 rfl (fun w22 r23 h _ => ?_) (fun _ _ h => h.elim)
      show pw_V l g cx_M_graze Q X 58 [(10, 0), (0, a1), (0, a2), (0, a3), (0, s0), (1, 0)] [(0, r23), (0, a3), (10, 0)] w22
      refine pv_icmp_le (n := 61) (tgt := 65) d_M_graze_58 (by decide) rfl (fun c24 => ?_) (fun c24 => ?_)
      · replace h := h.1 c24
        refine pv_iconst (v := 0) (n := 66) d_M_graze_65 (by decide) rfl ?_
        refine pv_unset (i := 4) (L1 := [(10, 0), (0, a1), (0, a2), (0, a3), (1, 0), (1, 0)]) rfl ?_
        exact vjp_M_graze_66 hl0 _ _ _ _ _ h
      · replace h := h.2 c24
        refine pv_iconst (v := 3) (n := 62) d_M_graze_61 (by decide) rfl ?_
        refine pv_goto (tgt := 66) d_M_graze_62 (by decide) ?_
        refine pv_unset (i := 4) (L1 := [(10, 0), (0, a1), (0, a2), (0, a3), (1, 0), (1, 0)]) rfl ?_
        exact vjp_M_graze_66 hl0 _ _ _ _ _ h
    · replace h := h.2 c19
      refine pv_iconst (v := 2) (n := 44) d_M_graze_43 (by decide) rfl ?_
      refine pv_goto (tgt := 66) d_M_graze_44 (by decide) ?_
      refine pv_unset (i := 4) (L1 := [(10, 0), (0, a1), (0, a2), (0, a3), (1, 0), (1, 0)]) rfl ?_
      exact vjp_M_graze_66 hl0 _ _ _ _ _ h
  · replace h := h.2 c16
    refine pv_iconst (v := 1) (n := 29) d_M_graze_28 (by decide) rfl ?_
    refine pv_goto (tgt := 66) d_M_graze_29 (by decide) ?_
    refine pv_unset (i := 4) (L1 := [(10, 0), (0, a1), (0, a2), (0, a3), (1, 0), (1, 0)]) rfl ?_
    exact vjp_M_graze_66 hl0 _ _ _ _ _ h
set_option maxHeartbeats 4000000 in
set_option maxRecDepth 20000 in
def jp_M_graze_19 (Q : pw_W → Int32 → Prop) (X : pw_W → Nat → Prop) (a1 a2 a3 : Int32) (w : pw_W) : Prop := jp_M_graze_20 Q X a1 a2 a3 0 w
set_option maxHeartbeats 4000000 in
set_option maxRecDepth 20000 in
theorem vjp_M_graze_19 {l : Launch} {g : pw_G} {Q : pw_W → Int32 → Prop} {X : pw_W → Nat → Prop} (hl0 : l.stackTraces = false) (a1 a2 a3 : Int32) (w : pw_W) (h : jp_M_graze_19 Q X a1 a2 a3 w) : pw_V l g cx_M_graze Q X 19 [(10, 0), (0, a1), (0, a2), (0, a3), (1, 0), (1, 0)] [] w := by
  unfold jp_M_graze_19 at h
  refine pv_iconst (v := 0) (n := 20) d_M_graze_19 (by decide) rfl ?_
  exact vjp_M_graze_20 hl0 _ _ _ _ _ h
set_option maxHeartbeats 4000000 in
set_option maxRecDepth 20000 in
def wp_M_graze (w : pw_W) (a1 a2 a3 : Int32) (Q : pw_W → Int32 → Prop) (X : pw_W → Nat → Prop) : Prop := wp_M_isPerson w a1 (fun w25 r26 => (r26 = 0 → jp_M_graze_19 Q X a1 a2 a3 w25) ∧ (¬ r26 = 0 → wp_M_isParcel w25 a2 (fun w28 r29 => (r29 = 0 → jp_M_graze_19 Q X a1 a2 a3 w28) ∧ (¬ r29 = 0 → jp_M_graze_20 Q X a1 a2 a3 1 w28)) (fun _ _ => False))) (fun _ _ => False)
set_option maxHeartbeats 4000000 in
set_option maxRecDepth 20000 in
theorem vw_M_graze {l : Launch} {g : pw_G} {Q : pw_W → Int32 → Prop} {X : pw_W → Nat → Prop} (hl0 : l.stackTraces = false) {w : pw_W} {a1 a2 a3 : Int32} (h : wp_M_graze w a1 a2 a3 Q X) : pw_V l g cx_M_graze Q X 0 [(10, 0), (0, a1), (0, a2), (0, a3), (1, 0), (1, 0)] [] w := by
  unfold wp_M_graze at h
  refine pv_iload_n (n := 1) d_M_graze_0 rfl rfl rfl ?_
  refine pv_callS (n := 4) [(0, a1)] [] (con_M_isPerson hl0 h) q_517 q_518 q_458 q_516 pyo_M_isPerson (by decide) rfl rfl d_M_graze_1 rfl (fun w25 r26 h _ => ?_) (fun _ _ h => h.elim)
  show pw_V l g cx_M_graze Q X 4 [(10, 0), (0, a1), (0, a2), (0, a3), (1, 0), (1, 0)] [(0, r26)] w25
  refine pv_if_eq (n := 7) (tgt := 19) d_M_graze_4 (by decide) rfl (fun c27 => ?_) (fun c27 => ?_)
  · replace h := h.1 c27
    exact vjp_M_graze_19 hl0 _ _ _ _ h
  · replace h := h.2 c27
    refine pv_aload_n (n := 8) d_M_graze_7 rfl rfl rfl ?_
    refine pv_iload_n (n := 9) d_M_graze_8 rfl rfl rfl ?_
    refine pv_callV (n := 12) (x := 0) [(0, a2)] [] (con_M_isParcel hl0 h) pw_cf8 rfl q_523 q_524 q_525 q_458 q_522 pyo_M_isParcel (by decide) rfl rfl (by decide) d_M_graze_9 rfl (fun w28 r29 h _ => ?_) (fun _ _ h => h.elim)
    show pw_V l g cx_M_graze Q X 12 [(10, 0), (0, a1), (0, a2), (0, a3), (1, 0), (1, 0)] [(0, r29)] w28
    refine pv_if_eq (n := 15) (tgt := 19) d_M_graze_12 (by decide) rfl (fun c30 => ?_) (fun c30 => ?_)
    · replace h := h.1 c30
      exact vjp_M_graze_19 hl0 _ _ _ _ h
    · replace h := h.2 c30
      refine pv_iconst (v := 1) (n := 16) d_M_graze_15 (by decide) rfl ?_
      refine pv_goto (tgt := 20) d_M_graze_16 (by decide) ?_
      exact vjp_M_graze_20 hl0 _ _ _ _ _ h
set_option maxHeartbeats 4000000 in
set_option maxRecDepth 20000 in
theorem con_M_graze {l : Launch} {g : pw_G} {Q : pw_W → Int32 → Prop} {X : pw_W → Nat → Prop} (hl0 : l.stackTraces = false) {w : pw_W} {a1 a2 a3 : Int32} (h : wp_M_graze w a1 a2 a3 Q X) : pw_Con l g y_M_graze cx_M_graze [(10, 0), (0, a1), (0, a2), (0, a3)] w Q X :=
  pw_con (by decide +kernel) rfl rfl hl0 rfl (Nat.le_of_ble_eq_true rfl) (by simp) (vw_M_graze hl0 h)
theorem d_M_rain_0 : decode (pw_cc cx_M_rain) 0 = .ok (.aload_n 0, 1) := by decide +kernel
theorem d_M_rain_1 : decode (pw_cc cx_M_rain) 1 = .ok (.iload_n 1, 1) := by decide +kernel
theorem d_M_rain_2 : decode (pw_cc cx_M_rain) 2 = .ok (.iconst 1, 1) := by decide +kernel
theorem d_M_rain_3 : decode (pw_cc cx_M_rain) 3 = .ok (.bipush 60, 2) := by decide +kernel
theorem d_M_rain_5 : decode (pw_cc cx_M_rain) 5 = .ok (.invokestatic 124, 3) := by decide +kernel
theorem d_M_rain_8 : decode (pw_cc cx_M_rain) 8 = .ok (.ifCond .eq 7, 3) := by decide +kernel
theorem d_M_rain_11 : decode (pw_cc cx_M_rain) 11 = .ok (.iconst 0, 1) := by decide +kernel
theorem d_M_rain_12 : decode (pw_cc cx_M_rain) 12 = .ok (.goto 4, 3) := by decide +kernel
theorem d_M_rain_15 : decode (pw_cc cx_M_rain) 15 = .ok (.iconst 1, 1) := by decide +kernel
theorem d_M_rain_16 : decode (pw_cc cx_M_rain) 16 = .ok (.invokevirtual 179, 3) := by decide +kernel
theorem d_M_rain_19 : decode (pw_cc cx_M_rain) 19 = .ok (.ifCond .ne 5, 3) := by decide +kernel
theorem d_M_rain_22 : decode (pw_cc cx_M_rain) 22 = .ok (.iconst 0, 1) := by decide +kernel
theorem d_M_rain_23 : decode (pw_cc cx_M_rain) 23 = .ok (.ireturn, 1) := by decide +kernel
theorem d_M_rain_24 : decode (pw_cc cx_M_rain) 24 = .ok (.iconst 0, 1) := by decide +kernel
theorem d_M_rain_25 : decode (pw_cc cx_M_rain) 25 = .ok (.istore_n 2, 1) := by decide +kernel
theorem d_M_rain_26 : decode (pw_cc cx_M_rain) 26 = .ok (.iconst 0, 1) := by decide +kernel
theorem d_M_rain_27 : decode (pw_cc cx_M_rain) 27 = .ok (.istore_n 3, 1) := by decide +kernel
theorem d_M_rain_28 : decode (pw_cc cx_M_rain) 28 = .ok (.iload_n 3, 1) := by decide +kernel
theorem d_M_rain_29 : decode (pw_cc cx_M_rain) 29 = .ok (.bipush 100, 2) := by decide +kernel
theorem d_M_rain_31 : decode (pw_cc cx_M_rain) 31 = .ok (.if_icmp .ge 44, 3) := by decide +kernel
theorem d_M_rain_34 : decode (pw_cc cx_M_rain) 34 = .ok (.aload_n 0, 1) := by decide +kernel
theorem d_M_rain_35 : decode (pw_cc cx_M_rain) 35 = .ok (.getfield 13, 3) := by decide +kernel
theorem d_M_rain_38 : decode (pw_cc cx_M_rain) 38 = .ok (.iload_n 3, 1) := by decide +kernel
theorem d_M_rain_39 : decode (pw_cc cx_M_rain) 39 = .ok (.iaload, 1) := by decide +kernel
theorem d_M_rain_40 : decode (pw_cc cx_M_rain) 40 = .ok (.iload_n 1, 1) := by decide +kernel
theorem d_M_rain_41 : decode (pw_cc cx_M_rain) 41 = .ok (.iadd, 1) := by decide +kernel
theorem d_M_rain_42 : decode (pw_cc cx_M_rain) 42 = .ok (.istore 4, 2) := by decide +kernel
theorem d_M_rain_44 : decode (pw_cc cx_M_rain) 44 = .ok (.aload_n 0, 1) := by decide +kernel
theorem d_M_rain_45 : decode (pw_cc cx_M_rain) 45 = .ok (.getfield 13, 3) := by decide +kernel
theorem d_M_rain_48 : decode (pw_cc cx_M_rain) 48 = .ok (.iload_n 3, 1) := by decide +kernel
theorem d_M_rain_49 : decode (pw_cc cx_M_rain) 49 = .ok (.iload 4, 2) := by decide +kernel
theorem d_M_rain_51 : decode (pw_cc cx_M_rain) 51 = .ok (.bipush 100, 2) := by decide +kernel
theorem d_M_rain_53 : decode (pw_cc cx_M_rain) 53 = .ok (.invokestatic 142, 3) := by decide +kernel
theorem d_M_rain_56 : decode (pw_cc cx_M_rain) 56 = .ok (.iastore, 1) := by decide +kernel
theorem d_M_rain_57 : decode (pw_cc cx_M_rain) 57 = .ok (.iload_n 2, 1) := by decide +kernel
theorem d_M_rain_58 : decode (pw_cc cx_M_rain) 58 = .ok (.iload 4, 2) := by decide +kernel
theorem d_M_rain_60 : decode (pw_cc cx_M_rain) 60 = .ok (.aload_n 0, 1) := by decide +kernel
theorem d_M_rain_61 : decode (pw_cc cx_M_rain) 61 = .ok (.getfield 13, 3) := by decide +kernel
theorem d_M_rain_64 : decode (pw_cc cx_M_rain) 64 = .ok (.iload_n 3, 1) := by decide +kernel
theorem d_M_rain_65 : decode (pw_cc cx_M_rain) 65 = .ok (.iaload, 1) := by decide +kernel
theorem d_M_rain_66 : decode (pw_cc cx_M_rain) 66 = .ok (.isub, 1) := by decide +kernel
theorem d_M_rain_67 : decode (pw_cc cx_M_rain) 67 = .ok (.iadd, 1) := by decide +kernel
theorem d_M_rain_68 : decode (pw_cc cx_M_rain) 68 = .ok (.istore_n 2, 1) := by decide +kernel
theorem d_M_rain_69 : decode (pw_cc cx_M_rain) 69 = .ok (.iinc 3 1, 3) := by decide +kernel
theorem d_M_rain_72 : decode (pw_cc cx_M_rain) 72 = .ok (.goto (-44), 3) := by decide +kernel
theorem d_M_rain_75 : decode (pw_cc cx_M_rain) 75 = .ok (.aload_n 0, 1) := by decide +kernel
theorem d_M_rain_76 : decode (pw_cc cx_M_rain) 76 = .ok (.dup, 1) := by decide +kernel
theorem d_M_rain_77 : decode (pw_cc cx_M_rain) 77 = .ok (.getfield 239, 3) := by decide +kernel
theorem d_M_rain_80 : decode (pw_cc cx_M_rain) 80 = .ok (.bipush 100, 2) := by decide +kernel
theorem d_M_rain_82 : decode (pw_cc cx_M_rain) 82 = .ok (.iload_n 1, 1) := by decide +kernel
theorem d_M_rain_83 : decode (pw_cc cx_M_rain) 83 = .ok (.imul, 1) := by decide +kernel
theorem d_M_rain_84 : decode (pw_cc cx_M_rain) 84 = .ok (.iadd, 1) := by decide +kernel
theorem d_M_rain_85 : decode (pw_cc cx_M_rain) 85 = .ok (.putfield 239, 3) := by decide +kernel
theorem d_M_rain_88 : decode (pw_cc cx_M_rain) 88 = .ok (.aload_n 0, 1) := by decide +kernel
theorem d_M_rain_89 : decode (pw_cc cx_M_rain) 89 = .ok (.dup, 1) := by decide +kernel
theorem d_M_rain_90 : decode (pw_cc cx_M_rain) 90 = .ok (.getfield 242, 3) := by decide +kernel
theorem d_M_rain_93 : decode (pw_cc cx_M_rain) 93 = .ok (.iload_n 2, 1) := by decide +kernel
theorem d_M_rain_94 : decode (pw_cc cx_M_rain) 94 = .ok (.iadd, 1) := by decide +kernel
theorem d_M_rain_95 : decode (pw_cc cx_M_rain) 95 = .ok (.putfield 242, 3) := by decide +kernel
theorem d_M_rain_98 : decode (pw_cc cx_M_rain) 98 = .ok (.iload_n 2, 1) := by decide +kernel
theorem d_M_rain_99 : decode (pw_cc cx_M_rain) 99 = .ok (.ireturn, 1) := by decide +kernel
set_option maxHeartbeats 4000000 in
set_option maxRecDepth 20000 in
def lp_M_rain_28 (Q : pw_W → Int32 → Prop) (X : pw_W → Nat → Prop) : Nat → Int32 → Int32 → Int32 → pw_W → Prop := fun k => Nat.rec (motive := fun _ => Int32 → Int32 → Int32 → pw_W → Prop) (fun _ _ _ _ => False) (fun _ ih a1 a2 a3 w => ((100 : Int32) ≤ a3 → ∀ w2, w2 = pw_ps w 8 0 3 ((w.1 8 0 3) + ((100 : Int32) * a1)) → ∀ w4, w4 = pw_ps w2 8 0 4 ((w2.1 8 0 4) + a2) → Q w4 a2) ∧ (¬ (100 : Int32) ≤ a3 → w.1 8 0 7 = 0 ∧ pw_jn a3 (pw_ln w 207 0) ∧ ∀ v8, v8 = ((w.1 207 0 (pw_i a3)) + a1) → w.1 8 0 7 = 0 ∧ wp_M_lesser w v8 100 (fun w11 r12 => pw_jn a3 (pw_ln w11 207 0) ∧ ∀ w14, w14 = pw_ps w11 207 0 (pw_i a3) r12 → w14.1 8 0 7 = 0 ∧ pw_jn a3 (pw_ln w14 207 0) ∧ ∀ v18, v18 = (a2 + (v8 - (w14.1 207 0 (pw_i a3)))) → ih a1 v18 (a3 + 1) w14) (fun _ _ => False))) k
set_option maxHeartbeats 4000000 in
set_option maxRecDepth 20000 in
theorem lp_M_rain_28_s {Q : pw_W → Int32 → Prop} {X : pw_W → Nat → Prop}  {k : Nat} {a1 a2 a3 : Int32} {w : pw_W} : lp_M_rain_28 Q X (k + 1) a1 a2 a3 w = (let ih := lp_M_rain_28 Q X k; ((100 : Int32) ≤ a3 → ∀ w2, w2 = pw_ps w 8 0 3 ((w.1 8 0 3) + ((100 : Int32) * a1)) → ∀ w4, w4 = pw_ps w2 8 0 4 ((w2.1 8 0 4) + a2) → Q w4 a2) ∧ (¬ (100 : Int32) ≤ a3 → w.1 8 0 7 = 0 ∧ pw_jn a3 (pw_ln w 207 0) ∧ ∀ v8, v8 = ((w.1 207 0 (pw_i a3)) + a1) → w.1 8 0 7 = 0 ∧ wp_M_lesser w v8 100 (fun w11 r12 => pw_jn a3 (pw_ln w11 207 0) ∧ ∀ w14, w14 = pw_ps w11 207 0 (pw_i a3) r12 → w14.1 8 0 7 = 0 ∧ pw_jn a3 (pw_ln w14 207 0) ∧ ∀ v18, v18 = (a2 + (v8 - (w14.1 207 0 (pw_i a3)))) → ih a1 v18 (a3 + 1) w14) (fun _ _ => False))) := rfl
set_option maxHeartbeats 4000000 in
set_option maxRecDepth 20000 in
theorem vlp_M_rain_28 {l : Launch} {g : pw_G} {Q : pw_W → Int32 → Prop} {X : pw_W → Nat → Prop} (hl0 : l.stackTraces = false) : ∀ (k : Nat) (a1 a2 a3 : Int32) (w : pw_W), lp_M_rain_28 Q X k a1 a2 a3 w → pw_V l g cx_M_rain Q X 28 [(10, 0), (0, a1), (0, a2), (0, a3), (1, 0)] [] w := by
  intro k; induction k with
  | zero => intro _ _ _ _ h; exact h.elim
  | succ k ih =>
    intro a1 a2 a3 w h
    rw [lp_M_rain_28_s] at h
    refine pv_iload_n (n := 29) d_M_rain_28 rfl rfl rfl ?_
    refine pv_bipush (v := 100) (n := 31) d_M_rain_29 (by decide) rfl ?_
    refine pv_icmp_ge (n := 34) (tgt := 75) d_M_rain_31 (by decide) rfl (fun c1 => ?_) (fun c1 => ?_)
    · replace h := h.1 c1
      refine pv_aload_n (n := 76) d_M_rain_75 rfl rfl rfl ?_
      refine pv_dup (n := 77) d_M_rain_76 (by decide) rfl ?_
      refine gt_M_239 (n := 80) rfl d_M_rain_77 (by decide) rfl ?_
      refine pv_bipush (v := 100) (n := 82) d_M_rain_80 (by decide) rfl ?_
      refine pv_iload_n (n := 83) d_M_rain_82 rfl rfl rfl ?_
      refine pv_imul (n := 84) d_M_rain_83 rfl ?_
      refine pv_iadd (n := 85) d_M_rain_84 rfl ?_
      refine pt_M_239 (n := 88) rfl d_M_rain_85 (by decide) rfl (fun w2 e3 => ?_)
      replace h := h w2 e3
      refine pv_aload_n (n := 89) d_M_rain_88 rfl rfl rfl ?_
      refine pv_dup (n := 90) d_M_rain_89 (by decide) rfl ?_
      refine gt_M_242 (n := 93) rfl d_M_rain_90 (by decide) rfl ?_
      refine pv_iload_n (n := 94) d_M_rain_93 rfl rfl rfl ?_
      refine pv_iadd (n := 95) d_M_rain_94 rfl ?_
      refine pt_M_242 (n := 98) rfl d_M_rain_95 (by decide) rfl (fun w4 e5 => ?_)
      replace h := h w4 e5
      refine pv_iload_n (n := 99) d_M_rain_98 rfl rfl rfl ?_
      exact pv_iret rfl rfl d_M_rain_99 h
    · replace h := h.2 c1
      refine pv_aload_n (n := 35) d_M_rain_34 rfl rfl rfl ?_
      obtain ⟨g6, h⟩ := h
      refine gt_M_13 (n := 38) rfl d_M_rain_35 (by decide) g6 rfl ?_
      refine pv_iload_n (n := 39) d_M_rain_38 rfl rfl rfl ?_
      obtain ⟨g7, h⟩ := h
      refine pv_iald (n := 40) (f := 207) (by decide) rfl d_M_rain_39 (by decide) g7 rfl ?_
      refine pv_iload_n (n := 41) d_M_rain_40 rfl rfl rfl ?_
      refine pv_iadd (n := 42) d_M_rain_41 rfl ?_
      refine pv_nm (fun v8 e9 => ?_)
      replace h := h v8 e9
      refine pv_istore (n := 44) (L' := [(10, 0), (0, a1), (0, a2), (0, a3), (0, v8)]) d_M_rain_42 (by decide) rfl rfl ?_
      refine pv_aload_n (n := 45) d_M_rain_44 rfl rfl rfl ?_
      obtain ⟨g10, h⟩ := h
      refine gt_M_13 (n := 48) rfl d_M_rain_45 (by decide) g10 rfl ?_
      refine pv_iload_n (n := 49) d_M_rain_48 rfl rfl rfl ?_
      refine pv_iload (n := 51) d_M_rain_49 rfl rfl ?_
      refine pv_bipush (v := 100) (n := 53) d_M_rain_51 (by decide) rfl ?_
      refine pv_callS (n := 56) [(0, v8), (0, 100)] [(0, a3), (209, 0)] (con_M_lesser hl0 h) q_468 q_469 q_458 q_467 pyo_M_lesser (by decide) rfl rfl d_M_rain_53 rfl (fun w11 r12 h _ => ?_) (fun _ _ h => h.elim)
      show pw_V l g cx_M_rain Q X 56 [(10, 0), (0, a1), (0, a2), (0, a3), (0, v8)] [(0, r12), (0, a3), (209, 0)] w11
      obtain ⟨g13, h⟩ := h
      refine pv_iast1 (n := 57) (f := 207) (by decide) rfl (fun _ => rfl) d_M_rain_56 (by decide) g13 rfl (fun w14 e15 => ?_)
      replace h := h w14 e15
      refine pv_iload_n (n := 58) d_M_rain_57 rfl rfl rfl ?_
      refine pv_iload (n := 60) d_M_rain_58 rfl rfl ?_
      refine pv_aload_n (n := 61) d_M_rain_60 rfl rfl rfl ?_
      obtain ⟨g16, h⟩ := h
      refine gt_M_13 (n := 64) rfl d_M_rain_61 (by decide) g16 rfl ?_
      refine pv_iload_n (n := 65) d_M_rain_64 rfl rfl rfl ?_
      obtain ⟨g17, h⟩ := h
      refine pv_iald (n := 66) (f := 207) (by decide) rfl d_M_rain_65 (by decide) g17 rfl ?_
      refine pv_isub (n := 67) d_M_rain_66 rfl ?_
      refine pv_iadd (n := 68) d_M_rain_67 rfl ?_
      refine pv_nm (fun v18 e19 => ?_)
      replace h := h v18 e19
      refine pv_istore_n (n := 69) (L' := [(10, 0), (0, a1), (0, v18), (0, a3), (0, v8)]) d_M_rain_68 rfl (by decide) rfl rfl ?_
      refine pv_iinc (v := (a3 + 1)) (n := 72) (L1 := [(10, 0), (0, a1), (0, v18), (0, (a3 + 1)), (0, v8)]) d_M_rain_69 rfl rfl rfl (by decide) rfl ?_
      refine pv_goto (tgt := 28) d_M_rain_72 (by decide) ?_
      refine pv_unset (i := 4) (L1 := [(10, 0), (0, a1), (0, v18), (0, (a3 + 1)), (1, 0)]) rfl ?_
      exact ih _ _ _ _ h
set_option maxHeartbeats 4000000 in
set_option maxRecDepth 20000 in
def jp_M_rain_16 (Q : pw_W → Int32 → Prop) (X : pw_W → Nat → Prop) (a1 s0 : Int32) (w : pw_W) : Prop := wp_M_isFine w s0 (fun w20 r21 => (¬ r21 = 0 → ∃ k23, lp_M_rain_28 Q X k23 a1 0 0 w20) ∧ (r21 = 0 → Q w20 0)) (fun _ _ => False)
set_option maxHeartbeats 4000000 in
set_option maxRecDepth 20000 in
theorem vjp_M_rain_16 {l : Launch} {g : pw_G} {Q : pw_W → Int32 → Prop} {X : pw_W → Nat → Prop} (hl0 : l.stackTraces = false) (a1 s0 : Int32) (w : pw_W) (h : jp_M_rain_16 Q X a1 s0 w) : pw_V l g cx_M_rain Q X 16 [(10, 0), (0, a1), (1, 0), (1, 0), (1, 0)] [(0, s0), (10, 0)] w := by
  unfold jp_M_rain_16 at h
  refine pv_callV (n := 19) (x := 0) [(0, s0)] [] (con_M_isFine hl0 h) pw_cf8 rfl q_506 q_507 q_508 q_458 q_505 pyo_M_isFine (by decide) rfl rfl (by decide) d_M_rain_16 rfl (fun w20 r21 h _ => ?_) (fun _ _ h => h.elim)
  show pw_V l g cx_M_rain Q X 19 [(10, 0), (0, a1), (1, 0), (1, 0), (1, 0)] [(0, r21)] w20
  refine pv_if_ne (n := 22) (tgt := 24) d_M_rain_19 (by decide) rfl (fun c22 => ?_) (fun c22 => ?_)
  · replace h := h.1 c22
    refine pv_iconst (v := 0) (n := 25) d_M_rain_24 (by decide) rfl ?_
    refine pv_istore_n (n := 26) (L' := [(10, 0), (0, a1), (0, 0), (1, 0), (1, 0)]) d_M_rain_25 rfl (by decide) rfl rfl ?_
    refine pv_iconst (v := 0) (n := 27) d_M_rain_26 (by decide) rfl ?_
    refine pv_istore_n (n := 28) (L' := [(10, 0), (0, a1), (0, 0), (0, 0), (1, 0)]) d_M_rain_27 rfl (by decide) rfl rfl ?_
    obtain ⟨k23, h⟩ := h
    exact vlp_M_rain_28 hl0 _ _ _ _ _ h
  · replace h := h.2 c22
    refine pv_iconst (v := 0) (n := 23) d_M_rain_22 (by decide) rfl ?_
    exact pv_iret rfl rfl d_M_rain_23 h
set_option maxHeartbeats 4000000 in
set_option maxRecDepth 20000 in
def wp_M_rain (w : pw_W) (a1 : Int32) (Q : pw_W → Int32 → Prop) (X : pw_W → Nat → Prop) : Prop := wp_M_isIn w a1 1 60 (fun w24 r25 => (r25 = 0 → jp_M_rain_16 Q X a1 1 w24) ∧ (¬ r25 = 0 → jp_M_rain_16 Q X a1 0 w24)) (fun _ _ => False)
set_option maxHeartbeats 4000000 in
set_option maxRecDepth 20000 in
theorem vw_M_rain {l : Launch} {g : pw_G} {Q : pw_W → Int32 → Prop} {X : pw_W → Nat → Prop} (hl0 : l.stackTraces = false) {w : pw_W} {a1 : Int32} (h : wp_M_rain w a1 Q X) : pw_V l g cx_M_rain Q X 0 [(10, 0), (0, a1), (1, 0), (1, 0), (1, 0)] [] w := by
  unfold wp_M_rain at h
  refine pv_aload_n (n := 1) d_M_rain_0 rfl rfl rfl ?_
  refine pv_iload_n (n := 2) d_M_rain_1 rfl rfl rfl ?_
  refine pv_iconst (v := 1) (n := 3) d_M_rain_2 (by decide) rfl ?_
  refine pv_bipush (v := 60) (n := 5) d_M_rain_3 (by decide) rfl ?_
  refine pv_callS (n := 8) [(0, a1), (0, 1), (0, 60)] [(10, 0)] (con_M_isIn hl0 h) q_459 q_460 q_458 q_457 pyo_M_isIn (by decide) rfl rfl d_M_rain_5 rfl (fun w24 r25 h _ => ?_) (fun _ _ h => h.elim)
  show pw_V l g cx_M_rain Q X 8 [(10, 0), (0, a1), (1, 0), (1, 0), (1, 0)] [(0, r25), (10, 0)] w24
  refine pv_if_eq (n := 11) (tgt := 15) d_M_rain_8 (by decide) rfl (fun c26 => ?_) (fun c26 => ?_)
  · replace h := h.1 c26
    refine pv_iconst (v := 1) (n := 16) d_M_rain_15 (by decide) rfl ?_
    exact vjp_M_rain_16 hl0 _ _ _ h
  · replace h := h.2 c26
    refine pv_iconst (v := 0) (n := 12) d_M_rain_11 (by decide) rfl ?_
    refine pv_goto (tgt := 16) d_M_rain_12 (by decide) ?_
    exact vjp_M_rain_16 hl0 _ _ _ h
set_option maxHeartbeats 4000000 in
set_option maxRecDepth 20000 in
theorem con_M_rain {l : Launch} {g : pw_G} {Q : pw_W → Int32 → Prop} {X : pw_W → Nat → Prop} (hl0 : l.stackTraces = false) {w : pw_W} {a1 : Int32} (h : wp_M_rain w a1 Q X) : pw_Con l g y_M_rain cx_M_rain [(10, 0), (0, a1)] w Q X :=
  pw_con (by decide +kernel) rfl rfl hl0 rfl (Nat.le_of_ble_eq_true rfl) (by simp) (vw_M_rain hl0 h)
theorem d_M_areSides_0 : decode (pw_cc cx_M_areSides) 0 = .ok (.iload_n 0, 1) := by decide +kernel
theorem d_M_areSides_1 : decode (pw_cc cx_M_areSides) 1 = .ok (.bipush 10, 2) := by decide +kernel
theorem d_M_areSides_3 : decode (pw_cc cx_M_areSides) 3 = .ok (.irem, 1) := by decide +kernel
theorem d_M_areSides_4 : decode (pw_cc cx_M_areSides) 4 = .ok (.iload_n 1, 1) := by decide +kernel
theorem d_M_areSides_5 : decode (pw_cc cx_M_areSides) 5 = .ok (.bipush 10, 2) := by decide +kernel
theorem d_M_areSides_7 : decode (pw_cc cx_M_areSides) 7 = .ok (.irem, 1) := by decide +kernel
theorem d_M_areSides_8 : decode (pw_cc cx_M_areSides) 8 = .ok (.isub, 1) := by decide +kernel
theorem d_M_areSides_9 : decode (pw_cc cx_M_areSides) 9 = .ok (.istore_n 2, 1) := by decide +kernel
theorem d_M_areSides_10 : decode (pw_cc cx_M_areSides) 10 = .ok (.iload_n 0, 1) := by decide +kernel
theorem d_M_areSides_11 : decode (pw_cc cx_M_areSides) 11 = .ok (.bipush 10, 2) := by decide +kernel
theorem d_M_areSides_13 : decode (pw_cc cx_M_areSides) 13 = .ok (.idiv, 1) := by decide +kernel
theorem d_M_areSides_14 : decode (pw_cc cx_M_areSides) 14 = .ok (.iload_n 1, 1) := by decide +kernel
theorem d_M_areSides_15 : decode (pw_cc cx_M_areSides) 15 = .ok (.bipush 10, 2) := by decide +kernel
theorem d_M_areSides_17 : decode (pw_cc cx_M_areSides) 17 = .ok (.idiv, 1) := by decide +kernel
theorem d_M_areSides_18 : decode (pw_cc cx_M_areSides) 18 = .ok (.isub, 1) := by decide +kernel
theorem d_M_areSides_19 : decode (pw_cc cx_M_areSides) 19 = .ok (.istore_n 3, 1) := by decide +kernel
theorem d_M_areSides_20 : decode (pw_cc cx_M_areSides) 20 = .ok (.iload_n 2, 1) := by decide +kernel
theorem d_M_areSides_21 : decode (pw_cc cx_M_areSides) 21 = .ok (.iload_n 2, 1) := by decide +kernel
theorem d_M_areSides_22 : decode (pw_cc cx_M_areSides) 22 = .ok (.imul, 1) := by decide +kernel
theorem d_M_areSides_23 : decode (pw_cc cx_M_areSides) 23 = .ok (.iload_n 3, 1) := by decide +kernel
theorem d_M_areSides_24 : decode (pw_cc cx_M_areSides) 24 = .ok (.iload_n 3, 1) := by decide +kernel
theorem d_M_areSides_25 : decode (pw_cc cx_M_areSides) 25 = .ok (.imul, 1) := by decide +kernel
theorem d_M_areSides_26 : decode (pw_cc cx_M_areSides) 26 = .ok (.iadd, 1) := by decide +kernel
theorem d_M_areSides_27 : decode (pw_cc cx_M_areSides) 27 = .ok (.iconst 1, 1) := by decide +kernel
theorem d_M_areSides_28 : decode (pw_cc cx_M_areSides) 28 = .ok (.if_icmp .ne 7, 3) := by decide +kernel
theorem d_M_areSides_31 : decode (pw_cc cx_M_areSides) 31 = .ok (.iconst 1, 1) := by decide +kernel
theorem d_M_areSides_32 : decode (pw_cc cx_M_areSides) 32 = .ok (.goto 4, 3) := by decide +kernel
theorem d_M_areSides_35 : decode (pw_cc cx_M_areSides) 35 = .ok (.iconst 0, 1) := by decide +kernel
theorem d_M_areSides_36 : decode (pw_cc cx_M_areSides) 36 = .ok (.ireturn, 1) := by decide +kernel
set_option maxHeartbeats 4000000 in
set_option maxRecDepth 20000 in
def wp_M_areSides (w : pw_W) (a0 a1 : Int32) (Q : pw_W → Int32 → Prop) (X : pw_W → Nat → Prop) : Prop := ∀ v1, v1 = ((a0 - a0 / 10 * 10) - (a1 - a1 / 10 * 10)) → ∀ v3, v3 = ((a0 / 10) - (a1 / 10)) → (¬ ((v1 * v1) + (v3 * v3)) = 1 → Q w 0) ∧ (((v1 * v1) + (v3 * v3)) = 1 → Q w 1)
set_option maxHeartbeats 4000000 in
set_option maxRecDepth 20000 in
theorem vw_M_areSides {l : Launch} {g : pw_G} {Q : pw_W → Int32 → Prop} {X : pw_W → Nat → Prop} (hl0 : l.stackTraces = false) {w : pw_W} {a0 a1 : Int32} (h : wp_M_areSides w a0 a1 Q X) : pw_V l g cx_M_areSides Q X 0 [(0, a0), (0, a1), (1, 0), (1, 0)] [] w := by
  unfold wp_M_areSides at h
  refine pv_iload_n (n := 1) d_M_areSides_0 rfl rfl rfl ?_
  refine pv_bipush (v := 10) (n := 3) d_M_areSides_1 (by decide) rfl ?_
  refine pv_irem (n := 4) d_M_areSides_3 (by decide) rfl ?_
  refine pv_iload_n (n := 5) d_M_areSides_4 rfl rfl rfl ?_
  refine pv_bipush (v := 10) (n := 7) d_M_areSides_5 (by decide) rfl ?_
  refine pv_irem (n := 8) d_M_areSides_7 (by decide) rfl ?_
  refine pv_isub (n := 9) d_M_areSides_8 rfl ?_
  refine pv_nm (fun v1 e2 => ?_)
  replace h := h v1 e2
  refine pv_istore_n (n := 10) (L' := [(0, a0), (0, a1), (0, v1), (1, 0)]) d_M_areSides_9 rfl (by decide) rfl rfl ?_
  refine pv_iload_n (n := 11) d_M_areSides_10 rfl rfl rfl ?_
  refine pv_bipush (v := 10) (n := 13) d_M_areSides_11 (by decide) rfl ?_
  refine pv_idiv (n := 14) d_M_areSides_13 (by decide) rfl ?_
  refine pv_iload_n (n := 15) d_M_areSides_14 rfl rfl rfl ?_
  refine pv_bipush (v := 10) (n := 17) d_M_areSides_15 (by decide) rfl ?_
  refine pv_idiv (n := 18) d_M_areSides_17 (by decide) rfl ?_
  refine pv_isub (n := 19) d_M_areSides_18 rfl ?_
  refine pv_nm (fun v3 e4 => ?_)
  replace h := h v3 e4
  refine pv_istore_n (n := 20) (L' := [(0, a0), (0, a1), (0, v1), (0, v3)]) d_M_areSides_19 rfl (by decide) rfl rfl ?_
  refine pv_iload_n (n := 21) d_M_areSides_20 rfl rfl rfl ?_
  refine pv_iload_n (n := 22) d_M_areSides_21 rfl rfl rfl ?_
  refine pv_imul (n := 23) d_M_areSides_22 rfl ?_
  refine pv_iload_n (n := 24) d_M_areSides_23 rfl rfl rfl ?_
  refine pv_iload_n (n := 25) d_M_areSides_24 rfl rfl rfl ?_
  refine pv_imul (n := 26) d_M_areSides_25 rfl ?_
  refine pv_iadd (n := 27) d_M_areSides_26 rfl ?_
  refine pv_iconst (v := 1) (n := 28) d_M_areSides_27 (by decide) rfl ?_
  refine pv_icmp_ne (n := 31) (tgt := 35) d_M_areSides_28 (by decide) rfl (fun c5 => ?_) (fun c5 => ?_)
  · replace h := h.1 c5
    refine pv_iconst (v := 0) (n := 36) d_M_areSides_35 (by decide) rfl ?_
    exact pv_zret rfl rfl d_M_areSides_36 (by decide) h
  · replace h := h.2 c5
    refine pv_iconst (v := 1) (n := 32) d_M_areSides_31 (by decide) rfl ?_
    refine pv_goto (tgt := 36) d_M_areSides_32 (by decide) ?_
    exact pv_zret rfl rfl d_M_areSides_36 (by decide) h
set_option maxHeartbeats 4000000 in
set_option maxRecDepth 20000 in
theorem con_M_areSides {l : Launch} {g : pw_G} {Q : pw_W → Int32 → Prop} {X : pw_W → Nat → Prop} (hl0 : l.stackTraces = false) {w : pw_W} {a0 a1 : Int32} (h : wp_M_areSides w a0 a1 Q X) : pw_Con l g y_M_areSides cx_M_areSides [(0, a0), (0, a1)] w Q X :=
  pw_con (by decide +kernel) rfl rfl hl0 rfl (Nat.le_of_ble_eq_true rfl) (by simp) (vw_M_areSides hl0 h)
theorem d_M_isDrain_0 : decode (pw_cc cx_M_isDrain) 0 = .ok (.iconst 0, 1) := by decide +kernel
theorem d_M_isDrain_1 : decode (pw_cc cx_M_isDrain) 1 = .ok (.istore_n 3, 1) := by decide +kernel
theorem d_M_isDrain_2 : decode (pw_cc cx_M_isDrain) 2 = .ok (.iconst 0, 1) := by decide +kernel
theorem d_M_isDrain_3 : decode (pw_cc cx_M_isDrain) 3 = .ok (.istore 4, 2) := by decide +kernel
theorem d_M_isDrain_5 : decode (pw_cc cx_M_isDrain) 5 = .ok (.iload 4, 2) := by decide +kernel
theorem d_M_isDrain_7 : decode (pw_cc cx_M_isDrain) 7 = .ok (.aload_n 0, 1) := by decide +kernel
theorem d_M_isDrain_8 : decode (pw_cc cx_M_isDrain) 8 = .ok (.getfield 245, 3) := by decide +kernel
theorem d_M_isDrain_11 : decode (pw_cc cx_M_isDrain) 11 = .ok (.if_icmp .ge 41, 3) := by decide +kernel
theorem d_M_isDrain_14 : decode (pw_cc cx_M_isDrain) 14 = .ok (.iload_n 3, 1) := by decide +kernel
theorem d_M_isDrain_15 : decode (pw_cc cx_M_isDrain) 15 = .ok (.ifCond .ne 25, 3) := by decide +kernel
theorem d_M_isDrain_18 : decode (pw_cc cx_M_isDrain) 18 = .ok (.aload_n 0, 1) := by decide +kernel
theorem d_M_isDrain_19 : decode (pw_cc cx_M_isDrain) 19 = .ok (.getfield 98, 3) := by decide +kernel
theorem d_M_isDrain_22 : decode (pw_cc cx_M_isDrain) 22 = .ok (.iload 4, 2) := by decide +kernel
theorem d_M_isDrain_24 : decode (pw_cc cx_M_isDrain) 24 = .ok (.iaload, 1) := by decide +kernel
theorem d_M_isDrain_25 : decode (pw_cc cx_M_isDrain) 25 = .ok (.iload_n 1, 1) := by decide +kernel
theorem d_M_isDrain_26 : decode (pw_cc cx_M_isDrain) 26 = .ok (.if_icmp .ne 18, 3) := by decide +kernel
theorem d_M_isDrain_29 : decode (pw_cc cx_M_isDrain) 29 = .ok (.aload_n 0, 1) := by decide +kernel
theorem d_M_isDrain_30 : decode (pw_cc cx_M_isDrain) 30 = .ok (.getfield 101, 3) := by decide +kernel
theorem d_M_isDrain_33 : decode (pw_cc cx_M_isDrain) 33 = .ok (.iload 4, 2) := by decide +kernel
theorem d_M_isDrain_35 : decode (pw_cc cx_M_isDrain) 35 = .ok (.iaload, 1) := by decide +kernel
theorem d_M_isDrain_36 : decode (pw_cc cx_M_isDrain) 36 = .ok (.iload_n 2, 1) := by decide +kernel
theorem d_M_isDrain_37 : decode (pw_cc cx_M_isDrain) 37 = .ok (.if_icmp .ne 7, 3) := by decide +kernel
theorem d_M_isDrain_40 : decode (pw_cc cx_M_isDrain) 40 = .ok (.iconst 1, 1) := by decide +kernel
theorem d_M_isDrain_41 : decode (pw_cc cx_M_isDrain) 41 = .ok (.goto 4, 3) := by decide +kernel
theorem d_M_isDrain_44 : decode (pw_cc cx_M_isDrain) 44 = .ok (.iconst 0, 1) := by decide +kernel
theorem d_M_isDrain_45 : decode (pw_cc cx_M_isDrain) 45 = .ok (.istore_n 3, 1) := by decide +kernel
theorem d_M_isDrain_46 : decode (pw_cc cx_M_isDrain) 46 = .ok (.iinc 4 1, 3) := by decide +kernel
theorem d_M_isDrain_49 : decode (pw_cc cx_M_isDrain) 49 = .ok (.goto (-44), 3) := by decide +kernel
theorem d_M_isDrain_52 : decode (pw_cc cx_M_isDrain) 52 = .ok (.iload_n 3, 1) := by decide +kernel
theorem d_M_isDrain_53 : decode (pw_cc cx_M_isDrain) 53 = .ok (.ireturn, 1) := by decide +kernel
set_option maxHeartbeats 4000000 in
set_option maxRecDepth 20000 in
def lp_M_isDrain_5 (Q : pw_W → Int32 → Prop) (X : pw_W → Nat → Prop) : Nat → Int32 → Int32 → Int32 → Int32 → pw_W → Prop := fun k => Nat.rec (motive := fun _ => Int32 → Int32 → Int32 → Int32 → pw_W → Prop) (fun _ _ _ _ _ => False) (fun _ ih a1 a2 a3 a4 w => ((w.1 8 0 41) ≤ a4 → (a3 = 0 ∨ a3 = 1) ∧ Q w a3) ∧ (¬ (w.1 8 0 41) ≤ a4 → (¬ a3 = 0 → ih a1 a2 1 (a4 + 1) w) ∧ (a3 = 0 → w.1 8 0 39 = 0 ∧ pw_jn a4 (pw_ln w 239 0) ∧ (¬ (w.1 239 0 (pw_i a4)) = a1 → ih a1 a2 0 (a4 + 1) w) ∧ ((w.1 239 0 (pw_i a4)) = a1 → w.1 8 0 40 = 0 ∧ pw_jn a4 (pw_ln w 240 0) ∧ (¬ (w.1 240 0 (pw_i a4)) = a2 → ih a1 a2 0 (a4 + 1) w) ∧ ((w.1 240 0 (pw_i a4)) = a2 → ih a1 a2 1 (a4 + 1) w))))) k
set_option maxHeartbeats 4000000 in
set_option maxRecDepth 20000 in
theorem lp_M_isDrain_5_s {Q : pw_W → Int32 → Prop} {X : pw_W → Nat → Prop}  {k : Nat} {a1 a2 a3 a4 : Int32} {w : pw_W} : lp_M_isDrain_5 Q X (k + 1) a1 a2 a3 a4 w = (let ih := lp_M_isDrain_5 Q X k; ((w.1 8 0 41) ≤ a4 → (a3 = 0 ∨ a3 = 1) ∧ Q w a3) ∧ (¬ (w.1 8 0 41) ≤ a4 → (¬ a3 = 0 → ih a1 a2 1 (a4 + 1) w) ∧ (a3 = 0 → w.1 8 0 39 = 0 ∧ pw_jn a4 (pw_ln w 239 0) ∧ (¬ (w.1 239 0 (pw_i a4)) = a1 → ih a1 a2 0 (a4 + 1) w) ∧ ((w.1 239 0 (pw_i a4)) = a1 → w.1 8 0 40 = 0 ∧ pw_jn a4 (pw_ln w 240 0) ∧ (¬ (w.1 240 0 (pw_i a4)) = a2 → ih a1 a2 0 (a4 + 1) w) ∧ ((w.1 240 0 (pw_i a4)) = a2 → ih a1 a2 1 (a4 + 1) w))))) := rfl
set_option maxHeartbeats 4000000 in
set_option maxRecDepth 20000 in
theorem vlp_M_isDrain_5 {l : Launch} {g : pw_G} {Q : pw_W → Int32 → Prop} {X : pw_W → Nat → Prop} (hl0 : l.stackTraces = false) : ∀ (k : Nat) (a1 a2 a3 a4 : Int32) (w : pw_W), lp_M_isDrain_5 Q X k a1 a2 a3 a4 w → pw_V l g cx_M_isDrain Q X 5 [(10, 0), (0, a1), (0, a2), (0, a3), (0, a4)] [] w := by
  intro k; induction k with
  | zero => intro _ _ _ _ _ h; exact h.elim
  | succ k ih =>
    intro a1 a2 a3 a4 w h
    rw [lp_M_isDrain_5_s] at h
    refine pv_iload (n := 7) d_M_isDrain_5 rfl rfl ?_
    refine pv_aload_n (n := 8) d_M_isDrain_7 rfl rfl rfl ?_
    refine gt_M_245 (n := 11) rfl d_M_isDrain_8 (by decide) rfl ?_
    refine pv_icmp_ge (n := 14) (tgt := 52) d_M_isDrain_11 (by decide) rfl (fun c1 => ?_) (fun c1 => ?_)
    · replace h := h.1 c1
      refine pv_iload_n (n := 53) d_M_isDrain_52 rfl rfl rfl ?_
      obtain ⟨g2, h⟩ := h
      exact pv_zret rfl rfl d_M_isDrain_53 g2 h
    · replace h := h.2 c1
      refine pv_iload_n (n := 15) d_M_isDrain_14 rfl rfl rfl ?_
      refine pv_if_ne (n := 18) (tgt := 40) d_M_isDrain_15 (by decide) rfl (fun c3 => ?_) (fun c3 => ?_)
      · replace h := h.1 c3
        refine pv_iconst (v := 1) (n := 41) d_M_isDrain_40 (by decide) rfl ?_
        refine pv_goto (tgt := 45) d_M_isDrain_41 (by decide) ?_
        refine pv_istore_n (n := 46) (L' := [(10, 0), (0, a1), (0, a2), (0, 1), (0, a4)]) d_M_isDrain_45 rfl (by decide) rfl rfl ?_
        refine pv_iinc (v := (a4 + 1)) (n := 49) (L1 := [(10, 0), (0, a1), (0, a2), (0, 1), (0, (a4 + 1))]) d_M_isDrain_46 rfl rfl rfl (by decide) rfl ?_
        refine pv_goto (tgt := 5) d_M_isDrain_49 (by decide) ?_
        exact ih _ _ _ _ _ h
      · replace h := h.2 c3
        refine pv_aload_n (n := 19) d_M_isDrain_18 rfl rfl rfl ?_
        obtain ⟨g4, h⟩ := h
        refine gt_M_98 (n := 22) rfl d_M_isDrain_19 (by decide) g4 rfl ?_
        refine pv_iload (n := 24) d_M_isDrain_22 rfl rfl ?_
        obtain ⟨g5, h⟩ := h
        refine pv_iald (n := 25) (f := 239) (by decide) rfl d_M_isDrain_24 (by decide) g5 rfl ?_
        refine pv_iload_n (n := 26) d_M_isDrain_25 rfl rfl rfl ?_
        refine pv_icmp_ne (n := 29) (tgt := 44) d_M_isDrain_26 (by decide) rfl (fun c6 => ?_) (fun c6 => ?_)
        · replace h := h.1 c6
          refine pv_iconst (v := 0) (n := 45) d_M_isDrain_44 (by decide) rfl ?_
          refine pv_istore_n (n := 46) (L' := [(10, 0), (0, a1), (0, a2), (0, 0), (0, a4)]) d_M_isDrain_45 rfl (by decide) rfl rfl ?_
          refine pv_iinc (v := (a4 + 1)) (n := 49) (L1 := [(10, 0), (0, a1), (0, a2), (0, 0), (0, (a4 + 1))]) d_M_isDrain_46 rfl rfl rfl (by decide) rfl ?_
          refine pv_goto (tgt := 5) d_M_isDrain_49 (by decide) ?_
          exact ih _ _ _ _ _ h
        · replace h := h.2 c6
          refine pv_aload_n (n := 30) d_M_isDrain_29 rfl rfl rfl ?_
          obtain ⟨g7, h⟩ := h
          refine gt_M_101 (n := 33) rfl d_M_isDrain_30 (by decide) g7 rfl ?_
          refine pv_iload (n := 35) d_M_isDrain_33 rfl rfl ?_
          obtain ⟨g8, h⟩ := h
          refine pv_iald (n := 36) (f := 240) (by decide) rfl d_M_isDrain_35 (by decide) g8 rfl ?_
          refine pv_iload_n (n := 37) d_M_isDrain_36 rfl rfl rfl ?_
          refine pv_icmp_ne (n := 40) (tgt := 44) d_M_isDrain_37 (by decide) rfl (fun c9 => ?_) (fun c9 => ?_)
          · replace h := h.1 c9
            refine pv_iconst (v := 0) (n := 45) d_M_isDrain_44 (by decide) rfl ?_
            refine pv_istore_n (n := 46) (L' := [(10, 0), (0, a1), (0, a2), (0, 0), (0, a4)]) d_M_isDrain_45 rfl (by decide) rfl rfl ?_
            refine pv_iinc (v := (a4 + 1)) (n := 49) (L1 := [(10, 0), (0, a1), (0, a2), (0, 0), (0, (a4 + 1))]) d_M_isDrain_46 rfl rfl rfl (by decide) rfl ?_
            refine pv_goto (tgt := 5) d_M_isDrain_49 (by decide) ?_
            exact ih _ _ _ _ _ h
          · replace h := h.2 c9
            refine pv_iconst (v := 1) (n := 41) d_M_isDrain_40 (by decide) rfl ?_
            refine pv_goto (tgt := 45) d_M_isDrain_41 (by decide) ?_
            refine pv_istore_n (n := 46) (L' := [(10, 0), (0, a1), (0, a2), (0, 1), (0, a4)]) d_M_isDrain_45 rfl (by decide) rfl rfl ?_
            refine pv_iinc (v := (a4 + 1)) (n := 49) (L1 := [(10, 0), (0, a1), (0, a2), (0, 1), (0, (a4 + 1))]) d_M_isDrain_46 rfl rfl rfl (by decide) rfl ?_
            refine pv_goto (tgt := 5) d_M_isDrain_49 (by decide) ?_
            exact ih _ _ _ _ _ h
set_option maxHeartbeats 4000000 in
set_option maxRecDepth 20000 in
def wp_M_isDrain (w : pw_W) (a1 a2 : Int32) (Q : pw_W → Int32 → Prop) (X : pw_W → Nat → Prop) : Prop := ∃ k10, lp_M_isDrain_5 Q X k10 a1 a2 0 0 w
set_option maxHeartbeats 4000000 in
set_option maxRecDepth 20000 in
theorem vw_M_isDrain {l : Launch} {g : pw_G} {Q : pw_W → Int32 → Prop} {X : pw_W → Nat → Prop} (hl0 : l.stackTraces = false) {w : pw_W} {a1 a2 : Int32} (h : wp_M_isDrain w a1 a2 Q X) : pw_V l g cx_M_isDrain Q X 0 [(10, 0), (0, a1), (0, a2), (1, 0), (1, 0)] [] w := by
  unfold wp_M_isDrain at h
  refine pv_iconst (v := 0) (n := 1) d_M_isDrain_0 (by decide) rfl ?_
  refine pv_istore_n (n := 2) (L' := [(10, 0), (0, a1), (0, a2), (0, 0), (1, 0)]) d_M_isDrain_1 rfl (by decide) rfl rfl ?_
  refine pv_iconst (v := 0) (n := 3) d_M_isDrain_2 (by decide) rfl ?_
  refine pv_istore (n := 5) (L' := [(10, 0), (0, a1), (0, a2), (0, 0), (0, 0)]) d_M_isDrain_3 (by decide) rfl rfl ?_
  obtain ⟨k10, h⟩ := h
  exact vlp_M_isDrain_5 hl0 _ _ _ _ _ _ h
set_option maxHeartbeats 4000000 in
set_option maxRecDepth 20000 in
theorem con_M_isDrain {l : Launch} {g : pw_G} {Q : pw_W → Int32 → Prop} {X : pw_W → Nat → Prop} (hl0 : l.stackTraces = false) {w : pw_W} {a1 a2 : Int32} (h : wp_M_isDrain w a1 a2 Q X) : pw_Con l g y_M_isDrain cx_M_isDrain [(10, 0), (0, a1), (0, a2)] w Q X :=
  pw_con (by decide +kernel) rfl rfl hl0 rfl (Nat.le_of_ble_eq_true rfl) (by simp) (vw_M_isDrain hl0 h)
theorem d_M_dig_0 : decode (pw_cc cx_M_dig) 0 = .ok (.iload_n 1, 1) := by decide +kernel
theorem d_M_dig_1 : decode (pw_cc cx_M_dig) 1 = .ok (.invokestatic 163, 3) := by decide +kernel
theorem d_M_dig_4 : decode (pw_cc cx_M_dig) 4 = .ok (.ifCond .eq 14, 3) := by decide +kernel
theorem d_M_dig_7 : decode (pw_cc cx_M_dig) 7 = .ok (.iload_n 2, 1) := by decide +kernel
theorem d_M_dig_8 : decode (pw_cc cx_M_dig) 8 = .ok (.invokestatic 163, 3) := by decide +kernel
theorem d_M_dig_11 : decode (pw_cc cx_M_dig) 11 = .ok (.ifCond .eq 7, 3) := by decide +kernel
theorem d_M_dig_14 : decode (pw_cc cx_M_dig) 14 = .ok (.iconst 1, 1) := by decide +kernel
theorem d_M_dig_15 : decode (pw_cc cx_M_dig) 15 = .ok (.goto 4, 3) := by decide +kernel
theorem d_M_dig_18 : decode (pw_cc cx_M_dig) 18 = .ok (.iconst 0, 1) := by decide +kernel
theorem d_M_dig_19 : decode (pw_cc cx_M_dig) 19 = .ok (.istore_n 3, 1) := by decide +kernel
theorem d_M_dig_20 : decode (pw_cc cx_M_dig) 20 = .ok (.aload_n 0, 1) := by decide +kernel
theorem d_M_dig_21 : decode (pw_cc cx_M_dig) 21 = .ok (.iload_n 3, 1) := by decide +kernel
theorem d_M_dig_22 : decode (pw_cc cx_M_dig) 22 = .ok (.ifCond .ne 7, 3) := by decide +kernel
theorem d_M_dig_25 : decode (pw_cc cx_M_dig) 25 = .ok (.iconst 1, 1) := by decide +kernel
theorem d_M_dig_26 : decode (pw_cc cx_M_dig) 26 = .ok (.goto 38, 3) := by decide +kernel
theorem d_M_dig_29 : decode (pw_cc cx_M_dig) 29 = .ok (.iload_n 1, 1) := by decide +kernel
theorem d_M_dig_30 : decode (pw_cc cx_M_dig) 30 = .ok (.iload_n 2, 1) := by decide +kernel
theorem d_M_dig_31 : decode (pw_cc cx_M_dig) 31 = .ok (.invokestatic 248, 3) := by decide +kernel
theorem d_M_dig_34 : decode (pw_cc cx_M_dig) 34 = .ok (.ifCond .ne 7, 3) := by decide +kernel
theorem d_M_dig_37 : decode (pw_cc cx_M_dig) 37 = .ok (.iconst 2, 1) := by decide +kernel
theorem d_M_dig_38 : decode (pw_cc cx_M_dig) 38 = .ok (.goto 26, 3) := by decide +kernel
theorem d_M_dig_41 : decode (pw_cc cx_M_dig) 41 = .ok (.aload_n 0, 1) := by decide +kernel
theorem d_M_dig_42 : decode (pw_cc cx_M_dig) 42 = .ok (.iload_n 1, 1) := by decide +kernel
theorem d_M_dig_43 : decode (pw_cc cx_M_dig) 43 = .ok (.iload_n 2, 1) := by decide +kernel
theorem d_M_dig_44 : decode (pw_cc cx_M_dig) 44 = .ok (.invokevirtual 251, 3) := by decide +kernel
theorem d_M_dig_47 : decode (pw_cc cx_M_dig) 47 = .ok (.ifCond .ne 12, 3) := by decide +kernel
theorem d_M_dig_50 : decode (pw_cc cx_M_dig) 50 = .ok (.aload_n 0, 1) := by decide +kernel
theorem d_M_dig_51 : decode (pw_cc cx_M_dig) 51 = .ok (.getfield 245, 3) := by decide +kernel
theorem d_M_dig_54 : decode (pw_cc cx_M_dig) 54 = .ok (.bipush 20, 2) := by decide +kernel
theorem d_M_dig_56 : decode (pw_cc cx_M_dig) 56 = .ok (.if_icmp .ne 7, 3) := by decide +kernel
theorem d_M_dig_59 : decode (pw_cc cx_M_dig) 59 = .ok (.iconst 3, 1) := by decide +kernel
theorem d_M_dig_60 : decode (pw_cc cx_M_dig) 60 = .ok (.goto 4, 3) := by decide +kernel
theorem d_M_dig_63 : decode (pw_cc cx_M_dig) 63 = .ok (.iconst 0, 1) := by decide +kernel
theorem d_M_dig_64 : decode (pw_cc cx_M_dig) 64 = .ok (.invokevirtual 179, 3) := by decide +kernel
theorem d_M_dig_67 : decode (pw_cc cx_M_dig) 67 = .ok (.ifCond .ne 5, 3) := by decide +kernel
theorem d_M_dig_70 : decode (pw_cc cx_M_dig) 70 = .ok (.iconst 0, 1) := by decide +kernel
theorem d_M_dig_71 : decode (pw_cc cx_M_dig) 71 = .ok (.ireturn, 1) := by decide +kernel
theorem d_M_dig_72 : decode (pw_cc cx_M_dig) 72 = .ok (.aload_n 0, 1) := by decide +kernel
theorem d_M_dig_73 : decode (pw_cc cx_M_dig) 73 = .ok (.getfield 98, 3) := by decide +kernel
theorem d_M_dig_76 : decode (pw_cc cx_M_dig) 76 = .ok (.aload_n 0, 1) := by decide +kernel
theorem d_M_dig_77 : decode (pw_cc cx_M_dig) 77 = .ok (.getfield 245, 3) := by decide +kernel
theorem d_M_dig_80 : decode (pw_cc cx_M_dig) 80 = .ok (.iload_n 1, 1) := by decide +kernel
theorem d_M_dig_81 : decode (pw_cc cx_M_dig) 81 = .ok (.iastore, 1) := by decide +kernel
theorem d_M_dig_82 : decode (pw_cc cx_M_dig) 82 = .ok (.aload_n 0, 1) := by decide +kernel
theorem d_M_dig_83 : decode (pw_cc cx_M_dig) 83 = .ok (.getfield 101, 3) := by decide +kernel
theorem d_M_dig_86 : decode (pw_cc cx_M_dig) 86 = .ok (.aload_n 0, 1) := by decide +kernel
theorem d_M_dig_87 : decode (pw_cc cx_M_dig) 87 = .ok (.getfield 245, 3) := by decide +kernel
theorem d_M_dig_90 : decode (pw_cc cx_M_dig) 90 = .ok (.iload_n 2, 1) := by decide +kernel
theorem d_M_dig_91 : decode (pw_cc cx_M_dig) 91 = .ok (.iastore, 1) := by decide +kernel
theorem d_M_dig_92 : decode (pw_cc cx_M_dig) 92 = .ok (.aload_n 0, 1) := by decide +kernel
theorem d_M_dig_93 : decode (pw_cc cx_M_dig) 93 = .ok (.dup, 1) := by decide +kernel
theorem d_M_dig_94 : decode (pw_cc cx_M_dig) 94 = .ok (.getfield 245, 3) := by decide +kernel
theorem d_M_dig_97 : decode (pw_cc cx_M_dig) 97 = .ok (.iconst 1, 1) := by decide +kernel
theorem d_M_dig_98 : decode (pw_cc cx_M_dig) 98 = .ok (.iadd, 1) := by decide +kernel
theorem d_M_dig_99 : decode (pw_cc cx_M_dig) 99 = .ok (.putfield 245, 3) := by decide +kernel
theorem d_M_dig_102 : decode (pw_cc cx_M_dig) 102 = .ok (.aload_n 0, 1) := by decide +kernel
theorem d_M_dig_103 : decode (pw_cc cx_M_dig) 103 = .ok (.getfield 245, 3) := by decide +kernel
theorem d_M_dig_106 : decode (pw_cc cx_M_dig) 106 = .ok (.ireturn, 1) := by decide +kernel
set_option maxHeartbeats 4000000 in
set_option maxRecDepth 20000 in
def jp_M_dig_64 (Q : pw_W → Int32 → Prop) (X : pw_W → Nat → Prop) (a1 a2 s0 : Int32) (w : pw_W) : Prop := wp_M_isFine w s0 (fun w1 r2 => (¬ r2 = 0 → w1.1 8 0 39 = 0 ∧ pw_jn (w1.1 8 0 41) (pw_ln w1 239 0) ∧ ∀ w6, w6 = pw_ps w1 239 0 (pw_i (w1.1 8 0 41)) a1 → w6.1 8 0 40 = 0 ∧ pw_jn (w6.1 8 0 41) (pw_ln w6 240 0) ∧ ∀ w10, w10 = pw_ps w6 240 0 (pw_i (w6.1 8 0 41)) a2 → ∀ w12, w12 = pw_ps w10 8 0 41 ((w10.1 8 0 41) + 1) → Q w12 (w12.1 8 0 41)) ∧ (r2 = 0 → Q w1 0)) (fun _ _ => False)
set_option maxHeartbeats 4000000 in
set_option maxRecDepth 20000 in
theorem vjp_M_dig_64 {l : Launch} {g : pw_G} {Q : pw_W → Int32 → Prop} {X : pw_W → Nat → Prop} (hl0 : l.stackTraces = false) (a1 a2 s0 : Int32) (w : pw_W) (h : jp_M_dig_64 Q X a1 a2 s0 w) : pw_V l g cx_M_dig Q X 64 [(10, 0), (0, a1), (0, a2), (1, 0)] [(0, s0), (10, 0)] w := by
  unfold jp_M_dig_64 at h
  refine pv_callV (n := 67) (x := 0) [(0, s0)] [] (con_M_isFine hl0 h) pw_cf8 rfl q_506 q_507 q_508 q_458 q_505 pyo_M_isFine (by decide) rfl rfl (by decide) d_M_dig_64 rfl (fun w1 r2 h _ => ?_) (fun _ _ h => h.elim)
  show pw_V l g cx_M_dig Q X 67 [(10, 0), (0, a1), (0, a2), (1, 0)] [(0, r2)] w1
  refine pv_if_ne (n := 70) (tgt := 72) d_M_dig_67 (by decide) rfl (fun c3 => ?_) (fun c3 => ?_)
  · replace h := h.1 c3
    refine pv_aload_n (n := 73) d_M_dig_72 rfl rfl rfl ?_
    obtain ⟨g4, h⟩ := h
    refine gt_M_98 (n := 76) rfl d_M_dig_73 (by decide) g4 rfl ?_
    refine pv_aload_n (n := 77) d_M_dig_76 rfl rfl rfl ?_
    refine gt_M_245 (n := 80) rfl d_M_dig_77 (by decide) rfl ?_
    refine pv_iload_n (n := 81) d_M_dig_80 rfl rfl rfl ?_
    obtain ⟨g5, h⟩ := h
    refine pv_iast1 (n := 82) (f := 239) (by decide) rfl (fun _ => rfl) d_M_dig_81 (by decide) g5 rfl (fun w6 e7 => ?_)
    replace h := h w6 e7
    refine pv_aload_n (n := 83) d_M_dig_82 rfl rfl rfl ?_
    obtain ⟨g8, h⟩ := h
    refine gt_M_101 (n := 86) rfl d_M_dig_83 (by decide) g8 rfl ?_
    refine pv_aload_n (n := 87) d_M_dig_86 rfl rfl rfl ?_
    refine gt_M_245 (n := 90) rfl d_M_dig_87 (by decide) rfl ?_
    refine pv_iload_n (n := 91) d_M_dig_90 rfl rfl rfl ?_
    obtain ⟨g9, h⟩ := h
    refine pv_iast1 (n := 92) (f := 240) (by decide) rfl (fun _ => rfl) d_M_dig_91 (by decide) g9 rfl (fun w10 e11 => ?_)
    replace h := h w10 e11
    refine pv_aload_n (n := 93) d_M_dig_92 rfl rfl rfl ?_
    refine pv_dup (n := 94) d_M_dig_93 (by decide) rfl ?_
    refine gt_M_245 (n := 97) rfl d_M_dig_94 (by decide) rfl ?_
    refine pv_iconst (v := 1) (n := 98) d_M_dig_97 (by decide) rfl ?_
    refine pv_iadd (n := 99) d_M_dig_98 rfl ?_
    refine pt_M_245 (n := 102) rfl d_M_dig_99 (by decide) rfl (fun w12 e13 => ?_)
    replace h := h w12 e13
    refine pv_aload_n (n := 103) d_M_dig_102 rfl rfl rfl ?_
    refine gt_M_245 (n := 106) rfl d_M_dig_103 (by decide) rfl ?_
    exact pv_iret rfl rfl d_M_dig_106 h
  · replace h := h.2 c3
    refine pv_iconst (v := 0) (n := 71) d_M_dig_70 (by decide) rfl ?_
    exact pv_iret rfl rfl d_M_dig_71 h
set_option maxHeartbeats 4000000 in
set_option maxRecDepth 20000 in
def jp_M_dig_59 (Q : pw_W → Int32 → Prop) (X : pw_W → Nat → Prop) (a1 a2 : Int32) (w : pw_W) : Prop := jp_M_dig_64 Q X a1 a2 3 w
set_option maxHeartbeats 4000000 in
set_option maxRecDepth 20000 in
theorem vjp_M_dig_59 {l : Launch} {g : pw_G} {Q : pw_W → Int32 → Prop} {X : pw_W → Nat → Prop} (hl0 : l.stackTraces = false) (a1 a2 : Int32) (w : pw_W) (h : jp_M_dig_59 Q X a1 a2 w) : pw_V l g cx_M_dig Q X 59 [(10, 0), (0, a1), (0, a2), (1, 0)] [(10, 0)] w := by
  unfold jp_M_dig_59 at h
  refine pv_iconst (v := 3) (n := 60) d_M_dig_59 (by decide) rfl ?_
  refine pv_goto (tgt := 64) d_M_dig_60 (by decide) ?_
  exact vjp_M_dig_64 hl0 _ _ _ _ h
set_option maxHeartbeats 4000000 in
set_option maxRecDepth 20000 in
def jp_M_dig_19 (Q : pw_W → Int32 → Prop) (X : pw_W → Nat → Prop) (a1 a2 s0 : Int32) (w : pw_W) : Prop := (¬ s0 = 0 → wp_M_areSides w a1 a2 (fun w15 r16 => (¬ r16 = 0 → wp_M_isDrain w15 a1 a2 (fun w18 r19 => (¬ r19 = 0 → jp_M_dig_59 Q X a1 a2 w18) ∧ (r19 = 0 → (¬ (w18.1 8 0 41) = 20 → jp_M_dig_64 Q X a1 a2 0 w18) ∧ ((w18.1 8 0 41) = 20 → jp_M_dig_59 Q X a1 a2 w18))) (fun _ _ => False)) ∧ (r16 = 0 → jp_M_dig_64 Q X a1 a2 2 w15)) (fun _ _ => False)) ∧ (s0 = 0 → jp_M_dig_64 Q X a1 a2 1 w)
set_option maxHeartbeats 4000000 in
set_option maxRecDepth 20000 in
theorem vjp_M_dig_19 {l : Launch} {g : pw_G} {Q : pw_W → Int32 → Prop} {X : pw_W → Nat → Prop} (hl0 : l.stackTraces = false) (a1 a2 s0 : Int32) (w : pw_W) (h : jp_M_dig_19 Q X a1 a2 s0 w) : pw_V l g cx_M_dig Q X 19 [(10, 0), (0, a1), (0, a2), (1, 0)] [(0, s0)] w := by
  unfold jp_M_dig_19 at h
  refine pv_istore_n (n := 20) (L' := [(10, 0), (0, a1), (0, a2), (0, s0)]) d_M_dig_19 rfl (by decide) rfl rfl ?_
  refine pv_aload_n (n := 21) d_M_dig_20 rfl rfl rfl ?_
  refine pv_iload_n (n := 22) d_M_dig_21 rfl rfl rfl ?_
  refine pv_if_ne (n := 25) (tgt := 29) d_M_dig_22 (by decide) rfl (fun c14 => ?_) (fun c14 => ?_)
  · replace h := h.1 c14
    refine pv_iload_n (n := 30) d_M_dig_29 rfl rfl rfl ?_
    refine pv_iload_n (n := 31) d_M_dig_30 rfl rfl rfl ?_
    refine pv_callS (n := 34) [(0, a1), (0, a2)] [(10, 0)] (con_M_areSides hl0 h) q_588 q_589 q_458 q_587 pyo_M_areSides (by decide) rfl rfl d_M_dig_31 rfl (fun w15 r16 h _ => ?_) (fun _ _ h => h.elim)
    show pw_V l g cx_M_dig Q X 34 [(10, 0), (0, a1), (0, a2), (0, s0)] [(0, r16), (10, 0)] w15
    refine pv_if_ne (n := 37) (tgt := 41) d_M_dig_34 (by decide) rfl (fun c17 => ?_) (fun c17 => ?_)
    · replace h := h.1 c17
      refine pv_aload_n (n := 42) d_M_dig_41 rfl rfl rfl ?_
      refine pv_iload_n (n := 43) d_M_dig_42 rfl rfl rfl ?_
      refine pv_iload_n (n := 44) d_M_dig_43 rfl rfl rfl ?_
      refine pv_callV (n := 47) (x := 0) [(0, a1), (0, a2)] [(10, 0)] (con_M_isDrain hl0 h) pw_cf8 rfl q_584 q_585 q_586 q_458 q_583 pyo_M_isDrain (by decide) rfl rfl (by decide) d_M_dig_44 rfl (fun w18 r19 h _ => ?_) (fun _ _ h => h.elim)
      show pw_V l g cx_M_dig Q X 47 [(10, 0), (0, a1), (0, a2), (0, s0)] [(0, r19), (10, 0)] w18
      refine pv_if_ne (n := 50) (tgt := 59) d_M_dig_47 (by decide) rfl (fun c20 => ?_) (fun c20 => ?_)
      · replace h := h.1 c20
        refine pv_unset (i := 3) (L1 := [(10, 0), (0, a1), (0, a2), (1, 0)]) rfl ?_
        exact vjp_M_dig_59 hl0 _ _ _ h
      · replace h := h.2 c20
        refine pv_aload_n (n := 51) d_M_dig_50 rfl rfl rfl ?_
        refine gt_M_245 (n := 54) rfl d_M_dig_51 (by decide) rfl ?_
        refine pv_bipush (v := 20) (n := 56) d_M_dig_54 (by decide) rfl ?_
        refine pv_icmp_ne (n := 59) (tgt := 63) d_M_dig_56 (by decide) rfl (fun c21 => ?_) (fun c21 => ?_)
        · replace h := h.1 c21
          refine pv_iconst (v := 0) (n := 64) d_M_dig_63 (by decide) rfl ?_
          refine pv_unset (i := 3) (L1 := [(10, 0), (0, a1), (0, a2), (1, 0)]) rfl ?_
          exact vjp_M_dig_64 hl0 _ _ _ _ h
        · replace h := h.2 c21
          refine pv_unset (i := 3) (L1 := [(10, 0), (0, a1), (0, a2), (1, 0)]) rfl ?_
          exact vjp_M_dig_59 hl0 _ _ _ h
    · replace h := h.2 c17
      refine pv_iconst (v := 2) (n := 38) d_M_dig_37 (by decide) rfl ?_
      refine pv_goto (tgt := 64) d_M_dig_38 (by decide) ?_
      refine pv_unset (i := 3) (L1 := [(10, 0), (0, a1), (0, a2), (1, 0)]) rfl ?_
      exact vjp_M_dig_64 hl0 _ _ _ _ h
  · replace h := h.2 c14
    refine pv_iconst (v := 1) (n := 26) d_M_dig_25 (by decide) rfl ?_
    refine pv_goto (tgt := 64) d_M_dig_26 (by decide) ?_
    refine pv_unset (i := 3) (L1 := [(10, 0), (0, a1), (0, a2), (1, 0)]) rfl ?_
    exact vjp_M_dig_64 hl0 _ _ _ _ h
set_option maxHeartbeats 4000000 in
set_option maxRecDepth 20000 in
def jp_M_dig_18 (Q : pw_W → Int32 → Prop) (X : pw_W → Nat → Prop) (a1 a2 : Int32) (w : pw_W) : Prop := jp_M_dig_19 Q X a1 a2 0 w
set_option maxHeartbeats 4000000 in
set_option maxRecDepth 20000 in
theorem vjp_M_dig_18 {l : Launch} {g : pw_G} {Q : pw_W → Int32 → Prop} {X : pw_W → Nat → Prop} (hl0 : l.stackTraces = false) (a1 a2 : Int32) (w : pw_W) (h : jp_M_dig_18 Q X a1 a2 w) : pw_V l g cx_M_dig Q X 18 [(10, 0), (0, a1), (0, a2), (1, 0)] [] w := by
  unfold jp_M_dig_18 at h
  refine pv_iconst (v := 0) (n := 19) d_M_dig_18 (by decide) rfl ?_
  exact vjp_M_dig_19 hl0 _ _ _ _ h
set_option maxHeartbeats 4000000 in
set_option maxRecDepth 20000 in
def wp_M_dig (w : pw_W) (a1 a2 : Int32) (Q : pw_W → Int32 → Prop) (X : pw_W → Nat → Prop) : Prop := wp_M_isSquare w a1 (fun w22 r23 => (r23 = 0 → jp_M_dig_18 Q X a1 a2 w22) ∧ (¬ r23 = 0 → wp_M_isSquare w22 a2 (fun w25 r26 => (r26 = 0 → jp_M_dig_18 Q X a1 a2 w25) ∧ (¬ r26 = 0 → jp_M_dig_19 Q X a1 a2 1 w25)) (fun _ _ => False))) (fun _ _ => False)
set_option maxHeartbeats 4000000 in
set_option maxRecDepth 20000 in
theorem vw_M_dig {l : Launch} {g : pw_G} {Q : pw_W → Int32 → Prop} {X : pw_W → Nat → Prop} (hl0 : l.stackTraces = false) {w : pw_W} {a1 a2 : Int32} (h : wp_M_dig w a1 a2 Q X) : pw_V l g cx_M_dig Q X 0 [(10, 0), (0, a1), (0, a2), (1, 0)] [] w := by
  unfold wp_M_dig at h
  refine pv_iload_n (n := 1) d_M_dig_0 rfl rfl rfl ?_
  refine pv_callS (n := 4) [(0, a1)] [] (con_M_isSquare hl0 h) q_520 q_521 q_458 q_519 pyo_M_isSquare (by decide) rfl rfl d_M_dig_1 rfl (fun w22 r23 h _ => ?_) (fun _ _ h => h.elim)
  show pw_V l g cx_M_dig Q X 4 [(10, 0), (0, a1), (0, a2), (1, 0)] [(0, r23)] w22
  refine pv_if_eq (n := 7) (tgt := 18) d_M_dig_4 (by decide) rfl (fun c24 => ?_) (fun c24 => ?_)
  · replace h := h.1 c24
    exact vjp_M_dig_18 hl0 _ _ _ h
  · replace h := h.2 c24
    refine pv_iload_n (n := 8) d_M_dig_7 rfl rfl rfl ?_
    refine pv_callS (n := 11) [(0, a2)] [] (con_M_isSquare hl0 h) q_520 q_521 q_458 q_519 pyo_M_isSquare (by decide) rfl rfl d_M_dig_8 rfl (fun w25 r26 h _ => ?_) (fun _ _ h => h.elim)
    show pw_V l g cx_M_dig Q X 11 [(10, 0), (0, a1), (0, a2), (1, 0)] [(0, r26)] w25
    refine pv_if_eq (n := 14) (tgt := 18) d_M_dig_11 (by decide) rfl (fun c27 => ?_) (fun c27 => ?_)
    · replace h := h.1 c27
      exact vjp_M_dig_18 hl0 _ _ _ h
    · replace h := h.2 c27
      refine pv_iconst (v := 1) (n := 15) d_M_dig_14 (by decide) rfl ?_
      refine pv_goto (tgt := 19) d_M_dig_15 (by decide) ?_
      exact vjp_M_dig_19 hl0 _ _ _ _ h
set_option maxHeartbeats 4000000 in
set_option maxRecDepth 20000 in
theorem con_M_dig {l : Launch} {g : pw_G} {Q : pw_W → Int32 → Prop} {X : pw_W → Nat → Prop} (hl0 : l.stackTraces = false) {w : pw_W} {a1 a2 : Int32} (h : wp_M_dig w a1 a2 Q X) : pw_Con l g y_M_dig cx_M_dig [(10, 0), (0, a1), (0, a2)] w Q X :=
  pw_con (by decide +kernel) rfl rfl hl0 rfl (Nat.le_of_ble_eq_true rfl) (by simp) (vw_M_dig hl0 h)
theorem d_M_fill_0 : decode (pw_cc cx_M_fill) 0 = .ok (.aload_n 0, 1) := by decide +kernel
theorem d_M_fill_1 : decode (pw_cc cx_M_fill) 1 = .ok (.iload_n 1, 1) := by decide +kernel
theorem d_M_fill_2 : decode (pw_cc cx_M_fill) 2 = .ok (.iconst 0, 1) := by decide +kernel
theorem d_M_fill_3 : decode (pw_cc cx_M_fill) 3 = .ok (.aload_n 0, 1) := by decide +kernel
theorem d_M_fill_4 : decode (pw_cc cx_M_fill) 4 = .ok (.getfield 245, 3) := by decide +kernel
theorem d_M_fill_7 : decode (pw_cc cx_M_fill) 7 = .ok (.iconst 1, 1) := by decide +kernel
theorem d_M_fill_8 : decode (pw_cc cx_M_fill) 8 = .ok (.isub, 1) := by decide +kernel
theorem d_M_fill_9 : decode (pw_cc cx_M_fill) 9 = .ok (.invokestatic 124, 3) := by decide +kernel
theorem d_M_fill_12 : decode (pw_cc cx_M_fill) 12 = .ok (.ifCond .eq 7, 3) := by decide +kernel
theorem d_M_fill_15 : decode (pw_cc cx_M_fill) 15 = .ok (.iconst 0, 1) := by decide +kernel
theorem d_M_fill_16 : decode (pw_cc cx_M_fill) 16 = .ok (.goto 4, 3) := by decide +kernel
theorem d_M_fill_19 : decode (pw_cc cx_M_fill) 19 = .ok (.iconst 1, 1) := by decide +kernel
theorem d_M_fill_20 : decode (pw_cc cx_M_fill) 20 = .ok (.invokevirtual 179, 3) := by decide +kernel
theorem d_M_fill_23 : decode (pw_cc cx_M_fill) 23 = .ok (.ifCond .ne 5, 3) := by decide +kernel
theorem d_M_fill_26 : decode (pw_cc cx_M_fill) 26 = .ok (.iconst 0, 1) := by decide +kernel
theorem d_M_fill_27 : decode (pw_cc cx_M_fill) 27 = .ok (.ireturn, 1) := by decide +kernel
theorem d_M_fill_28 : decode (pw_cc cx_M_fill) 28 = .ok (.aload_n 0, 1) := by decide +kernel
theorem d_M_fill_29 : decode (pw_cc cx_M_fill) 29 = .ok (.dup, 1) := by decide +kernel
theorem d_M_fill_30 : decode (pw_cc cx_M_fill) 30 = .ok (.getfield 245, 3) := by decide +kernel
theorem d_M_fill_33 : decode (pw_cc cx_M_fill) 33 = .ok (.iconst 1, 1) := by decide +kernel
theorem d_M_fill_34 : decode (pw_cc cx_M_fill) 34 = .ok (.isub, 1) := by decide +kernel
theorem d_M_fill_35 : decode (pw_cc cx_M_fill) 35 = .ok (.putfield 245, 3) := by decide +kernel
theorem d_M_fill_38 : decode (pw_cc cx_M_fill) 38 = .ok (.iload_n 1, 1) := by decide +kernel
theorem d_M_fill_39 : decode (pw_cc cx_M_fill) 39 = .ok (.istore_n 2, 1) := by decide +kernel
theorem d_M_fill_40 : decode (pw_cc cx_M_fill) 40 = .ok (.iload_n 2, 1) := by decide +kernel
theorem d_M_fill_41 : decode (pw_cc cx_M_fill) 41 = .ok (.aload_n 0, 1) := by decide +kernel
theorem d_M_fill_42 : decode (pw_cc cx_M_fill) 42 = .ok (.getfield 245, 3) := by decide +kernel
theorem d_M_fill_45 : decode (pw_cc cx_M_fill) 45 = .ok (.if_icmp .ge 37, 3) := by decide +kernel
theorem d_M_fill_48 : decode (pw_cc cx_M_fill) 48 = .ok (.aload_n 0, 1) := by decide +kernel
theorem d_M_fill_49 : decode (pw_cc cx_M_fill) 49 = .ok (.getfield 98, 3) := by decide +kernel
theorem d_M_fill_52 : decode (pw_cc cx_M_fill) 52 = .ok (.iload_n 2, 1) := by decide +kernel
theorem d_M_fill_53 : decode (pw_cc cx_M_fill) 53 = .ok (.aload_n 0, 1) := by decide +kernel
theorem d_M_fill_54 : decode (pw_cc cx_M_fill) 54 = .ok (.getfield 98, 3) := by decide +kernel
theorem d_M_fill_57 : decode (pw_cc cx_M_fill) 57 = .ok (.iload_n 2, 1) := by decide +kernel
theorem d_M_fill_58 : decode (pw_cc cx_M_fill) 58 = .ok (.iconst 1, 1) := by decide +kernel
theorem d_M_fill_59 : decode (pw_cc cx_M_fill) 59 = .ok (.iadd, 1) := by decide +kernel
theorem d_M_fill_60 : decode (pw_cc cx_M_fill) 60 = .ok (.iaload, 1) := by decide +kernel
theorem d_M_fill_61 : decode (pw_cc cx_M_fill) 61 = .ok (.iastore, 1) := by decide +kernel
theorem d_M_fill_62 : decode (pw_cc cx_M_fill) 62 = .ok (.aload_n 0, 1) := by decide +kernel
theorem d_M_fill_63 : decode (pw_cc cx_M_fill) 63 = .ok (.getfield 101, 3) := by decide +kernel
theorem d_M_fill_66 : decode (pw_cc cx_M_fill) 66 = .ok (.iload_n 2, 1) := by decide +kernel
theorem d_M_fill_67 : decode (pw_cc cx_M_fill) 67 = .ok (.aload_n 0, 1) := by decide +kernel
theorem d_M_fill_68 : decode (pw_cc cx_M_fill) 68 = .ok (.getfield 101, 3) := by decide +kernel
theorem d_M_fill_71 : decode (pw_cc cx_M_fill) 71 = .ok (.iload_n 2, 1) := by decide +kernel
theorem d_M_fill_72 : decode (pw_cc cx_M_fill) 72 = .ok (.iconst 1, 1) := by decide +kernel
theorem d_M_fill_73 : decode (pw_cc cx_M_fill) 73 = .ok (.iadd, 1) := by decide +kernel
theorem d_M_fill_74 : decode (pw_cc cx_M_fill) 74 = .ok (.iaload, 1) := by decide +kernel
theorem d_M_fill_75 : decode (pw_cc cx_M_fill) 75 = .ok (.iastore, 1) := by decide +kernel
theorem d_M_fill_76 : decode (pw_cc cx_M_fill) 76 = .ok (.iinc 2 1, 3) := by decide +kernel
theorem d_M_fill_79 : decode (pw_cc cx_M_fill) 79 = .ok (.goto (-39), 3) := by decide +kernel
theorem d_M_fill_82 : decode (pw_cc cx_M_fill) 82 = .ok (.aload_n 0, 1) := by decide +kernel
theorem d_M_fill_83 : decode (pw_cc cx_M_fill) 83 = .ok (.getfield 245, 3) := by decide +kernel
theorem d_M_fill_86 : decode (pw_cc cx_M_fill) 86 = .ok (.ireturn, 1) := by decide +kernel
set_option maxHeartbeats 4000000 in
set_option maxRecDepth 20000 in
def lp_M_fill_40 (Q : pw_W → Int32 → Prop) (X : pw_W → Nat → Prop) : Nat → Int32 → pw_W → Prop := fun k => Nat.rec (motive := fun _ => Int32 → pw_W → Prop) (fun _ _ => False) (fun _ ih a2 w => ((w.1 8 0 41) ≤ a2 → Q w (w.1 8 0 41)) ∧ (¬ (w.1 8 0 41) ≤ a2 → w.1 8 0 39 = 0 ∧ w.1 8 0 39 = 0 ∧ pw_jn (a2 + 1) (pw_ln w 239 0) ∧ pw_jn a2 (pw_ln w 239 0) ∧ ∀ w6, w6 = pw_ps w 239 0 (pw_i a2) (w.1 239 0 (pw_i (a2 + 1))) → w6.1 8 0 40 = 0 ∧ w6.1 8 0 40 = 0 ∧ pw_jn (a2 + 1) (pw_ln w6 240 0) ∧ pw_jn a2 (pw_ln w6 240 0) ∧ ∀ w12, w12 = pw_ps w6 240 0 (pw_i a2) (w6.1 240 0 (pw_i (a2 + 1))) → ih (a2 + 1) w12)) k
set_option maxHeartbeats 4000000 in
set_option maxRecDepth 20000 in
theorem lp_M_fill_40_s {Q : pw_W → Int32 → Prop} {X : pw_W → Nat → Prop}  {k : Nat} {a2 : Int32} {w : pw_W} : lp_M_fill_40 Q X (k + 1) a2 w = (let ih := lp_M_fill_40 Q X k; ((w.1 8 0 41) ≤ a2 → Q w (w.1 8 0 41)) ∧ (¬ (w.1 8 0 41) ≤ a2 → w.1 8 0 39 = 0 ∧ w.1 8 0 39 = 0 ∧ pw_jn (a2 + 1) (pw_ln w 239 0) ∧ pw_jn a2 (pw_ln w 239 0) ∧ ∀ w6, w6 = pw_ps w 239 0 (pw_i a2) (w.1 239 0 (pw_i (a2 + 1))) → w6.1 8 0 40 = 0 ∧ w6.1 8 0 40 = 0 ∧ pw_jn (a2 + 1) (pw_ln w6 240 0) ∧ pw_jn a2 (pw_ln w6 240 0) ∧ ∀ w12, w12 = pw_ps w6 240 0 (pw_i a2) (w6.1 240 0 (pw_i (a2 + 1))) → ih (a2 + 1) w12)) := rfl
set_option maxHeartbeats 4000000 in
set_option maxRecDepth 20000 in
theorem vlp_M_fill_40 {l : Launch} {g : pw_G} {Q : pw_W → Int32 → Prop} {X : pw_W → Nat → Prop} (hl0 : l.stackTraces = false) : ∀ (k : Nat) (a2 : Int32) (w : pw_W), lp_M_fill_40 Q X k a2 w → pw_V l g cx_M_fill Q X 40 [(10, 0), (1, 0), (0, a2)] [] w := by
  intro k; induction k with
  | zero => intro _ _ h; exact h.elim
  | succ k ih =>
    intro a2 w h
    rw [lp_M_fill_40_s] at h
    refine pv_iload_n (n := 41) d_M_fill_40 rfl rfl rfl ?_
    refine pv_aload_n (n := 42) d_M_fill_41 rfl rfl rfl ?_
    refine gt_M_245 (n := 45) rfl d_M_fill_42 (by decide) rfl ?_
    refine pv_icmp_ge (n := 48) (tgt := 82) d_M_fill_45 (by decide) rfl (fun c1 => ?_) (fun c1 => ?_)
    · replace h := h.1 c1
      refine pv_aload_n (n := 83) d_M_fill_82 rfl rfl rfl ?_
      refine gt_M_245 (n := 86) rfl d_M_fill_83 (by decide) rfl ?_
      exact pv_iret rfl rfl d_M_fill_86 h
    · replace h := h.2 c1
      refine pv_aload_n (n := 49) d_M_fill_48 rfl rfl rfl ?_
      obtain ⟨g2, h⟩ := h
      refine gt_M_98 (n := 52) rfl d_M_fill_49 (by decide) g2 rfl ?_
      refine pv_iload_n (n := 53) d_M_fill_52 rfl rfl rfl ?_
      refine pv_aload_n (n := 54) d_M_fill_53 rfl rfl rfl ?_
      obtain ⟨g3, h⟩ := h
      refine gt_M_98 (n := 57) rfl d_M_fill_54 (by decide) g3 rfl ?_
      refine pv_iload_n (n := 58) d_M_fill_57 rfl rfl rfl ?_
      refine pv_iconst (v := 1) (n := 59) d_M_fill_58 (by decide) rfl ?_
      refine pv_iadd (n := 60) d_M_fill_59 rfl ?_
      obtain ⟨g4, h⟩ := h
      refine pv_iald (n := 61) (f := 239) (by decide) rfl d_M_fill_60 (by decide) g4 rfl ?_
      obtain ⟨g5, h⟩ := h
      refine pv_iast1 (n := 62) (f := 239) (by decide) rfl (fun _ => rfl) d_M_fill_61 (by decide) g5 rfl (fun w6 e7 => ?_)
      replace h := h w6 e7
      refine pv_aload_n (n := 63) d_M_fill_62 rfl rfl rfl ?_
      obtain ⟨g8, h⟩ := h
      refine gt_M_101 (n := 66) rfl d_M_fill_63 (by decide) g8 rfl ?_
      refine pv_iload_n (n := 67) d_M_fill_66 rfl rfl rfl ?_
      refine pv_aload_n (n := 68) d_M_fill_67 rfl rfl rfl ?_
      obtain ⟨g9, h⟩ := h
      refine gt_M_101 (n := 71) rfl d_M_fill_68 (by decide) g9 rfl ?_
      refine pv_iload_n (n := 72) d_M_fill_71 rfl rfl rfl ?_
      refine pv_iconst (v := 1) (n := 73) d_M_fill_72 (by decide) rfl ?_
      refine pv_iadd (n := 74) d_M_fill_73 rfl ?_
      obtain ⟨g10, h⟩ := h
      refine pv_iald (n := 75) (f := 240) (by decide) rfl d_M_fill_74 (by decide) g10 rfl ?_
      obtain ⟨g11, h⟩ := h
      refine pv_iast1 (n := 76) (f := 240) (by decide) rfl (fun _ => rfl) d_M_fill_75 (by decide) g11 rfl (fun w12 e13 => ?_)
      replace h := h w12 e13
      refine pv_iinc (v := (a2 + 1)) (n := 79) (L1 := [(10, 0), (1, 0), (0, (a2 + 1))]) d_M_fill_76 rfl rfl rfl (by decide) rfl ?_
      refine pv_goto (tgt := 40) d_M_fill_79 (by decide) ?_
      exact ih _ _ h
set_option maxHeartbeats 4000000 in
set_option maxRecDepth 20000 in
def jp_M_fill_20 (Q : pw_W → Int32 → Prop) (X : pw_W → Nat → Prop) (a1 s0 : Int32) (w : pw_W) : Prop := wp_M_isFine w s0 (fun w14 r15 => (¬ r15 = 0 → ∀ w17, w17 = pw_ps w14 8 0 41 ((w14.1 8 0 41) - 1) → ∃ k19, lp_M_fill_40 Q X k19 a1 w17) ∧ (r15 = 0 → Q w14 0)) (fun _ _ => False)
set_option maxHeartbeats 4000000 in
set_option maxRecDepth 20000 in
theorem vjp_M_fill_20 {l : Launch} {g : pw_G} {Q : pw_W → Int32 → Prop} {X : pw_W → Nat → Prop} (hl0 : l.stackTraces = false) (a1 s0 : Int32) (w : pw_W) (h : jp_M_fill_20 Q X a1 s0 w) : pw_V l g cx_M_fill Q X 20 [(10, 0), (0, a1), (1, 0)] [(0, s0), (10, 0)] w := by
  unfold jp_M_fill_20 at h
  refine pv_callV (n := 23) (x := 0) [(0, s0)] [] (con_M_isFine hl0 h) pw_cf8 rfl q_506 q_507 q_508 q_458 q_505 pyo_M_isFine (by decide) rfl rfl (by decide) d_M_fill_20 rfl (fun w14 r15 h _ => ?_) (fun _ _ h => h.elim)
  show pw_V l g cx_M_fill Q X 23 [(10, 0), (0, a1), (1, 0)] [(0, r15)] w14
  refine pv_if_ne (n := 26) (tgt := 28) d_M_fill_23 (by decide) rfl (fun c16 => ?_) (fun c16 => ?_)
  · replace h := h.1 c16
    refine pv_aload_n (n := 29) d_M_fill_28 rfl rfl rfl ?_
    refine pv_dup (n := 30) d_M_fill_29 (by decide) rfl ?_
    refine gt_M_245 (n := 33) rfl d_M_fill_30 (by decide) rfl ?_
    refine pv_iconst (v := 1) (n := 34) d_M_fill_33 (by decide) rfl ?_
    refine pv_isub (n := 35) d_M_fill_34 rfl ?_
    refine pt_M_245 (n := 38) rfl d_M_fill_35 (by decide) rfl (fun w17 e18 => ?_)
    replace h := h w17 e18
    refine pv_iload_n (n := 39) d_M_fill_38 rfl rfl rfl ?_
    refine pv_istore_n (n := 40) (L' := [(10, 0), (0, a1), (0, a1)]) d_M_fill_39 rfl (by decide) rfl rfl ?_
    refine pv_unset (i := 1) (L1 := [(10, 0), (1, 0), (0, a1)]) rfl ?_
    obtain ⟨k19, h⟩ := h
    exact vlp_M_fill_40 hl0 _ _ _ h
  · replace h := h.2 c16
    refine pv_iconst (v := 0) (n := 27) d_M_fill_26 (by decide) rfl ?_
    exact pv_iret rfl rfl d_M_fill_27 h
set_option maxHeartbeats 4000000 in
set_option maxRecDepth 20000 in
def wp_M_fill (w : pw_W) (a1 : Int32) (Q : pw_W → Int32 → Prop) (X : pw_W → Nat → Prop) : Prop := wp_M_isIn w a1 0 ((w.1 8 0 41) - 1) (fun w20 r21 => (r21 = 0 → jp_M_fill_20 Q X a1 1 w20) ∧ (¬ r21 = 0 → jp_M_fill_20 Q X a1 0 w20)) (fun _ _ => False)
set_option maxHeartbeats 4000000 in
set_option maxRecDepth 20000 in
theorem vw_M_fill {l : Launch} {g : pw_G} {Q : pw_W → Int32 → Prop} {X : pw_W → Nat → Prop} (hl0 : l.stackTraces = false) {w : pw_W} {a1 : Int32} (h : wp_M_fill w a1 Q X) : pw_V l g cx_M_fill Q X 0 [(10, 0), (0, a1), (1, 0)] [] w := by
  unfold wp_M_fill at h
  refine pv_aload_n (n := 1) d_M_fill_0 rfl rfl rfl ?_
  refine pv_iload_n (n := 2) d_M_fill_1 rfl rfl rfl ?_
  refine pv_iconst (v := 0) (n := 3) d_M_fill_2 (by decide) rfl ?_
  refine pv_aload_n (n := 4) d_M_fill_3 rfl rfl rfl ?_
  refine gt_M_245 (n := 7) rfl d_M_fill_4 (by decide) rfl ?_
  refine pv_iconst (v := 1) (n := 8) d_M_fill_7 (by decide) rfl ?_
  refine pv_isub (n := 9) d_M_fill_8 rfl ?_
  refine pv_callS (n := 12) [(0, a1), (0, 0), (0, ((w.1 8 0 41) - 1))] [(10, 0)] (con_M_isIn hl0 h) q_459 q_460 q_458 q_457 pyo_M_isIn (by decide) rfl rfl d_M_fill_9 rfl (fun w20 r21 h _ => ?_) (fun _ _ h => h.elim)
  show pw_V l g cx_M_fill Q X 12 [(10, 0), (0, a1), (1, 0)] [(0, r21), (10, 0)] w20
  refine pv_if_eq (n := 15) (tgt := 19) d_M_fill_12 (by decide) rfl (fun c22 => ?_) (fun c22 => ?_)
  · replace h := h.1 c22
    refine pv_iconst (v := 1) (n := 20) d_M_fill_19 (by decide) rfl ?_
    exact vjp_M_fill_20 hl0 _ _ _ h
  · replace h := h.2 c22
    refine pv_iconst (v := 0) (n := 16) d_M_fill_15 (by decide) rfl ?_
    refine pv_goto (tgt := 20) d_M_fill_16 (by decide) ?_
    exact vjp_M_fill_20 hl0 _ _ _ h
set_option maxHeartbeats 4000000 in
set_option maxRecDepth 20000 in
theorem con_M_fill {l : Launch} {g : pw_G} {Q : pw_W → Int32 → Prop} {X : pw_W → Nat → Prop} (hl0 : l.stackTraces = false) {w : pw_W} {a1 : Int32} (h : wp_M_fill w a1 Q X) : pw_Con l g y_M_fill cx_M_fill [(10, 0), (0, a1)] w Q X :=
  pw_con (by decide +kernel) rfl rfl hl0 rfl (Nat.le_of_ble_eq_true rfl) (by simp) (vw_M_fill hl0 h)
theorem d_M_may_0 : decode (pw_cc cx_M_may) 0 = .ok (.aload_n 0, 1) := by decide +kernel
theorem d_M_may_1 : decode (pw_cc cx_M_may) 1 = .ok (.getfield 104, 3) := by decide +kernel
theorem d_M_may_4 : decode (pw_cc cx_M_may) 4 = .ok (.iload_n 1, 1) := by decide +kernel
theorem d_M_may_5 : decode (pw_cc cx_M_may) 5 = .ok (.baload, 1) := by decide +kernel
theorem d_M_may_6 : decode (pw_cc cx_M_may) 6 = .ok (.ifCond .ne 37, 3) := by decide +kernel
theorem d_M_may_9 : decode (pw_cc cx_M_may) 9 = .ok (.aload_n 0, 1) := by decide +kernel
theorem d_M_may_10 : decode (pw_cc cx_M_may) 10 = .ok (.getfield 40, 3) := by decide +kernel
theorem d_M_may_13 : decode (pw_cc cx_M_may) 13 = .ok (.aload_n 0, 1) := by decide +kernel
theorem d_M_may_14 : decode (pw_cc cx_M_may) 14 = .ok (.getfield 16, 3) := by decide +kernel
theorem d_M_may_17 : decode (pw_cc cx_M_may) 17 = .ok (.iload_n 2, 1) := by decide +kernel
theorem d_M_may_18 : decode (pw_cc cx_M_may) 18 = .ok (.iaload, 1) := by decide +kernel
theorem d_M_may_19 : decode (pw_cc cx_M_may) 19 = .ok (.iaload, 1) := by decide +kernel
theorem d_M_may_20 : decode (pw_cc cx_M_may) 20 = .ok (.iload_n 1, 1) := by decide +kernel
theorem d_M_may_21 : decode (pw_cc cx_M_may) 21 = .ok (.if_icmp .eq 18, 3) := by decide +kernel
theorem d_M_may_24 : decode (pw_cc cx_M_may) 24 = .ok (.aload_n 0, 1) := by decide +kernel
theorem d_M_may_25 : decode (pw_cc cx_M_may) 25 = .ok (.iload_n 3, 1) := by decide +kernel
theorem d_M_may_26 : decode (pw_cc cx_M_may) 26 = .ok (.aload_n 0, 1) := by decide +kernel
theorem d_M_may_27 : decode (pw_cc cx_M_may) 27 = .ok (.getfield 16, 3) := by decide +kernel
theorem d_M_may_30 : decode (pw_cc cx_M_may) 30 = .ok (.iload_n 2, 1) := by decide +kernel
theorem d_M_may_31 : decode (pw_cc cx_M_may) 31 = .ok (.iaload, 1) := by decide +kernel
theorem d_M_may_32 : decode (pw_cc cx_M_may) 32 = .ok (.iload_n 1, 1) := by decide +kernel
theorem d_M_may_33 : decode (pw_cc cx_M_may) 33 = .ok (.invokevirtual 192, 3) := by decide +kernel
theorem d_M_may_36 : decode (pw_cc cx_M_may) 36 = .ok (.ifCond .eq 7, 3) := by decide +kernel
theorem d_M_may_39 : decode (pw_cc cx_M_may) 39 = .ok (.iconst 1, 1) := by decide +kernel
theorem d_M_may_40 : decode (pw_cc cx_M_may) 40 = .ok (.goto 4, 3) := by decide +kernel
theorem d_M_may_43 : decode (pw_cc cx_M_may) 43 = .ok (.iconst 0, 1) := by decide +kernel
theorem d_M_may_44 : decode (pw_cc cx_M_may) 44 = .ok (.ireturn, 1) := by decide +kernel
set_option maxHeartbeats 4000000 in
set_option maxRecDepth 20000 in
def wp_M_may (w : pw_W) (a1 a2 a3 : Int32) (Q : pw_W → Int32 → Prop) (X : pw_W → Nat → Prop) : Prop := w.1 8 0 42 = 0 ∧ pw_jn a1 (pw_ln w 242 0) ∧ (¬ (w.1 242 0 (pw_i a1)) = 0 → Q w 0) ∧ ((w.1 242 0 (pw_i a1)) = 0 → w.1 8 0 16 = 0 ∧ w.1 8 0 8 = 0 ∧ pw_jn a2 (pw_ln w 208 0) ∧ pw_jn (w.1 208 0 (pw_i a2)) (pw_ln w 216 0) ∧ ((w.1 216 0 (pw_i (w.1 208 0 (pw_i a2)))) = a1 → Q w 1) ∧ (¬ (w.1 216 0 (pw_i (w.1 208 0 (pw_i a2)))) = a1 → w.1 8 0 8 = 0 ∧ pw_jn a2 (pw_ln w 208 0) ∧ wp_M_hasRight w a3 (w.1 208 0 (pw_i a2)) a1 (fun w11 r12 => (r12 = 0 → Q w11 0) ∧ (¬ r12 = 0 → Q w11 1)) (fun _ _ => False)))
set_option maxHeartbeats 4000000 in
set_option maxRecDepth 20000 in
theorem vw_M_may {l : Launch} {g : pw_G} {Q : pw_W → Int32 → Prop} {X : pw_W → Nat → Prop} (hl0 : l.stackTraces = false) {w : pw_W} {a1 a2 a3 : Int32} (h : wp_M_may w a1 a2 a3 Q X) : pw_V l g cx_M_may Q X 0 [(10, 0), (0, a1), (0, a2), (0, a3)] [] w := by
  unfold wp_M_may at h
  refine pv_aload_n (n := 1) d_M_may_0 rfl rfl rfl ?_
  obtain ⟨g1, h⟩ := h
  refine gt_M_104 (n := 4) rfl d_M_may_1 (by decide) g1 rfl ?_
  refine pv_iload_n (n := 5) d_M_may_4 rfl rfl rfl ?_
  obtain ⟨g2, h⟩ := h
  refine pv_zald (n := 6) (f := 242) (by decide) rfl d_M_may_5 (by decide) g2 rfl ?_
  refine pv_if_ne (n := 9) (tgt := 43) d_M_may_6 (by decide) rfl (fun c3 => ?_) (fun c3 => ?_)
  · replace h := h.1 c3
    refine pv_iconst (v := 0) (n := 44) d_M_may_43 (by decide) rfl ?_
    exact pv_zret rfl rfl d_M_may_44 (by decide) h
  · replace h := h.2 c3
    refine pv_aload_n (n := 10) d_M_may_9 rfl rfl rfl ?_
    obtain ⟨g4, h⟩ := h
    refine gt_M_40 (n := 13) rfl d_M_may_10 (by decide) g4 rfl ?_
    refine pv_aload_n (n := 14) d_M_may_13 rfl rfl rfl ?_
    obtain ⟨g5, h⟩ := h
    refine gt_M_16 (n := 17) rfl d_M_may_14 (by decide) g5 rfl ?_
    refine pv_iload_n (n := 18) d_M_may_17 rfl rfl rfl ?_
    obtain ⟨g6, h⟩ := h
    refine pv_iald (n := 19) (f := 208) (by decide) rfl d_M_may_18 (by decide) g6 rfl ?_
    obtain ⟨g7, h⟩ := h
    refine pv_iald (n := 20) (f := 216) (by decide) rfl d_M_may_19 (by decide) g7 rfl ?_
    refine pv_iload_n (n := 21) d_M_may_20 rfl rfl rfl ?_
    refine pv_icmp_eq (n := 24) (tgt := 39) d_M_may_21 (by decide) rfl (fun c8 => ?_) (fun c8 => ?_)
    · replace h := h.1 c8
      refine pv_iconst (v := 1) (n := 40) d_M_may_39 (by decide) rfl ?_
      refine pv_goto (tgt := 44) d_M_may_40 (by decide) ?_
      exact pv_zret rfl rfl d_M_may_44 (by decide) h
    · replace h := h.2 c8
      refine pv_aload_n (n := 25) d_M_may_24 rfl rfl rfl ?_
      refine pv_iload_n (n := 26) d_M_may_25 rfl rfl rfl ?_
      refine pv_aload_n (n := 27) d_M_may_26 rfl rfl rfl ?_
      obtain ⟨g9, h⟩ := h
      refine gt_M_16 (n := 30) rfl d_M_may_27 (by decide) g9 rfl ?_
      refine pv_iload_n (n := 31) d_M_may_30 rfl rfl rfl ?_
      obtain ⟨g10, h⟩ := h
      refine pv_iald (n := 32) (f := 208) (by decide) rfl d_M_may_31 (by decide) g10 rfl ?_
      refine pv_iload_n (n := 33) d_M_may_32 rfl rfl rfl ?_
      refine pv_callV (n := 36) (x := 0) [(0, a3), (0, (w.1 208 0 (pw_i a2))), (0, a1)] [] (con_M_hasRight hl0 h) pw_cf8 rfl q_527 q_528 q_529 q_458 q_526 pyo_M_hasRight (by decide) rfl rfl (by decide) d_M_may_33 rfl (fun w11 r12 h _ => ?_) (fun _ _ h => h.elim)
      show pw_V l g cx_M_may Q X 36 [(10, 0), (0, a1), (0, a2), (0, a3)] [(0, r12)] w11
      refine pv_if_eq (n := 39) (tgt := 43) d_M_may_36 (by decide) rfl (fun c13 => ?_) (fun c13 => ?_)
      · replace h := h.1 c13
        refine pv_iconst (v := 0) (n := 44) d_M_may_43 (by decide) rfl ?_
        exact pv_zret rfl rfl d_M_may_44 (by decide) h
      · replace h := h.2 c13
        refine pv_iconst (v := 1) (n := 40) d_M_may_39 (by decide) rfl ?_
        refine pv_goto (tgt := 44) d_M_may_40 (by decide) ?_
        exact pv_zret rfl rfl d_M_may_44 (by decide) h
set_option maxHeartbeats 4000000 in
set_option maxRecDepth 20000 in
theorem con_M_may {l : Launch} {g : pw_G} {Q : pw_W → Int32 → Prop} {X : pw_W → Nat → Prop} (hl0 : l.stackTraces = false) {w : pw_W} {a1 a2 a3 : Int32} (h : wp_M_may w a1 a2 a3 Q X) : pw_Con l g y_M_may cx_M_may [(10, 0), (0, a1), (0, a2), (0, a3)] w Q X :=
  pw_con (by decide +kernel) rfl rfl hl0 rfl (Nat.le_of_ble_eq_true rfl) (by simp) (vw_M_may hl0 h)
theorem d_M_cut_0 : decode (pw_cc cx_M_cut) 0 = .ok (.iload_n 1, 1) := by decide +kernel
theorem d_M_cut_1 : decode (pw_cc cx_M_cut) 1 = .ok (.invokestatic 166, 3) := by decide +kernel
theorem d_M_cut_4 : decode (pw_cc cx_M_cut) 4 = .ok (.ifCond .eq 14, 3) := by decide +kernel
theorem d_M_cut_7 : decode (pw_cc cx_M_cut) 7 = .ok (.iload_n 2, 1) := by decide +kernel
theorem d_M_cut_8 : decode (pw_cc cx_M_cut) 8 = .ok (.invokestatic 163, 3) := by decide +kernel
theorem d_M_cut_11 : decode (pw_cc cx_M_cut) 11 = .ok (.ifCond .eq 7, 3) := by decide +kernel
theorem d_M_cut_14 : decode (pw_cc cx_M_cut) 14 = .ok (.iconst 1, 1) := by decide +kernel
theorem d_M_cut_15 : decode (pw_cc cx_M_cut) 15 = .ok (.goto 4, 3) := by decide +kernel
theorem d_M_cut_18 : decode (pw_cc cx_M_cut) 18 = .ok (.iconst 0, 1) := by decide +kernel
theorem d_M_cut_19 : decode (pw_cc cx_M_cut) 19 = .ok (.istore 4, 2) := by decide +kernel
theorem d_M_cut_21 : decode (pw_cc cx_M_cut) 21 = .ok (.aload_n 0, 1) := by decide +kernel
theorem d_M_cut_22 : decode (pw_cc cx_M_cut) 22 = .ok (.iload 4, 2) := by decide +kernel
theorem d_M_cut_24 : decode (pw_cc cx_M_cut) 24 = .ok (.ifCond .ne 7, 3) := by decide +kernel
theorem d_M_cut_27 : decode (pw_cc cx_M_cut) 27 = .ok (.iconst 1, 1) := by decide +kernel
theorem d_M_cut_28 : decode (pw_cc cx_M_cut) 28 = .ok (.goto 42, 3) := by decide +kernel
theorem d_M_cut_31 : decode (pw_cc cx_M_cut) 31 = .ok (.iload_n 3, 1) := by decide +kernel
theorem d_M_cut_32 : decode (pw_cc cx_M_cut) 32 = .ok (.iconst 1, 1) := by decide +kernel
theorem d_M_cut_33 : decode (pw_cc cx_M_cut) 33 = .ok (.bipush 20, 2) := by decide +kernel
theorem d_M_cut_35 : decode (pw_cc cx_M_cut) 35 = .ok (.invokestatic 124, 3) := by decide +kernel
theorem d_M_cut_38 : decode (pw_cc cx_M_cut) 38 = .ok (.ifCond .ne 7, 3) := by decide +kernel
theorem d_M_cut_41 : decode (pw_cc cx_M_cut) 41 = .ok (.iconst 2, 1) := by decide +kernel
theorem d_M_cut_42 : decode (pw_cc cx_M_cut) 42 = .ok (.goto 28, 3) := by decide +kernel
theorem d_M_cut_45 : decode (pw_cc cx_M_cut) 45 = .ok (.aload_n 0, 1) := by decide +kernel
theorem d_M_cut_46 : decode (pw_cc cx_M_cut) 46 = .ok (.iload_n 1, 1) := by decide +kernel
theorem d_M_cut_47 : decode (pw_cc cx_M_cut) 47 = .ok (.iload_n 2, 1) := by decide +kernel
theorem d_M_cut_48 : decode (pw_cc cx_M_cut) 48 = .ok (.iconst 1, 1) := by decide +kernel
theorem d_M_cut_49 : decode (pw_cc cx_M_cut) 49 = .ok (.invokevirtual 254, 3) := by decide +kernel
theorem d_M_cut_52 : decode (pw_cc cx_M_cut) 52 = .ok (.ifCond .eq 13, 3) := by decide +kernel
theorem d_M_cut_55 : decode (pw_cc cx_M_cut) 55 = .ok (.aload_n 0, 1) := by decide +kernel
theorem d_M_cut_56 : decode (pw_cc cx_M_cut) 56 = .ok (.getfield 7, 3) := by decide +kernel
theorem d_M_cut_59 : decode (pw_cc cx_M_cut) 59 = .ok (.iload_n 2, 1) := by decide +kernel
theorem d_M_cut_60 : decode (pw_cc cx_M_cut) 60 = .ok (.iaload, 1) := by decide +kernel
theorem d_M_cut_61 : decode (pw_cc cx_M_cut) 61 = .ok (.iload_n 3, 1) := by decide +kernel
theorem d_M_cut_62 : decode (pw_cc cx_M_cut) 62 = .ok (.if_icmp .ge 7, 3) := by decide +kernel
theorem d_M_cut_65 : decode (pw_cc cx_M_cut) 65 = .ok (.iconst 3, 1) := by decide +kernel
theorem d_M_cut_66 : decode (pw_cc cx_M_cut) 66 = .ok (.goto 4, 3) := by decide +kernel
theorem d_M_cut_69 : decode (pw_cc cx_M_cut) 69 = .ok (.iconst 0, 1) := by decide +kernel
theorem d_M_cut_70 : decode (pw_cc cx_M_cut) 70 = .ok (.invokevirtual 179, 3) := by decide +kernel
theorem d_M_cut_73 : decode (pw_cc cx_M_cut) 73 = .ok (.ifCond .ne 5, 3) := by decide +kernel
theorem d_M_cut_76 : decode (pw_cc cx_M_cut) 76 = .ok (.iconst 0, 1) := by decide +kernel
theorem d_M_cut_77 : decode (pw_cc cx_M_cut) 77 = .ok (.ireturn, 1) := by decide +kernel
theorem d_M_cut_78 : decode (pw_cc cx_M_cut) 78 = .ok (.aload_n 0, 1) := by decide +kernel
theorem d_M_cut_79 : decode (pw_cc cx_M_cut) 79 = .ok (.getfield 7, 3) := by decide +kernel
theorem d_M_cut_82 : decode (pw_cc cx_M_cut) 82 = .ok (.iload_n 2, 1) := by decide +kernel
theorem d_M_cut_83 : decode (pw_cc cx_M_cut) 83 = .ok (.dup2, 1) := by decide +kernel
theorem d_M_cut_84 : decode (pw_cc cx_M_cut) 84 = .ok (.iaload, 1) := by decide +kernel
theorem d_M_cut_85 : decode (pw_cc cx_M_cut) 85 = .ok (.iload_n 3, 1) := by decide +kernel
theorem d_M_cut_86 : decode (pw_cc cx_M_cut) 86 = .ok (.isub, 1) := by decide +kernel
theorem d_M_cut_87 : decode (pw_cc cx_M_cut) 87 = .ok (.iastore, 1) := by decide +kernel
theorem d_M_cut_88 : decode (pw_cc cx_M_cut) 88 = .ok (.aload_n 0, 1) := by decide +kernel
theorem d_M_cut_89 : decode (pw_cc cx_M_cut) 89 = .ok (.getfield 7, 3) := by decide +kernel
theorem d_M_cut_92 : decode (pw_cc cx_M_cut) 92 = .ok (.iload_n 2, 1) := by decide +kernel
theorem d_M_cut_93 : decode (pw_cc cx_M_cut) 93 = .ok (.iaload, 1) := by decide +kernel
theorem d_M_cut_94 : decode (pw_cc cx_M_cut) 94 = .ok (.ireturn, 1) := by decide +kernel
set_option maxHeartbeats 4000000 in
set_option maxRecDepth 20000 in
def jp_M_cut_70 (Q : pw_W → Int32 → Prop) (X : pw_W → Nat → Prop) (a2 a3 s0 : Int32) (w : pw_W) : Prop := wp_M_isFine w s0 (fun w1 r2 => (¬ r2 = 0 → w1.1 8 0 6 = 0 ∧ pw_jn a2 (pw_ln w1 206 0) ∧ pw_jn a2 (pw_ln w1 206 0) ∧ ∀ w7, w7 = pw_ps w1 206 0 (pw_i a2) ((w1.1 206 0 (pw_i a2)) - a3) → w7.1 8 0 6 = 0 ∧ pw_jn a2 (pw_ln w7 206 0) ∧ Q w7 (w7.1 206 0 (pw_i a2))) ∧ (r2 = 0 → Q w1 0)) (fun _ _ => False)
set_option maxHeartbeats 4000000 in
set_option maxRecDepth 20000 in
theorem vjp_M_cut_70 {l : Launch} {g : pw_G} {Q : pw_W → Int32 → Prop} {X : pw_W → Nat → Prop} (hl0 : l.stackTraces = false) (a2 a3 s0 : Int32) (w : pw_W) (h : jp_M_cut_70 Q X a2 a3 s0 w) : pw_V l g cx_M_cut Q X 70 [(10, 0), (1, 0), (0, a2), (0, a3), (1, 0)] [(0, s0), (10, 0)] w := by
  unfold jp_M_cut_70 at h
  refine pv_callV (n := 73) (x := 0) [(0, s0)] [] (con_M_isFine hl0 h) pw_cf8 rfl q_506 q_507 q_508 q_458 q_505 pyo_M_isFine (by decide) rfl rfl (by decide) d_M_cut_70 rfl (fun w1 r2 h _ => ?_) (fun _ _ h => h.elim)
  show pw_V l g cx_M_cut Q X 73 [(10, 0), (1, 0), (0, a2), (0, a3), (1, 0)] [(0, r2)] w1
  refine pv_if_ne (n := 76) (tgt := 78) d_M_cut_73 (by decide) rfl (fun c3 => ?_) (fun c3 => ?_)
  · replace h := h.1 c3
    refine pv_aload_n (n := 79) d_M_cut_78 rfl rfl rfl ?_
    obtain ⟨g4, h⟩ := h
    refine gt_M_7 (n := 82) rfl d_M_cut_79 (by decide) g4 rfl ?_
    refine pv_iload_n (n := 83) d_M_cut_82 rfl rfl rfl ?_
    refine pv_dup2 (n := 84) d_M_cut_83 (by decide) (by decide) rfl ?_
    obtain ⟨g5, h⟩ := h
    refine pv_iald (n := 85) (f := 206) (by decide) rfl d_M_cut_84 (by decide) g5 rfl ?_
    refine pv_iload_n (n := 86) d_M_cut_85 rfl rfl rfl ?_
    refine pv_isub (n := 87) d_M_cut_86 rfl ?_
    obtain ⟨g6, h⟩ := h
    refine pv_iast1 (n := 88) (f := 206) (by decide) rfl (fun _ => rfl) d_M_cut_87 (by decide) g6 rfl (fun w7 e8 => ?_)
    replace h := h w7 e8
    refine pv_aload_n (n := 89) d_M_cut_88 rfl rfl rfl ?_
    obtain ⟨g9, h⟩ := h
    refine gt_M_7 (n := 92) rfl d_M_cut_89 (by decide) g9 rfl ?_
    refine pv_iload_n (n := 93) d_M_cut_92 rfl rfl rfl ?_
    obtain ⟨g10, h⟩ := h
    refine pv_iald (n := 94) (f := 206) (by decide) rfl d_M_cut_93 (by decide) g10 rfl ?_
    exact pv_iret rfl rfl d_M_cut_94 h
  · replace h := h.2 c3
    refine pv_iconst (v := 0) (n := 77) d_M_cut_76 (by decide) rfl ?_
    exact pv_iret rfl rfl d_M_cut_77 h
set_option maxHeartbeats 4000000 in
set_option maxRecDepth 20000 in
def jp_M_cut_65 (Q : pw_W → Int32 → Prop) (X : pw_W → Nat → Prop) (a2 a3 : Int32) (w : pw_W) : Prop := jp_M_cut_70 Q X a2 a3 3 w
set_option maxHeartbeats 4000000 in
set_option maxRecDepth 20000 in
theorem vjp_M_cut_65 {l : Launch} {g : pw_G} {Q : pw_W → Int32 → Prop} {X : pw_W → Nat → Prop} (hl0 : l.stackTraces = false) (a2 a3 : Int32) (w : pw_W) (h : jp_M_cut_65 Q X a2 a3 w) : pw_V l g cx_M_cut Q X 65 [(10, 0), (1, 0), (0, a2), (0, a3), (1, 0)] [(10, 0)] w := by
  unfold jp_M_cut_65 at h
  refine pv_iconst (v := 3) (n := 66) d_M_cut_65 (by decide) rfl ?_
  refine pv_goto (tgt := 70) d_M_cut_66 (by decide) ?_
  exact vjp_M_cut_70 hl0 _ _ _ _ h
set_option maxHeartbeats 4000000 in
set_option maxRecDepth 20000 in
def jp_M_cut_19 (Q : pw_W → Int32 → Prop) (X : pw_W → Nat → Prop) (a1 a2 a3 s0 : Int32) (w : pw_W) : Prop := (¬ s0 = 0 → wp_M_isIn w a3 1 20 (fun w12 r13 => (¬ r13 = 0 → wp_M_may w12 a1 a2 1 (fun w15 r16 => (r16 = 0 → jp_M_cut_65 Q X a2 a3 w15) ∧ (¬ r16 = 0 → w15.1 8 0 6 = 0 ∧ pw_jn a2 (pw_ln w15 206 0) ∧ (a3 ≤ (w15.1 206 0 (pw_i a2)) → jp_M_cut_70 Q X a2 a3 0 w15) ∧ (¬ a3 ≤ (w15.1 206 0 (pw_i a2)) → jp_M_cut_65 Q X a2 a3 w15))) (fun _ _ => False)) ∧ (r13 = 0 → jp_M_cut_70 Q X a2 a3 2 w12)) (fun _ _ => False)) ∧ (s0 = 0 → jp_M_cut_70 Q X a2 a3 1 w)
set_option maxHeartbeats 4000000 in
set_option maxRecDepth 20000 in
theorem vjp_M_cut_19 {l : Launch} {g : pw_G} {Q : pw_W → Int32 → Prop} {X : pw_W → Nat → Prop} (hl0 : l.stackTraces = false) (a1 a2 a3 s0 : Int32) (w : pw_W) (h : jp_M_cut_19 Q X a1 a2 a3 s0 w) : pw_V l g cx_M_cut Q X 19 [(10, 0), (0, a1), (0, a2), (0, a3), (1, 0)] [(0, s0)] w := by
  unfold jp_M_cut_19 at h
  refine pv_istore (n := 21) (L' := [(10, 0), (0, a1), (0, a2), (0, a3), (0, s0)]) d_M_cut_19 (by decide) rfl rfl ?_
  refine pv_aload_n (n := 22) d_M_cut_21 rfl rfl rfl ?_
  refine pv_iload (n := 24) d_M_cut_22 rfl rfl ?_
  refine pv_if_ne (n := 27) (tgt := 31) d_M_cut_24 (by decide) rfl (fun c11 => ?_) (fun c11 => ?_)
  · replace h := h.1 c11
    refine pv_iload_n (n := 32) d_M_cut_31 rfl rfl rfl ?_
    refine pv_iconst (v := 1) (n := 33) d_M_cut_32 (by decide) rfl ?_
    refine pv_bipush (v := 20) (n := 35) d_M_cut_33 (by decide) rfl ?_
    refine pv_callS (n := 38) [(0, a3), (0, 1), (0, 20)] [(10, 0)] (con_M_isIn hl0 h) q_459 q_460 q_458 q_457 pyo_M_isIn (by decide) rfl rfl d_M_cut_35 rfl (fun w12 r13 h _ => ?_) (fun _ _ h => h.elim)
    show pw_V l g cx_M_cut Q X 38 [(10, 0), (0, a1), (0, a2), (0, a3), (0, s0)] [(0, r13), (10, 0)] w12
    refine pv_if_ne (n := 41) (tgt := 45) d_M_cut_38 (by decide) rfl (fun c14 => ?_) (fun c14 => ?_)
    · replace h := h.1 c14
      refine pv_aload_n (n := 46) d_M_cut_45 rfl rfl rfl ?_
      refine pv_iload_n (n := 47) d_M_cut_46 rfl rfl rfl ?_
      refine pv_iload_n (n := 48) d_M_cut_47 rfl rfl rfl ?_
      refine pv_iconst (v := 1) (n := 49) d_M_cut_48 (by decide) rfl ?_
      refine pv_callV (n := 52) (x := 0) [(0, a1), (0, a2), (0, 1)] [(10, 0)] (con_M_may hl0 h) pw_cf8 rfl q_591 q_592 q_593 q_458 q_590 pyo_M_may (by decide) rfl rfl (by decide) d_M_cut_49 rfl (fun w15 r16 h _ => ?_) (fun _ _ h => h.elim)
      show pw_V l g cx_M_cut Q X 52 [(10, 0), (0, a1), (0, a2), (0, a3), (0, s0)] [(0, r16), (10, 0)] w15
      refine pv_if_eq (n := 55) (tgt := 65) d_M_cut_52 (by decide) rfl (fun c17 => ?_) (fun c17 => ?_)
      · replace h := h.1 c17
        refine pv_unset (i := 1) (L1 := [(10, 0), (1, 0), (0, a2), (0, a3), (0, s0)]) rfl ?_
        refine pv_unset (i := 4) (L1 := [(10, 0), (1, 0), (0, a2), (0, a3), (1, 0)]) rfl ?_
        exact vjp_M_cut_65 hl0 _ _ _ h
      · replace h := h.2 c17
        refine pv_aload_n (n := 56) d_M_cut_55 rfl rfl rfl ?_
        obtain ⟨g18, h⟩ := h
        refine gt_M_7 (n := 59) rfl d_M_cut_56 (by decide) g18 rfl ?_
        refine pv_iload_n (n := 60) d_M_cut_59 rfl rfl rfl ?_
        obtain ⟨g19, h⟩ := h
        refine pv_iald (n := 61) (f := 206) (by decide) rfl d_M_cut_60 (by decide) g19 rfl ?_
        refine pv_iload_n (n := 62) d_M_cut_61 rfl rfl rfl ?_
        refine pv_icmp_ge (n := 65) (tgt := 69) d_M_cut_62 (by decide) rfl (fun c20 => ?_) (fun c20 => ?_)
        · replace h := h.1 c20
          refine pv_iconst (v := 0) (n := 70) d_M_cut_69 (by decide) rfl ?_
          refine pv_unset (i := 1) (L1 := [(10, 0), (1, 0), (0, a2), (0, a3), (0, s0)]) rfl ?_
          refine pv_unset (i := 4) (L1 := [(10, 0), (1, 0), (0, a2), (0, a3), (1, 0)]) rfl ?_
          exact vjp_M_cut_70 hl0 _ _ _ _ h
        · replace h := h.2 c20
          refine pv_unset (i := 1) (L1 := [(10, 0), (1, 0), (0, a2), (0, a3), (0, s0)]) rfl ?_
          refine pv_unset (i := 4) (L1 := [(10, 0), (1, 0), (0, a2), (0, a3), (1, 0)]) rfl ?_
          exact vjp_M_cut_65 hl0 _ _ _ h
    · replace h := h.2 c14
      refine pv_iconst (v := 2) (n := 42) d_M_cut_41 (by decide) rfl ?_
      refine pv_goto (tgt := 70) d_M_cut_42 (by decide) ?_
      refine pv_unset (i := 1) (L1 := [(10, 0), (1, 0), (0, a2), (0, a3), (0, s0)]) rfl ?_
      refine pv_unset (i := 4) (L1 := [(10, 0), (1, 0), (0, a2), (0, a3), (1, 0)]) rfl ?_
      exact vjp_M_cut_70 hl0 _ _ _ _ h
  · replace h := h.2 c11
    refine pv_iconst (v := 1) (n := 28) d_M_cut_27 (by decide) rfl ?_
    refine pv_goto (tgt := 70) d_M_cut_28 (by decide) ?_
    refine pv_unset (i := 1) (L1 := [(10, 0), (1, 0), (0, a2), (0, a3), (0, s0)]) rfl ?_
    refine pv_unset (i := 4) (L1 := [(10, 0), (1, 0), (0, a2), (0, a3), (1, 0)]) rfl ?_
    exact vjp_M_cut_70 hl0 _ _ _ _ h
set_option maxHeartbeats 4000000 in
set_option maxRecDepth 20000 in
def jp_M_cut_18 (Q : pw_W → Int32 → Prop) (X : pw_W → Nat → Prop) (a1 a2 a3 : Int32) (w : pw_W) : Prop := jp_M_cut_19 Q X a1 a2 a3 0 w
set_option maxHeartbeats 4000000 in
set_option maxRecDepth 20000 in
theorem vjp_M_cut_18 {l : Launch} {g : pw_G} {Q : pw_W → Int32 → Prop} {X : pw_W → Nat → Prop} (hl0 : l.stackTraces = false) (a1 a2 a3 : Int32) (w : pw_W) (h : jp_M_cut_18 Q X a1 a2 a3 w) : pw_V l g cx_M_cut Q X 18 [(10, 0), (0, a1), (0, a2), (0, a3), (1, 0)] [] w := by
  unfold jp_M_cut_18 at h
  refine pv_iconst (v := 0) (n := 19) d_M_cut_18 (by decide) rfl ?_
  exact vjp_M_cut_19 hl0 _ _ _ _ _ h
set_option maxHeartbeats 4000000 in
set_option maxRecDepth 20000 in
def wp_M_cut (w : pw_W) (a1 a2 a3 : Int32) (Q : pw_W → Int32 → Prop) (X : pw_W → Nat → Prop) : Prop := wp_M_isPerson w a1 (fun w21 r22 => (r22 = 0 → jp_M_cut_18 Q X a1 a2 a3 w21) ∧ (¬ r22 = 0 → wp_M_isSquare w21 a2 (fun w24 r25 => (r25 = 0 → jp_M_cut_18 Q X a1 a2 a3 w24) ∧ (¬ r25 = 0 → jp_M_cut_19 Q X a1 a2 a3 1 w24)) (fun _ _ => False))) (fun _ _ => False)
set_option maxHeartbeats 4000000 in
set_option maxRecDepth 20000 in
theorem vw_M_cut {l : Launch} {g : pw_G} {Q : pw_W → Int32 → Prop} {X : pw_W → Nat → Prop} (hl0 : l.stackTraces = false) {w : pw_W} {a1 a2 a3 : Int32} (h : wp_M_cut w a1 a2 a3 Q X) : pw_V l g cx_M_cut Q X 0 [(10, 0), (0, a1), (0, a2), (0, a3), (1, 0)] [] w := by
  unfold wp_M_cut at h
  refine pv_iload_n (n := 1) d_M_cut_0 rfl rfl rfl ?_
  refine pv_callS (n := 4) [(0, a1)] [] (con_M_isPerson hl0 h) q_517 q_518 q_458 q_516 pyo_M_isPerson (by decide) rfl rfl d_M_cut_1 rfl (fun w21 r22 h _ => ?_) (fun _ _ h => h.elim)
  show pw_V l g cx_M_cut Q X 4 [(10, 0), (0, a1), (0, a2), (0, a3), (1, 0)] [(0, r22)] w21
  refine pv_if_eq (n := 7) (tgt := 18) d_M_cut_4 (by decide) rfl (fun c23 => ?_) (fun c23 => ?_)
  · replace h := h.1 c23
    exact vjp_M_cut_18 hl0 _ _ _ _ h
  · replace h := h.2 c23
    refine pv_iload_n (n := 8) d_M_cut_7 rfl rfl rfl ?_
    refine pv_callS (n := 11) [(0, a2)] [] (con_M_isSquare hl0 h) q_520 q_521 q_458 q_519 pyo_M_isSquare (by decide) rfl rfl d_M_cut_8 rfl (fun w24 r25 h _ => ?_) (fun _ _ h => h.elim)
    show pw_V l g cx_M_cut Q X 11 [(10, 0), (0, a1), (0, a2), (0, a3), (1, 0)] [(0, r25)] w24
    refine pv_if_eq (n := 14) (tgt := 18) d_M_cut_11 (by decide) rfl (fun c26 => ?_) (fun c26 => ?_)
    · replace h := h.1 c26
      exact vjp_M_cut_18 hl0 _ _ _ _ h
    · replace h := h.2 c26
      refine pv_iconst (v := 1) (n := 15) d_M_cut_14 (by decide) rfl ?_
      refine pv_goto (tgt := 19) d_M_cut_15 (by decide) ?_
      exact vjp_M_cut_19 hl0 _ _ _ _ _ h
set_option maxHeartbeats 4000000 in
set_option maxRecDepth 20000 in
theorem con_M_cut {l : Launch} {g : pw_G} {Q : pw_W → Int32 → Prop} {X : pw_W → Nat → Prop} (hl0 : l.stackTraces = false) {w : pw_W} {a1 a2 a3 : Int32} (h : wp_M_cut w a1 a2 a3 Q X) : pw_Con l g y_M_cut cx_M_cut [(10, 0), (0, a1), (0, a2), (0, a3)] w Q X :=
  pw_con (by decide +kernel) rfl rfl hl0 rfl (Nat.le_of_ble_eq_true rfl) (by simp) (vw_M_cut hl0 h)
theorem d_M_wind_0 : decode (pw_cc cx_M_wind) 0 = .ok (.aload_n 0, 1) := by decide +kernel
theorem d_M_wind_1 : decode (pw_cc cx_M_wind) 1 = .ok (.iload_n 1, 1) := by decide +kernel
theorem d_M_wind_2 : decode (pw_cc cx_M_wind) 2 = .ok (.iconst 0, 1) := by decide +kernel
theorem d_M_wind_3 : decode (pw_cc cx_M_wind) 3 = .ok (.bipush 9, 2) := by decide +kernel
theorem d_M_wind_5 : decode (pw_cc cx_M_wind) 5 = .ok (.invokestatic 124, 3) := by decide +kernel
theorem d_M_wind_8 : decode (pw_cc cx_M_wind) 8 = .ok (.ifCond .eq 7, 3) := by decide +kernel
theorem d_M_wind_11 : decode (pw_cc cx_M_wind) 11 = .ok (.iconst 0, 1) := by decide +kernel
theorem d_M_wind_12 : decode (pw_cc cx_M_wind) 12 = .ok (.goto 4, 3) := by decide +kernel
theorem d_M_wind_15 : decode (pw_cc cx_M_wind) 15 = .ok (.iconst 1, 1) := by decide +kernel
theorem d_M_wind_16 : decode (pw_cc cx_M_wind) 16 = .ok (.invokevirtual 179, 3) := by decide +kernel
theorem d_M_wind_19 : decode (pw_cc cx_M_wind) 19 = .ok (.ifCond .ne 5, 3) := by decide +kernel
theorem d_M_wind_22 : decode (pw_cc cx_M_wind) 22 = .ok (.iconst 0, 1) := by decide +kernel
theorem d_M_wind_23 : decode (pw_cc cx_M_wind) 23 = .ok (.ireturn, 1) := by decide +kernel
theorem d_M_wind_24 : decode (pw_cc cx_M_wind) 24 = .ok (.aload_n 0, 1) := by decide +kernel
theorem d_M_wind_25 : decode (pw_cc cx_M_wind) 25 = .ok (.getfield 257, 3) := by decide +kernel
theorem d_M_wind_28 : decode (pw_cc cx_M_wind) 28 = .ok (.istore_n 2, 1) := by decide +kernel
theorem d_M_wind_29 : decode (pw_cc cx_M_wind) 29 = .ok (.aload_n 0, 1) := by decide +kernel
theorem d_M_wind_30 : decode (pw_cc cx_M_wind) 30 = .ok (.iload_n 1, 1) := by decide +kernel
theorem d_M_wind_31 : decode (pw_cc cx_M_wind) 31 = .ok (.putfield 257, 3) := by decide +kernel
theorem d_M_wind_34 : decode (pw_cc cx_M_wind) 34 = .ok (.iload_n 2, 1) := by decide +kernel
theorem d_M_wind_35 : decode (pw_cc cx_M_wind) 35 = .ok (.ireturn, 1) := by decide +kernel
set_option maxHeartbeats 4000000 in
set_option maxRecDepth 20000 in
def jp_M_wind_16 (Q : pw_W → Int32 → Prop) (X : pw_W → Nat → Prop) (a1 s0 : Int32) (w : pw_W) : Prop := wp_M_isFine w s0 (fun w1 r2 => (¬ r2 = 0 → ∀ v4, v4 = (w1.1 8 0 2) → ∀ w6, w6 = pw_ps w1 8 0 2 a1 → Q w6 v4) ∧ (r2 = 0 → Q w1 0)) (fun _ _ => False)
set_option maxHeartbeats 4000000 in
set_option maxRecDepth 20000 in
theorem vjp_M_wind_16 {l : Launch} {g : pw_G} {Q : pw_W → Int32 → Prop} {X : pw_W → Nat → Prop} (hl0 : l.stackTraces = false) (a1 s0 : Int32) (w : pw_W) (h : jp_M_wind_16 Q X a1 s0 w) : pw_V l g cx_M_wind Q X 16 [(10, 0), (0, a1), (1, 0)] [(0, s0), (10, 0)] w := by
  unfold jp_M_wind_16 at h
  refine pv_callV (n := 19) (x := 0) [(0, s0)] [] (con_M_isFine hl0 h) pw_cf8 rfl q_506 q_507 q_508 q_458 q_505 pyo_M_isFine (by decide) rfl rfl (by decide) d_M_wind_16 rfl (fun w1 r2 h _ => ?_) (fun _ _ h => h.elim)
  show pw_V l g cx_M_wind Q X 19 [(10, 0), (0, a1), (1, 0)] [(0, r2)] w1
  refine pv_if_ne (n := 22) (tgt := 24) d_M_wind_19 (by decide) rfl (fun c3 => ?_) (fun c3 => ?_)
  · replace h := h.1 c3
    refine pv_aload_n (n := 25) d_M_wind_24 rfl rfl rfl ?_
    refine gt_M_257 (n := 28) rfl d_M_wind_25 (by decide) rfl ?_
    refine pv_nm (fun v4 e5 => ?_)
    replace h := h v4 e5
    refine pv_istore_n (n := 29) (L' := [(10, 0), (0, a1), (0, v4)]) d_M_wind_28 rfl (by decide) rfl rfl ?_
    refine pv_aload_n (n := 30) d_M_wind_29 rfl rfl rfl ?_
    refine pv_iload_n (n := 31) d_M_wind_30 rfl rfl rfl ?_
    refine pt_M_257 (n := 34) rfl d_M_wind_31 (by decide) rfl (fun w6 e7 => ?_)
    replace h := h w6 e7
    refine pv_iload_n (n := 35) d_M_wind_34 rfl rfl rfl ?_
    exact pv_iret rfl rfl d_M_wind_35 h
  · replace h := h.2 c3
    refine pv_iconst (v := 0) (n := 23) d_M_wind_22 (by decide) rfl ?_
    exact pv_iret rfl rfl d_M_wind_23 h
set_option maxHeartbeats 4000000 in
set_option maxRecDepth 20000 in
def wp_M_wind (w : pw_W) (a1 : Int32) (Q : pw_W → Int32 → Prop) (X : pw_W → Nat → Prop) : Prop := wp_M_isIn w a1 0 9 (fun w8 r9 => (r9 = 0 → jp_M_wind_16 Q X a1 1 w8) ∧ (¬ r9 = 0 → jp_M_wind_16 Q X a1 0 w8)) (fun _ _ => False)
set_option maxHeartbeats 4000000 in
set_option maxRecDepth 20000 in
theorem vw_M_wind {l : Launch} {g : pw_G} {Q : pw_W → Int32 → Prop} {X : pw_W → Nat → Prop} (hl0 : l.stackTraces = false) {w : pw_W} {a1 : Int32} (h : wp_M_wind w a1 Q X) : pw_V l g cx_M_wind Q X 0 [(10, 0), (0, a1), (1, 0)] [] w := by
  unfold wp_M_wind at h
  refine pv_aload_n (n := 1) d_M_wind_0 rfl rfl rfl ?_
  refine pv_iload_n (n := 2) d_M_wind_1 rfl rfl rfl ?_
  refine pv_iconst (v := 0) (n := 3) d_M_wind_2 (by decide) rfl ?_
  refine pv_bipush (v := 9) (n := 5) d_M_wind_3 (by decide) rfl ?_
  refine pv_callS (n := 8) [(0, a1), (0, 0), (0, 9)] [(10, 0)] (con_M_isIn hl0 h) q_459 q_460 q_458 q_457 pyo_M_isIn (by decide) rfl rfl d_M_wind_5 rfl (fun w8 r9 h _ => ?_) (fun _ _ h => h.elim)
  show pw_V l g cx_M_wind Q X 8 [(10, 0), (0, a1), (1, 0)] [(0, r9), (10, 0)] w8
  refine pv_if_eq (n := 11) (tgt := 15) d_M_wind_8 (by decide) rfl (fun c10 => ?_) (fun c10 => ?_)
  · replace h := h.1 c10
    refine pv_iconst (v := 1) (n := 16) d_M_wind_15 (by decide) rfl ?_
    exact vjp_M_wind_16 hl0 _ _ _ h
  · replace h := h.2 c10
    refine pv_iconst (v := 0) (n := 12) d_M_wind_11 (by decide) rfl ?_
    refine pv_goto (tgt := 16) d_M_wind_12 (by decide) ?_
    exact vjp_M_wind_16 hl0 _ _ _ h
set_option maxHeartbeats 4000000 in
set_option maxRecDepth 20000 in
theorem con_M_wind {l : Launch} {g : pw_G} {Q : pw_W → Int32 → Prop} {X : pw_W → Nat → Prop} (hl0 : l.stackTraces = false) {w : pw_W} {a1 : Int32} (h : wp_M_wind w a1 Q X) : pw_Con l g y_M_wind cx_M_wind [(10, 0), (0, a1)] w Q X :=
  pw_con (by decide +kernel) rfl rfl hl0 rfl (Nat.le_of_ble_eq_true rfl) (by simp) (vw_M_wind hl0 h)
theorem d_M_wasBurnt_0 : decode (pw_cc cx_M_wasBurnt) 0 = .ok (.aload_n 0, 1) := by decide +kernel
theorem d_M_wasBurnt_1 : decode (pw_cc cx_M_wasBurnt) 1 = .ok (.getfield 204, 3) := by decide +kernel
theorem d_M_wasBurnt_4 : decode (pw_cc cx_M_wasBurnt) 4 = .ok (.aload_n 0, 1) := by decide +kernel
theorem d_M_wasBurnt_5 : decode (pw_cc cx_M_wasBurnt) 5 = .ok (.getfield 19, 3) := by decide +kernel
theorem d_M_wasBurnt_8 : decode (pw_cc cx_M_wasBurnt) 8 = .ok (.iload_n 1, 1) := by decide +kernel
theorem d_M_wasBurnt_9 : decode (pw_cc cx_M_wasBurnt) 9 = .ok (.iaload, 1) := by decide +kernel
theorem d_M_wasBurnt_10 : decode (pw_cc cx_M_wasBurnt) 10 = .ok (.isub, 1) := by decide +kernel
theorem d_M_wasBurnt_11 : decode (pw_cc cx_M_wasBurnt) 11 = .ok (.iload_n 2, 1) := by decide +kernel
theorem d_M_wasBurnt_12 : decode (pw_cc cx_M_wasBurnt) 12 = .ok (.if_icmp .ge 7, 3) := by decide +kernel
theorem d_M_wasBurnt_15 : decode (pw_cc cx_M_wasBurnt) 15 = .ok (.iconst 1, 1) := by decide +kernel
theorem d_M_wasBurnt_16 : decode (pw_cc cx_M_wasBurnt) 16 = .ok (.goto 4, 3) := by decide +kernel
theorem d_M_wasBurnt_19 : decode (pw_cc cx_M_wasBurnt) 19 = .ok (.iconst 0, 1) := by decide +kernel
theorem d_M_wasBurnt_20 : decode (pw_cc cx_M_wasBurnt) 20 = .ok (.ireturn, 1) := by decide +kernel
set_option maxHeartbeats 4000000 in
set_option maxRecDepth 20000 in
def wp_M_wasBurnt (w : pw_W) (a1 a2 : Int32) (Q : pw_W → Int32 → Prop) (X : pw_W → Nat → Prop) : Prop := w.1 8 0 9 = 0 ∧ pw_jn a1 (pw_ln w 209 0) ∧ (a2 ≤ ((w.1 8 0 1) - (w.1 209 0 (pw_i a1))) → Q w 0) ∧ (¬ a2 ≤ ((w.1 8 0 1) - (w.1 209 0 (pw_i a1))) → Q w 1)
set_option maxHeartbeats 4000000 in
set_option maxRecDepth 20000 in
theorem vw_M_wasBurnt {l : Launch} {g : pw_G} {Q : pw_W → Int32 → Prop} {X : pw_W → Nat → Prop} (hl0 : l.stackTraces = false) {w : pw_W} {a1 a2 : Int32} (h : wp_M_wasBurnt w a1 a2 Q X) : pw_V l g cx_M_wasBurnt Q X 0 [(10, 0), (0, a1), (0, a2)] [] w := by
  unfold wp_M_wasBurnt at h
  refine pv_aload_n (n := 1) d_M_wasBurnt_0 rfl rfl rfl ?_
  refine gt_M_204 (n := 4) rfl d_M_wasBurnt_1 (by decide) rfl ?_
  refine pv_aload_n (n := 5) d_M_wasBurnt_4 rfl rfl rfl ?_
  obtain ⟨g1, h⟩ := h
  refine gt_M_19 (n := 8) rfl d_M_wasBurnt_5 (by decide) g1 rfl ?_
  refine pv_iload_n (n := 9) d_M_wasBurnt_8 rfl rfl rfl ?_
  obtain ⟨g2, h⟩ := h
  refine pv_iald (n := 10) (f := 209) (by decide) rfl d_M_wasBurnt_9 (by decide) g2 rfl ?_
  refine pv_isub (n := 11) d_M_wasBurnt_10 rfl ?_
  refine pv_iload_n (n := 12) d_M_wasBurnt_11 rfl rfl rfl ?_
  refine pv_icmp_ge (n := 15) (tgt := 19) d_M_wasBurnt_12 (by decide) rfl (fun c3 => ?_) (fun c3 => ?_)
  · replace h := h.1 c3
    refine pv_iconst (v := 0) (n := 20) d_M_wasBurnt_19 (by decide) rfl ?_
    exact pv_zret rfl rfl d_M_wasBurnt_20 (by decide) h
  · replace h := h.2 c3
    refine pv_iconst (v := 1) (n := 16) d_M_wasBurnt_15 (by decide) rfl ?_
    refine pv_goto (tgt := 20) d_M_wasBurnt_16 (by decide) ?_
    exact pv_zret rfl rfl d_M_wasBurnt_20 (by decide) h
set_option maxHeartbeats 4000000 in
set_option maxRecDepth 20000 in
theorem con_M_wasBurnt {l : Launch} {g : pw_G} {Q : pw_W → Int32 → Prop} {X : pw_W → Nat → Prop} (hl0 : l.stackTraces = false) {w : pw_W} {a1 a2 : Int32} (h : wp_M_wasBurnt w a1 a2 Q X) : pw_Con l g y_M_wasBurnt cx_M_wasBurnt [(10, 0), (0, a1), (0, a2)] w Q X :=
  pw_con (by decide +kernel) rfl rfl hl0 rfl (Nat.le_of_ble_eq_true rfl) (by simp) (vw_M_wasBurnt hl0 h)
theorem d_M_burns_0 : decode (pw_cc cx_M_burns) 0 = .ok (.aload_n 0, 1) := by decide +kernel
theorem d_M_burns_1 : decode (pw_cc cx_M_burns) 1 = .ok (.getfield 257, 3) := by decide +kernel
theorem d_M_burns_4 : decode (pw_cc cx_M_burns) 4 = .ok (.iconst 3, 1) := by decide +kernel
theorem d_M_burns_5 : decode (pw_cc cx_M_burns) 5 = .ok (.if_icmp .gt 48, 3) := by decide +kernel
theorem d_M_burns_8 : decode (pw_cc cx_M_burns) 8 = .ok (.aload_n 0, 1) := by decide +kernel
theorem d_M_burns_9 : decode (pw_cc cx_M_burns) 9 = .ok (.getfield 13, 3) := by decide +kernel
theorem d_M_burns_12 : decode (pw_cc cx_M_burns) 12 = .ok (.iload_n 1, 1) := by decide +kernel
theorem d_M_burns_13 : decode (pw_cc cx_M_burns) 13 = .ok (.iaload, 1) := by decide +kernel
theorem d_M_burns_14 : decode (pw_cc cx_M_burns) 14 = .ok (.bipush 30, 2) := by decide +kernel
theorem d_M_burns_16 : decode (pw_cc cx_M_burns) 16 = .ok (.if_icmp .gt 37, 3) := by decide +kernel
theorem d_M_burns_19 : decode (pw_cc cx_M_burns) 19 = .ok (.aload_n 0, 1) := by decide +kernel
theorem d_M_burns_20 : decode (pw_cc cx_M_burns) 20 = .ok (.getfield 204, 3) := by decide +kernel
theorem d_M_burns_23 : decode (pw_cc cx_M_burns) 23 = .ok (.sipush 360, 3) := by decide +kernel
theorem d_M_burns_26 : decode (pw_cc cx_M_burns) 26 = .ok (.irem, 1) := by decide +kernel
theorem d_M_burns_27 : decode (pw_cc cx_M_burns) 27 = .ok (.bipush 60, 2) := by decide +kernel
theorem d_M_burns_29 : decode (pw_cc cx_M_burns) 29 = .ok (.sipush 150, 3) := by decide +kernel
theorem d_M_burns_32 : decode (pw_cc cx_M_burns) 32 = .ok (.invokestatic 124, 3) := by decide +kernel
theorem d_M_burns_35 : decode (pw_cc cx_M_burns) 35 = .ok (.ifCond .eq 18, 3) := by decide +kernel
theorem d_M_burns_38 : decode (pw_cc cx_M_burns) 38 = .ok (.aload_n 0, 1) := by decide +kernel
theorem d_M_burns_39 : decode (pw_cc cx_M_burns) 39 = .ok (.iload_n 1, 1) := by decide +kernel
theorem d_M_burns_40 : decode (pw_cc cx_M_burns) 40 = .ok (.sipush 1080, 3) := by decide +kernel
theorem d_M_burns_43 : decode (pw_cc cx_M_burns) 43 = .ok (.invokevirtual 260, 3) := by decide +kernel
theorem d_M_burns_46 : decode (pw_cc cx_M_burns) 46 = .ok (.ifCond .ne 7, 3) := by decide +kernel
theorem d_M_burns_49 : decode (pw_cc cx_M_burns) 49 = .ok (.iconst 1, 1) := by decide +kernel
theorem d_M_burns_50 : decode (pw_cc cx_M_burns) 50 = .ok (.goto 4, 3) := by decide +kernel
theorem d_M_burns_53 : decode (pw_cc cx_M_burns) 53 = .ok (.iconst 0, 1) := by decide +kernel
theorem d_M_burns_54 : decode (pw_cc cx_M_burns) 54 = .ok (.ireturn, 1) := by decide +kernel
set_option maxHeartbeats 4000000 in
set_option maxRecDepth 20000 in
def wp_M_burns (w : pw_W) (a1 : Int32) (Q : pw_W → Int32 → Prop) (X : pw_W → Nat → Prop) : Prop := ((3 : Int32) < (w.1 8 0 2) → Q w 0) ∧ (¬ (3 : Int32) < (w.1 8 0 2) → w.1 8 0 7 = 0 ∧ pw_jn a1 (pw_ln w 207 0) ∧ ((30 : Int32) < (w.1 207 0 (pw_i a1)) → Q w 0) ∧ (¬ (30 : Int32) < (w.1 207 0 (pw_i a1)) → wp_M_isIn w ((w.1 8 0 1) - (w.1 8 0 1) / 360 * 360) 60 150 (fun w5 r6 => (r6 = 0 → Q w5 0) ∧ (¬ r6 = 0 → wp_M_wasBurnt w5 a1 1080 (fun w8 r9 => (¬ r9 = 0 → Q w8 0) ∧ (r9 = 0 → Q w8 1)) (fun _ _ => False))) (fun _ _ => False)))
set_option maxHeartbeats 4000000 in
set_option maxRecDepth 20000 in
theorem vw_M_burns {l : Launch} {g : pw_G} {Q : pw_W → Int32 → Prop} {X : pw_W → Nat → Prop} (hl0 : l.stackTraces = false) {w : pw_W} {a1 : Int32} (h : wp_M_burns w a1 Q X) : pw_V l g cx_M_burns Q X 0 [(10, 0), (0, a1)] [] w := by
  unfold wp_M_burns at h
  refine pv_aload_n (n := 1) d_M_burns_0 rfl rfl rfl ?_
  refine gt_M_257 (n := 4) rfl d_M_burns_1 (by decide) rfl ?_
  refine pv_iconst (v := 3) (n := 5) d_M_burns_4 (by decide) rfl ?_
  refine pv_icmp_gt (n := 8) (tgt := 53) d_M_burns_5 (by decide) rfl (fun c1 => ?_) (fun c1 => ?_)
  · replace h := h.1 c1
    refine pv_iconst (v := 0) (n := 54) d_M_burns_53 (by decide) rfl ?_
    exact pv_zret rfl rfl d_M_burns_54 (by decide) h
  · replace h := h.2 c1
    refine pv_aload_n (n := 9) d_M_burns_8 rfl rfl rfl ?_
    obtain ⟨g2, h⟩ := h
    refine gt_M_13 (n := 12) rfl d_M_burns_9 (by decide) g2 rfl ?_
    refine pv_iload_n (n := 13) d_M_burns_12 rfl rfl rfl ?_
    obtain ⟨g3, h⟩ := h
    refine pv_iald (n := 14) (f := 207) (by decide) rfl d_M_burns_13 (by decide) g3 rfl ?_
    refine pv_bipush (v := 30) (n := 16) d_M_burns_14 (by decide) rfl ?_
    refine pv_icmp_gt (n := 19) (tgt := 53) d_M_burns_16 (by decide) rfl (fun c4 => ?_) (fun c4 => ?_)
    · replace h := h.1 c4
      refine pv_iconst (v := 0) (n := 54) d_M_burns_53 (by decide) rfl ?_
      exact pv_zret rfl rfl d_M_burns_54 (by decide) h
    · replace h := h.2 c4
      refine pv_aload_n (n := 20) d_M_burns_19 rfl rfl rfl ?_
      refine gt_M_204 (n := 23) rfl d_M_burns_20 (by decide) rfl ?_
      refine pv_sipush (v := 360) (n := 26) d_M_burns_23 (by decide) rfl ?_
      refine pv_irem (n := 27) d_M_burns_26 (by decide) rfl ?_
      refine pv_bipush (v := 60) (n := 29) d_M_burns_27 (by decide) rfl ?_
      refine pv_sipush (v := 150) (n := 32) d_M_burns_29 (by decide) rfl ?_
      refine pv_callS (n := 35) [(0, ((w.1 8 0 1) - (w.1 8 0 1) / 360 * 360)), (0, 60), (0, 150)] [] (con_M_isIn hl0 h) q_459 q_460 q_458 q_457 pyo_M_isIn (by decide) rfl rfl d_M_burns_32 rfl (fun w5 r6 h _ => ?_) (fun _ _ h => h.elim)
      show pw_V l g cx_M_burns Q X 35 [(10, 0), (0, a1)] [(0, r6)] w5
      refine pv_if_eq (n := 38) (tgt := 53) d_M_burns_35 (by decide) rfl (fun c7 => ?_) (fun c7 => ?_)
      · replace h := h.1 c7
        refine pv_iconst (v := 0) (n := 54) d_M_burns_53 (by decide) rfl ?_
        exact pv_zret rfl rfl d_M_burns_54 (by decide) h
      · replace h := h.2 c7
        refine pv_aload_n (n := 39) d_M_burns_38 rfl rfl rfl ?_
        refine pv_iload_n (n := 40) d_M_burns_39 rfl rfl rfl ?_
        refine pv_sipush (v := 1080) (n := 43) d_M_burns_40 (by decide) rfl ?_
        refine pv_callV (n := 46) (x := 0) [(0, a1), (0, 1080)] [] (con_M_wasBurnt hl0 h) pw_cf8 rfl q_596 q_597 q_598 q_458 q_595 pyo_M_wasBurnt (by decide) rfl rfl (by decide) d_M_burns_43 rfl (fun w8 r9 h _ => ?_) (fun _ _ h => h.elim)
        show pw_V l g cx_M_burns Q X 46 [(10, 0), (0, a1)] [(0, r9)] w8
        refine pv_if_ne (n := 49) (tgt := 53) d_M_burns_46 (by decide) rfl (fun c10 => ?_) (fun c10 => ?_)
        · replace h := h.1 c10
          refine pv_iconst (v := 0) (n := 54) d_M_burns_53 (by decide) rfl ?_
          exact pv_zret rfl rfl d_M_burns_54 (by decide) h
        · replace h := h.2 c10
          refine pv_iconst (v := 1) (n := 50) d_M_burns_49 (by decide) rfl ?_
          refine pv_goto (tgt := 54) d_M_burns_50 (by decide) ?_
          exact pv_zret rfl rfl d_M_burns_54 (by decide) h
set_option maxHeartbeats 4000000 in
set_option maxRecDepth 20000 in
theorem con_M_burns {l : Launch} {g : pw_G} {Q : pw_W → Int32 → Prop} {X : pw_W → Nat → Prop} (hl0 : l.stackTraces = false) {w : pw_W} {a1 : Int32} (h : wp_M_burns w a1 Q X) : pw_Con l g y_M_burns cx_M_burns [(10, 0), (0, a1)] w Q X :=
  pw_con (by decide +kernel) rfl rfl hl0 rfl (Nat.le_of_ble_eq_true rfl) (by simp) (vw_M_burns hl0 h)
theorem d_M_burn_0 : decode (pw_cc cx_M_burn) 0 = .ok (.iload_n 1, 1) := by decide +kernel
theorem d_M_burn_1 : decode (pw_cc cx_M_burn) 1 = .ok (.invokestatic 166, 3) := by decide +kernel
theorem d_M_burn_4 : decode (pw_cc cx_M_burn) 4 = .ok (.ifCond .eq 14, 3) := by decide +kernel
theorem d_M_burn_7 : decode (pw_cc cx_M_burn) 7 = .ok (.iload_n 2, 1) := by decide +kernel
theorem d_M_burn_8 : decode (pw_cc cx_M_burn) 8 = .ok (.invokestatic 163, 3) := by decide +kernel
theorem d_M_burn_11 : decode (pw_cc cx_M_burn) 11 = .ok (.ifCond .eq 7, 3) := by decide +kernel
theorem d_M_burn_14 : decode (pw_cc cx_M_burn) 14 = .ok (.iconst 1, 1) := by decide +kernel
theorem d_M_burn_15 : decode (pw_cc cx_M_burn) 15 = .ok (.goto 4, 3) := by decide +kernel
theorem d_M_burn_18 : decode (pw_cc cx_M_burn) 18 = .ok (.iconst 0, 1) := by decide +kernel
theorem d_M_burn_19 : decode (pw_cc cx_M_burn) 19 = .ok (.istore_n 3, 1) := by decide +kernel
theorem d_M_burn_20 : decode (pw_cc cx_M_burn) 20 = .ok (.aload_n 0, 1) := by decide +kernel
theorem d_M_burn_21 : decode (pw_cc cx_M_burn) 21 = .ok (.iload_n 3, 1) := by decide +kernel
theorem d_M_burn_22 : decode (pw_cc cx_M_burn) 22 = .ok (.ifCond .ne 7, 3) := by decide +kernel
theorem d_M_burn_25 : decode (pw_cc cx_M_burn) 25 = .ok (.iconst 1, 1) := by decide +kernel
theorem d_M_burn_26 : decode (pw_cc cx_M_burn) 26 = .ok (.goto 26, 3) := by decide +kernel
theorem d_M_burn_29 : decode (pw_cc cx_M_burn) 29 = .ok (.aload_n 0, 1) := by decide +kernel
theorem d_M_burn_30 : decode (pw_cc cx_M_burn) 30 = .ok (.iload_n 1, 1) := by decide +kernel
theorem d_M_burn_31 : decode (pw_cc cx_M_burn) 31 = .ok (.iload_n 2, 1) := by decide +kernel
theorem d_M_burn_32 : decode (pw_cc cx_M_burn) 32 = .ok (.iconst 2, 1) := by decide +kernel
theorem d_M_burn_33 : decode (pw_cc cx_M_burn) 33 = .ok (.invokevirtual 254, 3) := by decide +kernel
theorem d_M_burn_36 : decode (pw_cc cx_M_burn) 36 = .ok (.ifCond .eq 11, 3) := by decide +kernel
theorem d_M_burn_39 : decode (pw_cc cx_M_burn) 39 = .ok (.aload_n 0, 1) := by decide +kernel
theorem d_M_burn_40 : decode (pw_cc cx_M_burn) 40 = .ok (.iload_n 2, 1) := by decide +kernel
theorem d_M_burn_41 : decode (pw_cc cx_M_burn) 41 = .ok (.invokevirtual 263, 3) := by decide +kernel
theorem d_M_burn_44 : decode (pw_cc cx_M_burn) 44 = .ok (.ifCond .ne 7, 3) := by decide +kernel
theorem d_M_burn_47 : decode (pw_cc cx_M_burn) 47 = .ok (.iconst 2, 1) := by decide +kernel
theorem d_M_burn_48 : decode (pw_cc cx_M_burn) 48 = .ok (.goto 4, 3) := by decide +kernel
theorem d_M_burn_51 : decode (pw_cc cx_M_burn) 51 = .ok (.iconst 0, 1) := by decide +kernel
theorem d_M_burn_52 : decode (pw_cc cx_M_burn) 52 = .ok (.invokevirtual 179, 3) := by decide +kernel
theorem d_M_burn_55 : decode (pw_cc cx_M_burn) 55 = .ok (.ifCond .ne 5, 3) := by decide +kernel
theorem d_M_burn_58 : decode (pw_cc cx_M_burn) 58 = .ok (.iconst 0, 1) := by decide +kernel
theorem d_M_burn_59 : decode (pw_cc cx_M_burn) 59 = .ok (.ireturn, 1) := by decide +kernel
theorem d_M_burn_60 : decode (pw_cc cx_M_burn) 60 = .ok (.aload_n 0, 1) := by decide +kernel
theorem d_M_burn_61 : decode (pw_cc cx_M_burn) 61 = .ok (.getfield 19, 3) := by decide +kernel
theorem d_M_burn_64 : decode (pw_cc cx_M_burn) 64 = .ok (.iload_n 2, 1) := by decide +kernel
theorem d_M_burn_65 : decode (pw_cc cx_M_burn) 65 = .ok (.aload_n 0, 1) := by decide +kernel
theorem d_M_burn_66 : decode (pw_cc cx_M_burn) 66 = .ok (.getfield 204, 3) := by decide +kernel
theorem d_M_burn_69 : decode (pw_cc cx_M_burn) 69 = .ok (.iastore, 1) := by decide +kernel
theorem d_M_burn_70 : decode (pw_cc cx_M_burn) 70 = .ok (.aload_n 0, 1) := by decide +kernel
theorem d_M_burn_71 : decode (pw_cc cx_M_burn) 71 = .ok (.getfield 7, 3) := by decide +kernel
theorem d_M_burn_74 : decode (pw_cc cx_M_burn) 74 = .ok (.iload_n 2, 1) := by decide +kernel
theorem d_M_burn_75 : decode (pw_cc cx_M_burn) 75 = .ok (.dup2, 1) := by decide +kernel
theorem d_M_burn_76 : decode (pw_cc cx_M_burn) 76 = .ok (.iaload, 1) := by decide +kernel
theorem d_M_burn_77 : decode (pw_cc cx_M_burn) 77 = .ok (.aload_n 0, 1) := by decide +kernel
theorem d_M_burn_78 : decode (pw_cc cx_M_burn) 78 = .ok (.getfield 7, 3) := by decide +kernel
theorem d_M_burn_81 : decode (pw_cc cx_M_burn) 81 = .ok (.iload_n 2, 1) := by decide +kernel
theorem d_M_burn_82 : decode (pw_cc cx_M_burn) 82 = .ok (.iaload, 1) := by decide +kernel
theorem d_M_burn_83 : decode (pw_cc cx_M_burn) 83 = .ok (.iconst 5, 1) := by decide +kernel
theorem d_M_burn_84 : decode (pw_cc cx_M_burn) 84 = .ok (.invokestatic 142, 3) := by decide +kernel
theorem d_M_burn_87 : decode (pw_cc cx_M_burn) 87 = .ok (.isub, 1) := by decide +kernel
theorem d_M_burn_88 : decode (pw_cc cx_M_burn) 88 = .ok (.iastore, 1) := by decide +kernel
theorem d_M_burn_89 : decode (pw_cc cx_M_burn) 89 = .ok (.aload_n 0, 1) := by decide +kernel
theorem d_M_burn_90 : decode (pw_cc cx_M_burn) 90 = .ok (.getfield 7, 3) := by decide +kernel
theorem d_M_burn_93 : decode (pw_cc cx_M_burn) 93 = .ok (.iload_n 2, 1) := by decide +kernel
theorem d_M_burn_94 : decode (pw_cc cx_M_burn) 94 = .ok (.iaload, 1) := by decide +kernel
theorem d_M_burn_95 : decode (pw_cc cx_M_burn) 95 = .ok (.ireturn, 1) := by decide +kernel
set_option maxHeartbeats 4000000 in
set_option maxRecDepth 20000 in
def jp_M_burn_52 (Q : pw_W → Int32 → Prop) (X : pw_W → Nat → Prop) (a2 s0 : Int32) (w : pw_W) : Prop := wp_M_isFine w s0 (fun w1 r2 => (¬ r2 = 0 → w1.1 8 0 9 = 0 ∧ pw_jn a2 (pw_ln w1 209 0) ∧ ∀ w6, w6 = pw_ps w1 209 0 (pw_i a2) (w1.1 8 0 1) → w6.1 8 0 6 = 0 ∧ pw_jn a2 (pw_ln w6 206 0) ∧ w6.1 8 0 6 = 0 ∧ pw_jn a2 (pw_ln w6 206 0) ∧ wp_M_lesser w6 (w6.1 206 0 (pw_i a2)) 5 (fun w12 r13 => pw_jn a2 (pw_ln w12 206 0) ∧ ∀ w15, w15 = pw_ps w12 206 0 (pw_i a2) ((w6.1 206 0 (pw_i a2)) - r13) → w15.1 8 0 6 = 0 ∧ pw_jn a2 (pw_ln w15 206 0) ∧ Q w15 (w15.1 206 0 (pw_i a2))) (fun _ _ => False)) ∧ (r2 = 0 → Q w1 0)) (fun _ _ => False)
set_option maxHeartbeats 4000000 in
set_option maxRecDepth 20000 in
theorem vjp_M_burn_52 {l : Launch} {g : pw_G} {Q : pw_W → Int32 → Prop} {X : pw_W → Nat → Prop} (hl0 : l.stackTraces = false) (a2 s0 : Int32) (w : pw_W) (h : jp_M_burn_52 Q X a2 s0 w) : pw_V l g cx_M_burn Q X 52 [(10, 0), (1, 0), (0, a2), (1, 0)] [(0, s0), (10, 0)] w := by
  unfold jp_M_burn_52 at h
  refine pv_callV (n := 55) (x := 0) [(0, s0)] [] (con_M_isFine hl0 h) pw_cf8 rfl q_506 q_507 q_508 q_458 q_505 pyo_M_isFine (by decide) rfl rfl (by decide) d_M_burn_52 rfl (fun w1 r2 h _ => ?_) (fun _ _ h => h.elim)
  show pw_V l g cx_M_burn Q X 55 [(10, 0), (1, 0), (0, a2), (1, 0)] [(0, r2)] w1
  refine pv_if_ne (n := 58) (tgt := 60) d_M_burn_55 (by decide) rfl (fun c3 => ?_) (fun c3 => ?_)
  · replace h := h.1 c3
    refine pv_aload_n (n := 61) d_M_burn_60 rfl rfl rfl ?_
    obtain ⟨g4, h⟩ := h
    refine gt_M_19 (n := 64) rfl d_M_burn_61 (by decide) g4 rfl ?_
    refine pv_iload_n (n := 65) d_M_burn_64 rfl rfl rfl ?_
    refine pv_aload_n (n := 66) d_M_burn_65 rfl rfl rfl ?_
    refine gt_M_204 (n := 69) rfl d_M_burn_66 (by decide) rfl ?_
    obtain ⟨g5, h⟩ := h
    refine pv_iast1 (n := 70) (f := 209) (by decide) rfl (fun _ => rfl) d_M_burn_69 (by decide) g5 rfl (fun w6 e7 => ?_)
    replace h := h w6 e7
    refine pv_aload_n (n := 71) d_M_burn_70 rfl rfl rfl ?_
    obtain ⟨g8, h⟩ := h
    refine gt_M_7 (n := 74) rfl d_M_burn_71 (by decide) g8 rfl ?_
    refine pv_iload_n (n := 75) d_M_burn_74 rfl rfl rfl ?_
    refine pv_dup2 (n := 76) d_M_burn_75 (by decide) (by decide) rfl ?_
    obtain ⟨g9, h⟩ := h
    refine pv_iald (n := 77) (f := 206) (by decide) rfl d_M_burn_76 (by decide) g9 rfl ?_
    refine pv_aload_n (n := 78) d_M_burn_77 rfl rfl rfl ?_
    obtain ⟨g10, h⟩ := h
    refine gt_M_7 (n := 81) rfl d_M_burn_78 (by decide) g10 rfl ?_
    refine pv_iload_n (n := 82) d_M_burn_81 rfl rfl rfl ?_
    obtain ⟨g11, h⟩ := h
    refine pv_iald (n := 83) (f := 206) (by decide) rfl d_M_burn_82 (by decide) g11 rfl ?_
    refine pv_iconst (v := 5) (n := 84) d_M_burn_83 (by decide) rfl ?_
    refine pv_callS (n := 87) [(0, (w6.1 206 0 (pw_i a2))), (0, 5)] [(0, (w6.1 206 0 (pw_i a2))), (0, a2), (208, 0)] (con_M_lesser hl0 h) q_468 q_469 q_458 q_467 pyo_M_lesser (by decide) rfl rfl d_M_burn_84 rfl (fun w12 r13 h _ => ?_) (fun _ _ h => h.elim)
    show pw_V l g cx_M_burn Q X 87 [(10, 0), (1, 0), (0, a2), (1, 0)] [(0, r13), (0, (w6.1 206 0 (pw_i a2))), (0, a2), (208, 0)] w12
    refine pv_isub (n := 88) d_M_burn_87 rfl ?_
    obtain ⟨g14, h⟩ := h
    refine pv_iast1 (n := 89) (f := 206) (by decide) rfl (fun _ => rfl) d_M_burn_88 (by decide) g14 rfl (fun w15 e16 => ?_)
    replace h := h w15 e16
    refine pv_aload_n (n := 90) d_M_burn_89 rfl rfl rfl ?_
    obtain ⟨g17, h⟩ := h
    refine gt_M_7 (n := 93) rfl d_M_burn_90 (by decide) g17 rfl ?_
    refine pv_iload_n (n := 94) d_M_burn_93 rfl rfl rfl ?_
    obtain ⟨g18, h⟩ := h
    refine pv_iald (n := 95) (f := 206) (by decide) rfl d_M_burn_94 (by decide) g18 rfl ?_
    exact pv_iret rfl rfl d_M_burn_95 h
  · replace h := h.2 c3
    refine pv_iconst (v := 0) (n := 59) d_M_burn_58 (by decide) rfl ?_
    exact pv_iret rfl rfl d_M_burn_59 h
set_option maxHeartbeats 4000000 in
set_option maxRecDepth 20000 in
def jp_M_burn_47 (Q : pw_W → Int32 → Prop) (X : pw_W → Nat → Prop) (a2 : Int32) (w : pw_W) : Prop := jp_M_burn_52 Q X a2 2 w
set_option maxHeartbeats 4000000 in
set_option maxRecDepth 20000 in
theorem vjp_M_burn_47 {l : Launch} {g : pw_G} {Q : pw_W → Int32 → Prop} {X : pw_W → Nat → Prop} (hl0 : l.stackTraces = false) (a2 : Int32) (w : pw_W) (h : jp_M_burn_47 Q X a2 w) : pw_V l g cx_M_burn Q X 47 [(10, 0), (1, 0), (0, a2), (1, 0)] [(10, 0)] w := by
  unfold jp_M_burn_47 at h
  refine pv_iconst (v := 2) (n := 48) d_M_burn_47 (by decide) rfl ?_
  refine pv_goto (tgt := 52) d_M_burn_48 (by decide) ?_
  exact vjp_M_burn_52 hl0 _ _ _ h
set_option maxHeartbeats 4000000 in
set_option maxRecDepth 20000 in
def jp_M_burn_19 (Q : pw_W → Int32 → Prop) (X : pw_W → Nat → Prop) (a1 a2 s0 : Int32) (w : pw_W) : Prop := (¬ s0 = 0 → wp_M_may w a1 a2 2 (fun w20 r21 => (r21 = 0 → jp_M_burn_47 Q X a2 w20) ∧ (¬ r21 = 0 → wp_M_burns w20 a2 (fun w23 r24 => (¬ r24 = 0 → jp_M_burn_52 Q X a2 0 w23) ∧ (r24 = 0 → jp_M_burn_47 Q X a2 w23)) (fun _ _ => False))) (fun _ _ => False)) ∧ (s0 = 0 → jp_M_burn_52 Q X a2 1 w)
set_option maxHeartbeats 4000000 in
set_option maxRecDepth 20000 in
theorem vjp_M_burn_19 {l : Launch} {g : pw_G} {Q : pw_W → Int32 → Prop} {X : pw_W → Nat → Prop} (hl0 : l.stackTraces = false) (a1 a2 s0 : Int32) (w : pw_W) (h : jp_M_burn_19 Q X a1 a2 s0 w) : pw_V l g cx_M_burn Q X 19 [(10, 0), (0, a1), (0, a2), (1, 0)] [(0, s0)] w := by
  unfold jp_M_burn_19 at h
  refine pv_istore_n (n := 20) (L' := [(10, 0), (0, a1), (0, a2), (0, s0)]) d_M_burn_19 rfl (by decide) rfl rfl ?_
  refine pv_aload_n (n := 21) d_M_burn_20 rfl rfl rfl ?_
  refine pv_iload_n (n := 22) d_M_burn_21 rfl rfl rfl ?_
  refine pv_if_ne (n := 25) (tgt := 29) d_M_burn_22 (by decide) rfl (fun c19 => ?_) (fun c19 => ?_)
  · replace h := h.1 c19
    refine pv_aload_n (n := 30) d_M_burn_29 rfl rfl rfl ?_
    refine pv_iload_n (n := 31) d_M_burn_30 rfl rfl rfl ?_
    refine pv_iload_n (n := 32) d_M_burn_31 rfl rfl rfl ?_
    refine pv_iconst (v := 2) (n := 33) d_M_burn_32 (by decide) rfl ?_
    refine pv_callV (n := 36) (x := 0) [(0, a1), (0, a2), (0, 2)] [(10, 0)] (con_M_may hl0 h) pw_cf8 rfl q_591 q_592 q_593 q_458 q_590 pyo_M_may (by decide) rfl rfl (by decide) d_M_burn_33 rfl (fun w20 r21 h _ => ?_) (fun _ _ h => h.elim)
    show pw_V l g cx_M_burn Q X 36 [(10, 0), (0, a1), (0, a2), (0, s0)] [(0, r21), (10, 0)] w20
    refine pv_if_eq (n := 39) (tgt := 47) d_M_burn_36 (by decide) rfl (fun c22 => ?_) (fun c22 => ?_)
    · replace h := h.1 c22
      refine pv_unset (i := 1) (L1 := [(10, 0), (1, 0), (0, a2), (0, s0)]) rfl ?_
      refine pv_unset (i := 3) (L1 := [(10, 0), (1, 0), (0, a2), (1, 0)]) rfl ?_
      exact vjp_M_burn_47 hl0 _ _ h
    · replace h := h.2 c22
      refine pv_aload_n (n := 40) d_M_burn_39 rfl rfl rfl ?_
      refine pv_iload_n (n := 41) d_M_burn_40 rfl rfl rfl ?_
      refine pv_callV (n := 44) (x := 0) [(0, a2)] [(10, 0)] (con_M_burns hl0 h) pw_cf8 rfl q_600 q_601 q_602 q_458 q_599 pyo_M_burns (by decide) rfl rfl (by decide) d_M_burn_41 rfl (fun w23 r24 h _ => ?_) (fun _ _ h => h.elim)
      show pw_V l g cx_M_burn Q X 44 [(10, 0), (0, a1), (0, a2), (0, s0)] [(0, r24), (10, 0)] w23
      refine pv_if_ne (n := 47) (tgt := 51) d_M_burn_44 (by decide) rfl (fun c25 => ?_) (fun c25 => ?_)
      · replace h := h.1 c25
        refine pv_iconst (v := 0) (n := 52) d_M_burn_51 (by decide) rfl ?_
        refine pv_unset (i := 1) (L1 := [(10, 0), (1, 0), (0, a2), (0, s0)]) rfl ?_
        refine pv_unset (i := 3) (L1 := [(10, 0), (1, 0), (0, a2), (1, 0)]) rfl ?_
        exact vjp_M_burn_52 hl0 _ _ _ h
      · replace h := h.2 c25
        refine pv_unset (i := 1) (L1 := [(10, 0), (1, 0), (0, a2), (0, s0)]) rfl ?_
        refine pv_unset (i := 3) (L1 := [(10, 0), (1, 0), (0, a2), (1, 0)]) rfl ?_
        exact vjp_M_burn_47 hl0 _ _ h
  · replace h := h.2 c19
    refine pv_iconst (v := 1) (n := 26) d_M_burn_25 (by decide) rfl ?_
    refine pv_goto (tgt := 52) d_M_burn_26 (by decide) ?_
    refine pv_unset (i := 1) (L1 := [(10, 0), (1, 0), (0, a2), (0, s0)]) rfl ?_
    refine pv_unset (i := 3) (L1 := [(10, 0), (1, 0), (0, a2), (1, 0)]) rfl ?_
    exact vjp_M_burn_52 hl0 _ _ _ h
set_option maxHeartbeats 4000000 in
set_option maxRecDepth 20000 in
def jp_M_burn_18 (Q : pw_W → Int32 → Prop) (X : pw_W → Nat → Prop) (a1 a2 : Int32) (w : pw_W) : Prop := jp_M_burn_19 Q X a1 a2 0 w
set_option maxHeartbeats 4000000 in
set_option maxRecDepth 20000 in
theorem vjp_M_burn_18 {l : Launch} {g : pw_G} {Q : pw_W → Int32 → Prop} {X : pw_W → Nat → Prop} (hl0 : l.stackTraces = false) (a1 a2 : Int32) (w : pw_W) (h : jp_M_burn_18 Q X a1 a2 w) : pw_V l g cx_M_burn Q X 18 [(10, 0), (0, a1), (0, a2), (1, 0)] [] w := by
  unfold jp_M_burn_18 at h
  refine pv_iconst (v := 0) (n := 19) d_M_burn_18 (by decide) rfl ?_
  exact vjp_M_burn_19 hl0 _ _ _ _ h
set_option maxHeartbeats 4000000 in
set_option maxRecDepth 20000 in
def wp_M_burn (w : pw_W) (a1 a2 : Int32) (Q : pw_W → Int32 → Prop) (X : pw_W → Nat → Prop) : Prop := wp_M_isPerson w a1 (fun w26 r27 => (r27 = 0 → jp_M_burn_18 Q X a1 a2 w26) ∧ (¬ r27 = 0 → wp_M_isSquare w26 a2 (fun w29 r30 => (r30 = 0 → jp_M_burn_18 Q X a1 a2 w29) ∧ (¬ r30 = 0 → jp_M_burn_19 Q X a1 a2 1 w29)) (fun _ _ => False))) (fun _ _ => False)
set_option maxHeartbeats 4000000 in
set_option maxRecDepth 20000 in
theorem vw_M_burn {l : Launch} {g : pw_G} {Q : pw_W → Int32 → Prop} {X : pw_W → Nat → Prop} (hl0 : l.stackTraces = false) {w : pw_W} {a1 a2 : Int32} (h : wp_M_burn w a1 a2 Q X) : pw_V l g cx_M_burn Q X 0 [(10, 0), (0, a1), (0, a2), (1, 0)] [] w := by
  unfold wp_M_burn at h
  refine pv_iload_n (n := 1) d_M_burn_0 rfl rfl rfl ?_
  refine pv_callS (n := 4) [(0, a1)] [] (con_M_isPerson hl0 h) q_517 q_518 q_458 q_516 pyo_M_isPerson (by decide) rfl rfl d_M_burn_1 rfl (fun w26 r27 h _ => ?_) (fun _ _ h => h.elim)
  show pw_V l g cx_M_burn Q X 4 [(10, 0), (0, a1), (0, a2), (1, 0)] [(0, r27)] w26
  refine pv_if_eq (n := 7) (tgt := 18) d_M_burn_4 (by decide) rfl (fun c28 => ?_) (fun c28 => ?_)
  · replace h := h.1 c28
    exact vjp_M_burn_18 hl0 _ _ _ h
  · replace h := h.2 c28
    refine pv_iload_n (n := 8) d_M_burn_7 rfl rfl rfl ?_
    refine pv_callS (n := 11) [(0, a2)] [] (con_M_isSquare hl0 h) q_520 q_521 q_458 q_519 pyo_M_isSquare (by decide) rfl rfl d_M_burn_8 rfl (fun w29 r30 h _ => ?_) (fun _ _ h => h.elim)
    show pw_V l g cx_M_burn Q X 11 [(10, 0), (0, a1), (0, a2), (1, 0)] [(0, r30)] w29
    refine pv_if_eq (n := 14) (tgt := 18) d_M_burn_11 (by decide) rfl (fun c31 => ?_) (fun c31 => ?_)
    · replace h := h.1 c31
      exact vjp_M_burn_18 hl0 _ _ _ h
    · replace h := h.2 c31
      refine pv_iconst (v := 1) (n := 15) d_M_burn_14 (by decide) rfl ?_
      refine pv_goto (tgt := 19) d_M_burn_15 (by decide) ?_
      exact vjp_M_burn_19 hl0 _ _ _ _ h
set_option maxHeartbeats 4000000 in
set_option maxRecDepth 20000 in
theorem con_M_burn {l : Launch} {g : pw_G} {Q : pw_W → Int32 → Prop} {X : pw_W → Nat → Prop} (hl0 : l.stackTraces = false) {w : pw_W} {a1 a2 : Int32} (h : wp_M_burn w a1 a2 Q X) : pw_Con l g y_M_burn cx_M_burn [(10, 0), (0, a1), (0, a2)] w Q X :=
  pw_con (by decide +kernel) rfl rfl hl0 rfl (Nat.le_of_ble_eq_true rfl) (by simp) (vw_M_burn hl0 h)
theorem d_M_isWet_0 : decode (pw_cc cx_M_isWet) 0 = .ok (.aload_n 0, 1) := by decide +kernel
theorem d_M_isWet_1 : decode (pw_cc cx_M_isWet) 1 = .ok (.getfield 13, 3) := by decide +kernel
theorem d_M_isWet_4 : decode (pw_cc cx_M_isWet) 4 = .ok (.iload_n 1, 1) := by decide +kernel
theorem d_M_isWet_5 : decode (pw_cc cx_M_isWet) 5 = .ok (.iaload, 1) := by decide +kernel
theorem d_M_isWet_6 : decode (pw_cc cx_M_isWet) 6 = .ok (.bipush 60, 2) := by decide +kernel
theorem d_M_isWet_8 : decode (pw_cc cx_M_isWet) 8 = .ok (.if_icmp .lt 7, 3) := by decide +kernel
theorem d_M_isWet_11 : decode (pw_cc cx_M_isWet) 11 = .ok (.iconst 1, 1) := by decide +kernel
theorem d_M_isWet_12 : decode (pw_cc cx_M_isWet) 12 = .ok (.goto 4, 3) := by decide +kernel
theorem d_M_isWet_15 : decode (pw_cc cx_M_isWet) 15 = .ok (.iconst 0, 1) := by decide +kernel
theorem d_M_isWet_16 : decode (pw_cc cx_M_isWet) 16 = .ok (.ireturn, 1) := by decide +kernel
set_option maxHeartbeats 4000000 in
set_option maxRecDepth 20000 in
def wp_M_isWet (w : pw_W) (a1 : Int32) (Q : pw_W → Int32 → Prop) (X : pw_W → Nat → Prop) : Prop := w.1 8 0 7 = 0 ∧ pw_jn a1 (pw_ln w 207 0) ∧ ((w.1 207 0 (pw_i a1)) < 60 → Q w 0) ∧ (¬ (w.1 207 0 (pw_i a1)) < 60 → Q w 1)
set_option maxHeartbeats 4000000 in
set_option maxRecDepth 20000 in
theorem vw_M_isWet {l : Launch} {g : pw_G} {Q : pw_W → Int32 → Prop} {X : pw_W → Nat → Prop} (hl0 : l.stackTraces = false) {w : pw_W} {a1 : Int32} (h : wp_M_isWet w a1 Q X) : pw_V l g cx_M_isWet Q X 0 [(10, 0), (0, a1)] [] w := by
  unfold wp_M_isWet at h
  refine pv_aload_n (n := 1) d_M_isWet_0 rfl rfl rfl ?_
  obtain ⟨g1, h⟩ := h
  refine gt_M_13 (n := 4) rfl d_M_isWet_1 (by decide) g1 rfl ?_
  refine pv_iload_n (n := 5) d_M_isWet_4 rfl rfl rfl ?_
  obtain ⟨g2, h⟩ := h
  refine pv_iald (n := 6) (f := 207) (by decide) rfl d_M_isWet_5 (by decide) g2 rfl ?_
  refine pv_bipush (v := 60) (n := 8) d_M_isWet_6 (by decide) rfl ?_
  refine pv_icmp_lt (n := 11) (tgt := 15) d_M_isWet_8 (by decide) rfl (fun c3 => ?_) (fun c3 => ?_)
  · replace h := h.1 c3
    refine pv_iconst (v := 0) (n := 16) d_M_isWet_15 (by decide) rfl ?_
    exact pv_zret rfl rfl d_M_isWet_16 (by decide) h
  · replace h := h.2 c3
    refine pv_iconst (v := 1) (n := 12) d_M_isWet_11 (by decide) rfl ?_
    refine pv_goto (tgt := 16) d_M_isWet_12 (by decide) ?_
    exact pv_zret rfl rfl d_M_isWet_16 (by decide) h
set_option maxHeartbeats 4000000 in
set_option maxRecDepth 20000 in
theorem con_M_isWet {l : Launch} {g : pw_G} {Q : pw_W → Int32 → Prop} {X : pw_W → Nat → Prop} (hl0 : l.stackTraces = false) {w : pw_W} {a1 : Int32} (h : wp_M_isWet w a1 Q X) : pw_Con l g y_M_isWet cx_M_isWet [(10, 0), (0, a1)] w Q X :=
  pw_con (by decide +kernel) rfl rfl hl0 rfl (Nat.le_of_ble_eq_true rfl) (by simp) (vw_M_isWet hl0 h)
theorem d_M_birds_0 : decode (pw_cc cx_M_birds) 0 = .ok (.aload_n 0, 1) := by decide +kernel
theorem d_M_birds_1 : decode (pw_cc cx_M_birds) 1 = .ok (.iload_n 1, 1) := by decide +kernel
theorem d_M_birds_2 : decode (pw_cc cx_M_birds) 2 = .ok (.sipush 360, 3) := by decide +kernel
theorem d_M_birds_5 : decode (pw_cc cx_M_birds) 5 = .ok (.invokevirtual 260, 3) := by decide +kernel
theorem d_M_birds_8 : decode (pw_cc cx_M_birds) 8 = .ok (.ifCond .ne 14, 3) := by decide +kernel
theorem d_M_birds_11 : decode (pw_cc cx_M_birds) 11 = .ok (.aload_n 0, 1) := by decide +kernel
theorem d_M_birds_12 : decode (pw_cc cx_M_birds) 12 = .ok (.getfield 7, 3) := by decide +kernel
theorem d_M_birds_15 : decode (pw_cc cx_M_birds) 15 = .ok (.iload_n 1, 1) := by decide +kernel
theorem d_M_birds_16 : decode (pw_cc cx_M_birds) 16 = .ok (.iaload, 1) := by decide +kernel
theorem d_M_birds_17 : decode (pw_cc cx_M_birds) 17 = .ok (.bipush 10, 2) := by decide +kernel
theorem d_M_birds_19 : decode (pw_cc cx_M_birds) 19 = .ok (.if_icmp .ge 5, 3) := by decide +kernel
theorem d_M_birds_22 : decode (pw_cc cx_M_birds) 22 = .ok (.iconst 0, 1) := by decide +kernel
theorem d_M_birds_23 : decode (pw_cc cx_M_birds) 23 = .ok (.ireturn, 1) := by decide +kernel
theorem d_M_birds_24 : decode (pw_cc cx_M_birds) 24 = .ok (.iconst 0, 1) := by decide +kernel
theorem d_M_birds_25 : decode (pw_cc cx_M_birds) 25 = .ok (.istore_n 2, 1) := by decide +kernel
theorem d_M_birds_26 : decode (pw_cc cx_M_birds) 26 = .ok (.iconst 0, 1) := by decide +kernel
theorem d_M_birds_27 : decode (pw_cc cx_M_birds) 27 = .ok (.istore_n 3, 1) := by decide +kernel
theorem d_M_birds_28 : decode (pw_cc cx_M_birds) 28 = .ok (.iload_n 3, 1) := by decide +kernel
theorem d_M_birds_29 : decode (pw_cc cx_M_birds) 29 = .ok (.bipush 100, 2) := by decide +kernel
theorem d_M_birds_31 : decode (pw_cc cx_M_birds) 31 = .ok (.if_icmp .ge 71, 3) := by decide +kernel
theorem d_M_birds_34 : decode (pw_cc cx_M_birds) 34 = .ok (.iload_n 3, 1) := by decide +kernel
theorem d_M_birds_35 : decode (pw_cc cx_M_birds) 35 = .ok (.bipush 10, 2) := by decide +kernel
theorem d_M_birds_37 : decode (pw_cc cx_M_birds) 37 = .ok (.irem, 1) := by decide +kernel
theorem d_M_birds_38 : decode (pw_cc cx_M_birds) 38 = .ok (.iload_n 1, 1) := by decide +kernel
theorem d_M_birds_39 : decode (pw_cc cx_M_birds) 39 = .ok (.bipush 10, 2) := by decide +kernel
theorem d_M_birds_41 : decode (pw_cc cx_M_birds) 41 = .ok (.irem, 1) := by decide +kernel
theorem d_M_birds_42 : decode (pw_cc cx_M_birds) 42 = .ok (.isub, 1) := by decide +kernel
theorem d_M_birds_43 : decode (pw_cc cx_M_birds) 43 = .ok (.iconst (-1), 1) := by decide +kernel
theorem d_M_birds_44 : decode (pw_cc cx_M_birds) 44 = .ok (.iconst 1, 1) := by decide +kernel
theorem d_M_birds_45 : decode (pw_cc cx_M_birds) 45 = .ok (.invokestatic 124, 3) := by decide +kernel
theorem d_M_birds_48 : decode (pw_cc cx_M_birds) 48 = .ok (.ifCond .eq 24, 3) := by decide +kernel
theorem d_M_birds_51 : decode (pw_cc cx_M_birds) 51 = .ok (.iload_n 3, 1) := by decide +kernel
theorem d_M_birds_52 : decode (pw_cc cx_M_birds) 52 = .ok (.bipush 10, 2) := by decide +kernel
theorem d_M_birds_54 : decode (pw_cc cx_M_birds) 54 = .ok (.idiv, 1) := by decide +kernel
theorem d_M_birds_55 : decode (pw_cc cx_M_birds) 55 = .ok (.iload_n 1, 1) := by decide +kernel
theorem d_M_birds_56 : decode (pw_cc cx_M_birds) 56 = .ok (.bipush 10, 2) := by decide +kernel
theorem d_M_birds_58 : decode (pw_cc cx_M_birds) 58 = .ok (.idiv, 1) := by decide +kernel
theorem d_M_birds_59 : decode (pw_cc cx_M_birds) 59 = .ok (.isub, 1) := by decide +kernel
theorem d_M_birds_60 : decode (pw_cc cx_M_birds) 60 = .ok (.iconst (-1), 1) := by decide +kernel
theorem d_M_birds_61 : decode (pw_cc cx_M_birds) 61 = .ok (.iconst 1, 1) := by decide +kernel
theorem d_M_birds_62 : decode (pw_cc cx_M_birds) 62 = .ok (.invokestatic 124, 3) := by decide +kernel
theorem d_M_birds_65 : decode (pw_cc cx_M_birds) 65 = .ok (.ifCond .eq 7, 3) := by decide +kernel
theorem d_M_birds_68 : decode (pw_cc cx_M_birds) 68 = .ok (.iconst 1, 1) := by decide +kernel
theorem d_M_birds_69 : decode (pw_cc cx_M_birds) 69 = .ok (.goto 4, 3) := by decide +kernel
theorem d_M_birds_72 : decode (pw_cc cx_M_birds) 72 = .ok (.iconst 0, 1) := by decide +kernel
theorem d_M_birds_73 : decode (pw_cc cx_M_birds) 73 = .ok (.istore 4, 2) := by decide +kernel
theorem d_M_birds_75 : decode (pw_cc cx_M_birds) 75 = .ok (.iload_n 2, 1) := by decide +kernel
theorem d_M_birds_76 : decode (pw_cc cx_M_birds) 76 = .ok (.iload 4, 2) := by decide +kernel
theorem d_M_birds_78 : decode (pw_cc cx_M_birds) 78 = .ok (.ifCond .eq 15, 3) := by decide +kernel
theorem d_M_birds_81 : decode (pw_cc cx_M_birds) 81 = .ok (.aload_n 0, 1) := by decide +kernel
theorem d_M_birds_82 : decode (pw_cc cx_M_birds) 82 = .ok (.iload_n 3, 1) := by decide +kernel
theorem d_M_birds_83 : decode (pw_cc cx_M_birds) 83 = .ok (.invokevirtual 266, 3) := by decide +kernel
theorem d_M_birds_86 : decode (pw_cc cx_M_birds) 86 = .ok (.ifCond .eq 7, 3) := by decide +kernel
theorem d_M_birds_89 : decode (pw_cc cx_M_birds) 89 = .ok (.iconst 1, 1) := by decide +kernel
theorem d_M_birds_90 : decode (pw_cc cx_M_birds) 90 = .ok (.goto 4, 3) := by decide +kernel
theorem d_M_birds_93 : decode (pw_cc cx_M_birds) 93 = .ok (.iconst 0, 1) := by decide +kernel
theorem d_M_birds_94 : decode (pw_cc cx_M_birds) 94 = .ok (.iadd, 1) := by decide +kernel
theorem d_M_birds_95 : decode (pw_cc cx_M_birds) 95 = .ok (.istore_n 2, 1) := by decide +kernel
theorem d_M_birds_96 : decode (pw_cc cx_M_birds) 96 = .ok (.iinc 3 1, 3) := by decide +kernel
theorem d_M_birds_99 : decode (pw_cc cx_M_birds) 99 = .ok (.goto (-71), 3) := by decide +kernel
theorem d_M_birds_102 : decode (pw_cc cx_M_birds) 102 = .ok (.iload_n 2, 1) := by decide +kernel
theorem d_M_birds_103 : decode (pw_cc cx_M_birds) 103 = .ok (.ireturn, 1) := by decide +kernel
set_option maxHeartbeats 4000000 in
set_option maxRecDepth 20000 in
def jp_M_birds_73 (Q : pw_W → Int32 → Prop) (X : pw_W → Nat → Prop) (K28 : Int32 → Int32 → Int32 → pw_W → Prop) (a1 a2 a3 s0 : Int32) (w : pw_W) : Prop := (s0 = 0 → ∀ v2, v2 = (a2 + 0) → K28 a1 v2 (a3 + 1) w) ∧ (¬ s0 = 0 → wp_M_isWet w a3 (fun w4 r5 => (r5 = 0 → ∀ v7, v7 = (a2 + 0) → K28 a1 v7 (a3 + 1) w4) ∧ (¬ r5 = 0 → ∀ v9, v9 = (a2 + 1) → K28 a1 v9 (a3 + 1) w4)) (fun _ _ => False))
set_option maxHeartbeats 4000000 in
set_option maxRecDepth 20000 in
theorem vjp_M_birds_73 {l : Launch} {g : pw_G} {Q : pw_W → Int32 → Prop} {X : pw_W → Nat → Prop} (hl0 : l.stackTraces = false) {K28 : Int32 → Int32 → Int32 → pw_W → Prop} (hK28 : ∀ (a1 a2 a3 : Int32) (w : pw_W), K28 a1 a2 a3 w → pw_V l g cx_M_birds Q X 28 [(10, 0), (0, a1), (0, a2), (0, a3), (1, 0)] [] w) (a1 a2 a3 s0 : Int32) (w : pw_W) (h : jp_M_birds_73 Q X K28 a1 a2 a3 s0 w) : pw_V l g cx_M_birds Q X 73 [(10, 0), (0, a1), (0, a2), (0, a3), (1, 0)] [(0, s0)] w := by
  unfold jp_M_birds_73 at h
  refine pv_istore (n := 75) (L' := [(10, 0), (0, a1), (0, a2), (0, a3), (0, s0)]) d_M_birds_73 (by decide) rfl rfl ?_
  refine pv_iload_n (n := 76) d_M_birds_75 rfl rfl rfl ?_
  refine pv_iload (n := 78) d_M_birds_76 rfl rfl ?_
  refine pv_if_eq (n := 81) (tgt := 93) d_M_birds_78 (by decide) rfl (fun c1 => ?_) (fun c1 => ?_)
  · replace h := h.1 c1
    refine pv_iconst (v := 0) (n := 94) d_M_birds_93 (by decide) rfl ?_
    refine pv_iadd (n := 95) d_M_birds_94 rfl ?_
    refine pv_nm (fun v2 e3 => ?_)
    replace h := h v2 e3
    refine pv_istore_n (n := 96) (L' := [(10, 0), (0, a1), (0, v2), (0, a3), (0, s0)]) d_M_birds_95 rfl (by decide) rfl rfl ?_
    refine pv_iinc (v := (a3 + 1)) (n := 99) (L1 := [(10, 0), (0, a1), (0, v2), (0, (a3 + 1)), (0, s0)]) d_M_birds_96 rfl rfl rfl (by decide) rfl ?_
    refine pv_goto (tgt := 28) d_M_birds_99 (by decide) ?_
    refine pv_unset (i := 4) (L1 := [(10, 0), (0, a1), (0, v2), (0, (a3 + 1)), (1, 0)]) rfl ?_
    exact hK28 _ _ _ _ h
  · replace h := h.2 c1
    refine pv_aload_n (n := 82) d_M_birds_81 rfl rfl rfl ?_
    refine pv_iload_n (n := 83) d_M_birds_82 rfl rfl rfl ?_
    refine pv_callV (n := 86) (x := 0) [(0, a3)] [(0, a2)] (con_M_isWet hl0 h) pw_cf8 rfl q_604 q_605 q_606 q_458 q_603 pyo_M_isWet (by decide) rfl rfl (by decide) d_M_birds_83 rfl (fun w4 r5 h _ => ?_) (fun _ _ h => h.elim)
    show pw_V l g cx_M_birds Q X 86 [(10, 0), (0, a1), (0, a2), (0, a3), (0, s0)] [(0, r5), (0, a2)] w4
    refine pv_if_eq (n := 89) (tgt := 93) d_M_birds_86 (by decide) rfl (fun c6 => ?_) (fun c6 => ?_)
    · replace h := h.1 c6
      refine pv_iconst (v := 0) (n := 94) d_M_birds_93 (by decide) rfl ?_
      refine pv_iadd (n := 95) d_M_birds_94 rfl ?_
      refine pv_nm (fun v7 e8 => ?_)
      replace h := h v7 e8
      refine pv_istore_n (n := 96) (L' := [(10, 0), (0, a1), (0, v7), (0, a3), (0, s0)]) d_M_birds_95 rfl (by decide) rfl rfl ?_
      refine pv_iinc (v := (a3 + 1)) (n := 99) (L1 := [(10, 0), (0, a1), (0, v7), (0, (a3 + 1)), (0, s0)]) d_M_birds_96 rfl rfl rfl (by decide) rfl ?_
      refine pv_goto (tgt := 28) d_M_birds_99 (by decide) ?_
      refine pv_unset (i := 4) (L1 := [(10, 0), (0, a1), (0, v7), (0, (a3 + 1)), (1, 0)]) rfl ?_
      exact hK28 _ _ _ _ h
    · replace h := h.2 c6
      refine pv_iconst (v := 1) (n := 90) d_M_birds_89 (by decide) rfl ?_
      refine pv_goto (tgt := 94) d_M_birds_90 (by decide) ?_
      refine pv_iadd (n := 95) d_M_birds_94 rfl ?_
      refine pv_nm (fun v9 e10 => ?_)
      replace h := h v9 e10
      refine pv_istore_n (n := 96) (L' := [(10, 0), (0, a1), (0, v9), (0, a3), (0, s0)]) d_M_birds_95 rfl (by decide) rfl rfl ?_
      refine pv_iinc (v := (a3 + 1)) (n := 99) (L1 := [(10, 0), (0, a1), (0, v9), (0, (a3 + 1)), (0, s0)]) d_M_birds_96 rfl rfl rfl (by decide) rfl ?_
      refine pv_goto (tgt := 28) d_M_birds_99 (by decide) ?_
      refine pv_unset (i := 4) (L1 := [(10, 0), (0, a1), (0, v9), (0, (a3 + 1)), (1, 0)]) rfl ?_
      exact hK28 _ _ _ _ h
set_option maxHeartbeats 4000000 in
set_option maxRecDepth 20000 in
def jp_M_birds_72 (Q : pw_W → Int32 → Prop) (X : pw_W → Nat → Prop) (K28 : Int32 → Int32 → Int32 → pw_W → Prop) (a1 a2 a3 : Int32) (w : pw_W) : Prop := jp_M_birds_73 Q X K28 a1 a2 a3 0 w
set_option maxHeartbeats 4000000 in
set_option maxRecDepth 20000 in
theorem vjp_M_birds_72 {l : Launch} {g : pw_G} {Q : pw_W → Int32 → Prop} {X : pw_W → Nat → Prop} (hl0 : l.stackTraces = false) {K28 : Int32 → Int32 → Int32 → pw_W → Prop} (hK28 : ∀ (a1 a2 a3 : Int32) (w : pw_W), K28 a1 a2 a3 w → pw_V l g cx_M_birds Q X 28 [(10, 0), (0, a1), (0, a2), (0, a3), (1, 0)] [] w) (a1 a2 a3 : Int32) (w : pw_W) (h : jp_M_birds_72 Q X K28 a1 a2 a3 w) : pw_V l g cx_M_birds Q X 72 [(10, 0), (0, a1), (0, a2), (0, a3), (1, 0)] [] w := by
  unfold jp_M_birds_72 at h
  refine pv_iconst (v := 0) (n := 73) d_M_birds_72 (by decide) rfl ?_
  exact vjp_M_birds_73 hl0 (by intros; exact hK28 _ _ _ _ (by assumption)) _ _ _ _ _ h
set_option maxHeartbeats 4000000 in
set_option maxRecDepth 20000 in
def lp_M_birds_28 (Q : pw_W → Int32 → Prop) (X : pw_W → Nat → Prop) : Nat → Int32 → Int32 → Int32 → pw_W → Prop := fun k => Nat.rec (motive := fun _ => Int32 → Int32 → Int32 → pw_W → Prop) (fun _ _ _ _ => False) (fun _ ih a1 a2 a3 w => ((100 : Int32) ≤ a3 → Q w a2) ∧ (¬ (100 : Int32) ≤ a3 → wp_M_isIn w ((a3 - a3 / 10 * 10) - (a1 - a1 / 10 * 10)) (-1) 1 (fun w12 r13 => (r13 = 0 → jp_M_birds_72 Q X ih a1 a2 a3 w12) ∧ (¬ r13 = 0 → wp_M_isIn w12 ((a3 / 10) - (a1 / 10)) (-1) 1 (fun w15 r16 => (r16 = 0 → jp_M_birds_72 Q X ih a1 a2 a3 w15) ∧ (¬ r16 = 0 → jp_M_birds_73 Q X ih a1 a2 a3 1 w15)) (fun _ _ => False))) (fun _ _ => False))) k
set_option maxHeartbeats 4000000 in
set_option maxRecDepth 20000 in
theorem lp_M_birds_28_s {Q : pw_W → Int32 → Prop} {X : pw_W → Nat → Prop}  {k : Nat} {a1 a2 a3 : Int32} {w : pw_W} : lp_M_birds_28 Q X (k + 1) a1 a2 a3 w = (let ih := lp_M_birds_28 Q X k; ((100 : Int32) ≤ a3 → Q w a2) ∧ (¬ (100 : Int32) ≤ a3 → wp_M_isIn w ((a3 - a3 / 10 * 10) - (a1 - a1 / 10 * 10)) (-1) 1 (fun w12 r13 => (r13 = 0 → jp_M_birds_72 Q X ih a1 a2 a3 w12) ∧ (¬ r13 = 0 → wp_M_isIn w12 ((a3 / 10) - (a1 / 10)) (-1) 1 (fun w15 r16 => (r16 = 0 → jp_M_birds_72 Q X ih a1 a2 a3 w15) ∧ (¬ r16 = 0 → jp_M_birds_73 Q X ih a1 a2 a3 1 w15)) (fun _ _ => False))) (fun _ _ => False))) := rfl
set_option maxHeartbeats 4000000 in
set_option maxRecDepth 20000 in
theorem vlp_M_birds_28 {l : Launch} {g : pw_G} {Q : pw_W → Int32 → Prop} {X : pw_W → Nat → Prop} (hl0 : l.stackTraces = false) : ∀ (k : Nat) (a1 a2 a3 : Int32) (w : pw_W), lp_M_birds_28 Q X k a1 a2 a3 w → pw_V l g cx_M_birds Q X 28 [(10, 0), (0, a1), (0, a2), (0, a3), (1, 0)] [] w := by
  intro k; induction k with
  | zero => intro _ _ _ _ h; exact h.elim
  | succ k ih =>
    intro a1 a2 a3 w h
    rw [lp_M_birds_28_s] at h
    refine pv_iload_n (n := 29) d_M_birds_28 rfl rfl rfl ?_
    refine pv_bipush (v := 100) (n := 31) d_M_birds_29 (by decide) rfl ?_
    refine pv_icmp_ge (n := 34) (tgt := 102) d_M_birds_31 (by decide) rfl (fun c11 => ?_) (fun c11 => ?_)
    · replace h := h.1 c11
      refine pv_iload_n (n := 103) d_M_birds_102 rfl rfl rfl ?_
      exact pv_iret rfl rfl d_M_birds_103 h
    · replace h := h.2 c11
      refine pv_iload_n (n := 35) d_M_birds_34 rfl rfl rfl ?_
      refine pv_bipush (v := 10) (n := 37) d_M_birds_35 (by decide) rfl ?_
      refine pv_irem (n := 38) d_M_birds_37 (by decide) rfl ?_
      refine pv_iload_n (n := 39) d_M_birds_38 rfl rfl rfl ?_
      refine pv_bipush (v := 10) (n := 41) d_M_birds_39 (by decide) rfl ?_
      refine pv_irem (n := 42) d_M_birds_41 (by decide) rfl ?_
      refine pv_isub (n := 43) d_M_birds_42 rfl ?_
      refine pv_iconst (v := -1) (n := 44) d_M_birds_43 (by decide) rfl ?_
      refine pv_iconst (v := 1) (n := 45) d_M_birds_44 (by decide) rfl ?_
      refine pv_callS (n := 48) [(0, ((a3 - a3 / 10 * 10) - (a1 - a1 / 10 * 10))), (0, -1), (0, 1)] [] (con_M_isIn hl0 h) q_459 q_460 q_458 q_457 pyo_M_isIn (by decide) rfl rfl d_M_birds_45 rfl (fun w12 r13 h _ => ?_) (fun _ _ h => h.elim)
      show pw_V l g cx_M_birds Q X 48 [(10, 0), (0, a1), (0, a2), (0, a3), (1, 0)] [(0, r13)] w12
      refine pv_if_eq (n := 51) (tgt := 72) d_M_birds_48 (by decide) rfl (fun c14 => ?_) (fun c14 => ?_)
      · replace h := h.1 c14
        exact vjp_M_birds_72 hl0 (by intros; exact ih _ _ _ _ (by assumption)) _ _ _ _ h
      · replace h := h.2 c14
        refine pv_iload_n (n := 52) d_M_birds_51 rfl rfl rfl ?_
        refine pv_bipush (v := 10) (n := 54) d_M_birds_52 (by decide) rfl ?_
        refine pv_idiv (n := 55) d_M_birds_54 (by decide) rfl ?_
        refine pv_iload_n (n := 56) d_M_birds_55 rfl rfl rfl ?_
        refine pv_bipush (v := 10) (n := 58) d_M_birds_56 (by decide) rfl ?_
        refine pv_idiv (n := 59) d_M_birds_58 (by decide) rfl ?_
        refine pv_isub (n := 60) d_M_birds_59 rfl ?_
        refine pv_iconst (v := -1) (n := 61) d_M_birds_60 (by decide) rfl ?_
        refine pv_iconst (v := 1) (n := 62) d_M_birds_61 (by decide) rfl ?_
        refine pv_callS (n := 65) [(0, ((a3 / 10) - (a1 / 10))), (0, -1), (0, 1)] [] (con_M_isIn hl0 h) q_459 q_460 q_458 q_457 pyo_M_isIn (by decide) rfl rfl d_M_birds_62 rfl (fun w15 r16 h _ => ?_) (fun _ _ h => h.elim)
        show pw_V l g cx_M_birds Q X 65 [(10, 0), (0, a1), (0, a2), (0, a3), (1, 0)] [(0, r16)] w15
        refine pv_if_eq (n := 68) (tgt := 72) d_M_birds_65 (by decide) rfl (fun c17 => ?_) (fun c17 => ?_)
        · replace h := h.1 c17
          exact vjp_M_birds_72 hl0 (by intros; exact ih _ _ _ _ (by assumption)) _ _ _ _ h
        · replace h := h.2 c17
          refine pv_iconst (v := 1) (n := 69) d_M_birds_68 (by decide) rfl ?_
          refine pv_goto (tgt := 73) d_M_birds_69 (by decide) ?_
          exact vjp_M_birds_73 hl0 (by intros; exact ih _ _ _ _ (by assumption)) _ _ _ _ _ h
set_option maxHeartbeats 4000000 in
set_option maxRecDepth 20000 in
def wp_M_birds (w : pw_W) (a1 : Int32) (Q : pw_W → Int32 → Prop) (X : pw_W → Nat → Prop) : Prop := wp_M_wasBurnt w a1 360 (fun w18 r19 => (¬ r19 = 0 → Q w18 0) ∧ (r19 = 0 → w18.1 8 0 6 = 0 ∧ pw_jn a1 (pw_ln w18 206 0) ∧ ((10 : Int32) ≤ (w18.1 206 0 (pw_i a1)) → ∃ k24, lp_M_birds_28 Q X k24 a1 0 0 w18) ∧ (¬ (10 : Int32) ≤ (w18.1 206 0 (pw_i a1)) → Q w18 0))) (fun _ _ => False)
set_option maxHeartbeats 4000000 in
set_option maxRecDepth 20000 in
theorem vw_M_birds {l : Launch} {g : pw_G} {Q : pw_W → Int32 → Prop} {X : pw_W → Nat → Prop} (hl0 : l.stackTraces = false) {w : pw_W} {a1 : Int32} (h : wp_M_birds w a1 Q X) : pw_V l g cx_M_birds Q X 0 [(10, 0), (0, a1), (1, 0), (1, 0), (1, 0)] [] w := by
  unfold wp_M_birds at h
  refine pv_aload_n (n := 1) d_M_birds_0 rfl rfl rfl ?_
  refine pv_iload_n (n := 2) d_M_birds_1 rfl rfl rfl ?_
  refine pv_sipush (v := 360) (n := 5) d_M_birds_2 (by decide) rfl ?_
  refine pv_callV (n := 8) (x := 0) [(0, a1), (0, 360)] [] (con_M_wasBurnt hl0 h) pw_cf8 rfl q_596 q_597 q_598 q_458 q_595 pyo_M_wasBurnt (by decide) rfl rfl (by decide) d_M_birds_5 rfl (fun w18 r19 h _ => ?_) (fun _ _ h => h.elim)
  show pw_V l g cx_M_birds Q X 8 [(10, 0), (0, a1), (1, 0), (1, 0), (1, 0)] [(0, r19)] w18
  refine pv_if_ne (n := 11) (tgt := 22) d_M_birds_8 (by decide) rfl (fun c20 => ?_) (fun c20 => ?_)
  · replace h := h.1 c20
    refine pv_iconst (v := 0) (n := 23) d_M_birds_22 (by decide) rfl ?_
    exact pv_iret rfl rfl d_M_birds_23 h
  · replace h := h.2 c20
    refine pv_aload_n (n := 12) d_M_birds_11 rfl rfl rfl ?_
    obtain ⟨g21, h⟩ := h
    refine gt_M_7 (n := 15) rfl d_M_birds_12 (by decide) g21 rfl ?_
    refine pv_iload_n (n := 16) d_M_birds_15 rfl rfl rfl ?_
    obtain ⟨g22, h⟩ := h
    refine pv_iald (n := 17) (f := 206) (by decide) rfl d_M_birds_16 (by decide) g22 rfl ?_
    refine pv_bipush (v := 10) (n := 19) d_M_birds_17 (by decide) rfl ?_
    refine pv_icmp_ge (n := 22) (tgt := 24) d_M_birds_19 (by decide) rfl (fun c23 => ?_) (fun c23 => ?_)
    · replace h := h.1 c23
      refine pv_iconst (v := 0) (n := 25) d_M_birds_24 (by decide) rfl ?_
      refine pv_istore_n (n := 26) (L' := [(10, 0), (0, a1), (0, 0), (1, 0), (1, 0)]) d_M_birds_25 rfl (by decide) rfl rfl ?_
      refine pv_iconst (v := 0) (n := 27) d_M_birds_26 (by decide) rfl ?_
      refine pv_istore_n (n := 28) (L' := [(10, 0), (0, a1), (0, 0), (0, 0), (1, 0)]) d_M_birds_27 rfl (by decide) rfl rfl ?_
      obtain ⟨k24, h⟩ := h
      exact vlp_M_birds_28 hl0 _ _ _ _ _ h
    · replace h := h.2 c23
      refine pv_iconst (v := 0) (n := 23) d_M_birds_22 (by decide) rfl ?_
      exact pv_iret rfl rfl d_M_birds_23 h
set_option maxHeartbeats 4000000 in
set_option maxRecDepth 20000 in
theorem con_M_birds {l : Launch} {g : pw_G} {Q : pw_W → Int32 → Prop} {X : pw_W → Nat → Prop} (hl0 : l.stackTraces = false) {w : pw_W} {a1 : Int32} (h : wp_M_birds w a1 Q X) : pw_Con l g y_M_birds cx_M_birds [(10, 0), (0, a1)] w Q X :=
  pw_con (by decide +kernel) rfl rfl hl0 rfl (Nat.le_of_ble_eq_true rfl) (by simp) (vw_M_birds hl0 h)
theorem d_M_drainsRun_0 : decode (pw_cc cx_M_drainsRun) 0 = .ok (.iconst 0, 1) := by decide +kernel
theorem d_M_drainsRun_1 : decode (pw_cc cx_M_drainsRun) 1 = .ok (.istore_n 1, 1) := by decide +kernel
theorem d_M_drainsRun_2 : decode (pw_cc cx_M_drainsRun) 2 = .ok (.iload_n 1, 1) := by decide +kernel
theorem d_M_drainsRun_3 : decode (pw_cc cx_M_drainsRun) 3 = .ok (.aload_n 0, 1) := by decide +kernel
theorem d_M_drainsRun_4 : decode (pw_cc cx_M_drainsRun) 4 = .ok (.getfield 245, 3) := by decide +kernel
theorem d_M_drainsRun_7 : decode (pw_cc cx_M_drainsRun) 7 = .ok (.if_icmp .ge 70, 3) := by decide +kernel
theorem d_M_drainsRun_10 : decode (pw_cc cx_M_drainsRun) 10 = .ok (.aload_n 0, 1) := by decide +kernel
theorem d_M_drainsRun_11 : decode (pw_cc cx_M_drainsRun) 11 = .ok (.getfield 13, 3) := by decide +kernel
theorem d_M_drainsRun_14 : decode (pw_cc cx_M_drainsRun) 14 = .ok (.aload_n 0, 1) := by decide +kernel
theorem d_M_drainsRun_15 : decode (pw_cc cx_M_drainsRun) 15 = .ok (.getfield 98, 3) := by decide +kernel
theorem d_M_drainsRun_18 : decode (pw_cc cx_M_drainsRun) 18 = .ok (.iload_n 1, 1) := by decide +kernel
theorem d_M_drainsRun_19 : decode (pw_cc cx_M_drainsRun) 19 = .ok (.iaload, 1) := by decide +kernel
theorem d_M_drainsRun_20 : decode (pw_cc cx_M_drainsRun) 20 = .ok (.iaload, 1) := by decide +kernel
theorem d_M_drainsRun_21 : decode (pw_cc cx_M_drainsRun) 21 = .ok (.iconst 4, 1) := by decide +kernel
theorem d_M_drainsRun_22 : decode (pw_cc cx_M_drainsRun) 22 = .ok (.idiv, 1) := by decide +kernel
theorem d_M_drainsRun_23 : decode (pw_cc cx_M_drainsRun) 23 = .ok (.bipush 100, 2) := by decide +kernel
theorem d_M_drainsRun_25 : decode (pw_cc cx_M_drainsRun) 25 = .ok (.aload_n 0, 1) := by decide +kernel
theorem d_M_drainsRun_26 : decode (pw_cc cx_M_drainsRun) 26 = .ok (.getfield 13, 3) := by decide +kernel
theorem d_M_drainsRun_29 : decode (pw_cc cx_M_drainsRun) 29 = .ok (.aload_n 0, 1) := by decide +kernel
theorem d_M_drainsRun_30 : decode (pw_cc cx_M_drainsRun) 30 = .ok (.getfield 101, 3) := by decide +kernel
theorem d_M_drainsRun_33 : decode (pw_cc cx_M_drainsRun) 33 = .ok (.iload_n 1, 1) := by decide +kernel
theorem d_M_drainsRun_34 : decode (pw_cc cx_M_drainsRun) 34 = .ok (.iaload, 1) := by decide +kernel
theorem d_M_drainsRun_35 : decode (pw_cc cx_M_drainsRun) 35 = .ok (.iaload, 1) := by decide +kernel
theorem d_M_drainsRun_36 : decode (pw_cc cx_M_drainsRun) 36 = .ok (.isub, 1) := by decide +kernel
theorem d_M_drainsRun_37 : decode (pw_cc cx_M_drainsRun) 37 = .ok (.invokestatic 142, 3) := by decide +kernel
theorem d_M_drainsRun_40 : decode (pw_cc cx_M_drainsRun) 40 = .ok (.istore_n 2, 1) := by decide +kernel
theorem d_M_drainsRun_41 : decode (pw_cc cx_M_drainsRun) 41 = .ok (.aload_n 0, 1) := by decide +kernel
theorem d_M_drainsRun_42 : decode (pw_cc cx_M_drainsRun) 42 = .ok (.getfield 13, 3) := by decide +kernel
theorem d_M_drainsRun_45 : decode (pw_cc cx_M_drainsRun) 45 = .ok (.aload_n 0, 1) := by decide +kernel
theorem d_M_drainsRun_46 : decode (pw_cc cx_M_drainsRun) 46 = .ok (.getfield 98, 3) := by decide +kernel
theorem d_M_drainsRun_49 : decode (pw_cc cx_M_drainsRun) 49 = .ok (.iload_n 1, 1) := by decide +kernel
theorem d_M_drainsRun_50 : decode (pw_cc cx_M_drainsRun) 50 = .ok (.iaload, 1) := by decide +kernel
theorem d_M_drainsRun_51 : decode (pw_cc cx_M_drainsRun) 51 = .ok (.dup2, 1) := by decide +kernel
theorem d_M_drainsRun_52 : decode (pw_cc cx_M_drainsRun) 52 = .ok (.iaload, 1) := by decide +kernel
theorem d_M_drainsRun_53 : decode (pw_cc cx_M_drainsRun) 53 = .ok (.iload_n 2, 1) := by decide +kernel
theorem d_M_drainsRun_54 : decode (pw_cc cx_M_drainsRun) 54 = .ok (.isub, 1) := by decide +kernel
theorem d_M_drainsRun_55 : decode (pw_cc cx_M_drainsRun) 55 = .ok (.iastore, 1) := by decide +kernel
theorem d_M_drainsRun_56 : decode (pw_cc cx_M_drainsRun) 56 = .ok (.aload_n 0, 1) := by decide +kernel
theorem d_M_drainsRun_57 : decode (pw_cc cx_M_drainsRun) 57 = .ok (.getfield 13, 3) := by decide +kernel
theorem d_M_drainsRun_60 : decode (pw_cc cx_M_drainsRun) 60 = .ok (.aload_n 0, 1) := by decide +kernel
theorem d_M_drainsRun_61 : decode (pw_cc cx_M_drainsRun) 61 = .ok (.getfield 101, 3) := by decide +kernel
theorem d_M_drainsRun_64 : decode (pw_cc cx_M_drainsRun) 64 = .ok (.iload_n 1, 1) := by decide +kernel
theorem d_M_drainsRun_65 : decode (pw_cc cx_M_drainsRun) 65 = .ok (.iaload, 1) := by decide +kernel
theorem d_M_drainsRun_66 : decode (pw_cc cx_M_drainsRun) 66 = .ok (.dup2, 1) := by decide +kernel
theorem d_M_drainsRun_67 : decode (pw_cc cx_M_drainsRun) 67 = .ok (.iaload, 1) := by decide +kernel
theorem d_M_drainsRun_68 : decode (pw_cc cx_M_drainsRun) 68 = .ok (.iload_n 2, 1) := by decide +kernel
theorem d_M_drainsRun_69 : decode (pw_cc cx_M_drainsRun) 69 = .ok (.iadd, 1) := by decide +kernel
theorem d_M_drainsRun_70 : decode (pw_cc cx_M_drainsRun) 70 = .ok (.iastore, 1) := by decide +kernel
theorem d_M_drainsRun_71 : decode (pw_cc cx_M_drainsRun) 71 = .ok (.iinc 1 1, 3) := by decide +kernel
theorem d_M_drainsRun_74 : decode (pw_cc cx_M_drainsRun) 74 = .ok (.goto (-72), 3) := by decide +kernel
theorem d_M_drainsRun_77 : decode (pw_cc cx_M_drainsRun) 77 = .ok (.return_, 1) := by decide +kernel
set_option maxHeartbeats 4000000 in
set_option maxRecDepth 20000 in
def lp_M_drainsRun_2 (Q : pw_W → Int32 → Prop) (X : pw_W → Nat → Prop) : Nat → Int32 → pw_W → Prop := fun k => Nat.rec (motive := fun _ => Int32 → pw_W → Prop) (fun _ _ => False) (fun _ ih a1 w => ((w.1 8 0 41) ≤ a1 → Q w 0) ∧ (¬ (w.1 8 0 41) ≤ a1 → w.1 8 0 7 = 0 ∧ w.1 8 0 39 = 0 ∧ pw_jn a1 (pw_ln w 239 0) ∧ pw_jn (w.1 239 0 (pw_i a1)) (pw_ln w 207 0) ∧ w.1 8 0 7 = 0 ∧ w.1 8 0 40 = 0 ∧ pw_jn a1 (pw_ln w 240 0) ∧ pw_jn (w.1 240 0 (pw_i a1)) (pw_ln w 207 0) ∧ wp_M_lesser w ((w.1 207 0 (pw_i (w.1 239 0 (pw_i a1)))) / 4) ((100 : Int32) - (w.1 207 0 (pw_i (w.1 240 0 (pw_i a1))))) (fun w10 r11 => w10.1 8 0 7 = 0 ∧ w10.1 8 0 39 = 0 ∧ pw_jn a1 (pw_ln w10 239 0) ∧ pw_jn (w10.1 239 0 (pw_i a1)) (pw_ln w10 207 0) ∧ pw_jn (w10.1 239 0 (pw_i a1)) (pw_ln w10 207 0) ∧ ∀ w17, w17 = pw_ps w10 207 0 (pw_i (w10.1 239 0 (pw_i a1))) ((w10.1 207 0 (pw_i (w10.1 239 0 (pw_i a1)))) - r11) → w17.1 8 0 7 = 0 ∧ w17.1 8 0 40 = 0 ∧ pw_jn a1 (pw_ln w17 240 0) ∧ pw_jn (w17.1 240 0 (pw_i a1)) (pw_ln w17 207 0) ∧ pw_jn (w17.1 240 0 (pw_i a1)) (pw_ln w17 207 0) ∧ ∀ w24, w24 = pw_ps w17 207 0 (pw_i (w17.1 240 0 (pw_i a1))) ((w17.1 207 0 (pw_i (w17.1 240 0 (pw_i a1)))) + r11) → ih (a1 + 1) w24) (fun _ _ => False))) k
set_option maxHeartbeats 4000000 in
set_option maxRecDepth 20000 in
theorem lp_M_drainsRun_2_s {Q : pw_W → Int32 → Prop} {X : pw_W → Nat → Prop}  {k : Nat} {a1 : Int32} {w : pw_W} : lp_M_drainsRun_2 Q X (k + 1) a1 w = (let ih := lp_M_drainsRun_2 Q X k; ((w.1 8 0 41) ≤ a1 → Q w 0) ∧ (¬ (w.1 8 0 41) ≤ a1 → w.1 8 0 7 = 0 ∧ w.1 8 0 39 = 0 ∧ pw_jn a1 (pw_ln w 239 0) ∧ pw_jn (w.1 239 0 (pw_i a1)) (pw_ln w 207 0) ∧ w.1 8 0 7 = 0 ∧ w.1 8 0 40 = 0 ∧ pw_jn a1 (pw_ln w 240 0) ∧ pw_jn (w.1 240 0 (pw_i a1)) (pw_ln w 207 0) ∧ wp_M_lesser w ((w.1 207 0 (pw_i (w.1 239 0 (pw_i a1)))) / 4) ((100 : Int32) - (w.1 207 0 (pw_i (w.1 240 0 (pw_i a1))))) (fun w10 r11 => w10.1 8 0 7 = 0 ∧ w10.1 8 0 39 = 0 ∧ pw_jn a1 (pw_ln w10 239 0) ∧ pw_jn (w10.1 239 0 (pw_i a1)) (pw_ln w10 207 0) ∧ pw_jn (w10.1 239 0 (pw_i a1)) (pw_ln w10 207 0) ∧ ∀ w17, w17 = pw_ps w10 207 0 (pw_i (w10.1 239 0 (pw_i a1))) ((w10.1 207 0 (pw_i (w10.1 239 0 (pw_i a1)))) - r11) → w17.1 8 0 7 = 0 ∧ w17.1 8 0 40 = 0 ∧ pw_jn a1 (pw_ln w17 240 0) ∧ pw_jn (w17.1 240 0 (pw_i a1)) (pw_ln w17 207 0) ∧ pw_jn (w17.1 240 0 (pw_i a1)) (pw_ln w17 207 0) ∧ ∀ w24, w24 = pw_ps w17 207 0 (pw_i (w17.1 240 0 (pw_i a1))) ((w17.1 207 0 (pw_i (w17.1 240 0 (pw_i a1)))) + r11) → ih (a1 + 1) w24) (fun _ _ => False))) := rfl
set_option maxHeartbeats 4000000 in
set_option maxRecDepth 20000 in
theorem vlp_M_drainsRun_2 {l : Launch} {g : pw_G} {Q : pw_W → Int32 → Prop} {X : pw_W → Nat → Prop} (hl0 : l.stackTraces = false) : ∀ (k : Nat) (a1 : Int32) (w : pw_W), lp_M_drainsRun_2 Q X k a1 w → pw_V l g cx_M_drainsRun Q X 2 [(10, 0), (0, a1), (1, 0)] [] w := by
  intro k; induction k with
  | zero => intro _ _ h; exact h.elim
  | succ k ih =>
    intro a1 w h
    rw [lp_M_drainsRun_2_s] at h
    refine pv_iload_n (n := 3) d_M_drainsRun_2 rfl rfl rfl ?_
    refine pv_aload_n (n := 4) d_M_drainsRun_3 rfl rfl rfl ?_
    refine gt_M_245 (n := 7) rfl d_M_drainsRun_4 (by decide) rfl ?_
    refine pv_icmp_ge (n := 10) (tgt := 77) d_M_drainsRun_7 (by decide) rfl (fun c1 => ?_) (fun c1 => ?_)
    · replace h := h.1 c1
      exact pv_vret rfl rfl d_M_drainsRun_77 h
    · replace h := h.2 c1
      refine pv_aload_n (n := 11) d_M_drainsRun_10 rfl rfl rfl ?_
      obtain ⟨g2, h⟩ := h
      refine gt_M_13 (n := 14) rfl d_M_drainsRun_11 (by decide) g2 rfl ?_
      refine pv_aload_n (n := 15) d_M_drainsRun_14 rfl rfl rfl ?_
      obtain ⟨g3, h⟩ := h
      refine gt_M_98 (n := 18) rfl d_M_drainsRun_15 (by decide) g3 rfl ?_
      refine pv_iload_n (n := 19) d_M_drainsRun_18 rfl rfl rfl ?_
      obtain ⟨g4, h⟩ := h
      refine pv_iald (n := 20) (f := 239) (by decide) rfl d_M_drainsRun_19 (by decide) g4 rfl ?_
      obtain ⟨g5, h⟩ := h
      refine pv_iald (n := 21) (f := 207) (by decide) rfl d_M_drainsRun_20 (by decide) g5 rfl ?_
      refine pv_iconst (v := 4) (n := 22) d_M_drainsRun_21 (by decide) rfl ?_
      refine pv_idiv (n := 23) d_M_drainsRun_22 (by decide) rfl ?_
      refine pv_bipush (v := 100) (n := 25) d_M_drainsRun_23 (by decide) rfl ?_
      refine pv_aload_n (n := 26) d_M_drainsRun_25 rfl rfl rfl ?_
      obtain ⟨g6, h⟩ := h
      refine gt_M_13 (n := 29) rfl d_M_drainsRun_26 (by decide) g6 rfl ?_
      refine pv_aload_n (n := 30) d_M_drainsRun_29 rfl rfl rfl ?_
      obtain ⟨g7, h⟩ := h
      refine gt_M_101 (n := 33) rfl d_M_drainsRun_30 (by decide) g7 rfl ?_
      refine pv_iload_n (n := 34) d_M_drainsRun_33 rfl rfl rfl ?_
      obtain ⟨g8, h⟩ := h
      refine pv_iald (n := 35) (f := 240) (by decide) rfl d_M_drainsRun_34 (by decide) g8 rfl ?_
      obtain ⟨g9, h⟩ := h
      refine pv_iald (n := 36) (f := 207) (by decide) rfl d_M_drainsRun_35 (by decide) g9 rfl ?_
      refine pv_isub (n := 37) d_M_drainsRun_36 rfl ?_
      refine pv_callS (n := 40) [(0, ((w.1 207 0 (pw_i (w.1 239 0 (pw_i a1)))) / 4)), (0, ((100 : Int32) - (w.1 207 0 (pw_i (w.1 240 0 (pw_i a1))))))] [] (con_M_lesser hl0 h) q_468 q_469 q_458 q_467 pyo_M_lesser (by decide) rfl rfl d_M_drainsRun_37 rfl (fun w10 r11 h _ => ?_) (fun _ _ h => h.elim)
      show pw_V l g cx_M_drainsRun Q X 40 [(10, 0), (0, a1), (1, 0)] [(0, r11)] w10
      refine pv_istore_n (n := 41) (L' := [(10, 0), (0, a1), (0, r11)]) d_M_drainsRun_40 rfl (by decide) rfl rfl ?_
      refine pv_aload_n (n := 42) d_M_drainsRun_41 rfl rfl rfl ?_
      obtain ⟨g12, h⟩ := h
      refine gt_M_13 (n := 45) rfl d_M_drainsRun_42 (by decide) g12 rfl ?_
      refine pv_aload_n (n := 46) d_M_drainsRun_45 rfl rfl rfl ?_
      obtain ⟨g13, h⟩ := h
      refine gt_M_98 (n := 49) rfl d_M_drainsRun_46 (by decide) g13 rfl ?_
      refine pv_iload_n (n := 50) d_M_drainsRun_49 rfl rfl rfl ?_
      obtain ⟨g14, h⟩ := h
      refine pv_iald (n := 51) (f := 239) (by decide) rfl d_M_drainsRun_50 (by decide) g14 rfl ?_
      refine pv_dup2 (n := 52) d_M_drainsRun_51 (by decide) (by decide) rfl ?_
      obtain ⟨g15, h⟩ := h
      refine pv_iald (n := 53) (f := 207) (by decide) rfl d_M_drainsRun_52 (by decide) g15 rfl ?_
      refine pv_iload_n (n := 54) d_M_drainsRun_53 rfl rfl rfl ?_
      refine pv_isub (n := 55) d_M_drainsRun_54 rfl ?_
      obtain ⟨g16, h⟩ := h
      refine pv_iast1 (n := 56) (f := 207) (by decide) rfl (fun _ => rfl) d_M_drainsRun_55 (by decide) g16 rfl (fun w17 e18 => ?_)
      replace h := h w17 e18
      refine pv_aload_n (n := 57) d_M_drainsRun_56 rfl rfl rfl ?_
      obtain ⟨g19, h⟩ := h
      refine gt_M_13 (n := 60) rfl d_M_drainsRun_57 (by decide) g19 rfl ?_
      refine pv_aload_n (n := 61) d_M_drainsRun_60 rfl rfl rfl ?_
      obtain ⟨g20, h⟩ := h
      refine gt_M_101 (n := 64) rfl d_M_drainsRun_61 (by decide) g20 rfl ?_
      refine pv_iload_n (n := 65) d_M_drainsRun_64 rfl rfl rfl ?_
      obtain ⟨g21, h⟩ := h
      refine pv_iald (n := 66) (f := 240) (by decide) rfl d_M_drainsRun_65 (by decide) g21 rfl ?_
      refine pv_dup2 (n := 67) d_M_drainsRun_66 (by decide) (by decide) rfl ?_
      obtain ⟨g22, h⟩ := h
      refine pv_iald (n := 68) (f := 207) (by decide) rfl d_M_drainsRun_67 (by decide) g22 rfl ?_
      refine pv_iload_n (n := 69) d_M_drainsRun_68 rfl rfl rfl ?_
      refine pv_iadd (n := 70) d_M_drainsRun_69 rfl ?_
      obtain ⟨g23, h⟩ := h
      refine pv_iast1 (n := 71) (f := 207) (by decide) rfl (fun _ => rfl) d_M_drainsRun_70 (by decide) g23 rfl (fun w24 e25 => ?_)
      replace h := h w24 e25
      refine pv_iinc (v := (a1 + 1)) (n := 74) (L1 := [(10, 0), (0, (a1 + 1)), (0, r11)]) d_M_drainsRun_71 rfl rfl rfl (by decide) rfl ?_
      refine pv_goto (tgt := 2) d_M_drainsRun_74 (by decide) ?_
      refine pv_unset (i := 2) (L1 := [(10, 0), (0, (a1 + 1)), (1, 0)]) rfl ?_
      exact ih _ _ h
set_option maxHeartbeats 4000000 in
set_option maxRecDepth 20000 in
def wp_M_drainsRun (w : pw_W) (Q : pw_W → Int32 → Prop) (X : pw_W → Nat → Prop) : Prop := ∃ k26, lp_M_drainsRun_2 Q X k26 0 w
set_option maxHeartbeats 4000000 in
set_option maxRecDepth 20000 in
theorem vw_M_drainsRun {l : Launch} {g : pw_G} {Q : pw_W → Int32 → Prop} {X : pw_W → Nat → Prop} (hl0 : l.stackTraces = false) {w : pw_W} (h : wp_M_drainsRun w Q X) : pw_V l g cx_M_drainsRun Q X 0 [(10, 0), (1, 0), (1, 0)] [] w := by
  unfold wp_M_drainsRun at h
  refine pv_iconst (v := 0) (n := 1) d_M_drainsRun_0 (by decide) rfl ?_
  refine pv_istore_n (n := 2) (L' := [(10, 0), (0, 0), (1, 0)]) d_M_drainsRun_1 rfl (by decide) rfl rfl ?_
  obtain ⟨k26, h⟩ := h
  exact vlp_M_drainsRun_2 hl0 _ _ _ h
set_option maxHeartbeats 4000000 in
set_option maxRecDepth 20000 in
theorem con_M_drainsRun {l : Launch} {g : pw_G} {Q : pw_W → Int32 → Prop} {X : pw_W → Nat → Prop} (hl0 : l.stackTraces = false) {w : pw_W} (h : wp_M_drainsRun w Q X) : pw_Con l g y_M_drainsRun cx_M_drainsRun [(10, 0)] w Q X :=
  pw_con (by decide +kernel) rfl rfl hl0 rfl (Nat.le_of_ble_eq_true rfl) (by simp) (vw_M_drainsRun hl0 h)
theorem d_M_dries_0 : decode (pw_cc cx_M_dries) 0 = .ok (.iconst 0, 1) := by decide +kernel
theorem d_M_dries_1 : decode (pw_cc cx_M_dries) 1 = .ok (.istore_n 1, 1) := by decide +kernel
theorem d_M_dries_2 : decode (pw_cc cx_M_dries) 2 = .ok (.iload_n 1, 1) := by decide +kernel
theorem d_M_dries_3 : decode (pw_cc cx_M_dries) 3 = .ok (.bipush 100, 2) := by decide +kernel
theorem d_M_dries_5 : decode (pw_cc cx_M_dries) 5 = .ok (.if_icmp .ge 40, 3) := by decide +kernel
theorem d_M_dries_8 : decode (pw_cc cx_M_dries) 8 = .ok (.aload_n 0, 1) := by decide +kernel
theorem d_M_dries_9 : decode (pw_cc cx_M_dries) 9 = .ok (.getfield 13, 3) := by decide +kernel
theorem d_M_dries_12 : decode (pw_cc cx_M_dries) 12 = .ok (.iload_n 1, 1) := by decide +kernel
theorem d_M_dries_13 : decode (pw_cc cx_M_dries) 13 = .ok (.iaload, 1) := by decide +kernel
theorem d_M_dries_14 : decode (pw_cc cx_M_dries) 14 = .ok (.iconst 1, 1) := by decide +kernel
theorem d_M_dries_15 : decode (pw_cc cx_M_dries) 15 = .ok (.invokestatic 142, 3) := by decide +kernel
theorem d_M_dries_18 : decode (pw_cc cx_M_dries) 18 = .ok (.istore_n 2, 1) := by decide +kernel
theorem d_M_dries_19 : decode (pw_cc cx_M_dries) 19 = .ok (.aload_n 0, 1) := by decide +kernel
theorem d_M_dries_20 : decode (pw_cc cx_M_dries) 20 = .ok (.getfield 13, 3) := by decide +kernel
theorem d_M_dries_23 : decode (pw_cc cx_M_dries) 23 = .ok (.iload_n 1, 1) := by decide +kernel
theorem d_M_dries_24 : decode (pw_cc cx_M_dries) 24 = .ok (.dup2, 1) := by decide +kernel
theorem d_M_dries_25 : decode (pw_cc cx_M_dries) 25 = .ok (.iaload, 1) := by decide +kernel
theorem d_M_dries_26 : decode (pw_cc cx_M_dries) 26 = .ok (.iload_n 2, 1) := by decide +kernel
theorem d_M_dries_27 : decode (pw_cc cx_M_dries) 27 = .ok (.isub, 1) := by decide +kernel
theorem d_M_dries_28 : decode (pw_cc cx_M_dries) 28 = .ok (.iastore, 1) := by decide +kernel
theorem d_M_dries_29 : decode (pw_cc cx_M_dries) 29 = .ok (.aload_n 0, 1) := by decide +kernel
theorem d_M_dries_30 : decode (pw_cc cx_M_dries) 30 = .ok (.dup, 1) := by decide +kernel
theorem d_M_dries_31 : decode (pw_cc cx_M_dries) 31 = .ok (.getfield 269, 3) := by decide +kernel
theorem d_M_dries_34 : decode (pw_cc cx_M_dries) 34 = .ok (.iload_n 2, 1) := by decide +kernel
theorem d_M_dries_35 : decode (pw_cc cx_M_dries) 35 = .ok (.iadd, 1) := by decide +kernel
theorem d_M_dries_36 : decode (pw_cc cx_M_dries) 36 = .ok (.putfield 269, 3) := by decide +kernel
theorem d_M_dries_39 : decode (pw_cc cx_M_dries) 39 = .ok (.iinc 1 1, 3) := by decide +kernel
theorem d_M_dries_42 : decode (pw_cc cx_M_dries) 42 = .ok (.goto (-40), 3) := by decide +kernel
theorem d_M_dries_45 : decode (pw_cc cx_M_dries) 45 = .ok (.return_, 1) := by decide +kernel
set_option maxHeartbeats 4000000 in
set_option maxRecDepth 20000 in
def lp_M_dries_2 (Q : pw_W → Int32 → Prop) (X : pw_W → Nat → Prop) : Nat → Int32 → pw_W → Prop := fun k => Nat.rec (motive := fun _ => Int32 → pw_W → Prop) (fun _ _ => False) (fun _ ih a1 w => ((100 : Int32) ≤ a1 → Q w 0) ∧ (¬ (100 : Int32) ≤ a1 → w.1 8 0 7 = 0 ∧ pw_jn a1 (pw_ln w 207 0) ∧ wp_M_lesser w (w.1 207 0 (pw_i a1)) 1 (fun w4 r5 => w4.1 8 0 7 = 0 ∧ pw_jn a1 (pw_ln w4 207 0) ∧ pw_jn a1 (pw_ln w4 207 0) ∧ ∀ w9, w9 = pw_ps w4 207 0 (pw_i a1) ((w4.1 207 0 (pw_i a1)) - r5) → ∀ w11, w11 = pw_ps w9 8 0 5 ((w9.1 8 0 5) + r5) → ih (a1 + 1) w11) (fun _ _ => False))) k
set_option maxHeartbeats 4000000 in
set_option maxRecDepth 20000 in
theorem lp_M_dries_2_s {Q : pw_W → Int32 → Prop} {X : pw_W → Nat → Prop}  {k : Nat} {a1 : Int32} {w : pw_W} : lp_M_dries_2 Q X (k + 1) a1 w = (let ih := lp_M_dries_2 Q X k; ((100 : Int32) ≤ a1 → Q w 0) ∧ (¬ (100 : Int32) ≤ a1 → w.1 8 0 7 = 0 ∧ pw_jn a1 (pw_ln w 207 0) ∧ wp_M_lesser w (w.1 207 0 (pw_i a1)) 1 (fun w4 r5 => w4.1 8 0 7 = 0 ∧ pw_jn a1 (pw_ln w4 207 0) ∧ pw_jn a1 (pw_ln w4 207 0) ∧ ∀ w9, w9 = pw_ps w4 207 0 (pw_i a1) ((w4.1 207 0 (pw_i a1)) - r5) → ∀ w11, w11 = pw_ps w9 8 0 5 ((w9.1 8 0 5) + r5) → ih (a1 + 1) w11) (fun _ _ => False))) := rfl
set_option maxHeartbeats 4000000 in
set_option maxRecDepth 20000 in
theorem vlp_M_dries_2 {l : Launch} {g : pw_G} {Q : pw_W → Int32 → Prop} {X : pw_W → Nat → Prop} (hl0 : l.stackTraces = false) : ∀ (k : Nat) (a1 : Int32) (w : pw_W), lp_M_dries_2 Q X k a1 w → pw_V l g cx_M_dries Q X 2 [(10, 0), (0, a1), (1, 0)] [] w := by
  intro k; induction k with
  | zero => intro _ _ h; exact h.elim
  | succ k ih =>
    intro a1 w h
    rw [lp_M_dries_2_s] at h
    refine pv_iload_n (n := 3) d_M_dries_2 rfl rfl rfl ?_
    refine pv_bipush (v := 100) (n := 5) d_M_dries_3 (by decide) rfl ?_
    refine pv_icmp_ge (n := 8) (tgt := 45) d_M_dries_5 (by decide) rfl (fun c1 => ?_) (fun c1 => ?_)
    · replace h := h.1 c1
      exact pv_vret rfl rfl d_M_dries_45 h
    · replace h := h.2 c1
      refine pv_aload_n (n := 9) d_M_dries_8 rfl rfl rfl ?_
      obtain ⟨g2, h⟩ := h
      refine gt_M_13 (n := 12) rfl d_M_dries_9 (by decide) g2 rfl ?_
      refine pv_iload_n (n := 13) d_M_dries_12 rfl rfl rfl ?_
      obtain ⟨g3, h⟩ := h
      refine pv_iald (n := 14) (f := 207) (by decide) rfl d_M_dries_13 (by decide) g3 rfl ?_
      refine pv_iconst (v := 1) (n := 15) d_M_dries_14 (by decide) rfl ?_
      refine pv_callS (n := 18) [(0, (w.1 207 0 (pw_i a1))), (0, 1)] [] (con_M_lesser hl0 h) q_468 q_469 q_458 q_467 pyo_M_lesser (by decide) rfl rfl d_M_dries_15 rfl (fun w4 r5 h _ => ?_) (fun _ _ h => h.elim)
      show pw_V l g cx_M_dries Q X 18 [(10, 0), (0, a1), (1, 0)] [(0, r5)] w4
      refine pv_istore_n (n := 19) (L' := [(10, 0), (0, a1), (0, r5)]) d_M_dries_18 rfl (by decide) rfl rfl ?_
      refine pv_aload_n (n := 20) d_M_dries_19 rfl rfl rfl ?_
      obtain ⟨g6, h⟩ := h
      refine gt_M_13 (n := 23) rfl d_M_dries_20 (by decide) g6 rfl ?_
      refine pv_iload_n (n := 24) d_M_dries_23 rfl rfl rfl ?_
      refine pv_dup2 (n := 25) d_M_dries_24 (by decide) (by decide) rfl ?_
      obtain ⟨g7, h⟩ := h
      refine pv_iald (n := 26) (f := 207) (by decide) rfl d_M_dries_25 (by decide) g7 rfl ?_
      refine pv_iload_n (n := 27) d_M_dries_26 rfl rfl rfl ?_
      refine pv_isub (n := 28) d_M_dries_27 rfl ?_
      obtain ⟨g8, h⟩ := h
      refine pv_iast1 (n := 29) (f := 207) (by decide) rfl (fun _ => rfl) d_M_dries_28 (by decide) g8 rfl (fun w9 e10 => ?_)
      replace h := h w9 e10
      refine pv_aload_n (n := 30) d_M_dries_29 rfl rfl rfl ?_
      refine pv_dup (n := 31) d_M_dries_30 (by decide) rfl ?_
      refine gt_M_269 (n := 34) rfl d_M_dries_31 (by decide) rfl ?_
      refine pv_iload_n (n := 35) d_M_dries_34 rfl rfl rfl ?_
      refine pv_iadd (n := 36) d_M_dries_35 rfl ?_
      refine pt_M_269 (n := 39) rfl d_M_dries_36 (by decide) rfl (fun w11 e12 => ?_)
      replace h := h w11 e12
      refine pv_iinc (v := (a1 + 1)) (n := 42) (L1 := [(10, 0), (0, (a1 + 1)), (0, r5)]) d_M_dries_39 rfl rfl rfl (by decide) rfl ?_
      refine pv_goto (tgt := 2) d_M_dries_42 (by decide) ?_
      refine pv_unset (i := 2) (L1 := [(10, 0), (0, (a1 + 1)), (1, 0)]) rfl ?_
      exact ih _ _ h
set_option maxHeartbeats 4000000 in
set_option maxRecDepth 20000 in
def wp_M_dries (w : pw_W) (Q : pw_W → Int32 → Prop) (X : pw_W → Nat → Prop) : Prop := ∃ k13, lp_M_dries_2 Q X k13 0 w
set_option maxHeartbeats 4000000 in
set_option maxRecDepth 20000 in
theorem vw_M_dries {l : Launch} {g : pw_G} {Q : pw_W → Int32 → Prop} {X : pw_W → Nat → Prop} (hl0 : l.stackTraces = false) {w : pw_W} (h : wp_M_dries w Q X) : pw_V l g cx_M_dries Q X 0 [(10, 0), (1, 0), (1, 0)] [] w := by
  unfold wp_M_dries at h
  refine pv_iconst (v := 0) (n := 1) d_M_dries_0 (by decide) rfl ?_
  refine pv_istore_n (n := 2) (L' := [(10, 0), (0, 0), (1, 0)]) d_M_dries_1 rfl (by decide) rfl rfl ?_
  obtain ⟨k13, h⟩ := h
  exact vlp_M_dries_2 hl0 _ _ _ h
set_option maxHeartbeats 4000000 in
set_option maxRecDepth 20000 in
theorem con_M_dries {l : Launch} {g : pw_G} {Q : pw_W → Int32 → Prop} {X : pw_W → Nat → Prop} (hl0 : l.stackTraces = false) {w : pw_W} (h : wp_M_dries w Q X) : pw_Con l g y_M_dries cx_M_dries [(10, 0)] w Q X :=
  pw_con (by decide +kernel) rfl rfl hl0 rfl (Nat.le_of_ble_eq_true rfl) (by simp) (vw_M_dries hl0 h)
theorem d_M_sheepOn_0 : decode (pw_cc cx_M_sheepOn) 0 = .ok (.iconst 0, 1) := by decide +kernel
theorem d_M_sheepOn_1 : decode (pw_cc cx_M_sheepOn) 1 = .ok (.istore_n 2, 1) := by decide +kernel
theorem d_M_sheepOn_2 : decode (pw_cc cx_M_sheepOn) 2 = .ok (.iconst 0, 1) := by decide +kernel
theorem d_M_sheepOn_3 : decode (pw_cc cx_M_sheepOn) 3 = .ok (.istore_n 3, 1) := by decide +kernel
theorem d_M_sheepOn_4 : decode (pw_cc cx_M_sheepOn) 4 = .ok (.iload_n 3, 1) := by decide +kernel
theorem d_M_sheepOn_5 : decode (pw_cc cx_M_sheepOn) 5 = .ok (.bipush 12, 2) := by decide +kernel
theorem d_M_sheepOn_7 : decode (pw_cc cx_M_sheepOn) 7 = .ok (.if_icmp .ge 23, 3) := by decide +kernel
theorem d_M_sheepOn_10 : decode (pw_cc cx_M_sheepOn) 10 = .ok (.iload_n 2, 1) := by decide +kernel
theorem d_M_sheepOn_11 : decode (pw_cc cx_M_sheepOn) 11 = .ok (.aload_n 0, 1) := by decide +kernel
theorem d_M_sheepOn_12 : decode (pw_cc cx_M_sheepOn) 12 = .ok (.getfield 46, 3) := by decide +kernel
theorem d_M_sheepOn_15 : decode (pw_cc cx_M_sheepOn) 15 = .ok (.bipush 12, 2) := by decide +kernel
theorem d_M_sheepOn_17 : decode (pw_cc cx_M_sheepOn) 17 = .ok (.iload_n 1, 1) := by decide +kernel
theorem d_M_sheepOn_18 : decode (pw_cc cx_M_sheepOn) 18 = .ok (.imul, 1) := by decide +kernel
theorem d_M_sheepOn_19 : decode (pw_cc cx_M_sheepOn) 19 = .ok (.iload_n 3, 1) := by decide +kernel
theorem d_M_sheepOn_20 : decode (pw_cc cx_M_sheepOn) 20 = .ok (.iadd, 1) := by decide +kernel
theorem d_M_sheepOn_21 : decode (pw_cc cx_M_sheepOn) 21 = .ok (.iaload, 1) := by decide +kernel
theorem d_M_sheepOn_22 : decode (pw_cc cx_M_sheepOn) 22 = .ok (.iadd, 1) := by decide +kernel
theorem d_M_sheepOn_23 : decode (pw_cc cx_M_sheepOn) 23 = .ok (.istore_n 2, 1) := by decide +kernel
theorem d_M_sheepOn_24 : decode (pw_cc cx_M_sheepOn) 24 = .ok (.iinc 3 1, 3) := by decide +kernel
theorem d_M_sheepOn_27 : decode (pw_cc cx_M_sheepOn) 27 = .ok (.goto (-23), 3) := by decide +kernel
theorem d_M_sheepOn_30 : decode (pw_cc cx_M_sheepOn) 30 = .ok (.iload_n 2, 1) := by decide +kernel
theorem d_M_sheepOn_31 : decode (pw_cc cx_M_sheepOn) 31 = .ok (.ireturn, 1) := by decide +kernel
set_option maxHeartbeats 4000000 in
set_option maxRecDepth 20000 in
def lp_M_sheepOn_4 (Q : pw_W → Int32 → Prop) (X : pw_W → Nat → Prop) : Nat → Int32 → Int32 → Int32 → pw_W → Prop := fun k => Nat.rec (motive := fun _ => Int32 → Int32 → Int32 → pw_W → Prop) (fun _ _ _ _ => False) (fun _ ih a1 a2 a3 w => ((12 : Int32) ≤ a3 → Q w a2) ∧ (¬ (12 : Int32) ≤ a3 → w.1 8 0 19 = 0 ∧ pw_jn (((12 : Int32) * a1) + a3) (pw_ln w 219 0) ∧ ∀ v4, v4 = (a2 + (w.1 219 0 (pw_i (((12 : Int32) * a1) + a3)))) → ih a1 v4 (a3 + 1) w)) k
set_option maxHeartbeats 4000000 in
set_option maxRecDepth 20000 in
theorem lp_M_sheepOn_4_s {Q : pw_W → Int32 → Prop} {X : pw_W → Nat → Prop}  {k : Nat} {a1 a2 a3 : Int32} {w : pw_W} : lp_M_sheepOn_4 Q X (k + 1) a1 a2 a3 w = (let ih := lp_M_sheepOn_4 Q X k; ((12 : Int32) ≤ a3 → Q w a2) ∧ (¬ (12 : Int32) ≤ a3 → w.1 8 0 19 = 0 ∧ pw_jn (((12 : Int32) * a1) + a3) (pw_ln w 219 0) ∧ ∀ v4, v4 = (a2 + (w.1 219 0 (pw_i (((12 : Int32) * a1) + a3)))) → ih a1 v4 (a3 + 1) w)) := rfl
set_option maxHeartbeats 4000000 in
set_option maxRecDepth 20000 in
theorem vlp_M_sheepOn_4 {l : Launch} {g : pw_G} {Q : pw_W → Int32 → Prop} {X : pw_W → Nat → Prop} (hl0 : l.stackTraces = false) : ∀ (k : Nat) (a1 a2 a3 : Int32) (w : pw_W), lp_M_sheepOn_4 Q X k a1 a2 a3 w → pw_V l g cx_M_sheepOn Q X 4 [(10, 0), (0, a1), (0, a2), (0, a3)] [] w := by
  intro k; induction k with
  | zero => intro _ _ _ _ h; exact h.elim
  | succ k ih =>
    intro a1 a2 a3 w h
    rw [lp_M_sheepOn_4_s] at h
    refine pv_iload_n (n := 5) d_M_sheepOn_4 rfl rfl rfl ?_
    refine pv_bipush (v := 12) (n := 7) d_M_sheepOn_5 (by decide) rfl ?_
    refine pv_icmp_ge (n := 10) (tgt := 30) d_M_sheepOn_7 (by decide) rfl (fun c1 => ?_) (fun c1 => ?_)
    · replace h := h.1 c1
      refine pv_iload_n (n := 31) d_M_sheepOn_30 rfl rfl rfl ?_
      exact pv_iret rfl rfl d_M_sheepOn_31 h
    · replace h := h.2 c1
      refine pv_iload_n (n := 11) d_M_sheepOn_10 rfl rfl rfl ?_
      refine pv_aload_n (n := 12) d_M_sheepOn_11 rfl rfl rfl ?_
      obtain ⟨g2, h⟩ := h
      refine gt_M_46 (n := 15) rfl d_M_sheepOn_12 (by decide) g2 rfl ?_
      refine pv_bipush (v := 12) (n := 17) d_M_sheepOn_15 (by decide) rfl ?_
      refine pv_iload_n (n := 18) d_M_sheepOn_17 rfl rfl rfl ?_
      refine pv_imul (n := 19) d_M_sheepOn_18 rfl ?_
      refine pv_iload_n (n := 20) d_M_sheepOn_19 rfl rfl rfl ?_
      refine pv_iadd (n := 21) d_M_sheepOn_20 rfl ?_
      obtain ⟨g3, h⟩ := h
      refine pv_iald (n := 22) (f := 219) (by decide) rfl d_M_sheepOn_21 (by decide) g3 rfl ?_
      refine pv_iadd (n := 23) d_M_sheepOn_22 rfl ?_
      refine pv_nm (fun v4 e5 => ?_)
      replace h := h v4 e5
      refine pv_istore_n (n := 24) (L' := [(10, 0), (0, a1), (0, v4), (0, a3)]) d_M_sheepOn_23 rfl (by decide) rfl rfl ?_
      refine pv_iinc (v := (a3 + 1)) (n := 27) (L1 := [(10, 0), (0, a1), (0, v4), (0, (a3 + 1))]) d_M_sheepOn_24 rfl rfl rfl (by decide) rfl ?_
      refine pv_goto (tgt := 4) d_M_sheepOn_27 (by decide) ?_
      exact ih _ _ _ _ h
set_option maxHeartbeats 4000000 in
set_option maxRecDepth 20000 in
def wp_M_sheepOn (w : pw_W) (a1 : Int32) (Q : pw_W → Int32 → Prop) (X : pw_W → Nat → Prop) : Prop := ∃ k6, lp_M_sheepOn_4 Q X k6 a1 0 0 w
set_option maxHeartbeats 4000000 in
set_option maxRecDepth 20000 in
theorem vw_M_sheepOn {l : Launch} {g : pw_G} {Q : pw_W → Int32 → Prop} {X : pw_W → Nat → Prop} (hl0 : l.stackTraces = false) {w : pw_W} {a1 : Int32} (h : wp_M_sheepOn w a1 Q X) : pw_V l g cx_M_sheepOn Q X 0 [(10, 0), (0, a1), (1, 0), (1, 0)] [] w := by
  unfold wp_M_sheepOn at h
  refine pv_iconst (v := 0) (n := 1) d_M_sheepOn_0 (by decide) rfl ?_
  refine pv_istore_n (n := 2) (L' := [(10, 0), (0, a1), (0, 0), (1, 0)]) d_M_sheepOn_1 rfl (by decide) rfl rfl ?_
  refine pv_iconst (v := 0) (n := 3) d_M_sheepOn_2 (by decide) rfl ?_
  refine pv_istore_n (n := 4) (L' := [(10, 0), (0, a1), (0, 0), (0, 0)]) d_M_sheepOn_3 rfl (by decide) rfl rfl ?_
  obtain ⟨k6, h⟩ := h
  exact vlp_M_sheepOn_4 hl0 _ _ _ _ _ h
set_option maxHeartbeats 4000000 in
set_option maxRecDepth 20000 in
theorem con_M_sheepOn {l : Launch} {g : pw_G} {Q : pw_W → Int32 → Prop} {X : pw_W → Nat → Prop} (hl0 : l.stackTraces = false) {w : pw_W} {a1 : Int32} (h : wp_M_sheepOn w a1 Q X) : pw_Con l g y_M_sheepOn cx_M_sheepOn [(10, 0), (0, a1)] w Q X :=
  pw_con (by decide +kernel) rfl rfl hl0 rfl (Nat.le_of_ble_eq_true rfl) (by simp) (vw_M_sheepOn hl0 h)
theorem d_M_eats_0 : decode (pw_cc cx_M_eats) 0 = .ok (.iconst 0, 1) := by decide +kernel
theorem d_M_eats_1 : decode (pw_cc cx_M_eats) 1 = .ok (.istore_n 2, 1) := by decide +kernel
theorem d_M_eats_2 : decode (pw_cc cx_M_eats) 2 = .ok (.iconst 0, 1) := by decide +kernel
theorem d_M_eats_3 : decode (pw_cc cx_M_eats) 3 = .ok (.istore_n 3, 1) := by decide +kernel
theorem d_M_eats_4 : decode (pw_cc cx_M_eats) 4 = .ok (.iload_n 3, 1) := by decide +kernel
theorem d_M_eats_5 : decode (pw_cc cx_M_eats) 5 = .ok (.bipush 100, 2) := by decide +kernel
theorem d_M_eats_7 : decode (pw_cc cx_M_eats) 7 = .ok (.if_icmp .ge 56, 3) := by decide +kernel
theorem d_M_eats_10 : decode (pw_cc cx_M_eats) 10 = .ok (.iload_n 2, 1) := by decide +kernel
theorem d_M_eats_11 : decode (pw_cc cx_M_eats) 11 = .ok (.ifCond .ne 52, 3) := by decide +kernel
theorem d_M_eats_14 : decode (pw_cc cx_M_eats) 14 = .ok (.aload_n 0, 1) := by decide +kernel
theorem d_M_eats_15 : decode (pw_cc cx_M_eats) 15 = .ok (.getfield 16, 3) := by decide +kernel
theorem d_M_eats_18 : decode (pw_cc cx_M_eats) 18 = .ok (.iload_n 3, 1) := by decide +kernel
theorem d_M_eats_19 : decode (pw_cc cx_M_eats) 19 = .ok (.iaload, 1) := by decide +kernel
theorem d_M_eats_20 : decode (pw_cc cx_M_eats) 20 = .ok (.iload_n 1, 1) := by decide +kernel
theorem d_M_eats_21 : decode (pw_cc cx_M_eats) 21 = .ok (.if_icmp .ne 16, 3) := by decide +kernel
theorem d_M_eats_24 : decode (pw_cc cx_M_eats) 24 = .ok (.aload_n 0, 1) := by decide +kernel
theorem d_M_eats_25 : decode (pw_cc cx_M_eats) 25 = .ok (.getfield 7, 3) := by decide +kernel
theorem d_M_eats_28 : decode (pw_cc cx_M_eats) 28 = .ok (.iload_n 3, 1) := by decide +kernel
theorem d_M_eats_29 : decode (pw_cc cx_M_eats) 29 = .ok (.iaload, 1) := by decide +kernel
theorem d_M_eats_30 : decode (pw_cc cx_M_eats) 30 = .ok (.ifCond .le 7, 3) := by decide +kernel
theorem d_M_eats_33 : decode (pw_cc cx_M_eats) 33 = .ok (.iconst 1, 1) := by decide +kernel
theorem d_M_eats_34 : decode (pw_cc cx_M_eats) 34 = .ok (.goto 4, 3) := by decide +kernel
theorem d_M_eats_37 : decode (pw_cc cx_M_eats) 37 = .ok (.iconst 0, 1) := by decide +kernel
theorem d_M_eats_38 : decode (pw_cc cx_M_eats) 38 = .ok (.istore_n 2, 1) := by decide +kernel
theorem d_M_eats_39 : decode (pw_cc cx_M_eats) 39 = .ok (.aload_n 0, 1) := by decide +kernel
theorem d_M_eats_40 : decode (pw_cc cx_M_eats) 40 = .ok (.getfield 7, 3) := by decide +kernel
theorem d_M_eats_43 : decode (pw_cc cx_M_eats) 43 = .ok (.iload_n 3, 1) := by decide +kernel
theorem d_M_eats_44 : decode (pw_cc cx_M_eats) 44 = .ok (.dup2, 1) := by decide +kernel
theorem d_M_eats_45 : decode (pw_cc cx_M_eats) 45 = .ok (.iaload, 1) := by decide +kernel
theorem d_M_eats_46 : decode (pw_cc cx_M_eats) 46 = .ok (.iload_n 2, 1) := by decide +kernel
theorem d_M_eats_47 : decode (pw_cc cx_M_eats) 47 = .ok (.ifCond .eq 7, 3) := by decide +kernel
theorem d_M_eats_50 : decode (pw_cc cx_M_eats) 50 = .ok (.iconst 1, 1) := by decide +kernel
theorem d_M_eats_51 : decode (pw_cc cx_M_eats) 51 = .ok (.goto 4, 3) := by decide +kernel
theorem d_M_eats_54 : decode (pw_cc cx_M_eats) 54 = .ok (.iconst 0, 1) := by decide +kernel
theorem d_M_eats_55 : decode (pw_cc cx_M_eats) 55 = .ok (.isub, 1) := by decide +kernel
theorem d_M_eats_56 : decode (pw_cc cx_M_eats) 56 = .ok (.iastore, 1) := by decide +kernel
theorem d_M_eats_57 : decode (pw_cc cx_M_eats) 57 = .ok (.iinc 3 1, 3) := by decide +kernel
theorem d_M_eats_60 : decode (pw_cc cx_M_eats) 60 = .ok (.goto (-56), 3) := by decide +kernel
theorem d_M_eats_63 : decode (pw_cc cx_M_eats) 63 = .ok (.return_, 1) := by decide +kernel
set_option maxHeartbeats 4000000 in
set_option maxRecDepth 20000 in
def jp_M_eats_55 (Q : pw_W → Int32 → Prop) (X : pw_W → Nat → Prop) (K4 : Int32 → Int32 → Int32 → pw_W → Prop) (a1 a2 a3 s0 s1 s2 : Int32) (w : pw_W) : Prop := pw_jn s2 (pw_ln w 206 0) ∧ ∀ w2, w2 = pw_ps w 206 0 (pw_i s2) (s1 - s0) → K4 a1 a2 (a3 + 1) w2
set_option maxHeartbeats 4000000 in
set_option maxRecDepth 20000 in
theorem vjp_M_eats_55 {l : Launch} {g : pw_G} {Q : pw_W → Int32 → Prop} {X : pw_W → Nat → Prop} (hl0 : l.stackTraces = false) {K4 : Int32 → Int32 → Int32 → pw_W → Prop} (hK4 : ∀ (a1 a2 a3 : Int32) (w : pw_W), K4 a1 a2 a3 w → pw_V l g cx_M_eats Q X 4 [(10, 0), (0, a1), (0, a2), (0, a3)] [] w) (a1 a2 a3 s0 s1 s2 : Int32) (w : pw_W) (h : jp_M_eats_55 Q X K4 a1 a2 a3 s0 s1 s2 w) : pw_V l g cx_M_eats Q X 55 [(10, 0), (0, a1), (0, a2), (0, a3)] [(0, s0), (0, s1), (0, s2), (208, 0)] w := by
  unfold jp_M_eats_55 at h
  refine pv_isub (n := 56) d_M_eats_55 rfl ?_
  obtain ⟨g1, h⟩ := h
  refine pv_iast1 (n := 57) (f := 206) (by decide) rfl (fun _ => rfl) d_M_eats_56 (by decide) g1 rfl (fun w2 e3 => ?_)
  replace h := h w2 e3
  refine pv_iinc (v := (a3 + 1)) (n := 60) (L1 := [(10, 0), (0, a1), (0, a2), (0, (a3 + 1))]) d_M_eats_57 rfl rfl rfl (by decide) rfl ?_
  refine pv_goto (tgt := 4) d_M_eats_60 (by decide) ?_
  exact hK4 _ _ _ _ h
set_option maxHeartbeats 4000000 in
set_option maxRecDepth 20000 in
def jp_M_eats_38 (Q : pw_W → Int32 → Prop) (X : pw_W → Nat → Prop) (K4 : Int32 → Int32 → Int32 → pw_W → Prop) (a1 a3 s0 : Int32) (w : pw_W) : Prop := w.1 8 0 6 = 0 ∧ pw_jn a3 (pw_ln w 206 0) ∧ (s0 = 0 → jp_M_eats_55 Q X K4 a1 s0 a3 0 (w.1 206 0 (pw_i a3)) a3 w) ∧ (¬ s0 = 0 → jp_M_eats_55 Q X K4 a1 s0 a3 1 (w.1 206 0 (pw_i a3)) a3 w)
set_option maxHeartbeats 4000000 in
set_option maxRecDepth 20000 in
theorem vjp_M_eats_38 {l : Launch} {g : pw_G} {Q : pw_W → Int32 → Prop} {X : pw_W → Nat → Prop} (hl0 : l.stackTraces = false) {K4 : Int32 → Int32 → Int32 → pw_W → Prop} (hK4 : ∀ (a1 a2 a3 : Int32) (w : pw_W), K4 a1 a2 a3 w → pw_V l g cx_M_eats Q X 4 [(10, 0), (0, a1), (0, a2), (0, a3)] [] w) (a1 a3 s0 : Int32) (w : pw_W) (h : jp_M_eats_38 Q X K4 a1 a3 s0 w) : pw_V l g cx_M_eats Q X 38 [(10, 0), (0, a1), (1, 0), (0, a3)] [(0, s0)] w := by
  unfold jp_M_eats_38 at h
  refine pv_istore_n (n := 39) (L' := [(10, 0), (0, a1), (0, s0), (0, a3)]) d_M_eats_38 rfl (by decide) rfl rfl ?_
  refine pv_aload_n (n := 40) d_M_eats_39 rfl rfl rfl ?_
  obtain ⟨g4, h⟩ := h
  refine gt_M_7 (n := 43) rfl d_M_eats_40 (by decide) g4 rfl ?_
  refine pv_iload_n (n := 44) d_M_eats_43 rfl rfl rfl ?_
  refine pv_dup2 (n := 45) d_M_eats_44 (by decide) (by decide) rfl ?_
  obtain ⟨g5, h⟩ := h
  refine pv_iald (n := 46) (f := 206) (by decide) rfl d_M_eats_45 (by decide) g5 rfl ?_
  refine pv_iload_n (n := 47) d_M_eats_46 rfl rfl rfl ?_
  refine pv_if_eq (n := 50) (tgt := 54) d_M_eats_47 (by decide) rfl (fun c6 => ?_) (fun c6 => ?_)
  · replace h := h.1 c6
    refine pv_iconst (v := 0) (n := 55) d_M_eats_54 (by decide) rfl ?_
    exact vjp_M_eats_55 hl0 (by intros; exact hK4 _ _ _ _ (by assumption)) _ _ _ _ _ _ _ h
  · replace h := h.2 c6
    refine pv_iconst (v := 1) (n := 51) d_M_eats_50 (by decide) rfl ?_
    refine pv_goto (tgt := 55) d_M_eats_51 (by decide) ?_
    exact vjp_M_eats_55 hl0 (by intros; exact hK4 _ _ _ _ (by assumption)) _ _ _ _ _ _ _ h
set_option maxHeartbeats 4000000 in
set_option maxRecDepth 20000 in
def jp_M_eats_37 (Q : pw_W → Int32 → Prop) (X : pw_W → Nat → Prop) (K4 : Int32 → Int32 → Int32 → pw_W → Prop) (a1 a3 : Int32) (w : pw_W) : Prop := jp_M_eats_38 Q X K4 a1 a3 0 w
set_option maxHeartbeats 4000000 in
set_option maxRecDepth 20000 in
theorem vjp_M_eats_37 {l : Launch} {g : pw_G} {Q : pw_W → Int32 → Prop} {X : pw_W → Nat → Prop} (hl0 : l.stackTraces = false) {K4 : Int32 → Int32 → Int32 → pw_W → Prop} (hK4 : ∀ (a1 a2 a3 : Int32) (w : pw_W), K4 a1 a2 a3 w → pw_V l g cx_M_eats Q X 4 [(10, 0), (0, a1), (0, a2), (0, a3)] [] w) (a1 a3 : Int32) (w : pw_W) (h : jp_M_eats_37 Q X K4 a1 a3 w) : pw_V l g cx_M_eats Q X 37 [(10, 0), (0, a1), (1, 0), (0, a3)] [] w := by
  unfold jp_M_eats_37 at h
  refine pv_iconst (v := 0) (n := 38) d_M_eats_37 (by decide) rfl ?_
  exact vjp_M_eats_38 hl0 (by intros; exact hK4 _ _ _ _ (by assumption)) _ _ _ _ h
set_option maxHeartbeats 4000000 in
set_option maxRecDepth 20000 in
def lp_M_eats_4 (Q : pw_W → Int32 → Prop) (X : pw_W → Nat → Prop) : Nat → Int32 → Int32 → Int32 → pw_W → Prop := fun k => Nat.rec (motive := fun _ => Int32 → Int32 → Int32 → pw_W → Prop) (fun _ _ _ _ => False) (fun _ ih a1 a2 a3 w => ((100 : Int32) ≤ a3 → Q w 0) ∧ (¬ (100 : Int32) ≤ a3 → (¬ a2 = 0 → Q w 0) ∧ (a2 = 0 → w.1 8 0 8 = 0 ∧ pw_jn a3 (pw_ln w 208 0) ∧ (¬ (w.1 208 0 (pw_i a3)) = a1 → jp_M_eats_37 Q X ih a1 a3 w) ∧ ((w.1 208 0 (pw_i a3)) = a1 → w.1 8 0 6 = 0 ∧ pw_jn a3 (pw_ln w 206 0) ∧ ((w.1 206 0 (pw_i a3)) ≤ 0 → jp_M_eats_37 Q X ih a1 a3 w) ∧ (¬ (w.1 206 0 (pw_i a3)) ≤ 0 → jp_M_eats_38 Q X ih a1 a3 1 w))))) k
set_option maxHeartbeats 4000000 in
set_option maxRecDepth 20000 in
theorem lp_M_eats_4_s {Q : pw_W → Int32 → Prop} {X : pw_W → Nat → Prop}  {k : Nat} {a1 a2 a3 : Int32} {w : pw_W} : lp_M_eats_4 Q X (k + 1) a1 a2 a3 w = (let ih := lp_M_eats_4 Q X k; ((100 : Int32) ≤ a3 → Q w 0) ∧ (¬ (100 : Int32) ≤ a3 → (¬ a2 = 0 → Q w 0) ∧ (a2 = 0 → w.1 8 0 8 = 0 ∧ pw_jn a3 (pw_ln w 208 0) ∧ (¬ (w.1 208 0 (pw_i a3)) = a1 → jp_M_eats_37 Q X ih a1 a3 w) ∧ ((w.1 208 0 (pw_i a3)) = a1 → w.1 8 0 6 = 0 ∧ pw_jn a3 (pw_ln w 206 0) ∧ ((w.1 206 0 (pw_i a3)) ≤ 0 → jp_M_eats_37 Q X ih a1 a3 w) ∧ (¬ (w.1 206 0 (pw_i a3)) ≤ 0 → jp_M_eats_38 Q X ih a1 a3 1 w))))) := rfl
set_option maxHeartbeats 4000000 in
set_option maxRecDepth 20000 in
theorem vlp_M_eats_4 {l : Launch} {g : pw_G} {Q : pw_W → Int32 → Prop} {X : pw_W → Nat → Prop} (hl0 : l.stackTraces = false) : ∀ (k : Nat) (a1 a2 a3 : Int32) (w : pw_W), lp_M_eats_4 Q X k a1 a2 a3 w → pw_V l g cx_M_eats Q X 4 [(10, 0), (0, a1), (0, a2), (0, a3)] [] w := by
  intro k; induction k with
  | zero => intro _ _ _ _ h; exact h.elim
  | succ k ih =>
    intro a1 a2 a3 w h
    rw [lp_M_eats_4_s] at h
    refine pv_iload_n (n := 5) d_M_eats_4 rfl rfl rfl ?_
    refine pv_bipush (v := 100) (n := 7) d_M_eats_5 (by decide) rfl ?_
    refine pv_icmp_ge (n := 10) (tgt := 63) d_M_eats_7 (by decide) rfl (fun c7 => ?_) (fun c7 => ?_)
    · replace h := h.1 c7
      exact pv_vret rfl rfl d_M_eats_63 h
    · replace h := h.2 c7
      refine pv_iload_n (n := 11) d_M_eats_10 rfl rfl rfl ?_
      refine pv_if_ne (n := 14) (tgt := 63) d_M_eats_11 (by decide) rfl (fun c8 => ?_) (fun c8 => ?_)
      · replace h := h.1 c8
        exact pv_vret rfl rfl d_M_eats_63 h
      · replace h := h.2 c8
        refine pv_aload_n (n := 15) d_M_eats_14 rfl rfl rfl ?_
        obtain ⟨g9, h⟩ := h
        refine gt_M_16 (n := 18) rfl d_M_eats_15 (by decide) g9 rfl ?_
        refine pv_iload_n (n := 19) d_M_eats_18 rfl rfl rfl ?_
        obtain ⟨g10, h⟩ := h
        refine pv_iald (n := 20) (f := 208) (by decide) rfl d_M_eats_19 (by decide) g10 rfl ?_
        refine pv_iload_n (n := 21) d_M_eats_20 rfl rfl rfl ?_
        refine pv_icmp_ne (n := 24) (tgt := 37) d_M_eats_21 (by decide) rfl (fun c11 => ?_) (fun c11 => ?_)
        · replace h := h.1 c11
          refine pv_unset (i := 2) (L1 := [(10, 0), (0, a1), (1, 0), (0, a3)]) rfl ?_
          exact vjp_M_eats_37 hl0 (by intros; exact ih _ _ _ _ (by assumption)) _ _ _ h
        · replace h := h.2 c11
          refine pv_aload_n (n := 25) d_M_eats_24 rfl rfl rfl ?_
          obtain ⟨g12, h⟩ := h
          refine gt_M_7 (n := 28) rfl d_M_eats_25 (by decide) g12 rfl ?_
          refine pv_iload_n (n := 29) d_M_eats_28 rfl rfl rfl ?_
          obtain ⟨g13, h⟩ := h
          refine pv_iald (n := 30) (f := 206) (by decide) rfl d_M_eats_29 (by decide) g13 rfl ?_
          refine pv_if_le (n := 33) (tgt := 37) d_M_eats_30 (by decide) rfl (fun c14 => ?_) (fun c14 => ?_)
          · replace h := h.1 c14
            refine pv_unset (i := 2) (L1 := [(10, 0), (0, a1), (1, 0), (0, a3)]) rfl ?_
            exact vjp_M_eats_37 hl0 (by intros; exact ih _ _ _ _ (by assumption)) _ _ _ h
          · replace h := h.2 c14
            refine pv_iconst (v := 1) (n := 34) d_M_eats_33 (by decide) rfl ?_
            refine pv_goto (tgt := 38) d_M_eats_34 (by decide) ?_
            refine pv_unset (i := 2) (L1 := [(10, 0), (0, a1), (1, 0), (0, a3)]) rfl ?_
            exact vjp_M_eats_38 hl0 (by intros; exact ih _ _ _ _ (by assumption)) _ _ _ _ h
set_option maxHeartbeats 4000000 in
set_option maxRecDepth 20000 in
def wp_M_eats (w : pw_W) (a1 : Int32) (Q : pw_W → Int32 → Prop) (X : pw_W → Nat → Prop) : Prop := ∃ k15, lp_M_eats_4 Q X k15 a1 0 0 w
set_option maxHeartbeats 4000000 in
set_option maxRecDepth 20000 in
theorem vw_M_eats {l : Launch} {g : pw_G} {Q : pw_W → Int32 → Prop} {X : pw_W → Nat → Prop} (hl0 : l.stackTraces = false) {w : pw_W} {a1 : Int32} (h : wp_M_eats w a1 Q X) : pw_V l g cx_M_eats Q X 0 [(10, 0), (0, a1), (1, 0), (1, 0)] [] w := by
  unfold wp_M_eats at h
  refine pv_iconst (v := 0) (n := 1) d_M_eats_0 (by decide) rfl ?_
  refine pv_istore_n (n := 2) (L' := [(10, 0), (0, a1), (0, 0), (1, 0)]) d_M_eats_1 rfl (by decide) rfl rfl ?_
  refine pv_iconst (v := 0) (n := 3) d_M_eats_2 (by decide) rfl ?_
  refine pv_istore_n (n := 4) (L' := [(10, 0), (0, a1), (0, 0), (0, 0)]) d_M_eats_3 rfl (by decide) rfl rfl ?_
  obtain ⟨k15, h⟩ := h
  exact vlp_M_eats_4 hl0 _ _ _ _ _ h
set_option maxHeartbeats 4000000 in
set_option maxRecDepth 20000 in
theorem con_M_eats {l : Launch} {g : pw_G} {Q : pw_W → Int32 → Prop} {X : pw_W → Nat → Prop} (hl0 : l.stackTraces = false) {w : pw_W} {a1 : Int32} (h : wp_M_eats w a1 Q X) : pw_Con l g y_M_eats cx_M_eats [(10, 0), (0, a1)] w Q X :=
  pw_con (by decide +kernel) rfl rfl hl0 rfl (Nat.le_of_ble_eq_true rfl) (by simp) (vw_M_eats hl0 h)
theorem d_M_yearBegins_0 : decode (pw_cc cx_M_yearBegins) 0 = .ok (.iconst 0, 1) := by decide +kernel
theorem d_M_yearBegins_1 : decode (pw_cc cx_M_yearBegins) 1 = .ok (.istore_n 1, 1) := by decide +kernel
theorem d_M_yearBegins_2 : decode (pw_cc cx_M_yearBegins) 2 = .ok (.iload_n 1, 1) := by decide +kernel
theorem d_M_yearBegins_3 : decode (pw_cc cx_M_yearBegins) 3 = .ok (.bipush 100, 2) := by decide +kernel
theorem d_M_yearBegins_5 : decode (pw_cc cx_M_yearBegins) 5 = .ok (.if_icmp .ge 54, 3) := by decide +kernel
theorem d_M_yearBegins_8 : decode (pw_cc cx_M_yearBegins) 8 = .ok (.aload_n 0, 1) := by decide +kernel
theorem d_M_yearBegins_9 : decode (pw_cc cx_M_yearBegins) 9 = .ok (.getfield 7, 3) := by decide +kernel
theorem d_M_yearBegins_12 : decode (pw_cc cx_M_yearBegins) 12 = .ok (.iload_n 1, 1) := by decide +kernel
theorem d_M_yearBegins_13 : decode (pw_cc cx_M_yearBegins) 13 = .ok (.dup2, 1) := by decide +kernel
theorem d_M_yearBegins_14 : decode (pw_cc cx_M_yearBegins) 14 = .ok (.iaload, 1) := by decide +kernel
theorem d_M_yearBegins_15 : decode (pw_cc cx_M_yearBegins) 15 = .ok (.aload_n 0, 1) := by decide +kernel
theorem d_M_yearBegins_16 : decode (pw_cc cx_M_yearBegins) 16 = .ok (.iload_n 1, 1) := by decide +kernel
theorem d_M_yearBegins_17 : decode (pw_cc cx_M_yearBegins) 17 = .ok (.invokevirtual 266, 3) := by decide +kernel
theorem d_M_yearBegins_20 : decode (pw_cc cx_M_yearBegins) 20 = .ok (.ifCond .eq 30, 3) := by decide +kernel
theorem d_M_yearBegins_23 : decode (pw_cc cx_M_yearBegins) 23 = .ok (.aload_n 0, 1) := by decide +kernel
theorem d_M_yearBegins_24 : decode (pw_cc cx_M_yearBegins) 24 = .ok (.iload_n 1, 1) := by decide +kernel
theorem d_M_yearBegins_25 : decode (pw_cc cx_M_yearBegins) 25 = .ok (.sipush 360, 3) := by decide +kernel
theorem d_M_yearBegins_28 : decode (pw_cc cx_M_yearBegins) 28 = .ok (.invokevirtual 260, 3) := by decide +kernel
theorem d_M_yearBegins_31 : decode (pw_cc cx_M_yearBegins) 31 = .ok (.ifCond .ne 19, 3) := by decide +kernel
theorem d_M_yearBegins_34 : decode (pw_cc cx_M_yearBegins) 34 = .ok (.aload_n 0, 1) := by decide +kernel
theorem d_M_yearBegins_35 : decode (pw_cc cx_M_yearBegins) 35 = .ok (.getfield 7, 3) := by decide +kernel
theorem d_M_yearBegins_38 : decode (pw_cc cx_M_yearBegins) 38 = .ok (.iload_n 1, 1) := by decide +kernel
theorem d_M_yearBegins_39 : decode (pw_cc cx_M_yearBegins) 39 = .ok (.iaload, 1) := by decide +kernel
theorem d_M_yearBegins_40 : decode (pw_cc cx_M_yearBegins) 40 = .ok (.sipush 200, 3) := by decide +kernel
theorem d_M_yearBegins_43 : decode (pw_cc cx_M_yearBegins) 43 = .ok (.if_icmp .ge 7, 3) := by decide +kernel
theorem d_M_yearBegins_46 : decode (pw_cc cx_M_yearBegins) 46 = .ok (.iconst 1, 1) := by decide +kernel
theorem d_M_yearBegins_47 : decode (pw_cc cx_M_yearBegins) 47 = .ok (.goto 4, 3) := by decide +kernel
theorem d_M_yearBegins_50 : decode (pw_cc cx_M_yearBegins) 50 = .ok (.iconst 0, 1) := by decide +kernel
theorem d_M_yearBegins_51 : decode (pw_cc cx_M_yearBegins) 51 = .ok (.iadd, 1) := by decide +kernel
theorem d_M_yearBegins_52 : decode (pw_cc cx_M_yearBegins) 52 = .ok (.iastore, 1) := by decide +kernel
theorem d_M_yearBegins_53 : decode (pw_cc cx_M_yearBegins) 53 = .ok (.iinc 1 1, 3) := by decide +kernel
theorem d_M_yearBegins_56 : decode (pw_cc cx_M_yearBegins) 56 = .ok (.goto (-54), 3) := by decide +kernel
theorem d_M_yearBegins_59 : decode (pw_cc cx_M_yearBegins) 59 = .ok (.iconst 0, 1) := by decide +kernel
theorem d_M_yearBegins_60 : decode (pw_cc cx_M_yearBegins) 60 = .ok (.istore_n 1, 1) := by decide +kernel
theorem d_M_yearBegins_61 : decode (pw_cc cx_M_yearBegins) 61 = .ok (.iload_n 1, 1) := by decide +kernel
theorem d_M_yearBegins_62 : decode (pw_cc cx_M_yearBegins) 62 = .ok (.bipush 100, 2) := by decide +kernel
theorem d_M_yearBegins_64 : decode (pw_cc cx_M_yearBegins) 64 = .ok (.if_icmp .ge 63, 3) := by decide +kernel
theorem d_M_yearBegins_67 : decode (pw_cc cx_M_yearBegins) 67 = .ok (.aload_n 0, 1) := by decide +kernel
theorem d_M_yearBegins_68 : decode (pw_cc cx_M_yearBegins) 68 = .ok (.getfield 40, 3) := by decide +kernel
theorem d_M_yearBegins_71 : decode (pw_cc cx_M_yearBegins) 71 = .ok (.aload_n 0, 1) := by decide +kernel
theorem d_M_yearBegins_72 : decode (pw_cc cx_M_yearBegins) 72 = .ok (.getfield 16, 3) := by decide +kernel
theorem d_M_yearBegins_75 : decode (pw_cc cx_M_yearBegins) 75 = .ok (.iload_n 1, 1) := by decide +kernel
theorem d_M_yearBegins_76 : decode (pw_cc cx_M_yearBegins) 76 = .ok (.iaload, 1) := by decide +kernel
theorem d_M_yearBegins_77 : decode (pw_cc cx_M_yearBegins) 77 = .ok (.iaload, 1) := by decide +kernel
theorem d_M_yearBegins_78 : decode (pw_cc cx_M_yearBegins) 78 = .ok (.istore_n 2, 1) := by decide +kernel
theorem d_M_yearBegins_79 : decode (pw_cc cx_M_yearBegins) 79 = .ok (.iload_n 2, 1) := by decide +kernel
theorem d_M_yearBegins_80 : decode (pw_cc cx_M_yearBegins) 80 = .ok (.iconst (-1), 1) := by decide +kernel
theorem d_M_yearBegins_81 : decode (pw_cc cx_M_yearBegins) 81 = .ok (.if_icmp .eq 40, 3) := by decide +kernel
theorem d_M_yearBegins_84 : decode (pw_cc cx_M_yearBegins) 84 = .ok (.aload_n 0, 1) := by decide +kernel
theorem d_M_yearBegins_85 : decode (pw_cc cx_M_yearBegins) 85 = .ok (.getfield 104, 3) := by decide +kernel
theorem d_M_yearBegins_88 : decode (pw_cc cx_M_yearBegins) 88 = .ok (.iload_n 2, 1) := by decide +kernel
theorem d_M_yearBegins_89 : decode (pw_cc cx_M_yearBegins) 89 = .ok (.baload, 1) := by decide +kernel
theorem d_M_yearBegins_90 : decode (pw_cc cx_M_yearBegins) 90 = .ok (.ifCond .ne 31, 3) := by decide +kernel
theorem d_M_yearBegins_93 : decode (pw_cc cx_M_yearBegins) 93 = .ok (.aload_n 0, 1) := by decide +kernel
theorem d_M_yearBegins_94 : decode (pw_cc cx_M_yearBegins) 94 = .ok (.getfield 113, 3) := by decide +kernel
theorem d_M_yearBegins_97 : decode (pw_cc cx_M_yearBegins) 97 = .ok (.iload_n 2, 1) := by decide +kernel
theorem d_M_yearBegins_98 : decode (pw_cc cx_M_yearBegins) 98 = .ok (.dup2, 1) := by decide +kernel
theorem d_M_yearBegins_99 : decode (pw_cc cx_M_yearBegins) 99 = .ok (.iaload, 1) := by decide +kernel
theorem d_M_yearBegins_100 : decode (pw_cc cx_M_yearBegins) 100 = .ok (.aload_n 0, 1) := by decide +kernel
theorem d_M_yearBegins_101 : decode (pw_cc cx_M_yearBegins) 101 = .ok (.iload_n 1, 1) := by decide +kernel
theorem d_M_yearBegins_102 : decode (pw_cc cx_M_yearBegins) 102 = .ok (.invokevirtual 272, 3) := by decide +kernel
theorem d_M_yearBegins_105 : decode (pw_cc cx_M_yearBegins) 105 = .ok (.aload_n 0, 1) := by decide +kernel
theorem d_M_yearBegins_106 : decode (pw_cc cx_M_yearBegins) 106 = .ok (.iload_n 1, 1) := by decide +kernel
theorem d_M_yearBegins_107 : decode (pw_cc cx_M_yearBegins) 107 = .ok (.invokevirtual 266, 3) := by decide +kernel
theorem d_M_yearBegins_110 : decode (pw_cc cx_M_yearBegins) 110 = .ok (.ifCond .eq 7, 3) := by decide +kernel
theorem d_M_yearBegins_113 : decode (pw_cc cx_M_yearBegins) 113 = .ok (.iconst 2, 1) := by decide +kernel
theorem d_M_yearBegins_114 : decode (pw_cc cx_M_yearBegins) 114 = .ok (.goto 4, 3) := by decide +kernel
theorem d_M_yearBegins_117 : decode (pw_cc cx_M_yearBegins) 117 = .ok (.iconst 0, 1) := by decide +kernel
theorem d_M_yearBegins_118 : decode (pw_cc cx_M_yearBegins) 118 = .ok (.iadd, 1) := by decide +kernel
theorem d_M_yearBegins_119 : decode (pw_cc cx_M_yearBegins) 119 = .ok (.iadd, 1) := by decide +kernel
theorem d_M_yearBegins_120 : decode (pw_cc cx_M_yearBegins) 120 = .ok (.iastore, 1) := by decide +kernel
theorem d_M_yearBegins_121 : decode (pw_cc cx_M_yearBegins) 121 = .ok (.iinc 1 1, 3) := by decide +kernel
theorem d_M_yearBegins_124 : decode (pw_cc cx_M_yearBegins) 124 = .ok (.goto (-63), 3) := by decide +kernel
theorem d_M_yearBegins_127 : decode (pw_cc cx_M_yearBegins) 127 = .ok (.return_, 1) := by decide +kernel
set_option maxHeartbeats 4000000 in
set_option maxRecDepth 20000 in
def jp_M_yearBegins_118 (Q : pw_W → Int32 → Prop) (X : pw_W → Nat → Prop) (K61 : Int32 → pw_W → Prop) (a1 s0 s1 s2 s3 : Int32) (w : pw_W) : Prop := pw_jn s3 (pw_ln w 245 0) ∧ ∀ w2, w2 = pw_ps w 245 0 (pw_i s3) (s2 + (s1 + s0)) → K61 (a1 + 1) w2
set_option maxHeartbeats 4000000 in
set_option maxRecDepth 20000 in
theorem vjp_M_yearBegins_118 {l : Launch} {g : pw_G} {Q : pw_W → Int32 → Prop} {X : pw_W → Nat → Prop} (hl0 : l.stackTraces = false) {K61 : Int32 → pw_W → Prop} (hK61 : ∀ (a1 : Int32) (w : pw_W), K61 a1 w → pw_V l g cx_M_yearBegins Q X 61 [(10, 0), (0, a1), (1, 0)] [] w) (a1 s0 s1 s2 s3 : Int32) (w : pw_W) (h : jp_M_yearBegins_118 Q X K61 a1 s0 s1 s2 s3 w) : pw_V l g cx_M_yearBegins Q X 118 [(10, 0), (0, a1), (1, 0)] [(0, s0), (0, s1), (0, s2), (0, s3), (247, 0)] w := by
  unfold jp_M_yearBegins_118 at h
  refine pv_iadd (n := 119) d_M_yearBegins_118 rfl ?_
  refine pv_iadd (n := 120) d_M_yearBegins_119 rfl ?_
  obtain ⟨g1, h⟩ := h
  refine pv_iast1 (n := 121) (f := 245) (by decide) rfl (fun _ => rfl) d_M_yearBegins_120 (by decide) g1 rfl (fun w2 e3 => ?_)
  replace h := h w2 e3
  refine pv_iinc (v := (a1 + 1)) (n := 124) (L1 := [(10, 0), (0, (a1 + 1)), (1, 0)]) d_M_yearBegins_121 rfl rfl rfl (by decide) rfl ?_
  refine pv_goto (tgt := 61) d_M_yearBegins_124 (by decide) ?_
  exact hK61 _ _ h
set_option maxHeartbeats 4000000 in
set_option maxRecDepth 20000 in
def lp_M_yearBegins_61 (Q : pw_W → Int32 → Prop) (X : pw_W → Nat → Prop) : Nat → Int32 → pw_W → Prop := fun k => Nat.rec (motive := fun _ => Int32 → pw_W → Prop) (fun _ _ => False) (fun _ ih a1 w => ((100 : Int32) ≤ a1 → Q w 0) ∧ (¬ (100 : Int32) ≤ a1 → w.1 8 0 16 = 0 ∧ w.1 8 0 8 = 0 ∧ pw_jn a1 (pw_ln w 208 0) ∧ pw_jn (w.1 208 0 (pw_i a1)) (pw_ln w 216 0) ∧ ∀ v9, v9 = (w.1 216 0 (pw_i (w.1 208 0 (pw_i a1)))) → (v9 = (-1) → ih (a1 + 1) w) ∧ (¬ v9 = (-1) → w.1 8 0 42 = 0 ∧ pw_jn v9 (pw_ln w 242 0) ∧ (¬ (w.1 242 0 (pw_i v9)) = 0 → ih (a1 + 1) w) ∧ ((w.1 242 0 (pw_i v9)) = 0 → w.1 8 0 45 = 0 ∧ pw_jn v9 (pw_ln w 245 0) ∧ wp_M_birds w a1 (fun w17 r18 => wp_M_isWet w17 a1 (fun w19 r20 => (r20 = 0 → jp_M_yearBegins_118 Q X ih a1 0 r18 (w.1 245 0 (pw_i v9)) v9 w19) ∧ (¬ r20 = 0 → jp_M_yearBegins_118 Q X ih a1 2 r18 (w.1 245 0 (pw_i v9)) v9 w19)) (fun _ _ => False)) (fun _ _ => False))))) k
set_option maxHeartbeats 4000000 in
set_option maxRecDepth 20000 in
theorem lp_M_yearBegins_61_s {Q : pw_W → Int32 → Prop} {X : pw_W → Nat → Prop}  {k : Nat} {a1 : Int32} {w : pw_W} : lp_M_yearBegins_61 Q X (k + 1) a1 w = (let ih := lp_M_yearBegins_61 Q X k; ((100 : Int32) ≤ a1 → Q w 0) ∧ (¬ (100 : Int32) ≤ a1 → w.1 8 0 16 = 0 ∧ w.1 8 0 8 = 0 ∧ pw_jn a1 (pw_ln w 208 0) ∧ pw_jn (w.1 208 0 (pw_i a1)) (pw_ln w 216 0) ∧ ∀ v9, v9 = (w.1 216 0 (pw_i (w.1 208 0 (pw_i a1)))) → (v9 = (-1) → ih (a1 + 1) w) ∧ (¬ v9 = (-1) → w.1 8 0 42 = 0 ∧ pw_jn v9 (pw_ln w 242 0) ∧ (¬ (w.1 242 0 (pw_i v9)) = 0 → ih (a1 + 1) w) ∧ ((w.1 242 0 (pw_i v9)) = 0 → w.1 8 0 45 = 0 ∧ pw_jn v9 (pw_ln w 245 0) ∧ wp_M_birds w a1 (fun w17 r18 => wp_M_isWet w17 a1 (fun w19 r20 => (r20 = 0 → jp_M_yearBegins_118 Q X ih a1 0 r18 (w.1 245 0 (pw_i v9)) v9 w19) ∧ (¬ r20 = 0 → jp_M_yearBegins_118 Q X ih a1 2 r18 (w.1 245 0 (pw_i v9)) v9 w19)) (fun _ _ => False)) (fun _ _ => False))))) := rfl
set_option maxHeartbeats 4000000 in
set_option maxRecDepth 20000 in
theorem vlp_M_yearBegins_61 {l : Launch} {g : pw_G} {Q : pw_W → Int32 → Prop} {X : pw_W → Nat → Prop} (hl0 : l.stackTraces = false) : ∀ (k : Nat) (a1 : Int32) (w : pw_W), lp_M_yearBegins_61 Q X k a1 w → pw_V l g cx_M_yearBegins Q X 61 [(10, 0), (0, a1), (1, 0)] [] w := by
  intro k; induction k with
  | zero => intro _ _ h; exact h.elim
  | succ k ih =>
    intro a1 w h
    rw [lp_M_yearBegins_61_s] at h
    refine pv_iload_n (n := 62) d_M_yearBegins_61 rfl rfl rfl ?_
    refine pv_bipush (v := 100) (n := 64) d_M_yearBegins_62 (by decide) rfl ?_
    refine pv_icmp_ge (n := 67) (tgt := 127) d_M_yearBegins_64 (by decide) rfl (fun c4 => ?_) (fun c4 => ?_)
    · replace h := h.1 c4
      exact pv_vret rfl rfl d_M_yearBegins_127 h
    · replace h := h.2 c4
      refine pv_aload_n (n := 68) d_M_yearBegins_67 rfl rfl rfl ?_
      obtain ⟨g5, h⟩ := h
      refine gt_M_40 (n := 71) rfl d_M_yearBegins_68 (by decide) g5 rfl ?_
      refine pv_aload_n (n := 72) d_M_yearBegins_71 rfl rfl rfl ?_
      obtain ⟨g6, h⟩ := h
      refine gt_M_16 (n := 75) rfl d_M_yearBegins_72 (by decide) g6 rfl ?_
      refine pv_iload_n (n := 76) d_M_yearBegins_75 rfl rfl rfl ?_
      obtain ⟨g7, h⟩ := h
      refine pv_iald (n := 77) (f := 208) (by decide) rfl d_M_yearBegins_76 (by decide) g7 rfl ?_
      obtain ⟨g8, h⟩ := h
      refine pv_iald (n := 78) (f := 216) (by decide) rfl d_M_yearBegins_77 (by decide) g8 rfl ?_
      refine pv_nm (fun v9 e10 => ?_)
      replace h := h v9 e10
      refine pv_istore_n (n := 79) (L' := [(10, 0), (0, a1), (0, v9)]) d_M_yearBegins_78 rfl (by decide) rfl rfl ?_
      refine pv_iload_n (n := 80) d_M_yearBegins_79 rfl rfl rfl ?_
      refine pv_iconst (v := -1) (n := 81) d_M_yearBegins_80 (by decide) rfl ?_
      refine pv_icmp_eq (n := 84) (tgt := 121) d_M_yearBegins_81 (by decide) rfl (fun c11 => ?_) (fun c11 => ?_)
      · replace h := h.1 c11
        refine pv_iinc (v := (a1 + 1)) (n := 124) (L1 := [(10, 0), (0, (a1 + 1)), (0, v9)]) d_M_yearBegins_121 rfl rfl rfl (by decide) rfl ?_
        refine pv_goto (tgt := 61) d_M_yearBegins_124 (by decide) ?_
        refine pv_unset (i := 2) (L1 := [(10, 0), (0, (a1 + 1)), (1, 0)]) rfl ?_
        exact ih _ _ h
      · replace h := h.2 c11
        refine pv_aload_n (n := 85) d_M_yearBegins_84 rfl rfl rfl ?_
        obtain ⟨g12, h⟩ := h
        refine gt_M_104 (n := 88) rfl d_M_yearBegins_85 (by decide) g12 rfl ?_
        refine pv_iload_n (n := 89) d_M_yearBegins_88 rfl rfl rfl ?_
        obtain ⟨g13, h⟩ := h
        refine pv_zald (n := 90) (f := 242) (by decide) rfl d_M_yearBegins_89 (by decide) g13 rfl ?_
        refine pv_if_ne (n := 93) (tgt := 121) d_M_yearBegins_90 (by decide) rfl (fun c14 => ?_) (fun c14 => ?_)
        · replace h := h.1 c14
          refine pv_iinc (v := (a1 + 1)) (n := 124) (L1 := [(10, 0), (0, (a1 + 1)), (0, v9)]) d_M_yearBegins_121 rfl rfl rfl (by decide) rfl ?_
          refine pv_goto (tgt := 61) d_M_yearBegins_124 (by decide) ?_
          refine pv_unset (i := 2) (L1 := [(10, 0), (0, (a1 + 1)), (1, 0)]) rfl ?_
          exact ih _ _ h
        · replace h := h.2 c14
          refine pv_aload_n (n := 94) d_M_yearBegins_93 rfl rfl rfl ?_
          obtain ⟨g15, h⟩ := h
          refine gt_M_113 (n := 97) rfl d_M_yearBegins_94 (by decide) g15 rfl ?_
          refine pv_iload_n (n := 98) d_M_yearBegins_97 rfl rfl rfl ?_
          refine pv_dup2 (n := 99) d_M_yearBegins_98 (by decide) (by decide) rfl ?_
          obtain ⟨g16, h⟩ := h
          refine pv_iald (n := 100) (f := 245) (by decide) rfl d_M_yearBegins_99 (by decide) g16 rfl ?_
          refine pv_aload_n (n := 101) d_M_yearBegins_100 rfl rfl rfl ?_
          refine pv_iload_n (n := 102) d_M_yearBegins_101 rfl rfl rfl ?_
          refine pv_callV (n := 105) (x := 0) [(0, a1)] [(0, (w.1 245 0 (pw_i v9))), (0, v9), (247, 0)] (con_M_birds hl0 h) pw_cf8 rfl q_609 q_610 q_611 q_458 q_608 pyo_M_birds (by decide) rfl rfl (by decide) d_M_yearBegins_102 rfl (fun w17 r18 h _ => ?_) (fun _ _ h => h.elim)
          show pw_V l g cx_M_yearBegins Q X 105 [(10, 0), (0, a1), (0, v9)] [(0, r18), (0, (w.1 245 0 (pw_i v9))), (0, v9), (247, 0)] w17
          refine pv_aload_n (n := 106) d_M_yearBegins_105 rfl rfl rfl ?_
          refine pv_iload_n (n := 107) d_M_yearBegins_106 rfl rfl rfl ?_
          refine pv_callV (n := 110) (x := 0) [(0, a1)] [(0, r18), (0, (w.1 245 0 (pw_i v9))), (0, v9), (247, 0)] (con_M_isWet hl0 h) pw_cf8 rfl q_604 q_605 q_606 q_458 q_603 pyo_M_isWet (by decide) rfl rfl (by decide) d_M_yearBegins_107 rfl (fun w19 r20 h _ => ?_) (fun _ _ h => h.elim)
          show pw_V l g cx_M_yearBegins Q X 110 [(10, 0), (0, a1), (0, v9)] [(0, r20), (0, r18), (0, (w.1 245 0 (pw_i v9))), (0, v9), (247, 0)] w19
          refine pv_if_eq (n := 113) (tgt := 117) d_M_yearBegins_110 (by decide) rfl (fun c21 => ?_) (fun c21 => ?_)
          · replace h := h.1 c21
            refine pv_iconst (v := 0) (n := 118) d_M_yearBegins_117 (by decide) rfl ?_
            refine pv_unset (i := 2) (L1 := [(10, 0), (0, a1), (1, 0)]) rfl ?_
            exact vjp_M_yearBegins_118 hl0 (by intros; exact ih _ _ (by assumption)) _ _ _ _ _ _ h
          · replace h := h.2 c21
            refine pv_iconst (v := 2) (n := 114) d_M_yearBegins_113 (by decide) rfl ?_
            refine pv_goto (tgt := 118) d_M_yearBegins_114 (by decide) ?_
            refine pv_unset (i := 2) (L1 := [(10, 0), (0, a1), (1, 0)]) rfl ?_
            exact vjp_M_yearBegins_118 hl0 (by intros; exact ih _ _ (by assumption)) _ _ _ _ _ _ h
set_option maxHeartbeats 4000000 in
set_option maxRecDepth 20000 in
def jp_M_yearBegins_51 (Q : pw_W → Int32 → Prop) (X : pw_W → Nat → Prop) (K2 : Int32 → pw_W → Prop) (a1 s0 s1 s2 : Int32) (w : pw_W) : Prop := pw_jn s2 (pw_ln w 206 0) ∧ ∀ w23, w23 = pw_ps w 206 0 (pw_i s2) (s1 + s0) → K2 (a1 + 1) w23
set_option maxHeartbeats 4000000 in
set_option maxRecDepth 20000 in
theorem vjp_M_yearBegins_51 {l : Launch} {g : pw_G} {Q : pw_W → Int32 → Prop} {X : pw_W → Nat → Prop} (hl0 : l.stackTraces = false) {K2 : Int32 → pw_W → Prop} (hK2 : ∀ (a1 : Int32) (w : pw_W), K2 a1 w → pw_V l g cx_M_yearBegins Q X 2 [(10, 0), (0, a1), (1, 0)] [] w) (a1 s0 s1 s2 : Int32) (w : pw_W) (h : jp_M_yearBegins_51 Q X K2 a1 s0 s1 s2 w) : pw_V l g cx_M_yearBegins Q X 51 [(10, 0), (0, a1), (1, 0)] [(0, s0), (0, s1), (0, s2), (208, 0)] w := by
  unfold jp_M_yearBegins_51 at h
  refine pv_iadd (n := 52) d_M_yearBegins_51 rfl ?_
  obtain ⟨g22, h⟩ := h
  refine pv_iast1 (n := 53) (f := 206) (by decide) rfl (fun _ => rfl) d_M_yearBegins_52 (by decide) g22 rfl (fun w23 e24 => ?_)
  replace h := h w23 e24
  refine pv_iinc (v := (a1 + 1)) (n := 56) (L1 := [(10, 0), (0, (a1 + 1)), (1, 0)]) d_M_yearBegins_53 rfl rfl rfl (by decide) rfl ?_
  refine pv_goto (tgt := 2) d_M_yearBegins_56 (by decide) ?_
  exact hK2 _ _ h
set_option maxHeartbeats 4000000 in
set_option maxRecDepth 20000 in
def jp_M_yearBegins_50 (Q : pw_W → Int32 → Prop) (X : pw_W → Nat → Prop) (K2 : Int32 → pw_W → Prop) (a1 s0 s1 : Int32) (w : pw_W) : Prop := jp_M_yearBegins_51 Q X K2 a1 0 s0 s1 w
set_option maxHeartbeats 4000000 in
set_option maxRecDepth 20000 in
theorem vjp_M_yearBegins_50 {l : Launch} {g : pw_G} {Q : pw_W → Int32 → Prop} {X : pw_W → Nat → Prop} (hl0 : l.stackTraces = false) {K2 : Int32 → pw_W → Prop} (hK2 : ∀ (a1 : Int32) (w : pw_W), K2 a1 w → pw_V l g cx_M_yearBegins Q X 2 [(10, 0), (0, a1), (1, 0)] [] w) (a1 s0 s1 : Int32) (w : pw_W) (h : jp_M_yearBegins_50 Q X K2 a1 s0 s1 w) : pw_V l g cx_M_yearBegins Q X 50 [(10, 0), (0, a1), (1, 0)] [(0, s0), (0, s1), (208, 0)] w := by
  unfold jp_M_yearBegins_50 at h
  refine pv_iconst (v := 0) (n := 51) d_M_yearBegins_50 (by decide) rfl ?_
  exact vjp_M_yearBegins_51 hl0 (by intros; exact hK2 _ _ (by assumption)) _ _ _ _ _ h
set_option maxHeartbeats 4000000 in
set_option maxRecDepth 20000 in
def lp_M_yearBegins_2 (Q : pw_W → Int32 → Prop) (X : pw_W → Nat → Prop) : Nat → Int32 → pw_W → Prop := fun k => Nat.rec (motive := fun _ => Int32 → pw_W → Prop) (fun _ _ => False) (fun _ ih a1 w => ((100 : Int32) ≤ a1 → ∃ k26, lp_M_yearBegins_61 Q X k26 0 w) ∧ (¬ (100 : Int32) ≤ a1 → w.1 8 0 6 = 0 ∧ pw_jn a1 (pw_ln w 206 0) ∧ wp_M_isWet w a1 (fun w29 r30 => (r30 = 0 → jp_M_yearBegins_50 Q X ih a1 (w.1 206 0 (pw_i a1)) a1 w29) ∧ (¬ r30 = 0 → wp_M_wasBurnt w29 a1 360 (fun w32 r33 => (¬ r33 = 0 → jp_M_yearBegins_50 Q X ih a1 (w.1 206 0 (pw_i a1)) a1 w32) ∧ (r33 = 0 → w32.1 8 0 6 = 0 ∧ pw_jn a1 (pw_ln w32 206 0) ∧ ((200 : Int32) ≤ (w32.1 206 0 (pw_i a1)) → jp_M_yearBegins_50 Q X ih a1 (w.1 206 0 (pw_i a1)) a1 w32) ∧ (¬ (200 : Int32) ≤ (w32.1 206 0 (pw_i a1)) → jp_M_yearBegins_51 Q X ih a1 1 (w.1 206 0 (pw_i a1)) a1 w32))) (fun _ _ => False))) (fun _ _ => False))) k
set_option maxHeartbeats 4000000 in
set_option maxRecDepth 20000 in
theorem lp_M_yearBegins_2_s {Q : pw_W → Int32 → Prop} {X : pw_W → Nat → Prop}  {k : Nat} {a1 : Int32} {w : pw_W} : lp_M_yearBegins_2 Q X (k + 1) a1 w = (let ih := lp_M_yearBegins_2 Q X k; ((100 : Int32) ≤ a1 → ∃ k26, lp_M_yearBegins_61 Q X k26 0 w) ∧ (¬ (100 : Int32) ≤ a1 → w.1 8 0 6 = 0 ∧ pw_jn a1 (pw_ln w 206 0) ∧ wp_M_isWet w a1 (fun w29 r30 => (r30 = 0 → jp_M_yearBegins_50 Q X ih a1 (w.1 206 0 (pw_i a1)) a1 w29) ∧ (¬ r30 = 0 → wp_M_wasBurnt w29 a1 360 (fun w32 r33 => (¬ r33 = 0 → jp_M_yearBegins_50 Q X ih a1 (w.1 206 0 (pw_i a1)) a1 w32) ∧ (r33 = 0 → w32.1 8 0 6 = 0 ∧ pw_jn a1 (pw_ln w32 206 0) ∧ ((200 : Int32) ≤ (w32.1 206 0 (pw_i a1)) → jp_M_yearBegins_50 Q X ih a1 (w.1 206 0 (pw_i a1)) a1 w32) ∧ (¬ (200 : Int32) ≤ (w32.1 206 0 (pw_i a1)) → jp_M_yearBegins_51 Q X ih a1 1 (w.1 206 0 (pw_i a1)) a1 w32))) (fun _ _ => False))) (fun _ _ => False))) := rfl
set_option maxHeartbeats 4000000 in
set_option maxRecDepth 20000 in
theorem vlp_M_yearBegins_2 {l : Launch} {g : pw_G} {Q : pw_W → Int32 → Prop} {X : pw_W → Nat → Prop} (hl0 : l.stackTraces = false) : ∀ (k : Nat) (a1 : Int32) (w : pw_W), lp_M_yearBegins_2 Q X k a1 w → pw_V l g cx_M_yearBegins Q X 2 [(10, 0), (0, a1), (1, 0)] [] w := by
  intro k; induction k with
  | zero => intro _ _ h; exact h.elim
  | succ k ih =>
    intro a1 w h
    rw [lp_M_yearBegins_2_s] at h
    refine pv_iload_n (n := 3) d_M_yearBegins_2 rfl rfl rfl ?_
    refine pv_bipush (v := 100) (n := 5) d_M_yearBegins_3 (by decide) rfl ?_
    refine pv_icmp_ge (n := 8) (tgt := 59) d_M_yearBegins_5 (by decide) rfl (fun c25 => ?_) (fun c25 => ?_)
    · replace h := h.1 c25
      refine pv_iconst (v := 0) (n := 60) d_M_yearBegins_59 (by decide) rfl ?_
      refine pv_istore_n (n := 61) (L' := [(10, 0), (0, 0), (1, 0)]) d_M_yearBegins_60 rfl (by decide) rfl rfl ?_
      obtain ⟨k26, h⟩ := h
      exact vlp_M_yearBegins_61 hl0 _ _ _ h
    · replace h := h.2 c25
      refine pv_aload_n (n := 9) d_M_yearBegins_8 rfl rfl rfl ?_
      obtain ⟨g27, h⟩ := h
      refine gt_M_7 (n := 12) rfl d_M_yearBegins_9 (by decide) g27 rfl ?_
      refine pv_iload_n (n := 13) d_M_yearBegins_12 rfl rfl rfl ?_
      refine pv_dup2 (n := 14) d_M_yearBegins_13 (by decide) (by decide) rfl ?_
      obtain ⟨g28, h⟩ := h
      refine pv_iald (n := 15) (f := 206) (by decide) rfl d_M_yearBegins_14 (by decide) g28 rfl ?_
      refine pv_aload_n (n := 16) d_M_yearBegins_15 rfl rfl rfl ?_
      refine pv_iload_n (n := 17) d_M_yearBegins_16 rfl rfl rfl ?_
      refine pv_callV (n := 20) (x := 0) [(0, a1)] [(0, (w.1 206 0 (pw_i a1))), (0, a1), (208, 0)] (con_M_isWet hl0 h) pw_cf8 rfl q_604 q_605 q_606 q_458 q_603 pyo_M_isWet (by decide) rfl rfl (by decide) d_M_yearBegins_17 rfl (fun w29 r30 h _ => ?_) (fun _ _ h => h.elim)
      show pw_V l g cx_M_yearBegins Q X 20 [(10, 0), (0, a1), (1, 0)] [(0, r30), (0, (w.1 206 0 (pw_i a1))), (0, a1), (208, 0)] w29
      refine pv_if_eq (n := 23) (tgt := 50) d_M_yearBegins_20 (by decide) rfl (fun c31 => ?_) (fun c31 => ?_)
      · replace h := h.1 c31
        exact vjp_M_yearBegins_50 hl0 (by intros; exact ih _ _ (by assumption)) _ _ _ _ h
      · replace h := h.2 c31
        refine pv_aload_n (n := 24) d_M_yearBegins_23 rfl rfl rfl ?_
        refine pv_iload_n (n := 25) d_M_yearBegins_24 rfl rfl rfl ?_
        refine pv_sipush (v := 360) (n := 28) d_M_yearBegins_25 (by decide) rfl ?_
        refine pv_callV (n := 31) (x := 0) [(0, a1), (0, 360)] [(0, (w.1 206 0 (pw_i a1))), (0, a1), (208, 0)] (con_M_wasBurnt hl0 h) pw_cf8 rfl q_596 q_597 q_598 q_458 q_595 pyo_M_wasBurnt (by decide) rfl rfl (by decide) d_M_yearBegins_28 rfl (fun w32 r33 h _ => ?_) (fun _ _ h => h.elim)
        show pw_V l g cx_M_yearBegins Q X 31 [(10, 0), (0, a1), (1, 0)] [(0, r33), (0, (w.1 206 0 (pw_i a1))), (0, a1), (208, 0)] w32
        refine pv_if_ne (n := 34) (tgt := 50) d_M_yearBegins_31 (by decide) rfl (fun c34 => ?_) (fun c34 => ?_)
        · replace h := h.1 c34
          exact vjp_M_yearBegins_50 hl0 (by intros; exact ih _ _ (by assumption)) _ _ _ _ h
        · replace h := h.2 c34
          refine pv_aload_n (n := 35) d_M_yearBegins_34 rfl rfl rfl ?_
          obtain ⟨g35, h⟩ := h
          refine gt_M_7 (n := 38) rfl d_M_yearBegins_35 (by decide) g35 rfl ?_
          refine pv_iload_n (n := 39) d_M_yearBegins_38 rfl rfl rfl ?_
          obtain ⟨g36, h⟩ := h
          refine pv_iald (n := 40) (f := 206) (by decide) rfl d_M_yearBegins_39 (by decide) g36 rfl ?_
          refine pv_sipush (v := 200) (n := 43) d_M_yearBegins_40 (by decide) rfl ?_
          refine pv_icmp_ge (n := 46) (tgt := 50) d_M_yearBegins_43 (by decide) rfl (fun c37 => ?_) (fun c37 => ?_)
          · replace h := h.1 c37
            exact vjp_M_yearBegins_50 hl0 (by intros; exact ih _ _ (by assumption)) _ _ _ _ h
          · replace h := h.2 c37
            refine pv_iconst (v := 1) (n := 47) d_M_yearBegins_46 (by decide) rfl ?_
            refine pv_goto (tgt := 51) d_M_yearBegins_47 (by decide) ?_
            exact vjp_M_yearBegins_51 hl0 (by intros; exact ih _ _ (by assumption)) _ _ _ _ _ h
set_option maxHeartbeats 4000000 in
set_option maxRecDepth 20000 in
def wp_M_yearBegins (w : pw_W) (Q : pw_W → Int32 → Prop) (X : pw_W → Nat → Prop) : Prop := ∃ k38, lp_M_yearBegins_2 Q X k38 0 w
set_option maxHeartbeats 4000000 in
set_option maxRecDepth 20000 in
theorem vw_M_yearBegins {l : Launch} {g : pw_G} {Q : pw_W → Int32 → Prop} {X : pw_W → Nat → Prop} (hl0 : l.stackTraces = false) {w : pw_W} (h : wp_M_yearBegins w Q X) : pw_V l g cx_M_yearBegins Q X 0 [(10, 0), (1, 0), (1, 0)] [] w := by
  unfold wp_M_yearBegins at h
  refine pv_iconst (v := 0) (n := 1) d_M_yearBegins_0 (by decide) rfl ?_
  refine pv_istore_n (n := 2) (L' := [(10, 0), (0, 0), (1, 0)]) d_M_yearBegins_1 rfl (by decide) rfl rfl ?_
  obtain ⟨k38, h⟩ := h
  exact vlp_M_yearBegins_2 hl0 _ _ _ h
set_option maxHeartbeats 4000000 in
set_option maxRecDepth 20000 in
theorem con_M_yearBegins {l : Launch} {g : pw_G} {Q : pw_W → Int32 → Prop} {X : pw_W → Nat → Prop} (hl0 : l.stackTraces = false) {w : pw_W} (h : wp_M_yearBegins w Q X) : pw_Con l g y_M_yearBegins cx_M_yearBegins [(10, 0)] w Q X :=
  pw_con (by decide +kernel) rfl rfl hl0 rfl (Nat.le_of_ble_eq_true rfl) (by simp) (vw_M_yearBegins hl0 h)
