theorem d_X_isBurnable_0 : decode (pw_cc cx_X_isBurnable) 0 = .ok (.aload_n 0, 1) := by decide +kernel
theorem d_X_isBurnable_1 : decode (pw_cc cx_X_isBurnable) 1 = .ok (.getfield 281, 3) := by decide +kernel
theorem d_X_isBurnable_4 : decode (pw_cc cx_X_isBurnable) 4 = .ok (.iconst 3, 1) := by decide +kernel
theorem d_X_isBurnable_5 : decode (pw_cc cx_X_isBurnable) 5 = .ok (.if_icmp .gt 46, 3) := by decide +kernel
theorem d_X_isBurnable_8 : decode (pw_cc cx_X_isBurnable) 8 = .ok (.aload_n 1, 1) := by decide +kernel
theorem d_X_isBurnable_9 : decode (pw_cc cx_X_isBurnable) 9 = .ok (.getfield 238, 3) := by decide +kernel
theorem d_X_isBurnable_12 : decode (pw_cc cx_X_isBurnable) 12 = .ok (.bipush 30, 2) := by decide +kernel
theorem d_X_isBurnable_14 : decode (pw_cc cx_X_isBurnable) 14 = .ok (.if_icmp .gt 37, 3) := by decide +kernel
theorem d_X_isBurnable_17 : decode (pw_cc cx_X_isBurnable) 17 = .ok (.aload_n 0, 1) := by decide +kernel
theorem d_X_isBurnable_18 : decode (pw_cc cx_X_isBurnable) 18 = .ok (.getfield 145, 3) := by decide +kernel
theorem d_X_isBurnable_21 : decode (pw_cc cx_X_isBurnable) 21 = .ok (.sipush 360, 3) := by decide +kernel
theorem d_X_isBurnable_24 : decode (pw_cc cx_X_isBurnable) 24 = .ok (.irem, 1) := by decide +kernel
theorem d_X_isBurnable_25 : decode (pw_cc cx_X_isBurnable) 25 = .ok (.bipush 60, 2) := by decide +kernel
theorem d_X_isBurnable_27 : decode (pw_cc cx_X_isBurnable) 27 = .ok (.sipush 150, 3) := by decide +kernel
theorem d_X_isBurnable_30 : decode (pw_cc cx_X_isBurnable) 30 = .ok (.invokestatic 168, 3) := by decide +kernel
theorem d_X_isBurnable_33 : decode (pw_cc cx_X_isBurnable) 33 = .ok (.ifCond .eq 18, 3) := by decide +kernel
theorem d_X_isBurnable_36 : decode (pw_cc cx_X_isBurnable) 36 = .ok (.aload_n 0, 1) := by decide +kernel
theorem d_X_isBurnable_37 : decode (pw_cc cx_X_isBurnable) 37 = .ok (.sipush 1080, 3) := by decide +kernel
theorem d_X_isBurnable_40 : decode (pw_cc cx_X_isBurnable) 40 = .ok (.aload_n 1, 1) := by decide +kernel
theorem d_X_isBurnable_41 : decode (pw_cc cx_X_isBurnable) 41 = .ok (.invokevirtual 440, 3) := by decide +kernel
theorem d_X_isBurnable_44 : decode (pw_cc cx_X_isBurnable) 44 = .ok (.ifCond .ne 7, 3) := by decide +kernel
theorem d_X_isBurnable_47 : decode (pw_cc cx_X_isBurnable) 47 = .ok (.iconst 1, 1) := by decide +kernel
theorem d_X_isBurnable_48 : decode (pw_cc cx_X_isBurnable) 48 = .ok (.goto 4, 3) := by decide +kernel
theorem d_X_isBurnable_51 : decode (pw_cc cx_X_isBurnable) 51 = .ok (.iconst 0, 1) := by decide +kernel
theorem d_X_isBurnable_52 : decode (pw_cc cx_X_isBurnable) 52 = .ok (.ireturn, 1) := by decide +kernel
set_option maxHeartbeats 4000000 in
set_option maxRecDepth 20000 in
def wp_X_isBurnable (w : pw_W) (a1 : Int32) (Q : pw_W → Int32 → Prop) (X : pw_W → Nat → Prop) : Prop := ((3 : Int32) < (w.1 7 0 8) → Q w 0) ∧ (¬ (3 : Int32) < (w.1 7 0 8) → 0 ≤ a1 ∧ ((30 : Int32) < (w.1 6 (pw_i a1) 5) → Q w 0) ∧ (¬ (30 : Int32) < (w.1 6 (pw_i a1) 5) → wp_X_isInRange w ((w.1 7 0 7) - (w.1 7 0 7) / 360 * 360) 60 150 (fun w4 r5 => (r5 = 0 → Q w4 0) ∧ (¬ r5 = 0 → wp_X_isBurntInLast w4 1080 a1 (fun w7 r8 => (¬ r8 = 0 → Q w7 0) ∧ (r8 = 0 → Q w7 1)) (fun _ _ => False))) (fun _ _ => False)))
set_option maxHeartbeats 4000000 in
set_option maxRecDepth 20000 in
theorem vw_X_isBurnable {l : Launch} {g : pw_G} {Q : pw_W → Int32 → Prop} {X : pw_W → Nat → Prop} (hl0 : l.stackTraces = false) {w : pw_W} {a1 : Int32} (h : wp_X_isBurnable w a1 Q X) : pw_V l g cx_X_isBurnable Q X 0 [(9, 0), (8, a1)] [] w := by
  unfold wp_X_isBurnable at h
  refine pv_aload_n (n := 1) d_X_isBurnable_0 rfl rfl rfl ?_
  refine gt_X_281 (n := 4) rfl d_X_isBurnable_1 (by decide) rfl ?_
  refine pv_iconst (v := 3) (n := 5) d_X_isBurnable_4 (by decide) rfl ?_
  refine pv_icmp_gt (n := 8) (tgt := 51) d_X_isBurnable_5 (by decide) rfl (fun c1 => ?_) (fun c1 => ?_)
  · replace h := h.1 c1
    refine pv_iconst (v := 0) (n := 52) d_X_isBurnable_51 (by decide) rfl ?_
    exact pv_zret rfl rfl d_X_isBurnable_52 (by decide) h
  · replace h := h.2 c1
    refine pv_aload_n (n := 9) d_X_isBurnable_8 rfl rfl rfl ?_
    obtain ⟨g2, h⟩ := h
    refine gt_X_238 (n := 12) rfl d_X_isBurnable_9 g2 rfl ?_
    refine pv_bipush (v := 30) (n := 14) d_X_isBurnable_12 (by decide) rfl ?_
    refine pv_icmp_gt (n := 17) (tgt := 51) d_X_isBurnable_14 (by decide) rfl (fun c3 => ?_) (fun c3 => ?_)
    · replace h := h.1 c3
      refine pv_iconst (v := 0) (n := 52) d_X_isBurnable_51 (by decide) rfl ?_
      exact pv_zret rfl rfl d_X_isBurnable_52 (by decide) h
    · replace h := h.2 c3
      refine pv_aload_n (n := 18) d_X_isBurnable_17 rfl rfl rfl ?_
      refine gt_X_145 (n := 21) rfl d_X_isBurnable_18 (by decide) rfl ?_
      refine pv_sipush (v := 360) (n := 24) d_X_isBurnable_21 (by decide) rfl ?_
      refine pv_irem (n := 25) d_X_isBurnable_24 (by decide) rfl ?_
      refine pv_bipush (v := 60) (n := 27) d_X_isBurnable_25 (by decide) rfl ?_
      refine pv_sipush (v := 150) (n := 30) d_X_isBurnable_27 (by decide) rfl ?_
      refine pv_callS (n := 33) [(0, ((w.1 7 0 7) - (w.1 7 0 7) / 360 * 360)), (0, 60), (0, 150)] [] (con_X_isInRange hl0 h) q_96 q_97 q_62 q_95 pyo_X_isInRange (by decide) rfl rfl d_X_isBurnable_30 rfl (fun w4 r5 h _ => ?_) (fun _ _ h => h.elim)
      show pw_V l g cx_X_isBurnable Q X 33 [(9, 0), (8, a1)] [(0, r5)] w4
      refine pv_if_eq (n := 36) (tgt := 51) d_X_isBurnable_33 (by decide) rfl (fun c6 => ?_) (fun c6 => ?_)
      · replace h := h.1 c6
        refine pv_iconst (v := 0) (n := 52) d_X_isBurnable_51 (by decide) rfl ?_
        exact pv_zret rfl rfl d_X_isBurnable_52 (by decide) h
      · replace h := h.2 c6
        refine pv_aload_n (n := 37) d_X_isBurnable_36 rfl rfl rfl ?_
        refine pv_sipush (v := 1080) (n := 40) d_X_isBurnable_37 (by decide) rfl ?_
        refine pv_aload_n (n := 41) d_X_isBurnable_40 rfl rfl rfl ?_
        refine pv_callV (n := 44) (x := 0) [(0, 1080), (8, a1)] [] (con_X_isBurntInLast hl0 h) pw_cf7 rfl q_306 q_307 q_308 q_62 q_305 pyo_X_isBurntInLast (by decide) rfl rfl (by decide) d_X_isBurnable_41 rfl (fun w7 r8 h _ => ?_) (fun _ _ h => h.elim)
        show pw_V l g cx_X_isBurnable Q X 44 [(9, 0), (8, a1)] [(0, r8)] w7
        refine pv_if_ne (n := 47) (tgt := 51) d_X_isBurnable_44 (by decide) rfl (fun c9 => ?_) (fun c9 => ?_)
        · replace h := h.1 c9
          refine pv_iconst (v := 0) (n := 52) d_X_isBurnable_51 (by decide) rfl ?_
          exact pv_zret rfl rfl d_X_isBurnable_52 (by decide) h
        · replace h := h.2 c9
          refine pv_iconst (v := 1) (n := 48) d_X_isBurnable_47 (by decide) rfl ?_
          refine pv_goto (tgt := 52) d_X_isBurnable_48 (by decide) ?_
          exact pv_zret rfl rfl d_X_isBurnable_52 (by decide) h
set_option maxHeartbeats 4000000 in
set_option maxRecDepth 20000 in
theorem con_X_isBurnable {l : Launch} {g : pw_G} {Q : pw_W → Int32 → Prop} {X : pw_W → Nat → Prop} (hl0 : l.stackTraces = false) {w : pw_W} {a1 : Int32} (h : wp_X_isBurnable w a1 Q X) : pw_Con l g y_X_isBurnable cx_X_isBurnable [(9, 0), (8, a1)] w Q X :=
  pw_con (by decide +kernel) rfl rfl hl0 rfl (Nat.le_of_ble_eq_true rfl) (by simp) (vw_X_isBurnable hl0 h)
theorem d_X_burn_0 : decode (pw_cc cx_X_burn) 0 = .ok (.aload_n 0, 1) := by decide +kernel
theorem d_X_burn_1 : decode (pw_cc cx_X_burn) 1 = .ok (.iload_n 1, 1) := by decide +kernel
theorem d_X_burn_2 : decode (pw_cc cx_X_burn) 2 = .ok (.invokevirtual 69, 3) := by decide +kernel
theorem d_X_burn_5 : decode (pw_cc cx_X_burn) 5 = .ok (.astore_n 3, 1) := by decide +kernel
theorem d_X_burn_6 : decode (pw_cc cx_X_burn) 6 = .ok (.aload_n 0, 1) := by decide +kernel
theorem d_X_burn_7 : decode (pw_cc cx_X_burn) 7 = .ok (.iload_n 2, 1) := by decide +kernel
theorem d_X_burn_8 : decode (pw_cc cx_X_burn) 8 = .ok (.invokevirtual 270, 3) := by decide +kernel
theorem d_X_burn_11 : decode (pw_cc cx_X_burn) 11 = .ok (.astore 4, 2) := by decide +kernel
theorem d_X_burn_13 : decode (pw_cc cx_X_burn) 13 = .ok (.aload_n 3, 1) := by decide +kernel
theorem d_X_burn_14 : decode (pw_cc cx_X_burn) 14 = .ok (.getfield 76, 3) := by decide +kernel
theorem d_X_burn_17 : decode (pw_cc cx_X_burn) 17 = .ok (.invokestatic 80, 3) := by decide +kernel
theorem d_X_burn_20 : decode (pw_cc cx_X_burn) 20 = .ok (.aload_n 0, 1) := by decide +kernel
theorem d_X_burn_21 : decode (pw_cc cx_X_burn) 21 = .ok (.aload_n 3, 1) := by decide +kernel
theorem d_X_burn_22 : decode (pw_cc cx_X_burn) 22 = .ok (.iconst 2, 1) := by decide +kernel
theorem d_X_burn_23 : decode (pw_cc cx_X_burn) 23 = .ok (.aload 4, 2) := by decide +kernel
theorem d_X_burn_25 : decode (pw_cc cx_X_burn) 25 = .ok (.getfield 104, 3) := by decide +kernel
theorem d_X_burn_28 : decode (pw_cc cx_X_burn) 28 = .ok (.invokevirtual 274, 3) := by decide +kernel
theorem d_X_burn_31 : decode (pw_cc cx_X_burn) 31 = .ok (.invokestatic 80, 3) := by decide +kernel
theorem d_X_burn_34 : decode (pw_cc cx_X_burn) 34 = .ok (.aload_n 0, 1) := by decide +kernel
theorem d_X_burn_35 : decode (pw_cc cx_X_burn) 35 = .ok (.aload 4, 2) := by decide +kernel
theorem d_X_burn_37 : decode (pw_cc cx_X_burn) 37 = .ok (.invokevirtual 284, 3) := by decide +kernel
theorem d_X_burn_40 : decode (pw_cc cx_X_burn) 40 = .ok (.invokestatic 80, 3) := by decide +kernel
theorem d_X_burn_43 : decode (pw_cc cx_X_burn) 43 = .ok (.aload 4, 2) := by decide +kernel
theorem d_X_burn_45 : decode (pw_cc cx_X_burn) 45 = .ok (.dup, 1) := by decide +kernel
theorem d_X_burn_46 : decode (pw_cc cx_X_burn) 46 = .ok (.getfield 278, 3) := by decide +kernel
theorem d_X_burn_49 : decode (pw_cc cx_X_burn) 49 = .ok (.iconst 5, 1) := by decide +kernel
theorem d_X_burn_50 : decode (pw_cc cx_X_burn) 50 = .ok (.aload 4, 2) := by decide +kernel
theorem d_X_burn_52 : decode (pw_cc cx_X_burn) 52 = .ok (.getfield 278, 3) := by decide +kernel
theorem d_X_burn_55 : decode (pw_cc cx_X_burn) 55 = .ok (.invokestatic 241, 3) := by decide +kernel
theorem d_X_burn_58 : decode (pw_cc cx_X_burn) 58 = .ok (.isub, 1) := by decide +kernel
theorem d_X_burn_59 : decode (pw_cc cx_X_burn) 59 = .ok (.putfield 278, 3) := by decide +kernel
theorem d_X_burn_62 : decode (pw_cc cx_X_burn) 62 = .ok (.aload 4, 2) := by decide +kernel
theorem d_X_burn_64 : decode (pw_cc cx_X_burn) 64 = .ok (.aload_n 0, 1) := by decide +kernel
theorem d_X_burn_65 : decode (pw_cc cx_X_burn) 65 = .ok (.getfield 145, 3) := by decide +kernel
theorem d_X_burn_68 : decode (pw_cc cx_X_burn) 68 = .ok (.putfield 288, 3) := by decide +kernel
theorem d_X_burn_71 : decode (pw_cc cx_X_burn) 71 = .ok (.aload 4, 2) := by decide +kernel
theorem d_X_burn_73 : decode (pw_cc cx_X_burn) 73 = .ok (.getfield 278, 3) := by decide +kernel
theorem d_X_burn_76 : decode (pw_cc cx_X_burn) 76 = .ok (.ireturn, 1) := by decide +kernel
set_option maxHeartbeats 4000000 in
set_option maxRecDepth 20000 in
def wp_X_burn (w : pw_W) (a1 a2 : Int32) (Q : pw_W → Int32 → Prop) (X : pw_W → Nat → Prop) : Prop := wp_X_personNumbered w a1 (fun w1 r2 => wp_X_squareNumbered w1 a2 (fun w3 r4 => 0 ≤ r2 ∧ wp_X_checkState w3 (w3.1 4 (pw_i r2) 2) (fun w6 r7 => 0 ≤ r4 ∧ wp_X_isAllowed w6 r2 2 (w6.1 6 (pw_i r4) 1) (fun w9 r10 => wp_X_checkState w9 r10 (fun w11 r12 => wp_X_isBurnable w11 r4 (fun w13 r14 => wp_X_checkState w13 r14 (fun w15 r16 => ∀ w17, w17 = pw_ps w15 6 (pw_i r4) 4 ((w15.1 6 (pw_i r4) 4) - (if (w15.1 6 (pw_i r4) 4) < 5 then (w15.1 6 (pw_i r4) 4) else 5)) → ∀ w19, w19 = pw_ps w17 6 (pw_i r4) 6 (w17.1 7 0 7) → Q w19 (w19.1 6 (pw_i r4) 4)) X) (fun _ _ => False)) X) (fun _ _ => False)) X) X) X
set_option maxHeartbeats 4000000 in
set_option maxRecDepth 20000 in
theorem vw_X_burn {l : Launch} {g : pw_G} {Q : pw_W → Int32 → Prop} {X : pw_W → Nat → Prop} (hl0 : l.stackTraces = false) {w : pw_W} {a1 a2 : Int32} (h : wp_X_burn w a1 a2 Q X) : pw_V l g cx_X_burn Q X 0 [(9, 0), (0, a1), (0, a2), (1, 0), (1, 0)] [] w := by
  unfold wp_X_burn at h
  refine pv_aload_n (n := 1) d_X_burn_0 rfl rfl rfl ?_
  refine pv_iload_n (n := 2) d_X_burn_1 rfl rfl rfl ?_
  refine pv_callV (n := 5) (x := 0) [(0, a1)] [] (con_X_personNumbered hl0 h) pw_cf7 rfl q_139 q_140 q_141 q_62 q_138 pyo_X_personNumbered (by decide) rfl rfl (by decide) d_X_burn_2 rfl (fun w1 r2 h _ => ?_) (fun _ _ h => pvx_out rfl h)
  show pw_V l g cx_X_burn Q X 5 [(9, 0), (0, a1), (0, a2), (1, 0), (1, 0)] [(6, r2)] w1
  refine pv_astore_n (n := 6) (L' := [(9, 0), (0, a1), (0, a2), (6, r2), (1, 0)]) d_X_burn_5 rfl (by decide) rfl rfl ?_
  refine pv_aload_n (n := 7) d_X_burn_6 rfl rfl rfl ?_
  refine pv_iload_n (n := 8) d_X_burn_7 rfl rfl rfl ?_
  refine pv_callV (n := 11) (x := 0) [(0, a2)] [] (con_X_squareNumbered hl0 h) pw_cf7 rfl q_300 q_301 q_302 q_62 q_299 pyo_X_squareNumbered (by decide) rfl rfl (by decide) d_X_burn_8 rfl (fun w3 r4 h _ => ?_) (fun _ _ h => pvx_out rfl h)
  show pw_V l g cx_X_burn Q X 11 [(9, 0), (0, a1), (0, a2), (6, r2), (1, 0)] [(8, r4)] w3
  refine pv_astore (n := 13) (L' := [(9, 0), (0, a1), (0, a2), (6, r2), (8, r4)]) d_X_burn_11 (by decide) rfl rfl ?_
  refine pv_aload_n (n := 14) d_X_burn_13 rfl rfl rfl ?_
  obtain ⟨g5, h⟩ := h
  refine gt_X_76 (n := 17) rfl d_X_burn_14 g5 rfl ?_
  refine pv_callS (n := 20) [(0, (w3.1 4 (pw_i r2) 2))] [] (con_X_checkState hl0 h) q_124 q_125 q_62 q_123 pyo_X_checkState (by decide) rfl rfl d_X_burn_17 rfl (fun w6 r7 h _ => ?_) (fun _ _ h => pvx_out rfl h)
  show pw_V l g cx_X_burn Q X 20 [(9, 0), (0, a1), (0, a2), (6, r2), (8, r4)] [] w6
  refine pv_aload_n (n := 21) d_X_burn_20 rfl rfl rfl ?_
  refine pv_aload_n (n := 22) d_X_burn_21 rfl rfl rfl ?_
  refine pv_iconst (v := 2) (n := 23) d_X_burn_22 (by decide) rfl ?_
  refine pv_aload (n := 25) d_X_burn_23 rfl rfl ?_
  obtain ⟨g8, h⟩ := h
  refine gt_X_104 (n := 28) rfl d_X_burn_25 g8 rfl ?_
  refine pv_callV (n := 31) (x := 0) [(6, r2), (0, 2), (5, (w6.1 6 (pw_i r4) 1))] [] (con_X_isAllowed hl0 h) pw_cf7 rfl q_296 q_297 q_298 q_62 q_295 pyo_X_isAllowed (by decide) rfl rfl (by decide) d_X_burn_28 rfl (fun w9 r10 h _ => ?_) (fun _ _ h => h.elim)
  show pw_V l g cx_X_burn Q X 31 [(9, 0), (0, a1), (0, a2), (6, r2), (8, r4)] [(0, r10)] w9
  refine pv_callS (n := 34) [(0, r10)] [] (con_X_checkState hl0 h) q_124 q_125 q_62 q_123 pyo_X_checkState (by decide) rfl rfl d_X_burn_31 rfl (fun w11 r12 h _ => ?_) (fun _ _ h => pvx_out rfl h)
  show pw_V l g cx_X_burn Q X 34 [(9, 0), (0, a1), (0, a2), (6, r2), (8, r4)] [] w11
  refine pv_aload_n (n := 35) d_X_burn_34 rfl rfl rfl ?_
  refine pv_aload (n := 37) d_X_burn_35 rfl rfl ?_
  refine pv_callV (n := 40) (x := 0) [(8, r4)] [] (con_X_isBurnable hl0 h) pw_cf7 rfl q_310 q_311 q_312 q_62 q_309 pyo_X_isBurnable (by decide) rfl rfl (by decide) d_X_burn_37 rfl (fun w13 r14 h _ => ?_) (fun _ _ h => h.elim)
  show pw_V l g cx_X_burn Q X 40 [(9, 0), (0, a1), (0, a2), (6, r2), (8, r4)] [(0, r14)] w13
  refine pv_callS (n := 43) [(0, r14)] [] (con_X_checkState hl0 h) q_124 q_125 q_62 q_123 pyo_X_checkState (by decide) rfl rfl d_X_burn_40 rfl (fun w15 r16 h _ => ?_) (fun _ _ h => pvx_out rfl h)
  show pw_V l g cx_X_burn Q X 43 [(9, 0), (0, a1), (0, a2), (6, r2), (8, r4)] [] w15
  refine pv_aload (n := 45) d_X_burn_43 rfl rfl ?_
  refine pv_dup (n := 46) d_X_burn_45 (by decide) rfl ?_
  refine gt_X_278 (n := 49) rfl d_X_burn_46 g8 rfl ?_
  refine pv_iconst (v := 5) (n := 50) d_X_burn_49 (by decide) rfl ?_
  refine pv_aload (n := 52) d_X_burn_50 rfl rfl ?_
  refine gt_X_278 (n := 55) rfl d_X_burn_52 g8 rfl ?_
  refine pv_mmin (n := 58) (pw_mw_min q_253 (by decide)) rfl d_X_burn_55 rfl ?_
  refine pv_isub (n := 59) d_X_burn_58 rfl ?_
  refine pt_X_278 (n := 62) rfl d_X_burn_59 g8 rfl (fun w17 e18 => ?_)
  replace h := h w17 e18
  refine pv_aload (n := 64) d_X_burn_62 rfl rfl ?_
  refine pv_aload_n (n := 65) d_X_burn_64 rfl rfl rfl ?_
  refine gt_X_145 (n := 68) rfl d_X_burn_65 (by decide) rfl ?_
  refine pt_X_288 (n := 71) rfl d_X_burn_68 g8 rfl (fun w19 e20 => ?_)
  replace h := h w19 e20
  refine pv_aload (n := 73) d_X_burn_71 rfl rfl ?_
  refine gt_X_278 (n := 76) rfl d_X_burn_73 g8 rfl ?_
  exact pv_iret rfl rfl d_X_burn_76 h
set_option maxHeartbeats 4000000 in
set_option maxRecDepth 20000 in
theorem con_X_burn {l : Launch} {g : pw_G} {Q : pw_W → Int32 → Prop} {X : pw_W → Nat → Prop} (hl0 : l.stackTraces = false) {w : pw_W} {a1 a2 : Int32} (h : wp_X_burn w a1 a2 Q X) : pw_Con l g y_X_burn cx_X_burn [(9, 0), (0, a1), (0, a2)] w Q X :=
  pw_con (by decide +kernel) rfl rfl hl0 rfl (Nat.le_of_ble_eq_true rfl) (by simp) (vw_X_burn hl0 h)
theorem d_X_drySquares_0 : decode (pw_cc cx_X_drySquares) 0 = .ok (.aload_n 0, 1) := by decide +kernel
theorem d_X_drySquares_1 : decode (pw_cc cx_X_drySquares) 1 = .ok (.getfield 11, 3) := by decide +kernel
theorem d_X_drySquares_4 : decode (pw_cc cx_X_drySquares) 4 = .ok (.astore_n 1, 1) := by decide +kernel
theorem d_X_drySquares_5 : decode (pw_cc cx_X_drySquares) 5 = .ok (.aload_n 1, 1) := by decide +kernel
theorem d_X_drySquares_6 : decode (pw_cc cx_X_drySquares) 6 = .ok (.arraylength, 1) := by decide +kernel
theorem d_X_drySquares_7 : decode (pw_cc cx_X_drySquares) 7 = .ok (.istore_n 2, 1) := by decide +kernel
theorem d_X_drySquares_8 : decode (pw_cc cx_X_drySquares) 8 = .ok (.iconst 0, 1) := by decide +kernel
theorem d_X_drySquares_9 : decode (pw_cc cx_X_drySquares) 9 = .ok (.istore_n 3, 1) := by decide +kernel
theorem d_X_drySquares_10 : decode (pw_cc cx_X_drySquares) 10 = .ok (.iload_n 3, 1) := by decide +kernel
theorem d_X_drySquares_11 : decode (pw_cc cx_X_drySquares) 11 = .ok (.iload_n 2, 1) := by decide +kernel
theorem d_X_drySquares_12 : decode (pw_cc cx_X_drySquares) 12 = .ok (.if_icmp .ge 43, 3) := by decide +kernel
theorem d_X_drySquares_15 : decode (pw_cc cx_X_drySquares) 15 = .ok (.aload_n 1, 1) := by decide +kernel
theorem d_X_drySquares_16 : decode (pw_cc cx_X_drySquares) 16 = .ok (.iload_n 3, 1) := by decide +kernel
theorem d_X_drySquares_17 : decode (pw_cc cx_X_drySquares) 17 = .ok (.aaload, 1) := by decide +kernel
theorem d_X_drySquares_18 : decode (pw_cc cx_X_drySquares) 18 = .ok (.astore 4, 2) := by decide +kernel
theorem d_X_drySquares_20 : decode (pw_cc cx_X_drySquares) 20 = .ok (.aload 4, 2) := by decide +kernel
theorem d_X_drySquares_22 : decode (pw_cc cx_X_drySquares) 22 = .ok (.getfield 238, 3) := by decide +kernel
theorem d_X_drySquares_25 : decode (pw_cc cx_X_drySquares) 25 = .ok (.ifCond .le 24, 3) := by decide +kernel
theorem d_X_drySquares_28 : decode (pw_cc cx_X_drySquares) 28 = .ok (.aload 4, 2) := by decide +kernel
theorem d_X_drySquares_30 : decode (pw_cc cx_X_drySquares) 30 = .ok (.dup, 1) := by decide +kernel
theorem d_X_drySquares_31 : decode (pw_cc cx_X_drySquares) 31 = .ok (.getfield 238, 3) := by decide +kernel
theorem d_X_drySquares_34 : decode (pw_cc cx_X_drySquares) 34 = .ok (.iconst 1, 1) := by decide +kernel
theorem d_X_drySquares_35 : decode (pw_cc cx_X_drySquares) 35 = .ok (.isub, 1) := by decide +kernel
theorem d_X_drySquares_36 : decode (pw_cc cx_X_drySquares) 36 = .ok (.putfield 238, 3) := by decide +kernel
theorem d_X_drySquares_39 : decode (pw_cc cx_X_drySquares) 39 = .ok (.aload_n 0, 1) := by decide +kernel
theorem d_X_drySquares_40 : decode (pw_cc cx_X_drySquares) 40 = .ok (.dup, 1) := by decide +kernel
theorem d_X_drySquares_41 : decode (pw_cc cx_X_drySquares) 41 = .ok (.getfield 362, 3) := by decide +kernel
theorem d_X_drySquares_44 : decode (pw_cc cx_X_drySquares) 44 = .ok (.iconst 1, 1) := by decide +kernel
theorem d_X_drySquares_45 : decode (pw_cc cx_X_drySquares) 45 = .ok (.iadd, 1) := by decide +kernel
theorem d_X_drySquares_46 : decode (pw_cc cx_X_drySquares) 46 = .ok (.putfield 362, 3) := by decide +kernel
theorem d_X_drySquares_49 : decode (pw_cc cx_X_drySquares) 49 = .ok (.iinc 3 1, 3) := by decide +kernel
theorem d_X_drySquares_52 : decode (pw_cc cx_X_drySquares) 52 = .ok (.goto (-42), 3) := by decide +kernel
theorem d_X_drySquares_55 : decode (pw_cc cx_X_drySquares) 55 = .ok (.return_, 1) := by decide +kernel
set_option maxHeartbeats 4000000 in
set_option maxRecDepth 20000 in
def lp_X_drySquares_10 (Q : pw_W → Int32 → Prop) (X : pw_W → Nat → Prop) : Nat → Int32 → Int32 → pw_W → Prop := fun k => Nat.rec (motive := fun _ => Int32 → Int32 → pw_W → Prop) (fun _ _ _ => False) (fun _ ih a2 a3 w => (a2 ≤ a3 → Q w 0) ∧ (¬ a2 ≤ a3 → pw_jn a3 (pw_ln w 14 0) ∧ ∀ v3, v3 = (w.1 14 0 (pw_i a3)) → 0 ≤ v3 ∧ ((w.1 6 (pw_i v3) 5) ≤ 0 → ih a2 (a3 + 1) w) ∧ (¬ (w.1 6 (pw_i v3) 5) ≤ 0 → ∀ w7, w7 = pw_ps w 6 (pw_i v3) 5 ((w.1 6 (pw_i v3) 5) - 1) → ∀ w9, w9 = pw_ps w7 7 0 11 ((w7.1 7 0 11) + 1) → ih a2 (a3 + 1) w9))) k
set_option maxHeartbeats 4000000 in
set_option maxRecDepth 20000 in
theorem lp_X_drySquares_10_s {Q : pw_W → Int32 → Prop} {X : pw_W → Nat → Prop}  {k : Nat} {a2 a3 : Int32} {w : pw_W} : lp_X_drySquares_10 Q X (k + 1) a2 a3 w = (let ih := lp_X_drySquares_10 Q X k; (a2 ≤ a3 → Q w 0) ∧ (¬ a2 ≤ a3 → pw_jn a3 (pw_ln w 14 0) ∧ ∀ v3, v3 = (w.1 14 0 (pw_i a3)) → 0 ≤ v3 ∧ ((w.1 6 (pw_i v3) 5) ≤ 0 → ih a2 (a3 + 1) w) ∧ (¬ (w.1 6 (pw_i v3) 5) ≤ 0 → ∀ w7, w7 = pw_ps w 6 (pw_i v3) 5 ((w.1 6 (pw_i v3) 5) - 1) → ∀ w9, w9 = pw_ps w7 7 0 11 ((w7.1 7 0 11) + 1) → ih a2 (a3 + 1) w9))) := rfl
set_option maxHeartbeats 4000000 in
set_option maxRecDepth 20000 in
theorem vlp_X_drySquares_10 {l : Launch} {g : pw_G} {Q : pw_W → Int32 → Prop} {X : pw_W → Nat → Prop} (hl0 : l.stackTraces = false) : ∀ (k : Nat) (a2 a3 : Int32) (w : pw_W), lp_X_drySquares_10 Q X k a2 a3 w → pw_V l g cx_X_drySquares Q X 10 [(9, 0), (16, 0), (0, a2), (0, a3), (1, 0)] [] w := by
  intro k; induction k with
  | zero => intro _ _ _ h; exact h.elim
  | succ k ih =>
    intro a2 a3 w h
    rw [lp_X_drySquares_10_s] at h
    refine pv_iload_n (n := 11) d_X_drySquares_10 rfl rfl rfl ?_
    refine pv_iload_n (n := 12) d_X_drySquares_11 rfl rfl rfl ?_
    refine pv_icmp_ge (n := 15) (tgt := 55) d_X_drySquares_12 (by decide) rfl (fun c1 => ?_) (fun c1 => ?_)
    · replace h := h.1 c1
      exact pv_vret rfl rfl d_X_drySquares_55 h
    · replace h := h.2 c1
      refine pv_aload_n (n := 16) d_X_drySquares_15 rfl rfl rfl ?_
      refine pv_iload_n (n := 17) d_X_drySquares_16 rfl rfl rfl ?_
      obtain ⟨g2, h⟩ := h
      refine pv_aald (n := 18) (f := 14) (F := 6) (C := "Peatland$Square") (by decide) (Or.inl ⟨rfl, rfl⟩) (fun _ => rfl) d_X_drySquares_17 (by decide) g2 rfl (fun _ => ?_)
      refine pv_nm (fun v3 e4 => ?_)
      replace h := h v3 e4
      refine pv_astore (n := 20) (L' := [(9, 0), (16, 0), (0, a2), (0, a3), (8, v3)]) d_X_drySquares_18 (by decide) rfl rfl ?_
      refine pv_aload (n := 22) d_X_drySquares_20 rfl rfl ?_
      obtain ⟨g5, h⟩ := h
      refine gt_X_238 (n := 25) rfl d_X_drySquares_22 g5 rfl ?_
      refine pv_if_le (n := 28) (tgt := 49) d_X_drySquares_25 (by decide) rfl (fun c6 => ?_) (fun c6 => ?_)
      · replace h := h.1 c6
        refine pv_iinc (v := (a3 + 1)) (n := 52) (L1 := [(9, 0), (16, 0), (0, a2), (0, (a3 + 1)), (8, v3)]) d_X_drySquares_49 rfl rfl rfl (by decide) rfl ?_
        refine pv_goto (tgt := 10) d_X_drySquares_52 (by decide) ?_
        refine pv_unset (i := 4) (L1 := [(9, 0), (16, 0), (0, a2), (0, (a3 + 1)), (1, 0)]) rfl ?_
        exact ih _ _ _ h
      · replace h := h.2 c6
        refine pv_aload (n := 30) d_X_drySquares_28 rfl rfl ?_
        refine pv_dup (n := 31) d_X_drySquares_30 (by decide) rfl ?_
        refine gt_X_238 (n := 34) rfl d_X_drySquares_31 g5 rfl ?_
        refine pv_iconst (v := 1) (n := 35) d_X_drySquares_34 (by decide) rfl ?_
        refine pv_isub (n := 36) d_X_drySquares_35 rfl ?_
        refine pt_X_238 (n := 39) rfl d_X_drySquares_36 g5 rfl (fun w7 e8 => ?_)
        replace h := h w7 e8
        refine pv_aload_n (n := 40) d_X_drySquares_39 rfl rfl rfl ?_
        refine pv_dup (n := 41) d_X_drySquares_40 (by decide) rfl ?_
        refine gt_X_362 (n := 44) rfl d_X_drySquares_41 (by decide) rfl ?_
        refine pv_iconst (v := 1) (n := 45) d_X_drySquares_44 (by decide) rfl ?_
        refine pv_iadd (n := 46) d_X_drySquares_45 rfl ?_
        refine pt_X_362 (n := 49) rfl d_X_drySquares_46 (by decide) rfl (fun w9 e10 => ?_)
        replace h := h w9 e10
        refine pv_iinc (v := (a3 + 1)) (n := 52) (L1 := [(9, 0), (16, 0), (0, a2), (0, (a3 + 1)), (8, v3)]) d_X_drySquares_49 rfl rfl rfl (by decide) rfl ?_
        refine pv_goto (tgt := 10) d_X_drySquares_52 (by decide) ?_
        refine pv_unset (i := 4) (L1 := [(9, 0), (16, 0), (0, a2), (0, (a3 + 1)), (1, 0)]) rfl ?_
        exact ih _ _ _ h
set_option maxHeartbeats 4000000 in
set_option maxRecDepth 20000 in
def wp_X_drySquares (w : pw_W) (Q : pw_W → Int32 → Prop) (X : pw_W → Nat → Prop) : Prop := w.1 7 0 0 = 0 ∧ ∀ v12, v12 = (nI (pw_ln w 14 0)) → ∃ k14, lp_X_drySquares_10 Q X k14 v12 0 w
set_option maxHeartbeats 4000000 in
set_option maxRecDepth 20000 in
theorem vw_X_drySquares {l : Launch} {g : pw_G} {Q : pw_W → Int32 → Prop} {X : pw_W → Nat → Prop} (hl0 : l.stackTraces = false) {w : pw_W} (h : wp_X_drySquares w Q X) : pw_V l g cx_X_drySquares Q X 0 [(9, 0), (1, 0), (1, 0), (1, 0), (1, 0)] [] w := by
  unfold wp_X_drySquares at h
  refine pv_aload_n (n := 1) d_X_drySquares_0 rfl rfl rfl ?_
  obtain ⟨g11, h⟩ := h
  refine gt_X_11 (n := 4) rfl d_X_drySquares_1 (by decide) g11 rfl ?_
  refine pv_astore_n (n := 5) (L' := [(9, 0), (16, 0), (1, 0), (1, 0), (1, 0)]) d_X_drySquares_4 rfl (by decide) rfl rfl ?_
  refine pv_aload_n (n := 6) d_X_drySquares_5 rfl rfl rfl ?_
  refine pv_alen (n := 7) (f := 14) (by decide) ⟨_, rfl⟩ d_X_drySquares_6 (by decide) rfl ?_
  refine pv_nm (fun v12 e13 => ?_)
  replace h := h v12 e13
  refine pv_istore_n (n := 8) (L' := [(9, 0), (16, 0), (0, v12), (1, 0), (1, 0)]) d_X_drySquares_7 rfl (by decide) rfl rfl ?_
  refine pv_iconst (v := 0) (n := 9) d_X_drySquares_8 (by decide) rfl ?_
  refine pv_istore_n (n := 10) (L' := [(9, 0), (16, 0), (0, v12), (0, 0), (1, 0)]) d_X_drySquares_9 rfl (by decide) rfl rfl ?_
  obtain ⟨k14, h⟩ := h
  exact vlp_X_drySquares_10 hl0 _ _ _ _ h
set_option maxHeartbeats 4000000 in
set_option maxRecDepth 20000 in
theorem con_X_drySquares {l : Launch} {g : pw_G} {Q : pw_W → Int32 → Prop} {X : pw_W → Nat → Prop} (hl0 : l.stackTraces = false) {w : pw_W} (h : wp_X_drySquares w Q X) : pw_Con l g y_X_drySquares cx_X_drySquares [(9, 0)] w Q X :=
  pw_con (by decide +kernel) rfl rfl hl0 rfl (Nat.le_of_ble_eq_true rfl) (by simp) (vw_X_drySquares hl0 h)
theorem d_Square_isWet_0 : decode (pw_cc cx_Square_isWet) 0 = .ok (.aload_n 0, 1) := by decide +kernel
theorem d_Square_isWet_1 : decode (pw_cc cx_Square_isWet) 1 = .ok (.getfield 22, 3) := by decide +kernel
theorem d_Square_isWet_4 : decode (pw_cc cx_Square_isWet) 4 = .ok (.bipush 60, 2) := by decide +kernel
theorem d_Square_isWet_6 : decode (pw_cc cx_Square_isWet) 6 = .ok (.if_icmp .lt 7, 3) := by decide +kernel
theorem d_Square_isWet_9 : decode (pw_cc cx_Square_isWet) 9 = .ok (.iconst 1, 1) := by decide +kernel
theorem d_Square_isWet_10 : decode (pw_cc cx_Square_isWet) 10 = .ok (.goto 4, 3) := by decide +kernel
theorem d_Square_isWet_13 : decode (pw_cc cx_Square_isWet) 13 = .ok (.iconst 0, 1) := by decide +kernel
theorem d_Square_isWet_14 : decode (pw_cc cx_Square_isWet) 14 = .ok (.ireturn, 1) := by decide +kernel
set_option maxHeartbeats 4000000 in
set_option maxRecDepth 20000 in
def wp_Square_isWet (w : pw_W) (a0 : Int32) (Q : pw_W → Int32 → Prop) (X : pw_W → Nat → Prop) : Prop := 0 ≤ a0 ∧ ((w.1 6 (pw_i a0) 5) < 60 → Q w 0) ∧ (¬ (w.1 6 (pw_i a0) 5) < 60 → Q w 1)
set_option maxHeartbeats 4000000 in
set_option maxRecDepth 20000 in
theorem vw_Square_isWet {l : Launch} {g : pw_G} {Q : pw_W → Int32 → Prop} {X : pw_W → Nat → Prop} (hl0 : l.stackTraces = false) {w : pw_W} {a0 : Int32} (h : wp_Square_isWet w a0 Q X) : pw_V l g cx_Square_isWet Q X 0 [(8, a0)] [] w := by
  unfold wp_Square_isWet at h
  refine pv_aload_n (n := 1) d_Square_isWet_0 rfl rfl rfl ?_
  obtain ⟨g1, h⟩ := h
  refine gt_Square_22 (n := 4) rfl d_Square_isWet_1 g1 rfl ?_
  refine pv_bipush (v := 60) (n := 6) d_Square_isWet_4 (by decide) rfl ?_
  refine pv_icmp_lt (n := 9) (tgt := 13) d_Square_isWet_6 (by decide) rfl (fun c2 => ?_) (fun c2 => ?_)
  · replace h := h.1 c2
    refine pv_iconst (v := 0) (n := 14) d_Square_isWet_13 (by decide) rfl ?_
    exact pv_zret rfl rfl d_Square_isWet_14 (by decide) h
  · replace h := h.2 c2
    refine pv_iconst (v := 1) (n := 10) d_Square_isWet_9 (by decide) rfl ?_
    refine pv_goto (tgt := 14) d_Square_isWet_10 (by decide) ?_
    exact pv_zret rfl rfl d_Square_isWet_14 (by decide) h
set_option maxHeartbeats 4000000 in
set_option maxRecDepth 20000 in
theorem con_Square_isWet {l : Launch} {g : pw_G} {Q : pw_W → Int32 → Prop} {X : pw_W → Nat → Prop} (hl0 : l.stackTraces = false) {w : pw_W} {a0 : Int32} (h : wp_Square_isWet w a0 Q X) : pw_Con l g y_Square_isWet cx_Square_isWet [(8, a0)] w Q X :=
  pw_con (by decide +kernel) rfl rfl hl0 rfl (Nat.le_of_ble_eq_true rfl) (by simp) (vw_Square_isWet hl0 h)
theorem d_X_growPeat_0 : decode (pw_cc cx_X_growPeat) 0 = .ok (.aload_n 0, 1) := by decide +kernel
theorem d_X_growPeat_1 : decode (pw_cc cx_X_growPeat) 1 = .ok (.getfield 11, 3) := by decide +kernel
theorem d_X_growPeat_4 : decode (pw_cc cx_X_growPeat) 4 = .ok (.astore_n 1, 1) := by decide +kernel
theorem d_X_growPeat_5 : decode (pw_cc cx_X_growPeat) 5 = .ok (.aload_n 1, 1) := by decide +kernel
theorem d_X_growPeat_6 : decode (pw_cc cx_X_growPeat) 6 = .ok (.arraylength, 1) := by decide +kernel
theorem d_X_growPeat_7 : decode (pw_cc cx_X_growPeat) 7 = .ok (.istore_n 2, 1) := by decide +kernel
theorem d_X_growPeat_8 : decode (pw_cc cx_X_growPeat) 8 = .ok (.iconst 0, 1) := by decide +kernel
theorem d_X_growPeat_9 : decode (pw_cc cx_X_growPeat) 9 = .ok (.istore_n 3, 1) := by decide +kernel
theorem d_X_growPeat_10 : decode (pw_cc cx_X_growPeat) 10 = .ok (.iload_n 3, 1) := by decide +kernel
theorem d_X_growPeat_11 : decode (pw_cc cx_X_growPeat) 11 = .ok (.iload_n 2, 1) := by decide +kernel
theorem d_X_growPeat_12 : decode (pw_cc cx_X_growPeat) 12 = .ok (.if_icmp .ge 52, 3) := by decide +kernel
theorem d_X_growPeat_15 : decode (pw_cc cx_X_growPeat) 15 = .ok (.aload_n 1, 1) := by decide +kernel
theorem d_X_growPeat_16 : decode (pw_cc cx_X_growPeat) 16 = .ok (.iload_n 3, 1) := by decide +kernel
theorem d_X_growPeat_17 : decode (pw_cc cx_X_growPeat) 17 = .ok (.aaload, 1) := by decide +kernel
theorem d_X_growPeat_18 : decode (pw_cc cx_X_growPeat) 18 = .ok (.astore 4, 2) := by decide +kernel
theorem d_X_growPeat_20 : decode (pw_cc cx_X_growPeat) 20 = .ok (.aload 4, 2) := by decide +kernel
theorem d_X_growPeat_22 : decode (pw_cc cx_X_growPeat) 22 = .ok (.invokevirtual 447, 3) := by decide +kernel
theorem d_X_growPeat_25 : decode (pw_cc cx_X_growPeat) 25 = .ok (.ifCond .eq 33, 3) := by decide +kernel
theorem d_X_growPeat_28 : decode (pw_cc cx_X_growPeat) 28 = .ok (.aload_n 0, 1) := by decide +kernel
theorem d_X_growPeat_29 : decode (pw_cc cx_X_growPeat) 29 = .ok (.sipush 360, 3) := by decide +kernel
theorem d_X_growPeat_32 : decode (pw_cc cx_X_growPeat) 32 = .ok (.aload 4, 2) := by decide +kernel
theorem d_X_growPeat_34 : decode (pw_cc cx_X_growPeat) 34 = .ok (.invokevirtual 440, 3) := by decide +kernel
theorem d_X_growPeat_37 : decode (pw_cc cx_X_growPeat) 37 = .ok (.ifCond .ne 21, 3) := by decide +kernel
theorem d_X_growPeat_40 : decode (pw_cc cx_X_growPeat) 40 = .ok (.aload 4, 2) := by decide +kernel
theorem d_X_growPeat_42 : decode (pw_cc cx_X_growPeat) 42 = .ok (.sipush 200, 3) := by decide +kernel
theorem d_X_growPeat_45 : decode (pw_cc cx_X_growPeat) 45 = .ok (.aload 4, 2) := by decide +kernel
theorem d_X_growPeat_47 : decode (pw_cc cx_X_growPeat) 47 = .ok (.getfield 278, 3) := by decide +kernel
theorem d_X_growPeat_50 : decode (pw_cc cx_X_growPeat) 50 = .ok (.iconst 1, 1) := by decide +kernel
theorem d_X_growPeat_51 : decode (pw_cc cx_X_growPeat) 51 = .ok (.iadd, 1) := by decide +kernel
theorem d_X_growPeat_52 : decode (pw_cc cx_X_growPeat) 52 = .ok (.invokestatic 241, 3) := by decide +kernel
theorem d_X_growPeat_55 : decode (pw_cc cx_X_growPeat) 55 = .ok (.putfield 278, 3) := by decide +kernel
theorem d_X_growPeat_58 : decode (pw_cc cx_X_growPeat) 58 = .ok (.iinc 3 1, 3) := by decide +kernel
theorem d_X_growPeat_61 : decode (pw_cc cx_X_growPeat) 61 = .ok (.goto (-51), 3) := by decide +kernel
theorem d_X_growPeat_64 : decode (pw_cc cx_X_growPeat) 64 = .ok (.return_, 1) := by decide +kernel
set_option maxHeartbeats 4000000 in
set_option maxRecDepth 20000 in
def lp_X_growPeat_10 (Q : pw_W → Int32 → Prop) (X : pw_W → Nat → Prop) : Nat → Int32 → Int32 → pw_W → Prop := fun k => Nat.rec (motive := fun _ => Int32 → Int32 → pw_W → Prop) (fun _ _ _ => False) (fun _ ih a2 a3 w => (a2 ≤ a3 → Q w 0) ∧ (¬ a2 ≤ a3 → pw_jn a3 (pw_ln w 14 0) ∧ ∀ v3, v3 = (w.1 14 0 (pw_i a3)) → 0 ≤ v3 ∧ wp_Square_isWet w v3 (fun w5 r6 => (r6 = 0 → ih a2 (a3 + 1) w5) ∧ (¬ r6 = 0 → wp_X_isBurntInLast w5 360 v3 (fun w9 r10 => (¬ r10 = 0 → ih a2 (a3 + 1) w9) ∧ (r10 = 0 → ∀ w12, w12 = pw_ps w9 6 (pw_i v3) 4 (if ((w9.1 6 (pw_i v3) 4) + 1) < 200 then ((w9.1 6 (pw_i v3) 4) + 1) else 200) → ih a2 (a3 + 1) w12)) (fun _ _ => False))) (fun _ _ => False))) k
set_option maxHeartbeats 4000000 in
set_option maxRecDepth 20000 in
theorem lp_X_growPeat_10_s {Q : pw_W → Int32 → Prop} {X : pw_W → Nat → Prop}  {k : Nat} {a2 a3 : Int32} {w : pw_W} : lp_X_growPeat_10 Q X (k + 1) a2 a3 w = (let ih := lp_X_growPeat_10 Q X k; (a2 ≤ a3 → Q w 0) ∧ (¬ a2 ≤ a3 → pw_jn a3 (pw_ln w 14 0) ∧ ∀ v3, v3 = (w.1 14 0 (pw_i a3)) → 0 ≤ v3 ∧ wp_Square_isWet w v3 (fun w5 r6 => (r6 = 0 → ih a2 (a3 + 1) w5) ∧ (¬ r6 = 0 → wp_X_isBurntInLast w5 360 v3 (fun w9 r10 => (¬ r10 = 0 → ih a2 (a3 + 1) w9) ∧ (r10 = 0 → ∀ w12, w12 = pw_ps w9 6 (pw_i v3) 4 (if ((w9.1 6 (pw_i v3) 4) + 1) < 200 then ((w9.1 6 (pw_i v3) 4) + 1) else 200) → ih a2 (a3 + 1) w12)) (fun _ _ => False))) (fun _ _ => False))) := rfl
set_option maxHeartbeats 4000000 in
set_option maxRecDepth 20000 in
theorem vlp_X_growPeat_10 {l : Launch} {g : pw_G} {Q : pw_W → Int32 → Prop} {X : pw_W → Nat → Prop} (hl0 : l.stackTraces = false) : ∀ (k : Nat) (a2 a3 : Int32) (w : pw_W), lp_X_growPeat_10 Q X k a2 a3 w → pw_V l g cx_X_growPeat Q X 10 [(9, 0), (16, 0), (0, a2), (0, a3), (1, 0)] [] w := by
  intro k; induction k with
  | zero => intro _ _ _ h; exact h.elim
  | succ k ih =>
    intro a2 a3 w h
    rw [lp_X_growPeat_10_s] at h
    refine pv_iload_n (n := 11) d_X_growPeat_10 rfl rfl rfl ?_
    refine pv_iload_n (n := 12) d_X_growPeat_11 rfl rfl rfl ?_
    refine pv_icmp_ge (n := 15) (tgt := 64) d_X_growPeat_12 (by decide) rfl (fun c1 => ?_) (fun c1 => ?_)
    · replace h := h.1 c1
      exact pv_vret rfl rfl d_X_growPeat_64 h
    · replace h := h.2 c1
      refine pv_aload_n (n := 16) d_X_growPeat_15 rfl rfl rfl ?_
      refine pv_iload_n (n := 17) d_X_growPeat_16 rfl rfl rfl ?_
      obtain ⟨g2, h⟩ := h
      refine pv_aald (n := 18) (f := 14) (F := 6) (C := "Peatland$Square") (by decide) (Or.inl ⟨rfl, rfl⟩) (fun _ => rfl) d_X_growPeat_17 (by decide) g2 rfl (fun _ => ?_)
      refine pv_nm (fun v3 e4 => ?_)
      replace h := h v3 e4
      refine pv_astore (n := 20) (L' := [(9, 0), (16, 0), (0, a2), (0, a3), (8, v3)]) d_X_growPeat_18 (by decide) rfl rfl ?_
      refine pv_aload (n := 22) d_X_growPeat_20 rfl rfl ?_
      obtain ⟨g7, h⟩ := h
      refine pv_callV (n := 25) (x := v3) [] [] (con_Square_isWet hl0 h) pw_cf6 rfl q_315 q_316 q_317 q_32 q_314 pyo_Square_isWet (by decide) rfl rfl g7 d_X_growPeat_22 rfl (fun w5 r6 h _ => ?_) (fun _ _ h => h.elim)
      show pw_V l g cx_X_growPeat Q X 25 [(9, 0), (16, 0), (0, a2), (0, a3), (8, v3)] [(0, r6)] w5
      refine pv_if_eq (n := 28) (tgt := 58) d_X_growPeat_25 (by decide) rfl (fun c8 => ?_) (fun c8 => ?_)
      · replace h := h.1 c8
        refine pv_iinc (v := (a3 + 1)) (n := 61) (L1 := [(9, 0), (16, 0), (0, a2), (0, (a3 + 1)), (8, v3)]) d_X_growPeat_58 rfl rfl rfl (by decide) rfl ?_
        refine pv_goto (tgt := 10) d_X_growPeat_61 (by decide) ?_
        refine pv_unset (i := 4) (L1 := [(9, 0), (16, 0), (0, a2), (0, (a3 + 1)), (1, 0)]) rfl ?_
        exact ih _ _ _ h
      · replace h := h.2 c8
        refine pv_aload_n (n := 29) d_X_growPeat_28 rfl rfl rfl ?_
        refine pv_sipush (v := 360) (n := 32) d_X_growPeat_29 (by decide) rfl ?_
        refine pv_aload (n := 34) d_X_growPeat_32 rfl rfl ?_
        refine pv_callV (n := 37) (x := 0) [(0, 360), (8, v3)] [] (con_X_isBurntInLast hl0 h) pw_cf7 rfl q_306 q_307 q_308 q_62 q_305 pyo_X_isBurntInLast (by decide) rfl rfl (by decide) d_X_growPeat_34 rfl (fun w9 r10 h _ => ?_) (fun _ _ h => h.elim)
        show pw_V l g cx_X_growPeat Q X 37 [(9, 0), (16, 0), (0, a2), (0, a3), (8, v3)] [(0, r10)] w9
        refine pv_if_ne (n := 40) (tgt := 58) d_X_growPeat_37 (by decide) rfl (fun c11 => ?_) (fun c11 => ?_)
        · replace h := h.1 c11
          refine pv_iinc (v := (a3 + 1)) (n := 61) (L1 := [(9, 0), (16, 0), (0, a2), (0, (a3 + 1)), (8, v3)]) d_X_growPeat_58 rfl rfl rfl (by decide) rfl ?_
          refine pv_goto (tgt := 10) d_X_growPeat_61 (by decide) ?_
          refine pv_unset (i := 4) (L1 := [(9, 0), (16, 0), (0, a2), (0, (a3 + 1)), (1, 0)]) rfl ?_
          exact ih _ _ _ h
        · replace h := h.2 c11
          refine pv_aload (n := 42) d_X_growPeat_40 rfl rfl ?_
          refine pv_sipush (v := 200) (n := 45) d_X_growPeat_42 (by decide) rfl ?_
          refine pv_aload (n := 47) d_X_growPeat_45 rfl rfl ?_
          refine gt_X_278 (n := 50) rfl d_X_growPeat_47 g7 rfl ?_
          refine pv_iconst (v := 1) (n := 51) d_X_growPeat_50 (by decide) rfl ?_
          refine pv_iadd (n := 52) d_X_growPeat_51 rfl ?_
          refine pv_mmin (n := 55) (pw_mw_min q_253 (by decide)) rfl d_X_growPeat_52 rfl ?_
          refine pt_X_278 (n := 58) rfl d_X_growPeat_55 g7 rfl (fun w12 e13 => ?_)
          replace h := h w12 e13
          refine pv_iinc (v := (a3 + 1)) (n := 61) (L1 := [(9, 0), (16, 0), (0, a2), (0, (a3 + 1)), (8, v3)]) d_X_growPeat_58 rfl rfl rfl (by decide) rfl ?_
          refine pv_goto (tgt := 10) d_X_growPeat_61 (by decide) ?_
          refine pv_unset (i := 4) (L1 := [(9, 0), (16, 0), (0, a2), (0, (a3 + 1)), (1, 0)]) rfl ?_
          exact ih _ _ _ h
set_option maxHeartbeats 4000000 in
set_option maxRecDepth 20000 in
def wp_X_growPeat (w : pw_W) (Q : pw_W → Int32 → Prop) (X : pw_W → Nat → Prop) : Prop := w.1 7 0 0 = 0 ∧ ∀ v15, v15 = (nI (pw_ln w 14 0)) → ∃ k17, lp_X_growPeat_10 Q X k17 v15 0 w
set_option maxHeartbeats 4000000 in
set_option maxRecDepth 20000 in
theorem vw_X_growPeat {l : Launch} {g : pw_G} {Q : pw_W → Int32 → Prop} {X : pw_W → Nat → Prop} (hl0 : l.stackTraces = false) {w : pw_W} (h : wp_X_growPeat w Q X) : pw_V l g cx_X_growPeat Q X 0 [(9, 0), (1, 0), (1, 0), (1, 0), (1, 0)] [] w := by
  unfold wp_X_growPeat at h
  refine pv_aload_n (n := 1) d_X_growPeat_0 rfl rfl rfl ?_
  obtain ⟨g14, h⟩ := h
  refine gt_X_11 (n := 4) rfl d_X_growPeat_1 (by decide) g14 rfl ?_
  refine pv_astore_n (n := 5) (L' := [(9, 0), (16, 0), (1, 0), (1, 0), (1, 0)]) d_X_growPeat_4 rfl (by decide) rfl rfl ?_
  refine pv_aload_n (n := 6) d_X_growPeat_5 rfl rfl rfl ?_
  refine pv_alen (n := 7) (f := 14) (by decide) ⟨_, rfl⟩ d_X_growPeat_6 (by decide) rfl ?_
  refine pv_nm (fun v15 e16 => ?_)
  replace h := h v15 e16
  refine pv_istore_n (n := 8) (L' := [(9, 0), (16, 0), (0, v15), (1, 0), (1, 0)]) d_X_growPeat_7 rfl (by decide) rfl rfl ?_
  refine pv_iconst (v := 0) (n := 9) d_X_growPeat_8 (by decide) rfl ?_
  refine pv_istore_n (n := 10) (L' := [(9, 0), (16, 0), (0, v15), (0, 0), (1, 0)]) d_X_growPeat_9 rfl (by decide) rfl rfl ?_
  obtain ⟨k17, h⟩ := h
  exact vlp_X_growPeat_10 hl0 _ _ _ _ h
set_option maxHeartbeats 4000000 in
set_option maxRecDepth 20000 in
theorem con_X_growPeat {l : Launch} {g : pw_G} {Q : pw_W → Int32 → Prop} {X : pw_W → Nat → Prop} (hl0 : l.stackTraces = false) {w : pw_W} (h : wp_X_growPeat w Q X) : pw_Con l g y_X_growPeat cx_X_growPeat [(9, 0)] w Q X :=
  pw_con (by decide +kernel) rfl rfl hl0 rfl (Nat.le_of_ble_eq_true rfl) (by simp) (vw_X_growPeat hl0 h)
theorem d_X_countWetAround_0 : decode (pw_cc cx_X_countWetAround) 0 = .ok (.iconst 0, 1) := by decide +kernel
theorem d_X_countWetAround_1 : decode (pw_cc cx_X_countWetAround) 1 = .ok (.istore_n 3, 1) := by decide +kernel
theorem d_X_countWetAround_2 : decode (pw_cc cx_X_countWetAround) 2 = .ok (.iconst 0, 1) := by decide +kernel
theorem d_X_countWetAround_3 : decode (pw_cc cx_X_countWetAround) 3 = .ok (.iload_n 2, 1) := by decide +kernel
theorem d_X_countWetAround_4 : decode (pw_cc cx_X_countWetAround) 4 = .ok (.iconst 1, 1) := by decide +kernel
theorem d_X_countWetAround_5 : decode (pw_cc cx_X_countWetAround) 5 = .ok (.isub, 1) := by decide +kernel
theorem d_X_countWetAround_6 : decode (pw_cc cx_X_countWetAround) 6 = .ok (.invokestatic 432, 3) := by decide +kernel
theorem d_X_countWetAround_9 : decode (pw_cc cx_X_countWetAround) 9 = .ok (.istore 4, 2) := by decide +kernel
theorem d_X_countWetAround_11 : decode (pw_cc cx_X_countWetAround) 11 = .ok (.iload 4, 2) := by decide +kernel
theorem d_X_countWetAround_13 : decode (pw_cc cx_X_countWetAround) 13 = .ok (.bipush 9, 2) := by decide +kernel
theorem d_X_countWetAround_15 : decode (pw_cc cx_X_countWetAround) 15 = .ok (.iload_n 2, 1) := by decide +kernel
theorem d_X_countWetAround_16 : decode (pw_cc cx_X_countWetAround) 16 = .ok (.iconst 1, 1) := by decide +kernel
theorem d_X_countWetAround_17 : decode (pw_cc cx_X_countWetAround) 17 = .ok (.iadd, 1) := by decide +kernel
theorem d_X_countWetAround_18 : decode (pw_cc cx_X_countWetAround) 18 = .ok (.invokestatic 241, 3) := by decide +kernel
theorem d_X_countWetAround_21 : decode (pw_cc cx_X_countWetAround) 21 = .ok (.if_icmp .gt 59, 3) := by decide +kernel
theorem d_X_countWetAround_24 : decode (pw_cc cx_X_countWetAround) 24 = .ok (.iconst 0, 1) := by decide +kernel
theorem d_X_countWetAround_25 : decode (pw_cc cx_X_countWetAround) 25 = .ok (.iload_n 1, 1) := by decide +kernel
theorem d_X_countWetAround_26 : decode (pw_cc cx_X_countWetAround) 26 = .ok (.iconst 1, 1) := by decide +kernel
theorem d_X_countWetAround_27 : decode (pw_cc cx_X_countWetAround) 27 = .ok (.isub, 1) := by decide +kernel
theorem d_X_countWetAround_28 : decode (pw_cc cx_X_countWetAround) 28 = .ok (.invokestatic 432, 3) := by decide +kernel
theorem d_X_countWetAround_31 : decode (pw_cc cx_X_countWetAround) 31 = .ok (.istore 5, 2) := by decide +kernel
theorem d_X_countWetAround_33 : decode (pw_cc cx_X_countWetAround) 33 = .ok (.iload 5, 2) := by decide +kernel
theorem d_X_countWetAround_35 : decode (pw_cc cx_X_countWetAround) 35 = .ok (.bipush 9, 2) := by decide +kernel
theorem d_X_countWetAround_37 : decode (pw_cc cx_X_countWetAround) 37 = .ok (.iload_n 1, 1) := by decide +kernel
theorem d_X_countWetAround_38 : decode (pw_cc cx_X_countWetAround) 38 = .ok (.iconst 1, 1) := by decide +kernel
theorem d_X_countWetAround_39 : decode (pw_cc cx_X_countWetAround) 39 = .ok (.iadd, 1) := by decide +kernel
theorem d_X_countWetAround_40 : decode (pw_cc cx_X_countWetAround) 40 = .ok (.invokestatic 241, 3) := by decide +kernel
theorem d_X_countWetAround_43 : decode (pw_cc cx_X_countWetAround) 43 = .ok (.if_icmp .gt 31, 3) := by decide +kernel
theorem d_X_countWetAround_46 : decode (pw_cc cx_X_countWetAround) 46 = .ok (.aload_n 0, 1) := by decide +kernel
theorem d_X_countWetAround_47 : decode (pw_cc cx_X_countWetAround) 47 = .ok (.getfield 11, 3) := by decide +kernel
theorem d_X_countWetAround_50 : decode (pw_cc cx_X_countWetAround) 50 = .ok (.iload 4, 2) := by decide +kernel
theorem d_X_countWetAround_52 : decode (pw_cc cx_X_countWetAround) 52 = .ok (.bipush 10, 2) := by decide +kernel
theorem d_X_countWetAround_54 : decode (pw_cc cx_X_countWetAround) 54 = .ok (.imul, 1) := by decide +kernel
theorem d_X_countWetAround_55 : decode (pw_cc cx_X_countWetAround) 55 = .ok (.iload 5, 2) := by decide +kernel
theorem d_X_countWetAround_57 : decode (pw_cc cx_X_countWetAround) 57 = .ok (.iadd, 1) := by decide +kernel
theorem d_X_countWetAround_58 : decode (pw_cc cx_X_countWetAround) 58 = .ok (.aaload, 1) := by decide +kernel
theorem d_X_countWetAround_59 : decode (pw_cc cx_X_countWetAround) 59 = .ok (.invokevirtual 447, 3) := by decide +kernel
theorem d_X_countWetAround_62 : decode (pw_cc cx_X_countWetAround) 62 = .ok (.ifCond .eq 6, 3) := by decide +kernel
theorem d_X_countWetAround_65 : decode (pw_cc cx_X_countWetAround) 65 = .ok (.iinc 3 1, 3) := by decide +kernel
theorem d_X_countWetAround_68 : decode (pw_cc cx_X_countWetAround) 68 = .ok (.iinc 5 1, 3) := by decide +kernel
theorem d_X_countWetAround_71 : decode (pw_cc cx_X_countWetAround) 71 = .ok (.goto (-38), 3) := by decide +kernel
theorem d_X_countWetAround_74 : decode (pw_cc cx_X_countWetAround) 74 = .ok (.iinc 4 1, 3) := by decide +kernel
theorem d_X_countWetAround_77 : decode (pw_cc cx_X_countWetAround) 77 = .ok (.goto (-66), 3) := by decide +kernel
theorem d_X_countWetAround_80 : decode (pw_cc cx_X_countWetAround) 80 = .ok (.iload_n 3, 1) := by decide +kernel
theorem d_X_countWetAround_81 : decode (pw_cc cx_X_countWetAround) 81 = .ok (.ireturn, 1) := by decide +kernel
set_option maxHeartbeats 4000000 in
set_option maxRecDepth 20000 in
def lp_X_countWetAround_33 (Q : pw_W → Int32 → Prop) (X : pw_W → Nat → Prop) (K11 : Int32 → Int32 → Int32 → Int32 → pw_W → Prop) : Nat → Int32 → Int32 → Int32 → Int32 → Int32 → pw_W → Prop := fun k => Nat.rec (motive := fun _ => Int32 → Int32 → Int32 → Int32 → Int32 → pw_W → Prop) (fun _ _ _ _ _ _ => False) (fun _ ih a1 a2 a3 a4 a5 w => ((if (a1 + 1) < 9 then (a1 + 1) else 9) < a5 → K11 a1 a2 a3 (a4 + 1) w) ∧ (¬ (if (a1 + 1) < 9 then (a1 + 1) else 9) < a5 → w.1 7 0 0 = 0 ∧ pw_jn ((a4 * 10) + a5) (pw_ln w 14 0) ∧ 0 ≤ (w.1 14 0 (pw_i ((a4 * 10) + a5))) ∧ wp_Square_isWet w (w.1 14 0 (pw_i ((a4 * 10) + a5))) (fun w4 r5 => (r5 = 0 → ih a1 a2 a3 a4 (a5 + 1) w4) ∧ (¬ r5 = 0 → ih a1 a2 (a3 + 1) a4 (a5 + 1) w4)) (fun _ _ => False))) k
set_option maxHeartbeats 4000000 in
set_option maxRecDepth 20000 in
theorem lp_X_countWetAround_33_s {Q : pw_W → Int32 → Prop} {X : pw_W → Nat → Prop}  {K11 : Int32 → Int32 → Int32 → Int32 → pw_W → Prop} {k : Nat} {a1 a2 a3 a4 a5 : Int32} {w : pw_W} : lp_X_countWetAround_33 Q X K11 (k + 1) a1 a2 a3 a4 a5 w = (let ih := lp_X_countWetAround_33 Q X K11 k; ((if (a1 + 1) < 9 then (a1 + 1) else 9) < a5 → K11 a1 a2 a3 (a4 + 1) w) ∧ (¬ (if (a1 + 1) < 9 then (a1 + 1) else 9) < a5 → w.1 7 0 0 = 0 ∧ pw_jn ((a4 * 10) + a5) (pw_ln w 14 0) ∧ 0 ≤ (w.1 14 0 (pw_i ((a4 * 10) + a5))) ∧ wp_Square_isWet w (w.1 14 0 (pw_i ((a4 * 10) + a5))) (fun w4 r5 => (r5 = 0 → ih a1 a2 a3 a4 (a5 + 1) w4) ∧ (¬ r5 = 0 → ih a1 a2 (a3 + 1) a4 (a5 + 1) w4)) (fun _ _ => False))) := rfl
set_option maxHeartbeats 4000000 in
set_option maxRecDepth 20000 in
theorem vlp_X_countWetAround_33 {l : Launch} {g : pw_G} {Q : pw_W → Int32 → Prop} {X : pw_W → Nat → Prop} (hl0 : l.stackTraces = false) {K11 : Int32 → Int32 → Int32 → Int32 → pw_W → Prop} (hK11 : ∀ (a1 a2 a3 a4 : Int32) (w : pw_W), K11 a1 a2 a3 a4 w → pw_V l g cx_X_countWetAround Q X 11 [(9, 0), (0, a1), (0, a2), (0, a3), (0, a4), (1, 0)] [] w) : ∀ (k : Nat) (a1 a2 a3 a4 a5 : Int32) (w : pw_W), lp_X_countWetAround_33 Q X K11 k a1 a2 a3 a4 a5 w → pw_V l g cx_X_countWetAround Q X 33 [(9, 0), (0, a1), (0, a2), (0, a3), (0, a4), (0, a5)] [] w := by
  intro k; induction k with
  | zero => intro _ _ _ _ _ _ h; exact h.elim
  | succ k ih =>
    intro a1 a2 a3 a4 a5 w h
    rw [lp_X_countWetAround_33_s] at h
    refine pv_iload (n := 35) d_X_countWetAround_33 rfl rfl ?_
    refine pv_bipush (v := 9) (n := 37) d_X_countWetAround_35 (by decide) rfl ?_
    refine pv_iload_n (n := 38) d_X_countWetAround_37 rfl rfl rfl ?_
    refine pv_iconst (v := 1) (n := 39) d_X_countWetAround_38 (by decide) rfl ?_
    refine pv_iadd (n := 40) d_X_countWetAround_39 rfl ?_
    refine pv_mmin (n := 43) (pw_mw_min q_253 (by decide)) rfl d_X_countWetAround_40 rfl ?_
    refine pv_icmp_gt (n := 46) (tgt := 74) d_X_countWetAround_43 (by decide) rfl (fun c1 => ?_) (fun c1 => ?_)
    · replace h := h.1 c1
      refine pv_iinc (v := (a4 + 1)) (n := 77) (L1 := [(9, 0), (0, a1), (0, a2), (0, a3), (0, (a4 + 1)), (0, a5)]) d_X_countWetAround_74 rfl rfl rfl (by decide) rfl ?_
      refine pv_goto (tgt := 11) d_X_countWetAround_77 (by decide) ?_
      refine pv_unset (i := 5) (L1 := [(9, 0), (0, a1), (0, a2), (0, a3), (0, (a4 + 1)), (1, 0)]) rfl ?_
      exact hK11 _ _ _ _ _ h
    · replace h := h.2 c1
      refine pv_aload_n (n := 47) d_X_countWetAround_46 rfl rfl rfl ?_
      obtain ⟨g2, h⟩ := h
      refine gt_X_11 (n := 50) rfl d_X_countWetAround_47 (by decide) g2 rfl ?_
      refine pv_iload (n := 52) d_X_countWetAround_50 rfl rfl ?_
      refine pv_bipush (v := 10) (n := 54) d_X_countWetAround_52 (by decide) rfl ?_
      refine pv_imul (n := 55) d_X_countWetAround_54 rfl ?_
      refine pv_iload (n := 57) d_X_countWetAround_55 rfl rfl ?_
      refine pv_iadd (n := 58) d_X_countWetAround_57 rfl ?_
      obtain ⟨g3, h⟩ := h
      refine pv_aald (n := 59) (f := 14) (F := 6) (C := "Peatland$Square") (by decide) (Or.inl ⟨rfl, rfl⟩) (fun _ => rfl) d_X_countWetAround_58 (by decide) g3 rfl (fun _ => ?_)
      obtain ⟨g6, h⟩ := h
      refine pv_callV (n := 62) (x := (w.1 14 0 (pw_i ((a4 * 10) + a5)))) [] [] (con_Square_isWet hl0 h) pw_cf6 rfl q_315 q_316 q_317 q_32 q_314 pyo_Square_isWet (by decide) rfl rfl g6 d_X_countWetAround_59 rfl (fun w4 r5 h _ => ?_) (fun _ _ h => h.elim)
      show pw_V l g cx_X_countWetAround Q X 62 [(9, 0), (0, a1), (0, a2), (0, a3), (0, a4), (0, a5)] [(0, r5)] w4
      refine pv_if_eq (n := 65) (tgt := 68) d_X_countWetAround_62 (by decide) rfl (fun c7 => ?_) (fun c7 => ?_)
      · replace h := h.1 c7
        refine pv_iinc (v := (a5 + 1)) (n := 71) (L1 := [(9, 0), (0, a1), (0, a2), (0, a3), (0, a4), (0, (a5 + 1))]) d_X_countWetAround_68 rfl rfl rfl (by decide) rfl ?_
        refine pv_goto (tgt := 33) d_X_countWetAround_71 (by decide) ?_
        exact ih _ _ _ _ _ _ h
      · replace h := h.2 c7
        refine pv_iinc (v := (a3 + 1)) (n := 68) (L1 := [(9, 0), (0, a1), (0, a2), (0, (a3 + 1)), (0, a4), (0, a5)]) d_X_countWetAround_65 rfl rfl rfl (by decide) rfl ?_
        refine pv_iinc (v := (a5 + 1)) (n := 71) (L1 := [(9, 0), (0, a1), (0, a2), (0, (a3 + 1)), (0, a4), (0, (a5 + 1))]) d_X_countWetAround_68 rfl rfl rfl (by decide) rfl ?_
        refine pv_goto (tgt := 33) d_X_countWetAround_71 (by decide) ?_
        exact ih _ _ _ _ _ _ h
set_option maxHeartbeats 4000000 in
set_option maxRecDepth 20000 in
def lp_X_countWetAround_11 (Q : pw_W → Int32 → Prop) (X : pw_W → Nat → Prop) : Nat → Int32 → Int32 → Int32 → Int32 → pw_W → Prop := fun k => Nat.rec (motive := fun _ => Int32 → Int32 → Int32 → Int32 → pw_W → Prop) (fun _ _ _ _ _ => False) (fun _ ih a1 a2 a3 a4 w => ((if (a2 + 1) < 9 then (a2 + 1) else 9) < a4 → Q w a3) ∧ (¬ (if (a2 + 1) < 9 then (a2 + 1) else 9) < a4 → ∀ v9, v9 = (if (0 : Int32) < (a1 - 1) then (a1 - 1) else 0) → ∃ k11, lp_X_countWetAround_33 Q X ih k11 a1 a2 a3 a4 v9 w)) k
set_option maxHeartbeats 4000000 in
set_option maxRecDepth 20000 in
theorem lp_X_countWetAround_11_s {Q : pw_W → Int32 → Prop} {X : pw_W → Nat → Prop}  {k : Nat} {a1 a2 a3 a4 : Int32} {w : pw_W} : lp_X_countWetAround_11 Q X (k + 1) a1 a2 a3 a4 w = (let ih := lp_X_countWetAround_11 Q X k; ((if (a2 + 1) < 9 then (a2 + 1) else 9) < a4 → Q w a3) ∧ (¬ (if (a2 + 1) < 9 then (a2 + 1) else 9) < a4 → ∀ v9, v9 = (if (0 : Int32) < (a1 - 1) then (a1 - 1) else 0) → ∃ k11, lp_X_countWetAround_33 Q X ih k11 a1 a2 a3 a4 v9 w)) := rfl
set_option maxHeartbeats 4000000 in
set_option maxRecDepth 20000 in
theorem vlp_X_countWetAround_11 {l : Launch} {g : pw_G} {Q : pw_W → Int32 → Prop} {X : pw_W → Nat → Prop} (hl0 : l.stackTraces = false) : ∀ (k : Nat) (a1 a2 a3 a4 : Int32) (w : pw_W), lp_X_countWetAround_11 Q X k a1 a2 a3 a4 w → pw_V l g cx_X_countWetAround Q X 11 [(9, 0), (0, a1), (0, a2), (0, a3), (0, a4), (1, 0)] [] w := by
  intro k; induction k with
  | zero => intro _ _ _ _ _ h; exact h.elim
  | succ k ih =>
    intro a1 a2 a3 a4 w h
    rw [lp_X_countWetAround_11_s] at h
    refine pv_iload (n := 13) d_X_countWetAround_11 rfl rfl ?_
    refine pv_bipush (v := 9) (n := 15) d_X_countWetAround_13 (by decide) rfl ?_
    refine pv_iload_n (n := 16) d_X_countWetAround_15 rfl rfl rfl ?_
    refine pv_iconst (v := 1) (n := 17) d_X_countWetAround_16 (by decide) rfl ?_
    refine pv_iadd (n := 18) d_X_countWetAround_17 rfl ?_
    refine pv_mmin (n := 21) (pw_mw_min q_253 (by decide)) rfl d_X_countWetAround_18 rfl ?_
    refine pv_icmp_gt (n := 24) (tgt := 80) d_X_countWetAround_21 (by decide) rfl (fun c8 => ?_) (fun c8 => ?_)
    · replace h := h.1 c8
      refine pv_iload_n (n := 81) d_X_countWetAround_80 rfl rfl rfl ?_
      exact pv_iret rfl rfl d_X_countWetAround_81 h
    · replace h := h.2 c8
      refine pv_iconst (v := 0) (n := 25) d_X_countWetAround_24 (by decide) rfl ?_
      refine pv_iload_n (n := 26) d_X_countWetAround_25 rfl rfl rfl ?_
      refine pv_iconst (v := 1) (n := 27) d_X_countWetAround_26 (by decide) rfl ?_
      refine pv_isub (n := 28) d_X_countWetAround_27 rfl ?_
      refine pv_mmax (n := 31) (pw_mw_max q_254 (by decide)) rfl d_X_countWetAround_28 rfl ?_
      refine pv_nm (fun v9 e10 => ?_)
      replace h := h v9 e10
      refine pv_istore (n := 33) (L' := [(9, 0), (0, a1), (0, a2), (0, a3), (0, a4), (0, v9)]) d_X_countWetAround_31 (by decide) rfl rfl ?_
      obtain ⟨k11, h⟩ := h
      exact vlp_X_countWetAround_33 hl0 (by intros; exact ih _ _ _ _ _ (by assumption)) _ _ _ _ _ _ _ h
set_option maxHeartbeats 4000000 in
set_option maxRecDepth 20000 in
def wp_X_countWetAround (w : pw_W) (a1 a2 : Int32) (Q : pw_W → Int32 → Prop) (X : pw_W → Nat → Prop) : Prop := ∀ v12, v12 = (if (0 : Int32) < (a2 - 1) then (a2 - 1) else 0) → ∃ k14, lp_X_countWetAround_11 Q X k14 a1 a2 0 v12 w
set_option maxHeartbeats 4000000 in
set_option maxRecDepth 20000 in
theorem vw_X_countWetAround {l : Launch} {g : pw_G} {Q : pw_W → Int32 → Prop} {X : pw_W → Nat → Prop} (hl0 : l.stackTraces = false) {w : pw_W} {a1 a2 : Int32} (h : wp_X_countWetAround w a1 a2 Q X) : pw_V l g cx_X_countWetAround Q X 0 [(9, 0), (0, a1), (0, a2), (1, 0), (1, 0), (1, 0)] [] w := by
  unfold wp_X_countWetAround at h
  refine pv_iconst (v := 0) (n := 1) d_X_countWetAround_0 (by decide) rfl ?_
  refine pv_istore_n (n := 2) (L' := [(9, 0), (0, a1), (0, a2), (0, 0), (1, 0), (1, 0)]) d_X_countWetAround_1 rfl (by decide) rfl rfl ?_
  refine pv_iconst (v := 0) (n := 3) d_X_countWetAround_2 (by decide) rfl ?_
  refine pv_iload_n (n := 4) d_X_countWetAround_3 rfl rfl rfl ?_
  refine pv_iconst (v := 1) (n := 5) d_X_countWetAround_4 (by decide) rfl ?_
  refine pv_isub (n := 6) d_X_countWetAround_5 rfl ?_
  refine pv_mmax (n := 9) (pw_mw_max q_254 (by decide)) rfl d_X_countWetAround_6 rfl ?_
  refine pv_nm (fun v12 e13 => ?_)
  replace h := h v12 e13
  refine pv_istore (n := 11) (L' := [(9, 0), (0, a1), (0, a2), (0, 0), (0, v12), (1, 0)]) d_X_countWetAround_9 (by decide) rfl rfl ?_
  obtain ⟨k14, h⟩ := h
  exact vlp_X_countWetAround_11 hl0 _ _ _ _ _ _ h
set_option maxHeartbeats 4000000 in
set_option maxRecDepth 20000 in
theorem con_X_countWetAround {l : Launch} {g : pw_G} {Q : pw_W → Int32 → Prop} {X : pw_W → Nat → Prop} (hl0 : l.stackTraces = false) {w : pw_W} {a1 a2 : Int32} (h : wp_X_countWetAround w a1 a2 Q X) : pw_Con l g y_X_countWetAround cx_X_countWetAround [(9, 0), (0, a1), (0, a2)] w Q X :=
  pw_con (by decide +kernel) rfl rfl hl0 rfl (Nat.le_of_ble_eq_true rfl) (by simp) (vw_X_countWetAround hl0 h)
theorem d_X_countBirds_0 : decode (pw_cc cx_X_countBirds) 0 = .ok (.aload_n 0, 1) := by decide +kernel
theorem d_X_countBirds_1 : decode (pw_cc cx_X_countBirds) 1 = .ok (.sipush 360, 3) := by decide +kernel
theorem d_X_countBirds_4 : decode (pw_cc cx_X_countBirds) 4 = .ok (.aload_n 1, 1) := by decide +kernel
theorem d_X_countBirds_5 : decode (pw_cc cx_X_countBirds) 5 = .ok (.invokevirtual 440, 3) := by decide +kernel
theorem d_X_countBirds_8 : decode (pw_cc cx_X_countBirds) 8 = .ok (.ifCond .ne 12, 3) := by decide +kernel
theorem d_X_countBirds_11 : decode (pw_cc cx_X_countBirds) 11 = .ok (.aload_n 1, 1) := by decide +kernel
theorem d_X_countBirds_12 : decode (pw_cc cx_X_countBirds) 12 = .ok (.getfield 278, 3) := by decide +kernel
theorem d_X_countBirds_15 : decode (pw_cc cx_X_countBirds) 15 = .ok (.bipush 10, 2) := by decide +kernel
theorem d_X_countBirds_17 : decode (pw_cc cx_X_countBirds) 17 = .ok (.if_icmp .ge 5, 3) := by decide +kernel
theorem d_X_countBirds_20 : decode (pw_cc cx_X_countBirds) 20 = .ok (.iconst 0, 1) := by decide +kernel
theorem d_X_countBirds_21 : decode (pw_cc cx_X_countBirds) 21 = .ok (.ireturn, 1) := by decide +kernel
theorem d_X_countBirds_22 : decode (pw_cc cx_X_countBirds) 22 = .ok (.aload_n 0, 1) := by decide +kernel
theorem d_X_countBirds_23 : decode (pw_cc cx_X_countBirds) 23 = .ok (.aload_n 1, 1) := by decide +kernel
theorem d_X_countBirds_24 : decode (pw_cc cx_X_countBirds) 24 = .ok (.getfield 108, 3) := by decide +kernel
theorem d_X_countBirds_27 : decode (pw_cc cx_X_countBirds) 27 = .ok (.bipush 10, 2) := by decide +kernel
theorem d_X_countBirds_29 : decode (pw_cc cx_X_countBirds) 29 = .ok (.irem, 1) := by decide +kernel
theorem d_X_countBirds_30 : decode (pw_cc cx_X_countBirds) 30 = .ok (.aload_n 1, 1) := by decide +kernel
theorem d_X_countBirds_31 : decode (pw_cc cx_X_countBirds) 31 = .ok (.getfield 108, 3) := by decide +kernel
theorem d_X_countBirds_34 : decode (pw_cc cx_X_countBirds) 34 = .ok (.bipush 10, 2) := by decide +kernel
theorem d_X_countBirds_36 : decode (pw_cc cx_X_countBirds) 36 = .ok (.idiv, 1) := by decide +kernel
theorem d_X_countBirds_37 : decode (pw_cc cx_X_countBirds) 37 = .ok (.invokevirtual 444, 3) := by decide +kernel
theorem d_X_countBirds_40 : decode (pw_cc cx_X_countBirds) 40 = .ok (.ireturn, 1) := by decide +kernel
set_option maxHeartbeats 4000000 in
set_option maxRecDepth 20000 in
def wp_X_countBirds (w : pw_W) (a1 : Int32) (Q : pw_W → Int32 → Prop) (X : pw_W → Nat → Prop) : Prop := wp_X_isBurntInLast w 360 a1 (fun w1 r2 => (¬ r2 = 0 → Q w1 0) ∧ (r2 = 0 → 0 ≤ a1 ∧ ((10 : Int32) ≤ (w1.1 6 (pw_i a1) 4) → wp_X_countWetAround w1 ((w1.1 6 (pw_i a1) 0) - (w1.1 6 (pw_i a1) 0) / 10 * 10) ((w1.1 6 (pw_i a1) 0) / 10) (fun w6 r7 => Q w6 r7) (fun _ _ => False)) ∧ (¬ (10 : Int32) ≤ (w1.1 6 (pw_i a1) 4) → Q w1 0))) (fun _ _ => False)
set_option maxHeartbeats 4000000 in
set_option maxRecDepth 20000 in
theorem vw_X_countBirds {l : Launch} {g : pw_G} {Q : pw_W → Int32 → Prop} {X : pw_W → Nat → Prop} (hl0 : l.stackTraces = false) {w : pw_W} {a1 : Int32} (h : wp_X_countBirds w a1 Q X) : pw_V l g cx_X_countBirds Q X 0 [(9, 0), (8, a1)] [] w := by
  unfold wp_X_countBirds at h
  refine pv_aload_n (n := 1) d_X_countBirds_0 rfl rfl rfl ?_
  refine pv_sipush (v := 360) (n := 4) d_X_countBirds_1 (by decide) rfl ?_
  refine pv_aload_n (n := 5) d_X_countBirds_4 rfl rfl rfl ?_
  refine pv_callV (n := 8) (x := 0) [(0, 360), (8, a1)] [] (con_X_isBurntInLast hl0 h) pw_cf7 rfl q_306 q_307 q_308 q_62 q_305 pyo_X_isBurntInLast (by decide) rfl rfl (by decide) d_X_countBirds_5 rfl (fun w1 r2 h _ => ?_) (fun _ _ h => h.elim)
  show pw_V l g cx_X_countBirds Q X 8 [(9, 0), (8, a1)] [(0, r2)] w1
  refine pv_if_ne (n := 11) (tgt := 20) d_X_countBirds_8 (by decide) rfl (fun c3 => ?_) (fun c3 => ?_)
  · replace h := h.1 c3
    refine pv_iconst (v := 0) (n := 21) d_X_countBirds_20 (by decide) rfl ?_
    exact pv_iret rfl rfl d_X_countBirds_21 h
  · replace h := h.2 c3
    refine pv_aload_n (n := 12) d_X_countBirds_11 rfl rfl rfl ?_
    obtain ⟨g4, h⟩ := h
    refine gt_X_278 (n := 15) rfl d_X_countBirds_12 g4 rfl ?_
    refine pv_bipush (v := 10) (n := 17) d_X_countBirds_15 (by decide) rfl ?_
    refine pv_icmp_ge (n := 20) (tgt := 22) d_X_countBirds_17 (by decide) rfl (fun c5 => ?_) (fun c5 => ?_)
    · replace h := h.1 c5
      refine pv_aload_n (n := 23) d_X_countBirds_22 rfl rfl rfl ?_
      refine pv_aload_n (n := 24) d_X_countBirds_23 rfl rfl rfl ?_
      refine gt_X_108 (n := 27) rfl d_X_countBirds_24 g4 rfl ?_
      refine pv_bipush (v := 10) (n := 29) d_X_countBirds_27 (by decide) rfl ?_
      refine pv_irem (n := 30) d_X_countBirds_29 (by decide) rfl ?_
      refine pv_aload_n (n := 31) d_X_countBirds_30 rfl rfl rfl ?_
      refine gt_X_108 (n := 34) rfl d_X_countBirds_31 g4 rfl ?_
      refine pv_bipush (v := 10) (n := 36) d_X_countBirds_34 (by decide) rfl ?_
      refine pv_idiv (n := 37) d_X_countBirds_36 (by decide) rfl ?_
      refine pv_callV (n := 40) (x := 0) [(0, ((w1.1 6 (pw_i a1) 0) - (w1.1 6 (pw_i a1) 0) / 10 * 10)), (0, ((w1.1 6 (pw_i a1) 0) / 10))] [] (con_X_countWetAround hl0 h) pw_cf7 rfl q_319 q_320 q_321 q_62 q_318 pyo_X_countWetAround (by decide) rfl rfl (by decide) d_X_countBirds_37 rfl (fun w6 r7 h _ => ?_) (fun _ _ h => h.elim)
      show pw_V l g cx_X_countBirds Q X 40 [(9, 0), (8, a1)] [(0, r7)] w6
      exact pv_iret rfl rfl d_X_countBirds_40 h
    · replace h := h.2 c5
      refine pv_iconst (v := 0) (n := 21) d_X_countBirds_20 (by decide) rfl ?_
      exact pv_iret rfl rfl d_X_countBirds_21 h
set_option maxHeartbeats 4000000 in
set_option maxRecDepth 20000 in
theorem con_X_countBirds {l : Launch} {g : pw_G} {Q : pw_W → Int32 → Prop} {X : pw_W → Nat → Prop} (hl0 : l.stackTraces = false) {w : pw_W} {a1 : Int32} (h : wp_X_countBirds w a1 Q X) : pw_Con l g y_X_countBirds cx_X_countBirds [(9, 0), (8, a1)] w Q X :=
  pw_con (by decide +kernel) rfl rfl hl0 rfl (Nat.le_of_ble_eq_true rfl) (by simp) (vw_X_countBirds hl0 h)
theorem d_X_payPersons_0 : decode (pw_cc cx_X_payPersons) 0 = .ok (.aload_n 0, 1) := by decide +kernel
theorem d_X_payPersons_1 : decode (pw_cc cx_X_payPersons) 1 = .ok (.getfield 11, 3) := by decide +kernel
theorem d_X_payPersons_4 : decode (pw_cc cx_X_payPersons) 4 = .ok (.astore_n 1, 1) := by decide +kernel
theorem d_X_payPersons_5 : decode (pw_cc cx_X_payPersons) 5 = .ok (.aload_n 1, 1) := by decide +kernel
theorem d_X_payPersons_6 : decode (pw_cc cx_X_payPersons) 6 = .ok (.arraylength, 1) := by decide +kernel
theorem d_X_payPersons_7 : decode (pw_cc cx_X_payPersons) 7 = .ok (.istore_n 2, 1) := by decide +kernel
theorem d_X_payPersons_8 : decode (pw_cc cx_X_payPersons) 8 = .ok (.iconst 0, 1) := by decide +kernel
theorem d_X_payPersons_9 : decode (pw_cc cx_X_payPersons) 9 = .ok (.istore_n 3, 1) := by decide +kernel
theorem d_X_payPersons_10 : decode (pw_cc cx_X_payPersons) 10 = .ok (.iload_n 3, 1) := by decide +kernel
theorem d_X_payPersons_11 : decode (pw_cc cx_X_payPersons) 11 = .ok (.iload_n 2, 1) := by decide +kernel
theorem d_X_payPersons_12 : decode (pw_cc cx_X_payPersons) 12 = .ok (.if_icmp .ge 67, 3) := by decide +kernel
theorem d_X_payPersons_15 : decode (pw_cc cx_X_payPersons) 15 = .ok (.aload_n 1, 1) := by decide +kernel
theorem d_X_payPersons_16 : decode (pw_cc cx_X_payPersons) 16 = .ok (.iload_n 3, 1) := by decide +kernel
theorem d_X_payPersons_17 : decode (pw_cc cx_X_payPersons) 17 = .ok (.aaload, 1) := by decide +kernel
theorem d_X_payPersons_18 : decode (pw_cc cx_X_payPersons) 18 = .ok (.astore 4, 2) := by decide +kernel
theorem d_X_payPersons_20 : decode (pw_cc cx_X_payPersons) 20 = .ok (.aload 4, 2) := by decide +kernel
theorem d_X_payPersons_22 : decode (pw_cc cx_X_payPersons) 22 = .ok (.getfield 104, 3) := by decide +kernel
theorem d_X_payPersons_25 : decode (pw_cc cx_X_payPersons) 25 = .ok (.getfield 120, 3) := by decide +kernel
theorem d_X_payPersons_28 : decode (pw_cc cx_X_payPersons) 28 = .ok (.astore 5, 2) := by decide +kernel
theorem d_X_payPersons_30 : decode (pw_cc cx_X_payPersons) 30 = .ok (.aload 5, 2) := by decide +kernel
theorem d_X_payPersons_32 : decode (pw_cc cx_X_payPersons) 32 = .ok (.ifnull 41, 3) := by decide +kernel
theorem d_X_payPersons_35 : decode (pw_cc cx_X_payPersons) 35 = .ok (.aload 5, 2) := by decide +kernel
theorem d_X_payPersons_37 : decode (pw_cc cx_X_payPersons) 37 = .ok (.getfield 76, 3) := by decide +kernel
theorem d_X_payPersons_40 : decode (pw_cc cx_X_payPersons) 40 = .ok (.ifCond .eq 33, 3) := by decide +kernel
theorem d_X_payPersons_43 : decode (pw_cc cx_X_payPersons) 43 = .ok (.aload 5, 2) := by decide +kernel
theorem d_X_payPersons_45 : decode (pw_cc cx_X_payPersons) 45 = .ok (.dup, 1) := by decide +kernel
theorem d_X_payPersons_46 : decode (pw_cc cx_X_payPersons) 46 = .ok (.getfield 367, 3) := by decide +kernel
theorem d_X_payPersons_49 : decode (pw_cc cx_X_payPersons) 49 = .ok (.aload_n 0, 1) := by decide +kernel
theorem d_X_payPersons_50 : decode (pw_cc cx_X_payPersons) 50 = .ok (.aload 4, 2) := by decide +kernel
theorem d_X_payPersons_52 : decode (pw_cc cx_X_payPersons) 52 = .ok (.invokevirtual 353, 3) := by decide +kernel
theorem d_X_payPersons_55 : decode (pw_cc cx_X_payPersons) 55 = .ok (.aload 4, 2) := by decide +kernel
theorem d_X_payPersons_57 : decode (pw_cc cx_X_payPersons) 57 = .ok (.invokevirtual 447, 3) := by decide +kernel
theorem d_X_payPersons_60 : decode (pw_cc cx_X_payPersons) 60 = .ok (.ifCond .eq 7, 3) := by decide +kernel
theorem d_X_payPersons_63 : decode (pw_cc cx_X_payPersons) 63 = .ok (.iconst 2, 1) := by decide +kernel
theorem d_X_payPersons_64 : decode (pw_cc cx_X_payPersons) 64 = .ok (.goto 4, 3) := by decide +kernel
theorem d_X_payPersons_67 : decode (pw_cc cx_X_payPersons) 67 = .ok (.iconst 0, 1) := by decide +kernel
theorem d_X_payPersons_68 : decode (pw_cc cx_X_payPersons) 68 = .ok (.iadd, 1) := by decide +kernel
theorem d_X_payPersons_69 : decode (pw_cc cx_X_payPersons) 69 = .ok (.iadd, 1) := by decide +kernel
theorem d_X_payPersons_70 : decode (pw_cc cx_X_payPersons) 70 = .ok (.putfield 367, 3) := by decide +kernel
theorem d_X_payPersons_73 : decode (pw_cc cx_X_payPersons) 73 = .ok (.iinc 3 1, 3) := by decide +kernel
theorem d_X_payPersons_76 : decode (pw_cc cx_X_payPersons) 76 = .ok (.goto (-66), 3) := by decide +kernel
theorem d_X_payPersons_79 : decode (pw_cc cx_X_payPersons) 79 = .ok (.return_, 1) := by decide +kernel
set_option maxHeartbeats 4000000 in
set_option maxRecDepth 20000 in
def jp_X_payPersons_68 (Q : pw_W → Int32 → Prop) (X : pw_W → Nat → Prop) (K10 : Int32 → Int32 → pw_W → Prop) (a2 a3 s0 s1 s2 s3 : Int32) (w : pw_W) : Prop := 0 ≤ s3 ∧ ∀ w2, w2 = pw_ps w 4 (pw_i s3) 3 (s2 + (s1 + s0)) → K10 a2 (a3 + 1) w2
set_option maxHeartbeats 4000000 in
set_option maxRecDepth 20000 in
theorem vjp_X_payPersons_68 {l : Launch} {g : pw_G} {Q : pw_W → Int32 → Prop} {X : pw_W → Nat → Prop} (hl0 : l.stackTraces = false) {K10 : Int32 → Int32 → pw_W → Prop} (hK10 : ∀ (a2 a3 : Int32) (w : pw_W), K10 a2 a3 w → pw_V l g cx_X_payPersons Q X 10 [(9, 0), (16, 0), (0, a2), (0, a3), (1, 0), (1, 0)] [] w) (a2 a3 s0 s1 s2 s3 : Int32) (w : pw_W) (h : jp_X_payPersons_68 Q X K10 a2 a3 s0 s1 s2 s3 w) : pw_V l g cx_X_payPersons Q X 68 [(9, 0), (16, 0), (0, a2), (0, a3), (1, 0), (1, 0)] [(0, s0), (0, s1), (0, s2), (6, s3)] w := by
  unfold jp_X_payPersons_68 at h
  refine pv_iadd (n := 69) d_X_payPersons_68 rfl ?_
  refine pv_iadd (n := 70) d_X_payPersons_69 rfl ?_
  obtain ⟨g1, h⟩ := h
  refine pt_X_367 (n := 73) rfl d_X_payPersons_70 g1 rfl (fun w2 e3 => ?_)
  replace h := h w2 e3
  refine pv_iinc (v := (a3 + 1)) (n := 76) (L1 := [(9, 0), (16, 0), (0, a2), (0, (a3 + 1)), (1, 0), (1, 0)]) d_X_payPersons_73 rfl rfl rfl (by decide) rfl ?_
  refine pv_goto (tgt := 10) d_X_payPersons_76 (by decide) ?_
  exact hK10 _ _ _ h
set_option maxHeartbeats 4000000 in
set_option maxRecDepth 20000 in
def lp_X_payPersons_10 (Q : pw_W → Int32 → Prop) (X : pw_W → Nat → Prop) : Nat → Int32 → Int32 → pw_W → Prop := fun k => Nat.rec (motive := fun _ => Int32 → Int32 → pw_W → Prop) (fun _ _ _ => False) (fun _ ih a2 a3 w => (a2 ≤ a3 → Q w 0) ∧ (¬ a2 ≤ a3 → pw_jn a3 (pw_ln w 14 0) ∧ ∀ v6, v6 = (w.1 14 0 (pw_i a3)) → 0 ≤ v6 ∧ 0 ≤ (w.1 6 (pw_i v6) 1) ∧ ∀ v10, v10 = (w.1 3 (pw_i (w.1 6 (pw_i v6) 1)) 2) → (v10 = -1 → ih a2 (a3 + 1) w) ∧ (¬ v10 = -1 → 0 ≤ v10 ∧ ((w.1 4 (pw_i v10) 2) = 0 → ih a2 (a3 + 1) w) ∧ (¬ (w.1 4 (pw_i v10) 2) = 0 → wp_X_countBirds w v6 (fun w15 r16 => wp_Square_isWet w15 v6 (fun w17 r18 => (r18 = 0 → jp_X_payPersons_68 Q X ih a2 a3 0 r16 (w.1 4 (pw_i v10) 3) v10 w17) ∧ (¬ r18 = 0 → jp_X_payPersons_68 Q X ih a2 a3 2 r16 (w.1 4 (pw_i v10) 3) v10 w17)) (fun _ _ => False)) (fun _ _ => False))))) k
set_option maxHeartbeats 4000000 in
set_option maxRecDepth 20000 in
theorem lp_X_payPersons_10_s {Q : pw_W → Int32 → Prop} {X : pw_W → Nat → Prop}  {k : Nat} {a2 a3 : Int32} {w : pw_W} : lp_X_payPersons_10 Q X (k + 1) a2 a3 w = (let ih := lp_X_payPersons_10 Q X k; (a2 ≤ a3 → Q w 0) ∧ (¬ a2 ≤ a3 → pw_jn a3 (pw_ln w 14 0) ∧ ∀ v6, v6 = (w.1 14 0 (pw_i a3)) → 0 ≤ v6 ∧ 0 ≤ (w.1 6 (pw_i v6) 1) ∧ ∀ v10, v10 = (w.1 3 (pw_i (w.1 6 (pw_i v6) 1)) 2) → (v10 = -1 → ih a2 (a3 + 1) w) ∧ (¬ v10 = -1 → 0 ≤ v10 ∧ ((w.1 4 (pw_i v10) 2) = 0 → ih a2 (a3 + 1) w) ∧ (¬ (w.1 4 (pw_i v10) 2) = 0 → wp_X_countBirds w v6 (fun w15 r16 => wp_Square_isWet w15 v6 (fun w17 r18 => (r18 = 0 → jp_X_payPersons_68 Q X ih a2 a3 0 r16 (w.1 4 (pw_i v10) 3) v10 w17) ∧ (¬ r18 = 0 → jp_X_payPersons_68 Q X ih a2 a3 2 r16 (w.1 4 (pw_i v10) 3) v10 w17)) (fun _ _ => False)) (fun _ _ => False))))) := rfl
set_option maxHeartbeats 4000000 in
set_option maxRecDepth 20000 in
theorem vlp_X_payPersons_10 {l : Launch} {g : pw_G} {Q : pw_W → Int32 → Prop} {X : pw_W → Nat → Prop} (hl0 : l.stackTraces = false) : ∀ (k : Nat) (a2 a3 : Int32) (w : pw_W), lp_X_payPersons_10 Q X k a2 a3 w → pw_V l g cx_X_payPersons Q X 10 [(9, 0), (16, 0), (0, a2), (0, a3), (1, 0), (1, 0)] [] w := by
  intro k; induction k with
  | zero => intro _ _ _ h; exact h.elim
  | succ k ih =>
    intro a2 a3 w h
    rw [lp_X_payPersons_10_s] at h
    refine pv_iload_n (n := 11) d_X_payPersons_10 rfl rfl rfl ?_
    refine pv_iload_n (n := 12) d_X_payPersons_11 rfl rfl rfl ?_
    refine pv_icmp_ge (n := 15) (tgt := 79) d_X_payPersons_12 (by decide) rfl (fun c4 => ?_) (fun c4 => ?_)
    · replace h := h.1 c4
      exact pv_vret rfl rfl d_X_payPersons_79 h
    · replace h := h.2 c4
      refine pv_aload_n (n := 16) d_X_payPersons_15 rfl rfl rfl ?_
      refine pv_iload_n (n := 17) d_X_payPersons_16 rfl rfl rfl ?_
      obtain ⟨g5, h⟩ := h
      refine pv_aald (n := 18) (f := 14) (F := 6) (C := "Peatland$Square") (by decide) (Or.inl ⟨rfl, rfl⟩) (fun _ => rfl) d_X_payPersons_17 (by decide) g5 rfl (fun _ => ?_)
      refine pv_nm (fun v6 e7 => ?_)
      replace h := h v6 e7
      refine pv_astore (n := 20) (L' := [(9, 0), (16, 0), (0, a2), (0, a3), (8, v6), (1, 0)]) d_X_payPersons_18 (by decide) rfl rfl ?_
      refine pv_aload (n := 22) d_X_payPersons_20 rfl rfl ?_
      obtain ⟨g8, h⟩ := h
      refine gt_X_104 (n := 25) rfl d_X_payPersons_22 g8 rfl ?_
      obtain ⟨g9, h⟩ := h
      refine gt_X_120 (n := 28) rfl d_X_payPersons_25 g9 rfl ?_
      refine pv_nm (fun v10 e11 => ?_)
      replace h := h v10 e11
      refine pv_astore (n := 30) (L' := [(9, 0), (16, 0), (0, a2), (0, a3), (8, v6), (6, v10)]) d_X_payPersons_28 (by decide) rfl rfl ?_
      refine pv_aload (n := 32) d_X_payPersons_30 rfl rfl ?_
      refine pv_ifnull (n := 35) (tgt := 73) d_X_payPersons_32 (by decide) rfl (fun c12 => ?_) (fun c12 => ?_)
      · replace h := h.1 c12
        refine pv_iinc (v := (a3 + 1)) (n := 76) (L1 := [(9, 0), (16, 0), (0, a2), (0, (a3 + 1)), (8, v6), (6, v10)]) d_X_payPersons_73 rfl rfl rfl (by decide) rfl ?_
        refine pv_goto (tgt := 10) d_X_payPersons_76 (by decide) ?_
        refine pv_unset (i := 4) (L1 := [(9, 0), (16, 0), (0, a2), (0, (a3 + 1)), (1, 0), (6, v10)]) rfl ?_
        refine pv_unset (i := 5) (L1 := [(9, 0), (16, 0), (0, a2), (0, (a3 + 1)), (1, 0), (1, 0)]) rfl ?_
        exact ih _ _ _ h
      · replace h := h.2 c12
        refine pv_aload (n := 37) d_X_payPersons_35 rfl rfl ?_
        obtain ⟨g13, h⟩ := h
        refine gt_X_76 (n := 40) rfl d_X_payPersons_37 g13 rfl ?_
        refine pv_if_eq (n := 43) (tgt := 73) d_X_payPersons_40 (by decide) rfl (fun c14 => ?_) (fun c14 => ?_)
        · replace h := h.1 c14
          refine pv_iinc (v := (a3 + 1)) (n := 76) (L1 := [(9, 0), (16, 0), (0, a2), (0, (a3 + 1)), (8, v6), (6, v10)]) d_X_payPersons_73 rfl rfl rfl (by decide) rfl ?_
          refine pv_goto (tgt := 10) d_X_payPersons_76 (by decide) ?_
          refine pv_unset (i := 4) (L1 := [(9, 0), (16, 0), (0, a2), (0, (a3 + 1)), (1, 0), (6, v10)]) rfl ?_
          refine pv_unset (i := 5) (L1 := [(9, 0), (16, 0), (0, a2), (0, (a3 + 1)), (1, 0), (1, 0)]) rfl ?_
          exact ih _ _ _ h
        · replace h := h.2 c14
          refine pv_aload (n := 45) d_X_payPersons_43 rfl rfl ?_
          refine pv_dup (n := 46) d_X_payPersons_45 (by decide) rfl ?_
          refine gt_X_367 (n := 49) rfl d_X_payPersons_46 g13 rfl ?_
          refine pv_aload_n (n := 50) d_X_payPersons_49 rfl rfl rfl ?_
          refine pv_aload (n := 52) d_X_payPersons_50 rfl rfl ?_
          refine pv_callV (n := 55) (x := 0) [(8, v6)] [(0, (w.1 4 (pw_i v10) 3)), (6, v10)] (con_X_countBirds hl0 h) pw_cf7 rfl q_324 q_325 q_326 q_62 q_323 pyo_X_countBirds (by decide) rfl rfl (by decide) d_X_payPersons_52 rfl (fun w15 r16 h _ => ?_) (fun _ _ h => h.elim)
          show pw_V l g cx_X_payPersons Q X 55 [(9, 0), (16, 0), (0, a2), (0, a3), (8, v6), (6, v10)] [(0, r16), (0, (w.1 4 (pw_i v10) 3)), (6, v10)] w15
          refine pv_aload (n := 57) d_X_payPersons_55 rfl rfl ?_
          refine pv_callV (n := 60) (x := v6) [] [(0, r16), (0, (w.1 4 (pw_i v10) 3)), (6, v10)] (con_Square_isWet hl0 h) pw_cf6 rfl q_315 q_316 q_317 q_32 q_314 pyo_Square_isWet (by decide) rfl rfl g8 d_X_payPersons_57 rfl (fun w17 r18 h _ => ?_) (fun _ _ h => h.elim)
          show pw_V l g cx_X_payPersons Q X 60 [(9, 0), (16, 0), (0, a2), (0, a3), (8, v6), (6, v10)] [(0, r18), (0, r16), (0, (w.1 4 (pw_i v10) 3)), (6, v10)] w17
          refine pv_if_eq (n := 63) (tgt := 67) d_X_payPersons_60 (by decide) rfl (fun c19 => ?_) (fun c19 => ?_)
          · replace h := h.1 c19
            refine pv_iconst (v := 0) (n := 68) d_X_payPersons_67 (by decide) rfl ?_
            refine pv_unset (i := 4) (L1 := [(9, 0), (16, 0), (0, a2), (0, a3), (1, 0), (6, v10)]) rfl ?_
            refine pv_unset (i := 5) (L1 := [(9, 0), (16, 0), (0, a2), (0, a3), (1, 0), (1, 0)]) rfl ?_
            exact vjp_X_payPersons_68 hl0 (by intros; exact ih _ _ _ (by assumption)) _ _ _ _ _ _ _ h
          · replace h := h.2 c19
            refine pv_iconst (v := 2) (n := 64) d_X_payPersons_63 (by decide) rfl ?_
            refine pv_goto (tgt := 68) d_X_payPersons_64 (by decide) ?_
            refine pv_unset (i := 4) (L1 := [(9, 0), (16, 0), (0, a2), (0, a3), (1, 0), (6, v10)]) rfl ?_
            refine pv_unset (i := 5) (L1 := [(9, 0), (16, 0), (0, a2), (0, a3), (1, 0), (1, 0)]) rfl ?_
            exact vjp_X_payPersons_68 hl0 (by intros; exact ih _ _ _ (by assumption)) _ _ _ _ _ _ _ h
set_option maxHeartbeats 4000000 in
set_option maxRecDepth 20000 in
def wp_X_payPersons (w : pw_W) (Q : pw_W → Int32 → Prop) (X : pw_W → Nat → Prop) : Prop := w.1 7 0 0 = 0 ∧ ∀ v21, v21 = (nI (pw_ln w 14 0)) → ∃ k23, lp_X_payPersons_10 Q X k23 v21 0 w
set_option maxHeartbeats 4000000 in
set_option maxRecDepth 20000 in
theorem vw_X_payPersons {l : Launch} {g : pw_G} {Q : pw_W → Int32 → Prop} {X : pw_W → Nat → Prop} (hl0 : l.stackTraces = false) {w : pw_W} (h : wp_X_payPersons w Q X) : pw_V l g cx_X_payPersons Q X 0 [(9, 0), (1, 0), (1, 0), (1, 0), (1, 0), (1, 0)] [] w := by
  unfold wp_X_payPersons at h
  refine pv_aload_n (n := 1) d_X_payPersons_0 rfl rfl rfl ?_
  obtain ⟨g20, h⟩ := h
  refine gt_X_11 (n := 4) rfl d_X_payPersons_1 (by decide) g20 rfl ?_
  refine pv_astore_n (n := 5) (L' := [(9, 0), (16, 0), (1, 0), (1, 0), (1, 0), (1, 0)]) d_X_payPersons_4 rfl (by decide) rfl rfl ?_
  refine pv_aload_n (n := 6) d_X_payPersons_5 rfl rfl rfl ?_
  refine pv_alen (n := 7) (f := 14) (by decide) ⟨_, rfl⟩ d_X_payPersons_6 (by decide) rfl ?_
  refine pv_nm (fun v21 e22 => ?_)
  replace h := h v21 e22
  refine pv_istore_n (n := 8) (L' := [(9, 0), (16, 0), (0, v21), (1, 0), (1, 0), (1, 0)]) d_X_payPersons_7 rfl (by decide) rfl rfl ?_
  refine pv_iconst (v := 0) (n := 9) d_X_payPersons_8 (by decide) rfl ?_
  refine pv_istore_n (n := 10) (L' := [(9, 0), (16, 0), (0, v21), (0, 0), (1, 0), (1, 0)]) d_X_payPersons_9 rfl (by decide) rfl rfl ?_
  obtain ⟨k23, h⟩ := h
  exact vlp_X_payPersons_10 hl0 _ _ _ _ h
set_option maxHeartbeats 4000000 in
set_option maxRecDepth 20000 in
theorem con_X_payPersons {l : Launch} {g : pw_G} {Q : pw_W → Int32 → Prop} {X : pw_W → Nat → Prop} (hl0 : l.stackTraces = false) {w : pw_W} (h : wp_X_payPersons w Q X) : pw_Con l g y_X_payPersons cx_X_payPersons [(9, 0)] w Q X :=
  pw_con (by decide +kernel) rfl rfl hl0 rfl (Nat.le_of_ble_eq_true rfl) (by simp) (vw_X_payPersons hl0 h)
theorem d_Drain_run_0 : decode (pw_cc cx_Drain_run) 0 = .ok (.aload_n 0, 1) := by decide +kernel
theorem d_Drain_run_1 : decode (pw_cc cx_Drain_run) 1 = .ok (.getfield 9, 3) := by decide +kernel
theorem d_Drain_run_4 : decode (pw_cc cx_Drain_run) 4 = .ok (.getfield 18, 3) := by decide +kernel
theorem d_Drain_run_7 : decode (pw_cc cx_Drain_run) 7 = .ok (.iconst 4, 1) := by decide +kernel
theorem d_Drain_run_8 : decode (pw_cc cx_Drain_run) 8 = .ok (.idiv, 1) := by decide +kernel
theorem d_Drain_run_9 : decode (pw_cc cx_Drain_run) 9 = .ok (.bipush 100, 2) := by decide +kernel
theorem d_Drain_run_11 : decode (pw_cc cx_Drain_run) 11 = .ok (.aload_n 0, 1) := by decide +kernel
theorem d_Drain_run_12 : decode (pw_cc cx_Drain_run) 12 = .ok (.getfield 15, 3) := by decide +kernel
theorem d_Drain_run_15 : decode (pw_cc cx_Drain_run) 15 = .ok (.getfield 18, 3) := by decide +kernel
theorem d_Drain_run_18 : decode (pw_cc cx_Drain_run) 18 = .ok (.isub, 1) := by decide +kernel
theorem d_Drain_run_19 : decode (pw_cc cx_Drain_run) 19 = .ok (.invokestatic 24, 3) := by decide +kernel
theorem d_Drain_run_22 : decode (pw_cc cx_Drain_run) 22 = .ok (.istore_n 1, 1) := by decide +kernel
theorem d_Drain_run_23 : decode (pw_cc cx_Drain_run) 23 = .ok (.aload_n 0, 1) := by decide +kernel
theorem d_Drain_run_24 : decode (pw_cc cx_Drain_run) 24 = .ok (.getfield 9, 3) := by decide +kernel
theorem d_Drain_run_27 : decode (pw_cc cx_Drain_run) 27 = .ok (.dup, 1) := by decide +kernel
theorem d_Drain_run_28 : decode (pw_cc cx_Drain_run) 28 = .ok (.getfield 18, 3) := by decide +kernel
theorem d_Drain_run_31 : decode (pw_cc cx_Drain_run) 31 = .ok (.iload_n 1, 1) := by decide +kernel
theorem d_Drain_run_32 : decode (pw_cc cx_Drain_run) 32 = .ok (.isub, 1) := by decide +kernel
theorem d_Drain_run_33 : decode (pw_cc cx_Drain_run) 33 = .ok (.putfield 18, 3) := by decide +kernel
theorem d_Drain_run_36 : decode (pw_cc cx_Drain_run) 36 = .ok (.aload_n 0, 1) := by decide +kernel
theorem d_Drain_run_37 : decode (pw_cc cx_Drain_run) 37 = .ok (.getfield 15, 3) := by decide +kernel
theorem d_Drain_run_40 : decode (pw_cc cx_Drain_run) 40 = .ok (.dup, 1) := by decide +kernel
theorem d_Drain_run_41 : decode (pw_cc cx_Drain_run) 41 = .ok (.getfield 18, 3) := by decide +kernel
theorem d_Drain_run_44 : decode (pw_cc cx_Drain_run) 44 = .ok (.iload_n 1, 1) := by decide +kernel
theorem d_Drain_run_45 : decode (pw_cc cx_Drain_run) 45 = .ok (.iadd, 1) := by decide +kernel
theorem d_Drain_run_46 : decode (pw_cc cx_Drain_run) 46 = .ok (.putfield 18, 3) := by decide +kernel
theorem d_Drain_run_49 : decode (pw_cc cx_Drain_run) 49 = .ok (.return_, 1) := by decide +kernel
set_option maxHeartbeats 4000000 in
set_option maxRecDepth 20000 in
def wp_Drain_run (w : pw_W) (a0 : Int32) (Q : pw_W → Int32 → Prop) (X : pw_W → Nat → Prop) : Prop := 0 ≤ a0 ∧ 0 ≤ (w.1 1 (pw_i a0) 0) ∧ 0 ≤ (w.1 1 (pw_i a0) 1) ∧ ∀ v4, v4 = (if ((100 : Int32) - (w.1 6 (pw_i (w.1 1 (pw_i a0) 1)) 5)) < ((w.1 6 (pw_i (w.1 1 (pw_i a0) 0)) 5) / 4) then ((100 : Int32) - (w.1 6 (pw_i (w.1 1 (pw_i a0) 1)) 5)) else ((w.1 6 (pw_i (w.1 1 (pw_i a0) 0)) 5) / 4)) → ∀ w6, w6 = pw_ps w 6 (pw_i (w.1 1 (pw_i a0) 0)) 5 ((w.1 6 (pw_i (w.1 1 (pw_i a0) 0)) 5) - v4) → 0 ≤ (w6.1 1 (pw_i a0) 1) ∧ ∀ w9, w9 = pw_ps w6 6 (pw_i (w6.1 1 (pw_i a0) 1)) 5 ((w6.1 6 (pw_i (w6.1 1 (pw_i a0) 1)) 5) + v4) → Q w9 0
set_option maxHeartbeats 4000000 in
set_option maxRecDepth 20000 in
theorem vw_Drain_run {l : Launch} {g : pw_G} {Q : pw_W → Int32 → Prop} {X : pw_W → Nat → Prop} (hl0 : l.stackTraces = false) {w : pw_W} {a0 : Int32} (h : wp_Drain_run w a0 Q X) : pw_V l g cx_Drain_run Q X 0 [(3, a0), (1, 0)] [] w := by
  unfold wp_Drain_run at h
  refine pv_aload_n (n := 1) d_Drain_run_0 rfl rfl rfl ?_
  obtain ⟨g1, h⟩ := h
  refine gt_Drain_9 (n := 4) rfl d_Drain_run_1 g1 rfl ?_
  obtain ⟨g2, h⟩ := h
  refine gt_Drain_18 (n := 7) rfl d_Drain_run_4 g2 rfl ?_
  refine pv_iconst (v := 4) (n := 8) d_Drain_run_7 (by decide) rfl ?_
  refine pv_idiv (n := 9) d_Drain_run_8 (by decide) rfl ?_
  refine pv_bipush (v := 100) (n := 11) d_Drain_run_9 (by decide) rfl ?_
  refine pv_aload_n (n := 12) d_Drain_run_11 rfl rfl rfl ?_
  refine gt_Drain_15 (n := 15) rfl d_Drain_run_12 g1 rfl ?_
  obtain ⟨g3, h⟩ := h
  refine gt_Drain_18 (n := 18) rfl d_Drain_run_15 g3 rfl ?_
  refine pv_isub (n := 19) d_Drain_run_18 rfl ?_
  refine pv_mmin (n := 22) (pw_mw_min q_328 (by decide)) rfl d_Drain_run_19 rfl ?_
  refine pv_nm (fun v4 e5 => ?_)
  replace h := h v4 e5
  refine pv_istore_n (n := 23) (L' := [(3, a0), (0, v4)]) d_Drain_run_22 rfl (by decide) rfl rfl ?_
  refine pv_aload_n (n := 24) d_Drain_run_23 rfl rfl rfl ?_
  refine gt_Drain_9 (n := 27) rfl d_Drain_run_24 g1 rfl ?_
  refine pv_dup (n := 28) d_Drain_run_27 (by decide) rfl ?_
  refine gt_Drain_18 (n := 31) rfl d_Drain_run_28 g2 rfl ?_
  refine pv_iload_n (n := 32) d_Drain_run_31 rfl rfl rfl ?_
  refine pv_isub (n := 33) d_Drain_run_32 rfl ?_
  refine pt_Drain_18 (n := 36) rfl d_Drain_run_33 g2 rfl (fun w6 e7 => ?_)
  replace h := h w6 e7
  refine pv_aload_n (n := 37) d_Drain_run_36 rfl rfl rfl ?_
  refine gt_Drain_15 (n := 40) rfl d_Drain_run_37 g1 rfl ?_
  refine pv_dup (n := 41) d_Drain_run_40 (by decide) rfl ?_
  obtain ⟨g8, h⟩ := h
  refine gt_Drain_18 (n := 44) rfl d_Drain_run_41 g8 rfl ?_
  refine pv_iload_n (n := 45) d_Drain_run_44 rfl rfl rfl ?_
  refine pv_iadd (n := 46) d_Drain_run_45 rfl ?_
  refine pt_Drain_18 (n := 49) rfl d_Drain_run_46 g8 rfl (fun w9 e10 => ?_)
  replace h := h w9 e10
  exact pv_vret rfl rfl d_Drain_run_49 h
set_option maxHeartbeats 4000000 in
set_option maxRecDepth 20000 in
theorem con_Drain_run {l : Launch} {g : pw_G} {Q : pw_W → Int32 → Prop} {X : pw_W → Nat → Prop} (hl0 : l.stackTraces = false) {w : pw_W} {a0 : Int32} (h : wp_Drain_run w a0 Q X) : pw_Con l g y_Drain_run cx_Drain_run [(3, a0)] w Q X :=
  pw_con (by decide +kernel) rfl rfl hl0 rfl (Nat.le_of_ble_eq_true rfl) (by simp) (vw_Drain_run hl0 h)
theorem d_X_runDrains_0 : decode (pw_cc cx_X_runDrains) 0 = .ok (.iconst 0, 1) := by decide +kernel
theorem d_X_runDrains_1 : decode (pw_cc cx_X_runDrains) 1 = .ok (.istore_n 1, 1) := by decide +kernel
theorem d_X_runDrains_2 : decode (pw_cc cx_X_runDrains) 2 = .ok (.iload_n 1, 1) := by decide +kernel
theorem d_X_runDrains_3 : decode (pw_cc cx_X_runDrains) 3 = .ok (.aload_n 0, 1) := by decide +kernel
theorem d_X_runDrains_4 : decode (pw_cc cx_X_runDrains) 4 = .ok (.getfield 37, 3) := by decide +kernel
theorem d_X_runDrains_7 : decode (pw_cc cx_X_runDrains) 7 = .ok (.invokeinterface 88 1, 5) := by decide +kernel
theorem d_X_runDrains_12 : decode (pw_cc cx_X_runDrains) 12 = .ok (.if_icmp .ge 25, 3) := by decide +kernel
theorem d_X_runDrains_15 : decode (pw_cc cx_X_runDrains) 15 = .ok (.aload_n 0, 1) := by decide +kernel
theorem d_X_runDrains_16 : decode (pw_cc cx_X_runDrains) 16 = .ok (.getfield 37, 3) := by decide +kernel
theorem d_X_runDrains_19 : decode (pw_cc cx_X_runDrains) 19 = .ok (.iload_n 1, 1) := by decide +kernel
theorem d_X_runDrains_20 : decode (pw_cc cx_X_runDrains) 20 = .ok (.invokeinterface 382 2, 5) := by decide +kernel
theorem d_X_runDrains_25 : decode (pw_cc cx_X_runDrains) 25 = .ok (.checkcast 261, 3) := by decide +kernel
theorem d_X_runDrains_28 : decode (pw_cc cx_X_runDrains) 28 = .ok (.invokevirtual 465, 3) := by decide +kernel
theorem d_X_runDrains_31 : decode (pw_cc cx_X_runDrains) 31 = .ok (.iinc 1 1, 3) := by decide +kernel
theorem d_X_runDrains_34 : decode (pw_cc cx_X_runDrains) 34 = .ok (.goto (-32), 3) := by decide +kernel
theorem d_X_runDrains_37 : decode (pw_cc cx_X_runDrains) 37 = .ok (.return_, 1) := by decide +kernel
set_option maxHeartbeats 4000000 in
set_option maxRecDepth 20000 in
def lp_X_runDrains_2 (Q : pw_W → Int32 → Prop) (X : pw_W → Nat → Prop) : Nat → Int32 → pw_W → Prop := fun k => Nat.rec (motive := fun _ => Int32 → pw_W → Prop) (fun _ _ => False) (fun _ ih a1 w => w.1 7 0 6 = 0 ∧ ((nI (pw_ln w 21 0)) ≤ a1 → Q w 0) ∧ (¬ (nI (pw_ln w 21 0)) ≤ a1 → w.1 7 0 6 = 0 ∧ pw_jn a1 (pw_ln w 21 0) ∧ 0 ≤ (w.1 21 0 (pw_i a1)) ∧ wp_Drain_run w (w.1 21 0 (pw_i a1)) (fun w5 r6 => ih (a1 + 1) w5) (fun _ _ => False))) k
set_option maxHeartbeats 4000000 in
set_option maxRecDepth 20000 in
theorem lp_X_runDrains_2_s {Q : pw_W → Int32 → Prop} {X : pw_W → Nat → Prop}  {k : Nat} {a1 : Int32} {w : pw_W} : lp_X_runDrains_2 Q X (k + 1) a1 w = (let ih := lp_X_runDrains_2 Q X k; w.1 7 0 6 = 0 ∧ ((nI (pw_ln w 21 0)) ≤ a1 → Q w 0) ∧ (¬ (nI (pw_ln w 21 0)) ≤ a1 → w.1 7 0 6 = 0 ∧ pw_jn a1 (pw_ln w 21 0) ∧ 0 ≤ (w.1 21 0 (pw_i a1)) ∧ wp_Drain_run w (w.1 21 0 (pw_i a1)) (fun w5 r6 => ih (a1 + 1) w5) (fun _ _ => False))) := rfl
set_option maxHeartbeats 4000000 in
set_option maxRecDepth 20000 in
theorem vlp_X_runDrains_2 {l : Launch} {g : pw_G} {Q : pw_W → Int32 → Prop} {X : pw_W → Nat → Prop} (hl0 : l.stackTraces = false) : ∀ (k : Nat) (a1 : Int32) (w : pw_W), lp_X_runDrains_2 Q X k a1 w → pw_V l g cx_X_runDrains Q X 2 [(9, 0), (0, a1)] [] w := by
  intro k; induction k with
  | zero => intro _ _ h; exact h.elim
  | succ k ih =>
    intro a1 w h
    rw [lp_X_runDrains_2_s] at h
    refine pv_iload_n (n := 3) d_X_runDrains_2 rfl rfl rfl ?_
    refine pv_aload_n (n := 4) d_X_runDrains_3 rfl rfl rfl ?_
    obtain ⟨g1, h⟩ := h
    refine gt_X_37 (n := 7) rfl d_X_runDrains_4 (by decide) g1 rfl ?_
    refine pv_lsize (n := 12) (f := 21) (by decide) q_49 (by decide) rfl d_X_runDrains_7 (by decide) rfl ?_
    refine pv_icmp_ge (n := 15) (tgt := 37) d_X_runDrains_12 (by decide) rfl (fun c2 => ?_) (fun c2 => ?_)
    · replace h := h.1 c2
      exact pv_vret rfl rfl d_X_runDrains_37 h
    · replace h := h.2 c2
      refine pv_aload_n (n := 16) d_X_runDrains_15 rfl rfl rfl ?_
      obtain ⟨g3, h⟩ := h
      refine gt_X_37 (n := 19) rfl d_X_runDrains_16 (by decide) g3 rfl ?_
      refine pv_iload_n (n := 20) d_X_runDrains_19 rfl rfl rfl ?_
      obtain ⟨g4, h⟩ := h
      refine pv_lget (n := 25) (f := 21) (F := 1) (by decide) rfl q_52 (by decide) rfl d_X_runDrains_20 (by decide) g4 rfl (fun _ => ?_)
      refine pv_cast (n := 28) pw_cf1 q_276 d_X_runDrains_25 rfl ?_
      obtain ⟨g7, h⟩ := h
      refine pv_callV (n := 31) (x := (w.1 21 0 (pw_i a1))) [] [] (con_Drain_run hl0 h) pw_cf1 rfl q_330 q_331 q_332 q_284 q_329 pyo_Drain_run (by decide) rfl rfl g7 d_X_runDrains_28 rfl (fun w5 r6 h _ => ?_) (fun _ _ h => h.elim)
      show pw_V l g cx_X_runDrains Q X 31 [(9, 0), (0, a1)] [] w5
      refine pv_iinc (v := (a1 + 1)) (n := 34) (L1 := [(9, 0), (0, (a1 + 1))]) d_X_runDrains_31 rfl rfl rfl (by decide) rfl ?_
      refine pv_goto (tgt := 2) d_X_runDrains_34 (by decide) ?_
      exact ih _ _ h
set_option maxHeartbeats 4000000 in
set_option maxRecDepth 20000 in
def wp_X_runDrains (w : pw_W) (Q : pw_W → Int32 → Prop) (X : pw_W → Nat → Prop) : Prop := ∃ k8, lp_X_runDrains_2 Q X k8 0 w
set_option maxHeartbeats 4000000 in
set_option maxRecDepth 20000 in
theorem vw_X_runDrains {l : Launch} {g : pw_G} {Q : pw_W → Int32 → Prop} {X : pw_W → Nat → Prop} (hl0 : l.stackTraces = false) {w : pw_W} (h : wp_X_runDrains w Q X) : pw_V l g cx_X_runDrains Q X 0 [(9, 0), (1, 0)] [] w := by
  unfold wp_X_runDrains at h
  refine pv_iconst (v := 0) (n := 1) d_X_runDrains_0 (by decide) rfl ?_
  refine pv_istore_n (n := 2) (L' := [(9, 0), (0, 0)]) d_X_runDrains_1 rfl (by decide) rfl rfl ?_
  obtain ⟨k8, h⟩ := h
  exact vlp_X_runDrains_2 hl0 _ _ _ h
set_option maxHeartbeats 4000000 in
set_option maxRecDepth 20000 in
theorem con_X_runDrains {l : Launch} {g : pw_G} {Q : pw_W → Int32 → Prop} {X : pw_W → Nat → Prop} (hl0 : l.stackTraces = false) {w : pw_W} (h : wp_X_runDrains w Q X) : pw_Con l g y_X_runDrains cx_X_runDrains [(9, 0)] w Q X :=
  pw_con (by decide +kernel) rfl rfl hl0 rfl (Nat.le_of_ble_eq_true rfl) (by simp) (vw_X_runDrains hl0 h)
theorem d_X_treadLowestSquare_0 : decode (pw_cc cx_X_treadLowestSquare) 0 = .ok (.aload_n 0, 1) := by decide +kernel
theorem d_X_treadLowestSquare_1 : decode (pw_cc cx_X_treadLowestSquare) 1 = .ok (.getfield 11, 3) := by decide +kernel
theorem d_X_treadLowestSquare_4 : decode (pw_cc cx_X_treadLowestSquare) 4 = .ok (.astore_n 2, 1) := by decide +kernel
theorem d_X_treadLowestSquare_5 : decode (pw_cc cx_X_treadLowestSquare) 5 = .ok (.aload_n 2, 1) := by decide +kernel
theorem d_X_treadLowestSquare_6 : decode (pw_cc cx_X_treadLowestSquare) 6 = .ok (.arraylength, 1) := by decide +kernel
theorem d_X_treadLowestSquare_7 : decode (pw_cc cx_X_treadLowestSquare) 7 = .ok (.istore_n 3, 1) := by decide +kernel
theorem d_X_treadLowestSquare_8 : decode (pw_cc cx_X_treadLowestSquare) 8 = .ok (.iconst 0, 1) := by decide +kernel
theorem d_X_treadLowestSquare_9 : decode (pw_cc cx_X_treadLowestSquare) 9 = .ok (.istore 4, 2) := by decide +kernel
theorem d_X_treadLowestSquare_11 : decode (pw_cc cx_X_treadLowestSquare) 11 = .ok (.iload 4, 2) := by decide +kernel
theorem d_X_treadLowestSquare_13 : decode (pw_cc cx_X_treadLowestSquare) 13 = .ok (.iload_n 3, 1) := by decide +kernel
theorem d_X_treadLowestSquare_14 : decode (pw_cc cx_X_treadLowestSquare) 14 = .ok (.if_icmp .ge 44, 3) := by decide +kernel
theorem d_X_treadLowestSquare_17 : decode (pw_cc cx_X_treadLowestSquare) 17 = .ok (.aload_n 2, 1) := by decide +kernel
theorem d_X_treadLowestSquare_18 : decode (pw_cc cx_X_treadLowestSquare) 18 = .ok (.iload 4, 2) := by decide +kernel
theorem d_X_treadLowestSquare_20 : decode (pw_cc cx_X_treadLowestSquare) 20 = .ok (.aaload, 1) := by decide +kernel
theorem d_X_treadLowestSquare_21 : decode (pw_cc cx_X_treadLowestSquare) 21 = .ok (.astore 5, 2) := by decide +kernel
theorem d_X_treadLowestSquare_23 : decode (pw_cc cx_X_treadLowestSquare) 23 = .ok (.aload 5, 2) := by decide +kernel
theorem d_X_treadLowestSquare_25 : decode (pw_cc cx_X_treadLowestSquare) 25 = .ok (.getfield 104, 3) := by decide +kernel
theorem d_X_treadLowestSquare_28 : decode (pw_cc cx_X_treadLowestSquare) 28 = .ok (.aload_n 1, 1) := by decide +kernel
theorem d_X_treadLowestSquare_29 : decode (pw_cc cx_X_treadLowestSquare) 29 = .ok (.if_acmp .ne 23, 3) := by decide +kernel
theorem d_X_treadLowestSquare_32 : decode (pw_cc cx_X_treadLowestSquare) 32 = .ok (.aload 5, 2) := by decide +kernel
theorem d_X_treadLowestSquare_34 : decode (pw_cc cx_X_treadLowestSquare) 34 = .ok (.getfield 278, 3) := by decide +kernel
theorem d_X_treadLowestSquare_37 : decode (pw_cc cx_X_treadLowestSquare) 37 = .ok (.ifCond .le 15, 3) := by decide +kernel
theorem d_X_treadLowestSquare_40 : decode (pw_cc cx_X_treadLowestSquare) 40 = .ok (.aload 5, 2) := by decide +kernel
theorem d_X_treadLowestSquare_42 : decode (pw_cc cx_X_treadLowestSquare) 42 = .ok (.dup, 1) := by decide +kernel
theorem d_X_treadLowestSquare_43 : decode (pw_cc cx_X_treadLowestSquare) 43 = .ok (.getfield 278, 3) := by decide +kernel
theorem d_X_treadLowestSquare_46 : decode (pw_cc cx_X_treadLowestSquare) 46 = .ok (.iconst 1, 1) := by decide +kernel
theorem d_X_treadLowestSquare_47 : decode (pw_cc cx_X_treadLowestSquare) 47 = .ok (.isub, 1) := by decide +kernel
theorem d_X_treadLowestSquare_48 : decode (pw_cc cx_X_treadLowestSquare) 48 = .ok (.putfield 278, 3) := by decide +kernel
theorem d_X_treadLowestSquare_51 : decode (pw_cc cx_X_treadLowestSquare) 51 = .ok (.return_, 1) := by decide +kernel
theorem d_X_treadLowestSquare_52 : decode (pw_cc cx_X_treadLowestSquare) 52 = .ok (.iinc 4 1, 3) := by decide +kernel
theorem d_X_treadLowestSquare_55 : decode (pw_cc cx_X_treadLowestSquare) 55 = .ok (.goto (-44), 3) := by decide +kernel
theorem d_X_treadLowestSquare_58 : decode (pw_cc cx_X_treadLowestSquare) 58 = .ok (.return_, 1) := by decide +kernel
set_option maxHeartbeats 4000000 in
set_option maxRecDepth 20000 in
def lp_X_treadLowestSquare_11 (Q : pw_W → Int32 → Prop) (X : pw_W → Nat → Prop) : Nat → Int32 → Int32 → Int32 → pw_W → Prop := fun k => Nat.rec (motive := fun _ => Int32 → Int32 → Int32 → pw_W → Prop) (fun _ _ _ _ => False) (fun _ ih a1 a3 a4 w => (a3 ≤ a4 → Q w 0) ∧ (¬ a3 ≤ a4 → pw_jn a4 (pw_ln w 14 0) ∧ ∀ v3, v3 = (w.1 14 0 (pw_i a4)) → 0 ≤ v3 ∧ (¬ (w.1 6 (pw_i v3) 1) = a1 → ih a1 a3 (a4 + 1) w) ∧ ((w.1 6 (pw_i v3) 1) = a1 → ((w.1 6 (pw_i v3) 4) ≤ 0 → ih a1 a3 (a4 + 1) w) ∧ (¬ (w.1 6 (pw_i v3) 4) ≤ 0 → ∀ w8, w8 = pw_ps w 6 (pw_i v3) 4 ((w.1 6 (pw_i v3) 4) - 1) → Q w8 0)))) k
set_option maxHeartbeats 4000000 in
set_option maxRecDepth 20000 in
theorem lp_X_treadLowestSquare_11_s {Q : pw_W → Int32 → Prop} {X : pw_W → Nat → Prop}  {k : Nat} {a1 a3 a4 : Int32} {w : pw_W} : lp_X_treadLowestSquare_11 Q X (k + 1) a1 a3 a4 w = (let ih := lp_X_treadLowestSquare_11 Q X k; (a3 ≤ a4 → Q w 0) ∧ (¬ a3 ≤ a4 → pw_jn a4 (pw_ln w 14 0) ∧ ∀ v3, v3 = (w.1 14 0 (pw_i a4)) → 0 ≤ v3 ∧ (¬ (w.1 6 (pw_i v3) 1) = a1 → ih a1 a3 (a4 + 1) w) ∧ ((w.1 6 (pw_i v3) 1) = a1 → ((w.1 6 (pw_i v3) 4) ≤ 0 → ih a1 a3 (a4 + 1) w) ∧ (¬ (w.1 6 (pw_i v3) 4) ≤ 0 → ∀ w8, w8 = pw_ps w 6 (pw_i v3) 4 ((w.1 6 (pw_i v3) 4) - 1) → Q w8 0)))) := rfl
set_option maxHeartbeats 4000000 in
set_option maxRecDepth 20000 in
theorem vlp_X_treadLowestSquare_11 {l : Launch} {g : pw_G} {Q : pw_W → Int32 → Prop} {X : pw_W → Nat → Prop} (hl0 : l.stackTraces = false) : ∀ (k : Nat) (a1 a3 a4 : Int32) (w : pw_W), lp_X_treadLowestSquare_11 Q X k a1 a3 a4 w → pw_V l g cx_X_treadLowestSquare Q X 11 [(1, 0), (5, a1), (16, 0), (0, a3), (0, a4), (1, 0)] [] w := by
  intro k; induction k with
  | zero => intro _ _ _ _ h; exact h.elim
  | succ k ih =>
    intro a1 a3 a4 w h
    rw [lp_X_treadLowestSquare_11_s] at h
    refine pv_iload (n := 13) d_X_treadLowestSquare_11 rfl rfl ?_
    refine pv_iload_n (n := 14) d_X_treadLowestSquare_13 rfl rfl rfl ?_
    refine pv_icmp_ge (n := 17) (tgt := 58) d_X_treadLowestSquare_14 (by decide) rfl (fun c1 => ?_) (fun c1 => ?_)
    · replace h := h.1 c1
      exact pv_vret rfl rfl d_X_treadLowestSquare_58 h
    · replace h := h.2 c1
      refine pv_aload_n (n := 18) d_X_treadLowestSquare_17 rfl rfl rfl ?_
      refine pv_iload (n := 20) d_X_treadLowestSquare_18 rfl rfl ?_
      obtain ⟨g2, h⟩ := h
      refine pv_aald (n := 21) (f := 14) (F := 6) (C := "Peatland$Square") (by decide) (Or.inl ⟨rfl, rfl⟩) (fun _ => rfl) d_X_treadLowestSquare_20 (by decide) g2 rfl (fun _ => ?_)
      refine pv_nm (fun v3 e4 => ?_)
      replace h := h v3 e4
      refine pv_astore (n := 23) (L' := [(1, 0), (5, a1), (16, 0), (0, a3), (0, a4), (8, v3)]) d_X_treadLowestSquare_21 (by decide) rfl rfl ?_
      refine pv_aload (n := 25) d_X_treadLowestSquare_23 rfl rfl ?_
      obtain ⟨g5, h⟩ := h
      refine gt_X_104 (n := 28) rfl d_X_treadLowestSquare_25 g5 rfl ?_
      refine pv_aload_n (n := 29) d_X_treadLowestSquare_28 rfl rfl rfl ?_
      refine pv_acmp_ne (n := 32) (tgt := 52) d_X_treadLowestSquare_29 (by decide) (by decide) rfl (fun c6 => ?_) (fun c6 => ?_)
      · replace h := h.1 c6
        refine pv_iinc (v := (a4 + 1)) (n := 55) (L1 := [(1, 0), (5, a1), (16, 0), (0, a3), (0, (a4 + 1)), (8, v3)]) d_X_treadLowestSquare_52 rfl rfl rfl (by decide) rfl ?_
        refine pv_goto (tgt := 11) d_X_treadLowestSquare_55 (by decide) ?_
        refine pv_unset (i := 5) (L1 := [(1, 0), (5, a1), (16, 0), (0, a3), (0, (a4 + 1)), (1, 0)]) rfl ?_
        exact ih _ _ _ _ h
      · replace h := h.2 c6
        refine pv_aload (n := 34) d_X_treadLowestSquare_32 rfl rfl ?_
        refine gt_X_278 (n := 37) rfl d_X_treadLowestSquare_34 g5 rfl ?_
        refine pv_if_le (n := 40) (tgt := 52) d_X_treadLowestSquare_37 (by decide) rfl (fun c7 => ?_) (fun c7 => ?_)
        · replace h := h.1 c7
          refine pv_iinc (v := (a4 + 1)) (n := 55) (L1 := [(1, 0), (5, a1), (16, 0), (0, a3), (0, (a4 + 1)), (8, v3)]) d_X_treadLowestSquare_52 rfl rfl rfl (by decide) rfl ?_
          refine pv_goto (tgt := 11) d_X_treadLowestSquare_55 (by decide) ?_
          refine pv_unset (i := 5) (L1 := [(1, 0), (5, a1), (16, 0), (0, a3), (0, (a4 + 1)), (1, 0)]) rfl ?_
          exact ih _ _ _ _ h
        · replace h := h.2 c7
          refine pv_aload (n := 42) d_X_treadLowestSquare_40 rfl rfl ?_
          refine pv_dup (n := 43) d_X_treadLowestSquare_42 (by decide) rfl ?_
          refine gt_X_278 (n := 46) rfl d_X_treadLowestSquare_43 g5 rfl ?_
          refine pv_iconst (v := 1) (n := 47) d_X_treadLowestSquare_46 (by decide) rfl ?_
          refine pv_isub (n := 48) d_X_treadLowestSquare_47 rfl ?_
          refine pt_X_278 (n := 51) rfl d_X_treadLowestSquare_48 g5 rfl (fun w8 e9 => ?_)
          replace h := h w8 e9
          exact pv_vret rfl rfl d_X_treadLowestSquare_51 h
set_option maxHeartbeats 4000000 in
set_option maxRecDepth 20000 in
def wp_X_treadLowestSquare (w : pw_W) (a1 : Int32) (Q : pw_W → Int32 → Prop) (X : pw_W → Nat → Prop) : Prop := w.1 7 0 0 = 0 ∧ ∀ v11, v11 = (nI (pw_ln w 14 0)) → ∃ k13, lp_X_treadLowestSquare_11 Q X k13 a1 v11 0 w
set_option maxHeartbeats 4000000 in
set_option maxRecDepth 20000 in
theorem vw_X_treadLowestSquare {l : Launch} {g : pw_G} {Q : pw_W → Int32 → Prop} {X : pw_W → Nat → Prop} (hl0 : l.stackTraces = false) {w : pw_W} {a1 : Int32} (h : wp_X_treadLowestSquare w a1 Q X) : pw_V l g cx_X_treadLowestSquare Q X 0 [(9, 0), (5, a1), (1, 0), (1, 0), (1, 0), (1, 0)] [] w := by
  unfold wp_X_treadLowestSquare at h
  refine pv_aload_n (n := 1) d_X_treadLowestSquare_0 rfl rfl rfl ?_
  obtain ⟨g10, h⟩ := h
  refine gt_X_11 (n := 4) rfl d_X_treadLowestSquare_1 (by decide) g10 rfl ?_
  refine pv_astore_n (n := 5) (L' := [(9, 0), (5, a1), (16, 0), (1, 0), (1, 0), (1, 0)]) d_X_treadLowestSquare_4 rfl (by decide) rfl rfl ?_
  refine pv_aload_n (n := 6) d_X_treadLowestSquare_5 rfl rfl rfl ?_
  refine pv_alen (n := 7) (f := 14) (by decide) ⟨_, rfl⟩ d_X_treadLowestSquare_6 (by decide) rfl ?_
  refine pv_nm (fun v11 e12 => ?_)
  replace h := h v11 e12
  refine pv_istore_n (n := 8) (L' := [(9, 0), (5, a1), (16, 0), (0, v11), (1, 0), (1, 0)]) d_X_treadLowestSquare_7 rfl (by decide) rfl rfl ?_
  refine pv_iconst (v := 0) (n := 9) d_X_treadLowestSquare_8 (by decide) rfl ?_
  refine pv_istore (n := 11) (L' := [(9, 0), (5, a1), (16, 0), (0, v11), (0, 0), (1, 0)]) d_X_treadLowestSquare_9 (by decide) rfl rfl ?_
  refine pv_unset (i := 0) (L1 := [(1, 0), (5, a1), (16, 0), (0, v11), (0, 0), (1, 0)]) rfl ?_
  obtain ⟨k13, h⟩ := h
  exact vlp_X_treadLowestSquare_11 hl0 _ _ _ _ _ h
set_option maxHeartbeats 4000000 in
set_option maxRecDepth 20000 in
theorem con_X_treadLowestSquare {l : Launch} {g : pw_G} {Q : pw_W → Int32 → Prop} {X : pw_W → Nat → Prop} (hl0 : l.stackTraces = false) {w : pw_W} {a1 : Int32} (h : wp_X_treadLowestSquare w a1 Q X) : pw_Con l g y_X_treadLowestSquare cx_X_treadLowestSquare [(9, 0), (5, a1)] w Q X :=
  pw_con (by decide +kernel) rfl rfl hl0 rfl (Nat.le_of_ble_eq_true rfl) (by simp) (vw_X_treadLowestSquare hl0 h)
theorem d_X_treadCrowdedParcels_0 : decode (pw_cc cx_X_treadCrowdedParcels) 0 = .ok (.iconst 0, 1) := by decide +kernel
theorem d_X_treadCrowdedParcels_1 : decode (pw_cc cx_X_treadCrowdedParcels) 1 = .ok (.istore_n 1, 1) := by decide +kernel
theorem d_X_treadCrowdedParcels_2 : decode (pw_cc cx_X_treadCrowdedParcels) 2 = .ok (.iload_n 1, 1) := by decide +kernel
theorem d_X_treadCrowdedParcels_3 : decode (pw_cc cx_X_treadCrowdedParcels) 3 = .ok (.aload_n 0, 1) := by decide +kernel
theorem d_X_treadCrowdedParcels_4 : decode (pw_cc cx_X_treadCrowdedParcels) 4 = .ok (.getfield 24, 3) := by decide +kernel
theorem d_X_treadCrowdedParcels_7 : decode (pw_cc cx_X_treadCrowdedParcels) 7 = .ok (.invokeinterface 88 1, 5) := by decide +kernel
theorem d_X_treadCrowdedParcels_12 : decode (pw_cc cx_X_treadCrowdedParcels) 12 = .ok (.if_icmp .ge 39, 3) := by decide +kernel
theorem d_X_treadCrowdedParcels_15 : decode (pw_cc cx_X_treadCrowdedParcels) 15 = .ok (.aload_n 0, 1) := by decide +kernel
theorem d_X_treadCrowdedParcels_16 : decode (pw_cc cx_X_treadCrowdedParcels) 16 = .ok (.getfield 24, 3) := by decide +kernel
theorem d_X_treadCrowdedParcels_19 : decode (pw_cc cx_X_treadCrowdedParcels) 19 = .ok (.iload_n 1, 1) := by decide +kernel
theorem d_X_treadCrowdedParcels_20 : decode (pw_cc cx_X_treadCrowdedParcels) 20 = .ok (.invokeinterface 382 2, 5) := by decide +kernel
theorem d_X_treadCrowdedParcels_25 : decode (pw_cc cx_X_treadCrowdedParcels) 25 = .ok (.checkcast 40, 3) := by decide +kernel
theorem d_X_treadCrowdedParcels_28 : decode (pw_cc cx_X_treadCrowdedParcels) 28 = .ok (.astore_n 2, 1) := by decide +kernel
theorem d_X_treadCrowdedParcels_29 : decode (pw_cc cx_X_treadCrowdedParcels) 29 = .ok (.aload_n 2, 1) := by decide +kernel
theorem d_X_treadCrowdedParcels_30 : decode (pw_cc cx_X_treadCrowdedParcels) 30 = .ok (.getfield 468, 3) := by decide +kernel
theorem d_X_treadCrowdedParcels_33 : decode (pw_cc cx_X_treadCrowdedParcels) 33 = .ok (.aload_n 2, 1) := by decide +kernel
theorem d_X_treadCrowdedParcels_34 : decode (pw_cc cx_X_treadCrowdedParcels) 34 = .ok (.invokevirtual 429, 3) := by decide +kernel
theorem d_X_treadCrowdedParcels_37 : decode (pw_cc cx_X_treadCrowdedParcels) 37 = .ok (.if_icmp .le 8, 3) := by decide +kernel
theorem d_X_treadCrowdedParcels_40 : decode (pw_cc cx_X_treadCrowdedParcels) 40 = .ok (.aload_n 0, 1) := by decide +kernel
theorem d_X_treadCrowdedParcels_41 : decode (pw_cc cx_X_treadCrowdedParcels) 41 = .ok (.aload_n 2, 1) := by decide +kernel
theorem d_X_treadCrowdedParcels_42 : decode (pw_cc cx_X_treadCrowdedParcels) 42 = .ok (.invokevirtual 471, 3) := by decide +kernel
theorem d_X_treadCrowdedParcels_45 : decode (pw_cc cx_X_treadCrowdedParcels) 45 = .ok (.iinc 1 1, 3) := by decide +kernel
theorem d_X_treadCrowdedParcels_48 : decode (pw_cc cx_X_treadCrowdedParcels) 48 = .ok (.goto (-46), 3) := by decide +kernel
theorem d_X_treadCrowdedParcels_51 : decode (pw_cc cx_X_treadCrowdedParcels) 51 = .ok (.return_, 1) := by decide +kernel
set_option maxHeartbeats 4000000 in
set_option maxRecDepth 20000 in
def lp_X_treadCrowdedParcels_2 (Q : pw_W → Int32 → Prop) (X : pw_W → Nat → Prop) : Nat → Int32 → pw_W → Prop := fun k => Nat.rec (motive := fun _ => Int32 → pw_W → Prop) (fun _ _ => False) (fun _ ih a1 w => w.1 7 0 2 = 0 ∧ ((nI (pw_ln w 23 0)) ≤ a1 → Q w 0) ∧ (¬ (nI (pw_ln w 23 0)) ≤ a1 → w.1 7 0 2 = 0 ∧ pw_jn a1 (pw_ln w 23 0) ∧ ∀ v5, v5 = (w.1 23 0 (pw_i a1)) → 0 ≤ v5 ∧ wp_Parcel_room w v5 (fun w8 r9 => ((w.1 3 (pw_i v5) 5) ≤ r9 → ih (a1 + 1) w8) ∧ (¬ (w.1 3 (pw_i v5) 5) ≤ r9 → wp_X_treadLowestSquare w8 v5 (fun w11 r12 => ih (a1 + 1) w11) (fun _ _ => False))) (fun _ _ => False))) k
set_option maxHeartbeats 4000000 in
set_option maxRecDepth 20000 in
theorem lp_X_treadCrowdedParcels_2_s {Q : pw_W → Int32 → Prop} {X : pw_W → Nat → Prop}  {k : Nat} {a1 : Int32} {w : pw_W} : lp_X_treadCrowdedParcels_2 Q X (k + 1) a1 w = (let ih := lp_X_treadCrowdedParcels_2 Q X k; w.1 7 0 2 = 0 ∧ ((nI (pw_ln w 23 0)) ≤ a1 → Q w 0) ∧ (¬ (nI (pw_ln w 23 0)) ≤ a1 → w.1 7 0 2 = 0 ∧ pw_jn a1 (pw_ln w 23 0) ∧ ∀ v5, v5 = (w.1 23 0 (pw_i a1)) → 0 ≤ v5 ∧ wp_Parcel_room w v5 (fun w8 r9 => ((w.1 3 (pw_i v5) 5) ≤ r9 → ih (a1 + 1) w8) ∧ (¬ (w.1 3 (pw_i v5) 5) ≤ r9 → wp_X_treadLowestSquare w8 v5 (fun w11 r12 => ih (a1 + 1) w11) (fun _ _ => False))) (fun _ _ => False))) := rfl
set_option maxHeartbeats 4000000 in
set_option maxRecDepth 20000 in
theorem vlp_X_treadCrowdedParcels_2 {l : Launch} {g : pw_G} {Q : pw_W → Int32 → Prop} {X : pw_W → Nat → Prop} (hl0 : l.stackTraces = false) : ∀ (k : Nat) (a1 : Int32) (w : pw_W), lp_X_treadCrowdedParcels_2 Q X k a1 w → pw_V l g cx_X_treadCrowdedParcels Q X 2 [(9, 0), (0, a1), (1, 0)] [] w := by
  intro k; induction k with
  | zero => intro _ _ h; exact h.elim
  | succ k ih =>
    intro a1 w h
    rw [lp_X_treadCrowdedParcels_2_s] at h
    refine pv_iload_n (n := 3) d_X_treadCrowdedParcels_2 rfl rfl rfl ?_
    refine pv_aload_n (n := 4) d_X_treadCrowdedParcels_3 rfl rfl rfl ?_
    obtain ⟨g1, h⟩ := h
    refine gt_X_24 (n := 7) rfl d_X_treadCrowdedParcels_4 (by decide) g1 rfl ?_
    refine pv_lsize (n := 12) (f := 23) (by decide) q_49 (by decide) rfl d_X_treadCrowdedParcels_7 (by decide) rfl ?_
    refine pv_icmp_ge (n := 15) (tgt := 51) d_X_treadCrowdedParcels_12 (by decide) rfl (fun c2 => ?_) (fun c2 => ?_)
    · replace h := h.1 c2
      exact pv_vret rfl rfl d_X_treadCrowdedParcels_51 h
    · replace h := h.2 c2
      refine pv_aload_n (n := 16) d_X_treadCrowdedParcels_15 rfl rfl rfl ?_
      obtain ⟨g3, h⟩ := h
      refine gt_X_24 (n := 19) rfl d_X_treadCrowdedParcels_16 (by decide) g3 rfl ?_
      refine pv_iload_n (n := 20) d_X_treadCrowdedParcels_19 rfl rfl rfl ?_
      obtain ⟨g4, h⟩ := h
      refine pv_lget (n := 25) (f := 23) (F := 3) (by decide) rfl q_52 (by decide) rfl d_X_treadCrowdedParcels_20 (by decide) g4 rfl (fun _ => ?_)
      refine pv_cast (n := 28) pw_cf3 q_43 d_X_treadCrowdedParcels_25 rfl ?_
      refine pv_nm (fun v5 e6 => ?_)
      replace h := h v5 e6
      refine pv_astore_n (n := 29) (L' := [(9, 0), (0, a1), (5, v5)]) d_X_treadCrowdedParcels_28 rfl (by decide) rfl rfl ?_
      refine pv_aload_n (n := 30) d_X_treadCrowdedParcels_29 rfl rfl rfl ?_
      obtain ⟨g7, h⟩ := h
      refine gt_X_468 (n := 33) rfl d_X_treadCrowdedParcels_30 g7 rfl ?_
      refine pv_aload_n (n := 34) d_X_treadCrowdedParcels_33 rfl rfl rfl ?_
      refine pv_callV (n := 37) (x := v5) [] [(0, (w.1 3 (pw_i v5) 5))] (con_Parcel_room hl0 h) pw_cf3 rfl q_257 q_258 q_259 q_46 q_256 pyo_Parcel_room (by decide) rfl rfl g7 d_X_treadCrowdedParcels_34 rfl (fun w8 r9 h _ => ?_) (fun _ _ h => h.elim)
      show pw_V l g cx_X_treadCrowdedParcels Q X 37 [(9, 0), (0, a1), (5, v5)] [(0, r9), (0, (w.1 3 (pw_i v5) 5))] w8
      refine pv_icmp_le (n := 40) (tgt := 45) d_X_treadCrowdedParcels_37 (by decide) rfl (fun c10 => ?_) (fun c10 => ?_)
      · replace h := h.1 c10
        refine pv_iinc (v := (a1 + 1)) (n := 48) (L1 := [(9, 0), (0, (a1 + 1)), (5, v5)]) d_X_treadCrowdedParcels_45 rfl rfl rfl (by decide) rfl ?_
        refine pv_goto (tgt := 2) d_X_treadCrowdedParcels_48 (by decide) ?_
        refine pv_unset (i := 2) (L1 := [(9, 0), (0, (a1 + 1)), (1, 0)]) rfl ?_
        exact ih _ _ h
      · replace h := h.2 c10
        refine pv_aload_n (n := 41) d_X_treadCrowdedParcels_40 rfl rfl rfl ?_
        refine pv_aload_n (n := 42) d_X_treadCrowdedParcels_41 rfl rfl rfl ?_
        refine pv_callV (n := 45) (x := 0) [(5, v5)] [] (con_X_treadLowestSquare hl0 h) pw_cf7 rfl q_335 q_336 q_337 q_62 q_334 pyo_X_treadLowestSquare (by decide) rfl rfl (by decide) d_X_treadCrowdedParcels_42 rfl (fun w11 r12 h _ => ?_) (fun _ _ h => h.elim)
        show pw_V l g cx_X_treadCrowdedParcels Q X 45 [(9, 0), (0, a1), (5, v5)] [] w11
        refine pv_iinc (v := (a1 + 1)) (n := 48) (L1 := [(9, 0), (0, (a1 + 1)), (5, v5)]) d_X_treadCrowdedParcels_45 rfl rfl rfl (by decide) rfl ?_
        refine pv_goto (tgt := 2) d_X_treadCrowdedParcels_48 (by decide) ?_
        refine pv_unset (i := 2) (L1 := [(9, 0), (0, (a1 + 1)), (1, 0)]) rfl ?_
        exact ih _ _ h
set_option maxHeartbeats 4000000 in
set_option maxRecDepth 20000 in
def wp_X_treadCrowdedParcels (w : pw_W) (Q : pw_W → Int32 → Prop) (X : pw_W → Nat → Prop) : Prop := ∃ k13, lp_X_treadCrowdedParcels_2 Q X k13 0 w
set_option maxHeartbeats 4000000 in
set_option maxRecDepth 20000 in
theorem vw_X_treadCrowdedParcels {l : Launch} {g : pw_G} {Q : pw_W → Int32 → Prop} {X : pw_W → Nat → Prop} (hl0 : l.stackTraces = false) {w : pw_W} (h : wp_X_treadCrowdedParcels w Q X) : pw_V l g cx_X_treadCrowdedParcels Q X 0 [(9, 0), (1, 0), (1, 0)] [] w := by
  unfold wp_X_treadCrowdedParcels at h
  refine pv_iconst (v := 0) (n := 1) d_X_treadCrowdedParcels_0 (by decide) rfl ?_
  refine pv_istore_n (n := 2) (L' := [(9, 0), (0, 0), (1, 0)]) d_X_treadCrowdedParcels_1 rfl (by decide) rfl rfl ?_
  obtain ⟨k13, h⟩ := h
  exact vlp_X_treadCrowdedParcels_2 hl0 _ _ _ h
set_option maxHeartbeats 4000000 in
set_option maxRecDepth 20000 in
theorem con_X_treadCrowdedParcels {l : Launch} {g : pw_G} {Q : pw_W → Int32 → Prop} {X : pw_W → Nat → Prop} (hl0 : l.stackTraces = false) {w : pw_W} (h : wp_X_treadCrowdedParcels w Q X) : pw_Con l g y_X_treadCrowdedParcels cx_X_treadCrowdedParcels [(9, 0)] w Q X :=
  pw_con (by decide +kernel) rfl rfl hl0 rfl (Nat.le_of_ble_eq_true rfl) (by simp) (vw_X_treadCrowdedParcels hl0 h)
theorem d_X_passOneDay_0 : decode (pw_cc cx_X_passOneDay) 0 = .ok (.aload_n 0, 1) := by decide +kernel
theorem d_X_passOneDay_1 : decode (pw_cc cx_X_passOneDay) 1 = .ok (.dup, 1) := by decide +kernel
theorem d_X_passOneDay_2 : decode (pw_cc cx_X_passOneDay) 2 = .ok (.getfield 145, 3) := by decide +kernel
theorem d_X_passOneDay_5 : decode (pw_cc cx_X_passOneDay) 5 = .ok (.iconst 1, 1) := by decide +kernel
theorem d_X_passOneDay_6 : decode (pw_cc cx_X_passOneDay) 6 = .ok (.iadd, 1) := by decide +kernel
theorem d_X_passOneDay_7 : decode (pw_cc cx_X_passOneDay) 7 = .ok (.putfield 145, 3) := by decide +kernel
theorem d_X_passOneDay_10 : decode (pw_cc cx_X_passOneDay) 10 = .ok (.aload_n 0, 1) := by decide +kernel
theorem d_X_passOneDay_11 : decode (pw_cc cx_X_passOneDay) 11 = .ok (.getfield 145, 3) := by decide +kernel
theorem d_X_passOneDay_14 : decode (pw_cc cx_X_passOneDay) 14 = .ok (.sipush 360, 3) := by decide +kernel
theorem d_X_passOneDay_17 : decode (pw_cc cx_X_passOneDay) 17 = .ok (.irem, 1) := by decide +kernel
theorem d_X_passOneDay_18 : decode (pw_cc cx_X_passOneDay) 18 = .ok (.istore_n 1, 1) := by decide +kernel
theorem d_X_passOneDay_19 : decode (pw_cc cx_X_passOneDay) 19 = .ok (.aload_n 0, 1) := by decide +kernel
theorem d_X_passOneDay_20 : decode (pw_cc cx_X_passOneDay) 20 = .ok (.invokevirtual 450, 3) := by decide +kernel
theorem d_X_passOneDay_23 : decode (pw_cc cx_X_passOneDay) 23 = .ok (.iload_n 1, 1) := by decide +kernel
theorem d_X_passOneDay_24 : decode (pw_cc cx_X_passOneDay) 24 = .ok (.bipush 120, 2) := by decide +kernel
theorem d_X_passOneDay_26 : decode (pw_cc cx_X_passOneDay) 26 = .ok (.if_icmp .lt 14, 3) := by decide +kernel
theorem d_X_passOneDay_29 : decode (pw_cc cx_X_passOneDay) 29 = .ok (.iload_n 1, 1) := by decide +kernel
theorem d_X_passOneDay_30 : decode (pw_cc cx_X_passOneDay) 30 = .ok (.sipush 240, 3) := by decide +kernel
theorem d_X_passOneDay_33 : decode (pw_cc cx_X_passOneDay) 33 = .ok (.if_icmp .ge 7, 3) := by decide +kernel
theorem d_X_passOneDay_36 : decode (pw_cc cx_X_passOneDay) 36 = .ok (.aload_n 0, 1) := by decide +kernel
theorem d_X_passOneDay_37 : decode (pw_cc cx_X_passOneDay) 37 = .ok (.invokevirtual 453, 3) := by decide +kernel
theorem d_X_passOneDay_40 : decode (pw_cc cx_X_passOneDay) 40 = .ok (.aload_n 0, 1) := by decide +kernel
theorem d_X_passOneDay_41 : decode (pw_cc cx_X_passOneDay) 41 = .ok (.invokevirtual 456, 3) := by decide +kernel
theorem d_X_passOneDay_44 : decode (pw_cc cx_X_passOneDay) 44 = .ok (.iload_n 1, 1) := by decide +kernel
theorem d_X_passOneDay_45 : decode (pw_cc cx_X_passOneDay) 45 = .ok (.ifCond .ne 11, 3) := by decide +kernel
theorem d_X_passOneDay_48 : decode (pw_cc cx_X_passOneDay) 48 = .ok (.aload_n 0, 1) := by decide +kernel
theorem d_X_passOneDay_49 : decode (pw_cc cx_X_passOneDay) 49 = .ok (.invokevirtual 459, 3) := by decide +kernel
theorem d_X_passOneDay_52 : decode (pw_cc cx_X_passOneDay) 52 = .ok (.aload_n 0, 1) := by decide +kernel
theorem d_X_passOneDay_53 : decode (pw_cc cx_X_passOneDay) 53 = .ok (.invokevirtual 462, 3) := by decide +kernel
theorem d_X_passOneDay_56 : decode (pw_cc cx_X_passOneDay) 56 = .ok (.return_, 1) := by decide +kernel
set_option maxHeartbeats 4000000 in
set_option maxRecDepth 20000 in
def jp_X_passOneDay_40 (Q : pw_W → Int32 → Prop) (X : pw_W → Nat → Prop) (a1 : Int32) (w : pw_W) : Prop := wp_X_treadCrowdedParcels w  (fun w1 r2 => (¬ a1 = 0 → Q w1 0) ∧ (a1 = 0 → wp_X_growPeat w1  (fun w4 r5 => wp_X_payPersons w4  (fun w6 r7 => Q w6 0) (fun _ _ => False)) (fun _ _ => False))) (fun _ _ => False)
set_option maxHeartbeats 4000000 in
set_option maxRecDepth 20000 in
theorem vjp_X_passOneDay_40 {l : Launch} {g : pw_G} {Q : pw_W → Int32 → Prop} {X : pw_W → Nat → Prop} (hl0 : l.stackTraces = false) (a1 : Int32) (w : pw_W) (h : jp_X_passOneDay_40 Q X a1 w) : pw_V l g cx_X_passOneDay Q X 40 [(9, 0), (0, a1)] [] w := by
  unfold jp_X_passOneDay_40 at h
  refine pv_aload_n (n := 41) d_X_passOneDay_40 rfl rfl rfl ?_
  refine pv_callV (n := 44) (x := 0) [] [] (con_X_treadCrowdedParcels hl0 h) pw_cf7 rfl q_347 q_348 q_349 q_62 q_346 pyo_X_treadCrowdedParcels (by decide) rfl rfl (by decide) d_X_passOneDay_41 rfl (fun w1 r2 h _ => ?_) (fun _ _ h => h.elim)
  show pw_V l g cx_X_passOneDay Q X 44 [(9, 0), (0, a1)] [] w1
  refine pv_iload_n (n := 45) d_X_passOneDay_44 rfl rfl rfl ?_
  refine pv_if_ne (n := 48) (tgt := 56) d_X_passOneDay_45 (by decide) rfl (fun c3 => ?_) (fun c3 => ?_)
  · replace h := h.1 c3
    exact pv_vret rfl rfl d_X_passOneDay_56 h
  · replace h := h.2 c3
    refine pv_aload_n (n := 49) d_X_passOneDay_48 rfl rfl rfl ?_
    refine pv_callV (n := 52) (x := 0) [] [] (con_X_growPeat hl0 h) pw_cf7 rfl q_343 q_344 q_345 q_62 q_342 pyo_X_growPeat (by decide) rfl rfl (by decide) d_X_passOneDay_49 rfl (fun w4 r5 h _ => ?_) (fun _ _ h => h.elim)
    show pw_V l g cx_X_passOneDay Q X 52 [(9, 0), (0, a1)] [] w4
    refine pv_aload_n (n := 53) d_X_passOneDay_52 rfl rfl rfl ?_
    refine pv_callV (n := 56) (x := 0) [] [] (con_X_payPersons hl0 h) pw_cf7 rfl q_339 q_340 q_341 q_62 q_338 pyo_X_payPersons (by decide) rfl rfl (by decide) d_X_passOneDay_53 rfl (fun w6 r7 h _ => ?_) (fun _ _ h => h.elim)
    show pw_V l g cx_X_passOneDay Q X 56 [(9, 0), (0, a1)] [] w6
    exact pv_vret rfl rfl d_X_passOneDay_56 h
set_option maxHeartbeats 4000000 in
set_option maxRecDepth 20000 in
def wp_X_passOneDay (w : pw_W) (Q : pw_W → Int32 → Prop) (X : pw_W → Nat → Prop) : Prop := ∀ w8, w8 = pw_ps w 7 0 7 ((w.1 7 0 7) + 1) → ∀ v10, v10 = ((w8.1 7 0 7) - (w8.1 7 0 7) / 360 * 360) → wp_X_runDrains w8  (fun w12 r13 => (v10 < 120 → jp_X_passOneDay_40 Q X v10 w12) ∧ (¬ v10 < 120 → ((240 : Int32) ≤ v10 → jp_X_passOneDay_40 Q X v10 w12) ∧ (¬ (240 : Int32) ≤ v10 → wp_X_drySquares w12  (fun w16 r17 => jp_X_passOneDay_40 Q X v10 w16) (fun _ _ => False)))) (fun _ _ => False)
set_option maxHeartbeats 4000000 in
set_option maxRecDepth 20000 in
theorem vw_X_passOneDay {l : Launch} {g : pw_G} {Q : pw_W → Int32 → Prop} {X : pw_W → Nat → Prop} (hl0 : l.stackTraces = false) {w : pw_W} (h : wp_X_passOneDay w Q X) : pw_V l g cx_X_passOneDay Q X 0 [(9, 0), (1, 0)] [] w := by
  unfold wp_X_passOneDay at h
  refine pv_aload_n (n := 1) d_X_passOneDay_0 rfl rfl rfl ?_
  refine pv_dup (n := 2) d_X_passOneDay_1 (by decide) rfl ?_
  refine gt_X_145 (n := 5) rfl d_X_passOneDay_2 (by decide) rfl ?_
  refine pv_iconst (v := 1) (n := 6) d_X_passOneDay_5 (by decide) rfl ?_
  refine pv_iadd (n := 7) d_X_passOneDay_6 rfl ?_
  refine pt_X_145 (n := 10) rfl d_X_passOneDay_7 (by decide) rfl (fun w8 e9 => ?_)
  replace h := h w8 e9
  refine pv_aload_n (n := 11) d_X_passOneDay_10 rfl rfl rfl ?_
  refine gt_X_145 (n := 14) rfl d_X_passOneDay_11 (by decide) rfl ?_
  refine pv_sipush (v := 360) (n := 17) d_X_passOneDay_14 (by decide) rfl ?_
  refine pv_irem (n := 18) d_X_passOneDay_17 (by decide) rfl ?_
  refine pv_nm (fun v10 e11 => ?_)
  replace h := h v10 e11
  refine pv_istore_n (n := 19) (L' := [(9, 0), (0, v10)]) d_X_passOneDay_18 rfl (by decide) rfl rfl ?_
  refine pv_aload_n (n := 20) d_X_passOneDay_19 rfl rfl rfl ?_
  refine pv_callV (n := 23) (x := 0) [] [] (con_X_runDrains hl0 h) pw_cf7 rfl q_355 q_356 q_357 q_62 q_354 pyo_X_runDrains (by decide) rfl rfl (by decide) d_X_passOneDay_20 rfl (fun w12 r13 h _ => ?_) (fun _ _ h => h.elim)
  show pw_V l g cx_X_passOneDay Q X 23 [(9, 0), (0, v10)] [] w12
  refine pv_iload_n (n := 24) d_X_passOneDay_23 rfl rfl rfl ?_
  refine pv_bipush (v := 120) (n := 26) d_X_passOneDay_24 (by decide) rfl ?_
  refine pv_icmp_lt (n := 29) (tgt := 40) d_X_passOneDay_26 (by decide) rfl (fun c14 => ?_) (fun c14 => ?_)
  · replace h := h.1 c14
    exact vjp_X_passOneDay_40 hl0 _ _ h
  · replace h := h.2 c14
    refine pv_iload_n (n := 30) d_X_passOneDay_29 rfl rfl rfl ?_
    refine pv_sipush (v := 240) (n := 33) d_X_passOneDay_30 (by decide) rfl ?_
    refine pv_icmp_ge (n := 36) (tgt := 40) d_X_passOneDay_33 (by decide) rfl (fun c15 => ?_) (fun c15 => ?_)
    · replace h := h.1 c15
      exact vjp_X_passOneDay_40 hl0 _ _ h
    · replace h := h.2 c15
      refine pv_aload_n (n := 37) d_X_passOneDay_36 rfl rfl rfl ?_
      refine pv_callV (n := 40) (x := 0) [] [] (con_X_drySquares hl0 h) pw_cf7 rfl q_351 q_352 q_353 q_62 q_350 pyo_X_drySquares (by decide) rfl rfl (by decide) d_X_passOneDay_37 rfl (fun w16 r17 h _ => ?_) (fun _ _ h => h.elim)
      show pw_V l g cx_X_passOneDay Q X 40 [(9, 0), (0, v10)] [] w16
      exact vjp_X_passOneDay_40 hl0 _ _ h
set_option maxHeartbeats 4000000 in
set_option maxRecDepth 20000 in
theorem con_X_passOneDay {l : Launch} {g : pw_G} {Q : pw_W → Int32 → Prop} {X : pw_W → Nat → Prop} (hl0 : l.stackTraces = false) {w : pw_W} (h : wp_X_passOneDay w Q X) : pw_Con l g y_X_passOneDay cx_X_passOneDay [(9, 0)] w Q X :=
  pw_con (by decide +kernel) rfl rfl hl0 rfl (Nat.le_of_ble_eq_true rfl) (by simp) (vw_X_passOneDay hl0 h)
theorem d_X_pass_0 : decode (pw_cc cx_X_pass) 0 = .ok (.iload_n 1, 1) := by decide +kernel
theorem d_X_pass_1 : decode (pw_cc cx_X_pass) 1 = .ok (.iconst 1, 1) := by decide +kernel
theorem d_X_pass_2 : decode (pw_cc cx_X_pass) 2 = .ok (.sipush 200, 3) := by decide +kernel
theorem d_X_pass_5 : decode (pw_cc cx_X_pass) 5 = .ok (.invokestatic 168, 3) := by decide +kernel
theorem d_X_pass_8 : decode (pw_cc cx_X_pass) 8 = .ok (.invokestatic 171, 3) := by decide +kernel
theorem d_X_pass_11 : decode (pw_cc cx_X_pass) 11 = .ok (.aload_n 0, 1) := by decide +kernel
theorem d_X_pass_12 : decode (pw_cc cx_X_pass) 12 = .ok (.getfield 145, 3) := by decide +kernel
theorem d_X_pass_15 : decode (pw_cc cx_X_pass) 15 = .ok (.iload_n 1, 1) := by decide +kernel
theorem d_X_pass_16 : decode (pw_cc cx_X_pass) 16 = .ok (.iadd, 1) := by decide +kernel
theorem d_X_pass_17 : decode (pw_cc cx_X_pass) 17 = .ok (.sipush 20000, 3) := by decide +kernel
theorem d_X_pass_20 : decode (pw_cc cx_X_pass) 20 = .ok (.if_icmp .gt 7, 3) := by decide +kernel
theorem d_X_pass_23 : decode (pw_cc cx_X_pass) 23 = .ok (.iconst 1, 1) := by decide +kernel
theorem d_X_pass_24 : decode (pw_cc cx_X_pass) 24 = .ok (.goto 4, 3) := by decide +kernel
theorem d_X_pass_27 : decode (pw_cc cx_X_pass) 27 = .ok (.iconst 0, 1) := by decide +kernel
theorem d_X_pass_28 : decode (pw_cc cx_X_pass) 28 = .ok (.invokestatic 80, 3) := by decide +kernel
theorem d_X_pass_31 : decode (pw_cc cx_X_pass) 31 = .ok (.iconst 0, 1) := by decide +kernel
theorem d_X_pass_32 : decode (pw_cc cx_X_pass) 32 = .ok (.istore_n 2, 1) := by decide +kernel
theorem d_X_pass_33 : decode (pw_cc cx_X_pass) 33 = .ok (.iload_n 2, 1) := by decide +kernel
theorem d_X_pass_34 : decode (pw_cc cx_X_pass) 34 = .ok (.iload_n 1, 1) := by decide +kernel
theorem d_X_pass_35 : decode (pw_cc cx_X_pass) 35 = .ok (.if_icmp .ge 13, 3) := by decide +kernel
theorem d_X_pass_38 : decode (pw_cc cx_X_pass) 38 = .ok (.aload_n 0, 1) := by decide +kernel
theorem d_X_pass_39 : decode (pw_cc cx_X_pass) 39 = .ok (.invokevirtual 291, 3) := by decide +kernel
theorem d_X_pass_42 : decode (pw_cc cx_X_pass) 42 = .ok (.iinc 2 1, 3) := by decide +kernel
theorem d_X_pass_45 : decode (pw_cc cx_X_pass) 45 = .ok (.goto (-12), 3) := by decide +kernel
theorem d_X_pass_48 : decode (pw_cc cx_X_pass) 48 = .ok (.aload_n 0, 1) := by decide +kernel
theorem d_X_pass_49 : decode (pw_cc cx_X_pass) 49 = .ok (.getfield 145, 3) := by decide +kernel
theorem d_X_pass_52 : decode (pw_cc cx_X_pass) 52 = .ok (.ireturn, 1) := by decide +kernel
set_option maxHeartbeats 4000000 in
set_option maxRecDepth 20000 in
def lp_X_pass_33 (Q : pw_W → Int32 → Prop) (X : pw_W → Nat → Prop) : Nat → Int32 → Int32 → pw_W → Prop := fun k => Nat.rec (motive := fun _ => Int32 → Int32 → pw_W → Prop) (fun _ _ _ => False) (fun _ ih a1 a2 w => (a1 ≤ a2 → Q w (w.1 7 0 7)) ∧ (¬ a1 ≤ a2 → wp_X_passOneDay w  (fun w2 r3 => ih a1 (a2 + 1) w2) (fun _ _ => False))) k
set_option maxHeartbeats 4000000 in
set_option maxRecDepth 20000 in
theorem lp_X_pass_33_s {Q : pw_W → Int32 → Prop} {X : pw_W → Nat → Prop}  {k : Nat} {a1 a2 : Int32} {w : pw_W} : lp_X_pass_33 Q X (k + 1) a1 a2 w = (let ih := lp_X_pass_33 Q X k; (a1 ≤ a2 → Q w (w.1 7 0 7)) ∧ (¬ a1 ≤ a2 → wp_X_passOneDay w  (fun w2 r3 => ih a1 (a2 + 1) w2) (fun _ _ => False))) := rfl
set_option maxHeartbeats 4000000 in
set_option maxRecDepth 20000 in
theorem vlp_X_pass_33 {l : Launch} {g : pw_G} {Q : pw_W → Int32 → Prop} {X : pw_W → Nat → Prop} (hl0 : l.stackTraces = false) : ∀ (k : Nat) (a1 a2 : Int32) (w : pw_W), lp_X_pass_33 Q X k a1 a2 w → pw_V l g cx_X_pass Q X 33 [(9, 0), (0, a1), (0, a2)] [] w := by
  intro k; induction k with
  | zero => intro _ _ _ h; exact h.elim
  | succ k ih =>
    intro a1 a2 w h
    rw [lp_X_pass_33_s] at h
    refine pv_iload_n (n := 34) d_X_pass_33 rfl rfl rfl ?_
    refine pv_iload_n (n := 35) d_X_pass_34 rfl rfl rfl ?_
    refine pv_icmp_ge (n := 38) (tgt := 48) d_X_pass_35 (by decide) rfl (fun c1 => ?_) (fun c1 => ?_)
    · replace h := h.1 c1
      refine pv_aload_n (n := 49) d_X_pass_48 rfl rfl rfl ?_
      refine gt_X_145 (n := 52) rfl d_X_pass_49 (by decide) rfl ?_
      exact pv_iret rfl rfl d_X_pass_52 h
    · replace h := h.2 c1
      refine pv_aload_n (n := 39) d_X_pass_38 rfl rfl rfl ?_
      refine pv_callV (n := 42) (x := 0) [] [] (con_X_passOneDay hl0 h) pw_cf7 rfl q_359 q_360 q_361 q_62 q_358 pyo_X_passOneDay (by decide) rfl rfl (by decide) d_X_pass_39 rfl (fun w2 r3 h _ => ?_) (fun _ _ h => h.elim)
      show pw_V l g cx_X_pass Q X 42 [(9, 0), (0, a1), (0, a2)] [] w2
      refine pv_iinc (v := (a2 + 1)) (n := 45) (L1 := [(9, 0), (0, a1), (0, (a2 + 1))]) d_X_pass_42 rfl rfl rfl (by decide) rfl ?_
      refine pv_goto (tgt := 33) d_X_pass_45 (by decide) ?_
      exact ih _ _ _ h
set_option maxHeartbeats 4000000 in
set_option maxRecDepth 20000 in
def jp_X_pass_28 (Q : pw_W → Int32 → Prop) (X : pw_W → Nat → Prop) (a1 s0 : Int32) (w : pw_W) : Prop := wp_X_checkState w s0 (fun w4 r5 => ∃ k6, lp_X_pass_33 Q X k6 a1 0 w4) X
set_option maxHeartbeats 4000000 in
set_option maxRecDepth 20000 in
theorem vjp_X_pass_28 {l : Launch} {g : pw_G} {Q : pw_W → Int32 → Prop} {X : pw_W → Nat → Prop} (hl0 : l.stackTraces = false) (a1 s0 : Int32) (w : pw_W) (h : jp_X_pass_28 Q X a1 s0 w) : pw_V l g cx_X_pass Q X 28 [(9, 0), (0, a1), (1, 0)] [(0, s0)] w := by
  unfold jp_X_pass_28 at h
  refine pv_callS (n := 31) [(0, s0)] [] (con_X_checkState hl0 h) q_124 q_125 q_62 q_123 pyo_X_checkState (by decide) rfl rfl d_X_pass_28 rfl (fun w4 r5 h _ => ?_) (fun _ _ h => pvx_out rfl h)
  show pw_V l g cx_X_pass Q X 31 [(9, 0), (0, a1), (1, 0)] [] w4
  refine pv_iconst (v := 0) (n := 32) d_X_pass_31 (by decide) rfl ?_
  refine pv_istore_n (n := 33) (L' := [(9, 0), (0, a1), (0, 0)]) d_X_pass_32 rfl (by decide) rfl rfl ?_
  obtain ⟨k6, h⟩ := h
  exact vlp_X_pass_33 hl0 _ _ _ _ h
set_option maxHeartbeats 4000000 in
set_option maxRecDepth 20000 in
def wp_X_pass (w : pw_W) (a1 : Int32) (Q : pw_W → Int32 → Prop) (X : pw_W → Nat → Prop) : Prop := wp_X_isInRange w a1 1 200 (fun w7 r8 => wp_X_checkArgument w7 r8 (fun w9 r10 => ((20000 : Int32) < ((w9.1 7 0 7) + a1) → jp_X_pass_28 Q X a1 0 w9) ∧ (¬ (20000 : Int32) < ((w9.1 7 0 7) + a1) → jp_X_pass_28 Q X a1 1 w9)) X) (fun _ _ => False)
set_option maxHeartbeats 4000000 in
set_option maxRecDepth 20000 in
theorem vw_X_pass {l : Launch} {g : pw_G} {Q : pw_W → Int32 → Prop} {X : pw_W → Nat → Prop} (hl0 : l.stackTraces = false) {w : pw_W} {a1 : Int32} (h : wp_X_pass w a1 Q X) : pw_V l g cx_X_pass Q X 0 [(9, 0), (0, a1), (1, 0)] [] w := by
  unfold wp_X_pass at h
  refine pv_iload_n (n := 1) d_X_pass_0 rfl rfl rfl ?_
  refine pv_iconst (v := 1) (n := 2) d_X_pass_1 (by decide) rfl ?_
  refine pv_sipush (v := 200) (n := 5) d_X_pass_2 (by decide) rfl ?_
  refine pv_callS (n := 8) [(0, a1), (0, 1), (0, 200)] [] (con_X_isInRange hl0 h) q_96 q_97 q_62 q_95 pyo_X_isInRange (by decide) rfl rfl d_X_pass_5 rfl (fun w7 r8 h _ => ?_) (fun _ _ h => h.elim)
  show pw_V l g cx_X_pass Q X 8 [(9, 0), (0, a1), (1, 0)] [(0, r8)] w7
  refine pv_callS (n := 11) [(0, r8)] [] (con_X_checkArgument hl0 h) q_86 q_87 q_62 q_85 pyo_X_checkArgument (by decide) rfl rfl d_X_pass_8 rfl (fun w9 r10 h _ => ?_) (fun _ _ h => pvx_out rfl h)
  show pw_V l g cx_X_pass Q X 11 [(9, 0), (0, a1), (1, 0)] [] w9
  refine pv_aload_n (n := 12) d_X_pass_11 rfl rfl rfl ?_
  refine gt_X_145 (n := 15) rfl d_X_pass_12 (by decide) rfl ?_
  refine pv_iload_n (n := 16) d_X_pass_15 rfl rfl rfl ?_
  refine pv_iadd (n := 17) d_X_pass_16 rfl ?_
  refine pv_sipush (v := 20000) (n := 20) d_X_pass_17 (by decide) rfl ?_
  refine pv_icmp_gt (n := 23) (tgt := 27) d_X_pass_20 (by decide) rfl (fun c11 => ?_) (fun c11 => ?_)
  · replace h := h.1 c11
    refine pv_iconst (v := 0) (n := 28) d_X_pass_27 (by decide) rfl ?_
    exact vjp_X_pass_28 hl0 _ _ _ h
  · replace h := h.2 c11
    refine pv_iconst (v := 1) (n := 24) d_X_pass_23 (by decide) rfl ?_
    refine pv_goto (tgt := 28) d_X_pass_24 (by decide) ?_
    exact vjp_X_pass_28 hl0 _ _ _ h
set_option maxHeartbeats 4000000 in
set_option maxRecDepth 20000 in
theorem con_X_pass {l : Launch} {g : pw_G} {Q : pw_W → Int32 → Prop} {X : pw_W → Nat → Prop} (hl0 : l.stackTraces = false) {w : pw_W} {a1 : Int32} (h : wp_X_pass w a1 Q X) : pw_Con l g y_X_pass cx_X_pass [(9, 0), (0, a1)] w Q X :=
  pw_con (by decide +kernel) rfl rfl hl0 rfl (Nat.le_of_ble_eq_true rfl) (by simp) (vw_X_pass hl0 h)
theorem d_Person_hasNamed_0 : decode (pw_cc cx_Person_hasNamed) 0 = .ok (.iconst 0, 1) := by decide +kernel
theorem d_Person_hasNamed_1 : decode (pw_cc cx_Person_hasNamed) 1 = .ok (.istore_n 2, 1) := by decide +kernel
theorem d_Person_hasNamed_2 : decode (pw_cc cx_Person_hasNamed) 2 = .ok (.iload_n 2, 1) := by decide +kernel
theorem d_Person_hasNamed_3 : decode (pw_cc cx_Person_hasNamed) 3 = .ok (.aload_n 0, 1) := by decide +kernel
theorem d_Person_hasNamed_4 : decode (pw_cc cx_Person_hasNamed) 4 = .ok (.getfield 10, 3) := by decide +kernel
theorem d_Person_hasNamed_7 : decode (pw_cc cx_Person_hasNamed) 7 = .ok (.invokeinterface 24 1, 5) := by decide +kernel
theorem d_Person_hasNamed_12 : decode (pw_cc cx_Person_hasNamed) 12 = .ok (.if_icmp .ge 25, 3) := by decide +kernel
theorem d_Person_hasNamed_15 : decode (pw_cc cx_Person_hasNamed) 15 = .ok (.aload_n 0, 1) := by decide +kernel
theorem d_Person_hasNamed_16 : decode (pw_cc cx_Person_hasNamed) 16 = .ok (.getfield 10, 3) := by decide +kernel
theorem d_Person_hasNamed_19 : decode (pw_cc cx_Person_hasNamed) 19 = .ok (.iload_n 2, 1) := by decide +kernel
theorem d_Person_hasNamed_20 : decode (pw_cc cx_Person_hasNamed) 20 = .ok (.invokeinterface 30 2, 5) := by decide +kernel
theorem d_Person_hasNamed_25 : decode (pw_cc cx_Person_hasNamed) 25 = .ok (.aload_n 1, 1) := by decide +kernel
theorem d_Person_hasNamed_26 : decode (pw_cc cx_Person_hasNamed) 26 = .ok (.if_acmp .ne 5, 3) := by decide +kernel
theorem d_Person_hasNamed_29 : decode (pw_cc cx_Person_hasNamed) 29 = .ok (.iconst 1, 1) := by decide +kernel
theorem d_Person_hasNamed_30 : decode (pw_cc cx_Person_hasNamed) 30 = .ok (.ireturn, 1) := by decide +kernel
theorem d_Person_hasNamed_31 : decode (pw_cc cx_Person_hasNamed) 31 = .ok (.iinc 2 1, 3) := by decide +kernel
theorem d_Person_hasNamed_34 : decode (pw_cc cx_Person_hasNamed) 34 = .ok (.goto (-32), 3) := by decide +kernel
theorem d_Person_hasNamed_37 : decode (pw_cc cx_Person_hasNamed) 37 = .ok (.iconst 0, 1) := by decide +kernel
theorem d_Person_hasNamed_38 : decode (pw_cc cx_Person_hasNamed) 38 = .ok (.ireturn, 1) := by decide +kernel
set_option maxHeartbeats 4000000 in
set_option maxRecDepth 20000 in
def lp_Person_hasNamed_2 (Q : pw_W → Int32 → Prop) (X : pw_W → Nat → Prop) : Nat → Int32 → Int32 → Int32 → pw_W → Prop := fun k => Nat.rec (motive := fun _ => Int32 → Int32 → Int32 → pw_W → Prop) (fun _ _ _ _ => False) (fun _ ih a0 a1 a2 w => 0 ≤ a0 ∧ 0 ≤ (w.1 4 (pw_i a0) 1) ∧ ((nI (pw_ln w 24 (pw_i (w.1 4 (pw_i a0) 1)))) ≤ a2 → Q w 0) ∧ (¬ (nI (pw_ln w 24 (pw_i (w.1 4 (pw_i a0) 1)))) ≤ a2 → pw_jn a2 (pw_ln w 24 (pw_i (w.1 4 (pw_i a0) 1))) ∧ (¬ (w.1 24 (pw_i (w.1 4 (pw_i a0) 1)) (pw_i a2)) = a1 → ih a0 a1 (a2 + 1) w) ∧ ((w.1 24 (pw_i (w.1 4 (pw_i a0) 1)) (pw_i a2)) = a1 → Q w 1))) k
set_option maxHeartbeats 4000000 in
set_option maxRecDepth 20000 in
theorem lp_Person_hasNamed_2_s {Q : pw_W → Int32 → Prop} {X : pw_W → Nat → Prop}  {k : Nat} {a0 a1 a2 : Int32} {w : pw_W} : lp_Person_hasNamed_2 Q X (k + 1) a0 a1 a2 w = (let ih := lp_Person_hasNamed_2 Q X k; 0 ≤ a0 ∧ 0 ≤ (w.1 4 (pw_i a0) 1) ∧ ((nI (pw_ln w 24 (pw_i (w.1 4 (pw_i a0) 1)))) ≤ a2 → Q w 0) ∧ (¬ (nI (pw_ln w 24 (pw_i (w.1 4 (pw_i a0) 1)))) ≤ a2 → pw_jn a2 (pw_ln w 24 (pw_i (w.1 4 (pw_i a0) 1))) ∧ (¬ (w.1 24 (pw_i (w.1 4 (pw_i a0) 1)) (pw_i a2)) = a1 → ih a0 a1 (a2 + 1) w) ∧ ((w.1 24 (pw_i (w.1 4 (pw_i a0) 1)) (pw_i a2)) = a1 → Q w 1))) := rfl
set_option maxHeartbeats 4000000 in
set_option maxRecDepth 20000 in
theorem vlp_Person_hasNamed_2 {l : Launch} {g : pw_G} {Q : pw_W → Int32 → Prop} {X : pw_W → Nat → Prop} (hl0 : l.stackTraces = false) : ∀ (k : Nat) (a0 a1 a2 : Int32) (w : pw_W), lp_Person_hasNamed_2 Q X k a0 a1 a2 w → pw_V l g cx_Person_hasNamed Q X 2 [(6, a0), (6, a1), (0, a2)] [] w := by
  intro k; induction k with
  | zero => intro _ _ _ _ h; exact h.elim
  | succ k ih =>
    intro a0 a1 a2 w h
    rw [lp_Person_hasNamed_2_s] at h
    refine pv_iload_n (n := 3) d_Person_hasNamed_2 rfl rfl rfl ?_
    refine pv_aload_n (n := 4) d_Person_hasNamed_3 rfl rfl rfl ?_
    obtain ⟨g1, h⟩ := h
    refine gt_Person_10 (n := 7) rfl d_Person_hasNamed_4 g1 rfl ?_
    obtain ⟨g2, h⟩ := h
    refine pv_lsize (n := 12) (f := 24) (by decide) q_362 (by decide) rfl d_Person_hasNamed_7 g2 rfl ?_
    refine pv_icmp_ge (n := 15) (tgt := 37) d_Person_hasNamed_12 (by decide) rfl (fun c3 => ?_) (fun c3 => ?_)
    · replace h := h.1 c3
      refine pv_iconst (v := 0) (n := 38) d_Person_hasNamed_37 (by decide) rfl ?_
      exact pv_zret rfl rfl d_Person_hasNamed_38 (by decide) h
    · replace h := h.2 c3
      refine pv_aload_n (n := 16) d_Person_hasNamed_15 rfl rfl rfl ?_
      refine gt_Person_10 (n := 19) rfl d_Person_hasNamed_16 g1 rfl ?_
      refine pv_iload_n (n := 20) d_Person_hasNamed_19 rfl rfl rfl ?_
      obtain ⟨g4, h⟩ := h
      refine pv_lget (n := 25) (f := 24) (F := 4) (by decide) rfl q_363 (by decide) rfl d_Person_hasNamed_20 g2 g4 rfl (fun _ => ?_)
      refine pv_aload_n (n := 26) d_Person_hasNamed_25 rfl rfl rfl ?_
      refine pv_acmp_ne (n := 29) (tgt := 31) d_Person_hasNamed_26 (by decide) (by decide) rfl (fun c5 => ?_) (fun c5 => ?_)
      · replace h := h.1 c5
        refine pv_iinc (v := (a2 + 1)) (n := 34) (L1 := [(6, a0), (6, a1), (0, (a2 + 1))]) d_Person_hasNamed_31 rfl rfl rfl (by decide) rfl ?_
        refine pv_goto (tgt := 2) d_Person_hasNamed_34 (by decide) ?_
        exact ih _ _ _ _ h
      · replace h := h.2 c5
        refine pv_iconst (v := 1) (n := 30) d_Person_hasNamed_29 (by decide) rfl ?_
        exact pv_zret rfl rfl d_Person_hasNamed_30 (by decide) h
set_option maxHeartbeats 4000000 in
set_option maxRecDepth 20000 in
def wp_Person_hasNamed (w : pw_W) (a0 a1 : Int32) (Q : pw_W → Int32 → Prop) (X : pw_W → Nat → Prop) : Prop := ∃ k6, lp_Person_hasNamed_2 Q X k6 a0 a1 0 w
set_option maxHeartbeats 4000000 in
set_option maxRecDepth 20000 in
theorem vw_Person_hasNamed {l : Launch} {g : pw_G} {Q : pw_W → Int32 → Prop} {X : pw_W → Nat → Prop} (hl0 : l.stackTraces = false) {w : pw_W} {a0 a1 : Int32} (h : wp_Person_hasNamed w a0 a1 Q X) : pw_V l g cx_Person_hasNamed Q X 0 [(6, a0), (6, a1), (1, 0)] [] w := by
  unfold wp_Person_hasNamed at h
  refine pv_iconst (v := 0) (n := 1) d_Person_hasNamed_0 (by decide) rfl ?_
  refine pv_istore_n (n := 2) (L' := [(6, a0), (6, a1), (0, 0)]) d_Person_hasNamed_1 rfl (by decide) rfl rfl ?_
  obtain ⟨k6, h⟩ := h
  exact vlp_Person_hasNamed_2 hl0 _ _ _ _ _ h
set_option maxHeartbeats 4000000 in
set_option maxRecDepth 20000 in
theorem con_Person_hasNamed {l : Launch} {g : pw_G} {Q : pw_W → Int32 → Prop} {X : pw_W → Nat → Prop} (hl0 : l.stackTraces = false) {w : pw_W} {a0 a1 : Int32} (h : wp_Person_hasNamed w a0 a1 Q X) : pw_Con l g y_Person_hasNamed cx_Person_hasNamed [(6, a0), (6, a1)] w Q X :=
  pw_con (by decide +kernel) rfl rfl hl0 rfl (Nat.le_of_ble_eq_true rfl) (by simp) (vw_Person_hasNamed hl0 h)
theorem d_X_name_0 : decode (pw_cc cx_X_name) 0 = .ok (.aload_n 0, 1) := by decide +kernel
theorem d_X_name_1 : decode (pw_cc cx_X_name) 1 = .ok (.iload_n 1, 1) := by decide +kernel
theorem d_X_name_2 : decode (pw_cc cx_X_name) 2 = .ok (.invokevirtual 69, 3) := by decide +kernel
theorem d_X_name_5 : decode (pw_cc cx_X_name) 5 = .ok (.astore_n 3, 1) := by decide +kernel
theorem d_X_name_6 : decode (pw_cc cx_X_name) 6 = .ok (.aload_n 0, 1) := by decide +kernel
theorem d_X_name_7 : decode (pw_cc cx_X_name) 7 = .ok (.iload_n 2, 1) := by decide +kernel
theorem d_X_name_8 : decode (pw_cc cx_X_name) 8 = .ok (.invokevirtual 69, 3) := by decide +kernel
theorem d_X_name_11 : decode (pw_cc cx_X_name) 11 = .ok (.astore 4, 2) := by decide +kernel
theorem d_X_name_13 : decode (pw_cc cx_X_name) 13 = .ok (.aload_n 3, 1) := by decide +kernel
theorem d_X_name_14 : decode (pw_cc cx_X_name) 14 = .ok (.getfield 76, 3) := by decide +kernel
theorem d_X_name_17 : decode (pw_cc cx_X_name) 17 = .ok (.ifCond .eq 15, 3) := by decide +kernel
theorem d_X_name_20 : decode (pw_cc cx_X_name) 20 = .ok (.aload 4, 2) := by decide +kernel
theorem d_X_name_22 : decode (pw_cc cx_X_name) 22 = .ok (.getfield 76, 3) := by decide +kernel
theorem d_X_name_25 : decode (pw_cc cx_X_name) 25 = .ok (.ifCond .eq 7, 3) := by decide +kernel
theorem d_X_name_28 : decode (pw_cc cx_X_name) 28 = .ok (.iconst 1, 1) := by decide +kernel
theorem d_X_name_29 : decode (pw_cc cx_X_name) 29 = .ok (.goto 4, 3) := by decide +kernel
theorem d_X_name_32 : decode (pw_cc cx_X_name) 32 = .ok (.iconst 0, 1) := by decide +kernel
theorem d_X_name_33 : decode (pw_cc cx_X_name) 33 = .ok (.invokestatic 80, 3) := by decide +kernel
theorem d_X_name_36 : decode (pw_cc cx_X_name) 36 = .ok (.aload_n 3, 1) := by decide +kernel
theorem d_X_name_37 : decode (pw_cc cx_X_name) 37 = .ok (.aload 4, 2) := by decide +kernel
theorem d_X_name_39 : decode (pw_cc cx_X_name) 39 = .ok (.if_acmp .eq 7, 3) := by decide +kernel
theorem d_X_name_42 : decode (pw_cc cx_X_name) 42 = .ok (.iconst 1, 1) := by decide +kernel
theorem d_X_name_43 : decode (pw_cc cx_X_name) 43 = .ok (.goto 4, 3) := by decide +kernel
theorem d_X_name_46 : decode (pw_cc cx_X_name) 46 = .ok (.iconst 0, 1) := by decide +kernel
theorem d_X_name_47 : decode (pw_cc cx_X_name) 47 = .ok (.invokestatic 80, 3) := by decide +kernel
theorem d_X_name_50 : decode (pw_cc cx_X_name) 50 = .ok (.aload_n 3, 1) := by decide +kernel
theorem d_X_name_51 : decode (pw_cc cx_X_name) 51 = .ok (.aload 4, 2) := by decide +kernel
theorem d_X_name_53 : decode (pw_cc cx_X_name) 53 = .ok (.invokevirtual 294, 3) := by decide +kernel
theorem d_X_name_56 : decode (pw_cc cx_X_name) 56 = .ok (.ifCond .ne 7, 3) := by decide +kernel
theorem d_X_name_59 : decode (pw_cc cx_X_name) 59 = .ok (.iconst 1, 1) := by decide +kernel
theorem d_X_name_60 : decode (pw_cc cx_X_name) 60 = .ok (.goto 4, 3) := by decide +kernel
theorem d_X_name_63 : decode (pw_cc cx_X_name) 63 = .ok (.iconst 0, 1) := by decide +kernel
theorem d_X_name_64 : decode (pw_cc cx_X_name) 64 = .ok (.invokestatic 80, 3) := by decide +kernel
theorem d_X_name_67 : decode (pw_cc cx_X_name) 67 = .ok (.aload_n 3, 1) := by decide +kernel
theorem d_X_name_68 : decode (pw_cc cx_X_name) 68 = .ok (.getfield 298, 3) := by decide +kernel
theorem d_X_name_71 : decode (pw_cc cx_X_name) 71 = .ok (.invokeinterface 88 1, 5) := by decide +kernel
theorem d_X_name_76 : decode (pw_cc cx_X_name) 76 = .ok (.iconst 3, 1) := by decide +kernel
theorem d_X_name_77 : decode (pw_cc cx_X_name) 77 = .ok (.if_icmp .ge 7, 3) := by decide +kernel
theorem d_X_name_80 : decode (pw_cc cx_X_name) 80 = .ok (.iconst 1, 1) := by decide +kernel
theorem d_X_name_81 : decode (pw_cc cx_X_name) 81 = .ok (.goto 4, 3) := by decide +kernel
theorem d_X_name_84 : decode (pw_cc cx_X_name) 84 = .ok (.iconst 0, 1) := by decide +kernel
theorem d_X_name_85 : decode (pw_cc cx_X_name) 85 = .ok (.invokestatic 80, 3) := by decide +kernel
theorem d_X_name_88 : decode (pw_cc cx_X_name) 88 = .ok (.aload_n 3, 1) := by decide +kernel
theorem d_X_name_89 : decode (pw_cc cx_X_name) 89 = .ok (.getfield 298, 3) := by decide +kernel
theorem d_X_name_92 : decode (pw_cc cx_X_name) 92 = .ok (.aload 4, 2) := by decide +kernel
theorem d_X_name_94 : decode (pw_cc cx_X_name) 94 = .ok (.invokeinterface 45 2, 5) := by decide +kernel
theorem d_X_name_99 : decode (pw_cc cx_X_name) 99 = .ok (.pop, 1) := by decide +kernel
theorem d_X_name_100 : decode (pw_cc cx_X_name) 100 = .ok (.aload_n 3, 1) := by decide +kernel
theorem d_X_name_101 : decode (pw_cc cx_X_name) 101 = .ok (.getfield 298, 3) := by decide +kernel
theorem d_X_name_104 : decode (pw_cc cx_X_name) 104 = .ok (.invokeinterface 88 1, 5) := by decide +kernel
theorem d_X_name_109 : decode (pw_cc cx_X_name) 109 = .ok (.ireturn, 1) := by decide +kernel
set_option maxHeartbeats 4000000 in
set_option maxRecDepth 20000 in
def jp_X_name_85 (Q : pw_W → Int32 → Prop) (X : pw_W → Nat → Prop) (a3 a4 s0 : Int32) (w : pw_W) : Prop := wp_X_checkState w s0 (fun w1 r2 => 0 ≤ a3 ∧ 0 ≤ (w1.1 4 (pw_i a3) 1) ∧ 0 ≤ a4 ∧ pw_lg w1 24 (pw_i (w1.1 4 (pw_i a3) 1)) ∧ ∀ w7, w7 = pw_la w1 24 (pw_i (w1.1 4 (pw_i a3) 1)) a4 → 0 ≤ (w7.1 4 (pw_i a3) 1) ∧ Q w7 (nI (pw_ln w7 24 (pw_i (w7.1 4 (pw_i a3) 1))))) X
set_option maxHeartbeats 4000000 in
set_option maxRecDepth 20000 in
theorem vjp_X_name_85 {l : Launch} {g : pw_G} {Q : pw_W → Int32 → Prop} {X : pw_W → Nat → Prop} (hl0 : l.stackTraces = false) (a3 a4 s0 : Int32) (w : pw_W) (h : jp_X_name_85 Q X a3 a4 s0 w) : pw_V l g cx_X_name Q X 85 [(1, 0), (1, 0), (1, 0), (6, a3), (6, a4)] [(0, s0)] w := by
  unfold jp_X_name_85 at h
  refine pv_callS (n := 88) [(0, s0)] [] (con_X_checkState hl0 h) q_124 q_125 q_62 q_123 pyo_X_checkState (by decide) rfl rfl d_X_name_85 rfl (fun w1 r2 h _ => ?_) (fun _ _ h => pvx_out rfl h)
  show pw_V l g cx_X_name Q X 88 [(1, 0), (1, 0), (1, 0), (6, a3), (6, a4)] [] w1
  refine pv_aload_n (n := 89) d_X_name_88 rfl rfl rfl ?_
  obtain ⟨g3, h⟩ := h
  refine gt_X_298 (n := 92) rfl d_X_name_89 g3 rfl ?_
  refine pv_aload (n := 94) d_X_name_92 rfl rfl ?_
  obtain ⟨g4, h⟩ := h
  obtain ⟨g5, h⟩ := h
  obtain ⟨g6, h⟩ := h
  refine pv_ladd (n := 99) (f := 24) (F := 4) (by decide) rfl q_44 (by decide) rfl d_X_name_94 g4 g5 g6 rfl (fun w7 e8 => ?_)
  replace h := h w7 e8
  refine pv_pop (n := 100) d_X_name_99 (by decide) rfl ?_
  refine pv_aload_n (n := 101) d_X_name_100 rfl rfl rfl ?_
  refine gt_X_298 (n := 104) rfl d_X_name_101 g3 rfl ?_
  obtain ⟨g9, h⟩ := h
  refine pv_lsize (n := 109) (f := 24) (by decide) q_49 (by decide) rfl d_X_name_104 g9 rfl ?_
  exact pv_iret rfl rfl d_X_name_109 h
set_option maxHeartbeats 4000000 in
set_option maxRecDepth 20000 in
def jp_X_name_64 (Q : pw_W → Int32 → Prop) (X : pw_W → Nat → Prop) (a3 a4 s0 : Int32) (w : pw_W) : Prop := wp_X_checkState w s0 (fun w10 r11 => 0 ≤ a3 ∧ 0 ≤ (w10.1 4 (pw_i a3) 1) ∧ ((3 : Int32) ≤ (nI (pw_ln w10 24 (pw_i (w10.1 4 (pw_i a3) 1)))) → jp_X_name_85 Q X a3 a4 0 w10) ∧ (¬ (3 : Int32) ≤ (nI (pw_ln w10 24 (pw_i (w10.1 4 (pw_i a3) 1)))) → jp_X_name_85 Q X a3 a4 1 w10)) X
set_option maxHeartbeats 4000000 in
set_option maxRecDepth 20000 in
theorem vjp_X_name_64 {l : Launch} {g : pw_G} {Q : pw_W → Int32 → Prop} {X : pw_W → Nat → Prop} (hl0 : l.stackTraces = false) (a3 a4 s0 : Int32) (w : pw_W) (h : jp_X_name_64 Q X a3 a4 s0 w) : pw_V l g cx_X_name Q X 64 [(1, 0), (1, 0), (1, 0), (6, a3), (6, a4)] [(0, s0)] w := by
  unfold jp_X_name_64 at h
  refine pv_callS (n := 67) [(0, s0)] [] (con_X_checkState hl0 h) q_124 q_125 q_62 q_123 pyo_X_checkState (by decide) rfl rfl d_X_name_64 rfl (fun w10 r11 h _ => ?_) (fun _ _ h => pvx_out rfl h)
  show pw_V l g cx_X_name Q X 67 [(1, 0), (1, 0), (1, 0), (6, a3), (6, a4)] [] w10
  refine pv_aload_n (n := 68) d_X_name_67 rfl rfl rfl ?_
  obtain ⟨g12, h⟩ := h
  refine gt_X_298 (n := 71) rfl d_X_name_68 g12 rfl ?_
  obtain ⟨g13, h⟩ := h
  refine pv_lsize (n := 76) (f := 24) (by decide) q_49 (by decide) rfl d_X_name_71 g13 rfl ?_
  refine pv_iconst (v := 3) (n := 77) d_X_name_76 (by decide) rfl ?_
  refine pv_icmp_ge (n := 80) (tgt := 84) d_X_name_77 (by decide) rfl (fun c14 => ?_) (fun c14 => ?_)
  · replace h := h.1 c14
    refine pv_iconst (v := 0) (n := 85) d_X_name_84 (by decide) rfl ?_
    exact vjp_X_name_85 hl0 _ _ _ _ h
  · replace h := h.2 c14
    refine pv_iconst (v := 1) (n := 81) d_X_name_80 (by decide) rfl ?_
    refine pv_goto (tgt := 85) d_X_name_81 (by decide) ?_
    exact vjp_X_name_85 hl0 _ _ _ _ h
set_option maxHeartbeats 4000000 in
set_option maxRecDepth 20000 in
def jp_X_name_47 (Q : pw_W → Int32 → Prop) (X : pw_W → Nat → Prop) (a3 a4 s0 : Int32) (w : pw_W) : Prop := wp_X_checkState w s0 (fun w15 r16 => 0 ≤ a3 ∧ wp_Person_hasNamed w15 a3 a4 (fun w17 r18 => (¬ r18 = 0 → jp_X_name_64 Q X a3 a4 0 w17) ∧ (r18 = 0 → jp_X_name_64 Q X a3 a4 1 w17)) (fun _ _ => False)) X
set_option maxHeartbeats 4000000 in
set_option maxRecDepth 20000 in
theorem vjp_X_name_47 {l : Launch} {g : pw_G} {Q : pw_W → Int32 → Prop} {X : pw_W → Nat → Prop} (hl0 : l.stackTraces = false) (a3 a4 s0 : Int32) (w : pw_W) (h : jp_X_name_47 Q X a3 a4 s0 w) : pw_V l g cx_X_name Q X 47 [(1, 0), (1, 0), (1, 0), (6, a3), (6, a4)] [(0, s0)] w := by
  unfold jp_X_name_47 at h
  refine pv_callS (n := 50) [(0, s0)] [] (con_X_checkState hl0 h) q_124 q_125 q_62 q_123 pyo_X_checkState (by decide) rfl rfl d_X_name_47 rfl (fun w15 r16 h _ => ?_) (fun _ _ h => pvx_out rfl h)
  show pw_V l g cx_X_name Q X 50 [(1, 0), (1, 0), (1, 0), (6, a3), (6, a4)] [] w15
  refine pv_aload_n (n := 51) d_X_name_50 rfl rfl rfl ?_
  refine pv_aload (n := 53) d_X_name_51 rfl rfl ?_
  obtain ⟨g19, h⟩ := h
  refine pv_callV (n := 56) (x := a3) [(6, a4)] [] (con_Person_hasNamed hl0 h) pw_cf4 rfl q_366 q_367 q_368 q_25 q_365 pyo_Person_hasNamed (by decide) rfl rfl g19 d_X_name_53 rfl (fun w17 r18 h _ => ?_) (fun _ _ h => h.elim)
  show pw_V l g cx_X_name Q X 56 [(1, 0), (1, 0), (1, 0), (6, a3), (6, a4)] [(0, r18)] w17
  refine pv_if_ne (n := 59) (tgt := 63) d_X_name_56 (by decide) rfl (fun c20 => ?_) (fun c20 => ?_)
  · replace h := h.1 c20
    refine pv_iconst (v := 0) (n := 64) d_X_name_63 (by decide) rfl ?_
    exact vjp_X_name_64 hl0 _ _ _ _ h
  · replace h := h.2 c20
    refine pv_iconst (v := 1) (n := 60) d_X_name_59 (by decide) rfl ?_
    refine pv_goto (tgt := 64) d_X_name_60 (by decide) ?_
    exact vjp_X_name_64 hl0 _ _ _ _ h
set_option maxHeartbeats 4000000 in
set_option maxRecDepth 20000 in
def jp_X_name_33 (Q : pw_W → Int32 → Prop) (X : pw_W → Nat → Prop) (a3 a4 s0 : Int32) (w : pw_W) : Prop := wp_X_checkState w s0 (fun w21 r22 => (a3 = a4 → jp_X_name_47 Q X a3 a4 0 w21) ∧ (¬ a3 = a4 → jp_X_name_47 Q X a3 a4 1 w21)) X
set_option maxHeartbeats 4000000 in
set_option maxRecDepth 20000 in
theorem vjp_X_name_33 {l : Launch} {g : pw_G} {Q : pw_W → Int32 → Prop} {X : pw_W → Nat → Prop} (hl0 : l.stackTraces = false) (a3 a4 s0 : Int32) (w : pw_W) (h : jp_X_name_33 Q X a3 a4 s0 w) : pw_V l g cx_X_name Q X 33 [(1, 0), (1, 0), (1, 0), (6, a3), (6, a4)] [(0, s0)] w := by
  unfold jp_X_name_33 at h
  refine pv_callS (n := 36) [(0, s0)] [] (con_X_checkState hl0 h) q_124 q_125 q_62 q_123 pyo_X_checkState (by decide) rfl rfl d_X_name_33 rfl (fun w21 r22 h _ => ?_) (fun _ _ h => pvx_out rfl h)
  show pw_V l g cx_X_name Q X 36 [(1, 0), (1, 0), (1, 0), (6, a3), (6, a4)] [] w21
  refine pv_aload_n (n := 37) d_X_name_36 rfl rfl rfl ?_
  refine pv_aload (n := 39) d_X_name_37 rfl rfl ?_
  refine pv_acmp_eq (n := 42) (tgt := 46) d_X_name_39 (by decide) (by decide) rfl (fun c23 => ?_) (fun c23 => ?_)
  · replace h := h.1 c23
    refine pv_iconst (v := 0) (n := 47) d_X_name_46 (by decide) rfl ?_
    exact vjp_X_name_47 hl0 _ _ _ _ h
  · replace h := h.2 c23
    refine pv_iconst (v := 1) (n := 43) d_X_name_42 (by decide) rfl ?_
    refine pv_goto (tgt := 47) d_X_name_43 (by decide) ?_
    exact vjp_X_name_47 hl0 _ _ _ _ h
set_option maxHeartbeats 4000000 in
set_option maxRecDepth 20000 in
def jp_X_name_32 (Q : pw_W → Int32 → Prop) (X : pw_W → Nat → Prop) (a3 a4 : Int32) (w : pw_W) : Prop := jp_X_name_33 Q X a3 a4 0 w
set_option maxHeartbeats 4000000 in
set_option maxRecDepth 20000 in
theorem vjp_X_name_32 {l : Launch} {g : pw_G} {Q : pw_W → Int32 → Prop} {X : pw_W → Nat → Prop} (hl0 : l.stackTraces = false) (a3 a4 : Int32) (w : pw_W) (h : jp_X_name_32 Q X a3 a4 w) : pw_V l g cx_X_name Q X 32 [(1, 0), (1, 0), (1, 0), (6, a3), (6, a4)] [] w := by
  unfold jp_X_name_32 at h
  refine pv_iconst (v := 0) (n := 33) d_X_name_32 (by decide) rfl ?_
  exact vjp_X_name_33 hl0 _ _ _ _ h
set_option maxHeartbeats 4000000 in
set_option maxRecDepth 20000 in
def wp_X_name (w : pw_W) (a1 a2 : Int32) (Q : pw_W → Int32 → Prop) (X : pw_W → Nat → Prop) : Prop := wp_X_personNumbered w a1 (fun w24 r25 => wp_X_personNumbered w24 a2 (fun w26 r27 => 0 ≤ r25 ∧ ((w26.1 4 (pw_i r25) 2) = 0 → jp_X_name_32 Q X r25 r27 w26) ∧ (¬ (w26.1 4 (pw_i r25) 2) = 0 → 0 ≤ r27 ∧ ((w26.1 4 (pw_i r27) 2) = 0 → jp_X_name_32 Q X r25 r27 w26) ∧ (¬ (w26.1 4 (pw_i r27) 2) = 0 → jp_X_name_33 Q X r25 r27 1 w26))) X) X
set_option maxHeartbeats 4000000 in
set_option maxRecDepth 20000 in
theorem vw_X_name {l : Launch} {g : pw_G} {Q : pw_W → Int32 → Prop} {X : pw_W → Nat → Prop} (hl0 : l.stackTraces = false) {w : pw_W} {a1 a2 : Int32} (h : wp_X_name w a1 a2 Q X) : pw_V l g cx_X_name Q X 0 [(9, 0), (0, a1), (0, a2), (1, 0), (1, 0)] [] w := by
  unfold wp_X_name at h
  refine pv_aload_n (n := 1) d_X_name_0 rfl rfl rfl ?_
  refine pv_iload_n (n := 2) d_X_name_1 rfl rfl rfl ?_
  refine pv_callV (n := 5) (x := 0) [(0, a1)] [] (con_X_personNumbered hl0 h) pw_cf7 rfl q_139 q_140 q_141 q_62 q_138 pyo_X_personNumbered (by decide) rfl rfl (by decide) d_X_name_2 rfl (fun w24 r25 h _ => ?_) (fun _ _ h => pvx_out rfl h)
  show pw_V l g cx_X_name Q X 5 [(9, 0), (0, a1), (0, a2), (1, 0), (1, 0)] [(6, r25)] w24
  refine pv_astore_n (n := 6) (L' := [(9, 0), (0, a1), (0, a2), (6, r25), (1, 0)]) d_X_name_5 rfl (by decide) rfl rfl ?_
  refine pv_aload_n (n := 7) d_X_name_6 rfl rfl rfl ?_
  refine pv_iload_n (n := 8) d_X_name_7 rfl rfl rfl ?_
  refine pv_callV (n := 11) (x := 0) [(0, a2)] [] (con_X_personNumbered hl0 h) pw_cf7 rfl q_139 q_140 q_141 q_62 q_138 pyo_X_personNumbered (by decide) rfl rfl (by decide) d_X_name_8 rfl (fun w26 r27 h _ => ?_) (fun _ _ h => pvx_out rfl h)
  show pw_V l g cx_X_name Q X 11 [(9, 0), (0, a1), (0, a2), (6, r25), (1, 0)] [(6, r27)] w26
  refine pv_astore (n := 13) (L' := [(9, 0), (0, a1), (0, a2), (6, r25), (6, r27)]) d_X_name_11 (by decide) rfl rfl ?_
  refine pv_aload_n (n := 14) d_X_name_13 rfl rfl rfl ?_
  obtain ⟨g28, h⟩ := h
  refine gt_X_76 (n := 17) rfl d_X_name_14 g28 rfl ?_
  refine pv_if_eq (n := 20) (tgt := 32) d_X_name_17 (by decide) rfl (fun c29 => ?_) (fun c29 => ?_)
  · replace h := h.1 c29
    refine pv_unset (i := 0) (L1 := [(1, 0), (0, a1), (0, a2), (6, r25), (6, r27)]) rfl ?_
    refine pv_unset (i := 1) (L1 := [(1, 0), (1, 0), (0, a2), (6, r25), (6, r27)]) rfl ?_
    refine pv_unset (i := 2) (L1 := [(1, 0), (1, 0), (1, 0), (6, r25), (6, r27)]) rfl ?_
    exact vjp_X_name_32 hl0 _ _ _ h
  · replace h := h.2 c29
    refine pv_aload (n := 22) d_X_name_20 rfl rfl ?_
    obtain ⟨g30, h⟩ := h
    refine gt_X_76 (n := 25) rfl d_X_name_22 g30 rfl ?_
    refine pv_if_eq (n := 28) (tgt := 32) d_X_name_25 (by decide) rfl (fun c31 => ?_) (fun c31 => ?_)
    · replace h := h.1 c31
      refine pv_unset (i := 0) (L1 := [(1, 0), (0, a1), (0, a2), (6, r25), (6, r27)]) rfl ?_
      refine pv_unset (i := 1) (L1 := [(1, 0), (1, 0), (0, a2), (6, r25), (6, r27)]) rfl ?_
      refine pv_unset (i := 2) (L1 := [(1, 0), (1, 0), (1, 0), (6, r25), (6, r27)]) rfl ?_
      exact vjp_X_name_32 hl0 _ _ _ h
    · replace h := h.2 c31
      refine pv_iconst (v := 1) (n := 29) d_X_name_28 (by decide) rfl ?_
      refine pv_goto (tgt := 33) d_X_name_29 (by decide) ?_
      refine pv_unset (i := 0) (L1 := [(1, 0), (0, a1), (0, a2), (6, r25), (6, r27)]) rfl ?_
      refine pv_unset (i := 1) (L1 := [(1, 0), (1, 0), (0, a2), (6, r25), (6, r27)]) rfl ?_
      refine pv_unset (i := 2) (L1 := [(1, 0), (1, 0), (1, 0), (6, r25), (6, r27)]) rfl ?_
      exact vjp_X_name_33 hl0 _ _ _ _ h
set_option maxHeartbeats 4000000 in
set_option maxRecDepth 20000 in
theorem con_X_name {l : Launch} {g : pw_G} {Q : pw_W → Int32 → Prop} {X : pw_W → Nat → Prop} (hl0 : l.stackTraces = false) {w : pw_W} {a1 a2 : Int32} (h : wp_X_name w a1 a2 Q X) : pw_Con l g y_X_name cx_X_name [(9, 0), (0, a1), (0, a2)] w Q X :=
  pw_con (by decide +kernel) rfl rfl hl0 rfl (Nat.le_of_ble_eq_true rfl) (by simp) (vw_X_name hl0 h)
theorem d_X_endMapsOf_0 : decode (pw_cc cx_X_endMapsOf) 0 = .ok (.aload_n 0, 1) := by decide +kernel
theorem d_X_endMapsOf_1 : decode (pw_cc cx_X_endMapsOf) 1 = .ok (.getfield 28, 3) := by decide +kernel
theorem d_X_endMapsOf_4 : decode (pw_cc cx_X_endMapsOf) 4 = .ok (.invokeinterface 88 1, 5) := by decide +kernel
theorem d_X_endMapsOf_9 : decode (pw_cc cx_X_endMapsOf) 9 = .ok (.iconst 1, 1) := by decide +kernel
theorem d_X_endMapsOf_10 : decode (pw_cc cx_X_endMapsOf) 10 = .ok (.isub, 1) := by decide +kernel
theorem d_X_endMapsOf_11 : decode (pw_cc cx_X_endMapsOf) 11 = .ok (.istore_n 2, 1) := by decide +kernel
theorem d_X_endMapsOf_12 : decode (pw_cc cx_X_endMapsOf) 12 = .ok (.iload_n 2, 1) := by decide +kernel
theorem d_X_endMapsOf_13 : decode (pw_cc cx_X_endMapsOf) 13 = .ok (.ifCond .lt 40, 3) := by decide +kernel
theorem d_X_endMapsOf_16 : decode (pw_cc cx_X_endMapsOf) 16 = .ok (.aload_n 0, 1) := by decide +kernel
theorem d_X_endMapsOf_17 : decode (pw_cc cx_X_endMapsOf) 17 = .ok (.getfield 28, 3) := by decide +kernel
theorem d_X_endMapsOf_20 : decode (pw_cc cx_X_endMapsOf) 20 = .ok (.iload_n 2, 1) := by decide +kernel
theorem d_X_endMapsOf_21 : decode (pw_cc cx_X_endMapsOf) 21 = .ok (.invokeinterface 382 2, 5) := by decide +kernel
theorem d_X_endMapsOf_26 : decode (pw_cc cx_X_endMapsOf) 26 = .ok (.checkcast 137, 3) := by decide +kernel
theorem d_X_endMapsOf_29 : decode (pw_cc cx_X_endMapsOf) 29 = .ok (.getfield 392, 3) := by decide +kernel
theorem d_X_endMapsOf_32 : decode (pw_cc cx_X_endMapsOf) 32 = .ok (.aload_n 1, 1) := by decide +kernel
theorem d_X_endMapsOf_33 : decode (pw_cc cx_X_endMapsOf) 33 = .ok (.if_acmp .ne 14, 3) := by decide +kernel
theorem d_X_endMapsOf_36 : decode (pw_cc cx_X_endMapsOf) 36 = .ok (.aload_n 0, 1) := by decide +kernel
theorem d_X_endMapsOf_37 : decode (pw_cc cx_X_endMapsOf) 37 = .ok (.getfield 28, 3) := by decide +kernel
theorem d_X_endMapsOf_40 : decode (pw_cc cx_X_endMapsOf) 40 = .ok (.iload_n 2, 1) := by decide +kernel
theorem d_X_endMapsOf_41 : decode (pw_cc cx_X_endMapsOf) 41 = .ok (.invokeinterface 266 2, 5) := by decide +kernel
theorem d_X_endMapsOf_46 : decode (pw_cc cx_X_endMapsOf) 46 = .ok (.pop, 1) := by decide +kernel
theorem d_X_endMapsOf_47 : decode (pw_cc cx_X_endMapsOf) 47 = .ok (.iinc 2 (-1), 3) := by decide +kernel
theorem d_X_endMapsOf_50 : decode (pw_cc cx_X_endMapsOf) 50 = .ok (.goto (-38), 3) := by decide +kernel
theorem d_X_endMapsOf_53 : decode (pw_cc cx_X_endMapsOf) 53 = .ok (.return_, 1) := by decide +kernel
set_option maxHeartbeats 4000000 in
set_option maxRecDepth 20000 in
def lp_X_endMapsOf_12 (Q : pw_W → Int32 → Prop) (X : pw_W → Nat → Prop) : Nat → Int32 → Int32 → pw_W → Prop := fun k => Nat.rec (motive := fun _ => Int32 → Int32 → pw_W → Prop) (fun _ _ _ => False) (fun _ ih a1 a2 w => (a2 < 0 → Q w 0) ∧ (¬ a2 < 0 → w.1 7 0 3 = 0 ∧ pw_jn a2 (pw_ln w 22 0) ∧ 0 ≤ (w.1 22 0 (pw_i a2)) ∧ (¬ (w.1 2 (pw_i (w.1 22 0 (pw_i a2))) 0) = a1 → ih a1 (a2 + (-1)) w) ∧ ((w.1 2 (pw_i (w.1 22 0 (pw_i a2))) 0) = a1 → w.1 7 0 3 = 0 ∧ pw_jn a2 (pw_ln w 22 0) ∧ ∀ w8, w8 = pw_lr w 22 0 (pw_i a2) → ih a1 (a2 + (-1)) w8))) k
set_option maxHeartbeats 4000000 in
set_option maxRecDepth 20000 in
theorem lp_X_endMapsOf_12_s {Q : pw_W → Int32 → Prop} {X : pw_W → Nat → Prop}  {k : Nat} {a1 a2 : Int32} {w : pw_W} : lp_X_endMapsOf_12 Q X (k + 1) a1 a2 w = (let ih := lp_X_endMapsOf_12 Q X k; (a2 < 0 → Q w 0) ∧ (¬ a2 < 0 → w.1 7 0 3 = 0 ∧ pw_jn a2 (pw_ln w 22 0) ∧ 0 ≤ (w.1 22 0 (pw_i a2)) ∧ (¬ (w.1 2 (pw_i (w.1 22 0 (pw_i a2))) 0) = a1 → ih a1 (a2 + (-1)) w) ∧ ((w.1 2 (pw_i (w.1 22 0 (pw_i a2))) 0) = a1 → w.1 7 0 3 = 0 ∧ pw_jn a2 (pw_ln w 22 0) ∧ ∀ w8, w8 = pw_lr w 22 0 (pw_i a2) → ih a1 (a2 + (-1)) w8))) := rfl
set_option maxHeartbeats 4000000 in
set_option maxRecDepth 20000 in
theorem vlp_X_endMapsOf_12 {l : Launch} {g : pw_G} {Q : pw_W → Int32 → Prop} {X : pw_W → Nat → Prop} (hl0 : l.stackTraces = false) : ∀ (k : Nat) (a1 a2 : Int32) (w : pw_W), lp_X_endMapsOf_12 Q X k a1 a2 w → pw_V l g cx_X_endMapsOf Q X 12 [(9, 0), (6, a1), (0, a2)] [] w := by
  intro k; induction k with
  | zero => intro _ _ _ h; exact h.elim
  | succ k ih =>
    intro a1 a2 w h
    rw [lp_X_endMapsOf_12_s] at h
    refine pv_iload_n (n := 13) d_X_endMapsOf_12 rfl rfl rfl ?_
    refine pv_if_lt (n := 16) (tgt := 53) d_X_endMapsOf_13 (by decide) rfl (fun c1 => ?_) (fun c1 => ?_)
    · replace h := h.1 c1
      exact pv_vret rfl rfl d_X_endMapsOf_53 h
    · replace h := h.2 c1
      refine pv_aload_n (n := 17) d_X_endMapsOf_16 rfl rfl rfl ?_
      obtain ⟨g2, h⟩ := h
      refine gt_X_28 (n := 20) rfl d_X_endMapsOf_17 (by decide) g2 rfl ?_
      refine pv_iload_n (n := 21) d_X_endMapsOf_20 rfl rfl rfl ?_
      obtain ⟨g3, h⟩ := h
      refine pv_lget (n := 26) (f := 22) (F := 2) (by decide) rfl q_52 (by decide) rfl d_X_endMapsOf_21 (by decide) g3 rfl (fun _ => ?_)
      refine pv_cast (n := 29) pw_cf2 q_177 d_X_endMapsOf_26 rfl ?_
      obtain ⟨g4, h⟩ := h
      refine gt_X_392 (n := 32) rfl d_X_endMapsOf_29 g4 rfl ?_
      refine pv_aload_n (n := 33) d_X_endMapsOf_32 rfl rfl rfl ?_
      refine pv_acmp_ne (n := 36) (tgt := 47) d_X_endMapsOf_33 (by decide) (by decide) rfl (fun c5 => ?_) (fun c5 => ?_)
      · replace h := h.1 c5
        refine pv_iinc (v := (a2 + (-1))) (n := 50) (L1 := [(9, 0), (6, a1), (0, (a2 + (-1)))]) d_X_endMapsOf_47 rfl rfl rfl (by decide) rfl ?_
        refine pv_goto (tgt := 12) d_X_endMapsOf_50 (by decide) ?_
        exact ih _ _ _ h
      · replace h := h.2 c5
        refine pv_aload_n (n := 37) d_X_endMapsOf_36 rfl rfl rfl ?_
        obtain ⟨g6, h⟩ := h
        refine gt_X_28 (n := 40) rfl d_X_endMapsOf_37 (by decide) g6 rfl ?_
        refine pv_iload_n (n := 41) d_X_endMapsOf_40 rfl rfl rfl ?_
        obtain ⟨g7, h⟩ := h
        refine pv_lrem (n := 46) (f := 22) (F := 2) (by decide) rfl q_369 (by decide) rfl d_X_endMapsOf_41 (by decide) g7 rfl (fun w8 e9 => ?_)
        replace h := h w8 e9
        refine pv_pop (n := 47) d_X_endMapsOf_46 (by decide) rfl ?_
        refine pv_iinc (v := (a2 + (-1))) (n := 50) (L1 := [(9, 0), (6, a1), (0, (a2 + (-1)))]) d_X_endMapsOf_47 rfl rfl rfl (by decide) rfl ?_
        refine pv_goto (tgt := 12) d_X_endMapsOf_50 (by decide) ?_
        exact ih _ _ _ h
set_option maxHeartbeats 4000000 in
set_option maxRecDepth 20000 in
def wp_X_endMapsOf (w : pw_W) (a1 : Int32) (Q : pw_W → Int32 → Prop) (X : pw_W → Nat → Prop) : Prop := w.1 7 0 3 = 0 ∧ ∀ v11, v11 = ((nI (pw_ln w 22 0)) - 1) → ∃ k13, lp_X_endMapsOf_12 Q X k13 a1 v11 w
set_option maxHeartbeats 4000000 in
set_option maxRecDepth 20000 in
theorem vw_X_endMapsOf {l : Launch} {g : pw_G} {Q : pw_W → Int32 → Prop} {X : pw_W → Nat → Prop} (hl0 : l.stackTraces = false) {w : pw_W} {a1 : Int32} (h : wp_X_endMapsOf w a1 Q X) : pw_V l g cx_X_endMapsOf Q X 0 [(9, 0), (6, a1), (1, 0)] [] w := by
  unfold wp_X_endMapsOf at h
  refine pv_aload_n (n := 1) d_X_endMapsOf_0 rfl rfl rfl ?_
  obtain ⟨g10, h⟩ := h
  refine gt_X_28 (n := 4) rfl d_X_endMapsOf_1 (by decide) g10 rfl ?_
  refine pv_lsize (n := 9) (f := 22) (by decide) q_49 (by decide) rfl d_X_endMapsOf_4 (by decide) rfl ?_
  refine pv_iconst (v := 1) (n := 10) d_X_endMapsOf_9 (by decide) rfl ?_
  refine pv_isub (n := 11) d_X_endMapsOf_10 rfl ?_
  refine pv_nm (fun v11 e12 => ?_)
  replace h := h v11 e12
  refine pv_istore_n (n := 12) (L' := [(9, 0), (6, a1), (0, v11)]) d_X_endMapsOf_11 rfl (by decide) rfl rfl ?_
  obtain ⟨k13, h⟩ := h
  exact vlp_X_endMapsOf_12 hl0 _ _ _ _ h
set_option maxHeartbeats 4000000 in
set_option maxRecDepth 20000 in
theorem con_X_endMapsOf {l : Launch} {g : pw_G} {Q : pw_W → Int32 → Prop} {X : pw_W → Nat → Prop} (hl0 : l.stackTraces = false) {w : pw_W} {a1 : Int32} (h : wp_X_endMapsOf w a1 Q X) : pw_Con l g y_X_endMapsOf cx_X_endMapsOf [(9, 0), (6, a1)] w Q X :=
  pw_con (by decide +kernel) rfl rfl hl0 rfl (Nat.le_of_ble_eq_true rfl) (by simp) (vw_X_endMapsOf hl0 h)
theorem d_X_endRightsOf_0 : decode (pw_cc cx_X_endRightsOf) 0 = .ok (.iconst 0, 1) := by decide +kernel
theorem d_X_endRightsOf_1 : decode (pw_cc cx_X_endRightsOf) 1 = .ok (.istore_n 2, 1) := by decide +kernel
theorem d_X_endRightsOf_2 : decode (pw_cc cx_X_endRightsOf) 2 = .ok (.iload_n 2, 1) := by decide +kernel
theorem d_X_endRightsOf_3 : decode (pw_cc cx_X_endRightsOf) 3 = .ok (.aload_n 0, 1) := by decide +kernel
theorem d_X_endRightsOf_4 : decode (pw_cc cx_X_endRightsOf) 4 = .ok (.getfield 34, 3) := by decide +kernel
theorem d_X_endRightsOf_7 : decode (pw_cc cx_X_endRightsOf) 7 = .ok (.invokeinterface 88 1, 5) := by decide +kernel
theorem d_X_endRightsOf_12 : decode (pw_cc cx_X_endRightsOf) 12 = .ok (.if_icmp .ge 36, 3) := by decide +kernel
theorem d_X_endRightsOf_15 : decode (pw_cc cx_X_endRightsOf) 15 = .ok (.aload_n 0, 1) := by decide +kernel
theorem d_X_endRightsOf_16 : decode (pw_cc cx_X_endRightsOf) 16 = .ok (.getfield 34, 3) := by decide +kernel
theorem d_X_endRightsOf_19 : decode (pw_cc cx_X_endRightsOf) 19 = .ok (.iload_n 2, 1) := by decide +kernel
theorem d_X_endRightsOf_20 : decode (pw_cc cx_X_endRightsOf) 20 = .ok (.invokeinterface 382 2, 5) := by decide +kernel
theorem d_X_endRightsOf_25 : decode (pw_cc cx_X_endRightsOf) 25 = .ok (.checkcast 210, 3) := by decide +kernel
theorem d_X_endRightsOf_28 : decode (pw_cc cx_X_endRightsOf) 28 = .ok (.astore_n 3, 1) := by decide +kernel
theorem d_X_endRightsOf_29 : decode (pw_cc cx_X_endRightsOf) 29 = .ok (.aload_n 3, 1) := by decide +kernel
theorem d_X_endRightsOf_30 : decode (pw_cc cx_X_endRightsOf) 30 = .ok (.getfield 346, 3) := by decide +kernel
theorem d_X_endRightsOf_33 : decode (pw_cc cx_X_endRightsOf) 33 = .ok (.aload_n 1, 1) := by decide +kernel
theorem d_X_endRightsOf_34 : decode (pw_cc cx_X_endRightsOf) 34 = .ok (.if_acmp .ne 8, 3) := by decide +kernel
theorem d_X_endRightsOf_37 : decode (pw_cc cx_X_endRightsOf) 37 = .ok (.aload_n 3, 1) := by decide +kernel
theorem d_X_endRightsOf_38 : decode (pw_cc cx_X_endRightsOf) 38 = .ok (.iconst 1, 1) := by decide +kernel
theorem d_X_endRightsOf_39 : decode (pw_cc cx_X_endRightsOf) 39 = .ok (.putfield 223, 3) := by decide +kernel
theorem d_X_endRightsOf_42 : decode (pw_cc cx_X_endRightsOf) 42 = .ok (.iinc 2 1, 3) := by decide +kernel
theorem d_X_endRightsOf_45 : decode (pw_cc cx_X_endRightsOf) 45 = .ok (.goto (-43), 3) := by decide +kernel
theorem d_X_endRightsOf_48 : decode (pw_cc cx_X_endRightsOf) 48 = .ok (.return_, 1) := by decide +kernel
set_option maxHeartbeats 4000000 in
set_option maxRecDepth 20000 in
def lp_X_endRightsOf_2 (Q : pw_W → Int32 → Prop) (X : pw_W → Nat → Prop) : Nat → Int32 → Int32 → pw_W → Prop := fun k => Nat.rec (motive := fun _ => Int32 → Int32 → pw_W → Prop) (fun _ _ _ => False) (fun _ ih a1 a2 w => w.1 7 0 5 = 0 ∧ ((nI (pw_ln w 25 0)) ≤ a2 → Q w 0) ∧ (¬ (nI (pw_ln w 25 0)) ≤ a2 → w.1 7 0 5 = 0 ∧ pw_jn a2 (pw_ln w 25 0) ∧ ∀ v5, v5 = (w.1 25 0 (pw_i a2)) → 0 ≤ v5 ∧ (¬ (w.1 5 (pw_i v5) 2) = a1 → ih a1 (a2 + 1) w) ∧ ((w.1 5 (pw_i v5) 2) = a1 → ∀ w9, w9 = pw_ps w 5 (pw_i v5) 5 1 → ih a1 (a2 + 1) w9))) k
set_option maxHeartbeats 4000000 in
set_option maxRecDepth 20000 in
theorem lp_X_endRightsOf_2_s {Q : pw_W → Int32 → Prop} {X : pw_W → Nat → Prop}  {k : Nat} {a1 a2 : Int32} {w : pw_W} : lp_X_endRightsOf_2 Q X (k + 1) a1 a2 w = (let ih := lp_X_endRightsOf_2 Q X k; w.1 7 0 5 = 0 ∧ ((nI (pw_ln w 25 0)) ≤ a2 → Q w 0) ∧ (¬ (nI (pw_ln w 25 0)) ≤ a2 → w.1 7 0 5 = 0 ∧ pw_jn a2 (pw_ln w 25 0) ∧ ∀ v5, v5 = (w.1 25 0 (pw_i a2)) → 0 ≤ v5 ∧ (¬ (w.1 5 (pw_i v5) 2) = a1 → ih a1 (a2 + 1) w) ∧ ((w.1 5 (pw_i v5) 2) = a1 → ∀ w9, w9 = pw_ps w 5 (pw_i v5) 5 1 → ih a1 (a2 + 1) w9))) := rfl
set_option maxHeartbeats 4000000 in
set_option maxRecDepth 20000 in
theorem vlp_X_endRightsOf_2 {l : Launch} {g : pw_G} {Q : pw_W → Int32 → Prop} {X : pw_W → Nat → Prop} (hl0 : l.stackTraces = false) : ∀ (k : Nat) (a1 a2 : Int32) (w : pw_W), lp_X_endRightsOf_2 Q X k a1 a2 w → pw_V l g cx_X_endRightsOf Q X 2 [(9, 0), (6, a1), (0, a2), (1, 0)] [] w := by
  intro k; induction k with
  | zero => intro _ _ _ h; exact h.elim
  | succ k ih =>
    intro a1 a2 w h
    rw [lp_X_endRightsOf_2_s] at h
    refine pv_iload_n (n := 3) d_X_endRightsOf_2 rfl rfl rfl ?_
    refine pv_aload_n (n := 4) d_X_endRightsOf_3 rfl rfl rfl ?_
    obtain ⟨g1, h⟩ := h
    refine gt_X_34 (n := 7) rfl d_X_endRightsOf_4 (by decide) g1 rfl ?_
    refine pv_lsize (n := 12) (f := 25) (by decide) q_49 (by decide) rfl d_X_endRightsOf_7 (by decide) rfl ?_
    refine pv_icmp_ge (n := 15) (tgt := 48) d_X_endRightsOf_12 (by decide) rfl (fun c2 => ?_) (fun c2 => ?_)
    · replace h := h.1 c2
      exact pv_vret rfl rfl d_X_endRightsOf_48 h
    · replace h := h.2 c2
      refine pv_aload_n (n := 16) d_X_endRightsOf_15 rfl rfl rfl ?_
      obtain ⟨g3, h⟩ := h
      refine gt_X_34 (n := 19) rfl d_X_endRightsOf_16 (by decide) g3 rfl ?_
      refine pv_iload_n (n := 20) d_X_endRightsOf_19 rfl rfl rfl ?_
      obtain ⟨g4, h⟩ := h
      refine pv_lget (n := 25) (f := 25) (F := 5) (by decide) rfl q_52 (by decide) rfl d_X_endRightsOf_20 (by decide) g4 rfl (fun _ => ?_)
      refine pv_cast (n := 28) pw_cf5 q_53 d_X_endRightsOf_25 rfl ?_
      refine pv_nm (fun v5 e6 => ?_)
      replace h := h v5 e6
      refine pv_astore_n (n := 29) (L' := [(9, 0), (6, a1), (0, a2), (7, v5)]) d_X_endRightsOf_28 rfl (by decide) rfl rfl ?_
      refine pv_aload_n (n := 30) d_X_endRightsOf_29 rfl rfl rfl ?_
      obtain ⟨g7, h⟩ := h
      refine gt_X_346 (n := 33) rfl d_X_endRightsOf_30 g7 rfl ?_
      refine pv_aload_n (n := 34) d_X_endRightsOf_33 rfl rfl rfl ?_
      refine pv_acmp_ne (n := 37) (tgt := 42) d_X_endRightsOf_34 (by decide) (by decide) rfl (fun c8 => ?_) (fun c8 => ?_)
      · replace h := h.1 c8
        refine pv_iinc (v := (a2 + 1)) (n := 45) (L1 := [(9, 0), (6, a1), (0, (a2 + 1)), (7, v5)]) d_X_endRightsOf_42 rfl rfl rfl (by decide) rfl ?_
        refine pv_goto (tgt := 2) d_X_endRightsOf_45 (by decide) ?_
        refine pv_unset (i := 3) (L1 := [(9, 0), (6, a1), (0, (a2 + 1)), (1, 0)]) rfl ?_
        exact ih _ _ _ h
      · replace h := h.2 c8
        refine pv_aload_n (n := 38) d_X_endRightsOf_37 rfl rfl rfl ?_
        refine pv_iconst (v := 1) (n := 39) d_X_endRightsOf_38 (by decide) rfl ?_
        refine pt_X_223 (n := 42) rfl d_X_endRightsOf_39 g7 (by decide) rfl (fun w9 e10 => ?_)
        replace h := h w9 e10
        refine pv_iinc (v := (a2 + 1)) (n := 45) (L1 := [(9, 0), (6, a1), (0, (a2 + 1)), (7, v5)]) d_X_endRightsOf_42 rfl rfl rfl (by decide) rfl ?_
        refine pv_goto (tgt := 2) d_X_endRightsOf_45 (by decide) ?_
        refine pv_unset (i := 3) (L1 := [(9, 0), (6, a1), (0, (a2 + 1)), (1, 0)]) rfl ?_
        exact ih _ _ _ h
set_option maxHeartbeats 4000000 in
set_option maxRecDepth 20000 in
def wp_X_endRightsOf (w : pw_W) (a1 : Int32) (Q : pw_W → Int32 → Prop) (X : pw_W → Nat → Prop) : Prop := ∃ k11, lp_X_endRightsOf_2 Q X k11 a1 0 w
set_option maxHeartbeats 4000000 in
set_option maxRecDepth 20000 in
theorem vw_X_endRightsOf {l : Launch} {g : pw_G} {Q : pw_W → Int32 → Prop} {X : pw_W → Nat → Prop} (hl0 : l.stackTraces = false) {w : pw_W} {a1 : Int32} (h : wp_X_endRightsOf w a1 Q X) : pw_V l g cx_X_endRightsOf Q X 0 [(9, 0), (6, a1), (1, 0), (1, 0)] [] w := by
  unfold wp_X_endRightsOf at h
  refine pv_iconst (v := 0) (n := 1) d_X_endRightsOf_0 (by decide) rfl ?_
  refine pv_istore_n (n := 2) (L' := [(9, 0), (6, a1), (0, 0), (1, 0)]) d_X_endRightsOf_1 rfl (by decide) rfl rfl ?_
  obtain ⟨k11, h⟩ := h
  exact vlp_X_endRightsOf_2 hl0 _ _ _ _ h
set_option maxHeartbeats 4000000 in
set_option maxRecDepth 20000 in
theorem con_X_endRightsOf {l : Launch} {g : pw_G} {Q : pw_W → Int32 → Prop} {X : pw_W → Nat → Prop} (hl0 : l.stackTraces = false) {w : pw_W} {a1 : Int32} (h : wp_X_endRightsOf w a1 Q X) : pw_Con l g y_X_endRightsOf cx_X_endRightsOf [(9, 0), (6, a1)] w Q X :=
  pw_con (by decide +kernel) rfl rfl hl0 rfl (Nat.le_of_ble_eq_true rfl) (by simp) (vw_X_endRightsOf hl0 h)
theorem d_X_endSheepOf_0 : decode (pw_cc cx_X_endSheepOf) 0 = .ok (.iconst 0, 1) := by decide +kernel
theorem d_X_endSheepOf_1 : decode (pw_cc cx_X_endSheepOf) 1 = .ok (.istore_n 2, 1) := by decide +kernel
theorem d_X_endSheepOf_2 : decode (pw_cc cx_X_endSheepOf) 2 = .ok (.iload_n 2, 1) := by decide +kernel
theorem d_X_endSheepOf_3 : decode (pw_cc cx_X_endSheepOf) 3 = .ok (.aload_n 0, 1) := by decide +kernel
theorem d_X_endSheepOf_4 : decode (pw_cc cx_X_endSheepOf) 4 = .ok (.getfield 24, 3) := by decide +kernel
theorem d_X_endSheepOf_7 : decode (pw_cc cx_X_endSheepOf) 7 = .ok (.invokeinterface 88 1, 5) := by decide +kernel
theorem d_X_endSheepOf_12 : decode (pw_cc cx_X_endSheepOf) 12 = .ok (.if_icmp .ge 30, 3) := by decide +kernel
theorem d_X_endSheepOf_15 : decode (pw_cc cx_X_endSheepOf) 15 = .ok (.aload_n 0, 1) := by decide +kernel
theorem d_X_endSheepOf_16 : decode (pw_cc cx_X_endSheepOf) 16 = .ok (.getfield 24, 3) := by decide +kernel
theorem d_X_endSheepOf_19 : decode (pw_cc cx_X_endSheepOf) 19 = .ok (.iload_n 2, 1) := by decide +kernel
theorem d_X_endSheepOf_20 : decode (pw_cc cx_X_endSheepOf) 20 = .ok (.invokeinterface 382 2, 5) := by decide +kernel
theorem d_X_endSheepOf_25 : decode (pw_cc cx_X_endSheepOf) 25 = .ok (.checkcast 40, 3) := by decide +kernel
theorem d_X_endSheepOf_28 : decode (pw_cc cx_X_endSheepOf) 28 = .ok (.aload_n 1, 1) := by decide +kernel
theorem d_X_endSheepOf_29 : decode (pw_cc cx_X_endSheepOf) 29 = .ok (.getfield 230, 3) := by decide +kernel
theorem d_X_endSheepOf_32 : decode (pw_cc cx_X_endSheepOf) 32 = .ok (.iconst 0, 1) := by decide +kernel
theorem d_X_endSheepOf_33 : decode (pw_cc cx_X_endSheepOf) 33 = .ok (.invokevirtual 235, 3) := by decide +kernel
theorem d_X_endSheepOf_36 : decode (pw_cc cx_X_endSheepOf) 36 = .ok (.iinc 2 1, 3) := by decide +kernel
theorem d_X_endSheepOf_39 : decode (pw_cc cx_X_endSheepOf) 39 = .ok (.goto (-37), 3) := by decide +kernel
theorem d_X_endSheepOf_42 : decode (pw_cc cx_X_endSheepOf) 42 = .ok (.return_, 1) := by decide +kernel
set_option maxHeartbeats 4000000 in
set_option maxRecDepth 20000 in
def lp_X_endSheepOf_2 (Q : pw_W → Int32 → Prop) (X : pw_W → Nat → Prop) : Nat → Int32 → Int32 → pw_W → Prop := fun k => Nat.rec (motive := fun _ => Int32 → Int32 → pw_W → Prop) (fun _ _ _ => False) (fun _ ih a1 a2 w => w.1 7 0 2 = 0 ∧ ((nI (pw_ln w 23 0)) ≤ a2 → Q w 0) ∧ (¬ (nI (pw_ln w 23 0)) ≤ a2 → w.1 7 0 2 = 0 ∧ pw_jn a2 (pw_ln w 23 0) ∧ 0 ≤ a1 ∧ 0 ≤ (w.1 23 0 (pw_i a2)) ∧ wp_Parcel_setSheep w (w.1 23 0 (pw_i a2)) (w.1 4 (pw_i a1) 0) 0 (fun w6 r7 => ih a1 (a2 + 1) w6) (fun _ _ => False))) k
set_option maxHeartbeats 4000000 in
set_option maxRecDepth 20000 in
theorem lp_X_endSheepOf_2_s {Q : pw_W → Int32 → Prop} {X : pw_W → Nat → Prop}  {k : Nat} {a1 a2 : Int32} {w : pw_W} : lp_X_endSheepOf_2 Q X (k + 1) a1 a2 w = (let ih := lp_X_endSheepOf_2 Q X k; w.1 7 0 2 = 0 ∧ ((nI (pw_ln w 23 0)) ≤ a2 → Q w 0) ∧ (¬ (nI (pw_ln w 23 0)) ≤ a2 → w.1 7 0 2 = 0 ∧ pw_jn a2 (pw_ln w 23 0) ∧ 0 ≤ a1 ∧ 0 ≤ (w.1 23 0 (pw_i a2)) ∧ wp_Parcel_setSheep w (w.1 23 0 (pw_i a2)) (w.1 4 (pw_i a1) 0) 0 (fun w6 r7 => ih a1 (a2 + 1) w6) (fun _ _ => False))) := rfl
set_option maxHeartbeats 4000000 in
set_option maxRecDepth 20000 in
theorem vlp_X_endSheepOf_2 {l : Launch} {g : pw_G} {Q : pw_W → Int32 → Prop} {X : pw_W → Nat → Prop} (hl0 : l.stackTraces = false) : ∀ (k : Nat) (a1 a2 : Int32) (w : pw_W), lp_X_endSheepOf_2 Q X k a1 a2 w → pw_V l g cx_X_endSheepOf Q X 2 [(9, 0), (6, a1), (0, a2)] [] w := by
  intro k; induction k with
  | zero => intro _ _ _ h; exact h.elim
  | succ k ih =>
    intro a1 a2 w h
    rw [lp_X_endSheepOf_2_s] at h
    refine pv_iload_n (n := 3) d_X_endSheepOf_2 rfl rfl rfl ?_
    refine pv_aload_n (n := 4) d_X_endSheepOf_3 rfl rfl rfl ?_
    obtain ⟨g1, h⟩ := h
    refine gt_X_24 (n := 7) rfl d_X_endSheepOf_4 (by decide) g1 rfl ?_
    refine pv_lsize (n := 12) (f := 23) (by decide) q_49 (by decide) rfl d_X_endSheepOf_7 (by decide) rfl ?_
    refine pv_icmp_ge (n := 15) (tgt := 42) d_X_endSheepOf_12 (by decide) rfl (fun c2 => ?_) (fun c2 => ?_)
    · replace h := h.1 c2
      exact pv_vret rfl rfl d_X_endSheepOf_42 h
    · replace h := h.2 c2
      refine pv_aload_n (n := 16) d_X_endSheepOf_15 rfl rfl rfl ?_
      obtain ⟨g3, h⟩ := h
      refine gt_X_24 (n := 19) rfl d_X_endSheepOf_16 (by decide) g3 rfl ?_
      refine pv_iload_n (n := 20) d_X_endSheepOf_19 rfl rfl rfl ?_
      obtain ⟨g4, h⟩ := h
      refine pv_lget (n := 25) (f := 23) (F := 3) (by decide) rfl q_52 (by decide) rfl d_X_endSheepOf_20 (by decide) g4 rfl (fun _ => ?_)
      refine pv_cast (n := 28) pw_cf3 q_43 d_X_endSheepOf_25 rfl ?_
      refine pv_aload_n (n := 29) d_X_endSheepOf_28 rfl rfl rfl ?_
      obtain ⟨g5, h⟩ := h
      refine gt_X_230 (n := 32) rfl d_X_endSheepOf_29 g5 rfl ?_
      refine pv_iconst (v := 0) (n := 33) d_X_endSheepOf_32 (by decide) rfl ?_
      obtain ⟨g8, h⟩ := h
      refine pv_callV (n := 36) (x := (w.1 23 0 (pw_i a2))) [(0, (w.1 4 (pw_i a1) 0)), (0, 0)] [] (con_Parcel_setSheep hl0 h) pw_cf3 rfl q_152 q_153 q_154 q_46 q_151 pyo_Parcel_setSheep (by decide) rfl rfl g8 d_X_endSheepOf_33 rfl (fun w6 r7 h _ => ?_) (fun _ _ h => h.elim)
      show pw_V l g cx_X_endSheepOf Q X 36 [(9, 0), (6, a1), (0, a2)] [] w6
      refine pv_iinc (v := (a2 + 1)) (n := 39) (L1 := [(9, 0), (6, a1), (0, (a2 + 1))]) d_X_endSheepOf_36 rfl rfl rfl (by decide) rfl ?_
      refine pv_goto (tgt := 2) d_X_endSheepOf_39 (by decide) ?_
      exact ih _ _ _ h
set_option maxHeartbeats 4000000 in
set_option maxRecDepth 20000 in
def wp_X_endSheepOf (w : pw_W) (a1 : Int32) (Q : pw_W → Int32 → Prop) (X : pw_W → Nat → Prop) : Prop := ∃ k9, lp_X_endSheepOf_2 Q X k9 a1 0 w
set_option maxHeartbeats 4000000 in
set_option maxRecDepth 20000 in
theorem vw_X_endSheepOf {l : Launch} {g : pw_G} {Q : pw_W → Int32 → Prop} {X : pw_W → Nat → Prop} (hl0 : l.stackTraces = false) {w : pw_W} {a1 : Int32} (h : wp_X_endSheepOf w a1 Q X) : pw_V l g cx_X_endSheepOf Q X 0 [(9, 0), (6, a1), (1, 0)] [] w := by
  unfold wp_X_endSheepOf at h
  refine pv_iconst (v := 0) (n := 1) d_X_endSheepOf_0 (by decide) rfl ?_
  refine pv_istore_n (n := 2) (L' := [(9, 0), (6, a1), (0, 0)]) d_X_endSheepOf_1 rfl (by decide) rfl rfl ?_
  obtain ⟨k9, h⟩ := h
  exact vlp_X_endSheepOf_2 hl0 _ _ _ _ h
set_option maxHeartbeats 4000000 in
set_option maxRecDepth 20000 in
theorem con_X_endSheepOf {l : Launch} {g : pw_G} {Q : pw_W → Int32 → Prop} {X : pw_W → Nat → Prop} (hl0 : l.stackTraces = false) {w : pw_W} {a1 : Int32} (h : wp_X_endSheepOf w a1 Q X) : pw_Con l g y_X_endSheepOf cx_X_endSheepOf [(9, 0), (6, a1)] w Q X :=
  pw_con (by decide +kernel) rfl rfl hl0 rfl (Nat.le_of_ble_eq_true rfl) (by simp) (vw_X_endSheepOf hl0 h)
theorem d_X_endUsesOf_0 : decode (pw_cc cx_X_endUsesOf) 0 = .ok (.aload_n 0, 1) := by decide +kernel
theorem d_X_endUsesOf_1 : decode (pw_cc cx_X_endUsesOf) 1 = .ok (.getfield 11, 3) := by decide +kernel
theorem d_X_endUsesOf_4 : decode (pw_cc cx_X_endUsesOf) 4 = .ok (.astore_n 2, 1) := by decide +kernel
theorem d_X_endUsesOf_5 : decode (pw_cc cx_X_endUsesOf) 5 = .ok (.aload_n 2, 1) := by decide +kernel
theorem d_X_endUsesOf_6 : decode (pw_cc cx_X_endUsesOf) 6 = .ok (.arraylength, 1) := by decide +kernel
theorem d_X_endUsesOf_7 : decode (pw_cc cx_X_endUsesOf) 7 = .ok (.istore_n 3, 1) := by decide +kernel
theorem d_X_endUsesOf_8 : decode (pw_cc cx_X_endUsesOf) 8 = .ok (.iconst 0, 1) := by decide +kernel
theorem d_X_endUsesOf_9 : decode (pw_cc cx_X_endUsesOf) 9 = .ok (.istore 4, 2) := by decide +kernel
theorem d_X_endUsesOf_11 : decode (pw_cc cx_X_endUsesOf) 11 = .ok (.iload 4, 2) := by decide +kernel
theorem d_X_endUsesOf_13 : decode (pw_cc cx_X_endUsesOf) 13 = .ok (.iload_n 3, 1) := by decide +kernel
theorem d_X_endUsesOf_14 : decode (pw_cc cx_X_endUsesOf) 14 = .ok (.if_icmp .ge 30, 3) := by decide +kernel
theorem d_X_endUsesOf_17 : decode (pw_cc cx_X_endUsesOf) 17 = .ok (.aload_n 2, 1) := by decide +kernel
theorem d_X_endUsesOf_18 : decode (pw_cc cx_X_endUsesOf) 18 = .ok (.iload 4, 2) := by decide +kernel
theorem d_X_endUsesOf_20 : decode (pw_cc cx_X_endUsesOf) 20 = .ok (.aaload, 1) := by decide +kernel
theorem d_X_endUsesOf_21 : decode (pw_cc cx_X_endUsesOf) 21 = .ok (.astore 5, 2) := by decide +kernel
theorem d_X_endUsesOf_23 : decode (pw_cc cx_X_endUsesOf) 23 = .ok (.aload 5, 2) := by decide +kernel
theorem d_X_endUsesOf_25 : decode (pw_cc cx_X_endUsesOf) 25 = .ok (.getfield 142, 3) := by decide +kernel
theorem d_X_endUsesOf_28 : decode (pw_cc cx_X_endUsesOf) 28 = .ok (.aload_n 1, 1) := by decide +kernel
theorem d_X_endUsesOf_29 : decode (pw_cc cx_X_endUsesOf) 29 = .ok (.if_acmp .ne 9, 3) := by decide +kernel
theorem d_X_endUsesOf_32 : decode (pw_cc cx_X_endUsesOf) 32 = .ok (.aload 5, 2) := by decide +kernel
theorem d_X_endUsesOf_34 : decode (pw_cc cx_X_endUsesOf) 34 = .ok (.aconst_null, 1) := by decide +kernel
theorem d_X_endUsesOf_35 : decode (pw_cc cx_X_endUsesOf) 35 = .ok (.putfield 142, 3) := by decide +kernel
theorem d_X_endUsesOf_38 : decode (pw_cc cx_X_endUsesOf) 38 = .ok (.iinc 4 1, 3) := by decide +kernel
theorem d_X_endUsesOf_41 : decode (pw_cc cx_X_endUsesOf) 41 = .ok (.goto (-30), 3) := by decide +kernel
theorem d_X_endUsesOf_44 : decode (pw_cc cx_X_endUsesOf) 44 = .ok (.return_, 1) := by decide +kernel
set_option maxHeartbeats 4000000 in
set_option maxRecDepth 20000 in
def lp_X_endUsesOf_11 (Q : pw_W → Int32 → Prop) (X : pw_W → Nat → Prop) : Nat → Int32 → Int32 → Int32 → pw_W → Prop := fun k => Nat.rec (motive := fun _ => Int32 → Int32 → Int32 → pw_W → Prop) (fun _ _ _ _ => False) (fun _ ih a1 a3 a4 w => (a3 ≤ a4 → Q w 0) ∧ (¬ a3 ≤ a4 → pw_jn a4 (pw_ln w 14 0) ∧ ∀ v3, v3 = (w.1 14 0 (pw_i a4)) → 0 ≤ v3 ∧ (¬ (w.1 6 (pw_i v3) 7) = a1 → ih a1 a3 (a4 + 1) w) ∧ ((w.1 6 (pw_i v3) 7) = a1 → ∀ w7, w7 = pw_ps w 6 (pw_i v3) 7 (-1) → ih a1 a3 (a4 + 1) w7))) k
set_option maxHeartbeats 4000000 in
set_option maxRecDepth 20000 in
theorem lp_X_endUsesOf_11_s {Q : pw_W → Int32 → Prop} {X : pw_W → Nat → Prop}  {k : Nat} {a1 a3 a4 : Int32} {w : pw_W} : lp_X_endUsesOf_11 Q X (k + 1) a1 a3 a4 w = (let ih := lp_X_endUsesOf_11 Q X k; (a3 ≤ a4 → Q w 0) ∧ (¬ a3 ≤ a4 → pw_jn a4 (pw_ln w 14 0) ∧ ∀ v3, v3 = (w.1 14 0 (pw_i a4)) → 0 ≤ v3 ∧ (¬ (w.1 6 (pw_i v3) 7) = a1 → ih a1 a3 (a4 + 1) w) ∧ ((w.1 6 (pw_i v3) 7) = a1 → ∀ w7, w7 = pw_ps w 6 (pw_i v3) 7 (-1) → ih a1 a3 (a4 + 1) w7))) := rfl
set_option maxHeartbeats 4000000 in
set_option maxRecDepth 20000 in
theorem vlp_X_endUsesOf_11 {l : Launch} {g : pw_G} {Q : pw_W → Int32 → Prop} {X : pw_W → Nat → Prop} (hl0 : l.stackTraces = false) : ∀ (k : Nat) (a1 a3 a4 : Int32) (w : pw_W), lp_X_endUsesOf_11 Q X k a1 a3 a4 w → pw_V l g cx_X_endUsesOf Q X 11 [(1, 0), (6, a1), (16, 0), (0, a3), (0, a4), (1, 0)] [] w := by
  intro k; induction k with
  | zero => intro _ _ _ _ h; exact h.elim
  | succ k ih =>
    intro a1 a3 a4 w h
    rw [lp_X_endUsesOf_11_s] at h
    refine pv_iload (n := 13) d_X_endUsesOf_11 rfl rfl ?_
    refine pv_iload_n (n := 14) d_X_endUsesOf_13 rfl rfl rfl ?_
    refine pv_icmp_ge (n := 17) (tgt := 44) d_X_endUsesOf_14 (by decide) rfl (fun c1 => ?_) (fun c1 => ?_)
    · replace h := h.1 c1
      exact pv_vret rfl rfl d_X_endUsesOf_44 h
    · replace h := h.2 c1
      refine pv_aload_n (n := 18) d_X_endUsesOf_17 rfl rfl rfl ?_
      refine pv_iload (n := 20) d_X_endUsesOf_18 rfl rfl ?_
      obtain ⟨g2, h⟩ := h
      refine pv_aald (n := 21) (f := 14) (F := 6) (C := "Peatland$Square") (by decide) (Or.inl ⟨rfl, rfl⟩) (fun _ => rfl) d_X_endUsesOf_20 (by decide) g2 rfl (fun _ => ?_)
      refine pv_nm (fun v3 e4 => ?_)
      replace h := h v3 e4
      refine pv_astore (n := 23) (L' := [(1, 0), (6, a1), (16, 0), (0, a3), (0, a4), (8, v3)]) d_X_endUsesOf_21 (by decide) rfl rfl ?_
      refine pv_aload (n := 25) d_X_endUsesOf_23 rfl rfl ?_
      obtain ⟨g5, h⟩ := h
      refine gt_X_142 (n := 28) rfl d_X_endUsesOf_25 g5 rfl ?_
      refine pv_aload_n (n := 29) d_X_endUsesOf_28 rfl rfl rfl ?_
      refine pv_acmp_ne (n := 32) (tgt := 38) d_X_endUsesOf_29 (by decide) (by decide) rfl (fun c6 => ?_) (fun c6 => ?_)
      · replace h := h.1 c6
        refine pv_iinc (v := (a4 + 1)) (n := 41) (L1 := [(1, 0), (6, a1), (16, 0), (0, a3), (0, (a4 + 1)), (8, v3)]) d_X_endUsesOf_38 rfl rfl rfl (by decide) rfl ?_
        refine pv_goto (tgt := 11) d_X_endUsesOf_41 (by decide) ?_
        refine pv_unset (i := 5) (L1 := [(1, 0), (6, a1), (16, 0), (0, a3), (0, (a4 + 1)), (1, 0)]) rfl ?_
        exact ih _ _ _ _ h
      · replace h := h.2 c6
        refine pv_aload (n := 34) d_X_endUsesOf_32 rfl rfl ?_
        refine pv_null (n := 35) 4 d_X_endUsesOf_34 rfl ?_
        refine pt_X_142 (n := 38) rfl d_X_endUsesOf_35 g5 rfl (fun w7 e8 => ?_)
        replace h := h w7 e8
        refine pv_iinc (v := (a4 + 1)) (n := 41) (L1 := [(1, 0), (6, a1), (16, 0), (0, a3), (0, (a4 + 1)), (8, v3)]) d_X_endUsesOf_38 rfl rfl rfl (by decide) rfl ?_
        refine pv_goto (tgt := 11) d_X_endUsesOf_41 (by decide) ?_
        refine pv_unset (i := 5) (L1 := [(1, 0), (6, a1), (16, 0), (0, a3), (0, (a4 + 1)), (1, 0)]) rfl ?_
        exact ih _ _ _ _ h
set_option maxHeartbeats 4000000 in
set_option maxRecDepth 20000 in
def wp_X_endUsesOf (w : pw_W) (a1 : Int32) (Q : pw_W → Int32 → Prop) (X : pw_W → Nat → Prop) : Prop := w.1 7 0 0 = 0 ∧ ∀ v10, v10 = (nI (pw_ln w 14 0)) → ∃ k12, lp_X_endUsesOf_11 Q X k12 a1 v10 0 w
set_option maxHeartbeats 4000000 in
set_option maxRecDepth 20000 in
theorem vw_X_endUsesOf {l : Launch} {g : pw_G} {Q : pw_W → Int32 → Prop} {X : pw_W → Nat → Prop} (hl0 : l.stackTraces = false) {w : pw_W} {a1 : Int32} (h : wp_X_endUsesOf w a1 Q X) : pw_V l g cx_X_endUsesOf Q X 0 [(9, 0), (6, a1), (1, 0), (1, 0), (1, 0), (1, 0)] [] w := by
  unfold wp_X_endUsesOf at h
  refine pv_aload_n (n := 1) d_X_endUsesOf_0 rfl rfl rfl ?_
  obtain ⟨g9, h⟩ := h
  refine gt_X_11 (n := 4) rfl d_X_endUsesOf_1 (by decide) g9 rfl ?_
  refine pv_astore_n (n := 5) (L' := [(9, 0), (6, a1), (16, 0), (1, 0), (1, 0), (1, 0)]) d_X_endUsesOf_4 rfl (by decide) rfl rfl ?_
  refine pv_aload_n (n := 6) d_X_endUsesOf_5 rfl rfl rfl ?_
  refine pv_alen (n := 7) (f := 14) (by decide) ⟨_, rfl⟩ d_X_endUsesOf_6 (by decide) rfl ?_
  refine pv_nm (fun v10 e11 => ?_)
  replace h := h v10 e11
  refine pv_istore_n (n := 8) (L' := [(9, 0), (6, a1), (16, 0), (0, v10), (1, 0), (1, 0)]) d_X_endUsesOf_7 rfl (by decide) rfl rfl ?_
  refine pv_iconst (v := 0) (n := 9) d_X_endUsesOf_8 (by decide) rfl ?_
  refine pv_istore (n := 11) (L' := [(9, 0), (6, a1), (16, 0), (0, v10), (0, 0), (1, 0)]) d_X_endUsesOf_9 (by decide) rfl rfl ?_
  refine pv_unset (i := 0) (L1 := [(1, 0), (6, a1), (16, 0), (0, v10), (0, 0), (1, 0)]) rfl ?_
  obtain ⟨k12, h⟩ := h
  exact vlp_X_endUsesOf_11 hl0 _ _ _ _ _ h
set_option maxHeartbeats 4000000 in
set_option maxRecDepth 20000 in
theorem con_X_endUsesOf {l : Launch} {g : pw_G} {Q : pw_W → Int32 → Prop} {X : pw_W → Nat → Prop} (hl0 : l.stackTraces = false) {w : pw_W} {a1 : Int32} (h : wp_X_endUsesOf w a1 Q X) : pw_Con l g y_X_endUsesOf cx_X_endUsesOf [(9, 0), (6, a1)] w Q X :=
  pw_con (by decide +kernel) rfl rfl hl0 rfl (Nat.le_of_ble_eq_true rfl) (by simp) (vw_X_endUsesOf hl0 h)
theorem d_Person_livingHeirs_0 : decode (pw_cc cx_Person_livingHeirs) 0 = .ok (.new 7, 3) := by decide +kernel
theorem d_Person_livingHeirs_3 : decode (pw_cc cx_Person_livingHeirs) 3 = .ok (.dup, 1) := by decide +kernel
theorem d_Person_livingHeirs_4 : decode (pw_cc cx_Person_livingHeirs) 4 = .ok (.invokespecial 9, 3) := by decide +kernel
theorem d_Person_livingHeirs_7 : decode (pw_cc cx_Person_livingHeirs) 7 = .ok (.astore_n 1, 1) := by decide +kernel
theorem d_Person_livingHeirs_8 : decode (pw_cc cx_Person_livingHeirs) 8 = .ok (.iconst 0, 1) := by decide +kernel
theorem d_Person_livingHeirs_9 : decode (pw_cc cx_Person_livingHeirs) 9 = .ok (.istore_n 2, 1) := by decide +kernel
theorem d_Person_livingHeirs_10 : decode (pw_cc cx_Person_livingHeirs) 10 = .ok (.iload_n 2, 1) := by decide +kernel
theorem d_Person_livingHeirs_11 : decode (pw_cc cx_Person_livingHeirs) 11 = .ok (.aload_n 0, 1) := by decide +kernel
theorem d_Person_livingHeirs_12 : decode (pw_cc cx_Person_livingHeirs) 12 = .ok (.getfield 10, 3) := by decide +kernel
theorem d_Person_livingHeirs_15 : decode (pw_cc cx_Person_livingHeirs) 15 = .ok (.invokeinterface 24 1, 5) := by decide +kernel
theorem d_Person_livingHeirs_20 : decode (pw_cc cx_Person_livingHeirs) 20 = .ok (.if_icmp .ge 38, 3) := by decide +kernel
theorem d_Person_livingHeirs_23 : decode (pw_cc cx_Person_livingHeirs) 23 = .ok (.aload_n 0, 1) := by decide +kernel
theorem d_Person_livingHeirs_24 : decode (pw_cc cx_Person_livingHeirs) 24 = .ok (.getfield 10, 3) := by decide +kernel
theorem d_Person_livingHeirs_27 : decode (pw_cc cx_Person_livingHeirs) 27 = .ok (.iload_n 2, 1) := by decide +kernel
theorem d_Person_livingHeirs_28 : decode (pw_cc cx_Person_livingHeirs) 28 = .ok (.invokeinterface 30 2, 5) := by decide +kernel
theorem d_Person_livingHeirs_33 : decode (pw_cc cx_Person_livingHeirs) 33 = .ok (.checkcast 11, 3) := by decide +kernel
theorem d_Person_livingHeirs_36 : decode (pw_cc cx_Person_livingHeirs) 36 = .ok (.astore_n 3, 1) := by decide +kernel
theorem d_Person_livingHeirs_37 : decode (pw_cc cx_Person_livingHeirs) 37 = .ok (.aload_n 3, 1) := by decide +kernel
theorem d_Person_livingHeirs_38 : decode (pw_cc cx_Person_livingHeirs) 38 = .ok (.getfield 16, 3) := by decide +kernel
theorem d_Person_livingHeirs_41 : decode (pw_cc cx_Person_livingHeirs) 41 = .ok (.ifCond .eq 11, 3) := by decide +kernel
theorem d_Person_livingHeirs_44 : decode (pw_cc cx_Person_livingHeirs) 44 = .ok (.aload_n 1, 1) := by decide +kernel
theorem d_Person_livingHeirs_45 : decode (pw_cc cx_Person_livingHeirs) 45 = .ok (.aload_n 3, 1) := by decide +kernel
theorem d_Person_livingHeirs_46 : decode (pw_cc cx_Person_livingHeirs) 46 = .ok (.invokeinterface 34 2, 5) := by decide +kernel
theorem d_Person_livingHeirs_51 : decode (pw_cc cx_Person_livingHeirs) 51 = .ok (.pop, 1) := by decide +kernel
theorem d_Person_livingHeirs_52 : decode (pw_cc cx_Person_livingHeirs) 52 = .ok (.iinc 2 1, 3) := by decide +kernel
theorem d_Person_livingHeirs_55 : decode (pw_cc cx_Person_livingHeirs) 55 = .ok (.goto (-45), 3) := by decide +kernel
theorem d_Person_livingHeirs_58 : decode (pw_cc cx_Person_livingHeirs) 58 = .ok (.aload_n 1, 1) := by decide +kernel
theorem d_Person_livingHeirs_59 : decode (pw_cc cx_Person_livingHeirs) 59 = .ok (.areturn, 1) := by decide +kernel
set_option maxHeartbeats 4000000 in
set_option maxRecDepth 20000 in
def lp_Person_livingHeirs_10 (Q : pw_W → Int32 → Prop) (X : pw_W → Nat → Prop) : Nat → Int32 → Int32 → Int32 → pw_W → Prop := fun k => Nat.rec (motive := fun _ => Int32 → Int32 → Int32 → pw_W → Prop) (fun _ _ _ _ => False) (fun _ ih a0 a1 a2 w => 0 ≤ a0 ∧ 0 ≤ (w.1 4 (pw_i a0) 1) ∧ ((nI (pw_ln w 24 (pw_i (w.1 4 (pw_i a0) 1)))) ≤ a2 → Q w a1) ∧ (¬ (nI (pw_ln w 24 (pw_i (w.1 4 (pw_i a0) 1)))) ≤ a2 → pw_jn a2 (pw_ln w 24 (pw_i (w.1 4 (pw_i a0) 1))) ∧ ∀ v5, v5 = (w.1 24 (pw_i (w.1 4 (pw_i a0) 1)) (pw_i a2)) → 0 ≤ v5 ∧ ((w.1 4 (pw_i v5) 2) = 0 → ih a0 a1 (a2 + 1) w) ∧ (¬ (w.1 4 (pw_i v5) 2) = 0 → 0 ≤ a1 ∧ pw_lg w 24 (pw_i a1) ∧ ∀ w11, w11 = pw_la w 24 (pw_i a1) v5 → ih a0 a1 (a2 + 1) w11))) k
set_option maxHeartbeats 4000000 in
set_option maxRecDepth 20000 in
theorem lp_Person_livingHeirs_10_s {Q : pw_W → Int32 → Prop} {X : pw_W → Nat → Prop}  {k : Nat} {a0 a1 a2 : Int32} {w : pw_W} : lp_Person_livingHeirs_10 Q X (k + 1) a0 a1 a2 w = (let ih := lp_Person_livingHeirs_10 Q X k; 0 ≤ a0 ∧ 0 ≤ (w.1 4 (pw_i a0) 1) ∧ ((nI (pw_ln w 24 (pw_i (w.1 4 (pw_i a0) 1)))) ≤ a2 → Q w a1) ∧ (¬ (nI (pw_ln w 24 (pw_i (w.1 4 (pw_i a0) 1)))) ≤ a2 → pw_jn a2 (pw_ln w 24 (pw_i (w.1 4 (pw_i a0) 1))) ∧ ∀ v5, v5 = (w.1 24 (pw_i (w.1 4 (pw_i a0) 1)) (pw_i a2)) → 0 ≤ v5 ∧ ((w.1 4 (pw_i v5) 2) = 0 → ih a0 a1 (a2 + 1) w) ∧ (¬ (w.1 4 (pw_i v5) 2) = 0 → 0 ≤ a1 ∧ pw_lg w 24 (pw_i a1) ∧ ∀ w11, w11 = pw_la w 24 (pw_i a1) v5 → ih a0 a1 (a2 + 1) w11))) := rfl
set_option maxHeartbeats 4000000 in
set_option maxRecDepth 20000 in
theorem vlp_Person_livingHeirs_10 {l : Launch} {g : pw_G} {Q : pw_W → Int32 → Prop} {X : pw_W → Nat → Prop} (hl0 : l.stackTraces = false) : ∀ (k : Nat) (a0 a1 a2 : Int32) (w : pw_W), lp_Person_livingHeirs_10 Q X k a0 a1 a2 w → pw_V l g cx_Person_livingHeirs Q X 10 [(6, a0), (26, a1), (0, a2), (1, 0)] [] w := by
  intro k; induction k with
  | zero => intro _ _ _ _ h; exact h.elim
  | succ k ih =>
    intro a0 a1 a2 w h
    rw [lp_Person_livingHeirs_10_s] at h
    refine pv_iload_n (n := 11) d_Person_livingHeirs_10 rfl rfl rfl ?_
    refine pv_aload_n (n := 12) d_Person_livingHeirs_11 rfl rfl rfl ?_
    obtain ⟨g1, h⟩ := h
    refine gt_Person_10 (n := 15) rfl d_Person_livingHeirs_12 g1 rfl ?_
    obtain ⟨g2, h⟩ := h
    refine pv_lsize (n := 20) (f := 24) (by decide) q_362 (by decide) rfl d_Person_livingHeirs_15 g2 rfl ?_
    refine pv_icmp_ge (n := 23) (tgt := 58) d_Person_livingHeirs_20 (by decide) rfl (fun c3 => ?_) (fun c3 => ?_)
    · replace h := h.1 c3
      refine pv_aload_n (n := 59) d_Person_livingHeirs_58 rfl rfl rfl ?_
      exact pv_aret rfl (Or.inl ⟨_, rfl⟩) rfl d_Person_livingHeirs_59 h
    · replace h := h.2 c3
      refine pv_aload_n (n := 24) d_Person_livingHeirs_23 rfl rfl rfl ?_
      refine gt_Person_10 (n := 27) rfl d_Person_livingHeirs_24 g1 rfl ?_
      refine pv_iload_n (n := 28) d_Person_livingHeirs_27 rfl rfl rfl ?_
      obtain ⟨g4, h⟩ := h
      refine pv_lget (n := 33) (f := 24) (F := 4) (by decide) rfl q_363 (by decide) rfl d_Person_livingHeirs_28 g2 g4 rfl (fun _ => ?_)
      refine pv_cast (n := 36) pw_cf4 q_370 d_Person_livingHeirs_33 rfl ?_
      refine pv_nm (fun v5 e6 => ?_)
      replace h := h v5 e6
      refine pv_astore_n (n := 37) (L' := [(6, a0), (26, a1), (0, a2), (6, v5)]) d_Person_livingHeirs_36 rfl (by decide) rfl rfl ?_
      refine pv_aload_n (n := 38) d_Person_livingHeirs_37 rfl rfl rfl ?_
      obtain ⟨g7, h⟩ := h
      refine gt_Person_16 (n := 41) rfl d_Person_livingHeirs_38 g7 rfl ?_
      refine pv_if_eq (n := 44) (tgt := 52) d_Person_livingHeirs_41 (by decide) rfl (fun c8 => ?_) (fun c8 => ?_)
      · replace h := h.1 c8
        refine pv_iinc (v := (a2 + 1)) (n := 55) (L1 := [(6, a0), (26, a1), (0, (a2 + 1)), (6, v5)]) d_Person_livingHeirs_52 rfl rfl rfl (by decide) rfl ?_
        refine pv_goto (tgt := 10) d_Person_livingHeirs_55 (by decide) ?_
        refine pv_unset (i := 3) (L1 := [(6, a0), (26, a1), (0, (a2 + 1)), (1, 0)]) rfl ?_
        exact ih _ _ _ _ h
      · replace h := h.2 c8
        refine pv_aload_n (n := 45) d_Person_livingHeirs_44 rfl rfl rfl ?_
        refine pv_aload_n (n := 46) d_Person_livingHeirs_45 rfl rfl rfl ?_
        obtain ⟨g9, h⟩ := h
        obtain ⟨g10, h⟩ := h
        refine pv_ladd (n := 51) (f := 24) (F := 4) (by decide) rfl q_371 (by decide) rfl d_Person_livingHeirs_46 g9 g7 g10 rfl (fun w11 e12 => ?_)
        replace h := h w11 e12
        refine pv_pop (n := 52) d_Person_livingHeirs_51 (by decide) rfl ?_
        refine pv_iinc (v := (a2 + 1)) (n := 55) (L1 := [(6, a0), (26, a1), (0, (a2 + 1)), (6, v5)]) d_Person_livingHeirs_52 rfl rfl rfl (by decide) rfl ?_
        refine pv_goto (tgt := 10) d_Person_livingHeirs_55 (by decide) ?_
        refine pv_unset (i := 3) (L1 := [(6, a0), (26, a1), (0, (a2 + 1)), (1, 0)]) rfl ?_
        exact ih _ _ _ _ h
set_option maxHeartbeats 4000000 in
set_option maxRecDepth 20000 in
def wp_Person_livingHeirs (w : pw_W) (a0 : Int32) (Q : pw_W → Int32 → Prop) (X : pw_W → Nat → Prop) : Prop := pw_rm w 24 3 ∧ ∀ w14, w14 = pw_nl w 24 → ∀ v16, v16 = (nI (pw_nv w 24)) → ∃ k18, lp_Person_livingHeirs_10 Q X k18 a0 v16 0 w14
set_option maxHeartbeats 4000000 in
set_option maxRecDepth 20000 in
theorem vw_Person_livingHeirs {l : Launch} {g : pw_G} {Q : pw_W → Int32 → Prop} {X : pw_W → Nat → Prop} (hl0 : l.stackTraces = false) {w : pw_W} {a0 : Int32} (h : wp_Person_livingHeirs w a0 Q X) : pw_V l g cx_Person_livingHeirs Q X 0 [(6, a0), (1, 0), (1, 0), (1, 0)] [] w := by
  unfold wp_Person_livingHeirs at h
  obtain ⟨g13, h⟩ := h
  refine pv_lnew (n := 7) (f := 24) (by decide) q_9 q_8 (by decide) rfl (Nat.le_of_ble_eq_true rfl) d_Person_livingHeirs_0 d_Person_livingHeirs_3 d_Person_livingHeirs_4 g13 rfl (fun w14 e15 => ?_)
  replace h := h w14 e15
  refine pv_nm (fun v16 e17 => ?_)
  replace h := h v16 e17
  refine pv_astore_n (n := 8) (L' := [(6, a0), (26, v16), (1, 0), (1, 0)]) d_Person_livingHeirs_7 rfl (by decide) rfl rfl ?_
  refine pv_iconst (v := 0) (n := 9) d_Person_livingHeirs_8 (by decide) rfl ?_
  refine pv_istore_n (n := 10) (L' := [(6, a0), (26, v16), (0, 0), (1, 0)]) d_Person_livingHeirs_9 rfl (by decide) rfl rfl ?_
  obtain ⟨k18, h⟩ := h
  exact vlp_Person_livingHeirs_10 hl0 _ _ _ _ _ h
set_option maxHeartbeats 4000000 in
set_option maxRecDepth 20000 in
theorem con_Person_livingHeirs {l : Launch} {g : pw_G} {Q : pw_W → Int32 → Prop} {X : pw_W → Nat → Prop} (hl0 : l.stackTraces = false) {w : pw_W} {a0 : Int32} (h : wp_Person_livingHeirs w a0 Q X) : pw_Con l g y_Person_livingHeirs cx_Person_livingHeirs [(6, a0)] w Q X :=
  pw_con (by decide +kernel) rfl rfl hl0 rfl (Nat.le_of_ble_eq_true rfl) (by simp) (vw_Person_livingHeirs hl0 h)
theorem d_X_handDownParcels_0 : decode (pw_cc cx_X_handDownParcels) 0 = .ok (.aload_n 1, 1) := by decide +kernel
theorem d_X_handDownParcels_1 : decode (pw_cc cx_X_handDownParcels) 1 = .ok (.invokevirtual 474, 3) := by decide +kernel
theorem d_X_handDownParcels_4 : decode (pw_cc cx_X_handDownParcels) 4 = .ok (.astore_n 2, 1) := by decide +kernel
theorem d_X_handDownParcels_5 : decode (pw_cc cx_X_handDownParcels) 5 = .ok (.iconst 0, 1) := by decide +kernel
theorem d_X_handDownParcels_6 : decode (pw_cc cx_X_handDownParcels) 6 = .ok (.istore_n 3, 1) := by decide +kernel
theorem d_X_handDownParcels_7 : decode (pw_cc cx_X_handDownParcels) 7 = .ok (.iconst 0, 1) := by decide +kernel
theorem d_X_handDownParcels_8 : decode (pw_cc cx_X_handDownParcels) 8 = .ok (.istore 4, 2) := by decide +kernel
theorem d_X_handDownParcels_10 : decode (pw_cc cx_X_handDownParcels) 10 = .ok (.iload 4, 2) := by decide +kernel
theorem d_X_handDownParcels_12 : decode (pw_cc cx_X_handDownParcels) 12 = .ok (.aload_n 0, 1) := by decide +kernel
theorem d_X_handDownParcels_13 : decode (pw_cc cx_X_handDownParcels) 13 = .ok (.getfield 24, 3) := by decide +kernel
theorem d_X_handDownParcels_16 : decode (pw_cc cx_X_handDownParcels) 16 = .ok (.invokeinterface 88 1, 5) := by decide +kernel
theorem d_X_handDownParcels_21 : decode (pw_cc cx_X_handDownParcels) 21 = .ok (.if_icmp .ge 88, 3) := by decide +kernel
theorem d_X_handDownParcels_24 : decode (pw_cc cx_X_handDownParcels) 24 = .ok (.aload_n 0, 1) := by decide +kernel
theorem d_X_handDownParcels_25 : decode (pw_cc cx_X_handDownParcels) 25 = .ok (.getfield 24, 3) := by decide +kernel
theorem d_X_handDownParcels_28 : decode (pw_cc cx_X_handDownParcels) 28 = .ok (.iload 4, 2) := by decide +kernel
theorem d_X_handDownParcels_30 : decode (pw_cc cx_X_handDownParcels) 30 = .ok (.invokeinterface 382 2, 5) := by decide +kernel
theorem d_X_handDownParcels_35 : decode (pw_cc cx_X_handDownParcels) 35 = .ok (.checkcast 40, 3) := by decide +kernel
theorem d_X_handDownParcels_38 : decode (pw_cc cx_X_handDownParcels) 38 = .ok (.astore 5, 2) := by decide +kernel
theorem d_X_handDownParcels_40 : decode (pw_cc cx_X_handDownParcels) 40 = .ok (.aload 5, 2) := by decide +kernel
theorem d_X_handDownParcels_42 : decode (pw_cc cx_X_handDownParcels) 42 = .ok (.getfield 120, 3) := by decide +kernel
theorem d_X_handDownParcels_45 : decode (pw_cc cx_X_handDownParcels) 45 = .ok (.aload_n 1, 1) := by decide +kernel
theorem d_X_handDownParcels_46 : decode (pw_cc cx_X_handDownParcels) 46 = .ok (.if_acmp .ne 57, 3) := by decide +kernel
theorem d_X_handDownParcels_49 : decode (pw_cc cx_X_handDownParcels) 49 = .ok (.aload 5, 2) := by decide +kernel
theorem d_X_handDownParcels_51 : decode (pw_cc cx_X_handDownParcels) 51 = .ok (.getfield 134, 3) := by decide +kernel
theorem d_X_handDownParcels_54 : decode (pw_cc cx_X_handDownParcels) 54 = .ok (.ifnull 6, 3) := by decide +kernel
theorem d_X_handDownParcels_57 : decode (pw_cc cx_X_handDownParcels) 57 = .ok (.goto 46, 3) := by decide +kernel
theorem d_X_handDownParcels_60 : decode (pw_cc cx_X_handDownParcels) 60 = .ok (.aload_n 2, 1) := by decide +kernel
theorem d_X_handDownParcels_61 : decode (pw_cc cx_X_handDownParcels) 61 = .ok (.invokeinterface 478 1, 5) := by decide +kernel
theorem d_X_handDownParcels_66 : decode (pw_cc cx_X_handDownParcels) 66 = .ok (.ifCond .eq 12, 3) := by decide +kernel
theorem d_X_handDownParcels_69 : decode (pw_cc cx_X_handDownParcels) 69 = .ok (.aload 5, 2) := by decide +kernel
theorem d_X_handDownParcels_71 : decode (pw_cc cx_X_handDownParcels) 71 = .ok (.aconst_null, 1) := by decide +kernel
theorem d_X_handDownParcels_72 : decode (pw_cc cx_X_handDownParcels) 72 = .ok (.putfield 120, 3) := by decide +kernel
theorem d_X_handDownParcels_75 : decode (pw_cc cx_X_handDownParcels) 75 = .ok (.goto 28, 3) := by decide +kernel
theorem d_X_handDownParcels_78 : decode (pw_cc cx_X_handDownParcels) 78 = .ok (.aload 5, 2) := by decide +kernel
theorem d_X_handDownParcels_80 : decode (pw_cc cx_X_handDownParcels) 80 = .ok (.aload_n 2, 1) := by decide +kernel
theorem d_X_handDownParcels_81 : decode (pw_cc cx_X_handDownParcels) 81 = .ok (.iload_n 3, 1) := by decide +kernel
theorem d_X_handDownParcels_82 : decode (pw_cc cx_X_handDownParcels) 82 = .ok (.aload_n 2, 1) := by decide +kernel
theorem d_X_handDownParcels_83 : decode (pw_cc cx_X_handDownParcels) 83 = .ok (.invokeinterface 88 1, 5) := by decide +kernel
theorem d_X_handDownParcels_88 : decode (pw_cc cx_X_handDownParcels) 88 = .ok (.irem, 1) := by decide +kernel
theorem d_X_handDownParcels_89 : decode (pw_cc cx_X_handDownParcels) 89 = .ok (.invokeinterface 382 2, 5) := by decide +kernel
theorem d_X_handDownParcels_94 : decode (pw_cc cx_X_handDownParcels) 94 = .ok (.checkcast 15, 3) := by decide +kernel
theorem d_X_handDownParcels_97 : decode (pw_cc cx_X_handDownParcels) 97 = .ok (.putfield 120, 3) := by decide +kernel
theorem d_X_handDownParcels_100 : decode (pw_cc cx_X_handDownParcels) 100 = .ok (.iinc 3 1, 3) := by decide +kernel
theorem d_X_handDownParcels_103 : decode (pw_cc cx_X_handDownParcels) 103 = .ok (.iinc 4 1, 3) := by decide +kernel
theorem d_X_handDownParcels_106 : decode (pw_cc cx_X_handDownParcels) 106 = .ok (.goto (-96), 3) := by decide +kernel
theorem d_X_handDownParcels_109 : decode (pw_cc cx_X_handDownParcels) 109 = .ok (.iload_n 3, 1) := by decide +kernel
theorem d_X_handDownParcels_110 : decode (pw_cc cx_X_handDownParcels) 110 = .ok (.ireturn, 1) := by decide +kernel
set_option maxHeartbeats 4000000 in
set_option maxRecDepth 20000 in
def lp_X_handDownParcels_10 (Q : pw_W → Int32 → Prop) (X : pw_W → Nat → Prop) : Nat → Int32 → Int32 → Int32 → Int32 → pw_W → Prop := fun k => Nat.rec (motive := fun _ => Int32 → Int32 → Int32 → Int32 → pw_W → Prop) (fun _ _ _ _ _ => False) (fun _ ih a1 a2 a3 a4 w => w.1 7 0 2 = 0 ∧ ((nI (pw_ln w 23 0)) ≤ a4 → Q w a3) ∧ (¬ (nI (pw_ln w 23 0)) ≤ a4 → w.1 7 0 2 = 0 ∧ pw_jn a4 (pw_ln w 23 0) ∧ ∀ v5, v5 = (w.1 23 0 (pw_i a4)) → 0 ≤ v5 ∧ (¬ (w.1 3 (pw_i v5) 2) = a1 → ih a1 a2 a3 (a4 + 1) w) ∧ ((w.1 3 (pw_i v5) 2) = a1 → ((w.1 3 (pw_i v5) 3) = -1 → 0 ≤ a2 ∧ ((if pw_ln w 24 (pw_i a2) = 0 then (1 : Int32) else 0) = 0 → ¬ (nI (pw_ln w 24 (pw_i a2))) = 0 ∧ pw_jn (a3 - a3 / (nI (pw_ln w 24 (pw_i a2))) * (nI (pw_ln w 24 (pw_i a2)))) (pw_ln w 24 (pw_i a2)) ∧ ∀ w14, w14 = pw_ps w 3 (pw_i v5) 2 (w.1 24 (pw_i a2) (pw_i (a3 - a3 / (nI (pw_ln w 24 (pw_i a2))) * (nI (pw_ln w 24 (pw_i a2)))))) → ih a1 a2 (a3 + 1) (a4 + 1) w14) ∧ (¬ (if pw_ln w 24 (pw_i a2) = 0 then (1 : Int32) else 0) = 0 → ∀ w16, w16 = pw_ps w 3 (pw_i v5) 2 (-1) → ih a1 a2 a3 (a4 + 1) w16)) ∧ (¬ (w.1 3 (pw_i v5) 3) = -1 → ih a1 a2 a3 (a4 + 1) w)))) k
set_option maxHeartbeats 4000000 in
set_option maxRecDepth 20000 in
theorem lp_X_handDownParcels_10_s {Q : pw_W → Int32 → Prop} {X : pw_W → Nat → Prop}  {k : Nat} {a1 a2 a3 a4 : Int32} {w : pw_W} : lp_X_handDownParcels_10 Q X (k + 1) a1 a2 a3 a4 w = (let ih := lp_X_handDownParcels_10 Q X k; w.1 7 0 2 = 0 ∧ ((nI (pw_ln w 23 0)) ≤ a4 → Q w a3) ∧ (¬ (nI (pw_ln w 23 0)) ≤ a4 → w.1 7 0 2 = 0 ∧ pw_jn a4 (pw_ln w 23 0) ∧ ∀ v5, v5 = (w.1 23 0 (pw_i a4)) → 0 ≤ v5 ∧ (¬ (w.1 3 (pw_i v5) 2) = a1 → ih a1 a2 a3 (a4 + 1) w) ∧ ((w.1 3 (pw_i v5) 2) = a1 → ((w.1 3 (pw_i v5) 3) = -1 → 0 ≤ a2 ∧ ((if pw_ln w 24 (pw_i a2) = 0 then (1 : Int32) else 0) = 0 → ¬ (nI (pw_ln w 24 (pw_i a2))) = 0 ∧ pw_jn (a3 - a3 / (nI (pw_ln w 24 (pw_i a2))) * (nI (pw_ln w 24 (pw_i a2)))) (pw_ln w 24 (pw_i a2)) ∧ ∀ w14, w14 = pw_ps w 3 (pw_i v5) 2 (w.1 24 (pw_i a2) (pw_i (a3 - a3 / (nI (pw_ln w 24 (pw_i a2))) * (nI (pw_ln w 24 (pw_i a2)))))) → ih a1 a2 (a3 + 1) (a4 + 1) w14) ∧ (¬ (if pw_ln w 24 (pw_i a2) = 0 then (1 : Int32) else 0) = 0 → ∀ w16, w16 = pw_ps w 3 (pw_i v5) 2 (-1) → ih a1 a2 a3 (a4 + 1) w16)) ∧ (¬ (w.1 3 (pw_i v5) 3) = -1 → ih a1 a2 a3 (a4 + 1) w)))) := rfl
set_option maxHeartbeats 4000000 in
set_option maxRecDepth 20000 in
theorem vlp_X_handDownParcels_10 {l : Launch} {g : pw_G} {Q : pw_W → Int32 → Prop} {X : pw_W → Nat → Prop} (hl0 : l.stackTraces = false) : ∀ (k : Nat) (a1 a2 a3 a4 : Int32) (w : pw_W), lp_X_handDownParcels_10 Q X k a1 a2 a3 a4 w → pw_V l g cx_X_handDownParcels Q X 10 [(9, 0), (6, a1), (26, a2), (0, a3), (0, a4), (1, 0)] [] w := by
  intro k; induction k with
  | zero => intro _ _ _ _ _ h; exact h.elim
  | succ k ih =>
    intro a1 a2 a3 a4 w h
    rw [lp_X_handDownParcels_10_s] at h
    refine pv_iload (n := 12) d_X_handDownParcels_10 rfl rfl ?_
    refine pv_aload_n (n := 13) d_X_handDownParcels_12 rfl rfl rfl ?_
    obtain ⟨g1, h⟩ := h
    refine gt_X_24 (n := 16) rfl d_X_handDownParcels_13 (by decide) g1 rfl ?_
    refine pv_lsize (n := 21) (f := 23) (by decide) q_49 (by decide) rfl d_X_handDownParcels_16 (by decide) rfl ?_
    refine pv_icmp_ge (n := 24) (tgt := 109) d_X_handDownParcels_21 (by decide) rfl (fun c2 => ?_) (fun c2 => ?_)
    · replace h := h.1 c2
      refine pv_iload_n (n := 110) d_X_handDownParcels_109 rfl rfl rfl ?_
      exact pv_iret rfl rfl d_X_handDownParcels_110 h
    · replace h := h.2 c2
      refine pv_aload_n (n := 25) d_X_handDownParcels_24 rfl rfl rfl ?_
      obtain ⟨g3, h⟩ := h
      refine gt_X_24 (n := 28) rfl d_X_handDownParcels_25 (by decide) g3 rfl ?_
      refine pv_iload (n := 30) d_X_handDownParcels_28 rfl rfl ?_
      obtain ⟨g4, h⟩ := h
      refine pv_lget (n := 35) (f := 23) (F := 3) (by decide) rfl q_52 (by decide) rfl d_X_handDownParcels_30 (by decide) g4 rfl (fun _ => ?_)
      refine pv_cast (n := 38) pw_cf3 q_43 d_X_handDownParcels_35 rfl ?_
      refine pv_nm (fun v5 e6 => ?_)
      replace h := h v5 e6
      refine pv_astore (n := 40) (L' := [(9, 0), (6, a1), (26, a2), (0, a3), (0, a4), (5, v5)]) d_X_handDownParcels_38 (by decide) rfl rfl ?_
      refine pv_aload (n := 42) d_X_handDownParcels_40 rfl rfl ?_
      obtain ⟨g7, h⟩ := h
      refine gt_X_120 (n := 45) rfl d_X_handDownParcels_42 g7 rfl ?_
      refine pv_aload_n (n := 46) d_X_handDownParcels_45 rfl rfl rfl ?_
      refine pv_acmp_ne (n := 49) (tgt := 103) d_X_handDownParcels_46 (by decide) (by decide) rfl (fun c8 => ?_) (fun c8 => ?_)
      · replace h := h.1 c8
        refine pv_iinc (v := (a4 + 1)) (n := 106) (L1 := [(9, 0), (6, a1), (26, a2), (0, a3), (0, (a4 + 1)), (5, v5)]) d_X_handDownParcels_103 rfl rfl rfl (by decide) rfl ?_
        refine pv_goto (tgt := 10) d_X_handDownParcels_106 (by decide) ?_
        refine pv_unset (i := 5) (L1 := [(9, 0), (6, a1), (26, a2), (0, a3), (0, (a4 + 1)), (1, 0)]) rfl ?_
        exact ih _ _ _ _ _ h
      · replace h := h.2 c8
        refine pv_aload (n := 51) d_X_handDownParcels_49 rfl rfl ?_
        refine gt_X_134 (n := 54) rfl d_X_handDownParcels_51 g7 rfl ?_
        refine pv_ifnull (n := 57) (tgt := 60) d_X_handDownParcels_54 (by decide) rfl (fun c9 => ?_) (fun c9 => ?_)
        · replace h := h.1 c9
          refine pv_aload_n (n := 61) d_X_handDownParcels_60 rfl rfl rfl ?_
          obtain ⟨g10, h⟩ := h
          refine pv_lempty (n := 66) (f := 24) (by decide) q_372 (by decide) rfl d_X_handDownParcels_61 g10 rfl ?_
          refine pv_if_eq (n := 69) (tgt := 78) d_X_handDownParcels_66 (by decide) rfl (fun c11 => ?_) (fun c11 => ?_)
          · replace h := h.1 c11
            refine pv_aload (n := 80) d_X_handDownParcels_78 rfl rfl ?_
            refine pv_aload_n (n := 81) d_X_handDownParcels_80 rfl rfl rfl ?_
            refine pv_iload_n (n := 82) d_X_handDownParcels_81 rfl rfl rfl ?_
            refine pv_aload_n (n := 83) d_X_handDownParcels_82 rfl rfl rfl ?_
            refine pv_lsize (n := 88) (f := 24) (by decide) q_49 (by decide) rfl d_X_handDownParcels_83 g10 rfl ?_
            obtain ⟨g12, h⟩ := h
            refine pv_irem (n := 89) d_X_handDownParcels_88 g12 rfl ?_
            obtain ⟨g13, h⟩ := h
            refine pv_lget (n := 94) (f := 24) (F := 4) (by decide) rfl q_52 (by decide) rfl d_X_handDownParcels_89 g10 g13 rfl (fun _ => ?_)
            refine pv_cast (n := 97) pw_cf4 q_23 d_X_handDownParcels_94 rfl ?_
            refine pt_X_120 (n := 100) rfl d_X_handDownParcels_97 g7 rfl (fun w14 e15 => ?_)
            replace h := h w14 e15
            refine pv_iinc (v := (a3 + 1)) (n := 103) (L1 := [(9, 0), (6, a1), (26, a2), (0, (a3 + 1)), (0, a4), (5, v5)]) d_X_handDownParcels_100 rfl rfl rfl (by decide) rfl ?_
            refine pv_iinc (v := (a4 + 1)) (n := 106) (L1 := [(9, 0), (6, a1), (26, a2), (0, (a3 + 1)), (0, (a4 + 1)), (5, v5)]) d_X_handDownParcels_103 rfl rfl rfl (by decide) rfl ?_
            refine pv_goto (tgt := 10) d_X_handDownParcels_106 (by decide) ?_
            refine pv_unset (i := 5) (L1 := [(9, 0), (6, a1), (26, a2), (0, (a3 + 1)), (0, (a4 + 1)), (1, 0)]) rfl ?_
            exact ih _ _ _ _ _ h
          · replace h := h.2 c11
            refine pv_aload (n := 71) d_X_handDownParcels_69 rfl rfl ?_
            refine pv_null (n := 72) 4 d_X_handDownParcels_71 rfl ?_
            refine pt_X_120 (n := 75) rfl d_X_handDownParcels_72 g7 rfl (fun w16 e17 => ?_)
            replace h := h w16 e17
            refine pv_goto (tgt := 103) d_X_handDownParcels_75 (by decide) ?_
            refine pv_iinc (v := (a4 + 1)) (n := 106) (L1 := [(9, 0), (6, a1), (26, a2), (0, a3), (0, (a4 + 1)), (5, v5)]) d_X_handDownParcels_103 rfl rfl rfl (by decide) rfl ?_
            refine pv_goto (tgt := 10) d_X_handDownParcels_106 (by decide) ?_
            refine pv_unset (i := 5) (L1 := [(9, 0), (6, a1), (26, a2), (0, a3), (0, (a4 + 1)), (1, 0)]) rfl ?_
            exact ih _ _ _ _ _ h
        · replace h := h.2 c9
          refine pv_goto (tgt := 103) d_X_handDownParcels_57 (by decide) ?_
          refine pv_iinc (v := (a4 + 1)) (n := 106) (L1 := [(9, 0), (6, a1), (26, a2), (0, a3), (0, (a4 + 1)), (5, v5)]) d_X_handDownParcels_103 rfl rfl rfl (by decide) rfl ?_
          refine pv_goto (tgt := 10) d_X_handDownParcels_106 (by decide) ?_
          refine pv_unset (i := 5) (L1 := [(9, 0), (6, a1), (26, a2), (0, a3), (0, (a4 + 1)), (1, 0)]) rfl ?_
          exact ih _ _ _ _ _ h
set_option maxHeartbeats 4000000 in
set_option maxRecDepth 20000 in
def wp_X_handDownParcels (w : pw_W) (a1 : Int32) (Q : pw_W → Int32 → Prop) (X : pw_W → Nat → Prop) : Prop := 0 ≤ a1 ∧ wp_Person_livingHeirs w a1 (fun w18 r19 => ∃ k21, lp_X_handDownParcels_10 Q X k21 a1 r19 0 0 w18) (fun _ _ => False)
set_option maxHeartbeats 4000000 in
set_option maxRecDepth 20000 in
theorem vw_X_handDownParcels {l : Launch} {g : pw_G} {Q : pw_W → Int32 → Prop} {X : pw_W → Nat → Prop} (hl0 : l.stackTraces = false) {w : pw_W} {a1 : Int32} (h : wp_X_handDownParcels w a1 Q X) : pw_V l g cx_X_handDownParcels Q X 0 [(9, 0), (6, a1), (1, 0), (1, 0), (1, 0), (1, 0)] [] w := by
  unfold wp_X_handDownParcels at h
  refine pv_aload_n (n := 1) d_X_handDownParcels_0 rfl rfl rfl ?_
  obtain ⟨g20, h⟩ := h
  refine pv_callV (n := 4) (x := a1) [] [] (con_Person_livingHeirs hl0 h) pw_cf4 rfl q_374 q_375 q_376 q_25 q_373 pyo_Person_livingHeirs (by decide) rfl rfl g20 d_X_handDownParcels_1 rfl (fun w18 r19 h _ => ?_) (fun _ _ h => h.elim)
  show pw_V l g cx_X_handDownParcels Q X 4 [(9, 0), (6, a1), (1, 0), (1, 0), (1, 0), (1, 0)] [(26, r19)] w18
  refine pv_astore_n (n := 5) (L' := [(9, 0), (6, a1), (26, r19), (1, 0), (1, 0), (1, 0)]) d_X_handDownParcels_4 rfl (by decide) rfl rfl ?_
  refine pv_iconst (v := 0) (n := 6) d_X_handDownParcels_5 (by decide) rfl ?_
  refine pv_istore_n (n := 7) (L' := [(9, 0), (6, a1), (26, r19), (0, 0), (1, 0), (1, 0)]) d_X_handDownParcels_6 rfl (by decide) rfl rfl ?_
  refine pv_iconst (v := 0) (n := 8) d_X_handDownParcels_7 (by decide) rfl ?_
  refine pv_istore (n := 10) (L' := [(9, 0), (6, a1), (26, r19), (0, 0), (0, 0), (1, 0)]) d_X_handDownParcels_8 (by decide) rfl rfl ?_
  obtain ⟨k21, h⟩ := h
  exact vlp_X_handDownParcels_10 hl0 _ _ _ _ _ _ h
set_option maxHeartbeats 4000000 in
set_option maxRecDepth 20000 in
theorem con_X_handDownParcels {l : Launch} {g : pw_G} {Q : pw_W → Int32 → Prop} {X : pw_W → Nat → Prop} (hl0 : l.stackTraces = false) {w : pw_W} {a1 : Int32} (h : wp_X_handDownParcels w a1 Q X) : pw_Con l g y_X_handDownParcels cx_X_handDownParcels [(9, 0), (6, a1)] w Q X :=
  pw_con (by decide +kernel) rfl rfl hl0 rfl (Nat.le_of_ble_eq_true rfl) (by simp) (vw_X_handDownParcels hl0 h)
theorem d_X_refuseOpenCasesOf_0 : decode (pw_cc cx_X_refuseOpenCasesOf) 0 = .ok (.iconst 0, 1) := by decide +kernel
theorem d_X_refuseOpenCasesOf_1 : decode (pw_cc cx_X_refuseOpenCasesOf) 1 = .ok (.istore_n 2, 1) := by decide +kernel
theorem d_X_refuseOpenCasesOf_2 : decode (pw_cc cx_X_refuseOpenCasesOf) 2 = .ok (.iload_n 2, 1) := by decide +kernel
theorem d_X_refuseOpenCasesOf_3 : decode (pw_cc cx_X_refuseOpenCasesOf) 3 = .ok (.aload_n 0, 1) := by decide +kernel
theorem d_X_refuseOpenCasesOf_4 : decode (pw_cc cx_X_refuseOpenCasesOf) 4 = .ok (.getfield 31, 3) := by decide +kernel
theorem d_X_refuseOpenCasesOf_7 : decode (pw_cc cx_X_refuseOpenCasesOf) 7 = .ok (.invokeinterface 88 1, 5) := by decide +kernel
theorem d_X_refuseOpenCasesOf_12 : decode (pw_cc cx_X_refuseOpenCasesOf) 12 = .ok (.if_icmp .ge 44, 3) := by decide +kernel
theorem d_X_refuseOpenCasesOf_15 : decode (pw_cc cx_X_refuseOpenCasesOf) 15 = .ok (.aload_n 0, 1) := by decide +kernel
theorem d_X_refuseOpenCasesOf_16 : decode (pw_cc cx_X_refuseOpenCasesOf) 16 = .ok (.getfield 31, 3) := by decide +kernel
theorem d_X_refuseOpenCasesOf_19 : decode (pw_cc cx_X_refuseOpenCasesOf) 19 = .ok (.iload_n 2, 1) := by decide +kernel
theorem d_X_refuseOpenCasesOf_20 : decode (pw_cc cx_X_refuseOpenCasesOf) 20 = .ok (.invokeinterface 382 2, 5) := by decide +kernel
theorem d_X_refuseOpenCasesOf_25 : decode (pw_cc cx_X_refuseOpenCasesOf) 25 = .ok (.checkcast 151, 3) := by decide +kernel
theorem d_X_refuseOpenCasesOf_28 : decode (pw_cc cx_X_refuseOpenCasesOf) 28 = .ok (.astore_n 3, 1) := by decide +kernel
theorem d_X_refuseOpenCasesOf_29 : decode (pw_cc cx_X_refuseOpenCasesOf) 29 = .ok (.aload_n 3, 1) := by decide +kernel
theorem d_X_refuseOpenCasesOf_30 : decode (pw_cc cx_X_refuseOpenCasesOf) 30 = .ok (.getfield 200, 3) := by decide +kernel
theorem d_X_refuseOpenCasesOf_33 : decode (pw_cc cx_X_refuseOpenCasesOf) 33 = .ok (.aload_n 1, 1) := by decide +kernel
theorem d_X_refuseOpenCasesOf_34 : decode (pw_cc cx_X_refuseOpenCasesOf) 34 = .ok (.if_acmp .ne 16, 3) := by decide +kernel
theorem d_X_refuseOpenCasesOf_37 : decode (pw_cc cx_X_refuseOpenCasesOf) 37 = .ok (.aload_n 3, 1) := by decide +kernel
theorem d_X_refuseOpenCasesOf_38 : decode (pw_cc cx_X_refuseOpenCasesOf) 38 = .ok (.getfield 174, 3) := by decide +kernel
theorem d_X_refuseOpenCasesOf_41 : decode (pw_cc cx_X_refuseOpenCasesOf) 41 = .ok (.ifCond .ne 9, 3) := by decide +kernel
theorem d_X_refuseOpenCasesOf_44 : decode (pw_cc cx_X_refuseOpenCasesOf) 44 = .ok (.aload_n 0, 1) := by decide +kernel
theorem d_X_refuseOpenCasesOf_45 : decode (pw_cc cx_X_refuseOpenCasesOf) 45 = .ok (.aload_n 3, 1) := by decide +kernel
theorem d_X_refuseOpenCasesOf_46 : decode (pw_cc cx_X_refuseOpenCasesOf) 46 = .ok (.invokevirtual 183, 3) := by decide +kernel
theorem d_X_refuseOpenCasesOf_49 : decode (pw_cc cx_X_refuseOpenCasesOf) 49 = .ok (.pop, 1) := by decide +kernel
theorem d_X_refuseOpenCasesOf_50 : decode (pw_cc cx_X_refuseOpenCasesOf) 50 = .ok (.iinc 2 1, 3) := by decide +kernel
theorem d_X_refuseOpenCasesOf_53 : decode (pw_cc cx_X_refuseOpenCasesOf) 53 = .ok (.goto (-51), 3) := by decide +kernel
theorem d_X_refuseOpenCasesOf_56 : decode (pw_cc cx_X_refuseOpenCasesOf) 56 = .ok (.return_, 1) := by decide +kernel
set_option maxHeartbeats 4000000 in
set_option maxRecDepth 20000 in
def lp_X_refuseOpenCasesOf_2 (Q : pw_W → Int32 → Prop) (X : pw_W → Nat → Prop) : Nat → Int32 → Int32 → pw_W → Prop := fun k => Nat.rec (motive := fun _ => Int32 → Int32 → pw_W → Prop) (fun _ _ _ => False) (fun _ ih a1 a2 w => w.1 7 0 4 = 0 ∧ ((nI (pw_ln w 20 0)) ≤ a2 → Q w 0) ∧ (¬ (nI (pw_ln w 20 0)) ≤ a2 → w.1 7 0 4 = 0 ∧ pw_jn a2 (pw_ln w 20 0) ∧ ∀ v5, v5 = (w.1 20 0 (pw_i a2)) → 0 ≤ v5 ∧ (¬ (w.1 0 (pw_i v5) 0) = a1 → ih a1 (a2 + 1) w) ∧ ((w.1 0 (pw_i v5) 0) = a1 → (¬ (w.1 0 (pw_i v5) 3) = 0 → ih a1 (a2 + 1) w) ∧ ((w.1 0 (pw_i v5) 3) = 0 → wp_X_refuseCase w v5 (fun w10 r11 => ih a1 (a2 + 1) w10) (fun _ _ => False))))) k
set_option maxHeartbeats 4000000 in
set_option maxRecDepth 20000 in
theorem lp_X_refuseOpenCasesOf_2_s {Q : pw_W → Int32 → Prop} {X : pw_W → Nat → Prop}  {k : Nat} {a1 a2 : Int32} {w : pw_W} : lp_X_refuseOpenCasesOf_2 Q X (k + 1) a1 a2 w = (let ih := lp_X_refuseOpenCasesOf_2 Q X k; w.1 7 0 4 = 0 ∧ ((nI (pw_ln w 20 0)) ≤ a2 → Q w 0) ∧ (¬ (nI (pw_ln w 20 0)) ≤ a2 → w.1 7 0 4 = 0 ∧ pw_jn a2 (pw_ln w 20 0) ∧ ∀ v5, v5 = (w.1 20 0 (pw_i a2)) → 0 ≤ v5 ∧ (¬ (w.1 0 (pw_i v5) 0) = a1 → ih a1 (a2 + 1) w) ∧ ((w.1 0 (pw_i v5) 0) = a1 → (¬ (w.1 0 (pw_i v5) 3) = 0 → ih a1 (a2 + 1) w) ∧ ((w.1 0 (pw_i v5) 3) = 0 → wp_X_refuseCase w v5 (fun w10 r11 => ih a1 (a2 + 1) w10) (fun _ _ => False))))) := rfl
set_option maxHeartbeats 4000000 in
set_option maxRecDepth 20000 in
theorem vlp_X_refuseOpenCasesOf_2 {l : Launch} {g : pw_G} {Q : pw_W → Int32 → Prop} {X : pw_W → Nat → Prop} (hl0 : l.stackTraces = false) : ∀ (k : Nat) (a1 a2 : Int32) (w : pw_W), lp_X_refuseOpenCasesOf_2 Q X k a1 a2 w → pw_V l g cx_X_refuseOpenCasesOf Q X 2 [(9, 0), (6, a1), (0, a2), (1, 0)] [] w := by
  intro k; induction k with
  | zero => intro _ _ _ h; exact h.elim
  | succ k ih =>
    intro a1 a2 w h
    rw [lp_X_refuseOpenCasesOf_2_s] at h
    refine pv_iload_n (n := 3) d_X_refuseOpenCasesOf_2 rfl rfl rfl ?_
    refine pv_aload_n (n := 4) d_X_refuseOpenCasesOf_3 rfl rfl rfl ?_
    obtain ⟨g1, h⟩ := h
    refine gt_X_31 (n := 7) rfl d_X_refuseOpenCasesOf_4 (by decide) g1 rfl ?_
    refine pv_lsize (n := 12) (f := 20) (by decide) q_49 (by decide) rfl d_X_refuseOpenCasesOf_7 (by decide) rfl ?_
    refine pv_icmp_ge (n := 15) (tgt := 56) d_X_refuseOpenCasesOf_12 (by decide) rfl (fun c2 => ?_) (fun c2 => ?_)
    · replace h := h.1 c2
      exact pv_vret rfl rfl d_X_refuseOpenCasesOf_56 h
    · replace h := h.2 c2
      refine pv_aload_n (n := 16) d_X_refuseOpenCasesOf_15 rfl rfl rfl ?_
      obtain ⟨g3, h⟩ := h
      refine gt_X_31 (n := 19) rfl d_X_refuseOpenCasesOf_16 (by decide) g3 rfl ?_
      refine pv_iload_n (n := 20) d_X_refuseOpenCasesOf_19 rfl rfl rfl ?_
      obtain ⟨g4, h⟩ := h
      refine pv_lget (n := 25) (f := 20) (F := 0) (by decide) rfl q_52 (by decide) rfl d_X_refuseOpenCasesOf_20 (by decide) g4 rfl (fun _ => ?_)
      refine pv_cast (n := 28) pw_cf0 q_209 d_X_refuseOpenCasesOf_25 rfl ?_
      refine pv_nm (fun v5 e6 => ?_)
      replace h := h v5 e6
      refine pv_astore_n (n := 29) (L' := [(9, 0), (6, a1), (0, a2), (2, v5)]) d_X_refuseOpenCasesOf_28 rfl (by decide) rfl rfl ?_
      refine pv_aload_n (n := 30) d_X_refuseOpenCasesOf_29 rfl rfl rfl ?_
      obtain ⟨g7, h⟩ := h
      refine gt_X_200 (n := 33) rfl d_X_refuseOpenCasesOf_30 g7 rfl ?_
      refine pv_aload_n (n := 34) d_X_refuseOpenCasesOf_33 rfl rfl rfl ?_
      refine pv_acmp_ne (n := 37) (tgt := 50) d_X_refuseOpenCasesOf_34 (by decide) (by decide) rfl (fun c8 => ?_) (fun c8 => ?_)
      · replace h := h.1 c8
        refine pv_iinc (v := (a2 + 1)) (n := 53) (L1 := [(9, 0), (6, a1), (0, (a2 + 1)), (2, v5)]) d_X_refuseOpenCasesOf_50 rfl rfl rfl (by decide) rfl ?_
        refine pv_goto (tgt := 2) d_X_refuseOpenCasesOf_53 (by decide) ?_
        refine pv_unset (i := 3) (L1 := [(9, 0), (6, a1), (0, (a2 + 1)), (1, 0)]) rfl ?_
        exact ih _ _ _ h
      · replace h := h.2 c8
        refine pv_aload_n (n := 38) d_X_refuseOpenCasesOf_37 rfl rfl rfl ?_
        refine gt_X_174 (n := 41) rfl d_X_refuseOpenCasesOf_38 g7 rfl ?_
        refine pv_if_ne (n := 44) (tgt := 50) d_X_refuseOpenCasesOf_41 (by decide) rfl (fun c9 => ?_) (fun c9 => ?_)
        · replace h := h.1 c9
          refine pv_iinc (v := (a2 + 1)) (n := 53) (L1 := [(9, 0), (6, a1), (0, (a2 + 1)), (2, v5)]) d_X_refuseOpenCasesOf_50 rfl rfl rfl (by decide) rfl ?_
          refine pv_goto (tgt := 2) d_X_refuseOpenCasesOf_53 (by decide) ?_
          refine pv_unset (i := 3) (L1 := [(9, 0), (6, a1), (0, (a2 + 1)), (1, 0)]) rfl ?_
          exact ih _ _ _ h
        · replace h := h.2 c9
          refine pv_aload_n (n := 45) d_X_refuseOpenCasesOf_44 rfl rfl rfl ?_
          refine pv_aload_n (n := 46) d_X_refuseOpenCasesOf_45 rfl rfl rfl ?_
          refine pv_callV (n := 49) (x := 0) [(2, v5)] [] (con_X_refuseCase hl0 h) pw_cf7 rfl q_249 q_250 q_251 q_62 q_248 pyo_X_refuseCase (by decide) rfl rfl (by decide) d_X_refuseOpenCasesOf_46 rfl (fun w10 r11 h _ => ?_) (fun _ _ h => h.elim)
          show pw_V l g cx_X_refuseOpenCasesOf Q X 49 [(9, 0), (6, a1), (0, a2), (2, v5)] [(0, r11)] w10
          refine pv_pop (n := 50) d_X_refuseOpenCasesOf_49 (by decide) rfl ?_
          refine pv_iinc (v := (a2 + 1)) (n := 53) (L1 := [(9, 0), (6, a1), (0, (a2 + 1)), (2, v5)]) d_X_refuseOpenCasesOf_50 rfl rfl rfl (by decide) rfl ?_
          refine pv_goto (tgt := 2) d_X_refuseOpenCasesOf_53 (by decide) ?_
          refine pv_unset (i := 3) (L1 := [(9, 0), (6, a1), (0, (a2 + 1)), (1, 0)]) rfl ?_
          exact ih _ _ _ h
set_option maxHeartbeats 4000000 in
set_option maxRecDepth 20000 in
def wp_X_refuseOpenCasesOf (w : pw_W) (a1 : Int32) (Q : pw_W → Int32 → Prop) (X : pw_W → Nat → Prop) : Prop := ∃ k12, lp_X_refuseOpenCasesOf_2 Q X k12 a1 0 w
set_option maxHeartbeats 4000000 in
set_option maxRecDepth 20000 in
theorem vw_X_refuseOpenCasesOf {l : Launch} {g : pw_G} {Q : pw_W → Int32 → Prop} {X : pw_W → Nat → Prop} (hl0 : l.stackTraces = false) {w : pw_W} {a1 : Int32} (h : wp_X_refuseOpenCasesOf w a1 Q X) : pw_V l g cx_X_refuseOpenCasesOf Q X 0 [(9, 0), (6, a1), (1, 0), (1, 0)] [] w := by
  unfold wp_X_refuseOpenCasesOf at h
  refine pv_iconst (v := 0) (n := 1) d_X_refuseOpenCasesOf_0 (by decide) rfl ?_
  refine pv_istore_n (n := 2) (L' := [(9, 0), (6, a1), (0, 0), (1, 0)]) d_X_refuseOpenCasesOf_1 rfl (by decide) rfl rfl ?_
  obtain ⟨k12, h⟩ := h
  exact vlp_X_refuseOpenCasesOf_2 hl0 _ _ _ _ h
set_option maxHeartbeats 4000000 in
set_option maxRecDepth 20000 in
theorem con_X_refuseOpenCasesOf {l : Launch} {g : pw_G} {Q : pw_W → Int32 → Prop} {X : pw_W → Nat → Prop} (hl0 : l.stackTraces = false) {w : pw_W} {a1 : Int32} (h : wp_X_refuseOpenCasesOf w a1 Q X) : pw_Con l g y_X_refuseOpenCasesOf cx_X_refuseOpenCasesOf [(9, 0), (6, a1)] w Q X :=
  pw_con (by decide +kernel) rfl rfl hl0 rfl (Nat.le_of_ble_eq_true rfl) (by simp) (vw_X_refuseOpenCasesOf hl0 h)
theorem d_X_die_0 : decode (pw_cc cx_X_die) 0 = .ok (.aload_n 0, 1) := by decide +kernel
theorem d_X_die_1 : decode (pw_cc cx_X_die) 1 = .ok (.iload_n 1, 1) := by decide +kernel
theorem d_X_die_2 : decode (pw_cc cx_X_die) 2 = .ok (.invokevirtual 69, 3) := by decide +kernel
theorem d_X_die_5 : decode (pw_cc cx_X_die) 5 = .ok (.astore_n 2, 1) := by decide +kernel
theorem d_X_die_6 : decode (pw_cc cx_X_die) 6 = .ok (.aload_n 2, 1) := by decide +kernel
theorem d_X_die_7 : decode (pw_cc cx_X_die) 7 = .ok (.getfield 76, 3) := by decide +kernel
theorem d_X_die_10 : decode (pw_cc cx_X_die) 10 = .ok (.invokestatic 80, 3) := by decide +kernel
theorem d_X_die_13 : decode (pw_cc cx_X_die) 13 = .ok (.aload_n 2, 1) := by decide +kernel
theorem d_X_die_14 : decode (pw_cc cx_X_die) 14 = .ok (.iconst 0, 1) := by decide +kernel
theorem d_X_die_15 : decode (pw_cc cx_X_die) 15 = .ok (.putfield 76, 3) := by decide +kernel
theorem d_X_die_18 : decode (pw_cc cx_X_die) 18 = .ok (.aload_n 0, 1) := by decide +kernel
theorem d_X_die_19 : decode (pw_cc cx_X_die) 19 = .ok (.aload_n 2, 1) := by decide +kernel
theorem d_X_die_20 : decode (pw_cc cx_X_die) 20 = .ok (.invokevirtual 301, 3) := by decide +kernel
theorem d_X_die_23 : decode (pw_cc cx_X_die) 23 = .ok (.istore_n 3, 1) := by decide +kernel
theorem d_X_die_24 : decode (pw_cc cx_X_die) 24 = .ok (.aload_n 0, 1) := by decide +kernel
theorem d_X_die_25 : decode (pw_cc cx_X_die) 25 = .ok (.aload_n 2, 1) := by decide +kernel
theorem d_X_die_26 : decode (pw_cc cx_X_die) 26 = .ok (.invokevirtual 305, 3) := by decide +kernel
theorem d_X_die_29 : decode (pw_cc cx_X_die) 29 = .ok (.aload_n 0, 1) := by decide +kernel
theorem d_X_die_30 : decode (pw_cc cx_X_die) 30 = .ok (.aload_n 2, 1) := by decide +kernel
theorem d_X_die_31 : decode (pw_cc cx_X_die) 31 = .ok (.invokevirtual 308, 3) := by decide +kernel
theorem d_X_die_34 : decode (pw_cc cx_X_die) 34 = .ok (.aload_n 0, 1) := by decide +kernel
theorem d_X_die_35 : decode (pw_cc cx_X_die) 35 = .ok (.aload_n 2, 1) := by decide +kernel
theorem d_X_die_36 : decode (pw_cc cx_X_die) 36 = .ok (.invokevirtual 311, 3) := by decide +kernel
theorem d_X_die_39 : decode (pw_cc cx_X_die) 39 = .ok (.aload_n 0, 1) := by decide +kernel
theorem d_X_die_40 : decode (pw_cc cx_X_die) 40 = .ok (.aload_n 2, 1) := by decide +kernel
theorem d_X_die_41 : decode (pw_cc cx_X_die) 41 = .ok (.invokevirtual 314, 3) := by decide +kernel
theorem d_X_die_44 : decode (pw_cc cx_X_die) 44 = .ok (.aload_n 0, 1) := by decide +kernel
theorem d_X_die_45 : decode (pw_cc cx_X_die) 45 = .ok (.aload_n 2, 1) := by decide +kernel
theorem d_X_die_46 : decode (pw_cc cx_X_die) 46 = .ok (.invokevirtual 317, 3) := by decide +kernel
theorem d_X_die_49 : decode (pw_cc cx_X_die) 49 = .ok (.iload_n 3, 1) := by decide +kernel
theorem d_X_die_50 : decode (pw_cc cx_X_die) 50 = .ok (.ireturn, 1) := by decide +kernel
set_option maxHeartbeats 4000000 in
set_option maxRecDepth 20000 in
def wp_X_die (w : pw_W) (a1 : Int32) (Q : pw_W → Int32 → Prop) (X : pw_W → Nat → Prop) : Prop := wp_X_personNumbered w a1 (fun w1 r2 => 0 ≤ r2 ∧ wp_X_checkState w1 (w1.1 4 (pw_i r2) 2) (fun w4 r5 => ∀ w6, w6 = pw_ps w4 4 (pw_i r2) 2 0 → wp_X_handDownParcels w6 r2 (fun w8 r9 => wp_X_endRightsOf w8 r2 (fun w10 r11 => wp_X_endSheepOf w10 r2 (fun w12 r13 => wp_X_endMapsOf w12 r2 (fun w14 r15 => wp_X_endUsesOf w14 r2 (fun w16 r17 => wp_X_refuseOpenCasesOf w16 r2 (fun w18 r19 => Q w18 r9) (fun _ _ => False)) (fun _ _ => False)) (fun _ _ => False)) (fun _ _ => False)) (fun _ _ => False)) (fun _ _ => False)) X) X
set_option maxHeartbeats 4000000 in
set_option maxRecDepth 20000 in
theorem vw_X_die {l : Launch} {g : pw_G} {Q : pw_W → Int32 → Prop} {X : pw_W → Nat → Prop} (hl0 : l.stackTraces = false) {w : pw_W} {a1 : Int32} (h : wp_X_die w a1 Q X) : pw_V l g cx_X_die Q X 0 [(9, 0), (0, a1), (1, 0), (1, 0)] [] w := by
  unfold wp_X_die at h
  refine pv_aload_n (n := 1) d_X_die_0 rfl rfl rfl ?_
  refine pv_iload_n (n := 2) d_X_die_1 rfl rfl rfl ?_
  refine pv_callV (n := 5) (x := 0) [(0, a1)] [] (con_X_personNumbered hl0 h) pw_cf7 rfl q_139 q_140 q_141 q_62 q_138 pyo_X_personNumbered (by decide) rfl rfl (by decide) d_X_die_2 rfl (fun w1 r2 h _ => ?_) (fun _ _ h => pvx_out rfl h)
  show pw_V l g cx_X_die Q X 5 [(9, 0), (0, a1), (1, 0), (1, 0)] [(6, r2)] w1
  refine pv_astore_n (n := 6) (L' := [(9, 0), (0, a1), (6, r2), (1, 0)]) d_X_die_5 rfl (by decide) rfl rfl ?_
  refine pv_aload_n (n := 7) d_X_die_6 rfl rfl rfl ?_
  obtain ⟨g3, h⟩ := h
  refine gt_X_76 (n := 10) rfl d_X_die_7 g3 rfl ?_
  refine pv_callS (n := 13) [(0, (w1.1 4 (pw_i r2) 2))] [] (con_X_checkState hl0 h) q_124 q_125 q_62 q_123 pyo_X_checkState (by decide) rfl rfl d_X_die_10 rfl (fun w4 r5 h _ => ?_) (fun _ _ h => pvx_out rfl h)
  show pw_V l g cx_X_die Q X 13 [(9, 0), (0, a1), (6, r2), (1, 0)] [] w4
  refine pv_aload_n (n := 14) d_X_die_13 rfl rfl rfl ?_
  refine pv_iconst (v := 0) (n := 15) d_X_die_14 (by decide) rfl ?_
  refine pt_X_76 (n := 18) rfl d_X_die_15 g3 (by decide) rfl (fun w6 e7 => ?_)
  replace h := h w6 e7
  refine pv_aload_n (n := 19) d_X_die_18 rfl rfl rfl ?_
  refine pv_aload_n (n := 20) d_X_die_19 rfl rfl rfl ?_
  refine pv_callV (n := 23) (x := 0) [(6, r2)] [] (con_X_handDownParcels hl0 h) pw_cf7 rfl q_398 q_399 q_400 q_62 q_397 pyo_X_handDownParcels (by decide) rfl rfl (by decide) d_X_die_20 rfl (fun w8 r9 h _ => ?_) (fun _ _ h => h.elim)
  show pw_V l g cx_X_die Q X 23 [(9, 0), (0, a1), (6, r2), (1, 0)] [(0, r9)] w8
  refine pv_istore_n (n := 24) (L' := [(9, 0), (0, a1), (6, r2), (0, r9)]) d_X_die_23 rfl (by decide) rfl rfl ?_
  refine pv_aload_n (n := 25) d_X_die_24 rfl rfl rfl ?_
  refine pv_aload_n (n := 26) d_X_die_25 rfl rfl rfl ?_
  refine pv_callV (n := 29) (x := 0) [(6, r2)] [] (con_X_endRightsOf hl0 h) pw_cf7 rfl q_394 q_395 q_396 q_62 q_393 pyo_X_endRightsOf (by decide) rfl rfl (by decide) d_X_die_26 rfl (fun w10 r11 h _ => ?_) (fun _ _ h => h.elim)
  show pw_V l g cx_X_die Q X 29 [(9, 0), (0, a1), (6, r2), (0, r9)] [] w10
  refine pv_aload_n (n := 30) d_X_die_29 rfl rfl rfl ?_
  refine pv_aload_n (n := 31) d_X_die_30 rfl rfl rfl ?_
  refine pv_callV (n := 34) (x := 0) [(6, r2)] [] (con_X_endSheepOf hl0 h) pw_cf7 rfl q_390 q_391 q_392 q_62 q_389 pyo_X_endSheepOf (by decide) rfl rfl (by decide) d_X_die_31 rfl (fun w12 r13 h _ => ?_) (fun _ _ h => h.elim)
  show pw_V l g cx_X_die Q X 34 [(9, 0), (0, a1), (6, r2), (0, r9)] [] w12
  refine pv_aload_n (n := 35) d_X_die_34 rfl rfl rfl ?_
  refine pv_aload_n (n := 36) d_X_die_35 rfl rfl rfl ?_
  refine pv_callV (n := 39) (x := 0) [(6, r2)] [] (con_X_endMapsOf hl0 h) pw_cf7 rfl q_386 q_387 q_388 q_62 q_385 pyo_X_endMapsOf (by decide) rfl rfl (by decide) d_X_die_36 rfl (fun w14 r15 h _ => ?_) (fun _ _ h => h.elim)
  show pw_V l g cx_X_die Q X 39 [(9, 0), (0, a1), (6, r2), (0, r9)] [] w14
  refine pv_aload_n (n := 40) d_X_die_39 rfl rfl rfl ?_
  refine pv_aload_n (n := 41) d_X_die_40 rfl rfl rfl ?_
  refine pv_callV (n := 44) (x := 0) [(6, r2)] [] (con_X_endUsesOf hl0 h) pw_cf7 rfl q_382 q_383 q_384 q_62 q_381 pyo_X_endUsesOf (by decide) rfl rfl (by decide) d_X_die_41 rfl (fun w16 r17 h _ => ?_) (fun _ _ h => h.elim)
  show pw_V l g cx_X_die Q X 44 [(9, 0), (0, a1), (6, r2), (0, r9)] [] w16
  refine pv_aload_n (n := 45) d_X_die_44 rfl rfl rfl ?_
  refine pv_aload_n (n := 46) d_X_die_45 rfl rfl rfl ?_
  refine pv_callV (n := 49) (x := 0) [(6, r2)] [] (con_X_refuseOpenCasesOf hl0 h) pw_cf7 rfl q_378 q_379 q_380 q_62 q_377 pyo_X_refuseOpenCasesOf (by decide) rfl rfl (by decide) d_X_die_46 rfl (fun w18 r19 h _ => ?_) (fun _ _ h => h.elim)
  show pw_V l g cx_X_die Q X 49 [(9, 0), (0, a1), (6, r2), (0, r9)] [] w18
  refine pv_iload_n (n := 50) d_X_die_49 rfl rfl rfl ?_
  exact pv_iret rfl rfl d_X_die_50 h
set_option maxHeartbeats 4000000 in
set_option maxRecDepth 20000 in
theorem con_X_die {l : Launch} {g : pw_G} {Q : pw_W → Int32 → Prop} {X : pw_W → Nat → Prop} (hl0 : l.stackTraces = false) {w : pw_W} {a1 : Int32} (h : wp_X_die w a1 Q X) : pw_Con l g y_X_die cx_X_die [(9, 0), (0, a1)] w Q X :=
  pw_con (by decide +kernel) rfl rfl hl0 rfl (Nat.le_of_ble_eq_true rfl) (by simp) (vw_X_die hl0 h)
theorem d_X_today_0 : decode (pw_cc cx_X_today) 0 = .ok (.aload_n 0, 1) := by decide +kernel
theorem d_X_today_1 : decode (pw_cc cx_X_today) 1 = .ok (.getfield 145, 3) := by decide +kernel
theorem d_X_today_4 : decode (pw_cc cx_X_today) 4 = .ok (.ireturn, 1) := by decide +kernel
set_option maxHeartbeats 4000000 in
set_option maxRecDepth 20000 in
def wp_X_today (w : pw_W) (Q : pw_W → Int32 → Prop) (X : pw_W → Nat → Prop) : Prop := Q w (w.1 7 0 7)
set_option maxHeartbeats 4000000 in
set_option maxRecDepth 20000 in
theorem vw_X_today {l : Launch} {g : pw_G} {Q : pw_W → Int32 → Prop} {X : pw_W → Nat → Prop} (hl0 : l.stackTraces = false) {w : pw_W} (h : wp_X_today w Q X) : pw_V l g cx_X_today Q X 0 [(9, 0)] [] w := by
  unfold wp_X_today at h
  refine pv_aload_n (n := 1) d_X_today_0 rfl rfl rfl ?_
  refine gt_X_145 (n := 4) rfl d_X_today_1 (by decide) rfl ?_
  exact pv_iret rfl rfl d_X_today_4 h
set_option maxHeartbeats 4000000 in
set_option maxRecDepth 20000 in
theorem con_X_today {l : Launch} {g : pw_G} {Q : pw_W → Int32 → Prop} {X : pw_W → Nat → Prop} (hl0 : l.stackTraces = false) {w : pw_W} (h : wp_X_today w Q X) : pw_Con l g y_X_today cx_X_today [(9, 0)] w Q X :=
  pw_con (by decide +kernel) rfl rfl hl0 rfl (Nat.le_of_ble_eq_true rfl) (by simp) (vw_X_today hl0 h)
theorem d_X_parcels_0 : decode (pw_cc cx_X_parcels) 0 = .ok (.aload_n 0, 1) := by decide +kernel
theorem d_X_parcels_1 : decode (pw_cc cx_X_parcels) 1 = .ok (.getfield 24, 3) := by decide +kernel
theorem d_X_parcels_4 : decode (pw_cc cx_X_parcels) 4 = .ok (.invokeinterface 88 1, 5) := by decide +kernel
theorem d_X_parcels_9 : decode (pw_cc cx_X_parcels) 9 = .ok (.ireturn, 1) := by decide +kernel
set_option maxHeartbeats 4000000 in
set_option maxRecDepth 20000 in
def wp_X_parcels (w : pw_W) (Q : pw_W → Int32 → Prop) (X : pw_W → Nat → Prop) : Prop := w.1 7 0 2 = 0 ∧ Q w (nI (pw_ln w 23 0))
set_option maxHeartbeats 4000000 in
set_option maxRecDepth 20000 in
theorem vw_X_parcels {l : Launch} {g : pw_G} {Q : pw_W → Int32 → Prop} {X : pw_W → Nat → Prop} (hl0 : l.stackTraces = false) {w : pw_W} (h : wp_X_parcels w Q X) : pw_V l g cx_X_parcels Q X 0 [(9, 0)] [] w := by
  unfold wp_X_parcels at h
  refine pv_aload_n (n := 1) d_X_parcels_0 rfl rfl rfl ?_
  obtain ⟨g1, h⟩ := h
  refine gt_X_24 (n := 4) rfl d_X_parcels_1 (by decide) g1 rfl ?_
  refine pv_lsize (n := 9) (f := 23) (by decide) q_49 (by decide) rfl d_X_parcels_4 (by decide) rfl ?_
  exact pv_iret rfl rfl d_X_parcels_9 h
set_option maxHeartbeats 4000000 in
set_option maxRecDepth 20000 in
theorem con_X_parcels {l : Launch} {g : pw_G} {Q : pw_W → Int32 → Prop} {X : pw_W → Nat → Prop} (hl0 : l.stackTraces = false) {w : pw_W} (h : wp_X_parcels w Q X) : pw_Con l g y_X_parcels cx_X_parcels [(9, 0)] w Q X :=
  pw_con (by decide +kernel) rfl rfl hl0 rfl (Nat.le_of_ble_eq_true rfl) (by simp) (vw_X_parcels hl0 h)
theorem d_X_parcelOf_0 : decode (pw_cc cx_X_parcelOf) 0 = .ok (.aload_n 0, 1) := by decide +kernel
theorem d_X_parcelOf_1 : decode (pw_cc cx_X_parcelOf) 1 = .ok (.iload_n 1, 1) := by decide +kernel
theorem d_X_parcelOf_2 : decode (pw_cc cx_X_parcelOf) 2 = .ok (.invokevirtual 270, 3) := by decide +kernel
theorem d_X_parcelOf_5 : decode (pw_cc cx_X_parcelOf) 5 = .ok (.getfield 104, 3) := by decide +kernel
theorem d_X_parcelOf_8 : decode (pw_cc cx_X_parcelOf) 8 = .ok (.getfield 119, 3) := by decide +kernel
theorem d_X_parcelOf_11 : decode (pw_cc cx_X_parcelOf) 11 = .ok (.ireturn, 1) := by decide +kernel
set_option maxHeartbeats 4000000 in
set_option maxRecDepth 20000 in
def wp_X_parcelOf (w : pw_W) (a1 : Int32) (Q : pw_W → Int32 → Prop) (X : pw_W → Nat → Prop) : Prop := wp_X_squareNumbered w a1 (fun w1 r2 => 0 ≤ r2 ∧ 0 ≤ (w1.1 6 (pw_i r2) 1) ∧ Q w1 (w1.1 3 (pw_i (w1.1 6 (pw_i r2) 1)) 0)) X
set_option maxHeartbeats 4000000 in
set_option maxRecDepth 20000 in
theorem vw_X_parcelOf {l : Launch} {g : pw_G} {Q : pw_W → Int32 → Prop} {X : pw_W → Nat → Prop} (hl0 : l.stackTraces = false) {w : pw_W} {a1 : Int32} (h : wp_X_parcelOf w a1 Q X) : pw_V l g cx_X_parcelOf Q X 0 [(9, 0), (0, a1)] [] w := by
  unfold wp_X_parcelOf at h
  refine pv_aload_n (n := 1) d_X_parcelOf_0 rfl rfl rfl ?_
  refine pv_iload_n (n := 2) d_X_parcelOf_1 rfl rfl rfl ?_
  refine pv_callV (n := 5) (x := 0) [(0, a1)] [] (con_X_squareNumbered hl0 h) pw_cf7 rfl q_300 q_301 q_302 q_62 q_299 pyo_X_squareNumbered (by decide) rfl rfl (by decide) d_X_parcelOf_2 rfl (fun w1 r2 h _ => ?_) (fun _ _ h => pvx_out rfl h)
  show pw_V l g cx_X_parcelOf Q X 5 [(9, 0), (0, a1)] [(8, r2)] w1
  obtain ⟨g3, h⟩ := h
  refine gt_X_104 (n := 8) rfl d_X_parcelOf_5 g3 rfl ?_
  obtain ⟨g4, h⟩ := h
  refine gt_X_119 (n := 11) rfl d_X_parcelOf_8 g4 rfl ?_
  exact pv_iret rfl rfl d_X_parcelOf_11 h
set_option maxHeartbeats 4000000 in
set_option maxRecDepth 20000 in
theorem con_X_parcelOf {l : Launch} {g : pw_G} {Q : pw_W → Int32 → Prop} {X : pw_W → Nat → Prop} (hl0 : l.stackTraces = false) {w : pw_W} {a1 : Int32} (h : wp_X_parcelOf w a1 Q X) : pw_Con l g y_X_parcelOf cx_X_parcelOf [(9, 0), (0, a1)] w Q X :=
  pw_con (by decide +kernel) rfl rfl hl0 rfl (Nat.le_of_ble_eq_true rfl) (by simp) (vw_X_parcelOf hl0 h)
theorem d_Square_parcelBefore_0 : decode (pw_cc cx_Square_parcelBefore) 0 = .ok (.iload_n 1, 1) := by decide +kernel
theorem d_Square_parcelBefore_1 : decode (pw_cc cx_Square_parcelBefore) 1 = .ok (.iconst 0, 1) := by decide +kernel
theorem d_Square_parcelBefore_2 : decode (pw_cc cx_Square_parcelBefore) 2 = .ok (.aload_n 0, 1) := by decide +kernel
theorem d_Square_parcelBefore_3 : decode (pw_cc cx_Square_parcelBefore) 3 = .ok (.getfield 15, 3) := by decide +kernel
theorem d_Square_parcelBefore_6 : decode (pw_cc cx_Square_parcelBefore) 6 = .ok (.iconst 1, 1) := by decide +kernel
theorem d_Square_parcelBefore_7 : decode (pw_cc cx_Square_parcelBefore) 7 = .ok (.isub, 1) := by decide +kernel
theorem d_Square_parcelBefore_8 : decode (pw_cc cx_Square_parcelBefore) 8 = .ok (.invokestatic 62, 3) := by decide +kernel
theorem d_Square_parcelBefore_11 : decode (pw_cc cx_Square_parcelBefore) 11 = .ok (.ifCond .eq 19, 3) := by decide +kernel
theorem d_Square_parcelBefore_14 : decode (pw_cc cx_Square_parcelBefore) 14 = .ok (.aload_n 0, 1) := by decide +kernel
theorem d_Square_parcelBefore_15 : decode (pw_cc cx_Square_parcelBefore) 15 = .ok (.getfield 9, 3) := by decide +kernel
theorem d_Square_parcelBefore_18 : decode (pw_cc cx_Square_parcelBefore) 18 = .ok (.aload_n 0, 1) := by decide +kernel
theorem d_Square_parcelBefore_19 : decode (pw_cc cx_Square_parcelBefore) 19 = .ok (.getfield 15, 3) := by decide +kernel
theorem d_Square_parcelBefore_22 : decode (pw_cc cx_Square_parcelBefore) 22 = .ok (.iconst 1, 1) := by decide +kernel
theorem d_Square_parcelBefore_23 : decode (pw_cc cx_Square_parcelBefore) 23 = .ok (.isub, 1) := by decide +kernel
theorem d_Square_parcelBefore_24 : decode (pw_cc cx_Square_parcelBefore) 24 = .ok (.iload_n 1, 1) := by decide +kernel
theorem d_Square_parcelBefore_25 : decode (pw_cc cx_Square_parcelBefore) 25 = .ok (.isub, 1) := by decide +kernel
theorem d_Square_parcelBefore_26 : decode (pw_cc cx_Square_parcelBefore) 26 = .ok (.iaload, 1) := by decide +kernel
theorem d_Square_parcelBefore_27 : decode (pw_cc cx_Square_parcelBefore) 27 = .ok (.goto 4, 3) := by decide +kernel
theorem d_Square_parcelBefore_30 : decode (pw_cc cx_Square_parcelBefore) 30 = .ok (.iconst (-1), 1) := by decide +kernel
theorem d_Square_parcelBefore_31 : decode (pw_cc cx_Square_parcelBefore) 31 = .ok (.ireturn, 1) := by decide +kernel
set_option maxHeartbeats 4000000 in
set_option maxRecDepth 20000 in
def wp_Square_parcelBefore (w : pw_W) (a0 a1 : Int32) (Q : pw_W → Int32 → Prop) (X : pw_W → Nat → Prop) : Prop := 0 ≤ a0 ∧ wp_X_isInRange w a1 0 ((w.1 6 (pw_i a0) 3) - 1) (fun w2 r3 => (r3 = 0 → Q w2 (-1)) ∧ (¬ r3 = 0 → 0 ≤ (w2.1 6 (pw_i a0) 2) ∧ pw_jn (((w2.1 6 (pw_i a0) 3) - 1) - a1) (pw_ln w2 10 (pw_i (w2.1 6 (pw_i a0) 2))) ∧ Q w2 (w2.1 10 (pw_i (w2.1 6 (pw_i a0) 2)) (pw_i (((w2.1 6 (pw_i a0) 3) - 1) - a1))))) (fun _ _ => False)
set_option maxHeartbeats 4000000 in
set_option maxRecDepth 20000 in
theorem vw_Square_parcelBefore {l : Launch} {g : pw_G} {Q : pw_W → Int32 → Prop} {X : pw_W → Nat → Prop} (hl0 : l.stackTraces = false) {w : pw_W} {a0 a1 : Int32} (h : wp_Square_parcelBefore w a0 a1 Q X) : pw_V l g cx_Square_parcelBefore Q X 0 [(8, a0), (0, a1)] [] w := by
  unfold wp_Square_parcelBefore at h
  refine pv_iload_n (n := 1) d_Square_parcelBefore_0 rfl rfl rfl ?_
  refine pv_iconst (v := 0) (n := 2) d_Square_parcelBefore_1 (by decide) rfl ?_
  refine pv_aload_n (n := 3) d_Square_parcelBefore_2 rfl rfl rfl ?_
  obtain ⟨g1, h⟩ := h
  refine gt_Square_15 (n := 6) rfl d_Square_parcelBefore_3 g1 rfl ?_
  refine pv_iconst (v := 1) (n := 7) d_Square_parcelBefore_6 (by decide) rfl ?_
  refine pv_isub (n := 8) d_Square_parcelBefore_7 rfl ?_
  refine pv_callN (n := 11) [(0, a1), (0, 0), (0, ((w.1 6 (pw_i a0) 3) - 1))] [] (con_X_isInRange hl0 h) q_401 q_97 q_62 q_95 pyo_X_isInRange (by decide) rfl rfl d_Square_parcelBefore_8 rfl (fun w2 r3 h _ => ?_) (fun _ _ h => h.elim)
  show pw_V l g cx_Square_parcelBefore Q X 11 [(8, a0), (0, a1)] [(0, r3)] w2
  refine pv_if_eq (n := 14) (tgt := 30) d_Square_parcelBefore_11 (by decide) rfl (fun c4 => ?_) (fun c4 => ?_)
  · replace h := h.1 c4
    refine pv_iconst (v := -1) (n := 31) d_Square_parcelBefore_30 (by decide) rfl ?_
    exact pv_iret rfl rfl d_Square_parcelBefore_31 h
  · replace h := h.2 c4
    refine pv_aload_n (n := 15) d_Square_parcelBefore_14 rfl rfl rfl ?_
    refine gt_Square_9 (n := 18) rfl d_Square_parcelBefore_15 g1 rfl ?_
    refine pv_aload_n (n := 19) d_Square_parcelBefore_18 rfl rfl rfl ?_
    refine gt_Square_15 (n := 22) rfl d_Square_parcelBefore_19 g1 rfl ?_
    refine pv_iconst (v := 1) (n := 23) d_Square_parcelBefore_22 (by decide) rfl ?_
    refine pv_isub (n := 24) d_Square_parcelBefore_23 rfl ?_
    refine pv_iload_n (n := 25) d_Square_parcelBefore_24 rfl rfl rfl ?_
    refine pv_isub (n := 26) d_Square_parcelBefore_25 rfl ?_
    obtain ⟨g5, h⟩ := h
    obtain ⟨g6, h⟩ := h
    refine pv_iald (n := 27) (f := 10) (by decide) rfl d_Square_parcelBefore_26 g5 g6 rfl ?_
    refine pv_goto (tgt := 31) d_Square_parcelBefore_27 (by decide) ?_
    exact pv_iret rfl rfl d_Square_parcelBefore_31 h
set_option maxHeartbeats 4000000 in
set_option maxRecDepth 20000 in
theorem con_Square_parcelBefore {l : Launch} {g : pw_G} {Q : pw_W → Int32 → Prop} {X : pw_W → Nat → Prop} (hl0 : l.stackTraces = false) {w : pw_W} {a0 a1 : Int32} (h : wp_Square_parcelBefore w a0 a1 Q X) : pw_Con l g y_Square_parcelBefore cx_Square_parcelBefore [(8, a0), (0, a1)] w Q X :=
  pw_con (by decide +kernel) rfl rfl hl0 rfl (Nat.le_of_ble_eq_true rfl) (by simp) (vw_Square_parcelBefore hl0 h)
theorem d_X_chain_0 : decode (pw_cc cx_X_chain) 0 = .ok (.aload_n 0, 1) := by decide +kernel
theorem d_X_chain_1 : decode (pw_cc cx_X_chain) 1 = .ok (.iload_n 1, 1) := by decide +kernel
theorem d_X_chain_2 : decode (pw_cc cx_X_chain) 2 = .ok (.invokevirtual 270, 3) := by decide +kernel
theorem d_X_chain_5 : decode (pw_cc cx_X_chain) 5 = .ok (.astore_n 3, 1) := by decide +kernel
theorem d_X_chain_6 : decode (pw_cc cx_X_chain) 6 = .ok (.iload_n 2, 1) := by decide +kernel
theorem d_X_chain_7 : decode (pw_cc cx_X_chain) 7 = .ok (.ifCond .ge 14, 3) := by decide +kernel
theorem d_X_chain_10 : decode (pw_cc cx_X_chain) 10 = .ok (.new 320, 3) := by decide +kernel
theorem d_X_chain_13 : decode (pw_cc cx_X_chain) 13 = .ok (.dup, 1) := by decide +kernel
theorem d_X_chain_14 : decode (pw_cc cx_X_chain) 14 = .ok (.ldc_w 322, 3) := by decide +kernel
theorem d_X_chain_17 : decode (pw_cc cx_X_chain) 17 = .ok (.invokespecial 324, 3) := by decide +kernel
theorem d_X_chain_20 : decode (pw_cc cx_X_chain) 20 = .ok (.athrow, 1) := by decide +kernel
theorem d_X_chain_21 : decode (pw_cc cx_X_chain) 21 = .ok (.aload_n 3, 1) := by decide +kernel
theorem d_X_chain_22 : decode (pw_cc cx_X_chain) 22 = .ok (.iload_n 2, 1) := by decide +kernel
theorem d_X_chain_23 : decode (pw_cc cx_X_chain) 23 = .ok (.invokevirtual 327, 3) := by decide +kernel
theorem d_X_chain_26 : decode (pw_cc cx_X_chain) 26 = .ok (.ireturn, 1) := by decide +kernel
set_option maxHeartbeats 4000000 in
set_option maxRecDepth 20000 in
def wp_X_chain (w : pw_W) (a1 a2 : Int32) (Q : pw_W → Int32 → Prop) (X : pw_W → Nat → Prop) : Prop := wp_X_squareNumbered w a1 (fun w1 r2 => (0 ≤ a2 → 0 ≤ r2 ∧ wp_Square_parcelBefore w1 r2 a2 (fun w4 r5 => Q w4 r5) (fun _ _ => False)) ∧ (¬ 0 ≤ a2 → pw_thr w1 X 1)) X
set_option maxHeartbeats 4000000 in
set_option maxRecDepth 20000 in
theorem vw_X_chain {l : Launch} {g : pw_G} {Q : pw_W → Int32 → Prop} {X : pw_W → Nat → Prop} (hl0 : l.stackTraces = false) {w : pw_W} {a1 a2 : Int32} (h : wp_X_chain w a1 a2 Q X) : pw_V l g cx_X_chain Q X 0 [(9, 0), (0, a1), (0, a2), (1, 0)] [] w := by
  unfold wp_X_chain at h
  refine pv_aload_n (n := 1) d_X_chain_0 rfl rfl rfl ?_
  refine pv_iload_n (n := 2) d_X_chain_1 rfl rfl rfl ?_
  refine pv_callV (n := 5) (x := 0) [(0, a1)] [] (con_X_squareNumbered hl0 h) pw_cf7 rfl q_300 q_301 q_302 q_62 q_299 pyo_X_squareNumbered (by decide) rfl rfl (by decide) d_X_chain_2 rfl (fun w1 r2 h _ => ?_) (fun _ _ h => pvx_out rfl h)
  show pw_V l g cx_X_chain Q X 5 [(9, 0), (0, a1), (0, a2), (1, 0)] [(8, r2)] w1
  refine pv_astore_n (n := 6) (L' := [(9, 0), (0, a1), (0, a2), (8, r2)]) d_X_chain_5 rfl (by decide) rfl rfl ?_
  refine pv_iload_n (n := 7) d_X_chain_6 rfl rfl rfl ?_
  refine pv_if_ge (n := 10) (tgt := 21) d_X_chain_7 (by decide) rfl (fun c3 => ?_) (fun c3 => ?_)
  · replace h := h.1 c3
    refine pv_aload_n (n := 22) d_X_chain_21 rfl rfl rfl ?_
    refine pv_iload_n (n := 23) d_X_chain_22 rfl rfl rfl ?_
    obtain ⟨g6, h⟩ := h
    refine pv_callV (n := 26) (x := r2) [(0, a2)] [] (con_Square_parcelBefore hl0 h) pw_cf6 rfl q_403 q_404 q_405 q_32 q_402 pyo_Square_parcelBefore (by decide) rfl rfl g6 d_X_chain_23 rfl (fun w4 r5 h _ => ?_) (fun _ _ h => h.elim)
    show pw_V l g cx_X_chain Q X 26 [(9, 0), (0, a1), (0, a2), (8, r2)] [(0, r5)] w4
    exact pv_iret rfl rfl d_X_chain_26 h
  · replace h := h.2 c3
    exact pv_throw (k := 1) (text := "back is below 0") hl0 q_88 q_89 (by decide +kernel) (by decide +kernel) (pt_h1_324) (pt_g1_320_324) rfl d_X_chain_10 d_X_chain_13 d_X_chain_14 d_X_chain_17 d_X_chain_20 (by decide) rfl h
set_option maxHeartbeats 4000000 in
set_option maxRecDepth 20000 in
theorem con_X_chain {l : Launch} {g : pw_G} {Q : pw_W → Int32 → Prop} {X : pw_W → Nat → Prop} (hl0 : l.stackTraces = false) {w : pw_W} {a1 a2 : Int32} (h : wp_X_chain w a1 a2 Q X) : pw_Con l g y_X_chain cx_X_chain [(9, 0), (0, a1), (0, a2)] w Q X :=
  pw_con (by decide +kernel) rfl rfl hl0 rfl (Nat.le_of_ble_eq_true rfl) (by simp) (vw_X_chain hl0 h)
theorem d_X_area_0 : decode (pw_cc cx_X_area) 0 = .ok (.aload_n 0, 1) := by decide +kernel
theorem d_X_area_1 : decode (pw_cc cx_X_area) 1 = .ok (.iload_n 1, 1) := by decide +kernel
theorem d_X_area_2 : decode (pw_cc cx_X_area) 2 = .ok (.invokevirtual 61, 3) := by decide +kernel
theorem d_X_area_5 : decode (pw_cc cx_X_area) 5 = .ok (.getfield 54, 3) := by decide +kernel
theorem d_X_area_8 : decode (pw_cc cx_X_area) 8 = .ok (.ireturn, 1) := by decide +kernel
set_option maxHeartbeats 4000000 in
set_option maxRecDepth 20000 in
def wp_X_area (w : pw_W) (a1 : Int32) (Q : pw_W → Int32 → Prop) (X : pw_W → Nat → Prop) : Prop := wp_X_parcelNumbered w a1 (fun w1 r2 => 0 ≤ r2 ∧ Q w1 (w1.1 3 (pw_i r2) 4)) X
set_option maxHeartbeats 4000000 in
set_option maxRecDepth 20000 in
theorem vw_X_area {l : Launch} {g : pw_G} {Q : pw_W → Int32 → Prop} {X : pw_W → Nat → Prop} (hl0 : l.stackTraces = false) {w : pw_W} {a1 : Int32} (h : wp_X_area w a1 Q X) : pw_V l g cx_X_area Q X 0 [(9, 0), (0, a1)] [] w := by
  unfold wp_X_area at h
  refine pv_aload_n (n := 1) d_X_area_0 rfl rfl rfl ?_
  refine pv_iload_n (n := 2) d_X_area_1 rfl rfl rfl ?_
  refine pv_callV (n := 5) (x := 0) [(0, a1)] [] (con_X_parcelNumbered hl0 h) pw_cf7 rfl q_146 q_147 q_148 q_62 q_145 pyo_X_parcelNumbered (by decide) rfl rfl (by decide) d_X_area_2 rfl (fun w1 r2 h _ => ?_) (fun _ _ h => pvx_out rfl h)
  show pw_V l g cx_X_area Q X 5 [(9, 0), (0, a1)] [(5, r2)] w1
  obtain ⟨g3, h⟩ := h
  refine gt_X_54 (n := 8) rfl d_X_area_5 g3 rfl ?_
  exact pv_iret rfl rfl d_X_area_8 h
set_option maxHeartbeats 4000000 in
set_option maxRecDepth 20000 in
theorem con_X_area {l : Launch} {g : pw_G} {Q : pw_W → Int32 → Prop} {X : pw_W → Nat → Prop} (hl0 : l.stackTraces = false) {w : pw_W} {a1 : Int32} (h : wp_X_area w a1 Q X) : pw_Con l g y_X_area cx_X_area [(9, 0), (0, a1)] w Q X :=
  pw_con (by decide +kernel) rfl rfl hl0 rfl (Nat.le_of_ble_eq_true rfl) (by simp) (vw_X_area hl0 h)
theorem d_X_numberOf_0 : decode (pw_cc cx_X_numberOf) 0 = .ok (.aload_n 0, 1) := by decide +kernel
theorem d_X_numberOf_1 : decode (pw_cc cx_X_numberOf) 1 = .ok (.ifnonnull 7, 3) := by decide +kernel
theorem d_X_numberOf_4 : decode (pw_cc cx_X_numberOf) 4 = .ok (.iconst (-1), 1) := by decide +kernel
theorem d_X_numberOf_5 : decode (pw_cc cx_X_numberOf) 5 = .ok (.goto 7, 3) := by decide +kernel
theorem d_X_numberOf_8 : decode (pw_cc cx_X_numberOf) 8 = .ok (.aload_n 0, 1) := by decide +kernel
theorem d_X_numberOf_9 : decode (pw_cc cx_X_numberOf) 9 = .ok (.getfield 230, 3) := by decide +kernel
theorem d_X_numberOf_12 : decode (pw_cc cx_X_numberOf) 12 = .ok (.ireturn, 1) := by decide +kernel
set_option maxHeartbeats 4000000 in
set_option maxRecDepth 20000 in
def wp_X_numberOf (w : pw_W) (a0 : Int32) (Q : pw_W → Int32 → Prop) (X : pw_W → Nat → Prop) : Prop := (¬ a0 = -1 → 0 ≤ a0 ∧ Q w (w.1 4 (pw_i a0) 0)) ∧ (a0 = -1 → Q w (-1))
set_option maxHeartbeats 4000000 in
set_option maxRecDepth 20000 in
theorem vw_X_numberOf {l : Launch} {g : pw_G} {Q : pw_W → Int32 → Prop} {X : pw_W → Nat → Prop} (hl0 : l.stackTraces = false) {w : pw_W} {a0 : Int32} (h : wp_X_numberOf w a0 Q X) : pw_V l g cx_X_numberOf Q X 0 [(6, a0)] [] w := by
  unfold wp_X_numberOf at h
  refine pv_aload_n (n := 1) d_X_numberOf_0 rfl rfl rfl ?_
  refine pv_ifnonnull (n := 4) (tgt := 8) d_X_numberOf_1 (by decide) rfl (fun c1 => ?_) (fun c1 => ?_)
  · replace h := h.1 c1
    refine pv_aload_n (n := 9) d_X_numberOf_8 rfl rfl rfl ?_
    obtain ⟨g2, h⟩ := h
    refine gt_X_230 (n := 12) rfl d_X_numberOf_9 g2 rfl ?_
    exact pv_iret rfl rfl d_X_numberOf_12 h
  · replace h := h.2 c1
    refine pv_iconst (v := -1) (n := 5) d_X_numberOf_4 (by decide) rfl ?_
    refine pv_goto (tgt := 12) d_X_numberOf_5 (by decide) ?_
    exact pv_iret rfl rfl d_X_numberOf_12 h
set_option maxHeartbeats 4000000 in
set_option maxRecDepth 20000 in
theorem con_X_numberOf {l : Launch} {g : pw_G} {Q : pw_W → Int32 → Prop} {X : pw_W → Nat → Prop} (hl0 : l.stackTraces = false) {w : pw_W} {a0 : Int32} (h : wp_X_numberOf w a0 Q X) : pw_Con l g y_X_numberOf cx_X_numberOf [(6, a0)] w Q X :=
  pw_con (by decide +kernel) rfl rfl hl0 rfl (Nat.le_of_ble_eq_true rfl) (by simp) (vw_X_numberOf hl0 h)
theorem d_X_owner_0 : decode (pw_cc cx_X_owner) 0 = .ok (.aload_n 0, 1) := by decide +kernel
theorem d_X_owner_1 : decode (pw_cc cx_X_owner) 1 = .ok (.iload_n 1, 1) := by decide +kernel
theorem d_X_owner_2 : decode (pw_cc cx_X_owner) 2 = .ok (.invokevirtual 61, 3) := by decide +kernel
theorem d_X_owner_5 : decode (pw_cc cx_X_owner) 5 = .ok (.getfield 120, 3) := by decide +kernel
theorem d_X_owner_8 : decode (pw_cc cx_X_owner) 8 = .ok (.invokestatic 330, 3) := by decide +kernel
theorem d_X_owner_11 : decode (pw_cc cx_X_owner) 11 = .ok (.ireturn, 1) := by decide +kernel
set_option maxHeartbeats 4000000 in
set_option maxRecDepth 20000 in
def wp_X_owner (w : pw_W) (a1 : Int32) (Q : pw_W → Int32 → Prop) (X : pw_W → Nat → Prop) : Prop := wp_X_parcelNumbered w a1 (fun w1 r2 => 0 ≤ r2 ∧ wp_X_numberOf w1 (w1.1 3 (pw_i r2) 2) (fun w4 r5 => Q w4 r5) (fun _ _ => False)) X
set_option maxHeartbeats 4000000 in
set_option maxRecDepth 20000 in
theorem vw_X_owner {l : Launch} {g : pw_G} {Q : pw_W → Int32 → Prop} {X : pw_W → Nat → Prop} (hl0 : l.stackTraces = false) {w : pw_W} {a1 : Int32} (h : wp_X_owner w a1 Q X) : pw_V l g cx_X_owner Q X 0 [(9, 0), (0, a1)] [] w := by
  unfold wp_X_owner at h
  refine pv_aload_n (n := 1) d_X_owner_0 rfl rfl rfl ?_
  refine pv_iload_n (n := 2) d_X_owner_1 rfl rfl rfl ?_
  refine pv_callV (n := 5) (x := 0) [(0, a1)] [] (con_X_parcelNumbered hl0 h) pw_cf7 rfl q_146 q_147 q_148 q_62 q_145 pyo_X_parcelNumbered (by decide) rfl rfl (by decide) d_X_owner_2 rfl (fun w1 r2 h _ => ?_) (fun _ _ h => pvx_out rfl h)
  show pw_V l g cx_X_owner Q X 5 [(9, 0), (0, a1)] [(5, r2)] w1
  obtain ⟨g3, h⟩ := h
  refine gt_X_120 (n := 8) rfl d_X_owner_5 g3 rfl ?_
  refine pv_callS (n := 11) [(6, (w1.1 3 (pw_i r2) 2))] [] (con_X_numberOf hl0 h) q_407 q_408 q_62 q_406 pyo_X_numberOf (by decide) rfl rfl d_X_owner_8 rfl (fun w4 r5 h _ => ?_) (fun _ _ h => h.elim)
  show pw_V l g cx_X_owner Q X 11 [(9, 0), (0, a1)] [(0, r5)] w4
  exact pv_iret rfl rfl d_X_owner_11 h
set_option maxHeartbeats 4000000 in
set_option maxRecDepth 20000 in
theorem con_X_owner {l : Launch} {g : pw_G} {Q : pw_W → Int32 → Prop} {X : pw_W → Nat → Prop} (hl0 : l.stackTraces = false) {w : pw_W} {a1 : Int32} (h : wp_X_owner w a1 Q X) : pw_Con l g y_X_owner cx_X_owner [(9, 0), (0, a1)] w Q X :=
  pw_con (by decide +kernel) rfl rfl hl0 rfl (Nat.le_of_ble_eq_true rfl) (by simp) (vw_X_owner hl0 h)
theorem d_X_disputed_0 : decode (pw_cc cx_X_disputed) 0 = .ok (.iload_n 1, 1) := by decide +kernel
theorem d_X_disputed_1 : decode (pw_cc cx_X_disputed) 1 = .ok (.bipush 100, 2) := by decide +kernel
theorem d_X_disputed_3 : decode (pw_cc cx_X_disputed) 3 = .ok (.invokestatic 203, 3) := by decide +kernel
theorem d_X_disputed_6 : decode (pw_cc cx_X_disputed) 6 = .ok (.iconst 0, 1) := by decide +kernel
theorem d_X_disputed_7 : decode (pw_cc cx_X_disputed) 7 = .ok (.istore_n 2, 1) := by decide +kernel
theorem d_X_disputed_8 : decode (pw_cc cx_X_disputed) 8 = .ok (.aload_n 0, 1) := by decide +kernel
theorem d_X_disputed_9 : decode (pw_cc cx_X_disputed) 9 = .ok (.getfield 17, 3) := by decide +kernel
theorem d_X_disputed_12 : decode (pw_cc cx_X_disputed) 12 = .ok (.astore_n 3, 1) := by decide +kernel
theorem d_X_disputed_13 : decode (pw_cc cx_X_disputed) 13 = .ok (.aload_n 3, 1) := by decide +kernel
theorem d_X_disputed_14 : decode (pw_cc cx_X_disputed) 14 = .ok (.arraylength, 1) := by decide +kernel
theorem d_X_disputed_15 : decode (pw_cc cx_X_disputed) 15 = .ok (.istore 4, 2) := by decide +kernel
theorem d_X_disputed_17 : decode (pw_cc cx_X_disputed) 17 = .ok (.iconst 0, 1) := by decide +kernel
theorem d_X_disputed_18 : decode (pw_cc cx_X_disputed) 18 = .ok (.istore 5, 2) := by decide +kernel
theorem d_X_disputed_20 : decode (pw_cc cx_X_disputed) 20 = .ok (.iload 5, 2) := by decide +kernel
theorem d_X_disputed_22 : decode (pw_cc cx_X_disputed) 22 = .ok (.iload 4, 2) := by decide +kernel
theorem d_X_disputed_24 : decode (pw_cc cx_X_disputed) 24 = .ok (.if_icmp .ge 28, 3) := by decide +kernel
theorem d_X_disputed_27 : decode (pw_cc cx_X_disputed) 27 = .ok (.aload_n 3, 1) := by decide +kernel
theorem d_X_disputed_28 : decode (pw_cc cx_X_disputed) 28 = .ok (.iload 5, 2) := by decide +kernel
theorem d_X_disputed_30 : decode (pw_cc cx_X_disputed) 30 = .ok (.aaload, 1) := by decide +kernel
theorem d_X_disputed_31 : decode (pw_cc cx_X_disputed) 31 = .ok (.astore 6, 2) := by decide +kernel
theorem d_X_disputed_33 : decode (pw_cc cx_X_disputed) 33 = .ok (.aload_n 0, 1) := by decide +kernel
theorem d_X_disputed_34 : decode (pw_cc cx_X_disputed) 34 = .ok (.iload_n 1, 1) := by decide +kernel
theorem d_X_disputed_35 : decode (pw_cc cx_X_disputed) 35 = .ok (.aload 6, 2) := by decide +kernel
theorem d_X_disputed_37 : decode (pw_cc cx_X_disputed) 37 = .ok (.invokevirtual 333, 3) := by decide +kernel
theorem d_X_disputed_40 : decode (pw_cc cx_X_disputed) 40 = .ok (.ifCond .eq 6, 3) := by decide +kernel
theorem d_X_disputed_43 : decode (pw_cc cx_X_disputed) 43 = .ok (.iinc 2 1, 3) := by decide +kernel
theorem d_X_disputed_46 : decode (pw_cc cx_X_disputed) 46 = .ok (.iinc 5 1, 3) := by decide +kernel
theorem d_X_disputed_49 : decode (pw_cc cx_X_disputed) 49 = .ok (.goto (-29), 3) := by decide +kernel
theorem d_X_disputed_52 : decode (pw_cc cx_X_disputed) 52 = .ok (.iload_n 2, 1) := by decide +kernel
theorem d_X_disputed_53 : decode (pw_cc cx_X_disputed) 53 = .ok (.ireturn, 1) := by decide +kernel
set_option maxHeartbeats 4000000 in
set_option maxRecDepth 20000 in
def lp_X_disputed_20 (Q : pw_W → Int32 → Prop) (X : pw_W → Nat → Prop) : Nat → Int32 → Int32 → Int32 → Int32 → pw_W → Prop := fun k => Nat.rec (motive := fun _ => Int32 → Int32 → Int32 → Int32 → pw_W → Prop) (fun _ _ _ _ _ => False) (fun _ ih a1 a2 a4 a5 w => (a4 ≤ a5 → Q w a2) ∧ (¬ a4 ≤ a5 → pw_jn a5 (pw_ln w 15 0) ∧ ∀ v3, v3 = (w.1 15 0 (pw_i a5)) → wp_X_isMapped w a1 v3 (fun w5 r6 => (r6 = 0 → ih a1 a2 a4 (a5 + 1) w5) ∧ (¬ r6 = 0 → ih a1 (a2 + 1) a4 (a5 + 1) w5)) (fun _ _ => False))) k
set_option maxHeartbeats 4000000 in
set_option maxRecDepth 20000 in
theorem lp_X_disputed_20_s {Q : pw_W → Int32 → Prop} {X : pw_W → Nat → Prop}  {k : Nat} {a1 a2 a4 a5 : Int32} {w : pw_W} : lp_X_disputed_20 Q X (k + 1) a1 a2 a4 a5 w = (let ih := lp_X_disputed_20 Q X k; (a4 ≤ a5 → Q w a2) ∧ (¬ a4 ≤ a5 → pw_jn a5 (pw_ln w 15 0) ∧ ∀ v3, v3 = (w.1 15 0 (pw_i a5)) → wp_X_isMapped w a1 v3 (fun w5 r6 => (r6 = 0 → ih a1 a2 a4 (a5 + 1) w5) ∧ (¬ r6 = 0 → ih a1 (a2 + 1) a4 (a5 + 1) w5)) (fun _ _ => False))) := rfl
set_option maxHeartbeats 4000000 in
set_option maxRecDepth 20000 in
theorem vlp_X_disputed_20 {l : Launch} {g : pw_G} {Q : pw_W → Int32 → Prop} {X : pw_W → Nat → Prop} (hl0 : l.stackTraces = false) : ∀ (k : Nat) (a1 a2 a4 a5 : Int32) (w : pw_W), lp_X_disputed_20 Q X k a1 a2 a4 a5 w → pw_V l g cx_X_disputed Q X 20 [(9, 0), (0, a1), (0, a2), (17, 0), (0, a4), (0, a5), (1, 0)] [] w := by
  intro k; induction k with
  | zero => intro _ _ _ _ _ h; exact h.elim
  | succ k ih =>
    intro a1 a2 a4 a5 w h
    rw [lp_X_disputed_20_s] at h
    refine pv_iload (n := 22) d_X_disputed_20 rfl rfl ?_
    refine pv_iload (n := 24) d_X_disputed_22 rfl rfl ?_
    refine pv_icmp_ge (n := 27) (tgt := 52) d_X_disputed_24 (by decide) rfl (fun c1 => ?_) (fun c1 => ?_)
    · replace h := h.1 c1
      refine pv_iload_n (n := 53) d_X_disputed_52 rfl rfl rfl ?_
      exact pv_iret rfl rfl d_X_disputed_53 h
    · replace h := h.2 c1
      refine pv_aload_n (n := 28) d_X_disputed_27 rfl rfl rfl ?_
      refine pv_iload (n := 30) d_X_disputed_28 rfl rfl ?_
      obtain ⟨g2, h⟩ := h
      refine pv_aald (n := 31) (f := 15) (F := 4) (C := "Peatland$Person") (by decide) (Or.inr ⟨rfl, rfl⟩) (fun _ => rfl) d_X_disputed_30 (by decide) g2 rfl (fun _ => ?_)
      refine pv_nm (fun v3 e4 => ?_)
      replace h := h v3 e4
      refine pv_astore (n := 33) (L' := [(9, 0), (0, a1), (0, a2), (17, 0), (0, a4), (0, a5), (6, v3)]) d_X_disputed_31 (by decide) rfl rfl ?_
      refine pv_aload_n (n := 34) d_X_disputed_33 rfl rfl rfl ?_
      refine pv_iload_n (n := 35) d_X_disputed_34 rfl rfl rfl ?_
      refine pv_aload (n := 37) d_X_disputed_35 rfl rfl ?_
      refine pv_callV (n := 40) (x := 0) [(0, a1), (6, v3)] [] (con_X_isMapped hl0 h) pw_cf7 rfl q_189 q_190 q_191 q_62 q_188 pyo_X_isMapped (by decide) rfl rfl (by decide) d_X_disputed_37 rfl (fun w5 r6 h _ => ?_) (fun _ _ h => h.elim)
      show pw_V l g cx_X_disputed Q X 40 [(9, 0), (0, a1), (0, a2), (17, 0), (0, a4), (0, a5), (6, v3)] [(0, r6)] w5
      refine pv_if_eq (n := 43) (tgt := 46) d_X_disputed_40 (by decide) rfl (fun c7 => ?_) (fun c7 => ?_)
      · replace h := h.1 c7
        refine pv_iinc (v := (a5 + 1)) (n := 49) (L1 := [(9, 0), (0, a1), (0, a2), (17, 0), (0, a4), (0, (a5 + 1)), (6, v3)]) d_X_disputed_46 rfl rfl rfl (by decide) rfl ?_
        refine pv_goto (tgt := 20) d_X_disputed_49 (by decide) ?_
        refine pv_unset (i := 6) (L1 := [(9, 0), (0, a1), (0, a2), (17, 0), (0, a4), (0, (a5 + 1)), (1, 0)]) rfl ?_
        exact ih _ _ _ _ _ h
      · replace h := h.2 c7
        refine pv_iinc (v := (a2 + 1)) (n := 46) (L1 := [(9, 0), (0, a1), (0, (a2 + 1)), (17, 0), (0, a4), (0, a5), (6, v3)]) d_X_disputed_43 rfl rfl rfl (by decide) rfl ?_
        refine pv_iinc (v := (a5 + 1)) (n := 49) (L1 := [(9, 0), (0, a1), (0, (a2 + 1)), (17, 0), (0, a4), (0, (a5 + 1)), (6, v3)]) d_X_disputed_46 rfl rfl rfl (by decide) rfl ?_
        refine pv_goto (tgt := 20) d_X_disputed_49 (by decide) ?_
        refine pv_unset (i := 6) (L1 := [(9, 0), (0, a1), (0, (a2 + 1)), (17, 0), (0, a4), (0, (a5 + 1)), (1, 0)]) rfl ?_
        exact ih _ _ _ _ _ h
set_option maxHeartbeats 4000000 in
set_option maxRecDepth 20000 in
def wp_X_disputed (w : pw_W) (a1 : Int32) (Q : pw_W → Int32 → Prop) (X : pw_W → Nat → Prop) : Prop := wp_X_checkIndex w a1 100 (fun w8 r9 => w8.1 7 0 1 = 0 ∧ ∀ v11, v11 = (nI (pw_ln w8 15 0)) → ∃ k13, lp_X_disputed_20 Q X k13 a1 0 v11 0 w8) X
set_option maxHeartbeats 4000000 in
set_option maxRecDepth 20000 in
theorem vw_X_disputed {l : Launch} {g : pw_G} {Q : pw_W → Int32 → Prop} {X : pw_W → Nat → Prop} (hl0 : l.stackTraces = false) {w : pw_W} {a1 : Int32} (h : wp_X_disputed w a1 Q X) : pw_V l g cx_X_disputed Q X 0 [(9, 0), (0, a1), (1, 0), (1, 0), (1, 0), (1, 0), (1, 0)] [] w := by
  unfold wp_X_disputed at h
  refine pv_iload_n (n := 1) d_X_disputed_0 rfl rfl rfl ?_
  refine pv_bipush (v := 100) (n := 3) d_X_disputed_1 (by decide) rfl ?_
  refine pv_callS (n := 6) [(0, a1), (0, 100)] [] (con_X_checkIndex hl0 h) q_91 q_92 q_62 q_90 pyo_X_checkIndex (by decide) rfl rfl d_X_disputed_3 rfl (fun w8 r9 h _ => ?_) (fun _ _ h => pvx_out rfl h)
  show pw_V l g cx_X_disputed Q X 6 [(9, 0), (0, a1), (1, 0), (1, 0), (1, 0), (1, 0), (1, 0)] [] w8
  refine pv_iconst (v := 0) (n := 7) d_X_disputed_6 (by decide) rfl ?_
  refine pv_istore_n (n := 8) (L' := [(9, 0), (0, a1), (0, 0), (1, 0), (1, 0), (1, 0), (1, 0)]) d_X_disputed_7 rfl (by decide) rfl rfl ?_
  refine pv_aload_n (n := 9) d_X_disputed_8 rfl rfl rfl ?_
  obtain ⟨g10, h⟩ := h
  refine gt_X_17 (n := 12) rfl d_X_disputed_9 (by decide) g10 rfl ?_
  refine pv_astore_n (n := 13) (L' := [(9, 0), (0, a1), (0, 0), (17, 0), (1, 0), (1, 0), (1, 0)]) d_X_disputed_12 rfl (by decide) rfl rfl ?_
  refine pv_aload_n (n := 14) d_X_disputed_13 rfl rfl rfl ?_
  refine pv_alen (n := 15) (f := 15) (by decide) ⟨_, rfl⟩ d_X_disputed_14 (by decide) rfl ?_
  refine pv_nm (fun v11 e12 => ?_)
  replace h := h v11 e12
  refine pv_istore (n := 17) (L' := [(9, 0), (0, a1), (0, 0), (17, 0), (0, v11), (1, 0), (1, 0)]) d_X_disputed_15 (by decide) rfl rfl ?_
  refine pv_iconst (v := 0) (n := 18) d_X_disputed_17 (by decide) rfl ?_
  refine pv_istore (n := 20) (L' := [(9, 0), (0, a1), (0, 0), (17, 0), (0, v11), (0, 0), (1, 0)]) d_X_disputed_18 (by decide) rfl rfl ?_
  obtain ⟨k13, h⟩ := h
  exact vlp_X_disputed_20 hl0 _ _ _ _ _ _ h
set_option maxHeartbeats 4000000 in
set_option maxRecDepth 20000 in
theorem con_X_disputed {l : Launch} {g : pw_G} {Q : pw_W → Int32 → Prop} {X : pw_W → Nat → Prop} (hl0 : l.stackTraces = false) {w : pw_W} {a1 : Int32} (h : wp_X_disputed w a1 Q X) : pw_Con l g y_X_disputed cx_X_disputed [(9, 0), (0, a1)] w Q X :=
  pw_con (by decide +kernel) rfl rfl hl0 rfl (Nat.le_of_ble_eq_true rfl) (by simp) (vw_X_disputed hl0 h)
theorem d_X_countGivenBy_0 : decode (pw_cc cx_X_countGivenBy) 0 = .ok (.iconst 0, 1) := by decide +kernel
theorem d_X_countGivenBy_1 : decode (pw_cc cx_X_countGivenBy) 1 = .ok (.istore_n 2, 1) := by decide +kernel
theorem d_X_countGivenBy_2 : decode (pw_cc cx_X_countGivenBy) 2 = .ok (.aload_n 0, 1) := by decide +kernel
theorem d_X_countGivenBy_3 : decode (pw_cc cx_X_countGivenBy) 3 = .ok (.getfield 11, 3) := by decide +kernel
theorem d_X_countGivenBy_6 : decode (pw_cc cx_X_countGivenBy) 6 = .ok (.astore_n 3, 1) := by decide +kernel
theorem d_X_countGivenBy_7 : decode (pw_cc cx_X_countGivenBy) 7 = .ok (.aload_n 3, 1) := by decide +kernel
theorem d_X_countGivenBy_8 : decode (pw_cc cx_X_countGivenBy) 8 = .ok (.arraylength, 1) := by decide +kernel
theorem d_X_countGivenBy_9 : decode (pw_cc cx_X_countGivenBy) 9 = .ok (.istore 4, 2) := by decide +kernel
theorem d_X_countGivenBy_11 : decode (pw_cc cx_X_countGivenBy) 11 = .ok (.iconst 0, 1) := by decide +kernel
theorem d_X_countGivenBy_12 : decode (pw_cc cx_X_countGivenBy) 12 = .ok (.istore 5, 2) := by decide +kernel
theorem d_X_countGivenBy_14 : decode (pw_cc cx_X_countGivenBy) 14 = .ok (.iload 5, 2) := by decide +kernel
theorem d_X_countGivenBy_16 : decode (pw_cc cx_X_countGivenBy) 16 = .ok (.iload 4, 2) := by decide +kernel
theorem d_X_countGivenBy_18 : decode (pw_cc cx_X_countGivenBy) 18 = .ok (.if_icmp .ge 27, 3) := by decide +kernel
theorem d_X_countGivenBy_21 : decode (pw_cc cx_X_countGivenBy) 21 = .ok (.aload_n 3, 1) := by decide +kernel
theorem d_X_countGivenBy_22 : decode (pw_cc cx_X_countGivenBy) 22 = .ok (.iload 5, 2) := by decide +kernel
theorem d_X_countGivenBy_24 : decode (pw_cc cx_X_countGivenBy) 24 = .ok (.aaload, 1) := by decide +kernel
theorem d_X_countGivenBy_25 : decode (pw_cc cx_X_countGivenBy) 25 = .ok (.astore 6, 2) := by decide +kernel
theorem d_X_countGivenBy_27 : decode (pw_cc cx_X_countGivenBy) 27 = .ok (.aload 6, 2) := by decide +kernel
theorem d_X_countGivenBy_29 : decode (pw_cc cx_X_countGivenBy) 29 = .ok (.getfield 403, 3) := by decide +kernel
theorem d_X_countGivenBy_32 : decode (pw_cc cx_X_countGivenBy) 32 = .ok (.aload_n 1, 1) := by decide +kernel
theorem d_X_countGivenBy_33 : decode (pw_cc cx_X_countGivenBy) 33 = .ok (.if_acmp .ne 6, 3) := by decide +kernel
theorem d_X_countGivenBy_36 : decode (pw_cc cx_X_countGivenBy) 36 = .ok (.iinc 2 1, 3) := by decide +kernel
theorem d_X_countGivenBy_39 : decode (pw_cc cx_X_countGivenBy) 39 = .ok (.iinc 5 1, 3) := by decide +kernel
theorem d_X_countGivenBy_42 : decode (pw_cc cx_X_countGivenBy) 42 = .ok (.goto (-28), 3) := by decide +kernel
theorem d_X_countGivenBy_45 : decode (pw_cc cx_X_countGivenBy) 45 = .ok (.iload_n 2, 1) := by decide +kernel
theorem d_X_countGivenBy_46 : decode (pw_cc cx_X_countGivenBy) 46 = .ok (.ireturn, 1) := by decide +kernel
set_option maxHeartbeats 4000000 in
set_option maxRecDepth 20000 in
def lp_X_countGivenBy_14 (Q : pw_W → Int32 → Prop) (X : pw_W → Nat → Prop) : Nat → Int32 → Int32 → Int32 → Int32 → pw_W → Prop := fun k => Nat.rec (motive := fun _ => Int32 → Int32 → Int32 → Int32 → pw_W → Prop) (fun _ _ _ _ _ => False) (fun _ ih a1 a2 a4 a5 w => (a4 ≤ a5 → Q w a2) ∧ (¬ a4 ≤ a5 → pw_jn a5 (pw_ln w 14 0) ∧ ∀ v3, v3 = (w.1 14 0 (pw_i a5)) → 0 ≤ v3 ∧ (¬ (w.1 6 (pw_i v3) 9) = a1 → ih a1 a2 a4 (a5 + 1) w) ∧ ((w.1 6 (pw_i v3) 9) = a1 → ih a1 (a2 + 1) a4 (a5 + 1) w))) k
set_option maxHeartbeats 4000000 in
set_option maxRecDepth 20000 in
theorem lp_X_countGivenBy_14_s {Q : pw_W → Int32 → Prop} {X : pw_W → Nat → Prop}  {k : Nat} {a1 a2 a4 a5 : Int32} {w : pw_W} : lp_X_countGivenBy_14 Q X (k + 1) a1 a2 a4 a5 w = (let ih := lp_X_countGivenBy_14 Q X k; (a4 ≤ a5 → Q w a2) ∧ (¬ a4 ≤ a5 → pw_jn a5 (pw_ln w 14 0) ∧ ∀ v3, v3 = (w.1 14 0 (pw_i a5)) → 0 ≤ v3 ∧ (¬ (w.1 6 (pw_i v3) 9) = a1 → ih a1 a2 a4 (a5 + 1) w) ∧ ((w.1 6 (pw_i v3) 9) = a1 → ih a1 (a2 + 1) a4 (a5 + 1) w))) := rfl
set_option maxHeartbeats 4000000 in
set_option maxRecDepth 20000 in
theorem vlp_X_countGivenBy_14 {l : Launch} {g : pw_G} {Q : pw_W → Int32 → Prop} {X : pw_W → Nat → Prop} (hl0 : l.stackTraces = false) : ∀ (k : Nat) (a1 a2 a4 a5 : Int32) (w : pw_W), lp_X_countGivenBy_14 Q X k a1 a2 a4 a5 w → pw_V l g cx_X_countGivenBy Q X 14 [(1, 0), (2, a1), (0, a2), (16, 0), (0, a4), (0, a5), (1, 0)] [] w := by
  intro k; induction k with
  | zero => intro _ _ _ _ _ h; exact h.elim
  | succ k ih =>
    intro a1 a2 a4 a5 w h
    rw [lp_X_countGivenBy_14_s] at h
    refine pv_iload (n := 16) d_X_countGivenBy_14 rfl rfl ?_
    refine pv_iload (n := 18) d_X_countGivenBy_16 rfl rfl ?_
    refine pv_icmp_ge (n := 21) (tgt := 45) d_X_countGivenBy_18 (by decide) rfl (fun c1 => ?_) (fun c1 => ?_)
    · replace h := h.1 c1
      refine pv_iload_n (n := 46) d_X_countGivenBy_45 rfl rfl rfl ?_
      exact pv_iret rfl rfl d_X_countGivenBy_46 h
    · replace h := h.2 c1
      refine pv_aload_n (n := 22) d_X_countGivenBy_21 rfl rfl rfl ?_
      refine pv_iload (n := 24) d_X_countGivenBy_22 rfl rfl ?_
      obtain ⟨g2, h⟩ := h
      refine pv_aald (n := 25) (f := 14) (F := 6) (C := "Peatland$Square") (by decide) (Or.inl ⟨rfl, rfl⟩) (fun _ => rfl) d_X_countGivenBy_24 (by decide) g2 rfl (fun _ => ?_)
      refine pv_nm (fun v3 e4 => ?_)
      replace h := h v3 e4
      refine pv_astore (n := 27) (L' := [(1, 0), (2, a1), (0, a2), (16, 0), (0, a4), (0, a5), (8, v3)]) d_X_countGivenBy_25 (by decide) rfl rfl ?_
      refine pv_aload (n := 29) d_X_countGivenBy_27 rfl rfl ?_
      obtain ⟨g5, h⟩ := h
      refine gt_X_403 (n := 32) rfl d_X_countGivenBy_29 g5 rfl ?_
      refine pv_aload_n (n := 33) d_X_countGivenBy_32 rfl rfl rfl ?_
      refine pv_acmp_ne (n := 36) (tgt := 39) d_X_countGivenBy_33 (by decide) (by decide) rfl (fun c6 => ?_) (fun c6 => ?_)
      · replace h := h.1 c6
        refine pv_iinc (v := (a5 + 1)) (n := 42) (L1 := [(1, 0), (2, a1), (0, a2), (16, 0), (0, a4), (0, (a5 + 1)), (8, v3)]) d_X_countGivenBy_39 rfl rfl rfl (by decide) rfl ?_
        refine pv_goto (tgt := 14) d_X_countGivenBy_42 (by decide) ?_
        refine pv_unset (i := 6) (L1 := [(1, 0), (2, a1), (0, a2), (16, 0), (0, a4), (0, (a5 + 1)), (1, 0)]) rfl ?_
        exact ih _ _ _ _ _ h
      · replace h := h.2 c6
        refine pv_iinc (v := (a2 + 1)) (n := 39) (L1 := [(1, 0), (2, a1), (0, (a2 + 1)), (16, 0), (0, a4), (0, a5), (8, v3)]) d_X_countGivenBy_36 rfl rfl rfl (by decide) rfl ?_
        refine pv_iinc (v := (a5 + 1)) (n := 42) (L1 := [(1, 0), (2, a1), (0, (a2 + 1)), (16, 0), (0, a4), (0, (a5 + 1)), (8, v3)]) d_X_countGivenBy_39 rfl rfl rfl (by decide) rfl ?_
        refine pv_goto (tgt := 14) d_X_countGivenBy_42 (by decide) ?_
        refine pv_unset (i := 6) (L1 := [(1, 0), (2, a1), (0, (a2 + 1)), (16, 0), (0, a4), (0, (a5 + 1)), (1, 0)]) rfl ?_
        exact ih _ _ _ _ _ h
set_option maxHeartbeats 4000000 in
set_option maxRecDepth 20000 in
def wp_X_countGivenBy (w : pw_W) (a1 : Int32) (Q : pw_W → Int32 → Prop) (X : pw_W → Nat → Prop) : Prop := w.1 7 0 0 = 0 ∧ ∀ v8, v8 = (nI (pw_ln w 14 0)) → ∃ k10, lp_X_countGivenBy_14 Q X k10 a1 0 v8 0 w
set_option maxHeartbeats 4000000 in
set_option maxRecDepth 20000 in
theorem vw_X_countGivenBy {l : Launch} {g : pw_G} {Q : pw_W → Int32 → Prop} {X : pw_W → Nat → Prop} (hl0 : l.stackTraces = false) {w : pw_W} {a1 : Int32} (h : wp_X_countGivenBy w a1 Q X) : pw_V l g cx_X_countGivenBy Q X 0 [(9, 0), (2, a1), (1, 0), (1, 0), (1, 0), (1, 0), (1, 0)] [] w := by
  unfold wp_X_countGivenBy at h
  refine pv_iconst (v := 0) (n := 1) d_X_countGivenBy_0 (by decide) rfl ?_
  refine pv_istore_n (n := 2) (L' := [(9, 0), (2, a1), (0, 0), (1, 0), (1, 0), (1, 0), (1, 0)]) d_X_countGivenBy_1 rfl (by decide) rfl rfl ?_
  refine pv_aload_n (n := 3) d_X_countGivenBy_2 rfl rfl rfl ?_
  obtain ⟨g7, h⟩ := h
  refine gt_X_11 (n := 6) rfl d_X_countGivenBy_3 (by decide) g7 rfl ?_
  refine pv_astore_n (n := 7) (L' := [(9, 0), (2, a1), (0, 0), (16, 0), (1, 0), (1, 0), (1, 0)]) d_X_countGivenBy_6 rfl (by decide) rfl rfl ?_
  refine pv_aload_n (n := 8) d_X_countGivenBy_7 rfl rfl rfl ?_
  refine pv_alen (n := 9) (f := 14) (by decide) ⟨_, rfl⟩ d_X_countGivenBy_8 (by decide) rfl ?_
  refine pv_nm (fun v8 e9 => ?_)
  replace h := h v8 e9
  refine pv_istore (n := 11) (L' := [(9, 0), (2, a1), (0, 0), (16, 0), (0, v8), (1, 0), (1, 0)]) d_X_countGivenBy_9 (by decide) rfl rfl ?_
  refine pv_iconst (v := 0) (n := 12) d_X_countGivenBy_11 (by decide) rfl ?_
  refine pv_istore (n := 14) (L' := [(9, 0), (2, a1), (0, 0), (16, 0), (0, v8), (0, 0), (1, 0)]) d_X_countGivenBy_12 (by decide) rfl rfl ?_
  refine pv_unset (i := 0) (L1 := [(1, 0), (2, a1), (0, 0), (16, 0), (0, v8), (0, 0), (1, 0)]) rfl ?_
  obtain ⟨k10, h⟩ := h
  exact vlp_X_countGivenBy_14 hl0 _ _ _ _ _ _ h
set_option maxHeartbeats 4000000 in
set_option maxRecDepth 20000 in
theorem con_X_countGivenBy {l : Launch} {g : pw_G} {Q : pw_W → Int32 → Prop} {X : pw_W → Nat → Prop} (hl0 : l.stackTraces = false) {w : pw_W} {a1 : Int32} (h : wp_X_countGivenBy w a1 Q X) : pw_Con l g y_X_countGivenBy cx_X_countGivenBy [(9, 0), (2, a1)] w Q X :=
  pw_con (by decide +kernel) rfl rfl hl0 rfl (Nat.le_of_ble_eq_true rfl) (by simp) (vw_X_countGivenBy hl0 h)
theorem d_X_caseAt_0 : decode (pw_cc cx_X_caseAt) 0 = .ok (.aload_n 0, 1) := by decide +kernel
theorem d_X_caseAt_1 : decode (pw_cc cx_X_caseAt) 1 = .ok (.iload_n 1, 1) := by decide +kernel
theorem d_X_caseAt_2 : decode (pw_cc cx_X_caseAt) 2 = .ok (.invokevirtual 164, 3) := by decide +kernel
theorem d_X_caseAt_5 : decode (pw_cc cx_X_caseAt) 5 = .ok (.astore_n 3, 1) := by decide +kernel
theorem d_X_caseAt_6 : decode (pw_cc cx_X_caseAt) 6 = .ok (.iload_n 2, 1) := by decide +kernel
theorem d_X_caseAt_7 : decode (pw_cc cx_X_caseAt) 7 = .ok (.tableswitch 50 0 3 #[29, 34, 39, 44], 29) := by decide +kernel
theorem d_X_caseAt_36 : decode (pw_cc cx_X_caseAt) 36 = .ok (.aload_n 3, 1) := by decide +kernel
theorem d_X_caseAt_37 : decode (pw_cc cx_X_caseAt) 37 = .ok (.getfield 174, 3) := by decide +kernel
theorem d_X_caseAt_40 : decode (pw_cc cx_X_caseAt) 40 = .ok (.ireturn, 1) := by decide +kernel
theorem d_X_caseAt_41 : decode (pw_cc cx_X_caseAt) 41 = .ok (.aload_n 3, 1) := by decide +kernel
theorem d_X_caseAt_42 : decode (pw_cc cx_X_caseAt) 42 = .ok (.getfield 190, 3) := by decide +kernel
theorem d_X_caseAt_45 : decode (pw_cc cx_X_caseAt) 45 = .ok (.ireturn, 1) := by decide +kernel
theorem d_X_caseAt_46 : decode (pw_cc cx_X_caseAt) 46 = .ok (.aload_n 3, 1) := by decide +kernel
theorem d_X_caseAt_47 : decode (pw_cc cx_X_caseAt) 47 = .ok (.getfield 163, 3) := by decide +kernel
theorem d_X_caseAt_50 : decode (pw_cc cx_X_caseAt) 50 = .ok (.ireturn, 1) := by decide +kernel
theorem d_X_caseAt_51 : decode (pw_cc cx_X_caseAt) 51 = .ok (.aload_n 0, 1) := by decide +kernel
theorem d_X_caseAt_52 : decode (pw_cc cx_X_caseAt) 52 = .ok (.aload_n 3, 1) := by decide +kernel
theorem d_X_caseAt_53 : decode (pw_cc cx_X_caseAt) 53 = .ok (.invokevirtual 337, 3) := by decide +kernel
theorem d_X_caseAt_56 : decode (pw_cc cx_X_caseAt) 56 = .ok (.ireturn, 1) := by decide +kernel
theorem d_X_caseAt_57 : decode (pw_cc cx_X_caseAt) 57 = .ok (.new 320, 3) := by decide +kernel
theorem d_X_caseAt_60 : decode (pw_cc cx_X_caseAt) 60 = .ok (.dup, 1) := by decide +kernel
theorem d_X_caseAt_61 : decode (pw_cc cx_X_caseAt) 61 = .ok (.ldc_w 340, 3) := by decide +kernel
theorem d_X_caseAt_64 : decode (pw_cc cx_X_caseAt) 64 = .ok (.invokespecial 324, 3) := by decide +kernel
theorem d_X_caseAt_67 : decode (pw_cc cx_X_caseAt) 67 = .ok (.athrow, 1) := by decide +kernel
set_option maxHeartbeats 4000000 in
set_option maxRecDepth 20000 in
def wp_X_caseAt (w : pw_W) (a1 a2 : Int32) (Q : pw_W → Int32 → Prop) (X : pw_W → Nat → Prop) : Prop := wp_X_caseNumbered w a1 (fun w1 r2 => ((a2.toInt < 0 ∨ 3 < a2.toInt) → pw_thr w1 X 1) ∧ (a2 = 0 → 0 ≤ r2 ∧ Q w1 (w1.1 0 (pw_i r2) 3)) ∧ (a2 = 1 → 0 ≤ r2 ∧ Q w1 (w1.1 0 (pw_i r2) 4)) ∧ (a2 = 2 → 0 ≤ r2 ∧ Q w1 (w1.1 0 (pw_i r2) 2)) ∧ (a2 = 3 → wp_X_countGivenBy w1 r2 (fun w7 r8 => Q w7 r8) (fun _ _ => False))) X
set_option maxHeartbeats 4000000 in
set_option maxRecDepth 20000 in
theorem vw_X_caseAt {l : Launch} {g : pw_G} {Q : pw_W → Int32 → Prop} {X : pw_W → Nat → Prop} (hl0 : l.stackTraces = false) {w : pw_W} {a1 a2 : Int32} (h : wp_X_caseAt w a1 a2 Q X) : pw_V l g cx_X_caseAt Q X 0 [(9, 0), (0, a1), (0, a2), (1, 0)] [] w := by
  unfold wp_X_caseAt at h
  refine pv_aload_n (n := 1) d_X_caseAt_0 rfl rfl rfl ?_
  refine pv_iload_n (n := 2) d_X_caseAt_1 rfl rfl rfl ?_
  refine pv_callV (n := 5) (x := 0) [(0, a1)] [] (con_X_caseNumbered hl0 h) pw_cf7 rfl q_217 q_218 q_219 q_62 q_216 pyo_X_caseNumbered (by decide) rfl rfl (by decide) d_X_caseAt_2 rfl (fun w1 r2 h _ => ?_) (fun _ _ h => pvx_out rfl h)
  show pw_V l g cx_X_caseAt Q X 5 [(9, 0), (0, a1), (0, a2), (1, 0)] [(2, r2)] w1
  refine pv_astore_n (n := 6) (L' := [(9, 0), (0, a1), (0, a2), (2, r2)]) d_X_caseAt_5 rfl (by decide) rfl rfl ?_
  refine pv_iload_n (n := 7) d_X_caseAt_6 rfl rfl rfl ?_
  by_cases c3 : a2.toInt < 0 ∨ 3 < a2.toInt
  · replace h := h.1 c3
    refine pv_tableOut (tgt := 57) d_X_caseAt_7 c3 (by decide) ?_
    exact pv_throw (k := 1) (text := "no such thing is told of a case") hl0 q_88 q_89 (by decide +kernel) (by decide +kernel) (pt_h1_324) (pt_g1_320_324) rfl d_X_caseAt_57 d_X_caseAt_60 d_X_caseAt_61 d_X_caseAt_64 d_X_caseAt_67 (by decide) rfl h
  · replace h := h.2
    obtain ⟨cn, hcn, hce⟩ := pw_sw (N := 4) (x := a2) c3
    have hcs : cn = 0 ∨ cn = 1 ∨ cn = 2 ∨ cn = 3 := by omega
    rcases hcs with rfl | rfl | rfl | rfl
    · replace hce : a2 = 0 := hce
      replace h := h.1 hce
      refine pv_tableIn (tgt := 36) (off := 29) d_X_caseAt_7 (by rw [hce]; decide) (by rw [hce]; decide) (by rw [hce]; rfl) (by decide) ?_
      refine pv_aload_n (n := 37) d_X_caseAt_36 rfl rfl rfl ?_
      obtain ⟨g4, h⟩ := h
      refine gt_X_174 (n := 40) rfl d_X_caseAt_37 g4 rfl ?_
      exact pv_iret rfl rfl d_X_caseAt_40 h
    · replace hce : a2 = 1 := hce
      replace h := h.2.1 hce
      refine pv_tableIn (tgt := 41) (off := 34) d_X_caseAt_7 (by rw [hce]; decide) (by rw [hce]; decide) (by rw [hce]; rfl) (by decide) ?_
      refine pv_aload_n (n := 42) d_X_caseAt_41 rfl rfl rfl ?_
      obtain ⟨g5, h⟩ := h
      refine gt_X_190 (n := 45) rfl d_X_caseAt_42 g5 rfl ?_
      exact pv_iret rfl rfl d_X_caseAt_45 h
    · replace hce : a2 = 2 := hce
      replace h := h.2.2.1 hce
      refine pv_tableIn (tgt := 46) (off := 39) d_X_caseAt_7 (by rw [hce]; decide) (by rw [hce]; decide) (by rw [hce]; rfl) (by decide) ?_
      refine pv_aload_n (n := 47) d_X_caseAt_46 rfl rfl rfl ?_
      obtain ⟨g6, h⟩ := h
      refine gt_X_163 (n := 50) rfl d_X_caseAt_47 g6 rfl ?_
      exact pv_iret rfl rfl d_X_caseAt_50 h
    · replace hce : a2 = 3 := hce
      replace h := h.2.2.2 hce
      refine pv_tableIn (tgt := 51) (off := 44) d_X_caseAt_7 (by rw [hce]; decide) (by rw [hce]; decide) (by rw [hce]; rfl) (by decide) ?_
      refine pv_aload_n (n := 52) d_X_caseAt_51 rfl rfl rfl ?_
      refine pv_aload_n (n := 53) d_X_caseAt_52 rfl rfl rfl ?_
      refine pv_callV (n := 56) (x := 0) [(2, r2)] [] (con_X_countGivenBy hl0 h) pw_cf7 rfl q_410 q_411 q_412 q_62 q_409 pyo_X_countGivenBy (by decide) rfl rfl (by decide) d_X_caseAt_53 rfl (fun w7 r8 h _ => ?_) (fun _ _ h => h.elim)
      show pw_V l g cx_X_caseAt Q X 56 [(9, 0), (0, a1), (0, a2), (2, r2)] [(0, r8)] w7
      exact pv_iret rfl rfl d_X_caseAt_56 h
set_option maxHeartbeats 4000000 in
set_option maxRecDepth 20000 in
theorem con_X_caseAt {l : Launch} {g : pw_G} {Q : pw_W → Int32 → Prop} {X : pw_W → Nat → Prop} (hl0 : l.stackTraces = false) {w : pw_W} {a1 a2 : Int32} (h : wp_X_caseAt w a1 a2 Q X) : pw_Con l g y_X_caseAt cx_X_caseAt [(9, 0), (0, a1), (0, a2)] w Q X :=
  pw_con (by decide +kernel) rfl rfl hl0 rfl (Nat.le_of_ble_eq_true rfl) (by simp) (vw_X_caseAt hl0 h)
theorem d_X_rightAt_0 : decode (pw_cc cx_X_rightAt) 0 = .ok (.aload_n 0, 1) := by decide +kernel
theorem d_X_rightAt_1 : decode (pw_cc cx_X_rightAt) 1 = .ok (.iload_n 1, 1) := by decide +kernel
theorem d_X_rightAt_2 : decode (pw_cc cx_X_rightAt) 2 = .ok (.invokevirtual 219, 3) := by decide +kernel
theorem d_X_rightAt_5 : decode (pw_cc cx_X_rightAt) 5 = .ok (.astore_n 3, 1) := by decide +kernel
theorem d_X_rightAt_6 : decode (pw_cc cx_X_rightAt) 6 = .ok (.iload_n 2, 1) := by decide +kernel
theorem d_X_rightAt_7 : decode (pw_cc cx_X_rightAt) 7 = .ok (.iconst 5, 1) := by decide +kernel
theorem d_X_rightAt_8 : decode (pw_cc cx_X_rightAt) 8 = .ok (.invokestatic 203, 3) := by decide +kernel
theorem d_X_rightAt_11 : decode (pw_cc cx_X_rightAt) 11 = .ok (.aload_n 3, 1) := by decide +kernel
theorem d_X_rightAt_12 : decode (pw_cc cx_X_rightAt) 12 = .ok (.getfield 223, 3) := by decide +kernel
theorem d_X_rightAt_15 : decode (pw_cc cx_X_rightAt) 15 = .ok (.ifCond .eq 5, 3) := by decide +kernel
theorem d_X_rightAt_18 : decode (pw_cc cx_X_rightAt) 18 = .ok (.iconst (-1), 1) := by decide +kernel
theorem d_X_rightAt_19 : decode (pw_cc cx_X_rightAt) 19 = .ok (.ireturn, 1) := by decide +kernel
theorem d_X_rightAt_20 : decode (pw_cc cx_X_rightAt) 20 = .ok (.iload_n 2, 1) := by decide +kernel
theorem d_X_rightAt_21 : decode (pw_cc cx_X_rightAt) 21 = .ok (.tableswitch 58 0 3 #[31, 36, 44, 52], 31) := by decide +kernel
theorem d_X_rightAt_52 : decode (pw_cc cx_X_rightAt) 52 = .ok (.aload_n 3, 1) := by decide +kernel
theorem d_X_rightAt_53 : decode (pw_cc cx_X_rightAt) 53 = .ok (.getfield 342, 3) := by decide +kernel
theorem d_X_rightAt_56 : decode (pw_cc cx_X_rightAt) 56 = .ok (.ireturn, 1) := by decide +kernel
theorem d_X_rightAt_57 : decode (pw_cc cx_X_rightAt) 57 = .ok (.aload_n 3, 1) := by decide +kernel
theorem d_X_rightAt_58 : decode (pw_cc cx_X_rightAt) 58 = .ok (.getfield 345, 3) := by decide +kernel
theorem d_X_rightAt_61 : decode (pw_cc cx_X_rightAt) 61 = .ok (.getfield 119, 3) := by decide +kernel
theorem d_X_rightAt_64 : decode (pw_cc cx_X_rightAt) 64 = .ok (.ireturn, 1) := by decide +kernel
theorem d_X_rightAt_65 : decode (pw_cc cx_X_rightAt) 65 = .ok (.aload_n 3, 1) := by decide +kernel
theorem d_X_rightAt_66 : decode (pw_cc cx_X_rightAt) 66 = .ok (.getfield 346, 3) := by decide +kernel
theorem d_X_rightAt_69 : decode (pw_cc cx_X_rightAt) 69 = .ok (.getfield 230, 3) := by decide +kernel
theorem d_X_rightAt_72 : decode (pw_cc cx_X_rightAt) 72 = .ok (.ireturn, 1) := by decide +kernel
theorem d_X_rightAt_73 : decode (pw_cc cx_X_rightAt) 73 = .ok (.aload_n 0, 1) := by decide +kernel
theorem d_X_rightAt_74 : decode (pw_cc cx_X_rightAt) 74 = .ok (.iload_n 1, 1) := by decide +kernel
theorem d_X_rightAt_75 : decode (pw_cc cx_X_rightAt) 75 = .ok (.invokevirtual 347, 3) := by decide +kernel
theorem d_X_rightAt_78 : decode (pw_cc cx_X_rightAt) 78 = .ok (.ireturn, 1) := by decide +kernel
theorem d_X_rightAt_79 : decode (pw_cc cx_X_rightAt) 79 = .ok (.aload_n 3, 1) := by decide +kernel
theorem d_X_rightAt_80 : decode (pw_cc cx_X_rightAt) 80 = .ok (.getfield 350, 3) := by decide +kernel
theorem d_X_rightAt_83 : decode (pw_cc cx_X_rightAt) 83 = .ok (.ireturn, 1) := by decide +kernel
set_option maxHeartbeats 4000000 in
set_option maxRecDepth 20000 in
def wp_X_rightAt (w : pw_W) (a1 a2 : Int32) (Q : pw_W → Int32 → Prop) (X : pw_W → Nat → Prop) : Prop := wp_X_rightNumbered w a1 (fun w1 r2 => wp_X_checkIndex w1 a2 5 (fun w3 r4 => 0 ≤ r2 ∧ ((w3.1 5 (pw_i r2) 5) = 0 → ((a2.toInt < 0 ∨ 3 < a2.toInt) → Q w3 (w3.1 5 (pw_i r2) 4)) ∧ (a2 = 0 → Q w3 (w3.1 5 (pw_i r2) 0)) ∧ (a2 = 1 → 0 ≤ (w3.1 5 (pw_i r2) 1) ∧ Q w3 (w3.1 3 (pw_i (w3.1 5 (pw_i r2) 1)) 0)) ∧ (a2 = 2 → 0 ≤ (w3.1 5 (pw_i r2) 2) ∧ Q w3 (w3.1 4 (pw_i (w3.1 5 (pw_i r2) 2)) 0)) ∧ (a2 = 3 → wp_X_worthOf w3 a1 (fun w10 r11 => Q w10 r11) X)) ∧ (¬ (w3.1 5 (pw_i r2) 5) = 0 → Q w3 (-1))) X) X
set_option maxHeartbeats 4000000 in
set_option maxRecDepth 20000 in
theorem vw_X_rightAt {l : Launch} {g : pw_G} {Q : pw_W → Int32 → Prop} {X : pw_W → Nat → Prop} (hl0 : l.stackTraces = false) {w : pw_W} {a1 a2 : Int32} (h : wp_X_rightAt w a1 a2 Q X) : pw_V l g cx_X_rightAt Q X 0 [(9, 0), (0, a1), (0, a2), (1, 0)] [] w := by
  unfold wp_X_rightAt at h
  refine pv_aload_n (n := 1) d_X_rightAt_0 rfl rfl rfl ?_
  refine pv_iload_n (n := 2) d_X_rightAt_1 rfl rfl rfl ?_
  refine pv_callV (n := 5) (x := 0) [(0, a1)] [] (con_X_rightNumbered hl0 h) pw_cf7 rfl q_261 q_262 q_263 q_62 q_260 pyo_X_rightNumbered (by decide) rfl rfl (by decide) d_X_rightAt_2 rfl (fun w1 r2 h _ => ?_) (fun _ _ h => pvx_out rfl h)
  show pw_V l g cx_X_rightAt Q X 5 [(9, 0), (0, a1), (0, a2), (1, 0)] [(7, r2)] w1
  refine pv_astore_n (n := 6) (L' := [(9, 0), (0, a1), (0, a2), (7, r2)]) d_X_rightAt_5 rfl (by decide) rfl rfl ?_
  refine pv_iload_n (n := 7) d_X_rightAt_6 rfl rfl rfl ?_
  refine pv_iconst (v := 5) (n := 8) d_X_rightAt_7 (by decide) rfl ?_
  refine pv_callS (n := 11) [(0, a2), (0, 5)] [] (con_X_checkIndex hl0 h) q_91 q_92 q_62 q_90 pyo_X_checkIndex (by decide) rfl rfl d_X_rightAt_8 rfl (fun w3 r4 h _ => ?_) (fun _ _ h => pvx_out rfl h)
  show pw_V l g cx_X_rightAt Q X 11 [(9, 0), (0, a1), (0, a2), (7, r2)] [] w3
  refine pv_aload_n (n := 12) d_X_rightAt_11 rfl rfl rfl ?_
  obtain ⟨g5, h⟩ := h
  refine gt_X_223 (n := 15) rfl d_X_rightAt_12 g5 rfl ?_
  refine pv_if_eq (n := 18) (tgt := 20) d_X_rightAt_15 (by decide) rfl (fun c6 => ?_) (fun c6 => ?_)
  · replace h := h.1 c6
    refine pv_iload_n (n := 21) d_X_rightAt_20 rfl rfl rfl ?_
    by_cases c7 : a2.toInt < 0 ∨ 3 < a2.toInt
    · replace h := h.1 c7
      refine pv_tableOut (tgt := 79) d_X_rightAt_21 c7 (by decide) ?_
      refine pv_aload_n (n := 80) d_X_rightAt_79 rfl rfl rfl ?_
      refine gt_X_350 (n := 83) rfl d_X_rightAt_80 g5 rfl ?_
      exact pv_iret rfl rfl d_X_rightAt_83 h
    · replace h := h.2
      obtain ⟨cn, hcn, hce⟩ := pw_sw (N := 4) (x := a2) c7
      have hcs : cn = 0 ∨ cn = 1 ∨ cn = 2 ∨ cn = 3 := by omega
      rcases hcs with rfl | rfl | rfl | rfl
      · replace hce : a2 = 0 := hce
        replace h := h.1 hce
        refine pv_tableIn (tgt := 52) (off := 31) d_X_rightAt_21 (by rw [hce]; decide) (by rw [hce]; decide) (by rw [hce]; rfl) (by decide) ?_
        refine pv_aload_n (n := 53) d_X_rightAt_52 rfl rfl rfl ?_
        refine gt_X_342 (n := 56) rfl d_X_rightAt_53 g5 rfl ?_
        exact pv_iret rfl rfl d_X_rightAt_56 h
      · replace hce : a2 = 1 := hce
        replace h := h.2.1 hce
        refine pv_tableIn (tgt := 57) (off := 36) d_X_rightAt_21 (by rw [hce]; decide) (by rw [hce]; decide) (by rw [hce]; rfl) (by decide) ?_
        refine pv_aload_n (n := 58) d_X_rightAt_57 rfl rfl rfl ?_
        refine gt_X_345 (n := 61) rfl d_X_rightAt_58 g5 rfl ?_
        obtain ⟨g8, h⟩ := h
        refine gt_X_119 (n := 64) rfl d_X_rightAt_61 g8 rfl ?_
        exact pv_iret rfl rfl d_X_rightAt_64 h
      · replace hce : a2 = 2 := hce
        replace h := h.2.2.1 hce
        refine pv_tableIn (tgt := 65) (off := 44) d_X_rightAt_21 (by rw [hce]; decide) (by rw [hce]; decide) (by rw [hce]; rfl) (by decide) ?_
        refine pv_aload_n (n := 66) d_X_rightAt_65 rfl rfl rfl ?_
        refine gt_X_346 (n := 69) rfl d_X_rightAt_66 g5 rfl ?_
        obtain ⟨g9, h⟩ := h
        refine gt_X_230 (n := 72) rfl d_X_rightAt_69 g9 rfl ?_
        exact pv_iret rfl rfl d_X_rightAt_72 h
      · replace hce : a2 = 3 := hce
        replace h := h.2.2.2 hce
        refine pv_tableIn (tgt := 73) (off := 52) d_X_rightAt_21 (by rw [hce]; decide) (by rw [hce]; decide) (by rw [hce]; rfl) (by decide) ?_
        refine pv_aload_n (n := 74) d_X_rightAt_73 rfl rfl rfl ?_
        refine pv_iload_n (n := 75) d_X_rightAt_74 rfl rfl rfl ?_
        refine pv_callV (n := 78) (x := 0) [(0, a1)] [] (con_X_worthOf hl0 h) pw_cf7 rfl q_265 q_266 q_267 q_62 q_264 pyo_X_worthOf (by decide) rfl rfl (by decide) d_X_rightAt_75 rfl (fun w10 r11 h _ => ?_) (fun _ _ h => pvx_out rfl h)
        show pw_V l g cx_X_rightAt Q X 78 [(9, 0), (0, a1), (0, a2), (7, r2)] [(0, r11)] w10
        exact pv_iret rfl rfl d_X_rightAt_78 h
  · replace h := h.2 c6
    refine pv_iconst (v := -1) (n := 19) d_X_rightAt_18 (by decide) rfl ?_
    exact pv_iret rfl rfl d_X_rightAt_19 h
set_option maxHeartbeats 4000000 in
set_option maxRecDepth 20000 in
theorem con_X_rightAt {l : Launch} {g : pw_G} {Q : pw_W → Int32 → Prop} {X : pw_W → Nat → Prop} (hl0 : l.stackTraces = false) {w : pw_W} {a1 a2 : Int32} (h : wp_X_rightAt w a1 a2 Q X) : pw_Con l g y_X_rightAt cx_X_rightAt [(9, 0), (0, a1), (0, a2)] w Q X :=
  pw_con (by decide +kernel) rfl rfl hl0 rfl (Nat.le_of_ble_eq_true rfl) (by simp) (vw_X_rightAt hl0 h)
theorem d_X_square_0 : decode (pw_cc cx_X_square) 0 = .ok (.aload_n 0, 1) := by decide +kernel
theorem d_X_square_1 : decode (pw_cc cx_X_square) 1 = .ok (.iload_n 1, 1) := by decide +kernel
theorem d_X_square_2 : decode (pw_cc cx_X_square) 2 = .ok (.invokevirtual 270, 3) := by decide +kernel
theorem d_X_square_5 : decode (pw_cc cx_X_square) 5 = .ok (.astore_n 3, 1) := by decide +kernel
theorem d_X_square_6 : decode (pw_cc cx_X_square) 6 = .ok (.iload_n 2, 1) := by decide +kernel
theorem d_X_square_7 : decode (pw_cc cx_X_square) 7 = .ok (.tableswitch 53 0 3 #[29, 34, 39, 45], 29) := by decide +kernel
theorem d_X_square_36 : decode (pw_cc cx_X_square) 36 = .ok (.aload_n 3, 1) := by decide +kernel
theorem d_X_square_37 : decode (pw_cc cx_X_square) 37 = .ok (.getfield 278, 3) := by decide +kernel
theorem d_X_square_40 : decode (pw_cc cx_X_square) 40 = .ok (.ireturn, 1) := by decide +kernel
theorem d_X_square_41 : decode (pw_cc cx_X_square) 41 = .ok (.aload_n 3, 1) := by decide +kernel
theorem d_X_square_42 : decode (pw_cc cx_X_square) 42 = .ok (.getfield 238, 3) := by decide +kernel
theorem d_X_square_45 : decode (pw_cc cx_X_square) 45 = .ok (.ireturn, 1) := by decide +kernel
theorem d_X_square_46 : decode (pw_cc cx_X_square) 46 = .ok (.aload_n 0, 1) := by decide +kernel
theorem d_X_square_47 : decode (pw_cc cx_X_square) 47 = .ok (.aload_n 3, 1) := by decide +kernel
theorem d_X_square_48 : decode (pw_cc cx_X_square) 48 = .ok (.invokevirtual 353, 3) := by decide +kernel
theorem d_X_square_51 : decode (pw_cc cx_X_square) 51 = .ok (.ireturn, 1) := by decide +kernel
theorem d_X_square_52 : decode (pw_cc cx_X_square) 52 = .ok (.aload_n 3, 1) := by decide +kernel
theorem d_X_square_53 : decode (pw_cc cx_X_square) 53 = .ok (.getfield 142, 3) := by decide +kernel
theorem d_X_square_56 : decode (pw_cc cx_X_square) 56 = .ok (.invokestatic 330, 3) := by decide +kernel
theorem d_X_square_59 : decode (pw_cc cx_X_square) 59 = .ok (.ireturn, 1) := by decide +kernel
theorem d_X_square_60 : decode (pw_cc cx_X_square) 60 = .ok (.new 320, 3) := by decide +kernel
theorem d_X_square_63 : decode (pw_cc cx_X_square) 63 = .ok (.dup, 1) := by decide +kernel
theorem d_X_square_64 : decode (pw_cc cx_X_square) 64 = .ok (.ldc_w 357, 3) := by decide +kernel
theorem d_X_square_67 : decode (pw_cc cx_X_square) 67 = .ok (.invokespecial 324, 3) := by decide +kernel
theorem d_X_square_70 : decode (pw_cc cx_X_square) 70 = .ok (.athrow, 1) := by decide +kernel
set_option maxHeartbeats 4000000 in
set_option maxRecDepth 20000 in
def wp_X_square (w : pw_W) (a1 a2 : Int32) (Q : pw_W → Int32 → Prop) (X : pw_W → Nat → Prop) : Prop := wp_X_squareNumbered w a1 (fun w1 r2 => ((a2.toInt < 0 ∨ 3 < a2.toInt) → pw_thr w1 X 1) ∧ (a2 = 0 → 0 ≤ r2 ∧ Q w1 (w1.1 6 (pw_i r2) 4)) ∧ (a2 = 1 → 0 ≤ r2 ∧ Q w1 (w1.1 6 (pw_i r2) 5)) ∧ (a2 = 2 → wp_X_countBirds w1 r2 (fun w6 r7 => Q w6 r7) (fun _ _ => False)) ∧ (a2 = 3 → 0 ≤ r2 ∧ wp_X_numberOf w1 (w1.1 6 (pw_i r2) 7) (fun w9 r10 => Q w9 r10) (fun _ _ => False))) X
set_option maxHeartbeats 4000000 in
set_option maxRecDepth 20000 in
theorem vw_X_square {l : Launch} {g : pw_G} {Q : pw_W → Int32 → Prop} {X : pw_W → Nat → Prop} (hl0 : l.stackTraces = false) {w : pw_W} {a1 a2 : Int32} (h : wp_X_square w a1 a2 Q X) : pw_V l g cx_X_square Q X 0 [(9, 0), (0, a1), (0, a2), (1, 0)] [] w := by
  unfold wp_X_square at h
  refine pv_aload_n (n := 1) d_X_square_0 rfl rfl rfl ?_
  refine pv_iload_n (n := 2) d_X_square_1 rfl rfl rfl ?_
  refine pv_callV (n := 5) (x := 0) [(0, a1)] [] (con_X_squareNumbered hl0 h) pw_cf7 rfl q_300 q_301 q_302 q_62 q_299 pyo_X_squareNumbered (by decide) rfl rfl (by decide) d_X_square_2 rfl (fun w1 r2 h _ => ?_) (fun _ _ h => pvx_out rfl h)
  show pw_V l g cx_X_square Q X 5 [(9, 0), (0, a1), (0, a2), (1, 0)] [(8, r2)] w1
  refine pv_astore_n (n := 6) (L' := [(9, 0), (0, a1), (0, a2), (8, r2)]) d_X_square_5 rfl (by decide) rfl rfl ?_
  refine pv_iload_n (n := 7) d_X_square_6 rfl rfl rfl ?_
  by_cases c3 : a2.toInt < 0 ∨ 3 < a2.toInt
  · replace h := h.1 c3
    refine pv_tableOut (tgt := 60) d_X_square_7 c3 (by decide) ?_
    exact pv_throw (k := 1) (text := "no such thing is told of a square") hl0 q_88 q_89 (by decide +kernel) (by decide +kernel) (pt_h1_324) (pt_g1_320_324) rfl d_X_square_60 d_X_square_63 d_X_square_64 d_X_square_67 d_X_square_70 (by decide) rfl h
  · replace h := h.2
    obtain ⟨cn, hcn, hce⟩ := pw_sw (N := 4) (x := a2) c3
    have hcs : cn = 0 ∨ cn = 1 ∨ cn = 2 ∨ cn = 3 := by omega
    rcases hcs with rfl | rfl | rfl | rfl
    · replace hce : a2 = 0 := hce
      replace h := h.1 hce
      refine pv_tableIn (tgt := 36) (off := 29) d_X_square_7 (by rw [hce]; decide) (by rw [hce]; decide) (by rw [hce]; rfl) (by decide) ?_
      refine pv_aload_n (n := 37) d_X_square_36 rfl rfl rfl ?_
      obtain ⟨g4, h⟩ := h
      refine gt_X_278 (n := 40) rfl d_X_square_37 g4 rfl ?_
      exact pv_iret rfl rfl d_X_square_40 h
    · replace hce : a2 = 1 := hce
      replace h := h.2.1 hce
      refine pv_tableIn (tgt := 41) (off := 34) d_X_square_7 (by rw [hce]; decide) (by rw [hce]; decide) (by rw [hce]; rfl) (by decide) ?_
      refine pv_aload_n (n := 42) d_X_square_41 rfl rfl rfl ?_
      obtain ⟨g5, h⟩ := h
      refine gt_X_238 (n := 45) rfl d_X_square_42 g5 rfl ?_
      exact pv_iret rfl rfl d_X_square_45 h
    · replace hce : a2 = 2 := hce
      replace h := h.2.2.1 hce
      refine pv_tableIn (tgt := 46) (off := 39) d_X_square_7 (by rw [hce]; decide) (by rw [hce]; decide) (by rw [hce]; rfl) (by decide) ?_
      refine pv_aload_n (n := 47) d_X_square_46 rfl rfl rfl ?_
      refine pv_aload_n (n := 48) d_X_square_47 rfl rfl rfl ?_
      refine pv_callV (n := 51) (x := 0) [(8, r2)] [] (con_X_countBirds hl0 h) pw_cf7 rfl q_324 q_325 q_326 q_62 q_323 pyo_X_countBirds (by decide) rfl rfl (by decide) d_X_square_48 rfl (fun w6 r7 h _ => ?_) (fun _ _ h => h.elim)
      show pw_V l g cx_X_square Q X 51 [(9, 0), (0, a1), (0, a2), (8, r2)] [(0, r7)] w6
      exact pv_iret rfl rfl d_X_square_51 h
    · replace hce : a2 = 3 := hce
      replace h := h.2.2.2 hce
      refine pv_tableIn (tgt := 52) (off := 45) d_X_square_7 (by rw [hce]; decide) (by rw [hce]; decide) (by rw [hce]; rfl) (by decide) ?_
      refine pv_aload_n (n := 53) d_X_square_52 rfl rfl rfl ?_
      obtain ⟨g8, h⟩ := h
      refine gt_X_142 (n := 56) rfl d_X_square_53 g8 rfl ?_
      refine pv_callS (n := 59) [(6, (w1.1 6 (pw_i r2) 7))] [] (con_X_numberOf hl0 h) q_407 q_408 q_62 q_406 pyo_X_numberOf (by decide) rfl rfl d_X_square_56 rfl (fun w9 r10 h _ => ?_) (fun _ _ h => h.elim)
      show pw_V l g cx_X_square Q X 59 [(9, 0), (0, a1), (0, a2), (8, r2)] [(0, r10)] w9
      exact pv_iret rfl rfl d_X_square_59 h
set_option maxHeartbeats 4000000 in
set_option maxRecDepth 20000 in
theorem con_X_square {l : Launch} {g : pw_G} {Q : pw_W → Int32 → Prop} {X : pw_W → Nat → Prop} (hl0 : l.stackTraces = false) {w : pw_W} {a1 a2 : Int32} (h : wp_X_square w a1 a2 Q X) : pw_Con l g y_X_square cx_X_square [(9, 0), (0, a1), (0, a2)] w Q X :=
  pw_con (by decide +kernel) rfl rfl hl0 rfl (Nat.le_of_ble_eq_true rfl) (by simp) (vw_X_square hl0 h)
