theorem d_X_isClaimable_0 : decode (pw_cc cx_X_isClaimable) 0 = .ok (.iload_n 3, 1) := by decide +kernel
theorem d_X_isClaimable_1 : decode (pw_cc cx_X_isClaimable) 1 = .ok (.ifCond .eq 32, 3) := by decide +kernel
theorem d_X_isClaimable_4 : decode (pw_cc cx_X_isClaimable) 4 = .ok (.aload_n 1, 1) := by decide +kernel
theorem d_X_isClaimable_5 : decode (pw_cc cx_X_isClaimable) 5 = .ok (.getfield 142, 3) := by decide +kernel
theorem d_X_isClaimable_8 : decode (pw_cc cx_X_isClaimable) 8 = .ok (.aload_n 2, 1) := by decide +kernel
theorem d_X_isClaimable_9 : decode (pw_cc cx_X_isClaimable) 9 = .ok (.if_acmp .ne 22, 3) := by decide +kernel
theorem d_X_isClaimable_12 : decode (pw_cc cx_X_isClaimable) 12 = .ok (.aload_n 0, 1) := by decide +kernel
theorem d_X_isClaimable_13 : decode (pw_cc cx_X_isClaimable) 13 = .ok (.getfield 145, 3) := by decide +kernel
theorem d_X_isClaimable_16 : decode (pw_cc cx_X_isClaimable) 16 = .ok (.aload_n 1, 1) := by decide +kernel
theorem d_X_isClaimable_17 : decode (pw_cc cx_X_isClaimable) 17 = .ok (.getfield 148, 3) := by decide +kernel
theorem d_X_isClaimable_20 : decode (pw_cc cx_X_isClaimable) 20 = .ok (.isub, 1) := by decide +kernel
theorem d_X_isClaimable_21 : decode (pw_cc cx_X_isClaimable) 21 = .ok (.sipush 720, 3) := by decide +kernel
theorem d_X_isClaimable_24 : decode (pw_cc cx_X_isClaimable) 24 = .ok (.if_icmp .lt 7, 3) := by decide +kernel
theorem d_X_isClaimable_27 : decode (pw_cc cx_X_isClaimable) 27 = .ok (.iconst 1, 1) := by decide +kernel
theorem d_X_isClaimable_28 : decode (pw_cc cx_X_isClaimable) 28 = .ok (.goto 4, 3) := by decide +kernel
theorem d_X_isClaimable_31 : decode (pw_cc cx_X_isClaimable) 31 = .ok (.iconst 0, 1) := by decide +kernel
theorem d_X_isClaimable_32 : decode (pw_cc cx_X_isClaimable) 32 = .ok (.ireturn, 1) := by decide +kernel
theorem d_X_isClaimable_33 : decode (pw_cc cx_X_isClaimable) 33 = .ok (.aload_n 0, 1) := by decide +kernel
theorem d_X_isClaimable_34 : decode (pw_cc cx_X_isClaimable) 34 = .ok (.aload_n 1, 1) := by decide +kernel
theorem d_X_isClaimable_35 : decode (pw_cc cx_X_isClaimable) 35 = .ok (.getfield 108, 3) := by decide +kernel
theorem d_X_isClaimable_38 : decode (pw_cc cx_X_isClaimable) 38 = .ok (.aload_n 2, 1) := by decide +kernel
theorem d_X_isClaimable_39 : decode (pw_cc cx_X_isClaimable) 39 = .ok (.invokevirtual 333, 3) := by decide +kernel
theorem d_X_isClaimable_42 : decode (pw_cc cx_X_isClaimable) 42 = .ok (.ireturn, 1) := by decide +kernel
set_option maxHeartbeats 4000000 in
set_option maxRecDepth 20000 in
def wp_X_isClaimable (w : pw_W) (a1 a2 a3 : Int32) (Q : pw_W → Int32 → Prop) (X : pw_W → Nat → Prop) : Prop := (a3 = 0 → 0 ≤ a1 ∧ wp_X_isMapped w (w.1 6 (pw_i a1) 0) a2 (fun w3 r4 => (r4 = 0 ∨ r4 = 1) ∧ Q w3 r4) (fun _ _ => False)) ∧ (¬ a3 = 0 → 0 ≤ a1 ∧ (¬ (w.1 6 (pw_i a1) 7) = a2 → Q w 0) ∧ ((w.1 6 (pw_i a1) 7) = a2 → (((w.1 7 0 7) - (w.1 6 (pw_i a1) 8)) < 720 → Q w 0) ∧ (¬ ((w.1 7 0 7) - (w.1 6 (pw_i a1) 8)) < 720 → Q w 1)))
set_option maxHeartbeats 4000000 in
set_option maxRecDepth 20000 in
theorem vw_X_isClaimable {l : Launch} {g : pw_G} {Q : pw_W → Int32 → Prop} {X : pw_W → Nat → Prop} (hl0 : l.stackTraces = false) {w : pw_W} {a1 a2 a3 : Int32} (h : wp_X_isClaimable w a1 a2 a3 Q X) : pw_V l g cx_X_isClaimable Q X 0 [(9, 0), (8, a1), (6, a2), (0, a3)] [] w := by
  unfold wp_X_isClaimable at h
  refine pv_iload_n (n := 1) d_X_isClaimable_0 rfl rfl rfl ?_
  refine pv_if_eq (n := 4) (tgt := 33) d_X_isClaimable_1 (by decide) rfl (fun c1 => ?_) (fun c1 => ?_)
  · replace h := h.1 c1
    refine pv_aload_n (n := 34) d_X_isClaimable_33 rfl rfl rfl ?_
    refine pv_aload_n (n := 35) d_X_isClaimable_34 rfl rfl rfl ?_
    obtain ⟨g2, h⟩ := h
    refine gt_X_108 (n := 38) rfl d_X_isClaimable_35 g2 rfl ?_
    refine pv_aload_n (n := 39) d_X_isClaimable_38 rfl rfl rfl ?_
    refine pv_callV (n := 42) (x := 0) [(0, (w.1 6 (pw_i a1) 0)), (6, a2)] [] (con_X_isMapped hl0 h) pw_cf7 rfl q_189 q_190 q_191 q_62 q_188 pyo_X_isMapped (by decide) rfl rfl (by decide) d_X_isClaimable_39 rfl (fun w3 r4 h _ => ?_) (fun _ _ h => h.elim)
    show pw_V l g cx_X_isClaimable Q X 42 [(9, 0), (8, a1), (6, a2), (0, a3)] [(0, r4)] w3
    obtain ⟨g5, h⟩ := h
    exact pv_zret rfl rfl d_X_isClaimable_42 g5 h
  · replace h := h.2 c1
    refine pv_aload_n (n := 5) d_X_isClaimable_4 rfl rfl rfl ?_
    obtain ⟨g6, h⟩ := h
    refine gt_X_142 (n := 8) rfl d_X_isClaimable_5 g6 rfl ?_
    refine pv_aload_n (n := 9) d_X_isClaimable_8 rfl rfl rfl ?_
    refine pv_acmp_ne (n := 12) (tgt := 31) d_X_isClaimable_9 (by decide) (by decide) rfl (fun c7 => ?_) (fun c7 => ?_)
    · replace h := h.1 c7
      refine pv_iconst (v := 0) (n := 32) d_X_isClaimable_31 (by decide) rfl ?_
      exact pv_zret rfl rfl d_X_isClaimable_32 (by decide) h
    · replace h := h.2 c7
      refine pv_aload_n (n := 13) d_X_isClaimable_12 rfl rfl rfl ?_
      refine gt_X_145 (n := 16) rfl d_X_isClaimable_13 (by decide) rfl ?_
      refine pv_aload_n (n := 17) d_X_isClaimable_16 rfl rfl rfl ?_
      refine gt_X_148 (n := 20) rfl d_X_isClaimable_17 g6 rfl ?_
      refine pv_isub (n := 21) d_X_isClaimable_20 rfl ?_
      refine pv_sipush (v := 720) (n := 24) d_X_isClaimable_21 (by decide) rfl ?_
      refine pv_icmp_lt (n := 27) (tgt := 31) d_X_isClaimable_24 (by decide) rfl (fun c8 => ?_) (fun c8 => ?_)
      · replace h := h.1 c8
        refine pv_iconst (v := 0) (n := 32) d_X_isClaimable_31 (by decide) rfl ?_
        exact pv_zret rfl rfl d_X_isClaimable_32 (by decide) h
      · replace h := h.2 c8
        refine pv_iconst (v := 1) (n := 28) d_X_isClaimable_27 (by decide) rfl ?_
        refine pv_goto (tgt := 32) d_X_isClaimable_28 (by decide) ?_
        exact pv_zret rfl rfl d_X_isClaimable_32 (by decide) h
set_option maxHeartbeats 4000000 in
set_option maxRecDepth 20000 in
theorem con_X_isClaimable {l : Launch} {g : pw_G} {Q : pw_W → Int32 → Prop} {X : pw_W → Nat → Prop} (hl0 : l.stackTraces = false) {w : pw_W} {a1 a2 a3 : Int32} (h : wp_X_isClaimable w a1 a2 a3 Q X) : pw_Con l g y_X_isClaimable cx_X_isClaimable [(9, 0), (8, a1), (6, a2), (0, a3)] w Q X :=
  pw_con (by decide +kernel) rfl rfl hl0 rfl (Nat.le_of_ble_eq_true rfl) (by simp) (vw_X_isClaimable hl0 h)
theorem d_Case_init_0 : decode (pw_cc cx_Case_init) 0 = .ok (.aload_n 0, 1) := by decide +kernel
theorem d_Case_init_1 : decode (pw_cc cx_Case_init) 1 = .ok (.invokespecial 3, 3) := by decide +kernel
theorem d_Case_init_4 : decode (pw_cc cx_Case_init) 4 = .ok (.aload_n 0, 1) := by decide +kernel
theorem d_Case_init_5 : decode (pw_cc cx_Case_init) 5 = .ok (.bipush 100, 2) := by decide +kernel
theorem d_Case_init_7 : decode (pw_cc cx_Case_init) 7 = .ok (.newarray .boolean, 2) := by decide +kernel
theorem d_Case_init_9 : decode (pw_cc cx_Case_init) 9 = .ok (.putfield 9, 3) := by decide +kernel
theorem d_Case_init_12 : decode (pw_cc cx_Case_init) 12 = .ok (.aload_n 0, 1) := by decide +kernel
theorem d_Case_init_13 : decode (pw_cc cx_Case_init) 13 = .ok (.iconst 0, 1) := by decide +kernel
theorem d_Case_init_14 : decode (pw_cc cx_Case_init) 14 = .ok (.putfield 15, 3) := by decide +kernel
theorem d_Case_init_17 : decode (pw_cc cx_Case_init) 17 = .ok (.aload_n 0, 1) := by decide +kernel
theorem d_Case_init_18 : decode (pw_cc cx_Case_init) 18 = .ok (.aload_n 1, 1) := by decide +kernel
theorem d_Case_init_19 : decode (pw_cc cx_Case_init) 19 = .ok (.putfield 19, 3) := by decide +kernel
theorem d_Case_init_22 : decode (pw_cc cx_Case_init) 22 = .ok (.return_, 1) := by decide +kernel
set_option maxHeartbeats 4000000 in
set_option maxRecDepth 20000 in
def wp_Case_init (w : pw_W) (a0 a1 : Int32) (Q : pw_W → Int32 → Prop) (X : pw_W → Nat → Prop) : Prop := 0 ≤ a0 ∧ pw_rm w 12 (pw_i 100) ∧ ∀ w3, w3 = pw_nw w 12 (pw_i 100) (pw_i 100) → ∀ w5, w5 = pw_ps w3 0 (pw_i a0) 1 (nI (pw_nv w 12)) → ∀ w7, w7 = pw_ps w5 0 (pw_i a0) 3 0 → ∀ w9, w9 = pw_ps w7 0 (pw_i a0) 0 a1 → Q w9 0
set_option maxHeartbeats 4000000 in
set_option maxRecDepth 20000 in
theorem vw_Case_init {l : Launch} {g : pw_G} {Q : pw_W → Int32 → Prop} {X : pw_W → Nat → Prop} (hl0 : l.stackTraces = false) {w : pw_W} {a0 a1 : Int32} (h : wp_Case_init w a0 a1 Q X) : pw_V l g cx_Case_init Q X 0 [(2, a0), (6, a1)] [] w := by
  unfold wp_Case_init at h
  refine pv_aload_n (n := 1) d_Case_init_0 rfl rfl rfl ?_
  obtain ⟨g1, h⟩ := h
  refine pv_objInit (n := 4) q_192 q_1 q_2 (by decide) rfl g1 d_Case_init_1 rfl ?_
  refine pv_aload_n (n := 5) d_Case_init_4 rfl rfl rfl ?_
  refine pv_bipush (v := 100) (n := 7) d_Case_init_5 (by decide) rfl ?_
  obtain ⟨g2, h⟩ := h
  refine pv_nwa_boolean (n := 9) (f := 12) (by decide) (by decide) rfl (by intro k; rfl) q_193 d_Case_init_7 (by decide) (by decide) g2 rfl (fun w3 e4 => ?_)
  replace h := h w3 e4
  refine pt_Case_9 (n := 12) rfl rfl d_Case_init_9 g1 rfl (fun w5 e6 => ?_)
  replace h := h w5 e6
  refine pv_aload_n (n := 13) d_Case_init_12 rfl rfl rfl ?_
  refine pv_iconst (v := 0) (n := 14) d_Case_init_13 (by decide) rfl ?_
  refine pt_Case_15 (n := 17) rfl d_Case_init_14 g1 rfl (fun w7 e8 => ?_)
  replace h := h w7 e8
  refine pv_aload_n (n := 18) d_Case_init_17 rfl rfl rfl ?_
  refine pv_aload_n (n := 19) d_Case_init_18 rfl rfl rfl ?_
  refine pt_Case_19 (n := 22) rfl rfl d_Case_init_19 g1 rfl (fun w9 e10 => ?_)
  replace h := h w9 e10
  exact pv_vret rfl rfl d_Case_init_22 h
set_option maxHeartbeats 4000000 in
set_option maxRecDepth 20000 in
theorem con_Case_init {l : Launch} {g : pw_G} {Q : pw_W → Int32 → Prop} {X : pw_W → Nat → Prop} (hl0 : l.stackTraces = false) {w : pw_W} {a0 a1 : Int32} (h : wp_Case_init w a0 a1 Q X) : pw_Con l g y_Case_init cx_Case_init [(2, a0), (6, a1)] w Q X :=
  pw_con (by decide +kernel) rfl rfl hl0 rfl (Nat.le_of_ble_eq_true rfl) (by simp) (vw_Case_init hl0 h)
theorem d_Case_addSquare_0 : decode (pw_cc cx_Case_addSquare) 0 = .ok (.iload_n 1, 1) := by decide +kernel
theorem d_Case_addSquare_1 : decode (pw_cc cx_Case_addSquare) 1 = .ok (.iconst 0, 1) := by decide +kernel
theorem d_Case_addSquare_2 : decode (pw_cc cx_Case_addSquare) 2 = .ok (.bipush 99, 2) := by decide +kernel
theorem d_Case_addSquare_4 : decode (pw_cc cx_Case_addSquare) 4 = .ok (.invokestatic 23, 3) := by decide +kernel
theorem d_Case_addSquare_7 : decode (pw_cc cx_Case_addSquare) 7 = .ok (.ifCond .eq 29, 3) := by decide +kernel
theorem d_Case_addSquare_10 : decode (pw_cc cx_Case_addSquare) 10 = .ok (.aload_n 0, 1) := by decide +kernel
theorem d_Case_addSquare_11 : decode (pw_cc cx_Case_addSquare) 11 = .ok (.getfield 9, 3) := by decide +kernel
theorem d_Case_addSquare_14 : decode (pw_cc cx_Case_addSquare) 14 = .ok (.iload_n 1, 1) := by decide +kernel
theorem d_Case_addSquare_15 : decode (pw_cc cx_Case_addSquare) 15 = .ok (.baload, 1) := by decide +kernel
theorem d_Case_addSquare_16 : decode (pw_cc cx_Case_addSquare) 16 = .ok (.ifCond .ne 20, 3) := by decide +kernel
theorem d_Case_addSquare_19 : decode (pw_cc cx_Case_addSquare) 19 = .ok (.aload_n 0, 1) := by decide +kernel
theorem d_Case_addSquare_20 : decode (pw_cc cx_Case_addSquare) 20 = .ok (.getfield 9, 3) := by decide +kernel
theorem d_Case_addSquare_23 : decode (pw_cc cx_Case_addSquare) 23 = .ok (.iload_n 1, 1) := by decide +kernel
theorem d_Case_addSquare_24 : decode (pw_cc cx_Case_addSquare) 24 = .ok (.iconst 1, 1) := by decide +kernel
theorem d_Case_addSquare_25 : decode (pw_cc cx_Case_addSquare) 25 = .ok (.bastore, 1) := by decide +kernel
theorem d_Case_addSquare_26 : decode (pw_cc cx_Case_addSquare) 26 = .ok (.aload_n 0, 1) := by decide +kernel
theorem d_Case_addSquare_27 : decode (pw_cc cx_Case_addSquare) 27 = .ok (.dup, 1) := by decide +kernel
theorem d_Case_addSquare_28 : decode (pw_cc cx_Case_addSquare) 28 = .ok (.getfield 27, 3) := by decide +kernel
theorem d_Case_addSquare_31 : decode (pw_cc cx_Case_addSquare) 31 = .ok (.iconst 1, 1) := by decide +kernel
theorem d_Case_addSquare_32 : decode (pw_cc cx_Case_addSquare) 32 = .ok (.iadd, 1) := by decide +kernel
theorem d_Case_addSquare_33 : decode (pw_cc cx_Case_addSquare) 33 = .ok (.putfield 27, 3) := by decide +kernel
theorem d_Case_addSquare_36 : decode (pw_cc cx_Case_addSquare) 36 = .ok (.return_, 1) := by decide +kernel
set_option maxHeartbeats 4000000 in
set_option maxRecDepth 20000 in
def wp_Case_addSquare (w : pw_W) (a0 a1 : Int32) (Q : pw_W → Int32 → Prop) (X : pw_W → Nat → Prop) : Prop := wp_X_isInRange w a1 0 99 (fun w1 r2 => (r2 = 0 → Q w1 0) ∧ (¬ r2 = 0 → 0 ≤ a0 ∧ 0 ≤ (w1.1 0 (pw_i a0) 1) ∧ pw_jn a1 (pw_ln w1 12 (pw_i (w1.1 0 (pw_i a0) 1))) ∧ (¬ (w1.1 12 (pw_i (w1.1 0 (pw_i a0) 1)) (pw_i a1)) = 0 → Q w1 0) ∧ ((w1.1 12 (pw_i (w1.1 0 (pw_i a0) 1)) (pw_i a1)) = 0 → pw_jn a1 (pw_ln w1 12 (pw_i (w1.1 0 (pw_i a0) 1))) ∧ ∀ w9, w9 = pw_ps w1 12 (pw_i (w1.1 0 (pw_i a0) 1)) (pw_i a1) 1 → ∀ w11, w11 = pw_ps w9 0 (pw_i a0) 2 ((w9.1 0 (pw_i a0) 2) + 1) → Q w11 0))) (fun _ _ => False)
set_option maxHeartbeats 4000000 in
set_option maxRecDepth 20000 in
theorem vw_Case_addSquare {l : Launch} {g : pw_G} {Q : pw_W → Int32 → Prop} {X : pw_W → Nat → Prop} (hl0 : l.stackTraces = false) {w : pw_W} {a0 a1 : Int32} (h : wp_Case_addSquare w a0 a1 Q X) : pw_V l g cx_Case_addSquare Q X 0 [(2, a0), (0, a1)] [] w := by
  unfold wp_Case_addSquare at h
  refine pv_iload_n (n := 1) d_Case_addSquare_0 rfl rfl rfl ?_
  refine pv_iconst (v := 0) (n := 2) d_Case_addSquare_1 (by decide) rfl ?_
  refine pv_bipush (v := 99) (n := 4) d_Case_addSquare_2 (by decide) rfl ?_
  refine pv_callN (n := 7) [(0, a1), (0, 0), (0, 99)] [] (con_X_isInRange hl0 h) q_198 q_97 q_62 q_95 pyo_X_isInRange (by decide) rfl rfl d_Case_addSquare_4 rfl (fun w1 r2 h _ => ?_) (fun _ _ h => h.elim)
  show pw_V l g cx_Case_addSquare Q X 7 [(2, a0), (0, a1)] [(0, r2)] w1
  refine pv_if_eq (n := 10) (tgt := 36) d_Case_addSquare_7 (by decide) rfl (fun c3 => ?_) (fun c3 => ?_)
  · replace h := h.1 c3
    exact pv_vret rfl rfl d_Case_addSquare_36 h
  · replace h := h.2 c3
    refine pv_aload_n (n := 11) d_Case_addSquare_10 rfl rfl rfl ?_
    obtain ⟨g4, h⟩ := h
    refine gt_Case_9 (n := 14) rfl d_Case_addSquare_11 g4 rfl ?_
    refine pv_iload_n (n := 15) d_Case_addSquare_14 rfl rfl rfl ?_
    obtain ⟨g5, h⟩ := h
    obtain ⟨g6, h⟩ := h
    refine pv_zald (n := 16) (f := 12) (by decide) rfl d_Case_addSquare_15 g5 g6 rfl ?_
    refine pv_if_ne (n := 19) (tgt := 36) d_Case_addSquare_16 (by decide) rfl (fun c7 => ?_) (fun c7 => ?_)
    · replace h := h.1 c7
      exact pv_vret rfl rfl d_Case_addSquare_36 h
    · replace h := h.2 c7
      refine pv_aload_n (n := 20) d_Case_addSquare_19 rfl rfl rfl ?_
      refine gt_Case_9 (n := 23) rfl d_Case_addSquare_20 g4 rfl ?_
      refine pv_iload_n (n := 24) d_Case_addSquare_23 rfl rfl rfl ?_
      refine pv_iconst (v := 1) (n := 25) d_Case_addSquare_24 (by decide) rfl ?_
      obtain ⟨g8, h⟩ := h
      refine pv_zast1 (n := 26) (f := 12) (by decide) rfl (fun _ => rfl) d_Case_addSquare_25 g5 g8 (by decide) rfl (fun w9 e10 => ?_)
      replace h := h w9 e10
      refine pv_aload_n (n := 27) d_Case_addSquare_26 rfl rfl rfl ?_
      refine pv_dup (n := 28) d_Case_addSquare_27 (by decide) rfl ?_
      refine gt_Case_27 (n := 31) rfl d_Case_addSquare_28 g4 rfl ?_
      refine pv_iconst (v := 1) (n := 32) d_Case_addSquare_31 (by decide) rfl ?_
      refine pv_iadd (n := 33) d_Case_addSquare_32 rfl ?_
      refine pt_Case_27 (n := 36) rfl d_Case_addSquare_33 g4 rfl (fun w11 e12 => ?_)
      replace h := h w11 e12
      exact pv_vret rfl rfl d_Case_addSquare_36 h
set_option maxHeartbeats 4000000 in
set_option maxRecDepth 20000 in
theorem con_Case_addSquare {l : Launch} {g : pw_G} {Q : pw_W → Int32 → Prop} {X : pw_W → Nat → Prop} (hl0 : l.stackTraces = false) {w : pw_W} {a0 a1 : Int32} (h : wp_Case_addSquare w a0 a1 Q X) : pw_Con l g y_Case_addSquare cx_Case_addSquare [(2, a0), (0, a1)] w Q X :=
  pw_con (by decide +kernel) rfl rfl hl0 rfl (Nat.le_of_ble_eq_true rfl) (by simp) (vw_Case_addSquare hl0 h)
theorem d_X_file_0 : decode (pw_cc cx_X_file) 0 = .ok (.aload_n 0, 1) := by decide +kernel
theorem d_X_file_1 : decode (pw_cc cx_X_file) 1 = .ok (.iload_n 1, 1) := by decide +kernel
theorem d_X_file_2 : decode (pw_cc cx_X_file) 2 = .ok (.invokevirtual 69, 3) := by decide +kernel
theorem d_X_file_5 : decode (pw_cc cx_X_file) 5 = .ok (.astore 5, 2) := by decide +kernel
theorem d_X_file_7 : decode (pw_cc cx_X_file) 7 = .ok (.iload_n 3, 1) := by decide +kernel
theorem d_X_file_8 : decode (pw_cc cx_X_file) 8 = .ok (.iload 4, 2) := by decide +kernel
theorem d_X_file_10 : decode (pw_cc cx_X_file) 10 = .ok (.invokestatic 65, 3) := by decide +kernel
theorem d_X_file_13 : decode (pw_cc cx_X_file) 13 = .ok (.iload_n 3, 1) := by decide +kernel
theorem d_X_file_14 : decode (pw_cc cx_X_file) 14 = .ok (.iload 4, 2) := by decide +kernel
theorem d_X_file_16 : decode (pw_cc cx_X_file) 16 = .ok (.invokestatic 73, 3) := by decide +kernel
theorem d_X_file_19 : decode (pw_cc cx_X_file) 19 = .ok (.aload 5, 2) := by decide +kernel
theorem d_X_file_21 : decode (pw_cc cx_X_file) 21 = .ok (.getfield 76, 3) := by decide +kernel
theorem d_X_file_24 : decode (pw_cc cx_X_file) 24 = .ok (.invokestatic 80, 3) := by decide +kernel
theorem d_X_file_27 : decode (pw_cc cx_X_file) 27 = .ok (.aload_n 0, 1) := by decide +kernel
theorem d_X_file_28 : decode (pw_cc cx_X_file) 28 = .ok (.getfield 31, 3) := by decide +kernel
theorem d_X_file_31 : decode (pw_cc cx_X_file) 31 = .ok (.invokeinterface 88 1, 5) := by decide +kernel
theorem d_X_file_36 : decode (pw_cc cx_X_file) 36 = .ok (.bipush 16, 2) := by decide +kernel
theorem d_X_file_38 : decode (pw_cc cx_X_file) 38 = .ok (.if_icmp .ge 7, 3) := by decide +kernel
theorem d_X_file_41 : decode (pw_cc cx_X_file) 41 = .ok (.iconst 1, 1) := by decide +kernel
theorem d_X_file_42 : decode (pw_cc cx_X_file) 42 = .ok (.goto 4, 3) := by decide +kernel
theorem d_X_file_45 : decode (pw_cc cx_X_file) 45 = .ok (.iconst 0, 1) := by decide +kernel
theorem d_X_file_46 : decode (pw_cc cx_X_file) 46 = .ok (.invokestatic 80, 3) := by decide +kernel
theorem d_X_file_49 : decode (pw_cc cx_X_file) 49 = .ok (.new 151, 3) := by decide +kernel
theorem d_X_file_52 : decode (pw_cc cx_X_file) 52 = .ok (.dup, 1) := by decide +kernel
theorem d_X_file_53 : decode (pw_cc cx_X_file) 53 = .ok (.aload 5, 2) := by decide +kernel
theorem d_X_file_55 : decode (pw_cc cx_X_file) 55 = .ok (.invokespecial 153, 3) := by decide +kernel
theorem d_X_file_58 : decode (pw_cc cx_X_file) 58 = .ok (.astore 6, 2) := by decide +kernel
theorem d_X_file_60 : decode (pw_cc cx_X_file) 60 = .ok (.aload_n 0, 1) := by decide +kernel
theorem d_X_file_61 : decode (pw_cc cx_X_file) 61 = .ok (.getfield 11, 3) := by decide +kernel
theorem d_X_file_64 : decode (pw_cc cx_X_file) 64 = .ok (.astore 7, 2) := by decide +kernel
theorem d_X_file_66 : decode (pw_cc cx_X_file) 66 = .ok (.aload 7, 2) := by decide +kernel
theorem d_X_file_68 : decode (pw_cc cx_X_file) 68 = .ok (.arraylength, 1) := by decide +kernel
theorem d_X_file_69 : decode (pw_cc cx_X_file) 69 = .ok (.istore 8, 2) := by decide +kernel
theorem d_X_file_71 : decode (pw_cc cx_X_file) 71 = .ok (.iconst 0, 1) := by decide +kernel
theorem d_X_file_72 : decode (pw_cc cx_X_file) 72 = .ok (.istore 9, 2) := by decide +kernel
theorem d_X_file_74 : decode (pw_cc cx_X_file) 74 = .ok (.iload 9, 2) := by decide +kernel
theorem d_X_file_76 : decode (pw_cc cx_X_file) 76 = .ok (.iload 8, 2) := by decide +kernel
theorem d_X_file_78 : decode (pw_cc cx_X_file) 78 = .ok (.if_icmp .ge 52, 3) := by decide +kernel
theorem d_X_file_81 : decode (pw_cc cx_X_file) 81 = .ok (.aload 7, 2) := by decide +kernel
theorem d_X_file_83 : decode (pw_cc cx_X_file) 83 = .ok (.iload 9, 2) := by decide +kernel
theorem d_X_file_85 : decode (pw_cc cx_X_file) 85 = .ok (.aaload, 1) := by decide +kernel
theorem d_X_file_86 : decode (pw_cc cx_X_file) 86 = .ok (.astore 10, 2) := by decide +kernel
theorem d_X_file_88 : decode (pw_cc cx_X_file) 88 = .ok (.aload 10, 2) := by decide +kernel
theorem d_X_file_90 : decode (pw_cc cx_X_file) 90 = .ok (.getfield 108, 3) := by decide +kernel
theorem d_X_file_93 : decode (pw_cc cx_X_file) 93 = .ok (.iload_n 3, 1) := by decide +kernel
theorem d_X_file_94 : decode (pw_cc cx_X_file) 94 = .ok (.iload 4, 2) := by decide +kernel
theorem d_X_file_96 : decode (pw_cc cx_X_file) 96 = .ok (.invokestatic 111, 3) := by decide +kernel
theorem d_X_file_99 : decode (pw_cc cx_X_file) 99 = .ok (.ifCond .eq 25, 3) := by decide +kernel
theorem d_X_file_102 : decode (pw_cc cx_X_file) 102 = .ok (.aload_n 0, 1) := by decide +kernel
theorem d_X_file_103 : decode (pw_cc cx_X_file) 103 = .ok (.aload 10, 2) := by decide +kernel
theorem d_X_file_105 : decode (pw_cc cx_X_file) 105 = .ok (.aload 5, 2) := by decide +kernel
theorem d_X_file_107 : decode (pw_cc cx_X_file) 107 = .ok (.iload_n 2, 1) := by decide +kernel
theorem d_X_file_108 : decode (pw_cc cx_X_file) 108 = .ok (.invokevirtual 156, 3) := by decide +kernel
theorem d_X_file_111 : decode (pw_cc cx_X_file) 111 = .ok (.ifCond .eq 13, 3) := by decide +kernel
theorem d_X_file_114 : decode (pw_cc cx_X_file) 114 = .ok (.aload 6, 2) := by decide +kernel
theorem d_X_file_116 : decode (pw_cc cx_X_file) 116 = .ok (.aload 10, 2) := by decide +kernel
theorem d_X_file_118 : decode (pw_cc cx_X_file) 118 = .ok (.getfield 108, 3) := by decide +kernel
theorem d_X_file_121 : decode (pw_cc cx_X_file) 121 = .ok (.invokevirtual 160, 3) := by decide +kernel
theorem d_X_file_124 : decode (pw_cc cx_X_file) 124 = .ok (.iinc 9 1, 3) := by decide +kernel
theorem d_X_file_127 : decode (pw_cc cx_X_file) 127 = .ok (.goto (-53), 3) := by decide +kernel
theorem d_X_file_130 : decode (pw_cc cx_X_file) 130 = .ok (.aload 6, 2) := by decide +kernel
theorem d_X_file_132 : decode (pw_cc cx_X_file) 132 = .ok (.getfield 163, 3) := by decide +kernel
theorem d_X_file_135 : decode (pw_cc cx_X_file) 135 = .ok (.ifCond .le 7, 3) := by decide +kernel
theorem d_X_file_138 : decode (pw_cc cx_X_file) 138 = .ok (.iconst 1, 1) := by decide +kernel
theorem d_X_file_139 : decode (pw_cc cx_X_file) 139 = .ok (.goto 4, 3) := by decide +kernel
theorem d_X_file_142 : decode (pw_cc cx_X_file) 142 = .ok (.iconst 0, 1) := by decide +kernel
theorem d_X_file_143 : decode (pw_cc cx_X_file) 143 = .ok (.invokestatic 80, 3) := by decide +kernel
theorem d_X_file_146 : decode (pw_cc cx_X_file) 146 = .ok (.aload_n 0, 1) := by decide +kernel
theorem d_X_file_147 : decode (pw_cc cx_X_file) 147 = .ok (.getfield 31, 3) := by decide +kernel
theorem d_X_file_150 : decode (pw_cc cx_X_file) 150 = .ok (.aload 6, 2) := by decide +kernel
theorem d_X_file_152 : decode (pw_cc cx_X_file) 152 = .ok (.invokeinterface 45 2, 5) := by decide +kernel
theorem d_X_file_157 : decode (pw_cc cx_X_file) 157 = .ok (.pop, 1) := by decide +kernel
theorem d_X_file_158 : decode (pw_cc cx_X_file) 158 = .ok (.aload_n 0, 1) := by decide +kernel
theorem d_X_file_159 : decode (pw_cc cx_X_file) 159 = .ok (.getfield 31, 3) := by decide +kernel
theorem d_X_file_162 : decode (pw_cc cx_X_file) 162 = .ok (.invokeinterface 88 1, 5) := by decide +kernel
theorem d_X_file_167 : decode (pw_cc cx_X_file) 167 = .ok (.iconst 1, 1) := by decide +kernel
theorem d_X_file_168 : decode (pw_cc cx_X_file) 168 = .ok (.isub, 1) := by decide +kernel
theorem d_X_file_169 : decode (pw_cc cx_X_file) 169 = .ok (.ireturn, 1) := by decide +kernel
set_option maxHeartbeats 4000000 in
set_option maxRecDepth 20000 in
def jp_X_file_143 (Q : pw_W → Int32 → Prop) (X : pw_W → Nat → Prop) (a6 s0 : Int32) (w : pw_W) : Prop := wp_X_checkState w s0 (fun w1 r2 => w1.1 7 0 4 = 0 ∧ 0 ≤ a6 ∧ pw_lg w1 20 0 ∧ ∀ w6, w6 = pw_la w1 20 0 a6 → w6.1 7 0 4 = 0 ∧ Q w6 ((nI (pw_ln w6 20 0)) - 1)) X
set_option maxHeartbeats 4000000 in
set_option maxRecDepth 20000 in
theorem vjp_X_file_143 {l : Launch} {g : pw_G} {Q : pw_W → Int32 → Prop} {X : pw_W → Nat → Prop} (hl0 : l.stackTraces = false) (a6 s0 : Int32) (w : pw_W) (h : jp_X_file_143 Q X a6 s0 w) : pw_V l g cx_X_file Q X 143 [(9, 0), (1, 0), (1, 0), (1, 0), (1, 0), (1, 0), (2, a6), (1, 0), (1, 0), (1, 0), (1, 0)] [(0, s0)] w := by
  unfold jp_X_file_143 at h
  refine pv_callS (n := 146) [(0, s0)] [] (con_X_checkState hl0 h) q_124 q_125 q_62 q_123 pyo_X_checkState (by decide) rfl rfl d_X_file_143 rfl (fun w1 r2 h _ => ?_) (fun _ _ h => pvx_out rfl h)
  show pw_V l g cx_X_file Q X 146 [(9, 0), (1, 0), (1, 0), (1, 0), (1, 0), (1, 0), (2, a6), (1, 0), (1, 0), (1, 0), (1, 0)] [] w1
  refine pv_aload_n (n := 147) d_X_file_146 rfl rfl rfl ?_
  obtain ⟨g3, h⟩ := h
  refine gt_X_31 (n := 150) rfl d_X_file_147 (by decide) g3 rfl ?_
  refine pv_aload (n := 152) d_X_file_150 rfl rfl ?_
  obtain ⟨g4, h⟩ := h
  obtain ⟨g5, h⟩ := h
  refine pv_ladd (n := 157) (f := 20) (F := 0) (by decide) rfl q_44 (by decide) rfl d_X_file_152 (by decide) g4 g5 rfl (fun w6 e7 => ?_)
  replace h := h w6 e7
  refine pv_pop (n := 158) d_X_file_157 (by decide) rfl ?_
  refine pv_aload_n (n := 159) d_X_file_158 rfl rfl rfl ?_
  obtain ⟨g8, h⟩ := h
  refine gt_X_31 (n := 162) rfl d_X_file_159 (by decide) g8 rfl ?_
  refine pv_lsize (n := 167) (f := 20) (by decide) q_49 (by decide) rfl d_X_file_162 (by decide) rfl ?_
  refine pv_iconst (v := 1) (n := 168) d_X_file_167 (by decide) rfl ?_
  refine pv_isub (n := 169) d_X_file_168 rfl ?_
  exact pv_iret rfl rfl d_X_file_169 h
set_option maxHeartbeats 4000000 in
set_option maxRecDepth 20000 in
def lp_X_file_74 (Q : pw_W → Int32 → Prop) (X : pw_W → Nat → Prop) : Nat → Int32 → Int32 → Int32 → Int32 → Int32 → Int32 → Int32 → pw_W → Prop := fun k => Nat.rec (motive := fun _ => Int32 → Int32 → Int32 → Int32 → Int32 → Int32 → Int32 → pw_W → Prop) (fun _ _ _ _ _ _ _ _ => False) (fun _ ih a2 a3 a4 a5 a6 a8 a9 w => (a8 ≤ a9 → 0 ≤ a6 ∧ ((w.1 0 (pw_i a6) 2) ≤ 0 → jp_X_file_143 Q X a6 0 w) ∧ (¬ (w.1 0 (pw_i a6) 2) ≤ 0 → jp_X_file_143 Q X a6 1 w)) ∧ (¬ a8 ≤ a9 → pw_jn a9 (pw_ln w 14 0) ∧ ∀ v13, v13 = (w.1 14 0 (pw_i a9)) → 0 ≤ v13 ∧ wp_X_isInField w (w.1 6 (pw_i v13) 0) a3 a4 (fun w16 r17 => (r17 = 0 → ih a2 a3 a4 a5 a6 a8 (a9 + 1) w16) ∧ (¬ r17 = 0 → wp_X_isClaimable w16 v13 a5 a2 (fun w19 r20 => (r20 = 0 → ih a2 a3 a4 a5 a6 a8 (a9 + 1) w19) ∧ (¬ r20 = 0 → 0 ≤ a6 ∧ wp_Case_addSquare w19 a6 (w19.1 6 (pw_i v13) 0) (fun w22 r23 => ih a2 a3 a4 a5 a6 a8 (a9 + 1) w22) (fun _ _ => False))) (fun _ _ => False))) (fun _ _ => False))) k
set_option maxHeartbeats 4000000 in
set_option maxRecDepth 20000 in
theorem lp_X_file_74_s {Q : pw_W → Int32 → Prop} {X : pw_W → Nat → Prop}  {k : Nat} {a2 a3 a4 a5 a6 a8 a9 : Int32} {w : pw_W} : lp_X_file_74 Q X (k + 1) a2 a3 a4 a5 a6 a8 a9 w = (let ih := lp_X_file_74 Q X k; (a8 ≤ a9 → 0 ≤ a6 ∧ ((w.1 0 (pw_i a6) 2) ≤ 0 → jp_X_file_143 Q X a6 0 w) ∧ (¬ (w.1 0 (pw_i a6) 2) ≤ 0 → jp_X_file_143 Q X a6 1 w)) ∧ (¬ a8 ≤ a9 → pw_jn a9 (pw_ln w 14 0) ∧ ∀ v13, v13 = (w.1 14 0 (pw_i a9)) → 0 ≤ v13 ∧ wp_X_isInField w (w.1 6 (pw_i v13) 0) a3 a4 (fun w16 r17 => (r17 = 0 → ih a2 a3 a4 a5 a6 a8 (a9 + 1) w16) ∧ (¬ r17 = 0 → wp_X_isClaimable w16 v13 a5 a2 (fun w19 r20 => (r20 = 0 → ih a2 a3 a4 a5 a6 a8 (a9 + 1) w19) ∧ (¬ r20 = 0 → 0 ≤ a6 ∧ wp_Case_addSquare w19 a6 (w19.1 6 (pw_i v13) 0) (fun w22 r23 => ih a2 a3 a4 a5 a6 a8 (a9 + 1) w22) (fun _ _ => False))) (fun _ _ => False))) (fun _ _ => False))) := rfl
set_option maxHeartbeats 4000000 in
set_option maxRecDepth 20000 in
theorem vlp_X_file_74 {l : Launch} {g : pw_G} {Q : pw_W → Int32 → Prop} {X : pw_W → Nat → Prop} (hl0 : l.stackTraces = false) : ∀ (k : Nat) (a2 a3 a4 a5 a6 a8 a9 : Int32) (w : pw_W), lp_X_file_74 Q X k a2 a3 a4 a5 a6 a8 a9 w → pw_V l g cx_X_file Q X 74 [(9, 0), (1, 0), (0, a2), (0, a3), (0, a4), (6, a5), (2, a6), (16, 0), (0, a8), (0, a9), (1, 0)] [] w := by
  intro k; induction k with
  | zero => intro _ _ _ _ _ _ _ _ h; exact h.elim
  | succ k ih =>
    intro a2 a3 a4 a5 a6 a8 a9 w h
    rw [lp_X_file_74_s] at h
    refine pv_iload (n := 76) d_X_file_74 rfl rfl ?_
    refine pv_iload (n := 78) d_X_file_76 rfl rfl ?_
    refine pv_icmp_ge (n := 81) (tgt := 130) d_X_file_78 (by decide) rfl (fun c9 => ?_) (fun c9 => ?_)
    · replace h := h.1 c9
      refine pv_aload (n := 132) d_X_file_130 rfl rfl ?_
      obtain ⟨g10, h⟩ := h
      refine gt_X_163 (n := 135) rfl d_X_file_132 g10 rfl ?_
      refine pv_if_le (n := 138) (tgt := 142) d_X_file_135 (by decide) rfl (fun c11 => ?_) (fun c11 => ?_)
      · replace h := h.1 c11
        refine pv_iconst (v := 0) (n := 143) d_X_file_142 (by decide) rfl ?_
        refine pv_unset (i := 2) (L1 := [(9, 0), (1, 0), (1, 0), (0, a3), (0, a4), (6, a5), (2, a6), (16, 0), (0, a8), (0, a9), (1, 0)]) rfl ?_
        refine pv_unset (i := 3) (L1 := [(9, 0), (1, 0), (1, 0), (1, 0), (0, a4), (6, a5), (2, a6), (16, 0), (0, a8), (0, a9), (1, 0)]) rfl ?_
        refine pv_unset (i := 4) (L1 := [(9, 0), (1, 0), (1, 0), (1, 0), (1, 0), (6, a5), (2, a6), (16, 0), (0, a8), (0, a9), (1, 0)]) rfl ?_
        refine pv_unset (i := 5) (L1 := [(9, 0), (1, 0), (1, 0), (1, 0), (1, 0), (1, 0), (2, a6), (16, 0), (0, a8), (0, a9), (1, 0)]) rfl ?_
        refine pv_unset (i := 7) (L1 := [(9, 0), (1, 0), (1, 0), (1, 0), (1, 0), (1, 0), (2, a6), (1, 0), (0, a8), (0, a9), (1, 0)]) rfl ?_
        refine pv_unset (i := 8) (L1 := [(9, 0), (1, 0), (1, 0), (1, 0), (1, 0), (1, 0), (2, a6), (1, 0), (1, 0), (0, a9), (1, 0)]) rfl ?_
        refine pv_unset (i := 9) (L1 := [(9, 0), (1, 0), (1, 0), (1, 0), (1, 0), (1, 0), (2, a6), (1, 0), (1, 0), (1, 0), (1, 0)]) rfl ?_
        exact vjp_X_file_143 hl0 _ _ _ h
      · replace h := h.2 c11
        refine pv_iconst (v := 1) (n := 139) d_X_file_138 (by decide) rfl ?_
        refine pv_goto (tgt := 143) d_X_file_139 (by decide) ?_
        refine pv_unset (i := 2) (L1 := [(9, 0), (1, 0), (1, 0), (0, a3), (0, a4), (6, a5), (2, a6), (16, 0), (0, a8), (0, a9), (1, 0)]) rfl ?_
        refine pv_unset (i := 3) (L1 := [(9, 0), (1, 0), (1, 0), (1, 0), (0, a4), (6, a5), (2, a6), (16, 0), (0, a8), (0, a9), (1, 0)]) rfl ?_
        refine pv_unset (i := 4) (L1 := [(9, 0), (1, 0), (1, 0), (1, 0), (1, 0), (6, a5), (2, a6), (16, 0), (0, a8), (0, a9), (1, 0)]) rfl ?_
        refine pv_unset (i := 5) (L1 := [(9, 0), (1, 0), (1, 0), (1, 0), (1, 0), (1, 0), (2, a6), (16, 0), (0, a8), (0, a9), (1, 0)]) rfl ?_
        refine pv_unset (i := 7) (L1 := [(9, 0), (1, 0), (1, 0), (1, 0), (1, 0), (1, 0), (2, a6), (1, 0), (0, a8), (0, a9), (1, 0)]) rfl ?_
        refine pv_unset (i := 8) (L1 := [(9, 0), (1, 0), (1, 0), (1, 0), (1, 0), (1, 0), (2, a6), (1, 0), (1, 0), (0, a9), (1, 0)]) rfl ?_
        refine pv_unset (i := 9) (L1 := [(9, 0), (1, 0), (1, 0), (1, 0), (1, 0), (1, 0), (2, a6), (1, 0), (1, 0), (1, 0), (1, 0)]) rfl ?_
        exact vjp_X_file_143 hl0 _ _ _ h
    · replace h := h.2 c9
      refine pv_aload (n := 83) d_X_file_81 rfl rfl ?_
      refine pv_iload (n := 85) d_X_file_83 rfl rfl ?_
      obtain ⟨g12, h⟩ := h
      refine pv_aald (n := 86) (f := 14) (F := 6) (C := "Peatland$Square") (by decide) (Or.inl ⟨rfl, rfl⟩) (fun _ => rfl) d_X_file_85 (by decide) g12 rfl (fun _ => ?_)
      refine pv_nm (fun v13 e14 => ?_)
      replace h := h v13 e14
      refine pv_astore (n := 88) (L' := [(9, 0), (1, 0), (0, a2), (0, a3), (0, a4), (6, a5), (2, a6), (16, 0), (0, a8), (0, a9), (8, v13)]) d_X_file_86 (by decide) rfl rfl ?_
      refine pv_aload (n := 90) d_X_file_88 rfl rfl ?_
      obtain ⟨g15, h⟩ := h
      refine gt_X_108 (n := 93) rfl d_X_file_90 g15 rfl ?_
      refine pv_iload_n (n := 94) d_X_file_93 rfl rfl rfl ?_
      refine pv_iload (n := 96) d_X_file_94 rfl rfl ?_
      refine pv_callS (n := 99) [(0, (w.1 6 (pw_i v13) 0)), (0, a3), (0, a4)] [] (con_X_isInField hl0 h) q_101 q_102 q_62 q_100 pyo_X_isInField (by decide) rfl rfl d_X_file_96 rfl (fun w16 r17 h _ => ?_) (fun _ _ h => h.elim)
      show pw_V l g cx_X_file Q X 99 [(9, 0), (1, 0), (0, a2), (0, a3), (0, a4), (6, a5), (2, a6), (16, 0), (0, a8), (0, a9), (8, v13)] [(0, r17)] w16
      refine pv_if_eq (n := 102) (tgt := 124) d_X_file_99 (by decide) rfl (fun c18 => ?_) (fun c18 => ?_)
      · replace h := h.1 c18
        refine pv_iinc (v := (a9 + 1)) (n := 127) (L1 := [(9, 0), (1, 0), (0, a2), (0, a3), (0, a4), (6, a5), (2, a6), (16, 0), (0, a8), (0, (a9 + 1)), (8, v13)]) d_X_file_124 rfl rfl rfl (by decide) rfl ?_
        refine pv_goto (tgt := 74) d_X_file_127 (by decide) ?_
        refine pv_unset (i := 10) (L1 := [(9, 0), (1, 0), (0, a2), (0, a3), (0, a4), (6, a5), (2, a6), (16, 0), (0, a8), (0, (a9 + 1)), (1, 0)]) rfl ?_
        exact ih _ _ _ _ _ _ _ _ h
      · replace h := h.2 c18
        refine pv_aload_n (n := 103) d_X_file_102 rfl rfl rfl ?_
        refine pv_aload (n := 105) d_X_file_103 rfl rfl ?_
        refine pv_aload (n := 107) d_X_file_105 rfl rfl ?_
        refine pv_iload_n (n := 108) d_X_file_107 rfl rfl rfl ?_
        refine pv_callV (n := 111) (x := 0) [(8, v13), (6, a5), (0, a2)] [] (con_X_isClaimable hl0 h) pw_cf7 rfl q_206 q_207 q_208 q_62 q_205 pyo_X_isClaimable (by decide) rfl rfl (by decide) d_X_file_108 rfl (fun w19 r20 h _ => ?_) (fun _ _ h => h.elim)
        show pw_V l g cx_X_file Q X 111 [(9, 0), (1, 0), (0, a2), (0, a3), (0, a4), (6, a5), (2, a6), (16, 0), (0, a8), (0, a9), (8, v13)] [(0, r20)] w19
        refine pv_if_eq (n := 114) (tgt := 124) d_X_file_111 (by decide) rfl (fun c21 => ?_) (fun c21 => ?_)
        · replace h := h.1 c21
          refine pv_iinc (v := (a9 + 1)) (n := 127) (L1 := [(9, 0), (1, 0), (0, a2), (0, a3), (0, a4), (6, a5), (2, a6), (16, 0), (0, a8), (0, (a9 + 1)), (8, v13)]) d_X_file_124 rfl rfl rfl (by decide) rfl ?_
          refine pv_goto (tgt := 74) d_X_file_127 (by decide) ?_
          refine pv_unset (i := 10) (L1 := [(9, 0), (1, 0), (0, a2), (0, a3), (0, a4), (6, a5), (2, a6), (16, 0), (0, a8), (0, (a9 + 1)), (1, 0)]) rfl ?_
          exact ih _ _ _ _ _ _ _ _ h
        · replace h := h.2 c21
          refine pv_aload (n := 116) d_X_file_114 rfl rfl ?_
          refine pv_aload (n := 118) d_X_file_116 rfl rfl ?_
          refine gt_X_108 (n := 121) rfl d_X_file_118 g15 rfl ?_
          obtain ⟨g24, h⟩ := h
          refine pv_callV (n := 124) (x := a6) [(0, (w19.1 6 (pw_i v13) 0))] [] (con_Case_addSquare hl0 h) pw_cf0 rfl q_202 q_203 q_204 q_201 q_200 pyo_Case_addSquare (by decide) rfl rfl g24 d_X_file_121 rfl (fun w22 r23 h _ => ?_) (fun _ _ h => h.elim)
          show pw_V l g cx_X_file Q X 124 [(9, 0), (1, 0), (0, a2), (0, a3), (0, a4), (6, a5), (2, a6), (16, 0), (0, a8), (0, a9), (8, v13)] [] w22
          refine pv_iinc (v := (a9 + 1)) (n := 127) (L1 := [(9, 0), (1, 0), (0, a2), (0, a3), (0, a4), (6, a5), (2, a6), (16, 0), (0, a8), (0, (a9 + 1)), (8, v13)]) d_X_file_124 rfl rfl rfl (by decide) rfl ?_
          refine pv_goto (tgt := 74) d_X_file_127 (by decide) ?_
          refine pv_unset (i := 10) (L1 := [(9, 0), (1, 0), (0, a2), (0, a3), (0, a4), (6, a5), (2, a6), (16, 0), (0, a8), (0, (a9 + 1)), (1, 0)]) rfl ?_
          exact ih _ _ _ _ _ _ _ _ h
set_option maxHeartbeats 4000000 in
set_option maxRecDepth 20000 in
def jp_X_file_46 (Q : pw_W → Int32 → Prop) (X : pw_W → Nat → Prop) (a2 a3 a4 a5 s0 : Int32) (w : pw_W) : Prop := wp_X_checkState w s0 (fun w25 r26 => pw_rm w25 0 8 ∧ ∀ w28, w28 = pw_nw w25 0 0 8 → wp_Case_init w28 (nI (pw_nv w25 0)) a5 (fun w30 r31 => ∀ v32, v32 = (nI (pw_nv w25 0)) → w30.1 7 0 0 = 0 ∧ ∀ v36, v36 = (nI (pw_ln w30 14 0)) → ∃ k38, lp_X_file_74 Q X k38 a2 a3 a4 a5 v32 v36 0 w30) (fun _ _ => False)) X
set_option maxHeartbeats 4000000 in
set_option maxRecDepth 20000 in
theorem vjp_X_file_46 {l : Launch} {g : pw_G} {Q : pw_W → Int32 → Prop} {X : pw_W → Nat → Prop} (hl0 : l.stackTraces = false) (a2 a3 a4 a5 s0 : Int32) (w : pw_W) (h : jp_X_file_46 Q X a2 a3 a4 a5 s0 w) : pw_V l g cx_X_file Q X 46 [(9, 0), (1, 0), (0, a2), (0, a3), (0, a4), (6, a5), (1, 0), (1, 0), (1, 0), (1, 0), (1, 0)] [(0, s0)] w := by
  unfold jp_X_file_46 at h
  refine pv_callS (n := 49) [(0, s0)] [] (con_X_checkState hl0 h) q_124 q_125 q_62 q_123 pyo_X_checkState (by decide) rfl rfl d_X_file_46 rfl (fun w25 r26 h _ => ?_) (fun _ _ h => pvx_out rfl h)
  show pw_V l g cx_X_file Q X 49 [(9, 0), (1, 0), (0, a2), (0, a3), (0, a4), (6, a5), (1, 0), (1, 0), (1, 0), (1, 0), (1, 0)] [] w25
  obtain ⟨g27, h⟩ := h
  refine nw_0 (n := 52) q_209 d_X_file_49 g27 rfl (fun w28 e29 => ?_)
  replace h := h w28 e29
  refine pv_dup (n := 53) d_X_file_52 (by decide) rfl ?_
  refine pv_aload (n := 55) d_X_file_53 rfl rfl ?_
  refine pv_callI (n := 58) (x := (nI (pw_nv w25 0))) (f := 0) [(6, a5)] [(2, (nI (pw_nv w25 0)))] (con_Case_init hl0 h) rfl rfl q_211 q_212 q_201 q_210 pyo_Case_init (by decide) rfl rfl (nI_pos' (by have := g27.2.2; omega)) d_X_file_55 rfl (fun w30 r31 h _ => ?_) (fun _ _ h => h.elim)
  show pw_V l g cx_X_file Q X 58 [(9, 0), (1, 0), (0, a2), (0, a3), (0, a4), (6, a5), (1, 0), (1, 0), (1, 0), (1, 0), (1, 0)] [(2, (nI (pw_nv w25 0)))] w30
  refine pv_nm (fun v32 e33 => ?_)
  replace h := h v32 e33
  have g34 : 0 ≤ v32 := by rw [e33]; exact (nI_pos' (by have := g27.2.2; omega))
  refine pv_astore (n := 60) (L' := [(9, 0), (1, 0), (0, a2), (0, a3), (0, a4), (6, a5), (2, v32), (1, 0), (1, 0), (1, 0), (1, 0)]) d_X_file_58 (by decide) rfl rfl ?_
  refine pv_aload_n (n := 61) d_X_file_60 rfl rfl rfl ?_
  obtain ⟨g35, h⟩ := h
  refine gt_X_11 (n := 64) rfl d_X_file_61 (by decide) g35 rfl ?_
  refine pv_astore (n := 66) (L' := [(9, 0), (1, 0), (0, a2), (0, a3), (0, a4), (6, a5), (2, v32), (16, 0), (1, 0), (1, 0), (1, 0)]) d_X_file_64 (by decide) rfl rfl ?_
  refine pv_aload (n := 68) d_X_file_66 rfl rfl ?_
  refine pv_alen (n := 69) (f := 14) (by decide) ⟨_, rfl⟩ d_X_file_68 (by decide) rfl ?_
  refine pv_nm (fun v36 e37 => ?_)
  replace h := h v36 e37
  refine pv_istore (n := 71) (L' := [(9, 0), (1, 0), (0, a2), (0, a3), (0, a4), (6, a5), (2, v32), (16, 0), (0, v36), (1, 0), (1, 0)]) d_X_file_69 (by decide) rfl rfl ?_
  refine pv_iconst (v := 0) (n := 72) d_X_file_71 (by decide) rfl ?_
  refine pv_istore (n := 74) (L' := [(9, 0), (1, 0), (0, a2), (0, a3), (0, a4), (6, a5), (2, v32), (16, 0), (0, v36), (0, 0), (1, 0)]) d_X_file_72 (by decide) rfl rfl ?_
  obtain ⟨k38, h⟩ := h
  exact vlp_X_file_74 hl0 _ _ _ _ _ _ _ _ _ h
set_option maxHeartbeats 4000000 in
set_option maxRecDepth 20000 in
def wp_X_file (w : pw_W) (a1 a2 a3 a4 : Int32) (Q : pw_W → Int32 → Prop) (X : pw_W → Nat → Prop) : Prop := wp_X_personNumbered w a1 (fun w39 r40 => wp_X_checkSquares w39 a3 a4 (fun w41 r42 => wp_X_checkField w41 a3 a4 (fun w43 r44 => 0 ≤ r40 ∧ wp_X_checkState w43 (w43.1 4 (pw_i r40) 2) (fun w46 r47 => w46.1 7 0 4 = 0 ∧ ((16 : Int32) ≤ (nI (pw_ln w46 20 0)) → jp_X_file_46 Q X a2 a3 a4 r40 0 w46) ∧ (¬ (16 : Int32) ≤ (nI (pw_ln w46 20 0)) → jp_X_file_46 Q X a2 a3 a4 r40 1 w46)) X) X) X) X
set_option maxHeartbeats 4000000 in
set_option maxRecDepth 20000 in
theorem vw_X_file {l : Launch} {g : pw_G} {Q : pw_W → Int32 → Prop} {X : pw_W → Nat → Prop} (hl0 : l.stackTraces = false) {w : pw_W} {a1 a2 a3 a4 : Int32} (h : wp_X_file w a1 a2 a3 a4 Q X) : pw_V l g cx_X_file Q X 0 [(9, 0), (0, a1), (0, a2), (0, a3), (0, a4), (1, 0), (1, 0), (1, 0), (1, 0), (1, 0), (1, 0)] [] w := by
  unfold wp_X_file at h
  refine pv_aload_n (n := 1) d_X_file_0 rfl rfl rfl ?_
  refine pv_iload_n (n := 2) d_X_file_1 rfl rfl rfl ?_
  refine pv_callV (n := 5) (x := 0) [(0, a1)] [] (con_X_personNumbered hl0 h) pw_cf7 rfl q_139 q_140 q_141 q_62 q_138 pyo_X_personNumbered (by decide) rfl rfl (by decide) d_X_file_2 rfl (fun w39 r40 h _ => ?_) (fun _ _ h => pvx_out rfl h)
  show pw_V l g cx_X_file Q X 5 [(9, 0), (0, a1), (0, a2), (0, a3), (0, a4), (1, 0), (1, 0), (1, 0), (1, 0), (1, 0), (1, 0)] [(6, r40)] w39
  refine pv_astore (n := 7) (L' := [(9, 0), (0, a1), (0, a2), (0, a3), (0, a4), (6, r40), (1, 0), (1, 0), (1, 0), (1, 0), (1, 0)]) d_X_file_5 (by decide) rfl rfl ?_
  refine pv_iload_n (n := 8) d_X_file_7 rfl rfl rfl ?_
  refine pv_iload (n := 10) d_X_file_8 rfl rfl ?_
  refine pv_callS (n := 13) [(0, a3), (0, a4)] [] (con_X_checkSquares hl0 h) q_143 q_144 q_62 q_142 pyo_X_checkSquares (by decide) rfl rfl d_X_file_10 rfl (fun w41 r42 h _ => ?_) (fun _ _ h => pvx_out rfl h)
  show pw_V l g cx_X_file Q X 13 [(9, 0), (0, a1), (0, a2), (0, a3), (0, a4), (6, r40), (1, 0), (1, 0), (1, 0), (1, 0), (1, 0)] [] w41
  refine pv_iload_n (n := 14) d_X_file_13 rfl rfl rfl ?_
  refine pv_iload (n := 16) d_X_file_14 rfl rfl ?_
  refine pv_callS (n := 19) [(0, a3), (0, a4)] [] (con_X_checkField hl0 h) q_136 q_137 q_62 q_135 pyo_X_checkField (by decide) rfl rfl d_X_file_16 rfl (fun w43 r44 h _ => ?_) (fun _ _ h => pvx_out rfl h)
  show pw_V l g cx_X_file Q X 19 [(9, 0), (0, a1), (0, a2), (0, a3), (0, a4), (6, r40), (1, 0), (1, 0), (1, 0), (1, 0), (1, 0)] [] w43
  refine pv_aload (n := 21) d_X_file_19 rfl rfl ?_
  obtain ⟨g45, h⟩ := h
  refine gt_X_76 (n := 24) rfl d_X_file_21 g45 rfl ?_
  refine pv_callS (n := 27) [(0, (w43.1 4 (pw_i r40) 2))] [] (con_X_checkState hl0 h) q_124 q_125 q_62 q_123 pyo_X_checkState (by decide) rfl rfl d_X_file_24 rfl (fun w46 r47 h _ => ?_) (fun _ _ h => pvx_out rfl h)
  show pw_V l g cx_X_file Q X 27 [(9, 0), (0, a1), (0, a2), (0, a3), (0, a4), (6, r40), (1, 0), (1, 0), (1, 0), (1, 0), (1, 0)] [] w46
  refine pv_aload_n (n := 28) d_X_file_27 rfl rfl rfl ?_
  obtain ⟨g48, h⟩ := h
  refine gt_X_31 (n := 31) rfl d_X_file_28 (by decide) g48 rfl ?_
  refine pv_lsize (n := 36) (f := 20) (by decide) q_49 (by decide) rfl d_X_file_31 (by decide) rfl ?_
  refine pv_bipush (v := 16) (n := 38) d_X_file_36 (by decide) rfl ?_
  refine pv_icmp_ge (n := 41) (tgt := 45) d_X_file_38 (by decide) rfl (fun c49 => ?_) (fun c49 => ?_)
  · replace h := h.1 c49
    refine pv_iconst (v := 0) (n := 46) d_X_file_45 (by decide) rfl ?_
    refine pv_unset (i := 1) (L1 := [(9, 0), (1, 0), (0, a2), (0, a3), (0, a4), (6, r40), (1, 0), (1, 0), (1, 0), (1, 0), (1, 0)]) rfl ?_
    exact vjp_X_file_46 hl0 _ _ _ _ _ _ h
  · replace h := h.2 c49
    refine pv_iconst (v := 1) (n := 42) d_X_file_41 (by decide) rfl ?_
    refine pv_goto (tgt := 46) d_X_file_42 (by decide) ?_
    refine pv_unset (i := 1) (L1 := [(9, 0), (1, 0), (0, a2), (0, a3), (0, a4), (6, r40), (1, 0), (1, 0), (1, 0), (1, 0), (1, 0)]) rfl ?_
    exact vjp_X_file_46 hl0 _ _ _ _ _ _ h
set_option maxHeartbeats 4000000 in
set_option maxRecDepth 20000 in
theorem con_X_file {l : Launch} {g : pw_G} {Q : pw_W → Int32 → Prop} {X : pw_W → Nat → Prop} (hl0 : l.stackTraces = false) {w : pw_W} {a1 a2 a3 a4 : Int32} (h : wp_X_file w a1 a2 a3 a4 Q X) : pw_Con l g y_X_file cx_X_file [(9, 0), (0, a1), (0, a2), (0, a3), (0, a4)] w Q X :=
  pw_con (by decide +kernel) rfl rfl hl0 rfl (Nat.le_of_ble_eq_true rfl) (by simp) (vw_X_file hl0 h)
theorem d_X_caseNumbered_0 : decode (pw_cc cx_X_caseNumbered) 0 = .ok (.iload_n 1, 1) := by decide +kernel
theorem d_X_caseNumbered_1 : decode (pw_cc cx_X_caseNumbered) 1 = .ok (.aload_n 0, 1) := by decide +kernel
theorem d_X_caseNumbered_2 : decode (pw_cc cx_X_caseNumbered) 2 = .ok (.getfield 31, 3) := by decide +kernel
theorem d_X_caseNumbered_5 : decode (pw_cc cx_X_caseNumbered) 5 = .ok (.invokeinterface 88 1, 5) := by decide +kernel
theorem d_X_caseNumbered_10 : decode (pw_cc cx_X_caseNumbered) 10 = .ok (.invokestatic 203, 3) := by decide +kernel
theorem d_X_caseNumbered_13 : decode (pw_cc cx_X_caseNumbered) 13 = .ok (.aload_n 0, 1) := by decide +kernel
theorem d_X_caseNumbered_14 : decode (pw_cc cx_X_caseNumbered) 14 = .ok (.getfield 31, 3) := by decide +kernel
theorem d_X_caseNumbered_17 : decode (pw_cc cx_X_caseNumbered) 17 = .ok (.iload_n 1, 1) := by decide +kernel
theorem d_X_caseNumbered_18 : decode (pw_cc cx_X_caseNumbered) 18 = .ok (.invokeinterface 382 2, 5) := by decide +kernel
theorem d_X_caseNumbered_23 : decode (pw_cc cx_X_caseNumbered) 23 = .ok (.checkcast 151, 3) := by decide +kernel
theorem d_X_caseNumbered_26 : decode (pw_cc cx_X_caseNumbered) 26 = .ok (.areturn, 1) := by decide +kernel
set_option maxHeartbeats 4000000 in
set_option maxRecDepth 20000 in
def wp_X_caseNumbered (w : pw_W) (a1 : Int32) (Q : pw_W → Int32 → Prop) (X : pw_W → Nat → Prop) : Prop := w.1 7 0 4 = 0 ∧ wp_X_checkIndex w a1 (nI (pw_ln w 20 0)) (fun w2 r3 => w2.1 7 0 4 = 0 ∧ pw_jn a1 (pw_ln w2 20 0) ∧ Q w2 (w2.1 20 0 (pw_i a1))) X
set_option maxHeartbeats 4000000 in
set_option maxRecDepth 20000 in
theorem vw_X_caseNumbered {l : Launch} {g : pw_G} {Q : pw_W → Int32 → Prop} {X : pw_W → Nat → Prop} (hl0 : l.stackTraces = false) {w : pw_W} {a1 : Int32} (h : wp_X_caseNumbered w a1 Q X) : pw_V l g cx_X_caseNumbered Q X 0 [(9, 0), (0, a1)] [] w := by
  unfold wp_X_caseNumbered at h
  refine pv_iload_n (n := 1) d_X_caseNumbered_0 rfl rfl rfl ?_
  refine pv_aload_n (n := 2) d_X_caseNumbered_1 rfl rfl rfl ?_
  obtain ⟨g1, h⟩ := h
  refine gt_X_31 (n := 5) rfl d_X_caseNumbered_2 (by decide) g1 rfl ?_
  refine pv_lsize (n := 10) (f := 20) (by decide) q_49 (by decide) rfl d_X_caseNumbered_5 (by decide) rfl ?_
  refine pv_callS (n := 13) [(0, a1), (0, (nI (pw_ln w 20 0)))] [] (con_X_checkIndex hl0 h) q_91 q_92 q_62 q_90 pyo_X_checkIndex (by decide) rfl rfl d_X_caseNumbered_10 rfl (fun w2 r3 h _ => ?_) (fun _ _ h => pvx_out rfl h)
  show pw_V l g cx_X_caseNumbered Q X 13 [(9, 0), (0, a1)] [] w2
  refine pv_aload_n (n := 14) d_X_caseNumbered_13 rfl rfl rfl ?_
  obtain ⟨g4, h⟩ := h
  refine gt_X_31 (n := 17) rfl d_X_caseNumbered_14 (by decide) g4 rfl ?_
  refine pv_iload_n (n := 18) d_X_caseNumbered_17 rfl rfl rfl ?_
  obtain ⟨g5, h⟩ := h
  refine pv_lget (n := 23) (f := 20) (F := 0) (by decide) rfl q_52 (by decide) rfl d_X_caseNumbered_18 (by decide) g5 rfl (fun _ => ?_)
  refine pv_cast (n := 26) pw_cf0 q_209 d_X_caseNumbered_23 rfl ?_
  exact pv_aret rfl (Or.inl ⟨_, rfl⟩) rfl d_X_caseNumbered_26 h
set_option maxHeartbeats 4000000 in
set_option maxRecDepth 20000 in
theorem con_X_caseNumbered {l : Launch} {g : pw_G} {Q : pw_W → Int32 → Prop} {X : pw_W → Nat → Prop} (hl0 : l.stackTraces = false) {w : pw_W} {a1 : Int32} (h : wp_X_caseNumbered w a1 Q X) : pw_Con l g y_X_caseNumbered cx_X_caseNumbered [(9, 0), (0, a1)] w Q X :=
  pw_con (by decide +kernel) rfl rfl hl0 rfl (Nat.le_of_ble_eq_true rfl) (by simp) (vw_X_caseNumbered hl0 h)
theorem d_X_evidence_0 : decode (pw_cc cx_X_evidence) 0 = .ok (.aload_n 0, 1) := by decide +kernel
theorem d_X_evidence_1 : decode (pw_cc cx_X_evidence) 1 = .ok (.iload_n 1, 1) := by decide +kernel
theorem d_X_evidence_2 : decode (pw_cc cx_X_evidence) 2 = .ok (.invokevirtual 164, 3) := by decide +kernel
theorem d_X_evidence_5 : decode (pw_cc cx_X_evidence) 5 = .ok (.astore 4, 2) := by decide +kernel
theorem d_X_evidence_7 : decode (pw_cc cx_X_evidence) 7 = .ok (.iload_n 3, 1) := by decide +kernel
theorem d_X_evidence_8 : decode (pw_cc cx_X_evidence) 8 = .ok (.iconst 1, 1) := by decide +kernel
theorem d_X_evidence_9 : decode (pw_cc cx_X_evidence) 9 = .ok (.bipush 9, 2) := by decide +kernel
theorem d_X_evidence_11 : decode (pw_cc cx_X_evidence) 11 = .ok (.invokestatic 168, 3) := by decide +kernel
theorem d_X_evidence_14 : decode (pw_cc cx_X_evidence) 14 = .ok (.invokestatic 171, 3) := by decide +kernel
theorem d_X_evidence_17 : decode (pw_cc cx_X_evidence) 17 = .ok (.aload 4, 2) := by decide +kernel
theorem d_X_evidence_19 : decode (pw_cc cx_X_evidence) 19 = .ok (.getfield 174, 3) := by decide +kernel
theorem d_X_evidence_22 : decode (pw_cc cx_X_evidence) 22 = .ok (.ifCond .ne 7, 3) := by decide +kernel
theorem d_X_evidence_25 : decode (pw_cc cx_X_evidence) 25 = .ok (.iconst 1, 1) := by decide +kernel
theorem d_X_evidence_26 : decode (pw_cc cx_X_evidence) 26 = .ok (.goto 4, 3) := by decide +kernel
theorem d_X_evidence_29 : decode (pw_cc cx_X_evidence) 29 = .ok (.iconst 0, 1) := by decide +kernel
theorem d_X_evidence_30 : decode (pw_cc cx_X_evidence) 30 = .ok (.invokestatic 80, 3) := by decide +kernel
theorem d_X_evidence_33 : decode (pw_cc cx_X_evidence) 33 = .ok (.iload_n 2, 1) := by decide +kernel
theorem d_X_evidence_34 : decode (pw_cc cx_X_evidence) 34 = .ok (.ifCond .eq 20, 3) := by decide +kernel
theorem d_X_evidence_37 : decode (pw_cc cx_X_evidence) 37 = .ok (.aload 4, 2) := by decide +kernel
theorem d_X_evidence_39 : decode (pw_cc cx_X_evidence) 39 = .ok (.dup, 1) := by decide +kernel
theorem d_X_evidence_40 : decode (pw_cc cx_X_evidence) 40 = .ok (.getfield 177, 3) := by decide +kernel
theorem d_X_evidence_43 : decode (pw_cc cx_X_evidence) 43 = .ok (.iload_n 3, 1) := by decide +kernel
theorem d_X_evidence_44 : decode (pw_cc cx_X_evidence) 44 = .ok (.iadd, 1) := by decide +kernel
theorem d_X_evidence_45 : decode (pw_cc cx_X_evidence) 45 = .ok (.putfield 177, 3) := by decide +kernel
theorem d_X_evidence_48 : decode (pw_cc cx_X_evidence) 48 = .ok (.aload 4, 2) := by decide +kernel
theorem d_X_evidence_50 : decode (pw_cc cx_X_evidence) 50 = .ok (.getfield 177, 3) := by decide +kernel
theorem d_X_evidence_53 : decode (pw_cc cx_X_evidence) 53 = .ok (.ireturn, 1) := by decide +kernel
theorem d_X_evidence_54 : decode (pw_cc cx_X_evidence) 54 = .ok (.aload 4, 2) := by decide +kernel
theorem d_X_evidence_56 : decode (pw_cc cx_X_evidence) 56 = .ok (.dup, 1) := by decide +kernel
theorem d_X_evidence_57 : decode (pw_cc cx_X_evidence) 57 = .ok (.getfield 180, 3) := by decide +kernel
theorem d_X_evidence_60 : decode (pw_cc cx_X_evidence) 60 = .ok (.iload_n 3, 1) := by decide +kernel
theorem d_X_evidence_61 : decode (pw_cc cx_X_evidence) 61 = .ok (.iadd, 1) := by decide +kernel
theorem d_X_evidence_62 : decode (pw_cc cx_X_evidence) 62 = .ok (.putfield 180, 3) := by decide +kernel
theorem d_X_evidence_65 : decode (pw_cc cx_X_evidence) 65 = .ok (.aload 4, 2) := by decide +kernel
theorem d_X_evidence_67 : decode (pw_cc cx_X_evidence) 67 = .ok (.getfield 180, 3) := by decide +kernel
theorem d_X_evidence_70 : decode (pw_cc cx_X_evidence) 70 = .ok (.ireturn, 1) := by decide +kernel
set_option maxHeartbeats 4000000 in
set_option maxRecDepth 20000 in
def jp_X_evidence_30 (Q : pw_W → Int32 → Prop) (X : pw_W → Nat → Prop) (a2 a3 a4 s0 : Int32) (w : pw_W) : Prop := wp_X_checkState w s0 (fun w1 r2 => (a2 = 0 → 0 ≤ a4 ∧ ∀ w5, w5 = pw_ps w1 0 (pw_i a4) 7 ((w1.1 0 (pw_i a4) 7) + a3) → Q w5 (w5.1 0 (pw_i a4) 7)) ∧ (¬ a2 = 0 → 0 ≤ a4 ∧ ∀ w8, w8 = pw_ps w1 0 (pw_i a4) 6 ((w1.1 0 (pw_i a4) 6) + a3) → Q w8 (w8.1 0 (pw_i a4) 6))) X
set_option maxHeartbeats 4000000 in
set_option maxRecDepth 20000 in
theorem vjp_X_evidence_30 {l : Launch} {g : pw_G} {Q : pw_W → Int32 → Prop} {X : pw_W → Nat → Prop} (hl0 : l.stackTraces = false) (a2 a3 a4 s0 : Int32) (w : pw_W) (h : jp_X_evidence_30 Q X a2 a3 a4 s0 w) : pw_V l g cx_X_evidence Q X 30 [(1, 0), (1, 0), (0, a2), (0, a3), (2, a4)] [(0, s0)] w := by
  unfold jp_X_evidence_30 at h
  refine pv_callS (n := 33) [(0, s0)] [] (con_X_checkState hl0 h) q_124 q_125 q_62 q_123 pyo_X_checkState (by decide) rfl rfl d_X_evidence_30 rfl (fun w1 r2 h _ => ?_) (fun _ _ h => pvx_out rfl h)
  show pw_V l g cx_X_evidence Q X 33 [(1, 0), (1, 0), (0, a2), (0, a3), (2, a4)] [] w1
  refine pv_iload_n (n := 34) d_X_evidence_33 rfl rfl rfl ?_
  refine pv_if_eq (n := 37) (tgt := 54) d_X_evidence_34 (by decide) rfl (fun c3 => ?_) (fun c3 => ?_)
  · replace h := h.1 c3
    refine pv_aload (n := 56) d_X_evidence_54 rfl rfl ?_
    refine pv_dup (n := 57) d_X_evidence_56 (by decide) rfl ?_
    obtain ⟨g4, h⟩ := h
    refine gt_X_180 (n := 60) rfl d_X_evidence_57 g4 rfl ?_
    refine pv_iload_n (n := 61) d_X_evidence_60 rfl rfl rfl ?_
    refine pv_iadd (n := 62) d_X_evidence_61 rfl ?_
    refine pt_X_180 (n := 65) rfl d_X_evidence_62 g4 rfl (fun w5 e6 => ?_)
    replace h := h w5 e6
    refine pv_aload (n := 67) d_X_evidence_65 rfl rfl ?_
    refine gt_X_180 (n := 70) rfl d_X_evidence_67 g4 rfl ?_
    exact pv_iret rfl rfl d_X_evidence_70 h
  · replace h := h.2 c3
    refine pv_aload (n := 39) d_X_evidence_37 rfl rfl ?_
    refine pv_dup (n := 40) d_X_evidence_39 (by decide) rfl ?_
    obtain ⟨g7, h⟩ := h
    refine gt_X_177 (n := 43) rfl d_X_evidence_40 g7 rfl ?_
    refine pv_iload_n (n := 44) d_X_evidence_43 rfl rfl rfl ?_
    refine pv_iadd (n := 45) d_X_evidence_44 rfl ?_
    refine pt_X_177 (n := 48) rfl d_X_evidence_45 g7 rfl (fun w8 e9 => ?_)
    replace h := h w8 e9
    refine pv_aload (n := 50) d_X_evidence_48 rfl rfl ?_
    refine gt_X_177 (n := 53) rfl d_X_evidence_50 g7 rfl ?_
    exact pv_iret rfl rfl d_X_evidence_53 h
set_option maxHeartbeats 4000000 in
set_option maxRecDepth 20000 in
def wp_X_evidence (w : pw_W) (a1 a2 a3 : Int32) (Q : pw_W → Int32 → Prop) (X : pw_W → Nat → Prop) : Prop := wp_X_caseNumbered w a1 (fun w10 r11 => wp_X_isInRange w10 a3 1 9 (fun w12 r13 => wp_X_checkArgument w12 r13 (fun w14 r15 => 0 ≤ r11 ∧ (¬ (w14.1 0 (pw_i r11) 3) = 0 → jp_X_evidence_30 Q X a2 a3 r11 0 w14) ∧ ((w14.1 0 (pw_i r11) 3) = 0 → jp_X_evidence_30 Q X a2 a3 r11 1 w14)) X) (fun _ _ => False)) X
set_option maxHeartbeats 4000000 in
set_option maxRecDepth 20000 in
theorem vw_X_evidence {l : Launch} {g : pw_G} {Q : pw_W → Int32 → Prop} {X : pw_W → Nat → Prop} (hl0 : l.stackTraces = false) {w : pw_W} {a1 a2 a3 : Int32} (h : wp_X_evidence w a1 a2 a3 Q X) : pw_V l g cx_X_evidence Q X 0 [(9, 0), (0, a1), (0, a2), (0, a3), (1, 0)] [] w := by
  unfold wp_X_evidence at h
  refine pv_aload_n (n := 1) d_X_evidence_0 rfl rfl rfl ?_
  refine pv_iload_n (n := 2) d_X_evidence_1 rfl rfl rfl ?_
  refine pv_callV (n := 5) (x := 0) [(0, a1)] [] (con_X_caseNumbered hl0 h) pw_cf7 rfl q_217 q_218 q_219 q_62 q_216 pyo_X_caseNumbered (by decide) rfl rfl (by decide) d_X_evidence_2 rfl (fun w10 r11 h _ => ?_) (fun _ _ h => pvx_out rfl h)
  show pw_V l g cx_X_evidence Q X 5 [(9, 0), (0, a1), (0, a2), (0, a3), (1, 0)] [(2, r11)] w10
  refine pv_astore (n := 7) (L' := [(9, 0), (0, a1), (0, a2), (0, a3), (2, r11)]) d_X_evidence_5 (by decide) rfl rfl ?_
  refine pv_iload_n (n := 8) d_X_evidence_7 rfl rfl rfl ?_
  refine pv_iconst (v := 1) (n := 9) d_X_evidence_8 (by decide) rfl ?_
  refine pv_bipush (v := 9) (n := 11) d_X_evidence_9 (by decide) rfl ?_
  refine pv_callS (n := 14) [(0, a3), (0, 1), (0, 9)] [] (con_X_isInRange hl0 h) q_96 q_97 q_62 q_95 pyo_X_isInRange (by decide) rfl rfl d_X_evidence_11 rfl (fun w12 r13 h _ => ?_) (fun _ _ h => h.elim)
  show pw_V l g cx_X_evidence Q X 14 [(9, 0), (0, a1), (0, a2), (0, a3), (2, r11)] [(0, r13)] w12
  refine pv_callS (n := 17) [(0, r13)] [] (con_X_checkArgument hl0 h) q_86 q_87 q_62 q_85 pyo_X_checkArgument (by decide) rfl rfl d_X_evidence_14 rfl (fun w14 r15 h _ => ?_) (fun _ _ h => pvx_out rfl h)
  show pw_V l g cx_X_evidence Q X 17 [(9, 0), (0, a1), (0, a2), (0, a3), (2, r11)] [] w14
  refine pv_aload (n := 19) d_X_evidence_17 rfl rfl ?_
  obtain ⟨g16, h⟩ := h
  refine gt_X_174 (n := 22) rfl d_X_evidence_19 g16 rfl ?_
  refine pv_if_ne (n := 25) (tgt := 29) d_X_evidence_22 (by decide) rfl (fun c17 => ?_) (fun c17 => ?_)
  · replace h := h.1 c17
    refine pv_iconst (v := 0) (n := 30) d_X_evidence_29 (by decide) rfl ?_
    refine pv_unset (i := 0) (L1 := [(1, 0), (0, a1), (0, a2), (0, a3), (2, r11)]) rfl ?_
    refine pv_unset (i := 1) (L1 := [(1, 0), (1, 0), (0, a2), (0, a3), (2, r11)]) rfl ?_
    exact vjp_X_evidence_30 hl0 _ _ _ _ _ h
  · replace h := h.2 c17
    refine pv_iconst (v := 1) (n := 26) d_X_evidence_25 (by decide) rfl ?_
    refine pv_goto (tgt := 30) d_X_evidence_26 (by decide) ?_
    refine pv_unset (i := 0) (L1 := [(1, 0), (0, a1), (0, a2), (0, a3), (2, r11)]) rfl ?_
    refine pv_unset (i := 1) (L1 := [(1, 0), (1, 0), (0, a2), (0, a3), (2, r11)]) rfl ?_
    exact vjp_X_evidence_30 hl0 _ _ _ _ _ h
set_option maxHeartbeats 4000000 in
set_option maxRecDepth 20000 in
theorem con_X_evidence {l : Launch} {g : pw_G} {Q : pw_W → Int32 → Prop} {X : pw_W → Nat → Prop} (hl0 : l.stackTraces = false) {w : pw_W} {a1 a2 a3 : Int32} (h : wp_X_evidence w a1 a2 a3 Q X) : pw_Con l g y_X_evidence cx_X_evidence [(9, 0), (0, a1), (0, a2), (0, a3)] w Q X :=
  pw_con (by decide +kernel) rfl rfl hl0 rfl (Nat.le_of_ble_eq_true rfl) (by simp) (vw_X_evidence hl0 h)
theorem d_Case_hasSquare_0 : decode (pw_cc cx_Case_hasSquare) 0 = .ok (.iload_n 1, 1) := by decide +kernel
theorem d_Case_hasSquare_1 : decode (pw_cc cx_Case_hasSquare) 1 = .ok (.iconst 0, 1) := by decide +kernel
theorem d_Case_hasSquare_2 : decode (pw_cc cx_Case_hasSquare) 2 = .ok (.bipush 99, 2) := by decide +kernel
theorem d_Case_hasSquare_4 : decode (pw_cc cx_Case_hasSquare) 4 = .ok (.invokestatic 23, 3) := by decide +kernel
theorem d_Case_hasSquare_7 : decode (pw_cc cx_Case_hasSquare) 7 = .ok (.ifCond .eq 16, 3) := by decide +kernel
theorem d_Case_hasSquare_10 : decode (pw_cc cx_Case_hasSquare) 10 = .ok (.aload_n 0, 1) := by decide +kernel
theorem d_Case_hasSquare_11 : decode (pw_cc cx_Case_hasSquare) 11 = .ok (.getfield 9, 3) := by decide +kernel
theorem d_Case_hasSquare_14 : decode (pw_cc cx_Case_hasSquare) 14 = .ok (.iload_n 1, 1) := by decide +kernel
theorem d_Case_hasSquare_15 : decode (pw_cc cx_Case_hasSquare) 15 = .ok (.baload, 1) := by decide +kernel
theorem d_Case_hasSquare_16 : decode (pw_cc cx_Case_hasSquare) 16 = .ok (.ifCond .eq 7, 3) := by decide +kernel
theorem d_Case_hasSquare_19 : decode (pw_cc cx_Case_hasSquare) 19 = .ok (.iconst 1, 1) := by decide +kernel
theorem d_Case_hasSquare_20 : decode (pw_cc cx_Case_hasSquare) 20 = .ok (.goto 4, 3) := by decide +kernel
theorem d_Case_hasSquare_23 : decode (pw_cc cx_Case_hasSquare) 23 = .ok (.iconst 0, 1) := by decide +kernel
theorem d_Case_hasSquare_24 : decode (pw_cc cx_Case_hasSquare) 24 = .ok (.ireturn, 1) := by decide +kernel
set_option maxHeartbeats 4000000 in
set_option maxRecDepth 20000 in
def wp_Case_hasSquare (w : pw_W) (a0 a1 : Int32) (Q : pw_W → Int32 → Prop) (X : pw_W → Nat → Prop) : Prop := wp_X_isInRange w a1 0 99 (fun w1 r2 => (r2 = 0 → Q w1 0) ∧ (¬ r2 = 0 → 0 ≤ a0 ∧ 0 ≤ (w1.1 0 (pw_i a0) 1) ∧ pw_jn a1 (pw_ln w1 12 (pw_i (w1.1 0 (pw_i a0) 1))) ∧ ((w1.1 12 (pw_i (w1.1 0 (pw_i a0) 1)) (pw_i a1)) = 0 → Q w1 0) ∧ (¬ (w1.1 12 (pw_i (w1.1 0 (pw_i a0) 1)) (pw_i a1)) = 0 → Q w1 1))) (fun _ _ => False)
set_option maxHeartbeats 4000000 in
set_option maxRecDepth 20000 in
theorem vw_Case_hasSquare {l : Launch} {g : pw_G} {Q : pw_W → Int32 → Prop} {X : pw_W → Nat → Prop} (hl0 : l.stackTraces = false) {w : pw_W} {a0 a1 : Int32} (h : wp_Case_hasSquare w a0 a1 Q X) : pw_V l g cx_Case_hasSquare Q X 0 [(2, a0), (0, a1)] [] w := by
  unfold wp_Case_hasSquare at h
  refine pv_iload_n (n := 1) d_Case_hasSquare_0 rfl rfl rfl ?_
  refine pv_iconst (v := 0) (n := 2) d_Case_hasSquare_1 (by decide) rfl ?_
  refine pv_bipush (v := 99) (n := 4) d_Case_hasSquare_2 (by decide) rfl ?_
  refine pv_callN (n := 7) [(0, a1), (0, 0), (0, 99)] [] (con_X_isInRange hl0 h) q_198 q_97 q_62 q_95 pyo_X_isInRange (by decide) rfl rfl d_Case_hasSquare_4 rfl (fun w1 r2 h _ => ?_) (fun _ _ h => h.elim)
  show pw_V l g cx_Case_hasSquare Q X 7 [(2, a0), (0, a1)] [(0, r2)] w1
  refine pv_if_eq (n := 10) (tgt := 23) d_Case_hasSquare_7 (by decide) rfl (fun c3 => ?_) (fun c3 => ?_)
  · replace h := h.1 c3
    refine pv_iconst (v := 0) (n := 24) d_Case_hasSquare_23 (by decide) rfl ?_
    exact pv_zret rfl rfl d_Case_hasSquare_24 (by decide) h
  · replace h := h.2 c3
    refine pv_aload_n (n := 11) d_Case_hasSquare_10 rfl rfl rfl ?_
    obtain ⟨g4, h⟩ := h
    refine gt_Case_9 (n := 14) rfl d_Case_hasSquare_11 g4 rfl ?_
    refine pv_iload_n (n := 15) d_Case_hasSquare_14 rfl rfl rfl ?_
    obtain ⟨g5, h⟩ := h
    obtain ⟨g6, h⟩ := h
    refine pv_zald (n := 16) (f := 12) (by decide) rfl d_Case_hasSquare_15 g5 g6 rfl ?_
    refine pv_if_eq (n := 19) (tgt := 23) d_Case_hasSquare_16 (by decide) rfl (fun c7 => ?_) (fun c7 => ?_)
    · replace h := h.1 c7
      refine pv_iconst (v := 0) (n := 24) d_Case_hasSquare_23 (by decide) rfl ?_
      exact pv_zret rfl rfl d_Case_hasSquare_24 (by decide) h
    · replace h := h.2 c7
      refine pv_iconst (v := 1) (n := 20) d_Case_hasSquare_19 (by decide) rfl ?_
      refine pv_goto (tgt := 24) d_Case_hasSquare_20 (by decide) ?_
      exact pv_zret rfl rfl d_Case_hasSquare_24 (by decide) h
set_option maxHeartbeats 4000000 in
set_option maxRecDepth 20000 in
theorem con_Case_hasSquare {l : Launch} {g : pw_G} {Q : pw_W → Int32 → Prop} {X : pw_W → Nat → Prop} (hl0 : l.stackTraces = false) {w : pw_W} {a0 a1 : Int32} (h : wp_Case_hasSquare w a0 a1 Q X) : pw_Con l g y_Case_hasSquare cx_Case_hasSquare [(2, a0), (0, a1)] w Q X :=
  pw_con (by decide +kernel) rfl rfl hl0 rfl (Nat.le_of_ble_eq_true rfl) (by simp) (vw_Case_hasSquare hl0 h)
theorem d_X_isTaken_0 : decode (pw_cc cx_X_isTaken) 0 = .ok (.aload_n 1, 1) := by decide +kernel
theorem d_X_isTaken_1 : decode (pw_cc cx_X_isTaken) 1 = .ok (.aload_n 0, 1) := by decide +kernel
theorem d_X_isTaken_2 : decode (pw_cc cx_X_isTaken) 2 = .ok (.getfield 108, 3) := by decide +kernel
theorem d_X_isTaken_5 : decode (pw_cc cx_X_isTaken) 5 = .ok (.invokevirtual 399, 3) := by decide +kernel
theorem d_X_isTaken_8 : decode (pw_cc cx_X_isTaken) 8 = .ok (.ifCond .eq 17, 3) := by decide +kernel
theorem d_X_isTaken_11 : decode (pw_cc cx_X_isTaken) 11 = .ok (.aload_n 0, 1) := by decide +kernel
theorem d_X_isTaken_12 : decode (pw_cc cx_X_isTaken) 12 = .ok (.getfield 104, 3) := by decide +kernel
theorem d_X_isTaken_15 : decode (pw_cc cx_X_isTaken) 15 = .ok (.getfield 120, 3) := by decide +kernel
theorem d_X_isTaken_18 : decode (pw_cc cx_X_isTaken) 18 = .ok (.aload_n 1, 1) := by decide +kernel
theorem d_X_isTaken_19 : decode (pw_cc cx_X_isTaken) 19 = .ok (.getfield 200, 3) := by decide +kernel
theorem d_X_isTaken_22 : decode (pw_cc cx_X_isTaken) 22 = .ok (.if_acmp .ne 5, 3) := by decide +kernel
theorem d_X_isTaken_25 : decode (pw_cc cx_X_isTaken) 25 = .ok (.iconst 0, 1) := by decide +kernel
theorem d_X_isTaken_26 : decode (pw_cc cx_X_isTaken) 26 = .ok (.ireturn, 1) := by decide +kernel
theorem d_X_isTaken_27 : decode (pw_cc cx_X_isTaken) 27 = .ok (.aload_n 0, 1) := by decide +kernel
theorem d_X_isTaken_28 : decode (pw_cc cx_X_isTaken) 28 = .ok (.getfield 403, 3) := by decide +kernel
theorem d_X_isTaken_31 : decode (pw_cc cx_X_isTaken) 31 = .ok (.astore_n 2, 1) := by decide +kernel
theorem d_X_isTaken_32 : decode (pw_cc cx_X_isTaken) 32 = .ok (.aload_n 2, 1) := by decide +kernel
theorem d_X_isTaken_33 : decode (pw_cc cx_X_isTaken) 33 = .ok (.ifnull 19, 3) := by decide +kernel
theorem d_X_isTaken_36 : decode (pw_cc cx_X_isTaken) 36 = .ok (.aload_n 2, 1) := by decide +kernel
theorem d_X_isTaken_37 : decode (pw_cc cx_X_isTaken) 37 = .ok (.aload_n 1, 1) := by decide +kernel
theorem d_X_isTaken_38 : decode (pw_cc cx_X_isTaken) 38 = .ok (.if_acmp .eq 14, 3) := by decide +kernel
theorem d_X_isTaken_41 : decode (pw_cc cx_X_isTaken) 41 = .ok (.aload_n 2, 1) := by decide +kernel
theorem d_X_isTaken_42 : decode (pw_cc cx_X_isTaken) 42 = .ok (.getfield 193, 3) := by decide +kernel
theorem d_X_isTaken_45 : decode (pw_cc cx_X_isTaken) 45 = .ok (.aload_n 1, 1) := by decide +kernel
theorem d_X_isTaken_46 : decode (pw_cc cx_X_isTaken) 46 = .ok (.getfield 190, 3) := by decide +kernel
theorem d_X_isTaken_49 : decode (pw_cc cx_X_isTaken) 49 = .ok (.if_icmp .gt 7, 3) := by decide +kernel
theorem d_X_isTaken_52 : decode (pw_cc cx_X_isTaken) 52 = .ok (.iconst 1, 1) := by decide +kernel
theorem d_X_isTaken_53 : decode (pw_cc cx_X_isTaken) 53 = .ok (.goto 4, 3) := by decide +kernel
theorem d_X_isTaken_56 : decode (pw_cc cx_X_isTaken) 56 = .ok (.iconst 0, 1) := by decide +kernel
theorem d_X_isTaken_57 : decode (pw_cc cx_X_isTaken) 57 = .ok (.ireturn, 1) := by decide +kernel
set_option maxHeartbeats 4000000 in
set_option maxRecDepth 20000 in
def wp_X_isTaken (w : pw_W) (a0 a1 : Int32) (Q : pw_W → Int32 → Prop) (X : pw_W → Nat → Prop) : Prop := 0 ≤ a0 ∧ 0 ≤ a1 ∧ wp_Case_hasSquare w a1 (w.1 6 (pw_i a0) 0) (fun w2 r3 => (r3 = 0 → Q w2 0) ∧ (¬ r3 = 0 → 0 ≤ (w2.1 6 (pw_i a0) 1) ∧ (¬ (w2.1 3 (pw_i (w2.1 6 (pw_i a0) 1)) 2) = (w2.1 0 (pw_i a1) 0) → ∀ v8, v8 = (w2.1 6 (pw_i a0) 9) → (v8 = -1 → Q w2 1) ∧ (¬ v8 = -1 → (v8 = a1 → Q w2 1) ∧ (¬ v8 = a1 → 0 ≤ v8 ∧ ((w2.1 0 (pw_i a1) 4) < (w2.1 0 (pw_i v8) 5) → Q w2 0) ∧ (¬ (w2.1 0 (pw_i a1) 4) < (w2.1 0 (pw_i v8) 5) → Q w2 1)))) ∧ ((w2.1 3 (pw_i (w2.1 6 (pw_i a0) 1)) 2) = (w2.1 0 (pw_i a1) 0) → Q w2 0))) (fun _ _ => False)
set_option maxHeartbeats 4000000 in
set_option maxRecDepth 20000 in
theorem vw_X_isTaken {l : Launch} {g : pw_G} {Q : pw_W → Int32 → Prop} {X : pw_W → Nat → Prop} (hl0 : l.stackTraces = false) {w : pw_W} {a0 a1 : Int32} (h : wp_X_isTaken w a0 a1 Q X) : pw_V l g cx_X_isTaken Q X 0 [(8, a0), (2, a1), (1, 0)] [] w := by
  unfold wp_X_isTaken at h
  refine pv_aload_n (n := 1) d_X_isTaken_0 rfl rfl rfl ?_
  refine pv_aload_n (n := 2) d_X_isTaken_1 rfl rfl rfl ?_
  obtain ⟨g1, h⟩ := h
  refine gt_X_108 (n := 5) rfl d_X_isTaken_2 g1 rfl ?_
  obtain ⟨g4, h⟩ := h
  refine pv_callV (n := 8) (x := a1) [(0, (w.1 6 (pw_i a0) 0))] [] (con_Case_hasSquare hl0 h) pw_cf0 rfl q_225 q_226 q_227 q_201 q_224 pyo_Case_hasSquare (by decide) rfl rfl g4 d_X_isTaken_5 rfl (fun w2 r3 h _ => ?_) (fun _ _ h => h.elim)
  show pw_V l g cx_X_isTaken Q X 8 [(8, a0), (2, a1), (1, 0)] [(0, r3)] w2
  refine pv_if_eq (n := 11) (tgt := 25) d_X_isTaken_8 (by decide) rfl (fun c5 => ?_) (fun c5 => ?_)
  · replace h := h.1 c5
    refine pv_iconst (v := 0) (n := 26) d_X_isTaken_25 (by decide) rfl ?_
    exact pv_zret rfl rfl d_X_isTaken_26 (by decide) h
  · replace h := h.2 c5
    refine pv_aload_n (n := 12) d_X_isTaken_11 rfl rfl rfl ?_
    refine gt_X_104 (n := 15) rfl d_X_isTaken_12 g1 rfl ?_
    obtain ⟨g6, h⟩ := h
    refine gt_X_120 (n := 18) rfl d_X_isTaken_15 g6 rfl ?_
    refine pv_aload_n (n := 19) d_X_isTaken_18 rfl rfl rfl ?_
    refine gt_X_200 (n := 22) rfl d_X_isTaken_19 g4 rfl ?_
    refine pv_acmp_ne (n := 25) (tgt := 27) d_X_isTaken_22 (by decide) (by decide) rfl (fun c7 => ?_) (fun c7 => ?_)
    · replace h := h.1 c7
      refine pv_aload_n (n := 28) d_X_isTaken_27 rfl rfl rfl ?_
      refine gt_X_403 (n := 31) rfl d_X_isTaken_28 g1 rfl ?_
      refine pv_nm (fun v8 e9 => ?_)
      replace h := h v8 e9
      refine pv_astore_n (n := 32) (L' := [(8, a0), (2, a1), (2, v8)]) d_X_isTaken_31 rfl (by decide) rfl rfl ?_
      refine pv_aload_n (n := 33) d_X_isTaken_32 rfl rfl rfl ?_
      refine pv_ifnull (n := 36) (tgt := 52) d_X_isTaken_33 (by decide) rfl (fun c10 => ?_) (fun c10 => ?_)
      · replace h := h.1 c10
        refine pv_iconst (v := 1) (n := 53) d_X_isTaken_52 (by decide) rfl ?_
        refine pv_goto (tgt := 57) d_X_isTaken_53 (by decide) ?_
        exact pv_zret rfl rfl d_X_isTaken_57 (by decide) h
      · replace h := h.2 c10
        refine pv_aload_n (n := 37) d_X_isTaken_36 rfl rfl rfl ?_
        refine pv_aload_n (n := 38) d_X_isTaken_37 rfl rfl rfl ?_
        refine pv_acmp_eq (n := 41) (tgt := 52) d_X_isTaken_38 (by decide) (by decide) rfl (fun c11 => ?_) (fun c11 => ?_)
        · replace h := h.1 c11
          refine pv_iconst (v := 1) (n := 53) d_X_isTaken_52 (by decide) rfl ?_
          refine pv_goto (tgt := 57) d_X_isTaken_53 (by decide) ?_
          exact pv_zret rfl rfl d_X_isTaken_57 (by decide) h
        · replace h := h.2 c11
          refine pv_aload_n (n := 42) d_X_isTaken_41 rfl rfl rfl ?_
          obtain ⟨g12, h⟩ := h
          refine gt_X_193 (n := 45) rfl d_X_isTaken_42 g12 rfl ?_
          refine pv_aload_n (n := 46) d_X_isTaken_45 rfl rfl rfl ?_
          refine gt_X_190 (n := 49) rfl d_X_isTaken_46 g4 rfl ?_
          refine pv_icmp_gt (n := 52) (tgt := 56) d_X_isTaken_49 (by decide) rfl (fun c13 => ?_) (fun c13 => ?_)
          · replace h := h.1 c13
            refine pv_iconst (v := 0) (n := 57) d_X_isTaken_56 (by decide) rfl ?_
            exact pv_zret rfl rfl d_X_isTaken_57 (by decide) h
          · replace h := h.2 c13
            refine pv_iconst (v := 1) (n := 53) d_X_isTaken_52 (by decide) rfl ?_
            refine pv_goto (tgt := 57) d_X_isTaken_53 (by decide) ?_
            exact pv_zret rfl rfl d_X_isTaken_57 (by decide) h
    · replace h := h.2 c7
      refine pv_iconst (v := 0) (n := 26) d_X_isTaken_25 (by decide) rfl ?_
      exact pv_zret rfl rfl d_X_isTaken_26 (by decide) h
set_option maxHeartbeats 4000000 in
set_option maxRecDepth 20000 in
theorem con_X_isTaken {l : Launch} {g : pw_G} {Q : pw_W → Int32 → Prop} {X : pw_W → Nat → Prop} (hl0 : l.stackTraces = false) {w : pw_W} {a0 a1 : Int32} (h : wp_X_isTaken w a0 a1 Q X) : pw_Con l g y_X_isTaken cx_X_isTaken [(8, a0), (2, a1)] w Q X :=
  pw_con (by decide +kernel) rfl rfl hl0 rfl (Nat.le_of_ble_eq_true rfl) (by simp) (vw_X_isTaken hl0 h)
theorem d_X_countTaken_0 : decode (pw_cc cx_X_countTaken) 0 = .ok (.iconst 0, 1) := by decide +kernel
theorem d_X_countTaken_1 : decode (pw_cc cx_X_countTaken) 1 = .ok (.istore_n 2, 1) := by decide +kernel
theorem d_X_countTaken_2 : decode (pw_cc cx_X_countTaken) 2 = .ok (.aload_n 0, 1) := by decide +kernel
theorem d_X_countTaken_3 : decode (pw_cc cx_X_countTaken) 3 = .ok (.getfield 11, 3) := by decide +kernel
theorem d_X_countTaken_6 : decode (pw_cc cx_X_countTaken) 6 = .ok (.astore_n 3, 1) := by decide +kernel
theorem d_X_countTaken_7 : decode (pw_cc cx_X_countTaken) 7 = .ok (.aload_n 3, 1) := by decide +kernel
theorem d_X_countTaken_8 : decode (pw_cc cx_X_countTaken) 8 = .ok (.arraylength, 1) := by decide +kernel
theorem d_X_countTaken_9 : decode (pw_cc cx_X_countTaken) 9 = .ok (.istore 4, 2) := by decide +kernel
theorem d_X_countTaken_11 : decode (pw_cc cx_X_countTaken) 11 = .ok (.iconst 0, 1) := by decide +kernel
theorem d_X_countTaken_12 : decode (pw_cc cx_X_countTaken) 12 = .ok (.istore 5, 2) := by decide +kernel
theorem d_X_countTaken_14 : decode (pw_cc cx_X_countTaken) 14 = .ok (.iload 5, 2) := by decide +kernel
theorem d_X_countTaken_16 : decode (pw_cc cx_X_countTaken) 16 = .ok (.iload 4, 2) := by decide +kernel
theorem d_X_countTaken_18 : decode (pw_cc cx_X_countTaken) 18 = .ok (.if_icmp .ge 27, 3) := by decide +kernel
theorem d_X_countTaken_21 : decode (pw_cc cx_X_countTaken) 21 = .ok (.aload_n 3, 1) := by decide +kernel
theorem d_X_countTaken_22 : decode (pw_cc cx_X_countTaken) 22 = .ok (.iload 5, 2) := by decide +kernel
theorem d_X_countTaken_24 : decode (pw_cc cx_X_countTaken) 24 = .ok (.aaload, 1) := by decide +kernel
theorem d_X_countTaken_25 : decode (pw_cc cx_X_countTaken) 25 = .ok (.astore 6, 2) := by decide +kernel
theorem d_X_countTaken_27 : decode (pw_cc cx_X_countTaken) 27 = .ok (.aload 6, 2) := by decide +kernel
theorem d_X_countTaken_29 : decode (pw_cc cx_X_countTaken) 29 = .ok (.aload_n 1, 1) := by decide +kernel
theorem d_X_countTaken_30 : decode (pw_cc cx_X_countTaken) 30 = .ok (.invokestatic 407, 3) := by decide +kernel
theorem d_X_countTaken_33 : decode (pw_cc cx_X_countTaken) 33 = .ok (.ifCond .eq 6, 3) := by decide +kernel
theorem d_X_countTaken_36 : decode (pw_cc cx_X_countTaken) 36 = .ok (.iinc 2 1, 3) := by decide +kernel
theorem d_X_countTaken_39 : decode (pw_cc cx_X_countTaken) 39 = .ok (.iinc 5 1, 3) := by decide +kernel
theorem d_X_countTaken_42 : decode (pw_cc cx_X_countTaken) 42 = .ok (.goto (-28), 3) := by decide +kernel
theorem d_X_countTaken_45 : decode (pw_cc cx_X_countTaken) 45 = .ok (.iload_n 2, 1) := by decide +kernel
theorem d_X_countTaken_46 : decode (pw_cc cx_X_countTaken) 46 = .ok (.ireturn, 1) := by decide +kernel
set_option maxHeartbeats 4000000 in
set_option maxRecDepth 20000 in
def lp_X_countTaken_14 (Q : pw_W → Int32 → Prop) (X : pw_W → Nat → Prop) : Nat → Int32 → Int32 → Int32 → Int32 → pw_W → Prop := fun k => Nat.rec (motive := fun _ => Int32 → Int32 → Int32 → Int32 → pw_W → Prop) (fun _ _ _ _ _ => False) (fun _ ih a1 a2 a4 a5 w => (a4 ≤ a5 → Q w a2) ∧ (¬ a4 ≤ a5 → pw_jn a5 (pw_ln w 14 0) ∧ ∀ v3, v3 = (w.1 14 0 (pw_i a5)) → wp_X_isTaken w v3 a1 (fun w5 r6 => (r6 = 0 → ih a1 a2 a4 (a5 + 1) w5) ∧ (¬ r6 = 0 → ih a1 (a2 + 1) a4 (a5 + 1) w5)) (fun _ _ => False))) k
set_option maxHeartbeats 4000000 in
set_option maxRecDepth 20000 in
theorem lp_X_countTaken_14_s {Q : pw_W → Int32 → Prop} {X : pw_W → Nat → Prop}  {k : Nat} {a1 a2 a4 a5 : Int32} {w : pw_W} : lp_X_countTaken_14 Q X (k + 1) a1 a2 a4 a5 w = (let ih := lp_X_countTaken_14 Q X k; (a4 ≤ a5 → Q w a2) ∧ (¬ a4 ≤ a5 → pw_jn a5 (pw_ln w 14 0) ∧ ∀ v3, v3 = (w.1 14 0 (pw_i a5)) → wp_X_isTaken w v3 a1 (fun w5 r6 => (r6 = 0 → ih a1 a2 a4 (a5 + 1) w5) ∧ (¬ r6 = 0 → ih a1 (a2 + 1) a4 (a5 + 1) w5)) (fun _ _ => False))) := rfl
set_option maxHeartbeats 4000000 in
set_option maxRecDepth 20000 in
theorem vlp_X_countTaken_14 {l : Launch} {g : pw_G} {Q : pw_W → Int32 → Prop} {X : pw_W → Nat → Prop} (hl0 : l.stackTraces = false) : ∀ (k : Nat) (a1 a2 a4 a5 : Int32) (w : pw_W), lp_X_countTaken_14 Q X k a1 a2 a4 a5 w → pw_V l g cx_X_countTaken Q X 14 [(1, 0), (2, a1), (0, a2), (16, 0), (0, a4), (0, a5), (1, 0)] [] w := by
  intro k; induction k with
  | zero => intro _ _ _ _ _ h; exact h.elim
  | succ k ih =>
    intro a1 a2 a4 a5 w h
    rw [lp_X_countTaken_14_s] at h
    refine pv_iload (n := 16) d_X_countTaken_14 rfl rfl ?_
    refine pv_iload (n := 18) d_X_countTaken_16 rfl rfl ?_
    refine pv_icmp_ge (n := 21) (tgt := 45) d_X_countTaken_18 (by decide) rfl (fun c1 => ?_) (fun c1 => ?_)
    · replace h := h.1 c1
      refine pv_iload_n (n := 46) d_X_countTaken_45 rfl rfl rfl ?_
      exact pv_iret rfl rfl d_X_countTaken_46 h
    · replace h := h.2 c1
      refine pv_aload_n (n := 22) d_X_countTaken_21 rfl rfl rfl ?_
      refine pv_iload (n := 24) d_X_countTaken_22 rfl rfl ?_
      obtain ⟨g2, h⟩ := h
      refine pv_aald (n := 25) (f := 14) (F := 6) (C := "Peatland$Square") (by decide) (Or.inl ⟨rfl, rfl⟩) (fun _ => rfl) d_X_countTaken_24 (by decide) g2 rfl (fun _ => ?_)
      refine pv_nm (fun v3 e4 => ?_)
      replace h := h v3 e4
      refine pv_astore (n := 27) (L' := [(1, 0), (2, a1), (0, a2), (16, 0), (0, a4), (0, a5), (8, v3)]) d_X_countTaken_25 (by decide) rfl rfl ?_
      refine pv_aload (n := 29) d_X_countTaken_27 rfl rfl ?_
      refine pv_aload_n (n := 30) d_X_countTaken_29 rfl rfl rfl ?_
      refine pv_callS (n := 33) [(8, v3), (2, a1)] [] (con_X_isTaken hl0 h) q_229 q_230 q_62 q_228 pyo_X_isTaken (by decide) rfl rfl d_X_countTaken_30 rfl (fun w5 r6 h _ => ?_) (fun _ _ h => h.elim)
      show pw_V l g cx_X_countTaken Q X 33 [(1, 0), (2, a1), (0, a2), (16, 0), (0, a4), (0, a5), (8, v3)] [(0, r6)] w5
      refine pv_if_eq (n := 36) (tgt := 39) d_X_countTaken_33 (by decide) rfl (fun c7 => ?_) (fun c7 => ?_)
      · replace h := h.1 c7
        refine pv_iinc (v := (a5 + 1)) (n := 42) (L1 := [(1, 0), (2, a1), (0, a2), (16, 0), (0, a4), (0, (a5 + 1)), (8, v3)]) d_X_countTaken_39 rfl rfl rfl (by decide) rfl ?_
        refine pv_goto (tgt := 14) d_X_countTaken_42 (by decide) ?_
        refine pv_unset (i := 6) (L1 := [(1, 0), (2, a1), (0, a2), (16, 0), (0, a4), (0, (a5 + 1)), (1, 0)]) rfl ?_
        exact ih _ _ _ _ _ h
      · replace h := h.2 c7
        refine pv_iinc (v := (a2 + 1)) (n := 39) (L1 := [(1, 0), (2, a1), (0, (a2 + 1)), (16, 0), (0, a4), (0, a5), (8, v3)]) d_X_countTaken_36 rfl rfl rfl (by decide) rfl ?_
        refine pv_iinc (v := (a5 + 1)) (n := 42) (L1 := [(1, 0), (2, a1), (0, (a2 + 1)), (16, 0), (0, a4), (0, (a5 + 1)), (8, v3)]) d_X_countTaken_39 rfl rfl rfl (by decide) rfl ?_
        refine pv_goto (tgt := 14) d_X_countTaken_42 (by decide) ?_
        refine pv_unset (i := 6) (L1 := [(1, 0), (2, a1), (0, (a2 + 1)), (16, 0), (0, a4), (0, (a5 + 1)), (1, 0)]) rfl ?_
        exact ih _ _ _ _ _ h
set_option maxHeartbeats 4000000 in
set_option maxRecDepth 20000 in
def wp_X_countTaken (w : pw_W) (a1 : Int32) (Q : pw_W → Int32 → Prop) (X : pw_W → Nat → Prop) : Prop := w.1 7 0 0 = 0 ∧ ∀ v9, v9 = (nI (pw_ln w 14 0)) → ∃ k11, lp_X_countTaken_14 Q X k11 a1 0 v9 0 w
set_option maxHeartbeats 4000000 in
set_option maxRecDepth 20000 in
theorem vw_X_countTaken {l : Launch} {g : pw_G} {Q : pw_W → Int32 → Prop} {X : pw_W → Nat → Prop} (hl0 : l.stackTraces = false) {w : pw_W} {a1 : Int32} (h : wp_X_countTaken w a1 Q X) : pw_V l g cx_X_countTaken Q X 0 [(9, 0), (2, a1), (1, 0), (1, 0), (1, 0), (1, 0), (1, 0)] [] w := by
  unfold wp_X_countTaken at h
  refine pv_iconst (v := 0) (n := 1) d_X_countTaken_0 (by decide) rfl ?_
  refine pv_istore_n (n := 2) (L' := [(9, 0), (2, a1), (0, 0), (1, 0), (1, 0), (1, 0), (1, 0)]) d_X_countTaken_1 rfl (by decide) rfl rfl ?_
  refine pv_aload_n (n := 3) d_X_countTaken_2 rfl rfl rfl ?_
  obtain ⟨g8, h⟩ := h
  refine gt_X_11 (n := 6) rfl d_X_countTaken_3 (by decide) g8 rfl ?_
  refine pv_astore_n (n := 7) (L' := [(9, 0), (2, a1), (0, 0), (16, 0), (1, 0), (1, 0), (1, 0)]) d_X_countTaken_6 rfl (by decide) rfl rfl ?_
  refine pv_aload_n (n := 8) d_X_countTaken_7 rfl rfl rfl ?_
  refine pv_alen (n := 9) (f := 14) (by decide) ⟨_, rfl⟩ d_X_countTaken_8 (by decide) rfl ?_
  refine pv_nm (fun v9 e10 => ?_)
  replace h := h v9 e10
  refine pv_istore (n := 11) (L' := [(9, 0), (2, a1), (0, 0), (16, 0), (0, v9), (1, 0), (1, 0)]) d_X_countTaken_9 (by decide) rfl rfl ?_
  refine pv_iconst (v := 0) (n := 12) d_X_countTaken_11 (by decide) rfl ?_
  refine pv_istore (n := 14) (L' := [(9, 0), (2, a1), (0, 0), (16, 0), (0, v9), (0, 0), (1, 0)]) d_X_countTaken_12 (by decide) rfl rfl ?_
  refine pv_unset (i := 0) (L1 := [(1, 0), (2, a1), (0, 0), (16, 0), (0, v9), (0, 0), (1, 0)]) rfl ?_
  obtain ⟨k11, h⟩ := h
  exact vlp_X_countTaken_14 hl0 _ _ _ _ _ _ h
set_option maxHeartbeats 4000000 in
set_option maxRecDepth 20000 in
theorem con_X_countTaken {l : Launch} {g : pw_G} {Q : pw_W → Int32 → Prop} {X : pw_W → Nat → Prop} (hl0 : l.stackTraces = false) {w : pw_W} {a1 : Int32} (h : wp_X_countTaken w a1 Q X) : pw_Con l g y_X_countTaken cx_X_countTaken [(9, 0), (2, a1)] w Q X :=
  pw_con (by decide +kernel) rfl rfl hl0 rfl (Nat.le_of_ble_eq_true rfl) (by simp) (vw_X_countTaken hl0 h)
theorem d_Square_goBack_0 : decode (pw_cc cx_Square_goBack) 0 = .ok (.aload_n 0, 1) := by decide +kernel
theorem d_Square_goBack_1 : decode (pw_cc cx_Square_goBack) 1 = .ok (.getfield 47, 3) := by decide +kernel
theorem d_Square_goBack_4 : decode (pw_cc cx_Square_goBack) 4 = .ok (.ifnonnull 10, 3) := by decide +kernel
theorem d_Square_goBack_7 : decode (pw_cc cx_Square_goBack) 7 = .ok (.aload_n 0, 1) := by decide +kernel
theorem d_Square_goBack_8 : decode (pw_cc cx_Square_goBack) 8 = .ok (.getfield 31, 3) := by decide +kernel
theorem d_Square_goBack_11 : decode (pw_cc cx_Square_goBack) 11 = .ok (.goto 10, 3) := by decide +kernel
theorem d_Square_goBack_14 : decode (pw_cc cx_Square_goBack) 14 = .ok (.aload_n 0, 1) := by decide +kernel
theorem d_Square_goBack_15 : decode (pw_cc cx_Square_goBack) 15 = .ok (.getfield 47, 3) := by decide +kernel
theorem d_Square_goBack_18 : decode (pw_cc cx_Square_goBack) 18 = .ok (.invokevirtual 50, 3) := by decide +kernel
theorem d_Square_goBack_21 : decode (pw_cc cx_Square_goBack) 21 = .ok (.astore_n 1, 1) := by decide +kernel
theorem d_Square_goBack_22 : decode (pw_cc cx_Square_goBack) 22 = .ok (.aload_n 0, 1) := by decide +kernel
theorem d_Square_goBack_23 : decode (pw_cc cx_Square_goBack) 23 = .ok (.aconst_null, 1) := by decide +kernel
theorem d_Square_goBack_24 : decode (pw_cc cx_Square_goBack) 24 = .ok (.putfield 54, 3) := by decide +kernel
theorem d_Square_goBack_27 : decode (pw_cc cx_Square_goBack) 27 = .ok (.aload_n 0, 1) := by decide +kernel
theorem d_Square_goBack_28 : decode (pw_cc cx_Square_goBack) 28 = .ok (.aconst_null, 1) := by decide +kernel
theorem d_Square_goBack_29 : decode (pw_cc cx_Square_goBack) 29 = .ok (.putfield 47, 3) := by decide +kernel
theorem d_Square_goBack_32 : decode (pw_cc cx_Square_goBack) 32 = .ok (.aload_n 1, 1) := by decide +kernel
theorem d_Square_goBack_33 : decode (pw_cc cx_Square_goBack) 33 = .ok (.aload_n 0, 1) := by decide +kernel
theorem d_Square_goBack_34 : decode (pw_cc cx_Square_goBack) 34 = .ok (.getfield 31, 3) := by decide +kernel
theorem d_Square_goBack_37 : decode (pw_cc cx_Square_goBack) 37 = .ok (.if_acmp .ne 5, 3) := by decide +kernel
theorem d_Square_goBack_40 : decode (pw_cc cx_Square_goBack) 40 = .ok (.iconst 0, 1) := by decide +kernel
theorem d_Square_goBack_41 : decode (pw_cc cx_Square_goBack) 41 = .ok (.ireturn, 1) := by decide +kernel
theorem d_Square_goBack_42 : decode (pw_cc cx_Square_goBack) 42 = .ok (.aload_n 0, 1) := by decide +kernel
theorem d_Square_goBack_43 : decode (pw_cc cx_Square_goBack) 43 = .ok (.aload_n 1, 1) := by decide +kernel
theorem d_Square_goBack_44 : decode (pw_cc cx_Square_goBack) 44 = .ok (.invokevirtual 58, 3) := by decide +kernel
theorem d_Square_goBack_47 : decode (pw_cc cx_Square_goBack) 47 = .ok (.iconst 1, 1) := by decide +kernel
theorem d_Square_goBack_48 : decode (pw_cc cx_Square_goBack) 48 = .ok (.ireturn, 1) := by decide +kernel
set_option maxHeartbeats 4000000 in
set_option maxRecDepth 20000 in
def jp_Square_goBack_21 (Q : pw_W → Int32 → Prop) (X : pw_W → Nat → Prop) (a0 s0 : Int32) (w : pw_W) : Prop := 0 ≤ a0 ∧ ∀ w2, w2 = pw_ps w 6 (pw_i a0) 9 (-1) → ∀ w4, w4 = pw_ps w2 6 (pw_i a0) 10 (-1) → (¬ s0 = (w4.1 6 (pw_i a0) 1) → wp_Square_moveTo w4 a0 s0 (fun w7 r8 => Q w7 1) (fun _ _ => False)) ∧ (s0 = (w4.1 6 (pw_i a0) 1) → Q w4 0)
set_option maxHeartbeats 4000000 in
set_option maxRecDepth 20000 in
theorem vjp_Square_goBack_21 {l : Launch} {g : pw_G} {Q : pw_W → Int32 → Prop} {X : pw_W → Nat → Prop} (hl0 : l.stackTraces = false) (a0 s0 : Int32) (w : pw_W) (h : jp_Square_goBack_21 Q X a0 s0 w) : pw_V l g cx_Square_goBack Q X 21 [(8, a0), (1, 0)] [(5, s0)] w := by
  unfold jp_Square_goBack_21 at h
  refine pv_astore_n (n := 22) (L' := [(8, a0), (5, s0)]) d_Square_goBack_21 rfl (by decide) rfl rfl ?_
  refine pv_aload_n (n := 23) d_Square_goBack_22 rfl rfl rfl ?_
  refine pv_null (n := 24) 0 d_Square_goBack_23 rfl ?_
  obtain ⟨g1, h⟩ := h
  refine pt_Square_54 (n := 27) rfl d_Square_goBack_24 g1 rfl (fun w2 e3 => ?_)
  replace h := h w2 e3
  refine pv_aload_n (n := 28) d_Square_goBack_27 rfl rfl rfl ?_
  refine pv_null (n := 29) 3 d_Square_goBack_28 rfl ?_
  refine pt_Square_47 (n := 32) rfl d_Square_goBack_29 g1 rfl (fun w4 e5 => ?_)
  replace h := h w4 e5
  refine pv_aload_n (n := 33) d_Square_goBack_32 rfl rfl rfl ?_
  refine pv_aload_n (n := 34) d_Square_goBack_33 rfl rfl rfl ?_
  refine gt_Square_31 (n := 37) rfl d_Square_goBack_34 g1 rfl ?_
  refine pv_acmp_ne (n := 40) (tgt := 42) d_Square_goBack_37 (by decide) (by decide) rfl (fun c6 => ?_) (fun c6 => ?_)
  · replace h := h.1 c6
    refine pv_aload_n (n := 43) d_Square_goBack_42 rfl rfl rfl ?_
    refine pv_aload_n (n := 44) d_Square_goBack_43 rfl rfl rfl ?_
    refine pv_callV (n := 47) (x := a0) [(5, s0)] [] (con_Square_moveTo hl0 h) pw_cf6 rfl q_233 q_113 q_114 q_32 q_111 pyo_Square_moveTo (by decide) rfl rfl g1 d_Square_goBack_44 rfl (fun w7 r8 h _ => ?_) (fun _ _ h => h.elim)
    show pw_V l g cx_Square_goBack Q X 47 [(8, a0), (5, s0)] [] w7
    refine pv_iconst (v := 1) (n := 48) d_Square_goBack_47 (by decide) rfl ?_
    exact pv_zret rfl rfl d_Square_goBack_48 (by decide) h
  · replace h := h.2 c6
    refine pv_iconst (v := 0) (n := 41) d_Square_goBack_40 (by decide) rfl ?_
    exact pv_zret rfl rfl d_Square_goBack_41 (by decide) h
set_option maxHeartbeats 4000000 in
set_option maxRecDepth 20000 in
def wp_Square_goBack (w : pw_W) (a0 : Int32) (Q : pw_W → Int32 → Prop) (X : pw_W → Nat → Prop) : Prop := 0 ≤ a0 ∧ (¬ (w.1 6 (pw_i a0) 10) = -1 → 0 ≤ (w.1 6 (pw_i a0) 10) ∧ wp_Parcel_current w (w.1 6 (pw_i a0) 10) (fun w11 r12 => jp_Square_goBack_21 Q X a0 r12 w11) (fun _ _ => False)) ∧ ((w.1 6 (pw_i a0) 10) = -1 → jp_Square_goBack_21 Q X a0 (w.1 6 (pw_i a0) 1) w)
set_option maxHeartbeats 4000000 in
set_option maxRecDepth 20000 in
theorem vw_Square_goBack {l : Launch} {g : pw_G} {Q : pw_W → Int32 → Prop} {X : pw_W → Nat → Prop} (hl0 : l.stackTraces = false) {w : pw_W} {a0 : Int32} (h : wp_Square_goBack w a0 Q X) : pw_V l g cx_Square_goBack Q X 0 [(8, a0), (1, 0)] [] w := by
  unfold wp_Square_goBack at h
  refine pv_aload_n (n := 1) d_Square_goBack_0 rfl rfl rfl ?_
  obtain ⟨g9, h⟩ := h
  refine gt_Square_47 (n := 4) rfl d_Square_goBack_1 g9 rfl ?_
  refine pv_ifnonnull (n := 7) (tgt := 14) d_Square_goBack_4 (by decide) rfl (fun c10 => ?_) (fun c10 => ?_)
  · replace h := h.1 c10
    refine pv_aload_n (n := 15) d_Square_goBack_14 rfl rfl rfl ?_
    refine gt_Square_47 (n := 18) rfl d_Square_goBack_15 g9 rfl ?_
    obtain ⟨g13, h⟩ := h
    refine pv_callV (n := 21) (x := (w.1 6 (pw_i a0) 10)) [] [] (con_Parcel_current hl0 h) pw_cf3 rfl q_234 q_106 q_107 q_46 q_104 pyo_Parcel_current (by decide) rfl rfl g13 d_Square_goBack_18 rfl (fun w11 r12 h _ => ?_) (fun _ _ h => h.elim)
    show pw_V l g cx_Square_goBack Q X 21 [(8, a0), (1, 0)] [(5, r12)] w11
    exact vjp_Square_goBack_21 hl0 _ _ _ h
  · replace h := h.2 c10
    refine pv_aload_n (n := 8) d_Square_goBack_7 rfl rfl rfl ?_
    refine gt_Square_31 (n := 11) rfl d_Square_goBack_8 g9 rfl ?_
    refine pv_goto (tgt := 21) d_Square_goBack_11 (by decide) ?_
    exact vjp_Square_goBack_21 hl0 _ _ _ h
set_option maxHeartbeats 4000000 in
set_option maxRecDepth 20000 in
theorem con_Square_goBack {l : Launch} {g : pw_G} {Q : pw_W → Int32 → Prop} {X : pw_W → Nat → Prop} (hl0 : l.stackTraces = false) {w : pw_W} {a0 : Int32} (h : wp_Square_goBack w a0 Q X) : pw_Con l g y_Square_goBack cx_Square_goBack [(8, a0)] w Q X :=
  pw_con (by decide +kernel) rfl rfl hl0 rfl (Nat.le_of_ble_eq_true rfl) (by simp) (vw_Square_goBack hl0 h)
theorem d_X_refuseCase_0 : decode (pw_cc cx_X_refuseCase) 0 = .ok (.aload_n 1, 1) := by decide +kernel
theorem d_X_refuseCase_1 : decode (pw_cc cx_X_refuseCase) 1 = .ok (.iconst 2, 1) := by decide +kernel
theorem d_X_refuseCase_2 : decode (pw_cc cx_X_refuseCase) 2 = .ok (.putfield 174, 3) := by decide +kernel
theorem d_X_refuseCase_5 : decode (pw_cc cx_X_refuseCase) 5 = .ok (.iconst 0, 1) := by decide +kernel
theorem d_X_refuseCase_6 : decode (pw_cc cx_X_refuseCase) 6 = .ok (.istore_n 2, 1) := by decide +kernel
theorem d_X_refuseCase_7 : decode (pw_cc cx_X_refuseCase) 7 = .ok (.aload_n 0, 1) := by decide +kernel
theorem d_X_refuseCase_8 : decode (pw_cc cx_X_refuseCase) 8 = .ok (.getfield 11, 3) := by decide +kernel
theorem d_X_refuseCase_11 : decode (pw_cc cx_X_refuseCase) 11 = .ok (.astore_n 3, 1) := by decide +kernel
theorem d_X_refuseCase_12 : decode (pw_cc cx_X_refuseCase) 12 = .ok (.aload_n 3, 1) := by decide +kernel
theorem d_X_refuseCase_13 : decode (pw_cc cx_X_refuseCase) 13 = .ok (.arraylength, 1) := by decide +kernel
theorem d_X_refuseCase_14 : decode (pw_cc cx_X_refuseCase) 14 = .ok (.istore 4, 2) := by decide +kernel
theorem d_X_refuseCase_16 : decode (pw_cc cx_X_refuseCase) 16 = .ok (.iconst 0, 1) := by decide +kernel
theorem d_X_refuseCase_17 : decode (pw_cc cx_X_refuseCase) 17 = .ok (.istore 5, 2) := by decide +kernel
theorem d_X_refuseCase_19 : decode (pw_cc cx_X_refuseCase) 19 = .ok (.iload 5, 2) := by decide +kernel
theorem d_X_refuseCase_21 : decode (pw_cc cx_X_refuseCase) 21 = .ok (.iload 4, 2) := by decide +kernel
theorem d_X_refuseCase_23 : decode (pw_cc cx_X_refuseCase) 23 = .ok (.if_icmp .ge 35, 3) := by decide +kernel
theorem d_X_refuseCase_26 : decode (pw_cc cx_X_refuseCase) 26 = .ok (.aload_n 3, 1) := by decide +kernel
theorem d_X_refuseCase_27 : decode (pw_cc cx_X_refuseCase) 27 = .ok (.iload 5, 2) := by decide +kernel
theorem d_X_refuseCase_29 : decode (pw_cc cx_X_refuseCase) 29 = .ok (.aaload, 1) := by decide +kernel
theorem d_X_refuseCase_30 : decode (pw_cc cx_X_refuseCase) 30 = .ok (.astore 6, 2) := by decide +kernel
theorem d_X_refuseCase_32 : decode (pw_cc cx_X_refuseCase) 32 = .ok (.aload 6, 2) := by decide +kernel
theorem d_X_refuseCase_34 : decode (pw_cc cx_X_refuseCase) 34 = .ok (.getfield 403, 3) := by decide +kernel
theorem d_X_refuseCase_37 : decode (pw_cc cx_X_refuseCase) 37 = .ok (.aload_n 1, 1) := by decide +kernel
theorem d_X_refuseCase_38 : decode (pw_cc cx_X_refuseCase) 38 = .ok (.if_acmp .ne 14, 3) := by decide +kernel
theorem d_X_refuseCase_41 : decode (pw_cc cx_X_refuseCase) 41 = .ok (.aload 6, 2) := by decide +kernel
theorem d_X_refuseCase_43 : decode (pw_cc cx_X_refuseCase) 43 = .ok (.invokevirtual 414, 3) := by decide +kernel
theorem d_X_refuseCase_46 : decode (pw_cc cx_X_refuseCase) 46 = .ok (.ifCond .eq 6, 3) := by decide +kernel
theorem d_X_refuseCase_49 : decode (pw_cc cx_X_refuseCase) 49 = .ok (.iinc 2 1, 3) := by decide +kernel
theorem d_X_refuseCase_52 : decode (pw_cc cx_X_refuseCase) 52 = .ok (.iinc 5 1, 3) := by decide +kernel
theorem d_X_refuseCase_55 : decode (pw_cc cx_X_refuseCase) 55 = .ok (.goto (-36), 3) := by decide +kernel
theorem d_X_refuseCase_58 : decode (pw_cc cx_X_refuseCase) 58 = .ok (.iload_n 2, 1) := by decide +kernel
theorem d_X_refuseCase_59 : decode (pw_cc cx_X_refuseCase) 59 = .ok (.ireturn, 1) := by decide +kernel
set_option maxHeartbeats 4000000 in
set_option maxRecDepth 20000 in
def lp_X_refuseCase_19 (Q : pw_W → Int32 → Prop) (X : pw_W → Nat → Prop) : Nat → Int32 → Int32 → Int32 → Int32 → pw_W → Prop := fun k => Nat.rec (motive := fun _ => Int32 → Int32 → Int32 → Int32 → pw_W → Prop) (fun _ _ _ _ _ => False) (fun _ ih a1 a2 a4 a5 w => (a4 ≤ a5 → Q w a2) ∧ (¬ a4 ≤ a5 → pw_jn a5 (pw_ln w 14 0) ∧ ∀ v3, v3 = (w.1 14 0 (pw_i a5)) → 0 ≤ v3 ∧ (¬ (w.1 6 (pw_i v3) 9) = a1 → ih a1 a2 a4 (a5 + 1) w) ∧ ((w.1 6 (pw_i v3) 9) = a1 → wp_Square_goBack w v3 (fun w7 r8 => (r8 = 0 → ih a1 a2 a4 (a5 + 1) w7) ∧ (¬ r8 = 0 → ih a1 (a2 + 1) a4 (a5 + 1) w7)) (fun _ _ => False)))) k
set_option maxHeartbeats 4000000 in
set_option maxRecDepth 20000 in
theorem lp_X_refuseCase_19_s {Q : pw_W → Int32 → Prop} {X : pw_W → Nat → Prop}  {k : Nat} {a1 a2 a4 a5 : Int32} {w : pw_W} : lp_X_refuseCase_19 Q X (k + 1) a1 a2 a4 a5 w = (let ih := lp_X_refuseCase_19 Q X k; (a4 ≤ a5 → Q w a2) ∧ (¬ a4 ≤ a5 → pw_jn a5 (pw_ln w 14 0) ∧ ∀ v3, v3 = (w.1 14 0 (pw_i a5)) → 0 ≤ v3 ∧ (¬ (w.1 6 (pw_i v3) 9) = a1 → ih a1 a2 a4 (a5 + 1) w) ∧ ((w.1 6 (pw_i v3) 9) = a1 → wp_Square_goBack w v3 (fun w7 r8 => (r8 = 0 → ih a1 a2 a4 (a5 + 1) w7) ∧ (¬ r8 = 0 → ih a1 (a2 + 1) a4 (a5 + 1) w7)) (fun _ _ => False)))) := rfl
set_option maxHeartbeats 4000000 in
set_option maxRecDepth 20000 in
theorem vlp_X_refuseCase_19 {l : Launch} {g : pw_G} {Q : pw_W → Int32 → Prop} {X : pw_W → Nat → Prop} (hl0 : l.stackTraces = false) : ∀ (k : Nat) (a1 a2 a4 a5 : Int32) (w : pw_W), lp_X_refuseCase_19 Q X k a1 a2 a4 a5 w → pw_V l g cx_X_refuseCase Q X 19 [(1, 0), (2, a1), (0, a2), (16, 0), (0, a4), (0, a5), (1, 0)] [] w := by
  intro k; induction k with
  | zero => intro _ _ _ _ _ h; exact h.elim
  | succ k ih =>
    intro a1 a2 a4 a5 w h
    rw [lp_X_refuseCase_19_s] at h
    refine pv_iload (n := 21) d_X_refuseCase_19 rfl rfl ?_
    refine pv_iload (n := 23) d_X_refuseCase_21 rfl rfl ?_
    refine pv_icmp_ge (n := 26) (tgt := 58) d_X_refuseCase_23 (by decide) rfl (fun c1 => ?_) (fun c1 => ?_)
    · replace h := h.1 c1
      refine pv_iload_n (n := 59) d_X_refuseCase_58 rfl rfl rfl ?_
      exact pv_iret rfl rfl d_X_refuseCase_59 h
    · replace h := h.2 c1
      refine pv_aload_n (n := 27) d_X_refuseCase_26 rfl rfl rfl ?_
      refine pv_iload (n := 29) d_X_refuseCase_27 rfl rfl ?_
      obtain ⟨g2, h⟩ := h
      refine pv_aald (n := 30) (f := 14) (F := 6) (C := "Peatland$Square") (by decide) (Or.inl ⟨rfl, rfl⟩) (fun _ => rfl) d_X_refuseCase_29 (by decide) g2 rfl (fun _ => ?_)
      refine pv_nm (fun v3 e4 => ?_)
      replace h := h v3 e4
      refine pv_astore (n := 32) (L' := [(1, 0), (2, a1), (0, a2), (16, 0), (0, a4), (0, a5), (8, v3)]) d_X_refuseCase_30 (by decide) rfl rfl ?_
      refine pv_aload (n := 34) d_X_refuseCase_32 rfl rfl ?_
      obtain ⟨g5, h⟩ := h
      refine gt_X_403 (n := 37) rfl d_X_refuseCase_34 g5 rfl ?_
      refine pv_aload_n (n := 38) d_X_refuseCase_37 rfl rfl rfl ?_
      refine pv_acmp_ne (n := 41) (tgt := 52) d_X_refuseCase_38 (by decide) (by decide) rfl (fun c6 => ?_) (fun c6 => ?_)
      · replace h := h.1 c6
        refine pv_iinc (v := (a5 + 1)) (n := 55) (L1 := [(1, 0), (2, a1), (0, a2), (16, 0), (0, a4), (0, (a5 + 1)), (8, v3)]) d_X_refuseCase_52 rfl rfl rfl (by decide) rfl ?_
        refine pv_goto (tgt := 19) d_X_refuseCase_55 (by decide) ?_
        refine pv_unset (i := 6) (L1 := [(1, 0), (2, a1), (0, a2), (16, 0), (0, a4), (0, (a5 + 1)), (1, 0)]) rfl ?_
        exact ih _ _ _ _ _ h
      · replace h := h.2 c6
        refine pv_aload (n := 43) d_X_refuseCase_41 rfl rfl ?_
        refine pv_callV (n := 46) (x := v3) [] [] (con_Square_goBack hl0 h) pw_cf6 rfl q_236 q_237 q_238 q_32 q_235 pyo_Square_goBack (by decide) rfl rfl g5 d_X_refuseCase_43 rfl (fun w7 r8 h _ => ?_) (fun _ _ h => h.elim)
        show pw_V l g cx_X_refuseCase Q X 46 [(1, 0), (2, a1), (0, a2), (16, 0), (0, a4), (0, a5), (8, v3)] [(0, r8)] w7
        refine pv_if_eq (n := 49) (tgt := 52) d_X_refuseCase_46 (by decide) rfl (fun c9 => ?_) (fun c9 => ?_)
        · replace h := h.1 c9
          refine pv_iinc (v := (a5 + 1)) (n := 55) (L1 := [(1, 0), (2, a1), (0, a2), (16, 0), (0, a4), (0, (a5 + 1)), (8, v3)]) d_X_refuseCase_52 rfl rfl rfl (by decide) rfl ?_
          refine pv_goto (tgt := 19) d_X_refuseCase_55 (by decide) ?_
          refine pv_unset (i := 6) (L1 := [(1, 0), (2, a1), (0, a2), (16, 0), (0, a4), (0, (a5 + 1)), (1, 0)]) rfl ?_
          exact ih _ _ _ _ _ h
        · replace h := h.2 c9
          refine pv_iinc (v := (a2 + 1)) (n := 52) (L1 := [(1, 0), (2, a1), (0, (a2 + 1)), (16, 0), (0, a4), (0, a5), (8, v3)]) d_X_refuseCase_49 rfl rfl rfl (by decide) rfl ?_
          refine pv_iinc (v := (a5 + 1)) (n := 55) (L1 := [(1, 0), (2, a1), (0, (a2 + 1)), (16, 0), (0, a4), (0, (a5 + 1)), (8, v3)]) d_X_refuseCase_52 rfl rfl rfl (by decide) rfl ?_
          refine pv_goto (tgt := 19) d_X_refuseCase_55 (by decide) ?_
          refine pv_unset (i := 6) (L1 := [(1, 0), (2, a1), (0, (a2 + 1)), (16, 0), (0, a4), (0, (a5 + 1)), (1, 0)]) rfl ?_
          exact ih _ _ _ _ _ h
set_option maxHeartbeats 4000000 in
set_option maxRecDepth 20000 in
def wp_X_refuseCase (w : pw_W) (a1 : Int32) (Q : pw_W → Int32 → Prop) (X : pw_W → Nat → Prop) : Prop := 0 ≤ a1 ∧ ∀ w11, w11 = pw_ps w 0 (pw_i a1) 3 2 → w11.1 7 0 0 = 0 ∧ ∀ v14, v14 = (nI (pw_ln w11 14 0)) → ∃ k16, lp_X_refuseCase_19 Q X k16 a1 0 v14 0 w11
set_option maxHeartbeats 4000000 in
set_option maxRecDepth 20000 in
theorem vw_X_refuseCase {l : Launch} {g : pw_G} {Q : pw_W → Int32 → Prop} {X : pw_W → Nat → Prop} (hl0 : l.stackTraces = false) {w : pw_W} {a1 : Int32} (h : wp_X_refuseCase w a1 Q X) : pw_V l g cx_X_refuseCase Q X 0 [(9, 0), (2, a1), (1, 0), (1, 0), (1, 0), (1, 0), (1, 0)] [] w := by
  unfold wp_X_refuseCase at h
  refine pv_aload_n (n := 1) d_X_refuseCase_0 rfl rfl rfl ?_
  refine pv_iconst (v := 2) (n := 2) d_X_refuseCase_1 (by decide) rfl ?_
  obtain ⟨g10, h⟩ := h
  refine pt_X_174 (n := 5) rfl d_X_refuseCase_2 g10 rfl (fun w11 e12 => ?_)
  replace h := h w11 e12
  refine pv_iconst (v := 0) (n := 6) d_X_refuseCase_5 (by decide) rfl ?_
  refine pv_istore_n (n := 7) (L' := [(9, 0), (2, a1), (0, 0), (1, 0), (1, 0), (1, 0), (1, 0)]) d_X_refuseCase_6 rfl (by decide) rfl rfl ?_
  refine pv_aload_n (n := 8) d_X_refuseCase_7 rfl rfl rfl ?_
  obtain ⟨g13, h⟩ := h
  refine gt_X_11 (n := 11) rfl d_X_refuseCase_8 (by decide) g13 rfl ?_
  refine pv_astore_n (n := 12) (L' := [(9, 0), (2, a1), (0, 0), (16, 0), (1, 0), (1, 0), (1, 0)]) d_X_refuseCase_11 rfl (by decide) rfl rfl ?_
  refine pv_aload_n (n := 13) d_X_refuseCase_12 rfl rfl rfl ?_
  refine pv_alen (n := 14) (f := 14) (by decide) ⟨_, rfl⟩ d_X_refuseCase_13 (by decide) rfl ?_
  refine pv_nm (fun v14 e15 => ?_)
  replace h := h v14 e15
  refine pv_istore (n := 16) (L' := [(9, 0), (2, a1), (0, 0), (16, 0), (0, v14), (1, 0), (1, 0)]) d_X_refuseCase_14 (by decide) rfl rfl ?_
  refine pv_iconst (v := 0) (n := 17) d_X_refuseCase_16 (by decide) rfl ?_
  refine pv_istore (n := 19) (L' := [(9, 0), (2, a1), (0, 0), (16, 0), (0, v14), (0, 0), (1, 0)]) d_X_refuseCase_17 (by decide) rfl rfl ?_
  refine pv_unset (i := 0) (L1 := [(1, 0), (2, a1), (0, 0), (16, 0), (0, v14), (0, 0), (1, 0)]) rfl ?_
  obtain ⟨k16, h⟩ := h
  exact vlp_X_refuseCase_19 hl0 _ _ _ _ _ _ h
set_option maxHeartbeats 4000000 in
set_option maxRecDepth 20000 in
theorem con_X_refuseCase {l : Launch} {g : pw_G} {Q : pw_W → Int32 → Prop} {X : pw_W → Nat → Prop} (hl0 : l.stackTraces = false) {w : pw_W} {a1 : Int32} (h : wp_X_refuseCase w a1 Q X) : pw_Con l g y_X_refuseCase cx_X_refuseCase [(9, 0), (2, a1)] w Q X :=
  pw_con (by decide +kernel) rfl rfl hl0 rfl (Nat.le_of_ble_eq_true rfl) (by simp) (vw_X_refuseCase hl0 h)
theorem d_X_takeSquares_0 : decode (pw_cc cx_X_takeSquares) 0 = .ok (.aload_n 0, 1) := by decide +kernel
theorem d_X_takeSquares_1 : decode (pw_cc cx_X_takeSquares) 1 = .ok (.aload_n 1, 1) := by decide +kernel
theorem d_X_takeSquares_2 : decode (pw_cc cx_X_takeSquares) 2 = .ok (.getfield 200, 3) := by decide +kernel
theorem d_X_takeSquares_5 : decode (pw_cc cx_X_takeSquares) 5 = .ok (.invokevirtual 96, 3) := by decide +kernel
theorem d_X_takeSquares_8 : decode (pw_cc cx_X_takeSquares) 8 = .ok (.astore_n 2, 1) := by decide +kernel
theorem d_X_takeSquares_9 : decode (pw_cc cx_X_takeSquares) 9 = .ok (.aload_n 0, 1) := by decide +kernel
theorem d_X_takeSquares_10 : decode (pw_cc cx_X_takeSquares) 10 = .ok (.getfield 11, 3) := by decide +kernel
theorem d_X_takeSquares_13 : decode (pw_cc cx_X_takeSquares) 13 = .ok (.astore_n 3, 1) := by decide +kernel
theorem d_X_takeSquares_14 : decode (pw_cc cx_X_takeSquares) 14 = .ok (.aload_n 3, 1) := by decide +kernel
theorem d_X_takeSquares_15 : decode (pw_cc cx_X_takeSquares) 15 = .ok (.arraylength, 1) := by decide +kernel
theorem d_X_takeSquares_16 : decode (pw_cc cx_X_takeSquares) 16 = .ok (.istore 4, 2) := by decide +kernel
theorem d_X_takeSquares_18 : decode (pw_cc cx_X_takeSquares) 18 = .ok (.iconst 0, 1) := by decide +kernel
theorem d_X_takeSquares_19 : decode (pw_cc cx_X_takeSquares) 19 = .ok (.istore 5, 2) := by decide +kernel
theorem d_X_takeSquares_21 : decode (pw_cc cx_X_takeSquares) 21 = .ok (.iload 5, 2) := by decide +kernel
theorem d_X_takeSquares_23 : decode (pw_cc cx_X_takeSquares) 23 = .ok (.iload 4, 2) := by decide +kernel
theorem d_X_takeSquares_25 : decode (pw_cc cx_X_takeSquares) 25 = .ok (.if_icmp .ge 46, 3) := by decide +kernel
theorem d_X_takeSquares_28 : decode (pw_cc cx_X_takeSquares) 28 = .ok (.aload_n 3, 1) := by decide +kernel
theorem d_X_takeSquares_29 : decode (pw_cc cx_X_takeSquares) 29 = .ok (.iload 5, 2) := by decide +kernel
theorem d_X_takeSquares_31 : decode (pw_cc cx_X_takeSquares) 31 = .ok (.aaload, 1) := by decide +kernel
theorem d_X_takeSquares_32 : decode (pw_cc cx_X_takeSquares) 32 = .ok (.astore 6, 2) := by decide +kernel
theorem d_X_takeSquares_34 : decode (pw_cc cx_X_takeSquares) 34 = .ok (.aload 6, 2) := by decide +kernel
theorem d_X_takeSquares_36 : decode (pw_cc cx_X_takeSquares) 36 = .ok (.aload_n 1, 1) := by decide +kernel
theorem d_X_takeSquares_37 : decode (pw_cc cx_X_takeSquares) 37 = .ok (.invokestatic 407, 3) := by decide +kernel
theorem d_X_takeSquares_40 : decode (pw_cc cx_X_takeSquares) 40 = .ok (.ifCond .eq 25, 3) := by decide +kernel
theorem d_X_takeSquares_43 : decode (pw_cc cx_X_takeSquares) 43 = .ok (.aload 6, 2) := by decide +kernel
theorem d_X_takeSquares_45 : decode (pw_cc cx_X_takeSquares) 45 = .ok (.aload_n 1, 1) := by decide +kernel
theorem d_X_takeSquares_46 : decode (pw_cc cx_X_takeSquares) 46 = .ok (.putfield 403, 3) := by decide +kernel
theorem d_X_takeSquares_49 : decode (pw_cc cx_X_takeSquares) 49 = .ok (.aload 6, 2) := by decide +kernel
theorem d_X_takeSquares_51 : decode (pw_cc cx_X_takeSquares) 51 = .ok (.aload 6, 2) := by decide +kernel
theorem d_X_takeSquares_53 : decode (pw_cc cx_X_takeSquares) 53 = .ok (.getfield 104, 3) := by decide +kernel
theorem d_X_takeSquares_56 : decode (pw_cc cx_X_takeSquares) 56 = .ok (.putfield 411, 3) := by decide +kernel
theorem d_X_takeSquares_59 : decode (pw_cc cx_X_takeSquares) 59 = .ok (.aload 6, 2) := by decide +kernel
theorem d_X_takeSquares_61 : decode (pw_cc cx_X_takeSquares) 61 = .ok (.aload_n 2, 1) := by decide +kernel
theorem d_X_takeSquares_62 : decode (pw_cc cx_X_takeSquares) 62 = .ok (.invokevirtual 115, 3) := by decide +kernel
theorem d_X_takeSquares_65 : decode (pw_cc cx_X_takeSquares) 65 = .ok (.iinc 5 1, 3) := by decide +kernel
theorem d_X_takeSquares_68 : decode (pw_cc cx_X_takeSquares) 68 = .ok (.goto (-47), 3) := by decide +kernel
theorem d_X_takeSquares_71 : decode (pw_cc cx_X_takeSquares) 71 = .ok (.return_, 1) := by decide +kernel
set_option maxHeartbeats 4000000 in
set_option maxRecDepth 20000 in
def lp_X_takeSquares_21 (Q : pw_W → Int32 → Prop) (X : pw_W → Nat → Prop) : Nat → Int32 → Int32 → Int32 → Int32 → pw_W → Prop := fun k => Nat.rec (motive := fun _ => Int32 → Int32 → Int32 → Int32 → pw_W → Prop) (fun _ _ _ _ _ => False) (fun _ ih a1 a2 a4 a5 w => (a4 ≤ a5 → Q w 0) ∧ (¬ a4 ≤ a5 → pw_jn a5 (pw_ln w 14 0) ∧ ∀ v3, v3 = (w.1 14 0 (pw_i a5)) → wp_X_isTaken w v3 a1 (fun w5 r6 => (r6 = 0 → ih a1 a2 a4 (a5 + 1) w5) ∧ (¬ r6 = 0 → 0 ≤ v3 ∧ ∀ w9, w9 = pw_ps w5 6 (pw_i v3) 9 a1 → ∀ w11, w11 = pw_ps w9 6 (pw_i v3) 10 (w9.1 6 (pw_i v3) 1) → wp_Square_moveTo w11 v3 a2 (fun w13 r14 => ih a1 a2 a4 (a5 + 1) w13) (fun _ _ => False))) (fun _ _ => False))) k
set_option maxHeartbeats 4000000 in
set_option maxRecDepth 20000 in
theorem lp_X_takeSquares_21_s {Q : pw_W → Int32 → Prop} {X : pw_W → Nat → Prop}  {k : Nat} {a1 a2 a4 a5 : Int32} {w : pw_W} : lp_X_takeSquares_21 Q X (k + 1) a1 a2 a4 a5 w = (let ih := lp_X_takeSquares_21 Q X k; (a4 ≤ a5 → Q w 0) ∧ (¬ a4 ≤ a5 → pw_jn a5 (pw_ln w 14 0) ∧ ∀ v3, v3 = (w.1 14 0 (pw_i a5)) → wp_X_isTaken w v3 a1 (fun w5 r6 => (r6 = 0 → ih a1 a2 a4 (a5 + 1) w5) ∧ (¬ r6 = 0 → 0 ≤ v3 ∧ ∀ w9, w9 = pw_ps w5 6 (pw_i v3) 9 a1 → ∀ w11, w11 = pw_ps w9 6 (pw_i v3) 10 (w9.1 6 (pw_i v3) 1) → wp_Square_moveTo w11 v3 a2 (fun w13 r14 => ih a1 a2 a4 (a5 + 1) w13) (fun _ _ => False))) (fun _ _ => False))) := rfl
set_option maxHeartbeats 4000000 in
set_option maxRecDepth 20000 in
theorem vlp_X_takeSquares_21 {l : Launch} {g : pw_G} {Q : pw_W → Int32 → Prop} {X : pw_W → Nat → Prop} (hl0 : l.stackTraces = false) : ∀ (k : Nat) (a1 a2 a4 a5 : Int32) (w : pw_W), lp_X_takeSquares_21 Q X k a1 a2 a4 a5 w → pw_V l g cx_X_takeSquares Q X 21 [(1, 0), (2, a1), (5, a2), (16, 0), (0, a4), (0, a5), (1, 0)] [] w := by
  intro k; induction k with
  | zero => intro _ _ _ _ _ h; exact h.elim
  | succ k ih =>
    intro a1 a2 a4 a5 w h
    rw [lp_X_takeSquares_21_s] at h
    refine pv_iload (n := 23) d_X_takeSquares_21 rfl rfl ?_
    refine pv_iload (n := 25) d_X_takeSquares_23 rfl rfl ?_
    refine pv_icmp_ge (n := 28) (tgt := 71) d_X_takeSquares_25 (by decide) rfl (fun c1 => ?_) (fun c1 => ?_)
    · replace h := h.1 c1
      exact pv_vret rfl rfl d_X_takeSquares_71 h
    · replace h := h.2 c1
      refine pv_aload_n (n := 29) d_X_takeSquares_28 rfl rfl rfl ?_
      refine pv_iload (n := 31) d_X_takeSquares_29 rfl rfl ?_
      obtain ⟨g2, h⟩ := h
      refine pv_aald (n := 32) (f := 14) (F := 6) (C := "Peatland$Square") (by decide) (Or.inl ⟨rfl, rfl⟩) (fun _ => rfl) d_X_takeSquares_31 (by decide) g2 rfl (fun _ => ?_)
      refine pv_nm (fun v3 e4 => ?_)
      replace h := h v3 e4
      refine pv_astore (n := 34) (L' := [(1, 0), (2, a1), (5, a2), (16, 0), (0, a4), (0, a5), (8, v3)]) d_X_takeSquares_32 (by decide) rfl rfl ?_
      refine pv_aload (n := 36) d_X_takeSquares_34 rfl rfl ?_
      refine pv_aload_n (n := 37) d_X_takeSquares_36 rfl rfl rfl ?_
      refine pv_callS (n := 40) [(8, v3), (2, a1)] [] (con_X_isTaken hl0 h) q_229 q_230 q_62 q_228 pyo_X_isTaken (by decide) rfl rfl d_X_takeSquares_37 rfl (fun w5 r6 h _ => ?_) (fun _ _ h => h.elim)
      show pw_V l g cx_X_takeSquares Q X 40 [(1, 0), (2, a1), (5, a2), (16, 0), (0, a4), (0, a5), (8, v3)] [(0, r6)] w5
      refine pv_if_eq (n := 43) (tgt := 65) d_X_takeSquares_40 (by decide) rfl (fun c7 => ?_) (fun c7 => ?_)
      · replace h := h.1 c7
        refine pv_iinc (v := (a5 + 1)) (n := 68) (L1 := [(1, 0), (2, a1), (5, a2), (16, 0), (0, a4), (0, (a5 + 1)), (8, v3)]) d_X_takeSquares_65 rfl rfl rfl (by decide) rfl ?_
        refine pv_goto (tgt := 21) d_X_takeSquares_68 (by decide) ?_
        refine pv_unset (i := 6) (L1 := [(1, 0), (2, a1), (5, a2), (16, 0), (0, a4), (0, (a5 + 1)), (1, 0)]) rfl ?_
        exact ih _ _ _ _ _ h
      · replace h := h.2 c7
        refine pv_aload (n := 45) d_X_takeSquares_43 rfl rfl ?_
        refine pv_aload_n (n := 46) d_X_takeSquares_45 rfl rfl rfl ?_
        obtain ⟨g8, h⟩ := h
        refine pt_X_403 (n := 49) rfl d_X_takeSquares_46 g8 rfl (fun w9 e10 => ?_)
        replace h := h w9 e10
        refine pv_aload (n := 51) d_X_takeSquares_49 rfl rfl ?_
        refine pv_aload (n := 53) d_X_takeSquares_51 rfl rfl ?_
        refine gt_X_104 (n := 56) rfl d_X_takeSquares_53 g8 rfl ?_
        refine pt_X_411 (n := 59) rfl d_X_takeSquares_56 g8 rfl (fun w11 e12 => ?_)
        replace h := h w11 e12
        refine pv_aload (n := 61) d_X_takeSquares_59 rfl rfl ?_
        refine pv_aload_n (n := 62) d_X_takeSquares_61 rfl rfl rfl ?_
        refine pv_callV (n := 65) (x := v3) [(5, a2)] [] (con_Square_moveTo hl0 h) pw_cf6 rfl q_112 q_113 q_114 q_32 q_111 pyo_Square_moveTo (by decide) rfl rfl g8 d_X_takeSquares_62 rfl (fun w13 r14 h _ => ?_) (fun _ _ h => h.elim)
        show pw_V l g cx_X_takeSquares Q X 65 [(1, 0), (2, a1), (5, a2), (16, 0), (0, a4), (0, a5), (8, v3)] [] w13
        refine pv_iinc (v := (a5 + 1)) (n := 68) (L1 := [(1, 0), (2, a1), (5, a2), (16, 0), (0, a4), (0, (a5 + 1)), (8, v3)]) d_X_takeSquares_65 rfl rfl rfl (by decide) rfl ?_
        refine pv_goto (tgt := 21) d_X_takeSquares_68 (by decide) ?_
        refine pv_unset (i := 6) (L1 := [(1, 0), (2, a1), (5, a2), (16, 0), (0, a4), (0, (a5 + 1)), (1, 0)]) rfl ?_
        exact ih _ _ _ _ _ h
set_option maxHeartbeats 4000000 in
set_option maxRecDepth 20000 in
def wp_X_takeSquares (w : pw_W) (a1 : Int32) (Q : pw_W → Int32 → Prop) (X : pw_W → Nat → Prop) : Prop := 0 ≤ a1 ∧ wp_X_addParcel w (w.1 0 (pw_i a1) 0) (fun w16 r17 => w16.1 7 0 0 = 0 ∧ ∀ v19, v19 = (nI (pw_ln w16 14 0)) → ∃ k21, lp_X_takeSquares_21 Q X k21 a1 r17 v19 0 w16) (fun _ _ => False)
set_option maxHeartbeats 4000000 in
set_option maxRecDepth 20000 in
theorem vw_X_takeSquares {l : Launch} {g : pw_G} {Q : pw_W → Int32 → Prop} {X : pw_W → Nat → Prop} (hl0 : l.stackTraces = false) {w : pw_W} {a1 : Int32} (h : wp_X_takeSquares w a1 Q X) : pw_V l g cx_X_takeSquares Q X 0 [(9, 0), (2, a1), (1, 0), (1, 0), (1, 0), (1, 0), (1, 0)] [] w := by
  unfold wp_X_takeSquares at h
  refine pv_aload_n (n := 1) d_X_takeSquares_0 rfl rfl rfl ?_
  refine pv_aload_n (n := 2) d_X_takeSquares_1 rfl rfl rfl ?_
  obtain ⟨g15, h⟩ := h
  refine gt_X_200 (n := 5) rfl d_X_takeSquares_2 g15 rfl ?_
  refine pv_callV (n := 8) (x := 0) [(6, (w.1 0 (pw_i a1) 0))] [] (con_X_addParcel hl0 h) pw_cf7 rfl q_120 q_121 q_122 q_62 q_119 pyo_X_addParcel (by decide) rfl rfl (by decide) d_X_takeSquares_5 rfl (fun w16 r17 h _ => ?_) (fun _ _ h => h.elim)
  show pw_V l g cx_X_takeSquares Q X 8 [(9, 0), (2, a1), (1, 0), (1, 0), (1, 0), (1, 0), (1, 0)] [(5, r17)] w16
  refine pv_astore_n (n := 9) (L' := [(9, 0), (2, a1), (5, r17), (1, 0), (1, 0), (1, 0), (1, 0)]) d_X_takeSquares_8 rfl (by decide) rfl rfl ?_
  refine pv_aload_n (n := 10) d_X_takeSquares_9 rfl rfl rfl ?_
  obtain ⟨g18, h⟩ := h
  refine gt_X_11 (n := 13) rfl d_X_takeSquares_10 (by decide) g18 rfl ?_
  refine pv_astore_n (n := 14) (L' := [(9, 0), (2, a1), (5, r17), (16, 0), (1, 0), (1, 0), (1, 0)]) d_X_takeSquares_13 rfl (by decide) rfl rfl ?_
  refine pv_aload_n (n := 15) d_X_takeSquares_14 rfl rfl rfl ?_
  refine pv_alen (n := 16) (f := 14) (by decide) ⟨_, rfl⟩ d_X_takeSquares_15 (by decide) rfl ?_
  refine pv_nm (fun v19 e20 => ?_)
  replace h := h v19 e20
  refine pv_istore (n := 18) (L' := [(9, 0), (2, a1), (5, r17), (16, 0), (0, v19), (1, 0), (1, 0)]) d_X_takeSquares_16 (by decide) rfl rfl ?_
  refine pv_iconst (v := 0) (n := 19) d_X_takeSquares_18 (by decide) rfl ?_
  refine pv_istore (n := 21) (L' := [(9, 0), (2, a1), (5, r17), (16, 0), (0, v19), (0, 0), (1, 0)]) d_X_takeSquares_19 (by decide) rfl rfl ?_
  refine pv_unset (i := 0) (L1 := [(1, 0), (2, a1), (5, r17), (16, 0), (0, v19), (0, 0), (1, 0)]) rfl ?_
  obtain ⟨k21, h⟩ := h
  exact vlp_X_takeSquares_21 hl0 _ _ _ _ _ _ h
set_option maxHeartbeats 4000000 in
set_option maxRecDepth 20000 in
theorem con_X_takeSquares {l : Launch} {g : pw_G} {Q : pw_W → Int32 → Prop} {X : pw_W → Nat → Prop} (hl0 : l.stackTraces = false) {w : pw_W} {a1 : Int32} (h : wp_X_takeSquares w a1 Q X) : pw_Con l g y_X_takeSquares cx_X_takeSquares [(9, 0), (2, a1)] w Q X :=
  pw_con (by decide +kernel) rfl rfl hl0 rfl (Nat.le_of_ble_eq_true rfl) (by simp) (vw_X_takeSquares hl0 h)
theorem d_X_decide_0 : decode (pw_cc cx_X_decide) 0 = .ok (.aload_n 0, 1) := by decide +kernel
theorem d_X_decide_1 : decode (pw_cc cx_X_decide) 1 = .ok (.iload_n 1, 1) := by decide +kernel
theorem d_X_decide_2 : decode (pw_cc cx_X_decide) 2 = .ok (.invokevirtual 164, 3) := by decide +kernel
theorem d_X_decide_5 : decode (pw_cc cx_X_decide) 5 = .ok (.astore_n 2, 1) := by decide +kernel
theorem d_X_decide_6 : decode (pw_cc cx_X_decide) 6 = .ok (.aload_n 2, 1) := by decide +kernel
theorem d_X_decide_7 : decode (pw_cc cx_X_decide) 7 = .ok (.getfield 174, 3) := by decide +kernel
theorem d_X_decide_10 : decode (pw_cc cx_X_decide) 10 = .ok (.ifCond .ne 7, 3) := by decide +kernel
theorem d_X_decide_13 : decode (pw_cc cx_X_decide) 13 = .ok (.iconst 1, 1) := by decide +kernel
theorem d_X_decide_14 : decode (pw_cc cx_X_decide) 14 = .ok (.goto 4, 3) := by decide +kernel
theorem d_X_decide_17 : decode (pw_cc cx_X_decide) 17 = .ok (.iconst 0, 1) := by decide +kernel
theorem d_X_decide_18 : decode (pw_cc cx_X_decide) 18 = .ok (.invokestatic 80, 3) := by decide +kernel
theorem d_X_decide_21 : decode (pw_cc cx_X_decide) 21 = .ok (.aload_n 2, 1) := by decide +kernel
theorem d_X_decide_22 : decode (pw_cc cx_X_decide) 22 = .ok (.getfield 177, 3) := by decide +kernel
theorem d_X_decide_25 : decode (pw_cc cx_X_decide) 25 = .ok (.aload_n 2, 1) := by decide +kernel
theorem d_X_decide_26 : decode (pw_cc cx_X_decide) 26 = .ok (.getfield 180, 3) := by decide +kernel
theorem d_X_decide_29 : decode (pw_cc cx_X_decide) 29 = .ok (.if_icmp .gt 9, 3) := by decide +kernel
theorem d_X_decide_32 : decode (pw_cc cx_X_decide) 32 = .ok (.aload_n 0, 1) := by decide +kernel
theorem d_X_decide_33 : decode (pw_cc cx_X_decide) 33 = .ok (.aload_n 2, 1) := by decide +kernel
theorem d_X_decide_34 : decode (pw_cc cx_X_decide) 34 = .ok (.invokevirtual 183, 3) := by decide +kernel
theorem d_X_decide_37 : decode (pw_cc cx_X_decide) 37 = .ok (.ireturn, 1) := by decide +kernel
theorem d_X_decide_38 : decode (pw_cc cx_X_decide) 38 = .ok (.aload_n 0, 1) := by decide +kernel
theorem d_X_decide_39 : decode (pw_cc cx_X_decide) 39 = .ok (.aload_n 2, 1) := by decide +kernel
theorem d_X_decide_40 : decode (pw_cc cx_X_decide) 40 = .ok (.invokevirtual 187, 3) := by decide +kernel
theorem d_X_decide_43 : decode (pw_cc cx_X_decide) 43 = .ok (.istore_n 3, 1) := by decide +kernel
theorem d_X_decide_44 : decode (pw_cc cx_X_decide) 44 = .ok (.iload_n 3, 1) := by decide +kernel
theorem d_X_decide_45 : decode (pw_cc cx_X_decide) 45 = .ok (.ifCond .eq 17, 3) := by decide +kernel
theorem d_X_decide_48 : decode (pw_cc cx_X_decide) 48 = .ok (.aload_n 0, 1) := by decide +kernel
theorem d_X_decide_49 : decode (pw_cc cx_X_decide) 49 = .ok (.getfield 24, 3) := by decide +kernel
theorem d_X_decide_52 : decode (pw_cc cx_X_decide) 52 = .ok (.invokeinterface 88 1, 5) := by decide +kernel
theorem d_X_decide_57 : decode (pw_cc cx_X_decide) 57 = .ok (.bipush 40, 2) := by decide +kernel
theorem d_X_decide_59 : decode (pw_cc cx_X_decide) 59 = .ok (.if_icmp .ge 7, 3) := by decide +kernel
theorem d_X_decide_62 : decode (pw_cc cx_X_decide) 62 = .ok (.iconst 1, 1) := by decide +kernel
theorem d_X_decide_63 : decode (pw_cc cx_X_decide) 63 = .ok (.goto 4, 3) := by decide +kernel
theorem d_X_decide_66 : decode (pw_cc cx_X_decide) 66 = .ok (.iconst 0, 1) := by decide +kernel
theorem d_X_decide_67 : decode (pw_cc cx_X_decide) 67 = .ok (.invokestatic 80, 3) := by decide +kernel
theorem d_X_decide_70 : decode (pw_cc cx_X_decide) 70 = .ok (.aload_n 2, 1) := by decide +kernel
theorem d_X_decide_71 : decode (pw_cc cx_X_decide) 71 = .ok (.iconst 1, 1) := by decide +kernel
theorem d_X_decide_72 : decode (pw_cc cx_X_decide) 72 = .ok (.putfield 174, 3) := by decide +kernel
theorem d_X_decide_75 : decode (pw_cc cx_X_decide) 75 = .ok (.aload_n 2, 1) := by decide +kernel
theorem d_X_decide_76 : decode (pw_cc cx_X_decide) 76 = .ok (.aload_n 2, 1) := by decide +kernel
theorem d_X_decide_77 : decode (pw_cc cx_X_decide) 77 = .ok (.getfield 190, 3) := by decide +kernel
theorem d_X_decide_80 : decode (pw_cc cx_X_decide) 80 = .ok (.putfield 193, 3) := by decide +kernel
theorem d_X_decide_83 : decode (pw_cc cx_X_decide) 83 = .ok (.iload_n 3, 1) := by decide +kernel
theorem d_X_decide_84 : decode (pw_cc cx_X_decide) 84 = .ok (.ifCond .le 8, 3) := by decide +kernel
theorem d_X_decide_87 : decode (pw_cc cx_X_decide) 87 = .ok (.aload_n 0, 1) := by decide +kernel
theorem d_X_decide_88 : decode (pw_cc cx_X_decide) 88 = .ok (.aload_n 2, 1) := by decide +kernel
theorem d_X_decide_89 : decode (pw_cc cx_X_decide) 89 = .ok (.invokevirtual 196, 3) := by decide +kernel
theorem d_X_decide_92 : decode (pw_cc cx_X_decide) 92 = .ok (.iload_n 3, 1) := by decide +kernel
theorem d_X_decide_93 : decode (pw_cc cx_X_decide) 93 = .ok (.ireturn, 1) := by decide +kernel
set_option maxHeartbeats 4000000 in
set_option maxRecDepth 20000 in
def jp_X_decide_67 (Q : pw_W → Int32 → Prop) (X : pw_W → Nat → Prop) (a2 a3 s0 : Int32) (w : pw_W) : Prop := wp_X_checkState w s0 (fun w1 r2 => 0 ≤ a2 ∧ ∀ w4, w4 = pw_ps w1 0 (pw_i a2) 3 1 → ∀ w6, w6 = pw_ps w4 0 (pw_i a2) 5 (w4.1 0 (pw_i a2) 4) → (a3 ≤ 0 → Q w6 a3) ∧ (¬ a3 ≤ 0 → wp_X_takeSquares w6 a2 (fun w9 r10 => Q w9 a3) (fun _ _ => False))) X
set_option maxHeartbeats 4000000 in
set_option maxRecDepth 20000 in
theorem vjp_X_decide_67 {l : Launch} {g : pw_G} {Q : pw_W → Int32 → Prop} {X : pw_W → Nat → Prop} (hl0 : l.stackTraces = false) (a2 a3 s0 : Int32) (w : pw_W) (h : jp_X_decide_67 Q X a2 a3 s0 w) : pw_V l g cx_X_decide Q X 67 [(9, 0), (1, 0), (2, a2), (0, a3)] [(0, s0)] w := by
  unfold jp_X_decide_67 at h
  refine pv_callS (n := 70) [(0, s0)] [] (con_X_checkState hl0 h) q_124 q_125 q_62 q_123 pyo_X_checkState (by decide) rfl rfl d_X_decide_67 rfl (fun w1 r2 h _ => ?_) (fun _ _ h => pvx_out rfl h)
  show pw_V l g cx_X_decide Q X 70 [(9, 0), (1, 0), (2, a2), (0, a3)] [] w1
  refine pv_aload_n (n := 71) d_X_decide_70 rfl rfl rfl ?_
  refine pv_iconst (v := 1) (n := 72) d_X_decide_71 (by decide) rfl ?_
  obtain ⟨g3, h⟩ := h
  refine pt_X_174 (n := 75) rfl d_X_decide_72 g3 rfl (fun w4 e5 => ?_)
  replace h := h w4 e5
  refine pv_aload_n (n := 76) d_X_decide_75 rfl rfl rfl ?_
  refine pv_aload_n (n := 77) d_X_decide_76 rfl rfl rfl ?_
  refine gt_X_190 (n := 80) rfl d_X_decide_77 g3 rfl ?_
  refine pt_X_193 (n := 83) rfl d_X_decide_80 g3 rfl (fun w6 e7 => ?_)
  replace h := h w6 e7
  refine pv_iload_n (n := 84) d_X_decide_83 rfl rfl rfl ?_
  refine pv_if_le (n := 87) (tgt := 92) d_X_decide_84 (by decide) rfl (fun c8 => ?_) (fun c8 => ?_)
  · replace h := h.1 c8
    refine pv_iload_n (n := 93) d_X_decide_92 rfl rfl rfl ?_
    exact pv_iret rfl rfl d_X_decide_93 h
  · replace h := h.2 c8
    refine pv_aload_n (n := 88) d_X_decide_87 rfl rfl rfl ?_
    refine pv_aload_n (n := 89) d_X_decide_88 rfl rfl rfl ?_
    refine pv_callV (n := 92) (x := 0) [(2, a2)] [] (con_X_takeSquares hl0 h) pw_cf7 rfl q_241 q_242 q_243 q_62 q_240 pyo_X_takeSquares (by decide) rfl rfl (by decide) d_X_decide_89 rfl (fun w9 r10 h _ => ?_) (fun _ _ h => h.elim)
    show pw_V l g cx_X_decide Q X 92 [(9, 0), (1, 0), (2, a2), (0, a3)] [] w9
    refine pv_iload_n (n := 93) d_X_decide_92 rfl rfl rfl ?_
    exact pv_iret rfl rfl d_X_decide_93 h
set_option maxHeartbeats 4000000 in
set_option maxRecDepth 20000 in
def jp_X_decide_62 (Q : pw_W → Int32 → Prop) (X : pw_W → Nat → Prop) (a2 a3 : Int32) (w : pw_W) : Prop := jp_X_decide_67 Q X a2 a3 1 w
set_option maxHeartbeats 4000000 in
set_option maxRecDepth 20000 in
theorem vjp_X_decide_62 {l : Launch} {g : pw_G} {Q : pw_W → Int32 → Prop} {X : pw_W → Nat → Prop} (hl0 : l.stackTraces = false) (a2 a3 : Int32) (w : pw_W) (h : jp_X_decide_62 Q X a2 a3 w) : pw_V l g cx_X_decide Q X 62 [(9, 0), (1, 0), (2, a2), (0, a3)] [] w := by
  unfold jp_X_decide_62 at h
  refine pv_iconst (v := 1) (n := 63) d_X_decide_62 (by decide) rfl ?_
  refine pv_goto (tgt := 67) d_X_decide_63 (by decide) ?_
  exact vjp_X_decide_67 hl0 _ _ _ _ h
set_option maxHeartbeats 4000000 in
set_option maxRecDepth 20000 in
def jp_X_decide_18 (Q : pw_W → Int32 → Prop) (X : pw_W → Nat → Prop) (a2 s0 : Int32) (w : pw_W) : Prop := wp_X_checkState w s0 (fun w11 r12 => 0 ≤ a2 ∧ ((w11.1 0 (pw_i a2) 7) < (w11.1 0 (pw_i a2) 6) → wp_X_countTaken w11 a2 (fun w15 r16 => (r16 = 0 → jp_X_decide_62 Q X a2 r16 w15) ∧ (¬ r16 = 0 → w15.1 7 0 2 = 0 ∧ ((40 : Int32) ≤ (nI (pw_ln w15 23 0)) → jp_X_decide_67 Q X a2 r16 0 w15) ∧ (¬ (40 : Int32) ≤ (nI (pw_ln w15 23 0)) → jp_X_decide_62 Q X a2 r16 w15))) (fun _ _ => False)) ∧ (¬ (w11.1 0 (pw_i a2) 7) < (w11.1 0 (pw_i a2) 6) → wp_X_refuseCase w11 a2 (fun w20 r21 => Q w20 r21) (fun _ _ => False))) X
set_option maxHeartbeats 4000000 in
set_option maxRecDepth 20000 in
theorem vjp_X_decide_18 {l : Launch} {g : pw_G} {Q : pw_W → Int32 → Prop} {X : pw_W → Nat → Prop} (hl0 : l.stackTraces = false) (a2 s0 : Int32) (w : pw_W) (h : jp_X_decide_18 Q X a2 s0 w) : pw_V l g cx_X_decide Q X 18 [(9, 0), (1, 0), (2, a2), (1, 0)] [(0, s0)] w := by
  unfold jp_X_decide_18 at h
  refine pv_callS (n := 21) [(0, s0)] [] (con_X_checkState hl0 h) q_124 q_125 q_62 q_123 pyo_X_checkState (by decide) rfl rfl d_X_decide_18 rfl (fun w11 r12 h _ => ?_) (fun _ _ h => pvx_out rfl h)
  show pw_V l g cx_X_decide Q X 21 [(9, 0), (1, 0), (2, a2), (1, 0)] [] w11
  refine pv_aload_n (n := 22) d_X_decide_21 rfl rfl rfl ?_
  obtain ⟨g13, h⟩ := h
  refine gt_X_177 (n := 25) rfl d_X_decide_22 g13 rfl ?_
  refine pv_aload_n (n := 26) d_X_decide_25 rfl rfl rfl ?_
  refine gt_X_180 (n := 29) rfl d_X_decide_26 g13 rfl ?_
  refine pv_icmp_gt (n := 32) (tgt := 38) d_X_decide_29 (by decide) rfl (fun c14 => ?_) (fun c14 => ?_)
  · replace h := h.1 c14
    refine pv_aload_n (n := 39) d_X_decide_38 rfl rfl rfl ?_
    refine pv_aload_n (n := 40) d_X_decide_39 rfl rfl rfl ?_
    refine pv_callV (n := 43) (x := 0) [(2, a2)] [] (con_X_countTaken hl0 h) pw_cf7 rfl q_245 q_246 q_247 q_62 q_244 pyo_X_countTaken (by decide) rfl rfl (by decide) d_X_decide_40 rfl (fun w15 r16 h _ => ?_) (fun _ _ h => h.elim)
    show pw_V l g cx_X_decide Q X 43 [(9, 0), (1, 0), (2, a2), (1, 0)] [(0, r16)] w15
    refine pv_istore_n (n := 44) (L' := [(9, 0), (1, 0), (2, a2), (0, r16)]) d_X_decide_43 rfl (by decide) rfl rfl ?_
    refine pv_iload_n (n := 45) d_X_decide_44 rfl rfl rfl ?_
    refine pv_if_eq (n := 48) (tgt := 62) d_X_decide_45 (by decide) rfl (fun c17 => ?_) (fun c17 => ?_)
    · replace h := h.1 c17
      exact vjp_X_decide_62 hl0 _ _ _ h
    · replace h := h.2 c17
      refine pv_aload_n (n := 49) d_X_decide_48 rfl rfl rfl ?_
      obtain ⟨g18, h⟩ := h
      refine gt_X_24 (n := 52) rfl d_X_decide_49 (by decide) g18 rfl ?_
      refine pv_lsize (n := 57) (f := 23) (by decide) q_49 (by decide) rfl d_X_decide_52 (by decide) rfl ?_
      refine pv_bipush (v := 40) (n := 59) d_X_decide_57 (by decide) rfl ?_
      refine pv_icmp_ge (n := 62) (tgt := 66) d_X_decide_59 (by decide) rfl (fun c19 => ?_) (fun c19 => ?_)
      · replace h := h.1 c19
        refine pv_iconst (v := 0) (n := 67) d_X_decide_66 (by decide) rfl ?_
        exact vjp_X_decide_67 hl0 _ _ _ _ h
      · replace h := h.2 c19
        exact vjp_X_decide_62 hl0 _ _ _ h
  · replace h := h.2 c14
    refine pv_aload_n (n := 33) d_X_decide_32 rfl rfl rfl ?_
    refine pv_aload_n (n := 34) d_X_decide_33 rfl rfl rfl ?_
    refine pv_callV (n := 37) (x := 0) [(2, a2)] [] (con_X_refuseCase hl0 h) pw_cf7 rfl q_249 q_250 q_251 q_62 q_248 pyo_X_refuseCase (by decide) rfl rfl (by decide) d_X_decide_34 rfl (fun w20 r21 h _ => ?_) (fun _ _ h => h.elim)
    show pw_V l g cx_X_decide Q X 37 [(9, 0), (1, 0), (2, a2), (1, 0)] [(0, r21)] w20
    exact pv_iret rfl rfl d_X_decide_37 h
set_option maxHeartbeats 4000000 in
set_option maxRecDepth 20000 in
def wp_X_decide (w : pw_W) (a1 : Int32) (Q : pw_W → Int32 → Prop) (X : pw_W → Nat → Prop) : Prop := wp_X_caseNumbered w a1 (fun w22 r23 => 0 ≤ r23 ∧ (¬ (w22.1 0 (pw_i r23) 3) = 0 → jp_X_decide_18 Q X r23 0 w22) ∧ ((w22.1 0 (pw_i r23) 3) = 0 → jp_X_decide_18 Q X r23 1 w22)) X
set_option maxHeartbeats 4000000 in
set_option maxRecDepth 20000 in
theorem vw_X_decide {l : Launch} {g : pw_G} {Q : pw_W → Int32 → Prop} {X : pw_W → Nat → Prop} (hl0 : l.stackTraces = false) {w : pw_W} {a1 : Int32} (h : wp_X_decide w a1 Q X) : pw_V l g cx_X_decide Q X 0 [(9, 0), (0, a1), (1, 0), (1, 0)] [] w := by
  unfold wp_X_decide at h
  refine pv_aload_n (n := 1) d_X_decide_0 rfl rfl rfl ?_
  refine pv_iload_n (n := 2) d_X_decide_1 rfl rfl rfl ?_
  refine pv_callV (n := 5) (x := 0) [(0, a1)] [] (con_X_caseNumbered hl0 h) pw_cf7 rfl q_217 q_218 q_219 q_62 q_216 pyo_X_caseNumbered (by decide) rfl rfl (by decide) d_X_decide_2 rfl (fun w22 r23 h _ => ?_) (fun _ _ h => pvx_out rfl h)
  show pw_V l g cx_X_decide Q X 5 [(9, 0), (0, a1), (1, 0), (1, 0)] [(2, r23)] w22
  refine pv_astore_n (n := 6) (L' := [(9, 0), (0, a1), (2, r23), (1, 0)]) d_X_decide_5 rfl (by decide) rfl rfl ?_
  refine pv_aload_n (n := 7) d_X_decide_6 rfl rfl rfl ?_
  obtain ⟨g24, h⟩ := h
  refine gt_X_174 (n := 10) rfl d_X_decide_7 g24 rfl ?_
  refine pv_if_ne (n := 13) (tgt := 17) d_X_decide_10 (by decide) rfl (fun c25 => ?_) (fun c25 => ?_)
  · replace h := h.1 c25
    refine pv_iconst (v := 0) (n := 18) d_X_decide_17 (by decide) rfl ?_
    refine pv_unset (i := 1) (L1 := [(9, 0), (1, 0), (2, r23), (1, 0)]) rfl ?_
    exact vjp_X_decide_18 hl0 _ _ _ h
  · replace h := h.2 c25
    refine pv_iconst (v := 1) (n := 14) d_X_decide_13 (by decide) rfl ?_
    refine pv_goto (tgt := 18) d_X_decide_14 (by decide) ?_
    refine pv_unset (i := 1) (L1 := [(9, 0), (1, 0), (2, r23), (1, 0)]) rfl ?_
    exact vjp_X_decide_18 hl0 _ _ _ h
set_option maxHeartbeats 4000000 in
set_option maxRecDepth 20000 in
theorem con_X_decide {l : Launch} {g : pw_G} {Q : pw_W → Int32 → Prop} {X : pw_W → Nat → Prop} (hl0 : l.stackTraces = false) {w : pw_W} {a1 : Int32} (h : wp_X_decide w a1 Q X) : pw_Con l g y_X_decide cx_X_decide [(9, 0), (0, a1)] w Q X :=
  pw_con (by decide +kernel) rfl rfl hl0 rfl (Nat.le_of_ble_eq_true rfl) (by simp) (vw_X_decide hl0 h)
theorem d_X_appeal_0 : decode (pw_cc cx_X_appeal) 0 = .ok (.aload_n 0, 1) := by decide +kernel
theorem d_X_appeal_1 : decode (pw_cc cx_X_appeal) 1 = .ok (.iload_n 1, 1) := by decide +kernel
theorem d_X_appeal_2 : decode (pw_cc cx_X_appeal) 2 = .ok (.invokevirtual 164, 3) := by decide +kernel
theorem d_X_appeal_5 : decode (pw_cc cx_X_appeal) 5 = .ok (.astore_n 2, 1) := by decide +kernel
theorem d_X_appeal_6 : decode (pw_cc cx_X_appeal) 6 = .ok (.aload_n 2, 1) := by decide +kernel
theorem d_X_appeal_7 : decode (pw_cc cx_X_appeal) 7 = .ok (.getfield 174, 3) := by decide +kernel
theorem d_X_appeal_10 : decode (pw_cc cx_X_appeal) 10 = .ok (.ifCond .eq 7, 3) := by decide +kernel
theorem d_X_appeal_13 : decode (pw_cc cx_X_appeal) 13 = .ok (.iconst 1, 1) := by decide +kernel
theorem d_X_appeal_14 : decode (pw_cc cx_X_appeal) 14 = .ok (.goto 4, 3) := by decide +kernel
theorem d_X_appeal_17 : decode (pw_cc cx_X_appeal) 17 = .ok (.iconst 0, 1) := by decide +kernel
theorem d_X_appeal_18 : decode (pw_cc cx_X_appeal) 18 = .ok (.invokestatic 80, 3) := by decide +kernel
theorem d_X_appeal_21 : decode (pw_cc cx_X_appeal) 21 = .ok (.aload_n 2, 1) := by decide +kernel
theorem d_X_appeal_22 : decode (pw_cc cx_X_appeal) 22 = .ok (.getfield 190, 3) := by decide +kernel
theorem d_X_appeal_25 : decode (pw_cc cx_X_appeal) 25 = .ok (.iconst 2, 1) := by decide +kernel
theorem d_X_appeal_26 : decode (pw_cc cx_X_appeal) 26 = .ok (.if_icmp .ge 7, 3) := by decide +kernel
theorem d_X_appeal_29 : decode (pw_cc cx_X_appeal) 29 = .ok (.iconst 1, 1) := by decide +kernel
theorem d_X_appeal_30 : decode (pw_cc cx_X_appeal) 30 = .ok (.goto 4, 3) := by decide +kernel
theorem d_X_appeal_33 : decode (pw_cc cx_X_appeal) 33 = .ok (.iconst 0, 1) := by decide +kernel
theorem d_X_appeal_34 : decode (pw_cc cx_X_appeal) 34 = .ok (.invokestatic 80, 3) := by decide +kernel
theorem d_X_appeal_37 : decode (pw_cc cx_X_appeal) 37 = .ok (.aload_n 2, 1) := by decide +kernel
theorem d_X_appeal_38 : decode (pw_cc cx_X_appeal) 38 = .ok (.getfield 200, 3) := by decide +kernel
theorem d_X_appeal_41 : decode (pw_cc cx_X_appeal) 41 = .ok (.getfield 76, 3) := by decide +kernel
theorem d_X_appeal_44 : decode (pw_cc cx_X_appeal) 44 = .ok (.invokestatic 80, 3) := by decide +kernel
theorem d_X_appeal_47 : decode (pw_cc cx_X_appeal) 47 = .ok (.aload_n 2, 1) := by decide +kernel
theorem d_X_appeal_48 : decode (pw_cc cx_X_appeal) 48 = .ok (.iconst 0, 1) := by decide +kernel
theorem d_X_appeal_49 : decode (pw_cc cx_X_appeal) 49 = .ok (.putfield 174, 3) := by decide +kernel
theorem d_X_appeal_52 : decode (pw_cc cx_X_appeal) 52 = .ok (.aload_n 2, 1) := by decide +kernel
theorem d_X_appeal_53 : decode (pw_cc cx_X_appeal) 53 = .ok (.dup, 1) := by decide +kernel
theorem d_X_appeal_54 : decode (pw_cc cx_X_appeal) 54 = .ok (.getfield 190, 3) := by decide +kernel
theorem d_X_appeal_57 : decode (pw_cc cx_X_appeal) 57 = .ok (.iconst 1, 1) := by decide +kernel
theorem d_X_appeal_58 : decode (pw_cc cx_X_appeal) 58 = .ok (.iadd, 1) := by decide +kernel
theorem d_X_appeal_59 : decode (pw_cc cx_X_appeal) 59 = .ok (.putfield 190, 3) := by decide +kernel
theorem d_X_appeal_62 : decode (pw_cc cx_X_appeal) 62 = .ok (.aload_n 2, 1) := by decide +kernel
theorem d_X_appeal_63 : decode (pw_cc cx_X_appeal) 63 = .ok (.getfield 190, 3) := by decide +kernel
theorem d_X_appeal_66 : decode (pw_cc cx_X_appeal) 66 = .ok (.ireturn, 1) := by decide +kernel
set_option maxHeartbeats 4000000 in
set_option maxRecDepth 20000 in
def jp_X_appeal_34 (Q : pw_W → Int32 → Prop) (X : pw_W → Nat → Prop) (a2 s0 : Int32) (w : pw_W) : Prop := wp_X_checkState w s0 (fun w1 r2 => 0 ≤ a2 ∧ 0 ≤ (w1.1 0 (pw_i a2) 0) ∧ wp_X_checkState w1 (w1.1 4 (pw_i (w1.1 0 (pw_i a2) 0)) 2) (fun w5 r6 => ∀ w7, w7 = pw_ps w5 0 (pw_i a2) 3 0 → ∀ w9, w9 = pw_ps w7 0 (pw_i a2) 4 ((w7.1 0 (pw_i a2) 4) + 1) → Q w9 (w9.1 0 (pw_i a2) 4)) X) X
set_option maxHeartbeats 4000000 in
set_option maxRecDepth 20000 in
theorem vjp_X_appeal_34 {l : Launch} {g : pw_G} {Q : pw_W → Int32 → Prop} {X : pw_W → Nat → Prop} (hl0 : l.stackTraces = false) (a2 s0 : Int32) (w : pw_W) (h : jp_X_appeal_34 Q X a2 s0 w) : pw_V l g cx_X_appeal Q X 34 [(1, 0), (1, 0), (2, a2)] [(0, s0)] w := by
  unfold jp_X_appeal_34 at h
  refine pv_callS (n := 37) [(0, s0)] [] (con_X_checkState hl0 h) q_124 q_125 q_62 q_123 pyo_X_checkState (by decide) rfl rfl d_X_appeal_34 rfl (fun w1 r2 h _ => ?_) (fun _ _ h => pvx_out rfl h)
  show pw_V l g cx_X_appeal Q X 37 [(1, 0), (1, 0), (2, a2)] [] w1
  refine pv_aload_n (n := 38) d_X_appeal_37 rfl rfl rfl ?_
  obtain ⟨g3, h⟩ := h
  refine gt_X_200 (n := 41) rfl d_X_appeal_38 g3 rfl ?_
  obtain ⟨g4, h⟩ := h
  refine gt_X_76 (n := 44) rfl d_X_appeal_41 g4 rfl ?_
  refine pv_callS (n := 47) [(0, (w1.1 4 (pw_i (w1.1 0 (pw_i a2) 0)) 2))] [] (con_X_checkState hl0 h) q_124 q_125 q_62 q_123 pyo_X_checkState (by decide) rfl rfl d_X_appeal_44 rfl (fun w5 r6 h _ => ?_) (fun _ _ h => pvx_out rfl h)
  show pw_V l g cx_X_appeal Q X 47 [(1, 0), (1, 0), (2, a2)] [] w5
  refine pv_aload_n (n := 48) d_X_appeal_47 rfl rfl rfl ?_
  refine pv_iconst (v := 0) (n := 49) d_X_appeal_48 (by decide) rfl ?_
  refine pt_X_174 (n := 52) rfl d_X_appeal_49 g3 rfl (fun w7 e8 => ?_)
  replace h := h w7 e8
  refine pv_aload_n (n := 53) d_X_appeal_52 rfl rfl rfl ?_
  refine pv_dup (n := 54) d_X_appeal_53 (by decide) rfl ?_
  refine gt_X_190 (n := 57) rfl d_X_appeal_54 g3 rfl ?_
  refine pv_iconst (v := 1) (n := 58) d_X_appeal_57 (by decide) rfl ?_
  refine pv_iadd (n := 59) d_X_appeal_58 rfl ?_
  refine pt_X_190 (n := 62) rfl d_X_appeal_59 g3 rfl (fun w9 e10 => ?_)
  replace h := h w9 e10
  refine pv_aload_n (n := 63) d_X_appeal_62 rfl rfl rfl ?_
  refine gt_X_190 (n := 66) rfl d_X_appeal_63 g3 rfl ?_
  exact pv_iret rfl rfl d_X_appeal_66 h
set_option maxHeartbeats 4000000 in
set_option maxRecDepth 20000 in
def jp_X_appeal_18 (Q : pw_W → Int32 → Prop) (X : pw_W → Nat → Prop) (a2 s0 : Int32) (w : pw_W) : Prop := wp_X_checkState w s0 (fun w11 r12 => 0 ≤ a2 ∧ ((2 : Int32) ≤ (w11.1 0 (pw_i a2) 4) → jp_X_appeal_34 Q X a2 0 w11) ∧ (¬ (2 : Int32) ≤ (w11.1 0 (pw_i a2) 4) → jp_X_appeal_34 Q X a2 1 w11)) X
set_option maxHeartbeats 4000000 in
set_option maxRecDepth 20000 in
theorem vjp_X_appeal_18 {l : Launch} {g : pw_G} {Q : pw_W → Int32 → Prop} {X : pw_W → Nat → Prop} (hl0 : l.stackTraces = false) (a2 s0 : Int32) (w : pw_W) (h : jp_X_appeal_18 Q X a2 s0 w) : pw_V l g cx_X_appeal Q X 18 [(1, 0), (1, 0), (2, a2)] [(0, s0)] w := by
  unfold jp_X_appeal_18 at h
  refine pv_callS (n := 21) [(0, s0)] [] (con_X_checkState hl0 h) q_124 q_125 q_62 q_123 pyo_X_checkState (by decide) rfl rfl d_X_appeal_18 rfl (fun w11 r12 h _ => ?_) (fun _ _ h => pvx_out rfl h)
  show pw_V l g cx_X_appeal Q X 21 [(1, 0), (1, 0), (2, a2)] [] w11
  refine pv_aload_n (n := 22) d_X_appeal_21 rfl rfl rfl ?_
  obtain ⟨g13, h⟩ := h
  refine gt_X_190 (n := 25) rfl d_X_appeal_22 g13 rfl ?_
  refine pv_iconst (v := 2) (n := 26) d_X_appeal_25 (by decide) rfl ?_
  refine pv_icmp_ge (n := 29) (tgt := 33) d_X_appeal_26 (by decide) rfl (fun c14 => ?_) (fun c14 => ?_)
  · replace h := h.1 c14
    refine pv_iconst (v := 0) (n := 34) d_X_appeal_33 (by decide) rfl ?_
    exact vjp_X_appeal_34 hl0 _ _ _ h
  · replace h := h.2 c14
    refine pv_iconst (v := 1) (n := 30) d_X_appeal_29 (by decide) rfl ?_
    refine pv_goto (tgt := 34) d_X_appeal_30 (by decide) ?_
    exact vjp_X_appeal_34 hl0 _ _ _ h
set_option maxHeartbeats 4000000 in
set_option maxRecDepth 20000 in
def wp_X_appeal (w : pw_W) (a1 : Int32) (Q : pw_W → Int32 → Prop) (X : pw_W → Nat → Prop) : Prop := wp_X_caseNumbered w a1 (fun w15 r16 => 0 ≤ r16 ∧ ((w15.1 0 (pw_i r16) 3) = 0 → jp_X_appeal_18 Q X r16 0 w15) ∧ (¬ (w15.1 0 (pw_i r16) 3) = 0 → jp_X_appeal_18 Q X r16 1 w15)) X
set_option maxHeartbeats 4000000 in
set_option maxRecDepth 20000 in
theorem vw_X_appeal {l : Launch} {g : pw_G} {Q : pw_W → Int32 → Prop} {X : pw_W → Nat → Prop} (hl0 : l.stackTraces = false) {w : pw_W} {a1 : Int32} (h : wp_X_appeal w a1 Q X) : pw_V l g cx_X_appeal Q X 0 [(9, 0), (0, a1), (1, 0)] [] w := by
  unfold wp_X_appeal at h
  refine pv_aload_n (n := 1) d_X_appeal_0 rfl rfl rfl ?_
  refine pv_iload_n (n := 2) d_X_appeal_1 rfl rfl rfl ?_
  refine pv_callV (n := 5) (x := 0) [(0, a1)] [] (con_X_caseNumbered hl0 h) pw_cf7 rfl q_217 q_218 q_219 q_62 q_216 pyo_X_caseNumbered (by decide) rfl rfl (by decide) d_X_appeal_2 rfl (fun w15 r16 h _ => ?_) (fun _ _ h => pvx_out rfl h)
  show pw_V l g cx_X_appeal Q X 5 [(9, 0), (0, a1), (1, 0)] [(2, r16)] w15
  refine pv_astore_n (n := 6) (L' := [(9, 0), (0, a1), (2, r16)]) d_X_appeal_5 rfl (by decide) rfl rfl ?_
  refine pv_aload_n (n := 7) d_X_appeal_6 rfl rfl rfl ?_
  obtain ⟨g17, h⟩ := h
  refine gt_X_174 (n := 10) rfl d_X_appeal_7 g17 rfl ?_
  refine pv_if_eq (n := 13) (tgt := 17) d_X_appeal_10 (by decide) rfl (fun c18 => ?_) (fun c18 => ?_)
  · replace h := h.1 c18
    refine pv_iconst (v := 0) (n := 18) d_X_appeal_17 (by decide) rfl ?_
    refine pv_unset (i := 0) (L1 := [(1, 0), (0, a1), (2, r16)]) rfl ?_
    refine pv_unset (i := 1) (L1 := [(1, 0), (1, 0), (2, r16)]) rfl ?_
    exact vjp_X_appeal_18 hl0 _ _ _ h
  · replace h := h.2 c18
    refine pv_iconst (v := 1) (n := 14) d_X_appeal_13 (by decide) rfl ?_
    refine pv_goto (tgt := 18) d_X_appeal_14 (by decide) ?_
    refine pv_unset (i := 0) (L1 := [(1, 0), (0, a1), (2, r16)]) rfl ?_
    refine pv_unset (i := 1) (L1 := [(1, 0), (1, 0), (2, r16)]) rfl ?_
    exact vjp_X_appeal_18 hl0 _ _ _ h
set_option maxHeartbeats 4000000 in
set_option maxRecDepth 20000 in
theorem con_X_appeal {l : Launch} {g : pw_G} {Q : pw_W → Int32 → Prop} {X : pw_W → Nat → Prop} (hl0 : l.stackTraces = false) {w : pw_W} {a1 : Int32} (h : wp_X_appeal w a1 Q X) : pw_Con l g y_X_appeal cx_X_appeal [(9, 0), (0, a1)] w Q X :=
  pw_con (by decide +kernel) rfl rfl hl0 rfl (Nat.le_of_ble_eq_true rfl) (by simp) (vw_X_appeal hl0 h)
theorem d_X_register_0 : decode (pw_cc cx_X_register) 0 = .ok (.iload_n 1, 1) := by decide +kernel
theorem d_X_register_1 : decode (pw_cc cx_X_register) 1 = .ok (.iconst 3, 1) := by decide +kernel
theorem d_X_register_2 : decode (pw_cc cx_X_register) 2 = .ok (.invokestatic 203, 3) := by decide +kernel
theorem d_X_register_5 : decode (pw_cc cx_X_register) 5 = .ok (.aload_n 0, 1) := by decide +kernel
theorem d_X_register_6 : decode (pw_cc cx_X_register) 6 = .ok (.iload_n 2, 1) := by decide +kernel
theorem d_X_register_7 : decode (pw_cc cx_X_register) 7 = .ok (.invokevirtual 61, 3) := by decide +kernel
theorem d_X_register_10 : decode (pw_cc cx_X_register) 10 = .ok (.astore 5, 2) := by decide +kernel
theorem d_X_register_12 : decode (pw_cc cx_X_register) 12 = .ok (.aload_n 0, 1) := by decide +kernel
theorem d_X_register_13 : decode (pw_cc cx_X_register) 13 = .ok (.iload_n 3, 1) := by decide +kernel
theorem d_X_register_14 : decode (pw_cc cx_X_register) 14 = .ok (.invokevirtual 69, 3) := by decide +kernel
theorem d_X_register_17 : decode (pw_cc cx_X_register) 17 = .ok (.astore 6, 2) := by decide +kernel
theorem d_X_register_19 : decode (pw_cc cx_X_register) 19 = .ok (.iload_n 1, 1) := by decide +kernel
theorem d_X_register_20 : decode (pw_cc cx_X_register) 20 = .ok (.ifCond .ne 14, 3) := by decide +kernel
theorem d_X_register_23 : decode (pw_cc cx_X_register) 23 = .ok (.iload 4, 2) := by decide +kernel
theorem d_X_register_25 : decode (pw_cc cx_X_register) 25 = .ok (.iconst 1, 1) := by decide +kernel
theorem d_X_register_26 : decode (pw_cc cx_X_register) 26 = .ok (.bipush 99, 2) := by decide +kernel
theorem d_X_register_28 : decode (pw_cc cx_X_register) 28 = .ok (.invokestatic 168, 3) := by decide +kernel
theorem d_X_register_31 : decode (pw_cc cx_X_register) 31 = .ok (.ifCond .eq 7, 3) := by decide +kernel
theorem d_X_register_34 : decode (pw_cc cx_X_register) 34 = .ok (.iconst 1, 1) := by decide +kernel
theorem d_X_register_35 : decode (pw_cc cx_X_register) 35 = .ok (.goto 4, 3) := by decide +kernel
theorem d_X_register_38 : decode (pw_cc cx_X_register) 38 = .ok (.iconst 0, 1) := by decide +kernel
theorem d_X_register_39 : decode (pw_cc cx_X_register) 39 = .ok (.invokestatic 171, 3) := by decide +kernel
theorem d_X_register_42 : decode (pw_cc cx_X_register) 42 = .ok (.aload 6, 2) := by decide +kernel
theorem d_X_register_44 : decode (pw_cc cx_X_register) 44 = .ok (.getfield 76, 3) := by decide +kernel
theorem d_X_register_47 : decode (pw_cc cx_X_register) 47 = .ok (.invokestatic 80, 3) := by decide +kernel
theorem d_X_register_50 : decode (pw_cc cx_X_register) 50 = .ok (.aload_n 0, 1) := by decide +kernel
theorem d_X_register_51 : decode (pw_cc cx_X_register) 51 = .ok (.iload_n 1, 1) := by decide +kernel
theorem d_X_register_52 : decode (pw_cc cx_X_register) 52 = .ok (.aload 5, 2) := by decide +kernel
theorem d_X_register_54 : decode (pw_cc cx_X_register) 54 = .ok (.aload 6, 2) := by decide +kernel
theorem d_X_register_56 : decode (pw_cc cx_X_register) 56 = .ok (.invokevirtual 206, 3) := by decide +kernel
theorem d_X_register_59 : decode (pw_cc cx_X_register) 59 = .ok (.ifCond .ne 7, 3) := by decide +kernel
theorem d_X_register_62 : decode (pw_cc cx_X_register) 62 = .ok (.iconst 1, 1) := by decide +kernel
theorem d_X_register_63 : decode (pw_cc cx_X_register) 63 = .ok (.goto 4, 3) := by decide +kernel
theorem d_X_register_66 : decode (pw_cc cx_X_register) 66 = .ok (.iconst 0, 1) := by decide +kernel
theorem d_X_register_67 : decode (pw_cc cx_X_register) 67 = .ok (.invokestatic 80, 3) := by decide +kernel
theorem d_X_register_70 : decode (pw_cc cx_X_register) 70 = .ok (.aload_n 0, 1) := by decide +kernel
theorem d_X_register_71 : decode (pw_cc cx_X_register) 71 = .ok (.getfield 34, 3) := by decide +kernel
theorem d_X_register_74 : decode (pw_cc cx_X_register) 74 = .ok (.invokeinterface 88 1, 5) := by decide +kernel
theorem d_X_register_79 : decode (pw_cc cx_X_register) 79 = .ok (.bipush 80, 2) := by decide +kernel
theorem d_X_register_81 : decode (pw_cc cx_X_register) 81 = .ok (.if_icmp .ge 7, 3) := by decide +kernel
theorem d_X_register_84 : decode (pw_cc cx_X_register) 84 = .ok (.iconst 1, 1) := by decide +kernel
theorem d_X_register_85 : decode (pw_cc cx_X_register) 85 = .ok (.goto 4, 3) := by decide +kernel
theorem d_X_register_88 : decode (pw_cc cx_X_register) 88 = .ok (.iconst 0, 1) := by decide +kernel
theorem d_X_register_89 : decode (pw_cc cx_X_register) 89 = .ok (.invokestatic 80, 3) := by decide +kernel
theorem d_X_register_92 : decode (pw_cc cx_X_register) 92 = .ok (.aload_n 0, 1) := by decide +kernel
theorem d_X_register_93 : decode (pw_cc cx_X_register) 93 = .ok (.new 210, 3) := by decide +kernel
theorem d_X_register_96 : decode (pw_cc cx_X_register) 96 = .ok (.dup, 1) := by decide +kernel
theorem d_X_register_97 : decode (pw_cc cx_X_register) 97 = .ok (.iload_n 1, 1) := by decide +kernel
theorem d_X_register_98 : decode (pw_cc cx_X_register) 98 = .ok (.aload 5, 2) := by decide +kernel
theorem d_X_register_100 : decode (pw_cc cx_X_register) 100 = .ok (.aload 6, 2) := by decide +kernel
theorem d_X_register_102 : decode (pw_cc cx_X_register) 102 = .ok (.iload 4, 2) := by decide +kernel
theorem d_X_register_104 : decode (pw_cc cx_X_register) 104 = .ok (.iconst (-1), 1) := by decide +kernel
theorem d_X_register_105 : decode (pw_cc cx_X_register) 105 = .ok (.invokespecial 212, 3) := by decide +kernel
theorem d_X_register_108 : decode (pw_cc cx_X_register) 108 = .ok (.invokevirtual 215, 3) := by decide +kernel
theorem d_X_register_111 : decode (pw_cc cx_X_register) 111 = .ok (.ireturn, 1) := by decide +kernel
set_option maxHeartbeats 4000000 in
set_option maxRecDepth 20000 in
def jp_X_register_89 (Q : pw_W → Int32 → Prop) (X : pw_W → Nat → Prop) (a1 a4 a5 a6 s0 : Int32) (w : pw_W) : Prop := wp_X_checkState w s0 (fun w1 r2 => pw_rm w1 5 6 ∧ ∀ w4, w4 = pw_nw w1 5 0 6 → wp_Right_init w4 (nI (pw_nv w1 5)) a1 a5 a6 a4 (-1) (fun w6 r7 => wp_X_addRight w6 (nI (pw_nv w1 5)) (fun w8 r9 => Q w8 r9) (fun _ _ => False)) (fun _ _ => False)) X
set_option maxHeartbeats 4000000 in
set_option maxRecDepth 20000 in
theorem vjp_X_register_89 {l : Launch} {g : pw_G} {Q : pw_W → Int32 → Prop} {X : pw_W → Nat → Prop} (hl0 : l.stackTraces = false) (a1 a4 a5 a6 s0 : Int32) (w : pw_W) (h : jp_X_register_89 Q X a1 a4 a5 a6 s0 w) : pw_V l g cx_X_register Q X 89 [(9, 0), (0, a1), (1, 0), (1, 0), (0, a4), (5, a5), (6, a6)] [(0, s0)] w := by
  unfold jp_X_register_89 at h
  refine pv_callS (n := 92) [(0, s0)] [] (con_X_checkState hl0 h) q_124 q_125 q_62 q_123 pyo_X_checkState (by decide) rfl rfl d_X_register_89 rfl (fun w1 r2 h _ => ?_) (fun _ _ h => pvx_out rfl h)
  show pw_V l g cx_X_register Q X 92 [(9, 0), (0, a1), (1, 0), (1, 0), (0, a4), (5, a5), (6, a6)] [] w1
  refine pv_aload_n (n := 93) d_X_register_92 rfl rfl rfl ?_
  obtain ⟨g3, h⟩ := h
  refine nw_5 (n := 96) q_53 d_X_register_93 g3 rfl (fun w4 e5 => ?_)
  replace h := h w4 e5
  refine pv_dup (n := 97) d_X_register_96 (by decide) rfl ?_
  refine pv_iload_n (n := 98) d_X_register_97 rfl rfl rfl ?_
  refine pv_aload (n := 100) d_X_register_98 rfl rfl ?_
  refine pv_aload (n := 102) d_X_register_100 rfl rfl ?_
  refine pv_iload (n := 104) d_X_register_102 rfl rfl ?_
  refine pv_iconst (v := -1) (n := 105) d_X_register_104 (by decide) rfl ?_
  refine pv_callI (n := 108) (x := (nI (pw_nv w1 5))) (f := 5) [(0, a1), (5, a5), (6, a6), (0, a4), (0, -1)] [(7, (nI (pw_nv w1 5))), (9, 0)] (con_Right_init hl0 h) rfl rfl q_77 q_78 q_57 q_76 pyo_Right_init (by decide) rfl rfl (nI_pos' (by have := g3.2.2; omega)) d_X_register_105 rfl (fun w6 r7 h _ => ?_) (fun _ _ h => h.elim)
  show pw_V l g cx_X_register Q X 108 [(9, 0), (0, a1), (1, 0), (1, 0), (0, a4), (5, a5), (6, a6)] [(7, (nI (pw_nv w1 5))), (9, 0)] w6
  refine pv_callV (n := 111) (x := 0) [(7, (nI (pw_nv w1 5)))] [] (con_X_addRight hl0 h) pw_cf7 rfl q_73 q_74 q_75 q_62 q_72 pyo_X_addRight (by decide) rfl rfl (by decide) d_X_register_108 rfl (fun w8 r9 h _ => ?_) (fun _ _ h => h.elim)
  show pw_V l g cx_X_register Q X 111 [(9, 0), (0, a1), (1, 0), (1, 0), (0, a4), (5, a5), (6, a6)] [(0, r9)] w8
  exact pv_iret rfl rfl d_X_register_111 h
set_option maxHeartbeats 4000000 in
set_option maxRecDepth 20000 in
def jp_X_register_67 (Q : pw_W → Int32 → Prop) (X : pw_W → Nat → Prop) (a1 a4 a5 a6 s0 : Int32) (w : pw_W) : Prop := wp_X_checkState w s0 (fun w10 r11 => w10.1 7 0 5 = 0 ∧ ((80 : Int32) ≤ (nI (pw_ln w10 25 0)) → jp_X_register_89 Q X a1 a4 a5 a6 0 w10) ∧ (¬ (80 : Int32) ≤ (nI (pw_ln w10 25 0)) → jp_X_register_89 Q X a1 a4 a5 a6 1 w10)) X
set_option maxHeartbeats 4000000 in
set_option maxRecDepth 20000 in
theorem vjp_X_register_67 {l : Launch} {g : pw_G} {Q : pw_W → Int32 → Prop} {X : pw_W → Nat → Prop} (hl0 : l.stackTraces = false) (a1 a4 a5 a6 s0 : Int32) (w : pw_W) (h : jp_X_register_67 Q X a1 a4 a5 a6 s0 w) : pw_V l g cx_X_register Q X 67 [(9, 0), (0, a1), (1, 0), (1, 0), (0, a4), (5, a5), (6, a6)] [(0, s0)] w := by
  unfold jp_X_register_67 at h
  refine pv_callS (n := 70) [(0, s0)] [] (con_X_checkState hl0 h) q_124 q_125 q_62 q_123 pyo_X_checkState (by decide) rfl rfl d_X_register_67 rfl (fun w10 r11 h _ => ?_) (fun _ _ h => pvx_out rfl h)
  show pw_V l g cx_X_register Q X 70 [(9, 0), (0, a1), (1, 0), (1, 0), (0, a4), (5, a5), (6, a6)] [] w10
  refine pv_aload_n (n := 71) d_X_register_70 rfl rfl rfl ?_
  obtain ⟨g12, h⟩ := h
  refine gt_X_34 (n := 74) rfl d_X_register_71 (by decide) g12 rfl ?_
  refine pv_lsize (n := 79) (f := 25) (by decide) q_49 (by decide) rfl d_X_register_74 (by decide) rfl ?_
  refine pv_bipush (v := 80) (n := 81) d_X_register_79 (by decide) rfl ?_
  refine pv_icmp_ge (n := 84) (tgt := 88) d_X_register_81 (by decide) rfl (fun c13 => ?_) (fun c13 => ?_)
  · replace h := h.1 c13
    refine pv_iconst (v := 0) (n := 89) d_X_register_88 (by decide) rfl ?_
    exact vjp_X_register_89 hl0 _ _ _ _ _ _ h
  · replace h := h.2 c13
    refine pv_iconst (v := 1) (n := 85) d_X_register_84 (by decide) rfl ?_
    refine pv_goto (tgt := 89) d_X_register_85 (by decide) ?_
    exact vjp_X_register_89 hl0 _ _ _ _ _ _ h
set_option maxHeartbeats 4000000 in
set_option maxRecDepth 20000 in
def jp_X_register_39 (Q : pw_W → Int32 → Prop) (X : pw_W → Nat → Prop) (a1 a4 a5 a6 s0 : Int32) (w : pw_W) : Prop := wp_X_checkArgument w s0 (fun w14 r15 => 0 ≤ a6 ∧ wp_X_checkState w14 (w14.1 4 (pw_i a6) 2) (fun w17 r18 => wp_X_hasRight w17 a1 a5 a6 (fun w19 r20 => (¬ r20 = 0 → jp_X_register_67 Q X a1 a4 a5 a6 0 w19) ∧ (r20 = 0 → jp_X_register_67 Q X a1 a4 a5 a6 1 w19)) (fun _ _ => False)) X) X
set_option maxHeartbeats 4000000 in
set_option maxRecDepth 20000 in
theorem vjp_X_register_39 {l : Launch} {g : pw_G} {Q : pw_W → Int32 → Prop} {X : pw_W → Nat → Prop} (hl0 : l.stackTraces = false) (a1 a4 a5 a6 s0 : Int32) (w : pw_W) (h : jp_X_register_39 Q X a1 a4 a5 a6 s0 w) : pw_V l g cx_X_register Q X 39 [(9, 0), (0, a1), (1, 0), (1, 0), (0, a4), (5, a5), (6, a6)] [(0, s0)] w := by
  unfold jp_X_register_39 at h
  refine pv_callS (n := 42) [(0, s0)] [] (con_X_checkArgument hl0 h) q_86 q_87 q_62 q_85 pyo_X_checkArgument (by decide) rfl rfl d_X_register_39 rfl (fun w14 r15 h _ => ?_) (fun _ _ h => pvx_out rfl h)
  show pw_V l g cx_X_register Q X 42 [(9, 0), (0, a1), (1, 0), (1, 0), (0, a4), (5, a5), (6, a6)] [] w14
  refine pv_aload (n := 44) d_X_register_42 rfl rfl ?_
  obtain ⟨g16, h⟩ := h
  refine gt_X_76 (n := 47) rfl d_X_register_44 g16 rfl ?_
  refine pv_callS (n := 50) [(0, (w14.1 4 (pw_i a6) 2))] [] (con_X_checkState hl0 h) q_124 q_125 q_62 q_123 pyo_X_checkState (by decide) rfl rfl d_X_register_47 rfl (fun w17 r18 h _ => ?_) (fun _ _ h => pvx_out rfl h)
  show pw_V l g cx_X_register Q X 50 [(9, 0), (0, a1), (1, 0), (1, 0), (0, a4), (5, a5), (6, a6)] [] w17
  refine pv_aload_n (n := 51) d_X_register_50 rfl rfl rfl ?_
  refine pv_iload_n (n := 52) d_X_register_51 rfl rfl rfl ?_
  refine pv_aload (n := 54) d_X_register_52 rfl rfl ?_
  refine pv_aload (n := 56) d_X_register_54 rfl rfl ?_
  refine pv_callV (n := 59) (x := 0) [(0, a1), (5, a5), (6, a6)] [] (con_X_hasRight hl0 h) pw_cf7 rfl q_63 q_64 q_65 q_62 q_61 pyo_X_hasRight (by decide) rfl rfl (by decide) d_X_register_56 rfl (fun w19 r20 h _ => ?_) (fun _ _ h => h.elim)
  show pw_V l g cx_X_register Q X 59 [(9, 0), (0, a1), (1, 0), (1, 0), (0, a4), (5, a5), (6, a6)] [(0, r20)] w19
  refine pv_if_ne (n := 62) (tgt := 66) d_X_register_59 (by decide) rfl (fun c21 => ?_) (fun c21 => ?_)
  · replace h := h.1 c21
    refine pv_iconst (v := 0) (n := 67) d_X_register_66 (by decide) rfl ?_
    exact vjp_X_register_67 hl0 _ _ _ _ _ _ h
  · replace h := h.2 c21
    refine pv_iconst (v := 1) (n := 63) d_X_register_62 (by decide) rfl ?_
    refine pv_goto (tgt := 67) d_X_register_63 (by decide) ?_
    exact vjp_X_register_67 hl0 _ _ _ _ _ _ h
set_option maxHeartbeats 4000000 in
set_option maxRecDepth 20000 in
def jp_X_register_34 (Q : pw_W → Int32 → Prop) (X : pw_W → Nat → Prop) (a1 a4 a5 a6 : Int32) (w : pw_W) : Prop := jp_X_register_39 Q X a1 a4 a5 a6 1 w
set_option maxHeartbeats 4000000 in
set_option maxRecDepth 20000 in
theorem vjp_X_register_34 {l : Launch} {g : pw_G} {Q : pw_W → Int32 → Prop} {X : pw_W → Nat → Prop} (hl0 : l.stackTraces = false) (a1 a4 a5 a6 : Int32) (w : pw_W) (h : jp_X_register_34 Q X a1 a4 a5 a6 w) : pw_V l g cx_X_register Q X 34 [(9, 0), (0, a1), (1, 0), (1, 0), (0, a4), (5, a5), (6, a6)] [] w := by
  unfold jp_X_register_34 at h
  refine pv_iconst (v := 1) (n := 35) d_X_register_34 (by decide) rfl ?_
  refine pv_goto (tgt := 39) d_X_register_35 (by decide) ?_
  exact vjp_X_register_39 hl0 _ _ _ _ _ _ h
set_option maxHeartbeats 4000000 in
set_option maxRecDepth 20000 in
def wp_X_register (w : pw_W) (a1 a2 a3 a4 : Int32) (Q : pw_W → Int32 → Prop) (X : pw_W → Nat → Prop) : Prop := wp_X_checkIndex w a1 3 (fun w22 r23 => wp_X_parcelNumbered w22 a2 (fun w24 r25 => wp_X_personNumbered w24 a3 (fun w26 r27 => (¬ a1 = 0 → jp_X_register_34 Q X a1 a4 r25 r27 w26) ∧ (a1 = 0 → wp_X_isInRange w26 a4 1 99 (fun w29 r30 => (r30 = 0 → jp_X_register_39 Q X a1 a4 r25 r27 0 w29) ∧ (¬ r30 = 0 → jp_X_register_34 Q X a1 a4 r25 r27 w29)) (fun _ _ => False))) X) X) X
set_option maxHeartbeats 4000000 in
set_option maxRecDepth 20000 in
theorem vw_X_register {l : Launch} {g : pw_G} {Q : pw_W → Int32 → Prop} {X : pw_W → Nat → Prop} (hl0 : l.stackTraces = false) {w : pw_W} {a1 a2 a3 a4 : Int32} (h : wp_X_register w a1 a2 a3 a4 Q X) : pw_V l g cx_X_register Q X 0 [(9, 0), (0, a1), (0, a2), (0, a3), (0, a4), (1, 0), (1, 0)] [] w := by
  unfold wp_X_register at h
  refine pv_iload_n (n := 1) d_X_register_0 rfl rfl rfl ?_
  refine pv_iconst (v := 3) (n := 2) d_X_register_1 (by decide) rfl ?_
  refine pv_callS (n := 5) [(0, a1), (0, 3)] [] (con_X_checkIndex hl0 h) q_91 q_92 q_62 q_90 pyo_X_checkIndex (by decide) rfl rfl d_X_register_2 rfl (fun w22 r23 h _ => ?_) (fun _ _ h => pvx_out rfl h)
  show pw_V l g cx_X_register Q X 5 [(9, 0), (0, a1), (0, a2), (0, a3), (0, a4), (1, 0), (1, 0)] [] w22
  refine pv_aload_n (n := 6) d_X_register_5 rfl rfl rfl ?_
  refine pv_iload_n (n := 7) d_X_register_6 rfl rfl rfl ?_
  refine pv_callV (n := 10) (x := 0) [(0, a2)] [] (con_X_parcelNumbered hl0 h) pw_cf7 rfl q_146 q_147 q_148 q_62 q_145 pyo_X_parcelNumbered (by decide) rfl rfl (by decide) d_X_register_7 rfl (fun w24 r25 h _ => ?_) (fun _ _ h => pvx_out rfl h)
  show pw_V l g cx_X_register Q X 10 [(9, 0), (0, a1), (0, a2), (0, a3), (0, a4), (1, 0), (1, 0)] [(5, r25)] w24
  refine pv_astore (n := 12) (L' := [(9, 0), (0, a1), (0, a2), (0, a3), (0, a4), (5, r25), (1, 0)]) d_X_register_10 (by decide) rfl rfl ?_
  refine pv_aload_n (n := 13) d_X_register_12 rfl rfl rfl ?_
  refine pv_iload_n (n := 14) d_X_register_13 rfl rfl rfl ?_
  refine pv_callV (n := 17) (x := 0) [(0, a3)] [] (con_X_personNumbered hl0 h) pw_cf7 rfl q_139 q_140 q_141 q_62 q_138 pyo_X_personNumbered (by decide) rfl rfl (by decide) d_X_register_14 rfl (fun w26 r27 h _ => ?_) (fun _ _ h => pvx_out rfl h)
  show pw_V l g cx_X_register Q X 17 [(9, 0), (0, a1), (0, a2), (0, a3), (0, a4), (5, r25), (1, 0)] [(6, r27)] w26
  refine pv_astore (n := 19) (L' := [(9, 0), (0, a1), (0, a2), (0, a3), (0, a4), (5, r25), (6, r27)]) d_X_register_17 (by decide) rfl rfl ?_
  refine pv_iload_n (n := 20) d_X_register_19 rfl rfl rfl ?_
  refine pv_if_ne (n := 23) (tgt := 34) d_X_register_20 (by decide) rfl (fun c28 => ?_) (fun c28 => ?_)
  · replace h := h.1 c28
    refine pv_unset (i := 2) (L1 := [(9, 0), (0, a1), (1, 0), (0, a3), (0, a4), (5, r25), (6, r27)]) rfl ?_
    refine pv_unset (i := 3) (L1 := [(9, 0), (0, a1), (1, 0), (1, 0), (0, a4), (5, r25), (6, r27)]) rfl ?_
    exact vjp_X_register_34 hl0 _ _ _ _ _ h
  · replace h := h.2 c28
    refine pv_iload (n := 25) d_X_register_23 rfl rfl ?_
    refine pv_iconst (v := 1) (n := 26) d_X_register_25 (by decide) rfl ?_
    refine pv_bipush (v := 99) (n := 28) d_X_register_26 (by decide) rfl ?_
    refine pv_callS (n := 31) [(0, a4), (0, 1), (0, 99)] [] (con_X_isInRange hl0 h) q_96 q_97 q_62 q_95 pyo_X_isInRange (by decide) rfl rfl d_X_register_28 rfl (fun w29 r30 h _ => ?_) (fun _ _ h => h.elim)
    show pw_V l g cx_X_register Q X 31 [(9, 0), (0, a1), (0, a2), (0, a3), (0, a4), (5, r25), (6, r27)] [(0, r30)] w29
    refine pv_if_eq (n := 34) (tgt := 38) d_X_register_31 (by decide) rfl (fun c31 => ?_) (fun c31 => ?_)
    · replace h := h.1 c31
      refine pv_iconst (v := 0) (n := 39) d_X_register_38 (by decide) rfl ?_
      refine pv_unset (i := 2) (L1 := [(9, 0), (0, a1), (1, 0), (0, a3), (0, a4), (5, r25), (6, r27)]) rfl ?_
      refine pv_unset (i := 3) (L1 := [(9, 0), (0, a1), (1, 0), (1, 0), (0, a4), (5, r25), (6, r27)]) rfl ?_
      exact vjp_X_register_39 hl0 _ _ _ _ _ _ h
    · replace h := h.2 c31
      refine pv_unset (i := 2) (L1 := [(9, 0), (0, a1), (1, 0), (0, a3), (0, a4), (5, r25), (6, r27)]) rfl ?_
      refine pv_unset (i := 3) (L1 := [(9, 0), (0, a1), (1, 0), (1, 0), (0, a4), (5, r25), (6, r27)]) rfl ?_
      exact vjp_X_register_34 hl0 _ _ _ _ _ h
set_option maxHeartbeats 4000000 in
set_option maxRecDepth 20000 in
theorem con_X_register {l : Launch} {g : pw_G} {Q : pw_W → Int32 → Prop} {X : pw_W → Nat → Prop} (hl0 : l.stackTraces = false) {w : pw_W} {a1 a2 a3 a4 : Int32} (h : wp_X_register w a1 a2 a3 a4 Q X) : pw_Con l g y_X_register cx_X_register [(9, 0), (0, a1), (0, a2), (0, a3), (0, a4)] w Q X :=
  pw_con (by decide +kernel) rfl rfl hl0 rfl (Nat.le_of_ble_eq_true rfl) (by simp) (vw_X_register hl0 h)
theorem d_X_rightNumbered_0 : decode (pw_cc cx_X_rightNumbered) 0 = .ok (.iload_n 1, 1) := by decide +kernel
theorem d_X_rightNumbered_1 : decode (pw_cc cx_X_rightNumbered) 1 = .ok (.aload_n 0, 1) := by decide +kernel
theorem d_X_rightNumbered_2 : decode (pw_cc cx_X_rightNumbered) 2 = .ok (.getfield 34, 3) := by decide +kernel
theorem d_X_rightNumbered_5 : decode (pw_cc cx_X_rightNumbered) 5 = .ok (.invokeinterface 88 1, 5) := by decide +kernel
theorem d_X_rightNumbered_10 : decode (pw_cc cx_X_rightNumbered) 10 = .ok (.invokestatic 203, 3) := by decide +kernel
theorem d_X_rightNumbered_13 : decode (pw_cc cx_X_rightNumbered) 13 = .ok (.aload_n 0, 1) := by decide +kernel
theorem d_X_rightNumbered_14 : decode (pw_cc cx_X_rightNumbered) 14 = .ok (.getfield 34, 3) := by decide +kernel
theorem d_X_rightNumbered_17 : decode (pw_cc cx_X_rightNumbered) 17 = .ok (.iload_n 1, 1) := by decide +kernel
theorem d_X_rightNumbered_18 : decode (pw_cc cx_X_rightNumbered) 18 = .ok (.invokeinterface 382 2, 5) := by decide +kernel
theorem d_X_rightNumbered_23 : decode (pw_cc cx_X_rightNumbered) 23 = .ok (.checkcast 210, 3) := by decide +kernel
theorem d_X_rightNumbered_26 : decode (pw_cc cx_X_rightNumbered) 26 = .ok (.areturn, 1) := by decide +kernel
set_option maxHeartbeats 4000000 in
set_option maxRecDepth 20000 in
def wp_X_rightNumbered (w : pw_W) (a1 : Int32) (Q : pw_W → Int32 → Prop) (X : pw_W → Nat → Prop) : Prop := w.1 7 0 5 = 0 ∧ wp_X_checkIndex w a1 (nI (pw_ln w 25 0)) (fun w2 r3 => w2.1 7 0 5 = 0 ∧ pw_jn a1 (pw_ln w2 25 0) ∧ Q w2 (w2.1 25 0 (pw_i a1))) X
set_option maxHeartbeats 4000000 in
set_option maxRecDepth 20000 in
theorem vw_X_rightNumbered {l : Launch} {g : pw_G} {Q : pw_W → Int32 → Prop} {X : pw_W → Nat → Prop} (hl0 : l.stackTraces = false) {w : pw_W} {a1 : Int32} (h : wp_X_rightNumbered w a1 Q X) : pw_V l g cx_X_rightNumbered Q X 0 [(9, 0), (0, a1)] [] w := by
  unfold wp_X_rightNumbered at h
  refine pv_iload_n (n := 1) d_X_rightNumbered_0 rfl rfl rfl ?_
  refine pv_aload_n (n := 2) d_X_rightNumbered_1 rfl rfl rfl ?_
  obtain ⟨g1, h⟩ := h
  refine gt_X_34 (n := 5) rfl d_X_rightNumbered_2 (by decide) g1 rfl ?_
  refine pv_lsize (n := 10) (f := 25) (by decide) q_49 (by decide) rfl d_X_rightNumbered_5 (by decide) rfl ?_
  refine pv_callS (n := 13) [(0, a1), (0, (nI (pw_ln w 25 0)))] [] (con_X_checkIndex hl0 h) q_91 q_92 q_62 q_90 pyo_X_checkIndex (by decide) rfl rfl d_X_rightNumbered_10 rfl (fun w2 r3 h _ => ?_) (fun _ _ h => pvx_out rfl h)
  show pw_V l g cx_X_rightNumbered Q X 13 [(9, 0), (0, a1)] [] w2
  refine pv_aload_n (n := 14) d_X_rightNumbered_13 rfl rfl rfl ?_
  obtain ⟨g4, h⟩ := h
  refine gt_X_34 (n := 17) rfl d_X_rightNumbered_14 (by decide) g4 rfl ?_
  refine pv_iload_n (n := 18) d_X_rightNumbered_17 rfl rfl rfl ?_
  obtain ⟨g5, h⟩ := h
  refine pv_lget (n := 23) (f := 25) (F := 5) (by decide) rfl q_52 (by decide) rfl d_X_rightNumbered_18 (by decide) g5 rfl (fun _ => ?_)
  refine pv_cast (n := 26) pw_cf5 q_53 d_X_rightNumbered_23 rfl ?_
  exact pv_aret rfl (Or.inl ⟨_, rfl⟩) rfl d_X_rightNumbered_26 h
set_option maxHeartbeats 4000000 in
set_option maxRecDepth 20000 in
theorem con_X_rightNumbered {l : Launch} {g : pw_G} {Q : pw_W → Int32 → Prop} {X : pw_W → Nat → Prop} (hl0 : l.stackTraces = false) {w : pw_W} {a1 : Int32} (h : wp_X_rightNumbered w a1 Q X) : pw_Con l g y_X_rightNumbered cx_X_rightNumbered [(9, 0), (0, a1)] w Q X :=
  pw_con (by decide +kernel) rfl rfl hl0 rfl (Nat.le_of_ble_eq_true rfl) (by simp) (vw_X_rightNumbered hl0 h)
theorem d_Parcel_room_0 : decode (pw_cc cx_Parcel_room) 0 = .ok (.iconst 2, 1) := by decide +kernel
theorem d_Parcel_room_1 : decode (pw_cc cx_Parcel_room) 1 = .ok (.aload_n 0, 1) := by decide +kernel
theorem d_Parcel_room_2 : decode (pw_cc cx_Parcel_room) 2 = .ok (.getfield 27, 3) := by decide +kernel
theorem d_Parcel_room_5 : decode (pw_cc cx_Parcel_room) 5 = .ok (.imul, 1) := by decide +kernel
theorem d_Parcel_room_6 : decode (pw_cc cx_Parcel_room) 6 = .ok (.ireturn, 1) := by decide +kernel
set_option maxHeartbeats 4000000 in
set_option maxRecDepth 20000 in
def wp_Parcel_room (w : pw_W) (a0 : Int32) (Q : pw_W → Int32 → Prop) (X : pw_W → Nat → Prop) : Prop := 0 ≤ a0 ∧ Q w ((2 : Int32) * (w.1 3 (pw_i a0) 4))
set_option maxHeartbeats 4000000 in
set_option maxRecDepth 20000 in
theorem vw_Parcel_room {l : Launch} {g : pw_G} {Q : pw_W → Int32 → Prop} {X : pw_W → Nat → Prop} (hl0 : l.stackTraces = false) {w : pw_W} {a0 : Int32} (h : wp_Parcel_room w a0 Q X) : pw_V l g cx_Parcel_room Q X 0 [(5, a0)] [] w := by
  unfold wp_Parcel_room at h
  refine pv_iconst (v := 2) (n := 1) d_Parcel_room_0 (by decide) rfl ?_
  refine pv_aload_n (n := 2) d_Parcel_room_1 rfl rfl rfl ?_
  obtain ⟨g1, h⟩ := h
  refine gt_Parcel_27 (n := 5) rfl d_Parcel_room_2 g1 rfl ?_
  refine pv_imul (n := 6) d_Parcel_room_5 rfl ?_
  exact pv_iret rfl rfl d_Parcel_room_6 h
set_option maxHeartbeats 4000000 in
set_option maxRecDepth 20000 in
theorem con_Parcel_room {l : Launch} {g : pw_G} {Q : pw_W → Int32 → Prop} {X : pw_W → Nat → Prop} (hl0 : l.stackTraces = false) {w : pw_W} {a0 : Int32} (h : wp_Parcel_room w a0 Q X) : pw_Con l g y_Parcel_room cx_Parcel_room [(5, a0)] w Q X :=
  pw_con (by decide +kernel) rfl rfl hl0 rfl (Nat.le_of_ble_eq_true rfl) (by simp) (vw_Parcel_room hl0 h)
theorem d_X_worthOf_0 : decode (pw_cc cx_X_worthOf) 0 = .ok (.aload_n 0, 1) := by decide +kernel
theorem d_X_worthOf_1 : decode (pw_cc cx_X_worthOf) 1 = .ok (.iload_n 1, 1) := by decide +kernel
theorem d_X_worthOf_2 : decode (pw_cc cx_X_worthOf) 2 = .ok (.invokevirtual 219, 3) := by decide +kernel
theorem d_X_worthOf_5 : decode (pw_cc cx_X_worthOf) 5 = .ok (.astore_n 2, 1) := by decide +kernel
theorem d_X_worthOf_6 : decode (pw_cc cx_X_worthOf) 6 = .ok (.aload_n 2, 1) := by decide +kernel
theorem d_X_worthOf_7 : decode (pw_cc cx_X_worthOf) 7 = .ok (.getfield 342, 3) := by decide +kernel
theorem d_X_worthOf_10 : decode (pw_cc cx_X_worthOf) 10 = .ok (.ifCond .eq 5, 3) := by decide +kernel
theorem d_X_worthOf_13 : decode (pw_cc cx_X_worthOf) 13 = .ok (.iconst 0, 1) := by decide +kernel
theorem d_X_worthOf_14 : decode (pw_cc cx_X_worthOf) 14 = .ok (.ireturn, 1) := by decide +kernel
theorem d_X_worthOf_15 : decode (pw_cc cx_X_worthOf) 15 = .ok (.aload_n 2, 1) := by decide +kernel
theorem d_X_worthOf_16 : decode (pw_cc cx_X_worthOf) 16 = .ok (.getfield 345, 3) := by decide +kernel
theorem d_X_worthOf_19 : decode (pw_cc cx_X_worthOf) 19 = .ok (.invokevirtual 429, 3) := by decide +kernel
theorem d_X_worthOf_22 : decode (pw_cc cx_X_worthOf) 22 = .ok (.istore_n 3, 1) := by decide +kernel
theorem d_X_worthOf_23 : decode (pw_cc cx_X_worthOf) 23 = .ok (.iconst 0, 1) := by decide +kernel
theorem d_X_worthOf_24 : decode (pw_cc cx_X_worthOf) 24 = .ok (.istore 4, 2) := by decide +kernel
theorem d_X_worthOf_26 : decode (pw_cc cx_X_worthOf) 26 = .ok (.iload 4, 2) := by decide +kernel
theorem d_X_worthOf_28 : decode (pw_cc cx_X_worthOf) 28 = .ok (.iload_n 1, 1) := by decide +kernel
theorem d_X_worthOf_29 : decode (pw_cc cx_X_worthOf) 29 = .ok (.if_icmp .ge 53, 3) := by decide +kernel
theorem d_X_worthOf_32 : decode (pw_cc cx_X_worthOf) 32 = .ok (.aload_n 0, 1) := by decide +kernel
theorem d_X_worthOf_33 : decode (pw_cc cx_X_worthOf) 33 = .ok (.getfield 34, 3) := by decide +kernel
theorem d_X_worthOf_36 : decode (pw_cc cx_X_worthOf) 36 = .ok (.iload 4, 2) := by decide +kernel
theorem d_X_worthOf_38 : decode (pw_cc cx_X_worthOf) 38 = .ok (.invokeinterface 382 2, 5) := by decide +kernel
theorem d_X_worthOf_43 : decode (pw_cc cx_X_worthOf) 43 = .ok (.checkcast 210, 3) := by decide +kernel
theorem d_X_worthOf_46 : decode (pw_cc cx_X_worthOf) 46 = .ok (.astore 5, 2) := by decide +kernel
theorem d_X_worthOf_48 : decode (pw_cc cx_X_worthOf) 48 = .ok (.aload 5, 2) := by decide +kernel
theorem d_X_worthOf_50 : decode (pw_cc cx_X_worthOf) 50 = .ok (.aload_n 2, 1) := by decide +kernel
theorem d_X_worthOf_51 : decode (pw_cc cx_X_worthOf) 51 = .ok (.getfield 345, 3) := by decide +kernel
theorem d_X_worthOf_54 : decode (pw_cc cx_X_worthOf) 54 = .ok (.invokevirtual 418, 3) := by decide +kernel
theorem d_X_worthOf_57 : decode (pw_cc cx_X_worthOf) 57 = .ok (.ifCond .eq 19, 3) := by decide +kernel
theorem d_X_worthOf_60 : decode (pw_cc cx_X_worthOf) 60 = .ok (.aload 5, 2) := by decide +kernel
theorem d_X_worthOf_62 : decode (pw_cc cx_X_worthOf) 62 = .ok (.getfield 342, 3) := by decide +kernel
theorem d_X_worthOf_65 : decode (pw_cc cx_X_worthOf) 65 = .ok (.ifCond .ne 11, 3) := by decide +kernel
theorem d_X_worthOf_68 : decode (pw_cc cx_X_worthOf) 68 = .ok (.iload_n 3, 1) := by decide +kernel
theorem d_X_worthOf_69 : decode (pw_cc cx_X_worthOf) 69 = .ok (.aload 5, 2) := by decide +kernel
theorem d_X_worthOf_71 : decode (pw_cc cx_X_worthOf) 71 = .ok (.getfield 426, 3) := by decide +kernel
theorem d_X_worthOf_74 : decode (pw_cc cx_X_worthOf) 74 = .ok (.isub, 1) := by decide +kernel
theorem d_X_worthOf_75 : decode (pw_cc cx_X_worthOf) 75 = .ok (.istore_n 3, 1) := by decide +kernel
theorem d_X_worthOf_76 : decode (pw_cc cx_X_worthOf) 76 = .ok (.iinc 4 1, 3) := by decide +kernel
theorem d_X_worthOf_79 : decode (pw_cc cx_X_worthOf) 79 = .ok (.goto (-53), 3) := by decide +kernel
theorem d_X_worthOf_82 : decode (pw_cc cx_X_worthOf) 82 = .ok (.iconst 0, 1) := by decide +kernel
theorem d_X_worthOf_83 : decode (pw_cc cx_X_worthOf) 83 = .ok (.aload_n 2, 1) := by decide +kernel
theorem d_X_worthOf_84 : decode (pw_cc cx_X_worthOf) 84 = .ok (.getfield 426, 3) := by decide +kernel
theorem d_X_worthOf_87 : decode (pw_cc cx_X_worthOf) 87 = .ok (.iload_n 3, 1) := by decide +kernel
theorem d_X_worthOf_88 : decode (pw_cc cx_X_worthOf) 88 = .ok (.invokestatic 241, 3) := by decide +kernel
theorem d_X_worthOf_91 : decode (pw_cc cx_X_worthOf) 91 = .ok (.invokestatic 432, 3) := by decide +kernel
theorem d_X_worthOf_94 : decode (pw_cc cx_X_worthOf) 94 = .ok (.ireturn, 1) := by decide +kernel
set_option maxHeartbeats 4000000 in
set_option maxRecDepth 20000 in
def lp_X_worthOf_26 (Q : pw_W → Int32 → Prop) (X : pw_W → Nat → Prop) : Nat → Int32 → Int32 → Int32 → Int32 → pw_W → Prop := fun k => Nat.rec (motive := fun _ => Int32 → Int32 → Int32 → Int32 → pw_W → Prop) (fun _ _ _ _ _ => False) (fun _ ih a1 a2 a3 a4 w => (a1 ≤ a4 → 0 ≤ a2 ∧ Q w (if (0 : Int32) < (if a3 < (w.1 5 (pw_i a2) 3) then a3 else (w.1 5 (pw_i a2) 3)) then (if a3 < (w.1 5 (pw_i a2) 3) then a3 else (w.1 5 (pw_i a2) 3)) else 0)) ∧ (¬ a1 ≤ a4 → w.1 7 0 5 = 0 ∧ pw_jn a4 (pw_ln w 25 0) ∧ ∀ v5, v5 = (w.1 25 0 (pw_i a4)) → 0 ≤ a2 ∧ 0 ≤ v5 ∧ wp_Right_isOn w v5 (w.1 5 (pw_i a2) 1) (fun w8 r9 => (r9 = 0 → ih a1 a2 a3 (a4 + 1) w8) ∧ (¬ r9 = 0 → (¬ (w8.1 5 (pw_i v5) 0) = 0 → ih a1 a2 a3 (a4 + 1) w8) ∧ ((w8.1 5 (pw_i v5) 0) = 0 → ∀ v13, v13 = (a3 - (w8.1 5 (pw_i v5) 3)) → ih a1 a2 v13 (a4 + 1) w8))) (fun _ _ => False))) k
set_option maxHeartbeats 4000000 in
set_option maxRecDepth 20000 in
theorem lp_X_worthOf_26_s {Q : pw_W → Int32 → Prop} {X : pw_W → Nat → Prop}  {k : Nat} {a1 a2 a3 a4 : Int32} {w : pw_W} : lp_X_worthOf_26 Q X (k + 1) a1 a2 a3 a4 w = (let ih := lp_X_worthOf_26 Q X k; (a1 ≤ a4 → 0 ≤ a2 ∧ Q w (if (0 : Int32) < (if a3 < (w.1 5 (pw_i a2) 3) then a3 else (w.1 5 (pw_i a2) 3)) then (if a3 < (w.1 5 (pw_i a2) 3) then a3 else (w.1 5 (pw_i a2) 3)) else 0)) ∧ (¬ a1 ≤ a4 → w.1 7 0 5 = 0 ∧ pw_jn a4 (pw_ln w 25 0) ∧ ∀ v5, v5 = (w.1 25 0 (pw_i a4)) → 0 ≤ a2 ∧ 0 ≤ v5 ∧ wp_Right_isOn w v5 (w.1 5 (pw_i a2) 1) (fun w8 r9 => (r9 = 0 → ih a1 a2 a3 (a4 + 1) w8) ∧ (¬ r9 = 0 → (¬ (w8.1 5 (pw_i v5) 0) = 0 → ih a1 a2 a3 (a4 + 1) w8) ∧ ((w8.1 5 (pw_i v5) 0) = 0 → ∀ v13, v13 = (a3 - (w8.1 5 (pw_i v5) 3)) → ih a1 a2 v13 (a4 + 1) w8))) (fun _ _ => False))) := rfl
set_option maxHeartbeats 4000000 in
set_option maxRecDepth 20000 in
theorem vlp_X_worthOf_26 {l : Launch} {g : pw_G} {Q : pw_W → Int32 → Prop} {X : pw_W → Nat → Prop} (hl0 : l.stackTraces = false) : ∀ (k : Nat) (a1 a2 a3 a4 : Int32) (w : pw_W), lp_X_worthOf_26 Q X k a1 a2 a3 a4 w → pw_V l g cx_X_worthOf Q X 26 [(9, 0), (0, a1), (7, a2), (0, a3), (0, a4), (1, 0)] [] w := by
  intro k; induction k with
  | zero => intro _ _ _ _ _ h; exact h.elim
  | succ k ih =>
    intro a1 a2 a3 a4 w h
    rw [lp_X_worthOf_26_s] at h
    refine pv_iload (n := 28) d_X_worthOf_26 rfl rfl ?_
    refine pv_iload_n (n := 29) d_X_worthOf_28 rfl rfl rfl ?_
    refine pv_icmp_ge (n := 32) (tgt := 82) d_X_worthOf_29 (by decide) rfl (fun c1 => ?_) (fun c1 => ?_)
    · replace h := h.1 c1
      refine pv_iconst (v := 0) (n := 83) d_X_worthOf_82 (by decide) rfl ?_
      refine pv_aload_n (n := 84) d_X_worthOf_83 rfl rfl rfl ?_
      obtain ⟨g2, h⟩ := h
      refine gt_X_426 (n := 87) rfl d_X_worthOf_84 g2 rfl ?_
      refine pv_iload_n (n := 88) d_X_worthOf_87 rfl rfl rfl ?_
      refine pv_mmin (n := 91) (pw_mw_min q_253 (by decide)) rfl d_X_worthOf_88 rfl ?_
      refine pv_mmax (n := 94) (pw_mw_max q_254 (by decide)) rfl d_X_worthOf_91 rfl ?_
      exact pv_iret rfl rfl d_X_worthOf_94 h
    · replace h := h.2 c1
      refine pv_aload_n (n := 33) d_X_worthOf_32 rfl rfl rfl ?_
      obtain ⟨g3, h⟩ := h
      refine gt_X_34 (n := 36) rfl d_X_worthOf_33 (by decide) g3 rfl ?_
      refine pv_iload (n := 38) d_X_worthOf_36 rfl rfl ?_
      obtain ⟨g4, h⟩ := h
      refine pv_lget (n := 43) (f := 25) (F := 5) (by decide) rfl q_52 (by decide) rfl d_X_worthOf_38 (by decide) g4 rfl (fun _ => ?_)
      refine pv_cast (n := 46) pw_cf5 q_53 d_X_worthOf_43 rfl ?_
      refine pv_nm (fun v5 e6 => ?_)
      replace h := h v5 e6
      refine pv_astore (n := 48) (L' := [(9, 0), (0, a1), (7, a2), (0, a3), (0, a4), (7, v5)]) d_X_worthOf_46 (by decide) rfl rfl ?_
      refine pv_aload (n := 50) d_X_worthOf_48 rfl rfl ?_
      refine pv_aload_n (n := 51) d_X_worthOf_50 rfl rfl rfl ?_
      obtain ⟨g7, h⟩ := h
      refine gt_X_345 (n := 54) rfl d_X_worthOf_51 g7 rfl ?_
      obtain ⟨g10, h⟩ := h
      refine pv_callV (n := 57) (x := v5) [(5, (w.1 5 (pw_i a2) 1))] [] (con_Right_isOn hl0 h) pw_cf5 rfl q_58 q_59 q_60 q_57 q_56 pyo_Right_isOn (by decide) rfl rfl g10 d_X_worthOf_54 rfl (fun w8 r9 h _ => ?_) (fun _ _ h => h.elim)
      show pw_V l g cx_X_worthOf Q X 57 [(9, 0), (0, a1), (7, a2), (0, a3), (0, a4), (7, v5)] [(0, r9)] w8
      refine pv_if_eq (n := 60) (tgt := 76) d_X_worthOf_57 (by decide) rfl (fun c11 => ?_) (fun c11 => ?_)
      · replace h := h.1 c11
        refine pv_iinc (v := (a4 + 1)) (n := 79) (L1 := [(9, 0), (0, a1), (7, a2), (0, a3), (0, (a4 + 1)), (7, v5)]) d_X_worthOf_76 rfl rfl rfl (by decide) rfl ?_
        refine pv_goto (tgt := 26) d_X_worthOf_79 (by decide) ?_
        refine pv_unset (i := 5) (L1 := [(9, 0), (0, a1), (7, a2), (0, a3), (0, (a4 + 1)), (1, 0)]) rfl ?_
        exact ih _ _ _ _ _ h
      · replace h := h.2 c11
        refine pv_aload (n := 62) d_X_worthOf_60 rfl rfl ?_
        refine gt_X_342 (n := 65) rfl d_X_worthOf_62 g10 rfl ?_
        refine pv_if_ne (n := 68) (tgt := 76) d_X_worthOf_65 (by decide) rfl (fun c12 => ?_) (fun c12 => ?_)
        · replace h := h.1 c12
          refine pv_iinc (v := (a4 + 1)) (n := 79) (L1 := [(9, 0), (0, a1), (7, a2), (0, a3), (0, (a4 + 1)), (7, v5)]) d_X_worthOf_76 rfl rfl rfl (by decide) rfl ?_
          refine pv_goto (tgt := 26) d_X_worthOf_79 (by decide) ?_
          refine pv_unset (i := 5) (L1 := [(9, 0), (0, a1), (7, a2), (0, a3), (0, (a4 + 1)), (1, 0)]) rfl ?_
          exact ih _ _ _ _ _ h
        · replace h := h.2 c12
          refine pv_iload_n (n := 69) d_X_worthOf_68 rfl rfl rfl ?_
          refine pv_aload (n := 71) d_X_worthOf_69 rfl rfl ?_
          refine gt_X_426 (n := 74) rfl d_X_worthOf_71 g10 rfl ?_
          refine pv_isub (n := 75) d_X_worthOf_74 rfl ?_
          refine pv_nm (fun v13 e14 => ?_)
          replace h := h v13 e14
          refine pv_istore_n (n := 76) (L' := [(9, 0), (0, a1), (7, a2), (0, v13), (0, a4), (7, v5)]) d_X_worthOf_75 rfl (by decide) rfl rfl ?_
          refine pv_iinc (v := (a4 + 1)) (n := 79) (L1 := [(9, 0), (0, a1), (7, a2), (0, v13), (0, (a4 + 1)), (7, v5)]) d_X_worthOf_76 rfl rfl rfl (by decide) rfl ?_
          refine pv_goto (tgt := 26) d_X_worthOf_79 (by decide) ?_
          refine pv_unset (i := 5) (L1 := [(9, 0), (0, a1), (7, a2), (0, v13), (0, (a4 + 1)), (1, 0)]) rfl ?_
          exact ih _ _ _ _ _ h
set_option maxHeartbeats 4000000 in
set_option maxRecDepth 20000 in
def wp_X_worthOf (w : pw_W) (a1 : Int32) (Q : pw_W → Int32 → Prop) (X : pw_W → Nat → Prop) : Prop := wp_X_rightNumbered w a1 (fun w15 r16 => 0 ≤ r16 ∧ ((w15.1 5 (pw_i r16) 0) = 0 → 0 ≤ (w15.1 5 (pw_i r16) 1) ∧ wp_Parcel_room w15 (w15.1 5 (pw_i r16) 1) (fun w19 r20 => ∃ k22, lp_X_worthOf_26 Q X k22 a1 r16 r20 0 w19) (fun _ _ => False)) ∧ (¬ (w15.1 5 (pw_i r16) 0) = 0 → Q w15 0)) X
set_option maxHeartbeats 4000000 in
set_option maxRecDepth 20000 in
theorem vw_X_worthOf {l : Launch} {g : pw_G} {Q : pw_W → Int32 → Prop} {X : pw_W → Nat → Prop} (hl0 : l.stackTraces = false) {w : pw_W} {a1 : Int32} (h : wp_X_worthOf w a1 Q X) : pw_V l g cx_X_worthOf Q X 0 [(9, 0), (0, a1), (1, 0), (1, 0), (1, 0), (1, 0)] [] w := by
  unfold wp_X_worthOf at h
  refine pv_aload_n (n := 1) d_X_worthOf_0 rfl rfl rfl ?_
  refine pv_iload_n (n := 2) d_X_worthOf_1 rfl rfl rfl ?_
  refine pv_callV (n := 5) (x := 0) [(0, a1)] [] (con_X_rightNumbered hl0 h) pw_cf7 rfl q_261 q_262 q_263 q_62 q_260 pyo_X_rightNumbered (by decide) rfl rfl (by decide) d_X_worthOf_2 rfl (fun w15 r16 h _ => ?_) (fun _ _ h => pvx_out rfl h)
  show pw_V l g cx_X_worthOf Q X 5 [(9, 0), (0, a1), (1, 0), (1, 0), (1, 0), (1, 0)] [(7, r16)] w15
  refine pv_astore_n (n := 6) (L' := [(9, 0), (0, a1), (7, r16), (1, 0), (1, 0), (1, 0)]) d_X_worthOf_5 rfl (by decide) rfl rfl ?_
  refine pv_aload_n (n := 7) d_X_worthOf_6 rfl rfl rfl ?_
  obtain ⟨g17, h⟩ := h
  refine gt_X_342 (n := 10) rfl d_X_worthOf_7 g17 rfl ?_
  refine pv_if_eq (n := 13) (tgt := 15) d_X_worthOf_10 (by decide) rfl (fun c18 => ?_) (fun c18 => ?_)
  · replace h := h.1 c18
    refine pv_aload_n (n := 16) d_X_worthOf_15 rfl rfl rfl ?_
    refine gt_X_345 (n := 19) rfl d_X_worthOf_16 g17 rfl ?_
    obtain ⟨g21, h⟩ := h
    refine pv_callV (n := 22) (x := (w15.1 5 (pw_i r16) 1)) [] [] (con_Parcel_room hl0 h) pw_cf3 rfl q_257 q_258 q_259 q_46 q_256 pyo_Parcel_room (by decide) rfl rfl g21 d_X_worthOf_19 rfl (fun w19 r20 h _ => ?_) (fun _ _ h => h.elim)
    show pw_V l g cx_X_worthOf Q X 22 [(9, 0), (0, a1), (7, r16), (1, 0), (1, 0), (1, 0)] [(0, r20)] w19
    refine pv_istore_n (n := 23) (L' := [(9, 0), (0, a1), (7, r16), (0, r20), (1, 0), (1, 0)]) d_X_worthOf_22 rfl (by decide) rfl rfl ?_
    refine pv_iconst (v := 0) (n := 24) d_X_worthOf_23 (by decide) rfl ?_
    refine pv_istore (n := 26) (L' := [(9, 0), (0, a1), (7, r16), (0, r20), (0, 0), (1, 0)]) d_X_worthOf_24 (by decide) rfl rfl ?_
    obtain ⟨k22, h⟩ := h
    exact vlp_X_worthOf_26 hl0 _ _ _ _ _ _ h
  · replace h := h.2 c18
    refine pv_iconst (v := 0) (n := 14) d_X_worthOf_13 (by decide) rfl ?_
    exact pv_iret rfl rfl d_X_worthOf_14 h
set_option maxHeartbeats 4000000 in
set_option maxRecDepth 20000 in
theorem con_X_worthOf {l : Launch} {g : pw_G} {Q : pw_W → Int32 → Prop} {X : pw_W → Nat → Prop} (hl0 : l.stackTraces = false) {w : pw_W} {a1 : Int32} (h : wp_X_worthOf w a1 Q X) : pw_Con l g y_X_worthOf cx_X_worthOf [(9, 0), (0, a1)] w Q X :=
  pw_con (by decide +kernel) rfl rfl hl0 rfl (Nat.le_of_ble_eq_true rfl) (by simp) (vw_X_worthOf hl0 h)
theorem d_X_worthOfRights_0 : decode (pw_cc cx_X_worthOfRights) 0 = .ok (.iconst 0, 1) := by decide +kernel
theorem d_X_worthOfRights_1 : decode (pw_cc cx_X_worthOfRights) 1 = .ok (.istore_n 3, 1) := by decide +kernel
theorem d_X_worthOfRights_2 : decode (pw_cc cx_X_worthOfRights) 2 = .ok (.iconst 0, 1) := by decide +kernel
theorem d_X_worthOfRights_3 : decode (pw_cc cx_X_worthOfRights) 3 = .ok (.istore 4, 2) := by decide +kernel
theorem d_X_worthOfRights_5 : decode (pw_cc cx_X_worthOfRights) 5 = .ok (.iload 4, 2) := by decide +kernel
theorem d_X_worthOfRights_7 : decode (pw_cc cx_X_worthOfRights) 7 = .ok (.aload_n 0, 1) := by decide +kernel
theorem d_X_worthOfRights_8 : decode (pw_cc cx_X_worthOfRights) 8 = .ok (.getfield 34, 3) := by decide +kernel
theorem d_X_worthOfRights_11 : decode (pw_cc cx_X_worthOfRights) 11 = .ok (.invokeinterface 88 1, 5) := by decide +kernel
theorem d_X_worthOfRights_16 : decode (pw_cc cx_X_worthOfRights) 16 = .ok (.if_icmp .ge 52, 3) := by decide +kernel
theorem d_X_worthOfRights_19 : decode (pw_cc cx_X_worthOfRights) 19 = .ok (.aload_n 0, 1) := by decide +kernel
theorem d_X_worthOfRights_20 : decode (pw_cc cx_X_worthOfRights) 20 = .ok (.getfield 34, 3) := by decide +kernel
theorem d_X_worthOfRights_23 : decode (pw_cc cx_X_worthOfRights) 23 = .ok (.iload 4, 2) := by decide +kernel
theorem d_X_worthOfRights_25 : decode (pw_cc cx_X_worthOfRights) 25 = .ok (.invokeinterface 382 2, 5) := by decide +kernel
theorem d_X_worthOfRights_30 : decode (pw_cc cx_X_worthOfRights) 30 = .ok (.checkcast 210, 3) := by decide +kernel
theorem d_X_worthOfRights_33 : decode (pw_cc cx_X_worthOfRights) 33 = .ok (.astore 5, 2) := by decide +kernel
theorem d_X_worthOfRights_35 : decode (pw_cc cx_X_worthOfRights) 35 = .ok (.aload 5, 2) := by decide +kernel
theorem d_X_worthOfRights_37 : decode (pw_cc cx_X_worthOfRights) 37 = .ok (.aload_n 2, 1) := by decide +kernel
theorem d_X_worthOfRights_38 : decode (pw_cc cx_X_worthOfRights) 38 = .ok (.invokevirtual 418, 3) := by decide +kernel
theorem d_X_worthOfRights_41 : decode (pw_cc cx_X_worthOfRights) 41 = .ok (.ifCond .eq 21, 3) := by decide +kernel
theorem d_X_worthOfRights_44 : decode (pw_cc cx_X_worthOfRights) 44 = .ok (.aload 5, 2) := by decide +kernel
theorem d_X_worthOfRights_46 : decode (pw_cc cx_X_worthOfRights) 46 = .ok (.getfield 346, 3) := by decide +kernel
theorem d_X_worthOfRights_49 : decode (pw_cc cx_X_worthOfRights) 49 = .ok (.aload_n 1, 1) := by decide +kernel
theorem d_X_worthOfRights_50 : decode (pw_cc cx_X_worthOfRights) 50 = .ok (.if_acmp .ne 12, 3) := by decide +kernel
theorem d_X_worthOfRights_53 : decode (pw_cc cx_X_worthOfRights) 53 = .ok (.iload_n 3, 1) := by decide +kernel
theorem d_X_worthOfRights_54 : decode (pw_cc cx_X_worthOfRights) 54 = .ok (.aload_n 0, 1) := by decide +kernel
theorem d_X_worthOfRights_55 : decode (pw_cc cx_X_worthOfRights) 55 = .ok (.iload 4, 2) := by decide +kernel
theorem d_X_worthOfRights_57 : decode (pw_cc cx_X_worthOfRights) 57 = .ok (.invokevirtual 347, 3) := by decide +kernel
theorem d_X_worthOfRights_60 : decode (pw_cc cx_X_worthOfRights) 60 = .ok (.iadd, 1) := by decide +kernel
theorem d_X_worthOfRights_61 : decode (pw_cc cx_X_worthOfRights) 61 = .ok (.istore_n 3, 1) := by decide +kernel
theorem d_X_worthOfRights_62 : decode (pw_cc cx_X_worthOfRights) 62 = .ok (.iinc 4 1, 3) := by decide +kernel
theorem d_X_worthOfRights_65 : decode (pw_cc cx_X_worthOfRights) 65 = .ok (.goto (-60), 3) := by decide +kernel
theorem d_X_worthOfRights_68 : decode (pw_cc cx_X_worthOfRights) 68 = .ok (.iload_n 3, 1) := by decide +kernel
theorem d_X_worthOfRights_69 : decode (pw_cc cx_X_worthOfRights) 69 = .ok (.ireturn, 1) := by decide +kernel
set_option maxHeartbeats 4000000 in
set_option maxRecDepth 20000 in
def lp_X_worthOfRights_5 (Q : pw_W → Int32 → Prop) (X : pw_W → Nat → Prop) : Nat → Int32 → Int32 → Int32 → Int32 → pw_W → Prop := fun k => Nat.rec (motive := fun _ => Int32 → Int32 → Int32 → Int32 → pw_W → Prop) (fun _ _ _ _ _ => False) (fun _ ih a1 a2 a3 a4 w => w.1 7 0 5 = 0 ∧ ((nI (pw_ln w 25 0)) ≤ a4 → Q w a3) ∧ (¬ (nI (pw_ln w 25 0)) ≤ a4 → w.1 7 0 5 = 0 ∧ pw_jn a4 (pw_ln w 25 0) ∧ ∀ v5, v5 = (w.1 25 0 (pw_i a4)) → 0 ≤ v5 ∧ wp_Right_isOn w v5 a2 (fun w7 r8 => (r8 = 0 → ih a1 a2 a3 (a4 + 1) w7) ∧ (¬ r8 = 0 → (¬ (w7.1 5 (pw_i v5) 2) = a1 → ih a1 a2 a3 (a4 + 1) w7) ∧ ((w7.1 5 (pw_i v5) 2) = a1 → wp_X_worthOf w7 a4 (fun w12 r13 => ∀ v14, v14 = (a3 + r13) → ih a1 a2 v14 (a4 + 1) w12) X))) (fun _ _ => False))) k
set_option maxHeartbeats 4000000 in
set_option maxRecDepth 20000 in
theorem lp_X_worthOfRights_5_s {Q : pw_W → Int32 → Prop} {X : pw_W → Nat → Prop}  {k : Nat} {a1 a2 a3 a4 : Int32} {w : pw_W} : lp_X_worthOfRights_5 Q X (k + 1) a1 a2 a3 a4 w = (let ih := lp_X_worthOfRights_5 Q X k; w.1 7 0 5 = 0 ∧ ((nI (pw_ln w 25 0)) ≤ a4 → Q w a3) ∧ (¬ (nI (pw_ln w 25 0)) ≤ a4 → w.1 7 0 5 = 0 ∧ pw_jn a4 (pw_ln w 25 0) ∧ ∀ v5, v5 = (w.1 25 0 (pw_i a4)) → 0 ≤ v5 ∧ wp_Right_isOn w v5 a2 (fun w7 r8 => (r8 = 0 → ih a1 a2 a3 (a4 + 1) w7) ∧ (¬ r8 = 0 → (¬ (w7.1 5 (pw_i v5) 2) = a1 → ih a1 a2 a3 (a4 + 1) w7) ∧ ((w7.1 5 (pw_i v5) 2) = a1 → wp_X_worthOf w7 a4 (fun w12 r13 => ∀ v14, v14 = (a3 + r13) → ih a1 a2 v14 (a4 + 1) w12) X))) (fun _ _ => False))) := rfl
set_option maxHeartbeats 4000000 in
set_option maxRecDepth 20000 in
theorem vlp_X_worthOfRights_5 {l : Launch} {g : pw_G} {Q : pw_W → Int32 → Prop} {X : pw_W → Nat → Prop} (hl0 : l.stackTraces = false) : ∀ (k : Nat) (a1 a2 a3 a4 : Int32) (w : pw_W), lp_X_worthOfRights_5 Q X k a1 a2 a3 a4 w → pw_V l g cx_X_worthOfRights Q X 5 [(9, 0), (6, a1), (5, a2), (0, a3), (0, a4), (1, 0)] [] w := by
  intro k; induction k with
  | zero => intro _ _ _ _ _ h; exact h.elim
  | succ k ih =>
    intro a1 a2 a3 a4 w h
    rw [lp_X_worthOfRights_5_s] at h
    refine pv_iload (n := 7) d_X_worthOfRights_5 rfl rfl ?_
    refine pv_aload_n (n := 8) d_X_worthOfRights_7 rfl rfl rfl ?_
    obtain ⟨g1, h⟩ := h
    refine gt_X_34 (n := 11) rfl d_X_worthOfRights_8 (by decide) g1 rfl ?_
    refine pv_lsize (n := 16) (f := 25) (by decide) q_49 (by decide) rfl d_X_worthOfRights_11 (by decide) rfl ?_
    refine pv_icmp_ge (n := 19) (tgt := 68) d_X_worthOfRights_16 (by decide) rfl (fun c2 => ?_) (fun c2 => ?_)
    · replace h := h.1 c2
      refine pv_iload_n (n := 69) d_X_worthOfRights_68 rfl rfl rfl ?_
      exact pv_iret rfl rfl d_X_worthOfRights_69 h
    · replace h := h.2 c2
      refine pv_aload_n (n := 20) d_X_worthOfRights_19 rfl rfl rfl ?_
      obtain ⟨g3, h⟩ := h
      refine gt_X_34 (n := 23) rfl d_X_worthOfRights_20 (by decide) g3 rfl ?_
      refine pv_iload (n := 25) d_X_worthOfRights_23 rfl rfl ?_
      obtain ⟨g4, h⟩ := h
      refine pv_lget (n := 30) (f := 25) (F := 5) (by decide) rfl q_52 (by decide) rfl d_X_worthOfRights_25 (by decide) g4 rfl (fun _ => ?_)
      refine pv_cast (n := 33) pw_cf5 q_53 d_X_worthOfRights_30 rfl ?_
      refine pv_nm (fun v5 e6 => ?_)
      replace h := h v5 e6
      refine pv_astore (n := 35) (L' := [(9, 0), (6, a1), (5, a2), (0, a3), (0, a4), (7, v5)]) d_X_worthOfRights_33 (by decide) rfl rfl ?_
      refine pv_aload (n := 37) d_X_worthOfRights_35 rfl rfl ?_
      refine pv_aload_n (n := 38) d_X_worthOfRights_37 rfl rfl rfl ?_
      obtain ⟨g9, h⟩ := h
      refine pv_callV (n := 41) (x := v5) [(5, a2)] [] (con_Right_isOn hl0 h) pw_cf5 rfl q_58 q_59 q_60 q_57 q_56 pyo_Right_isOn (by decide) rfl rfl g9 d_X_worthOfRights_38 rfl (fun w7 r8 h _ => ?_) (fun _ _ h => h.elim)
      show pw_V l g cx_X_worthOfRights Q X 41 [(9, 0), (6, a1), (5, a2), (0, a3), (0, a4), (7, v5)] [(0, r8)] w7
      refine pv_if_eq (n := 44) (tgt := 62) d_X_worthOfRights_41 (by decide) rfl (fun c10 => ?_) (fun c10 => ?_)
      · replace h := h.1 c10
        refine pv_iinc (v := (a4 + 1)) (n := 65) (L1 := [(9, 0), (6, a1), (5, a2), (0, a3), (0, (a4 + 1)), (7, v5)]) d_X_worthOfRights_62 rfl rfl rfl (by decide) rfl ?_
        refine pv_goto (tgt := 5) d_X_worthOfRights_65 (by decide) ?_
        refine pv_unset (i := 5) (L1 := [(9, 0), (6, a1), (5, a2), (0, a3), (0, (a4 + 1)), (1, 0)]) rfl ?_
        exact ih _ _ _ _ _ h
      · replace h := h.2 c10
        refine pv_aload (n := 46) d_X_worthOfRights_44 rfl rfl ?_
        refine gt_X_346 (n := 49) rfl d_X_worthOfRights_46 g9 rfl ?_
        refine pv_aload_n (n := 50) d_X_worthOfRights_49 rfl rfl rfl ?_
        refine pv_acmp_ne (n := 53) (tgt := 62) d_X_worthOfRights_50 (by decide) (by decide) rfl (fun c11 => ?_) (fun c11 => ?_)
        · replace h := h.1 c11
          refine pv_iinc (v := (a4 + 1)) (n := 65) (L1 := [(9, 0), (6, a1), (5, a2), (0, a3), (0, (a4 + 1)), (7, v5)]) d_X_worthOfRights_62 rfl rfl rfl (by decide) rfl ?_
          refine pv_goto (tgt := 5) d_X_worthOfRights_65 (by decide) ?_
          refine pv_unset (i := 5) (L1 := [(9, 0), (6, a1), (5, a2), (0, a3), (0, (a4 + 1)), (1, 0)]) rfl ?_
          exact ih _ _ _ _ _ h
        · replace h := h.2 c11
          refine pv_iload_n (n := 54) d_X_worthOfRights_53 rfl rfl rfl ?_
          refine pv_aload_n (n := 55) d_X_worthOfRights_54 rfl rfl rfl ?_
          refine pv_iload (n := 57) d_X_worthOfRights_55 rfl rfl ?_
          refine pv_callV (n := 60) (x := 0) [(0, a4)] [(0, a3)] (con_X_worthOf hl0 h) pw_cf7 rfl q_265 q_266 q_267 q_62 q_264 pyo_X_worthOf (by decide) rfl rfl (by decide) d_X_worthOfRights_57 rfl (fun w12 r13 h _ => ?_) (fun _ _ h => pvx_out rfl h)
          show pw_V l g cx_X_worthOfRights Q X 60 [(9, 0), (6, a1), (5, a2), (0, a3), (0, a4), (7, v5)] [(0, r13), (0, a3)] w12
          refine pv_iadd (n := 61) d_X_worthOfRights_60 rfl ?_
          refine pv_nm (fun v14 e15 => ?_)
          replace h := h v14 e15
          refine pv_istore_n (n := 62) (L' := [(9, 0), (6, a1), (5, a2), (0, v14), (0, a4), (7, v5)]) d_X_worthOfRights_61 rfl (by decide) rfl rfl ?_
          refine pv_iinc (v := (a4 + 1)) (n := 65) (L1 := [(9, 0), (6, a1), (5, a2), (0, v14), (0, (a4 + 1)), (7, v5)]) d_X_worthOfRights_62 rfl rfl rfl (by decide) rfl ?_
          refine pv_goto (tgt := 5) d_X_worthOfRights_65 (by decide) ?_
          refine pv_unset (i := 5) (L1 := [(9, 0), (6, a1), (5, a2), (0, v14), (0, (a4 + 1)), (1, 0)]) rfl ?_
          exact ih _ _ _ _ _ h
set_option maxHeartbeats 4000000 in
set_option maxRecDepth 20000 in
def wp_X_worthOfRights (w : pw_W) (a1 a2 : Int32) (Q : pw_W → Int32 → Prop) (X : pw_W → Nat → Prop) : Prop := ∃ k16, lp_X_worthOfRights_5 Q X k16 a1 a2 0 0 w
set_option maxHeartbeats 4000000 in
set_option maxRecDepth 20000 in
theorem vw_X_worthOfRights {l : Launch} {g : pw_G} {Q : pw_W → Int32 → Prop} {X : pw_W → Nat → Prop} (hl0 : l.stackTraces = false) {w : pw_W} {a1 a2 : Int32} (h : wp_X_worthOfRights w a1 a2 Q X) : pw_V l g cx_X_worthOfRights Q X 0 [(9, 0), (6, a1), (5, a2), (1, 0), (1, 0), (1, 0)] [] w := by
  unfold wp_X_worthOfRights at h
  refine pv_iconst (v := 0) (n := 1) d_X_worthOfRights_0 (by decide) rfl ?_
  refine pv_istore_n (n := 2) (L' := [(9, 0), (6, a1), (5, a2), (0, 0), (1, 0), (1, 0)]) d_X_worthOfRights_1 rfl (by decide) rfl rfl ?_
  refine pv_iconst (v := 0) (n := 3) d_X_worthOfRights_2 (by decide) rfl ?_
  refine pv_istore (n := 5) (L' := [(9, 0), (6, a1), (5, a2), (0, 0), (0, 0), (1, 0)]) d_X_worthOfRights_3 (by decide) rfl rfl ?_
  obtain ⟨k16, h⟩ := h
  exact vlp_X_worthOfRights_5 hl0 _ _ _ _ _ _ h
set_option maxHeartbeats 4000000 in
set_option maxRecDepth 20000 in
theorem con_X_worthOfRights {l : Launch} {g : pw_G} {Q : pw_W → Int32 → Prop} {X : pw_W → Nat → Prop} (hl0 : l.stackTraces = false) {w : pw_W} {a1 a2 : Int32} (h : wp_X_worthOfRights w a1 a2 Q X) : pw_Con l g y_X_worthOfRights cx_X_worthOfRights [(9, 0), (6, a1), (5, a2)] w Q X :=
  pw_con (by decide +kernel) rfl rfl hl0 rfl (Nat.le_of_ble_eq_true rfl) (by simp) (vw_X_worthOfRights hl0 h)
theorem d_X_graze_0 : decode (pw_cc cx_X_graze) 0 = .ok (.aload_n 0, 1) := by decide +kernel
theorem d_X_graze_1 : decode (pw_cc cx_X_graze) 1 = .ok (.iload_n 1, 1) := by decide +kernel
theorem d_X_graze_2 : decode (pw_cc cx_X_graze) 2 = .ok (.invokevirtual 69, 3) := by decide +kernel
theorem d_X_graze_5 : decode (pw_cc cx_X_graze) 5 = .ok (.astore 4, 2) := by decide +kernel
theorem d_X_graze_7 : decode (pw_cc cx_X_graze) 7 = .ok (.aload_n 0, 1) := by decide +kernel
theorem d_X_graze_8 : decode (pw_cc cx_X_graze) 8 = .ok (.iload_n 2, 1) := by decide +kernel
theorem d_X_graze_9 : decode (pw_cc cx_X_graze) 9 = .ok (.invokevirtual 61, 3) := by decide +kernel
theorem d_X_graze_12 : decode (pw_cc cx_X_graze) 12 = .ok (.astore 5, 2) := by decide +kernel
theorem d_X_graze_14 : decode (pw_cc cx_X_graze) 14 = .ok (.iload_n 3, 1) := by decide +kernel
theorem d_X_graze_15 : decode (pw_cc cx_X_graze) 15 = .ok (.iconst 0, 1) := by decide +kernel
theorem d_X_graze_16 : decode (pw_cc cx_X_graze) 16 = .ok (.sipush 400, 3) := by decide +kernel
theorem d_X_graze_19 : decode (pw_cc cx_X_graze) 19 = .ok (.invokestatic 168, 3) := by decide +kernel
theorem d_X_graze_22 : decode (pw_cc cx_X_graze) 22 = .ok (.invokestatic 171, 3) := by decide +kernel
theorem d_X_graze_25 : decode (pw_cc cx_X_graze) 25 = .ok (.iload_n 3, 1) := by decide +kernel
theorem d_X_graze_26 : decode (pw_cc cx_X_graze) 26 = .ok (.aload_n 0, 1) := by decide +kernel
theorem d_X_graze_27 : decode (pw_cc cx_X_graze) 27 = .ok (.aload 4, 2) := by decide +kernel
theorem d_X_graze_29 : decode (pw_cc cx_X_graze) 29 = .ok (.aload 5, 2) := by decide +kernel
theorem d_X_graze_31 : decode (pw_cc cx_X_graze) 31 = .ok (.invokevirtual 226, 3) := by decide +kernel
theorem d_X_graze_34 : decode (pw_cc cx_X_graze) 34 = .ok (.if_icmp .gt 7, 3) := by decide +kernel
theorem d_X_graze_37 : decode (pw_cc cx_X_graze) 37 = .ok (.iconst 1, 1) := by decide +kernel
theorem d_X_graze_38 : decode (pw_cc cx_X_graze) 38 = .ok (.goto 4, 3) := by decide +kernel
theorem d_X_graze_41 : decode (pw_cc cx_X_graze) 41 = .ok (.iconst 0, 1) := by decide +kernel
theorem d_X_graze_42 : decode (pw_cc cx_X_graze) 42 = .ok (.invokestatic 80, 3) := by decide +kernel
theorem d_X_graze_45 : decode (pw_cc cx_X_graze) 45 = .ok (.aload 5, 2) := by decide +kernel
theorem d_X_graze_47 : decode (pw_cc cx_X_graze) 47 = .ok (.aload 4, 2) := by decide +kernel
theorem d_X_graze_49 : decode (pw_cc cx_X_graze) 49 = .ok (.getfield 230, 3) := by decide +kernel
theorem d_X_graze_52 : decode (pw_cc cx_X_graze) 52 = .ok (.invokevirtual 231, 3) := by decide +kernel
theorem d_X_graze_55 : decode (pw_cc cx_X_graze) 55 = .ok (.istore 6, 2) := by decide +kernel
theorem d_X_graze_57 : decode (pw_cc cx_X_graze) 57 = .ok (.aload 5, 2) := by decide +kernel
theorem d_X_graze_59 : decode (pw_cc cx_X_graze) 59 = .ok (.aload 4, 2) := by decide +kernel
theorem d_X_graze_61 : decode (pw_cc cx_X_graze) 61 = .ok (.getfield 230, 3) := by decide +kernel
theorem d_X_graze_64 : decode (pw_cc cx_X_graze) 64 = .ok (.iload_n 3, 1) := by decide +kernel
theorem d_X_graze_65 : decode (pw_cc cx_X_graze) 65 = .ok (.invokevirtual 235, 3) := by decide +kernel
theorem d_X_graze_68 : decode (pw_cc cx_X_graze) 68 = .ok (.iload 6, 2) := by decide +kernel
theorem d_X_graze_70 : decode (pw_cc cx_X_graze) 70 = .ok (.ireturn, 1) := by decide +kernel
set_option maxHeartbeats 4000000 in
set_option maxRecDepth 20000 in
def jp_X_graze_42 (Q : pw_W → Int32 → Prop) (X : pw_W → Nat → Prop) (a3 a4 a5 s0 : Int32) (w : pw_W) : Prop := wp_X_checkState w s0 (fun w1 r2 => 0 ≤ a4 ∧ 0 ≤ a5 ∧ wp_Parcel_sheepOf w1 a5 (w1.1 4 (pw_i a4) 0) (fun w4 r5 => wp_Parcel_setSheep w4 a5 (w4.1 4 (pw_i a4) 0) a3 (fun w7 r8 => Q w7 r5) (fun _ _ => False)) (fun _ _ => False)) X
set_option maxHeartbeats 4000000 in
set_option maxRecDepth 20000 in
theorem vjp_X_graze_42 {l : Launch} {g : pw_G} {Q : pw_W → Int32 → Prop} {X : pw_W → Nat → Prop} (hl0 : l.stackTraces = false) (a3 a4 a5 s0 : Int32) (w : pw_W) (h : jp_X_graze_42 Q X a3 a4 a5 s0 w) : pw_V l g cx_X_graze Q X 42 [(1, 0), (1, 0), (1, 0), (0, a3), (6, a4), (5, a5), (1, 0)] [(0, s0)] w := by
  unfold jp_X_graze_42 at h
  refine pv_callS (n := 45) [(0, s0)] [] (con_X_checkState hl0 h) q_124 q_125 q_62 q_123 pyo_X_checkState (by decide) rfl rfl d_X_graze_42 rfl (fun w1 r2 h _ => ?_) (fun _ _ h => pvx_out rfl h)
  show pw_V l g cx_X_graze Q X 45 [(1, 0), (1, 0), (1, 0), (0, a3), (6, a4), (5, a5), (1, 0)] [] w1
  refine pv_aload (n := 47) d_X_graze_45 rfl rfl ?_
  refine pv_aload (n := 49) d_X_graze_47 rfl rfl ?_
  obtain ⟨g3, h⟩ := h
  refine gt_X_230 (n := 52) rfl d_X_graze_49 g3 rfl ?_
  obtain ⟨g6, h⟩ := h
  refine pv_callV (n := 55) (x := a5) [(0, (w1.1 4 (pw_i a4) 0))] [] (con_Parcel_sheepOf hl0 h) pw_cf3 rfl q_156 q_157 q_158 q_46 q_155 pyo_Parcel_sheepOf (by decide) rfl rfl g6 d_X_graze_52 rfl (fun w4 r5 h _ => ?_) (fun _ _ h => h.elim)
  show pw_V l g cx_X_graze Q X 55 [(1, 0), (1, 0), (1, 0), (0, a3), (6, a4), (5, a5), (1, 0)] [(0, r5)] w4
  refine pv_istore (n := 57) (L' := [(1, 0), (1, 0), (1, 0), (0, a3), (6, a4), (5, a5), (0, r5)]) d_X_graze_55 (by decide) rfl rfl ?_
  refine pv_aload (n := 59) d_X_graze_57 rfl rfl ?_
  refine pv_aload (n := 61) d_X_graze_59 rfl rfl ?_
  refine gt_X_230 (n := 64) rfl d_X_graze_61 g3 rfl ?_
  refine pv_iload_n (n := 65) d_X_graze_64 rfl rfl rfl ?_
  refine pv_callV (n := 68) (x := a5) [(0, (w4.1 4 (pw_i a4) 0)), (0, a3)] [] (con_Parcel_setSheep hl0 h) pw_cf3 rfl q_152 q_153 q_154 q_46 q_151 pyo_Parcel_setSheep (by decide) rfl rfl g6 d_X_graze_65 rfl (fun w7 r8 h _ => ?_) (fun _ _ h => h.elim)
  show pw_V l g cx_X_graze Q X 68 [(1, 0), (1, 0), (1, 0), (0, a3), (6, a4), (5, a5), (0, r5)] [] w7
  refine pv_iload (n := 70) d_X_graze_68 rfl rfl ?_
  exact pv_iret rfl rfl d_X_graze_70 h
set_option maxHeartbeats 4000000 in
set_option maxRecDepth 20000 in
def wp_X_graze (w : pw_W) (a1 a2 a3 : Int32) (Q : pw_W → Int32 → Prop) (X : pw_W → Nat → Prop) : Prop := wp_X_personNumbered w a1 (fun w9 r10 => wp_X_parcelNumbered w9 a2 (fun w11 r12 => wp_X_isInRange w11 a3 0 400 (fun w13 r14 => wp_X_checkArgument w13 r14 (fun w15 r16 => wp_X_worthOfRights w15 r10 r12 (fun w17 r18 => (r18 < a3 → jp_X_graze_42 Q X a3 r10 r12 0 w17) ∧ (¬ r18 < a3 → jp_X_graze_42 Q X a3 r10 r12 1 w17)) X) X) (fun _ _ => False)) X) X
set_option maxHeartbeats 4000000 in
set_option maxRecDepth 20000 in
theorem vw_X_graze {l : Launch} {g : pw_G} {Q : pw_W → Int32 → Prop} {X : pw_W → Nat → Prop} (hl0 : l.stackTraces = false) {w : pw_W} {a1 a2 a3 : Int32} (h : wp_X_graze w a1 a2 a3 Q X) : pw_V l g cx_X_graze Q X 0 [(9, 0), (0, a1), (0, a2), (0, a3), (1, 0), (1, 0), (1, 0)] [] w := by
  unfold wp_X_graze at h
  refine pv_aload_n (n := 1) d_X_graze_0 rfl rfl rfl ?_
  refine pv_iload_n (n := 2) d_X_graze_1 rfl rfl rfl ?_
  refine pv_callV (n := 5) (x := 0) [(0, a1)] [] (con_X_personNumbered hl0 h) pw_cf7 rfl q_139 q_140 q_141 q_62 q_138 pyo_X_personNumbered (by decide) rfl rfl (by decide) d_X_graze_2 rfl (fun w9 r10 h _ => ?_) (fun _ _ h => pvx_out rfl h)
  show pw_V l g cx_X_graze Q X 5 [(9, 0), (0, a1), (0, a2), (0, a3), (1, 0), (1, 0), (1, 0)] [(6, r10)] w9
  refine pv_astore (n := 7) (L' := [(9, 0), (0, a1), (0, a2), (0, a3), (6, r10), (1, 0), (1, 0)]) d_X_graze_5 (by decide) rfl rfl ?_
  refine pv_aload_n (n := 8) d_X_graze_7 rfl rfl rfl ?_
  refine pv_iload_n (n := 9) d_X_graze_8 rfl rfl rfl ?_
  refine pv_callV (n := 12) (x := 0) [(0, a2)] [] (con_X_parcelNumbered hl0 h) pw_cf7 rfl q_146 q_147 q_148 q_62 q_145 pyo_X_parcelNumbered (by decide) rfl rfl (by decide) d_X_graze_9 rfl (fun w11 r12 h _ => ?_) (fun _ _ h => pvx_out rfl h)
  show pw_V l g cx_X_graze Q X 12 [(9, 0), (0, a1), (0, a2), (0, a3), (6, r10), (1, 0), (1, 0)] [(5, r12)] w11
  refine pv_astore (n := 14) (L' := [(9, 0), (0, a1), (0, a2), (0, a3), (6, r10), (5, r12), (1, 0)]) d_X_graze_12 (by decide) rfl rfl ?_
  refine pv_iload_n (n := 15) d_X_graze_14 rfl rfl rfl ?_
  refine pv_iconst (v := 0) (n := 16) d_X_graze_15 (by decide) rfl ?_
  refine pv_sipush (v := 400) (n := 19) d_X_graze_16 (by decide) rfl ?_
  refine pv_callS (n := 22) [(0, a3), (0, 0), (0, 400)] [] (con_X_isInRange hl0 h) q_96 q_97 q_62 q_95 pyo_X_isInRange (by decide) rfl rfl d_X_graze_19 rfl (fun w13 r14 h _ => ?_) (fun _ _ h => h.elim)
  show pw_V l g cx_X_graze Q X 22 [(9, 0), (0, a1), (0, a2), (0, a3), (6, r10), (5, r12), (1, 0)] [(0, r14)] w13
  refine pv_callS (n := 25) [(0, r14)] [] (con_X_checkArgument hl0 h) q_86 q_87 q_62 q_85 pyo_X_checkArgument (by decide) rfl rfl d_X_graze_22 rfl (fun w15 r16 h _ => ?_) (fun _ _ h => pvx_out rfl h)
  show pw_V l g cx_X_graze Q X 25 [(9, 0), (0, a1), (0, a2), (0, a3), (6, r10), (5, r12), (1, 0)] [] w15
  refine pv_iload_n (n := 26) d_X_graze_25 rfl rfl rfl ?_
  refine pv_aload_n (n := 27) d_X_graze_26 rfl rfl rfl ?_
  refine pv_aload (n := 29) d_X_graze_27 rfl rfl ?_
  refine pv_aload (n := 31) d_X_graze_29 rfl rfl ?_
  refine pv_callV (n := 34) (x := 0) [(6, r10), (5, r12)] [(0, a3)] (con_X_worthOfRights hl0 h) pw_cf7 rfl q_270 q_271 q_272 q_62 q_269 pyo_X_worthOfRights (by decide) rfl rfl (by decide) d_X_graze_31 rfl (fun w17 r18 h _ => ?_) (fun _ _ h => pvx_out rfl h)
  show pw_V l g cx_X_graze Q X 34 [(9, 0), (0, a1), (0, a2), (0, a3), (6, r10), (5, r12), (1, 0)] [(0, r18), (0, a3)] w17
  refine pv_icmp_gt (n := 37) (tgt := 41) d_X_graze_34 (by decide) rfl (fun c19 => ?_) (fun c19 => ?_)
  · replace h := h.1 c19
    refine pv_iconst (v := 0) (n := 42) d_X_graze_41 (by decide) rfl ?_
    refine pv_unset (i := 0) (L1 := [(1, 0), (0, a1), (0, a2), (0, a3), (6, r10), (5, r12), (1, 0)]) rfl ?_
    refine pv_unset (i := 1) (L1 := [(1, 0), (1, 0), (0, a2), (0, a3), (6, r10), (5, r12), (1, 0)]) rfl ?_
    refine pv_unset (i := 2) (L1 := [(1, 0), (1, 0), (1, 0), (0, a3), (6, r10), (5, r12), (1, 0)]) rfl ?_
    exact vjp_X_graze_42 hl0 _ _ _ _ _ h
  · replace h := h.2 c19
    refine pv_iconst (v := 1) (n := 38) d_X_graze_37 (by decide) rfl ?_
    refine pv_goto (tgt := 42) d_X_graze_38 (by decide) ?_
    refine pv_unset (i := 0) (L1 := [(1, 0), (0, a1), (0, a2), (0, a3), (6, r10), (5, r12), (1, 0)]) rfl ?_
    refine pv_unset (i := 1) (L1 := [(1, 0), (1, 0), (0, a2), (0, a3), (6, r10), (5, r12), (1, 0)]) rfl ?_
    refine pv_unset (i := 2) (L1 := [(1, 0), (1, 0), (1, 0), (0, a3), (6, r10), (5, r12), (1, 0)]) rfl ?_
    exact vjp_X_graze_42 hl0 _ _ _ _ _ h
set_option maxHeartbeats 4000000 in
set_option maxRecDepth 20000 in
theorem con_X_graze {l : Launch} {g : pw_G} {Q : pw_W → Int32 → Prop} {X : pw_W → Nat → Prop} (hl0 : l.stackTraces = false) {w : pw_W} {a1 a2 a3 : Int32} (h : wp_X_graze w a1 a2 a3 Q X) : pw_Con l g y_X_graze cx_X_graze [(9, 0), (0, a1), (0, a2), (0, a3)] w Q X :=
  pw_con (by decide +kernel) rfl rfl hl0 rfl (Nat.le_of_ble_eq_true rfl) (by simp) (vw_X_graze hl0 h)
theorem d_X_rain_0 : decode (pw_cc cx_X_rain) 0 = .ok (.iload_n 1, 1) := by decide +kernel
theorem d_X_rain_1 : decode (pw_cc cx_X_rain) 1 = .ok (.iconst 1, 1) := by decide +kernel
theorem d_X_rain_2 : decode (pw_cc cx_X_rain) 2 = .ok (.bipush 60, 2) := by decide +kernel
theorem d_X_rain_4 : decode (pw_cc cx_X_rain) 4 = .ok (.invokestatic 168, 3) := by decide +kernel
theorem d_X_rain_7 : decode (pw_cc cx_X_rain) 7 = .ok (.invokestatic 171, 3) := by decide +kernel
theorem d_X_rain_10 : decode (pw_cc cx_X_rain) 10 = .ok (.iconst 0, 1) := by decide +kernel
theorem d_X_rain_11 : decode (pw_cc cx_X_rain) 11 = .ok (.istore_n 2, 1) := by decide +kernel
theorem d_X_rain_12 : decode (pw_cc cx_X_rain) 12 = .ok (.aload_n 0, 1) := by decide +kernel
theorem d_X_rain_13 : decode (pw_cc cx_X_rain) 13 = .ok (.getfield 11, 3) := by decide +kernel
theorem d_X_rain_16 : decode (pw_cc cx_X_rain) 16 = .ok (.astore_n 3, 1) := by decide +kernel
theorem d_X_rain_17 : decode (pw_cc cx_X_rain) 17 = .ok (.aload_n 3, 1) := by decide +kernel
theorem d_X_rain_18 : decode (pw_cc cx_X_rain) 18 = .ok (.arraylength, 1) := by decide +kernel
theorem d_X_rain_19 : decode (pw_cc cx_X_rain) 19 = .ok (.istore 4, 2) := by decide +kernel
theorem d_X_rain_21 : decode (pw_cc cx_X_rain) 21 = .ok (.iconst 0, 1) := by decide +kernel
theorem d_X_rain_22 : decode (pw_cc cx_X_rain) 22 = .ok (.istore 5, 2) := by decide +kernel
theorem d_X_rain_24 : decode (pw_cc cx_X_rain) 24 = .ok (.iload 5, 2) := by decide +kernel
theorem d_X_rain_26 : decode (pw_cc cx_X_rain) 26 = .ok (.iload 4, 2) := by decide +kernel
theorem d_X_rain_28 : decode (pw_cc cx_X_rain) 28 = .ok (.if_icmp .ge 48, 3) := by decide +kernel
theorem d_X_rain_31 : decode (pw_cc cx_X_rain) 31 = .ok (.aload_n 3, 1) := by decide +kernel
theorem d_X_rain_32 : decode (pw_cc cx_X_rain) 32 = .ok (.iload 5, 2) := by decide +kernel
theorem d_X_rain_34 : decode (pw_cc cx_X_rain) 34 = .ok (.aaload, 1) := by decide +kernel
theorem d_X_rain_35 : decode (pw_cc cx_X_rain) 35 = .ok (.astore 6, 2) := by decide +kernel
theorem d_X_rain_37 : decode (pw_cc cx_X_rain) 37 = .ok (.iload_n 1, 1) := by decide +kernel
theorem d_X_rain_38 : decode (pw_cc cx_X_rain) 38 = .ok (.bipush 100, 2) := by decide +kernel
theorem d_X_rain_40 : decode (pw_cc cx_X_rain) 40 = .ok (.aload 6, 2) := by decide +kernel
theorem d_X_rain_42 : decode (pw_cc cx_X_rain) 42 = .ok (.getfield 238, 3) := by decide +kernel
theorem d_X_rain_45 : decode (pw_cc cx_X_rain) 45 = .ok (.isub, 1) := by decide +kernel
theorem d_X_rain_46 : decode (pw_cc cx_X_rain) 46 = .ok (.invokestatic 241, 3) := by decide +kernel
theorem d_X_rain_49 : decode (pw_cc cx_X_rain) 49 = .ok (.istore 7, 2) := by decide +kernel
theorem d_X_rain_51 : decode (pw_cc cx_X_rain) 51 = .ok (.aload 6, 2) := by decide +kernel
theorem d_X_rain_53 : decode (pw_cc cx_X_rain) 53 = .ok (.dup, 1) := by decide +kernel
theorem d_X_rain_54 : decode (pw_cc cx_X_rain) 54 = .ok (.getfield 238, 3) := by decide +kernel
theorem d_X_rain_57 : decode (pw_cc cx_X_rain) 57 = .ok (.iload 7, 2) := by decide +kernel
theorem d_X_rain_59 : decode (pw_cc cx_X_rain) 59 = .ok (.iadd, 1) := by decide +kernel
theorem d_X_rain_60 : decode (pw_cc cx_X_rain) 60 = .ok (.putfield 238, 3) := by decide +kernel
theorem d_X_rain_63 : decode (pw_cc cx_X_rain) 63 = .ok (.iload_n 2, 1) := by decide +kernel
theorem d_X_rain_64 : decode (pw_cc cx_X_rain) 64 = .ok (.iload_n 1, 1) := by decide +kernel
theorem d_X_rain_65 : decode (pw_cc cx_X_rain) 65 = .ok (.iload 7, 2) := by decide +kernel
theorem d_X_rain_67 : decode (pw_cc cx_X_rain) 67 = .ok (.isub, 1) := by decide +kernel
theorem d_X_rain_68 : decode (pw_cc cx_X_rain) 68 = .ok (.iadd, 1) := by decide +kernel
theorem d_X_rain_69 : decode (pw_cc cx_X_rain) 69 = .ok (.istore_n 2, 1) := by decide +kernel
theorem d_X_rain_70 : decode (pw_cc cx_X_rain) 70 = .ok (.iinc 5 1, 3) := by decide +kernel
theorem d_X_rain_73 : decode (pw_cc cx_X_rain) 73 = .ok (.goto (-49), 3) := by decide +kernel
theorem d_X_rain_76 : decode (pw_cc cx_X_rain) 76 = .ok (.aload_n 0, 1) := by decide +kernel
theorem d_X_rain_77 : decode (pw_cc cx_X_rain) 77 = .ok (.dup, 1) := by decide +kernel
theorem d_X_rain_78 : decode (pw_cc cx_X_rain) 78 = .ok (.getfield 247, 3) := by decide +kernel
theorem d_X_rain_81 : decode (pw_cc cx_X_rain) 81 = .ok (.iload_n 1, 1) := by decide +kernel
theorem d_X_rain_82 : decode (pw_cc cx_X_rain) 82 = .ok (.bipush 100, 2) := by decide +kernel
theorem d_X_rain_84 : decode (pw_cc cx_X_rain) 84 = .ok (.imul, 1) := by decide +kernel
theorem d_X_rain_85 : decode (pw_cc cx_X_rain) 85 = .ok (.iadd, 1) := by decide +kernel
theorem d_X_rain_86 : decode (pw_cc cx_X_rain) 86 = .ok (.putfield 247, 3) := by decide +kernel
theorem d_X_rain_89 : decode (pw_cc cx_X_rain) 89 = .ok (.aload_n 0, 1) := by decide +kernel
theorem d_X_rain_90 : decode (pw_cc cx_X_rain) 90 = .ok (.dup, 1) := by decide +kernel
theorem d_X_rain_91 : decode (pw_cc cx_X_rain) 91 = .ok (.getfield 250, 3) := by decide +kernel
theorem d_X_rain_94 : decode (pw_cc cx_X_rain) 94 = .ok (.iload_n 2, 1) := by decide +kernel
theorem d_X_rain_95 : decode (pw_cc cx_X_rain) 95 = .ok (.iadd, 1) := by decide +kernel
theorem d_X_rain_96 : decode (pw_cc cx_X_rain) 96 = .ok (.putfield 250, 3) := by decide +kernel
theorem d_X_rain_99 : decode (pw_cc cx_X_rain) 99 = .ok (.iload_n 2, 1) := by decide +kernel
theorem d_X_rain_100 : decode (pw_cc cx_X_rain) 100 = .ok (.ireturn, 1) := by decide +kernel
set_option maxHeartbeats 4000000 in
set_option maxRecDepth 20000 in
def lp_X_rain_24 (Q : pw_W → Int32 → Prop) (X : pw_W → Nat → Prop) : Nat → Int32 → Int32 → Int32 → Int32 → pw_W → Prop := fun k => Nat.rec (motive := fun _ => Int32 → Int32 → Int32 → Int32 → pw_W → Prop) (fun _ _ _ _ _ => False) (fun _ ih a1 a2 a4 a5 w => (a4 ≤ a5 → ∀ w2, w2 = pw_ps w 7 0 9 ((w.1 7 0 9) + (a1 * 100)) → ∀ w4, w4 = pw_ps w2 7 0 10 ((w2.1 7 0 10) + a2) → Q w4 a2) ∧ (¬ a4 ≤ a5 → pw_jn a5 (pw_ln w 14 0) ∧ ∀ v7, v7 = (w.1 14 0 (pw_i a5)) → 0 ≤ v7 ∧ ∀ v10, v10 = (if ((100 : Int32) - (w.1 6 (pw_i v7) 5)) < a1 then ((100 : Int32) - (w.1 6 (pw_i v7) 5)) else a1) → ∀ w12, w12 = pw_ps w 6 (pw_i v7) 5 ((w.1 6 (pw_i v7) 5) + v10) → ∀ v14, v14 = (a2 + (a1 - v10)) → ih a1 v14 a4 (a5 + 1) w12)) k
set_option maxHeartbeats 4000000 in
set_option maxRecDepth 20000 in
theorem lp_X_rain_24_s {Q : pw_W → Int32 → Prop} {X : pw_W → Nat → Prop}  {k : Nat} {a1 a2 a4 a5 : Int32} {w : pw_W} : lp_X_rain_24 Q X (k + 1) a1 a2 a4 a5 w = (let ih := lp_X_rain_24 Q X k; (a4 ≤ a5 → ∀ w2, w2 = pw_ps w 7 0 9 ((w.1 7 0 9) + (a1 * 100)) → ∀ w4, w4 = pw_ps w2 7 0 10 ((w2.1 7 0 10) + a2) → Q w4 a2) ∧ (¬ a4 ≤ a5 → pw_jn a5 (pw_ln w 14 0) ∧ ∀ v7, v7 = (w.1 14 0 (pw_i a5)) → 0 ≤ v7 ∧ ∀ v10, v10 = (if ((100 : Int32) - (w.1 6 (pw_i v7) 5)) < a1 then ((100 : Int32) - (w.1 6 (pw_i v7) 5)) else a1) → ∀ w12, w12 = pw_ps w 6 (pw_i v7) 5 ((w.1 6 (pw_i v7) 5) + v10) → ∀ v14, v14 = (a2 + (a1 - v10)) → ih a1 v14 a4 (a5 + 1) w12)) := rfl
set_option maxHeartbeats 4000000 in
set_option maxRecDepth 20000 in
theorem vlp_X_rain_24 {l : Launch} {g : pw_G} {Q : pw_W → Int32 → Prop} {X : pw_W → Nat → Prop} (hl0 : l.stackTraces = false) : ∀ (k : Nat) (a1 a2 a4 a5 : Int32) (w : pw_W), lp_X_rain_24 Q X k a1 a2 a4 a5 w → pw_V l g cx_X_rain Q X 24 [(9, 0), (0, a1), (0, a2), (16, 0), (0, a4), (0, a5), (1, 0), (1, 0)] [] w := by
  intro k; induction k with
  | zero => intro _ _ _ _ _ h; exact h.elim
  | succ k ih =>
    intro a1 a2 a4 a5 w h
    rw [lp_X_rain_24_s] at h
    refine pv_iload (n := 26) d_X_rain_24 rfl rfl ?_
    refine pv_iload (n := 28) d_X_rain_26 rfl rfl ?_
    refine pv_icmp_ge (n := 31) (tgt := 76) d_X_rain_28 (by decide) rfl (fun c1 => ?_) (fun c1 => ?_)
    · replace h := h.1 c1
      refine pv_aload_n (n := 77) d_X_rain_76 rfl rfl rfl ?_
      refine pv_dup (n := 78) d_X_rain_77 (by decide) rfl ?_
      refine gt_X_247 (n := 81) rfl d_X_rain_78 (by decide) rfl ?_
      refine pv_iload_n (n := 82) d_X_rain_81 rfl rfl rfl ?_
      refine pv_bipush (v := 100) (n := 84) d_X_rain_82 (by decide) rfl ?_
      refine pv_imul (n := 85) d_X_rain_84 rfl ?_
      refine pv_iadd (n := 86) d_X_rain_85 rfl ?_
      refine pt_X_247 (n := 89) rfl d_X_rain_86 (by decide) rfl (fun w2 e3 => ?_)
      replace h := h w2 e3
      refine pv_aload_n (n := 90) d_X_rain_89 rfl rfl rfl ?_
      refine pv_dup (n := 91) d_X_rain_90 (by decide) rfl ?_
      refine gt_X_250 (n := 94) rfl d_X_rain_91 (by decide) rfl ?_
      refine pv_iload_n (n := 95) d_X_rain_94 rfl rfl rfl ?_
      refine pv_iadd (n := 96) d_X_rain_95 rfl ?_
      refine pt_X_250 (n := 99) rfl d_X_rain_96 (by decide) rfl (fun w4 e5 => ?_)
      replace h := h w4 e5
      refine pv_iload_n (n := 100) d_X_rain_99 rfl rfl rfl ?_
      exact pv_iret rfl rfl d_X_rain_100 h
    · replace h := h.2 c1
      refine pv_aload_n (n := 32) d_X_rain_31 rfl rfl rfl ?_
      refine pv_iload (n := 34) d_X_rain_32 rfl rfl ?_
      obtain ⟨g6, h⟩ := h
      refine pv_aald (n := 35) (f := 14) (F := 6) (C := "Peatland$Square") (by decide) (Or.inl ⟨rfl, rfl⟩) (fun _ => rfl) d_X_rain_34 (by decide) g6 rfl (fun _ => ?_)
      refine pv_nm (fun v7 e8 => ?_)
      replace h := h v7 e8
      refine pv_astore (n := 37) (L' := [(9, 0), (0, a1), (0, a2), (16, 0), (0, a4), (0, a5), (8, v7), (1, 0)]) d_X_rain_35 (by decide) rfl rfl ?_
      refine pv_iload_n (n := 38) d_X_rain_37 rfl rfl rfl ?_
      refine pv_bipush (v := 100) (n := 40) d_X_rain_38 (by decide) rfl ?_
      refine pv_aload (n := 42) d_X_rain_40 rfl rfl ?_
      obtain ⟨g9, h⟩ := h
      refine gt_X_238 (n := 45) rfl d_X_rain_42 g9 rfl ?_
      refine pv_isub (n := 46) d_X_rain_45 rfl ?_
      refine pv_mmin (n := 49) (pw_mw_min q_253 (by decide)) rfl d_X_rain_46 rfl ?_
      refine pv_nm (fun v10 e11 => ?_)
      replace h := h v10 e11
      refine pv_istore (n := 51) (L' := [(9, 0), (0, a1), (0, a2), (16, 0), (0, a4), (0, a5), (8, v7), (0, v10)]) d_X_rain_49 (by decide) rfl rfl ?_
      refine pv_aload (n := 53) d_X_rain_51 rfl rfl ?_
      refine pv_dup (n := 54) d_X_rain_53 (by decide) rfl ?_
      refine gt_X_238 (n := 57) rfl d_X_rain_54 g9 rfl ?_
      refine pv_iload (n := 59) d_X_rain_57 rfl rfl ?_
      refine pv_iadd (n := 60) d_X_rain_59 rfl ?_
      refine pt_X_238 (n := 63) rfl d_X_rain_60 g9 rfl (fun w12 e13 => ?_)
      replace h := h w12 e13
      refine pv_iload_n (n := 64) d_X_rain_63 rfl rfl rfl ?_
      refine pv_iload_n (n := 65) d_X_rain_64 rfl rfl rfl ?_
      refine pv_iload (n := 67) d_X_rain_65 rfl rfl ?_
      refine pv_isub (n := 68) d_X_rain_67 rfl ?_
      refine pv_iadd (n := 69) d_X_rain_68 rfl ?_
      refine pv_nm (fun v14 e15 => ?_)
      replace h := h v14 e15
      refine pv_istore_n (n := 70) (L' := [(9, 0), (0, a1), (0, v14), (16, 0), (0, a4), (0, a5), (8, v7), (0, v10)]) d_X_rain_69 rfl (by decide) rfl rfl ?_
      refine pv_iinc (v := (a5 + 1)) (n := 73) (L1 := [(9, 0), (0, a1), (0, v14), (16, 0), (0, a4), (0, (a5 + 1)), (8, v7), (0, v10)]) d_X_rain_70 rfl rfl rfl (by decide) rfl ?_
      refine pv_goto (tgt := 24) d_X_rain_73 (by decide) ?_
      refine pv_unset (i := 6) (L1 := [(9, 0), (0, a1), (0, v14), (16, 0), (0, a4), (0, (a5 + 1)), (1, 0), (0, v10)]) rfl ?_
      refine pv_unset (i := 7) (L1 := [(9, 0), (0, a1), (0, v14), (16, 0), (0, a4), (0, (a5 + 1)), (1, 0), (1, 0)]) rfl ?_
      exact ih _ _ _ _ _ h
set_option maxHeartbeats 4000000 in
set_option maxRecDepth 20000 in
def wp_X_rain (w : pw_W) (a1 : Int32) (Q : pw_W → Int32 → Prop) (X : pw_W → Nat → Prop) : Prop := wp_X_isInRange w a1 1 60 (fun w16 r17 => wp_X_checkArgument w16 r17 (fun w18 r19 => w18.1 7 0 0 = 0 ∧ ∀ v21, v21 = (nI (pw_ln w18 14 0)) → ∃ k23, lp_X_rain_24 Q X k23 a1 0 v21 0 w18) X) (fun _ _ => False)
set_option maxHeartbeats 4000000 in
set_option maxRecDepth 20000 in
theorem vw_X_rain {l : Launch} {g : pw_G} {Q : pw_W → Int32 → Prop} {X : pw_W → Nat → Prop} (hl0 : l.stackTraces = false) {w : pw_W} {a1 : Int32} (h : wp_X_rain w a1 Q X) : pw_V l g cx_X_rain Q X 0 [(9, 0), (0, a1), (1, 0), (1, 0), (1, 0), (1, 0), (1, 0), (1, 0)] [] w := by
  unfold wp_X_rain at h
  refine pv_iload_n (n := 1) d_X_rain_0 rfl rfl rfl ?_
  refine pv_iconst (v := 1) (n := 2) d_X_rain_1 (by decide) rfl ?_
  refine pv_bipush (v := 60) (n := 4) d_X_rain_2 (by decide) rfl ?_
  refine pv_callS (n := 7) [(0, a1), (0, 1), (0, 60)] [] (con_X_isInRange hl0 h) q_96 q_97 q_62 q_95 pyo_X_isInRange (by decide) rfl rfl d_X_rain_4 rfl (fun w16 r17 h _ => ?_) (fun _ _ h => h.elim)
  show pw_V l g cx_X_rain Q X 7 [(9, 0), (0, a1), (1, 0), (1, 0), (1, 0), (1, 0), (1, 0), (1, 0)] [(0, r17)] w16
  refine pv_callS (n := 10) [(0, r17)] [] (con_X_checkArgument hl0 h) q_86 q_87 q_62 q_85 pyo_X_checkArgument (by decide) rfl rfl d_X_rain_7 rfl (fun w18 r19 h _ => ?_) (fun _ _ h => pvx_out rfl h)
  show pw_V l g cx_X_rain Q X 10 [(9, 0), (0, a1), (1, 0), (1, 0), (1, 0), (1, 0), (1, 0), (1, 0)] [] w18
  refine pv_iconst (v := 0) (n := 11) d_X_rain_10 (by decide) rfl ?_
  refine pv_istore_n (n := 12) (L' := [(9, 0), (0, a1), (0, 0), (1, 0), (1, 0), (1, 0), (1, 0), (1, 0)]) d_X_rain_11 rfl (by decide) rfl rfl ?_
  refine pv_aload_n (n := 13) d_X_rain_12 rfl rfl rfl ?_
  obtain ⟨g20, h⟩ := h
  refine gt_X_11 (n := 16) rfl d_X_rain_13 (by decide) g20 rfl ?_
  refine pv_astore_n (n := 17) (L' := [(9, 0), (0, a1), (0, 0), (16, 0), (1, 0), (1, 0), (1, 0), (1, 0)]) d_X_rain_16 rfl (by decide) rfl rfl ?_
  refine pv_aload_n (n := 18) d_X_rain_17 rfl rfl rfl ?_
  refine pv_alen (n := 19) (f := 14) (by decide) ⟨_, rfl⟩ d_X_rain_18 (by decide) rfl ?_
  refine pv_nm (fun v21 e22 => ?_)
  replace h := h v21 e22
  refine pv_istore (n := 21) (L' := [(9, 0), (0, a1), (0, 0), (16, 0), (0, v21), (1, 0), (1, 0), (1, 0)]) d_X_rain_19 (by decide) rfl rfl ?_
  refine pv_iconst (v := 0) (n := 22) d_X_rain_21 (by decide) rfl ?_
  refine pv_istore (n := 24) (L' := [(9, 0), (0, a1), (0, 0), (16, 0), (0, v21), (0, 0), (1, 0), (1, 0)]) d_X_rain_22 (by decide) rfl rfl ?_
  obtain ⟨k23, h⟩ := h
  exact vlp_X_rain_24 hl0 _ _ _ _ _ _ h
set_option maxHeartbeats 4000000 in
set_option maxRecDepth 20000 in
theorem con_X_rain {l : Launch} {g : pw_G} {Q : pw_W → Int32 → Prop} {X : pw_W → Nat → Prop} (hl0 : l.stackTraces = false) {w : pw_W} {a1 : Int32} (h : wp_X_rain w a1 Q X) : pw_Con l g y_X_rain cx_X_rain [(9, 0), (0, a1)] w Q X :=
  pw_con (by decide +kernel) rfl rfl hl0 rfl (Nat.le_of_ble_eq_true rfl) (by simp) (vw_X_rain hl0 h)
theorem d_X_hasDrain_0 : decode (pw_cc cx_X_hasDrain) 0 = .ok (.iconst 0, 1) := by decide +kernel
theorem d_X_hasDrain_1 : decode (pw_cc cx_X_hasDrain) 1 = .ok (.istore_n 3, 1) := by decide +kernel
theorem d_X_hasDrain_2 : decode (pw_cc cx_X_hasDrain) 2 = .ok (.iload_n 3, 1) := by decide +kernel
theorem d_X_hasDrain_3 : decode (pw_cc cx_X_hasDrain) 3 = .ok (.aload_n 0, 1) := by decide +kernel
theorem d_X_hasDrain_4 : decode (pw_cc cx_X_hasDrain) 4 = .ok (.getfield 37, 3) := by decide +kernel
theorem d_X_hasDrain_7 : decode (pw_cc cx_X_hasDrain) 7 = .ok (.invokeinterface 88 1, 5) := by decide +kernel
theorem d_X_hasDrain_12 : decode (pw_cc cx_X_hasDrain) 12 = .ok (.if_icmp .ge 44, 3) := by decide +kernel
theorem d_X_hasDrain_15 : decode (pw_cc cx_X_hasDrain) 15 = .ok (.aload_n 0, 1) := by decide +kernel
theorem d_X_hasDrain_16 : decode (pw_cc cx_X_hasDrain) 16 = .ok (.getfield 37, 3) := by decide +kernel
theorem d_X_hasDrain_19 : decode (pw_cc cx_X_hasDrain) 19 = .ok (.iload_n 3, 1) := by decide +kernel
theorem d_X_hasDrain_20 : decode (pw_cc cx_X_hasDrain) 20 = .ok (.invokeinterface 382 2, 5) := by decide +kernel
theorem d_X_hasDrain_25 : decode (pw_cc cx_X_hasDrain) 25 = .ok (.checkcast 261, 3) := by decide +kernel
theorem d_X_hasDrain_28 : decode (pw_cc cx_X_hasDrain) 28 = .ok (.astore 4, 2) := by decide +kernel
theorem d_X_hasDrain_30 : decode (pw_cc cx_X_hasDrain) 30 = .ok (.aload 4, 2) := by decide +kernel
theorem d_X_hasDrain_32 : decode (pw_cc cx_X_hasDrain) 32 = .ok (.getfield 435, 3) := by decide +kernel
theorem d_X_hasDrain_35 : decode (pw_cc cx_X_hasDrain) 35 = .ok (.aload_n 1, 1) := by decide +kernel
theorem d_X_hasDrain_36 : decode (pw_cc cx_X_hasDrain) 36 = .ok (.if_acmp .ne 14, 3) := by decide +kernel
theorem d_X_hasDrain_39 : decode (pw_cc cx_X_hasDrain) 39 = .ok (.aload 4, 2) := by decide +kernel
theorem d_X_hasDrain_41 : decode (pw_cc cx_X_hasDrain) 41 = .ok (.getfield 438, 3) := by decide +kernel
theorem d_X_hasDrain_44 : decode (pw_cc cx_X_hasDrain) 44 = .ok (.aload_n 2, 1) := by decide +kernel
theorem d_X_hasDrain_45 : decode (pw_cc cx_X_hasDrain) 45 = .ok (.if_acmp .ne 5, 3) := by decide +kernel
theorem d_X_hasDrain_48 : decode (pw_cc cx_X_hasDrain) 48 = .ok (.iconst 1, 1) := by decide +kernel
theorem d_X_hasDrain_49 : decode (pw_cc cx_X_hasDrain) 49 = .ok (.ireturn, 1) := by decide +kernel
theorem d_X_hasDrain_50 : decode (pw_cc cx_X_hasDrain) 50 = .ok (.iinc 3 1, 3) := by decide +kernel
theorem d_X_hasDrain_53 : decode (pw_cc cx_X_hasDrain) 53 = .ok (.goto (-51), 3) := by decide +kernel
theorem d_X_hasDrain_56 : decode (pw_cc cx_X_hasDrain) 56 = .ok (.iconst 0, 1) := by decide +kernel
theorem d_X_hasDrain_57 : decode (pw_cc cx_X_hasDrain) 57 = .ok (.ireturn, 1) := by decide +kernel
set_option maxHeartbeats 4000000 in
set_option maxRecDepth 20000 in
def lp_X_hasDrain_2 (Q : pw_W → Int32 → Prop) (X : pw_W → Nat → Prop) : Nat → Int32 → Int32 → Int32 → pw_W → Prop := fun k => Nat.rec (motive := fun _ => Int32 → Int32 → Int32 → pw_W → Prop) (fun _ _ _ _ => False) (fun _ ih a1 a2 a3 w => w.1 7 0 6 = 0 ∧ ((nI (pw_ln w 21 0)) ≤ a3 → Q w 0) ∧ (¬ (nI (pw_ln w 21 0)) ≤ a3 → w.1 7 0 6 = 0 ∧ pw_jn a3 (pw_ln w 21 0) ∧ ∀ v5, v5 = (w.1 21 0 (pw_i a3)) → 0 ≤ v5 ∧ (¬ (w.1 1 (pw_i v5) 0) = a1 → ih a1 a2 (a3 + 1) w) ∧ ((w.1 1 (pw_i v5) 0) = a1 → (¬ (w.1 1 (pw_i v5) 1) = a2 → ih a1 a2 (a3 + 1) w) ∧ ((w.1 1 (pw_i v5) 1) = a2 → Q w 1)))) k
set_option maxHeartbeats 4000000 in
set_option maxRecDepth 20000 in
theorem lp_X_hasDrain_2_s {Q : pw_W → Int32 → Prop} {X : pw_W → Nat → Prop}  {k : Nat} {a1 a2 a3 : Int32} {w : pw_W} : lp_X_hasDrain_2 Q X (k + 1) a1 a2 a3 w = (let ih := lp_X_hasDrain_2 Q X k; w.1 7 0 6 = 0 ∧ ((nI (pw_ln w 21 0)) ≤ a3 → Q w 0) ∧ (¬ (nI (pw_ln w 21 0)) ≤ a3 → w.1 7 0 6 = 0 ∧ pw_jn a3 (pw_ln w 21 0) ∧ ∀ v5, v5 = (w.1 21 0 (pw_i a3)) → 0 ≤ v5 ∧ (¬ (w.1 1 (pw_i v5) 0) = a1 → ih a1 a2 (a3 + 1) w) ∧ ((w.1 1 (pw_i v5) 0) = a1 → (¬ (w.1 1 (pw_i v5) 1) = a2 → ih a1 a2 (a3 + 1) w) ∧ ((w.1 1 (pw_i v5) 1) = a2 → Q w 1)))) := rfl
set_option maxHeartbeats 4000000 in
set_option maxRecDepth 20000 in
theorem vlp_X_hasDrain_2 {l : Launch} {g : pw_G} {Q : pw_W → Int32 → Prop} {X : pw_W → Nat → Prop} (hl0 : l.stackTraces = false) : ∀ (k : Nat) (a1 a2 a3 : Int32) (w : pw_W), lp_X_hasDrain_2 Q X k a1 a2 a3 w → pw_V l g cx_X_hasDrain Q X 2 [(9, 0), (8, a1), (8, a2), (0, a3), (1, 0)] [] w := by
  intro k; induction k with
  | zero => intro _ _ _ _ h; exact h.elim
  | succ k ih =>
    intro a1 a2 a3 w h
    rw [lp_X_hasDrain_2_s] at h
    refine pv_iload_n (n := 3) d_X_hasDrain_2 rfl rfl rfl ?_
    refine pv_aload_n (n := 4) d_X_hasDrain_3 rfl rfl rfl ?_
    obtain ⟨g1, h⟩ := h
    refine gt_X_37 (n := 7) rfl d_X_hasDrain_4 (by decide) g1 rfl ?_
    refine pv_lsize (n := 12) (f := 21) (by decide) q_49 (by decide) rfl d_X_hasDrain_7 (by decide) rfl ?_
    refine pv_icmp_ge (n := 15) (tgt := 56) d_X_hasDrain_12 (by decide) rfl (fun c2 => ?_) (fun c2 => ?_)
    · replace h := h.1 c2
      refine pv_iconst (v := 0) (n := 57) d_X_hasDrain_56 (by decide) rfl ?_
      exact pv_zret rfl rfl d_X_hasDrain_57 (by decide) h
    · replace h := h.2 c2
      refine pv_aload_n (n := 16) d_X_hasDrain_15 rfl rfl rfl ?_
      obtain ⟨g3, h⟩ := h
      refine gt_X_37 (n := 19) rfl d_X_hasDrain_16 (by decide) g3 rfl ?_
      refine pv_iload_n (n := 20) d_X_hasDrain_19 rfl rfl rfl ?_
      obtain ⟨g4, h⟩ := h
      refine pv_lget (n := 25) (f := 21) (F := 1) (by decide) rfl q_52 (by decide) rfl d_X_hasDrain_20 (by decide) g4 rfl (fun _ => ?_)
      refine pv_cast (n := 28) pw_cf1 q_276 d_X_hasDrain_25 rfl ?_
      refine pv_nm (fun v5 e6 => ?_)
      replace h := h v5 e6
      refine pv_astore (n := 30) (L' := [(9, 0), (8, a1), (8, a2), (0, a3), (3, v5)]) d_X_hasDrain_28 (by decide) rfl rfl ?_
      refine pv_aload (n := 32) d_X_hasDrain_30 rfl rfl ?_
      obtain ⟨g7, h⟩ := h
      refine gt_X_435 (n := 35) rfl d_X_hasDrain_32 g7 rfl ?_
      refine pv_aload_n (n := 36) d_X_hasDrain_35 rfl rfl rfl ?_
      refine pv_acmp_ne (n := 39) (tgt := 50) d_X_hasDrain_36 (by decide) (by decide) rfl (fun c8 => ?_) (fun c8 => ?_)
      · replace h := h.1 c8
        refine pv_iinc (v := (a3 + 1)) (n := 53) (L1 := [(9, 0), (8, a1), (8, a2), (0, (a3 + 1)), (3, v5)]) d_X_hasDrain_50 rfl rfl rfl (by decide) rfl ?_
        refine pv_goto (tgt := 2) d_X_hasDrain_53 (by decide) ?_
        refine pv_unset (i := 4) (L1 := [(9, 0), (8, a1), (8, a2), (0, (a3 + 1)), (1, 0)]) rfl ?_
        exact ih _ _ _ _ h
      · replace h := h.2 c8
        refine pv_aload (n := 41) d_X_hasDrain_39 rfl rfl ?_
        refine gt_X_438 (n := 44) rfl d_X_hasDrain_41 g7 rfl ?_
        refine pv_aload_n (n := 45) d_X_hasDrain_44 rfl rfl rfl ?_
        refine pv_acmp_ne (n := 48) (tgt := 50) d_X_hasDrain_45 (by decide) (by decide) rfl (fun c9 => ?_) (fun c9 => ?_)
        · replace h := h.1 c9
          refine pv_iinc (v := (a3 + 1)) (n := 53) (L1 := [(9, 0), (8, a1), (8, a2), (0, (a3 + 1)), (3, v5)]) d_X_hasDrain_50 rfl rfl rfl (by decide) rfl ?_
          refine pv_goto (tgt := 2) d_X_hasDrain_53 (by decide) ?_
          refine pv_unset (i := 4) (L1 := [(9, 0), (8, a1), (8, a2), (0, (a3 + 1)), (1, 0)]) rfl ?_
          exact ih _ _ _ _ h
        · replace h := h.2 c9
          refine pv_iconst (v := 1) (n := 49) d_X_hasDrain_48 (by decide) rfl ?_
          exact pv_zret rfl rfl d_X_hasDrain_49 (by decide) h
set_option maxHeartbeats 4000000 in
set_option maxRecDepth 20000 in
def wp_X_hasDrain (w : pw_W) (a1 a2 : Int32) (Q : pw_W → Int32 → Prop) (X : pw_W → Nat → Prop) : Prop := ∃ k10, lp_X_hasDrain_2 Q X k10 a1 a2 0 w
set_option maxHeartbeats 4000000 in
set_option maxRecDepth 20000 in
theorem vw_X_hasDrain {l : Launch} {g : pw_G} {Q : pw_W → Int32 → Prop} {X : pw_W → Nat → Prop} (hl0 : l.stackTraces = false) {w : pw_W} {a1 a2 : Int32} (h : wp_X_hasDrain w a1 a2 Q X) : pw_V l g cx_X_hasDrain Q X 0 [(9, 0), (8, a1), (8, a2), (1, 0), (1, 0)] [] w := by
  unfold wp_X_hasDrain at h
  refine pv_iconst (v := 0) (n := 1) d_X_hasDrain_0 (by decide) rfl ?_
  refine pv_istore_n (n := 2) (L' := [(9, 0), (8, a1), (8, a2), (0, 0), (1, 0)]) d_X_hasDrain_1 rfl (by decide) rfl rfl ?_
  obtain ⟨k10, h⟩ := h
  exact vlp_X_hasDrain_2 hl0 _ _ _ _ _ h
set_option maxHeartbeats 4000000 in
set_option maxRecDepth 20000 in
theorem con_X_hasDrain {l : Launch} {g : pw_G} {Q : pw_W → Int32 → Prop} {X : pw_W → Nat → Prop} (hl0 : l.stackTraces = false) {w : pw_W} {a1 a2 : Int32} (h : wp_X_hasDrain w a1 a2 Q X) : pw_Con l g y_X_hasDrain cx_X_hasDrain [(9, 0), (8, a1), (8, a2)] w Q X :=
  pw_con (by decide +kernel) rfl rfl hl0 rfl (Nat.le_of_ble_eq_true rfl) (by simp) (vw_X_hasDrain hl0 h)
theorem d_X_isSharingSide_0 : decode (pw_cc cx_X_isSharingSide) 0 = .ok (.iload_n 0, 1) := by decide +kernel
theorem d_X_isSharingSide_1 : decode (pw_cc cx_X_isSharingSide) 1 = .ok (.bipush 10, 2) := by decide +kernel
theorem d_X_isSharingSide_3 : decode (pw_cc cx_X_isSharingSide) 3 = .ok (.irem, 1) := by decide +kernel
theorem d_X_isSharingSide_4 : decode (pw_cc cx_X_isSharingSide) 4 = .ok (.iload_n 1, 1) := by decide +kernel
theorem d_X_isSharingSide_5 : decode (pw_cc cx_X_isSharingSide) 5 = .ok (.bipush 10, 2) := by decide +kernel
theorem d_X_isSharingSide_7 : decode (pw_cc cx_X_isSharingSide) 7 = .ok (.irem, 1) := by decide +kernel
theorem d_X_isSharingSide_8 : decode (pw_cc cx_X_isSharingSide) 8 = .ok (.isub, 1) := by decide +kernel
theorem d_X_isSharingSide_9 : decode (pw_cc cx_X_isSharingSide) 9 = .ok (.invokestatic 389, 3) := by decide +kernel
theorem d_X_isSharingSide_12 : decode (pw_cc cx_X_isSharingSide) 12 = .ok (.istore_n 2, 1) := by decide +kernel
theorem d_X_isSharingSide_13 : decode (pw_cc cx_X_isSharingSide) 13 = .ok (.iload_n 0, 1) := by decide +kernel
theorem d_X_isSharingSide_14 : decode (pw_cc cx_X_isSharingSide) 14 = .ok (.bipush 10, 2) := by decide +kernel
theorem d_X_isSharingSide_16 : decode (pw_cc cx_X_isSharingSide) 16 = .ok (.idiv, 1) := by decide +kernel
theorem d_X_isSharingSide_17 : decode (pw_cc cx_X_isSharingSide) 17 = .ok (.iload_n 1, 1) := by decide +kernel
theorem d_X_isSharingSide_18 : decode (pw_cc cx_X_isSharingSide) 18 = .ok (.bipush 10, 2) := by decide +kernel
theorem d_X_isSharingSide_20 : decode (pw_cc cx_X_isSharingSide) 20 = .ok (.idiv, 1) := by decide +kernel
theorem d_X_isSharingSide_21 : decode (pw_cc cx_X_isSharingSide) 21 = .ok (.isub, 1) := by decide +kernel
theorem d_X_isSharingSide_22 : decode (pw_cc cx_X_isSharingSide) 22 = .ok (.invokestatic 389, 3) := by decide +kernel
theorem d_X_isSharingSide_25 : decode (pw_cc cx_X_isSharingSide) 25 = .ok (.istore_n 3, 1) := by decide +kernel
theorem d_X_isSharingSide_26 : decode (pw_cc cx_X_isSharingSide) 26 = .ok (.iload_n 2, 1) := by decide +kernel
theorem d_X_isSharingSide_27 : decode (pw_cc cx_X_isSharingSide) 27 = .ok (.iload_n 3, 1) := by decide +kernel
theorem d_X_isSharingSide_28 : decode (pw_cc cx_X_isSharingSide) 28 = .ok (.iadd, 1) := by decide +kernel
theorem d_X_isSharingSide_29 : decode (pw_cc cx_X_isSharingSide) 29 = .ok (.iconst 1, 1) := by decide +kernel
theorem d_X_isSharingSide_30 : decode (pw_cc cx_X_isSharingSide) 30 = .ok (.if_icmp .ne 7, 3) := by decide +kernel
theorem d_X_isSharingSide_33 : decode (pw_cc cx_X_isSharingSide) 33 = .ok (.iconst 1, 1) := by decide +kernel
theorem d_X_isSharingSide_34 : decode (pw_cc cx_X_isSharingSide) 34 = .ok (.goto 4, 3) := by decide +kernel
theorem d_X_isSharingSide_37 : decode (pw_cc cx_X_isSharingSide) 37 = .ok (.iconst 0, 1) := by decide +kernel
theorem d_X_isSharingSide_38 : decode (pw_cc cx_X_isSharingSide) 38 = .ok (.ireturn, 1) := by decide +kernel
set_option maxHeartbeats 4000000 in
set_option maxRecDepth 20000 in
def wp_X_isSharingSide (w : pw_W) (a0 a1 : Int32) (Q : pw_W → Int32 → Prop) (X : pw_W → Nat → Prop) : Prop := ∀ v1, v1 = (if 0 ≤ ((a0 - a0 / 10 * 10) - (a1 - a1 / 10 * 10)) then ((a0 - a0 / 10 * 10) - (a1 - a1 / 10 * 10)) else -((a0 - a0 / 10 * 10) - (a1 - a1 / 10 * 10))) → ∀ v3, v3 = (if 0 ≤ ((a0 / 10) - (a1 / 10)) then ((a0 / 10) - (a1 / 10)) else -((a0 / 10) - (a1 / 10))) → (¬ (v1 + v3) = 1 → Q w 0) ∧ ((v1 + v3) = 1 → Q w 1)
set_option maxHeartbeats 4000000 in
set_option maxRecDepth 20000 in
theorem vw_X_isSharingSide {l : Launch} {g : pw_G} {Q : pw_W → Int32 → Prop} {X : pw_W → Nat → Prop} (hl0 : l.stackTraces = false) {w : pw_W} {a0 a1 : Int32} (h : wp_X_isSharingSide w a0 a1 Q X) : pw_V l g cx_X_isSharingSide Q X 0 [(0, a0), (0, a1), (1, 0), (1, 0)] [] w := by
  unfold wp_X_isSharingSide at h
  refine pv_iload_n (n := 1) d_X_isSharingSide_0 rfl rfl rfl ?_
  refine pv_bipush (v := 10) (n := 3) d_X_isSharingSide_1 (by decide) rfl ?_
  refine pv_irem (n := 4) d_X_isSharingSide_3 (by decide) rfl ?_
  refine pv_iload_n (n := 5) d_X_isSharingSide_4 rfl rfl rfl ?_
  refine pv_bipush (v := 10) (n := 7) d_X_isSharingSide_5 (by decide) rfl ?_
  refine pv_irem (n := 8) d_X_isSharingSide_7 (by decide) rfl ?_
  refine pv_isub (n := 9) d_X_isSharingSide_8 rfl ?_
  refine pv_mabs (n := 12) (pw_mw_abs q_279 (by decide)) rfl d_X_isSharingSide_9 rfl ?_
  refine pv_nm (fun v1 e2 => ?_)
  replace h := h v1 e2
  refine pv_istore_n (n := 13) (L' := [(0, a0), (0, a1), (0, v1), (1, 0)]) d_X_isSharingSide_12 rfl (by decide) rfl rfl ?_
  refine pv_iload_n (n := 14) d_X_isSharingSide_13 rfl rfl rfl ?_
  refine pv_bipush (v := 10) (n := 16) d_X_isSharingSide_14 (by decide) rfl ?_
  refine pv_idiv (n := 17) d_X_isSharingSide_16 (by decide) rfl ?_
  refine pv_iload_n (n := 18) d_X_isSharingSide_17 rfl rfl rfl ?_
  refine pv_bipush (v := 10) (n := 20) d_X_isSharingSide_18 (by decide) rfl ?_
  refine pv_idiv (n := 21) d_X_isSharingSide_20 (by decide) rfl ?_
  refine pv_isub (n := 22) d_X_isSharingSide_21 rfl ?_
  refine pv_mabs (n := 25) (pw_mw_abs q_279 (by decide)) rfl d_X_isSharingSide_22 rfl ?_
  refine pv_nm (fun v3 e4 => ?_)
  replace h := h v3 e4
  refine pv_istore_n (n := 26) (L' := [(0, a0), (0, a1), (0, v1), (0, v3)]) d_X_isSharingSide_25 rfl (by decide) rfl rfl ?_
  refine pv_iload_n (n := 27) d_X_isSharingSide_26 rfl rfl rfl ?_
  refine pv_iload_n (n := 28) d_X_isSharingSide_27 rfl rfl rfl ?_
  refine pv_iadd (n := 29) d_X_isSharingSide_28 rfl ?_
  refine pv_iconst (v := 1) (n := 30) d_X_isSharingSide_29 (by decide) rfl ?_
  refine pv_icmp_ne (n := 33) (tgt := 37) d_X_isSharingSide_30 (by decide) rfl (fun c5 => ?_) (fun c5 => ?_)
  · replace h := h.1 c5
    refine pv_iconst (v := 0) (n := 38) d_X_isSharingSide_37 (by decide) rfl ?_
    exact pv_zret rfl rfl d_X_isSharingSide_38 (by decide) h
  · replace h := h.2 c5
    refine pv_iconst (v := 1) (n := 34) d_X_isSharingSide_33 (by decide) rfl ?_
    refine pv_goto (tgt := 38) d_X_isSharingSide_34 (by decide) ?_
    exact pv_zret rfl rfl d_X_isSharingSide_38 (by decide) h
set_option maxHeartbeats 4000000 in
set_option maxRecDepth 20000 in
theorem con_X_isSharingSide {l : Launch} {g : pw_G} {Q : pw_W → Int32 → Prop} {X : pw_W → Nat → Prop} (hl0 : l.stackTraces = false) {w : pw_W} {a0 a1 : Int32} (h : wp_X_isSharingSide w a0 a1 Q X) : pw_Con l g y_X_isSharingSide cx_X_isSharingSide [(0, a0), (0, a1)] w Q X :=
  pw_con (by decide +kernel) rfl rfl hl0 rfl (Nat.le_of_ble_eq_true rfl) (by simp) (vw_X_isSharingSide hl0 h)
theorem d_Drain_init_0 : decode (pw_cc cx_Drain_init) 0 = .ok (.aload_n 0, 1) := by decide +kernel
theorem d_Drain_init_1 : decode (pw_cc cx_Drain_init) 1 = .ok (.invokespecial 3, 3) := by decide +kernel
theorem d_Drain_init_4 : decode (pw_cc cx_Drain_init) 4 = .ok (.aload_n 0, 1) := by decide +kernel
theorem d_Drain_init_5 : decode (pw_cc cx_Drain_init) 5 = .ok (.aload_n 1, 1) := by decide +kernel
theorem d_Drain_init_6 : decode (pw_cc cx_Drain_init) 6 = .ok (.putfield 9, 3) := by decide +kernel
theorem d_Drain_init_9 : decode (pw_cc cx_Drain_init) 9 = .ok (.aload_n 0, 1) := by decide +kernel
theorem d_Drain_init_10 : decode (pw_cc cx_Drain_init) 10 = .ok (.aload_n 2, 1) := by decide +kernel
theorem d_Drain_init_11 : decode (pw_cc cx_Drain_init) 11 = .ok (.putfield 15, 3) := by decide +kernel
theorem d_Drain_init_14 : decode (pw_cc cx_Drain_init) 14 = .ok (.return_, 1) := by decide +kernel
set_option maxHeartbeats 4000000 in
set_option maxRecDepth 20000 in
def wp_Drain_init (w : pw_W) (a0 a1 a2 : Int32) (Q : pw_W → Int32 → Prop) (X : pw_W → Nat → Prop) : Prop := 0 ≤ a0 ∧ ∀ w2, w2 = pw_ps w 1 (pw_i a0) 0 a1 → ∀ w4, w4 = pw_ps w2 1 (pw_i a0) 1 a2 → Q w4 0
set_option maxHeartbeats 4000000 in
set_option maxRecDepth 20000 in
theorem vw_Drain_init {l : Launch} {g : pw_G} {Q : pw_W → Int32 → Prop} {X : pw_W → Nat → Prop} (hl0 : l.stackTraces = false) {w : pw_W} {a0 a1 a2 : Int32} (h : wp_Drain_init w a0 a1 a2 Q X) : pw_V l g cx_Drain_init Q X 0 [(3, a0), (8, a1), (8, a2)] [] w := by
  unfold wp_Drain_init at h
  refine pv_aload_n (n := 1) d_Drain_init_0 rfl rfl rfl ?_
  obtain ⟨g1, h⟩ := h
  refine pv_objInit (n := 4) q_280 q_1 q_2 (by decide) rfl g1 d_Drain_init_1 rfl ?_
  refine pv_aload_n (n := 5) d_Drain_init_4 rfl rfl rfl ?_
  refine pv_aload_n (n := 6) d_Drain_init_5 rfl rfl rfl ?_
  refine pt_Drain_9 (n := 9) rfl rfl d_Drain_init_6 g1 rfl (fun w2 e3 => ?_)
  replace h := h w2 e3
  refine pv_aload_n (n := 10) d_Drain_init_9 rfl rfl rfl ?_
  refine pv_aload_n (n := 11) d_Drain_init_10 rfl rfl rfl ?_
  refine pt_Drain_15 (n := 14) rfl rfl d_Drain_init_11 g1 rfl (fun w4 e5 => ?_)
  replace h := h w4 e5
  exact pv_vret rfl rfl d_Drain_init_14 h
set_option maxHeartbeats 4000000 in
set_option maxRecDepth 20000 in
theorem con_Drain_init {l : Launch} {g : pw_G} {Q : pw_W → Int32 → Prop} {X : pw_W → Nat → Prop} (hl0 : l.stackTraces = false) {w : pw_W} {a0 a1 a2 : Int32} (h : wp_Drain_init w a0 a1 a2 Q X) : pw_Con l g y_Drain_init cx_Drain_init [(3, a0), (8, a1), (8, a2)] w Q X :=
  pw_con (by decide +kernel) rfl rfl hl0 rfl (Nat.le_of_ble_eq_true rfl) (by simp) (vw_Drain_init hl0 h)
theorem d_X_dig_0 : decode (pw_cc cx_X_dig) 0 = .ok (.iload_n 1, 1) := by decide +kernel
theorem d_X_dig_1 : decode (pw_cc cx_X_dig) 1 = .ok (.iload_n 2, 1) := by decide +kernel
theorem d_X_dig_2 : decode (pw_cc cx_X_dig) 2 = .ok (.invokestatic 65, 3) := by decide +kernel
theorem d_X_dig_5 : decode (pw_cc cx_X_dig) 5 = .ok (.iload_n 1, 1) := by decide +kernel
theorem d_X_dig_6 : decode (pw_cc cx_X_dig) 6 = .ok (.iload_n 2, 1) := by decide +kernel
theorem d_X_dig_7 : decode (pw_cc cx_X_dig) 7 = .ok (.invokestatic 253, 3) := by decide +kernel
theorem d_X_dig_10 : decode (pw_cc cx_X_dig) 10 = .ok (.invokestatic 171, 3) := by decide +kernel
theorem d_X_dig_13 : decode (pw_cc cx_X_dig) 13 = .ok (.aload_n 0, 1) := by decide +kernel
theorem d_X_dig_14 : decode (pw_cc cx_X_dig) 14 = .ok (.getfield 11, 3) := by decide +kernel
theorem d_X_dig_17 : decode (pw_cc cx_X_dig) 17 = .ok (.iload_n 1, 1) := by decide +kernel
theorem d_X_dig_18 : decode (pw_cc cx_X_dig) 18 = .ok (.aaload, 1) := by decide +kernel
theorem d_X_dig_19 : decode (pw_cc cx_X_dig) 19 = .ok (.astore_n 3, 1) := by decide +kernel
theorem d_X_dig_20 : decode (pw_cc cx_X_dig) 20 = .ok (.aload_n 0, 1) := by decide +kernel
theorem d_X_dig_21 : decode (pw_cc cx_X_dig) 21 = .ok (.getfield 11, 3) := by decide +kernel
theorem d_X_dig_24 : decode (pw_cc cx_X_dig) 24 = .ok (.iload_n 2, 1) := by decide +kernel
theorem d_X_dig_25 : decode (pw_cc cx_X_dig) 25 = .ok (.aaload, 1) := by decide +kernel
theorem d_X_dig_26 : decode (pw_cc cx_X_dig) 26 = .ok (.astore 4, 2) := by decide +kernel
theorem d_X_dig_28 : decode (pw_cc cx_X_dig) 28 = .ok (.aload_n 0, 1) := by decide +kernel
theorem d_X_dig_29 : decode (pw_cc cx_X_dig) 29 = .ok (.aload_n 3, 1) := by decide +kernel
theorem d_X_dig_30 : decode (pw_cc cx_X_dig) 30 = .ok (.aload 4, 2) := by decide +kernel
theorem d_X_dig_32 : decode (pw_cc cx_X_dig) 32 = .ok (.invokevirtual 257, 3) := by decide +kernel
theorem d_X_dig_35 : decode (pw_cc cx_X_dig) 35 = .ok (.ifCond .ne 7, 3) := by decide +kernel
theorem d_X_dig_38 : decode (pw_cc cx_X_dig) 38 = .ok (.iconst 1, 1) := by decide +kernel
theorem d_X_dig_39 : decode (pw_cc cx_X_dig) 39 = .ok (.goto 4, 3) := by decide +kernel
theorem d_X_dig_42 : decode (pw_cc cx_X_dig) 42 = .ok (.iconst 0, 1) := by decide +kernel
theorem d_X_dig_43 : decode (pw_cc cx_X_dig) 43 = .ok (.invokestatic 80, 3) := by decide +kernel
theorem d_X_dig_46 : decode (pw_cc cx_X_dig) 46 = .ok (.aload_n 0, 1) := by decide +kernel
theorem d_X_dig_47 : decode (pw_cc cx_X_dig) 47 = .ok (.getfield 37, 3) := by decide +kernel
theorem d_X_dig_50 : decode (pw_cc cx_X_dig) 50 = .ok (.invokeinterface 88 1, 5) := by decide +kernel
theorem d_X_dig_55 : decode (pw_cc cx_X_dig) 55 = .ok (.bipush 20, 2) := by decide +kernel
theorem d_X_dig_57 : decode (pw_cc cx_X_dig) 57 = .ok (.if_icmp .ge 7, 3) := by decide +kernel
theorem d_X_dig_60 : decode (pw_cc cx_X_dig) 60 = .ok (.iconst 1, 1) := by decide +kernel
theorem d_X_dig_61 : decode (pw_cc cx_X_dig) 61 = .ok (.goto 4, 3) := by decide +kernel
theorem d_X_dig_64 : decode (pw_cc cx_X_dig) 64 = .ok (.iconst 0, 1) := by decide +kernel
theorem d_X_dig_65 : decode (pw_cc cx_X_dig) 65 = .ok (.invokestatic 80, 3) := by decide +kernel
theorem d_X_dig_68 : decode (pw_cc cx_X_dig) 68 = .ok (.aload_n 0, 1) := by decide +kernel
theorem d_X_dig_69 : decode (pw_cc cx_X_dig) 69 = .ok (.getfield 37, 3) := by decide +kernel
theorem d_X_dig_72 : decode (pw_cc cx_X_dig) 72 = .ok (.new 261, 3) := by decide +kernel
theorem d_X_dig_75 : decode (pw_cc cx_X_dig) 75 = .ok (.dup, 1) := by decide +kernel
theorem d_X_dig_76 : decode (pw_cc cx_X_dig) 76 = .ok (.aload_n 3, 1) := by decide +kernel
theorem d_X_dig_77 : decode (pw_cc cx_X_dig) 77 = .ok (.aload 4, 2) := by decide +kernel
theorem d_X_dig_79 : decode (pw_cc cx_X_dig) 79 = .ok (.invokespecial 263, 3) := by decide +kernel
theorem d_X_dig_82 : decode (pw_cc cx_X_dig) 82 = .ok (.invokeinterface 45 2, 5) := by decide +kernel
theorem d_X_dig_87 : decode (pw_cc cx_X_dig) 87 = .ok (.pop, 1) := by decide +kernel
theorem d_X_dig_88 : decode (pw_cc cx_X_dig) 88 = .ok (.aload_n 0, 1) := by decide +kernel
theorem d_X_dig_89 : decode (pw_cc cx_X_dig) 89 = .ok (.getfield 37, 3) := by decide +kernel
theorem d_X_dig_92 : decode (pw_cc cx_X_dig) 92 = .ok (.invokeinterface 88 1, 5) := by decide +kernel
theorem d_X_dig_97 : decode (pw_cc cx_X_dig) 97 = .ok (.ireturn, 1) := by decide +kernel
set_option maxHeartbeats 4000000 in
set_option maxRecDepth 20000 in
def jp_X_dig_65 (Q : pw_W → Int32 → Prop) (X : pw_W → Nat → Prop) (a3 a4 s0 : Int32) (w : pw_W) : Prop := wp_X_checkState w s0 (fun w1 r2 => w1.1 7 0 6 = 0 ∧ pw_rm w1 1 2 ∧ ∀ w5, w5 = pw_nw w1 1 0 2 → wp_Drain_init w5 (nI (pw_nv w1 1)) a3 a4 (fun w7 r8 => pw_lg w7 21 0 ∧ ∀ w10, w10 = pw_la w7 21 0 (nI (pw_nv w1 1)) → w10.1 7 0 6 = 0 ∧ Q w10 (nI (pw_ln w10 21 0))) (fun _ _ => False)) X
set_option maxHeartbeats 4000000 in
set_option maxRecDepth 20000 in
theorem vjp_X_dig_65 {l : Launch} {g : pw_G} {Q : pw_W → Int32 → Prop} {X : pw_W → Nat → Prop} (hl0 : l.stackTraces = false) (a3 a4 s0 : Int32) (w : pw_W) (h : jp_X_dig_65 Q X a3 a4 s0 w) : pw_V l g cx_X_dig Q X 65 [(9, 0), (1, 0), (1, 0), (8, a3), (8, a4)] [(0, s0)] w := by
  unfold jp_X_dig_65 at h
  refine pv_callS (n := 68) [(0, s0)] [] (con_X_checkState hl0 h) q_124 q_125 q_62 q_123 pyo_X_checkState (by decide) rfl rfl d_X_dig_65 rfl (fun w1 r2 h _ => ?_) (fun _ _ h => pvx_out rfl h)
  show pw_V l g cx_X_dig Q X 68 [(9, 0), (1, 0), (1, 0), (8, a3), (8, a4)] [] w1
  refine pv_aload_n (n := 69) d_X_dig_68 rfl rfl rfl ?_
  obtain ⟨g3, h⟩ := h
  refine gt_X_37 (n := 72) rfl d_X_dig_69 (by decide) g3 rfl ?_
  obtain ⟨g4, h⟩ := h
  refine nw_1 (n := 75) q_276 d_X_dig_72 g4 rfl (fun w5 e6 => ?_)
  replace h := h w5 e6
  refine pv_dup (n := 76) d_X_dig_75 (by decide) rfl ?_
  refine pv_aload_n (n := 77) d_X_dig_76 rfl rfl rfl ?_
  refine pv_aload (n := 79) d_X_dig_77 rfl rfl ?_
  refine pv_callI (n := 82) (x := (nI (pw_nv w1 1))) (f := 1) [(8, a3), (8, a4)] [(3, (nI (pw_nv w1 1))), (23, 0)] (con_Drain_init hl0 h) rfl rfl q_285 q_286 q_284 q_283 pyo_Drain_init (by decide) rfl rfl (nI_pos' (by have := g4.2.2; omega)) d_X_dig_79 rfl (fun w7 r8 h _ => ?_) (fun _ _ h => h.elim)
  show pw_V l g cx_X_dig Q X 82 [(9, 0), (1, 0), (1, 0), (8, a3), (8, a4)] [(3, (nI (pw_nv w1 1))), (23, 0)] w7
  obtain ⟨g9, h⟩ := h
  refine pv_ladd (n := 87) (f := 21) (F := 1) (by decide) rfl q_44 (by decide) rfl d_X_dig_82 (by decide) (nI_pos' (by have := g4.2.2; omega)) g9 rfl (fun w10 e11 => ?_)
  replace h := h w10 e11
  refine pv_pop (n := 88) d_X_dig_87 (by decide) rfl ?_
  refine pv_aload_n (n := 89) d_X_dig_88 rfl rfl rfl ?_
  obtain ⟨g12, h⟩ := h
  refine gt_X_37 (n := 92) rfl d_X_dig_89 (by decide) g12 rfl ?_
  refine pv_lsize (n := 97) (f := 21) (by decide) q_49 (by decide) rfl d_X_dig_92 (by decide) rfl ?_
  exact pv_iret rfl rfl d_X_dig_97 h
set_option maxHeartbeats 4000000 in
set_option maxRecDepth 20000 in
def jp_X_dig_43 (Q : pw_W → Int32 → Prop) (X : pw_W → Nat → Prop) (a3 a4 s0 : Int32) (w : pw_W) : Prop := wp_X_checkState w s0 (fun w13 r14 => w13.1 7 0 6 = 0 ∧ ((20 : Int32) ≤ (nI (pw_ln w13 21 0)) → jp_X_dig_65 Q X a3 a4 0 w13) ∧ (¬ (20 : Int32) ≤ (nI (pw_ln w13 21 0)) → jp_X_dig_65 Q X a3 a4 1 w13)) X
set_option maxHeartbeats 4000000 in
set_option maxRecDepth 20000 in
theorem vjp_X_dig_43 {l : Launch} {g : pw_G} {Q : pw_W → Int32 → Prop} {X : pw_W → Nat → Prop} (hl0 : l.stackTraces = false) (a3 a4 s0 : Int32) (w : pw_W) (h : jp_X_dig_43 Q X a3 a4 s0 w) : pw_V l g cx_X_dig Q X 43 [(9, 0), (1, 0), (1, 0), (8, a3), (8, a4)] [(0, s0)] w := by
  unfold jp_X_dig_43 at h
  refine pv_callS (n := 46) [(0, s0)] [] (con_X_checkState hl0 h) q_124 q_125 q_62 q_123 pyo_X_checkState (by decide) rfl rfl d_X_dig_43 rfl (fun w13 r14 h _ => ?_) (fun _ _ h => pvx_out rfl h)
  show pw_V l g cx_X_dig Q X 46 [(9, 0), (1, 0), (1, 0), (8, a3), (8, a4)] [] w13
  refine pv_aload_n (n := 47) d_X_dig_46 rfl rfl rfl ?_
  obtain ⟨g15, h⟩ := h
  refine gt_X_37 (n := 50) rfl d_X_dig_47 (by decide) g15 rfl ?_
  refine pv_lsize (n := 55) (f := 21) (by decide) q_49 (by decide) rfl d_X_dig_50 (by decide) rfl ?_
  refine pv_bipush (v := 20) (n := 57) d_X_dig_55 (by decide) rfl ?_
  refine pv_icmp_ge (n := 60) (tgt := 64) d_X_dig_57 (by decide) rfl (fun c16 => ?_) (fun c16 => ?_)
  · replace h := h.1 c16
    refine pv_iconst (v := 0) (n := 65) d_X_dig_64 (by decide) rfl ?_
    exact vjp_X_dig_65 hl0 _ _ _ _ h
  · replace h := h.2 c16
    refine pv_iconst (v := 1) (n := 61) d_X_dig_60 (by decide) rfl ?_
    refine pv_goto (tgt := 65) d_X_dig_61 (by decide) ?_
    exact vjp_X_dig_65 hl0 _ _ _ _ h
set_option maxHeartbeats 4000000 in
set_option maxRecDepth 20000 in
def wp_X_dig (w : pw_W) (a1 a2 : Int32) (Q : pw_W → Int32 → Prop) (X : pw_W → Nat → Prop) : Prop := wp_X_checkSquares w a1 a2 (fun w17 r18 => wp_X_isSharingSide w17 a1 a2 (fun w19 r20 => wp_X_checkArgument w19 r20 (fun w21 r22 => w21.1 7 0 0 = 0 ∧ pw_jn a1 (pw_ln w21 14 0) ∧ ∀ v25, v25 = (w21.1 14 0 (pw_i a1)) → w21.1 7 0 0 = 0 ∧ pw_jn a2 (pw_ln w21 14 0) ∧ ∀ v29, v29 = (w21.1 14 0 (pw_i a2)) → wp_X_hasDrain w21 v25 v29 (fun w31 r32 => (¬ r32 = 0 → jp_X_dig_43 Q X v25 v29 0 w31) ∧ (r32 = 0 → jp_X_dig_43 Q X v25 v29 1 w31)) (fun _ _ => False)) X) (fun _ _ => False)) X
set_option maxHeartbeats 4000000 in
set_option maxRecDepth 20000 in
theorem vw_X_dig {l : Launch} {g : pw_G} {Q : pw_W → Int32 → Prop} {X : pw_W → Nat → Prop} (hl0 : l.stackTraces = false) {w : pw_W} {a1 a2 : Int32} (h : wp_X_dig w a1 a2 Q X) : pw_V l g cx_X_dig Q X 0 [(9, 0), (0, a1), (0, a2), (1, 0), (1, 0)] [] w := by
  unfold wp_X_dig at h
  refine pv_iload_n (n := 1) d_X_dig_0 rfl rfl rfl ?_
  refine pv_iload_n (n := 2) d_X_dig_1 rfl rfl rfl ?_
  refine pv_callS (n := 5) [(0, a1), (0, a2)] [] (con_X_checkSquares hl0 h) q_143 q_144 q_62 q_142 pyo_X_checkSquares (by decide) rfl rfl d_X_dig_2 rfl (fun w17 r18 h _ => ?_) (fun _ _ h => pvx_out rfl h)
  show pw_V l g cx_X_dig Q X 5 [(9, 0), (0, a1), (0, a2), (1, 0), (1, 0)] [] w17
  refine pv_iload_n (n := 6) d_X_dig_5 rfl rfl rfl ?_
  refine pv_iload_n (n := 7) d_X_dig_6 rfl rfl rfl ?_
  refine pv_callS (n := 10) [(0, a1), (0, a2)] [] (con_X_isSharingSide hl0 h) q_292 q_293 q_62 q_291 pyo_X_isSharingSide (by decide) rfl rfl d_X_dig_7 rfl (fun w19 r20 h _ => ?_) (fun _ _ h => h.elim)
  show pw_V l g cx_X_dig Q X 10 [(9, 0), (0, a1), (0, a2), (1, 0), (1, 0)] [(0, r20)] w19
  refine pv_callS (n := 13) [(0, r20)] [] (con_X_checkArgument hl0 h) q_86 q_87 q_62 q_85 pyo_X_checkArgument (by decide) rfl rfl d_X_dig_10 rfl (fun w21 r22 h _ => ?_) (fun _ _ h => pvx_out rfl h)
  show pw_V l g cx_X_dig Q X 13 [(9, 0), (0, a1), (0, a2), (1, 0), (1, 0)] [] w21
  refine pv_aload_n (n := 14) d_X_dig_13 rfl rfl rfl ?_
  obtain ⟨g23, h⟩ := h
  refine gt_X_11 (n := 17) rfl d_X_dig_14 (by decide) g23 rfl ?_
  refine pv_iload_n (n := 18) d_X_dig_17 rfl rfl rfl ?_
  obtain ⟨g24, h⟩ := h
  refine pv_aald (n := 19) (f := 14) (F := 6) (C := "Peatland$Square") (by decide) (Or.inl ⟨rfl, rfl⟩) (fun _ => rfl) d_X_dig_18 (by decide) g24 rfl (fun _ => ?_)
  refine pv_nm (fun v25 e26 => ?_)
  replace h := h v25 e26
  refine pv_astore_n (n := 20) (L' := [(9, 0), (0, a1), (0, a2), (8, v25), (1, 0)]) d_X_dig_19 rfl (by decide) rfl rfl ?_
  refine pv_aload_n (n := 21) d_X_dig_20 rfl rfl rfl ?_
  obtain ⟨g27, h⟩ := h
  refine gt_X_11 (n := 24) rfl d_X_dig_21 (by decide) g27 rfl ?_
  refine pv_iload_n (n := 25) d_X_dig_24 rfl rfl rfl ?_
  obtain ⟨g28, h⟩ := h
  refine pv_aald (n := 26) (f := 14) (F := 6) (C := "Peatland$Square") (by decide) (Or.inl ⟨rfl, rfl⟩) (fun _ => rfl) d_X_dig_25 (by decide) g28 rfl (fun _ => ?_)
  refine pv_nm (fun v29 e30 => ?_)
  replace h := h v29 e30
  refine pv_astore (n := 28) (L' := [(9, 0), (0, a1), (0, a2), (8, v25), (8, v29)]) d_X_dig_26 (by decide) rfl rfl ?_
  refine pv_aload_n (n := 29) d_X_dig_28 rfl rfl rfl ?_
  refine pv_aload_n (n := 30) d_X_dig_29 rfl rfl rfl ?_
  refine pv_aload (n := 32) d_X_dig_30 rfl rfl ?_
  refine pv_callV (n := 35) (x := 0) [(8, v25), (8, v29)] [] (con_X_hasDrain hl0 h) pw_cf7 rfl q_288 q_289 q_290 q_62 q_287 pyo_X_hasDrain (by decide) rfl rfl (by decide) d_X_dig_32 rfl (fun w31 r32 h _ => ?_) (fun _ _ h => h.elim)
  show pw_V l g cx_X_dig Q X 35 [(9, 0), (0, a1), (0, a2), (8, v25), (8, v29)] [(0, r32)] w31
  refine pv_if_ne (n := 38) (tgt := 42) d_X_dig_35 (by decide) rfl (fun c33 => ?_) (fun c33 => ?_)
  · replace h := h.1 c33
    refine pv_iconst (v := 0) (n := 43) d_X_dig_42 (by decide) rfl ?_
    refine pv_unset (i := 1) (L1 := [(9, 0), (1, 0), (0, a2), (8, v25), (8, v29)]) rfl ?_
    refine pv_unset (i := 2) (L1 := [(9, 0), (1, 0), (1, 0), (8, v25), (8, v29)]) rfl ?_
    exact vjp_X_dig_43 hl0 _ _ _ _ h
  · replace h := h.2 c33
    refine pv_iconst (v := 1) (n := 39) d_X_dig_38 (by decide) rfl ?_
    refine pv_goto (tgt := 43) d_X_dig_39 (by decide) ?_
    refine pv_unset (i := 1) (L1 := [(9, 0), (1, 0), (0, a2), (8, v25), (8, v29)]) rfl ?_
    refine pv_unset (i := 2) (L1 := [(9, 0), (1, 0), (1, 0), (8, v25), (8, v29)]) rfl ?_
    exact vjp_X_dig_43 hl0 _ _ _ _ h
set_option maxHeartbeats 4000000 in
set_option maxRecDepth 20000 in
theorem con_X_dig {l : Launch} {g : pw_G} {Q : pw_W → Int32 → Prop} {X : pw_W → Nat → Prop} (hl0 : l.stackTraces = false) {w : pw_W} {a1 a2 : Int32} (h : wp_X_dig w a1 a2 Q X) : pw_Con l g y_X_dig cx_X_dig [(9, 0), (0, a1), (0, a2)] w Q X :=
  pw_con (by decide +kernel) rfl rfl hl0 rfl (Nat.le_of_ble_eq_true rfl) (by simp) (vw_X_dig hl0 h)
theorem d_X_isAllowed_0 : decode (pw_cc cx_X_isAllowed) 0 = .ok (.aload_n 3, 1) := by decide +kernel
theorem d_X_isAllowed_1 : decode (pw_cc cx_X_isAllowed) 1 = .ok (.getfield 120, 3) := by decide +kernel
theorem d_X_isAllowed_4 : decode (pw_cc cx_X_isAllowed) 4 = .ok (.aload_n 1, 1) := by decide +kernel
theorem d_X_isAllowed_5 : decode (pw_cc cx_X_isAllowed) 5 = .ok (.if_acmp .eq 13, 3) := by decide +kernel
theorem d_X_isAllowed_8 : decode (pw_cc cx_X_isAllowed) 8 = .ok (.aload_n 0, 1) := by decide +kernel
theorem d_X_isAllowed_9 : decode (pw_cc cx_X_isAllowed) 9 = .ok (.iload_n 2, 1) := by decide +kernel
theorem d_X_isAllowed_10 : decode (pw_cc cx_X_isAllowed) 10 = .ok (.aload_n 3, 1) := by decide +kernel
theorem d_X_isAllowed_11 : decode (pw_cc cx_X_isAllowed) 11 = .ok (.aload_n 1, 1) := by decide +kernel
theorem d_X_isAllowed_12 : decode (pw_cc cx_X_isAllowed) 12 = .ok (.invokevirtual 206, 3) := by decide +kernel
theorem d_X_isAllowed_15 : decode (pw_cc cx_X_isAllowed) 15 = .ok (.ifCond .eq 7, 3) := by decide +kernel
theorem d_X_isAllowed_18 : decode (pw_cc cx_X_isAllowed) 18 = .ok (.iconst 1, 1) := by decide +kernel
theorem d_X_isAllowed_19 : decode (pw_cc cx_X_isAllowed) 19 = .ok (.goto 4, 3) := by decide +kernel
theorem d_X_isAllowed_22 : decode (pw_cc cx_X_isAllowed) 22 = .ok (.iconst 0, 1) := by decide +kernel
theorem d_X_isAllowed_23 : decode (pw_cc cx_X_isAllowed) 23 = .ok (.ireturn, 1) := by decide +kernel
set_option maxHeartbeats 4000000 in
set_option maxRecDepth 20000 in
def wp_X_isAllowed (w : pw_W) (a1 a2 a3 : Int32) (Q : pw_W → Int32 → Prop) (X : pw_W → Nat → Prop) : Prop := 0 ≤ a3 ∧ ((w.1 3 (pw_i a3) 2) = a1 → Q w 1) ∧ (¬ (w.1 3 (pw_i a3) 2) = a1 → wp_X_hasRight w a2 a3 a1 (fun w3 r4 => (r4 = 0 → Q w3 0) ∧ (¬ r4 = 0 → Q w3 1)) (fun _ _ => False))
set_option maxHeartbeats 4000000 in
set_option maxRecDepth 20000 in
theorem vw_X_isAllowed {l : Launch} {g : pw_G} {Q : pw_W → Int32 → Prop} {X : pw_W → Nat → Prop} (hl0 : l.stackTraces = false) {w : pw_W} {a1 a2 a3 : Int32} (h : wp_X_isAllowed w a1 a2 a3 Q X) : pw_V l g cx_X_isAllowed Q X 0 [(9, 0), (6, a1), (0, a2), (5, a3)] [] w := by
  unfold wp_X_isAllowed at h
  refine pv_aload_n (n := 1) d_X_isAllowed_0 rfl rfl rfl ?_
  obtain ⟨g1, h⟩ := h
  refine gt_X_120 (n := 4) rfl d_X_isAllowed_1 g1 rfl ?_
  refine pv_aload_n (n := 5) d_X_isAllowed_4 rfl rfl rfl ?_
  refine pv_acmp_eq (n := 8) (tgt := 18) d_X_isAllowed_5 (by decide) (by decide) rfl (fun c2 => ?_) (fun c2 => ?_)
  · replace h := h.1 c2
    refine pv_iconst (v := 1) (n := 19) d_X_isAllowed_18 (by decide) rfl ?_
    refine pv_goto (tgt := 23) d_X_isAllowed_19 (by decide) ?_
    exact pv_zret rfl rfl d_X_isAllowed_23 (by decide) h
  · replace h := h.2 c2
    refine pv_aload_n (n := 9) d_X_isAllowed_8 rfl rfl rfl ?_
    refine pv_iload_n (n := 10) d_X_isAllowed_9 rfl rfl rfl ?_
    refine pv_aload_n (n := 11) d_X_isAllowed_10 rfl rfl rfl ?_
    refine pv_aload_n (n := 12) d_X_isAllowed_11 rfl rfl rfl ?_
    refine pv_callV (n := 15) (x := 0) [(0, a2), (5, a3), (6, a1)] [] (con_X_hasRight hl0 h) pw_cf7 rfl q_63 q_64 q_65 q_62 q_61 pyo_X_hasRight (by decide) rfl rfl (by decide) d_X_isAllowed_12 rfl (fun w3 r4 h _ => ?_) (fun _ _ h => h.elim)
    show pw_V l g cx_X_isAllowed Q X 15 [(9, 0), (6, a1), (0, a2), (5, a3)] [(0, r4)] w3
    refine pv_if_eq (n := 18) (tgt := 22) d_X_isAllowed_15 (by decide) rfl (fun c5 => ?_) (fun c5 => ?_)
    · replace h := h.1 c5
      refine pv_iconst (v := 0) (n := 23) d_X_isAllowed_22 (by decide) rfl ?_
      exact pv_zret rfl rfl d_X_isAllowed_23 (by decide) h
    · replace h := h.2 c5
      refine pv_iconst (v := 1) (n := 19) d_X_isAllowed_18 (by decide) rfl ?_
      refine pv_goto (tgt := 23) d_X_isAllowed_19 (by decide) ?_
      exact pv_zret rfl rfl d_X_isAllowed_23 (by decide) h
set_option maxHeartbeats 4000000 in
set_option maxRecDepth 20000 in
theorem con_X_isAllowed {l : Launch} {g : pw_G} {Q : pw_W → Int32 → Prop} {X : pw_W → Nat → Prop} (hl0 : l.stackTraces = false) {w : pw_W} {a1 a2 a3 : Int32} (h : wp_X_isAllowed w a1 a2 a3 Q X) : pw_Con l g y_X_isAllowed cx_X_isAllowed [(9, 0), (6, a1), (0, a2), (5, a3)] w Q X :=
  pw_con (by decide +kernel) rfl rfl hl0 rfl (Nat.le_of_ble_eq_true rfl) (by simp) (vw_X_isAllowed hl0 h)
theorem d_X_squareNumbered_0 : decode (pw_cc cx_X_squareNumbered) 0 = .ok (.iload_n 1, 1) := by decide +kernel
theorem d_X_squareNumbered_1 : decode (pw_cc cx_X_squareNumbered) 1 = .ok (.bipush 100, 2) := by decide +kernel
theorem d_X_squareNumbered_3 : decode (pw_cc cx_X_squareNumbered) 3 = .ok (.invokestatic 203, 3) := by decide +kernel
theorem d_X_squareNumbered_6 : decode (pw_cc cx_X_squareNumbered) 6 = .ok (.aload_n 0, 1) := by decide +kernel
theorem d_X_squareNumbered_7 : decode (pw_cc cx_X_squareNumbered) 7 = .ok (.getfield 11, 3) := by decide +kernel
theorem d_X_squareNumbered_10 : decode (pw_cc cx_X_squareNumbered) 10 = .ok (.iload_n 1, 1) := by decide +kernel
theorem d_X_squareNumbered_11 : decode (pw_cc cx_X_squareNumbered) 11 = .ok (.aaload, 1) := by decide +kernel
theorem d_X_squareNumbered_12 : decode (pw_cc cx_X_squareNumbered) 12 = .ok (.areturn, 1) := by decide +kernel
set_option maxHeartbeats 4000000 in
set_option maxRecDepth 20000 in
def wp_X_squareNumbered (w : pw_W) (a1 : Int32) (Q : pw_W → Int32 → Prop) (X : pw_W → Nat → Prop) : Prop := wp_X_checkIndex w a1 100 (fun w1 r2 => w1.1 7 0 0 = 0 ∧ pw_jn a1 (pw_ln w1 14 0) ∧ Q w1 (w1.1 14 0 (pw_i a1))) X
set_option maxHeartbeats 4000000 in
set_option maxRecDepth 20000 in
theorem vw_X_squareNumbered {l : Launch} {g : pw_G} {Q : pw_W → Int32 → Prop} {X : pw_W → Nat → Prop} (hl0 : l.stackTraces = false) {w : pw_W} {a1 : Int32} (h : wp_X_squareNumbered w a1 Q X) : pw_V l g cx_X_squareNumbered Q X 0 [(9, 0), (0, a1)] [] w := by
  unfold wp_X_squareNumbered at h
  refine pv_iload_n (n := 1) d_X_squareNumbered_0 rfl rfl rfl ?_
  refine pv_bipush (v := 100) (n := 3) d_X_squareNumbered_1 (by decide) rfl ?_
  refine pv_callS (n := 6) [(0, a1), (0, 100)] [] (con_X_checkIndex hl0 h) q_91 q_92 q_62 q_90 pyo_X_checkIndex (by decide) rfl rfl d_X_squareNumbered_3 rfl (fun w1 r2 h _ => ?_) (fun _ _ h => pvx_out rfl h)
  show pw_V l g cx_X_squareNumbered Q X 6 [(9, 0), (0, a1)] [] w1
  refine pv_aload_n (n := 7) d_X_squareNumbered_6 rfl rfl rfl ?_
  obtain ⟨g3, h⟩ := h
  refine gt_X_11 (n := 10) rfl d_X_squareNumbered_7 (by decide) g3 rfl ?_
  refine pv_iload_n (n := 11) d_X_squareNumbered_10 rfl rfl rfl ?_
  obtain ⟨g4, h⟩ := h
  refine pv_aald (n := 12) (f := 14) (F := 6) (C := "Peatland$Square") (by decide) (Or.inl ⟨rfl, rfl⟩) (fun _ => rfl) d_X_squareNumbered_11 (by decide) g4 rfl (fun _ => ?_)
  exact pv_aret rfl (Or.inl ⟨_, rfl⟩) rfl d_X_squareNumbered_12 h
set_option maxHeartbeats 4000000 in
set_option maxRecDepth 20000 in
theorem con_X_squareNumbered {l : Launch} {g : pw_G} {Q : pw_W → Int32 → Prop} {X : pw_W → Nat → Prop} (hl0 : l.stackTraces = false) {w : pw_W} {a1 : Int32} (h : wp_X_squareNumbered w a1 Q X) : pw_Con l g y_X_squareNumbered cx_X_squareNumbered [(9, 0), (0, a1)] w Q X :=
  pw_con (by decide +kernel) rfl rfl hl0 rfl (Nat.le_of_ble_eq_true rfl) (by simp) (vw_X_squareNumbered hl0 h)
theorem d_X_cut_0 : decode (pw_cc cx_X_cut) 0 = .ok (.aload_n 0, 1) := by decide +kernel
theorem d_X_cut_1 : decode (pw_cc cx_X_cut) 1 = .ok (.iload_n 1, 1) := by decide +kernel
theorem d_X_cut_2 : decode (pw_cc cx_X_cut) 2 = .ok (.invokevirtual 69, 3) := by decide +kernel
theorem d_X_cut_5 : decode (pw_cc cx_X_cut) 5 = .ok (.astore 4, 2) := by decide +kernel
theorem d_X_cut_7 : decode (pw_cc cx_X_cut) 7 = .ok (.aload_n 0, 1) := by decide +kernel
theorem d_X_cut_8 : decode (pw_cc cx_X_cut) 8 = .ok (.iload_n 2, 1) := by decide +kernel
theorem d_X_cut_9 : decode (pw_cc cx_X_cut) 9 = .ok (.invokevirtual 270, 3) := by decide +kernel
theorem d_X_cut_12 : decode (pw_cc cx_X_cut) 12 = .ok (.astore 5, 2) := by decide +kernel
theorem d_X_cut_14 : decode (pw_cc cx_X_cut) 14 = .ok (.iload_n 3, 1) := by decide +kernel
theorem d_X_cut_15 : decode (pw_cc cx_X_cut) 15 = .ok (.iconst 1, 1) := by decide +kernel
theorem d_X_cut_16 : decode (pw_cc cx_X_cut) 16 = .ok (.bipush 20, 2) := by decide +kernel
theorem d_X_cut_18 : decode (pw_cc cx_X_cut) 18 = .ok (.invokestatic 168, 3) := by decide +kernel
theorem d_X_cut_21 : decode (pw_cc cx_X_cut) 21 = .ok (.invokestatic 171, 3) := by decide +kernel
theorem d_X_cut_24 : decode (pw_cc cx_X_cut) 24 = .ok (.aload 4, 2) := by decide +kernel
theorem d_X_cut_26 : decode (pw_cc cx_X_cut) 26 = .ok (.getfield 76, 3) := by decide +kernel
theorem d_X_cut_29 : decode (pw_cc cx_X_cut) 29 = .ok (.invokestatic 80, 3) := by decide +kernel
theorem d_X_cut_32 : decode (pw_cc cx_X_cut) 32 = .ok (.aload_n 0, 1) := by decide +kernel
theorem d_X_cut_33 : decode (pw_cc cx_X_cut) 33 = .ok (.aload 4, 2) := by decide +kernel
theorem d_X_cut_35 : decode (pw_cc cx_X_cut) 35 = .ok (.iconst 1, 1) := by decide +kernel
theorem d_X_cut_36 : decode (pw_cc cx_X_cut) 36 = .ok (.aload 5, 2) := by decide +kernel
theorem d_X_cut_38 : decode (pw_cc cx_X_cut) 38 = .ok (.getfield 104, 3) := by decide +kernel
theorem d_X_cut_41 : decode (pw_cc cx_X_cut) 41 = .ok (.invokevirtual 274, 3) := by decide +kernel
theorem d_X_cut_44 : decode (pw_cc cx_X_cut) 44 = .ok (.invokestatic 80, 3) := by decide +kernel
theorem d_X_cut_47 : decode (pw_cc cx_X_cut) 47 = .ok (.aload 5, 2) := by decide +kernel
theorem d_X_cut_49 : decode (pw_cc cx_X_cut) 49 = .ok (.getfield 278, 3) := by decide +kernel
theorem d_X_cut_52 : decode (pw_cc cx_X_cut) 52 = .ok (.iload_n 3, 1) := by decide +kernel
theorem d_X_cut_53 : decode (pw_cc cx_X_cut) 53 = .ok (.if_icmp .lt 7, 3) := by decide +kernel
theorem d_X_cut_56 : decode (pw_cc cx_X_cut) 56 = .ok (.iconst 1, 1) := by decide +kernel
theorem d_X_cut_57 : decode (pw_cc cx_X_cut) 57 = .ok (.goto 4, 3) := by decide +kernel
theorem d_X_cut_60 : decode (pw_cc cx_X_cut) 60 = .ok (.iconst 0, 1) := by decide +kernel
theorem d_X_cut_61 : decode (pw_cc cx_X_cut) 61 = .ok (.invokestatic 80, 3) := by decide +kernel
theorem d_X_cut_64 : decode (pw_cc cx_X_cut) 64 = .ok (.aload 5, 2) := by decide +kernel
theorem d_X_cut_66 : decode (pw_cc cx_X_cut) 66 = .ok (.dup, 1) := by decide +kernel
theorem d_X_cut_67 : decode (pw_cc cx_X_cut) 67 = .ok (.getfield 278, 3) := by decide +kernel
theorem d_X_cut_70 : decode (pw_cc cx_X_cut) 70 = .ok (.iload_n 3, 1) := by decide +kernel
theorem d_X_cut_71 : decode (pw_cc cx_X_cut) 71 = .ok (.isub, 1) := by decide +kernel
theorem d_X_cut_72 : decode (pw_cc cx_X_cut) 72 = .ok (.putfield 278, 3) := by decide +kernel
theorem d_X_cut_75 : decode (pw_cc cx_X_cut) 75 = .ok (.aload 5, 2) := by decide +kernel
theorem d_X_cut_77 : decode (pw_cc cx_X_cut) 77 = .ok (.getfield 278, 3) := by decide +kernel
theorem d_X_cut_80 : decode (pw_cc cx_X_cut) 80 = .ok (.ireturn, 1) := by decide +kernel
set_option maxHeartbeats 4000000 in
set_option maxRecDepth 20000 in
def jp_X_cut_61 (Q : pw_W → Int32 → Prop) (X : pw_W → Nat → Prop) (a3 a5 s0 : Int32) (w : pw_W) : Prop := wp_X_checkState w s0 (fun w1 r2 => 0 ≤ a5 ∧ ∀ w4, w4 = pw_ps w1 6 (pw_i a5) 4 ((w1.1 6 (pw_i a5) 4) - a3) → Q w4 (w4.1 6 (pw_i a5) 4)) X
set_option maxHeartbeats 4000000 in
set_option maxRecDepth 20000 in
theorem vjp_X_cut_61 {l : Launch} {g : pw_G} {Q : pw_W → Int32 → Prop} {X : pw_W → Nat → Prop} (hl0 : l.stackTraces = false) (a3 a5 s0 : Int32) (w : pw_W) (h : jp_X_cut_61 Q X a3 a5 s0 w) : pw_V l g cx_X_cut Q X 61 [(1, 0), (1, 0), (1, 0), (0, a3), (1, 0), (8, a5)] [(0, s0)] w := by
  unfold jp_X_cut_61 at h
  refine pv_callS (n := 64) [(0, s0)] [] (con_X_checkState hl0 h) q_124 q_125 q_62 q_123 pyo_X_checkState (by decide) rfl rfl d_X_cut_61 rfl (fun w1 r2 h _ => ?_) (fun _ _ h => pvx_out rfl h)
  show pw_V l g cx_X_cut Q X 64 [(1, 0), (1, 0), (1, 0), (0, a3), (1, 0), (8, a5)] [] w1
  refine pv_aload (n := 66) d_X_cut_64 rfl rfl ?_
  refine pv_dup (n := 67) d_X_cut_66 (by decide) rfl ?_
  obtain ⟨g3, h⟩ := h
  refine gt_X_278 (n := 70) rfl d_X_cut_67 g3 rfl ?_
  refine pv_iload_n (n := 71) d_X_cut_70 rfl rfl rfl ?_
  refine pv_isub (n := 72) d_X_cut_71 rfl ?_
  refine pt_X_278 (n := 75) rfl d_X_cut_72 g3 rfl (fun w4 e5 => ?_)
  replace h := h w4 e5
  refine pv_aload (n := 77) d_X_cut_75 rfl rfl ?_
  refine gt_X_278 (n := 80) rfl d_X_cut_77 g3 rfl ?_
  exact pv_iret rfl rfl d_X_cut_80 h
set_option maxHeartbeats 4000000 in
set_option maxRecDepth 20000 in
def wp_X_cut (w : pw_W) (a1 a2 a3 : Int32) (Q : pw_W → Int32 → Prop) (X : pw_W → Nat → Prop) : Prop := wp_X_personNumbered w a1 (fun w6 r7 => wp_X_squareNumbered w6 a2 (fun w8 r9 => wp_X_isInRange w8 a3 1 20 (fun w10 r11 => wp_X_checkArgument w10 r11 (fun w12 r13 => 0 ≤ r7 ∧ wp_X_checkState w12 (w12.1 4 (pw_i r7) 2) (fun w15 r16 => 0 ≤ r9 ∧ wp_X_isAllowed w15 r7 1 (w15.1 6 (pw_i r9) 1) (fun w18 r19 => wp_X_checkState w18 r19 (fun w20 r21 => ((w20.1 6 (pw_i r9) 4) < a3 → jp_X_cut_61 Q X a3 r9 0 w20) ∧ (¬ (w20.1 6 (pw_i r9) 4) < a3 → jp_X_cut_61 Q X a3 r9 1 w20)) X) (fun _ _ => False)) X) X) (fun _ _ => False)) X) X
set_option maxHeartbeats 4000000 in
set_option maxRecDepth 20000 in
theorem vw_X_cut {l : Launch} {g : pw_G} {Q : pw_W → Int32 → Prop} {X : pw_W → Nat → Prop} (hl0 : l.stackTraces = false) {w : pw_W} {a1 a2 a3 : Int32} (h : wp_X_cut w a1 a2 a3 Q X) : pw_V l g cx_X_cut Q X 0 [(9, 0), (0, a1), (0, a2), (0, a3), (1, 0), (1, 0)] [] w := by
  unfold wp_X_cut at h
  refine pv_aload_n (n := 1) d_X_cut_0 rfl rfl rfl ?_
  refine pv_iload_n (n := 2) d_X_cut_1 rfl rfl rfl ?_
  refine pv_callV (n := 5) (x := 0) [(0, a1)] [] (con_X_personNumbered hl0 h) pw_cf7 rfl q_139 q_140 q_141 q_62 q_138 pyo_X_personNumbered (by decide) rfl rfl (by decide) d_X_cut_2 rfl (fun w6 r7 h _ => ?_) (fun _ _ h => pvx_out rfl h)
  show pw_V l g cx_X_cut Q X 5 [(9, 0), (0, a1), (0, a2), (0, a3), (1, 0), (1, 0)] [(6, r7)] w6
  refine pv_astore (n := 7) (L' := [(9, 0), (0, a1), (0, a2), (0, a3), (6, r7), (1, 0)]) d_X_cut_5 (by decide) rfl rfl ?_
  refine pv_aload_n (n := 8) d_X_cut_7 rfl rfl rfl ?_
  refine pv_iload_n (n := 9) d_X_cut_8 rfl rfl rfl ?_
  refine pv_callV (n := 12) (x := 0) [(0, a2)] [] (con_X_squareNumbered hl0 h) pw_cf7 rfl q_300 q_301 q_302 q_62 q_299 pyo_X_squareNumbered (by decide) rfl rfl (by decide) d_X_cut_9 rfl (fun w8 r9 h _ => ?_) (fun _ _ h => pvx_out rfl h)
  show pw_V l g cx_X_cut Q X 12 [(9, 0), (0, a1), (0, a2), (0, a3), (6, r7), (1, 0)] [(8, r9)] w8
  refine pv_astore (n := 14) (L' := [(9, 0), (0, a1), (0, a2), (0, a3), (6, r7), (8, r9)]) d_X_cut_12 (by decide) rfl rfl ?_
  refine pv_iload_n (n := 15) d_X_cut_14 rfl rfl rfl ?_
  refine pv_iconst (v := 1) (n := 16) d_X_cut_15 (by decide) rfl ?_
  refine pv_bipush (v := 20) (n := 18) d_X_cut_16 (by decide) rfl ?_
  refine pv_callS (n := 21) [(0, a3), (0, 1), (0, 20)] [] (con_X_isInRange hl0 h) q_96 q_97 q_62 q_95 pyo_X_isInRange (by decide) rfl rfl d_X_cut_18 rfl (fun w10 r11 h _ => ?_) (fun _ _ h => h.elim)
  show pw_V l g cx_X_cut Q X 21 [(9, 0), (0, a1), (0, a2), (0, a3), (6, r7), (8, r9)] [(0, r11)] w10
  refine pv_callS (n := 24) [(0, r11)] [] (con_X_checkArgument hl0 h) q_86 q_87 q_62 q_85 pyo_X_checkArgument (by decide) rfl rfl d_X_cut_21 rfl (fun w12 r13 h _ => ?_) (fun _ _ h => pvx_out rfl h)
  show pw_V l g cx_X_cut Q X 24 [(9, 0), (0, a1), (0, a2), (0, a3), (6, r7), (8, r9)] [] w12
  refine pv_aload (n := 26) d_X_cut_24 rfl rfl ?_
  obtain ⟨g14, h⟩ := h
  refine gt_X_76 (n := 29) rfl d_X_cut_26 g14 rfl ?_
  refine pv_callS (n := 32) [(0, (w12.1 4 (pw_i r7) 2))] [] (con_X_checkState hl0 h) q_124 q_125 q_62 q_123 pyo_X_checkState (by decide) rfl rfl d_X_cut_29 rfl (fun w15 r16 h _ => ?_) (fun _ _ h => pvx_out rfl h)
  show pw_V l g cx_X_cut Q X 32 [(9, 0), (0, a1), (0, a2), (0, a3), (6, r7), (8, r9)] [] w15
  refine pv_aload_n (n := 33) d_X_cut_32 rfl rfl rfl ?_
  refine pv_aload (n := 35) d_X_cut_33 rfl rfl ?_
  refine pv_iconst (v := 1) (n := 36) d_X_cut_35 (by decide) rfl ?_
  refine pv_aload (n := 38) d_X_cut_36 rfl rfl ?_
  obtain ⟨g17, h⟩ := h
  refine gt_X_104 (n := 41) rfl d_X_cut_38 g17 rfl ?_
  refine pv_callV (n := 44) (x := 0) [(6, r7), (0, 1), (5, (w15.1 6 (pw_i r9) 1))] [] (con_X_isAllowed hl0 h) pw_cf7 rfl q_296 q_297 q_298 q_62 q_295 pyo_X_isAllowed (by decide) rfl rfl (by decide) d_X_cut_41 rfl (fun w18 r19 h _ => ?_) (fun _ _ h => h.elim)
  show pw_V l g cx_X_cut Q X 44 [(9, 0), (0, a1), (0, a2), (0, a3), (6, r7), (8, r9)] [(0, r19)] w18
  refine pv_callS (n := 47) [(0, r19)] [] (con_X_checkState hl0 h) q_124 q_125 q_62 q_123 pyo_X_checkState (by decide) rfl rfl d_X_cut_44 rfl (fun w20 r21 h _ => ?_) (fun _ _ h => pvx_out rfl h)
  show pw_V l g cx_X_cut Q X 47 [(9, 0), (0, a1), (0, a2), (0, a3), (6, r7), (8, r9)] [] w20
  refine pv_aload (n := 49) d_X_cut_47 rfl rfl ?_
  refine gt_X_278 (n := 52) rfl d_X_cut_49 g17 rfl ?_
  refine pv_iload_n (n := 53) d_X_cut_52 rfl rfl rfl ?_
  refine pv_icmp_lt (n := 56) (tgt := 60) d_X_cut_53 (by decide) rfl (fun c22 => ?_) (fun c22 => ?_)
  · replace h := h.1 c22
    refine pv_iconst (v := 0) (n := 61) d_X_cut_60 (by decide) rfl ?_
    refine pv_unset (i := 0) (L1 := [(1, 0), (0, a1), (0, a2), (0, a3), (6, r7), (8, r9)]) rfl ?_
    refine pv_unset (i := 1) (L1 := [(1, 0), (1, 0), (0, a2), (0, a3), (6, r7), (8, r9)]) rfl ?_
    refine pv_unset (i := 2) (L1 := [(1, 0), (1, 0), (1, 0), (0, a3), (6, r7), (8, r9)]) rfl ?_
    refine pv_unset (i := 4) (L1 := [(1, 0), (1, 0), (1, 0), (0, a3), (1, 0), (8, r9)]) rfl ?_
    exact vjp_X_cut_61 hl0 _ _ _ _ h
  · replace h := h.2 c22
    refine pv_iconst (v := 1) (n := 57) d_X_cut_56 (by decide) rfl ?_
    refine pv_goto (tgt := 61) d_X_cut_57 (by decide) ?_
    refine pv_unset (i := 0) (L1 := [(1, 0), (0, a1), (0, a2), (0, a3), (6, r7), (8, r9)]) rfl ?_
    refine pv_unset (i := 1) (L1 := [(1, 0), (1, 0), (0, a2), (0, a3), (6, r7), (8, r9)]) rfl ?_
    refine pv_unset (i := 2) (L1 := [(1, 0), (1, 0), (1, 0), (0, a3), (6, r7), (8, r9)]) rfl ?_
    refine pv_unset (i := 4) (L1 := [(1, 0), (1, 0), (1, 0), (0, a3), (1, 0), (8, r9)]) rfl ?_
    exact vjp_X_cut_61 hl0 _ _ _ _ h
set_option maxHeartbeats 4000000 in
set_option maxRecDepth 20000 in
theorem con_X_cut {l : Launch} {g : pw_G} {Q : pw_W → Int32 → Prop} {X : pw_W → Nat → Prop} (hl0 : l.stackTraces = false) {w : pw_W} {a1 a2 a3 : Int32} (h : wp_X_cut w a1 a2 a3 Q X) : pw_Con l g y_X_cut cx_X_cut [(9, 0), (0, a1), (0, a2), (0, a3)] w Q X :=
  pw_con (by decide +kernel) rfl rfl hl0 rfl (Nat.le_of_ble_eq_true rfl) (by simp) (vw_X_cut hl0 h)
theorem d_X_wind_0 : decode (pw_cc cx_X_wind) 0 = .ok (.iload_n 1, 1) := by decide +kernel
theorem d_X_wind_1 : decode (pw_cc cx_X_wind) 1 = .ok (.iconst 0, 1) := by decide +kernel
theorem d_X_wind_2 : decode (pw_cc cx_X_wind) 2 = .ok (.bipush 9, 2) := by decide +kernel
theorem d_X_wind_4 : decode (pw_cc cx_X_wind) 4 = .ok (.invokestatic 168, 3) := by decide +kernel
theorem d_X_wind_7 : decode (pw_cc cx_X_wind) 7 = .ok (.invokestatic 171, 3) := by decide +kernel
theorem d_X_wind_10 : decode (pw_cc cx_X_wind) 10 = .ok (.aload_n 0, 1) := by decide +kernel
theorem d_X_wind_11 : decode (pw_cc cx_X_wind) 11 = .ok (.getfield 281, 3) := by decide +kernel
theorem d_X_wind_14 : decode (pw_cc cx_X_wind) 14 = .ok (.istore_n 2, 1) := by decide +kernel
theorem d_X_wind_15 : decode (pw_cc cx_X_wind) 15 = .ok (.aload_n 0, 1) := by decide +kernel
theorem d_X_wind_16 : decode (pw_cc cx_X_wind) 16 = .ok (.iload_n 1, 1) := by decide +kernel
theorem d_X_wind_17 : decode (pw_cc cx_X_wind) 17 = .ok (.putfield 281, 3) := by decide +kernel
theorem d_X_wind_20 : decode (pw_cc cx_X_wind) 20 = .ok (.iload_n 2, 1) := by decide +kernel
theorem d_X_wind_21 : decode (pw_cc cx_X_wind) 21 = .ok (.ireturn, 1) := by decide +kernel
set_option maxHeartbeats 4000000 in
set_option maxRecDepth 20000 in
def wp_X_wind (w : pw_W) (a1 : Int32) (Q : pw_W → Int32 → Prop) (X : pw_W → Nat → Prop) : Prop := wp_X_isInRange w a1 0 9 (fun w1 r2 => wp_X_checkArgument w1 r2 (fun w3 r4 => ∀ v5, v5 = (w3.1 7 0 8) → ∀ w7, w7 = pw_ps w3 7 0 8 a1 → Q w7 v5) X) (fun _ _ => False)
set_option maxHeartbeats 4000000 in
set_option maxRecDepth 20000 in
theorem vw_X_wind {l : Launch} {g : pw_G} {Q : pw_W → Int32 → Prop} {X : pw_W → Nat → Prop} (hl0 : l.stackTraces = false) {w : pw_W} {a1 : Int32} (h : wp_X_wind w a1 Q X) : pw_V l g cx_X_wind Q X 0 [(9, 0), (0, a1), (1, 0)] [] w := by
  unfold wp_X_wind at h
  refine pv_iload_n (n := 1) d_X_wind_0 rfl rfl rfl ?_
  refine pv_iconst (v := 0) (n := 2) d_X_wind_1 (by decide) rfl ?_
  refine pv_bipush (v := 9) (n := 4) d_X_wind_2 (by decide) rfl ?_
  refine pv_callS (n := 7) [(0, a1), (0, 0), (0, 9)] [] (con_X_isInRange hl0 h) q_96 q_97 q_62 q_95 pyo_X_isInRange (by decide) rfl rfl d_X_wind_4 rfl (fun w1 r2 h _ => ?_) (fun _ _ h => h.elim)
  show pw_V l g cx_X_wind Q X 7 [(9, 0), (0, a1), (1, 0)] [(0, r2)] w1
  refine pv_callS (n := 10) [(0, r2)] [] (con_X_checkArgument hl0 h) q_86 q_87 q_62 q_85 pyo_X_checkArgument (by decide) rfl rfl d_X_wind_7 rfl (fun w3 r4 h _ => ?_) (fun _ _ h => pvx_out rfl h)
  show pw_V l g cx_X_wind Q X 10 [(9, 0), (0, a1), (1, 0)] [] w3
  refine pv_aload_n (n := 11) d_X_wind_10 rfl rfl rfl ?_
  refine gt_X_281 (n := 14) rfl d_X_wind_11 (by decide) rfl ?_
  refine pv_nm (fun v5 e6 => ?_)
  replace h := h v5 e6
  refine pv_istore_n (n := 15) (L' := [(9, 0), (0, a1), (0, v5)]) d_X_wind_14 rfl (by decide) rfl rfl ?_
  refine pv_aload_n (n := 16) d_X_wind_15 rfl rfl rfl ?_
  refine pv_iload_n (n := 17) d_X_wind_16 rfl rfl rfl ?_
  refine pt_X_281 (n := 20) rfl d_X_wind_17 (by decide) rfl (fun w7 e8 => ?_)
  replace h := h w7 e8
  refine pv_iload_n (n := 21) d_X_wind_20 rfl rfl rfl ?_
  exact pv_iret rfl rfl d_X_wind_21 h
set_option maxHeartbeats 4000000 in
set_option maxRecDepth 20000 in
theorem con_X_wind {l : Launch} {g : pw_G} {Q : pw_W → Int32 → Prop} {X : pw_W → Nat → Prop} (hl0 : l.stackTraces = false) {w : pw_W} {a1 : Int32} (h : wp_X_wind w a1 Q X) : pw_Con l g y_X_wind cx_X_wind [(9, 0), (0, a1)] w Q X :=
  pw_con (by decide +kernel) rfl rfl hl0 rfl (Nat.le_of_ble_eq_true rfl) (by simp) (vw_X_wind hl0 h)
theorem d_X_isBurntInLast_0 : decode (pw_cc cx_X_isBurntInLast) 0 = .ok (.aload_n 2, 1) := by decide +kernel
theorem d_X_isBurntInLast_1 : decode (pw_cc cx_X_isBurntInLast) 1 = .ok (.getfield 288, 3) := by decide +kernel
theorem d_X_isBurntInLast_4 : decode (pw_cc cx_X_isBurntInLast) 4 = .ok (.iconst (-1), 1) := by decide +kernel
theorem d_X_isBurntInLast_5 : decode (pw_cc cx_X_isBurntInLast) 5 = .ok (.if_icmp .eq 20, 3) := by decide +kernel
theorem d_X_isBurntInLast_8 : decode (pw_cc cx_X_isBurntInLast) 8 = .ok (.aload_n 0, 1) := by decide +kernel
theorem d_X_isBurntInLast_9 : decode (pw_cc cx_X_isBurntInLast) 9 = .ok (.getfield 145, 3) := by decide +kernel
theorem d_X_isBurntInLast_12 : decode (pw_cc cx_X_isBurntInLast) 12 = .ok (.aload_n 2, 1) := by decide +kernel
theorem d_X_isBurntInLast_13 : decode (pw_cc cx_X_isBurntInLast) 13 = .ok (.getfield 288, 3) := by decide +kernel
theorem d_X_isBurntInLast_16 : decode (pw_cc cx_X_isBurntInLast) 16 = .ok (.isub, 1) := by decide +kernel
theorem d_X_isBurntInLast_17 : decode (pw_cc cx_X_isBurntInLast) 17 = .ok (.iload_n 1, 1) := by decide +kernel
theorem d_X_isBurntInLast_18 : decode (pw_cc cx_X_isBurntInLast) 18 = .ok (.if_icmp .ge 7, 3) := by decide +kernel
theorem d_X_isBurntInLast_21 : decode (pw_cc cx_X_isBurntInLast) 21 = .ok (.iconst 1, 1) := by decide +kernel
theorem d_X_isBurntInLast_22 : decode (pw_cc cx_X_isBurntInLast) 22 = .ok (.goto 4, 3) := by decide +kernel
theorem d_X_isBurntInLast_25 : decode (pw_cc cx_X_isBurntInLast) 25 = .ok (.iconst 0, 1) := by decide +kernel
theorem d_X_isBurntInLast_26 : decode (pw_cc cx_X_isBurntInLast) 26 = .ok (.ireturn, 1) := by decide +kernel
set_option maxHeartbeats 4000000 in
set_option maxRecDepth 20000 in
def wp_X_isBurntInLast (w : pw_W) (a1 a2 : Int32) (Q : pw_W → Int32 → Prop) (X : pw_W → Nat → Prop) : Prop := 0 ≤ a2 ∧ ((w.1 6 (pw_i a2) 6) = (-1) → Q w 0) ∧ (¬ (w.1 6 (pw_i a2) 6) = (-1) → (a1 ≤ ((w.1 7 0 7) - (w.1 6 (pw_i a2) 6)) → Q w 0) ∧ (¬ a1 ≤ ((w.1 7 0 7) - (w.1 6 (pw_i a2) 6)) → Q w 1))
set_option maxHeartbeats 4000000 in
set_option maxRecDepth 20000 in
theorem vw_X_isBurntInLast {l : Launch} {g : pw_G} {Q : pw_W → Int32 → Prop} {X : pw_W → Nat → Prop} (hl0 : l.stackTraces = false) {w : pw_W} {a1 a2 : Int32} (h : wp_X_isBurntInLast w a1 a2 Q X) : pw_V l g cx_X_isBurntInLast Q X 0 [(9, 0), (0, a1), (8, a2)] [] w := by
  unfold wp_X_isBurntInLast at h
  refine pv_aload_n (n := 1) d_X_isBurntInLast_0 rfl rfl rfl ?_
  obtain ⟨g1, h⟩ := h
  refine gt_X_288 (n := 4) rfl d_X_isBurntInLast_1 g1 rfl ?_
  refine pv_iconst (v := -1) (n := 5) d_X_isBurntInLast_4 (by decide) rfl ?_
  refine pv_icmp_eq (n := 8) (tgt := 25) d_X_isBurntInLast_5 (by decide) rfl (fun c2 => ?_) (fun c2 => ?_)
  · replace h := h.1 c2
    refine pv_iconst (v := 0) (n := 26) d_X_isBurntInLast_25 (by decide) rfl ?_
    exact pv_zret rfl rfl d_X_isBurntInLast_26 (by decide) h
  · replace h := h.2 c2
    refine pv_aload_n (n := 9) d_X_isBurntInLast_8 rfl rfl rfl ?_
    refine gt_X_145 (n := 12) rfl d_X_isBurntInLast_9 (by decide) rfl ?_
    refine pv_aload_n (n := 13) d_X_isBurntInLast_12 rfl rfl rfl ?_
    refine gt_X_288 (n := 16) rfl d_X_isBurntInLast_13 g1 rfl ?_
    refine pv_isub (n := 17) d_X_isBurntInLast_16 rfl ?_
    refine pv_iload_n (n := 18) d_X_isBurntInLast_17 rfl rfl rfl ?_
    refine pv_icmp_ge (n := 21) (tgt := 25) d_X_isBurntInLast_18 (by decide) rfl (fun c3 => ?_) (fun c3 => ?_)
    · replace h := h.1 c3
      refine pv_iconst (v := 0) (n := 26) d_X_isBurntInLast_25 (by decide) rfl ?_
      exact pv_zret rfl rfl d_X_isBurntInLast_26 (by decide) h
    · replace h := h.2 c3
      refine pv_iconst (v := 1) (n := 22) d_X_isBurntInLast_21 (by decide) rfl ?_
      refine pv_goto (tgt := 26) d_X_isBurntInLast_22 (by decide) ?_
      exact pv_zret rfl rfl d_X_isBurntInLast_26 (by decide) h
set_option maxHeartbeats 4000000 in
set_option maxRecDepth 20000 in
theorem con_X_isBurntInLast {l : Launch} {g : pw_G} {Q : pw_W → Int32 → Prop} {X : pw_W → Nat → Prop} (hl0 : l.stackTraces = false) {w : pw_W} {a1 a2 : Int32} (h : wp_X_isBurntInLast w a1 a2 Q X) : pw_Con l g y_X_isBurntInLast cx_X_isBurntInLast [(9, 0), (0, a1), (8, a2)] w Q X :=
  pw_con (by decide +kernel) rfl rfl hl0 rfl (Nat.le_of_ble_eq_true rfl) (by simp) (vw_X_isBurntInLast hl0 h)
