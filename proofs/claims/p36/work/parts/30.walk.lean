theorem d_Parcel_init_0 : decode (pw_cc cx_Parcel_init) 0 = .ok (.aload_n 0, 1) := by decide +kernel
theorem d_Parcel_init_1 : decode (pw_cc cx_Parcel_init) 1 = .ok (.invokespecial 3, 3) := by decide +kernel
theorem d_Parcel_init_4 : decode (pw_cc cx_Parcel_init) 4 = .ok (.aload_n 0, 1) := by decide +kernel
theorem d_Parcel_init_5 : decode (pw_cc cx_Parcel_init) 5 = .ok (.bipush 12, 2) := by decide +kernel
theorem d_Parcel_init_7 : decode (pw_cc cx_Parcel_init) 7 = .ok (.newarray .int, 2) := by decide +kernel
theorem d_Parcel_init_9 : decode (pw_cc cx_Parcel_init) 9 = .ok (.putfield 9, 3) := by decide +kernel
theorem d_Parcel_init_12 : decode (pw_cc cx_Parcel_init) 12 = .ok (.aload_n 0, 1) := by decide +kernel
theorem d_Parcel_init_13 : decode (pw_cc cx_Parcel_init) 13 = .ok (.iload_n 1, 1) := by decide +kernel
theorem d_Parcel_init_14 : decode (pw_cc cx_Parcel_init) 14 = .ok (.putfield 15, 3) := by decide +kernel
theorem d_Parcel_init_17 : decode (pw_cc cx_Parcel_init) 17 = .ok (.aload_n 0, 1) := by decide +kernel
theorem d_Parcel_init_18 : decode (pw_cc cx_Parcel_init) 18 = .ok (.aload_n 2, 1) := by decide +kernel
theorem d_Parcel_init_19 : decode (pw_cc cx_Parcel_init) 19 = .ok (.putfield 19, 3) := by decide +kernel
theorem d_Parcel_init_22 : decode (pw_cc cx_Parcel_init) 22 = .ok (.return_, 1) := by decide +kernel
set_option maxHeartbeats 4000000 in
set_option maxRecDepth 20000 in
def wp_Parcel_init (w : pw_W) (a0 a1 a2 : Int32) (Q : pw_W → Int32 → Prop) (X : pw_W → Nat → Prop) : Prop := 0 ≤ a0 ∧ pw_rm w 11 (pw_i 12) ∧ ∀ w3, w3 = pw_nw w 11 (pw_i 12) (pw_i 12) → ∀ w5, w5 = pw_ps w3 3 (pw_i a0) 1 (nI (pw_nv w 11)) → ∀ w7, w7 = pw_ps w5 3 (pw_i a0) 0 a1 → ∀ w9, w9 = pw_ps w7 3 (pw_i a0) 2 a2 → Q w9 0
set_option maxHeartbeats 4000000 in
set_option maxRecDepth 20000 in
theorem vw_Parcel_init {l : Launch} {g : pw_G} {Q : pw_W → Int32 → Prop} {X : pw_W → Nat → Prop} (hl0 : l.stackTraces = false) {w : pw_W} {a0 a1 a2 : Int32} (h : wp_Parcel_init w a0 a1 a2 Q X) : pw_V l g cx_Parcel_init Q X 0 [(5, a0), (0, a1), (6, a2)] [] w := by
  unfold wp_Parcel_init at h
  refine pv_aload_n (n := 1) d_Parcel_init_0 rfl rfl rfl ?_
  obtain ⟨g1, h⟩ := h
  refine pv_objInit (n := 4) q_0 q_1 q_2 (by decide) rfl g1 d_Parcel_init_1 rfl ?_
  refine pv_aload_n (n := 5) d_Parcel_init_4 rfl rfl rfl ?_
  refine pv_bipush (v := 12) (n := 7) d_Parcel_init_5 (by decide) rfl ?_
  obtain ⟨g2, h⟩ := h
  refine pv_nwa_int (n := 9) (f := 11) (by decide) (by decide) rfl (by intro k; rfl) q_3 d_Parcel_init_7 (by decide) (by decide) g2 rfl (fun w3 e4 => ?_)
  replace h := h w3 e4
  refine pt_Parcel_9 (n := 12) rfl rfl d_Parcel_init_9 g1 rfl (fun w5 e6 => ?_)
  replace h := h w5 e6
  refine pv_aload_n (n := 13) d_Parcel_init_12 rfl rfl rfl ?_
  refine pv_iload_n (n := 14) d_Parcel_init_13 rfl rfl rfl ?_
  refine pt_Parcel_15 (n := 17) rfl rfl d_Parcel_init_14 g1 rfl (fun w7 e8 => ?_)
  replace h := h w7 e8
  refine pv_aload_n (n := 18) d_Parcel_init_17 rfl rfl rfl ?_
  refine pv_aload_n (n := 19) d_Parcel_init_18 rfl rfl rfl ?_
  refine pt_Parcel_19 (n := 22) rfl d_Parcel_init_19 g1 rfl (fun w9 e10 => ?_)
  replace h := h w9 e10
  exact pv_vret rfl rfl d_Parcel_init_22 h
set_option maxHeartbeats 4000000 in
set_option maxRecDepth 20000 in
theorem con_Parcel_init {l : Launch} {g : pw_G} {Q : pw_W → Int32 → Prop} {X : pw_W → Nat → Prop} (hl0 : l.stackTraces = false) {w : pw_W} {a0 a1 a2 : Int32} (h : wp_Parcel_init w a0 a1 a2 Q X) : pw_Con l g y_Parcel_init cx_Parcel_init [(5, a0), (0, a1), (6, a2)] w Q X :=
  pw_con (by decide +kernel) rfl rfl hl0 rfl (Nat.le_of_ble_eq_true rfl) (by simp) (vw_Parcel_init hl0 h)
theorem d_Person_init_0 : decode (pw_cc cx_Person_init) 0 = .ok (.aload_n 0, 1) := by decide +kernel
theorem d_Person_init_1 : decode (pw_cc cx_Person_init) 1 = .ok (.invokespecial 1, 3) := by decide +kernel
theorem d_Person_init_4 : decode (pw_cc cx_Person_init) 4 = .ok (.aload_n 0, 1) := by decide +kernel
theorem d_Person_init_5 : decode (pw_cc cx_Person_init) 5 = .ok (.new 7, 3) := by decide +kernel
theorem d_Person_init_8 : decode (pw_cc cx_Person_init) 8 = .ok (.dup, 1) := by decide +kernel
theorem d_Person_init_9 : decode (pw_cc cx_Person_init) 9 = .ok (.invokespecial 9, 3) := by decide +kernel
theorem d_Person_init_12 : decode (pw_cc cx_Person_init) 12 = .ok (.putfield 10, 3) := by decide +kernel
theorem d_Person_init_15 : decode (pw_cc cx_Person_init) 15 = .ok (.aload_n 0, 1) := by decide +kernel
theorem d_Person_init_16 : decode (pw_cc cx_Person_init) 16 = .ok (.iconst 1, 1) := by decide +kernel
theorem d_Person_init_17 : decode (pw_cc cx_Person_init) 17 = .ok (.putfield 16, 3) := by decide +kernel
theorem d_Person_init_20 : decode (pw_cc cx_Person_init) 20 = .ok (.aload_n 0, 1) := by decide +kernel
theorem d_Person_init_21 : decode (pw_cc cx_Person_init) 21 = .ok (.iload_n 1, 1) := by decide +kernel
theorem d_Person_init_22 : decode (pw_cc cx_Person_init) 22 = .ok (.putfield 20, 3) := by decide +kernel
theorem d_Person_init_25 : decode (pw_cc cx_Person_init) 25 = .ok (.return_, 1) := by decide +kernel
set_option maxHeartbeats 4000000 in
set_option maxRecDepth 20000 in
def wp_Person_init (w : pw_W) (a0 a1 : Int32) (Q : pw_W → Int32 → Prop) (X : pw_W → Nat → Prop) : Prop := 0 ≤ a0 ∧ pw_rm w 24 3 ∧ ∀ w3, w3 = pw_nl w 24 → ∀ w5, w5 = pw_ps w3 4 (pw_i a0) 1 (nI (pw_nv w 24)) → ∀ w7, w7 = pw_ps w5 4 (pw_i a0) 2 1 → ∀ w9, w9 = pw_ps w7 4 (pw_i a0) 0 a1 → Q w9 0
set_option maxHeartbeats 4000000 in
set_option maxRecDepth 20000 in
theorem vw_Person_init {l : Launch} {g : pw_G} {Q : pw_W → Int32 → Prop} {X : pw_W → Nat → Prop} (hl0 : l.stackTraces = false) {w : pw_W} {a0 a1 : Int32} (h : wp_Person_init w a0 a1 Q X) : pw_V l g cx_Person_init Q X 0 [(6, a0), (0, a1)] [] w := by
  unfold wp_Person_init at h
  refine pv_aload_n (n := 1) d_Person_init_0 rfl rfl rfl ?_
  obtain ⟨g1, h⟩ := h
  refine pv_objInit (n := 4) q_7 q_1 q_2 (by decide) rfl g1 d_Person_init_1 rfl ?_
  refine pv_aload_n (n := 5) d_Person_init_4 rfl rfl rfl ?_
  obtain ⟨g2, h⟩ := h
  refine pv_lnew (n := 12) (f := 24) (by decide) q_9 q_8 (by decide) rfl (Nat.le_of_ble_eq_true rfl) d_Person_init_5 d_Person_init_8 d_Person_init_9 g2 rfl (fun w3 e4 => ?_)
  replace h := h w3 e4
  refine pt_Person_10 (n := 15) rfl rfl d_Person_init_12 g1 rfl (fun w5 e6 => ?_)
  replace h := h w5 e6
  refine pv_aload_n (n := 16) d_Person_init_15 rfl rfl rfl ?_
  refine pv_iconst (v := 1) (n := 17) d_Person_init_16 (by decide) rfl ?_
  refine pt_Person_16 (n := 20) rfl d_Person_init_17 g1 (by decide) rfl (fun w7 e8 => ?_)
  replace h := h w7 e8
  refine pv_aload_n (n := 21) d_Person_init_20 rfl rfl rfl ?_
  refine pv_iload_n (n := 22) d_Person_init_21 rfl rfl rfl ?_
  refine pt_Person_20 (n := 25) rfl rfl d_Person_init_22 g1 rfl (fun w9 e10 => ?_)
  replace h := h w9 e10
  exact pv_vret rfl rfl d_Person_init_25 h
set_option maxHeartbeats 4000000 in
set_option maxRecDepth 20000 in
theorem con_Person_init {l : Launch} {g : pw_G} {Q : pw_W → Int32 → Prop} {X : pw_W → Nat → Prop} (hl0 : l.stackTraces = false) {w : pw_W} {a0 a1 : Int32} (h : wp_Person_init w a0 a1 Q X) : pw_Con l g y_Person_init cx_Person_init [(6, a0), (0, a1)] w Q X :=
  pw_con (by decide +kernel) rfl rfl hl0 rfl (Nat.le_of_ble_eq_true rfl) (by simp) (vw_Person_init hl0 h)
theorem d_Square_init_0 : decode (pw_cc cx_Square_init) 0 = .ok (.aload_n 0, 1) := by decide +kernel
theorem d_Square_init_1 : decode (pw_cc cx_Square_init) 1 = .ok (.invokespecial 3, 3) := by decide +kernel
theorem d_Square_init_4 : decode (pw_cc cx_Square_init) 4 = .ok (.aload_n 0, 1) := by decide +kernel
theorem d_Square_init_5 : decode (pw_cc cx_Square_init) 5 = .ok (.iconst 4, 1) := by decide +kernel
theorem d_Square_init_6 : decode (pw_cc cx_Square_init) 6 = .ok (.newarray .int, 2) := by decide +kernel
theorem d_Square_init_8 : decode (pw_cc cx_Square_init) 8 = .ok (.putfield 9, 3) := by decide +kernel
theorem d_Square_init_11 : decode (pw_cc cx_Square_init) 11 = .ok (.aload_n 0, 1) := by decide +kernel
theorem d_Square_init_12 : decode (pw_cc cx_Square_init) 12 = .ok (.iconst 1, 1) := by decide +kernel
theorem d_Square_init_13 : decode (pw_cc cx_Square_init) 13 = .ok (.putfield 15, 3) := by decide +kernel
theorem d_Square_init_16 : decode (pw_cc cx_Square_init) 16 = .ok (.aload_n 0, 1) := by decide +kernel
theorem d_Square_init_17 : decode (pw_cc cx_Square_init) 17 = .ok (.bipush 50, 2) := by decide +kernel
theorem d_Square_init_19 : decode (pw_cc cx_Square_init) 19 = .ok (.putfield 19, 3) := by decide +kernel
theorem d_Square_init_22 : decode (pw_cc cx_Square_init) 22 = .ok (.aload_n 0, 1) := by decide +kernel
theorem d_Square_init_23 : decode (pw_cc cx_Square_init) 23 = .ok (.bipush 40, 2) := by decide +kernel
theorem d_Square_init_25 : decode (pw_cc cx_Square_init) 25 = .ok (.putfield 22, 3) := by decide +kernel
theorem d_Square_init_28 : decode (pw_cc cx_Square_init) 28 = .ok (.aload_n 0, 1) := by decide +kernel
theorem d_Square_init_29 : decode (pw_cc cx_Square_init) 29 = .ok (.iconst (-1), 1) := by decide +kernel
theorem d_Square_init_30 : decode (pw_cc cx_Square_init) 30 = .ok (.putfield 25, 3) := by decide +kernel
theorem d_Square_init_33 : decode (pw_cc cx_Square_init) 33 = .ok (.aload_n 0, 1) := by decide +kernel
theorem d_Square_init_34 : decode (pw_cc cx_Square_init) 34 = .ok (.iload_n 1, 1) := by decide +kernel
theorem d_Square_init_35 : decode (pw_cc cx_Square_init) 35 = .ok (.putfield 28, 3) := by decide +kernel
theorem d_Square_init_38 : decode (pw_cc cx_Square_init) 38 = .ok (.aload_n 0, 1) := by decide +kernel
theorem d_Square_init_39 : decode (pw_cc cx_Square_init) 39 = .ok (.aload_n 2, 1) := by decide +kernel
theorem d_Square_init_40 : decode (pw_cc cx_Square_init) 40 = .ok (.putfield 31, 3) := by decide +kernel
theorem d_Square_init_43 : decode (pw_cc cx_Square_init) 43 = .ok (.aload_n 0, 1) := by decide +kernel
theorem d_Square_init_44 : decode (pw_cc cx_Square_init) 44 = .ok (.getfield 9, 3) := by decide +kernel
theorem d_Square_init_47 : decode (pw_cc cx_Square_init) 47 = .ok (.iconst 0, 1) := by decide +kernel
theorem d_Square_init_48 : decode (pw_cc cx_Square_init) 48 = .ok (.aload_n 2, 1) := by decide +kernel
theorem d_Square_init_49 : decode (pw_cc cx_Square_init) 49 = .ok (.getfield 35, 3) := by decide +kernel
theorem d_Square_init_52 : decode (pw_cc cx_Square_init) 52 = .ok (.iastore, 1) := by decide +kernel
theorem d_Square_init_53 : decode (pw_cc cx_Square_init) 53 = .ok (.return_, 1) := by decide +kernel
set_option maxHeartbeats 4000000 in
set_option maxRecDepth 20000 in
def wp_Square_init (w : pw_W) (a0 a1 a2 : Int32) (Q : pw_W → Int32 → Prop) (X : pw_W → Nat → Prop) : Prop := 0 ≤ a0 ∧ pw_rm w 10 (pw_i 4) ∧ ∀ w3, w3 = pw_nw w 10 (pw_i 4) (pw_i 4) → ∀ w5, w5 = pw_ps w3 6 (pw_i a0) 2 (nI (pw_nv w 10)) → ∀ w7, w7 = pw_ps w5 6 (pw_i a0) 3 1 → ∀ w9, w9 = pw_ps w7 6 (pw_i a0) 4 50 → ∀ w11, w11 = pw_ps w9 6 (pw_i a0) 5 40 → ∀ w13, w13 = pw_ps w11 6 (pw_i a0) 6 (-1) → ∀ w15, w15 = pw_ps w13 6 (pw_i a0) 0 a1 → ∀ w17, w17 = pw_ps w15 6 (pw_i a0) 1 a2 → 0 ≤ a2 ∧ 0 ≤ (w17.1 6 (pw_i a0) 2) ∧ pw_jn 0 (pw_ln w17 10 (pw_i (w17.1 6 (pw_i a0) 2))) ∧ ∀ w22, w22 = pw_ps w17 10 (pw_i (w17.1 6 (pw_i a0) 2)) 0 (w17.1 3 (pw_i a2) 0) → Q w22 0
set_option maxHeartbeats 4000000 in
set_option maxRecDepth 20000 in
theorem vw_Square_init {l : Launch} {g : pw_G} {Q : pw_W → Int32 → Prop} {X : pw_W → Nat → Prop} (hl0 : l.stackTraces = false) {w : pw_W} {a0 a1 a2 : Int32} (h : wp_Square_init w a0 a1 a2 Q X) : pw_V l g cx_Square_init Q X 0 [(8, a0), (0, a1), (5, a2)] [] w := by
  unfold wp_Square_init at h
  refine pv_aload_n (n := 1) d_Square_init_0 rfl rfl rfl ?_
  obtain ⟨g1, h⟩ := h
  refine pv_objInit (n := 4) q_13 q_1 q_2 (by decide) rfl g1 d_Square_init_1 rfl ?_
  refine pv_aload_n (n := 5) d_Square_init_4 rfl rfl rfl ?_
  refine pv_iconst (v := 4) (n := 6) d_Square_init_5 (by decide) rfl ?_
  obtain ⟨g2, h⟩ := h
  refine pv_nwa_int (n := 8) (f := 10) (by decide) (by decide) rfl (by intro k; rfl) q_3 d_Square_init_6 (by decide) (by decide) g2 rfl (fun w3 e4 => ?_)
  replace h := h w3 e4
  refine pt_Square_9 (n := 11) rfl d_Square_init_8 g1 rfl (fun w5 e6 => ?_)
  replace h := h w5 e6
  refine pv_aload_n (n := 12) d_Square_init_11 rfl rfl rfl ?_
  refine pv_iconst (v := 1) (n := 13) d_Square_init_12 (by decide) rfl ?_
  refine pt_Square_15 (n := 16) rfl d_Square_init_13 g1 rfl (fun w7 e8 => ?_)
  replace h := h w7 e8
  refine pv_aload_n (n := 17) d_Square_init_16 rfl rfl rfl ?_
  refine pv_bipush (v := 50) (n := 19) d_Square_init_17 (by decide) rfl ?_
  refine pt_Square_19 (n := 22) rfl d_Square_init_19 g1 rfl (fun w9 e10 => ?_)
  replace h := h w9 e10
  refine pv_aload_n (n := 23) d_Square_init_22 rfl rfl rfl ?_
  refine pv_bipush (v := 40) (n := 25) d_Square_init_23 (by decide) rfl ?_
  refine pt_Square_22 (n := 28) rfl d_Square_init_25 g1 rfl (fun w11 e12 => ?_)
  replace h := h w11 e12
  refine pv_aload_n (n := 29) d_Square_init_28 rfl rfl rfl ?_
  refine pv_iconst (v := -1) (n := 30) d_Square_init_29 (by decide) rfl ?_
  refine pt_Square_25 (n := 33) rfl d_Square_init_30 g1 rfl (fun w13 e14 => ?_)
  replace h := h w13 e14
  refine pv_aload_n (n := 34) d_Square_init_33 rfl rfl rfl ?_
  refine pv_iload_n (n := 35) d_Square_init_34 rfl rfl rfl ?_
  refine pt_Square_28 (n := 38) rfl rfl d_Square_init_35 g1 rfl (fun w15 e16 => ?_)
  replace h := h w15 e16
  refine pv_aload_n (n := 39) d_Square_init_38 rfl rfl rfl ?_
  refine pv_aload_n (n := 40) d_Square_init_39 rfl rfl rfl ?_
  refine pt_Square_31 (n := 43) rfl d_Square_init_40 g1 rfl (fun w17 e18 => ?_)
  replace h := h w17 e18
  refine pv_aload_n (n := 44) d_Square_init_43 rfl rfl rfl ?_
  refine gt_Square_9 (n := 47) rfl d_Square_init_44 g1 rfl ?_
  refine pv_iconst (v := 0) (n := 48) d_Square_init_47 (by decide) rfl ?_
  refine pv_aload_n (n := 49) d_Square_init_48 rfl rfl rfl ?_
  obtain ⟨g19, h⟩ := h
  refine gt_Square_35 (n := 52) rfl d_Square_init_49 g19 rfl ?_
  obtain ⟨g20, h⟩ := h
  obtain ⟨g21, h⟩ := h
  refine pv_iast1 (n := 53) (f := 10) (by decide) rfl (fun _ => rfl) d_Square_init_52 g20 g21 rfl (fun w22 e23 => ?_)
  replace h := h w22 e23
  exact pv_vret rfl rfl d_Square_init_53 h
set_option maxHeartbeats 4000000 in
set_option maxRecDepth 20000 in
theorem con_Square_init {l : Launch} {g : pw_G} {Q : pw_W → Int32 → Prop} {X : pw_W → Nat → Prop} (hl0 : l.stackTraces = false) {w : pw_W} {a0 a1 a2 : Int32} (h : wp_Square_init w a0 a1 a2 Q X) : pw_Con l g y_Square_init cx_Square_init [(8, a0), (0, a1), (5, a2)] w Q X :=
  pw_con (by decide +kernel) rfl rfl hl0 rfl (Nat.le_of_ble_eq_true rfl) (by simp) (vw_Square_init hl0 h)
theorem d_X_init_0 : decode (pw_cc cx_X_init) 0 = .ok (.aload_n 0, 1) := by decide +kernel
theorem d_X_init_1 : decode (pw_cc cx_X_init) 1 = .ok (.invokespecial 1, 3) := by decide +kernel
theorem d_X_init_4 : decode (pw_cc cx_X_init) 4 = .ok (.aload_n 0, 1) := by decide +kernel
theorem d_X_init_5 : decode (pw_cc cx_X_init) 5 = .ok (.bipush 100, 2) := by decide +kernel
theorem d_X_init_7 : decode (pw_cc cx_X_init) 7 = .ok (.anewarray 9, 3) := by decide +kernel
theorem d_X_init_10 : decode (pw_cc cx_X_init) 10 = .ok (.putfield 11, 3) := by decide +kernel
theorem d_X_init_13 : decode (pw_cc cx_X_init) 13 = .ok (.aload_n 0, 1) := by decide +kernel
theorem d_X_init_14 : decode (pw_cc cx_X_init) 14 = .ok (.bipush 12, 2) := by decide +kernel
theorem d_X_init_16 : decode (pw_cc cx_X_init) 16 = .ok (.anewarray 15, 3) := by decide +kernel
theorem d_X_init_19 : decode (pw_cc cx_X_init) 19 = .ok (.putfield 17, 3) := by decide +kernel
theorem d_X_init_22 : decode (pw_cc cx_X_init) 22 = .ok (.aload_n 0, 1) := by decide +kernel
theorem d_X_init_23 : decode (pw_cc cx_X_init) 23 = .ok (.new 21, 3) := by decide +kernel
theorem d_X_init_26 : decode (pw_cc cx_X_init) 26 = .ok (.dup, 1) := by decide +kernel
theorem d_X_init_27 : decode (pw_cc cx_X_init) 27 = .ok (.invokespecial 23, 3) := by decide +kernel
theorem d_X_init_30 : decode (pw_cc cx_X_init) 30 = .ok (.putfield 24, 3) := by decide +kernel
theorem d_X_init_33 : decode (pw_cc cx_X_init) 33 = .ok (.aload_n 0, 1) := by decide +kernel
theorem d_X_init_34 : decode (pw_cc cx_X_init) 34 = .ok (.new 21, 3) := by decide +kernel
theorem d_X_init_37 : decode (pw_cc cx_X_init) 37 = .ok (.dup, 1) := by decide +kernel
theorem d_X_init_38 : decode (pw_cc cx_X_init) 38 = .ok (.invokespecial 23, 3) := by decide +kernel
theorem d_X_init_41 : decode (pw_cc cx_X_init) 41 = .ok (.putfield 28, 3) := by decide +kernel
theorem d_X_init_44 : decode (pw_cc cx_X_init) 44 = .ok (.aload_n 0, 1) := by decide +kernel
theorem d_X_init_45 : decode (pw_cc cx_X_init) 45 = .ok (.new 21, 3) := by decide +kernel
theorem d_X_init_48 : decode (pw_cc cx_X_init) 48 = .ok (.dup, 1) := by decide +kernel
theorem d_X_init_49 : decode (pw_cc cx_X_init) 49 = .ok (.invokespecial 23, 3) := by decide +kernel
theorem d_X_init_52 : decode (pw_cc cx_X_init) 52 = .ok (.putfield 31, 3) := by decide +kernel
theorem d_X_init_55 : decode (pw_cc cx_X_init) 55 = .ok (.aload_n 0, 1) := by decide +kernel
theorem d_X_init_56 : decode (pw_cc cx_X_init) 56 = .ok (.new 21, 3) := by decide +kernel
theorem d_X_init_59 : decode (pw_cc cx_X_init) 59 = .ok (.dup, 1) := by decide +kernel
theorem d_X_init_60 : decode (pw_cc cx_X_init) 60 = .ok (.invokespecial 23, 3) := by decide +kernel
theorem d_X_init_63 : decode (pw_cc cx_X_init) 63 = .ok (.putfield 34, 3) := by decide +kernel
theorem d_X_init_66 : decode (pw_cc cx_X_init) 66 = .ok (.aload_n 0, 1) := by decide +kernel
theorem d_X_init_67 : decode (pw_cc cx_X_init) 67 = .ok (.new 21, 3) := by decide +kernel
theorem d_X_init_70 : decode (pw_cc cx_X_init) 70 = .ok (.dup, 1) := by decide +kernel
theorem d_X_init_71 : decode (pw_cc cx_X_init) 71 = .ok (.invokespecial 23, 3) := by decide +kernel
theorem d_X_init_74 : decode (pw_cc cx_X_init) 74 = .ok (.putfield 37, 3) := by decide +kernel
theorem d_X_init_77 : decode (pw_cc cx_X_init) 77 = .ok (.new 40, 3) := by decide +kernel
theorem d_X_init_80 : decode (pw_cc cx_X_init) 80 = .ok (.dup, 1) := by decide +kernel
theorem d_X_init_81 : decode (pw_cc cx_X_init) 81 = .ok (.iconst 0, 1) := by decide +kernel
theorem d_X_init_82 : decode (pw_cc cx_X_init) 82 = .ok (.aconst_null, 1) := by decide +kernel
theorem d_X_init_83 : decode (pw_cc cx_X_init) 83 = .ok (.invokespecial 42, 3) := by decide +kernel
theorem d_X_init_86 : decode (pw_cc cx_X_init) 86 = .ok (.astore_n 1, 1) := by decide +kernel
theorem d_X_init_87 : decode (pw_cc cx_X_init) 87 = .ok (.aload_n 0, 1) := by decide +kernel
theorem d_X_init_88 : decode (pw_cc cx_X_init) 88 = .ok (.getfield 24, 3) := by decide +kernel
theorem d_X_init_91 : decode (pw_cc cx_X_init) 91 = .ok (.aload_n 1, 1) := by decide +kernel
theorem d_X_init_92 : decode (pw_cc cx_X_init) 92 = .ok (.invokeinterface 45 2, 5) := by decide +kernel
theorem d_X_init_97 : decode (pw_cc cx_X_init) 97 = .ok (.pop, 1) := by decide +kernel
theorem d_X_init_98 : decode (pw_cc cx_X_init) 98 = .ok (.iconst 0, 1) := by decide +kernel
theorem d_X_init_99 : decode (pw_cc cx_X_init) 99 = .ok (.istore_n 2, 1) := by decide +kernel
theorem d_X_init_100 : decode (pw_cc cx_X_init) 100 = .ok (.iload_n 2, 1) := by decide +kernel
theorem d_X_init_101 : decode (pw_cc cx_X_init) 101 = .ok (.bipush 100, 2) := by decide +kernel
theorem d_X_init_103 : decode (pw_cc cx_X_init) 103 = .ok (.if_icmp .ge 24, 3) := by decide +kernel
theorem d_X_init_106 : decode (pw_cc cx_X_init) 106 = .ok (.aload_n 0, 1) := by decide +kernel
theorem d_X_init_107 : decode (pw_cc cx_X_init) 107 = .ok (.getfield 11, 3) := by decide +kernel
theorem d_X_init_110 : decode (pw_cc cx_X_init) 110 = .ok (.iload_n 2, 1) := by decide +kernel
theorem d_X_init_111 : decode (pw_cc cx_X_init) 111 = .ok (.new 9, 3) := by decide +kernel
theorem d_X_init_114 : decode (pw_cc cx_X_init) 114 = .ok (.dup, 1) := by decide +kernel
theorem d_X_init_115 : decode (pw_cc cx_X_init) 115 = .ok (.iload_n 2, 1) := by decide +kernel
theorem d_X_init_116 : decode (pw_cc cx_X_init) 116 = .ok (.aload_n 1, 1) := by decide +kernel
theorem d_X_init_117 : decode (pw_cc cx_X_init) 117 = .ok (.invokespecial 51, 3) := by decide +kernel
theorem d_X_init_120 : decode (pw_cc cx_X_init) 120 = .ok (.aastore, 1) := by decide +kernel
theorem d_X_init_121 : decode (pw_cc cx_X_init) 121 = .ok (.iinc 2 1, 3) := by decide +kernel
theorem d_X_init_124 : decode (pw_cc cx_X_init) 124 = .ok (.goto (-24), 3) := by decide +kernel
theorem d_X_init_127 : decode (pw_cc cx_X_init) 127 = .ok (.aload_n 1, 1) := by decide +kernel
theorem d_X_init_128 : decode (pw_cc cx_X_init) 128 = .ok (.bipush 100, 2) := by decide +kernel
theorem d_X_init_130 : decode (pw_cc cx_X_init) 130 = .ok (.putfield 54, 3) := by decide +kernel
theorem d_X_init_133 : decode (pw_cc cx_X_init) 133 = .ok (.iconst 0, 1) := by decide +kernel
theorem d_X_init_134 : decode (pw_cc cx_X_init) 134 = .ok (.istore_n 2, 1) := by decide +kernel
theorem d_X_init_135 : decode (pw_cc cx_X_init) 135 = .ok (.iload_n 2, 1) := by decide +kernel
theorem d_X_init_136 : decode (pw_cc cx_X_init) 136 = .ok (.bipush 12, 2) := by decide +kernel
theorem d_X_init_138 : decode (pw_cc cx_X_init) 138 = .ok (.if_icmp .ge 23, 3) := by decide +kernel
theorem d_X_init_141 : decode (pw_cc cx_X_init) 141 = .ok (.aload_n 0, 1) := by decide +kernel
theorem d_X_init_142 : decode (pw_cc cx_X_init) 142 = .ok (.getfield 17, 3) := by decide +kernel
theorem d_X_init_145 : decode (pw_cc cx_X_init) 145 = .ok (.iload_n 2, 1) := by decide +kernel
theorem d_X_init_146 : decode (pw_cc cx_X_init) 146 = .ok (.new 15, 3) := by decide +kernel
theorem d_X_init_149 : decode (pw_cc cx_X_init) 149 = .ok (.dup, 1) := by decide +kernel
theorem d_X_init_150 : decode (pw_cc cx_X_init) 150 = .ok (.iload_n 2, 1) := by decide +kernel
theorem d_X_init_151 : decode (pw_cc cx_X_init) 151 = .ok (.invokespecial 58, 3) := by decide +kernel
theorem d_X_init_154 : decode (pw_cc cx_X_init) 154 = .ok (.aastore, 1) := by decide +kernel
theorem d_X_init_155 : decode (pw_cc cx_X_init) 155 = .ok (.iinc 2 1, 3) := by decide +kernel
theorem d_X_init_158 : decode (pw_cc cx_X_init) 158 = .ok (.goto (-23), 3) := by decide +kernel
theorem d_X_init_161 : decode (pw_cc cx_X_init) 161 = .ok (.return_, 1) := by decide +kernel
set_option maxHeartbeats 4000000 in
set_option maxRecDepth 20000 in
def lp_X_init_135 (Q : pw_W → Int32 → Prop) (X : pw_W → Nat → Prop) : Nat → Int32 → pw_W → Prop := fun k => Nat.rec (motive := fun _ => Int32 → pw_W → Prop) (fun _ _ => False) (fun _ ih a2 w => ((12 : Int32) ≤ a2 → Q w 0) ∧ (¬ (12 : Int32) ≤ a2 → w.1 7 0 1 = 0 ∧ pw_rm w 4 4 ∧ ∀ w4, w4 = pw_nw w 4 0 4 → wp_Person_init w4 (nI (pw_nv w 4)) a2 (fun w6 r7 => pw_jn a2 (pw_ln w6 15 0) ∧ ∀ w9, w9 = pw_ps w6 15 0 (pw_i a2) (nI (pw_nv w 4)) → ih (a2 + 1) w9) (fun _ _ => False))) k
set_option maxHeartbeats 4000000 in
set_option maxRecDepth 20000 in
theorem lp_X_init_135_s {Q : pw_W → Int32 → Prop} {X : pw_W → Nat → Prop}  {k : Nat} {a2 : Int32} {w : pw_W} : lp_X_init_135 Q X (k + 1) a2 w = (let ih := lp_X_init_135 Q X k; ((12 : Int32) ≤ a2 → Q w 0) ∧ (¬ (12 : Int32) ≤ a2 → w.1 7 0 1 = 0 ∧ pw_rm w 4 4 ∧ ∀ w4, w4 = pw_nw w 4 0 4 → wp_Person_init w4 (nI (pw_nv w 4)) a2 (fun w6 r7 => pw_jn a2 (pw_ln w6 15 0) ∧ ∀ w9, w9 = pw_ps w6 15 0 (pw_i a2) (nI (pw_nv w 4)) → ih (a2 + 1) w9) (fun _ _ => False))) := rfl
set_option maxHeartbeats 4000000 in
set_option maxRecDepth 20000 in
theorem vlp_X_init_135 {l : Launch} {g : pw_G} {Q : pw_W → Int32 → Prop} {X : pw_W → Nat → Prop} (hl0 : l.stackTraces = false) : ∀ (k : Nat) (a2 : Int32) (w : pw_W), lp_X_init_135 Q X k a2 w → pw_V l g cx_X_init Q X 135 [(9, 0), (1, 0), (0, a2)] [] w := by
  intro k; induction k with
  | zero => intro _ _ h; exact h.elim
  | succ k ih =>
    intro a2 w h
    rw [lp_X_init_135_s] at h
    refine pv_iload_n (n := 136) d_X_init_135 rfl rfl rfl ?_
    refine pv_bipush (v := 12) (n := 138) d_X_init_136 (by decide) rfl ?_
    refine pv_icmp_ge (n := 141) (tgt := 161) d_X_init_138 (by decide) rfl (fun c1 => ?_) (fun c1 => ?_)
    · replace h := h.1 c1
      exact pv_vret rfl rfl d_X_init_161 h
    · replace h := h.2 c1
      refine pv_aload_n (n := 142) d_X_init_141 rfl rfl rfl ?_
      obtain ⟨g2, h⟩ := h
      refine gt_X_17 (n := 145) rfl d_X_init_142 (by decide) g2 rfl ?_
      refine pv_iload_n (n := 146) d_X_init_145 rfl rfl rfl ?_
      obtain ⟨g3, h⟩ := h
      refine nw_4 (n := 149) q_23 d_X_init_146 g3 rfl (fun w4 e5 => ?_)
      replace h := h w4 e5
      refine pv_dup (n := 150) d_X_init_149 (by decide) rfl ?_
      refine pv_iload_n (n := 151) d_X_init_150 rfl rfl rfl ?_
      refine pv_callI (n := 154) (x := (nI (pw_nv w 4))) (f := 4) [(0, a2)] [(6, (nI (pw_nv w 4))), (0, a2), (17, 0)] (con_Person_init hl0 h) rfl rfl q_26 q_27 q_25 q_24 pyo_Person_init (by decide) rfl rfl (nI_pos' (by have := g3.2.2; omega)) d_X_init_151 rfl (fun w6 r7 h _ => ?_) (fun _ _ h => h.elim)
      show pw_V l g cx_X_init Q X 154 [(9, 0), (1, 0), (0, a2)] [(6, (nI (pw_nv w 4))), (0, a2), (17, 0)] w6
      obtain ⟨g8, h⟩ := h
      refine pv_aast1 (n := 155) (f := 15) (F := 4) (by decide) (by decide) pw_cf4 rfl (fun _ => rfl) d_X_init_154 (by decide) g8 (nI_pos' (by have := g3.2.2; omega)) rfl (fun w9 e10 => ?_)
      replace h := h w9 e10
      refine pv_iinc (v := (a2 + 1)) (n := 158) (L1 := [(9, 0), (1, 0), (0, (a2 + 1))]) d_X_init_155 rfl rfl rfl (by decide) rfl ?_
      refine pv_goto (tgt := 135) d_X_init_158 (by decide) ?_
      exact ih _ _ h
set_option maxHeartbeats 4000000 in
set_option maxRecDepth 20000 in
def lp_X_init_100 (Q : pw_W → Int32 → Prop) (X : pw_W → Nat → Prop) : Nat → Int32 → Int32 → pw_W → Prop := fun k => Nat.rec (motive := fun _ => Int32 → Int32 → pw_W → Prop) (fun _ _ _ => False) (fun _ ih a1 a2 w => ((100 : Int32) ≤ a2 → 0 ≤ a1 ∧ ∀ w13, w13 = pw_ps w 3 (pw_i a1) 4 100 → ∃ k15, lp_X_init_135 Q X k15 0 w13) ∧ (¬ (100 : Int32) ≤ a2 → w.1 7 0 0 = 0 ∧ pw_rm w 6 11 ∧ ∀ w18, w18 = pw_nw w 6 0 11 → wp_Square_init w18 (nI (pw_nv w 6)) a2 a1 (fun w20 r21 => pw_jn a2 (pw_ln w20 14 0) ∧ ∀ w23, w23 = pw_ps w20 14 0 (pw_i a2) (nI (pw_nv w 6)) → ih a1 (a2 + 1) w23) (fun _ _ => False))) k
set_option maxHeartbeats 4000000 in
set_option maxRecDepth 20000 in
theorem lp_X_init_100_s {Q : pw_W → Int32 → Prop} {X : pw_W → Nat → Prop}  {k : Nat} {a1 a2 : Int32} {w : pw_W} : lp_X_init_100 Q X (k + 1) a1 a2 w = (let ih := lp_X_init_100 Q X k; ((100 : Int32) ≤ a2 → 0 ≤ a1 ∧ ∀ w13, w13 = pw_ps w 3 (pw_i a1) 4 100 → ∃ k15, lp_X_init_135 Q X k15 0 w13) ∧ (¬ (100 : Int32) ≤ a2 → w.1 7 0 0 = 0 ∧ pw_rm w 6 11 ∧ ∀ w18, w18 = pw_nw w 6 0 11 → wp_Square_init w18 (nI (pw_nv w 6)) a2 a1 (fun w20 r21 => pw_jn a2 (pw_ln w20 14 0) ∧ ∀ w23, w23 = pw_ps w20 14 0 (pw_i a2) (nI (pw_nv w 6)) → ih a1 (a2 + 1) w23) (fun _ _ => False))) := rfl
set_option maxHeartbeats 4000000 in
set_option maxRecDepth 20000 in
theorem vlp_X_init_100 {l : Launch} {g : pw_G} {Q : pw_W → Int32 → Prop} {X : pw_W → Nat → Prop} (hl0 : l.stackTraces = false) : ∀ (k : Nat) (a1 a2 : Int32) (w : pw_W), lp_X_init_100 Q X k a1 a2 w → pw_V l g cx_X_init Q X 100 [(9, 0), (5, a1), (0, a2)] [] w := by
  intro k; induction k with
  | zero => intro _ _ _ h; exact h.elim
  | succ k ih =>
    intro a1 a2 w h
    rw [lp_X_init_100_s] at h
    refine pv_iload_n (n := 101) d_X_init_100 rfl rfl rfl ?_
    refine pv_bipush (v := 100) (n := 103) d_X_init_101 (by decide) rfl ?_
    refine pv_icmp_ge (n := 106) (tgt := 127) d_X_init_103 (by decide) rfl (fun c11 => ?_) (fun c11 => ?_)
    · replace h := h.1 c11
      refine pv_aload_n (n := 128) d_X_init_127 rfl rfl rfl ?_
      refine pv_bipush (v := 100) (n := 130) d_X_init_128 (by decide) rfl ?_
      obtain ⟨g12, h⟩ := h
      refine pt_X_54 (n := 133) rfl d_X_init_130 g12 rfl (fun w13 e14 => ?_)
      replace h := h w13 e14
      refine pv_iconst (v := 0) (n := 134) d_X_init_133 (by decide) rfl ?_
      refine pv_istore_n (n := 135) (L' := [(9, 0), (5, a1), (0, 0)]) d_X_init_134 rfl (by decide) rfl rfl ?_
      refine pv_unset (i := 1) (L1 := [(9, 0), (1, 0), (0, 0)]) rfl ?_
      obtain ⟨k15, h⟩ := h
      exact vlp_X_init_135 hl0 _ _ _ h
    · replace h := h.2 c11
      refine pv_aload_n (n := 107) d_X_init_106 rfl rfl rfl ?_
      obtain ⟨g16, h⟩ := h
      refine gt_X_11 (n := 110) rfl d_X_init_107 (by decide) g16 rfl ?_
      refine pv_iload_n (n := 111) d_X_init_110 rfl rfl rfl ?_
      obtain ⟨g17, h⟩ := h
      refine nw_6 (n := 114) q_30 d_X_init_111 g17 rfl (fun w18 e19 => ?_)
      replace h := h w18 e19
      refine pv_dup (n := 115) d_X_init_114 (by decide) rfl ?_
      refine pv_iload_n (n := 116) d_X_init_115 rfl rfl rfl ?_
      refine pv_aload_n (n := 117) d_X_init_116 rfl rfl rfl ?_
      refine pv_callI (n := 120) (x := (nI (pw_nv w 6))) (f := 6) [(0, a2), (5, a1)] [(8, (nI (pw_nv w 6))), (0, a2), (16, 0)] (con_Square_init hl0 h) rfl rfl q_33 q_34 q_32 q_31 pyo_Square_init (by decide) rfl rfl (nI_pos' (by have := g17.2.2; omega)) d_X_init_117 rfl (fun w20 r21 h _ => ?_) (fun _ _ h => h.elim)
      show pw_V l g cx_X_init Q X 120 [(9, 0), (5, a1), (0, a2)] [(8, (nI (pw_nv w 6))), (0, a2), (16, 0)] w20
      obtain ⟨g22, h⟩ := h
      refine pv_aast1 (n := 121) (f := 14) (F := 6) (by decide) (by decide) pw_cf6 rfl (fun _ => rfl) d_X_init_120 (by decide) g22 (nI_pos' (by have := g17.2.2; omega)) rfl (fun w23 e24 => ?_)
      replace h := h w23 e24
      refine pv_iinc (v := (a2 + 1)) (n := 124) (L1 := [(9, 0), (5, a1), (0, (a2 + 1))]) d_X_init_121 rfl rfl rfl (by decide) rfl ?_
      refine pv_goto (tgt := 100) d_X_init_124 (by decide) ?_
      exact ih _ _ _ h
set_option maxHeartbeats 4000000 in
set_option maxRecDepth 20000 in
def wp_X_init (w : pw_W) (Q : pw_W → Int32 → Prop) (X : pw_W → Nat → Prop) : Prop := pw_nv w 14 = 0 ∧ pw_rm w 14 (pw_i 100) ∧ ∀ w27, w27 = pw_nw w 14 (pw_i 100) (pw_i 100) → ∀ w29, w29 = pw_ps w27 7 0 0 0 → pw_nv w29 15 = 0 ∧ pw_rm w29 15 (pw_i 12) ∧ ∀ w33, w33 = pw_nw w29 15 (pw_i 12) (pw_i 12) → ∀ w35, w35 = pw_ps w33 7 0 1 0 → pw_nv w35 23 = 0 ∧ pw_rm w35 23 3 ∧ ∀ w39, w39 = pw_nl w35 23 → ∀ w41, w41 = pw_ps w39 7 0 2 0 → pw_nv w41 22 = 0 ∧ pw_rm w41 22 3 ∧ ∀ w45, w45 = pw_nl w41 22 → ∀ w47, w47 = pw_ps w45 7 0 3 0 → pw_nv w47 20 = 0 ∧ pw_rm w47 20 3 ∧ ∀ w51, w51 = pw_nl w47 20 → ∀ w53, w53 = pw_ps w51 7 0 4 0 → pw_nv w53 25 = 0 ∧ pw_rm w53 25 3 ∧ ∀ w57, w57 = pw_nl w53 25 → ∀ w59, w59 = pw_ps w57 7 0 5 0 → pw_nv w59 21 = 0 ∧ pw_rm w59 21 3 ∧ ∀ w63, w63 = pw_nl w59 21 → ∀ w65, w65 = pw_ps w63 7 0 6 0 → pw_rm w65 3 6 ∧ ∀ w68, w68 = pw_nw w65 3 0 6 → wp_Parcel_init w68 (nI (pw_nv w65 3)) 0 (-1) (fun w70 r71 => ∀ v72, v72 = (nI (pw_nv w65 3)) → w70.1 7 0 2 = 0 ∧ pw_lg w70 23 0 ∧ ∀ w77, w77 = pw_la w70 23 0 v72 → ∃ k79, lp_X_init_100 Q X k79 v72 0 w77) (fun _ _ => False)
set_option maxHeartbeats 4000000 in
set_option maxRecDepth 20000 in
theorem vw_X_init {l : Launch} {g : pw_G} {Q : pw_W → Int32 → Prop} {X : pw_W → Nat → Prop} (hl0 : l.stackTraces = false) {w : pw_W} (h : wp_X_init w Q X) : pw_V l g cx_X_init Q X 0 [(9, 0), (1, 0), (1, 0)] [] w := by
  unfold wp_X_init at h
  refine pv_aload_n (n := 1) d_X_init_0 rfl rfl rfl ?_
  refine pv_objInit (n := 4) q_35 q_1 q_2 (by decide) rfl (by decide) d_X_init_1 rfl ?_
  refine pv_aload_n (n := 5) d_X_init_4 rfl rfl rfl ?_
  refine pv_bipush (v := 100) (n := 7) d_X_init_5 (by decide) rfl ?_
  obtain ⟨g25, h⟩ := h
  obtain ⟨g26, h⟩ := h
  refine pv_anw0 (n := 10) (f := 14) (F := 6) g25 (by decide) (by decide) (by decide) rfl (fun _ => rfl) q_30 (Or.inl rfl) d_X_init_7 (by decide) (by decide) g26 rfl (fun w27 e28 => ?_)
  replace h := h w27 e28
  refine pt_X_11 (n := 13) rfl rfl d_X_init_10 (by decide) rfl (fun w29 e30 => ?_)
  replace h := h w29 e30
  refine pv_aload_n (n := 14) d_X_init_13 rfl rfl rfl ?_
  refine pv_bipush (v := 12) (n := 16) d_X_init_14 (by decide) rfl ?_
  obtain ⟨g31, h⟩ := h
  obtain ⟨g32, h⟩ := h
  refine pv_anw0 (n := 19) (f := 15) (F := 4) g31 (by decide) (by decide) (by decide) rfl (fun _ => rfl) q_23 (Or.inr rfl) d_X_init_16 (by decide) (by decide) g32 rfl (fun w33 e34 => ?_)
  replace h := h w33 e34
  refine pt_X_17 (n := 22) rfl rfl d_X_init_19 (by decide) rfl (fun w35 e36 => ?_)
  replace h := h w35 e36
  refine pv_aload_n (n := 23) d_X_init_22 rfl rfl rfl ?_
  obtain ⟨g37, h⟩ := h
  obtain ⟨g38, h⟩ := h
  refine pv_lnew0 (n := 30) (f := 23) g37 (by decide) q_37 q_36 (by decide) rfl (Nat.le_of_ble_eq_true rfl) d_X_init_23 d_X_init_26 d_X_init_27 g38 rfl (fun w39 e40 => ?_)
  replace h := h w39 e40
  refine pt_X_24 (n := 33) rfl rfl d_X_init_30 (by decide) rfl (fun w41 e42 => ?_)
  replace h := h w41 e42
  refine pv_aload_n (n := 34) d_X_init_33 rfl rfl rfl ?_
  obtain ⟨g43, h⟩ := h
  obtain ⟨g44, h⟩ := h
  refine pv_lnew0 (n := 41) (f := 22) g43 (by decide) q_37 q_36 (by decide) rfl (Nat.le_of_ble_eq_true rfl) d_X_init_34 d_X_init_37 d_X_init_38 g44 rfl (fun w45 e46 => ?_)
  replace h := h w45 e46
  refine pt_X_28 (n := 44) rfl rfl d_X_init_41 (by decide) rfl (fun w47 e48 => ?_)
  replace h := h w47 e48
  refine pv_aload_n (n := 45) d_X_init_44 rfl rfl rfl ?_
  obtain ⟨g49, h⟩ := h
  obtain ⟨g50, h⟩ := h
  refine pv_lnew0 (n := 52) (f := 20) g49 (by decide) q_37 q_36 (by decide) rfl (Nat.le_of_ble_eq_true rfl) d_X_init_45 d_X_init_48 d_X_init_49 g50 rfl (fun w51 e52 => ?_)
  replace h := h w51 e52
  refine pt_X_31 (n := 55) rfl rfl d_X_init_52 (by decide) rfl (fun w53 e54 => ?_)
  replace h := h w53 e54
  refine pv_aload_n (n := 56) d_X_init_55 rfl rfl rfl ?_
  obtain ⟨g55, h⟩ := h
  obtain ⟨g56, h⟩ := h
  refine pv_lnew0 (n := 63) (f := 25) g55 (by decide) q_37 q_36 (by decide) rfl (Nat.le_of_ble_eq_true rfl) d_X_init_56 d_X_init_59 d_X_init_60 g56 rfl (fun w57 e58 => ?_)
  replace h := h w57 e58
  refine pt_X_34 (n := 66) rfl rfl d_X_init_63 (by decide) rfl (fun w59 e60 => ?_)
  replace h := h w59 e60
  refine pv_aload_n (n := 67) d_X_init_66 rfl rfl rfl ?_
  obtain ⟨g61, h⟩ := h
  obtain ⟨g62, h⟩ := h
  refine pv_lnew0 (n := 74) (f := 21) g61 (by decide) q_37 q_36 (by decide) rfl (Nat.le_of_ble_eq_true rfl) d_X_init_67 d_X_init_70 d_X_init_71 g62 rfl (fun w63 e64 => ?_)
  replace h := h w63 e64
  refine pt_X_37 (n := 77) rfl rfl d_X_init_74 (by decide) rfl (fun w65 e66 => ?_)
  replace h := h w65 e66
  obtain ⟨g67, h⟩ := h
  refine nw_3 (n := 80) q_43 d_X_init_77 g67 rfl (fun w68 e69 => ?_)
  replace h := h w68 e69
  refine pv_dup (n := 81) d_X_init_80 (by decide) rfl ?_
  refine pv_iconst (v := 0) (n := 82) d_X_init_81 (by decide) rfl ?_
  refine pv_null (n := 83) 4 d_X_init_82 rfl ?_
  refine pv_callI (n := 86) (x := (nI (pw_nv w65 3))) (f := 3) [(0, 0), (6, -1)] [(5, (nI (pw_nv w65 3)))] (con_Parcel_init hl0 h) rfl rfl q_47 q_48 q_46 q_45 pyo_Parcel_init (by decide) rfl rfl (nI_pos' (by have := g67.2.2; omega)) d_X_init_83 rfl (fun w70 r71 h _ => ?_) (fun _ _ h => h.elim)
  show pw_V l g cx_X_init Q X 86 [(9, 0), (1, 0), (1, 0)] [(5, (nI (pw_nv w65 3)))] w70
  refine pv_nm (fun v72 e73 => ?_)
  replace h := h v72 e73
  have g74 : 0 ≤ v72 := by rw [e73]; exact (nI_pos' (by have := g67.2.2; omega))
  refine pv_astore_n (n := 87) (L' := [(9, 0), (5, v72), (1, 0)]) d_X_init_86 rfl (by decide) rfl rfl ?_
  refine pv_aload_n (n := 88) d_X_init_87 rfl rfl rfl ?_
  obtain ⟨g75, h⟩ := h
  refine gt_X_24 (n := 91) rfl d_X_init_88 (by decide) g75 rfl ?_
  refine pv_aload_n (n := 92) d_X_init_91 rfl rfl rfl ?_
  obtain ⟨g76, h⟩ := h
  refine pv_ladd (n := 97) (f := 23) (F := 3) (by decide) rfl q_44 (by decide) rfl d_X_init_92 (by decide) g74 g76 rfl (fun w77 e78 => ?_)
  replace h := h w77 e78
  refine pv_pop (n := 98) d_X_init_97 (by decide) rfl ?_
  refine pv_iconst (v := 0) (n := 99) d_X_init_98 (by decide) rfl ?_
  refine pv_istore_n (n := 100) (L' := [(9, 0), (5, v72), (0, 0)]) d_X_init_99 rfl (by decide) rfl rfl ?_
  obtain ⟨k79, h⟩ := h
  exact vlp_X_init_100 hl0 _ _ _ _ h
set_option maxHeartbeats 4000000 in
set_option maxRecDepth 20000 in
theorem con_X_init {l : Launch} {g : pw_G} {Q : pw_W → Int32 → Prop} {X : pw_W → Nat → Prop} (hl0 : l.stackTraces = false) {w : pw_W} (h : wp_X_init w Q X) : pw_Con l g y_X_init cx_X_init [(9, 0)] w Q X :=
  pw_con (by decide +kernel) rfl rfl hl0 rfl (Nat.le_of_ble_eq_true rfl) (by simp) (vw_X_init hl0 h)
theorem d_X_addParcel_0 : decode (pw_cc cx_X_addParcel) 0 = .ok (.new 40, 3) := by decide +kernel
theorem d_X_addParcel_3 : decode (pw_cc cx_X_addParcel) 3 = .ok (.dup, 1) := by decide +kernel
theorem d_X_addParcel_4 : decode (pw_cc cx_X_addParcel) 4 = .ok (.aload_n 0, 1) := by decide +kernel
theorem d_X_addParcel_5 : decode (pw_cc cx_X_addParcel) 5 = .ok (.getfield 24, 3) := by decide +kernel
theorem d_X_addParcel_8 : decode (pw_cc cx_X_addParcel) 8 = .ok (.invokeinterface 88 1, 5) := by decide +kernel
theorem d_X_addParcel_13 : decode (pw_cc cx_X_addParcel) 13 = .ok (.aload_n 1, 1) := by decide +kernel
theorem d_X_addParcel_14 : decode (pw_cc cx_X_addParcel) 14 = .ok (.invokespecial 42, 3) := by decide +kernel
theorem d_X_addParcel_17 : decode (pw_cc cx_X_addParcel) 17 = .ok (.astore_n 2, 1) := by decide +kernel
theorem d_X_addParcel_18 : decode (pw_cc cx_X_addParcel) 18 = .ok (.aload_n 0, 1) := by decide +kernel
theorem d_X_addParcel_19 : decode (pw_cc cx_X_addParcel) 19 = .ok (.getfield 24, 3) := by decide +kernel
theorem d_X_addParcel_22 : decode (pw_cc cx_X_addParcel) 22 = .ok (.aload_n 2, 1) := by decide +kernel
theorem d_X_addParcel_23 : decode (pw_cc cx_X_addParcel) 23 = .ok (.invokeinterface 45 2, 5) := by decide +kernel
theorem d_X_addParcel_28 : decode (pw_cc cx_X_addParcel) 28 = .ok (.pop, 1) := by decide +kernel
theorem d_X_addParcel_29 : decode (pw_cc cx_X_addParcel) 29 = .ok (.aload_n 2, 1) := by decide +kernel
theorem d_X_addParcel_30 : decode (pw_cc cx_X_addParcel) 30 = .ok (.areturn, 1) := by decide +kernel
set_option maxHeartbeats 4000000 in
set_option maxRecDepth 20000 in
def wp_X_addParcel (w : pw_W) (a1 : Int32) (Q : pw_W → Int32 → Prop) (X : pw_W → Nat → Prop) : Prop := pw_rm w 3 6 ∧ ∀ w2, w2 = pw_nw w 3 0 6 → w2.1 7 0 2 = 0 ∧ wp_Parcel_init w2 (nI (pw_nv w 3)) (nI (pw_ln w2 23 0)) a1 (fun w5 r6 => ∀ v7, v7 = (nI (pw_nv w 3)) → w5.1 7 0 2 = 0 ∧ pw_lg w5 23 0 ∧ ∀ w12, w12 = pw_la w5 23 0 v7 → Q w12 v7) (fun _ _ => False)
set_option maxHeartbeats 4000000 in
set_option maxRecDepth 20000 in
theorem vw_X_addParcel {l : Launch} {g : pw_G} {Q : pw_W → Int32 → Prop} {X : pw_W → Nat → Prop} (hl0 : l.stackTraces = false) {w : pw_W} {a1 : Int32} (h : wp_X_addParcel w a1 Q X) : pw_V l g cx_X_addParcel Q X 0 [(9, 0), (6, a1), (1, 0)] [] w := by
  unfold wp_X_addParcel at h
  obtain ⟨g1, h⟩ := h
  refine nw_3 (n := 3) q_43 d_X_addParcel_0 g1 rfl (fun w2 e3 => ?_)
  replace h := h w2 e3
  refine pv_dup (n := 4) d_X_addParcel_3 (by decide) rfl ?_
  refine pv_aload_n (n := 5) d_X_addParcel_4 rfl rfl rfl ?_
  obtain ⟨g4, h⟩ := h
  refine gt_X_24 (n := 8) rfl d_X_addParcel_5 (by decide) g4 rfl ?_
  refine pv_lsize (n := 13) (f := 23) (by decide) q_49 (by decide) rfl d_X_addParcel_8 (by decide) rfl ?_
  refine pv_aload_n (n := 14) d_X_addParcel_13 rfl rfl rfl ?_
  refine pv_callI (n := 17) (x := (nI (pw_nv w 3))) (f := 3) [(0, (nI (pw_ln w2 23 0))), (6, a1)] [(5, (nI (pw_nv w 3)))] (con_Parcel_init hl0 h) rfl rfl q_47 q_48 q_46 q_45 pyo_Parcel_init (by decide) rfl rfl (nI_pos' (by have := g1.2.2; omega)) d_X_addParcel_14 rfl (fun w5 r6 h _ => ?_) (fun _ _ h => h.elim)
  show pw_V l g cx_X_addParcel Q X 17 [(9, 0), (6, a1), (1, 0)] [(5, (nI (pw_nv w 3)))] w5
  refine pv_nm (fun v7 e8 => ?_)
  replace h := h v7 e8
  have g9 : 0 ≤ v7 := by rw [e8]; exact (nI_pos' (by have := g1.2.2; omega))
  refine pv_astore_n (n := 18) (L' := [(9, 0), (6, a1), (5, v7)]) d_X_addParcel_17 rfl (by decide) rfl rfl ?_
  refine pv_aload_n (n := 19) d_X_addParcel_18 rfl rfl rfl ?_
  obtain ⟨g10, h⟩ := h
  refine gt_X_24 (n := 22) rfl d_X_addParcel_19 (by decide) g10 rfl ?_
  refine pv_aload_n (n := 23) d_X_addParcel_22 rfl rfl rfl ?_
  obtain ⟨g11, h⟩ := h
  refine pv_ladd (n := 28) (f := 23) (F := 3) (by decide) rfl q_44 (by decide) rfl d_X_addParcel_23 (by decide) g9 g11 rfl (fun w12 e13 => ?_)
  replace h := h w12 e13
  refine pv_pop (n := 29) d_X_addParcel_28 (by decide) rfl ?_
  refine pv_aload_n (n := 30) d_X_addParcel_29 rfl rfl rfl ?_
  exact pv_aret rfl (Or.inl ⟨_, rfl⟩) rfl d_X_addParcel_30 h
set_option maxHeartbeats 4000000 in
set_option maxRecDepth 20000 in
theorem con_X_addParcel {l : Launch} {g : pw_G} {Q : pw_W → Int32 → Prop} {X : pw_W → Nat → Prop} (hl0 : l.stackTraces = false) {w : pw_W} {a1 : Int32} (h : wp_X_addParcel w a1 Q X) : pw_Con l g y_X_addParcel cx_X_addParcel [(9, 0), (6, a1)] w Q X :=
  pw_con (by decide +kernel) rfl rfl hl0 rfl (Nat.le_of_ble_eq_true rfl) (by simp) (vw_X_addParcel hl0 h)
theorem d_X_addRight_0 : decode (pw_cc cx_X_addRight) 0 = .ok (.aload_n 0, 1) := by decide +kernel
theorem d_X_addRight_1 : decode (pw_cc cx_X_addRight) 1 = .ok (.getfield 34, 3) := by decide +kernel
theorem d_X_addRight_4 : decode (pw_cc cx_X_addRight) 4 = .ok (.aload_n 1, 1) := by decide +kernel
theorem d_X_addRight_5 : decode (pw_cc cx_X_addRight) 5 = .ok (.invokeinterface 45 2, 5) := by decide +kernel
theorem d_X_addRight_10 : decode (pw_cc cx_X_addRight) 10 = .ok (.pop, 1) := by decide +kernel
theorem d_X_addRight_11 : decode (pw_cc cx_X_addRight) 11 = .ok (.aload_n 0, 1) := by decide +kernel
theorem d_X_addRight_12 : decode (pw_cc cx_X_addRight) 12 = .ok (.getfield 34, 3) := by decide +kernel
theorem d_X_addRight_15 : decode (pw_cc cx_X_addRight) 15 = .ok (.invokeinterface 88 1, 5) := by decide +kernel
theorem d_X_addRight_20 : decode (pw_cc cx_X_addRight) 20 = .ok (.iconst 1, 1) := by decide +kernel
theorem d_X_addRight_21 : decode (pw_cc cx_X_addRight) 21 = .ok (.isub, 1) := by decide +kernel
theorem d_X_addRight_22 : decode (pw_cc cx_X_addRight) 22 = .ok (.ireturn, 1) := by decide +kernel
set_option maxHeartbeats 4000000 in
set_option maxRecDepth 20000 in
def wp_X_addRight (w : pw_W) (a1 : Int32) (Q : pw_W → Int32 → Prop) (X : pw_W → Nat → Prop) : Prop := w.1 7 0 5 = 0 ∧ 0 ≤ a1 ∧ pw_lg w 25 0 ∧ ∀ w4, w4 = pw_la w 25 0 a1 → w4.1 7 0 5 = 0 ∧ Q w4 ((nI (pw_ln w4 25 0)) - 1)
set_option maxHeartbeats 4000000 in
set_option maxRecDepth 20000 in
theorem vw_X_addRight {l : Launch} {g : pw_G} {Q : pw_W → Int32 → Prop} {X : pw_W → Nat → Prop} (hl0 : l.stackTraces = false) {w : pw_W} {a1 : Int32} (h : wp_X_addRight w a1 Q X) : pw_V l g cx_X_addRight Q X 0 [(9, 0), (7, a1)] [] w := by
  unfold wp_X_addRight at h
  refine pv_aload_n (n := 1) d_X_addRight_0 rfl rfl rfl ?_
  obtain ⟨g1, h⟩ := h
  refine gt_X_34 (n := 4) rfl d_X_addRight_1 (by decide) g1 rfl ?_
  refine pv_aload_n (n := 5) d_X_addRight_4 rfl rfl rfl ?_
  obtain ⟨g2, h⟩ := h
  obtain ⟨g3, h⟩ := h
  refine pv_ladd (n := 10) (f := 25) (F := 5) (by decide) rfl q_44 (by decide) rfl d_X_addRight_5 (by decide) g2 g3 rfl (fun w4 e5 => ?_)
  replace h := h w4 e5
  refine pv_pop (n := 11) d_X_addRight_10 (by decide) rfl ?_
  refine pv_aload_n (n := 12) d_X_addRight_11 rfl rfl rfl ?_
  obtain ⟨g6, h⟩ := h
  refine gt_X_34 (n := 15) rfl d_X_addRight_12 (by decide) g6 rfl ?_
  refine pv_lsize (n := 20) (f := 25) (by decide) q_49 (by decide) rfl d_X_addRight_15 (by decide) rfl ?_
  refine pv_iconst (v := 1) (n := 21) d_X_addRight_20 (by decide) rfl ?_
  refine pv_isub (n := 22) d_X_addRight_21 rfl ?_
  exact pv_iret rfl rfl d_X_addRight_22 h
set_option maxHeartbeats 4000000 in
set_option maxRecDepth 20000 in
theorem con_X_addRight {l : Launch} {g : pw_G} {Q : pw_W → Int32 → Prop} {X : pw_W → Nat → Prop} (hl0 : l.stackTraces = false) {w : pw_W} {a1 : Int32} (h : wp_X_addRight w a1 Q X) : pw_Con l g y_X_addRight cx_X_addRight [(9, 0), (7, a1)] w Q X :=
  pw_con (by decide +kernel) rfl rfl hl0 rfl (Nat.le_of_ble_eq_true rfl) (by simp) (vw_X_addRight hl0 h)
theorem d_Right_isOn_0 : decode (pw_cc cx_Right_isOn) 0 = .ok (.aload_n 0, 1) := by decide +kernel
theorem d_Right_isOn_1 : decode (pw_cc cx_Right_isOn) 1 = .ok (.getfield 13, 3) := by decide +kernel
theorem d_Right_isOn_4 : decode (pw_cc cx_Right_isOn) 4 = .ok (.aload_n 1, 1) := by decide +kernel
theorem d_Right_isOn_5 : decode (pw_cc cx_Right_isOn) 5 = .ok (.if_acmp .ne 14, 3) := by decide +kernel
theorem d_Right_isOn_8 : decode (pw_cc cx_Right_isOn) 8 = .ok (.aload_n 0, 1) := by decide +kernel
theorem d_Right_isOn_9 : decode (pw_cc cx_Right_isOn) 9 = .ok (.getfield 27, 3) := by decide +kernel
theorem d_Right_isOn_12 : decode (pw_cc cx_Right_isOn) 12 = .ok (.ifCond .ne 7, 3) := by decide +kernel
theorem d_Right_isOn_15 : decode (pw_cc cx_Right_isOn) 15 = .ok (.iconst 1, 1) := by decide +kernel
theorem d_Right_isOn_16 : decode (pw_cc cx_Right_isOn) 16 = .ok (.goto 4, 3) := by decide +kernel
theorem d_Right_isOn_19 : decode (pw_cc cx_Right_isOn) 19 = .ok (.iconst 0, 1) := by decide +kernel
theorem d_Right_isOn_20 : decode (pw_cc cx_Right_isOn) 20 = .ok (.ireturn, 1) := by decide +kernel
set_option maxHeartbeats 4000000 in
set_option maxRecDepth 20000 in
def wp_Right_isOn (w : pw_W) (a0 a1 : Int32) (Q : pw_W → Int32 → Prop) (X : pw_W → Nat → Prop) : Prop := 0 ≤ a0 ∧ (¬ (w.1 5 (pw_i a0) 1) = a1 → Q w 0) ∧ ((w.1 5 (pw_i a0) 1) = a1 → (¬ (w.1 5 (pw_i a0) 5) = 0 → Q w 0) ∧ ((w.1 5 (pw_i a0) 5) = 0 → Q w 1))
set_option maxHeartbeats 4000000 in
set_option maxRecDepth 20000 in
theorem vw_Right_isOn {l : Launch} {g : pw_G} {Q : pw_W → Int32 → Prop} {X : pw_W → Nat → Prop} (hl0 : l.stackTraces = false) {w : pw_W} {a0 a1 : Int32} (h : wp_Right_isOn w a0 a1 Q X) : pw_V l g cx_Right_isOn Q X 0 [(7, a0), (5, a1)] [] w := by
  unfold wp_Right_isOn at h
  refine pv_aload_n (n := 1) d_Right_isOn_0 rfl rfl rfl ?_
  obtain ⟨g1, h⟩ := h
  refine gt_Right_13 (n := 4) rfl d_Right_isOn_1 g1 rfl ?_
  refine pv_aload_n (n := 5) d_Right_isOn_4 rfl rfl rfl ?_
  refine pv_acmp_ne (n := 8) (tgt := 19) d_Right_isOn_5 (by decide) (by decide) rfl (fun c2 => ?_) (fun c2 => ?_)
  · replace h := h.1 c2
    refine pv_iconst (v := 0) (n := 20) d_Right_isOn_19 (by decide) rfl ?_
    exact pv_zret rfl rfl d_Right_isOn_20 (by decide) h
  · replace h := h.2 c2
    refine pv_aload_n (n := 9) d_Right_isOn_8 rfl rfl rfl ?_
    refine gt_Right_27 (n := 12) rfl d_Right_isOn_9 g1 rfl ?_
    refine pv_if_ne (n := 15) (tgt := 19) d_Right_isOn_12 (by decide) rfl (fun c3 => ?_) (fun c3 => ?_)
    · replace h := h.1 c3
      refine pv_iconst (v := 0) (n := 20) d_Right_isOn_19 (by decide) rfl ?_
      exact pv_zret rfl rfl d_Right_isOn_20 (by decide) h
    · replace h := h.2 c3
      refine pv_iconst (v := 1) (n := 16) d_Right_isOn_15 (by decide) rfl ?_
      refine pv_goto (tgt := 20) d_Right_isOn_16 (by decide) ?_
      exact pv_zret rfl rfl d_Right_isOn_20 (by decide) h
set_option maxHeartbeats 4000000 in
set_option maxRecDepth 20000 in
theorem con_Right_isOn {l : Launch} {g : pw_G} {Q : pw_W → Int32 → Prop} {X : pw_W → Nat → Prop} (hl0 : l.stackTraces = false) {w : pw_W} {a0 a1 : Int32} (h : wp_Right_isOn w a0 a1 Q X) : pw_Con l g y_Right_isOn cx_Right_isOn [(7, a0), (5, a1)] w Q X :=
  pw_con (by decide +kernel) rfl rfl hl0 rfl (Nat.le_of_ble_eq_true rfl) (by simp) (vw_Right_isOn hl0 h)
theorem d_X_hasRight_0 : decode (pw_cc cx_X_hasRight) 0 = .ok (.iconst 0, 1) := by decide +kernel
theorem d_X_hasRight_1 : decode (pw_cc cx_X_hasRight) 1 = .ok (.istore 4, 2) := by decide +kernel
theorem d_X_hasRight_3 : decode (pw_cc cx_X_hasRight) 3 = .ok (.iload 4, 2) := by decide +kernel
theorem d_X_hasRight_5 : decode (pw_cc cx_X_hasRight) 5 = .ok (.aload_n 0, 1) := by decide +kernel
theorem d_X_hasRight_6 : decode (pw_cc cx_X_hasRight) 6 = .ok (.getfield 34, 3) := by decide +kernel
theorem d_X_hasRight_9 : decode (pw_cc cx_X_hasRight) 9 = .ok (.invokeinterface 88 1, 5) := by decide +kernel
theorem d_X_hasRight_14 : decode (pw_cc cx_X_hasRight) 14 = .ok (.if_icmp .ge 54, 3) := by decide +kernel
theorem d_X_hasRight_17 : decode (pw_cc cx_X_hasRight) 17 = .ok (.aload_n 0, 1) := by decide +kernel
theorem d_X_hasRight_18 : decode (pw_cc cx_X_hasRight) 18 = .ok (.getfield 34, 3) := by decide +kernel
theorem d_X_hasRight_21 : decode (pw_cc cx_X_hasRight) 21 = .ok (.iload 4, 2) := by decide +kernel
theorem d_X_hasRight_23 : decode (pw_cc cx_X_hasRight) 23 = .ok (.invokeinterface 382 2, 5) := by decide +kernel
theorem d_X_hasRight_28 : decode (pw_cc cx_X_hasRight) 28 = .ok (.checkcast 210, 3) := by decide +kernel
theorem d_X_hasRight_31 : decode (pw_cc cx_X_hasRight) 31 = .ok (.astore 5, 2) := by decide +kernel
theorem d_X_hasRight_33 : decode (pw_cc cx_X_hasRight) 33 = .ok (.aload 5, 2) := by decide +kernel
theorem d_X_hasRight_35 : decode (pw_cc cx_X_hasRight) 35 = .ok (.aload_n 2, 1) := by decide +kernel
theorem d_X_hasRight_36 : decode (pw_cc cx_X_hasRight) 36 = .ok (.invokevirtual 418, 3) := by decide +kernel
theorem d_X_hasRight_39 : decode (pw_cc cx_X_hasRight) 39 = .ok (.ifCond .eq 23, 3) := by decide +kernel
theorem d_X_hasRight_42 : decode (pw_cc cx_X_hasRight) 42 = .ok (.aload 5, 2) := by decide +kernel
theorem d_X_hasRight_44 : decode (pw_cc cx_X_hasRight) 44 = .ok (.getfield 342, 3) := by decide +kernel
theorem d_X_hasRight_47 : decode (pw_cc cx_X_hasRight) 47 = .ok (.iload_n 1, 1) := by decide +kernel
theorem d_X_hasRight_48 : decode (pw_cc cx_X_hasRight) 48 = .ok (.if_icmp .ne 14, 3) := by decide +kernel
theorem d_X_hasRight_51 : decode (pw_cc cx_X_hasRight) 51 = .ok (.aload 5, 2) := by decide +kernel
theorem d_X_hasRight_53 : decode (pw_cc cx_X_hasRight) 53 = .ok (.getfield 346, 3) := by decide +kernel
theorem d_X_hasRight_56 : decode (pw_cc cx_X_hasRight) 56 = .ok (.aload_n 3, 1) := by decide +kernel
theorem d_X_hasRight_57 : decode (pw_cc cx_X_hasRight) 57 = .ok (.if_acmp .ne 5, 3) := by decide +kernel
theorem d_X_hasRight_60 : decode (pw_cc cx_X_hasRight) 60 = .ok (.iconst 1, 1) := by decide +kernel
theorem d_X_hasRight_61 : decode (pw_cc cx_X_hasRight) 61 = .ok (.ireturn, 1) := by decide +kernel
theorem d_X_hasRight_62 : decode (pw_cc cx_X_hasRight) 62 = .ok (.iinc 4 1, 3) := by decide +kernel
theorem d_X_hasRight_65 : decode (pw_cc cx_X_hasRight) 65 = .ok (.goto (-62), 3) := by decide +kernel
theorem d_X_hasRight_68 : decode (pw_cc cx_X_hasRight) 68 = .ok (.iconst 0, 1) := by decide +kernel
theorem d_X_hasRight_69 : decode (pw_cc cx_X_hasRight) 69 = .ok (.ireturn, 1) := by decide +kernel
set_option maxHeartbeats 4000000 in
set_option maxRecDepth 20000 in
def lp_X_hasRight_3 (Q : pw_W → Int32 → Prop) (X : pw_W → Nat → Prop) : Nat → Int32 → Int32 → Int32 → Int32 → pw_W → Prop := fun k => Nat.rec (motive := fun _ => Int32 → Int32 → Int32 → Int32 → pw_W → Prop) (fun _ _ _ _ _ => False) (fun _ ih a1 a2 a3 a4 w => w.1 7 0 5 = 0 ∧ ((nI (pw_ln w 25 0)) ≤ a4 → Q w 0) ∧ (¬ (nI (pw_ln w 25 0)) ≤ a4 → w.1 7 0 5 = 0 ∧ pw_jn a4 (pw_ln w 25 0) ∧ ∀ v5, v5 = (w.1 25 0 (pw_i a4)) → 0 ≤ v5 ∧ wp_Right_isOn w v5 a2 (fun w7 r8 => (r8 = 0 → ih a1 a2 a3 (a4 + 1) w7) ∧ (¬ r8 = 0 → (¬ (w7.1 5 (pw_i v5) 0) = a1 → ih a1 a2 a3 (a4 + 1) w7) ∧ ((w7.1 5 (pw_i v5) 0) = a1 → (¬ (w7.1 5 (pw_i v5) 2) = a3 → ih a1 a2 a3 (a4 + 1) w7) ∧ ((w7.1 5 (pw_i v5) 2) = a3 → Q w7 1)))) (fun _ _ => False))) k
set_option maxHeartbeats 4000000 in
set_option maxRecDepth 20000 in
theorem lp_X_hasRight_3_s {Q : pw_W → Int32 → Prop} {X : pw_W → Nat → Prop}  {k : Nat} {a1 a2 a3 a4 : Int32} {w : pw_W} : lp_X_hasRight_3 Q X (k + 1) a1 a2 a3 a4 w = (let ih := lp_X_hasRight_3 Q X k; w.1 7 0 5 = 0 ∧ ((nI (pw_ln w 25 0)) ≤ a4 → Q w 0) ∧ (¬ (nI (pw_ln w 25 0)) ≤ a4 → w.1 7 0 5 = 0 ∧ pw_jn a4 (pw_ln w 25 0) ∧ ∀ v5, v5 = (w.1 25 0 (pw_i a4)) → 0 ≤ v5 ∧ wp_Right_isOn w v5 a2 (fun w7 r8 => (r8 = 0 → ih a1 a2 a3 (a4 + 1) w7) ∧ (¬ r8 = 0 → (¬ (w7.1 5 (pw_i v5) 0) = a1 → ih a1 a2 a3 (a4 + 1) w7) ∧ ((w7.1 5 (pw_i v5) 0) = a1 → (¬ (w7.1 5 (pw_i v5) 2) = a3 → ih a1 a2 a3 (a4 + 1) w7) ∧ ((w7.1 5 (pw_i v5) 2) = a3 → Q w7 1)))) (fun _ _ => False))) := rfl
set_option maxHeartbeats 4000000 in
set_option maxRecDepth 20000 in
theorem vlp_X_hasRight_3 {l : Launch} {g : pw_G} {Q : pw_W → Int32 → Prop} {X : pw_W → Nat → Prop} (hl0 : l.stackTraces = false) : ∀ (k : Nat) (a1 a2 a3 a4 : Int32) (w : pw_W), lp_X_hasRight_3 Q X k a1 a2 a3 a4 w → pw_V l g cx_X_hasRight Q X 3 [(9, 0), (0, a1), (5, a2), (6, a3), (0, a4), (1, 0)] [] w := by
  intro k; induction k with
  | zero => intro _ _ _ _ _ h; exact h.elim
  | succ k ih =>
    intro a1 a2 a3 a4 w h
    rw [lp_X_hasRight_3_s] at h
    refine pv_iload (n := 5) d_X_hasRight_3 rfl rfl ?_
    refine pv_aload_n (n := 6) d_X_hasRight_5 rfl rfl rfl ?_
    obtain ⟨g1, h⟩ := h
    refine gt_X_34 (n := 9) rfl d_X_hasRight_6 (by decide) g1 rfl ?_
    refine pv_lsize (n := 14) (f := 25) (by decide) q_49 (by decide) rfl d_X_hasRight_9 (by decide) rfl ?_
    refine pv_icmp_ge (n := 17) (tgt := 68) d_X_hasRight_14 (by decide) rfl (fun c2 => ?_) (fun c2 => ?_)
    · replace h := h.1 c2
      refine pv_iconst (v := 0) (n := 69) d_X_hasRight_68 (by decide) rfl ?_
      exact pv_zret rfl rfl d_X_hasRight_69 (by decide) h
    · replace h := h.2 c2
      refine pv_aload_n (n := 18) d_X_hasRight_17 rfl rfl rfl ?_
      obtain ⟨g3, h⟩ := h
      refine gt_X_34 (n := 21) rfl d_X_hasRight_18 (by decide) g3 rfl ?_
      refine pv_iload (n := 23) d_X_hasRight_21 rfl rfl ?_
      obtain ⟨g4, h⟩ := h
      refine pv_lget (n := 28) (f := 25) (F := 5) (by decide) rfl q_52 (by decide) rfl d_X_hasRight_23 (by decide) g4 rfl (fun _ => ?_)
      refine pv_cast (n := 31) pw_cf5 q_53 d_X_hasRight_28 rfl ?_
      refine pv_nm (fun v5 e6 => ?_)
      replace h := h v5 e6
      refine pv_astore (n := 33) (L' := [(9, 0), (0, a1), (5, a2), (6, a3), (0, a4), (7, v5)]) d_X_hasRight_31 (by decide) rfl rfl ?_
      refine pv_aload (n := 35) d_X_hasRight_33 rfl rfl ?_
      refine pv_aload_n (n := 36) d_X_hasRight_35 rfl rfl rfl ?_
      obtain ⟨g9, h⟩ := h
      refine pv_callV (n := 39) (x := v5) [(5, a2)] [] (con_Right_isOn hl0 h) pw_cf5 rfl q_58 q_59 q_60 q_57 q_56 pyo_Right_isOn (by decide) rfl rfl g9 d_X_hasRight_36 rfl (fun w7 r8 h _ => ?_) (fun _ _ h => h.elim)
      show pw_V l g cx_X_hasRight Q X 39 [(9, 0), (0, a1), (5, a2), (6, a3), (0, a4), (7, v5)] [(0, r8)] w7
      refine pv_if_eq (n := 42) (tgt := 62) d_X_hasRight_39 (by decide) rfl (fun c10 => ?_) (fun c10 => ?_)
      · replace h := h.1 c10
        refine pv_iinc (v := (a4 + 1)) (n := 65) (L1 := [(9, 0), (0, a1), (5, a2), (6, a3), (0, (a4 + 1)), (7, v5)]) d_X_hasRight_62 rfl rfl rfl (by decide) rfl ?_
        refine pv_goto (tgt := 3) d_X_hasRight_65 (by decide) ?_
        refine pv_unset (i := 5) (L1 := [(9, 0), (0, a1), (5, a2), (6, a3), (0, (a4 + 1)), (1, 0)]) rfl ?_
        exact ih _ _ _ _ _ h
      · replace h := h.2 c10
        refine pv_aload (n := 44) d_X_hasRight_42 rfl rfl ?_
        refine gt_X_342 (n := 47) rfl d_X_hasRight_44 g9 rfl ?_
        refine pv_iload_n (n := 48) d_X_hasRight_47 rfl rfl rfl ?_
        refine pv_icmp_ne (n := 51) (tgt := 62) d_X_hasRight_48 (by decide) rfl (fun c11 => ?_) (fun c11 => ?_)
        · replace h := h.1 c11
          refine pv_iinc (v := (a4 + 1)) (n := 65) (L1 := [(9, 0), (0, a1), (5, a2), (6, a3), (0, (a4 + 1)), (7, v5)]) d_X_hasRight_62 rfl rfl rfl (by decide) rfl ?_
          refine pv_goto (tgt := 3) d_X_hasRight_65 (by decide) ?_
          refine pv_unset (i := 5) (L1 := [(9, 0), (0, a1), (5, a2), (6, a3), (0, (a4 + 1)), (1, 0)]) rfl ?_
          exact ih _ _ _ _ _ h
        · replace h := h.2 c11
          refine pv_aload (n := 53) d_X_hasRight_51 rfl rfl ?_
          refine gt_X_346 (n := 56) rfl d_X_hasRight_53 g9 rfl ?_
          refine pv_aload_n (n := 57) d_X_hasRight_56 rfl rfl rfl ?_
          refine pv_acmp_ne (n := 60) (tgt := 62) d_X_hasRight_57 (by decide) (by decide) rfl (fun c12 => ?_) (fun c12 => ?_)
          · replace h := h.1 c12
            refine pv_iinc (v := (a4 + 1)) (n := 65) (L1 := [(9, 0), (0, a1), (5, a2), (6, a3), (0, (a4 + 1)), (7, v5)]) d_X_hasRight_62 rfl rfl rfl (by decide) rfl ?_
            refine pv_goto (tgt := 3) d_X_hasRight_65 (by decide) ?_
            refine pv_unset (i := 5) (L1 := [(9, 0), (0, a1), (5, a2), (6, a3), (0, (a4 + 1)), (1, 0)]) rfl ?_
            exact ih _ _ _ _ _ h
          · replace h := h.2 c12
            refine pv_iconst (v := 1) (n := 61) d_X_hasRight_60 (by decide) rfl ?_
            exact pv_zret rfl rfl d_X_hasRight_61 (by decide) h
set_option maxHeartbeats 4000000 in
set_option maxRecDepth 20000 in
def wp_X_hasRight (w : pw_W) (a1 a2 a3 : Int32) (Q : pw_W → Int32 → Prop) (X : pw_W → Nat → Prop) : Prop := ∃ k13, lp_X_hasRight_3 Q X k13 a1 a2 a3 0 w
set_option maxHeartbeats 4000000 in
set_option maxRecDepth 20000 in
theorem vw_X_hasRight {l : Launch} {g : pw_G} {Q : pw_W → Int32 → Prop} {X : pw_W → Nat → Prop} (hl0 : l.stackTraces = false) {w : pw_W} {a1 a2 a3 : Int32} (h : wp_X_hasRight w a1 a2 a3 Q X) : pw_V l g cx_X_hasRight Q X 0 [(9, 0), (0, a1), (5, a2), (6, a3), (1, 0), (1, 0)] [] w := by
  unfold wp_X_hasRight at h
  refine pv_iconst (v := 0) (n := 1) d_X_hasRight_0 (by decide) rfl ?_
  refine pv_istore (n := 3) (L' := [(9, 0), (0, a1), (5, a2), (6, a3), (0, 0), (1, 0)]) d_X_hasRight_1 (by decide) rfl rfl ?_
  obtain ⟨k13, h⟩ := h
  exact vlp_X_hasRight_3 hl0 _ _ _ _ _ _ h
set_option maxHeartbeats 4000000 in
set_option maxRecDepth 20000 in
theorem con_X_hasRight {l : Launch} {g : pw_G} {Q : pw_W → Int32 → Prop} {X : pw_W → Nat → Prop} (hl0 : l.stackTraces = false) {w : pw_W} {a1 a2 a3 : Int32} (h : wp_X_hasRight w a1 a2 a3 Q X) : pw_Con l g y_X_hasRight cx_X_hasRight [(9, 0), (0, a1), (5, a2), (6, a3)] w Q X :=
  pw_con (by decide +kernel) rfl rfl hl0 rfl (Nat.le_of_ble_eq_true rfl) (by simp) (vw_X_hasRight hl0 h)
theorem d_X_isToBring_0 : decode (pw_cc cx_X_isToBring) 0 = .ok (.aload_n 1, 1) := by decide +kernel
theorem d_X_isToBring_1 : decode (pw_cc cx_X_isToBring) 1 = .ok (.aload_n 2, 1) := by decide +kernel
theorem d_X_isToBring_2 : decode (pw_cc cx_X_isToBring) 2 = .ok (.invokevirtual 418, 3) := by decide +kernel
theorem d_X_isToBring_5 : decode (pw_cc cx_X_isToBring) 5 = .ok (.ifCond .eq 23, 3) := by decide +kernel
theorem d_X_isToBring_8 : decode (pw_cc cx_X_isToBring) 8 = .ok (.aload_n 0, 1) := by decide +kernel
theorem d_X_isToBring_9 : decode (pw_cc cx_X_isToBring) 9 = .ok (.aload_n 1, 1) := by decide +kernel
theorem d_X_isToBring_10 : decode (pw_cc cx_X_isToBring) 10 = .ok (.getfield 342, 3) := by decide +kernel
theorem d_X_isToBring_13 : decode (pw_cc cx_X_isToBring) 13 = .ok (.aload_n 3, 1) := by decide +kernel
theorem d_X_isToBring_14 : decode (pw_cc cx_X_isToBring) 14 = .ok (.aload_n 1, 1) := by decide +kernel
theorem d_X_isToBring_15 : decode (pw_cc cx_X_isToBring) 15 = .ok (.getfield 346, 3) := by decide +kernel
theorem d_X_isToBring_18 : decode (pw_cc cx_X_isToBring) 18 = .ok (.invokevirtual 206, 3) := by decide +kernel
theorem d_X_isToBring_21 : decode (pw_cc cx_X_isToBring) 21 = .ok (.ifCond .ne 7, 3) := by decide +kernel
theorem d_X_isToBring_24 : decode (pw_cc cx_X_isToBring) 24 = .ok (.iconst 1, 1) := by decide +kernel
theorem d_X_isToBring_25 : decode (pw_cc cx_X_isToBring) 25 = .ok (.goto 4, 3) := by decide +kernel
theorem d_X_isToBring_28 : decode (pw_cc cx_X_isToBring) 28 = .ok (.iconst 0, 1) := by decide +kernel
theorem d_X_isToBring_29 : decode (pw_cc cx_X_isToBring) 29 = .ok (.ireturn, 1) := by decide +kernel
set_option maxHeartbeats 4000000 in
set_option maxRecDepth 20000 in
def wp_X_isToBring (w : pw_W) (a1 a2 a3 : Int32) (Q : pw_W → Int32 → Prop) (X : pw_W → Nat → Prop) : Prop := 0 ≤ a1 ∧ wp_Right_isOn w a1 a2 (fun w1 r2 => (r2 = 0 → Q w1 0) ∧ (¬ r2 = 0 → wp_X_hasRight w1 (w1.1 5 (pw_i a1) 0) a3 (w1.1 5 (pw_i a1) 2) (fun w5 r6 => (¬ r6 = 0 → Q w5 0) ∧ (r6 = 0 → Q w5 1)) (fun _ _ => False))) (fun _ _ => False)
set_option maxHeartbeats 4000000 in
set_option maxRecDepth 20000 in
theorem vw_X_isToBring {l : Launch} {g : pw_G} {Q : pw_W → Int32 → Prop} {X : pw_W → Nat → Prop} (hl0 : l.stackTraces = false) {w : pw_W} {a1 a2 a3 : Int32} (h : wp_X_isToBring w a1 a2 a3 Q X) : pw_V l g cx_X_isToBring Q X 0 [(9, 0), (7, a1), (5, a2), (5, a3)] [] w := by
  unfold wp_X_isToBring at h
  refine pv_aload_n (n := 1) d_X_isToBring_0 rfl rfl rfl ?_
  refine pv_aload_n (n := 2) d_X_isToBring_1 rfl rfl rfl ?_
  obtain ⟨g3, h⟩ := h
  refine pv_callV (n := 5) (x := a1) [(5, a2)] [] (con_Right_isOn hl0 h) pw_cf5 rfl q_58 q_59 q_60 q_57 q_56 pyo_Right_isOn (by decide) rfl rfl g3 d_X_isToBring_2 rfl (fun w1 r2 h _ => ?_) (fun _ _ h => h.elim)
  show pw_V l g cx_X_isToBring Q X 5 [(9, 0), (7, a1), (5, a2), (5, a3)] [(0, r2)] w1
  refine pv_if_eq (n := 8) (tgt := 28) d_X_isToBring_5 (by decide) rfl (fun c4 => ?_) (fun c4 => ?_)
  · replace h := h.1 c4
    refine pv_iconst (v := 0) (n := 29) d_X_isToBring_28 (by decide) rfl ?_
    exact pv_zret rfl rfl d_X_isToBring_29 (by decide) h
  · replace h := h.2 c4
    refine pv_aload_n (n := 9) d_X_isToBring_8 rfl rfl rfl ?_
    refine pv_aload_n (n := 10) d_X_isToBring_9 rfl rfl rfl ?_
    refine gt_X_342 (n := 13) rfl d_X_isToBring_10 g3 rfl ?_
    refine pv_aload_n (n := 14) d_X_isToBring_13 rfl rfl rfl ?_
    refine pv_aload_n (n := 15) d_X_isToBring_14 rfl rfl rfl ?_
    refine gt_X_346 (n := 18) rfl d_X_isToBring_15 g3 rfl ?_
    refine pv_callV (n := 21) (x := 0) [(0, (w1.1 5 (pw_i a1) 0)), (5, a3), (6, (w1.1 5 (pw_i a1) 2))] [] (con_X_hasRight hl0 h) pw_cf7 rfl q_63 q_64 q_65 q_62 q_61 pyo_X_hasRight (by decide) rfl rfl (by decide) d_X_isToBring_18 rfl (fun w5 r6 h _ => ?_) (fun _ _ h => h.elim)
    show pw_V l g cx_X_isToBring Q X 21 [(9, 0), (7, a1), (5, a2), (5, a3)] [(0, r6)] w5
    refine pv_if_ne (n := 24) (tgt := 28) d_X_isToBring_21 (by decide) rfl (fun c7 => ?_) (fun c7 => ?_)
    · replace h := h.1 c7
      refine pv_iconst (v := 0) (n := 29) d_X_isToBring_28 (by decide) rfl ?_
      exact pv_zret rfl rfl d_X_isToBring_29 (by decide) h
    · replace h := h.2 c7
      refine pv_iconst (v := 1) (n := 25) d_X_isToBring_24 (by decide) rfl ?_
      refine pv_goto (tgt := 29) d_X_isToBring_25 (by decide) ?_
      exact pv_zret rfl rfl d_X_isToBring_29 (by decide) h
set_option maxHeartbeats 4000000 in
set_option maxRecDepth 20000 in
theorem con_X_isToBring {l : Launch} {g : pw_G} {Q : pw_W → Int32 → Prop} {X : pw_W → Nat → Prop} (hl0 : l.stackTraces = false) {w : pw_W} {a1 a2 a3 : Int32} (h : wp_X_isToBring w a1 a2 a3 Q X) : pw_Con l g y_X_isToBring cx_X_isToBring [(9, 0), (7, a1), (5, a2), (5, a3)] w Q X :=
  pw_con (by decide +kernel) rfl rfl hl0 rfl (Nat.le_of_ble_eq_true rfl) (by simp) (vw_X_isToBring hl0 h)
theorem d_Right_init_0 : decode (pw_cc cx_Right_init) 0 = .ok (.aload_n 0, 1) := by decide +kernel
theorem d_Right_init_1 : decode (pw_cc cx_Right_init) 1 = .ok (.invokespecial 1, 3) := by decide +kernel
theorem d_Right_init_4 : decode (pw_cc cx_Right_init) 4 = .ok (.aload_n 0, 1) := by decide +kernel
theorem d_Right_init_5 : decode (pw_cc cx_Right_init) 5 = .ok (.iload_n 1, 1) := by decide +kernel
theorem d_Right_init_6 : decode (pw_cc cx_Right_init) 6 = .ok (.putfield 7, 3) := by decide +kernel
theorem d_Right_init_9 : decode (pw_cc cx_Right_init) 9 = .ok (.aload_n 0, 1) := by decide +kernel
theorem d_Right_init_10 : decode (pw_cc cx_Right_init) 10 = .ok (.aload_n 2, 1) := by decide +kernel
theorem d_Right_init_11 : decode (pw_cc cx_Right_init) 11 = .ok (.putfield 13, 3) := by decide +kernel
theorem d_Right_init_14 : decode (pw_cc cx_Right_init) 14 = .ok (.aload_n 0, 1) := by decide +kernel
theorem d_Right_init_15 : decode (pw_cc cx_Right_init) 15 = .ok (.aload_n 3, 1) := by decide +kernel
theorem d_Right_init_16 : decode (pw_cc cx_Right_init) 16 = .ok (.putfield 17, 3) := by decide +kernel
theorem d_Right_init_19 : decode (pw_cc cx_Right_init) 19 = .ok (.aload_n 0, 1) := by decide +kernel
theorem d_Right_init_20 : decode (pw_cc cx_Right_init) 20 = .ok (.iload 4, 2) := by decide +kernel
theorem d_Right_init_22 : decode (pw_cc cx_Right_init) 22 = .ok (.putfield 21, 3) := by decide +kernel
theorem d_Right_init_25 : decode (pw_cc cx_Right_init) 25 = .ok (.aload_n 0, 1) := by decide +kernel
theorem d_Right_init_26 : decode (pw_cc cx_Right_init) 26 = .ok (.iload 5, 2) := by decide +kernel
theorem d_Right_init_28 : decode (pw_cc cx_Right_init) 28 = .ok (.putfield 24, 3) := by decide +kernel
theorem d_Right_init_31 : decode (pw_cc cx_Right_init) 31 = .ok (.return_, 1) := by decide +kernel
set_option maxHeartbeats 4000000 in
set_option maxRecDepth 20000 in
def wp_Right_init (w : pw_W) (a0 a1 a2 a3 a4 a5 : Int32) (Q : pw_W → Int32 → Prop) (X : pw_W → Nat → Prop) : Prop := 0 ≤ a0 ∧ ∀ w2, w2 = pw_ps w 5 (pw_i a0) 0 a1 → ∀ w4, w4 = pw_ps w2 5 (pw_i a0) 1 a2 → ∀ w6, w6 = pw_ps w4 5 (pw_i a0) 2 a3 → ∀ w8, w8 = pw_ps w6 5 (pw_i a0) 3 a4 → ∀ w10, w10 = pw_ps w8 5 (pw_i a0) 4 a5 → Q w10 0
set_option maxHeartbeats 4000000 in
set_option maxRecDepth 20000 in
theorem vw_Right_init {l : Launch} {g : pw_G} {Q : pw_W → Int32 → Prop} {X : pw_W → Nat → Prop} (hl0 : l.stackTraces = false) {w : pw_W} {a0 a1 a2 a3 a4 a5 : Int32} (h : wp_Right_init w a0 a1 a2 a3 a4 a5 Q X) : pw_V l g cx_Right_init Q X 0 [(7, a0), (0, a1), (5, a2), (6, a3), (0, a4), (0, a5)] [] w := by
  unfold wp_Right_init at h
  refine pv_aload_n (n := 1) d_Right_init_0 rfl rfl rfl ?_
  obtain ⟨g1, h⟩ := h
  refine pv_objInit (n := 4) q_66 q_1 q_2 (by decide) rfl g1 d_Right_init_1 rfl ?_
  refine pv_aload_n (n := 5) d_Right_init_4 rfl rfl rfl ?_
  refine pv_iload_n (n := 6) d_Right_init_5 rfl rfl rfl ?_
  refine pt_Right_7 (n := 9) rfl rfl d_Right_init_6 g1 rfl (fun w2 e3 => ?_)
  replace h := h w2 e3
  refine pv_aload_n (n := 10) d_Right_init_9 rfl rfl rfl ?_
  refine pv_aload_n (n := 11) d_Right_init_10 rfl rfl rfl ?_
  refine pt_Right_13 (n := 14) rfl rfl d_Right_init_11 g1 rfl (fun w4 e5 => ?_)
  replace h := h w4 e5
  refine pv_aload_n (n := 15) d_Right_init_14 rfl rfl rfl ?_
  refine pv_aload_n (n := 16) d_Right_init_15 rfl rfl rfl ?_
  refine pt_Right_17 (n := 19) rfl rfl d_Right_init_16 g1 rfl (fun w6 e7 => ?_)
  replace h := h w6 e7
  refine pv_aload_n (n := 20) d_Right_init_19 rfl rfl rfl ?_
  refine pv_iload (n := 22) d_Right_init_20 rfl rfl ?_
  refine pt_Right_21 (n := 25) rfl rfl d_Right_init_22 g1 rfl (fun w8 e9 => ?_)
  replace h := h w8 e9
  refine pv_aload_n (n := 26) d_Right_init_25 rfl rfl rfl ?_
  refine pv_iload (n := 28) d_Right_init_26 rfl rfl ?_
  refine pt_Right_24 (n := 31) rfl rfl d_Right_init_28 g1 rfl (fun w10 e11 => ?_)
  replace h := h w10 e11
  exact pv_vret rfl rfl d_Right_init_31 h
set_option maxHeartbeats 4000000 in
set_option maxRecDepth 20000 in
theorem con_Right_init {l : Launch} {g : pw_G} {Q : pw_W → Int32 → Prop} {X : pw_W → Nat → Prop} (hl0 : l.stackTraces = false) {w : pw_W} {a0 a1 a2 a3 a4 a5 : Int32} (h : wp_Right_init w a0 a1 a2 a3 a4 a5 Q X) : pw_Con l g y_Right_init cx_Right_init [(7, a0), (0, a1), (5, a2), (6, a3), (0, a4), (0, a5)] w Q X :=
  pw_con (by decide +kernel) rfl rfl hl0 rfl (Nat.le_of_ble_eq_true rfl) (by simp) (vw_Right_init hl0 h)
theorem d_X_bringRights_0 : decode (pw_cc cx_X_bringRights) 0 = .ok (.aload_n 0, 1) := by decide +kernel
theorem d_X_bringRights_1 : decode (pw_cc cx_X_bringRights) 1 = .ok (.getfield 34, 3) := by decide +kernel
theorem d_X_bringRights_4 : decode (pw_cc cx_X_bringRights) 4 = .ok (.invokeinterface 88 1, 5) := by decide +kernel
theorem d_X_bringRights_9 : decode (pw_cc cx_X_bringRights) 9 = .ok (.istore_n 3, 1) := by decide +kernel
theorem d_X_bringRights_10 : decode (pw_cc cx_X_bringRights) 10 = .ok (.iconst 0, 1) := by decide +kernel
theorem d_X_bringRights_11 : decode (pw_cc cx_X_bringRights) 11 = .ok (.istore 4, 2) := by decide +kernel
theorem d_X_bringRights_13 : decode (pw_cc cx_X_bringRights) 13 = .ok (.iload 4, 2) := by decide +kernel
theorem d_X_bringRights_15 : decode (pw_cc cx_X_bringRights) 15 = .ok (.iload_n 3, 1) := by decide +kernel
theorem d_X_bringRights_16 : decode (pw_cc cx_X_bringRights) 16 = .ok (.if_icmp .ge 66, 3) := by decide +kernel
theorem d_X_bringRights_19 : decode (pw_cc cx_X_bringRights) 19 = .ok (.aload_n 0, 1) := by decide +kernel
theorem d_X_bringRights_20 : decode (pw_cc cx_X_bringRights) 20 = .ok (.getfield 34, 3) := by decide +kernel
theorem d_X_bringRights_23 : decode (pw_cc cx_X_bringRights) 23 = .ok (.iload 4, 2) := by decide +kernel
theorem d_X_bringRights_25 : decode (pw_cc cx_X_bringRights) 25 = .ok (.invokeinterface 382 2, 5) := by decide +kernel
theorem d_X_bringRights_30 : decode (pw_cc cx_X_bringRights) 30 = .ok (.checkcast 210, 3) := by decide +kernel
theorem d_X_bringRights_33 : decode (pw_cc cx_X_bringRights) 33 = .ok (.astore 5, 2) := by decide +kernel
theorem d_X_bringRights_35 : decode (pw_cc cx_X_bringRights) 35 = .ok (.aload_n 0, 1) := by decide +kernel
theorem d_X_bringRights_36 : decode (pw_cc cx_X_bringRights) 36 = .ok (.aload 5, 2) := by decide +kernel
theorem d_X_bringRights_38 : decode (pw_cc cx_X_bringRights) 38 = .ok (.aload_n 1, 1) := by decide +kernel
theorem d_X_bringRights_39 : decode (pw_cc cx_X_bringRights) 39 = .ok (.aload_n 2, 1) := by decide +kernel
theorem d_X_bringRights_40 : decode (pw_cc cx_X_bringRights) 40 = .ok (.invokevirtual 422, 3) := by decide +kernel
theorem d_X_bringRights_43 : decode (pw_cc cx_X_bringRights) 43 = .ok (.ifCond .eq 33, 3) := by decide +kernel
theorem d_X_bringRights_46 : decode (pw_cc cx_X_bringRights) 46 = .ok (.aload_n 0, 1) := by decide +kernel
theorem d_X_bringRights_47 : decode (pw_cc cx_X_bringRights) 47 = .ok (.new 210, 3) := by decide +kernel
theorem d_X_bringRights_50 : decode (pw_cc cx_X_bringRights) 50 = .ok (.dup, 1) := by decide +kernel
theorem d_X_bringRights_51 : decode (pw_cc cx_X_bringRights) 51 = .ok (.aload 5, 2) := by decide +kernel
theorem d_X_bringRights_53 : decode (pw_cc cx_X_bringRights) 53 = .ok (.getfield 342, 3) := by decide +kernel
theorem d_X_bringRights_56 : decode (pw_cc cx_X_bringRights) 56 = .ok (.aload_n 2, 1) := by decide +kernel
theorem d_X_bringRights_57 : decode (pw_cc cx_X_bringRights) 57 = .ok (.aload 5, 2) := by decide +kernel
theorem d_X_bringRights_59 : decode (pw_cc cx_X_bringRights) 59 = .ok (.getfield 346, 3) := by decide +kernel
theorem d_X_bringRights_62 : decode (pw_cc cx_X_bringRights) 62 = .ok (.aload 5, 2) := by decide +kernel
theorem d_X_bringRights_64 : decode (pw_cc cx_X_bringRights) 64 = .ok (.getfield 426, 3) := by decide +kernel
theorem d_X_bringRights_67 : decode (pw_cc cx_X_bringRights) 67 = .ok (.iload 4, 2) := by decide +kernel
theorem d_X_bringRights_69 : decode (pw_cc cx_X_bringRights) 69 = .ok (.invokespecial 212, 3) := by decide +kernel
theorem d_X_bringRights_72 : decode (pw_cc cx_X_bringRights) 72 = .ok (.invokevirtual 215, 3) := by decide +kernel
theorem d_X_bringRights_75 : decode (pw_cc cx_X_bringRights) 75 = .ok (.pop, 1) := by decide +kernel
theorem d_X_bringRights_76 : decode (pw_cc cx_X_bringRights) 76 = .ok (.iinc 4 1, 3) := by decide +kernel
theorem d_X_bringRights_79 : decode (pw_cc cx_X_bringRights) 79 = .ok (.goto (-66), 3) := by decide +kernel
theorem d_X_bringRights_82 : decode (pw_cc cx_X_bringRights) 82 = .ok (.return_, 1) := by decide +kernel
set_option maxHeartbeats 4000000 in
set_option maxRecDepth 20000 in
def lp_X_bringRights_13 (Q : pw_W → Int32 → Prop) (X : pw_W → Nat → Prop) : Nat → Int32 → Int32 → Int32 → Int32 → pw_W → Prop := fun k => Nat.rec (motive := fun _ => Int32 → Int32 → Int32 → Int32 → pw_W → Prop) (fun _ _ _ _ _ => False) (fun _ ih a1 a2 a3 a4 w => (a3 ≤ a4 → Q w 0) ∧ (¬ a3 ≤ a4 → w.1 7 0 5 = 0 ∧ pw_jn a4 (pw_ln w 25 0) ∧ ∀ v4, v4 = (w.1 25 0 (pw_i a4)) → wp_X_isToBring w v4 a1 a2 (fun w6 r7 => (r7 = 0 → ih a1 a2 a3 (a4 + 1) w6) ∧ (¬ r7 = 0 → pw_rm w6 5 6 ∧ ∀ w10, w10 = pw_nw w6 5 0 6 → 0 ≤ v4 ∧ wp_Right_init w10 (nI (pw_nv w6 5)) (w10.1 5 (pw_i v4) 0) a2 (w10.1 5 (pw_i v4) 2) (w10.1 5 (pw_i v4) 3) a4 (fun w13 r14 => wp_X_addRight w13 (nI (pw_nv w6 5)) (fun w15 r16 => ih a1 a2 a3 (a4 + 1) w15) (fun _ _ => False)) (fun _ _ => False))) (fun _ _ => False))) k
set_option maxHeartbeats 4000000 in
set_option maxRecDepth 20000 in
theorem lp_X_bringRights_13_s {Q : pw_W → Int32 → Prop} {X : pw_W → Nat → Prop}  {k : Nat} {a1 a2 a3 a4 : Int32} {w : pw_W} : lp_X_bringRights_13 Q X (k + 1) a1 a2 a3 a4 w = (let ih := lp_X_bringRights_13 Q X k; (a3 ≤ a4 → Q w 0) ∧ (¬ a3 ≤ a4 → w.1 7 0 5 = 0 ∧ pw_jn a4 (pw_ln w 25 0) ∧ ∀ v4, v4 = (w.1 25 0 (pw_i a4)) → wp_X_isToBring w v4 a1 a2 (fun w6 r7 => (r7 = 0 → ih a1 a2 a3 (a4 + 1) w6) ∧ (¬ r7 = 0 → pw_rm w6 5 6 ∧ ∀ w10, w10 = pw_nw w6 5 0 6 → 0 ≤ v4 ∧ wp_Right_init w10 (nI (pw_nv w6 5)) (w10.1 5 (pw_i v4) 0) a2 (w10.1 5 (pw_i v4) 2) (w10.1 5 (pw_i v4) 3) a4 (fun w13 r14 => wp_X_addRight w13 (nI (pw_nv w6 5)) (fun w15 r16 => ih a1 a2 a3 (a4 + 1) w15) (fun _ _ => False)) (fun _ _ => False))) (fun _ _ => False))) := rfl
set_option maxHeartbeats 4000000 in
set_option maxRecDepth 20000 in
theorem vlp_X_bringRights_13 {l : Launch} {g : pw_G} {Q : pw_W → Int32 → Prop} {X : pw_W → Nat → Prop} (hl0 : l.stackTraces = false) : ∀ (k : Nat) (a1 a2 a3 a4 : Int32) (w : pw_W), lp_X_bringRights_13 Q X k a1 a2 a3 a4 w → pw_V l g cx_X_bringRights Q X 13 [(9, 0), (5, a1), (5, a2), (0, a3), (0, a4), (1, 0)] [] w := by
  intro k; induction k with
  | zero => intro _ _ _ _ _ h; exact h.elim
  | succ k ih =>
    intro a1 a2 a3 a4 w h
    rw [lp_X_bringRights_13_s] at h
    refine pv_iload (n := 15) d_X_bringRights_13 rfl rfl ?_
    refine pv_iload_n (n := 16) d_X_bringRights_15 rfl rfl rfl ?_
    refine pv_icmp_ge (n := 19) (tgt := 82) d_X_bringRights_16 (by decide) rfl (fun c1 => ?_) (fun c1 => ?_)
    · replace h := h.1 c1
      exact pv_vret rfl rfl d_X_bringRights_82 h
    · replace h := h.2 c1
      refine pv_aload_n (n := 20) d_X_bringRights_19 rfl rfl rfl ?_
      obtain ⟨g2, h⟩ := h
      refine gt_X_34 (n := 23) rfl d_X_bringRights_20 (by decide) g2 rfl ?_
      refine pv_iload (n := 25) d_X_bringRights_23 rfl rfl ?_
      obtain ⟨g3, h⟩ := h
      refine pv_lget (n := 30) (f := 25) (F := 5) (by decide) rfl q_52 (by decide) rfl d_X_bringRights_25 (by decide) g3 rfl (fun _ => ?_)
      refine pv_cast (n := 33) pw_cf5 q_53 d_X_bringRights_30 rfl ?_
      refine pv_nm (fun v4 e5 => ?_)
      replace h := h v4 e5
      refine pv_astore (n := 35) (L' := [(9, 0), (5, a1), (5, a2), (0, a3), (0, a4), (7, v4)]) d_X_bringRights_33 (by decide) rfl rfl ?_
      refine pv_aload_n (n := 36) d_X_bringRights_35 rfl rfl rfl ?_
      refine pv_aload (n := 38) d_X_bringRights_36 rfl rfl ?_
      refine pv_aload_n (n := 39) d_X_bringRights_38 rfl rfl rfl ?_
      refine pv_aload_n (n := 40) d_X_bringRights_39 rfl rfl rfl ?_
      refine pv_callV (n := 43) (x := 0) [(7, v4), (5, a1), (5, a2)] [] (con_X_isToBring hl0 h) pw_cf7 rfl q_80 q_81 q_82 q_62 q_79 pyo_X_isToBring (by decide) rfl rfl (by decide) d_X_bringRights_40 rfl (fun w6 r7 h _ => ?_) (fun _ _ h => h.elim)
      show pw_V l g cx_X_bringRights Q X 43 [(9, 0), (5, a1), (5, a2), (0, a3), (0, a4), (7, v4)] [(0, r7)] w6
      refine pv_if_eq (n := 46) (tgt := 76) d_X_bringRights_43 (by decide) rfl (fun c8 => ?_) (fun c8 => ?_)
      · replace h := h.1 c8
        refine pv_iinc (v := (a4 + 1)) (n := 79) (L1 := [(9, 0), (5, a1), (5, a2), (0, a3), (0, (a4 + 1)), (7, v4)]) d_X_bringRights_76 rfl rfl rfl (by decide) rfl ?_
        refine pv_goto (tgt := 13) d_X_bringRights_79 (by decide) ?_
        refine pv_unset (i := 5) (L1 := [(9, 0), (5, a1), (5, a2), (0, a3), (0, (a4 + 1)), (1, 0)]) rfl ?_
        exact ih _ _ _ _ _ h
      · replace h := h.2 c8
        refine pv_aload_n (n := 47) d_X_bringRights_46 rfl rfl rfl ?_
        obtain ⟨g9, h⟩ := h
        refine nw_5 (n := 50) q_53 d_X_bringRights_47 g9 rfl (fun w10 e11 => ?_)
        replace h := h w10 e11
        refine pv_dup (n := 51) d_X_bringRights_50 (by decide) rfl ?_
        refine pv_aload (n := 53) d_X_bringRights_51 rfl rfl ?_
        obtain ⟨g12, h⟩ := h
        refine gt_X_342 (n := 56) rfl d_X_bringRights_53 g12 rfl ?_
        refine pv_aload_n (n := 57) d_X_bringRights_56 rfl rfl rfl ?_
        refine pv_aload (n := 59) d_X_bringRights_57 rfl rfl ?_
        refine gt_X_346 (n := 62) rfl d_X_bringRights_59 g12 rfl ?_
        refine pv_aload (n := 64) d_X_bringRights_62 rfl rfl ?_
        refine gt_X_426 (n := 67) rfl d_X_bringRights_64 g12 rfl ?_
        refine pv_iload (n := 69) d_X_bringRights_67 rfl rfl ?_
        refine pv_callI (n := 72) (x := (nI (pw_nv w6 5))) (f := 5) [(0, (w10.1 5 (pw_i v4) 0)), (5, a2), (6, (w10.1 5 (pw_i v4) 2)), (0, (w10.1 5 (pw_i v4) 3)), (0, a4)] [(7, (nI (pw_nv w6 5))), (9, 0)] (con_Right_init hl0 h) rfl rfl q_77 q_78 q_57 q_76 pyo_Right_init (by decide) rfl rfl (nI_pos' (by have := g9.2.2; omega)) d_X_bringRights_69 rfl (fun w13 r14 h _ => ?_) (fun _ _ h => h.elim)
        show pw_V l g cx_X_bringRights Q X 72 [(9, 0), (5, a1), (5, a2), (0, a3), (0, a4), (7, v4)] [(7, (nI (pw_nv w6 5))), (9, 0)] w13
        refine pv_callV (n := 75) (x := 0) [(7, (nI (pw_nv w6 5)))] [] (con_X_addRight hl0 h) pw_cf7 rfl q_73 q_74 q_75 q_62 q_72 pyo_X_addRight (by decide) rfl rfl (by decide) d_X_bringRights_72 rfl (fun w15 r16 h _ => ?_) (fun _ _ h => h.elim)
        show pw_V l g cx_X_bringRights Q X 75 [(9, 0), (5, a1), (5, a2), (0, a3), (0, a4), (7, v4)] [(0, r16)] w15
        refine pv_pop (n := 76) d_X_bringRights_75 (by decide) rfl ?_
        refine pv_iinc (v := (a4 + 1)) (n := 79) (L1 := [(9, 0), (5, a1), (5, a2), (0, a3), (0, (a4 + 1)), (7, v4)]) d_X_bringRights_76 rfl rfl rfl (by decide) rfl ?_
        refine pv_goto (tgt := 13) d_X_bringRights_79 (by decide) ?_
        refine pv_unset (i := 5) (L1 := [(9, 0), (5, a1), (5, a2), (0, a3), (0, (a4 + 1)), (1, 0)]) rfl ?_
        exact ih _ _ _ _ _ h
set_option maxHeartbeats 4000000 in
set_option maxRecDepth 20000 in
def wp_X_bringRights (w : pw_W) (a1 a2 : Int32) (Q : pw_W → Int32 → Prop) (X : pw_W → Nat → Prop) : Prop := w.1 7 0 5 = 0 ∧ ∀ v18, v18 = (nI (pw_ln w 25 0)) → ∃ k20, lp_X_bringRights_13 Q X k20 a1 a2 v18 0 w
set_option maxHeartbeats 4000000 in
set_option maxRecDepth 20000 in
theorem vw_X_bringRights {l : Launch} {g : pw_G} {Q : pw_W → Int32 → Prop} {X : pw_W → Nat → Prop} (hl0 : l.stackTraces = false) {w : pw_W} {a1 a2 : Int32} (h : wp_X_bringRights w a1 a2 Q X) : pw_V l g cx_X_bringRights Q X 0 [(9, 0), (5, a1), (5, a2), (1, 0), (1, 0), (1, 0)] [] w := by
  unfold wp_X_bringRights at h
  refine pv_aload_n (n := 1) d_X_bringRights_0 rfl rfl rfl ?_
  obtain ⟨g17, h⟩ := h
  refine gt_X_34 (n := 4) rfl d_X_bringRights_1 (by decide) g17 rfl ?_
  refine pv_lsize (n := 9) (f := 25) (by decide) q_49 (by decide) rfl d_X_bringRights_4 (by decide) rfl ?_
  refine pv_nm (fun v18 e19 => ?_)
  replace h := h v18 e19
  refine pv_istore_n (n := 10) (L' := [(9, 0), (5, a1), (5, a2), (0, v18), (1, 0), (1, 0)]) d_X_bringRights_9 rfl (by decide) rfl rfl ?_
  refine pv_iconst (v := 0) (n := 11) d_X_bringRights_10 (by decide) rfl ?_
  refine pv_istore (n := 13) (L' := [(9, 0), (5, a1), (5, a2), (0, v18), (0, 0), (1, 0)]) d_X_bringRights_11 (by decide) rfl rfl ?_
  obtain ⟨k20, h⟩ := h
  exact vlp_X_bringRights_13 hl0 _ _ _ _ _ _ h
set_option maxHeartbeats 4000000 in
set_option maxRecDepth 20000 in
theorem con_X_bringRights {l : Launch} {g : pw_G} {Q : pw_W → Int32 → Prop} {X : pw_W → Nat → Prop} (hl0 : l.stackTraces = false) {w : pw_W} {a1 a2 : Int32} (h : wp_X_bringRights w a1 a2 Q X) : pw_Con l g y_X_bringRights cx_X_bringRights [(9, 0), (5, a1), (5, a2)] w Q X :=
  pw_con (by decide +kernel) rfl rfl hl0 rfl (Nat.le_of_ble_eq_true rfl) (by simp) (vw_X_bringRights hl0 h)
theorem d_X_checkArgument_0 : decode (pw_cc cx_X_checkArgument) 0 = .ok (.iload_n 0, 1) := by decide +kernel
theorem d_X_checkArgument_1 : decode (pw_cc cx_X_checkArgument) 1 = .ok (.ifCond .ne 14, 3) := by decide +kernel
theorem d_X_checkArgument_4 : decode (pw_cc cx_X_checkArgument) 4 = .ok (.new 372, 3) := by decide +kernel
theorem d_X_checkArgument_7 : decode (pw_cc cx_X_checkArgument) 7 = .ok (.dup, 1) := by decide +kernel
theorem d_X_checkArgument_8 : decode (pw_cc cx_X_checkArgument) 8 = .ok (.ldc_w 374, 3) := by decide +kernel
theorem d_X_checkArgument_11 : decode (pw_cc cx_X_checkArgument) 11 = .ok (.invokespecial 376, 3) := by decide +kernel
theorem d_X_checkArgument_14 : decode (pw_cc cx_X_checkArgument) 14 = .ok (.athrow, 1) := by decide +kernel
theorem d_X_checkArgument_15 : decode (pw_cc cx_X_checkArgument) 15 = .ok (.return_, 1) := by decide +kernel
set_option maxHeartbeats 4000000 in
set_option maxRecDepth 20000 in
def wp_X_checkArgument (w : pw_W) (a0 : Int32) (Q : pw_W → Int32 → Prop) (X : pw_W → Nat → Prop) : Prop := (¬ a0 = 0 → Q w 0) ∧ (a0 = 0 → pw_thr w X 2)
set_option maxHeartbeats 4000000 in
set_option maxRecDepth 20000 in
theorem vw_X_checkArgument {l : Launch} {g : pw_G} {Q : pw_W → Int32 → Prop} {X : pw_W → Nat → Prop} (hl0 : l.stackTraces = false) {w : pw_W} {a0 : Int32} (h : wp_X_checkArgument w a0 Q X) : pw_V l g cx_X_checkArgument Q X 0 [(0, a0)] [] w := by
  unfold wp_X_checkArgument at h
  refine pv_iload_n (n := 1) d_X_checkArgument_0 rfl rfl rfl ?_
  refine pv_if_ne (n := 4) (tgt := 15) d_X_checkArgument_1 (by decide) rfl (fun c1 => ?_) (fun c1 => ?_)
  · replace h := h.1 c1
    exact pv_vret rfl rfl d_X_checkArgument_15 h
  · replace h := h.2 c1
    exact pv_throw (k := 2) (text := "an argument is out of range") hl0 q_83 q_84 (by decide +kernel) (by decide +kernel) (pt_h2_376) (pt_g2_372_376) rfl d_X_checkArgument_4 d_X_checkArgument_7 d_X_checkArgument_8 d_X_checkArgument_11 d_X_checkArgument_14 (by decide) rfl h
set_option maxHeartbeats 4000000 in
set_option maxRecDepth 20000 in
theorem con_X_checkArgument {l : Launch} {g : pw_G} {Q : pw_W → Int32 → Prop} {X : pw_W → Nat → Prop} (hl0 : l.stackTraces = false) {w : pw_W} {a0 : Int32} (h : wp_X_checkArgument w a0 Q X) : pw_Con l g y_X_checkArgument cx_X_checkArgument [(0, a0)] w Q X :=
  pw_con (by decide +kernel) rfl rfl hl0 rfl (Nat.le_of_ble_eq_true rfl) (by simp) (vw_X_checkArgument hl0 h)
theorem d_X_checkField_0 : decode (pw_cc cx_X_checkField) 0 = .ok (.iload_n 0, 1) := by decide +kernel
theorem d_X_checkField_1 : decode (pw_cc cx_X_checkField) 1 = .ok (.bipush 10, 2) := by decide +kernel
theorem d_X_checkField_3 : decode (pw_cc cx_X_checkField) 3 = .ok (.irem, 1) := by decide +kernel
theorem d_X_checkField_4 : decode (pw_cc cx_X_checkField) 4 = .ok (.iload_n 1, 1) := by decide +kernel
theorem d_X_checkField_5 : decode (pw_cc cx_X_checkField) 5 = .ok (.bipush 10, 2) := by decide +kernel
theorem d_X_checkField_7 : decode (pw_cc cx_X_checkField) 7 = .ok (.irem, 1) := by decide +kernel
theorem d_X_checkField_8 : decode (pw_cc cx_X_checkField) 8 = .ok (.if_icmp .gt 18, 3) := by decide +kernel
theorem d_X_checkField_11 : decode (pw_cc cx_X_checkField) 11 = .ok (.iload_n 0, 1) := by decide +kernel
theorem d_X_checkField_12 : decode (pw_cc cx_X_checkField) 12 = .ok (.bipush 10, 2) := by decide +kernel
theorem d_X_checkField_14 : decode (pw_cc cx_X_checkField) 14 = .ok (.idiv, 1) := by decide +kernel
theorem d_X_checkField_15 : decode (pw_cc cx_X_checkField) 15 = .ok (.iload_n 1, 1) := by decide +kernel
theorem d_X_checkField_16 : decode (pw_cc cx_X_checkField) 16 = .ok (.bipush 10, 2) := by decide +kernel
theorem d_X_checkField_18 : decode (pw_cc cx_X_checkField) 18 = .ok (.idiv, 1) := by decide +kernel
theorem d_X_checkField_19 : decode (pw_cc cx_X_checkField) 19 = .ok (.if_icmp .gt 7, 3) := by decide +kernel
theorem d_X_checkField_22 : decode (pw_cc cx_X_checkField) 22 = .ok (.iconst 1, 1) := by decide +kernel
theorem d_X_checkField_23 : decode (pw_cc cx_X_checkField) 23 = .ok (.goto 4, 3) := by decide +kernel
theorem d_X_checkField_26 : decode (pw_cc cx_X_checkField) 26 = .ok (.iconst 0, 1) := by decide +kernel
theorem d_X_checkField_27 : decode (pw_cc cx_X_checkField) 27 = .ok (.invokestatic 171, 3) := by decide +kernel
theorem d_X_checkField_30 : decode (pw_cc cx_X_checkField) 30 = .ok (.return_, 1) := by decide +kernel
set_option maxHeartbeats 4000000 in
set_option maxRecDepth 20000 in
def jp_X_checkField_27 (Q : pw_W → Int32 → Prop) (X : pw_W → Nat → Prop) (s0 : Int32) (w : pw_W) : Prop := wp_X_checkArgument w s0 (fun w1 r2 => Q w1 0) X
set_option maxHeartbeats 4000000 in
set_option maxRecDepth 20000 in
theorem vjp_X_checkField_27 {l : Launch} {g : pw_G} {Q : pw_W → Int32 → Prop} {X : pw_W → Nat → Prop} (hl0 : l.stackTraces = false) (s0 : Int32) (w : pw_W) (h : jp_X_checkField_27 Q X s0 w) : pw_V l g cx_X_checkField Q X 27 [(1, 0), (1, 0)] [(0, s0)] w := by
  unfold jp_X_checkField_27 at h
  refine pv_callS (n := 30) [(0, s0)] [] (con_X_checkArgument hl0 h) q_86 q_87 q_62 q_85 pyo_X_checkArgument (by decide) rfl rfl d_X_checkField_27 rfl (fun w1 r2 h _ => ?_) (fun _ _ h => pvx_out rfl h)
  show pw_V l g cx_X_checkField Q X 30 [(1, 0), (1, 0)] [] w1
  exact pv_vret rfl rfl d_X_checkField_30 h
set_option maxHeartbeats 4000000 in
set_option maxRecDepth 20000 in
def jp_X_checkField_26 (Q : pw_W → Int32 → Prop) (X : pw_W → Nat → Prop) (w : pw_W) : Prop := jp_X_checkField_27 Q X 0 w
set_option maxHeartbeats 4000000 in
set_option maxRecDepth 20000 in
theorem vjp_X_checkField_26 {l : Launch} {g : pw_G} {Q : pw_W → Int32 → Prop} {X : pw_W → Nat → Prop} (hl0 : l.stackTraces = false) (w : pw_W) (h : jp_X_checkField_26 Q X w) : pw_V l g cx_X_checkField Q X 26 [(1, 0), (1, 0)] [] w := by
  unfold jp_X_checkField_26 at h
  refine pv_iconst (v := 0) (n := 27) d_X_checkField_26 (by decide) rfl ?_
  exact vjp_X_checkField_27 hl0 _ _ h
set_option maxHeartbeats 4000000 in
set_option maxRecDepth 20000 in
def wp_X_checkField (w : pw_W) (a0 a1 : Int32) (Q : pw_W → Int32 → Prop) (X : pw_W → Nat → Prop) : Prop := ((a1 - a1 / 10 * 10) < (a0 - a0 / 10 * 10) → jp_X_checkField_26 Q X w) ∧ (¬ (a1 - a1 / 10 * 10) < (a0 - a0 / 10 * 10) → ((a1 / 10) < (a0 / 10) → jp_X_checkField_26 Q X w) ∧ (¬ (a1 / 10) < (a0 / 10) → jp_X_checkField_27 Q X 1 w))
set_option maxHeartbeats 4000000 in
set_option maxRecDepth 20000 in
theorem vw_X_checkField {l : Launch} {g : pw_G} {Q : pw_W → Int32 → Prop} {X : pw_W → Nat → Prop} (hl0 : l.stackTraces = false) {w : pw_W} {a0 a1 : Int32} (h : wp_X_checkField w a0 a1 Q X) : pw_V l g cx_X_checkField Q X 0 [(0, a0), (0, a1)] [] w := by
  unfold wp_X_checkField at h
  refine pv_iload_n (n := 1) d_X_checkField_0 rfl rfl rfl ?_
  refine pv_bipush (v := 10) (n := 3) d_X_checkField_1 (by decide) rfl ?_
  refine pv_irem (n := 4) d_X_checkField_3 (by decide) rfl ?_
  refine pv_iload_n (n := 5) d_X_checkField_4 rfl rfl rfl ?_
  refine pv_bipush (v := 10) (n := 7) d_X_checkField_5 (by decide) rfl ?_
  refine pv_irem (n := 8) d_X_checkField_7 (by decide) rfl ?_
  refine pv_icmp_gt (n := 11) (tgt := 26) d_X_checkField_8 (by decide) rfl (fun c3 => ?_) (fun c3 => ?_)
  · replace h := h.1 c3
    refine pv_unset (i := 0) (L1 := [(1, 0), (0, a1)]) rfl ?_
    refine pv_unset (i := 1) (L1 := [(1, 0), (1, 0)]) rfl ?_
    exact vjp_X_checkField_26 hl0 _ h
  · replace h := h.2 c3
    refine pv_iload_n (n := 12) d_X_checkField_11 rfl rfl rfl ?_
    refine pv_bipush (v := 10) (n := 14) d_X_checkField_12 (by decide) rfl ?_
    refine pv_idiv (n := 15) d_X_checkField_14 (by decide) rfl ?_
    refine pv_iload_n (n := 16) d_X_checkField_15 rfl rfl rfl ?_
    refine pv_bipush (v := 10) (n := 18) d_X_checkField_16 (by decide) rfl ?_
    refine pv_idiv (n := 19) d_X_checkField_18 (by decide) rfl ?_
    refine pv_icmp_gt (n := 22) (tgt := 26) d_X_checkField_19 (by decide) rfl (fun c4 => ?_) (fun c4 => ?_)
    · replace h := h.1 c4
      refine pv_unset (i := 0) (L1 := [(1, 0), (0, a1)]) rfl ?_
      refine pv_unset (i := 1) (L1 := [(1, 0), (1, 0)]) rfl ?_
      exact vjp_X_checkField_26 hl0 _ h
    · replace h := h.2 c4
      refine pv_iconst (v := 1) (n := 23) d_X_checkField_22 (by decide) rfl ?_
      refine pv_goto (tgt := 27) d_X_checkField_23 (by decide) ?_
      refine pv_unset (i := 0) (L1 := [(1, 0), (0, a1)]) rfl ?_
      refine pv_unset (i := 1) (L1 := [(1, 0), (1, 0)]) rfl ?_
      exact vjp_X_checkField_27 hl0 _ _ h
set_option maxHeartbeats 4000000 in
set_option maxRecDepth 20000 in
theorem con_X_checkField {l : Launch} {g : pw_G} {Q : pw_W → Int32 → Prop} {X : pw_W → Nat → Prop} (hl0 : l.stackTraces = false) {w : pw_W} {a0 a1 : Int32} (h : wp_X_checkField w a0 a1 Q X) : pw_Con l g y_X_checkField cx_X_checkField [(0, a0), (0, a1)] w Q X :=
  pw_con (by decide +kernel) rfl rfl hl0 rfl (Nat.le_of_ble_eq_true rfl) (by simp) (vw_X_checkField hl0 h)
theorem d_X_checkIndex_0 : decode (pw_cc cx_X_checkIndex) 0 = .ok (.iload_n 0, 1) := by decide +kernel
theorem d_X_checkIndex_1 : decode (pw_cc cx_X_checkIndex) 1 = .ok (.ifCond .lt 8, 3) := by decide +kernel
theorem d_X_checkIndex_4 : decode (pw_cc cx_X_checkIndex) 4 = .ok (.iload_n 0, 1) := by decide +kernel
theorem d_X_checkIndex_5 : decode (pw_cc cx_X_checkIndex) 5 = .ok (.iload_n 1, 1) := by decide +kernel
theorem d_X_checkIndex_6 : decode (pw_cc cx_X_checkIndex) 6 = .ok (.if_icmp .lt 14, 3) := by decide +kernel
theorem d_X_checkIndex_9 : decode (pw_cc cx_X_checkIndex) 9 = .ok (.new 320, 3) := by decide +kernel
theorem d_X_checkIndex_12 : decode (pw_cc cx_X_checkIndex) 12 = .ok (.dup, 1) := by decide +kernel
theorem d_X_checkIndex_13 : decode (pw_cc cx_X_checkIndex) 13 = .ok (.ldc_w 370, 3) := by decide +kernel
theorem d_X_checkIndex_16 : decode (pw_cc cx_X_checkIndex) 16 = .ok (.invokespecial 324, 3) := by decide +kernel
theorem d_X_checkIndex_19 : decode (pw_cc cx_X_checkIndex) 19 = .ok (.athrow, 1) := by decide +kernel
theorem d_X_checkIndex_20 : decode (pw_cc cx_X_checkIndex) 20 = .ok (.return_, 1) := by decide +kernel
set_option maxHeartbeats 4000000 in
set_option maxRecDepth 20000 in
def jp_X_checkIndex_9 (Q : pw_W → Int32 → Prop) (X : pw_W → Nat → Prop) (w : pw_W) : Prop := pw_thr w X 1
set_option maxHeartbeats 4000000 in
set_option maxRecDepth 20000 in
theorem vjp_X_checkIndex_9 {l : Launch} {g : pw_G} {Q : pw_W → Int32 → Prop} {X : pw_W → Nat → Prop} (hl0 : l.stackTraces = false) (w : pw_W) (h : jp_X_checkIndex_9 Q X w) : pw_V l g cx_X_checkIndex Q X 9 [(1, 0), (1, 0)] [] w := by
  unfold jp_X_checkIndex_9 at h
  exact pv_throw (k := 1) (text := "there is none of that number") hl0 q_88 q_89 (by decide +kernel) (by decide +kernel) (pt_h1_324) (pt_g1_320_324) rfl d_X_checkIndex_9 d_X_checkIndex_12 d_X_checkIndex_13 d_X_checkIndex_16 d_X_checkIndex_19 (by decide) rfl h
set_option maxHeartbeats 4000000 in
set_option maxRecDepth 20000 in
def wp_X_checkIndex (w : pw_W) (a0 a1 : Int32) (Q : pw_W → Int32 → Prop) (X : pw_W → Nat → Prop) : Prop := (a0 < 0 → jp_X_checkIndex_9 Q X w) ∧ (¬ a0 < 0 → (a0 < a1 → Q w 0) ∧ (¬ a0 < a1 → jp_X_checkIndex_9 Q X w))
set_option maxHeartbeats 4000000 in
set_option maxRecDepth 20000 in
theorem vw_X_checkIndex {l : Launch} {g : pw_G} {Q : pw_W → Int32 → Prop} {X : pw_W → Nat → Prop} (hl0 : l.stackTraces = false) {w : pw_W} {a0 a1 : Int32} (h : wp_X_checkIndex w a0 a1 Q X) : pw_V l g cx_X_checkIndex Q X 0 [(0, a0), (0, a1)] [] w := by
  unfold wp_X_checkIndex at h
  refine pv_iload_n (n := 1) d_X_checkIndex_0 rfl rfl rfl ?_
  refine pv_if_lt (n := 4) (tgt := 9) d_X_checkIndex_1 (by decide) rfl (fun c1 => ?_) (fun c1 => ?_)
  · replace h := h.1 c1
    refine pv_unset (i := 0) (L1 := [(1, 0), (0, a1)]) rfl ?_
    refine pv_unset (i := 1) (L1 := [(1, 0), (1, 0)]) rfl ?_
    exact vjp_X_checkIndex_9 hl0 _ h
  · replace h := h.2 c1
    refine pv_iload_n (n := 5) d_X_checkIndex_4 rfl rfl rfl ?_
    refine pv_iload_n (n := 6) d_X_checkIndex_5 rfl rfl rfl ?_
    refine pv_icmp_lt (n := 9) (tgt := 20) d_X_checkIndex_6 (by decide) rfl (fun c2 => ?_) (fun c2 => ?_)
    · replace h := h.1 c2
      exact pv_vret rfl rfl d_X_checkIndex_20 h
    · replace h := h.2 c2
      refine pv_unset (i := 0) (L1 := [(1, 0), (0, a1)]) rfl ?_
      refine pv_unset (i := 1) (L1 := [(1, 0), (1, 0)]) rfl ?_
      exact vjp_X_checkIndex_9 hl0 _ h
set_option maxHeartbeats 4000000 in
set_option maxRecDepth 20000 in
theorem con_X_checkIndex {l : Launch} {g : pw_G} {Q : pw_W → Int32 → Prop} {X : pw_W → Nat → Prop} (hl0 : l.stackTraces = false) {w : pw_W} {a0 a1 : Int32} (h : wp_X_checkIndex w a0 a1 Q X) : pw_Con l g y_X_checkIndex cx_X_checkIndex [(0, a0), (0, a1)] w Q X :=
  pw_con (by decide +kernel) rfl rfl hl0 rfl (Nat.le_of_ble_eq_true rfl) (by simp) (vw_X_checkIndex hl0 h)
theorem d_X_checkSquares_0 : decode (pw_cc cx_X_checkSquares) 0 = .ok (.iload_n 0, 1) := by decide +kernel
theorem d_X_checkSquares_1 : decode (pw_cc cx_X_checkSquares) 1 = .ok (.bipush 100, 2) := by decide +kernel
theorem d_X_checkSquares_3 : decode (pw_cc cx_X_checkSquares) 3 = .ok (.invokestatic 203, 3) := by decide +kernel
theorem d_X_checkSquares_6 : decode (pw_cc cx_X_checkSquares) 6 = .ok (.iload_n 1, 1) := by decide +kernel
theorem d_X_checkSquares_7 : decode (pw_cc cx_X_checkSquares) 7 = .ok (.bipush 100, 2) := by decide +kernel
theorem d_X_checkSquares_9 : decode (pw_cc cx_X_checkSquares) 9 = .ok (.invokestatic 203, 3) := by decide +kernel
theorem d_X_checkSquares_12 : decode (pw_cc cx_X_checkSquares) 12 = .ok (.return_, 1) := by decide +kernel
set_option maxHeartbeats 4000000 in
set_option maxRecDepth 20000 in
def wp_X_checkSquares (w : pw_W) (a0 a1 : Int32) (Q : pw_W → Int32 → Prop) (X : pw_W → Nat → Prop) : Prop := wp_X_checkIndex w a0 100 (fun w1 r2 => wp_X_checkIndex w1 a1 100 (fun w3 r4 => Q w3 0) X) X
set_option maxHeartbeats 4000000 in
set_option maxRecDepth 20000 in
theorem vw_X_checkSquares {l : Launch} {g : pw_G} {Q : pw_W → Int32 → Prop} {X : pw_W → Nat → Prop} (hl0 : l.stackTraces = false) {w : pw_W} {a0 a1 : Int32} (h : wp_X_checkSquares w a0 a1 Q X) : pw_V l g cx_X_checkSquares Q X 0 [(0, a0), (0, a1)] [] w := by
  unfold wp_X_checkSquares at h
  refine pv_iload_n (n := 1) d_X_checkSquares_0 rfl rfl rfl ?_
  refine pv_bipush (v := 100) (n := 3) d_X_checkSquares_1 (by decide) rfl ?_
  refine pv_callS (n := 6) [(0, a0), (0, 100)] [] (con_X_checkIndex hl0 h) q_91 q_92 q_62 q_90 pyo_X_checkIndex (by decide) rfl rfl d_X_checkSquares_3 rfl (fun w1 r2 h _ => ?_) (fun _ _ h => pvx_out rfl h)
  show pw_V l g cx_X_checkSquares Q X 6 [(0, a0), (0, a1)] [] w1
  refine pv_iload_n (n := 7) d_X_checkSquares_6 rfl rfl rfl ?_
  refine pv_bipush (v := 100) (n := 9) d_X_checkSquares_7 (by decide) rfl ?_
  refine pv_callS (n := 12) [(0, a1), (0, 100)] [] (con_X_checkIndex hl0 h) q_91 q_92 q_62 q_90 pyo_X_checkIndex (by decide) rfl rfl d_X_checkSquares_9 rfl (fun w3 r4 h _ => ?_) (fun _ _ h => pvx_out rfl h)
  show pw_V l g cx_X_checkSquares Q X 12 [(0, a0), (0, a1)] [] w3
  exact pv_vret rfl rfl d_X_checkSquares_12 h
set_option maxHeartbeats 4000000 in
set_option maxRecDepth 20000 in
theorem con_X_checkSquares {l : Launch} {g : pw_G} {Q : pw_W → Int32 → Prop} {X : pw_W → Nat → Prop} (hl0 : l.stackTraces = false) {w : pw_W} {a0 a1 : Int32} (h : wp_X_checkSquares w a0 a1 Q X) : pw_Con l g y_X_checkSquares cx_X_checkSquares [(0, a0), (0, a1)] w Q X :=
  pw_con (by decide +kernel) rfl rfl hl0 rfl (Nat.le_of_ble_eq_true rfl) (by simp) (vw_X_checkSquares hl0 h)
theorem d_X_checkState_0 : decode (pw_cc cx_X_checkState) 0 = .ok (.iload_n 0, 1) := by decide +kernel
theorem d_X_checkState_1 : decode (pw_cc cx_X_checkState) 1 = .ok (.ifCond .ne 14, 3) := by decide +kernel
theorem d_X_checkState_4 : decode (pw_cc cx_X_checkState) 4 = .ok (.new 377, 3) := by decide +kernel
theorem d_X_checkState_7 : decode (pw_cc cx_X_checkState) 7 = .ok (.dup, 1) := by decide +kernel
theorem d_X_checkState_8 : decode (pw_cc cx_X_checkState) 8 = .ok (.ldc_w 379, 3) := by decide +kernel
theorem d_X_checkState_11 : decode (pw_cc cx_X_checkState) 11 = .ok (.invokespecial 381, 3) := by decide +kernel
theorem d_X_checkState_14 : decode (pw_cc cx_X_checkState) 14 = .ok (.athrow, 1) := by decide +kernel
theorem d_X_checkState_15 : decode (pw_cc cx_X_checkState) 15 = .ok (.return_, 1) := by decide +kernel
set_option maxHeartbeats 4000000 in
set_option maxRecDepth 20000 in
def wp_X_checkState (w : pw_W) (a0 : Int32) (Q : pw_W → Int32 → Prop) (X : pw_W → Nat → Prop) : Prop := (¬ a0 = 0 → Q w 0) ∧ (a0 = 0 → pw_thr w X 3)
set_option maxHeartbeats 4000000 in
set_option maxRecDepth 20000 in
theorem vw_X_checkState {l : Launch} {g : pw_G} {Q : pw_W → Int32 → Prop} {X : pw_W → Nat → Prop} (hl0 : l.stackTraces = false) {w : pw_W} {a0 : Int32} (h : wp_X_checkState w a0 Q X) : pw_V l g cx_X_checkState Q X 0 [(0, a0)] [] w := by
  unfold wp_X_checkState at h
  refine pv_iload_n (n := 1) d_X_checkState_0 rfl rfl rfl ?_
  refine pv_if_ne (n := 4) (tgt := 15) d_X_checkState_1 (by decide) rfl (fun c1 => ?_) (fun c1 => ?_)
  · replace h := h.1 c1
    exact pv_vret rfl rfl d_X_checkState_15 h
  · replace h := h.2 c1
    exact pv_throw (k := 3) (text := "this cannot be done now") hl0 q_93 q_94 (by decide +kernel) (by decide +kernel) (pt_h3_381) (pt_g3_377_381) rfl d_X_checkState_4 d_X_checkState_7 d_X_checkState_8 d_X_checkState_11 d_X_checkState_14 (by decide) rfl h
set_option maxHeartbeats 4000000 in
set_option maxRecDepth 20000 in
theorem con_X_checkState {l : Launch} {g : pw_G} {Q : pw_W → Int32 → Prop} {X : pw_W → Nat → Prop} (hl0 : l.stackTraces = false) {w : pw_W} {a0 : Int32} (h : wp_X_checkState w a0 Q X) : pw_Con l g y_X_checkState cx_X_checkState [(0, a0)] w Q X :=
  pw_con (by decide +kernel) rfl rfl hl0 rfl (Nat.le_of_ble_eq_true rfl) (by simp) (vw_X_checkState hl0 h)
theorem d_X_countRightsOn_0 : decode (pw_cc cx_X_countRightsOn) 0 = .ok (.iconst 0, 1) := by decide +kernel
theorem d_X_countRightsOn_1 : decode (pw_cc cx_X_countRightsOn) 1 = .ok (.istore_n 2, 1) := by decide +kernel
theorem d_X_countRightsOn_2 : decode (pw_cc cx_X_countRightsOn) 2 = .ok (.iconst 0, 1) := by decide +kernel
theorem d_X_countRightsOn_3 : decode (pw_cc cx_X_countRightsOn) 3 = .ok (.istore_n 3, 1) := by decide +kernel
theorem d_X_countRightsOn_4 : decode (pw_cc cx_X_countRightsOn) 4 = .ok (.iload_n 3, 1) := by decide +kernel
theorem d_X_countRightsOn_5 : decode (pw_cc cx_X_countRightsOn) 5 = .ok (.aload_n 0, 1) := by decide +kernel
theorem d_X_countRightsOn_6 : decode (pw_cc cx_X_countRightsOn) 6 = .ok (.getfield 34, 3) := by decide +kernel
theorem d_X_countRightsOn_9 : decode (pw_cc cx_X_countRightsOn) 9 = .ok (.invokeinterface 88 1, 5) := by decide +kernel
theorem d_X_countRightsOn_14 : decode (pw_cc cx_X_countRightsOn) 14 = .ok (.if_icmp .ge 32, 3) := by decide +kernel
theorem d_X_countRightsOn_17 : decode (pw_cc cx_X_countRightsOn) 17 = .ok (.aload_n 0, 1) := by decide +kernel
theorem d_X_countRightsOn_18 : decode (pw_cc cx_X_countRightsOn) 18 = .ok (.getfield 34, 3) := by decide +kernel
theorem d_X_countRightsOn_21 : decode (pw_cc cx_X_countRightsOn) 21 = .ok (.iload_n 3, 1) := by decide +kernel
theorem d_X_countRightsOn_22 : decode (pw_cc cx_X_countRightsOn) 22 = .ok (.invokeinterface 382 2, 5) := by decide +kernel
theorem d_X_countRightsOn_27 : decode (pw_cc cx_X_countRightsOn) 27 = .ok (.checkcast 210, 3) := by decide +kernel
theorem d_X_countRightsOn_30 : decode (pw_cc cx_X_countRightsOn) 30 = .ok (.aload_n 1, 1) := by decide +kernel
theorem d_X_countRightsOn_31 : decode (pw_cc cx_X_countRightsOn) 31 = .ok (.invokevirtual 418, 3) := by decide +kernel
theorem d_X_countRightsOn_34 : decode (pw_cc cx_X_countRightsOn) 34 = .ok (.ifCond .eq 6, 3) := by decide +kernel
theorem d_X_countRightsOn_37 : decode (pw_cc cx_X_countRightsOn) 37 = .ok (.iinc 2 1, 3) := by decide +kernel
theorem d_X_countRightsOn_40 : decode (pw_cc cx_X_countRightsOn) 40 = .ok (.iinc 3 1, 3) := by decide +kernel
theorem d_X_countRightsOn_43 : decode (pw_cc cx_X_countRightsOn) 43 = .ok (.goto (-39), 3) := by decide +kernel
theorem d_X_countRightsOn_46 : decode (pw_cc cx_X_countRightsOn) 46 = .ok (.iload_n 2, 1) := by decide +kernel
theorem d_X_countRightsOn_47 : decode (pw_cc cx_X_countRightsOn) 47 = .ok (.ireturn, 1) := by decide +kernel
set_option maxHeartbeats 4000000 in
set_option maxRecDepth 20000 in
def lp_X_countRightsOn_4 (Q : pw_W → Int32 → Prop) (X : pw_W → Nat → Prop) : Nat → Int32 → Int32 → Int32 → pw_W → Prop := fun k => Nat.rec (motive := fun _ => Int32 → Int32 → Int32 → pw_W → Prop) (fun _ _ _ _ => False) (fun _ ih a1 a2 a3 w => w.1 7 0 5 = 0 ∧ ((nI (pw_ln w 25 0)) ≤ a3 → Q w a2) ∧ (¬ (nI (pw_ln w 25 0)) ≤ a3 → w.1 7 0 5 = 0 ∧ pw_jn a3 (pw_ln w 25 0) ∧ 0 ≤ (w.1 25 0 (pw_i a3)) ∧ wp_Right_isOn w (w.1 25 0 (pw_i a3)) a1 (fun w5 r6 => (r6 = 0 → ih a1 a2 (a3 + 1) w5) ∧ (¬ r6 = 0 → ih a1 (a2 + 1) (a3 + 1) w5)) (fun _ _ => False))) k
set_option maxHeartbeats 4000000 in
set_option maxRecDepth 20000 in
theorem lp_X_countRightsOn_4_s {Q : pw_W → Int32 → Prop} {X : pw_W → Nat → Prop}  {k : Nat} {a1 a2 a3 : Int32} {w : pw_W} : lp_X_countRightsOn_4 Q X (k + 1) a1 a2 a3 w = (let ih := lp_X_countRightsOn_4 Q X k; w.1 7 0 5 = 0 ∧ ((nI (pw_ln w 25 0)) ≤ a3 → Q w a2) ∧ (¬ (nI (pw_ln w 25 0)) ≤ a3 → w.1 7 0 5 = 0 ∧ pw_jn a3 (pw_ln w 25 0) ∧ 0 ≤ (w.1 25 0 (pw_i a3)) ∧ wp_Right_isOn w (w.1 25 0 (pw_i a3)) a1 (fun w5 r6 => (r6 = 0 → ih a1 a2 (a3 + 1) w5) ∧ (¬ r6 = 0 → ih a1 (a2 + 1) (a3 + 1) w5)) (fun _ _ => False))) := rfl
set_option maxHeartbeats 4000000 in
set_option maxRecDepth 20000 in
theorem vlp_X_countRightsOn_4 {l : Launch} {g : pw_G} {Q : pw_W → Int32 → Prop} {X : pw_W → Nat → Prop} (hl0 : l.stackTraces = false) : ∀ (k : Nat) (a1 a2 a3 : Int32) (w : pw_W), lp_X_countRightsOn_4 Q X k a1 a2 a3 w → pw_V l g cx_X_countRightsOn Q X 4 [(9, 0), (5, a1), (0, a2), (0, a3)] [] w := by
  intro k; induction k with
  | zero => intro _ _ _ _ h; exact h.elim
  | succ k ih =>
    intro a1 a2 a3 w h
    rw [lp_X_countRightsOn_4_s] at h
    refine pv_iload_n (n := 5) d_X_countRightsOn_4 rfl rfl rfl ?_
    refine pv_aload_n (n := 6) d_X_countRightsOn_5 rfl rfl rfl ?_
    obtain ⟨g1, h⟩ := h
    refine gt_X_34 (n := 9) rfl d_X_countRightsOn_6 (by decide) g1 rfl ?_
    refine pv_lsize (n := 14) (f := 25) (by decide) q_49 (by decide) rfl d_X_countRightsOn_9 (by decide) rfl ?_
    refine pv_icmp_ge (n := 17) (tgt := 46) d_X_countRightsOn_14 (by decide) rfl (fun c2 => ?_) (fun c2 => ?_)
    · replace h := h.1 c2
      refine pv_iload_n (n := 47) d_X_countRightsOn_46 rfl rfl rfl ?_
      exact pv_iret rfl rfl d_X_countRightsOn_47 h
    · replace h := h.2 c2
      refine pv_aload_n (n := 18) d_X_countRightsOn_17 rfl rfl rfl ?_
      obtain ⟨g3, h⟩ := h
      refine gt_X_34 (n := 21) rfl d_X_countRightsOn_18 (by decide) g3 rfl ?_
      refine pv_iload_n (n := 22) d_X_countRightsOn_21 rfl rfl rfl ?_
      obtain ⟨g4, h⟩ := h
      refine pv_lget (n := 27) (f := 25) (F := 5) (by decide) rfl q_52 (by decide) rfl d_X_countRightsOn_22 (by decide) g4 rfl (fun _ => ?_)
      refine pv_cast (n := 30) pw_cf5 q_53 d_X_countRightsOn_27 rfl ?_
      refine pv_aload_n (n := 31) d_X_countRightsOn_30 rfl rfl rfl ?_
      obtain ⟨g7, h⟩ := h
      refine pv_callV (n := 34) (x := (w.1 25 0 (pw_i a3))) [(5, a1)] [] (con_Right_isOn hl0 h) pw_cf5 rfl q_58 q_59 q_60 q_57 q_56 pyo_Right_isOn (by decide) rfl rfl g7 d_X_countRightsOn_31 rfl (fun w5 r6 h _ => ?_) (fun _ _ h => h.elim)
      show pw_V l g cx_X_countRightsOn Q X 34 [(9, 0), (5, a1), (0, a2), (0, a3)] [(0, r6)] w5
      refine pv_if_eq (n := 37) (tgt := 40) d_X_countRightsOn_34 (by decide) rfl (fun c8 => ?_) (fun c8 => ?_)
      · replace h := h.1 c8
        refine pv_iinc (v := (a3 + 1)) (n := 43) (L1 := [(9, 0), (5, a1), (0, a2), (0, (a3 + 1))]) d_X_countRightsOn_40 rfl rfl rfl (by decide) rfl ?_
        refine pv_goto (tgt := 4) d_X_countRightsOn_43 (by decide) ?_
        exact ih _ _ _ _ h
      · replace h := h.2 c8
        refine pv_iinc (v := (a2 + 1)) (n := 40) (L1 := [(9, 0), (5, a1), (0, (a2 + 1)), (0, a3)]) d_X_countRightsOn_37 rfl rfl rfl (by decide) rfl ?_
        refine pv_iinc (v := (a3 + 1)) (n := 43) (L1 := [(9, 0), (5, a1), (0, (a2 + 1)), (0, (a3 + 1))]) d_X_countRightsOn_40 rfl rfl rfl (by decide) rfl ?_
        refine pv_goto (tgt := 4) d_X_countRightsOn_43 (by decide) ?_
        exact ih _ _ _ _ h
set_option maxHeartbeats 4000000 in
set_option maxRecDepth 20000 in
def wp_X_countRightsOn (w : pw_W) (a1 : Int32) (Q : pw_W → Int32 → Prop) (X : pw_W → Nat → Prop) : Prop := ∃ k9, lp_X_countRightsOn_4 Q X k9 a1 0 0 w
set_option maxHeartbeats 4000000 in
set_option maxRecDepth 20000 in
theorem vw_X_countRightsOn {l : Launch} {g : pw_G} {Q : pw_W → Int32 → Prop} {X : pw_W → Nat → Prop} (hl0 : l.stackTraces = false) {w : pw_W} {a1 : Int32} (h : wp_X_countRightsOn w a1 Q X) : pw_V l g cx_X_countRightsOn Q X 0 [(9, 0), (5, a1), (1, 0), (1, 0)] [] w := by
  unfold wp_X_countRightsOn at h
  refine pv_iconst (v := 0) (n := 1) d_X_countRightsOn_0 (by decide) rfl ?_
  refine pv_istore_n (n := 2) (L' := [(9, 0), (5, a1), (0, 0), (1, 0)]) d_X_countRightsOn_1 rfl (by decide) rfl rfl ?_
  refine pv_iconst (v := 0) (n := 3) d_X_countRightsOn_2 (by decide) rfl ?_
  refine pv_istore_n (n := 4) (L' := [(9, 0), (5, a1), (0, 0), (0, 0)]) d_X_countRightsOn_3 rfl (by decide) rfl rfl ?_
  obtain ⟨k9, h⟩ := h
  exact vlp_X_countRightsOn_4 hl0 _ _ _ _ _ h
set_option maxHeartbeats 4000000 in
set_option maxRecDepth 20000 in
theorem con_X_countRightsOn {l : Launch} {g : pw_G} {Q : pw_W → Int32 → Prop} {X : pw_W → Nat → Prop} (hl0 : l.stackTraces = false) {w : pw_W} {a1 : Int32} (h : wp_X_countRightsOn w a1 Q X) : pw_Con l g y_X_countRightsOn cx_X_countRightsOn [(9, 0), (5, a1)] w Q X :=
  pw_con (by decide +kernel) rfl rfl hl0 rfl (Nat.le_of_ble_eq_true rfl) (by simp) (vw_X_countRightsOn hl0 h)
theorem d_X_isInRange_0 : decode (pw_cc cx_X_isInRange) 0 = .ok (.iload_n 0, 1) := by decide +kernel
theorem d_X_isInRange_1 : decode (pw_cc cx_X_isInRange) 1 = .ok (.iload_n 1, 1) := by decide +kernel
theorem d_X_isInRange_2 : decode (pw_cc cx_X_isInRange) 2 = .ok (.if_icmp .lt 12, 3) := by decide +kernel
theorem d_X_isInRange_5 : decode (pw_cc cx_X_isInRange) 5 = .ok (.iload_n 0, 1) := by decide +kernel
theorem d_X_isInRange_6 : decode (pw_cc cx_X_isInRange) 6 = .ok (.iload_n 2, 1) := by decide +kernel
theorem d_X_isInRange_7 : decode (pw_cc cx_X_isInRange) 7 = .ok (.if_icmp .gt 7, 3) := by decide +kernel
theorem d_X_isInRange_10 : decode (pw_cc cx_X_isInRange) 10 = .ok (.iconst 1, 1) := by decide +kernel
theorem d_X_isInRange_11 : decode (pw_cc cx_X_isInRange) 11 = .ok (.goto 4, 3) := by decide +kernel
theorem d_X_isInRange_14 : decode (pw_cc cx_X_isInRange) 14 = .ok (.iconst 0, 1) := by decide +kernel
theorem d_X_isInRange_15 : decode (pw_cc cx_X_isInRange) 15 = .ok (.ireturn, 1) := by decide +kernel
set_option maxHeartbeats 4000000 in
set_option maxRecDepth 20000 in
def wp_X_isInRange (w : pw_W) (a0 a1 a2 : Int32) (Q : pw_W → Int32 → Prop) (X : pw_W → Nat → Prop) : Prop := (a0 < a1 → Q w 0) ∧ (¬ a0 < a1 → (a2 < a0 → Q w 0) ∧ (¬ a2 < a0 → Q w 1))
set_option maxHeartbeats 4000000 in
set_option maxRecDepth 20000 in
theorem vw_X_isInRange {l : Launch} {g : pw_G} {Q : pw_W → Int32 → Prop} {X : pw_W → Nat → Prop} (hl0 : l.stackTraces = false) {w : pw_W} {a0 a1 a2 : Int32} (h : wp_X_isInRange w a0 a1 a2 Q X) : pw_V l g cx_X_isInRange Q X 0 [(0, a0), (0, a1), (0, a2)] [] w := by
  unfold wp_X_isInRange at h
  refine pv_iload_n (n := 1) d_X_isInRange_0 rfl rfl rfl ?_
  refine pv_iload_n (n := 2) d_X_isInRange_1 rfl rfl rfl ?_
  refine pv_icmp_lt (n := 5) (tgt := 14) d_X_isInRange_2 (by decide) rfl (fun c1 => ?_) (fun c1 => ?_)
  · replace h := h.1 c1
    refine pv_iconst (v := 0) (n := 15) d_X_isInRange_14 (by decide) rfl ?_
    exact pv_zret rfl rfl d_X_isInRange_15 (by decide) h
  · replace h := h.2 c1
    refine pv_iload_n (n := 6) d_X_isInRange_5 rfl rfl rfl ?_
    refine pv_iload_n (n := 7) d_X_isInRange_6 rfl rfl rfl ?_
    refine pv_icmp_gt (n := 10) (tgt := 14) d_X_isInRange_7 (by decide) rfl (fun c2 => ?_) (fun c2 => ?_)
    · replace h := h.1 c2
      refine pv_iconst (v := 0) (n := 15) d_X_isInRange_14 (by decide) rfl ?_
      exact pv_zret rfl rfl d_X_isInRange_15 (by decide) h
    · replace h := h.2 c2
      refine pv_iconst (v := 1) (n := 11) d_X_isInRange_10 (by decide) rfl ?_
      refine pv_goto (tgt := 15) d_X_isInRange_11 (by decide) ?_
      exact pv_zret rfl rfl d_X_isInRange_15 (by decide) h
set_option maxHeartbeats 4000000 in
set_option maxRecDepth 20000 in
theorem con_X_isInRange {l : Launch} {g : pw_G} {Q : pw_W → Int32 → Prop} {X : pw_W → Nat → Prop} (hl0 : l.stackTraces = false) {w : pw_W} {a0 a1 a2 : Int32} (h : wp_X_isInRange w a0 a1 a2 Q X) : pw_Con l g y_X_isInRange cx_X_isInRange [(0, a0), (0, a1), (0, a2)] w Q X :=
  pw_con (by decide +kernel) rfl rfl hl0 rfl (Nat.le_of_ble_eq_true rfl) (by simp) (vw_X_isInRange hl0 h)
theorem d_X_isInField_0 : decode (pw_cc cx_X_isInField) 0 = .ok (.iload_n 0, 1) := by decide +kernel
theorem d_X_isInField_1 : decode (pw_cc cx_X_isInField) 1 = .ok (.bipush 10, 2) := by decide +kernel
theorem d_X_isInField_3 : decode (pw_cc cx_X_isInField) 3 = .ok (.irem, 1) := by decide +kernel
theorem d_X_isInField_4 : decode (pw_cc cx_X_isInField) 4 = .ok (.iload_n 1, 1) := by decide +kernel
theorem d_X_isInField_5 : decode (pw_cc cx_X_isInField) 5 = .ok (.bipush 10, 2) := by decide +kernel
theorem d_X_isInField_7 : decode (pw_cc cx_X_isInField) 7 = .ok (.irem, 1) := by decide +kernel
theorem d_X_isInField_8 : decode (pw_cc cx_X_isInField) 8 = .ok (.iload_n 2, 1) := by decide +kernel
theorem d_X_isInField_9 : decode (pw_cc cx_X_isInField) 9 = .ok (.bipush 10, 2) := by decide +kernel
theorem d_X_isInField_11 : decode (pw_cc cx_X_isInField) 11 = .ok (.irem, 1) := by decide +kernel
theorem d_X_isInField_12 : decode (pw_cc cx_X_isInField) 12 = .ok (.invokestatic 168, 3) := by decide +kernel
theorem d_X_isInField_15 : decode (pw_cc cx_X_isInField) 15 = .ok (.ifCond .eq 25, 3) := by decide +kernel
theorem d_X_isInField_18 : decode (pw_cc cx_X_isInField) 18 = .ok (.iload_n 0, 1) := by decide +kernel
theorem d_X_isInField_19 : decode (pw_cc cx_X_isInField) 19 = .ok (.bipush 10, 2) := by decide +kernel
theorem d_X_isInField_21 : decode (pw_cc cx_X_isInField) 21 = .ok (.idiv, 1) := by decide +kernel
theorem d_X_isInField_22 : decode (pw_cc cx_X_isInField) 22 = .ok (.iload_n 1, 1) := by decide +kernel
theorem d_X_isInField_23 : decode (pw_cc cx_X_isInField) 23 = .ok (.bipush 10, 2) := by decide +kernel
theorem d_X_isInField_25 : decode (pw_cc cx_X_isInField) 25 = .ok (.idiv, 1) := by decide +kernel
theorem d_X_isInField_26 : decode (pw_cc cx_X_isInField) 26 = .ok (.iload_n 2, 1) := by decide +kernel
theorem d_X_isInField_27 : decode (pw_cc cx_X_isInField) 27 = .ok (.bipush 10, 2) := by decide +kernel
theorem d_X_isInField_29 : decode (pw_cc cx_X_isInField) 29 = .ok (.idiv, 1) := by decide +kernel
theorem d_X_isInField_30 : decode (pw_cc cx_X_isInField) 30 = .ok (.invokestatic 168, 3) := by decide +kernel
theorem d_X_isInField_33 : decode (pw_cc cx_X_isInField) 33 = .ok (.ifCond .eq 7, 3) := by decide +kernel
theorem d_X_isInField_36 : decode (pw_cc cx_X_isInField) 36 = .ok (.iconst 1, 1) := by decide +kernel
theorem d_X_isInField_37 : decode (pw_cc cx_X_isInField) 37 = .ok (.goto 4, 3) := by decide +kernel
theorem d_X_isInField_40 : decode (pw_cc cx_X_isInField) 40 = .ok (.iconst 0, 1) := by decide +kernel
theorem d_X_isInField_41 : decode (pw_cc cx_X_isInField) 41 = .ok (.ireturn, 1) := by decide +kernel
set_option maxHeartbeats 4000000 in
set_option maxRecDepth 20000 in
def wp_X_isInField (w : pw_W) (a0 a1 a2 : Int32) (Q : pw_W → Int32 → Prop) (X : pw_W → Nat → Prop) : Prop := wp_X_isInRange w (a0 - a0 / 10 * 10) (a1 - a1 / 10 * 10) (a2 - a2 / 10 * 10) (fun w1 r2 => (r2 = 0 → Q w1 0) ∧ (¬ r2 = 0 → wp_X_isInRange w1 (a0 / 10) (a1 / 10) (a2 / 10) (fun w4 r5 => (r5 = 0 → Q w4 0) ∧ (¬ r5 = 0 → Q w4 1)) (fun _ _ => False))) (fun _ _ => False)
set_option maxHeartbeats 4000000 in
set_option maxRecDepth 20000 in
theorem vw_X_isInField {l : Launch} {g : pw_G} {Q : pw_W → Int32 → Prop} {X : pw_W → Nat → Prop} (hl0 : l.stackTraces = false) {w : pw_W} {a0 a1 a2 : Int32} (h : wp_X_isInField w a0 a1 a2 Q X) : pw_V l g cx_X_isInField Q X 0 [(0, a0), (0, a1), (0, a2)] [] w := by
  unfold wp_X_isInField at h
  refine pv_iload_n (n := 1) d_X_isInField_0 rfl rfl rfl ?_
  refine pv_bipush (v := 10) (n := 3) d_X_isInField_1 (by decide) rfl ?_
  refine pv_irem (n := 4) d_X_isInField_3 (by decide) rfl ?_
  refine pv_iload_n (n := 5) d_X_isInField_4 rfl rfl rfl ?_
  refine pv_bipush (v := 10) (n := 7) d_X_isInField_5 (by decide) rfl ?_
  refine pv_irem (n := 8) d_X_isInField_7 (by decide) rfl ?_
  refine pv_iload_n (n := 9) d_X_isInField_8 rfl rfl rfl ?_
  refine pv_bipush (v := 10) (n := 11) d_X_isInField_9 (by decide) rfl ?_
  refine pv_irem (n := 12) d_X_isInField_11 (by decide) rfl ?_
  refine pv_callS (n := 15) [(0, (a0 - a0 / 10 * 10)), (0, (a1 - a1 / 10 * 10)), (0, (a2 - a2 / 10 * 10))] [] (con_X_isInRange hl0 h) q_96 q_97 q_62 q_95 pyo_X_isInRange (by decide) rfl rfl d_X_isInField_12 rfl (fun w1 r2 h _ => ?_) (fun _ _ h => h.elim)
  show pw_V l g cx_X_isInField Q X 15 [(0, a0), (0, a1), (0, a2)] [(0, r2)] w1
  refine pv_if_eq (n := 18) (tgt := 40) d_X_isInField_15 (by decide) rfl (fun c3 => ?_) (fun c3 => ?_)
  · replace h := h.1 c3
    refine pv_iconst (v := 0) (n := 41) d_X_isInField_40 (by decide) rfl ?_
    exact pv_zret rfl rfl d_X_isInField_41 (by decide) h
  · replace h := h.2 c3
    refine pv_iload_n (n := 19) d_X_isInField_18 rfl rfl rfl ?_
    refine pv_bipush (v := 10) (n := 21) d_X_isInField_19 (by decide) rfl ?_
    refine pv_idiv (n := 22) d_X_isInField_21 (by decide) rfl ?_
    refine pv_iload_n (n := 23) d_X_isInField_22 rfl rfl rfl ?_
    refine pv_bipush (v := 10) (n := 25) d_X_isInField_23 (by decide) rfl ?_
    refine pv_idiv (n := 26) d_X_isInField_25 (by decide) rfl ?_
    refine pv_iload_n (n := 27) d_X_isInField_26 rfl rfl rfl ?_
    refine pv_bipush (v := 10) (n := 29) d_X_isInField_27 (by decide) rfl ?_
    refine pv_idiv (n := 30) d_X_isInField_29 (by decide) rfl ?_
    refine pv_callS (n := 33) [(0, (a0 / 10)), (0, (a1 / 10)), (0, (a2 / 10))] [] (con_X_isInRange hl0 h) q_96 q_97 q_62 q_95 pyo_X_isInRange (by decide) rfl rfl d_X_isInField_30 rfl (fun w4 r5 h _ => ?_) (fun _ _ h => h.elim)
    show pw_V l g cx_X_isInField Q X 33 [(0, a0), (0, a1), (0, a2)] [(0, r5)] w4
    refine pv_if_eq (n := 36) (tgt := 40) d_X_isInField_33 (by decide) rfl (fun c6 => ?_) (fun c6 => ?_)
    · replace h := h.1 c6
      refine pv_iconst (v := 0) (n := 41) d_X_isInField_40 (by decide) rfl ?_
      exact pv_zret rfl rfl d_X_isInField_41 (by decide) h
    · replace h := h.2 c6
      refine pv_iconst (v := 1) (n := 37) d_X_isInField_36 (by decide) rfl ?_
      refine pv_goto (tgt := 41) d_X_isInField_37 (by decide) ?_
      exact pv_zret rfl rfl d_X_isInField_41 (by decide) h
set_option maxHeartbeats 4000000 in
set_option maxRecDepth 20000 in
theorem con_X_isInField {l : Launch} {g : pw_G} {Q : pw_W → Int32 → Prop} {X : pw_W → Nat → Prop} (hl0 : l.stackTraces = false) {w : pw_W} {a0 a1 a2 : Int32} (h : wp_X_isInField w a0 a1 a2 Q X) : pw_Con l g y_X_isInField cx_X_isInField [(0, a0), (0, a1), (0, a2)] w Q X :=
  pw_con (by decide +kernel) rfl rfl hl0 rfl (Nat.le_of_ble_eq_true rfl) (by simp) (vw_X_isInField hl0 h)
theorem d_X_hasSquareIn_0 : decode (pw_cc cx_X_hasSquareIn) 0 = .ok (.aload_n 0, 1) := by decide +kernel
theorem d_X_hasSquareIn_1 : decode (pw_cc cx_X_hasSquareIn) 1 = .ok (.getfield 11, 3) := by decide +kernel
theorem d_X_hasSquareIn_4 : decode (pw_cc cx_X_hasSquareIn) 4 = .ok (.astore 4, 2) := by decide +kernel
theorem d_X_hasSquareIn_6 : decode (pw_cc cx_X_hasSquareIn) 6 = .ok (.aload 4, 2) := by decide +kernel
theorem d_X_hasSquareIn_8 : decode (pw_cc cx_X_hasSquareIn) 8 = .ok (.arraylength, 1) := by decide +kernel
theorem d_X_hasSquareIn_9 : decode (pw_cc cx_X_hasSquareIn) 9 = .ok (.istore 5, 2) := by decide +kernel
theorem d_X_hasSquareIn_11 : decode (pw_cc cx_X_hasSquareIn) 11 = .ok (.iconst 0, 1) := by decide +kernel
theorem d_X_hasSquareIn_12 : decode (pw_cc cx_X_hasSquareIn) 12 = .ok (.istore 6, 2) := by decide +kernel
theorem d_X_hasSquareIn_14 : decode (pw_cc cx_X_hasSquareIn) 14 = .ok (.iload 6, 2) := by decide +kernel
theorem d_X_hasSquareIn_16 : decode (pw_cc cx_X_hasSquareIn) 16 = .ok (.iload 5, 2) := by decide +kernel
theorem d_X_hasSquareIn_18 : decode (pw_cc cx_X_hasSquareIn) 18 = .ok (.if_icmp .ge 40, 3) := by decide +kernel
theorem d_X_hasSquareIn_21 : decode (pw_cc cx_X_hasSquareIn) 21 = .ok (.aload 4, 2) := by decide +kernel
theorem d_X_hasSquareIn_23 : decode (pw_cc cx_X_hasSquareIn) 23 = .ok (.iload 6, 2) := by decide +kernel
theorem d_X_hasSquareIn_25 : decode (pw_cc cx_X_hasSquareIn) 25 = .ok (.aaload, 1) := by decide +kernel
theorem d_X_hasSquareIn_26 : decode (pw_cc cx_X_hasSquareIn) 26 = .ok (.astore 7, 2) := by decide +kernel
theorem d_X_hasSquareIn_28 : decode (pw_cc cx_X_hasSquareIn) 28 = .ok (.aload 7, 2) := by decide +kernel
theorem d_X_hasSquareIn_30 : decode (pw_cc cx_X_hasSquareIn) 30 = .ok (.getfield 104, 3) := by decide +kernel
theorem d_X_hasSquareIn_33 : decode (pw_cc cx_X_hasSquareIn) 33 = .ok (.aload_n 1, 1) := by decide +kernel
theorem d_X_hasSquareIn_34 : decode (pw_cc cx_X_hasSquareIn) 34 = .ok (.if_acmp .ne 18, 3) := by decide +kernel
theorem d_X_hasSquareIn_37 : decode (pw_cc cx_X_hasSquareIn) 37 = .ok (.aload 7, 2) := by decide +kernel
theorem d_X_hasSquareIn_39 : decode (pw_cc cx_X_hasSquareIn) 39 = .ok (.getfield 108, 3) := by decide +kernel
theorem d_X_hasSquareIn_42 : decode (pw_cc cx_X_hasSquareIn) 42 = .ok (.iload_n 2, 1) := by decide +kernel
theorem d_X_hasSquareIn_43 : decode (pw_cc cx_X_hasSquareIn) 43 = .ok (.iload_n 3, 1) := by decide +kernel
theorem d_X_hasSquareIn_44 : decode (pw_cc cx_X_hasSquareIn) 44 = .ok (.invokestatic 111, 3) := by decide +kernel
theorem d_X_hasSquareIn_47 : decode (pw_cc cx_X_hasSquareIn) 47 = .ok (.ifCond .eq 5, 3) := by decide +kernel
theorem d_X_hasSquareIn_50 : decode (pw_cc cx_X_hasSquareIn) 50 = .ok (.iconst 1, 1) := by decide +kernel
theorem d_X_hasSquareIn_51 : decode (pw_cc cx_X_hasSquareIn) 51 = .ok (.ireturn, 1) := by decide +kernel
theorem d_X_hasSquareIn_52 : decode (pw_cc cx_X_hasSquareIn) 52 = .ok (.iinc 6 1, 3) := by decide +kernel
theorem d_X_hasSquareIn_55 : decode (pw_cc cx_X_hasSquareIn) 55 = .ok (.goto (-41), 3) := by decide +kernel
theorem d_X_hasSquareIn_58 : decode (pw_cc cx_X_hasSquareIn) 58 = .ok (.iconst 0, 1) := by decide +kernel
theorem d_X_hasSquareIn_59 : decode (pw_cc cx_X_hasSquareIn) 59 = .ok (.ireturn, 1) := by decide +kernel
set_option maxHeartbeats 4000000 in
set_option maxRecDepth 20000 in
def lp_X_hasSquareIn_14 (Q : pw_W → Int32 → Prop) (X : pw_W → Nat → Prop) : Nat → Int32 → Int32 → Int32 → Int32 → Int32 → pw_W → Prop := fun k => Nat.rec (motive := fun _ => Int32 → Int32 → Int32 → Int32 → Int32 → pw_W → Prop) (fun _ _ _ _ _ _ => False) (fun _ ih a1 a2 a3 a5 a6 w => (a5 ≤ a6 → Q w 0) ∧ (¬ a5 ≤ a6 → pw_jn a6 (pw_ln w 14 0) ∧ ∀ v3, v3 = (w.1 14 0 (pw_i a6)) → 0 ≤ v3 ∧ (¬ (w.1 6 (pw_i v3) 1) = a1 → ih a1 a2 a3 a5 (a6 + 1) w) ∧ ((w.1 6 (pw_i v3) 1) = a1 → wp_X_isInField w (w.1 6 (pw_i v3) 0) a2 a3 (fun w7 r8 => (r8 = 0 → ih a1 a2 a3 a5 (a6 + 1) w7) ∧ (¬ r8 = 0 → Q w7 1)) (fun _ _ => False)))) k
set_option maxHeartbeats 4000000 in
set_option maxRecDepth 20000 in
theorem lp_X_hasSquareIn_14_s {Q : pw_W → Int32 → Prop} {X : pw_W → Nat → Prop}  {k : Nat} {a1 a2 a3 a5 a6 : Int32} {w : pw_W} : lp_X_hasSquareIn_14 Q X (k + 1) a1 a2 a3 a5 a6 w = (let ih := lp_X_hasSquareIn_14 Q X k; (a5 ≤ a6 → Q w 0) ∧ (¬ a5 ≤ a6 → pw_jn a6 (pw_ln w 14 0) ∧ ∀ v3, v3 = (w.1 14 0 (pw_i a6)) → 0 ≤ v3 ∧ (¬ (w.1 6 (pw_i v3) 1) = a1 → ih a1 a2 a3 a5 (a6 + 1) w) ∧ ((w.1 6 (pw_i v3) 1) = a1 → wp_X_isInField w (w.1 6 (pw_i v3) 0) a2 a3 (fun w7 r8 => (r8 = 0 → ih a1 a2 a3 a5 (a6 + 1) w7) ∧ (¬ r8 = 0 → Q w7 1)) (fun _ _ => False)))) := rfl
set_option maxHeartbeats 4000000 in
set_option maxRecDepth 20000 in
theorem vlp_X_hasSquareIn_14 {l : Launch} {g : pw_G} {Q : pw_W → Int32 → Prop} {X : pw_W → Nat → Prop} (hl0 : l.stackTraces = false) : ∀ (k : Nat) (a1 a2 a3 a5 a6 : Int32) (w : pw_W), lp_X_hasSquareIn_14 Q X k a1 a2 a3 a5 a6 w → pw_V l g cx_X_hasSquareIn Q X 14 [(1, 0), (5, a1), (0, a2), (0, a3), (16, 0), (0, a5), (0, a6), (1, 0)] [] w := by
  intro k; induction k with
  | zero => intro _ _ _ _ _ _ h; exact h.elim
  | succ k ih =>
    intro a1 a2 a3 a5 a6 w h
    rw [lp_X_hasSquareIn_14_s] at h
    refine pv_iload (n := 16) d_X_hasSquareIn_14 rfl rfl ?_
    refine pv_iload (n := 18) d_X_hasSquareIn_16 rfl rfl ?_
    refine pv_icmp_ge (n := 21) (tgt := 58) d_X_hasSquareIn_18 (by decide) rfl (fun c1 => ?_) (fun c1 => ?_)
    · replace h := h.1 c1
      refine pv_iconst (v := 0) (n := 59) d_X_hasSquareIn_58 (by decide) rfl ?_
      exact pv_zret rfl rfl d_X_hasSquareIn_59 (by decide) h
    · replace h := h.2 c1
      refine pv_aload (n := 23) d_X_hasSquareIn_21 rfl rfl ?_
      refine pv_iload (n := 25) d_X_hasSquareIn_23 rfl rfl ?_
      obtain ⟨g2, h⟩ := h
      refine pv_aald (n := 26) (f := 14) (F := 6) (C := "Peatland$Square") (by decide) (Or.inl ⟨rfl, rfl⟩) (fun _ => rfl) d_X_hasSquareIn_25 (by decide) g2 rfl (fun _ => ?_)
      refine pv_nm (fun v3 e4 => ?_)
      replace h := h v3 e4
      refine pv_astore (n := 28) (L' := [(1, 0), (5, a1), (0, a2), (0, a3), (16, 0), (0, a5), (0, a6), (8, v3)]) d_X_hasSquareIn_26 (by decide) rfl rfl ?_
      refine pv_aload (n := 30) d_X_hasSquareIn_28 rfl rfl ?_
      obtain ⟨g5, h⟩ := h
      refine gt_X_104 (n := 33) rfl d_X_hasSquareIn_30 g5 rfl ?_
      refine pv_aload_n (n := 34) d_X_hasSquareIn_33 rfl rfl rfl ?_
      refine pv_acmp_ne (n := 37) (tgt := 52) d_X_hasSquareIn_34 (by decide) (by decide) rfl (fun c6 => ?_) (fun c6 => ?_)
      · replace h := h.1 c6
        refine pv_iinc (v := (a6 + 1)) (n := 55) (L1 := [(1, 0), (5, a1), (0, a2), (0, a3), (16, 0), (0, a5), (0, (a6 + 1)), (8, v3)]) d_X_hasSquareIn_52 rfl rfl rfl (by decide) rfl ?_
        refine pv_goto (tgt := 14) d_X_hasSquareIn_55 (by decide) ?_
        refine pv_unset (i := 7) (L1 := [(1, 0), (5, a1), (0, a2), (0, a3), (16, 0), (0, a5), (0, (a6 + 1)), (1, 0)]) rfl ?_
        exact ih _ _ _ _ _ _ h
      · replace h := h.2 c6
        refine pv_aload (n := 39) d_X_hasSquareIn_37 rfl rfl ?_
        refine gt_X_108 (n := 42) rfl d_X_hasSquareIn_39 g5 rfl ?_
        refine pv_iload_n (n := 43) d_X_hasSquareIn_42 rfl rfl rfl ?_
        refine pv_iload_n (n := 44) d_X_hasSquareIn_43 rfl rfl rfl ?_
        refine pv_callS (n := 47) [(0, (w.1 6 (pw_i v3) 0)), (0, a2), (0, a3)] [] (con_X_isInField hl0 h) q_101 q_102 q_62 q_100 pyo_X_isInField (by decide) rfl rfl d_X_hasSquareIn_44 rfl (fun w7 r8 h _ => ?_) (fun _ _ h => h.elim)
        show pw_V l g cx_X_hasSquareIn Q X 47 [(1, 0), (5, a1), (0, a2), (0, a3), (16, 0), (0, a5), (0, a6), (8, v3)] [(0, r8)] w7
        refine pv_if_eq (n := 50) (tgt := 52) d_X_hasSquareIn_47 (by decide) rfl (fun c9 => ?_) (fun c9 => ?_)
        · replace h := h.1 c9
          refine pv_iinc (v := (a6 + 1)) (n := 55) (L1 := [(1, 0), (5, a1), (0, a2), (0, a3), (16, 0), (0, a5), (0, (a6 + 1)), (8, v3)]) d_X_hasSquareIn_52 rfl rfl rfl (by decide) rfl ?_
          refine pv_goto (tgt := 14) d_X_hasSquareIn_55 (by decide) ?_
          refine pv_unset (i := 7) (L1 := [(1, 0), (5, a1), (0, a2), (0, a3), (16, 0), (0, a5), (0, (a6 + 1)), (1, 0)]) rfl ?_
          exact ih _ _ _ _ _ _ h
        · replace h := h.2 c9
          refine pv_iconst (v := 1) (n := 51) d_X_hasSquareIn_50 (by decide) rfl ?_
          exact pv_zret rfl rfl d_X_hasSquareIn_51 (by decide) h
set_option maxHeartbeats 4000000 in
set_option maxRecDepth 20000 in
def wp_X_hasSquareIn (w : pw_W) (a1 a2 a3 : Int32) (Q : pw_W → Int32 → Prop) (X : pw_W → Nat → Prop) : Prop := w.1 7 0 0 = 0 ∧ ∀ v11, v11 = (nI (pw_ln w 14 0)) → ∃ k13, lp_X_hasSquareIn_14 Q X k13 a1 a2 a3 v11 0 w
set_option maxHeartbeats 4000000 in
set_option maxRecDepth 20000 in
theorem vw_X_hasSquareIn {l : Launch} {g : pw_G} {Q : pw_W → Int32 → Prop} {X : pw_W → Nat → Prop} (hl0 : l.stackTraces = false) {w : pw_W} {a1 a2 a3 : Int32} (h : wp_X_hasSquareIn w a1 a2 a3 Q X) : pw_V l g cx_X_hasSquareIn Q X 0 [(9, 0), (5, a1), (0, a2), (0, a3), (1, 0), (1, 0), (1, 0), (1, 0)] [] w := by
  unfold wp_X_hasSquareIn at h
  refine pv_aload_n (n := 1) d_X_hasSquareIn_0 rfl rfl rfl ?_
  obtain ⟨g10, h⟩ := h
  refine gt_X_11 (n := 4) rfl d_X_hasSquareIn_1 (by decide) g10 rfl ?_
  refine pv_astore (n := 6) (L' := [(9, 0), (5, a1), (0, a2), (0, a3), (16, 0), (1, 0), (1, 0), (1, 0)]) d_X_hasSquareIn_4 (by decide) rfl rfl ?_
  refine pv_aload (n := 8) d_X_hasSquareIn_6 rfl rfl ?_
  refine pv_alen (n := 9) (f := 14) (by decide) ⟨_, rfl⟩ d_X_hasSquareIn_8 (by decide) rfl ?_
  refine pv_nm (fun v11 e12 => ?_)
  replace h := h v11 e12
  refine pv_istore (n := 11) (L' := [(9, 0), (5, a1), (0, a2), (0, a3), (16, 0), (0, v11), (1, 0), (1, 0)]) d_X_hasSquareIn_9 (by decide) rfl rfl ?_
  refine pv_iconst (v := 0) (n := 12) d_X_hasSquareIn_11 (by decide) rfl ?_
  refine pv_istore (n := 14) (L' := [(9, 0), (5, a1), (0, a2), (0, a3), (16, 0), (0, v11), (0, 0), (1, 0)]) d_X_hasSquareIn_12 (by decide) rfl rfl ?_
  refine pv_unset (i := 0) (L1 := [(1, 0), (5, a1), (0, a2), (0, a3), (16, 0), (0, v11), (0, 0), (1, 0)]) rfl ?_
  obtain ⟨k13, h⟩ := h
  exact vlp_X_hasSquareIn_14 hl0 _ _ _ _ _ _ _ h
set_option maxHeartbeats 4000000 in
set_option maxRecDepth 20000 in
theorem con_X_hasSquareIn {l : Launch} {g : pw_G} {Q : pw_W → Int32 → Prop} {X : pw_W → Nat → Prop} (hl0 : l.stackTraces = false) {w : pw_W} {a1 a2 a3 : Int32} (h : wp_X_hasSquareIn w a1 a2 a3 Q X) : pw_Con l g y_X_hasSquareIn cx_X_hasSquareIn [(9, 0), (5, a1), (0, a2), (0, a3)] w Q X :=
  pw_con (by decide +kernel) rfl rfl hl0 rfl (Nat.le_of_ble_eq_true rfl) (by simp) (vw_X_hasSquareIn hl0 h)
theorem d_Parcel_current_0 : decode (pw_cc cx_Parcel_current) 0 = .ok (.aload_n 0, 1) := by decide +kernel
theorem d_Parcel_current_1 : decode (pw_cc cx_Parcel_current) 1 = .ok (.astore_n 1, 1) := by decide +kernel
theorem d_Parcel_current_2 : decode (pw_cc cx_Parcel_current) 2 = .ok (.aload_n 1, 1) := by decide +kernel
theorem d_Parcel_current_3 : decode (pw_cc cx_Parcel_current) 3 = .ok (.getfield 23, 3) := by decide +kernel
theorem d_Parcel_current_6 : decode (pw_cc cx_Parcel_current) 6 = .ok (.ifnull 11, 3) := by decide +kernel
theorem d_Parcel_current_9 : decode (pw_cc cx_Parcel_current) 9 = .ok (.aload_n 1, 1) := by decide +kernel
theorem d_Parcel_current_10 : decode (pw_cc cx_Parcel_current) 10 = .ok (.getfield 23, 3) := by decide +kernel
theorem d_Parcel_current_13 : decode (pw_cc cx_Parcel_current) 13 = .ok (.astore_n 1, 1) := by decide +kernel
theorem d_Parcel_current_14 : decode (pw_cc cx_Parcel_current) 14 = .ok (.goto (-12), 3) := by decide +kernel
theorem d_Parcel_current_17 : decode (pw_cc cx_Parcel_current) 17 = .ok (.aload_n 1, 1) := by decide +kernel
theorem d_Parcel_current_18 : decode (pw_cc cx_Parcel_current) 18 = .ok (.areturn, 1) := by decide +kernel
set_option maxHeartbeats 4000000 in
set_option maxRecDepth 20000 in
def lp_Parcel_current_2 (Q : pw_W → Int32 → Prop) (X : pw_W → Nat → Prop) : Nat → Int32 → pw_W → Prop := fun k => Nat.rec (motive := fun _ => Int32 → pw_W → Prop) (fun _ _ => False) (fun _ ih a1 w => 0 ≤ a1 ∧ ((w.1 3 (pw_i a1) 3) = -1 → Q w a1) ∧ (¬ (w.1 3 (pw_i a1) 3) = -1 → ∀ v3, v3 = (w.1 3 (pw_i a1) 3) → ih v3 w)) k
set_option maxHeartbeats 4000000 in
set_option maxRecDepth 20000 in
theorem lp_Parcel_current_2_s {Q : pw_W → Int32 → Prop} {X : pw_W → Nat → Prop}  {k : Nat} {a1 : Int32} {w : pw_W} : lp_Parcel_current_2 Q X (k + 1) a1 w = (let ih := lp_Parcel_current_2 Q X k; 0 ≤ a1 ∧ ((w.1 3 (pw_i a1) 3) = -1 → Q w a1) ∧ (¬ (w.1 3 (pw_i a1) 3) = -1 → ∀ v3, v3 = (w.1 3 (pw_i a1) 3) → ih v3 w)) := rfl
set_option maxHeartbeats 4000000 in
set_option maxRecDepth 20000 in
theorem vlp_Parcel_current_2 {l : Launch} {g : pw_G} {Q : pw_W → Int32 → Prop} {X : pw_W → Nat → Prop} (hl0 : l.stackTraces = false) : ∀ (k : Nat) (a1 : Int32) (w : pw_W), lp_Parcel_current_2 Q X k a1 w → pw_V l g cx_Parcel_current Q X 2 [(1, 0), (5, a1)] [] w := by
  intro k; induction k with
  | zero => intro _ _ h; exact h.elim
  | succ k ih =>
    intro a1 w h
    rw [lp_Parcel_current_2_s] at h
    refine pv_aload_n (n := 3) d_Parcel_current_2 rfl rfl rfl ?_
    obtain ⟨g1, h⟩ := h
    refine gt_Parcel_23 (n := 6) rfl d_Parcel_current_3 g1 rfl ?_
    refine pv_ifnull (n := 9) (tgt := 17) d_Parcel_current_6 (by decide) rfl (fun c2 => ?_) (fun c2 => ?_)
    · replace h := h.1 c2
      refine pv_aload_n (n := 18) d_Parcel_current_17 rfl rfl rfl ?_
      exact pv_aret rfl (Or.inl ⟨_, rfl⟩) rfl d_Parcel_current_18 h
    · replace h := h.2 c2
      refine pv_aload_n (n := 10) d_Parcel_current_9 rfl rfl rfl ?_
      refine gt_Parcel_23 (n := 13) rfl d_Parcel_current_10 g1 rfl ?_
      refine pv_nm (fun v3 e4 => ?_)
      replace h := h v3 e4
      refine pv_astore_n (n := 14) (L' := [(1, 0), (5, v3)]) d_Parcel_current_13 rfl (by decide) rfl rfl ?_
      refine pv_goto (tgt := 2) d_Parcel_current_14 (by decide) ?_
      exact ih _ _ h
set_option maxHeartbeats 4000000 in
set_option maxRecDepth 20000 in
def wp_Parcel_current (w : pw_W) (a0 : Int32) (Q : pw_W → Int32 → Prop) (X : pw_W → Nat → Prop) : Prop := ∃ k5, lp_Parcel_current_2 Q X k5 a0 w
set_option maxHeartbeats 4000000 in
set_option maxRecDepth 20000 in
theorem vw_Parcel_current {l : Launch} {g : pw_G} {Q : pw_W → Int32 → Prop} {X : pw_W → Nat → Prop} (hl0 : l.stackTraces = false) {w : pw_W} {a0 : Int32} (h : wp_Parcel_current w a0 Q X) : pw_V l g cx_Parcel_current Q X 0 [(5, a0), (1, 0)] [] w := by
  unfold wp_Parcel_current at h
  refine pv_aload_n (n := 1) d_Parcel_current_0 rfl rfl rfl ?_
  refine pv_astore_n (n := 2) (L' := [(5, a0), (5, a0)]) d_Parcel_current_1 rfl (by decide) rfl rfl ?_
  refine pv_unset (i := 0) (L1 := [(1, 0), (5, a0)]) rfl ?_
  obtain ⟨k5, h⟩ := h
  exact vlp_Parcel_current_2 hl0 _ _ _ h
set_option maxHeartbeats 4000000 in
set_option maxRecDepth 20000 in
theorem con_Parcel_current {l : Launch} {g : pw_G} {Q : pw_W → Int32 → Prop} {X : pw_W → Nat → Prop} (hl0 : l.stackTraces = false) {w : pw_W} {a0 : Int32} (h : wp_Parcel_current w a0 Q X) : pw_Con l g y_Parcel_current cx_Parcel_current [(5, a0)] w Q X :=
  pw_con (by decide +kernel) rfl rfl hl0 rfl (Nat.le_of_ble_eq_true rfl) (by simp) (vw_Parcel_current hl0 h)
theorem d_X_parcelNumbered_0 : decode (pw_cc cx_X_parcelNumbered) 0 = .ok (.iload_n 1, 1) := by decide +kernel
theorem d_X_parcelNumbered_1 : decode (pw_cc cx_X_parcelNumbered) 1 = .ok (.aload_n 0, 1) := by decide +kernel
theorem d_X_parcelNumbered_2 : decode (pw_cc cx_X_parcelNumbered) 2 = .ok (.getfield 24, 3) := by decide +kernel
theorem d_X_parcelNumbered_5 : decode (pw_cc cx_X_parcelNumbered) 5 = .ok (.invokeinterface 88 1, 5) := by decide +kernel
theorem d_X_parcelNumbered_10 : decode (pw_cc cx_X_parcelNumbered) 10 = .ok (.invokestatic 203, 3) := by decide +kernel
theorem d_X_parcelNumbered_13 : decode (pw_cc cx_X_parcelNumbered) 13 = .ok (.aload_n 0, 1) := by decide +kernel
theorem d_X_parcelNumbered_14 : decode (pw_cc cx_X_parcelNumbered) 14 = .ok (.getfield 24, 3) := by decide +kernel
theorem d_X_parcelNumbered_17 : decode (pw_cc cx_X_parcelNumbered) 17 = .ok (.iload_n 1, 1) := by decide +kernel
theorem d_X_parcelNumbered_18 : decode (pw_cc cx_X_parcelNumbered) 18 = .ok (.invokeinterface 382 2, 5) := by decide +kernel
theorem d_X_parcelNumbered_23 : decode (pw_cc cx_X_parcelNumbered) 23 = .ok (.checkcast 40, 3) := by decide +kernel
theorem d_X_parcelNumbered_26 : decode (pw_cc cx_X_parcelNumbered) 26 = .ok (.invokevirtual 385, 3) := by decide +kernel
theorem d_X_parcelNumbered_29 : decode (pw_cc cx_X_parcelNumbered) 29 = .ok (.areturn, 1) := by decide +kernel
set_option maxHeartbeats 4000000 in
set_option maxRecDepth 20000 in
def wp_X_parcelNumbered (w : pw_W) (a1 : Int32) (Q : pw_W → Int32 → Prop) (X : pw_W → Nat → Prop) : Prop := w.1 7 0 2 = 0 ∧ wp_X_checkIndex w a1 (nI (pw_ln w 23 0)) (fun w2 r3 => w2.1 7 0 2 = 0 ∧ pw_jn a1 (pw_ln w2 23 0) ∧ 0 ≤ (w2.1 23 0 (pw_i a1)) ∧ wp_Parcel_current w2 (w2.1 23 0 (pw_i a1)) (fun w6 r7 => Q w6 r7) (fun _ _ => False)) X
set_option maxHeartbeats 4000000 in
set_option maxRecDepth 20000 in
theorem vw_X_parcelNumbered {l : Launch} {g : pw_G} {Q : pw_W → Int32 → Prop} {X : pw_W → Nat → Prop} (hl0 : l.stackTraces = false) {w : pw_W} {a1 : Int32} (h : wp_X_parcelNumbered w a1 Q X) : pw_V l g cx_X_parcelNumbered Q X 0 [(9, 0), (0, a1)] [] w := by
  unfold wp_X_parcelNumbered at h
  refine pv_iload_n (n := 1) d_X_parcelNumbered_0 rfl rfl rfl ?_
  refine pv_aload_n (n := 2) d_X_parcelNumbered_1 rfl rfl rfl ?_
  obtain ⟨g1, h⟩ := h
  refine gt_X_24 (n := 5) rfl d_X_parcelNumbered_2 (by decide) g1 rfl ?_
  refine pv_lsize (n := 10) (f := 23) (by decide) q_49 (by decide) rfl d_X_parcelNumbered_5 (by decide) rfl ?_
  refine pv_callS (n := 13) [(0, a1), (0, (nI (pw_ln w 23 0)))] [] (con_X_checkIndex hl0 h) q_91 q_92 q_62 q_90 pyo_X_checkIndex (by decide) rfl rfl d_X_parcelNumbered_10 rfl (fun w2 r3 h _ => ?_) (fun _ _ h => pvx_out rfl h)
  show pw_V l g cx_X_parcelNumbered Q X 13 [(9, 0), (0, a1)] [] w2
  refine pv_aload_n (n := 14) d_X_parcelNumbered_13 rfl rfl rfl ?_
  obtain ⟨g4, h⟩ := h
  refine gt_X_24 (n := 17) rfl d_X_parcelNumbered_14 (by decide) g4 rfl ?_
  refine pv_iload_n (n := 18) d_X_parcelNumbered_17 rfl rfl rfl ?_
  obtain ⟨g5, h⟩ := h
  refine pv_lget (n := 23) (f := 23) (F := 3) (by decide) rfl q_52 (by decide) rfl d_X_parcelNumbered_18 (by decide) g5 rfl (fun _ => ?_)
  refine pv_cast (n := 26) pw_cf3 q_43 d_X_parcelNumbered_23 rfl ?_
  obtain ⟨g8, h⟩ := h
  refine pv_callV (n := 29) (x := (w2.1 23 0 (pw_i a1))) [] [] (con_Parcel_current hl0 h) pw_cf3 rfl q_105 q_106 q_107 q_46 q_104 pyo_Parcel_current (by decide) rfl rfl g8 d_X_parcelNumbered_26 rfl (fun w6 r7 h _ => ?_) (fun _ _ h => h.elim)
  show pw_V l g cx_X_parcelNumbered Q X 29 [(9, 0), (0, a1)] [(5, r7)] w6
  exact pv_aret rfl (Or.inl ⟨_, rfl⟩) rfl d_X_parcelNumbered_29 h
set_option maxHeartbeats 4000000 in
set_option maxRecDepth 20000 in
theorem con_X_parcelNumbered {l : Launch} {g : pw_G} {Q : pw_W → Int32 → Prop} {X : pw_W → Nat → Prop} (hl0 : l.stackTraces = false) {w : pw_W} {a1 : Int32} (h : wp_X_parcelNumbered w a1 Q X) : pw_Con l g y_X_parcelNumbered cx_X_parcelNumbered [(9, 0), (0, a1)] w Q X :=
  pw_con (by decide +kernel) rfl rfl hl0 rfl (Nat.le_of_ble_eq_true rfl) (by simp) (vw_X_parcelNumbered hl0 h)
theorem d_X_personNumbered_0 : decode (pw_cc cx_X_personNumbered) 0 = .ok (.iload_n 1, 1) := by decide +kernel
theorem d_X_personNumbered_1 : decode (pw_cc cx_X_personNumbered) 1 = .ok (.bipush 12, 2) := by decide +kernel
theorem d_X_personNumbered_3 : decode (pw_cc cx_X_personNumbered) 3 = .ok (.invokestatic 203, 3) := by decide +kernel
theorem d_X_personNumbered_6 : decode (pw_cc cx_X_personNumbered) 6 = .ok (.aload_n 0, 1) := by decide +kernel
theorem d_X_personNumbered_7 : decode (pw_cc cx_X_personNumbered) 7 = .ok (.getfield 17, 3) := by decide +kernel
theorem d_X_personNumbered_10 : decode (pw_cc cx_X_personNumbered) 10 = .ok (.iload_n 1, 1) := by decide +kernel
theorem d_X_personNumbered_11 : decode (pw_cc cx_X_personNumbered) 11 = .ok (.aaload, 1) := by decide +kernel
theorem d_X_personNumbered_12 : decode (pw_cc cx_X_personNumbered) 12 = .ok (.areturn, 1) := by decide +kernel
set_option maxHeartbeats 4000000 in
set_option maxRecDepth 20000 in
def wp_X_personNumbered (w : pw_W) (a1 : Int32) (Q : pw_W → Int32 → Prop) (X : pw_W → Nat → Prop) : Prop := wp_X_checkIndex w a1 12 (fun w1 r2 => w1.1 7 0 1 = 0 ∧ pw_jn a1 (pw_ln w1 15 0) ∧ Q w1 (w1.1 15 0 (pw_i a1))) X
set_option maxHeartbeats 4000000 in
set_option maxRecDepth 20000 in
theorem vw_X_personNumbered {l : Launch} {g : pw_G} {Q : pw_W → Int32 → Prop} {X : pw_W → Nat → Prop} (hl0 : l.stackTraces = false) {w : pw_W} {a1 : Int32} (h : wp_X_personNumbered w a1 Q X) : pw_V l g cx_X_personNumbered Q X 0 [(9, 0), (0, a1)] [] w := by
  unfold wp_X_personNumbered at h
  refine pv_iload_n (n := 1) d_X_personNumbered_0 rfl rfl rfl ?_
  refine pv_bipush (v := 12) (n := 3) d_X_personNumbered_1 (by decide) rfl ?_
  refine pv_callS (n := 6) [(0, a1), (0, 12)] [] (con_X_checkIndex hl0 h) q_91 q_92 q_62 q_90 pyo_X_checkIndex (by decide) rfl rfl d_X_personNumbered_3 rfl (fun w1 r2 h _ => ?_) (fun _ _ h => pvx_out rfl h)
  show pw_V l g cx_X_personNumbered Q X 6 [(9, 0), (0, a1)] [] w1
  refine pv_aload_n (n := 7) d_X_personNumbered_6 rfl rfl rfl ?_
  obtain ⟨g3, h⟩ := h
  refine gt_X_17 (n := 10) rfl d_X_personNumbered_7 (by decide) g3 rfl ?_
  refine pv_iload_n (n := 11) d_X_personNumbered_10 rfl rfl rfl ?_
  obtain ⟨g4, h⟩ := h
  refine pv_aald (n := 12) (f := 15) (F := 4) (C := "Peatland$Person") (by decide) (Or.inr ⟨rfl, rfl⟩) (fun _ => rfl) d_X_personNumbered_11 (by decide) g4 rfl (fun _ => ?_)
  exact pv_aret rfl (Or.inl ⟨_, rfl⟩) rfl d_X_personNumbered_12 h
set_option maxHeartbeats 4000000 in
set_option maxRecDepth 20000 in
theorem con_X_personNumbered {l : Launch} {g : pw_G} {Q : pw_W → Int32 → Prop} {X : pw_W → Nat → Prop} (hl0 : l.stackTraces = false) {w : pw_W} {a1 : Int32} (h : wp_X_personNumbered w a1 Q X) : pw_Con l g y_X_personNumbered cx_X_personNumbered [(9, 0), (0, a1)] w Q X :=
  pw_con (by decide +kernel) rfl rfl hl0 rfl (Nat.le_of_ble_eq_true rfl) (by simp) (vw_X_personNumbered hl0 h)
theorem d_Square_moveTo_0 : decode (pw_cc cx_Square_moveTo) 0 = .ok (.aload_n 0, 1) := by decide +kernel
theorem d_Square_moveTo_1 : decode (pw_cc cx_Square_moveTo) 1 = .ok (.getfield 31, 3) := by decide +kernel
theorem d_Square_moveTo_4 : decode (pw_cc cx_Square_moveTo) 4 = .ok (.dup, 1) := by decide +kernel
theorem d_Square_moveTo_5 : decode (pw_cc cx_Square_moveTo) 5 = .ok (.getfield 38, 3) := by decide +kernel
theorem d_Square_moveTo_8 : decode (pw_cc cx_Square_moveTo) 8 = .ok (.iconst 1, 1) := by decide +kernel
theorem d_Square_moveTo_9 : decode (pw_cc cx_Square_moveTo) 9 = .ok (.isub, 1) := by decide +kernel
theorem d_Square_moveTo_10 : decode (pw_cc cx_Square_moveTo) 10 = .ok (.putfield 38, 3) := by decide +kernel
theorem d_Square_moveTo_13 : decode (pw_cc cx_Square_moveTo) 13 = .ok (.aload_n 1, 1) := by decide +kernel
theorem d_Square_moveTo_14 : decode (pw_cc cx_Square_moveTo) 14 = .ok (.dup, 1) := by decide +kernel
theorem d_Square_moveTo_15 : decode (pw_cc cx_Square_moveTo) 15 = .ok (.getfield 38, 3) := by decide +kernel
theorem d_Square_moveTo_18 : decode (pw_cc cx_Square_moveTo) 18 = .ok (.iconst 1, 1) := by decide +kernel
theorem d_Square_moveTo_19 : decode (pw_cc cx_Square_moveTo) 19 = .ok (.iadd, 1) := by decide +kernel
theorem d_Square_moveTo_20 : decode (pw_cc cx_Square_moveTo) 20 = .ok (.putfield 38, 3) := by decide +kernel
theorem d_Square_moveTo_23 : decode (pw_cc cx_Square_moveTo) 23 = .ok (.aload_n 0, 1) := by decide +kernel
theorem d_Square_moveTo_24 : decode (pw_cc cx_Square_moveTo) 24 = .ok (.aload_n 1, 1) := by decide +kernel
theorem d_Square_moveTo_25 : decode (pw_cc cx_Square_moveTo) 25 = .ok (.putfield 31, 3) := by decide +kernel
theorem d_Square_moveTo_28 : decode (pw_cc cx_Square_moveTo) 28 = .ok (.aload_n 0, 1) := by decide +kernel
theorem d_Square_moveTo_29 : decode (pw_cc cx_Square_moveTo) 29 = .ok (.getfield 15, 3) := by decide +kernel
theorem d_Square_moveTo_32 : decode (pw_cc cx_Square_moveTo) 32 = .ok (.aload_n 0, 1) := by decide +kernel
theorem d_Square_moveTo_33 : decode (pw_cc cx_Square_moveTo) 33 = .ok (.getfield 9, 3) := by decide +kernel
theorem d_Square_moveTo_36 : decode (pw_cc cx_Square_moveTo) 36 = .ok (.arraylength, 1) := by decide +kernel
theorem d_Square_moveTo_37 : decode (pw_cc cx_Square_moveTo) 37 = .ok (.if_icmp .lt 20, 3) := by decide +kernel
theorem d_Square_moveTo_40 : decode (pw_cc cx_Square_moveTo) 40 = .ok (.aload_n 0, 1) := by decide +kernel
theorem d_Square_moveTo_41 : decode (pw_cc cx_Square_moveTo) 41 = .ok (.aload_n 0, 1) := by decide +kernel
theorem d_Square_moveTo_42 : decode (pw_cc cx_Square_moveTo) 42 = .ok (.getfield 9, 3) := by decide +kernel
theorem d_Square_moveTo_45 : decode (pw_cc cx_Square_moveTo) 45 = .ok (.iconst 2, 1) := by decide +kernel
theorem d_Square_moveTo_46 : decode (pw_cc cx_Square_moveTo) 46 = .ok (.aload_n 0, 1) := by decide +kernel
theorem d_Square_moveTo_47 : decode (pw_cc cx_Square_moveTo) 47 = .ok (.getfield 15, 3) := by decide +kernel
theorem d_Square_moveTo_50 : decode (pw_cc cx_Square_moveTo) 50 = .ok (.imul, 1) := by decide +kernel
theorem d_Square_moveTo_51 : decode (pw_cc cx_Square_moveTo) 51 = .ok (.invokestatic 41, 3) := by decide +kernel
theorem d_Square_moveTo_54 : decode (pw_cc cx_Square_moveTo) 54 = .ok (.putfield 9, 3) := by decide +kernel
theorem d_Square_moveTo_57 : decode (pw_cc cx_Square_moveTo) 57 = .ok (.aload_n 0, 1) := by decide +kernel
theorem d_Square_moveTo_58 : decode (pw_cc cx_Square_moveTo) 58 = .ok (.getfield 9, 3) := by decide +kernel
theorem d_Square_moveTo_61 : decode (pw_cc cx_Square_moveTo) 61 = .ok (.aload_n 0, 1) := by decide +kernel
theorem d_Square_moveTo_62 : decode (pw_cc cx_Square_moveTo) 62 = .ok (.getfield 15, 3) := by decide +kernel
theorem d_Square_moveTo_65 : decode (pw_cc cx_Square_moveTo) 65 = .ok (.aload_n 1, 1) := by decide +kernel
theorem d_Square_moveTo_66 : decode (pw_cc cx_Square_moveTo) 66 = .ok (.getfield 35, 3) := by decide +kernel
theorem d_Square_moveTo_69 : decode (pw_cc cx_Square_moveTo) 69 = .ok (.iastore, 1) := by decide +kernel
theorem d_Square_moveTo_70 : decode (pw_cc cx_Square_moveTo) 70 = .ok (.aload_n 0, 1) := by decide +kernel
theorem d_Square_moveTo_71 : decode (pw_cc cx_Square_moveTo) 71 = .ok (.dup, 1) := by decide +kernel
theorem d_Square_moveTo_72 : decode (pw_cc cx_Square_moveTo) 72 = .ok (.getfield 15, 3) := by decide +kernel
theorem d_Square_moveTo_75 : decode (pw_cc cx_Square_moveTo) 75 = .ok (.iconst 1, 1) := by decide +kernel
theorem d_Square_moveTo_76 : decode (pw_cc cx_Square_moveTo) 76 = .ok (.iadd, 1) := by decide +kernel
theorem d_Square_moveTo_77 : decode (pw_cc cx_Square_moveTo) 77 = .ok (.putfield 15, 3) := by decide +kernel
theorem d_Square_moveTo_80 : decode (pw_cc cx_Square_moveTo) 80 = .ok (.return_, 1) := by decide +kernel
set_option maxHeartbeats 4000000 in
set_option maxRecDepth 20000 in
def jp_Square_moveTo_57 (Q : pw_W → Int32 → Prop) (X : pw_W → Nat → Prop) (a0 a1 : Int32) (w : pw_W) : Prop := 0 ≤ a0 ∧ 0 ≤ a1 ∧ 0 ≤ (w.1 6 (pw_i a0) 2) ∧ pw_jn (w.1 6 (pw_i a0) 3) (pw_ln w 10 (pw_i (w.1 6 (pw_i a0) 2))) ∧ ∀ w5, w5 = pw_ps w 10 (pw_i (w.1 6 (pw_i a0) 2)) (pw_i (w.1 6 (pw_i a0) 3)) (w.1 3 (pw_i a1) 0) → ∀ w7, w7 = pw_ps w5 6 (pw_i a0) 3 ((w5.1 6 (pw_i a0) 3) + 1) → Q w7 0
set_option maxHeartbeats 4000000 in
set_option maxRecDepth 20000 in
theorem vjp_Square_moveTo_57 {l : Launch} {g : pw_G} {Q : pw_W → Int32 → Prop} {X : pw_W → Nat → Prop} (hl0 : l.stackTraces = false) (a0 a1 : Int32) (w : pw_W) (h : jp_Square_moveTo_57 Q X a0 a1 w) : pw_V l g cx_Square_moveTo Q X 57 [(8, a0), (5, a1)] [] w := by
  unfold jp_Square_moveTo_57 at h
  refine pv_aload_n (n := 58) d_Square_moveTo_57 rfl rfl rfl ?_
  obtain ⟨g1, h⟩ := h
  refine gt_Square_9 (n := 61) rfl d_Square_moveTo_58 g1 rfl ?_
  refine pv_aload_n (n := 62) d_Square_moveTo_61 rfl rfl rfl ?_
  refine gt_Square_15 (n := 65) rfl d_Square_moveTo_62 g1 rfl ?_
  refine pv_aload_n (n := 66) d_Square_moveTo_65 rfl rfl rfl ?_
  obtain ⟨g2, h⟩ := h
  refine gt_Square_35 (n := 69) rfl d_Square_moveTo_66 g2 rfl ?_
  obtain ⟨g3, h⟩ := h
  obtain ⟨g4, h⟩ := h
  refine pv_iast1 (n := 70) (f := 10) (by decide) rfl (fun _ => rfl) d_Square_moveTo_69 g3 g4 rfl (fun w5 e6 => ?_)
  replace h := h w5 e6
  refine pv_aload_n (n := 71) d_Square_moveTo_70 rfl rfl rfl ?_
  refine pv_dup (n := 72) d_Square_moveTo_71 (by decide) rfl ?_
  refine gt_Square_15 (n := 75) rfl d_Square_moveTo_72 g1 rfl ?_
  refine pv_iconst (v := 1) (n := 76) d_Square_moveTo_75 (by decide) rfl ?_
  refine pv_iadd (n := 77) d_Square_moveTo_76 rfl ?_
  refine pt_Square_15 (n := 80) rfl d_Square_moveTo_77 g1 rfl (fun w7 e8 => ?_)
  replace h := h w7 e8
  exact pv_vret rfl rfl d_Square_moveTo_80 h
set_option maxHeartbeats 4000000 in
set_option maxRecDepth 20000 in
def wp_Square_moveTo (w : pw_W) (a0 a1 : Int32) (Q : pw_W → Int32 → Prop) (X : pw_W → Nat → Prop) : Prop := 0 ≤ a0 ∧ 0 ≤ (w.1 6 (pw_i a0) 1) ∧ ∀ w11, w11 = pw_ps w 3 (pw_i (w.1 6 (pw_i a0) 1)) 4 ((w.1 3 (pw_i (w.1 6 (pw_i a0) 1)) 4) - 1) → 0 ≤ a1 ∧ ∀ w14, w14 = pw_ps w11 3 (pw_i a1) 4 ((w11.1 3 (pw_i a1) 4) + 1) → ∀ w16, w16 = pw_ps w14 6 (pw_i a0) 1 a1 → 0 ≤ (w16.1 6 (pw_i a0) 2) ∧ ((w16.1 6 (pw_i a0) 3) < (nI (pw_ln w16 10 (pw_i (w16.1 6 (pw_i a0) 2)))) → jp_Square_moveTo_57 Q X a0 a1 w16) ∧ (¬ (w16.1 6 (pw_i a0) 3) < (nI (pw_ln w16 10 (pw_i (w16.1 6 (pw_i a0) 2)))) → 0 ≤ ((2 : Int32) * (w16.1 6 (pw_i a0) 3)) ∧ (pw_i ((2 : Int32) * (w16.1 6 (pw_i a0) 3))) ≠ pw_ln w16 10 (pw_i (w16.1 6 (pw_i a0) 2)) ∧ ((pw_i ((2 : Int32) * (w16.1 6 (pw_i a0) 3))) < 100000 ∧ pw_ln w16 10 (pw_i (w16.1 6 (pw_i a0) 2)) < 100000) ∧ pw_rm w16 10 (pw_i ((2 : Int32) * (w16.1 6 (pw_i a0) 3))) ∧ ∀ w24, w24 = pw_cy w16 10 (pw_i (w16.1 6 (pw_i a0) 2)) (pw_i ((2 : Int32) * (w16.1 6 (pw_i a0) 3))) → ∀ w26, w26 = pw_ps w24 6 (pw_i a0) 2 (nI (pw_nv w16 10)) → jp_Square_moveTo_57 Q X a0 a1 w26)
set_option maxHeartbeats 4000000 in
set_option maxRecDepth 20000 in
theorem vw_Square_moveTo {l : Launch} {g : pw_G} {Q : pw_W → Int32 → Prop} {X : pw_W → Nat → Prop} (hl0 : l.stackTraces = false) {w : pw_W} {a0 a1 : Int32} (h : wp_Square_moveTo w a0 a1 Q X) : pw_V l g cx_Square_moveTo Q X 0 [(8, a0), (5, a1)] [] w := by
  unfold wp_Square_moveTo at h
  refine pv_aload_n (n := 1) d_Square_moveTo_0 rfl rfl rfl ?_
  obtain ⟨g9, h⟩ := h
  refine gt_Square_31 (n := 4) rfl d_Square_moveTo_1 g9 rfl ?_
  refine pv_dup (n := 5) d_Square_moveTo_4 (by decide) rfl ?_
  obtain ⟨g10, h⟩ := h
  refine gt_Square_38 (n := 8) rfl d_Square_moveTo_5 g10 rfl ?_
  refine pv_iconst (v := 1) (n := 9) d_Square_moveTo_8 (by decide) rfl ?_
  refine pv_isub (n := 10) d_Square_moveTo_9 rfl ?_
  refine pt_Square_38 (n := 13) rfl d_Square_moveTo_10 g10 rfl (fun w11 e12 => ?_)
  replace h := h w11 e12
  refine pv_aload_n (n := 14) d_Square_moveTo_13 rfl rfl rfl ?_
  refine pv_dup (n := 15) d_Square_moveTo_14 (by decide) rfl ?_
  obtain ⟨g13, h⟩ := h
  refine gt_Square_38 (n := 18) rfl d_Square_moveTo_15 g13 rfl ?_
  refine pv_iconst (v := 1) (n := 19) d_Square_moveTo_18 (by decide) rfl ?_
  refine pv_iadd (n := 20) d_Square_moveTo_19 rfl ?_
  refine pt_Square_38 (n := 23) rfl d_Square_moveTo_20 g13 rfl (fun w14 e15 => ?_)
  replace h := h w14 e15
  refine pv_aload_n (n := 24) d_Square_moveTo_23 rfl rfl rfl ?_
  refine pv_aload_n (n := 25) d_Square_moveTo_24 rfl rfl rfl ?_
  refine pt_Square_31 (n := 28) rfl d_Square_moveTo_25 g9 rfl (fun w16 e17 => ?_)
  replace h := h w16 e17
  refine pv_aload_n (n := 29) d_Square_moveTo_28 rfl rfl rfl ?_
  refine gt_Square_15 (n := 32) rfl d_Square_moveTo_29 g9 rfl ?_
  refine pv_aload_n (n := 33) d_Square_moveTo_32 rfl rfl rfl ?_
  refine gt_Square_9 (n := 36) rfl d_Square_moveTo_33 g9 rfl ?_
  obtain ⟨g18, h⟩ := h
  refine pv_alen (n := 37) (f := 10) (by decide) ⟨_, rfl⟩ d_Square_moveTo_36 g18 rfl ?_
  refine pv_icmp_lt (n := 40) (tgt := 57) d_Square_moveTo_37 (by decide) rfl (fun c19 => ?_) (fun c19 => ?_)
  · replace h := h.1 c19
    exact vjp_Square_moveTo_57 hl0 _ _ _ h
  · replace h := h.2 c19
    refine pv_aload_n (n := 41) d_Square_moveTo_40 rfl rfl rfl ?_
    refine pv_aload_n (n := 42) d_Square_moveTo_41 rfl rfl rfl ?_
    refine gt_Square_9 (n := 45) rfl d_Square_moveTo_42 g9 rfl ?_
    refine pv_iconst (v := 2) (n := 46) d_Square_moveTo_45 (by decide) rfl ?_
    refine pv_aload_n (n := 47) d_Square_moveTo_46 rfl rfl rfl ?_
    refine gt_Square_15 (n := 50) rfl d_Square_moveTo_47 g9 rfl ?_
    refine pv_imul (n := 51) d_Square_moveTo_50 rfl ?_
    obtain ⟨g20, h⟩ := h
    obtain ⟨g21, h⟩ := h
    obtain ⟨g22, h⟩ := h
    obtain ⟨g23, h⟩ := h
    refine pv_acopy (n := 54) q_109 (by decide) rfl d_Square_moveTo_51 g18 g20 g21 g22 g23 rfl (fun w24 e25 => ?_)
    replace h := h w24 e25
    refine pt_Square_9 (n := 57) rfl d_Square_moveTo_54 g9 rfl (fun w26 e27 => ?_)
    replace h := h w26 e27
    exact vjp_Square_moveTo_57 hl0 _ _ _ h
set_option maxHeartbeats 4000000 in
set_option maxRecDepth 20000 in
theorem con_Square_moveTo {l : Launch} {g : pw_G} {Q : pw_W → Int32 → Prop} {X : pw_W → Nat → Prop} (hl0 : l.stackTraces = false) {w : pw_W} {a0 a1 : Int32} (h : wp_Square_moveTo w a0 a1 Q X) : pw_Con l g y_Square_moveTo cx_Square_moveTo [(8, a0), (5, a1)] w Q X :=
  pw_con (by decide +kernel) rfl rfl hl0 rfl (Nat.le_of_ble_eq_true rfl) (by simp) (vw_Square_moveTo hl0 h)
theorem d_X_grant_0 : decode (pw_cc cx_X_grant) 0 = .ok (.aload_n 0, 1) := by decide +kernel
theorem d_X_grant_1 : decode (pw_cc cx_X_grant) 1 = .ok (.iload_n 1, 1) := by decide +kernel
theorem d_X_grant_2 : decode (pw_cc cx_X_grant) 2 = .ok (.invokevirtual 61, 3) := by decide +kernel
theorem d_X_grant_5 : decode (pw_cc cx_X_grant) 5 = .ok (.astore 5, 2) := by decide +kernel
theorem d_X_grant_7 : decode (pw_cc cx_X_grant) 7 = .ok (.iload_n 2, 1) := by decide +kernel
theorem d_X_grant_8 : decode (pw_cc cx_X_grant) 8 = .ok (.iload_n 3, 1) := by decide +kernel
theorem d_X_grant_9 : decode (pw_cc cx_X_grant) 9 = .ok (.invokestatic 65, 3) := by decide +kernel
theorem d_X_grant_12 : decode (pw_cc cx_X_grant) 12 = .ok (.aload_n 0, 1) := by decide +kernel
theorem d_X_grant_13 : decode (pw_cc cx_X_grant) 13 = .ok (.iload 4, 2) := by decide +kernel
theorem d_X_grant_15 : decode (pw_cc cx_X_grant) 15 = .ok (.invokevirtual 69, 3) := by decide +kernel
theorem d_X_grant_18 : decode (pw_cc cx_X_grant) 18 = .ok (.astore 6, 2) := by decide +kernel
theorem d_X_grant_20 : decode (pw_cc cx_X_grant) 20 = .ok (.iload_n 2, 1) := by decide +kernel
theorem d_X_grant_21 : decode (pw_cc cx_X_grant) 21 = .ok (.iload_n 3, 1) := by decide +kernel
theorem d_X_grant_22 : decode (pw_cc cx_X_grant) 22 = .ok (.invokestatic 73, 3) := by decide +kernel
theorem d_X_grant_25 : decode (pw_cc cx_X_grant) 25 = .ok (.aload 6, 2) := by decide +kernel
theorem d_X_grant_27 : decode (pw_cc cx_X_grant) 27 = .ok (.getfield 76, 3) := by decide +kernel
theorem d_X_grant_30 : decode (pw_cc cx_X_grant) 30 = .ok (.invokestatic 80, 3) := by decide +kernel
theorem d_X_grant_33 : decode (pw_cc cx_X_grant) 33 = .ok (.aload_n 0, 1) := by decide +kernel
theorem d_X_grant_34 : decode (pw_cc cx_X_grant) 34 = .ok (.aload 5, 2) := by decide +kernel
theorem d_X_grant_36 : decode (pw_cc cx_X_grant) 36 = .ok (.iload_n 2, 1) := by decide +kernel
theorem d_X_grant_37 : decode (pw_cc cx_X_grant) 37 = .ok (.iload_n 3, 1) := by decide +kernel
theorem d_X_grant_38 : decode (pw_cc cx_X_grant) 38 = .ok (.invokevirtual 84, 3) := by decide +kernel
theorem d_X_grant_41 : decode (pw_cc cx_X_grant) 41 = .ok (.invokestatic 80, 3) := by decide +kernel
theorem d_X_grant_44 : decode (pw_cc cx_X_grant) 44 = .ok (.aload_n 0, 1) := by decide +kernel
theorem d_X_grant_45 : decode (pw_cc cx_X_grant) 45 = .ok (.getfield 24, 3) := by decide +kernel
theorem d_X_grant_48 : decode (pw_cc cx_X_grant) 48 = .ok (.invokeinterface 88 1, 5) := by decide +kernel
theorem d_X_grant_53 : decode (pw_cc cx_X_grant) 53 = .ok (.bipush 40, 2) := by decide +kernel
theorem d_X_grant_55 : decode (pw_cc cx_X_grant) 55 = .ok (.if_icmp .ge 7, 3) := by decide +kernel
theorem d_X_grant_58 : decode (pw_cc cx_X_grant) 58 = .ok (.iconst 1, 1) := by decide +kernel
theorem d_X_grant_59 : decode (pw_cc cx_X_grant) 59 = .ok (.goto 4, 3) := by decide +kernel
theorem d_X_grant_62 : decode (pw_cc cx_X_grant) 62 = .ok (.iconst 0, 1) := by decide +kernel
theorem d_X_grant_63 : decode (pw_cc cx_X_grant) 63 = .ok (.invokestatic 80, 3) := by decide +kernel
theorem d_X_grant_66 : decode (pw_cc cx_X_grant) 66 = .ok (.aload_n 0, 1) := by decide +kernel
theorem d_X_grant_67 : decode (pw_cc cx_X_grant) 67 = .ok (.getfield 34, 3) := by decide +kernel
theorem d_X_grant_70 : decode (pw_cc cx_X_grant) 70 = .ok (.invokeinterface 88 1, 5) := by decide +kernel
theorem d_X_grant_75 : decode (pw_cc cx_X_grant) 75 = .ok (.aload_n 0, 1) := by decide +kernel
theorem d_X_grant_76 : decode (pw_cc cx_X_grant) 76 = .ok (.aload 5, 2) := by decide +kernel
theorem d_X_grant_78 : decode (pw_cc cx_X_grant) 78 = .ok (.invokevirtual 92, 3) := by decide +kernel
theorem d_X_grant_81 : decode (pw_cc cx_X_grant) 81 = .ok (.iadd, 1) := by decide +kernel
theorem d_X_grant_82 : decode (pw_cc cx_X_grant) 82 = .ok (.bipush 80, 2) := by decide +kernel
theorem d_X_grant_84 : decode (pw_cc cx_X_grant) 84 = .ok (.if_icmp .gt 7, 3) := by decide +kernel
theorem d_X_grant_87 : decode (pw_cc cx_X_grant) 87 = .ok (.iconst 1, 1) := by decide +kernel
theorem d_X_grant_88 : decode (pw_cc cx_X_grant) 88 = .ok (.goto 4, 3) := by decide +kernel
theorem d_X_grant_91 : decode (pw_cc cx_X_grant) 91 = .ok (.iconst 0, 1) := by decide +kernel
theorem d_X_grant_92 : decode (pw_cc cx_X_grant) 92 = .ok (.invokestatic 80, 3) := by decide +kernel
theorem d_X_grant_95 : decode (pw_cc cx_X_grant) 95 = .ok (.aload_n 0, 1) := by decide +kernel
theorem d_X_grant_96 : decode (pw_cc cx_X_grant) 96 = .ok (.aload 6, 2) := by decide +kernel
theorem d_X_grant_98 : decode (pw_cc cx_X_grant) 98 = .ok (.invokevirtual 96, 3) := by decide +kernel
theorem d_X_grant_101 : decode (pw_cc cx_X_grant) 101 = .ok (.astore 7, 2) := by decide +kernel
theorem d_X_grant_103 : decode (pw_cc cx_X_grant) 103 = .ok (.aload_n 0, 1) := by decide +kernel
theorem d_X_grant_104 : decode (pw_cc cx_X_grant) 104 = .ok (.aload 5, 2) := by decide +kernel
theorem d_X_grant_106 : decode (pw_cc cx_X_grant) 106 = .ok (.aload 7, 2) := by decide +kernel
theorem d_X_grant_108 : decode (pw_cc cx_X_grant) 108 = .ok (.invokevirtual 100, 3) := by decide +kernel
theorem d_X_grant_111 : decode (pw_cc cx_X_grant) 111 = .ok (.aload_n 0, 1) := by decide +kernel
theorem d_X_grant_112 : decode (pw_cc cx_X_grant) 112 = .ok (.getfield 11, 3) := by decide +kernel
theorem d_X_grant_115 : decode (pw_cc cx_X_grant) 115 = .ok (.astore 8, 2) := by decide +kernel
theorem d_X_grant_117 : decode (pw_cc cx_X_grant) 117 = .ok (.aload 8, 2) := by decide +kernel
theorem d_X_grant_119 : decode (pw_cc cx_X_grant) 119 = .ok (.arraylength, 1) := by decide +kernel
theorem d_X_grant_120 : decode (pw_cc cx_X_grant) 120 = .ok (.istore 9, 2) := by decide +kernel
theorem d_X_grant_122 : decode (pw_cc cx_X_grant) 122 = .ok (.iconst 0, 1) := by decide +kernel
theorem d_X_grant_123 : decode (pw_cc cx_X_grant) 123 = .ok (.istore 10, 2) := by decide +kernel
theorem d_X_grant_125 : decode (pw_cc cx_X_grant) 125 = .ok (.iload 10, 2) := by decide +kernel
theorem d_X_grant_127 : decode (pw_cc cx_X_grant) 127 = .ok (.iload 9, 2) := by decide +kernel
theorem d_X_grant_129 : decode (pw_cc cx_X_grant) 129 = .ok (.if_icmp .ge 46, 3) := by decide +kernel
theorem d_X_grant_132 : decode (pw_cc cx_X_grant) 132 = .ok (.aload 8, 2) := by decide +kernel
theorem d_X_grant_134 : decode (pw_cc cx_X_grant) 134 = .ok (.iload 10, 2) := by decide +kernel
theorem d_X_grant_136 : decode (pw_cc cx_X_grant) 136 = .ok (.aaload, 1) := by decide +kernel
theorem d_X_grant_137 : decode (pw_cc cx_X_grant) 137 = .ok (.astore 11, 2) := by decide +kernel
theorem d_X_grant_139 : decode (pw_cc cx_X_grant) 139 = .ok (.aload 11, 2) := by decide +kernel
theorem d_X_grant_141 : decode (pw_cc cx_X_grant) 141 = .ok (.getfield 104, 3) := by decide +kernel
theorem d_X_grant_144 : decode (pw_cc cx_X_grant) 144 = .ok (.aload 5, 2) := by decide +kernel
theorem d_X_grant_146 : decode (pw_cc cx_X_grant) 146 = .ok (.if_acmp .ne 23, 3) := by decide +kernel
theorem d_X_grant_149 : decode (pw_cc cx_X_grant) 149 = .ok (.aload 11, 2) := by decide +kernel
theorem d_X_grant_151 : decode (pw_cc cx_X_grant) 151 = .ok (.getfield 108, 3) := by decide +kernel
theorem d_X_grant_154 : decode (pw_cc cx_X_grant) 154 = .ok (.iload_n 2, 1) := by decide +kernel
theorem d_X_grant_155 : decode (pw_cc cx_X_grant) 155 = .ok (.iload_n 3, 1) := by decide +kernel
theorem d_X_grant_156 : decode (pw_cc cx_X_grant) 156 = .ok (.invokestatic 111, 3) := by decide +kernel
theorem d_X_grant_159 : decode (pw_cc cx_X_grant) 159 = .ok (.ifCond .eq 10, 3) := by decide +kernel
theorem d_X_grant_162 : decode (pw_cc cx_X_grant) 162 = .ok (.aload 11, 2) := by decide +kernel
theorem d_X_grant_164 : decode (pw_cc cx_X_grant) 164 = .ok (.aload 7, 2) := by decide +kernel
theorem d_X_grant_166 : decode (pw_cc cx_X_grant) 166 = .ok (.invokevirtual 115, 3) := by decide +kernel
theorem d_X_grant_169 : decode (pw_cc cx_X_grant) 169 = .ok (.iinc 10 1, 3) := by decide +kernel
theorem d_X_grant_172 : decode (pw_cc cx_X_grant) 172 = .ok (.goto (-47), 3) := by decide +kernel
theorem d_X_grant_175 : decode (pw_cc cx_X_grant) 175 = .ok (.aload 7, 2) := by decide +kernel
theorem d_X_grant_177 : decode (pw_cc cx_X_grant) 177 = .ok (.getfield 119, 3) := by decide +kernel
theorem d_X_grant_180 : decode (pw_cc cx_X_grant) 180 = .ok (.ireturn, 1) := by decide +kernel
set_option maxHeartbeats 4000000 in
set_option maxRecDepth 20000 in
def lp_X_grant_125 (Q : pw_W → Int32 → Prop) (X : pw_W → Nat → Prop) : Nat → Int32 → Int32 → Int32 → Int32 → Int32 → Int32 → pw_W → Prop := fun k => Nat.rec (motive := fun _ => Int32 → Int32 → Int32 → Int32 → Int32 → Int32 → pw_W → Prop) (fun _ _ _ _ _ _ _ => False) (fun _ ih a2 a3 a5 a7 a9 a10 w => (a9 ≤ a10 → 0 ≤ a7 ∧ Q w (w.1 3 (pw_i a7) 0)) ∧ (¬ a9 ≤ a10 → pw_jn a10 (pw_ln w 14 0) ∧ ∀ v4, v4 = (w.1 14 0 (pw_i a10)) → 0 ≤ v4 ∧ (¬ (w.1 6 (pw_i v4) 1) = a5 → ih a2 a3 a5 a7 a9 (a10 + 1) w) ∧ ((w.1 6 (pw_i v4) 1) = a5 → wp_X_isInField w (w.1 6 (pw_i v4) 0) a2 a3 (fun w8 r9 => (r9 = 0 → ih a2 a3 a5 a7 a9 (a10 + 1) w8) ∧ (¬ r9 = 0 → wp_Square_moveTo w8 v4 a7 (fun w11 r12 => ih a2 a3 a5 a7 a9 (a10 + 1) w11) (fun _ _ => False))) (fun _ _ => False)))) k
set_option maxHeartbeats 4000000 in
set_option maxRecDepth 20000 in
theorem lp_X_grant_125_s {Q : pw_W → Int32 → Prop} {X : pw_W → Nat → Prop}  {k : Nat} {a2 a3 a5 a7 a9 a10 : Int32} {w : pw_W} : lp_X_grant_125 Q X (k + 1) a2 a3 a5 a7 a9 a10 w = (let ih := lp_X_grant_125 Q X k; (a9 ≤ a10 → 0 ≤ a7 ∧ Q w (w.1 3 (pw_i a7) 0)) ∧ (¬ a9 ≤ a10 → pw_jn a10 (pw_ln w 14 0) ∧ ∀ v4, v4 = (w.1 14 0 (pw_i a10)) → 0 ≤ v4 ∧ (¬ (w.1 6 (pw_i v4) 1) = a5 → ih a2 a3 a5 a7 a9 (a10 + 1) w) ∧ ((w.1 6 (pw_i v4) 1) = a5 → wp_X_isInField w (w.1 6 (pw_i v4) 0) a2 a3 (fun w8 r9 => (r9 = 0 → ih a2 a3 a5 a7 a9 (a10 + 1) w8) ∧ (¬ r9 = 0 → wp_Square_moveTo w8 v4 a7 (fun w11 r12 => ih a2 a3 a5 a7 a9 (a10 + 1) w11) (fun _ _ => False))) (fun _ _ => False)))) := rfl
set_option maxHeartbeats 4000000 in
set_option maxRecDepth 20000 in
theorem vlp_X_grant_125 {l : Launch} {g : pw_G} {Q : pw_W → Int32 → Prop} {X : pw_W → Nat → Prop} (hl0 : l.stackTraces = false) : ∀ (k : Nat) (a2 a3 a5 a7 a9 a10 : Int32) (w : pw_W), lp_X_grant_125 Q X k a2 a3 a5 a7 a9 a10 w → pw_V l g cx_X_grant Q X 125 [(1, 0), (1, 0), (0, a2), (0, a3), (1, 0), (5, a5), (1, 0), (5, a7), (16, 0), (0, a9), (0, a10), (1, 0)] [] w := by
  intro k; induction k with
  | zero => intro _ _ _ _ _ _ _ h; exact h.elim
  | succ k ih =>
    intro a2 a3 a5 a7 a9 a10 w h
    rw [lp_X_grant_125_s] at h
    refine pv_iload (n := 127) d_X_grant_125 rfl rfl ?_
    refine pv_iload (n := 129) d_X_grant_127 rfl rfl ?_
    refine pv_icmp_ge (n := 132) (tgt := 175) d_X_grant_129 (by decide) rfl (fun c1 => ?_) (fun c1 => ?_)
    · replace h := h.1 c1
      refine pv_aload (n := 177) d_X_grant_175 rfl rfl ?_
      obtain ⟨g2, h⟩ := h
      refine gt_X_119 (n := 180) rfl d_X_grant_177 g2 rfl ?_
      exact pv_iret rfl rfl d_X_grant_180 h
    · replace h := h.2 c1
      refine pv_aload (n := 134) d_X_grant_132 rfl rfl ?_
      refine pv_iload (n := 136) d_X_grant_134 rfl rfl ?_
      obtain ⟨g3, h⟩ := h
      refine pv_aald (n := 137) (f := 14) (F := 6) (C := "Peatland$Square") (by decide) (Or.inl ⟨rfl, rfl⟩) (fun _ => rfl) d_X_grant_136 (by decide) g3 rfl (fun _ => ?_)
      refine pv_nm (fun v4 e5 => ?_)
      replace h := h v4 e5
      refine pv_astore (n := 139) (L' := [(1, 0), (1, 0), (0, a2), (0, a3), (1, 0), (5, a5), (1, 0), (5, a7), (16, 0), (0, a9), (0, a10), (8, v4)]) d_X_grant_137 (by decide) rfl rfl ?_
      refine pv_aload (n := 141) d_X_grant_139 rfl rfl ?_
      obtain ⟨g6, h⟩ := h
      refine gt_X_104 (n := 144) rfl d_X_grant_141 g6 rfl ?_
      refine pv_aload (n := 146) d_X_grant_144 rfl rfl ?_
      refine pv_acmp_ne (n := 149) (tgt := 169) d_X_grant_146 (by decide) (by decide) rfl (fun c7 => ?_) (fun c7 => ?_)
      · replace h := h.1 c7
        refine pv_iinc (v := (a10 + 1)) (n := 172) (L1 := [(1, 0), (1, 0), (0, a2), (0, a3), (1, 0), (5, a5), (1, 0), (5, a7), (16, 0), (0, a9), (0, (a10 + 1)), (8, v4)]) d_X_grant_169 rfl rfl rfl (by decide) rfl ?_
        refine pv_goto (tgt := 125) d_X_grant_172 (by decide) ?_
        refine pv_unset (i := 11) (L1 := [(1, 0), (1, 0), (0, a2), (0, a3), (1, 0), (5, a5), (1, 0), (5, a7), (16, 0), (0, a9), (0, (a10 + 1)), (1, 0)]) rfl ?_
        exact ih _ _ _ _ _ _ _ h
      · replace h := h.2 c7
        refine pv_aload (n := 151) d_X_grant_149 rfl rfl ?_
        refine gt_X_108 (n := 154) rfl d_X_grant_151 g6 rfl ?_
        refine pv_iload_n (n := 155) d_X_grant_154 rfl rfl rfl ?_
        refine pv_iload_n (n := 156) d_X_grant_155 rfl rfl rfl ?_
        refine pv_callS (n := 159) [(0, (w.1 6 (pw_i v4) 0)), (0, a2), (0, a3)] [] (con_X_isInField hl0 h) q_101 q_102 q_62 q_100 pyo_X_isInField (by decide) rfl rfl d_X_grant_156 rfl (fun w8 r9 h _ => ?_) (fun _ _ h => h.elim)
        show pw_V l g cx_X_grant Q X 159 [(1, 0), (1, 0), (0, a2), (0, a3), (1, 0), (5, a5), (1, 0), (5, a7), (16, 0), (0, a9), (0, a10), (8, v4)] [(0, r9)] w8
        refine pv_if_eq (n := 162) (tgt := 169) d_X_grant_159 (by decide) rfl (fun c10 => ?_) (fun c10 => ?_)
        · replace h := h.1 c10
          refine pv_iinc (v := (a10 + 1)) (n := 172) (L1 := [(1, 0), (1, 0), (0, a2), (0, a3), (1, 0), (5, a5), (1, 0), (5, a7), (16, 0), (0, a9), (0, (a10 + 1)), (8, v4)]) d_X_grant_169 rfl rfl rfl (by decide) rfl ?_
          refine pv_goto (tgt := 125) d_X_grant_172 (by decide) ?_
          refine pv_unset (i := 11) (L1 := [(1, 0), (1, 0), (0, a2), (0, a3), (1, 0), (5, a5), (1, 0), (5, a7), (16, 0), (0, a9), (0, (a10 + 1)), (1, 0)]) rfl ?_
          exact ih _ _ _ _ _ _ _ h
        · replace h := h.2 c10
          refine pv_aload (n := 164) d_X_grant_162 rfl rfl ?_
          refine pv_aload (n := 166) d_X_grant_164 rfl rfl ?_
          refine pv_callV (n := 169) (x := v4) [(5, a7)] [] (con_Square_moveTo hl0 h) pw_cf6 rfl q_112 q_113 q_114 q_32 q_111 pyo_Square_moveTo (by decide) rfl rfl g6 d_X_grant_166 rfl (fun w11 r12 h _ => ?_) (fun _ _ h => h.elim)
          show pw_V l g cx_X_grant Q X 169 [(1, 0), (1, 0), (0, a2), (0, a3), (1, 0), (5, a5), (1, 0), (5, a7), (16, 0), (0, a9), (0, a10), (8, v4)] [] w11
          refine pv_iinc (v := (a10 + 1)) (n := 172) (L1 := [(1, 0), (1, 0), (0, a2), (0, a3), (1, 0), (5, a5), (1, 0), (5, a7), (16, 0), (0, a9), (0, (a10 + 1)), (8, v4)]) d_X_grant_169 rfl rfl rfl (by decide) rfl ?_
          refine pv_goto (tgt := 125) d_X_grant_172 (by decide) ?_
          refine pv_unset (i := 11) (L1 := [(1, 0), (1, 0), (0, a2), (0, a3), (1, 0), (5, a5), (1, 0), (5, a7), (16, 0), (0, a9), (0, (a10 + 1)), (1, 0)]) rfl ?_
          exact ih _ _ _ _ _ _ _ h
set_option maxHeartbeats 4000000 in
set_option maxRecDepth 20000 in
def jp_X_grant_92 (Q : pw_W → Int32 → Prop) (X : pw_W → Nat → Prop) (a2 a3 a5 a6 s0 : Int32) (w : pw_W) : Prop := wp_X_checkState w s0 (fun w13 r14 => wp_X_addParcel w13 a6 (fun w15 r16 => wp_X_bringRights w15 a5 r16 (fun w17 r18 => w17.1 7 0 0 = 0 ∧ ∀ v20, v20 = (nI (pw_ln w17 14 0)) → ∃ k22, lp_X_grant_125 Q X k22 a2 a3 a5 r16 v20 0 w17) (fun _ _ => False)) (fun _ _ => False)) X
set_option maxHeartbeats 4000000 in
set_option maxRecDepth 20000 in
theorem vjp_X_grant_92 {l : Launch} {g : pw_G} {Q : pw_W → Int32 → Prop} {X : pw_W → Nat → Prop} (hl0 : l.stackTraces = false) (a2 a3 a5 a6 s0 : Int32) (w : pw_W) (h : jp_X_grant_92 Q X a2 a3 a5 a6 s0 w) : pw_V l g cx_X_grant Q X 92 [(9, 0), (1, 0), (0, a2), (0, a3), (1, 0), (5, a5), (6, a6), (1, 0), (1, 0), (1, 0), (1, 0), (1, 0)] [(0, s0)] w := by
  unfold jp_X_grant_92 at h
  refine pv_callS (n := 95) [(0, s0)] [] (con_X_checkState hl0 h) q_124 q_125 q_62 q_123 pyo_X_checkState (by decide) rfl rfl d_X_grant_92 rfl (fun w13 r14 h _ => ?_) (fun _ _ h => pvx_out rfl h)
  show pw_V l g cx_X_grant Q X 95 [(9, 0), (1, 0), (0, a2), (0, a3), (1, 0), (5, a5), (6, a6), (1, 0), (1, 0), (1, 0), (1, 0), (1, 0)] [] w13
  refine pv_aload_n (n := 96) d_X_grant_95 rfl rfl rfl ?_
  refine pv_aload (n := 98) d_X_grant_96 rfl rfl ?_
  refine pv_callV (n := 101) (x := 0) [(6, a6)] [] (con_X_addParcel hl0 h) pw_cf7 rfl q_120 q_121 q_122 q_62 q_119 pyo_X_addParcel (by decide) rfl rfl (by decide) d_X_grant_98 rfl (fun w15 r16 h _ => ?_) (fun _ _ h => h.elim)
  show pw_V l g cx_X_grant Q X 101 [(9, 0), (1, 0), (0, a2), (0, a3), (1, 0), (5, a5), (6, a6), (1, 0), (1, 0), (1, 0), (1, 0), (1, 0)] [(5, r16)] w15
  refine pv_astore (n := 103) (L' := [(9, 0), (1, 0), (0, a2), (0, a3), (1, 0), (5, a5), (6, a6), (5, r16), (1, 0), (1, 0), (1, 0), (1, 0)]) d_X_grant_101 (by decide) rfl rfl ?_
  refine pv_aload_n (n := 104) d_X_grant_103 rfl rfl rfl ?_
  refine pv_aload (n := 106) d_X_grant_104 rfl rfl ?_
  refine pv_aload (n := 108) d_X_grant_106 rfl rfl ?_
  refine pv_callV (n := 111) (x := 0) [(5, a5), (5, r16)] [] (con_X_bringRights hl0 h) pw_cf7 rfl q_116 q_117 q_118 q_62 q_115 pyo_X_bringRights (by decide) rfl rfl (by decide) d_X_grant_108 rfl (fun w17 r18 h _ => ?_) (fun _ _ h => h.elim)
  show pw_V l g cx_X_grant Q X 111 [(9, 0), (1, 0), (0, a2), (0, a3), (1, 0), (5, a5), (6, a6), (5, r16), (1, 0), (1, 0), (1, 0), (1, 0)] [] w17
  refine pv_aload_n (n := 112) d_X_grant_111 rfl rfl rfl ?_
  obtain ⟨g19, h⟩ := h
  refine gt_X_11 (n := 115) rfl d_X_grant_112 (by decide) g19 rfl ?_
  refine pv_astore (n := 117) (L' := [(9, 0), (1, 0), (0, a2), (0, a3), (1, 0), (5, a5), (6, a6), (5, r16), (16, 0), (1, 0), (1, 0), (1, 0)]) d_X_grant_115 (by decide) rfl rfl ?_
  refine pv_aload (n := 119) d_X_grant_117 rfl rfl ?_
  refine pv_alen (n := 120) (f := 14) (by decide) ⟨_, rfl⟩ d_X_grant_119 (by decide) rfl ?_
  refine pv_nm (fun v20 e21 => ?_)
  replace h := h v20 e21
  refine pv_istore (n := 122) (L' := [(9, 0), (1, 0), (0, a2), (0, a3), (1, 0), (5, a5), (6, a6), (5, r16), (16, 0), (0, v20), (1, 0), (1, 0)]) d_X_grant_120 (by decide) rfl rfl ?_
  refine pv_iconst (v := 0) (n := 123) d_X_grant_122 (by decide) rfl ?_
  refine pv_istore (n := 125) (L' := [(9, 0), (1, 0), (0, a2), (0, a3), (1, 0), (5, a5), (6, a6), (5, r16), (16, 0), (0, v20), (0, 0), (1, 0)]) d_X_grant_123 (by decide) rfl rfl ?_
  refine pv_unset (i := 0) (L1 := [(1, 0), (1, 0), (0, a2), (0, a3), (1, 0), (5, a5), (6, a6), (5, r16), (16, 0), (0, v20), (0, 0), (1, 0)]) rfl ?_
  refine pv_unset (i := 6) (L1 := [(1, 0), (1, 0), (0, a2), (0, a3), (1, 0), (5, a5), (1, 0), (5, r16), (16, 0), (0, v20), (0, 0), (1, 0)]) rfl ?_
  obtain ⟨k22, h⟩ := h
  exact vlp_X_grant_125 hl0 _ _ _ _ _ _ _ _ h
set_option maxHeartbeats 4000000 in
set_option maxRecDepth 20000 in
def jp_X_grant_63 (Q : pw_W → Int32 → Prop) (X : pw_W → Nat → Prop) (a2 a3 a5 a6 s0 : Int32) (w : pw_W) : Prop := wp_X_checkState w s0 (fun w23 r24 => w23.1 7 0 5 = 0 ∧ wp_X_countRightsOn w23 a5 (fun w26 r27 => ((80 : Int32) < ((nI (pw_ln w23 25 0)) + r27) → jp_X_grant_92 Q X a2 a3 a5 a6 0 w26) ∧ (¬ (80 : Int32) < ((nI (pw_ln w23 25 0)) + r27) → jp_X_grant_92 Q X a2 a3 a5 a6 1 w26)) (fun _ _ => False)) X
set_option maxHeartbeats 4000000 in
set_option maxRecDepth 20000 in
theorem vjp_X_grant_63 {l : Launch} {g : pw_G} {Q : pw_W → Int32 → Prop} {X : pw_W → Nat → Prop} (hl0 : l.stackTraces = false) (a2 a3 a5 a6 s0 : Int32) (w : pw_W) (h : jp_X_grant_63 Q X a2 a3 a5 a6 s0 w) : pw_V l g cx_X_grant Q X 63 [(9, 0), (1, 0), (0, a2), (0, a3), (1, 0), (5, a5), (6, a6), (1, 0), (1, 0), (1, 0), (1, 0), (1, 0)] [(0, s0)] w := by
  unfold jp_X_grant_63 at h
  refine pv_callS (n := 66) [(0, s0)] [] (con_X_checkState hl0 h) q_124 q_125 q_62 q_123 pyo_X_checkState (by decide) rfl rfl d_X_grant_63 rfl (fun w23 r24 h _ => ?_) (fun _ _ h => pvx_out rfl h)
  show pw_V l g cx_X_grant Q X 66 [(9, 0), (1, 0), (0, a2), (0, a3), (1, 0), (5, a5), (6, a6), (1, 0), (1, 0), (1, 0), (1, 0), (1, 0)] [] w23
  refine pv_aload_n (n := 67) d_X_grant_66 rfl rfl rfl ?_
  obtain ⟨g25, h⟩ := h
  refine gt_X_34 (n := 70) rfl d_X_grant_67 (by decide) g25 rfl ?_
  refine pv_lsize (n := 75) (f := 25) (by decide) q_49 (by decide) rfl d_X_grant_70 (by decide) rfl ?_
  refine pv_aload_n (n := 76) d_X_grant_75 rfl rfl rfl ?_
  refine pv_aload (n := 78) d_X_grant_76 rfl rfl ?_
  refine pv_callV (n := 81) (x := 0) [(5, a5)] [(0, (nI (pw_ln w23 25 0)))] (con_X_countRightsOn hl0 h) pw_cf7 rfl q_127 q_128 q_129 q_62 q_126 pyo_X_countRightsOn (by decide) rfl rfl (by decide) d_X_grant_78 rfl (fun w26 r27 h _ => ?_) (fun _ _ h => h.elim)
  show pw_V l g cx_X_grant Q X 81 [(9, 0), (1, 0), (0, a2), (0, a3), (1, 0), (5, a5), (6, a6), (1, 0), (1, 0), (1, 0), (1, 0), (1, 0)] [(0, r27), (0, (nI (pw_ln w23 25 0)))] w26
  refine pv_iadd (n := 82) d_X_grant_81 rfl ?_
  refine pv_bipush (v := 80) (n := 84) d_X_grant_82 (by decide) rfl ?_
  refine pv_icmp_gt (n := 87) (tgt := 91) d_X_grant_84 (by decide) rfl (fun c28 => ?_) (fun c28 => ?_)
  · replace h := h.1 c28
    refine pv_iconst (v := 0) (n := 92) d_X_grant_91 (by decide) rfl ?_
    exact vjp_X_grant_92 hl0 _ _ _ _ _ _ h
  · replace h := h.2 c28
    refine pv_iconst (v := 1) (n := 88) d_X_grant_87 (by decide) rfl ?_
    refine pv_goto (tgt := 92) d_X_grant_88 (by decide) ?_
    exact vjp_X_grant_92 hl0 _ _ _ _ _ _ h
set_option maxHeartbeats 4000000 in
set_option maxRecDepth 20000 in
def wp_X_grant (w : pw_W) (a1 a2 a3 a4 : Int32) (Q : pw_W → Int32 → Prop) (X : pw_W → Nat → Prop) : Prop := wp_X_parcelNumbered w a1 (fun w29 r30 => wp_X_checkSquares w29 a2 a3 (fun w31 r32 => wp_X_personNumbered w31 a4 (fun w33 r34 => wp_X_checkField w33 a2 a3 (fun w35 r36 => 0 ≤ r34 ∧ wp_X_checkState w35 (w35.1 4 (pw_i r34) 2) (fun w38 r39 => wp_X_hasSquareIn w38 r30 a2 a3 (fun w40 r41 => wp_X_checkState w40 r41 (fun w42 r43 => w42.1 7 0 2 = 0 ∧ ((40 : Int32) ≤ (nI (pw_ln w42 23 0)) → jp_X_grant_63 Q X a2 a3 r30 r34 0 w42) ∧ (¬ (40 : Int32) ≤ (nI (pw_ln w42 23 0)) → jp_X_grant_63 Q X a2 a3 r30 r34 1 w42)) X) (fun _ _ => False)) X) X) X) X) X
set_option maxHeartbeats 4000000 in
set_option maxRecDepth 20000 in
theorem vw_X_grant {l : Launch} {g : pw_G} {Q : pw_W → Int32 → Prop} {X : pw_W → Nat → Prop} (hl0 : l.stackTraces = false) {w : pw_W} {a1 a2 a3 a4 : Int32} (h : wp_X_grant w a1 a2 a3 a4 Q X) : pw_V l g cx_X_grant Q X 0 [(9, 0), (0, a1), (0, a2), (0, a3), (0, a4), (1, 0), (1, 0), (1, 0), (1, 0), (1, 0), (1, 0), (1, 0)] [] w := by
  unfold wp_X_grant at h
  refine pv_aload_n (n := 1) d_X_grant_0 rfl rfl rfl ?_
  refine pv_iload_n (n := 2) d_X_grant_1 rfl rfl rfl ?_
  refine pv_callV (n := 5) (x := 0) [(0, a1)] [] (con_X_parcelNumbered hl0 h) pw_cf7 rfl q_146 q_147 q_148 q_62 q_145 pyo_X_parcelNumbered (by decide) rfl rfl (by decide) d_X_grant_2 rfl (fun w29 r30 h _ => ?_) (fun _ _ h => pvx_out rfl h)
  show pw_V l g cx_X_grant Q X 5 [(9, 0), (0, a1), (0, a2), (0, a3), (0, a4), (1, 0), (1, 0), (1, 0), (1, 0), (1, 0), (1, 0), (1, 0)] [(5, r30)] w29
  refine pv_astore (n := 7) (L' := [(9, 0), (0, a1), (0, a2), (0, a3), (0, a4), (5, r30), (1, 0), (1, 0), (1, 0), (1, 0), (1, 0), (1, 0)]) d_X_grant_5 (by decide) rfl rfl ?_
  refine pv_iload_n (n := 8) d_X_grant_7 rfl rfl rfl ?_
  refine pv_iload_n (n := 9) d_X_grant_8 rfl rfl rfl ?_
  refine pv_callS (n := 12) [(0, a2), (0, a3)] [] (con_X_checkSquares hl0 h) q_143 q_144 q_62 q_142 pyo_X_checkSquares (by decide) rfl rfl d_X_grant_9 rfl (fun w31 r32 h _ => ?_) (fun _ _ h => pvx_out rfl h)
  show pw_V l g cx_X_grant Q X 12 [(9, 0), (0, a1), (0, a2), (0, a3), (0, a4), (5, r30), (1, 0), (1, 0), (1, 0), (1, 0), (1, 0), (1, 0)] [] w31
  refine pv_aload_n (n := 13) d_X_grant_12 rfl rfl rfl ?_
  refine pv_iload (n := 15) d_X_grant_13 rfl rfl ?_
  refine pv_callV (n := 18) (x := 0) [(0, a4)] [] (con_X_personNumbered hl0 h) pw_cf7 rfl q_139 q_140 q_141 q_62 q_138 pyo_X_personNumbered (by decide) rfl rfl (by decide) d_X_grant_15 rfl (fun w33 r34 h _ => ?_) (fun _ _ h => pvx_out rfl h)
  show pw_V l g cx_X_grant Q X 18 [(9, 0), (0, a1), (0, a2), (0, a3), (0, a4), (5, r30), (1, 0), (1, 0), (1, 0), (1, 0), (1, 0), (1, 0)] [(6, r34)] w33
  refine pv_astore (n := 20) (L' := [(9, 0), (0, a1), (0, a2), (0, a3), (0, a4), (5, r30), (6, r34), (1, 0), (1, 0), (1, 0), (1, 0), (1, 0)]) d_X_grant_18 (by decide) rfl rfl ?_
  refine pv_iload_n (n := 21) d_X_grant_20 rfl rfl rfl ?_
  refine pv_iload_n (n := 22) d_X_grant_21 rfl rfl rfl ?_
  refine pv_callS (n := 25) [(0, a2), (0, a3)] [] (con_X_checkField hl0 h) q_136 q_137 q_62 q_135 pyo_X_checkField (by decide) rfl rfl d_X_grant_22 rfl (fun w35 r36 h _ => ?_) (fun _ _ h => pvx_out rfl h)
  show pw_V l g cx_X_grant Q X 25 [(9, 0), (0, a1), (0, a2), (0, a3), (0, a4), (5, r30), (6, r34), (1, 0), (1, 0), (1, 0), (1, 0), (1, 0)] [] w35
  refine pv_aload (n := 27) d_X_grant_25 rfl rfl ?_
  obtain ⟨g37, h⟩ := h
  refine gt_X_76 (n := 30) rfl d_X_grant_27 g37 rfl ?_
  refine pv_callS (n := 33) [(0, (w35.1 4 (pw_i r34) 2))] [] (con_X_checkState hl0 h) q_124 q_125 q_62 q_123 pyo_X_checkState (by decide) rfl rfl d_X_grant_30 rfl (fun w38 r39 h _ => ?_) (fun _ _ h => pvx_out rfl h)
  show pw_V l g cx_X_grant Q X 33 [(9, 0), (0, a1), (0, a2), (0, a3), (0, a4), (5, r30), (6, r34), (1, 0), (1, 0), (1, 0), (1, 0), (1, 0)] [] w38
  refine pv_aload_n (n := 34) d_X_grant_33 rfl rfl rfl ?_
  refine pv_aload (n := 36) d_X_grant_34 rfl rfl ?_
  refine pv_iload_n (n := 37) d_X_grant_36 rfl rfl rfl ?_
  refine pv_iload_n (n := 38) d_X_grant_37 rfl rfl rfl ?_
  refine pv_callV (n := 41) (x := 0) [(5, r30), (0, a2), (0, a3)] [] (con_X_hasSquareIn hl0 h) pw_cf7 rfl q_132 q_133 q_134 q_62 q_131 pyo_X_hasSquareIn (by decide) rfl rfl (by decide) d_X_grant_38 rfl (fun w40 r41 h _ => ?_) (fun _ _ h => h.elim)
  show pw_V l g cx_X_grant Q X 41 [(9, 0), (0, a1), (0, a2), (0, a3), (0, a4), (5, r30), (6, r34), (1, 0), (1, 0), (1, 0), (1, 0), (1, 0)] [(0, r41)] w40
  refine pv_callS (n := 44) [(0, r41)] [] (con_X_checkState hl0 h) q_124 q_125 q_62 q_123 pyo_X_checkState (by decide) rfl rfl d_X_grant_41 rfl (fun w42 r43 h _ => ?_) (fun _ _ h => pvx_out rfl h)
  show pw_V l g cx_X_grant Q X 44 [(9, 0), (0, a1), (0, a2), (0, a3), (0, a4), (5, r30), (6, r34), (1, 0), (1, 0), (1, 0), (1, 0), (1, 0)] [] w42
  refine pv_aload_n (n := 45) d_X_grant_44 rfl rfl rfl ?_
  obtain ⟨g44, h⟩ := h
  refine gt_X_24 (n := 48) rfl d_X_grant_45 (by decide) g44 rfl ?_
  refine pv_lsize (n := 53) (f := 23) (by decide) q_49 (by decide) rfl d_X_grant_48 (by decide) rfl ?_
  refine pv_bipush (v := 40) (n := 55) d_X_grant_53 (by decide) rfl ?_
  refine pv_icmp_ge (n := 58) (tgt := 62) d_X_grant_55 (by decide) rfl (fun c45 => ?_) (fun c45 => ?_)
  · replace h := h.1 c45
    refine pv_iconst (v := 0) (n := 63) d_X_grant_62 (by decide) rfl ?_
    refine pv_unset (i := 1) (L1 := [(9, 0), (1, 0), (0, a2), (0, a3), (0, a4), (5, r30), (6, r34), (1, 0), (1, 0), (1, 0), (1, 0), (1, 0)]) rfl ?_
    refine pv_unset (i := 4) (L1 := [(9, 0), (1, 0), (0, a2), (0, a3), (1, 0), (5, r30), (6, r34), (1, 0), (1, 0), (1, 0), (1, 0), (1, 0)]) rfl ?_
    exact vjp_X_grant_63 hl0 _ _ _ _ _ _ h
  · replace h := h.2 c45
    refine pv_iconst (v := 1) (n := 59) d_X_grant_58 (by decide) rfl ?_
    refine pv_goto (tgt := 63) d_X_grant_59 (by decide) ?_
    refine pv_unset (i := 1) (L1 := [(9, 0), (1, 0), (0, a2), (0, a3), (0, a4), (5, r30), (6, r34), (1, 0), (1, 0), (1, 0), (1, 0), (1, 0)]) rfl ?_
    refine pv_unset (i := 4) (L1 := [(9, 0), (1, 0), (0, a2), (0, a3), (1, 0), (5, r30), (6, r34), (1, 0), (1, 0), (1, 0), (1, 0), (1, 0)]) rfl ?_
    exact vjp_X_grant_63 hl0 _ _ _ _ _ _ h
set_option maxHeartbeats 4000000 in
set_option maxRecDepth 20000 in
theorem con_X_grant {l : Launch} {g : pw_G} {Q : pw_W → Int32 → Prop} {X : pw_W → Nat → Prop} (hl0 : l.stackTraces = false) {w : pw_W} {a1 a2 a3 a4 : Int32} (h : wp_X_grant w a1 a2 a3 a4 Q X) : pw_Con l g y_X_grant cx_X_grant [(9, 0), (0, a1), (0, a2), (0, a3), (0, a4)] w Q X :=
  pw_con (by decide +kernel) rfl rfl hl0 rfl (Nat.le_of_ble_eq_true rfl) (by simp) (vw_X_grant hl0 h)
theorem d_Parcel_setSheep_0 : decode (pw_cc cx_Parcel_setSheep) 0 = .ok (.iload_n 1, 1) := by decide +kernel
theorem d_Parcel_setSheep_1 : decode (pw_cc cx_Parcel_setSheep) 1 = .ok (.iconst 0, 1) := by decide +kernel
theorem d_Parcel_setSheep_2 : decode (pw_cc cx_Parcel_setSheep) 2 = .ok (.bipush 11, 2) := by decide +kernel
theorem d_Parcel_setSheep_4 : decode (pw_cc cx_Parcel_setSheep) 4 = .ok (.invokestatic 30, 3) := by decide +kernel
theorem d_Parcel_setSheep_7 : decode (pw_cc cx_Parcel_setSheep) 7 = .ok (.ifCond .eq 27, 3) := by decide +kernel
theorem d_Parcel_setSheep_10 : decode (pw_cc cx_Parcel_setSheep) 10 = .ok (.aload_n 0, 1) := by decide +kernel
theorem d_Parcel_setSheep_11 : decode (pw_cc cx_Parcel_setSheep) 11 = .ok (.dup, 1) := by decide +kernel
theorem d_Parcel_setSheep_12 : decode (pw_cc cx_Parcel_setSheep) 12 = .ok (.getfield 34, 3) := by decide +kernel
theorem d_Parcel_setSheep_15 : decode (pw_cc cx_Parcel_setSheep) 15 = .ok (.iload_n 2, 1) := by decide +kernel
theorem d_Parcel_setSheep_16 : decode (pw_cc cx_Parcel_setSheep) 16 = .ok (.aload_n 0, 1) := by decide +kernel
theorem d_Parcel_setSheep_17 : decode (pw_cc cx_Parcel_setSheep) 17 = .ok (.getfield 9, 3) := by decide +kernel
theorem d_Parcel_setSheep_20 : decode (pw_cc cx_Parcel_setSheep) 20 = .ok (.iload_n 1, 1) := by decide +kernel
theorem d_Parcel_setSheep_21 : decode (pw_cc cx_Parcel_setSheep) 21 = .ok (.iaload, 1) := by decide +kernel
theorem d_Parcel_setSheep_22 : decode (pw_cc cx_Parcel_setSheep) 22 = .ok (.isub, 1) := by decide +kernel
theorem d_Parcel_setSheep_23 : decode (pw_cc cx_Parcel_setSheep) 23 = .ok (.iadd, 1) := by decide +kernel
theorem d_Parcel_setSheep_24 : decode (pw_cc cx_Parcel_setSheep) 24 = .ok (.putfield 34, 3) := by decide +kernel
theorem d_Parcel_setSheep_27 : decode (pw_cc cx_Parcel_setSheep) 27 = .ok (.aload_n 0, 1) := by decide +kernel
theorem d_Parcel_setSheep_28 : decode (pw_cc cx_Parcel_setSheep) 28 = .ok (.getfield 9, 3) := by decide +kernel
theorem d_Parcel_setSheep_31 : decode (pw_cc cx_Parcel_setSheep) 31 = .ok (.iload_n 1, 1) := by decide +kernel
theorem d_Parcel_setSheep_32 : decode (pw_cc cx_Parcel_setSheep) 32 = .ok (.iload_n 2, 1) := by decide +kernel
theorem d_Parcel_setSheep_33 : decode (pw_cc cx_Parcel_setSheep) 33 = .ok (.iastore, 1) := by decide +kernel
theorem d_Parcel_setSheep_34 : decode (pw_cc cx_Parcel_setSheep) 34 = .ok (.return_, 1) := by decide +kernel
set_option maxHeartbeats 4000000 in
set_option maxRecDepth 20000 in
def wp_Parcel_setSheep (w : pw_W) (a0 a1 a2 : Int32) (Q : pw_W → Int32 → Prop) (X : pw_W → Nat → Prop) : Prop := wp_X_isInRange w a1 0 11 (fun w1 r2 => (r2 = 0 → Q w1 0) ∧ (¬ r2 = 0 → 0 ≤ a0 ∧ 0 ≤ (w1.1 3 (pw_i a0) 1) ∧ pw_jn a1 (pw_ln w1 11 (pw_i (w1.1 3 (pw_i a0) 1))) ∧ ∀ w7, w7 = pw_ps w1 3 (pw_i a0) 5 ((w1.1 3 (pw_i a0) 5) + (a2 - (w1.1 11 (pw_i (w1.1 3 (pw_i a0) 1)) (pw_i a1)))) → 0 ≤ (w7.1 3 (pw_i a0) 1) ∧ pw_jn a1 (pw_ln w7 11 (pw_i (w7.1 3 (pw_i a0) 1))) ∧ ∀ w11, w11 = pw_ps w7 11 (pw_i (w7.1 3 (pw_i a0) 1)) (pw_i a1) a2 → Q w11 0)) (fun _ _ => False)
set_option maxHeartbeats 4000000 in
set_option maxRecDepth 20000 in
theorem vw_Parcel_setSheep {l : Launch} {g : pw_G} {Q : pw_W → Int32 → Prop} {X : pw_W → Nat → Prop} (hl0 : l.stackTraces = false) {w : pw_W} {a0 a1 a2 : Int32} (h : wp_Parcel_setSheep w a0 a1 a2 Q X) : pw_V l g cx_Parcel_setSheep Q X 0 [(5, a0), (0, a1), (0, a2)] [] w := by
  unfold wp_Parcel_setSheep at h
  refine pv_iload_n (n := 1) d_Parcel_setSheep_0 rfl rfl rfl ?_
  refine pv_iconst (v := 0) (n := 2) d_Parcel_setSheep_1 (by decide) rfl ?_
  refine pv_bipush (v := 11) (n := 4) d_Parcel_setSheep_2 (by decide) rfl ?_
  refine pv_callN (n := 7) [(0, a1), (0, 0), (0, 11)] [] (con_X_isInRange hl0 h) q_150 q_97 q_62 q_95 pyo_X_isInRange (by decide) rfl rfl d_Parcel_setSheep_4 rfl (fun w1 r2 h _ => ?_) (fun _ _ h => h.elim)
  show pw_V l g cx_Parcel_setSheep Q X 7 [(5, a0), (0, a1), (0, a2)] [(0, r2)] w1
  refine pv_if_eq (n := 10) (tgt := 34) d_Parcel_setSheep_7 (by decide) rfl (fun c3 => ?_) (fun c3 => ?_)
  · replace h := h.1 c3
    exact pv_vret rfl rfl d_Parcel_setSheep_34 h
  · replace h := h.2 c3
    refine pv_aload_n (n := 11) d_Parcel_setSheep_10 rfl rfl rfl ?_
    refine pv_dup (n := 12) d_Parcel_setSheep_11 (by decide) rfl ?_
    obtain ⟨g4, h⟩ := h
    refine gt_Parcel_34 (n := 15) rfl d_Parcel_setSheep_12 g4 rfl ?_
    refine pv_iload_n (n := 16) d_Parcel_setSheep_15 rfl rfl rfl ?_
    refine pv_aload_n (n := 17) d_Parcel_setSheep_16 rfl rfl rfl ?_
    refine gt_Parcel_9 (n := 20) rfl d_Parcel_setSheep_17 g4 rfl ?_
    refine pv_iload_n (n := 21) d_Parcel_setSheep_20 rfl rfl rfl ?_
    obtain ⟨g5, h⟩ := h
    obtain ⟨g6, h⟩ := h
    refine pv_iald (n := 22) (f := 11) (by decide) rfl d_Parcel_setSheep_21 g5 g6 rfl ?_
    refine pv_isub (n := 23) d_Parcel_setSheep_22 rfl ?_
    refine pv_iadd (n := 24) d_Parcel_setSheep_23 rfl ?_
    refine pt_Parcel_34 (n := 27) rfl d_Parcel_setSheep_24 g4 rfl (fun w7 e8 => ?_)
    replace h := h w7 e8
    refine pv_aload_n (n := 28) d_Parcel_setSheep_27 rfl rfl rfl ?_
    refine gt_Parcel_9 (n := 31) rfl d_Parcel_setSheep_28 g4 rfl ?_
    refine pv_iload_n (n := 32) d_Parcel_setSheep_31 rfl rfl rfl ?_
    refine pv_iload_n (n := 33) d_Parcel_setSheep_32 rfl rfl rfl ?_
    obtain ⟨g9, h⟩ := h
    obtain ⟨g10, h⟩ := h
    refine pv_iast1 (n := 34) (f := 11) (by decide) rfl (fun _ => rfl) d_Parcel_setSheep_33 g9 g10 rfl (fun w11 e12 => ?_)
    replace h := h w11 e12
    exact pv_vret rfl rfl d_Parcel_setSheep_34 h
set_option maxHeartbeats 4000000 in
set_option maxRecDepth 20000 in
theorem con_Parcel_setSheep {l : Launch} {g : pw_G} {Q : pw_W → Int32 → Prop} {X : pw_W → Nat → Prop} (hl0 : l.stackTraces = false) {w : pw_W} {a0 a1 a2 : Int32} (h : wp_Parcel_setSheep w a0 a1 a2 Q X) : pw_Con l g y_Parcel_setSheep cx_Parcel_setSheep [(5, a0), (0, a1), (0, a2)] w Q X :=
  pw_con (by decide +kernel) rfl rfl hl0 rfl (Nat.le_of_ble_eq_true rfl) (by simp) (vw_Parcel_setSheep hl0 h)
theorem d_Parcel_sheepOf_0 : decode (pw_cc cx_Parcel_sheepOf) 0 = .ok (.iload_n 1, 1) := by decide +kernel
theorem d_Parcel_sheepOf_1 : decode (pw_cc cx_Parcel_sheepOf) 1 = .ok (.iconst 0, 1) := by decide +kernel
theorem d_Parcel_sheepOf_2 : decode (pw_cc cx_Parcel_sheepOf) 2 = .ok (.bipush 11, 2) := by decide +kernel
theorem d_Parcel_sheepOf_4 : decode (pw_cc cx_Parcel_sheepOf) 4 = .ok (.invokestatic 30, 3) := by decide +kernel
theorem d_Parcel_sheepOf_7 : decode (pw_cc cx_Parcel_sheepOf) 7 = .ok (.ifCond .eq 12, 3) := by decide +kernel
theorem d_Parcel_sheepOf_10 : decode (pw_cc cx_Parcel_sheepOf) 10 = .ok (.aload_n 0, 1) := by decide +kernel
theorem d_Parcel_sheepOf_11 : decode (pw_cc cx_Parcel_sheepOf) 11 = .ok (.getfield 9, 3) := by decide +kernel
theorem d_Parcel_sheepOf_14 : decode (pw_cc cx_Parcel_sheepOf) 14 = .ok (.iload_n 1, 1) := by decide +kernel
theorem d_Parcel_sheepOf_15 : decode (pw_cc cx_Parcel_sheepOf) 15 = .ok (.iaload, 1) := by decide +kernel
theorem d_Parcel_sheepOf_16 : decode (pw_cc cx_Parcel_sheepOf) 16 = .ok (.goto 4, 3) := by decide +kernel
theorem d_Parcel_sheepOf_19 : decode (pw_cc cx_Parcel_sheepOf) 19 = .ok (.iconst 0, 1) := by decide +kernel
theorem d_Parcel_sheepOf_20 : decode (pw_cc cx_Parcel_sheepOf) 20 = .ok (.ireturn, 1) := by decide +kernel
set_option maxHeartbeats 4000000 in
set_option maxRecDepth 20000 in
def wp_Parcel_sheepOf (w : pw_W) (a0 a1 : Int32) (Q : pw_W → Int32 → Prop) (X : pw_W → Nat → Prop) : Prop := wp_X_isInRange w a1 0 11 (fun w1 r2 => (r2 = 0 → Q w1 0) ∧ (¬ r2 = 0 → 0 ≤ a0 ∧ 0 ≤ (w1.1 3 (pw_i a0) 1) ∧ pw_jn a1 (pw_ln w1 11 (pw_i (w1.1 3 (pw_i a0) 1))) ∧ Q w1 (w1.1 11 (pw_i (w1.1 3 (pw_i a0) 1)) (pw_i a1)))) (fun _ _ => False)
set_option maxHeartbeats 4000000 in
set_option maxRecDepth 20000 in
theorem vw_Parcel_sheepOf {l : Launch} {g : pw_G} {Q : pw_W → Int32 → Prop} {X : pw_W → Nat → Prop} (hl0 : l.stackTraces = false) {w : pw_W} {a0 a1 : Int32} (h : wp_Parcel_sheepOf w a0 a1 Q X) : pw_V l g cx_Parcel_sheepOf Q X 0 [(5, a0), (0, a1)] [] w := by
  unfold wp_Parcel_sheepOf at h
  refine pv_iload_n (n := 1) d_Parcel_sheepOf_0 rfl rfl rfl ?_
  refine pv_iconst (v := 0) (n := 2) d_Parcel_sheepOf_1 (by decide) rfl ?_
  refine pv_bipush (v := 11) (n := 4) d_Parcel_sheepOf_2 (by decide) rfl ?_
  refine pv_callN (n := 7) [(0, a1), (0, 0), (0, 11)] [] (con_X_isInRange hl0 h) q_150 q_97 q_62 q_95 pyo_X_isInRange (by decide) rfl rfl d_Parcel_sheepOf_4 rfl (fun w1 r2 h _ => ?_) (fun _ _ h => h.elim)
  show pw_V l g cx_Parcel_sheepOf Q X 7 [(5, a0), (0, a1)] [(0, r2)] w1
  refine pv_if_eq (n := 10) (tgt := 19) d_Parcel_sheepOf_7 (by decide) rfl (fun c3 => ?_) (fun c3 => ?_)
  · replace h := h.1 c3
    refine pv_iconst (v := 0) (n := 20) d_Parcel_sheepOf_19 (by decide) rfl ?_
    exact pv_iret rfl rfl d_Parcel_sheepOf_20 h
  · replace h := h.2 c3
    refine pv_aload_n (n := 11) d_Parcel_sheepOf_10 rfl rfl rfl ?_
    obtain ⟨g4, h⟩ := h
    refine gt_Parcel_9 (n := 14) rfl d_Parcel_sheepOf_11 g4 rfl ?_
    refine pv_iload_n (n := 15) d_Parcel_sheepOf_14 rfl rfl rfl ?_
    obtain ⟨g5, h⟩ := h
    obtain ⟨g6, h⟩ := h
    refine pv_iald (n := 16) (f := 11) (by decide) rfl d_Parcel_sheepOf_15 g5 g6 rfl ?_
    refine pv_goto (tgt := 20) d_Parcel_sheepOf_16 (by decide) ?_
    exact pv_iret rfl rfl d_Parcel_sheepOf_20 h
set_option maxHeartbeats 4000000 in
set_option maxRecDepth 20000 in
theorem con_Parcel_sheepOf {l : Launch} {g : pw_G} {Q : pw_W → Int32 → Prop} {X : pw_W → Nat → Prop} (hl0 : l.stackTraces = false) {w : pw_W} {a0 a1 : Int32} (h : wp_Parcel_sheepOf w a0 a1 Q X) : pw_Con l g y_Parcel_sheepOf cx_Parcel_sheepOf [(5, a0), (0, a1)] w Q X :=
  pw_con (by decide +kernel) rfl rfl hl0 rfl (Nat.le_of_ble_eq_true rfl) (by simp) (vw_Parcel_sheepOf hl0 h)
theorem d_X_bringSheep_0 : decode (pw_cc cx_X_bringSheep) 0 = .ok (.iconst 0, 1) := by decide +kernel
theorem d_X_bringSheep_1 : decode (pw_cc cx_X_bringSheep) 1 = .ok (.istore_n 2, 1) := by decide +kernel
theorem d_X_bringSheep_2 : decode (pw_cc cx_X_bringSheep) 2 = .ok (.iload_n 2, 1) := by decide +kernel
theorem d_X_bringSheep_3 : decode (pw_cc cx_X_bringSheep) 3 = .ok (.bipush 12, 2) := by decide +kernel
theorem d_X_bringSheep_5 : decode (pw_cc cx_X_bringSheep) 5 = .ok (.if_icmp .ge 31, 3) := by decide +kernel
theorem d_X_bringSheep_8 : decode (pw_cc cx_X_bringSheep) 8 = .ok (.aload_n 1, 1) := by decide +kernel
theorem d_X_bringSheep_9 : decode (pw_cc cx_X_bringSheep) 9 = .ok (.iload_n 2, 1) := by decide +kernel
theorem d_X_bringSheep_10 : decode (pw_cc cx_X_bringSheep) 10 = .ok (.aload_n 1, 1) := by decide +kernel
theorem d_X_bringSheep_11 : decode (pw_cc cx_X_bringSheep) 11 = .ok (.iload_n 2, 1) := by decide +kernel
theorem d_X_bringSheep_12 : decode (pw_cc cx_X_bringSheep) 12 = .ok (.invokevirtual 231, 3) := by decide +kernel
theorem d_X_bringSheep_15 : decode (pw_cc cx_X_bringSheep) 15 = .ok (.aload_n 0, 1) := by decide +kernel
theorem d_X_bringSheep_16 : decode (pw_cc cx_X_bringSheep) 16 = .ok (.iload_n 2, 1) := by decide +kernel
theorem d_X_bringSheep_17 : decode (pw_cc cx_X_bringSheep) 17 = .ok (.invokevirtual 231, 3) := by decide +kernel
theorem d_X_bringSheep_20 : decode (pw_cc cx_X_bringSheep) 20 = .ok (.iadd, 1) := by decide +kernel
theorem d_X_bringSheep_21 : decode (pw_cc cx_X_bringSheep) 21 = .ok (.invokevirtual 235, 3) := by decide +kernel
theorem d_X_bringSheep_24 : decode (pw_cc cx_X_bringSheep) 24 = .ok (.aload_n 0, 1) := by decide +kernel
theorem d_X_bringSheep_25 : decode (pw_cc cx_X_bringSheep) 25 = .ok (.iload_n 2, 1) := by decide +kernel
theorem d_X_bringSheep_26 : decode (pw_cc cx_X_bringSheep) 26 = .ok (.iconst 0, 1) := by decide +kernel
theorem d_X_bringSheep_27 : decode (pw_cc cx_X_bringSheep) 27 = .ok (.invokevirtual 235, 3) := by decide +kernel
theorem d_X_bringSheep_30 : decode (pw_cc cx_X_bringSheep) 30 = .ok (.iinc 2 1, 3) := by decide +kernel
theorem d_X_bringSheep_33 : decode (pw_cc cx_X_bringSheep) 33 = .ok (.goto (-31), 3) := by decide +kernel
theorem d_X_bringSheep_36 : decode (pw_cc cx_X_bringSheep) 36 = .ok (.return_, 1) := by decide +kernel
set_option maxHeartbeats 4000000 in
set_option maxRecDepth 20000 in
def lp_X_bringSheep_2 (Q : pw_W → Int32 → Prop) (X : pw_W → Nat → Prop) : Nat → Int32 → Int32 → Int32 → pw_W → Prop := fun k => Nat.rec (motive := fun _ => Int32 → Int32 → Int32 → pw_W → Prop) (fun _ _ _ _ => False) (fun _ ih a0 a1 a2 w => ((12 : Int32) ≤ a2 → Q w 0) ∧ (¬ (12 : Int32) ≤ a2 → 0 ≤ a1 ∧ wp_Parcel_sheepOf w a1 a2 (fun w2 r3 => 0 ≤ a0 ∧ wp_Parcel_sheepOf w2 a0 a2 (fun w5 r6 => wp_Parcel_setSheep w5 a1 a2 (r3 + r6) (fun w8 r9 => wp_Parcel_setSheep w8 a0 a2 0 (fun w10 r11 => ih a0 a1 (a2 + 1) w10) (fun _ _ => False)) (fun _ _ => False)) (fun _ _ => False)) (fun _ _ => False))) k
set_option maxHeartbeats 4000000 in
set_option maxRecDepth 20000 in
theorem lp_X_bringSheep_2_s {Q : pw_W → Int32 → Prop} {X : pw_W → Nat → Prop}  {k : Nat} {a0 a1 a2 : Int32} {w : pw_W} : lp_X_bringSheep_2 Q X (k + 1) a0 a1 a2 w = (let ih := lp_X_bringSheep_2 Q X k; ((12 : Int32) ≤ a2 → Q w 0) ∧ (¬ (12 : Int32) ≤ a2 → 0 ≤ a1 ∧ wp_Parcel_sheepOf w a1 a2 (fun w2 r3 => 0 ≤ a0 ∧ wp_Parcel_sheepOf w2 a0 a2 (fun w5 r6 => wp_Parcel_setSheep w5 a1 a2 (r3 + r6) (fun w8 r9 => wp_Parcel_setSheep w8 a0 a2 0 (fun w10 r11 => ih a0 a1 (a2 + 1) w10) (fun _ _ => False)) (fun _ _ => False)) (fun _ _ => False)) (fun _ _ => False))) := rfl
set_option maxHeartbeats 4000000 in
set_option maxRecDepth 20000 in
theorem vlp_X_bringSheep_2 {l : Launch} {g : pw_G} {Q : pw_W → Int32 → Prop} {X : pw_W → Nat → Prop} (hl0 : l.stackTraces = false) : ∀ (k : Nat) (a0 a1 a2 : Int32) (w : pw_W), lp_X_bringSheep_2 Q X k a0 a1 a2 w → pw_V l g cx_X_bringSheep Q X 2 [(5, a0), (5, a1), (0, a2)] [] w := by
  intro k; induction k with
  | zero => intro _ _ _ _ h; exact h.elim
  | succ k ih =>
    intro a0 a1 a2 w h
    rw [lp_X_bringSheep_2_s] at h
    refine pv_iload_n (n := 3) d_X_bringSheep_2 rfl rfl rfl ?_
    refine pv_bipush (v := 12) (n := 5) d_X_bringSheep_3 (by decide) rfl ?_
    refine pv_icmp_ge (n := 8) (tgt := 36) d_X_bringSheep_5 (by decide) rfl (fun c1 => ?_) (fun c1 => ?_)
    · replace h := h.1 c1
      exact pv_vret rfl rfl d_X_bringSheep_36 h
    · replace h := h.2 c1
      refine pv_aload_n (n := 9) d_X_bringSheep_8 rfl rfl rfl ?_
      refine pv_iload_n (n := 10) d_X_bringSheep_9 rfl rfl rfl ?_
      refine pv_aload_n (n := 11) d_X_bringSheep_10 rfl rfl rfl ?_
      refine pv_iload_n (n := 12) d_X_bringSheep_11 rfl rfl rfl ?_
      obtain ⟨g4, h⟩ := h
      refine pv_callV (n := 15) (x := a1) [(0, a2)] [(0, a2), (5, a1)] (con_Parcel_sheepOf hl0 h) pw_cf3 rfl q_156 q_157 q_158 q_46 q_155 pyo_Parcel_sheepOf (by decide) rfl rfl g4 d_X_bringSheep_12 rfl (fun w2 r3 h _ => ?_) (fun _ _ h => h.elim)
      show pw_V l g cx_X_bringSheep Q X 15 [(5, a0), (5, a1), (0, a2)] [(0, r3), (0, a2), (5, a1)] w2
      refine pv_aload_n (n := 16) d_X_bringSheep_15 rfl rfl rfl ?_
      refine pv_iload_n (n := 17) d_X_bringSheep_16 rfl rfl rfl ?_
      obtain ⟨g7, h⟩ := h
      refine pv_callV (n := 20) (x := a0) [(0, a2)] [(0, r3), (0, a2), (5, a1)] (con_Parcel_sheepOf hl0 h) pw_cf3 rfl q_156 q_157 q_158 q_46 q_155 pyo_Parcel_sheepOf (by decide) rfl rfl g7 d_X_bringSheep_17 rfl (fun w5 r6 h _ => ?_) (fun _ _ h => h.elim)
      show pw_V l g cx_X_bringSheep Q X 20 [(5, a0), (5, a1), (0, a2)] [(0, r6), (0, r3), (0, a2), (5, a1)] w5
      refine pv_iadd (n := 21) d_X_bringSheep_20 rfl ?_
      refine pv_callV (n := 24) (x := a1) [(0, a2), (0, (r3 + r6))] [] (con_Parcel_setSheep hl0 h) pw_cf3 rfl q_152 q_153 q_154 q_46 q_151 pyo_Parcel_setSheep (by decide) rfl rfl g4 d_X_bringSheep_21 rfl (fun w8 r9 h _ => ?_) (fun _ _ h => h.elim)
      show pw_V l g cx_X_bringSheep Q X 24 [(5, a0), (5, a1), (0, a2)] [] w8
      refine pv_aload_n (n := 25) d_X_bringSheep_24 rfl rfl rfl ?_
      refine pv_iload_n (n := 26) d_X_bringSheep_25 rfl rfl rfl ?_
      refine pv_iconst (v := 0) (n := 27) d_X_bringSheep_26 (by decide) rfl ?_
      refine pv_callV (n := 30) (x := a0) [(0, a2), (0, 0)] [] (con_Parcel_setSheep hl0 h) pw_cf3 rfl q_152 q_153 q_154 q_46 q_151 pyo_Parcel_setSheep (by decide) rfl rfl g7 d_X_bringSheep_27 rfl (fun w10 r11 h _ => ?_) (fun _ _ h => h.elim)
      show pw_V l g cx_X_bringSheep Q X 30 [(5, a0), (5, a1), (0, a2)] [] w10
      refine pv_iinc (v := (a2 + 1)) (n := 33) (L1 := [(5, a0), (5, a1), (0, (a2 + 1))]) d_X_bringSheep_30 rfl rfl rfl (by decide) rfl ?_
      refine pv_goto (tgt := 2) d_X_bringSheep_33 (by decide) ?_
      exact ih _ _ _ _ h
set_option maxHeartbeats 4000000 in
set_option maxRecDepth 20000 in
def wp_X_bringSheep (w : pw_W) (a0 a1 : Int32) (Q : pw_W → Int32 → Prop) (X : pw_W → Nat → Prop) : Prop := ∃ k12, lp_X_bringSheep_2 Q X k12 a0 a1 0 w
set_option maxHeartbeats 4000000 in
set_option maxRecDepth 20000 in
theorem vw_X_bringSheep {l : Launch} {g : pw_G} {Q : pw_W → Int32 → Prop} {X : pw_W → Nat → Prop} (hl0 : l.stackTraces = false) {w : pw_W} {a0 a1 : Int32} (h : wp_X_bringSheep w a0 a1 Q X) : pw_V l g cx_X_bringSheep Q X 0 [(5, a0), (5, a1), (1, 0)] [] w := by
  unfold wp_X_bringSheep at h
  refine pv_iconst (v := 0) (n := 1) d_X_bringSheep_0 (by decide) rfl ?_
  refine pv_istore_n (n := 2) (L' := [(5, a0), (5, a1), (0, 0)]) d_X_bringSheep_1 rfl (by decide) rfl rfl ?_
  obtain ⟨k12, h⟩ := h
  exact vlp_X_bringSheep_2 hl0 _ _ _ _ _ h
set_option maxHeartbeats 4000000 in
set_option maxRecDepth 20000 in
theorem con_X_bringSheep {l : Launch} {g : pw_G} {Q : pw_W → Int32 → Prop} {X : pw_W → Nat → Prop} (hl0 : l.stackTraces = false) {w : pw_W} {a0 a1 : Int32} (h : wp_X_bringSheep w a0 a1 Q X) : pw_Con l g y_X_bringSheep cx_X_bringSheep [(5, a0), (5, a1)] w Q X :=
  pw_con (by decide +kernel) rfl rfl hl0 rfl (Nat.le_of_ble_eq_true rfl) (by simp) (vw_X_bringSheep hl0 h)
theorem d_X_countRightsToBring_0 : decode (pw_cc cx_X_countRightsToBring) 0 = .ok (.iconst 0, 1) := by decide +kernel
theorem d_X_countRightsToBring_1 : decode (pw_cc cx_X_countRightsToBring) 1 = .ok (.istore_n 3, 1) := by decide +kernel
theorem d_X_countRightsToBring_2 : decode (pw_cc cx_X_countRightsToBring) 2 = .ok (.iconst 0, 1) := by decide +kernel
theorem d_X_countRightsToBring_3 : decode (pw_cc cx_X_countRightsToBring) 3 = .ok (.istore 4, 2) := by decide +kernel
theorem d_X_countRightsToBring_5 : decode (pw_cc cx_X_countRightsToBring) 5 = .ok (.iload 4, 2) := by decide +kernel
theorem d_X_countRightsToBring_7 : decode (pw_cc cx_X_countRightsToBring) 7 = .ok (.aload_n 0, 1) := by decide +kernel
theorem d_X_countRightsToBring_8 : decode (pw_cc cx_X_countRightsToBring) 8 = .ok (.getfield 34, 3) := by decide +kernel
theorem d_X_countRightsToBring_11 : decode (pw_cc cx_X_countRightsToBring) 11 = .ok (.invokeinterface 88 1, 5) := by decide +kernel
theorem d_X_countRightsToBring_16 : decode (pw_cc cx_X_countRightsToBring) 16 = .ok (.if_icmp .ge 35, 3) := by decide +kernel
theorem d_X_countRightsToBring_19 : decode (pw_cc cx_X_countRightsToBring) 19 = .ok (.aload_n 0, 1) := by decide +kernel
theorem d_X_countRightsToBring_20 : decode (pw_cc cx_X_countRightsToBring) 20 = .ok (.aload_n 0, 1) := by decide +kernel
theorem d_X_countRightsToBring_21 : decode (pw_cc cx_X_countRightsToBring) 21 = .ok (.getfield 34, 3) := by decide +kernel
theorem d_X_countRightsToBring_24 : decode (pw_cc cx_X_countRightsToBring) 24 = .ok (.iload 4, 2) := by decide +kernel
theorem d_X_countRightsToBring_26 : decode (pw_cc cx_X_countRightsToBring) 26 = .ok (.invokeinterface 382 2, 5) := by decide +kernel
theorem d_X_countRightsToBring_31 : decode (pw_cc cx_X_countRightsToBring) 31 = .ok (.checkcast 210, 3) := by decide +kernel
theorem d_X_countRightsToBring_34 : decode (pw_cc cx_X_countRightsToBring) 34 = .ok (.aload_n 1, 1) := by decide +kernel
theorem d_X_countRightsToBring_35 : decode (pw_cc cx_X_countRightsToBring) 35 = .ok (.aload_n 2, 1) := by decide +kernel
theorem d_X_countRightsToBring_36 : decode (pw_cc cx_X_countRightsToBring) 36 = .ok (.invokevirtual 422, 3) := by decide +kernel
theorem d_X_countRightsToBring_39 : decode (pw_cc cx_X_countRightsToBring) 39 = .ok (.ifCond .eq 6, 3) := by decide +kernel
theorem d_X_countRightsToBring_42 : decode (pw_cc cx_X_countRightsToBring) 42 = .ok (.iinc 3 1, 3) := by decide +kernel
theorem d_X_countRightsToBring_45 : decode (pw_cc cx_X_countRightsToBring) 45 = .ok (.iinc 4 1, 3) := by decide +kernel
theorem d_X_countRightsToBring_48 : decode (pw_cc cx_X_countRightsToBring) 48 = .ok (.goto (-43), 3) := by decide +kernel
theorem d_X_countRightsToBring_51 : decode (pw_cc cx_X_countRightsToBring) 51 = .ok (.iload_n 3, 1) := by decide +kernel
theorem d_X_countRightsToBring_52 : decode (pw_cc cx_X_countRightsToBring) 52 = .ok (.ireturn, 1) := by decide +kernel
set_option maxHeartbeats 4000000 in
set_option maxRecDepth 20000 in
def lp_X_countRightsToBring_5 (Q : pw_W → Int32 → Prop) (X : pw_W → Nat → Prop) : Nat → Int32 → Int32 → Int32 → Int32 → pw_W → Prop := fun k => Nat.rec (motive := fun _ => Int32 → Int32 → Int32 → Int32 → pw_W → Prop) (fun _ _ _ _ _ => False) (fun _ ih a1 a2 a3 a4 w => w.1 7 0 5 = 0 ∧ ((nI (pw_ln w 25 0)) ≤ a4 → Q w a3) ∧ (¬ (nI (pw_ln w 25 0)) ≤ a4 → w.1 7 0 5 = 0 ∧ pw_jn a4 (pw_ln w 25 0) ∧ wp_X_isToBring w (w.1 25 0 (pw_i a4)) a1 a2 (fun w5 r6 => (r6 = 0 → ih a1 a2 a3 (a4 + 1) w5) ∧ (¬ r6 = 0 → ih a1 a2 (a3 + 1) (a4 + 1) w5)) (fun _ _ => False))) k
set_option maxHeartbeats 4000000 in
set_option maxRecDepth 20000 in
theorem lp_X_countRightsToBring_5_s {Q : pw_W → Int32 → Prop} {X : pw_W → Nat → Prop}  {k : Nat} {a1 a2 a3 a4 : Int32} {w : pw_W} : lp_X_countRightsToBring_5 Q X (k + 1) a1 a2 a3 a4 w = (let ih := lp_X_countRightsToBring_5 Q X k; w.1 7 0 5 = 0 ∧ ((nI (pw_ln w 25 0)) ≤ a4 → Q w a3) ∧ (¬ (nI (pw_ln w 25 0)) ≤ a4 → w.1 7 0 5 = 0 ∧ pw_jn a4 (pw_ln w 25 0) ∧ wp_X_isToBring w (w.1 25 0 (pw_i a4)) a1 a2 (fun w5 r6 => (r6 = 0 → ih a1 a2 a3 (a4 + 1) w5) ∧ (¬ r6 = 0 → ih a1 a2 (a3 + 1) (a4 + 1) w5)) (fun _ _ => False))) := rfl
set_option maxHeartbeats 4000000 in
set_option maxRecDepth 20000 in
theorem vlp_X_countRightsToBring_5 {l : Launch} {g : pw_G} {Q : pw_W → Int32 → Prop} {X : pw_W → Nat → Prop} (hl0 : l.stackTraces = false) : ∀ (k : Nat) (a1 a2 a3 a4 : Int32) (w : pw_W), lp_X_countRightsToBring_5 Q X k a1 a2 a3 a4 w → pw_V l g cx_X_countRightsToBring Q X 5 [(9, 0), (5, a1), (5, a2), (0, a3), (0, a4)] [] w := by
  intro k; induction k with
  | zero => intro _ _ _ _ _ h; exact h.elim
  | succ k ih =>
    intro a1 a2 a3 a4 w h
    rw [lp_X_countRightsToBring_5_s] at h
    refine pv_iload (n := 7) d_X_countRightsToBring_5 rfl rfl ?_
    refine pv_aload_n (n := 8) d_X_countRightsToBring_7 rfl rfl rfl ?_
    obtain ⟨g1, h⟩ := h
    refine gt_X_34 (n := 11) rfl d_X_countRightsToBring_8 (by decide) g1 rfl ?_
    refine pv_lsize (n := 16) (f := 25) (by decide) q_49 (by decide) rfl d_X_countRightsToBring_11 (by decide) rfl ?_
    refine pv_icmp_ge (n := 19) (tgt := 51) d_X_countRightsToBring_16 (by decide) rfl (fun c2 => ?_) (fun c2 => ?_)
    · replace h := h.1 c2
      refine pv_iload_n (n := 52) d_X_countRightsToBring_51 rfl rfl rfl ?_
      exact pv_iret rfl rfl d_X_countRightsToBring_52 h
    · replace h := h.2 c2
      refine pv_aload_n (n := 20) d_X_countRightsToBring_19 rfl rfl rfl ?_
      refine pv_aload_n (n := 21) d_X_countRightsToBring_20 rfl rfl rfl ?_
      obtain ⟨g3, h⟩ := h
      refine gt_X_34 (n := 24) rfl d_X_countRightsToBring_21 (by decide) g3 rfl ?_
      refine pv_iload (n := 26) d_X_countRightsToBring_24 rfl rfl ?_
      obtain ⟨g4, h⟩ := h
      refine pv_lget (n := 31) (f := 25) (F := 5) (by decide) rfl q_52 (by decide) rfl d_X_countRightsToBring_26 (by decide) g4 rfl (fun _ => ?_)
      refine pv_cast (n := 34) pw_cf5 q_53 d_X_countRightsToBring_31 rfl ?_
      refine pv_aload_n (n := 35) d_X_countRightsToBring_34 rfl rfl rfl ?_
      refine pv_aload_n (n := 36) d_X_countRightsToBring_35 rfl rfl rfl ?_
      refine pv_callV (n := 39) (x := 0) [(7, (w.1 25 0 (pw_i a4))), (5, a1), (5, a2)] [] (con_X_isToBring hl0 h) pw_cf7 rfl q_80 q_81 q_82 q_62 q_79 pyo_X_isToBring (by decide) rfl rfl (by decide) d_X_countRightsToBring_36 rfl (fun w5 r6 h _ => ?_) (fun _ _ h => h.elim)
      show pw_V l g cx_X_countRightsToBring Q X 39 [(9, 0), (5, a1), (5, a2), (0, a3), (0, a4)] [(0, r6)] w5
      refine pv_if_eq (n := 42) (tgt := 45) d_X_countRightsToBring_39 (by decide) rfl (fun c7 => ?_) (fun c7 => ?_)
      · replace h := h.1 c7
        refine pv_iinc (v := (a4 + 1)) (n := 48) (L1 := [(9, 0), (5, a1), (5, a2), (0, a3), (0, (a4 + 1))]) d_X_countRightsToBring_45 rfl rfl rfl (by decide) rfl ?_
        refine pv_goto (tgt := 5) d_X_countRightsToBring_48 (by decide) ?_
        exact ih _ _ _ _ _ h
      · replace h := h.2 c7
        refine pv_iinc (v := (a3 + 1)) (n := 45) (L1 := [(9, 0), (5, a1), (5, a2), (0, (a3 + 1)), (0, a4)]) d_X_countRightsToBring_42 rfl rfl rfl (by decide) rfl ?_
        refine pv_iinc (v := (a4 + 1)) (n := 48) (L1 := [(9, 0), (5, a1), (5, a2), (0, (a3 + 1)), (0, (a4 + 1))]) d_X_countRightsToBring_45 rfl rfl rfl (by decide) rfl ?_
        refine pv_goto (tgt := 5) d_X_countRightsToBring_48 (by decide) ?_
        exact ih _ _ _ _ _ h
set_option maxHeartbeats 4000000 in
set_option maxRecDepth 20000 in
def wp_X_countRightsToBring (w : pw_W) (a1 a2 : Int32) (Q : pw_W → Int32 → Prop) (X : pw_W → Nat → Prop) : Prop := ∃ k8, lp_X_countRightsToBring_5 Q X k8 a1 a2 0 0 w
set_option maxHeartbeats 4000000 in
set_option maxRecDepth 20000 in
theorem vw_X_countRightsToBring {l : Launch} {g : pw_G} {Q : pw_W → Int32 → Prop} {X : pw_W → Nat → Prop} (hl0 : l.stackTraces = false) {w : pw_W} {a1 a2 : Int32} (h : wp_X_countRightsToBring w a1 a2 Q X) : pw_V l g cx_X_countRightsToBring Q X 0 [(9, 0), (5, a1), (5, a2), (1, 0), (1, 0)] [] w := by
  unfold wp_X_countRightsToBring at h
  refine pv_iconst (v := 0) (n := 1) d_X_countRightsToBring_0 (by decide) rfl ?_
  refine pv_istore_n (n := 2) (L' := [(9, 0), (5, a1), (5, a2), (0, 0), (1, 0)]) d_X_countRightsToBring_1 rfl (by decide) rfl rfl ?_
  refine pv_iconst (v := 0) (n := 3) d_X_countRightsToBring_2 (by decide) rfl ?_
  refine pv_istore (n := 5) (L' := [(9, 0), (5, a1), (5, a2), (0, 0), (0, 0)]) d_X_countRightsToBring_3 (by decide) rfl rfl ?_
  obtain ⟨k8, h⟩ := h
  exact vlp_X_countRightsToBring_5 hl0 _ _ _ _ _ _ h
set_option maxHeartbeats 4000000 in
set_option maxRecDepth 20000 in
theorem con_X_countRightsToBring {l : Launch} {g : pw_G} {Q : pw_W → Int32 → Prop} {X : pw_W → Nat → Prop} (hl0 : l.stackTraces = false) {w : pw_W} {a1 a2 : Int32} (h : wp_X_countRightsToBring w a1 a2 Q X) : pw_Con l g y_X_countRightsToBring cx_X_countRightsToBring [(9, 0), (5, a1), (5, a2)] w Q X :=
  pw_con (by decide +kernel) rfl rfl hl0 rfl (Nat.le_of_ble_eq_true rfl) (by simp) (vw_X_countRightsToBring hl0 h)
theorem d_X_endRightsOn_0 : decode (pw_cc cx_X_endRightsOn) 0 = .ok (.iconst 0, 1) := by decide +kernel
theorem d_X_endRightsOn_1 : decode (pw_cc cx_X_endRightsOn) 1 = .ok (.istore_n 2, 1) := by decide +kernel
theorem d_X_endRightsOn_2 : decode (pw_cc cx_X_endRightsOn) 2 = .ok (.iload_n 2, 1) := by decide +kernel
theorem d_X_endRightsOn_3 : decode (pw_cc cx_X_endRightsOn) 3 = .ok (.aload_n 0, 1) := by decide +kernel
theorem d_X_endRightsOn_4 : decode (pw_cc cx_X_endRightsOn) 4 = .ok (.getfield 34, 3) := by decide +kernel
theorem d_X_endRightsOn_7 : decode (pw_cc cx_X_endRightsOn) 7 = .ok (.invokeinterface 88 1, 5) := by decide +kernel
theorem d_X_endRightsOn_12 : decode (pw_cc cx_X_endRightsOn) 12 = .ok (.if_icmp .ge 36, 3) := by decide +kernel
theorem d_X_endRightsOn_15 : decode (pw_cc cx_X_endRightsOn) 15 = .ok (.aload_n 0, 1) := by decide +kernel
theorem d_X_endRightsOn_16 : decode (pw_cc cx_X_endRightsOn) 16 = .ok (.getfield 34, 3) := by decide +kernel
theorem d_X_endRightsOn_19 : decode (pw_cc cx_X_endRightsOn) 19 = .ok (.iload_n 2, 1) := by decide +kernel
theorem d_X_endRightsOn_20 : decode (pw_cc cx_X_endRightsOn) 20 = .ok (.invokeinterface 382 2, 5) := by decide +kernel
theorem d_X_endRightsOn_25 : decode (pw_cc cx_X_endRightsOn) 25 = .ok (.checkcast 210, 3) := by decide +kernel
theorem d_X_endRightsOn_28 : decode (pw_cc cx_X_endRightsOn) 28 = .ok (.astore_n 3, 1) := by decide +kernel
theorem d_X_endRightsOn_29 : decode (pw_cc cx_X_endRightsOn) 29 = .ok (.aload_n 3, 1) := by decide +kernel
theorem d_X_endRightsOn_30 : decode (pw_cc cx_X_endRightsOn) 30 = .ok (.aload_n 1, 1) := by decide +kernel
theorem d_X_endRightsOn_31 : decode (pw_cc cx_X_endRightsOn) 31 = .ok (.invokevirtual 418, 3) := by decide +kernel
theorem d_X_endRightsOn_34 : decode (pw_cc cx_X_endRightsOn) 34 = .ok (.ifCond .eq 8, 3) := by decide +kernel
theorem d_X_endRightsOn_37 : decode (pw_cc cx_X_endRightsOn) 37 = .ok (.aload_n 3, 1) := by decide +kernel
theorem d_X_endRightsOn_38 : decode (pw_cc cx_X_endRightsOn) 38 = .ok (.iconst 1, 1) := by decide +kernel
theorem d_X_endRightsOn_39 : decode (pw_cc cx_X_endRightsOn) 39 = .ok (.putfield 223, 3) := by decide +kernel
theorem d_X_endRightsOn_42 : decode (pw_cc cx_X_endRightsOn) 42 = .ok (.iinc 2 1, 3) := by decide +kernel
theorem d_X_endRightsOn_45 : decode (pw_cc cx_X_endRightsOn) 45 = .ok (.goto (-43), 3) := by decide +kernel
theorem d_X_endRightsOn_48 : decode (pw_cc cx_X_endRightsOn) 48 = .ok (.return_, 1) := by decide +kernel
set_option maxHeartbeats 4000000 in
set_option maxRecDepth 20000 in
def lp_X_endRightsOn_2 (Q : pw_W → Int32 → Prop) (X : pw_W → Nat → Prop) : Nat → Int32 → Int32 → pw_W → Prop := fun k => Nat.rec (motive := fun _ => Int32 → Int32 → pw_W → Prop) (fun _ _ _ => False) (fun _ ih a1 a2 w => w.1 7 0 5 = 0 ∧ ((nI (pw_ln w 25 0)) ≤ a2 → Q w 0) ∧ (¬ (nI (pw_ln w 25 0)) ≤ a2 → w.1 7 0 5 = 0 ∧ pw_jn a2 (pw_ln w 25 0) ∧ ∀ v5, v5 = (w.1 25 0 (pw_i a2)) → 0 ≤ v5 ∧ wp_Right_isOn w v5 a1 (fun w7 r8 => (r8 = 0 → ih a1 (a2 + 1) w7) ∧ (¬ r8 = 0 → ∀ w11, w11 = pw_ps w7 5 (pw_i v5) 5 1 → ih a1 (a2 + 1) w11)) (fun _ _ => False))) k
set_option maxHeartbeats 4000000 in
set_option maxRecDepth 20000 in
theorem lp_X_endRightsOn_2_s {Q : pw_W → Int32 → Prop} {X : pw_W → Nat → Prop}  {k : Nat} {a1 a2 : Int32} {w : pw_W} : lp_X_endRightsOn_2 Q X (k + 1) a1 a2 w = (let ih := lp_X_endRightsOn_2 Q X k; w.1 7 0 5 = 0 ∧ ((nI (pw_ln w 25 0)) ≤ a2 → Q w 0) ∧ (¬ (nI (pw_ln w 25 0)) ≤ a2 → w.1 7 0 5 = 0 ∧ pw_jn a2 (pw_ln w 25 0) ∧ ∀ v5, v5 = (w.1 25 0 (pw_i a2)) → 0 ≤ v5 ∧ wp_Right_isOn w v5 a1 (fun w7 r8 => (r8 = 0 → ih a1 (a2 + 1) w7) ∧ (¬ r8 = 0 → ∀ w11, w11 = pw_ps w7 5 (pw_i v5) 5 1 → ih a1 (a2 + 1) w11)) (fun _ _ => False))) := rfl
set_option maxHeartbeats 4000000 in
set_option maxRecDepth 20000 in
theorem vlp_X_endRightsOn_2 {l : Launch} {g : pw_G} {Q : pw_W → Int32 → Prop} {X : pw_W → Nat → Prop} (hl0 : l.stackTraces = false) : ∀ (k : Nat) (a1 a2 : Int32) (w : pw_W), lp_X_endRightsOn_2 Q X k a1 a2 w → pw_V l g cx_X_endRightsOn Q X 2 [(9, 0), (5, a1), (0, a2), (1, 0)] [] w := by
  intro k; induction k with
  | zero => intro _ _ _ h; exact h.elim
  | succ k ih =>
    intro a1 a2 w h
    rw [lp_X_endRightsOn_2_s] at h
    refine pv_iload_n (n := 3) d_X_endRightsOn_2 rfl rfl rfl ?_
    refine pv_aload_n (n := 4) d_X_endRightsOn_3 rfl rfl rfl ?_
    obtain ⟨g1, h⟩ := h
    refine gt_X_34 (n := 7) rfl d_X_endRightsOn_4 (by decide) g1 rfl ?_
    refine pv_lsize (n := 12) (f := 25) (by decide) q_49 (by decide) rfl d_X_endRightsOn_7 (by decide) rfl ?_
    refine pv_icmp_ge (n := 15) (tgt := 48) d_X_endRightsOn_12 (by decide) rfl (fun c2 => ?_) (fun c2 => ?_)
    · replace h := h.1 c2
      exact pv_vret rfl rfl d_X_endRightsOn_48 h
    · replace h := h.2 c2
      refine pv_aload_n (n := 16) d_X_endRightsOn_15 rfl rfl rfl ?_
      obtain ⟨g3, h⟩ := h
      refine gt_X_34 (n := 19) rfl d_X_endRightsOn_16 (by decide) g3 rfl ?_
      refine pv_iload_n (n := 20) d_X_endRightsOn_19 rfl rfl rfl ?_
      obtain ⟨g4, h⟩ := h
      refine pv_lget (n := 25) (f := 25) (F := 5) (by decide) rfl q_52 (by decide) rfl d_X_endRightsOn_20 (by decide) g4 rfl (fun _ => ?_)
      refine pv_cast (n := 28) pw_cf5 q_53 d_X_endRightsOn_25 rfl ?_
      refine pv_nm (fun v5 e6 => ?_)
      replace h := h v5 e6
      refine pv_astore_n (n := 29) (L' := [(9, 0), (5, a1), (0, a2), (7, v5)]) d_X_endRightsOn_28 rfl (by decide) rfl rfl ?_
      refine pv_aload_n (n := 30) d_X_endRightsOn_29 rfl rfl rfl ?_
      refine pv_aload_n (n := 31) d_X_endRightsOn_30 rfl rfl rfl ?_
      obtain ⟨g9, h⟩ := h
      refine pv_callV (n := 34) (x := v5) [(5, a1)] [] (con_Right_isOn hl0 h) pw_cf5 rfl q_58 q_59 q_60 q_57 q_56 pyo_Right_isOn (by decide) rfl rfl g9 d_X_endRightsOn_31 rfl (fun w7 r8 h _ => ?_) (fun _ _ h => h.elim)
      show pw_V l g cx_X_endRightsOn Q X 34 [(9, 0), (5, a1), (0, a2), (7, v5)] [(0, r8)] w7
      refine pv_if_eq (n := 37) (tgt := 42) d_X_endRightsOn_34 (by decide) rfl (fun c10 => ?_) (fun c10 => ?_)
      · replace h := h.1 c10
        refine pv_iinc (v := (a2 + 1)) (n := 45) (L1 := [(9, 0), (5, a1), (0, (a2 + 1)), (7, v5)]) d_X_endRightsOn_42 rfl rfl rfl (by decide) rfl ?_
        refine pv_goto (tgt := 2) d_X_endRightsOn_45 (by decide) ?_
        refine pv_unset (i := 3) (L1 := [(9, 0), (5, a1), (0, (a2 + 1)), (1, 0)]) rfl ?_
        exact ih _ _ _ h
      · replace h := h.2 c10
        refine pv_aload_n (n := 38) d_X_endRightsOn_37 rfl rfl rfl ?_
        refine pv_iconst (v := 1) (n := 39) d_X_endRightsOn_38 (by decide) rfl ?_
        refine pt_X_223 (n := 42) rfl d_X_endRightsOn_39 g9 (by decide) rfl (fun w11 e12 => ?_)
        replace h := h w11 e12
        refine pv_iinc (v := (a2 + 1)) (n := 45) (L1 := [(9, 0), (5, a1), (0, (a2 + 1)), (7, v5)]) d_X_endRightsOn_42 rfl rfl rfl (by decide) rfl ?_
        refine pv_goto (tgt := 2) d_X_endRightsOn_45 (by decide) ?_
        refine pv_unset (i := 3) (L1 := [(9, 0), (5, a1), (0, (a2 + 1)), (1, 0)]) rfl ?_
        exact ih _ _ _ h
set_option maxHeartbeats 4000000 in
set_option maxRecDepth 20000 in
def wp_X_endRightsOn (w : pw_W) (a1 : Int32) (Q : pw_W → Int32 → Prop) (X : pw_W → Nat → Prop) : Prop := ∃ k13, lp_X_endRightsOn_2 Q X k13 a1 0 w
set_option maxHeartbeats 4000000 in
set_option maxRecDepth 20000 in
theorem vw_X_endRightsOn {l : Launch} {g : pw_G} {Q : pw_W → Int32 → Prop} {X : pw_W → Nat → Prop} (hl0 : l.stackTraces = false) {w : pw_W} {a1 : Int32} (h : wp_X_endRightsOn w a1 Q X) : pw_V l g cx_X_endRightsOn Q X 0 [(9, 0), (5, a1), (1, 0), (1, 0)] [] w := by
  unfold wp_X_endRightsOn at h
  refine pv_iconst (v := 0) (n := 1) d_X_endRightsOn_0 (by decide) rfl ?_
  refine pv_istore_n (n := 2) (L' := [(9, 0), (5, a1), (0, 0), (1, 0)]) d_X_endRightsOn_1 rfl (by decide) rfl rfl ?_
  obtain ⟨k13, h⟩ := h
  exact vlp_X_endRightsOn_2 hl0 _ _ _ _ h
set_option maxHeartbeats 4000000 in
set_option maxRecDepth 20000 in
theorem con_X_endRightsOn {l : Launch} {g : pw_G} {Q : pw_W → Int32 → Prop} {X : pw_W → Nat → Prop} (hl0 : l.stackTraces = false) {w : pw_W} {a1 : Int32} (h : wp_X_endRightsOn w a1 Q X) : pw_Con l g y_X_endRightsOn cx_X_endRightsOn [(9, 0), (5, a1)] w Q X :=
  pw_con (by decide +kernel) rfl rfl hl0 rfl (Nat.le_of_ble_eq_true rfl) (by simp) (vw_X_endRightsOn hl0 h)
theorem d_X_merge_0 : decode (pw_cc cx_X_merge) 0 = .ok (.aload_n 0, 1) := by decide +kernel
theorem d_X_merge_1 : decode (pw_cc cx_X_merge) 1 = .ok (.iload_n 1, 1) := by decide +kernel
theorem d_X_merge_2 : decode (pw_cc cx_X_merge) 2 = .ok (.invokevirtual 61, 3) := by decide +kernel
theorem d_X_merge_5 : decode (pw_cc cx_X_merge) 5 = .ok (.astore_n 3, 1) := by decide +kernel
theorem d_X_merge_6 : decode (pw_cc cx_X_merge) 6 = .ok (.aload_n 0, 1) := by decide +kernel
theorem d_X_merge_7 : decode (pw_cc cx_X_merge) 7 = .ok (.iload_n 2, 1) := by decide +kernel
theorem d_X_merge_8 : decode (pw_cc cx_X_merge) 8 = .ok (.invokevirtual 61, 3) := by decide +kernel
theorem d_X_merge_11 : decode (pw_cc cx_X_merge) 11 = .ok (.astore 4, 2) := by decide +kernel
theorem d_X_merge_13 : decode (pw_cc cx_X_merge) 13 = .ok (.aload_n 3, 1) := by decide +kernel
theorem d_X_merge_14 : decode (pw_cc cx_X_merge) 14 = .ok (.aload 4, 2) := by decide +kernel
theorem d_X_merge_16 : decode (pw_cc cx_X_merge) 16 = .ok (.if_acmp .eq 7, 3) := by decide +kernel
theorem d_X_merge_19 : decode (pw_cc cx_X_merge) 19 = .ok (.iconst 1, 1) := by decide +kernel
theorem d_X_merge_20 : decode (pw_cc cx_X_merge) 20 = .ok (.goto 4, 3) := by decide +kernel
theorem d_X_merge_23 : decode (pw_cc cx_X_merge) 23 = .ok (.iconst 0, 1) := by decide +kernel
theorem d_X_merge_24 : decode (pw_cc cx_X_merge) 24 = .ok (.invokestatic 80, 3) := by decide +kernel
theorem d_X_merge_27 : decode (pw_cc cx_X_merge) 27 = .ok (.aload_n 3, 1) := by decide +kernel
theorem d_X_merge_28 : decode (pw_cc cx_X_merge) 28 = .ok (.getfield 120, 3) := by decide +kernel
theorem d_X_merge_31 : decode (pw_cc cx_X_merge) 31 = .ok (.aload 4, 2) := by decide +kernel
theorem d_X_merge_33 : decode (pw_cc cx_X_merge) 33 = .ok (.getfield 120, 3) := by decide +kernel
theorem d_X_merge_36 : decode (pw_cc cx_X_merge) 36 = .ok (.if_acmp .ne 7, 3) := by decide +kernel
theorem d_X_merge_39 : decode (pw_cc cx_X_merge) 39 = .ok (.iconst 1, 1) := by decide +kernel
theorem d_X_merge_40 : decode (pw_cc cx_X_merge) 40 = .ok (.goto 4, 3) := by decide +kernel
theorem d_X_merge_43 : decode (pw_cc cx_X_merge) 43 = .ok (.iconst 0, 1) := by decide +kernel
theorem d_X_merge_44 : decode (pw_cc cx_X_merge) 44 = .ok (.invokestatic 80, 3) := by decide +kernel
theorem d_X_merge_47 : decode (pw_cc cx_X_merge) 47 = .ok (.aload_n 0, 1) := by decide +kernel
theorem d_X_merge_48 : decode (pw_cc cx_X_merge) 48 = .ok (.getfield 34, 3) := by decide +kernel
theorem d_X_merge_51 : decode (pw_cc cx_X_merge) 51 = .ok (.invokeinterface 88 1, 5) := by decide +kernel
theorem d_X_merge_56 : decode (pw_cc cx_X_merge) 56 = .ok (.aload_n 0, 1) := by decide +kernel
theorem d_X_merge_57 : decode (pw_cc cx_X_merge) 57 = .ok (.aload_n 3, 1) := by decide +kernel
theorem d_X_merge_58 : decode (pw_cc cx_X_merge) 58 = .ok (.aload 4, 2) := by decide +kernel
theorem d_X_merge_60 : decode (pw_cc cx_X_merge) 60 = .ok (.invokevirtual 124, 3) := by decide +kernel
theorem d_X_merge_63 : decode (pw_cc cx_X_merge) 63 = .ok (.iadd, 1) := by decide +kernel
theorem d_X_merge_64 : decode (pw_cc cx_X_merge) 64 = .ok (.bipush 80, 2) := by decide +kernel
theorem d_X_merge_66 : decode (pw_cc cx_X_merge) 66 = .ok (.if_icmp .gt 7, 3) := by decide +kernel
theorem d_X_merge_69 : decode (pw_cc cx_X_merge) 69 = .ok (.iconst 1, 1) := by decide +kernel
theorem d_X_merge_70 : decode (pw_cc cx_X_merge) 70 = .ok (.goto 4, 3) := by decide +kernel
theorem d_X_merge_73 : decode (pw_cc cx_X_merge) 73 = .ok (.iconst 0, 1) := by decide +kernel
theorem d_X_merge_74 : decode (pw_cc cx_X_merge) 74 = .ok (.invokestatic 80, 3) := by decide +kernel
theorem d_X_merge_77 : decode (pw_cc cx_X_merge) 77 = .ok (.aload_n 0, 1) := by decide +kernel
theorem d_X_merge_78 : decode (pw_cc cx_X_merge) 78 = .ok (.aload_n 3, 1) := by decide +kernel
theorem d_X_merge_79 : decode (pw_cc cx_X_merge) 79 = .ok (.aload 4, 2) := by decide +kernel
theorem d_X_merge_81 : decode (pw_cc cx_X_merge) 81 = .ok (.invokevirtual 100, 3) := by decide +kernel
theorem d_X_merge_84 : decode (pw_cc cx_X_merge) 84 = .ok (.aload_n 0, 1) := by decide +kernel
theorem d_X_merge_85 : decode (pw_cc cx_X_merge) 85 = .ok (.aload_n 3, 1) := by decide +kernel
theorem d_X_merge_86 : decode (pw_cc cx_X_merge) 86 = .ok (.invokevirtual 128, 3) := by decide +kernel
theorem d_X_merge_89 : decode (pw_cc cx_X_merge) 89 = .ok (.aload_n 3, 1) := by decide +kernel
theorem d_X_merge_90 : decode (pw_cc cx_X_merge) 90 = .ok (.aload 4, 2) := by decide +kernel
theorem d_X_merge_92 : decode (pw_cc cx_X_merge) 92 = .ok (.invokestatic 131, 3) := by decide +kernel
theorem d_X_merge_95 : decode (pw_cc cx_X_merge) 95 = .ok (.aload_n 0, 1) := by decide +kernel
theorem d_X_merge_96 : decode (pw_cc cx_X_merge) 96 = .ok (.getfield 11, 3) := by decide +kernel
theorem d_X_merge_99 : decode (pw_cc cx_X_merge) 99 = .ok (.astore 5, 2) := by decide +kernel
theorem d_X_merge_101 : decode (pw_cc cx_X_merge) 101 = .ok (.aload 5, 2) := by decide +kernel
theorem d_X_merge_103 : decode (pw_cc cx_X_merge) 103 = .ok (.arraylength, 1) := by decide +kernel
theorem d_X_merge_104 : decode (pw_cc cx_X_merge) 104 = .ok (.istore 6, 2) := by decide +kernel
theorem d_X_merge_106 : decode (pw_cc cx_X_merge) 106 = .ok (.iconst 0, 1) := by decide +kernel
theorem d_X_merge_107 : decode (pw_cc cx_X_merge) 107 = .ok (.istore 7, 2) := by decide +kernel
theorem d_X_merge_109 : decode (pw_cc cx_X_merge) 109 = .ok (.iload 7, 2) := by decide +kernel
theorem d_X_merge_111 : decode (pw_cc cx_X_merge) 111 = .ok (.iload 6, 2) := by decide +kernel
theorem d_X_merge_113 : decode (pw_cc cx_X_merge) 113 = .ok (.if_icmp .ge 32, 3) := by decide +kernel
theorem d_X_merge_116 : decode (pw_cc cx_X_merge) 116 = .ok (.aload 5, 2) := by decide +kernel
theorem d_X_merge_118 : decode (pw_cc cx_X_merge) 118 = .ok (.iload 7, 2) := by decide +kernel
theorem d_X_merge_120 : decode (pw_cc cx_X_merge) 120 = .ok (.aaload, 1) := by decide +kernel
theorem d_X_merge_121 : decode (pw_cc cx_X_merge) 121 = .ok (.astore 8, 2) := by decide +kernel
theorem d_X_merge_123 : decode (pw_cc cx_X_merge) 123 = .ok (.aload 8, 2) := by decide +kernel
theorem d_X_merge_125 : decode (pw_cc cx_X_merge) 125 = .ok (.getfield 104, 3) := by decide +kernel
theorem d_X_merge_128 : decode (pw_cc cx_X_merge) 128 = .ok (.aload_n 3, 1) := by decide +kernel
theorem d_X_merge_129 : decode (pw_cc cx_X_merge) 129 = .ok (.if_acmp .ne 10, 3) := by decide +kernel
theorem d_X_merge_132 : decode (pw_cc cx_X_merge) 132 = .ok (.aload 8, 2) := by decide +kernel
theorem d_X_merge_134 : decode (pw_cc cx_X_merge) 134 = .ok (.aload 4, 2) := by decide +kernel
theorem d_X_merge_136 : decode (pw_cc cx_X_merge) 136 = .ok (.invokevirtual 115, 3) := by decide +kernel
theorem d_X_merge_139 : decode (pw_cc cx_X_merge) 139 = .ok (.iinc 7 1, 3) := by decide +kernel
theorem d_X_merge_142 : decode (pw_cc cx_X_merge) 142 = .ok (.goto (-33), 3) := by decide +kernel
theorem d_X_merge_145 : decode (pw_cc cx_X_merge) 145 = .ok (.aload_n 3, 1) := by decide +kernel
theorem d_X_merge_146 : decode (pw_cc cx_X_merge) 146 = .ok (.aload 4, 2) := by decide +kernel
theorem d_X_merge_148 : decode (pw_cc cx_X_merge) 148 = .ok (.putfield 134, 3) := by decide +kernel
theorem d_X_merge_151 : decode (pw_cc cx_X_merge) 151 = .ok (.aload 4, 2) := by decide +kernel
theorem d_X_merge_153 : decode (pw_cc cx_X_merge) 153 = .ok (.getfield 54, 3) := by decide +kernel
theorem d_X_merge_156 : decode (pw_cc cx_X_merge) 156 = .ok (.ireturn, 1) := by decide +kernel
set_option maxHeartbeats 4000000 in
set_option maxRecDepth 20000 in
def lp_X_merge_109 (Q : pw_W → Int32 → Prop) (X : pw_W → Nat → Prop) : Nat → Int32 → Int32 → Int32 → Int32 → pw_W → Prop := fun k => Nat.rec (motive := fun _ => Int32 → Int32 → Int32 → Int32 → pw_W → Prop) (fun _ _ _ _ _ => False) (fun _ ih a3 a4 a6 a7 w => (a6 ≤ a7 → 0 ≤ a3 ∧ ∀ w3, w3 = pw_ps w 3 (pw_i a3) 3 a4 → 0 ≤ a4 ∧ Q w3 (w3.1 3 (pw_i a4) 4)) ∧ (¬ a6 ≤ a7 → pw_jn a7 (pw_ln w 14 0) ∧ ∀ v7, v7 = (w.1 14 0 (pw_i a7)) → 0 ≤ v7 ∧ (¬ (w.1 6 (pw_i v7) 1) = a3 → ih a3 a4 a6 (a7 + 1) w) ∧ ((w.1 6 (pw_i v7) 1) = a3 → wp_Square_moveTo w v7 a4 (fun w11 r12 => ih a3 a4 a6 (a7 + 1) w11) (fun _ _ => False)))) k
set_option maxHeartbeats 4000000 in
set_option maxRecDepth 20000 in
theorem lp_X_merge_109_s {Q : pw_W → Int32 → Prop} {X : pw_W → Nat → Prop}  {k : Nat} {a3 a4 a6 a7 : Int32} {w : pw_W} : lp_X_merge_109 Q X (k + 1) a3 a4 a6 a7 w = (let ih := lp_X_merge_109 Q X k; (a6 ≤ a7 → 0 ≤ a3 ∧ ∀ w3, w3 = pw_ps w 3 (pw_i a3) 3 a4 → 0 ≤ a4 ∧ Q w3 (w3.1 3 (pw_i a4) 4)) ∧ (¬ a6 ≤ a7 → pw_jn a7 (pw_ln w 14 0) ∧ ∀ v7, v7 = (w.1 14 0 (pw_i a7)) → 0 ≤ v7 ∧ (¬ (w.1 6 (pw_i v7) 1) = a3 → ih a3 a4 a6 (a7 + 1) w) ∧ ((w.1 6 (pw_i v7) 1) = a3 → wp_Square_moveTo w v7 a4 (fun w11 r12 => ih a3 a4 a6 (a7 + 1) w11) (fun _ _ => False)))) := rfl
set_option maxHeartbeats 4000000 in
set_option maxRecDepth 20000 in
theorem vlp_X_merge_109 {l : Launch} {g : pw_G} {Q : pw_W → Int32 → Prop} {X : pw_W → Nat → Prop} (hl0 : l.stackTraces = false) : ∀ (k : Nat) (a3 a4 a6 a7 : Int32) (w : pw_W), lp_X_merge_109 Q X k a3 a4 a6 a7 w → pw_V l g cx_X_merge Q X 109 [(1, 0), (1, 0), (1, 0), (5, a3), (5, a4), (16, 0), (0, a6), (0, a7), (1, 0)] [] w := by
  intro k; induction k with
  | zero => intro _ _ _ _ _ h; exact h.elim
  | succ k ih =>
    intro a3 a4 a6 a7 w h
    rw [lp_X_merge_109_s] at h
    refine pv_iload (n := 111) d_X_merge_109 rfl rfl ?_
    refine pv_iload (n := 113) d_X_merge_111 rfl rfl ?_
    refine pv_icmp_ge (n := 116) (tgt := 145) d_X_merge_113 (by decide) rfl (fun c1 => ?_) (fun c1 => ?_)
    · replace h := h.1 c1
      refine pv_aload_n (n := 146) d_X_merge_145 rfl rfl rfl ?_
      refine pv_aload (n := 148) d_X_merge_146 rfl rfl ?_
      obtain ⟨g2, h⟩ := h
      refine pt_X_134 (n := 151) rfl d_X_merge_148 g2 rfl (fun w3 e4 => ?_)
      replace h := h w3 e4
      refine pv_aload (n := 153) d_X_merge_151 rfl rfl ?_
      obtain ⟨g5, h⟩ := h
      refine gt_X_54 (n := 156) rfl d_X_merge_153 g5 rfl ?_
      exact pv_iret rfl rfl d_X_merge_156 h
    · replace h := h.2 c1
      refine pv_aload (n := 118) d_X_merge_116 rfl rfl ?_
      refine pv_iload (n := 120) d_X_merge_118 rfl rfl ?_
      obtain ⟨g6, h⟩ := h
      refine pv_aald (n := 121) (f := 14) (F := 6) (C := "Peatland$Square") (by decide) (Or.inl ⟨rfl, rfl⟩) (fun _ => rfl) d_X_merge_120 (by decide) g6 rfl (fun _ => ?_)
      refine pv_nm (fun v7 e8 => ?_)
      replace h := h v7 e8
      refine pv_astore (n := 123) (L' := [(1, 0), (1, 0), (1, 0), (5, a3), (5, a4), (16, 0), (0, a6), (0, a7), (8, v7)]) d_X_merge_121 (by decide) rfl rfl ?_
      refine pv_aload (n := 125) d_X_merge_123 rfl rfl ?_
      obtain ⟨g9, h⟩ := h
      refine gt_X_104 (n := 128) rfl d_X_merge_125 g9 rfl ?_
      refine pv_aload_n (n := 129) d_X_merge_128 rfl rfl rfl ?_
      refine pv_acmp_ne (n := 132) (tgt := 139) d_X_merge_129 (by decide) (by decide) rfl (fun c10 => ?_) (fun c10 => ?_)
      · replace h := h.1 c10
        refine pv_iinc (v := (a7 + 1)) (n := 142) (L1 := [(1, 0), (1, 0), (1, 0), (5, a3), (5, a4), (16, 0), (0, a6), (0, (a7 + 1)), (8, v7)]) d_X_merge_139 rfl rfl rfl (by decide) rfl ?_
        refine pv_goto (tgt := 109) d_X_merge_142 (by decide) ?_
        refine pv_unset (i := 8) (L1 := [(1, 0), (1, 0), (1, 0), (5, a3), (5, a4), (16, 0), (0, a6), (0, (a7 + 1)), (1, 0)]) rfl ?_
        exact ih _ _ _ _ _ h
      · replace h := h.2 c10
        refine pv_aload (n := 134) d_X_merge_132 rfl rfl ?_
        refine pv_aload (n := 136) d_X_merge_134 rfl rfl ?_
        refine pv_callV (n := 139) (x := v7) [(5, a4)] [] (con_Square_moveTo hl0 h) pw_cf6 rfl q_112 q_113 q_114 q_32 q_111 pyo_Square_moveTo (by decide) rfl rfl g9 d_X_merge_136 rfl (fun w11 r12 h _ => ?_) (fun _ _ h => h.elim)
        show pw_V l g cx_X_merge Q X 139 [(1, 0), (1, 0), (1, 0), (5, a3), (5, a4), (16, 0), (0, a6), (0, a7), (8, v7)] [] w11
        refine pv_iinc (v := (a7 + 1)) (n := 142) (L1 := [(1, 0), (1, 0), (1, 0), (5, a3), (5, a4), (16, 0), (0, a6), (0, (a7 + 1)), (8, v7)]) d_X_merge_139 rfl rfl rfl (by decide) rfl ?_
        refine pv_goto (tgt := 109) d_X_merge_142 (by decide) ?_
        refine pv_unset (i := 8) (L1 := [(1, 0), (1, 0), (1, 0), (5, a3), (5, a4), (16, 0), (0, a6), (0, (a7 + 1)), (1, 0)]) rfl ?_
        exact ih _ _ _ _ _ h
set_option maxHeartbeats 4000000 in
set_option maxRecDepth 20000 in
def jp_X_merge_74 (Q : pw_W → Int32 → Prop) (X : pw_W → Nat → Prop) (a3 a4 s0 : Int32) (w : pw_W) : Prop := wp_X_checkState w s0 (fun w13 r14 => wp_X_bringRights w13 a3 a4 (fun w15 r16 => wp_X_endRightsOn w15 a3 (fun w17 r18 => wp_X_bringSheep w17 a3 a4 (fun w19 r20 => w19.1 7 0 0 = 0 ∧ ∀ v22, v22 = (nI (pw_ln w19 14 0)) → ∃ k24, lp_X_merge_109 Q X k24 a3 a4 v22 0 w19) (fun _ _ => False)) (fun _ _ => False)) (fun _ _ => False)) X
set_option maxHeartbeats 4000000 in
set_option maxRecDepth 20000 in
theorem vjp_X_merge_74 {l : Launch} {g : pw_G} {Q : pw_W → Int32 → Prop} {X : pw_W → Nat → Prop} (hl0 : l.stackTraces = false) (a3 a4 s0 : Int32) (w : pw_W) (h : jp_X_merge_74 Q X a3 a4 s0 w) : pw_V l g cx_X_merge Q X 74 [(9, 0), (1, 0), (1, 0), (5, a3), (5, a4), (1, 0), (1, 0), (1, 0), (1, 0)] [(0, s0)] w := by
  unfold jp_X_merge_74 at h
  refine pv_callS (n := 77) [(0, s0)] [] (con_X_checkState hl0 h) q_124 q_125 q_62 q_123 pyo_X_checkState (by decide) rfl rfl d_X_merge_74 rfl (fun w13 r14 h _ => ?_) (fun _ _ h => pvx_out rfl h)
  show pw_V l g cx_X_merge Q X 77 [(9, 0), (1, 0), (1, 0), (5, a3), (5, a4), (1, 0), (1, 0), (1, 0), (1, 0)] [] w13
  refine pv_aload_n (n := 78) d_X_merge_77 rfl rfl rfl ?_
  refine pv_aload_n (n := 79) d_X_merge_78 rfl rfl rfl ?_
  refine pv_aload (n := 81) d_X_merge_79 rfl rfl ?_
  refine pv_callV (n := 84) (x := 0) [(5, a3), (5, a4)] [] (con_X_bringRights hl0 h) pw_cf7 rfl q_116 q_117 q_118 q_62 q_115 pyo_X_bringRights (by decide) rfl rfl (by decide) d_X_merge_81 rfl (fun w15 r16 h _ => ?_) (fun _ _ h => h.elim)
  show pw_V l g cx_X_merge Q X 84 [(9, 0), (1, 0), (1, 0), (5, a3), (5, a4), (1, 0), (1, 0), (1, 0), (1, 0)] [] w15
  refine pv_aload_n (n := 85) d_X_merge_84 rfl rfl rfl ?_
  refine pv_aload_n (n := 86) d_X_merge_85 rfl rfl rfl ?_
  refine pv_callV (n := 89) (x := 0) [(5, a3)] [] (con_X_endRightsOn hl0 h) pw_cf7 rfl q_165 q_166 q_167 q_62 q_164 pyo_X_endRightsOn (by decide) rfl rfl (by decide) d_X_merge_86 rfl (fun w17 r18 h _ => ?_) (fun _ _ h => h.elim)
  show pw_V l g cx_X_merge Q X 89 [(9, 0), (1, 0), (1, 0), (5, a3), (5, a4), (1, 0), (1, 0), (1, 0), (1, 0)] [] w17
  refine pv_aload_n (n := 90) d_X_merge_89 rfl rfl rfl ?_
  refine pv_aload (n := 92) d_X_merge_90 rfl rfl ?_
  refine pv_callS (n := 95) [(5, a3), (5, a4)] [] (con_X_bringSheep hl0 h) q_162 q_163 q_62 q_161 pyo_X_bringSheep (by decide) rfl rfl d_X_merge_92 rfl (fun w19 r20 h _ => ?_) (fun _ _ h => h.elim)
  show pw_V l g cx_X_merge Q X 95 [(9, 0), (1, 0), (1, 0), (5, a3), (5, a4), (1, 0), (1, 0), (1, 0), (1, 0)] [] w19
  refine pv_aload_n (n := 96) d_X_merge_95 rfl rfl rfl ?_
  obtain ⟨g21, h⟩ := h
  refine gt_X_11 (n := 99) rfl d_X_merge_96 (by decide) g21 rfl ?_
  refine pv_astore (n := 101) (L' := [(9, 0), (1, 0), (1, 0), (5, a3), (5, a4), (16, 0), (1, 0), (1, 0), (1, 0)]) d_X_merge_99 (by decide) rfl rfl ?_
  refine pv_aload (n := 103) d_X_merge_101 rfl rfl ?_
  refine pv_alen (n := 104) (f := 14) (by decide) ⟨_, rfl⟩ d_X_merge_103 (by decide) rfl ?_
  refine pv_nm (fun v22 e23 => ?_)
  replace h := h v22 e23
  refine pv_istore (n := 106) (L' := [(9, 0), (1, 0), (1, 0), (5, a3), (5, a4), (16, 0), (0, v22), (1, 0), (1, 0)]) d_X_merge_104 (by decide) rfl rfl ?_
  refine pv_iconst (v := 0) (n := 107) d_X_merge_106 (by decide) rfl ?_
  refine pv_istore (n := 109) (L' := [(9, 0), (1, 0), (1, 0), (5, a3), (5, a4), (16, 0), (0, v22), (0, 0), (1, 0)]) d_X_merge_107 (by decide) rfl rfl ?_
  refine pv_unset (i := 0) (L1 := [(1, 0), (1, 0), (1, 0), (5, a3), (5, a4), (16, 0), (0, v22), (0, 0), (1, 0)]) rfl ?_
  obtain ⟨k24, h⟩ := h
  exact vlp_X_merge_109 hl0 _ _ _ _ _ _ h
set_option maxHeartbeats 4000000 in
set_option maxRecDepth 20000 in
def jp_X_merge_44 (Q : pw_W → Int32 → Prop) (X : pw_W → Nat → Prop) (a3 a4 s0 : Int32) (w : pw_W) : Prop := wp_X_checkState w s0 (fun w25 r26 => w25.1 7 0 5 = 0 ∧ wp_X_countRightsToBring w25 a3 a4 (fun w28 r29 => ((80 : Int32) < ((nI (pw_ln w25 25 0)) + r29) → jp_X_merge_74 Q X a3 a4 0 w28) ∧ (¬ (80 : Int32) < ((nI (pw_ln w25 25 0)) + r29) → jp_X_merge_74 Q X a3 a4 1 w28)) (fun _ _ => False)) X
set_option maxHeartbeats 4000000 in
set_option maxRecDepth 20000 in
theorem vjp_X_merge_44 {l : Launch} {g : pw_G} {Q : pw_W → Int32 → Prop} {X : pw_W → Nat → Prop} (hl0 : l.stackTraces = false) (a3 a4 s0 : Int32) (w : pw_W) (h : jp_X_merge_44 Q X a3 a4 s0 w) : pw_V l g cx_X_merge Q X 44 [(9, 0), (1, 0), (1, 0), (5, a3), (5, a4), (1, 0), (1, 0), (1, 0), (1, 0)] [(0, s0)] w := by
  unfold jp_X_merge_44 at h
  refine pv_callS (n := 47) [(0, s0)] [] (con_X_checkState hl0 h) q_124 q_125 q_62 q_123 pyo_X_checkState (by decide) rfl rfl d_X_merge_44 rfl (fun w25 r26 h _ => ?_) (fun _ _ h => pvx_out rfl h)
  show pw_V l g cx_X_merge Q X 47 [(9, 0), (1, 0), (1, 0), (5, a3), (5, a4), (1, 0), (1, 0), (1, 0), (1, 0)] [] w25
  refine pv_aload_n (n := 48) d_X_merge_47 rfl rfl rfl ?_
  obtain ⟨g27, h⟩ := h
  refine gt_X_34 (n := 51) rfl d_X_merge_48 (by decide) g27 rfl ?_
  refine pv_lsize (n := 56) (f := 25) (by decide) q_49 (by decide) rfl d_X_merge_51 (by decide) rfl ?_
  refine pv_aload_n (n := 57) d_X_merge_56 rfl rfl rfl ?_
  refine pv_aload_n (n := 58) d_X_merge_57 rfl rfl rfl ?_
  refine pv_aload (n := 60) d_X_merge_58 rfl rfl ?_
  refine pv_callV (n := 63) (x := 0) [(5, a3), (5, a4)] [(0, (nI (pw_ln w25 25 0)))] (con_X_countRightsToBring hl0 h) pw_cf7 rfl q_169 q_170 q_171 q_62 q_168 pyo_X_countRightsToBring (by decide) rfl rfl (by decide) d_X_merge_60 rfl (fun w28 r29 h _ => ?_) (fun _ _ h => h.elim)
  show pw_V l g cx_X_merge Q X 63 [(9, 0), (1, 0), (1, 0), (5, a3), (5, a4), (1, 0), (1, 0), (1, 0), (1, 0)] [(0, r29), (0, (nI (pw_ln w25 25 0)))] w28
  refine pv_iadd (n := 64) d_X_merge_63 rfl ?_
  refine pv_bipush (v := 80) (n := 66) d_X_merge_64 (by decide) rfl ?_
  refine pv_icmp_gt (n := 69) (tgt := 73) d_X_merge_66 (by decide) rfl (fun c30 => ?_) (fun c30 => ?_)
  · replace h := h.1 c30
    refine pv_iconst (v := 0) (n := 74) d_X_merge_73 (by decide) rfl ?_
    exact vjp_X_merge_74 hl0 _ _ _ _ h
  · replace h := h.2 c30
    refine pv_iconst (v := 1) (n := 70) d_X_merge_69 (by decide) rfl ?_
    refine pv_goto (tgt := 74) d_X_merge_70 (by decide) ?_
    exact vjp_X_merge_74 hl0 _ _ _ _ h
set_option maxHeartbeats 4000000 in
set_option maxRecDepth 20000 in
def jp_X_merge_24 (Q : pw_W → Int32 → Prop) (X : pw_W → Nat → Prop) (a3 a4 s0 : Int32) (w : pw_W) : Prop := wp_X_checkState w s0 (fun w31 r32 => 0 ≤ a3 ∧ 0 ≤ a4 ∧ (¬ (w31.1 3 (pw_i a3) 2) = (w31.1 3 (pw_i a4) 2) → jp_X_merge_44 Q X a3 a4 0 w31) ∧ ((w31.1 3 (pw_i a3) 2) = (w31.1 3 (pw_i a4) 2) → jp_X_merge_44 Q X a3 a4 1 w31)) X
set_option maxHeartbeats 4000000 in
set_option maxRecDepth 20000 in
theorem vjp_X_merge_24 {l : Launch} {g : pw_G} {Q : pw_W → Int32 → Prop} {X : pw_W → Nat → Prop} (hl0 : l.stackTraces = false) (a3 a4 s0 : Int32) (w : pw_W) (h : jp_X_merge_24 Q X a3 a4 s0 w) : pw_V l g cx_X_merge Q X 24 [(9, 0), (1, 0), (1, 0), (5, a3), (5, a4), (1, 0), (1, 0), (1, 0), (1, 0)] [(0, s0)] w := by
  unfold jp_X_merge_24 at h
  refine pv_callS (n := 27) [(0, s0)] [] (con_X_checkState hl0 h) q_124 q_125 q_62 q_123 pyo_X_checkState (by decide) rfl rfl d_X_merge_24 rfl (fun w31 r32 h _ => ?_) (fun _ _ h => pvx_out rfl h)
  show pw_V l g cx_X_merge Q X 27 [(9, 0), (1, 0), (1, 0), (5, a3), (5, a4), (1, 0), (1, 0), (1, 0), (1, 0)] [] w31
  refine pv_aload_n (n := 28) d_X_merge_27 rfl rfl rfl ?_
  obtain ⟨g33, h⟩ := h
  refine gt_X_120 (n := 31) rfl d_X_merge_28 g33 rfl ?_
  refine pv_aload (n := 33) d_X_merge_31 rfl rfl ?_
  obtain ⟨g34, h⟩ := h
  refine gt_X_120 (n := 36) rfl d_X_merge_33 g34 rfl ?_
  refine pv_acmp_ne (n := 39) (tgt := 43) d_X_merge_36 (by decide) (by decide) rfl (fun c35 => ?_) (fun c35 => ?_)
  · replace h := h.1 c35
    refine pv_iconst (v := 0) (n := 44) d_X_merge_43 (by decide) rfl ?_
    exact vjp_X_merge_44 hl0 _ _ _ _ h
  · replace h := h.2 c35
    refine pv_iconst (v := 1) (n := 40) d_X_merge_39 (by decide) rfl ?_
    refine pv_goto (tgt := 44) d_X_merge_40 (by decide) ?_
    exact vjp_X_merge_44 hl0 _ _ _ _ h
set_option maxHeartbeats 4000000 in
set_option maxRecDepth 20000 in
def wp_X_merge (w : pw_W) (a1 a2 : Int32) (Q : pw_W → Int32 → Prop) (X : pw_W → Nat → Prop) : Prop := wp_X_parcelNumbered w a1 (fun w36 r37 => wp_X_parcelNumbered w36 a2 (fun w38 r39 => (r37 = r39 → jp_X_merge_24 Q X r37 r39 0 w38) ∧ (¬ r37 = r39 → jp_X_merge_24 Q X r37 r39 1 w38)) X) X
set_option maxHeartbeats 4000000 in
set_option maxRecDepth 20000 in
theorem vw_X_merge {l : Launch} {g : pw_G} {Q : pw_W → Int32 → Prop} {X : pw_W → Nat → Prop} (hl0 : l.stackTraces = false) {w : pw_W} {a1 a2 : Int32} (h : wp_X_merge w a1 a2 Q X) : pw_V l g cx_X_merge Q X 0 [(9, 0), (0, a1), (0, a2), (1, 0), (1, 0), (1, 0), (1, 0), (1, 0), (1, 0)] [] w := by
  unfold wp_X_merge at h
  refine pv_aload_n (n := 1) d_X_merge_0 rfl rfl rfl ?_
  refine pv_iload_n (n := 2) d_X_merge_1 rfl rfl rfl ?_
  refine pv_callV (n := 5) (x := 0) [(0, a1)] [] (con_X_parcelNumbered hl0 h) pw_cf7 rfl q_146 q_147 q_148 q_62 q_145 pyo_X_parcelNumbered (by decide) rfl rfl (by decide) d_X_merge_2 rfl (fun w36 r37 h _ => ?_) (fun _ _ h => pvx_out rfl h)
  show pw_V l g cx_X_merge Q X 5 [(9, 0), (0, a1), (0, a2), (1, 0), (1, 0), (1, 0), (1, 0), (1, 0), (1, 0)] [(5, r37)] w36
  refine pv_astore_n (n := 6) (L' := [(9, 0), (0, a1), (0, a2), (5, r37), (1, 0), (1, 0), (1, 0), (1, 0), (1, 0)]) d_X_merge_5 rfl (by decide) rfl rfl ?_
  refine pv_aload_n (n := 7) d_X_merge_6 rfl rfl rfl ?_
  refine pv_iload_n (n := 8) d_X_merge_7 rfl rfl rfl ?_
  refine pv_callV (n := 11) (x := 0) [(0, a2)] [] (con_X_parcelNumbered hl0 h) pw_cf7 rfl q_146 q_147 q_148 q_62 q_145 pyo_X_parcelNumbered (by decide) rfl rfl (by decide) d_X_merge_8 rfl (fun w38 r39 h _ => ?_) (fun _ _ h => pvx_out rfl h)
  show pw_V l g cx_X_merge Q X 11 [(9, 0), (0, a1), (0, a2), (5, r37), (1, 0), (1, 0), (1, 0), (1, 0), (1, 0)] [(5, r39)] w38
  refine pv_astore (n := 13) (L' := [(9, 0), (0, a1), (0, a2), (5, r37), (5, r39), (1, 0), (1, 0), (1, 0), (1, 0)]) d_X_merge_11 (by decide) rfl rfl ?_
  refine pv_aload_n (n := 14) d_X_merge_13 rfl rfl rfl ?_
  refine pv_aload (n := 16) d_X_merge_14 rfl rfl ?_
  refine pv_acmp_eq (n := 19) (tgt := 23) d_X_merge_16 (by decide) (by decide) rfl (fun c40 => ?_) (fun c40 => ?_)
  · replace h := h.1 c40
    refine pv_iconst (v := 0) (n := 24) d_X_merge_23 (by decide) rfl ?_
    refine pv_unset (i := 1) (L1 := [(9, 0), (1, 0), (0, a2), (5, r37), (5, r39), (1, 0), (1, 0), (1, 0), (1, 0)]) rfl ?_
    refine pv_unset (i := 2) (L1 := [(9, 0), (1, 0), (1, 0), (5, r37), (5, r39), (1, 0), (1, 0), (1, 0), (1, 0)]) rfl ?_
    exact vjp_X_merge_24 hl0 _ _ _ _ h
  · replace h := h.2 c40
    refine pv_iconst (v := 1) (n := 20) d_X_merge_19 (by decide) rfl ?_
    refine pv_goto (tgt := 24) d_X_merge_20 (by decide) ?_
    refine pv_unset (i := 1) (L1 := [(9, 0), (1, 0), (0, a2), (5, r37), (5, r39), (1, 0), (1, 0), (1, 0), (1, 0)]) rfl ?_
    refine pv_unset (i := 2) (L1 := [(9, 0), (1, 0), (1, 0), (5, r37), (5, r39), (1, 0), (1, 0), (1, 0), (1, 0)]) rfl ?_
    exact vjp_X_merge_24 hl0 _ _ _ _ h
set_option maxHeartbeats 4000000 in
set_option maxRecDepth 20000 in
theorem con_X_merge {l : Launch} {g : pw_G} {Q : pw_W → Int32 → Prop} {X : pw_W → Nat → Prop} (hl0 : l.stackTraces = false) {w : pw_W} {a1 a2 : Int32} (h : wp_X_merge w a1 a2 Q X) : pw_Con l g y_X_merge cx_X_merge [(9, 0), (0, a1), (0, a2)] w Q X :=
  pw_con (by decide +kernel) rfl rfl hl0 rfl (Nat.le_of_ble_eq_true rfl) (by simp) (vw_X_merge hl0 h)
theorem d_FieldMap_init_0 : decode (pw_cc cx_FieldMap_init) 0 = .ok (.aload_n 0, 1) := by decide +kernel
theorem d_FieldMap_init_1 : decode (pw_cc cx_FieldMap_init) 1 = .ok (.invokespecial 1, 3) := by decide +kernel
theorem d_FieldMap_init_4 : decode (pw_cc cx_FieldMap_init) 4 = .ok (.aload_n 0, 1) := by decide +kernel
theorem d_FieldMap_init_5 : decode (pw_cc cx_FieldMap_init) 5 = .ok (.aload_n 1, 1) := by decide +kernel
theorem d_FieldMap_init_6 : decode (pw_cc cx_FieldMap_init) 6 = .ok (.putfield 7, 3) := by decide +kernel
theorem d_FieldMap_init_9 : decode (pw_cc cx_FieldMap_init) 9 = .ok (.aload_n 0, 1) := by decide +kernel
theorem d_FieldMap_init_10 : decode (pw_cc cx_FieldMap_init) 10 = .ok (.iload_n 2, 1) := by decide +kernel
theorem d_FieldMap_init_11 : decode (pw_cc cx_FieldMap_init) 11 = .ok (.putfield 13, 3) := by decide +kernel
theorem d_FieldMap_init_14 : decode (pw_cc cx_FieldMap_init) 14 = .ok (.aload_n 0, 1) := by decide +kernel
theorem d_FieldMap_init_15 : decode (pw_cc cx_FieldMap_init) 15 = .ok (.iload_n 3, 1) := by decide +kernel
theorem d_FieldMap_init_16 : decode (pw_cc cx_FieldMap_init) 16 = .ok (.putfield 17, 3) := by decide +kernel
theorem d_FieldMap_init_19 : decode (pw_cc cx_FieldMap_init) 19 = .ok (.return_, 1) := by decide +kernel
set_option maxHeartbeats 4000000 in
set_option maxRecDepth 20000 in
def wp_FieldMap_init (w : pw_W) (a0 a1 a2 a3 : Int32) (Q : pw_W → Int32 → Prop) (X : pw_W → Nat → Prop) : Prop := 0 ≤ a0 ∧ ∀ w2, w2 = pw_ps w 2 (pw_i a0) 0 a1 → ∀ w4, w4 = pw_ps w2 2 (pw_i a0) 1 a2 → ∀ w6, w6 = pw_ps w4 2 (pw_i a0) 2 a3 → Q w6 0
set_option maxHeartbeats 4000000 in
set_option maxRecDepth 20000 in
theorem vw_FieldMap_init {l : Launch} {g : pw_G} {Q : pw_W → Int32 → Prop} {X : pw_W → Nat → Prop} (hl0 : l.stackTraces = false) {w : pw_W} {a0 a1 a2 a3 : Int32} (h : wp_FieldMap_init w a0 a1 a2 a3 Q X) : pw_V l g cx_FieldMap_init Q X 0 [(4, a0), (6, a1), (0, a2), (0, a3)] [] w := by
  unfold wp_FieldMap_init at h
  refine pv_aload_n (n := 1) d_FieldMap_init_0 rfl rfl rfl ?_
  obtain ⟨g1, h⟩ := h
  refine pv_objInit (n := 4) q_173 q_1 q_2 (by decide) rfl g1 d_FieldMap_init_1 rfl ?_
  refine pv_aload_n (n := 5) d_FieldMap_init_4 rfl rfl rfl ?_
  refine pv_aload_n (n := 6) d_FieldMap_init_5 rfl rfl rfl ?_
  refine pt_FieldMap_7 (n := 9) rfl rfl d_FieldMap_init_6 g1 rfl (fun w2 e3 => ?_)
  replace h := h w2 e3
  refine pv_aload_n (n := 10) d_FieldMap_init_9 rfl rfl rfl ?_
  refine pv_iload_n (n := 11) d_FieldMap_init_10 rfl rfl rfl ?_
  refine pt_FieldMap_13 (n := 14) rfl rfl d_FieldMap_init_11 g1 rfl (fun w4 e5 => ?_)
  replace h := h w4 e5
  refine pv_aload_n (n := 15) d_FieldMap_init_14 rfl rfl rfl ?_
  refine pv_iload_n (n := 16) d_FieldMap_init_15 rfl rfl rfl ?_
  refine pt_FieldMap_17 (n := 19) rfl rfl d_FieldMap_init_16 g1 rfl (fun w6 e7 => ?_)
  replace h := h w6 e7
  exact pv_vret rfl rfl d_FieldMap_init_19 h
set_option maxHeartbeats 4000000 in
set_option maxRecDepth 20000 in
theorem con_FieldMap_init {l : Launch} {g : pw_G} {Q : pw_W → Int32 → Prop} {X : pw_W → Nat → Prop} (hl0 : l.stackTraces = false) {w : pw_W} {a0 a1 a2 a3 : Int32} (h : wp_FieldMap_init w a0 a1 a2 a3 Q X) : pw_Con l g y_FieldMap_init cx_FieldMap_init [(4, a0), (6, a1), (0, a2), (0, a3)] w Q X :=
  pw_con (by decide +kernel) rfl rfl hl0 rfl (Nat.le_of_ble_eq_true rfl) (by simp) (vw_FieldMap_init hl0 h)
theorem d_X_survey_0 : decode (pw_cc cx_X_survey) 0 = .ok (.aload_n 0, 1) := by decide +kernel
theorem d_X_survey_1 : decode (pw_cc cx_X_survey) 1 = .ok (.iload_n 1, 1) := by decide +kernel
theorem d_X_survey_2 : decode (pw_cc cx_X_survey) 2 = .ok (.invokevirtual 69, 3) := by decide +kernel
theorem d_X_survey_5 : decode (pw_cc cx_X_survey) 5 = .ok (.astore 4, 2) := by decide +kernel
theorem d_X_survey_7 : decode (pw_cc cx_X_survey) 7 = .ok (.iload_n 2, 1) := by decide +kernel
theorem d_X_survey_8 : decode (pw_cc cx_X_survey) 8 = .ok (.iload_n 3, 1) := by decide +kernel
theorem d_X_survey_9 : decode (pw_cc cx_X_survey) 9 = .ok (.invokestatic 65, 3) := by decide +kernel
theorem d_X_survey_12 : decode (pw_cc cx_X_survey) 12 = .ok (.iload_n 2, 1) := by decide +kernel
theorem d_X_survey_13 : decode (pw_cc cx_X_survey) 13 = .ok (.iload_n 3, 1) := by decide +kernel
theorem d_X_survey_14 : decode (pw_cc cx_X_survey) 14 = .ok (.invokestatic 73, 3) := by decide +kernel
theorem d_X_survey_17 : decode (pw_cc cx_X_survey) 17 = .ok (.aload 4, 2) := by decide +kernel
theorem d_X_survey_19 : decode (pw_cc cx_X_survey) 19 = .ok (.getfield 76, 3) := by decide +kernel
theorem d_X_survey_22 : decode (pw_cc cx_X_survey) 22 = .ok (.invokestatic 80, 3) := by decide +kernel
theorem d_X_survey_25 : decode (pw_cc cx_X_survey) 25 = .ok (.aload_n 0, 1) := by decide +kernel
theorem d_X_survey_26 : decode (pw_cc cx_X_survey) 26 = .ok (.getfield 28, 3) := by decide +kernel
theorem d_X_survey_29 : decode (pw_cc cx_X_survey) 29 = .ok (.invokeinterface 88 1, 5) := by decide +kernel
theorem d_X_survey_34 : decode (pw_cc cx_X_survey) 34 = .ok (.bipush 12, 2) := by decide +kernel
theorem d_X_survey_36 : decode (pw_cc cx_X_survey) 36 = .ok (.if_icmp .ge 7, 3) := by decide +kernel
theorem d_X_survey_39 : decode (pw_cc cx_X_survey) 39 = .ok (.iconst 1, 1) := by decide +kernel
theorem d_X_survey_40 : decode (pw_cc cx_X_survey) 40 = .ok (.goto 4, 3) := by decide +kernel
theorem d_X_survey_43 : decode (pw_cc cx_X_survey) 43 = .ok (.iconst 0, 1) := by decide +kernel
theorem d_X_survey_44 : decode (pw_cc cx_X_survey) 44 = .ok (.invokestatic 80, 3) := by decide +kernel
theorem d_X_survey_47 : decode (pw_cc cx_X_survey) 47 = .ok (.aload_n 0, 1) := by decide +kernel
theorem d_X_survey_48 : decode (pw_cc cx_X_survey) 48 = .ok (.getfield 28, 3) := by decide +kernel
theorem d_X_survey_51 : decode (pw_cc cx_X_survey) 51 = .ok (.new 137, 3) := by decide +kernel
theorem d_X_survey_54 : decode (pw_cc cx_X_survey) 54 = .ok (.dup, 1) := by decide +kernel
theorem d_X_survey_55 : decode (pw_cc cx_X_survey) 55 = .ok (.aload 4, 2) := by decide +kernel
theorem d_X_survey_57 : decode (pw_cc cx_X_survey) 57 = .ok (.iload_n 2, 1) := by decide +kernel
theorem d_X_survey_58 : decode (pw_cc cx_X_survey) 58 = .ok (.iload_n 3, 1) := by decide +kernel
theorem d_X_survey_59 : decode (pw_cc cx_X_survey) 59 = .ok (.invokespecial 139, 3) := by decide +kernel
theorem d_X_survey_62 : decode (pw_cc cx_X_survey) 62 = .ok (.invokeinterface 45 2, 5) := by decide +kernel
theorem d_X_survey_67 : decode (pw_cc cx_X_survey) 67 = .ok (.pop, 1) := by decide +kernel
theorem d_X_survey_68 : decode (pw_cc cx_X_survey) 68 = .ok (.aload_n 0, 1) := by decide +kernel
theorem d_X_survey_69 : decode (pw_cc cx_X_survey) 69 = .ok (.getfield 28, 3) := by decide +kernel
theorem d_X_survey_72 : decode (pw_cc cx_X_survey) 72 = .ok (.invokeinterface 88 1, 5) := by decide +kernel
theorem d_X_survey_77 : decode (pw_cc cx_X_survey) 77 = .ok (.ireturn, 1) := by decide +kernel
set_option maxHeartbeats 4000000 in
set_option maxRecDepth 20000 in
def jp_X_survey_44 (Q : pw_W → Int32 → Prop) (X : pw_W → Nat → Prop) (a2 a3 a4 s0 : Int32) (w : pw_W) : Prop := wp_X_checkState w s0 (fun w1 r2 => w1.1 7 0 3 = 0 ∧ pw_rm w1 2 3 ∧ ∀ w5, w5 = pw_nw w1 2 0 3 → wp_FieldMap_init w5 (nI (pw_nv w1 2)) a4 a2 a3 (fun w7 r8 => pw_lg w7 22 0 ∧ ∀ w10, w10 = pw_la w7 22 0 (nI (pw_nv w1 2)) → w10.1 7 0 3 = 0 ∧ Q w10 (nI (pw_ln w10 22 0))) (fun _ _ => False)) X
set_option maxHeartbeats 4000000 in
set_option maxRecDepth 20000 in
theorem vjp_X_survey_44 {l : Launch} {g : pw_G} {Q : pw_W → Int32 → Prop} {X : pw_W → Nat → Prop} (hl0 : l.stackTraces = false) (a2 a3 a4 s0 : Int32) (w : pw_W) (h : jp_X_survey_44 Q X a2 a3 a4 s0 w) : pw_V l g cx_X_survey Q X 44 [(9, 0), (1, 0), (0, a2), (0, a3), (6, a4)] [(0, s0)] w := by
  unfold jp_X_survey_44 at h
  refine pv_callS (n := 47) [(0, s0)] [] (con_X_checkState hl0 h) q_124 q_125 q_62 q_123 pyo_X_checkState (by decide) rfl rfl d_X_survey_44 rfl (fun w1 r2 h _ => ?_) (fun _ _ h => pvx_out rfl h)
  show pw_V l g cx_X_survey Q X 47 [(9, 0), (1, 0), (0, a2), (0, a3), (6, a4)] [] w1
  refine pv_aload_n (n := 48) d_X_survey_47 rfl rfl rfl ?_
  obtain ⟨g3, h⟩ := h
  refine gt_X_28 (n := 51) rfl d_X_survey_48 (by decide) g3 rfl ?_
  obtain ⟨g4, h⟩ := h
  refine nw_2 (n := 54) q_177 d_X_survey_51 g4 rfl (fun w5 e6 => ?_)
  replace h := h w5 e6
  refine pv_dup (n := 55) d_X_survey_54 (by decide) rfl ?_
  refine pv_aload (n := 57) d_X_survey_55 rfl rfl ?_
  refine pv_iload_n (n := 58) d_X_survey_57 rfl rfl rfl ?_
  refine pv_iload_n (n := 59) d_X_survey_58 rfl rfl rfl ?_
  refine pv_callI (n := 62) (x := (nI (pw_nv w1 2))) (f := 2) [(6, a4), (0, a2), (0, a3)] [(4, (nI (pw_nv w1 2))), (24, 0)] (con_FieldMap_init hl0 h) rfl rfl q_180 q_181 q_179 q_178 pyo_FieldMap_init (by decide) rfl rfl (nI_pos' (by have := g4.2.2; omega)) d_X_survey_59 rfl (fun w7 r8 h _ => ?_) (fun _ _ h => h.elim)
  show pw_V l g cx_X_survey Q X 62 [(9, 0), (1, 0), (0, a2), (0, a3), (6, a4)] [(4, (nI (pw_nv w1 2))), (24, 0)] w7
  obtain ⟨g9, h⟩ := h
  refine pv_ladd (n := 67) (f := 22) (F := 2) (by decide) rfl q_44 (by decide) rfl d_X_survey_62 (by decide) (nI_pos' (by have := g4.2.2; omega)) g9 rfl (fun w10 e11 => ?_)
  replace h := h w10 e11
  refine pv_pop (n := 68) d_X_survey_67 (by decide) rfl ?_
  refine pv_aload_n (n := 69) d_X_survey_68 rfl rfl rfl ?_
  obtain ⟨g12, h⟩ := h
  refine gt_X_28 (n := 72) rfl d_X_survey_69 (by decide) g12 rfl ?_
  refine pv_lsize (n := 77) (f := 22) (by decide) q_49 (by decide) rfl d_X_survey_72 (by decide) rfl ?_
  exact pv_iret rfl rfl d_X_survey_77 h
set_option maxHeartbeats 4000000 in
set_option maxRecDepth 20000 in
def wp_X_survey (w : pw_W) (a1 a2 a3 : Int32) (Q : pw_W → Int32 → Prop) (X : pw_W → Nat → Prop) : Prop := wp_X_personNumbered w a1 (fun w13 r14 => wp_X_checkSquares w13 a2 a3 (fun w15 r16 => wp_X_checkField w15 a2 a3 (fun w17 r18 => 0 ≤ r14 ∧ wp_X_checkState w17 (w17.1 4 (pw_i r14) 2) (fun w20 r21 => w20.1 7 0 3 = 0 ∧ ((12 : Int32) ≤ (nI (pw_ln w20 22 0)) → jp_X_survey_44 Q X a2 a3 r14 0 w20) ∧ (¬ (12 : Int32) ≤ (nI (pw_ln w20 22 0)) → jp_X_survey_44 Q X a2 a3 r14 1 w20)) X) X) X) X
set_option maxHeartbeats 4000000 in
set_option maxRecDepth 20000 in
theorem vw_X_survey {l : Launch} {g : pw_G} {Q : pw_W → Int32 → Prop} {X : pw_W → Nat → Prop} (hl0 : l.stackTraces = false) {w : pw_W} {a1 a2 a3 : Int32} (h : wp_X_survey w a1 a2 a3 Q X) : pw_V l g cx_X_survey Q X 0 [(9, 0), (0, a1), (0, a2), (0, a3), (1, 0)] [] w := by
  unfold wp_X_survey at h
  refine pv_aload_n (n := 1) d_X_survey_0 rfl rfl rfl ?_
  refine pv_iload_n (n := 2) d_X_survey_1 rfl rfl rfl ?_
  refine pv_callV (n := 5) (x := 0) [(0, a1)] [] (con_X_personNumbered hl0 h) pw_cf7 rfl q_139 q_140 q_141 q_62 q_138 pyo_X_personNumbered (by decide) rfl rfl (by decide) d_X_survey_2 rfl (fun w13 r14 h _ => ?_) (fun _ _ h => pvx_out rfl h)
  show pw_V l g cx_X_survey Q X 5 [(9, 0), (0, a1), (0, a2), (0, a3), (1, 0)] [(6, r14)] w13
  refine pv_astore (n := 7) (L' := [(9, 0), (0, a1), (0, a2), (0, a3), (6, r14)]) d_X_survey_5 (by decide) rfl rfl ?_
  refine pv_iload_n (n := 8) d_X_survey_7 rfl rfl rfl ?_
  refine pv_iload_n (n := 9) d_X_survey_8 rfl rfl rfl ?_
  refine pv_callS (n := 12) [(0, a2), (0, a3)] [] (con_X_checkSquares hl0 h) q_143 q_144 q_62 q_142 pyo_X_checkSquares (by decide) rfl rfl d_X_survey_9 rfl (fun w15 r16 h _ => ?_) (fun _ _ h => pvx_out rfl h)
  show pw_V l g cx_X_survey Q X 12 [(9, 0), (0, a1), (0, a2), (0, a3), (6, r14)] [] w15
  refine pv_iload_n (n := 13) d_X_survey_12 rfl rfl rfl ?_
  refine pv_iload_n (n := 14) d_X_survey_13 rfl rfl rfl ?_
  refine pv_callS (n := 17) [(0, a2), (0, a3)] [] (con_X_checkField hl0 h) q_136 q_137 q_62 q_135 pyo_X_checkField (by decide) rfl rfl d_X_survey_14 rfl (fun w17 r18 h _ => ?_) (fun _ _ h => pvx_out rfl h)
  show pw_V l g cx_X_survey Q X 17 [(9, 0), (0, a1), (0, a2), (0, a3), (6, r14)] [] w17
  refine pv_aload (n := 19) d_X_survey_17 rfl rfl ?_
  obtain ⟨g19, h⟩ := h
  refine gt_X_76 (n := 22) rfl d_X_survey_19 g19 rfl ?_
  refine pv_callS (n := 25) [(0, (w17.1 4 (pw_i r14) 2))] [] (con_X_checkState hl0 h) q_124 q_125 q_62 q_123 pyo_X_checkState (by decide) rfl rfl d_X_survey_22 rfl (fun w20 r21 h _ => ?_) (fun _ _ h => pvx_out rfl h)
  show pw_V l g cx_X_survey Q X 25 [(9, 0), (0, a1), (0, a2), (0, a3), (6, r14)] [] w20
  refine pv_aload_n (n := 26) d_X_survey_25 rfl rfl rfl ?_
  obtain ⟨g22, h⟩ := h
  refine gt_X_28 (n := 29) rfl d_X_survey_26 (by decide) g22 rfl ?_
  refine pv_lsize (n := 34) (f := 22) (by decide) q_49 (by decide) rfl d_X_survey_29 (by decide) rfl ?_
  refine pv_bipush (v := 12) (n := 36) d_X_survey_34 (by decide) rfl ?_
  refine pv_icmp_ge (n := 39) (tgt := 43) d_X_survey_36 (by decide) rfl (fun c23 => ?_) (fun c23 => ?_)
  · replace h := h.1 c23
    refine pv_iconst (v := 0) (n := 44) d_X_survey_43 (by decide) rfl ?_
    refine pv_unset (i := 1) (L1 := [(9, 0), (1, 0), (0, a2), (0, a3), (6, r14)]) rfl ?_
    exact vjp_X_survey_44 hl0 _ _ _ _ _ h
  · replace h := h.2 c23
    refine pv_iconst (v := 1) (n := 40) d_X_survey_39 (by decide) rfl ?_
    refine pv_goto (tgt := 44) d_X_survey_40 (by decide) ?_
    refine pv_unset (i := 1) (L1 := [(9, 0), (1, 0), (0, a2), (0, a3), (6, r14)]) rfl ?_
    exact vjp_X_survey_44 hl0 _ _ _ _ _ h
set_option maxHeartbeats 4000000 in
set_option maxRecDepth 20000 in
theorem con_X_survey {l : Launch} {g : pw_G} {Q : pw_W → Int32 → Prop} {X : pw_W → Nat → Prop} (hl0 : l.stackTraces = false) {w : pw_W} {a1 a2 a3 : Int32} (h : wp_X_survey w a1 a2 a3 Q X) : pw_Con l g y_X_survey cx_X_survey [(9, 0), (0, a1), (0, a2), (0, a3)] w Q X :=
  pw_con (by decide +kernel) rfl rfl hl0 rfl (Nat.le_of_ble_eq_true rfl) (by simp) (vw_X_survey hl0 h)
theorem d_X_use_0 : decode (pw_cc cx_X_use) 0 = .ok (.aload_n 0, 1) := by decide +kernel
theorem d_X_use_1 : decode (pw_cc cx_X_use) 1 = .ok (.iload_n 1, 1) := by decide +kernel
theorem d_X_use_2 : decode (pw_cc cx_X_use) 2 = .ok (.invokevirtual 69, 3) := by decide +kernel
theorem d_X_use_5 : decode (pw_cc cx_X_use) 5 = .ok (.astore 4, 2) := by decide +kernel
theorem d_X_use_7 : decode (pw_cc cx_X_use) 7 = .ok (.iload_n 2, 1) := by decide +kernel
theorem d_X_use_8 : decode (pw_cc cx_X_use) 8 = .ok (.iload_n 3, 1) := by decide +kernel
theorem d_X_use_9 : decode (pw_cc cx_X_use) 9 = .ok (.invokestatic 65, 3) := by decide +kernel
theorem d_X_use_12 : decode (pw_cc cx_X_use) 12 = .ok (.iload_n 2, 1) := by decide +kernel
theorem d_X_use_13 : decode (pw_cc cx_X_use) 13 = .ok (.iload_n 3, 1) := by decide +kernel
theorem d_X_use_14 : decode (pw_cc cx_X_use) 14 = .ok (.invokestatic 73, 3) := by decide +kernel
theorem d_X_use_17 : decode (pw_cc cx_X_use) 17 = .ok (.aload 4, 2) := by decide +kernel
theorem d_X_use_19 : decode (pw_cc cx_X_use) 19 = .ok (.getfield 76, 3) := by decide +kernel
theorem d_X_use_22 : decode (pw_cc cx_X_use) 22 = .ok (.invokestatic 80, 3) := by decide +kernel
theorem d_X_use_25 : decode (pw_cc cx_X_use) 25 = .ok (.iconst 0, 1) := by decide +kernel
theorem d_X_use_26 : decode (pw_cc cx_X_use) 26 = .ok (.istore 5, 2) := by decide +kernel
theorem d_X_use_28 : decode (pw_cc cx_X_use) 28 = .ok (.aload_n 0, 1) := by decide +kernel
theorem d_X_use_29 : decode (pw_cc cx_X_use) 29 = .ok (.getfield 11, 3) := by decide +kernel
theorem d_X_use_32 : decode (pw_cc cx_X_use) 32 = .ok (.astore 6, 2) := by decide +kernel
theorem d_X_use_34 : decode (pw_cc cx_X_use) 34 = .ok (.aload 6, 2) := by decide +kernel
theorem d_X_use_36 : decode (pw_cc cx_X_use) 36 = .ok (.arraylength, 1) := by decide +kernel
theorem d_X_use_37 : decode (pw_cc cx_X_use) 37 = .ok (.istore 7, 2) := by decide +kernel
theorem d_X_use_39 : decode (pw_cc cx_X_use) 39 = .ok (.iconst 0, 1) := by decide +kernel
theorem d_X_use_40 : decode (pw_cc cx_X_use) 40 = .ok (.istore 8, 2) := by decide +kernel
theorem d_X_use_42 : decode (pw_cc cx_X_use) 42 = .ok (.iload 8, 2) := by decide +kernel
theorem d_X_use_44 : decode (pw_cc cx_X_use) 44 = .ok (.iload 7, 2) := by decide +kernel
theorem d_X_use_46 : decode (pw_cc cx_X_use) 46 = .ok (.if_icmp .ge 68, 3) := by decide +kernel
theorem d_X_use_49 : decode (pw_cc cx_X_use) 49 = .ok (.aload 6, 2) := by decide +kernel
theorem d_X_use_51 : decode (pw_cc cx_X_use) 51 = .ok (.iload 8, 2) := by decide +kernel
theorem d_X_use_53 : decode (pw_cc cx_X_use) 53 = .ok (.aaload, 1) := by decide +kernel
theorem d_X_use_54 : decode (pw_cc cx_X_use) 54 = .ok (.astore 9, 2) := by decide +kernel
theorem d_X_use_56 : decode (pw_cc cx_X_use) 56 = .ok (.aload 9, 2) := by decide +kernel
theorem d_X_use_58 : decode (pw_cc cx_X_use) 58 = .ok (.getfield 142, 3) := by decide +kernel
theorem d_X_use_61 : decode (pw_cc cx_X_use) 61 = .ok (.aload 4, 2) := by decide +kernel
theorem d_X_use_63 : decode (pw_cc cx_X_use) 63 = .ok (.if_acmp .eq 32, 3) := by decide +kernel
theorem d_X_use_66 : decode (pw_cc cx_X_use) 66 = .ok (.aload 9, 2) := by decide +kernel
theorem d_X_use_68 : decode (pw_cc cx_X_use) 68 = .ok (.getfield 108, 3) := by decide +kernel
theorem d_X_use_71 : decode (pw_cc cx_X_use) 71 = .ok (.iload_n 2, 1) := by decide +kernel
theorem d_X_use_72 : decode (pw_cc cx_X_use) 72 = .ok (.iload_n 3, 1) := by decide +kernel
theorem d_X_use_73 : decode (pw_cc cx_X_use) 73 = .ok (.invokestatic 111, 3) := by decide +kernel
theorem d_X_use_76 : decode (pw_cc cx_X_use) 76 = .ok (.ifCond .eq 19, 3) := by decide +kernel
theorem d_X_use_79 : decode (pw_cc cx_X_use) 79 = .ok (.aload 9, 2) := by decide +kernel
theorem d_X_use_81 : decode (pw_cc cx_X_use) 81 = .ok (.aload 4, 2) := by decide +kernel
theorem d_X_use_83 : decode (pw_cc cx_X_use) 83 = .ok (.putfield 142, 3) := by decide +kernel
theorem d_X_use_86 : decode (pw_cc cx_X_use) 86 = .ok (.aload 9, 2) := by decide +kernel
theorem d_X_use_88 : decode (pw_cc cx_X_use) 88 = .ok (.aload_n 0, 1) := by decide +kernel
theorem d_X_use_89 : decode (pw_cc cx_X_use) 89 = .ok (.getfield 145, 3) := by decide +kernel
theorem d_X_use_92 : decode (pw_cc cx_X_use) 92 = .ok (.putfield 148, 3) := by decide +kernel
theorem d_X_use_95 : decode (pw_cc cx_X_use) 95 = .ok (.aload 9, 2) := by decide +kernel
theorem d_X_use_97 : decode (pw_cc cx_X_use) 97 = .ok (.getfield 142, 3) := by decide +kernel
theorem d_X_use_100 : decode (pw_cc cx_X_use) 100 = .ok (.aload 4, 2) := by decide +kernel
theorem d_X_use_102 : decode (pw_cc cx_X_use) 102 = .ok (.if_acmp .ne 6, 3) := by decide +kernel
theorem d_X_use_105 : decode (pw_cc cx_X_use) 105 = .ok (.iinc 5 1, 3) := by decide +kernel
theorem d_X_use_108 : decode (pw_cc cx_X_use) 108 = .ok (.iinc 8 1, 3) := by decide +kernel
theorem d_X_use_111 : decode (pw_cc cx_X_use) 111 = .ok (.goto (-69), 3) := by decide +kernel
theorem d_X_use_114 : decode (pw_cc cx_X_use) 114 = .ok (.iload 5, 2) := by decide +kernel
theorem d_X_use_116 : decode (pw_cc cx_X_use) 116 = .ok (.ireturn, 1) := by decide +kernel
set_option maxHeartbeats 4000000 in
set_option maxRecDepth 20000 in
def jp_X_use_95 (Q : pw_W → Int32 → Prop) (X : pw_W → Nat → Prop) (K42 : Int32 → Int32 → Int32 → Int32 → Int32 → Int32 → pw_W → Prop) (a2 a3 a4 a5 a7 a8 a9 : Int32) (w : pw_W) : Prop := 0 ≤ a9 ∧ (¬ (w.1 6 (pw_i a9) 7) = a4 → K42 a2 a3 a4 a5 a7 (a8 + 1) w) ∧ ((w.1 6 (pw_i a9) 7) = a4 → K42 a2 a3 a4 (a5 + 1) a7 (a8 + 1) w)
set_option maxHeartbeats 4000000 in
set_option maxRecDepth 20000 in
theorem vjp_X_use_95 {l : Launch} {g : pw_G} {Q : pw_W → Int32 → Prop} {X : pw_W → Nat → Prop} (hl0 : l.stackTraces = false) {K42 : Int32 → Int32 → Int32 → Int32 → Int32 → Int32 → pw_W → Prop} (hK42 : ∀ (a2 a3 a4 a5 a7 a8 : Int32) (w : pw_W), K42 a2 a3 a4 a5 a7 a8 w → pw_V l g cx_X_use Q X 42 [(9, 0), (1, 0), (0, a2), (0, a3), (6, a4), (0, a5), (16, 0), (0, a7), (0, a8), (1, 0)] [] w) (a2 a3 a4 a5 a7 a8 a9 : Int32) (w : pw_W) (h : jp_X_use_95 Q X K42 a2 a3 a4 a5 a7 a8 a9 w) : pw_V l g cx_X_use Q X 95 [(9, 0), (1, 0), (0, a2), (0, a3), (6, a4), (0, a5), (16, 0), (0, a7), (0, a8), (8, a9)] [] w := by
  unfold jp_X_use_95 at h
  refine pv_aload (n := 97) d_X_use_95 rfl rfl ?_
  obtain ⟨g1, h⟩ := h
  refine gt_X_142 (n := 100) rfl d_X_use_97 g1 rfl ?_
  refine pv_aload (n := 102) d_X_use_100 rfl rfl ?_
  refine pv_acmp_ne (n := 105) (tgt := 108) d_X_use_102 (by decide) (by decide) rfl (fun c2 => ?_) (fun c2 => ?_)
  · replace h := h.1 c2
    refine pv_iinc (v := (a8 + 1)) (n := 111) (L1 := [(9, 0), (1, 0), (0, a2), (0, a3), (6, a4), (0, a5), (16, 0), (0, a7), (0, (a8 + 1)), (8, a9)]) d_X_use_108 rfl rfl rfl (by decide) rfl ?_
    refine pv_goto (tgt := 42) d_X_use_111 (by decide) ?_
    refine pv_unset (i := 9) (L1 := [(9, 0), (1, 0), (0, a2), (0, a3), (6, a4), (0, a5), (16, 0), (0, a7), (0, (a8 + 1)), (1, 0)]) rfl ?_
    exact hK42 _ _ _ _ _ _ _ h
  · replace h := h.2 c2
    refine pv_iinc (v := (a5 + 1)) (n := 108) (L1 := [(9, 0), (1, 0), (0, a2), (0, a3), (6, a4), (0, (a5 + 1)), (16, 0), (0, a7), (0, a8), (8, a9)]) d_X_use_105 rfl rfl rfl (by decide) rfl ?_
    refine pv_iinc (v := (a8 + 1)) (n := 111) (L1 := [(9, 0), (1, 0), (0, a2), (0, a3), (6, a4), (0, (a5 + 1)), (16, 0), (0, a7), (0, (a8 + 1)), (8, a9)]) d_X_use_108 rfl rfl rfl (by decide) rfl ?_
    refine pv_goto (tgt := 42) d_X_use_111 (by decide) ?_
    refine pv_unset (i := 9) (L1 := [(9, 0), (1, 0), (0, a2), (0, a3), (6, a4), (0, (a5 + 1)), (16, 0), (0, a7), (0, (a8 + 1)), (1, 0)]) rfl ?_
    exact hK42 _ _ _ _ _ _ _ h
set_option maxHeartbeats 4000000 in
set_option maxRecDepth 20000 in
def lp_X_use_42 (Q : pw_W → Int32 → Prop) (X : pw_W → Nat → Prop) : Nat → Int32 → Int32 → Int32 → Int32 → Int32 → Int32 → pw_W → Prop := fun k => Nat.rec (motive := fun _ => Int32 → Int32 → Int32 → Int32 → Int32 → Int32 → pw_W → Prop) (fun _ _ _ _ _ _ _ => False) (fun _ ih a2 a3 a4 a5 a7 a8 w => (a7 ≤ a8 → Q w a5) ∧ (¬ a7 ≤ a8 → pw_jn a8 (pw_ln w 14 0) ∧ ∀ v5, v5 = (w.1 14 0 (pw_i a8)) → 0 ≤ v5 ∧ ((w.1 6 (pw_i v5) 7) = a4 → jp_X_use_95 Q X ih a2 a3 a4 a5 a7 a8 v5 w) ∧ (¬ (w.1 6 (pw_i v5) 7) = a4 → wp_X_isInField w (w.1 6 (pw_i v5) 0) a2 a3 (fun w9 r10 => (r10 = 0 → jp_X_use_95 Q X ih a2 a3 a4 a5 a7 a8 v5 w9) ∧ (¬ r10 = 0 → ∀ w12, w12 = pw_ps w9 6 (pw_i v5) 7 a4 → ∀ w14, w14 = pw_ps w12 6 (pw_i v5) 8 (w12.1 7 0 7) → jp_X_use_95 Q X ih a2 a3 a4 a5 a7 a8 v5 w14)) (fun _ _ => False)))) k
set_option maxHeartbeats 4000000 in
set_option maxRecDepth 20000 in
theorem lp_X_use_42_s {Q : pw_W → Int32 → Prop} {X : pw_W → Nat → Prop}  {k : Nat} {a2 a3 a4 a5 a7 a8 : Int32} {w : pw_W} : lp_X_use_42 Q X (k + 1) a2 a3 a4 a5 a7 a8 w = (let ih := lp_X_use_42 Q X k; (a7 ≤ a8 → Q w a5) ∧ (¬ a7 ≤ a8 → pw_jn a8 (pw_ln w 14 0) ∧ ∀ v5, v5 = (w.1 14 0 (pw_i a8)) → 0 ≤ v5 ∧ ((w.1 6 (pw_i v5) 7) = a4 → jp_X_use_95 Q X ih a2 a3 a4 a5 a7 a8 v5 w) ∧ (¬ (w.1 6 (pw_i v5) 7) = a4 → wp_X_isInField w (w.1 6 (pw_i v5) 0) a2 a3 (fun w9 r10 => (r10 = 0 → jp_X_use_95 Q X ih a2 a3 a4 a5 a7 a8 v5 w9) ∧ (¬ r10 = 0 → ∀ w12, w12 = pw_ps w9 6 (pw_i v5) 7 a4 → ∀ w14, w14 = pw_ps w12 6 (pw_i v5) 8 (w12.1 7 0 7) → jp_X_use_95 Q X ih a2 a3 a4 a5 a7 a8 v5 w14)) (fun _ _ => False)))) := rfl
set_option maxHeartbeats 4000000 in
set_option maxRecDepth 20000 in
theorem vlp_X_use_42 {l : Launch} {g : pw_G} {Q : pw_W → Int32 → Prop} {X : pw_W → Nat → Prop} (hl0 : l.stackTraces = false) : ∀ (k : Nat) (a2 a3 a4 a5 a7 a8 : Int32) (w : pw_W), lp_X_use_42 Q X k a2 a3 a4 a5 a7 a8 w → pw_V l g cx_X_use Q X 42 [(9, 0), (1, 0), (0, a2), (0, a3), (6, a4), (0, a5), (16, 0), (0, a7), (0, a8), (1, 0)] [] w := by
  intro k; induction k with
  | zero => intro _ _ _ _ _ _ _ h; exact h.elim
  | succ k ih =>
    intro a2 a3 a4 a5 a7 a8 w h
    rw [lp_X_use_42_s] at h
    refine pv_iload (n := 44) d_X_use_42 rfl rfl ?_
    refine pv_iload (n := 46) d_X_use_44 rfl rfl ?_
    refine pv_icmp_ge (n := 49) (tgt := 114) d_X_use_46 (by decide) rfl (fun c3 => ?_) (fun c3 => ?_)
    · replace h := h.1 c3
      refine pv_iload (n := 116) d_X_use_114 rfl rfl ?_
      exact pv_iret rfl rfl d_X_use_116 h
    · replace h := h.2 c3
      refine pv_aload (n := 51) d_X_use_49 rfl rfl ?_
      refine pv_iload (n := 53) d_X_use_51 rfl rfl ?_
      obtain ⟨g4, h⟩ := h
      refine pv_aald (n := 54) (f := 14) (F := 6) (C := "Peatland$Square") (by decide) (Or.inl ⟨rfl, rfl⟩) (fun _ => rfl) d_X_use_53 (by decide) g4 rfl (fun _ => ?_)
      refine pv_nm (fun v5 e6 => ?_)
      replace h := h v5 e6
      refine pv_astore (n := 56) (L' := [(9, 0), (1, 0), (0, a2), (0, a3), (6, a4), (0, a5), (16, 0), (0, a7), (0, a8), (8, v5)]) d_X_use_54 (by decide) rfl rfl ?_
      refine pv_aload (n := 58) d_X_use_56 rfl rfl ?_
      obtain ⟨g7, h⟩ := h
      refine gt_X_142 (n := 61) rfl d_X_use_58 g7 rfl ?_
      refine pv_aload (n := 63) d_X_use_61 rfl rfl ?_
      refine pv_acmp_eq (n := 66) (tgt := 95) d_X_use_63 (by decide) (by decide) rfl (fun c8 => ?_) (fun c8 => ?_)
      · replace h := h.1 c8
        exact vjp_X_use_95 hl0 (by intros; exact ih _ _ _ _ _ _ _ (by assumption)) _ _ _ _ _ _ _ _ h
      · replace h := h.2 c8
        refine pv_aload (n := 68) d_X_use_66 rfl rfl ?_
        refine gt_X_108 (n := 71) rfl d_X_use_68 g7 rfl ?_
        refine pv_iload_n (n := 72) d_X_use_71 rfl rfl rfl ?_
        refine pv_iload_n (n := 73) d_X_use_72 rfl rfl rfl ?_
        refine pv_callS (n := 76) [(0, (w.1 6 (pw_i v5) 0)), (0, a2), (0, a3)] [] (con_X_isInField hl0 h) q_101 q_102 q_62 q_100 pyo_X_isInField (by decide) rfl rfl d_X_use_73 rfl (fun w9 r10 h _ => ?_) (fun _ _ h => h.elim)
        show pw_V l g cx_X_use Q X 76 [(9, 0), (1, 0), (0, a2), (0, a3), (6, a4), (0, a5), (16, 0), (0, a7), (0, a8), (8, v5)] [(0, r10)] w9
        refine pv_if_eq (n := 79) (tgt := 95) d_X_use_76 (by decide) rfl (fun c11 => ?_) (fun c11 => ?_)
        · replace h := h.1 c11
          exact vjp_X_use_95 hl0 (by intros; exact ih _ _ _ _ _ _ _ (by assumption)) _ _ _ _ _ _ _ _ h
        · replace h := h.2 c11
          refine pv_aload (n := 81) d_X_use_79 rfl rfl ?_
          refine pv_aload (n := 83) d_X_use_81 rfl rfl ?_
          refine pt_X_142 (n := 86) rfl d_X_use_83 g7 rfl (fun w12 e13 => ?_)
          replace h := h w12 e13
          refine pv_aload (n := 88) d_X_use_86 rfl rfl ?_
          refine pv_aload_n (n := 89) d_X_use_88 rfl rfl rfl ?_
          refine gt_X_145 (n := 92) rfl d_X_use_89 (by decide) rfl ?_
          refine pt_X_148 (n := 95) rfl d_X_use_92 g7 rfl (fun w14 e15 => ?_)
          replace h := h w14 e15
          exact vjp_X_use_95 hl0 (by intros; exact ih _ _ _ _ _ _ _ (by assumption)) _ _ _ _ _ _ _ _ h
set_option maxHeartbeats 4000000 in
set_option maxRecDepth 20000 in
def wp_X_use (w : pw_W) (a1 a2 a3 : Int32) (Q : pw_W → Int32 → Prop) (X : pw_W → Nat → Prop) : Prop := wp_X_personNumbered w a1 (fun w16 r17 => wp_X_checkSquares w16 a2 a3 (fun w18 r19 => wp_X_checkField w18 a2 a3 (fun w20 r21 => 0 ≤ r17 ∧ wp_X_checkState w20 (w20.1 4 (pw_i r17) 2) (fun w23 r24 => w23.1 7 0 0 = 0 ∧ ∀ v26, v26 = (nI (pw_ln w23 14 0)) → ∃ k28, lp_X_use_42 Q X k28 a2 a3 r17 0 v26 0 w23) X) X) X) X
set_option maxHeartbeats 4000000 in
set_option maxRecDepth 20000 in
theorem vw_X_use {l : Launch} {g : pw_G} {Q : pw_W → Int32 → Prop} {X : pw_W → Nat → Prop} (hl0 : l.stackTraces = false) {w : pw_W} {a1 a2 a3 : Int32} (h : wp_X_use w a1 a2 a3 Q X) : pw_V l g cx_X_use Q X 0 [(9, 0), (0, a1), (0, a2), (0, a3), (1, 0), (1, 0), (1, 0), (1, 0), (1, 0), (1, 0)] [] w := by
  unfold wp_X_use at h
  refine pv_aload_n (n := 1) d_X_use_0 rfl rfl rfl ?_
  refine pv_iload_n (n := 2) d_X_use_1 rfl rfl rfl ?_
  refine pv_callV (n := 5) (x := 0) [(0, a1)] [] (con_X_personNumbered hl0 h) pw_cf7 rfl q_139 q_140 q_141 q_62 q_138 pyo_X_personNumbered (by decide) rfl rfl (by decide) d_X_use_2 rfl (fun w16 r17 h _ => ?_) (fun _ _ h => pvx_out rfl h)
  show pw_V l g cx_X_use Q X 5 [(9, 0), (0, a1), (0, a2), (0, a3), (1, 0), (1, 0), (1, 0), (1, 0), (1, 0), (1, 0)] [(6, r17)] w16
  refine pv_astore (n := 7) (L' := [(9, 0), (0, a1), (0, a2), (0, a3), (6, r17), (1, 0), (1, 0), (1, 0), (1, 0), (1, 0)]) d_X_use_5 (by decide) rfl rfl ?_
  refine pv_iload_n (n := 8) d_X_use_7 rfl rfl rfl ?_
  refine pv_iload_n (n := 9) d_X_use_8 rfl rfl rfl ?_
  refine pv_callS (n := 12) [(0, a2), (0, a3)] [] (con_X_checkSquares hl0 h) q_143 q_144 q_62 q_142 pyo_X_checkSquares (by decide) rfl rfl d_X_use_9 rfl (fun w18 r19 h _ => ?_) (fun _ _ h => pvx_out rfl h)
  show pw_V l g cx_X_use Q X 12 [(9, 0), (0, a1), (0, a2), (0, a3), (6, r17), (1, 0), (1, 0), (1, 0), (1, 0), (1, 0)] [] w18
  refine pv_iload_n (n := 13) d_X_use_12 rfl rfl rfl ?_
  refine pv_iload_n (n := 14) d_X_use_13 rfl rfl rfl ?_
  refine pv_callS (n := 17) [(0, a2), (0, a3)] [] (con_X_checkField hl0 h) q_136 q_137 q_62 q_135 pyo_X_checkField (by decide) rfl rfl d_X_use_14 rfl (fun w20 r21 h _ => ?_) (fun _ _ h => pvx_out rfl h)
  show pw_V l g cx_X_use Q X 17 [(9, 0), (0, a1), (0, a2), (0, a3), (6, r17), (1, 0), (1, 0), (1, 0), (1, 0), (1, 0)] [] w20
  refine pv_aload (n := 19) d_X_use_17 rfl rfl ?_
  obtain ⟨g22, h⟩ := h
  refine gt_X_76 (n := 22) rfl d_X_use_19 g22 rfl ?_
  refine pv_callS (n := 25) [(0, (w20.1 4 (pw_i r17) 2))] [] (con_X_checkState hl0 h) q_124 q_125 q_62 q_123 pyo_X_checkState (by decide) rfl rfl d_X_use_22 rfl (fun w23 r24 h _ => ?_) (fun _ _ h => pvx_out rfl h)
  show pw_V l g cx_X_use Q X 25 [(9, 0), (0, a1), (0, a2), (0, a3), (6, r17), (1, 0), (1, 0), (1, 0), (1, 0), (1, 0)] [] w23
  refine pv_iconst (v := 0) (n := 26) d_X_use_25 (by decide) rfl ?_
  refine pv_istore (n := 28) (L' := [(9, 0), (0, a1), (0, a2), (0, a3), (6, r17), (0, 0), (1, 0), (1, 0), (1, 0), (1, 0)]) d_X_use_26 (by decide) rfl rfl ?_
  refine pv_aload_n (n := 29) d_X_use_28 rfl rfl rfl ?_
  obtain ⟨g25, h⟩ := h
  refine gt_X_11 (n := 32) rfl d_X_use_29 (by decide) g25 rfl ?_
  refine pv_astore (n := 34) (L' := [(9, 0), (0, a1), (0, a2), (0, a3), (6, r17), (0, 0), (16, 0), (1, 0), (1, 0), (1, 0)]) d_X_use_32 (by decide) rfl rfl ?_
  refine pv_aload (n := 36) d_X_use_34 rfl rfl ?_
  refine pv_alen (n := 37) (f := 14) (by decide) ⟨_, rfl⟩ d_X_use_36 (by decide) rfl ?_
  refine pv_nm (fun v26 e27 => ?_)
  replace h := h v26 e27
  refine pv_istore (n := 39) (L' := [(9, 0), (0, a1), (0, a2), (0, a3), (6, r17), (0, 0), (16, 0), (0, v26), (1, 0), (1, 0)]) d_X_use_37 (by decide) rfl rfl ?_
  refine pv_iconst (v := 0) (n := 40) d_X_use_39 (by decide) rfl ?_
  refine pv_istore (n := 42) (L' := [(9, 0), (0, a1), (0, a2), (0, a3), (6, r17), (0, 0), (16, 0), (0, v26), (0, 0), (1, 0)]) d_X_use_40 (by decide) rfl rfl ?_
  refine pv_unset (i := 1) (L1 := [(9, 0), (1, 0), (0, a2), (0, a3), (6, r17), (0, 0), (16, 0), (0, v26), (0, 0), (1, 0)]) rfl ?_
  obtain ⟨k28, h⟩ := h
  exact vlp_X_use_42 hl0 _ _ _ _ _ _ _ _ h
set_option maxHeartbeats 4000000 in
set_option maxRecDepth 20000 in
theorem con_X_use {l : Launch} {g : pw_G} {Q : pw_W → Int32 → Prop} {X : pw_W → Nat → Prop} (hl0 : l.stackTraces = false) {w : pw_W} {a1 a2 a3 : Int32} (h : wp_X_use w a1 a2 a3 Q X) : pw_Con l g y_X_use cx_X_use [(9, 0), (0, a1), (0, a2), (0, a3)] w Q X :=
  pw_con (by decide +kernel) rfl rfl hl0 rfl (Nat.le_of_ble_eq_true rfl) (by simp) (vw_X_use hl0 h)
theorem d_X_isMapped_0 : decode (pw_cc cx_X_isMapped) 0 = .ok (.iconst 0, 1) := by decide +kernel
theorem d_X_isMapped_1 : decode (pw_cc cx_X_isMapped) 1 = .ok (.istore_n 3, 1) := by decide +kernel
theorem d_X_isMapped_2 : decode (pw_cc cx_X_isMapped) 2 = .ok (.iload_n 3, 1) := by decide +kernel
theorem d_X_isMapped_3 : decode (pw_cc cx_X_isMapped) 3 = .ok (.aload_n 0, 1) := by decide +kernel
theorem d_X_isMapped_4 : decode (pw_cc cx_X_isMapped) 4 = .ok (.getfield 28, 3) := by decide +kernel
theorem d_X_isMapped_7 : decode (pw_cc cx_X_isMapped) 7 = .ok (.invokeinterface 88 1, 5) := by decide +kernel
theorem d_X_isMapped_12 : decode (pw_cc cx_X_isMapped) 12 = .ok (.if_icmp .ge 52, 3) := by decide +kernel
theorem d_X_isMapped_15 : decode (pw_cc cx_X_isMapped) 15 = .ok (.aload_n 0, 1) := by decide +kernel
theorem d_X_isMapped_16 : decode (pw_cc cx_X_isMapped) 16 = .ok (.getfield 28, 3) := by decide +kernel
theorem d_X_isMapped_19 : decode (pw_cc cx_X_isMapped) 19 = .ok (.iload_n 3, 1) := by decide +kernel
theorem d_X_isMapped_20 : decode (pw_cc cx_X_isMapped) 20 = .ok (.invokeinterface 382 2, 5) := by decide +kernel
theorem d_X_isMapped_25 : decode (pw_cc cx_X_isMapped) 25 = .ok (.checkcast 137, 3) := by decide +kernel
theorem d_X_isMapped_28 : decode (pw_cc cx_X_isMapped) 28 = .ok (.astore 4, 2) := by decide +kernel
theorem d_X_isMapped_30 : decode (pw_cc cx_X_isMapped) 30 = .ok (.aload 4, 2) := by decide +kernel
theorem d_X_isMapped_32 : decode (pw_cc cx_X_isMapped) 32 = .ok (.getfield 392, 3) := by decide +kernel
theorem d_X_isMapped_35 : decode (pw_cc cx_X_isMapped) 35 = .ok (.aload_n 2, 1) := by decide +kernel
theorem d_X_isMapped_36 : decode (pw_cc cx_X_isMapped) 36 = .ok (.if_acmp .ne 22, 3) := by decide +kernel
theorem d_X_isMapped_39 : decode (pw_cc cx_X_isMapped) 39 = .ok (.iload_n 1, 1) := by decide +kernel
theorem d_X_isMapped_40 : decode (pw_cc cx_X_isMapped) 40 = .ok (.aload 4, 2) := by decide +kernel
theorem d_X_isMapped_42 : decode (pw_cc cx_X_isMapped) 42 = .ok (.getfield 393, 3) := by decide +kernel
theorem d_X_isMapped_45 : decode (pw_cc cx_X_isMapped) 45 = .ok (.aload 4, 2) := by decide +kernel
theorem d_X_isMapped_47 : decode (pw_cc cx_X_isMapped) 47 = .ok (.getfield 396, 3) := by decide +kernel
theorem d_X_isMapped_50 : decode (pw_cc cx_X_isMapped) 50 = .ok (.invokestatic 111, 3) := by decide +kernel
theorem d_X_isMapped_53 : decode (pw_cc cx_X_isMapped) 53 = .ok (.ifCond .eq 5, 3) := by decide +kernel
theorem d_X_isMapped_56 : decode (pw_cc cx_X_isMapped) 56 = .ok (.iconst 1, 1) := by decide +kernel
theorem d_X_isMapped_57 : decode (pw_cc cx_X_isMapped) 57 = .ok (.ireturn, 1) := by decide +kernel
theorem d_X_isMapped_58 : decode (pw_cc cx_X_isMapped) 58 = .ok (.iinc 3 1, 3) := by decide +kernel
theorem d_X_isMapped_61 : decode (pw_cc cx_X_isMapped) 61 = .ok (.goto (-59), 3) := by decide +kernel
theorem d_X_isMapped_64 : decode (pw_cc cx_X_isMapped) 64 = .ok (.iconst 0, 1) := by decide +kernel
theorem d_X_isMapped_65 : decode (pw_cc cx_X_isMapped) 65 = .ok (.ireturn, 1) := by decide +kernel
set_option maxHeartbeats 4000000 in
set_option maxRecDepth 20000 in
def lp_X_isMapped_2 (Q : pw_W → Int32 → Prop) (X : pw_W → Nat → Prop) : Nat → Int32 → Int32 → Int32 → pw_W → Prop := fun k => Nat.rec (motive := fun _ => Int32 → Int32 → Int32 → pw_W → Prop) (fun _ _ _ _ => False) (fun _ ih a1 a2 a3 w => w.1 7 0 3 = 0 ∧ ((nI (pw_ln w 22 0)) ≤ a3 → Q w 0) ∧ (¬ (nI (pw_ln w 22 0)) ≤ a3 → w.1 7 0 3 = 0 ∧ pw_jn a3 (pw_ln w 22 0) ∧ ∀ v5, v5 = (w.1 22 0 (pw_i a3)) → 0 ≤ v5 ∧ (¬ (w.1 2 (pw_i v5) 0) = a2 → ih a1 a2 (a3 + 1) w) ∧ ((w.1 2 (pw_i v5) 0) = a2 → wp_X_isInField w a1 (w.1 2 (pw_i v5) 1) (w.1 2 (pw_i v5) 2) (fun w9 r10 => (r10 = 0 → ih a1 a2 (a3 + 1) w9) ∧ (¬ r10 = 0 → Q w9 1)) (fun _ _ => False)))) k
set_option maxHeartbeats 4000000 in
set_option maxRecDepth 20000 in
theorem lp_X_isMapped_2_s {Q : pw_W → Int32 → Prop} {X : pw_W → Nat → Prop}  {k : Nat} {a1 a2 a3 : Int32} {w : pw_W} : lp_X_isMapped_2 Q X (k + 1) a1 a2 a3 w = (let ih := lp_X_isMapped_2 Q X k; w.1 7 0 3 = 0 ∧ ((nI (pw_ln w 22 0)) ≤ a3 → Q w 0) ∧ (¬ (nI (pw_ln w 22 0)) ≤ a3 → w.1 7 0 3 = 0 ∧ pw_jn a3 (pw_ln w 22 0) ∧ ∀ v5, v5 = (w.1 22 0 (pw_i a3)) → 0 ≤ v5 ∧ (¬ (w.1 2 (pw_i v5) 0) = a2 → ih a1 a2 (a3 + 1) w) ∧ ((w.1 2 (pw_i v5) 0) = a2 → wp_X_isInField w a1 (w.1 2 (pw_i v5) 1) (w.1 2 (pw_i v5) 2) (fun w9 r10 => (r10 = 0 → ih a1 a2 (a3 + 1) w9) ∧ (¬ r10 = 0 → Q w9 1)) (fun _ _ => False)))) := rfl
set_option maxHeartbeats 4000000 in
set_option maxRecDepth 20000 in
theorem vlp_X_isMapped_2 {l : Launch} {g : pw_G} {Q : pw_W → Int32 → Prop} {X : pw_W → Nat → Prop} (hl0 : l.stackTraces = false) : ∀ (k : Nat) (a1 a2 a3 : Int32) (w : pw_W), lp_X_isMapped_2 Q X k a1 a2 a3 w → pw_V l g cx_X_isMapped Q X 2 [(9, 0), (0, a1), (6, a2), (0, a3), (1, 0)] [] w := by
  intro k; induction k with
  | zero => intro _ _ _ _ h; exact h.elim
  | succ k ih =>
    intro a1 a2 a3 w h
    rw [lp_X_isMapped_2_s] at h
    refine pv_iload_n (n := 3) d_X_isMapped_2 rfl rfl rfl ?_
    refine pv_aload_n (n := 4) d_X_isMapped_3 rfl rfl rfl ?_
    obtain ⟨g1, h⟩ := h
    refine gt_X_28 (n := 7) rfl d_X_isMapped_4 (by decide) g1 rfl ?_
    refine pv_lsize (n := 12) (f := 22) (by decide) q_49 (by decide) rfl d_X_isMapped_7 (by decide) rfl ?_
    refine pv_icmp_ge (n := 15) (tgt := 64) d_X_isMapped_12 (by decide) rfl (fun c2 => ?_) (fun c2 => ?_)
    · replace h := h.1 c2
      refine pv_iconst (v := 0) (n := 65) d_X_isMapped_64 (by decide) rfl ?_
      exact pv_zret rfl rfl d_X_isMapped_65 (by decide) h
    · replace h := h.2 c2
      refine pv_aload_n (n := 16) d_X_isMapped_15 rfl rfl rfl ?_
      obtain ⟨g3, h⟩ := h
      refine gt_X_28 (n := 19) rfl d_X_isMapped_16 (by decide) g3 rfl ?_
      refine pv_iload_n (n := 20) d_X_isMapped_19 rfl rfl rfl ?_
      obtain ⟨g4, h⟩ := h
      refine pv_lget (n := 25) (f := 22) (F := 2) (by decide) rfl q_52 (by decide) rfl d_X_isMapped_20 (by decide) g4 rfl (fun _ => ?_)
      refine pv_cast (n := 28) pw_cf2 q_177 d_X_isMapped_25 rfl ?_
      refine pv_nm (fun v5 e6 => ?_)
      replace h := h v5 e6
      refine pv_astore (n := 30) (L' := [(9, 0), (0, a1), (6, a2), (0, a3), (4, v5)]) d_X_isMapped_28 (by decide) rfl rfl ?_
      refine pv_aload (n := 32) d_X_isMapped_30 rfl rfl ?_
      obtain ⟨g7, h⟩ := h
      refine gt_X_392 (n := 35) rfl d_X_isMapped_32 g7 rfl ?_
      refine pv_aload_n (n := 36) d_X_isMapped_35 rfl rfl rfl ?_
      refine pv_acmp_ne (n := 39) (tgt := 58) d_X_isMapped_36 (by decide) (by decide) rfl (fun c8 => ?_) (fun c8 => ?_)
      · replace h := h.1 c8
        refine pv_iinc (v := (a3 + 1)) (n := 61) (L1 := [(9, 0), (0, a1), (6, a2), (0, (a3 + 1)), (4, v5)]) d_X_isMapped_58 rfl rfl rfl (by decide) rfl ?_
        refine pv_goto (tgt := 2) d_X_isMapped_61 (by decide) ?_
        refine pv_unset (i := 4) (L1 := [(9, 0), (0, a1), (6, a2), (0, (a3 + 1)), (1, 0)]) rfl ?_
        exact ih _ _ _ _ h
      · replace h := h.2 c8
        refine pv_iload_n (n := 40) d_X_isMapped_39 rfl rfl rfl ?_
        refine pv_aload (n := 42) d_X_isMapped_40 rfl rfl ?_
        refine gt_X_393 (n := 45) rfl d_X_isMapped_42 g7 rfl ?_
        refine pv_aload (n := 47) d_X_isMapped_45 rfl rfl ?_
        refine gt_X_396 (n := 50) rfl d_X_isMapped_47 g7 rfl ?_
        refine pv_callS (n := 53) [(0, a1), (0, (w.1 2 (pw_i v5) 1)), (0, (w.1 2 (pw_i v5) 2))] [] (con_X_isInField hl0 h) q_101 q_102 q_62 q_100 pyo_X_isInField (by decide) rfl rfl d_X_isMapped_50 rfl (fun w9 r10 h _ => ?_) (fun _ _ h => h.elim)
        show pw_V l g cx_X_isMapped Q X 53 [(9, 0), (0, a1), (6, a2), (0, a3), (4, v5)] [(0, r10)] w9
        refine pv_if_eq (n := 56) (tgt := 58) d_X_isMapped_53 (by decide) rfl (fun c11 => ?_) (fun c11 => ?_)
        · replace h := h.1 c11
          refine pv_iinc (v := (a3 + 1)) (n := 61) (L1 := [(9, 0), (0, a1), (6, a2), (0, (a3 + 1)), (4, v5)]) d_X_isMapped_58 rfl rfl rfl (by decide) rfl ?_
          refine pv_goto (tgt := 2) d_X_isMapped_61 (by decide) ?_
          refine pv_unset (i := 4) (L1 := [(9, 0), (0, a1), (6, a2), (0, (a3 + 1)), (1, 0)]) rfl ?_
          exact ih _ _ _ _ h
        · replace h := h.2 c11
          refine pv_iconst (v := 1) (n := 57) d_X_isMapped_56 (by decide) rfl ?_
          exact pv_zret rfl rfl d_X_isMapped_57 (by decide) h
set_option maxHeartbeats 4000000 in
set_option maxRecDepth 20000 in
def wp_X_isMapped (w : pw_W) (a1 a2 : Int32) (Q : pw_W → Int32 → Prop) (X : pw_W → Nat → Prop) : Prop := ∃ k12, lp_X_isMapped_2 Q X k12 a1 a2 0 w
set_option maxHeartbeats 4000000 in
set_option maxRecDepth 20000 in
theorem vw_X_isMapped {l : Launch} {g : pw_G} {Q : pw_W → Int32 → Prop} {X : pw_W → Nat → Prop} (hl0 : l.stackTraces = false) {w : pw_W} {a1 a2 : Int32} (h : wp_X_isMapped w a1 a2 Q X) : pw_V l g cx_X_isMapped Q X 0 [(9, 0), (0, a1), (6, a2), (1, 0), (1, 0)] [] w := by
  unfold wp_X_isMapped at h
  refine pv_iconst (v := 0) (n := 1) d_X_isMapped_0 (by decide) rfl ?_
  refine pv_istore_n (n := 2) (L' := [(9, 0), (0, a1), (6, a2), (0, 0), (1, 0)]) d_X_isMapped_1 rfl (by decide) rfl rfl ?_
  obtain ⟨k12, h⟩ := h
  exact vlp_X_isMapped_2 hl0 _ _ _ _ _ h
set_option maxHeartbeats 4000000 in
set_option maxRecDepth 20000 in
theorem con_X_isMapped {l : Launch} {g : pw_G} {Q : pw_W → Int32 → Prop} {X : pw_W → Nat → Prop} (hl0 : l.stackTraces = false) {w : pw_W} {a1 a2 : Int32} (h : wp_X_isMapped w a1 a2 Q X) : pw_Con l g y_X_isMapped cx_X_isMapped [(9, 0), (0, a1), (6, a2)] w Q X :=
  pw_con (by decide +kernel) rfl rfl hl0 rfl (Nat.le_of_ble_eq_true rfl) (by simp) (vw_X_isMapped hl0 h)
