theorem d_X_countWater_0 : decode (pw_cc cx_X_countWater) 0 = .ok (.iconst 0, 1) := by decide +kernel
theorem d_X_countWater_1 : decode (pw_cc cx_X_countWater) 1 = .ok (.istore_n 1, 1) := by decide +kernel
theorem d_X_countWater_2 : decode (pw_cc cx_X_countWater) 2 = .ok (.aload_n 0, 1) := by decide +kernel
theorem d_X_countWater_3 : decode (pw_cc cx_X_countWater) 3 = .ok (.getfield 11, 3) := by decide +kernel
theorem d_X_countWater_6 : decode (pw_cc cx_X_countWater) 6 = .ok (.astore_n 2, 1) := by decide +kernel
theorem d_X_countWater_7 : decode (pw_cc cx_X_countWater) 7 = .ok (.aload_n 2, 1) := by decide +kernel
theorem d_X_countWater_8 : decode (pw_cc cx_X_countWater) 8 = .ok (.arraylength, 1) := by decide +kernel
theorem d_X_countWater_9 : decode (pw_cc cx_X_countWater) 9 = .ok (.istore_n 3, 1) := by decide +kernel
theorem d_X_countWater_10 : decode (pw_cc cx_X_countWater) 10 = .ok (.iconst 0, 1) := by decide +kernel
theorem d_X_countWater_11 : decode (pw_cc cx_X_countWater) 11 = .ok (.istore 4, 2) := by decide +kernel
theorem d_X_countWater_13 : decode (pw_cc cx_X_countWater) 13 = .ok (.iload 4, 2) := by decide +kernel
theorem d_X_countWater_15 : decode (pw_cc cx_X_countWater) 15 = .ok (.iload_n 3, 1) := by decide +kernel
theorem d_X_countWater_16 : decode (pw_cc cx_X_countWater) 16 = .ok (.if_icmp .ge 23, 3) := by decide +kernel
theorem d_X_countWater_19 : decode (pw_cc cx_X_countWater) 19 = .ok (.aload_n 2, 1) := by decide +kernel
theorem d_X_countWater_20 : decode (pw_cc cx_X_countWater) 20 = .ok (.iload 4, 2) := by decide +kernel
theorem d_X_countWater_22 : decode (pw_cc cx_X_countWater) 22 = .ok (.aaload, 1) := by decide +kernel
theorem d_X_countWater_23 : decode (pw_cc cx_X_countWater) 23 = .ok (.astore 5, 2) := by decide +kernel
theorem d_X_countWater_25 : decode (pw_cc cx_X_countWater) 25 = .ok (.iload_n 1, 1) := by decide +kernel
theorem d_X_countWater_26 : decode (pw_cc cx_X_countWater) 26 = .ok (.aload 5, 2) := by decide +kernel
theorem d_X_countWater_28 : decode (pw_cc cx_X_countWater) 28 = .ok (.getfield 238, 3) := by decide +kernel
theorem d_X_countWater_31 : decode (pw_cc cx_X_countWater) 31 = .ok (.iadd, 1) := by decide +kernel
theorem d_X_countWater_32 : decode (pw_cc cx_X_countWater) 32 = .ok (.istore_n 1, 1) := by decide +kernel
theorem d_X_countWater_33 : decode (pw_cc cx_X_countWater) 33 = .ok (.iinc 4 1, 3) := by decide +kernel
theorem d_X_countWater_36 : decode (pw_cc cx_X_countWater) 36 = .ok (.goto (-23), 3) := by decide +kernel
theorem d_X_countWater_39 : decode (pw_cc cx_X_countWater) 39 = .ok (.iload_n 1, 1) := by decide +kernel
theorem d_X_countWater_40 : decode (pw_cc cx_X_countWater) 40 = .ok (.ireturn, 1) := by decide +kernel
set_option maxHeartbeats 4000000 in
set_option maxRecDepth 20000 in
def lp_X_countWater_13 (Q : pw_W → Int32 → Prop) (X : pw_W → Nat → Prop) : Nat → Int32 → Int32 → Int32 → pw_W → Prop := fun k => Nat.rec (motive := fun _ => Int32 → Int32 → Int32 → pw_W → Prop) (fun _ _ _ _ => False) (fun _ ih a1 a3 a4 w => (a3 ≤ a4 → Q w a1) ∧ (¬ a3 ≤ a4 → pw_jn a4 (pw_ln w 14 0) ∧ ∀ v3, v3 = (w.1 14 0 (pw_i a4)) → 0 ≤ v3 ∧ ∀ v6, v6 = (a1 + (w.1 6 (pw_i v3) 5)) → ih v6 a3 (a4 + 1) w)) k
set_option maxHeartbeats 4000000 in
set_option maxRecDepth 20000 in
theorem lp_X_countWater_13_s {Q : pw_W → Int32 → Prop} {X : pw_W → Nat → Prop}  {k : Nat} {a1 a3 a4 : Int32} {w : pw_W} : lp_X_countWater_13 Q X (k + 1) a1 a3 a4 w = (let ih := lp_X_countWater_13 Q X k; (a3 ≤ a4 → Q w a1) ∧ (¬ a3 ≤ a4 → pw_jn a4 (pw_ln w 14 0) ∧ ∀ v3, v3 = (w.1 14 0 (pw_i a4)) → 0 ≤ v3 ∧ ∀ v6, v6 = (a1 + (w.1 6 (pw_i v3) 5)) → ih v6 a3 (a4 + 1) w)) := rfl
set_option maxHeartbeats 4000000 in
set_option maxRecDepth 20000 in
theorem vlp_X_countWater_13 {l : Launch} {g : pw_G} {Q : pw_W → Int32 → Prop} {X : pw_W → Nat → Prop} (hl0 : l.stackTraces = false) : ∀ (k : Nat) (a1 a3 a4 : Int32) (w : pw_W), lp_X_countWater_13 Q X k a1 a3 a4 w → pw_V l g cx_X_countWater Q X 13 [(1, 0), (0, a1), (16, 0), (0, a3), (0, a4), (1, 0)] [] w := by
  intro k; induction k with
  | zero => intro _ _ _ _ h; exact h.elim
  | succ k ih =>
    intro a1 a3 a4 w h
    rw [lp_X_countWater_13_s] at h
    refine pv_iload (n := 15) d_X_countWater_13 rfl rfl ?_
    refine pv_iload_n (n := 16) d_X_countWater_15 rfl rfl rfl ?_
    refine pv_icmp_ge (n := 19) (tgt := 39) d_X_countWater_16 (by decide) rfl (fun c1 => ?_) (fun c1 => ?_)
    · replace h := h.1 c1
      refine pv_iload_n (n := 40) d_X_countWater_39 rfl rfl rfl ?_
      exact pv_iret rfl rfl d_X_countWater_40 h
    · replace h := h.2 c1
      refine pv_aload_n (n := 20) d_X_countWater_19 rfl rfl rfl ?_
      refine pv_iload (n := 22) d_X_countWater_20 rfl rfl ?_
      obtain ⟨g2, h⟩ := h
      refine pv_aald (n := 23) (f := 14) (F := 6) (C := "Peatland$Square") (by decide) (Or.inl ⟨rfl, rfl⟩) (fun _ => rfl) d_X_countWater_22 (by decide) g2 rfl (fun _ => ?_)
      refine pv_nm (fun v3 e4 => ?_)
      replace h := h v3 e4
      refine pv_astore (n := 25) (L' := [(1, 0), (0, a1), (16, 0), (0, a3), (0, a4), (8, v3)]) d_X_countWater_23 (by decide) rfl rfl ?_
      refine pv_iload_n (n := 26) d_X_countWater_25 rfl rfl rfl ?_
      refine pv_aload (n := 28) d_X_countWater_26 rfl rfl ?_
      obtain ⟨g5, h⟩ := h
      refine gt_X_238 (n := 31) rfl d_X_countWater_28 g5 rfl ?_
      refine pv_iadd (n := 32) d_X_countWater_31 rfl ?_
      refine pv_nm (fun v6 e7 => ?_)
      replace h := h v6 e7
      refine pv_istore_n (n := 33) (L' := [(1, 0), (0, v6), (16, 0), (0, a3), (0, a4), (8, v3)]) d_X_countWater_32 rfl (by decide) rfl rfl ?_
      refine pv_iinc (v := (a4 + 1)) (n := 36) (L1 := [(1, 0), (0, v6), (16, 0), (0, a3), (0, (a4 + 1)), (8, v3)]) d_X_countWater_33 rfl rfl rfl (by decide) rfl ?_
      refine pv_goto (tgt := 13) d_X_countWater_36 (by decide) ?_
      refine pv_unset (i := 5) (L1 := [(1, 0), (0, v6), (16, 0), (0, a3), (0, (a4 + 1)), (1, 0)]) rfl ?_
      exact ih _ _ _ _ h
set_option maxHeartbeats 4000000 in
set_option maxRecDepth 20000 in
def wp_X_countWater (w : pw_W) (Q : pw_W → Int32 → Prop) (X : pw_W → Nat → Prop) : Prop := w.1 7 0 0 = 0 ∧ ∀ v9, v9 = (nI (pw_ln w 14 0)) → ∃ k11, lp_X_countWater_13 Q X k11 0 v9 0 w
set_option maxHeartbeats 4000000 in
set_option maxRecDepth 20000 in
theorem vw_X_countWater {l : Launch} {g : pw_G} {Q : pw_W → Int32 → Prop} {X : pw_W → Nat → Prop} (hl0 : l.stackTraces = false) {w : pw_W} (h : wp_X_countWater w Q X) : pw_V l g cx_X_countWater Q X 0 [(9, 0), (1, 0), (1, 0), (1, 0), (1, 0), (1, 0)] [] w := by
  unfold wp_X_countWater at h
  refine pv_iconst (v := 0) (n := 1) d_X_countWater_0 (by decide) rfl ?_
  refine pv_istore_n (n := 2) (L' := [(9, 0), (0, 0), (1, 0), (1, 0), (1, 0), (1, 0)]) d_X_countWater_1 rfl (by decide) rfl rfl ?_
  refine pv_aload_n (n := 3) d_X_countWater_2 rfl rfl rfl ?_
  obtain ⟨g8, h⟩ := h
  refine gt_X_11 (n := 6) rfl d_X_countWater_3 (by decide) g8 rfl ?_
  refine pv_astore_n (n := 7) (L' := [(9, 0), (0, 0), (16, 0), (1, 0), (1, 0), (1, 0)]) d_X_countWater_6 rfl (by decide) rfl rfl ?_
  refine pv_aload_n (n := 8) d_X_countWater_7 rfl rfl rfl ?_
  refine pv_alen (n := 9) (f := 14) (by decide) ⟨_, rfl⟩ d_X_countWater_8 (by decide) rfl ?_
  refine pv_nm (fun v9 e10 => ?_)
  replace h := h v9 e10
  refine pv_istore_n (n := 10) (L' := [(9, 0), (0, 0), (16, 0), (0, v9), (1, 0), (1, 0)]) d_X_countWater_9 rfl (by decide) rfl rfl ?_
  refine pv_iconst (v := 0) (n := 11) d_X_countWater_10 (by decide) rfl ?_
  refine pv_istore (n := 13) (L' := [(9, 0), (0, 0), (16, 0), (0, v9), (0, 0), (1, 0)]) d_X_countWater_11 (by decide) rfl rfl ?_
  refine pv_unset (i := 0) (L1 := [(1, 0), (0, 0), (16, 0), (0, v9), (0, 0), (1, 0)]) rfl ?_
  obtain ⟨k11, h⟩ := h
  exact vlp_X_countWater_13 hl0 _ _ _ _ _ h
set_option maxHeartbeats 4000000 in
set_option maxRecDepth 20000 in
theorem con_X_countWater {l : Launch} {g : pw_G} {Q : pw_W → Int32 → Prop} {X : pw_W → Nat → Prop} (hl0 : l.stackTraces = false) {w : pw_W} (h : wp_X_countWater w Q X) : pw_Con l g y_X_countWater cx_X_countWater [(9, 0)] w Q X :=
  pw_con (by decide +kernel) rfl rfl hl0 rfl (Nat.le_of_ble_eq_true rfl) (by simp) (vw_X_countWater hl0 h)
theorem d_X_water_0 : decode (pw_cc cx_X_water) 0 = .ok (.iload_n 1, 1) := by decide +kernel
theorem d_X_water_1 : decode (pw_cc cx_X_water) 1 = .ok (.tableswitch 51 0 3 #[31, 36, 41, 46], 31) := by decide +kernel
theorem d_X_water_32 : decode (pw_cc cx_X_water) 32 = .ok (.aload_n 0, 1) := by decide +kernel
theorem d_X_water_33 : decode (pw_cc cx_X_water) 33 = .ok (.invokevirtual 359, 3) := by decide +kernel
theorem d_X_water_36 : decode (pw_cc cx_X_water) 36 = .ok (.ireturn, 1) := by decide +kernel
theorem d_X_water_37 : decode (pw_cc cx_X_water) 37 = .ok (.aload_n 0, 1) := by decide +kernel
theorem d_X_water_38 : decode (pw_cc cx_X_water) 38 = .ok (.getfield 247, 3) := by decide +kernel
theorem d_X_water_41 : decode (pw_cc cx_X_water) 41 = .ok (.ireturn, 1) := by decide +kernel
theorem d_X_water_42 : decode (pw_cc cx_X_water) 42 = .ok (.aload_n 0, 1) := by decide +kernel
theorem d_X_water_43 : decode (pw_cc cx_X_water) 43 = .ok (.getfield 250, 3) := by decide +kernel
theorem d_X_water_46 : decode (pw_cc cx_X_water) 46 = .ok (.ireturn, 1) := by decide +kernel
theorem d_X_water_47 : decode (pw_cc cx_X_water) 47 = .ok (.aload_n 0, 1) := by decide +kernel
theorem d_X_water_48 : decode (pw_cc cx_X_water) 48 = .ok (.getfield 362, 3) := by decide +kernel
theorem d_X_water_51 : decode (pw_cc cx_X_water) 51 = .ok (.ireturn, 1) := by decide +kernel
theorem d_X_water_52 : decode (pw_cc cx_X_water) 52 = .ok (.new 320, 3) := by decide +kernel
theorem d_X_water_55 : decode (pw_cc cx_X_water) 55 = .ok (.dup, 1) := by decide +kernel
theorem d_X_water_56 : decode (pw_cc cx_X_water) 56 = .ok (.ldc_w 365, 3) := by decide +kernel
theorem d_X_water_59 : decode (pw_cc cx_X_water) 59 = .ok (.invokespecial 324, 3) := by decide +kernel
theorem d_X_water_62 : decode (pw_cc cx_X_water) 62 = .ok (.athrow, 1) := by decide +kernel
set_option maxHeartbeats 4000000 in
set_option maxRecDepth 20000 in
def wp_X_water (w : pw_W) (a1 : Int32) (Q : pw_W → Int32 → Prop) (X : pw_W → Nat → Prop) : Prop := ((a1.toInt < 0 ∨ 3 < a1.toInt) → pw_thr w X 1) ∧ (a1 = 0 → wp_X_countWater w  (fun w2 r3 => Q w2 r3) (fun _ _ => False)) ∧ (a1 = 1 → Q w (w.1 7 0 9)) ∧ (a1 = 2 → Q w (w.1 7 0 10)) ∧ (a1 = 3 → Q w (w.1 7 0 11))
set_option maxHeartbeats 4000000 in
set_option maxRecDepth 20000 in
theorem vw_X_water {l : Launch} {g : pw_G} {Q : pw_W → Int32 → Prop} {X : pw_W → Nat → Prop} (hl0 : l.stackTraces = false) {w : pw_W} {a1 : Int32} (h : wp_X_water w a1 Q X) : pw_V l g cx_X_water Q X 0 [(9, 0), (0, a1)] [] w := by
  unfold wp_X_water at h
  refine pv_iload_n (n := 1) d_X_water_0 rfl rfl rfl ?_
  by_cases c1 : a1.toInt < 0 ∨ 3 < a1.toInt
  · replace h := h.1 c1
    refine pv_tableOut (tgt := 52) d_X_water_1 c1 (by decide) ?_
    exact pv_throw (k := 1) (text := "no such thing is told of water") hl0 q_88 q_89 (by decide +kernel) (by decide +kernel) (pt_h1_324) (pt_g1_320_324) rfl d_X_water_52 d_X_water_55 d_X_water_56 d_X_water_59 d_X_water_62 (by decide) rfl h
  · replace h := h.2
    obtain ⟨cn, hcn, hce⟩ := pw_sw (N := 4) (x := a1) c1
    have hcs : cn = 0 ∨ cn = 1 ∨ cn = 2 ∨ cn = 3 := by omega
    rcases hcs with rfl | rfl | rfl | rfl
    · replace hce : a1 = 0 := hce
      replace h := h.1 hce
      refine pv_tableIn (tgt := 32) (off := 31) d_X_water_1 (by rw [hce]; decide) (by rw [hce]; decide) (by rw [hce]; rfl) (by decide) ?_
      refine pv_aload_n (n := 33) d_X_water_32 rfl rfl rfl ?_
      refine pv_callV (n := 36) (x := 0) [] [] (con_X_countWater hl0 h) pw_cf7 rfl q_415 q_416 q_417 q_62 q_414 pyo_X_countWater (by decide) rfl rfl (by decide) d_X_water_33 rfl (fun w2 r3 h _ => ?_) (fun _ _ h => h.elim)
      show pw_V l g cx_X_water Q X 36 [(9, 0), (0, a1)] [(0, r3)] w2
      exact pv_iret rfl rfl d_X_water_36 h
    · replace hce : a1 = 1 := hce
      replace h := h.2.1 hce
      refine pv_tableIn (tgt := 37) (off := 36) d_X_water_1 (by rw [hce]; decide) (by rw [hce]; decide) (by rw [hce]; rfl) (by decide) ?_
      refine pv_aload_n (n := 38) d_X_water_37 rfl rfl rfl ?_
      refine gt_X_247 (n := 41) rfl d_X_water_38 (by decide) rfl ?_
      exact pv_iret rfl rfl d_X_water_41 h
    · replace hce : a1 = 2 := hce
      replace h := h.2.2.1 hce
      refine pv_tableIn (tgt := 42) (off := 41) d_X_water_1 (by rw [hce]; decide) (by rw [hce]; decide) (by rw [hce]; rfl) (by decide) ?_
      refine pv_aload_n (n := 43) d_X_water_42 rfl rfl rfl ?_
      refine gt_X_250 (n := 46) rfl d_X_water_43 (by decide) rfl ?_
      exact pv_iret rfl rfl d_X_water_46 h
    · replace hce : a1 = 3 := hce
      replace h := h.2.2.2 hce
      refine pv_tableIn (tgt := 47) (off := 46) d_X_water_1 (by rw [hce]; decide) (by rw [hce]; decide) (by rw [hce]; rfl) (by decide) ?_
      refine pv_aload_n (n := 48) d_X_water_47 rfl rfl rfl ?_
      refine gt_X_362 (n := 51) rfl d_X_water_48 (by decide) rfl ?_
      exact pv_iret rfl rfl d_X_water_51 h
set_option maxHeartbeats 4000000 in
set_option maxRecDepth 20000 in
theorem con_X_water {l : Launch} {g : pw_G} {Q : pw_W → Int32 → Prop} {X : pw_W → Nat → Prop} (hl0 : l.stackTraces = false) {w : pw_W} {a1 : Int32} (h : wp_X_water w a1 Q X) : pw_Con l g y_X_water cx_X_water [(9, 0), (0, a1)] w Q X :=
  pw_con (by decide +kernel) rfl rfl hl0 rfl (Nat.le_of_ble_eq_true rfl) (by simp) (vw_X_water hl0 h)
theorem d_X_paid_0 : decode (pw_cc cx_X_paid) 0 = .ok (.aload_n 0, 1) := by decide +kernel
theorem d_X_paid_1 : decode (pw_cc cx_X_paid) 1 = .ok (.iload_n 1, 1) := by decide +kernel
theorem d_X_paid_2 : decode (pw_cc cx_X_paid) 2 = .ok (.invokevirtual 69, 3) := by decide +kernel
theorem d_X_paid_5 : decode (pw_cc cx_X_paid) 5 = .ok (.getfield 367, 3) := by decide +kernel
theorem d_X_paid_8 : decode (pw_cc cx_X_paid) 8 = .ok (.ireturn, 1) := by decide +kernel
set_option maxHeartbeats 4000000 in
set_option maxRecDepth 20000 in
def wp_X_paid (w : pw_W) (a1 : Int32) (Q : pw_W → Int32 → Prop) (X : pw_W → Nat → Prop) : Prop := wp_X_personNumbered w a1 (fun w1 r2 => 0 ≤ r2 ∧ Q w1 (w1.1 4 (pw_i r2) 3)) X
set_option maxHeartbeats 4000000 in
set_option maxRecDepth 20000 in
theorem vw_X_paid {l : Launch} {g : pw_G} {Q : pw_W → Int32 → Prop} {X : pw_W → Nat → Prop} (hl0 : l.stackTraces = false) {w : pw_W} {a1 : Int32} (h : wp_X_paid w a1 Q X) : pw_V l g cx_X_paid Q X 0 [(9, 0), (0, a1)] [] w := by
  unfold wp_X_paid at h
  refine pv_aload_n (n := 1) d_X_paid_0 rfl rfl rfl ?_
  refine pv_iload_n (n := 2) d_X_paid_1 rfl rfl rfl ?_
  refine pv_callV (n := 5) (x := 0) [(0, a1)] [] (con_X_personNumbered hl0 h) pw_cf7 rfl q_139 q_140 q_141 q_62 q_138 pyo_X_personNumbered (by decide) rfl rfl (by decide) d_X_paid_2 rfl (fun w1 r2 h _ => ?_) (fun _ _ h => pvx_out rfl h)
  show pw_V l g cx_X_paid Q X 5 [(9, 0), (0, a1)] [(6, r2)] w1
  obtain ⟨g3, h⟩ := h
  refine gt_X_367 (n := 8) rfl d_X_paid_5 g3 rfl ?_
  exact pv_iret rfl rfl d_X_paid_8 h
set_option maxHeartbeats 4000000 in
set_option maxRecDepth 20000 in
theorem con_X_paid {l : Launch} {g : pw_G} {Q : pw_W → Int32 → Prop} {X : pw_W → Nat → Prop} (hl0 : l.stackTraces = false) {w : pw_W} {a1 : Int32} (h : wp_X_paid w a1 Q X) : pw_Con l g y_X_paid cx_X_paid [(9, 0), (0, a1)] w Q X :=
  pw_con (by decide +kernel) rfl rfl hl0 rfl (Nat.le_of_ble_eq_true rfl) (by simp) (vw_X_paid hl0 h)
theorem d_X_sheep_0 : decode (pw_cc cx_X_sheep) 0 = .ok (.aload_n 0, 1) := by decide +kernel
theorem d_X_sheep_1 : decode (pw_cc cx_X_sheep) 1 = .ok (.iload_n 1, 1) := by decide +kernel
theorem d_X_sheep_2 : decode (pw_cc cx_X_sheep) 2 = .ok (.invokevirtual 69, 3) := by decide +kernel
theorem d_X_sheep_5 : decode (pw_cc cx_X_sheep) 5 = .ok (.astore_n 3, 1) := by decide +kernel
theorem d_X_sheep_6 : decode (pw_cc cx_X_sheep) 6 = .ok (.aload_n 0, 1) := by decide +kernel
theorem d_X_sheep_7 : decode (pw_cc cx_X_sheep) 7 = .ok (.iload_n 2, 1) := by decide +kernel
theorem d_X_sheep_8 : decode (pw_cc cx_X_sheep) 8 = .ok (.invokevirtual 61, 3) := by decide +kernel
theorem d_X_sheep_11 : decode (pw_cc cx_X_sheep) 11 = .ok (.aload_n 3, 1) := by decide +kernel
theorem d_X_sheep_12 : decode (pw_cc cx_X_sheep) 12 = .ok (.getfield 230, 3) := by decide +kernel
theorem d_X_sheep_15 : decode (pw_cc cx_X_sheep) 15 = .ok (.invokevirtual 231, 3) := by decide +kernel
theorem d_X_sheep_18 : decode (pw_cc cx_X_sheep) 18 = .ok (.ireturn, 1) := by decide +kernel
set_option maxHeartbeats 4000000 in
set_option maxRecDepth 20000 in
def wp_X_sheep (w : pw_W) (a1 a2 : Int32) (Q : pw_W → Int32 → Prop) (X : pw_W → Nat → Prop) : Prop := wp_X_personNumbered w a1 (fun w1 r2 => wp_X_parcelNumbered w1 a2 (fun w3 r4 => 0 ≤ r2 ∧ 0 ≤ r4 ∧ wp_Parcel_sheepOf w3 r4 (w3.1 4 (pw_i r2) 0) (fun w6 r7 => Q w6 r7) (fun _ _ => False)) X) X
set_option maxHeartbeats 4000000 in
set_option maxRecDepth 20000 in
theorem vw_X_sheep {l : Launch} {g : pw_G} {Q : pw_W → Int32 → Prop} {X : pw_W → Nat → Prop} (hl0 : l.stackTraces = false) {w : pw_W} {a1 a2 : Int32} (h : wp_X_sheep w a1 a2 Q X) : pw_V l g cx_X_sheep Q X 0 [(9, 0), (0, a1), (0, a2), (1, 0)] [] w := by
  unfold wp_X_sheep at h
  refine pv_aload_n (n := 1) d_X_sheep_0 rfl rfl rfl ?_
  refine pv_iload_n (n := 2) d_X_sheep_1 rfl rfl rfl ?_
  refine pv_callV (n := 5) (x := 0) [(0, a1)] [] (con_X_personNumbered hl0 h) pw_cf7 rfl q_139 q_140 q_141 q_62 q_138 pyo_X_personNumbered (by decide) rfl rfl (by decide) d_X_sheep_2 rfl (fun w1 r2 h _ => ?_) (fun _ _ h => pvx_out rfl h)
  show pw_V l g cx_X_sheep Q X 5 [(9, 0), (0, a1), (0, a2), (1, 0)] [(6, r2)] w1
  refine pv_astore_n (n := 6) (L' := [(9, 0), (0, a1), (0, a2), (6, r2)]) d_X_sheep_5 rfl (by decide) rfl rfl ?_
  refine pv_aload_n (n := 7) d_X_sheep_6 rfl rfl rfl ?_
  refine pv_iload_n (n := 8) d_X_sheep_7 rfl rfl rfl ?_
  refine pv_callV (n := 11) (x := 0) [(0, a2)] [] (con_X_parcelNumbered hl0 h) pw_cf7 rfl q_146 q_147 q_148 q_62 q_145 pyo_X_parcelNumbered (by decide) rfl rfl (by decide) d_X_sheep_8 rfl (fun w3 r4 h _ => ?_) (fun _ _ h => pvx_out rfl h)
  show pw_V l g cx_X_sheep Q X 11 [(9, 0), (0, a1), (0, a2), (6, r2)] [(5, r4)] w3
  refine pv_aload_n (n := 12) d_X_sheep_11 rfl rfl rfl ?_
  obtain ⟨g5, h⟩ := h
  refine gt_X_230 (n := 15) rfl d_X_sheep_12 g5 rfl ?_
  obtain ⟨g8, h⟩ := h
  refine pv_callV (n := 18) (x := r4) [(0, (w3.1 4 (pw_i r2) 0))] [] (con_Parcel_sheepOf hl0 h) pw_cf3 rfl q_156 q_157 q_158 q_46 q_155 pyo_Parcel_sheepOf (by decide) rfl rfl g8 d_X_sheep_15 rfl (fun w6 r7 h _ => ?_) (fun _ _ h => h.elim)
  show pw_V l g cx_X_sheep Q X 18 [(9, 0), (0, a1), (0, a2), (6, r2)] [(0, r7)] w6
  exact pv_iret rfl rfl d_X_sheep_18 h
set_option maxHeartbeats 4000000 in
set_option maxRecDepth 20000 in
theorem con_X_sheep {l : Launch} {g : pw_G} {Q : pw_W → Int32 → Prop} {X : pw_W → Nat → Prop} (hl0 : l.stackTraces = false) {w : pw_W} {a1 a2 : Int32} (h : wp_X_sheep w a1 a2 Q X) : pw_Con l g y_X_sheep cx_X_sheep [(9, 0), (0, a1), (0, a2)] w Q X :=
  pw_con (by decide +kernel) rfl rfl hl0 rfl (Nat.le_of_ble_eq_true rfl) (by simp) (vw_X_sheep hl0 h)
theorem d_L_asks_0 : decode (pw_cc cx_L_asks) 0 = .ok (.iload_n 1, 1) := by decide +kernel
theorem d_L_asks_1 : decode (pw_cc cx_L_asks) 1 = .ok (.ifCond .ne 16, 3) := by decide +kernel
theorem d_L_asks_4 : decode (pw_cc cx_L_asks) 4 = .ok (.aload_n 0, 1) := by decide +kernel
theorem d_L_asks_5 : decode (pw_cc cx_L_asks) 5 = .ok (.iload_n 2, 1) := by decide +kernel
theorem d_L_asks_6 : decode (pw_cc cx_L_asks) 6 = .ok (.iload_n 3, 1) := by decide +kernel
theorem d_L_asks_7 : decode (pw_cc cx_L_asks) 7 = .ok (.iload 4, 2) := by decide +kernel
theorem d_L_asks_9 : decode (pw_cc cx_L_asks) 9 = .ok (.iload 5, 2) := by decide +kernel
theorem d_L_asks_11 : decode (pw_cc cx_L_asks) 11 = .ok (.invokevirtual 7, 3) := by decide +kernel
theorem d_L_asks_14 : decode (pw_cc cx_L_asks) 14 = .ok (.goto 246, 3) := by decide +kernel
theorem d_L_asks_17 : decode (pw_cc cx_L_asks) 17 = .ok (.iload_n 1, 1) := by decide +kernel
theorem d_L_asks_18 : decode (pw_cc cx_L_asks) 18 = .ok (.iconst 1, 1) := by decide +kernel
theorem d_L_asks_19 : decode (pw_cc cx_L_asks) 19 = .ok (.if_icmp .ne 12, 3) := by decide +kernel
theorem d_L_asks_22 : decode (pw_cc cx_L_asks) 22 = .ok (.aload_n 0, 1) := by decide +kernel
theorem d_L_asks_23 : decode (pw_cc cx_L_asks) 23 = .ok (.iload_n 2, 1) := by decide +kernel
theorem d_L_asks_24 : decode (pw_cc cx_L_asks) 24 = .ok (.iload_n 3, 1) := by decide +kernel
theorem d_L_asks_25 : decode (pw_cc cx_L_asks) 25 = .ok (.invokevirtual 13, 3) := by decide +kernel
theorem d_L_asks_28 : decode (pw_cc cx_L_asks) 28 = .ok (.goto 232, 3) := by decide +kernel
theorem d_L_asks_31 : decode (pw_cc cx_L_asks) 31 = .ok (.iload_n 1, 1) := by decide +kernel
theorem d_L_asks_32 : decode (pw_cc cx_L_asks) 32 = .ok (.iconst 2, 1) := by decide +kernel
theorem d_L_asks_33 : decode (pw_cc cx_L_asks) 33 = .ok (.if_icmp .ne 14, 3) := by decide +kernel
theorem d_L_asks_36 : decode (pw_cc cx_L_asks) 36 = .ok (.aload_n 0, 1) := by decide +kernel
theorem d_L_asks_37 : decode (pw_cc cx_L_asks) 37 = .ok (.iload_n 2, 1) := by decide +kernel
theorem d_L_asks_38 : decode (pw_cc cx_L_asks) 38 = .ok (.iload_n 3, 1) := by decide +kernel
theorem d_L_asks_39 : decode (pw_cc cx_L_asks) 39 = .ok (.iload 4, 2) := by decide +kernel
theorem d_L_asks_41 : decode (pw_cc cx_L_asks) 41 = .ok (.invokevirtual 17, 3) := by decide +kernel
theorem d_L_asks_44 : decode (pw_cc cx_L_asks) 44 = .ok (.goto 216, 3) := by decide +kernel
theorem d_L_asks_47 : decode (pw_cc cx_L_asks) 47 = .ok (.iload_n 1, 1) := by decide +kernel
theorem d_L_asks_48 : decode (pw_cc cx_L_asks) 48 = .ok (.iconst 3, 1) := by decide +kernel
theorem d_L_asks_49 : decode (pw_cc cx_L_asks) 49 = .ok (.if_icmp .ne 14, 3) := by decide +kernel
theorem d_L_asks_52 : decode (pw_cc cx_L_asks) 52 = .ok (.aload_n 0, 1) := by decide +kernel
theorem d_L_asks_53 : decode (pw_cc cx_L_asks) 53 = .ok (.iload_n 2, 1) := by decide +kernel
theorem d_L_asks_54 : decode (pw_cc cx_L_asks) 54 = .ok (.iload_n 3, 1) := by decide +kernel
theorem d_L_asks_55 : decode (pw_cc cx_L_asks) 55 = .ok (.iload 4, 2) := by decide +kernel
theorem d_L_asks_57 : decode (pw_cc cx_L_asks) 57 = .ok (.invokevirtual 21, 3) := by decide +kernel
theorem d_L_asks_60 : decode (pw_cc cx_L_asks) 60 = .ok (.goto 200, 3) := by decide +kernel
theorem d_L_asks_63 : decode (pw_cc cx_L_asks) 63 = .ok (.iload_n 1, 1) := by decide +kernel
theorem d_L_asks_64 : decode (pw_cc cx_L_asks) 64 = .ok (.iconst 4, 1) := by decide +kernel
theorem d_L_asks_65 : decode (pw_cc cx_L_asks) 65 = .ok (.if_icmp .ne 25, 3) := by decide +kernel
theorem d_L_asks_68 : decode (pw_cc cx_L_asks) 68 = .ok (.aload_n 0, 1) := by decide +kernel
theorem d_L_asks_69 : decode (pw_cc cx_L_asks) 69 = .ok (.iload_n 2, 1) := by decide +kernel
theorem d_L_asks_70 : decode (pw_cc cx_L_asks) 70 = .ok (.iload_n 3, 1) := by decide +kernel
theorem d_L_asks_71 : decode (pw_cc cx_L_asks) 71 = .ok (.iconst 1, 1) := by decide +kernel
theorem d_L_asks_72 : decode (pw_cc cx_L_asks) 72 = .ok (.if_icmp .ne 7, 3) := by decide +kernel
theorem d_L_asks_75 : decode (pw_cc cx_L_asks) 75 = .ok (.iconst 1, 1) := by decide +kernel
theorem d_L_asks_76 : decode (pw_cc cx_L_asks) 76 = .ok (.goto 4, 3) := by decide +kernel
theorem d_L_asks_79 : decode (pw_cc cx_L_asks) 79 = .ok (.iconst 0, 1) := by decide +kernel
theorem d_L_asks_80 : decode (pw_cc cx_L_asks) 80 = .ok (.iload 4, 2) := by decide +kernel
theorem d_L_asks_82 : decode (pw_cc cx_L_asks) 82 = .ok (.iload 5, 2) := by decide +kernel
theorem d_L_asks_84 : decode (pw_cc cx_L_asks) 84 = .ok (.invokevirtual 24, 3) := by decide +kernel
theorem d_L_asks_87 : decode (pw_cc cx_L_asks) 87 = .ok (.goto 173, 3) := by decide +kernel
theorem d_L_asks_90 : decode (pw_cc cx_L_asks) 90 = .ok (.iload_n 1, 1) := by decide +kernel
theorem d_L_asks_91 : decode (pw_cc cx_L_asks) 91 = .ok (.iconst 5, 1) := by decide +kernel
theorem d_L_asks_92 : decode (pw_cc cx_L_asks) 92 = .ok (.if_icmp .ne 23, 3) := by decide +kernel
theorem d_L_asks_95 : decode (pw_cc cx_L_asks) 95 = .ok (.aload_n 0, 1) := by decide +kernel
theorem d_L_asks_96 : decode (pw_cc cx_L_asks) 96 = .ok (.iload_n 2, 1) := by decide +kernel
theorem d_L_asks_97 : decode (pw_cc cx_L_asks) 97 = .ok (.iload_n 3, 1) := by decide +kernel
theorem d_L_asks_98 : decode (pw_cc cx_L_asks) 98 = .ok (.iconst 1, 1) := by decide +kernel
theorem d_L_asks_99 : decode (pw_cc cx_L_asks) 99 = .ok (.if_icmp .ne 7, 3) := by decide +kernel
theorem d_L_asks_102 : decode (pw_cc cx_L_asks) 102 = .ok (.iconst 1, 1) := by decide +kernel
theorem d_L_asks_103 : decode (pw_cc cx_L_asks) 103 = .ok (.goto 4, 3) := by decide +kernel
theorem d_L_asks_106 : decode (pw_cc cx_L_asks) 106 = .ok (.iconst 0, 1) := by decide +kernel
theorem d_L_asks_107 : decode (pw_cc cx_L_asks) 107 = .ok (.iload 4, 2) := by decide +kernel
theorem d_L_asks_109 : decode (pw_cc cx_L_asks) 109 = .ok (.invokevirtual 28, 3) := by decide +kernel
theorem d_L_asks_112 : decode (pw_cc cx_L_asks) 112 = .ok (.goto 148, 3) := by decide +kernel
theorem d_L_asks_115 : decode (pw_cc cx_L_asks) 115 = .ok (.iload_n 1, 1) := by decide +kernel
theorem d_L_asks_116 : decode (pw_cc cx_L_asks) 116 = .ok (.bipush 6, 2) := by decide +kernel
theorem d_L_asks_118 : decode (pw_cc cx_L_asks) 118 = .ok (.if_icmp .ne 11, 3) := by decide +kernel
theorem d_L_asks_121 : decode (pw_cc cx_L_asks) 121 = .ok (.aload_n 0, 1) := by decide +kernel
theorem d_L_asks_122 : decode (pw_cc cx_L_asks) 122 = .ok (.iload_n 2, 1) := by decide +kernel
theorem d_L_asks_123 : decode (pw_cc cx_L_asks) 123 = .ok (.invokevirtual 32, 3) := by decide +kernel
theorem d_L_asks_126 : decode (pw_cc cx_L_asks) 126 = .ok (.goto 134, 3) := by decide +kernel
theorem d_L_asks_129 : decode (pw_cc cx_L_asks) 129 = .ok (.iload_n 1, 1) := by decide +kernel
theorem d_L_asks_130 : decode (pw_cc cx_L_asks) 130 = .ok (.bipush 7, 2) := by decide +kernel
theorem d_L_asks_132 : decode (pw_cc cx_L_asks) 132 = .ok (.if_icmp .ne 11, 3) := by decide +kernel
theorem d_L_asks_135 : decode (pw_cc cx_L_asks) 135 = .ok (.aload_n 0, 1) := by decide +kernel
theorem d_L_asks_136 : decode (pw_cc cx_L_asks) 136 = .ok (.iload_n 2, 1) := by decide +kernel
theorem d_L_asks_137 : decode (pw_cc cx_L_asks) 137 = .ok (.invokevirtual 36, 3) := by decide +kernel
theorem d_L_asks_140 : decode (pw_cc cx_L_asks) 140 = .ok (.goto 120, 3) := by decide +kernel
theorem d_L_asks_143 : decode (pw_cc cx_L_asks) 143 = .ok (.iload_n 1, 1) := by decide +kernel
theorem d_L_asks_144 : decode (pw_cc cx_L_asks) 144 = .ok (.bipush 8, 2) := by decide +kernel
theorem d_L_asks_146 : decode (pw_cc cx_L_asks) 146 = .ok (.if_icmp .ne 16, 3) := by decide +kernel
theorem d_L_asks_149 : decode (pw_cc cx_L_asks) 149 = .ok (.aload_n 0, 1) := by decide +kernel
theorem d_L_asks_150 : decode (pw_cc cx_L_asks) 150 = .ok (.iload_n 2, 1) := by decide +kernel
theorem d_L_asks_151 : decode (pw_cc cx_L_asks) 151 = .ok (.iload_n 3, 1) := by decide +kernel
theorem d_L_asks_152 : decode (pw_cc cx_L_asks) 152 = .ok (.iload 4, 2) := by decide +kernel
theorem d_L_asks_154 : decode (pw_cc cx_L_asks) 154 = .ok (.iload 5, 2) := by decide +kernel
theorem d_L_asks_156 : decode (pw_cc cx_L_asks) 156 = .ok (.invokevirtual 39, 3) := by decide +kernel
theorem d_L_asks_159 : decode (pw_cc cx_L_asks) 159 = .ok (.goto 101, 3) := by decide +kernel
theorem d_L_asks_162 : decode (pw_cc cx_L_asks) 162 = .ok (.iload_n 1, 1) := by decide +kernel
theorem d_L_asks_163 : decode (pw_cc cx_L_asks) 163 = .ok (.bipush 9, 2) := by decide +kernel
theorem d_L_asks_165 : decode (pw_cc cx_L_asks) 165 = .ok (.if_icmp .ne 14, 3) := by decide +kernel
theorem d_L_asks_168 : decode (pw_cc cx_L_asks) 168 = .ok (.aload_n 0, 1) := by decide +kernel
theorem d_L_asks_169 : decode (pw_cc cx_L_asks) 169 = .ok (.iload_n 2, 1) := by decide +kernel
theorem d_L_asks_170 : decode (pw_cc cx_L_asks) 170 = .ok (.iload_n 3, 1) := by decide +kernel
theorem d_L_asks_171 : decode (pw_cc cx_L_asks) 171 = .ok (.iload 4, 2) := by decide +kernel
theorem d_L_asks_173 : decode (pw_cc cx_L_asks) 173 = .ok (.invokevirtual 42, 3) := by decide +kernel
theorem d_L_asks_176 : decode (pw_cc cx_L_asks) 176 = .ok (.goto 84, 3) := by decide +kernel
theorem d_L_asks_179 : decode (pw_cc cx_L_asks) 179 = .ok (.iload_n 1, 1) := by decide +kernel
theorem d_L_asks_180 : decode (pw_cc cx_L_asks) 180 = .ok (.bipush 10, 2) := by decide +kernel
theorem d_L_asks_182 : decode (pw_cc cx_L_asks) 182 = .ok (.if_icmp .ne 12, 3) := by decide +kernel
theorem d_L_asks_185 : decode (pw_cc cx_L_asks) 185 = .ok (.aload_n 0, 1) := by decide +kernel
theorem d_L_asks_186 : decode (pw_cc cx_L_asks) 186 = .ok (.iload_n 2, 1) := by decide +kernel
theorem d_L_asks_187 : decode (pw_cc cx_L_asks) 187 = .ok (.iload_n 3, 1) := by decide +kernel
theorem d_L_asks_188 : decode (pw_cc cx_L_asks) 188 = .ok (.invokevirtual 45, 3) := by decide +kernel
theorem d_L_asks_191 : decode (pw_cc cx_L_asks) 191 = .ok (.goto 69, 3) := by decide +kernel
theorem d_L_asks_194 : decode (pw_cc cx_L_asks) 194 = .ok (.iload_n 1, 1) := by decide +kernel
theorem d_L_asks_195 : decode (pw_cc cx_L_asks) 195 = .ok (.bipush 11, 2) := by decide +kernel
theorem d_L_asks_197 : decode (pw_cc cx_L_asks) 197 = .ok (.if_icmp .ne 14, 3) := by decide +kernel
theorem d_L_asks_200 : decode (pw_cc cx_L_asks) 200 = .ok (.aload_n 0, 1) := by decide +kernel
theorem d_L_asks_201 : decode (pw_cc cx_L_asks) 201 = .ok (.iload_n 2, 1) := by decide +kernel
theorem d_L_asks_202 : decode (pw_cc cx_L_asks) 202 = .ok (.iload_n 3, 1) := by decide +kernel
theorem d_L_asks_203 : decode (pw_cc cx_L_asks) 203 = .ok (.iload 4, 2) := by decide +kernel
theorem d_L_asks_205 : decode (pw_cc cx_L_asks) 205 = .ok (.invokevirtual 48, 3) := by decide +kernel
theorem d_L_asks_208 : decode (pw_cc cx_L_asks) 208 = .ok (.goto 52, 3) := by decide +kernel
theorem d_L_asks_211 : decode (pw_cc cx_L_asks) 211 = .ok (.iload_n 1, 1) := by decide +kernel
theorem d_L_asks_212 : decode (pw_cc cx_L_asks) 212 = .ok (.bipush 12, 2) := by decide +kernel
theorem d_L_asks_214 : decode (pw_cc cx_L_asks) 214 = .ok (.if_icmp .ne 12, 3) := by decide +kernel
theorem d_L_asks_217 : decode (pw_cc cx_L_asks) 217 = .ok (.aload_n 0, 1) := by decide +kernel
theorem d_L_asks_218 : decode (pw_cc cx_L_asks) 218 = .ok (.iload_n 2, 1) := by decide +kernel
theorem d_L_asks_219 : decode (pw_cc cx_L_asks) 219 = .ok (.iload_n 3, 1) := by decide +kernel
theorem d_L_asks_220 : decode (pw_cc cx_L_asks) 220 = .ok (.invokevirtual 51, 3) := by decide +kernel
theorem d_L_asks_223 : decode (pw_cc cx_L_asks) 223 = .ok (.goto 37, 3) := by decide +kernel
theorem d_L_asks_226 : decode (pw_cc cx_L_asks) 226 = .ok (.iload_n 1, 1) := by decide +kernel
theorem d_L_asks_227 : decode (pw_cc cx_L_asks) 227 = .ok (.bipush 13, 2) := by decide +kernel
theorem d_L_asks_229 : decode (pw_cc cx_L_asks) 229 = .ok (.if_icmp .ne 12, 3) := by decide +kernel
theorem d_L_asks_232 : decode (pw_cc cx_L_asks) 232 = .ok (.aload_n 0, 1) := by decide +kernel
theorem d_L_asks_233 : decode (pw_cc cx_L_asks) 233 = .ok (.iload_n 2, 1) := by decide +kernel
theorem d_L_asks_234 : decode (pw_cc cx_L_asks) 234 = .ok (.iload_n 3, 1) := by decide +kernel
theorem d_L_asks_235 : decode (pw_cc cx_L_asks) 235 = .ok (.invokevirtual 54, 3) := by decide +kernel
theorem d_L_asks_238 : decode (pw_cc cx_L_asks) 238 = .ok (.goto 22, 3) := by decide +kernel
theorem d_L_asks_241 : decode (pw_cc cx_L_asks) 241 = .ok (.iload_n 1, 1) := by decide +kernel
theorem d_L_asks_242 : decode (pw_cc cx_L_asks) 242 = .ok (.bipush 14, 2) := by decide +kernel
theorem d_L_asks_244 : decode (pw_cc cx_L_asks) 244 = .ok (.if_icmp .ne 11, 3) := by decide +kernel
theorem d_L_asks_247 : decode (pw_cc cx_L_asks) 247 = .ok (.aload_n 0, 1) := by decide +kernel
theorem d_L_asks_248 : decode (pw_cc cx_L_asks) 248 = .ok (.iload_n 2, 1) := by decide +kernel
theorem d_L_asks_249 : decode (pw_cc cx_L_asks) 249 = .ok (.invokevirtual 57, 3) := by decide +kernel
theorem d_L_asks_252 : decode (pw_cc cx_L_asks) 252 = .ok (.goto 8, 3) := by decide +kernel
theorem d_L_asks_255 : decode (pw_cc cx_L_asks) 255 = .ok (.aload_n 0, 1) := by decide +kernel
theorem d_L_asks_256 : decode (pw_cc cx_L_asks) 256 = .ok (.iload_n 2, 1) := by decide +kernel
theorem d_L_asks_257 : decode (pw_cc cx_L_asks) 257 = .ok (.invokevirtual 60, 3) := by decide +kernel
theorem d_L_asks_260 : decode (pw_cc cx_L_asks) 260 = .ok (.ireturn, 1) := by decide +kernel
set_option maxHeartbeats 4000000 in
set_option maxRecDepth 20000 in
def jp_L_asks_107 (Q : pw_W → Int32 → Prop) (X : pw_W → Nat → Prop) (a4 s0 s1 : Int32) (w : pw_W) : Prop := wp_X_evidence w s1 s0 a4 (fun w1 r2 => Q w1 r2) X
set_option maxHeartbeats 4000000 in
set_option maxRecDepth 20000 in
theorem vjp_L_asks_107 {l : Launch} {g : pw_G} {Q : pw_W → Int32 → Prop} {X : pw_W → Nat → Prop} (hl0 : l.stackTraces = false) (a4 s0 s1 : Int32) (w : pw_W) (h : jp_L_asks_107 Q X a4 s0 s1 w) : pw_V l g cx_L_asks Q X 107 [(1, 0), (1, 0), (1, 0), (1, 0), (0, a4), (1, 0)] [(0, s0), (0, s1), (9, 0)] w := by
  unfold jp_L_asks_107 at h
  refine pv_iload (n := 109) d_L_asks_107 rfl rfl ?_
  refine pv_callV (n := 112) (x := 0) [(0, s1), (0, s0), (0, a4)] [] (con_X_evidence hl0 h) pw_cf7 rfl q_419 q_420 q_421 q_62 q_418 pyo_X_evidence (by decide) rfl rfl (by decide) d_L_asks_109 rfl (fun w1 r2 h _ => ?_) (fun _ _ h => pvx_out rfl h)
  show pw_V l g cx_L_asks Q X 112 [(1, 0), (1, 0), (1, 0), (1, 0), (0, a4), (1, 0)] [(0, r2)] w1
  refine pv_goto (tgt := 260) d_L_asks_112 (by decide) ?_
  exact pv_iret rfl rfl d_L_asks_260 h
set_option maxHeartbeats 4000000 in
set_option maxRecDepth 20000 in
def jp_L_asks_80 (Q : pw_W → Int32 → Prop) (X : pw_W → Nat → Prop) (a4 a5 s0 s1 : Int32) (w : pw_W) : Prop := wp_X_file w s1 s0 a4 a5 (fun w3 r4 => Q w3 r4) X
set_option maxHeartbeats 4000000 in
set_option maxRecDepth 20000 in
theorem vjp_L_asks_80 {l : Launch} {g : pw_G} {Q : pw_W → Int32 → Prop} {X : pw_W → Nat → Prop} (hl0 : l.stackTraces = false) (a4 a5 s0 s1 : Int32) (w : pw_W) (h : jp_L_asks_80 Q X a4 a5 s0 s1 w) : pw_V l g cx_L_asks Q X 80 [(1, 0), (1, 0), (1, 0), (1, 0), (0, a4), (0, a5)] [(0, s0), (0, s1), (9, 0)] w := by
  unfold jp_L_asks_80 at h
  refine pv_iload (n := 82) d_L_asks_80 rfl rfl ?_
  refine pv_iload (n := 84) d_L_asks_82 rfl rfl ?_
  refine pv_callV (n := 87) (x := 0) [(0, s1), (0, s0), (0, a4), (0, a5)] [] (con_X_file hl0 h) pw_cf7 rfl q_423 q_424 q_425 q_62 q_422 pyo_X_file (by decide) rfl rfl (by decide) d_L_asks_84 rfl (fun w3 r4 h _ => ?_) (fun _ _ h => pvx_out rfl h)
  show pw_V l g cx_L_asks Q X 87 [(1, 0), (1, 0), (1, 0), (1, 0), (0, a4), (0, a5)] [(0, r4)] w3
  refine pv_goto (tgt := 260) d_L_asks_87 (by decide) ?_
  exact pv_iret rfl rfl d_L_asks_260 h
set_option maxHeartbeats 4000000 in
set_option maxRecDepth 20000 in
def wp_L_asks (w : pw_W) (a1 a2 a3 a4 a5 : Int32) (Q : pw_W → Int32 → Prop) (X : pw_W → Nat → Prop) : Prop := (¬ a1 = 0 → (¬ a1 = 1 → (¬ a1 = 2 → (¬ a1 = 3 → (¬ a1 = 4 → (¬ a1 = 5 → (¬ a1 = 6 → (¬ a1 = 7 → (¬ a1 = 8 → (¬ a1 = 9 → (¬ a1 = 10 → (¬ a1 = 11 → (¬ a1 = 12 → (¬ a1 = 13 → (¬ a1 = 14 → wp_X_pass w a2 (fun w20 r21 => Q w20 r21) X) ∧ (a1 = 14 → wp_X_die w a2 (fun w22 r23 => Q w22 r23) X)) ∧ (a1 = 13 → wp_X_name w a2 a3 (fun w24 r25 => Q w24 r25) X)) ∧ (a1 = 12 → wp_X_burn w a2 a3 (fun w26 r27 => Q w26 r27) X)) ∧ (a1 = 11 → wp_X_cut w a2 a3 a4 (fun w28 r29 => Q w28 r29) X)) ∧ (a1 = 10 → wp_X_dig w a2 a3 (fun w30 r31 => Q w30 r31) X)) ∧ (a1 = 9 → wp_X_graze w a2 a3 a4 (fun w32 r33 => Q w32 r33) X)) ∧ (a1 = 8 → wp_X_register w a2 a3 a4 a5 (fun w34 r35 => Q w34 r35) X)) ∧ (a1 = 7 → wp_X_appeal w a2 (fun w36 r37 => Q w36 r37) X)) ∧ (a1 = 6 → wp_X_decide w a2 (fun w38 r39 => Q w38 r39) X)) ∧ (a1 = 5 → (¬ a3 = 1 → jp_L_asks_107 Q X a4 0 a2 w) ∧ (a3 = 1 → jp_L_asks_107 Q X a4 1 a2 w))) ∧ (a1 = 4 → (¬ a3 = 1 → jp_L_asks_80 Q X a4 a5 0 a2 w) ∧ (a3 = 1 → jp_L_asks_80 Q X a4 a5 1 a2 w))) ∧ (a1 = 3 → wp_X_use w a2 a3 a4 (fun w42 r43 => Q w42 r43) X)) ∧ (a1 = 2 → wp_X_survey w a2 a3 a4 (fun w44 r45 => Q w44 r45) X)) ∧ (a1 = 1 → wp_X_merge w a2 a3 (fun w46 r47 => Q w46 r47) X)) ∧ (a1 = 0 → wp_X_grant w a2 a3 a4 a5 (fun w48 r49 => Q w48 r49) X)
set_option maxHeartbeats 4000000 in
set_option maxRecDepth 20000 in
theorem vw_L_asks {l : Launch} {g : pw_G} {Q : pw_W → Int32 → Prop} {X : pw_W → Nat → Prop} (hl0 : l.stackTraces = false) {w : pw_W} {a1 a2 a3 a4 a5 : Int32} (h : wp_L_asks w a1 a2 a3 a4 a5 Q X) : pw_V l g cx_L_asks Q X 0 [(9, 0), (0, a1), (0, a2), (0, a3), (0, a4), (0, a5)] [] w := by
  unfold wp_L_asks at h
  refine pv_iload_n (n := 1) d_L_asks_0 rfl rfl rfl ?_
  refine pv_if_ne (n := 4) (tgt := 17) d_L_asks_1 (by decide) rfl (fun c5 => ?_) (fun c5 => ?_)
  · replace h := h.1 c5
    refine pv_iload_n (n := 18) d_L_asks_17 rfl rfl rfl ?_
    refine pv_iconst (v := 1) (n := 19) d_L_asks_18 (by decide) rfl ?_
    refine pv_icmp_ne (n := 22) (tgt := 31) d_L_asks_19 (by decide) rfl (fun c6 => ?_) (fun c6 => ?_)
    · replace h := h.1 c6
      refine pv_iload_n (n := 32) d_L_asks_31 rfl rfl rfl ?_
      refine pv_iconst (v := 2) (n := 33) d_L_asks_32 (by decide) rfl ?_
      refine pv_icmp_ne (n := 36) (tgt := 47) d_L_asks_33 (by decide) rfl (fun c7 => ?_) (fun c7 => ?_)
      · replace h := h.1 c7
        refine pv_iload_n (n := 48) d_L_asks_47 rfl rfl rfl ?_
        refine pv_iconst (v := 3) (n := 49) d_L_asks_48 (by decide) rfl ?_
        refine pv_icmp_ne (n := 52) (tgt := 63) d_L_asks_49 (by decide) rfl (fun c8 => ?_) (fun c8 => ?_)
        · replace h := h.1 c8
          refine pv_iload_n (n := 64) d_L_asks_63 rfl rfl rfl ?_
          refine pv_iconst (v := 4) (n := 65) d_L_asks_64 (by decide) rfl ?_
          refine pv_icmp_ne (n := 68) (tgt := 90) d_L_asks_65 (by decide) rfl (fun c9 => ?_) (fun c9 => ?_)
          · replace h := h.1 c9
            refine pv_iload_n (n := 91) d_L_asks_90 rfl rfl rfl ?_
            refine pv_iconst (v := 5) (n := 92) d_L_asks_91 (by decide) rfl ?_
            refine pv_icmp_ne (n := 95) (tgt := 115) d_L_asks_92 (by decide) rfl (fun c10 => ?_) (fun c10 => ?_)
            · replace h := h.1 c10
              refine pv_iload_n (n := 116) d_L_asks_115 rfl rfl rfl ?_
              refine pv_bipush (v := 6) (n := 118) d_L_asks_116 (by decide) rfl ?_
              refine pv_icmp_ne (n := 121) (tgt := 129) d_L_asks_118 (by decide) rfl (fun c11 => ?_) (fun c11 => ?_)
              · replace h := h.1 c11
                refine pv_iload_n (n := 130) d_L_asks_129 rfl rfl rfl ?_
                refine pv_bipush (v := 7) (n := 132) d_L_asks_130 (by decide) rfl ?_
                refine pv_icmp_ne (n := 135) (tgt := 143) d_L_asks_132 (by decide) rfl (fun c12 => ?_) (fun c12 => ?_)
                · replace h := h.1 c12
                  refine pv_iload_n (n := 144) d_L_asks_143 rfl rfl rfl ?_
                  refine pv_bipush (v := 8) (n := 146) d_L_asks_144 (by decide) rfl ?_
                  refine pv_icmp_ne (n := 149) (tgt := 162) d_L_asks_146 (by decide) rfl (fun c13 => ?_) (fun c13 => ?_)
                  · replace h := h.1 c13
                    refine pv_iload_n (n := 163) d_L_asks_162 rfl rfl rfl ?_
                    refine pv_bipush (v := 9) (n := 165) d_L_asks_163 (by decide) rfl ?_
                    refine pv_icmp_ne (n := 168) (tgt := 179) d_L_asks_165 (by decide) rfl (fun c14 => ?_) (fun c14 => ?_)
                    · replace h := h.1 c14
                      refine pv_iload_n (n := 180) d_L_asks_179 rfl rfl rfl ?_
                      refine pv_bipush (v := 10) (n := 182) d_L_asks_180 (by decide) rfl ?_
                      refine pv_icmp_ne (n := 185) (tgt := 194) d_L_asks_182 (by decide) rfl (fun c15 => ?_) (fun c15 => ?_)
                      · replace h := h.1 c15
                        refine pv_iload_n (n := 195) d_L_asks_194 rfl rfl rfl ?_
                        refine pv_bipush (v := 11) (n := 197) d_L_asks_195 (by decide) rfl ?_
                        refine pv_icmp_ne (n := 200) (tgt := 211) d_L_asks_197 (by decide) rfl (fun c16 => ?_) (fun c16 => ?_)
                        · replace h := h.1 c16
                          refine pv_iload_n (n := 212) d_L_asks_211 rfl rfl rfl ?_
                          refine pv_bipush (v := 12) (n := 214) d_L_asks_212 (by decide) rfl ?_
                          refine pv_icmp_ne (n := 217) (tgt := 226) d_L_asks_214 (by decide) rfl (fun c17 => ?_) (fun c17 => ?_)
                          · replace h := h.1 c17
                            refine pv_iload_n (n := 227) d_L_asks_226 rfl rfl rfl ?_
                            refine pv_bipush (v := 13) (n := 229) d_L_asks_227 (by decide) rfl ?_
                            refine pv_icmp_ne (n := 232) (tgt := 241) d_L_asks_229 (by decide) rfl (fun c18 => ?_) (fun c18 => ?_)
                            · replace h := h.1 c18
                              refine pv_iload_n (n := 242) d_L_asks_241 rfl rfl rfl ?_
                              refine pv_bipush (v := 14) (n := 244) d_L_asks_242 (by decide) rfl ?_
                              refine pv_icmp_ne (n := 247) (tgt := 255) d_L_asks_244 (by decide) rfl (fun c19 => ?_) (fun c19 => ?_)
                              · replace h := h.1 c19
                                refine pv_aload_n (n := 256) d_L_asks_255 rfl rfl rfl ?_
                                refine pv_iload_n (n := 257) d_L_asks_256 rfl rfl rfl ?_
                                refine pv_callV (n := 260) (x := 0) [(0, a2)] [] (con_X_pass hl0 h) pw_cf7 rfl q_427 q_428 q_429 q_62 q_426 pyo_X_pass (by decide) rfl rfl (by decide) d_L_asks_257 rfl (fun w20 r21 h _ => ?_) (fun _ _ h => pvx_out rfl h)
                                show pw_V l g cx_L_asks Q X 260 [(9, 0), (0, a1), (0, a2), (0, a3), (0, a4), (0, a5)] [(0, r21)] w20
                                exact pv_iret rfl rfl d_L_asks_260 h
                              · replace h := h.2 c19
                                refine pv_aload_n (n := 248) d_L_asks_247 rfl rfl rfl ?_
                                refine pv_iload_n (n := 249) d_L_asks_248 rfl rfl rfl ?_
                                refine pv_callV (n := 252) (x := 0) [(0, a2)] [] (con_X_die hl0 h) pw_cf7 rfl q_431 q_432 q_433 q_62 q_430 pyo_X_die (by decide) rfl rfl (by decide) d_L_asks_249 rfl (fun w22 r23 h _ => ?_) (fun _ _ h => pvx_out rfl h)
                                show pw_V l g cx_L_asks Q X 252 [(9, 0), (0, a1), (0, a2), (0, a3), (0, a4), (0, a5)] [(0, r23)] w22
                                refine pv_goto (tgt := 260) d_L_asks_252 (by decide) ?_
                                exact pv_iret rfl rfl d_L_asks_260 h
                            · replace h := h.2 c18
                              refine pv_aload_n (n := 233) d_L_asks_232 rfl rfl rfl ?_
                              refine pv_iload_n (n := 234) d_L_asks_233 rfl rfl rfl ?_
                              refine pv_iload_n (n := 235) d_L_asks_234 rfl rfl rfl ?_
                              refine pv_callV (n := 238) (x := 0) [(0, a2), (0, a3)] [] (con_X_name hl0 h) pw_cf7 rfl q_435 q_436 q_437 q_62 q_434 pyo_X_name (by decide) rfl rfl (by decide) d_L_asks_235 rfl (fun w24 r25 h _ => ?_) (fun _ _ h => pvx_out rfl h)
                              show pw_V l g cx_L_asks Q X 238 [(9, 0), (0, a1), (0, a2), (0, a3), (0, a4), (0, a5)] [(0, r25)] w24
                              refine pv_goto (tgt := 260) d_L_asks_238 (by decide) ?_
                              exact pv_iret rfl rfl d_L_asks_260 h
                          · replace h := h.2 c17
                            refine pv_aload_n (n := 218) d_L_asks_217 rfl rfl rfl ?_
                            refine pv_iload_n (n := 219) d_L_asks_218 rfl rfl rfl ?_
                            refine pv_iload_n (n := 220) d_L_asks_219 rfl rfl rfl ?_
                            refine pv_callV (n := 223) (x := 0) [(0, a2), (0, a3)] [] (con_X_burn hl0 h) pw_cf7 rfl q_439 q_440 q_441 q_62 q_438 pyo_X_burn (by decide) rfl rfl (by decide) d_L_asks_220 rfl (fun w26 r27 h _ => ?_) (fun _ _ h => pvx_out rfl h)
                            show pw_V l g cx_L_asks Q X 223 [(9, 0), (0, a1), (0, a2), (0, a3), (0, a4), (0, a5)] [(0, r27)] w26
                            refine pv_goto (tgt := 260) d_L_asks_223 (by decide) ?_
                            exact pv_iret rfl rfl d_L_asks_260 h
                        · replace h := h.2 c16
                          refine pv_aload_n (n := 201) d_L_asks_200 rfl rfl rfl ?_
                          refine pv_iload_n (n := 202) d_L_asks_201 rfl rfl rfl ?_
                          refine pv_iload_n (n := 203) d_L_asks_202 rfl rfl rfl ?_
                          refine pv_iload (n := 205) d_L_asks_203 rfl rfl ?_
                          refine pv_callV (n := 208) (x := 0) [(0, a2), (0, a3), (0, a4)] [] (con_X_cut hl0 h) pw_cf7 rfl q_443 q_444 q_445 q_62 q_442 pyo_X_cut (by decide) rfl rfl (by decide) d_L_asks_205 rfl (fun w28 r29 h _ => ?_) (fun _ _ h => pvx_out rfl h)
                          show pw_V l g cx_L_asks Q X 208 [(9, 0), (0, a1), (0, a2), (0, a3), (0, a4), (0, a5)] [(0, r29)] w28
                          refine pv_goto (tgt := 260) d_L_asks_208 (by decide) ?_
                          exact pv_iret rfl rfl d_L_asks_260 h
                      · replace h := h.2 c15
                        refine pv_aload_n (n := 186) d_L_asks_185 rfl rfl rfl ?_
                        refine pv_iload_n (n := 187) d_L_asks_186 rfl rfl rfl ?_
                        refine pv_iload_n (n := 188) d_L_asks_187 rfl rfl rfl ?_
                        refine pv_callV (n := 191) (x := 0) [(0, a2), (0, a3)] [] (con_X_dig hl0 h) pw_cf7 rfl q_447 q_448 q_449 q_62 q_446 pyo_X_dig (by decide) rfl rfl (by decide) d_L_asks_188 rfl (fun w30 r31 h _ => ?_) (fun _ _ h => pvx_out rfl h)
                        show pw_V l g cx_L_asks Q X 191 [(9, 0), (0, a1), (0, a2), (0, a3), (0, a4), (0, a5)] [(0, r31)] w30
                        refine pv_goto (tgt := 260) d_L_asks_191 (by decide) ?_
                        exact pv_iret rfl rfl d_L_asks_260 h
                    · replace h := h.2 c14
                      refine pv_aload_n (n := 169) d_L_asks_168 rfl rfl rfl ?_
                      refine pv_iload_n (n := 170) d_L_asks_169 rfl rfl rfl ?_
                      refine pv_iload_n (n := 171) d_L_asks_170 rfl rfl rfl ?_
                      refine pv_iload (n := 173) d_L_asks_171 rfl rfl ?_
                      refine pv_callV (n := 176) (x := 0) [(0, a2), (0, a3), (0, a4)] [] (con_X_graze hl0 h) pw_cf7 rfl q_451 q_452 q_453 q_62 q_450 pyo_X_graze (by decide) rfl rfl (by decide) d_L_asks_173 rfl (fun w32 r33 h _ => ?_) (fun _ _ h => pvx_out rfl h)
                      show pw_V l g cx_L_asks Q X 176 [(9, 0), (0, a1), (0, a2), (0, a3), (0, a4), (0, a5)] [(0, r33)] w32
                      refine pv_goto (tgt := 260) d_L_asks_176 (by decide) ?_
                      exact pv_iret rfl rfl d_L_asks_260 h
                  · replace h := h.2 c13
                    refine pv_aload_n (n := 150) d_L_asks_149 rfl rfl rfl ?_
                    refine pv_iload_n (n := 151) d_L_asks_150 rfl rfl rfl ?_
                    refine pv_iload_n (n := 152) d_L_asks_151 rfl rfl rfl ?_
                    refine pv_iload (n := 154) d_L_asks_152 rfl rfl ?_
                    refine pv_iload (n := 156) d_L_asks_154 rfl rfl ?_
                    refine pv_callV (n := 159) (x := 0) [(0, a2), (0, a3), (0, a4), (0, a5)] [] (con_X_register hl0 h) pw_cf7 rfl q_455 q_456 q_457 q_62 q_454 pyo_X_register (by decide) rfl rfl (by decide) d_L_asks_156 rfl (fun w34 r35 h _ => ?_) (fun _ _ h => pvx_out rfl h)
                    show pw_V l g cx_L_asks Q X 159 [(9, 0), (0, a1), (0, a2), (0, a3), (0, a4), (0, a5)] [(0, r35)] w34
                    refine pv_goto (tgt := 260) d_L_asks_159 (by decide) ?_
                    exact pv_iret rfl rfl d_L_asks_260 h
                · replace h := h.2 c12
                  refine pv_aload_n (n := 136) d_L_asks_135 rfl rfl rfl ?_
                  refine pv_iload_n (n := 137) d_L_asks_136 rfl rfl rfl ?_
                  refine pv_callV (n := 140) (x := 0) [(0, a2)] [] (con_X_appeal hl0 h) pw_cf7 rfl q_459 q_460 q_461 q_62 q_458 pyo_X_appeal (by decide) rfl rfl (by decide) d_L_asks_137 rfl (fun w36 r37 h _ => ?_) (fun _ _ h => pvx_out rfl h)
                  show pw_V l g cx_L_asks Q X 140 [(9, 0), (0, a1), (0, a2), (0, a3), (0, a4), (0, a5)] [(0, r37)] w36
                  refine pv_goto (tgt := 260) d_L_asks_140 (by decide) ?_
                  exact pv_iret rfl rfl d_L_asks_260 h
              · replace h := h.2 c11
                refine pv_aload_n (n := 122) d_L_asks_121 rfl rfl rfl ?_
                refine pv_iload_n (n := 123) d_L_asks_122 rfl rfl rfl ?_
                refine pv_callV (n := 126) (x := 0) [(0, a2)] [] (con_X_decide hl0 h) pw_cf7 rfl q_463 q_464 q_465 q_62 q_462 pyo_X_decide (by decide) rfl rfl (by decide) d_L_asks_123 rfl (fun w38 r39 h _ => ?_) (fun _ _ h => pvx_out rfl h)
                show pw_V l g cx_L_asks Q X 126 [(9, 0), (0, a1), (0, a2), (0, a3), (0, a4), (0, a5)] [(0, r39)] w38
                refine pv_goto (tgt := 260) d_L_asks_126 (by decide) ?_
                exact pv_iret rfl rfl d_L_asks_260 h
            · replace h := h.2 c10
              refine pv_aload_n (n := 96) d_L_asks_95 rfl rfl rfl ?_
              refine pv_iload_n (n := 97) d_L_asks_96 rfl rfl rfl ?_
              refine pv_iload_n (n := 98) d_L_asks_97 rfl rfl rfl ?_
              refine pv_iconst (v := 1) (n := 99) d_L_asks_98 (by decide) rfl ?_
              refine pv_icmp_ne (n := 102) (tgt := 106) d_L_asks_99 (by decide) rfl (fun c40 => ?_) (fun c40 => ?_)
              · replace h := h.1 c40
                refine pv_iconst (v := 0) (n := 107) d_L_asks_106 (by decide) rfl ?_
                refine pv_unset (i := 0) (L1 := [(1, 0), (0, a1), (0, a2), (0, a3), (0, a4), (0, a5)]) rfl ?_
                refine pv_unset (i := 1) (L1 := [(1, 0), (1, 0), (0, a2), (0, a3), (0, a4), (0, a5)]) rfl ?_
                refine pv_unset (i := 2) (L1 := [(1, 0), (1, 0), (1, 0), (0, a3), (0, a4), (0, a5)]) rfl ?_
                refine pv_unset (i := 3) (L1 := [(1, 0), (1, 0), (1, 0), (1, 0), (0, a4), (0, a5)]) rfl ?_
                refine pv_unset (i := 5) (L1 := [(1, 0), (1, 0), (1, 0), (1, 0), (0, a4), (1, 0)]) rfl ?_
                exact vjp_L_asks_107 hl0 _ _ _ _ h
              · replace h := h.2 c40
                refine pv_iconst (v := 1) (n := 103) d_L_asks_102 (by decide) rfl ?_
                refine pv_goto (tgt := 107) d_L_asks_103 (by decide) ?_
                refine pv_unset (i := 0) (L1 := [(1, 0), (0, a1), (0, a2), (0, a3), (0, a4), (0, a5)]) rfl ?_
                refine pv_unset (i := 1) (L1 := [(1, 0), (1, 0), (0, a2), (0, a3), (0, a4), (0, a5)]) rfl ?_
                refine pv_unset (i := 2) (L1 := [(1, 0), (1, 0), (1, 0), (0, a3), (0, a4), (0, a5)]) rfl ?_
                refine pv_unset (i := 3) (L1 := [(1, 0), (1, 0), (1, 0), (1, 0), (0, a4), (0, a5)]) rfl ?_
                refine pv_unset (i := 5) (L1 := [(1, 0), (1, 0), (1, 0), (1, 0), (0, a4), (1, 0)]) rfl ?_
                exact vjp_L_asks_107 hl0 _ _ _ _ h
          · replace h := h.2 c9
            refine pv_aload_n (n := 69) d_L_asks_68 rfl rfl rfl ?_
            refine pv_iload_n (n := 70) d_L_asks_69 rfl rfl rfl ?_
            refine pv_iload_n (n := 71) d_L_asks_70 rfl rfl rfl ?_
            refine pv_iconst (v := 1) (n := 72) d_L_asks_71 (by decide) rfl ?_
            refine pv_icmp_ne (n := 75) (tgt := 79) d_L_asks_72 (by decide) rfl (fun c41 => ?_) (fun c41 => ?_)
            · replace h := h.1 c41
              refine pv_iconst (v := 0) (n := 80) d_L_asks_79 (by decide) rfl ?_
              refine pv_unset (i := 0) (L1 := [(1, 0), (0, a1), (0, a2), (0, a3), (0, a4), (0, a5)]) rfl ?_
              refine pv_unset (i := 1) (L1 := [(1, 0), (1, 0), (0, a2), (0, a3), (0, a4), (0, a5)]) rfl ?_
              refine pv_unset (i := 2) (L1 := [(1, 0), (1, 0), (1, 0), (0, a3), (0, a4), (0, a5)]) rfl ?_
              refine pv_unset (i := 3) (L1 := [(1, 0), (1, 0), (1, 0), (1, 0), (0, a4), (0, a5)]) rfl ?_
              exact vjp_L_asks_80 hl0 _ _ _ _ _ h
            · replace h := h.2 c41
              refine pv_iconst (v := 1) (n := 76) d_L_asks_75 (by decide) rfl ?_
              refine pv_goto (tgt := 80) d_L_asks_76 (by decide) ?_
              refine pv_unset (i := 0) (L1 := [(1, 0), (0, a1), (0, a2), (0, a3), (0, a4), (0, a5)]) rfl ?_
              refine pv_unset (i := 1) (L1 := [(1, 0), (1, 0), (0, a2), (0, a3), (0, a4), (0, a5)]) rfl ?_
              refine pv_unset (i := 2) (L1 := [(1, 0), (1, 0), (1, 0), (0, a3), (0, a4), (0, a5)]) rfl ?_
              refine pv_unset (i := 3) (L1 := [(1, 0), (1, 0), (1, 0), (1, 0), (0, a4), (0, a5)]) rfl ?_
              exact vjp_L_asks_80 hl0 _ _ _ _ _ h
        · replace h := h.2 c8
          refine pv_aload_n (n := 53) d_L_asks_52 rfl rfl rfl ?_
          refine pv_iload_n (n := 54) d_L_asks_53 rfl rfl rfl ?_
          refine pv_iload_n (n := 55) d_L_asks_54 rfl rfl rfl ?_
          refine pv_iload (n := 57) d_L_asks_55 rfl rfl ?_
          refine pv_callV (n := 60) (x := 0) [(0, a2), (0, a3), (0, a4)] [] (con_X_use hl0 h) pw_cf7 rfl q_467 q_468 q_469 q_62 q_466 pyo_X_use (by decide) rfl rfl (by decide) d_L_asks_57 rfl (fun w42 r43 h _ => ?_) (fun _ _ h => pvx_out rfl h)
          show pw_V l g cx_L_asks Q X 60 [(9, 0), (0, a1), (0, a2), (0, a3), (0, a4), (0, a5)] [(0, r43)] w42
          refine pv_goto (tgt := 260) d_L_asks_60 (by decide) ?_
          exact pv_iret rfl rfl d_L_asks_260 h
      · replace h := h.2 c7
        refine pv_aload_n (n := 37) d_L_asks_36 rfl rfl rfl ?_
        refine pv_iload_n (n := 38) d_L_asks_37 rfl rfl rfl ?_
        refine pv_iload_n (n := 39) d_L_asks_38 rfl rfl rfl ?_
        refine pv_iload (n := 41) d_L_asks_39 rfl rfl ?_
        refine pv_callV (n := 44) (x := 0) [(0, a2), (0, a3), (0, a4)] [] (con_X_survey hl0 h) pw_cf7 rfl q_471 q_472 q_473 q_62 q_470 pyo_X_survey (by decide) rfl rfl (by decide) d_L_asks_41 rfl (fun w44 r45 h _ => ?_) (fun _ _ h => pvx_out rfl h)
        show pw_V l g cx_L_asks Q X 44 [(9, 0), (0, a1), (0, a2), (0, a3), (0, a4), (0, a5)] [(0, r45)] w44
        refine pv_goto (tgt := 260) d_L_asks_44 (by decide) ?_
        exact pv_iret rfl rfl d_L_asks_260 h
    · replace h := h.2 c6
      refine pv_aload_n (n := 23) d_L_asks_22 rfl rfl rfl ?_
      refine pv_iload_n (n := 24) d_L_asks_23 rfl rfl rfl ?_
      refine pv_iload_n (n := 25) d_L_asks_24 rfl rfl rfl ?_
      refine pv_callV (n := 28) (x := 0) [(0, a2), (0, a3)] [] (con_X_merge hl0 h) pw_cf7 rfl q_475 q_476 q_477 q_62 q_474 pyo_X_merge (by decide) rfl rfl (by decide) d_L_asks_25 rfl (fun w46 r47 h _ => ?_) (fun _ _ h => pvx_out rfl h)
      show pw_V l g cx_L_asks Q X 28 [(9, 0), (0, a1), (0, a2), (0, a3), (0, a4), (0, a5)] [(0, r47)] w46
      refine pv_goto (tgt := 260) d_L_asks_28 (by decide) ?_
      exact pv_iret rfl rfl d_L_asks_260 h
  · replace h := h.2 c5
    refine pv_aload_n (n := 5) d_L_asks_4 rfl rfl rfl ?_
    refine pv_iload_n (n := 6) d_L_asks_5 rfl rfl rfl ?_
    refine pv_iload_n (n := 7) d_L_asks_6 rfl rfl rfl ?_
    refine pv_iload (n := 9) d_L_asks_7 rfl rfl ?_
    refine pv_iload (n := 11) d_L_asks_9 rfl rfl ?_
    refine pv_callV (n := 14) (x := 0) [(0, a2), (0, a3), (0, a4), (0, a5)] [] (con_X_grant hl0 h) pw_cf7 rfl q_479 q_480 q_481 q_62 q_478 pyo_X_grant (by decide) rfl rfl (by decide) d_L_asks_11 rfl (fun w48 r49 h _ => ?_) (fun _ _ h => pvx_out rfl h)
    show pw_V l g cx_L_asks Q X 14 [(9, 0), (0, a1), (0, a2), (0, a3), (0, a4), (0, a5)] [(0, r49)] w48
    refine pv_goto (tgt := 260) d_L_asks_14 (by decide) ?_
    exact pv_iret rfl rfl d_L_asks_260 h
set_option maxHeartbeats 4000000 in
set_option maxRecDepth 20000 in
theorem con_L_asks {l : Launch} {g : pw_G} {Q : pw_W → Int32 → Prop} {X : pw_W → Nat → Prop} (hl0 : l.stackTraces = false) {w : pw_W} {a1 a2 a3 a4 a5 : Int32} (h : wp_L_asks w a1 a2 a3 a4 a5 Q X) : pw_Con l g y_L_asks cx_L_asks [(9, 0), (0, a1), (0, a2), (0, a3), (0, a4), (0, a5)] w Q X :=
  pw_con (by decide +kernel) rfl rfl hl0 rfl (Nat.le_of_ble_eq_true rfl) (by simp) (vw_L_asks hl0 h)
theorem d_L_on_0 : decode (pw_cc cx_L_on) 0 = .ok (.aload_n 0, 1) := by decide +kernel
theorem d_L_on_1 : decode (pw_cc cx_L_on) 1 = .ok (.iload_n 1, 1) := by decide +kernel
theorem d_L_on_2 : decode (pw_cc cx_L_on) 2 = .ok (.iload_n 2, 1) := by decide +kernel
theorem d_L_on_3 : decode (pw_cc cx_L_on) 3 = .ok (.iload_n 3, 1) := by decide +kernel
theorem d_L_on_4 : decode (pw_cc cx_L_on) 4 = .ok (.iload 4, 2) := by decide +kernel
theorem d_L_on_6 : decode (pw_cc cx_L_on) 6 = .ok (.iload 5, 2) := by decide +kernel
theorem d_L_on_8 : decode (pw_cc cx_L_on) 8 = .ok (.invokestatic 63, 3) := by decide +kernel
theorem d_L_on_11 : decode (pw_cc cx_L_on) 11 = .ok (.ireturn, 1) := by decide +kernel
theorem d_L_on_12 : decode (pw_cc cx_L_on) 12 = .ok (.astore 6, 2) := by decide +kernel
theorem d_L_on_14 : decode (pw_cc cx_L_on) 14 = .ok (.bipush (-11), 2) := by decide +kernel
theorem d_L_on_16 : decode (pw_cc cx_L_on) 16 = .ok (.ireturn, 1) := by decide +kernel
theorem d_L_on_17 : decode (pw_cc cx_L_on) 17 = .ok (.astore 6, 2) := by decide +kernel
theorem d_L_on_19 : decode (pw_cc cx_L_on) 19 = .ok (.bipush (-12), 2) := by decide +kernel
theorem d_L_on_21 : decode (pw_cc cx_L_on) 21 = .ok (.ireturn, 1) := by decide +kernel
theorem d_L_on_22 : decode (pw_cc cx_L_on) 22 = .ok (.astore 6, 2) := by decide +kernel
theorem d_L_on_24 : decode (pw_cc cx_L_on) 24 = .ok (.bipush (-13), 2) := by decide +kernel
theorem d_L_on_26 : decode (pw_cc cx_L_on) 26 = .ok (.ireturn, 1) := by decide +kernel
set_option maxHeartbeats 4000000 in
set_option maxRecDepth 20000 in
def wp_L_on (w : pw_W) (a1 a2 a3 a4 a5 : Int32) (Q : pw_W → Int32 → Prop) (X : pw_W → Nat → Prop) : Prop := wp_L_asks w a1 a2 a3 a4 a5 (fun w1 r2 => Q w1 r2) (fun wx kx => kx = 1 ∧ Q wx (-11) ∨ kx = 2 ∧ Q wx (-12) ∨ kx = 3 ∧ Q wx (-13))
set_option maxHeartbeats 4000000 in
set_option maxRecDepth 20000 in
theorem vw_L_on {l : Launch} {g : pw_G} {Q : pw_W → Int32 → Prop} {X : pw_W → Nat → Prop} (hl0 : l.stackTraces = false) {w : pw_W} {a1 a2 a3 a4 a5 : Int32} (h : wp_L_on w a1 a2 a3 a4 a5 Q X) : pw_V l g cx_L_on Q X 0 [(9, 0), (0, a1), (0, a2), (0, a3), (0, a4), (0, a5), (1, 0)] [] w := by
  unfold wp_L_on at h
  refine pv_aload_n (n := 1) d_L_on_0 rfl rfl rfl ?_
  refine pv_iload_n (n := 2) d_L_on_1 rfl rfl rfl ?_
  refine pv_iload_n (n := 3) d_L_on_2 rfl rfl rfl ?_
  refine pv_iload_n (n := 4) d_L_on_3 rfl rfl rfl ?_
  refine pv_iload (n := 6) d_L_on_4 rfl rfl ?_
  refine pv_iload (n := 8) d_L_on_6 rfl rfl ?_
  refine pv_callS (n := 11) [(9, 0), (0, a1), (0, a2), (0, a3), (0, a4), (0, a5)] [] (con_L_asks hl0 h) q_484 q_485 q_483 q_482 pyo_L_asks (by decide) rfl rfl d_L_on_8 rfl (fun w1 r2 h _ => ?_) (fun wx kx h => ?_)
  · show pw_V l g cx_L_on Q X 11 [(9, 0), (0, a1), (0, a2), (0, a3), (0, a4), (0, a5), (1, 0)] [(0, r2)] w1
    exact pv_iret rfl rfl d_L_on_11 h
  · rcases h with ⟨rfl, h⟩ | ⟨rfl, h⟩ | ⟨rfl, h⟩
    · refine pvx_catch (jf := 6) (i := 12) (n := 14) [] ⟨0, 11, 12, 69⟩ [⟨0, 11, 17, 71⟩, ⟨0, 11, 22, 73⟩] (L1 := [(9, 0), (0, a1), (0, a2), (0, a3), (0, a4), (0, a5), (1, 0)]) rfl (pw_hp0) (by decide) (by decide) q_487 q_486 rfl d_L_on_12 (by decide) rfl rfl ?_
      refine pv_bipush (v := -11) (n := 16) d_L_on_14 (by decide) rfl ?_
      exact pv_iret rfl rfl d_L_on_16 h
    · refine pvx_catch (jf := 6) (i := 17) (n := 19) [⟨0, 11, 12, 69⟩] ⟨0, 11, 17, 71⟩ [⟨0, 11, 22, 73⟩] (L1 := [(9, 0), (0, a1), (0, a2), (0, a3), (0, a4), (0, a5), (1, 0)]) rfl (pw_hp1 ⟨by decide, 1, q_487, by decide⟩) (by decide) (by decide) q_489 q_488 rfl d_L_on_17 (by decide) rfl rfl ?_
      refine pv_bipush (v := -12) (n := 21) d_L_on_19 (by decide) rfl ?_
      exact pv_iret rfl rfl d_L_on_21 h
    · refine pvx_catch (jf := 6) (i := 22) (n := 24) [⟨0, 11, 12, 69⟩, ⟨0, 11, 17, 71⟩] ⟨0, 11, 22, 73⟩ [] (L1 := [(9, 0), (0, a1), (0, a2), (0, a3), (0, a4), (0, a5), (1, 0)]) rfl (pw_hp2 ⟨by decide, 1, q_487, by decide⟩ ⟨by decide, 2, q_489, by decide⟩) (by decide) (by decide) q_491 q_490 rfl d_L_on_22 (by decide) rfl rfl ?_
      refine pv_bipush (v := -13) (n := 26) d_L_on_24 (by decide) rfl ?_
      exact pv_iret rfl rfl d_L_on_26 h
set_option maxHeartbeats 4000000 in
set_option maxRecDepth 20000 in
theorem con_L_on {l : Launch} {g : pw_G} {Q : pw_W → Int32 → Prop} {X : pw_W → Nat → Prop} (hl0 : l.stackTraces = false) {w : pw_W} {a1 a2 a3 a4 a5 : Int32} (h : wp_L_on w a1 a2 a3 a4 a5 Q X) : pw_ConH l g y_L_on cx_L_on [(9, 0), (0, a1), (0, a2), (0, a3), (0, a4), (0, a5)] w Q X :=
  pw_conH (by decide +kernel) rfl rfl hl0 (Nat.le_of_ble_eq_true rfl) (by simp) (vw_L_on hl0 h)
theorem d_L_isWhole_0 : decode (pw_cc cx_L_isWhole) 0 = .ok (.bipush 40, 2) := by decide +kernel
theorem d_L_isWhole_2 : decode (pw_cc cx_L_isWhole) 2 = .ok (.newarray .int, 2) := by decide +kernel
theorem d_L_isWhole_4 : decode (pw_cc cx_L_isWhole) 4 = .ok (.astore_n 1, 1) := by decide +kernel
theorem d_L_isWhole_5 : decode (pw_cc cx_L_isWhole) 5 = .ok (.iconst 0, 1) := by decide +kernel
theorem d_L_isWhole_6 : decode (pw_cc cx_L_isWhole) 6 = .ok (.istore_n 2, 1) := by decide +kernel
theorem d_L_isWhole_7 : decode (pw_cc cx_L_isWhole) 7 = .ok (.iconst 1, 1) := by decide +kernel
theorem d_L_isWhole_8 : decode (pw_cc cx_L_isWhole) 8 = .ok (.istore_n 3, 1) := by decide +kernel
theorem d_L_isWhole_9 : decode (pw_cc cx_L_isWhole) 9 = .ok (.iconst 0, 1) := by decide +kernel
theorem d_L_isWhole_10 : decode (pw_cc cx_L_isWhole) 10 = .ok (.istore 4, 2) := by decide +kernel
theorem d_L_isWhole_12 : decode (pw_cc cx_L_isWhole) 12 = .ok (.iload 4, 2) := by decide +kernel
theorem d_L_isWhole_14 : decode (pw_cc cx_L_isWhole) 14 = .ok (.bipush 100, 2) := by decide +kernel
theorem d_L_isWhole_16 : decode (pw_cc cx_L_isWhole) 16 = .ok (.if_icmp .ge 149, 3) := by decide +kernel
theorem d_L_isWhole_19 : decode (pw_cc cx_L_isWhole) 19 = .ok (.iload_n 3, 1) := by decide +kernel
theorem d_L_isWhole_20 : decode (pw_cc cx_L_isWhole) 20 = .ok (.ifCond .eq 145, 3) := by decide +kernel
theorem d_L_isWhole_23 : decode (pw_cc cx_L_isWhole) 23 = .ok (.aload_n 0, 1) := by decide +kernel
theorem d_L_isWhole_24 : decode (pw_cc cx_L_isWhole) 24 = .ok (.iload 4, 2) := by decide +kernel
theorem d_L_isWhole_26 : decode (pw_cc cx_L_isWhole) 26 = .ok (.invokevirtual 75, 3) := by decide +kernel
theorem d_L_isWhole_29 : decode (pw_cc cx_L_isWhole) 29 = .ok (.istore 5, 2) := by decide +kernel
theorem d_L_isWhole_31 : decode (pw_cc cx_L_isWhole) 31 = .ok (.iload 5, 2) := by decide +kernel
theorem d_L_isWhole_33 : decode (pw_cc cx_L_isWhole) 33 = .ok (.ifCond .lt 28, 3) := by decide +kernel
theorem d_L_isWhole_36 : decode (pw_cc cx_L_isWhole) 36 = .ok (.iload 5, 2) := by decide +kernel
theorem d_L_isWhole_38 : decode (pw_cc cx_L_isWhole) 38 = .ok (.aload_n 0, 1) := by decide +kernel
theorem d_L_isWhole_39 : decode (pw_cc cx_L_isWhole) 39 = .ok (.invokevirtual 78, 3) := by decide +kernel
theorem d_L_isWhole_42 : decode (pw_cc cx_L_isWhole) 42 = .ok (.if_icmp .ge 19, 3) := by decide +kernel
theorem d_L_isWhole_45 : decode (pw_cc cx_L_isWhole) 45 = .ok (.aload_n 0, 1) := by decide +kernel
theorem d_L_isWhole_46 : decode (pw_cc cx_L_isWhole) 46 = .ok (.iload 4, 2) := by decide +kernel
theorem d_L_isWhole_48 : decode (pw_cc cx_L_isWhole) 48 = .ok (.iconst 0, 1) := by decide +kernel
theorem d_L_isWhole_49 : decode (pw_cc cx_L_isWhole) 49 = .ok (.invokevirtual 82, 3) := by decide +kernel
theorem d_L_isWhole_52 : decode (pw_cc cx_L_isWhole) 52 = .ok (.iload 5, 2) := by decide +kernel
theorem d_L_isWhole_54 : decode (pw_cc cx_L_isWhole) 54 = .ok (.if_icmp .ne 7, 3) := by decide +kernel
theorem d_L_isWhole_57 : decode (pw_cc cx_L_isWhole) 57 = .ok (.iconst 1, 1) := by decide +kernel
theorem d_L_isWhole_58 : decode (pw_cc cx_L_isWhole) 58 = .ok (.goto 4, 3) := by decide +kernel
theorem d_L_isWhole_61 : decode (pw_cc cx_L_isWhole) 61 = .ok (.iconst 0, 1) := by decide +kernel
theorem d_L_isWhole_62 : decode (pw_cc cx_L_isWhole) 62 = .ok (.istore_n 3, 1) := by decide +kernel
theorem d_L_isWhole_63 : decode (pw_cc cx_L_isWhole) 63 = .ok (.aload_n 1, 1) := by decide +kernel
theorem d_L_isWhole_64 : decode (pw_cc cx_L_isWhole) 64 = .ok (.iload_n 3, 1) := by decide +kernel
theorem d_L_isWhole_65 : decode (pw_cc cx_L_isWhole) 65 = .ok (.ifCond .eq 8, 3) := by decide +kernel
theorem d_L_isWhole_68 : decode (pw_cc cx_L_isWhole) 68 = .ok (.iload 5, 2) := by decide +kernel
theorem d_L_isWhole_70 : decode (pw_cc cx_L_isWhole) 70 = .ok (.goto 4, 3) := by decide +kernel
theorem d_L_isWhole_73 : decode (pw_cc cx_L_isWhole) 73 = .ok (.iconst 0, 1) := by decide +kernel
theorem d_L_isWhole_74 : decode (pw_cc cx_L_isWhole) 74 = .ok (.dup2, 1) := by decide +kernel
theorem d_L_isWhole_75 : decode (pw_cc cx_L_isWhole) 75 = .ok (.iaload, 1) := by decide +kernel
theorem d_L_isWhole_76 : decode (pw_cc cx_L_isWhole) 76 = .ok (.iconst 1, 1) := by decide +kernel
theorem d_L_isWhole_77 : decode (pw_cc cx_L_isWhole) 77 = .ok (.iadd, 1) := by decide +kernel
theorem d_L_isWhole_78 : decode (pw_cc cx_L_isWhole) 78 = .ok (.iastore, 1) := by decide +kernel
theorem d_L_isWhole_79 : decode (pw_cc cx_L_isWhole) 79 = .ok (.aload_n 0, 1) := by decide +kernel
theorem d_L_isWhole_80 : decode (pw_cc cx_L_isWhole) 80 = .ok (.iload 4, 2) := by decide +kernel
theorem d_L_isWhole_82 : decode (pw_cc cx_L_isWhole) 82 = .ok (.iconst 1, 1) := by decide +kernel
theorem d_L_isWhole_83 : decode (pw_cc cx_L_isWhole) 83 = .ok (.invokevirtual 85, 3) := by decide +kernel
theorem d_L_isWhole_86 : decode (pw_cc cx_L_isWhole) 86 = .ok (.istore 6, 2) := by decide +kernel
theorem d_L_isWhole_88 : decode (pw_cc cx_L_isWhole) 88 = .ok (.aload_n 0, 1) := by decide +kernel
theorem d_L_isWhole_89 : decode (pw_cc cx_L_isWhole) 89 = .ok (.iload 4, 2) := by decide +kernel
theorem d_L_isWhole_91 : decode (pw_cc cx_L_isWhole) 91 = .ok (.iconst 0, 1) := by decide +kernel
theorem d_L_isWhole_92 : decode (pw_cc cx_L_isWhole) 92 = .ok (.invokevirtual 85, 3) := by decide +kernel
theorem d_L_isWhole_95 : decode (pw_cc cx_L_isWhole) 95 = .ok (.istore 7, 2) := by decide +kernel
theorem d_L_isWhole_97 : decode (pw_cc cx_L_isWhole) 97 = .ok (.iload_n 2, 1) := by decide +kernel
theorem d_L_isWhole_98 : decode (pw_cc cx_L_isWhole) 98 = .ok (.iload 6, 2) := by decide +kernel
theorem d_L_isWhole_100 : decode (pw_cc cx_L_isWhole) 100 = .ok (.iadd, 1) := by decide +kernel
theorem d_L_isWhole_101 : decode (pw_cc cx_L_isWhole) 101 = .ok (.istore_n 2, 1) := by decide +kernel
theorem d_L_isWhole_102 : decode (pw_cc cx_L_isWhole) 102 = .ok (.iload_n 3, 1) := by decide +kernel
theorem d_L_isWhole_103 : decode (pw_cc cx_L_isWhole) 103 = .ok (.ifCond .eq 54, 3) := by decide +kernel
theorem d_L_isWhole_106 : decode (pw_cc cx_L_isWhole) 106 = .ok (.iload 6, 2) := by decide +kernel
theorem d_L_isWhole_108 : decode (pw_cc cx_L_isWhole) 108 = .ok (.ifCond .lt 49, 3) := by decide +kernel
theorem d_L_isWhole_111 : decode (pw_cc cx_L_isWhole) 111 = .ok (.iload 6, 2) := by decide +kernel
theorem d_L_isWhole_113 : decode (pw_cc cx_L_isWhole) 113 = .ok (.bipush 100, 2) := by decide +kernel
theorem d_L_isWhole_115 : decode (pw_cc cx_L_isWhole) 115 = .ok (.if_icmp .gt 42, 3) := by decide +kernel
theorem d_L_isWhole_118 : decode (pw_cc cx_L_isWhole) 118 = .ok (.iload 7, 2) := by decide +kernel
theorem d_L_isWhole_120 : decode (pw_cc cx_L_isWhole) 120 = .ok (.ifCond .lt 37, 3) := by decide +kernel
theorem d_L_isWhole_123 : decode (pw_cc cx_L_isWhole) 123 = .ok (.iload 7, 2) := by decide +kernel
theorem d_L_isWhole_125 : decode (pw_cc cx_L_isWhole) 125 = .ok (.sipush 200, 3) := by decide +kernel
theorem d_L_isWhole_128 : decode (pw_cc cx_L_isWhole) 128 = .ok (.if_icmp .gt 29, 3) := by decide +kernel
theorem d_L_isWhole_131 : decode (pw_cc cx_L_isWhole) 131 = .ok (.aload_n 0, 1) := by decide +kernel
theorem d_L_isWhole_132 : decode (pw_cc cx_L_isWhole) 132 = .ok (.iload 4, 2) := by decide +kernel
theorem d_L_isWhole_134 : decode (pw_cc cx_L_isWhole) 134 = .ok (.iconst 2, 1) := by decide +kernel
theorem d_L_isWhole_135 : decode (pw_cc cx_L_isWhole) 135 = .ok (.invokevirtual 85, 3) := by decide +kernel
theorem d_L_isWhole_138 : decode (pw_cc cx_L_isWhole) 138 = .ok (.ifCond .lt 19, 3) := by decide +kernel
theorem d_L_isWhole_141 : decode (pw_cc cx_L_isWhole) 141 = .ok (.aload_n 0, 1) := by decide +kernel
theorem d_L_isWhole_142 : decode (pw_cc cx_L_isWhole) 142 = .ok (.iload 4, 2) := by decide +kernel
theorem d_L_isWhole_144 : decode (pw_cc cx_L_isWhole) 144 = .ok (.iconst 2, 1) := by decide +kernel
theorem d_L_isWhole_145 : decode (pw_cc cx_L_isWhole) 145 = .ok (.invokevirtual 85, 3) := by decide +kernel
theorem d_L_isWhole_148 : decode (pw_cc cx_L_isWhole) 148 = .ok (.bipush 10, 2) := by decide +kernel
theorem d_L_isWhole_150 : decode (pw_cc cx_L_isWhole) 150 = .ok (.if_icmp .ge 7, 3) := by decide +kernel
theorem d_L_isWhole_153 : decode (pw_cc cx_L_isWhole) 153 = .ok (.iconst 1, 1) := by decide +kernel
theorem d_L_isWhole_154 : decode (pw_cc cx_L_isWhole) 154 = .ok (.goto 4, 3) := by decide +kernel
theorem d_L_isWhole_157 : decode (pw_cc cx_L_isWhole) 157 = .ok (.iconst 0, 1) := by decide +kernel
theorem d_L_isWhole_158 : decode (pw_cc cx_L_isWhole) 158 = .ok (.istore_n 3, 1) := by decide +kernel
theorem d_L_isWhole_159 : decode (pw_cc cx_L_isWhole) 159 = .ok (.iinc 4 1, 3) := by decide +kernel
theorem d_L_isWhole_162 : decode (pw_cc cx_L_isWhole) 162 = .ok (.goto (-150), 3) := by decide +kernel
theorem d_L_isWhole_165 : decode (pw_cc cx_L_isWhole) 165 = .ok (.iconst 0, 1) := by decide +kernel
theorem d_L_isWhole_166 : decode (pw_cc cx_L_isWhole) 166 = .ok (.istore 4, 2) := by decide +kernel
theorem d_L_isWhole_168 : decode (pw_cc cx_L_isWhole) 168 = .ok (.iload 4, 2) := by decide +kernel
theorem d_L_isWhole_170 : decode (pw_cc cx_L_isWhole) 170 = .ok (.aload_n 0, 1) := by decide +kernel
theorem d_L_isWhole_171 : decode (pw_cc cx_L_isWhole) 171 = .ok (.invokevirtual 78, 3) := by decide +kernel
theorem d_L_isWhole_174 : decode (pw_cc cx_L_isWhole) 174 = .ok (.if_icmp .ge 39, 3) := by decide +kernel
theorem d_L_isWhole_177 : decode (pw_cc cx_L_isWhole) 177 = .ok (.iload_n 3, 1) := by decide +kernel
theorem d_L_isWhole_178 : decode (pw_cc cx_L_isWhole) 178 = .ok (.ifCond .eq 35, 3) := by decide +kernel
theorem d_L_isWhole_181 : decode (pw_cc cx_L_isWhole) 181 = .ok (.aload_n 0, 1) := by decide +kernel
theorem d_L_isWhole_182 : decode (pw_cc cx_L_isWhole) 182 = .ok (.iload 4, 2) := by decide +kernel
theorem d_L_isWhole_184 : decode (pw_cc cx_L_isWhole) 184 = .ok (.invokevirtual 88, 3) := by decide +kernel
theorem d_L_isWhole_187 : decode (pw_cc cx_L_isWhole) 187 = .ok (.aload_n 1, 1) := by decide +kernel
theorem d_L_isWhole_188 : decode (pw_cc cx_L_isWhole) 188 = .ok (.iload 4, 2) := by decide +kernel
theorem d_L_isWhole_190 : decode (pw_cc cx_L_isWhole) 190 = .ok (.iaload, 1) := by decide +kernel
theorem d_L_isWhole_191 : decode (pw_cc cx_L_isWhole) 191 = .ok (.if_icmp .eq 10, 3) := by decide +kernel
theorem d_L_isWhole_194 : decode (pw_cc cx_L_isWhole) 194 = .ok (.aload_n 1, 1) := by decide +kernel
theorem d_L_isWhole_195 : decode (pw_cc cx_L_isWhole) 195 = .ok (.iload 4, 2) := by decide +kernel
theorem d_L_isWhole_197 : decode (pw_cc cx_L_isWhole) 197 = .ok (.iaload, 1) := by decide +kernel
theorem d_L_isWhole_198 : decode (pw_cc cx_L_isWhole) 198 = .ok (.ifCond .ne 7, 3) := by decide +kernel
theorem d_L_isWhole_201 : decode (pw_cc cx_L_isWhole) 201 = .ok (.iconst 1, 1) := by decide +kernel
theorem d_L_isWhole_202 : decode (pw_cc cx_L_isWhole) 202 = .ok (.goto 4, 3) := by decide +kernel
theorem d_L_isWhole_205 : decode (pw_cc cx_L_isWhole) 205 = .ok (.iconst 0, 1) := by decide +kernel
theorem d_L_isWhole_206 : decode (pw_cc cx_L_isWhole) 206 = .ok (.istore_n 3, 1) := by decide +kernel
theorem d_L_isWhole_207 : decode (pw_cc cx_L_isWhole) 207 = .ok (.iinc 4 1, 3) := by decide +kernel
theorem d_L_isWhole_210 : decode (pw_cc cx_L_isWhole) 210 = .ok (.goto (-42), 3) := by decide +kernel
theorem d_L_isWhole_213 : decode (pw_cc cx_L_isWhole) 213 = .ok (.iload_n 3, 1) := by decide +kernel
theorem d_L_isWhole_214 : decode (pw_cc cx_L_isWhole) 214 = .ok (.ifCond .eq 41, 3) := by decide +kernel
theorem d_L_isWhole_217 : decode (pw_cc cx_L_isWhole) 217 = .ok (.aload_n 0, 1) := by decide +kernel
theorem d_L_isWhole_218 : decode (pw_cc cx_L_isWhole) 218 = .ok (.iconst 0, 1) := by decide +kernel
theorem d_L_isWhole_219 : decode (pw_cc cx_L_isWhole) 219 = .ok (.invokevirtual 91, 3) := by decide +kernel
theorem d_L_isWhole_222 : decode (pw_cc cx_L_isWhole) 222 = .ok (.iload_n 2, 1) := by decide +kernel
theorem d_L_isWhole_223 : decode (pw_cc cx_L_isWhole) 223 = .ok (.if_icmp .ne 32, 3) := by decide +kernel
theorem d_L_isWhole_226 : decode (pw_cc cx_L_isWhole) 226 = .ok (.iload_n 2, 1) := by decide +kernel
theorem d_L_isWhole_227 : decode (pw_cc cx_L_isWhole) 227 = .ok (.sipush 4000, 3) := by decide +kernel
theorem d_L_isWhole_230 : decode (pw_cc cx_L_isWhole) 230 = .ok (.aload_n 0, 1) := by decide +kernel
theorem d_L_isWhole_231 : decode (pw_cc cx_L_isWhole) 231 = .ok (.iconst 1, 1) := by decide +kernel
theorem d_L_isWhole_232 : decode (pw_cc cx_L_isWhole) 232 = .ok (.invokevirtual 91, 3) := by decide +kernel
theorem d_L_isWhole_235 : decode (pw_cc cx_L_isWhole) 235 = .ok (.iadd, 1) := by decide +kernel
theorem d_L_isWhole_236 : decode (pw_cc cx_L_isWhole) 236 = .ok (.aload_n 0, 1) := by decide +kernel
theorem d_L_isWhole_237 : decode (pw_cc cx_L_isWhole) 237 = .ok (.iconst 2, 1) := by decide +kernel
theorem d_L_isWhole_238 : decode (pw_cc cx_L_isWhole) 238 = .ok (.invokevirtual 91, 3) := by decide +kernel
theorem d_L_isWhole_241 : decode (pw_cc cx_L_isWhole) 241 = .ok (.isub, 1) := by decide +kernel
theorem d_L_isWhole_242 : decode (pw_cc cx_L_isWhole) 242 = .ok (.aload_n 0, 1) := by decide +kernel
theorem d_L_isWhole_243 : decode (pw_cc cx_L_isWhole) 243 = .ok (.iconst 3, 1) := by decide +kernel
theorem d_L_isWhole_244 : decode (pw_cc cx_L_isWhole) 244 = .ok (.invokevirtual 91, 3) := by decide +kernel
theorem d_L_isWhole_247 : decode (pw_cc cx_L_isWhole) 247 = .ok (.isub, 1) := by decide +kernel
theorem d_L_isWhole_248 : decode (pw_cc cx_L_isWhole) 248 = .ok (.if_icmp .ne 7, 3) := by decide +kernel
theorem d_L_isWhole_251 : decode (pw_cc cx_L_isWhole) 251 = .ok (.iconst 1, 1) := by decide +kernel
theorem d_L_isWhole_252 : decode (pw_cc cx_L_isWhole) 252 = .ok (.goto 4, 3) := by decide +kernel
theorem d_L_isWhole_255 : decode (pw_cc cx_L_isWhole) 255 = .ok (.iconst 0, 1) := by decide +kernel
theorem d_L_isWhole_256 : decode (pw_cc cx_L_isWhole) 256 = .ok (.ireturn, 1) := by decide +kernel
set_option maxHeartbeats 4000000 in
set_option maxRecDepth 20000 in
def jp_L_isWhole_213 (Q : pw_W → Int32 → Prop) (X : pw_W → Nat → Prop) (a2 a3 : Int32) (w : pw_W) : Prop := (a3 = 0 → Q w 0) ∧ (¬ a3 = 0 → wp_X_water w 0 (fun w2 r3 => (¬ r3 = a2 → Q w2 0) ∧ (r3 = a2 → wp_X_water w2 1 (fun w5 r6 => wp_X_water w5 2 (fun w7 r8 => wp_X_water w7 3 (fun w9 r10 => (¬ a2 = ((((4000 : Int32) + r6) - r8) - r10) → Q w9 0) ∧ (a2 = ((((4000 : Int32) + r6) - r8) - r10) → Q w9 1)) X) X) X)) X)
set_option maxHeartbeats 4000000 in
set_option maxRecDepth 20000 in
theorem vjp_L_isWhole_213 {l : Launch} {g : pw_G} {Q : pw_W → Int32 → Prop} {X : pw_W → Nat → Prop} (hl0 : l.stackTraces = false) (a2 a3 : Int32) (w : pw_W) (h : jp_L_isWhole_213 Q X a2 a3 w) : pw_V l g cx_L_isWhole Q X 213 [(9, 0), (1, 0), (0, a2), (0, a3), (1, 0), (1, 0), (1, 0), (1, 0)] [] w := by
  unfold jp_L_isWhole_213 at h
  refine pv_iload_n (n := 214) d_L_isWhole_213 rfl rfl rfl ?_
  refine pv_if_eq (n := 217) (tgt := 255) d_L_isWhole_214 (by decide) rfl (fun c1 => ?_) (fun c1 => ?_)
  · replace h := h.1 c1
    refine pv_iconst (v := 0) (n := 256) d_L_isWhole_255 (by decide) rfl ?_
    exact pv_zret rfl rfl d_L_isWhole_256 (by decide) h
  · replace h := h.2 c1
    refine pv_aload_n (n := 218) d_L_isWhole_217 rfl rfl rfl ?_
    refine pv_iconst (v := 0) (n := 219) d_L_isWhole_218 (by decide) rfl ?_
    refine pv_callV (n := 222) (x := 0) [(0, 0)] [] (con_X_water hl0 h) pw_cf7 rfl q_493 q_494 q_495 q_62 q_492 pyo_X_water (by decide) rfl rfl (by decide) d_L_isWhole_219 rfl (fun w2 r3 h _ => ?_) (fun _ _ h => pvx_out rfl h)
    show pw_V l g cx_L_isWhole Q X 222 [(9, 0), (1, 0), (0, a2), (0, a3), (1, 0), (1, 0), (1, 0), (1, 0)] [(0, r3)] w2
    refine pv_iload_n (n := 223) d_L_isWhole_222 rfl rfl rfl ?_
    refine pv_icmp_ne (n := 226) (tgt := 255) d_L_isWhole_223 (by decide) rfl (fun c4 => ?_) (fun c4 => ?_)
    · replace h := h.1 c4
      refine pv_iconst (v := 0) (n := 256) d_L_isWhole_255 (by decide) rfl ?_
      exact pv_zret rfl rfl d_L_isWhole_256 (by decide) h
    · replace h := h.2 c4
      refine pv_iload_n (n := 227) d_L_isWhole_226 rfl rfl rfl ?_
      refine pv_sipush (v := 4000) (n := 230) d_L_isWhole_227 (by decide) rfl ?_
      refine pv_aload_n (n := 231) d_L_isWhole_230 rfl rfl rfl ?_
      refine pv_iconst (v := 1) (n := 232) d_L_isWhole_231 (by decide) rfl ?_
      refine pv_callV (n := 235) (x := 0) [(0, 1)] [(0, 4000), (0, a2)] (con_X_water hl0 h) pw_cf7 rfl q_493 q_494 q_495 q_62 q_492 pyo_X_water (by decide) rfl rfl (by decide) d_L_isWhole_232 rfl (fun w5 r6 h _ => ?_) (fun _ _ h => pvx_out rfl h)
      show pw_V l g cx_L_isWhole Q X 235 [(9, 0), (1, 0), (0, a2), (0, a3), (1, 0), (1, 0), (1, 0), (1, 0)] [(0, r6), (0, 4000), (0, a2)] w5
      refine pv_iadd (n := 236) d_L_isWhole_235 rfl ?_
      refine pv_aload_n (n := 237) d_L_isWhole_236 rfl rfl rfl ?_
      refine pv_iconst (v := 2) (n := 238) d_L_isWhole_237 (by decide) rfl ?_
      refine pv_callV (n := 241) (x := 0) [(0, 2)] [(0, ((4000 : Int32) + r6)), (0, a2)] (con_X_water hl0 h) pw_cf7 rfl q_493 q_494 q_495 q_62 q_492 pyo_X_water (by decide) rfl rfl (by decide) d_L_isWhole_238 rfl (fun w7 r8 h _ => ?_) (fun _ _ h => pvx_out rfl h)
      show pw_V l g cx_L_isWhole Q X 241 [(9, 0), (1, 0), (0, a2), (0, a3), (1, 0), (1, 0), (1, 0), (1, 0)] [(0, r8), (0, ((4000 : Int32) + r6)), (0, a2)] w7
      refine pv_isub (n := 242) d_L_isWhole_241 rfl ?_
      refine pv_aload_n (n := 243) d_L_isWhole_242 rfl rfl rfl ?_
      refine pv_iconst (v := 3) (n := 244) d_L_isWhole_243 (by decide) rfl ?_
      refine pv_callV (n := 247) (x := 0) [(0, 3)] [(0, (((4000 : Int32) + r6) - r8)), (0, a2)] (con_X_water hl0 h) pw_cf7 rfl q_493 q_494 q_495 q_62 q_492 pyo_X_water (by decide) rfl rfl (by decide) d_L_isWhole_244 rfl (fun w9 r10 h _ => ?_) (fun _ _ h => pvx_out rfl h)
      show pw_V l g cx_L_isWhole Q X 247 [(9, 0), (1, 0), (0, a2), (0, a3), (1, 0), (1, 0), (1, 0), (1, 0)] [(0, r10), (0, (((4000 : Int32) + r6) - r8)), (0, a2)] w9
      refine pv_isub (n := 248) d_L_isWhole_247 rfl ?_
      refine pv_icmp_ne (n := 251) (tgt := 255) d_L_isWhole_248 (by decide) rfl (fun c11 => ?_) (fun c11 => ?_)
      · replace h := h.1 c11
        refine pv_iconst (v := 0) (n := 256) d_L_isWhole_255 (by decide) rfl ?_
        exact pv_zret rfl rfl d_L_isWhole_256 (by decide) h
      · replace h := h.2 c11
        refine pv_iconst (v := 1) (n := 252) d_L_isWhole_251 (by decide) rfl ?_
        refine pv_goto (tgt := 256) d_L_isWhole_252 (by decide) ?_
        exact pv_zret rfl rfl d_L_isWhole_256 (by decide) h
set_option maxHeartbeats 4000000 in
set_option maxRecDepth 20000 in
def lp_L_isWhole_168 (Q : pw_W → Int32 → Prop) (X : pw_W → Nat → Prop) : Nat → Int32 → Int32 → Int32 → Int32 → pw_W → Prop := fun k => Nat.rec (motive := fun _ => Int32 → Int32 → Int32 → Int32 → pw_W → Prop) (fun _ _ _ _ _ => False) (fun _ ih a1 a2 a3 a4 w => wp_X_parcels w  (fun w12 r13 => (r13 ≤ a4 → jp_L_isWhole_213 Q X a2 a3 w12) ∧ (¬ r13 ≤ a4 → (a3 = 0 → jp_L_isWhole_213 Q X a2 a3 w12) ∧ (¬ a3 = 0 → wp_X_area w12 a4 (fun w16 r17 => 0 ≤ a1 ∧ pw_jn a4 (pw_ln w16 200 (pw_i a1)) ∧ (r17 = (w16.1 200 (pw_i a1) (pw_i a4)) → ih a1 a2 1 (a4 + 1) w16) ∧ (¬ r17 = (w16.1 200 (pw_i a1) (pw_i a4)) → pw_jn a4 (pw_ln w16 200 (pw_i a1)) ∧ (¬ (w16.1 200 (pw_i a1) (pw_i a4)) = 0 → ih a1 a2 0 (a4 + 1) w16) ∧ ((w16.1 200 (pw_i a1) (pw_i a4)) = 0 → ih a1 a2 1 (a4 + 1) w16))) X))) (fun _ _ => False)) k
set_option maxHeartbeats 4000000 in
set_option maxRecDepth 20000 in
theorem lp_L_isWhole_168_s {Q : pw_W → Int32 → Prop} {X : pw_W → Nat → Prop}  {k : Nat} {a1 a2 a3 a4 : Int32} {w : pw_W} : lp_L_isWhole_168 Q X (k + 1) a1 a2 a3 a4 w = (let ih := lp_L_isWhole_168 Q X k; wp_X_parcels w  (fun w12 r13 => (r13 ≤ a4 → jp_L_isWhole_213 Q X a2 a3 w12) ∧ (¬ r13 ≤ a4 → (a3 = 0 → jp_L_isWhole_213 Q X a2 a3 w12) ∧ (¬ a3 = 0 → wp_X_area w12 a4 (fun w16 r17 => 0 ≤ a1 ∧ pw_jn a4 (pw_ln w16 200 (pw_i a1)) ∧ (r17 = (w16.1 200 (pw_i a1) (pw_i a4)) → ih a1 a2 1 (a4 + 1) w16) ∧ (¬ r17 = (w16.1 200 (pw_i a1) (pw_i a4)) → pw_jn a4 (pw_ln w16 200 (pw_i a1)) ∧ (¬ (w16.1 200 (pw_i a1) (pw_i a4)) = 0 → ih a1 a2 0 (a4 + 1) w16) ∧ ((w16.1 200 (pw_i a1) (pw_i a4)) = 0 → ih a1 a2 1 (a4 + 1) w16))) X))) (fun _ _ => False)) := rfl
set_option maxHeartbeats 4000000 in
set_option maxRecDepth 20000 in
theorem vlp_L_isWhole_168 {l : Launch} {g : pw_G} {Q : pw_W → Int32 → Prop} {X : pw_W → Nat → Prop} (hl0 : l.stackTraces = false) : ∀ (k : Nat) (a1 a2 a3 a4 : Int32) (w : pw_W), lp_L_isWhole_168 Q X k a1 a2 a3 a4 w → pw_V l g cx_L_isWhole Q X 168 [(9, 0), (202, a1), (0, a2), (0, a3), (0, a4), (1, 0), (1, 0), (1, 0)] [] w := by
  intro k; induction k with
  | zero => intro _ _ _ _ _ h; exact h.elim
  | succ k ih =>
    intro a1 a2 a3 a4 w h
    rw [lp_L_isWhole_168_s] at h
    refine pv_iload (n := 170) d_L_isWhole_168 rfl rfl ?_
    refine pv_aload_n (n := 171) d_L_isWhole_170 rfl rfl rfl ?_
    refine pv_callV (n := 174) (x := 0) [] [(0, a4)] (con_X_parcels hl0 h) pw_cf7 rfl q_501 q_502 q_503 q_62 q_500 pyo_X_parcels (by decide) rfl rfl (by decide) d_L_isWhole_171 rfl (fun w12 r13 h _ => ?_) (fun _ _ h => h.elim)
    show pw_V l g cx_L_isWhole Q X 174 [(9, 0), (202, a1), (0, a2), (0, a3), (0, a4), (1, 0), (1, 0), (1, 0)] [(0, r13), (0, a4)] w12
    refine pv_icmp_ge (n := 177) (tgt := 213) d_L_isWhole_174 (by decide) rfl (fun c14 => ?_) (fun c14 => ?_)
    · replace h := h.1 c14
      refine pv_unset (i := 1) (L1 := [(9, 0), (1, 0), (0, a2), (0, a3), (0, a4), (1, 0), (1, 0), (1, 0)]) rfl ?_
      refine pv_unset (i := 4) (L1 := [(9, 0), (1, 0), (0, a2), (0, a3), (1, 0), (1, 0), (1, 0), (1, 0)]) rfl ?_
      exact vjp_L_isWhole_213 hl0 _ _ _ h
    · replace h := h.2 c14
      refine pv_iload_n (n := 178) d_L_isWhole_177 rfl rfl rfl ?_
      refine pv_if_eq (n := 181) (tgt := 213) d_L_isWhole_178 (by decide) rfl (fun c15 => ?_) (fun c15 => ?_)
      · replace h := h.1 c15
        refine pv_unset (i := 1) (L1 := [(9, 0), (1, 0), (0, a2), (0, a3), (0, a4), (1, 0), (1, 0), (1, 0)]) rfl ?_
        refine pv_unset (i := 4) (L1 := [(9, 0), (1, 0), (0, a2), (0, a3), (1, 0), (1, 0), (1, 0), (1, 0)]) rfl ?_
        exact vjp_L_isWhole_213 hl0 _ _ _ h
      · replace h := h.2 c15
        refine pv_aload_n (n := 182) d_L_isWhole_181 rfl rfl rfl ?_
        refine pv_iload (n := 184) d_L_isWhole_182 rfl rfl ?_
        refine pv_callV (n := 187) (x := 0) [(0, a4)] [] (con_X_area hl0 h) pw_cf7 rfl q_497 q_498 q_499 q_62 q_496 pyo_X_area (by decide) rfl rfl (by decide) d_L_isWhole_184 rfl (fun w16 r17 h _ => ?_) (fun _ _ h => pvx_out rfl h)
        show pw_V l g cx_L_isWhole Q X 187 [(9, 0), (202, a1), (0, a2), (0, a3), (0, a4), (1, 0), (1, 0), (1, 0)] [(0, r17)] w16
        refine pv_aload_n (n := 188) d_L_isWhole_187 rfl rfl rfl ?_
        refine pv_iload (n := 190) d_L_isWhole_188 rfl rfl ?_
        obtain ⟨g18, h⟩ := h
        obtain ⟨g19, h⟩ := h
        refine pv_iald (n := 191) (f := 200) (by decide) rfl d_L_isWhole_190 g18 g19 rfl ?_
        refine pv_icmp_eq (n := 194) (tgt := 201) d_L_isWhole_191 (by decide) rfl (fun c20 => ?_) (fun c20 => ?_)
        · replace h := h.1 c20
          refine pv_iconst (v := 1) (n := 202) d_L_isWhole_201 (by decide) rfl ?_
          refine pv_goto (tgt := 206) d_L_isWhole_202 (by decide) ?_
          refine pv_istore_n (n := 207) (L' := [(9, 0), (202, a1), (0, a2), (0, 1), (0, a4), (1, 0), (1, 0), (1, 0)]) d_L_isWhole_206 rfl (by decide) rfl rfl ?_
          refine pv_iinc (v := (a4 + 1)) (n := 210) (L1 := [(9, 0), (202, a1), (0, a2), (0, 1), (0, (a4 + 1)), (1, 0), (1, 0), (1, 0)]) d_L_isWhole_207 rfl rfl rfl (by decide) rfl ?_
          refine pv_goto (tgt := 168) d_L_isWhole_210 (by decide) ?_
          exact ih _ _ _ _ _ h
        · replace h := h.2 c20
          refine pv_aload_n (n := 195) d_L_isWhole_194 rfl rfl rfl ?_
          refine pv_iload (n := 197) d_L_isWhole_195 rfl rfl ?_
          obtain ⟨g21, h⟩ := h
          refine pv_iald (n := 198) (f := 200) (by decide) rfl d_L_isWhole_197 g18 g21 rfl ?_
          refine pv_if_ne (n := 201) (tgt := 205) d_L_isWhole_198 (by decide) rfl (fun c22 => ?_) (fun c22 => ?_)
          · replace h := h.1 c22
            refine pv_iconst (v := 0) (n := 206) d_L_isWhole_205 (by decide) rfl ?_
            refine pv_istore_n (n := 207) (L' := [(9, 0), (202, a1), (0, a2), (0, 0), (0, a4), (1, 0), (1, 0), (1, 0)]) d_L_isWhole_206 rfl (by decide) rfl rfl ?_
            refine pv_iinc (v := (a4 + 1)) (n := 210) (L1 := [(9, 0), (202, a1), (0, a2), (0, 0), (0, (a4 + 1)), (1, 0), (1, 0), (1, 0)]) d_L_isWhole_207 rfl rfl rfl (by decide) rfl ?_
            refine pv_goto (tgt := 168) d_L_isWhole_210 (by decide) ?_
            exact ih _ _ _ _ _ h
          · replace h := h.2 c22
            refine pv_iconst (v := 1) (n := 202) d_L_isWhole_201 (by decide) rfl ?_
            refine pv_goto (tgt := 206) d_L_isWhole_202 (by decide) ?_
            refine pv_istore_n (n := 207) (L' := [(9, 0), (202, a1), (0, a2), (0, 1), (0, a4), (1, 0), (1, 0), (1, 0)]) d_L_isWhole_206 rfl (by decide) rfl rfl ?_
            refine pv_iinc (v := (a4 + 1)) (n := 210) (L1 := [(9, 0), (202, a1), (0, a2), (0, 1), (0, (a4 + 1)), (1, 0), (1, 0), (1, 0)]) d_L_isWhole_207 rfl rfl rfl (by decide) rfl ?_
            refine pv_goto (tgt := 168) d_L_isWhole_210 (by decide) ?_
            exact ih _ _ _ _ _ h
set_option maxHeartbeats 4000000 in
set_option maxRecDepth 20000 in
def jp_L_isWhole_165 (Q : pw_W → Int32 → Prop) (X : pw_W → Nat → Prop) (a1 a2 a3 : Int32) (w : pw_W) : Prop := ∃ k23, lp_L_isWhole_168 Q X k23 a1 a2 a3 0 w
set_option maxHeartbeats 4000000 in
set_option maxRecDepth 20000 in
theorem vjp_L_isWhole_165 {l : Launch} {g : pw_G} {Q : pw_W → Int32 → Prop} {X : pw_W → Nat → Prop} (hl0 : l.stackTraces = false) (a1 a2 a3 : Int32) (w : pw_W) (h : jp_L_isWhole_165 Q X a1 a2 a3 w) : pw_V l g cx_L_isWhole Q X 165 [(9, 0), (202, a1), (0, a2), (0, a3), (1, 0), (1, 0), (1, 0), (1, 0)] [] w := by
  unfold jp_L_isWhole_165 at h
  refine pv_iconst (v := 0) (n := 166) d_L_isWhole_165 (by decide) rfl ?_
  refine pv_istore (n := 168) (L' := [(9, 0), (202, a1), (0, a2), (0, a3), (0, 0), (1, 0), (1, 0), (1, 0)]) d_L_isWhole_166 (by decide) rfl rfl ?_
  obtain ⟨k23, h⟩ := h
  exact vlp_L_isWhole_168 hl0 _ _ _ _ _ _ h
set_option maxHeartbeats 4000000 in
set_option maxRecDepth 20000 in
def jp_L_isWhole_74 (Q : pw_W → Int32 → Prop) (X : pw_W → Nat → Prop) (K12 : Int32 → Int32 → Int32 → Int32 → pw_W → Prop) (a1 a2 a3 a4 s0 s1 : Int32) (w : pw_W) : Prop := 0 ≤ s1 ∧ pw_jn s0 (pw_ln w 200 (pw_i s1)) ∧ pw_jn s0 (pw_ln w 200 (pw_i s1)) ∧ ∀ w27, w27 = pw_ps w 200 (pw_i s1) (pw_i s0) ((w.1 200 (pw_i s1) (pw_i s0)) + 1) → wp_X_square w27 a4 1 (fun w29 r30 => wp_X_square w29 a4 0 (fun w31 r32 => ∀ v33, v33 = (a2 + r30) → (a3 = 0 → K12 a1 v33 0 (a4 + 1) w31) ∧ (¬ a3 = 0 → (r30 < 0 → K12 a1 v33 0 (a4 + 1) w31) ∧ (¬ r30 < 0 → ((100 : Int32) < r30 → K12 a1 v33 0 (a4 + 1) w31) ∧ (¬ (100 : Int32) < r30 → (r32 < 0 → K12 a1 v33 0 (a4 + 1) w31) ∧ (¬ r32 < 0 → ((200 : Int32) < r32 → K12 a1 v33 0 (a4 + 1) w31) ∧ (¬ (200 : Int32) < r32 → wp_X_square w31 a4 2 (fun w40 r41 => (r41 < 0 → K12 a1 v33 0 (a4 + 1) w40) ∧ (¬ r41 < 0 → wp_X_square w40 a4 2 (fun w43 r44 => ((10 : Int32) ≤ r44 → K12 a1 v33 0 (a4 + 1) w43) ∧ (¬ (10 : Int32) ≤ r44 → K12 a1 v33 1 (a4 + 1) w43)) X)) X)))))) X) X
set_option maxHeartbeats 4000000 in
set_option maxRecDepth 20000 in
theorem vjp_L_isWhole_74 {l : Launch} {g : pw_G} {Q : pw_W → Int32 → Prop} {X : pw_W → Nat → Prop} (hl0 : l.stackTraces = false) {K12 : Int32 → Int32 → Int32 → Int32 → pw_W → Prop} (hK12 : ∀ (a1 a2 a3 a4 : Int32) (w : pw_W), K12 a1 a2 a3 a4 w → pw_V l g cx_L_isWhole Q X 12 [(9, 0), (202, a1), (0, a2), (0, a3), (0, a4), (1, 0), (1, 0), (1, 0)] [] w) (a1 a2 a3 a4 s0 s1 : Int32) (w : pw_W) (h : jp_L_isWhole_74 Q X K12 a1 a2 a3 a4 s0 s1 w) : pw_V l g cx_L_isWhole Q X 74 [(9, 0), (202, a1), (0, a2), (0, a3), (0, a4), (1, 0), (1, 0), (1, 0)] [(0, s0), (202, s1)] w := by
  unfold jp_L_isWhole_74 at h
  refine pv_dup2 (n := 75) d_L_isWhole_74 (by decide) (by decide) rfl ?_
  obtain ⟨g24, h⟩ := h
  obtain ⟨g25, h⟩ := h
  refine pv_iald (n := 76) (f := 200) (by decide) rfl d_L_isWhole_75 g24 g25 rfl ?_
  refine pv_iconst (v := 1) (n := 77) d_L_isWhole_76 (by decide) rfl ?_
  refine pv_iadd (n := 78) d_L_isWhole_77 rfl ?_
  obtain ⟨g26, h⟩ := h
  refine pv_iast1 (n := 79) (f := 200) (by decide) rfl (fun _ => rfl) d_L_isWhole_78 g24 g26 rfl (fun w27 e28 => ?_)
  replace h := h w27 e28
  refine pv_aload_n (n := 80) d_L_isWhole_79 rfl rfl rfl ?_
  refine pv_iload (n := 82) d_L_isWhole_80 rfl rfl ?_
  refine pv_iconst (v := 1) (n := 83) d_L_isWhole_82 (by decide) rfl ?_
  refine pv_callV (n := 86) (x := 0) [(0, a4), (0, 1)] [] (con_X_square hl0 h) pw_cf7 rfl q_505 q_506 q_507 q_62 q_504 pyo_X_square (by decide) rfl rfl (by decide) d_L_isWhole_83 rfl (fun w29 r30 h _ => ?_) (fun _ _ h => pvx_out rfl h)
  show pw_V l g cx_L_isWhole Q X 86 [(9, 0), (202, a1), (0, a2), (0, a3), (0, a4), (1, 0), (1, 0), (1, 0)] [(0, r30)] w29
  refine pv_istore (n := 88) (L' := [(9, 0), (202, a1), (0, a2), (0, a3), (0, a4), (1, 0), (0, r30), (1, 0)]) d_L_isWhole_86 (by decide) rfl rfl ?_
  refine pv_aload_n (n := 89) d_L_isWhole_88 rfl rfl rfl ?_
  refine pv_iload (n := 91) d_L_isWhole_89 rfl rfl ?_
  refine pv_iconst (v := 0) (n := 92) d_L_isWhole_91 (by decide) rfl ?_
  refine pv_callV (n := 95) (x := 0) [(0, a4), (0, 0)] [] (con_X_square hl0 h) pw_cf7 rfl q_505 q_506 q_507 q_62 q_504 pyo_X_square (by decide) rfl rfl (by decide) d_L_isWhole_92 rfl (fun w31 r32 h _ => ?_) (fun _ _ h => pvx_out rfl h)
  show pw_V l g cx_L_isWhole Q X 95 [(9, 0), (202, a1), (0, a2), (0, a3), (0, a4), (1, 0), (0, r30), (1, 0)] [(0, r32)] w31
  refine pv_istore (n := 97) (L' := [(9, 0), (202, a1), (0, a2), (0, a3), (0, a4), (1, 0), (0, r30), (0, r32)]) d_L_isWhole_95 (by decide) rfl rfl ?_
  refine pv_iload_n (n := 98) d_L_isWhole_97 rfl rfl rfl ?_
  refine pv_iload (n := 100) d_L_isWhole_98 rfl rfl ?_
  refine pv_iadd (n := 101) d_L_isWhole_100 rfl ?_
  refine pv_nm (fun v33 e34 => ?_)
  replace h := h v33 e34
  refine pv_istore_n (n := 102) (L' := [(9, 0), (202, a1), (0, v33), (0, a3), (0, a4), (1, 0), (0, r30), (0, r32)]) d_L_isWhole_101 rfl (by decide) rfl rfl ?_
  refine pv_iload_n (n := 103) d_L_isWhole_102 rfl rfl rfl ?_
  refine pv_if_eq (n := 106) (tgt := 157) d_L_isWhole_103 (by decide) rfl (fun c35 => ?_) (fun c35 => ?_)
  · replace h := h.1 c35
    refine pv_iconst (v := 0) (n := 158) d_L_isWhole_157 (by decide) rfl ?_
    refine pv_istore_n (n := 159) (L' := [(9, 0), (202, a1), (0, v33), (0, 0), (0, a4), (1, 0), (0, r30), (0, r32)]) d_L_isWhole_158 rfl (by decide) rfl rfl ?_
    refine pv_iinc (v := (a4 + 1)) (n := 162) (L1 := [(9, 0), (202, a1), (0, v33), (0, 0), (0, (a4 + 1)), (1, 0), (0, r30), (0, r32)]) d_L_isWhole_159 rfl rfl rfl (by decide) rfl ?_
    refine pv_goto (tgt := 12) d_L_isWhole_162 (by decide) ?_
    refine pv_unset (i := 6) (L1 := [(9, 0), (202, a1), (0, v33), (0, 0), (0, (a4 + 1)), (1, 0), (1, 0), (0, r32)]) rfl ?_
    refine pv_unset (i := 7) (L1 := [(9, 0), (202, a1), (0, v33), (0, 0), (0, (a4 + 1)), (1, 0), (1, 0), (1, 0)]) rfl ?_
    exact hK12 _ _ _ _ _ h
  · replace h := h.2 c35
    refine pv_iload (n := 108) d_L_isWhole_106 rfl rfl ?_
    refine pv_if_lt (n := 111) (tgt := 157) d_L_isWhole_108 (by decide) rfl (fun c36 => ?_) (fun c36 => ?_)
    · replace h := h.1 c36
      refine pv_iconst (v := 0) (n := 158) d_L_isWhole_157 (by decide) rfl ?_
      refine pv_istore_n (n := 159) (L' := [(9, 0), (202, a1), (0, v33), (0, 0), (0, a4), (1, 0), (0, r30), (0, r32)]) d_L_isWhole_158 rfl (by decide) rfl rfl ?_
      refine pv_iinc (v := (a4 + 1)) (n := 162) (L1 := [(9, 0), (202, a1), (0, v33), (0, 0), (0, (a4 + 1)), (1, 0), (0, r30), (0, r32)]) d_L_isWhole_159 rfl rfl rfl (by decide) rfl ?_
      refine pv_goto (tgt := 12) d_L_isWhole_162 (by decide) ?_
      refine pv_unset (i := 6) (L1 := [(9, 0), (202, a1), (0, v33), (0, 0), (0, (a4 + 1)), (1, 0), (1, 0), (0, r32)]) rfl ?_
      refine pv_unset (i := 7) (L1 := [(9, 0), (202, a1), (0, v33), (0, 0), (0, (a4 + 1)), (1, 0), (1, 0), (1, 0)]) rfl ?_
      exact hK12 _ _ _ _ _ h
    · replace h := h.2 c36
      refine pv_iload (n := 113) d_L_isWhole_111 rfl rfl ?_
      refine pv_bipush (v := 100) (n := 115) d_L_isWhole_113 (by decide) rfl ?_
      refine pv_icmp_gt (n := 118) (tgt := 157) d_L_isWhole_115 (by decide) rfl (fun c37 => ?_) (fun c37 => ?_)
      · replace h := h.1 c37
        refine pv_iconst (v := 0) (n := 158) d_L_isWhole_157 (by decide) rfl ?_
        refine pv_istore_n (n := 159) (L' := [(9, 0), (202, a1), (0, v33), (0, 0), (0, a4), (1, 0), (0, r30), (0, r32)]) d_L_isWhole_158 rfl (by decide) rfl rfl ?_
        refine pv_iinc (v := (a4 + 1)) (n := 162) (L1 := [(9, 0), (202, a1), (0, v33), (0, 0), (0, (a4 + 1)), (1, 0), (0, r30), (0, r32)]) d_L_isWhole_159 rfl rfl rfl (by decide) rfl ?_
        refine pv_goto (tgt := 12) d_L_isWhole_162 (by decide) ?_
        refine pv_unset (i := 6) (L1 := [(9, 0), (202, a1), (0, v33), (0, 0), (0, (a4 + 1)), (1, 0), (1, 0), (0, r32)]) rfl ?_
        refine pv_unset (i := 7) (L1 := [(9, 0), (202, a1), (0, v33), (0, 0), (0, (a4 + 1)), (1, 0), (1, 0), (1, 0)]) rfl ?_
        exact hK12 _ _ _ _ _ h
      · replace h := h.2 c37
        refine pv_iload (n := 120) d_L_isWhole_118 rfl rfl ?_
        refine pv_if_lt (n := 123) (tgt := 157) d_L_isWhole_120 (by decide) rfl (fun c38 => ?_) (fun c38 => ?_)
        · replace h := h.1 c38
          refine pv_iconst (v := 0) (n := 158) d_L_isWhole_157 (by decide) rfl ?_
          refine pv_istore_n (n := 159) (L' := [(9, 0), (202, a1), (0, v33), (0, 0), (0, a4), (1, 0), (0, r30), (0, r32)]) d_L_isWhole_158 rfl (by decide) rfl rfl ?_
          refine pv_iinc (v := (a4 + 1)) (n := 162) (L1 := [(9, 0), (202, a1), (0, v33), (0, 0), (0, (a4 + 1)), (1, 0), (0, r30), (0, r32)]) d_L_isWhole_159 rfl rfl rfl (by decide) rfl ?_
          refine pv_goto (tgt := 12) d_L_isWhole_162 (by decide) ?_
          refine pv_unset (i := 6) (L1 := [(9, 0), (202, a1), (0, v33), (0, 0), (0, (a4 + 1)), (1, 0), (1, 0), (0, r32)]) rfl ?_
          refine pv_unset (i := 7) (L1 := [(9, 0), (202, a1), (0, v33), (0, 0), (0, (a4 + 1)), (1, 0), (1, 0), (1, 0)]) rfl ?_
          exact hK12 _ _ _ _ _ h
        · replace h := h.2 c38
          refine pv_iload (n := 125) d_L_isWhole_123 rfl rfl ?_
          refine pv_sipush (v := 200) (n := 128) d_L_isWhole_125 (by decide) rfl ?_
          refine pv_icmp_gt (n := 131) (tgt := 157) d_L_isWhole_128 (by decide) rfl (fun c39 => ?_) (fun c39 => ?_)
          · replace h := h.1 c39
            refine pv_iconst (v := 0) (n := 158) d_L_isWhole_157 (by decide) rfl ?_
            refine pv_istore_n (n := 159) (L' := [(9, 0), (202, a1), (0, v33), (0, 0), (0, a4), (1, 0), (0, r30), (0, r32)]) d_L_isWhole_158 rfl (by decide) rfl rfl ?_
            refine pv_iinc (v := (a4 + 1)) (n := 162) (L1 := [(9, 0), (202, a1), (0, v33), (0, 0), (0, (a4 + 1)), (1, 0), (0, r30), (0, r32)]) d_L_isWhole_159 rfl rfl rfl (by decide) rfl ?_
            refine pv_goto (tgt := 12) d_L_isWhole_162 (by decide) ?_
            refine pv_unset (i := 6) (L1 := [(9, 0), (202, a1), (0, v33), (0, 0), (0, (a4 + 1)), (1, 0), (1, 0), (0, r32)]) rfl ?_
            refine pv_unset (i := 7) (L1 := [(9, 0), (202, a1), (0, v33), (0, 0), (0, (a4 + 1)), (1, 0), (1, 0), (1, 0)]) rfl ?_
            exact hK12 _ _ _ _ _ h
          · replace h := h.2 c39
            refine pv_aload_n (n := 132) d_L_isWhole_131 rfl rfl rfl ?_
            refine pv_iload (n := 134) d_L_isWhole_132 rfl rfl ?_
            refine pv_iconst (v := 2) (n := 135) d_L_isWhole_134 (by decide) rfl ?_
            refine pv_callV (n := 138) (x := 0) [(0, a4), (0, 2)] [] (con_X_square hl0 h) pw_cf7 rfl q_505 q_506 q_507 q_62 q_504 pyo_X_square (by decide) rfl rfl (by decide) d_L_isWhole_135 rfl (fun w40 r41 h _ => ?_) (fun _ _ h => pvx_out rfl h)
            show pw_V l g cx_L_isWhole Q X 138 [(9, 0), (202, a1), (0, v33), (0, a3), (0, a4), (1, 0), (0, r30), (0, r32)] [(0, r41)] w40
            refine pv_if_lt (n := 141) (tgt := 157) d_L_isWhole_138 (by decide) rfl (fun c42 => ?_) (fun c42 => ?_)
            · replace h := h.1 c42
              refine pv_iconst (v := 0) (n := 158) d_L_isWhole_157 (by decide) rfl ?_
              refine pv_istore_n (n := 159) (L' := [(9, 0), (202, a1), (0, v33), (0, 0), (0, a4), (1, 0), (0, r30), (0, r32)]) d_L_isWhole_158 rfl (by decide) rfl rfl ?_
              refine pv_iinc (v := (a4 + 1)) (n := 162) (L1 := [(9, 0), (202, a1), (0, v33), (0, 0), (0, (a4 + 1)), (1, 0), (0, r30), (0, r32)]) d_L_isWhole_159 rfl rfl rfl (by decide) rfl ?_
              refine pv_goto (tgt := 12) d_L_isWhole_162 (by decide) ?_
              refine pv_unset (i := 6) (L1 := [(9, 0), (202, a1), (0, v33), (0, 0), (0, (a4 + 1)), (1, 0), (1, 0), (0, r32)]) rfl ?_
              refine pv_unset (i := 7) (L1 := [(9, 0), (202, a1), (0, v33), (0, 0), (0, (a4 + 1)), (1, 0), (1, 0), (1, 0)]) rfl ?_
              exact hK12 _ _ _ _ _ h
            · replace h := h.2 c42
              refine pv_aload_n (n := 142) d_L_isWhole_141 rfl rfl rfl ?_
              refine pv_iload (n := 144) d_L_isWhole_142 rfl rfl ?_
              refine pv_iconst (v := 2) (n := 145) d_L_isWhole_144 (by decide) rfl ?_
              refine pv_callV (n := 148) (x := 0) [(0, a4), (0, 2)] [] (con_X_square hl0 h) pw_cf7 rfl q_505 q_506 q_507 q_62 q_504 pyo_X_square (by decide) rfl rfl (by decide) d_L_isWhole_145 rfl (fun w43 r44 h _ => ?_) (fun _ _ h => pvx_out rfl h)
              show pw_V l g cx_L_isWhole Q X 148 [(9, 0), (202, a1), (0, v33), (0, a3), (0, a4), (1, 0), (0, r30), (0, r32)] [(0, r44)] w43
              refine pv_bipush (v := 10) (n := 150) d_L_isWhole_148 (by decide) rfl ?_
              refine pv_icmp_ge (n := 153) (tgt := 157) d_L_isWhole_150 (by decide) rfl (fun c45 => ?_) (fun c45 => ?_)
              · replace h := h.1 c45
                refine pv_iconst (v := 0) (n := 158) d_L_isWhole_157 (by decide) rfl ?_
                refine pv_istore_n (n := 159) (L' := [(9, 0), (202, a1), (0, v33), (0, 0), (0, a4), (1, 0), (0, r30), (0, r32)]) d_L_isWhole_158 rfl (by decide) rfl rfl ?_
                refine pv_iinc (v := (a4 + 1)) (n := 162) (L1 := [(9, 0), (202, a1), (0, v33), (0, 0), (0, (a4 + 1)), (1, 0), (0, r30), (0, r32)]) d_L_isWhole_159 rfl rfl rfl (by decide) rfl ?_
                refine pv_goto (tgt := 12) d_L_isWhole_162 (by decide) ?_
                refine pv_unset (i := 6) (L1 := [(9, 0), (202, a1), (0, v33), (0, 0), (0, (a4 + 1)), (1, 0), (1, 0), (0, r32)]) rfl ?_
                refine pv_unset (i := 7) (L1 := [(9, 0), (202, a1), (0, v33), (0, 0), (0, (a4 + 1)), (1, 0), (1, 0), (1, 0)]) rfl ?_
                exact hK12 _ _ _ _ _ h
              · replace h := h.2 c45
                refine pv_iconst (v := 1) (n := 154) d_L_isWhole_153 (by decide) rfl ?_
                refine pv_goto (tgt := 158) d_L_isWhole_154 (by decide) ?_
                refine pv_istore_n (n := 159) (L' := [(9, 0), (202, a1), (0, v33), (0, 1), (0, a4), (1, 0), (0, r30), (0, r32)]) d_L_isWhole_158 rfl (by decide) rfl rfl ?_
                refine pv_iinc (v := (a4 + 1)) (n := 162) (L1 := [(9, 0), (202, a1), (0, v33), (0, 1), (0, (a4 + 1)), (1, 0), (0, r30), (0, r32)]) d_L_isWhole_159 rfl rfl rfl (by decide) rfl ?_
                refine pv_goto (tgt := 12) d_L_isWhole_162 (by decide) ?_
                refine pv_unset (i := 6) (L1 := [(9, 0), (202, a1), (0, v33), (0, 1), (0, (a4 + 1)), (1, 0), (1, 0), (0, r32)]) rfl ?_
                refine pv_unset (i := 7) (L1 := [(9, 0), (202, a1), (0, v33), (0, 1), (0, (a4 + 1)), (1, 0), (1, 0), (1, 0)]) rfl ?_
                exact hK12 _ _ _ _ _ h
set_option maxHeartbeats 4000000 in
set_option maxRecDepth 20000 in
def jp_L_isWhole_62 (Q : pw_W → Int32 → Prop) (X : pw_W → Nat → Prop) (K12 : Int32 → Int32 → Int32 → Int32 → pw_W → Prop) (a1 a2 a4 a5 s0 : Int32) (w : pw_W) : Prop := (s0 = 0 → jp_L_isWhole_74 Q X K12 a1 a2 s0 a4 0 a1 w) ∧ (¬ s0 = 0 → jp_L_isWhole_74 Q X K12 a1 a2 s0 a4 a5 a1 w)
set_option maxHeartbeats 4000000 in
set_option maxRecDepth 20000 in
theorem vjp_L_isWhole_62 {l : Launch} {g : pw_G} {Q : pw_W → Int32 → Prop} {X : pw_W → Nat → Prop} (hl0 : l.stackTraces = false) {K12 : Int32 → Int32 → Int32 → Int32 → pw_W → Prop} (hK12 : ∀ (a1 a2 a3 a4 : Int32) (w : pw_W), K12 a1 a2 a3 a4 w → pw_V l g cx_L_isWhole Q X 12 [(9, 0), (202, a1), (0, a2), (0, a3), (0, a4), (1, 0), (1, 0), (1, 0)] [] w) (a1 a2 a4 a5 s0 : Int32) (w : pw_W) (h : jp_L_isWhole_62 Q X K12 a1 a2 a4 a5 s0 w) : pw_V l g cx_L_isWhole Q X 62 [(9, 0), (202, a1), (0, a2), (1, 0), (0, a4), (0, a5), (1, 0), (1, 0)] [(0, s0)] w := by
  unfold jp_L_isWhole_62 at h
  refine pv_istore_n (n := 63) (L' := [(9, 0), (202, a1), (0, a2), (0, s0), (0, a4), (0, a5), (1, 0), (1, 0)]) d_L_isWhole_62 rfl (by decide) rfl rfl ?_
  refine pv_aload_n (n := 64) d_L_isWhole_63 rfl rfl rfl ?_
  refine pv_iload_n (n := 65) d_L_isWhole_64 rfl rfl rfl ?_
  refine pv_if_eq (n := 68) (tgt := 73) d_L_isWhole_65 (by decide) rfl (fun c46 => ?_) (fun c46 => ?_)
  · replace h := h.1 c46
    refine pv_iconst (v := 0) (n := 74) d_L_isWhole_73 (by decide) rfl ?_
    refine pv_unset (i := 5) (L1 := [(9, 0), (202, a1), (0, a2), (0, s0), (0, a4), (1, 0), (1, 0), (1, 0)]) rfl ?_
    exact vjp_L_isWhole_74 hl0 (by intros; exact hK12 _ _ _ _ _ (by assumption)) _ _ _ _ _ _ _ h
  · replace h := h.2 c46
    refine pv_iload (n := 70) d_L_isWhole_68 rfl rfl ?_
    refine pv_goto (tgt := 74) d_L_isWhole_70 (by decide) ?_
    refine pv_unset (i := 5) (L1 := [(9, 0), (202, a1), (0, a2), (0, s0), (0, a4), (1, 0), (1, 0), (1, 0)]) rfl ?_
    exact vjp_L_isWhole_74 hl0 (by intros; exact hK12 _ _ _ _ _ (by assumption)) _ _ _ _ _ _ _ h
set_option maxHeartbeats 4000000 in
set_option maxRecDepth 20000 in
def jp_L_isWhole_61 (Q : pw_W → Int32 → Prop) (X : pw_W → Nat → Prop) (K12 : Int32 → Int32 → Int32 → Int32 → pw_W → Prop) (a1 a2 a4 a5 : Int32) (w : pw_W) : Prop := jp_L_isWhole_62 Q X K12 a1 a2 a4 a5 0 w
set_option maxHeartbeats 4000000 in
set_option maxRecDepth 20000 in
theorem vjp_L_isWhole_61 {l : Launch} {g : pw_G} {Q : pw_W → Int32 → Prop} {X : pw_W → Nat → Prop} (hl0 : l.stackTraces = false) {K12 : Int32 → Int32 → Int32 → Int32 → pw_W → Prop} (hK12 : ∀ (a1 a2 a3 a4 : Int32) (w : pw_W), K12 a1 a2 a3 a4 w → pw_V l g cx_L_isWhole Q X 12 [(9, 0), (202, a1), (0, a2), (0, a3), (0, a4), (1, 0), (1, 0), (1, 0)] [] w) (a1 a2 a4 a5 : Int32) (w : pw_W) (h : jp_L_isWhole_61 Q X K12 a1 a2 a4 a5 w) : pw_V l g cx_L_isWhole Q X 61 [(9, 0), (202, a1), (0, a2), (1, 0), (0, a4), (0, a5), (1, 0), (1, 0)] [] w := by
  unfold jp_L_isWhole_61 at h
  refine pv_iconst (v := 0) (n := 62) d_L_isWhole_61 (by decide) rfl ?_
  exact vjp_L_isWhole_62 hl0 (by intros; exact hK12 _ _ _ _ _ (by assumption)) _ _ _ _ _ _ h
set_option maxHeartbeats 4000000 in
set_option maxRecDepth 20000 in
def lp_L_isWhole_12 (Q : pw_W → Int32 → Prop) (X : pw_W → Nat → Prop) : Nat → Int32 → Int32 → Int32 → Int32 → pw_W → Prop := fun k => Nat.rec (motive := fun _ => Int32 → Int32 → Int32 → Int32 → pw_W → Prop) (fun _ _ _ _ _ => False) (fun _ ih a1 a2 a3 a4 w => ((100 : Int32) ≤ a4 → jp_L_isWhole_165 Q X a1 a2 a3 w) ∧ (¬ (100 : Int32) ≤ a4 → (a3 = 0 → jp_L_isWhole_165 Q X a1 a2 a3 w) ∧ (¬ a3 = 0 → wp_X_parcelOf w a4 (fun w49 r50 => (r50 < 0 → jp_L_isWhole_61 Q X ih a1 a2 a4 r50 w49) ∧ (¬ r50 < 0 → wp_X_parcels w49  (fun w52 r53 => (r53 ≤ r50 → jp_L_isWhole_61 Q X ih a1 a2 a4 r50 w52) ∧ (¬ r53 ≤ r50 → wp_X_chain w52 a4 0 (fun w55 r56 => (¬ r56 = r50 → jp_L_isWhole_61 Q X ih a1 a2 a4 r50 w55) ∧ (r56 = r50 → jp_L_isWhole_62 Q X ih a1 a2 a4 r50 1 w55)) X)) (fun _ _ => False))) X))) k
set_option maxHeartbeats 4000000 in
set_option maxRecDepth 20000 in
theorem lp_L_isWhole_12_s {Q : pw_W → Int32 → Prop} {X : pw_W → Nat → Prop}  {k : Nat} {a1 a2 a3 a4 : Int32} {w : pw_W} : lp_L_isWhole_12 Q X (k + 1) a1 a2 a3 a4 w = (let ih := lp_L_isWhole_12 Q X k; ((100 : Int32) ≤ a4 → jp_L_isWhole_165 Q X a1 a2 a3 w) ∧ (¬ (100 : Int32) ≤ a4 → (a3 = 0 → jp_L_isWhole_165 Q X a1 a2 a3 w) ∧ (¬ a3 = 0 → wp_X_parcelOf w a4 (fun w49 r50 => (r50 < 0 → jp_L_isWhole_61 Q X ih a1 a2 a4 r50 w49) ∧ (¬ r50 < 0 → wp_X_parcels w49  (fun w52 r53 => (r53 ≤ r50 → jp_L_isWhole_61 Q X ih a1 a2 a4 r50 w52) ∧ (¬ r53 ≤ r50 → wp_X_chain w52 a4 0 (fun w55 r56 => (¬ r56 = r50 → jp_L_isWhole_61 Q X ih a1 a2 a4 r50 w55) ∧ (r56 = r50 → jp_L_isWhole_62 Q X ih a1 a2 a4 r50 1 w55)) X)) (fun _ _ => False))) X))) := rfl
set_option maxHeartbeats 4000000 in
set_option maxRecDepth 20000 in
theorem vlp_L_isWhole_12 {l : Launch} {g : pw_G} {Q : pw_W → Int32 → Prop} {X : pw_W → Nat → Prop} (hl0 : l.stackTraces = false) : ∀ (k : Nat) (a1 a2 a3 a4 : Int32) (w : pw_W), lp_L_isWhole_12 Q X k a1 a2 a3 a4 w → pw_V l g cx_L_isWhole Q X 12 [(9, 0), (202, a1), (0, a2), (0, a3), (0, a4), (1, 0), (1, 0), (1, 0)] [] w := by
  intro k; induction k with
  | zero => intro _ _ _ _ _ h; exact h.elim
  | succ k ih =>
    intro a1 a2 a3 a4 w h
    rw [lp_L_isWhole_12_s] at h
    refine pv_iload (n := 14) d_L_isWhole_12 rfl rfl ?_
    refine pv_bipush (v := 100) (n := 16) d_L_isWhole_14 (by decide) rfl ?_
    refine pv_icmp_ge (n := 19) (tgt := 165) d_L_isWhole_16 (by decide) rfl (fun c47 => ?_) (fun c47 => ?_)
    · replace h := h.1 c47
      refine pv_unset (i := 4) (L1 := [(9, 0), (202, a1), (0, a2), (0, a3), (1, 0), (1, 0), (1, 0), (1, 0)]) rfl ?_
      exact vjp_L_isWhole_165 hl0 _ _ _ _ h
    · replace h := h.2 c47
      refine pv_iload_n (n := 20) d_L_isWhole_19 rfl rfl rfl ?_
      refine pv_if_eq (n := 23) (tgt := 165) d_L_isWhole_20 (by decide) rfl (fun c48 => ?_) (fun c48 => ?_)
      · replace h := h.1 c48
        refine pv_unset (i := 4) (L1 := [(9, 0), (202, a1), (0, a2), (0, a3), (1, 0), (1, 0), (1, 0), (1, 0)]) rfl ?_
        exact vjp_L_isWhole_165 hl0 _ _ _ _ h
      · replace h := h.2 c48
        refine pv_aload_n (n := 24) d_L_isWhole_23 rfl rfl rfl ?_
        refine pv_iload (n := 26) d_L_isWhole_24 rfl rfl ?_
        refine pv_callV (n := 29) (x := 0) [(0, a4)] [] (con_X_parcelOf hl0 h) pw_cf7 rfl q_513 q_514 q_515 q_62 q_512 pyo_X_parcelOf (by decide) rfl rfl (by decide) d_L_isWhole_26 rfl (fun w49 r50 h _ => ?_) (fun _ _ h => pvx_out rfl h)
        show pw_V l g cx_L_isWhole Q X 29 [(9, 0), (202, a1), (0, a2), (0, a3), (0, a4), (1, 0), (1, 0), (1, 0)] [(0, r50)] w49
        refine pv_istore (n := 31) (L' := [(9, 0), (202, a1), (0, a2), (0, a3), (0, a4), (0, r50), (1, 0), (1, 0)]) d_L_isWhole_29 (by decide) rfl rfl ?_
        refine pv_iload (n := 33) d_L_isWhole_31 rfl rfl ?_
        refine pv_if_lt (n := 36) (tgt := 61) d_L_isWhole_33 (by decide) rfl (fun c51 => ?_) (fun c51 => ?_)
        · replace h := h.1 c51
          refine pv_unset (i := 3) (L1 := [(9, 0), (202, a1), (0, a2), (1, 0), (0, a4), (0, r50), (1, 0), (1, 0)]) rfl ?_
          exact vjp_L_isWhole_61 hl0 (by intros; exact ih _ _ _ _ _ (by assumption)) _ _ _ _ _ h
        · replace h := h.2 c51
          refine pv_iload (n := 38) d_L_isWhole_36 rfl rfl ?_
          refine pv_aload_n (n := 39) d_L_isWhole_38 rfl rfl rfl ?_
          refine pv_callV (n := 42) (x := 0) [] [(0, r50)] (con_X_parcels hl0 h) pw_cf7 rfl q_501 q_502 q_503 q_62 q_500 pyo_X_parcels (by decide) rfl rfl (by decide) d_L_isWhole_39 rfl (fun w52 r53 h _ => ?_) (fun _ _ h => h.elim)
          show pw_V l g cx_L_isWhole Q X 42 [(9, 0), (202, a1), (0, a2), (0, a3), (0, a4), (0, r50), (1, 0), (1, 0)] [(0, r53), (0, r50)] w52
          refine pv_icmp_ge (n := 45) (tgt := 61) d_L_isWhole_42 (by decide) rfl (fun c54 => ?_) (fun c54 => ?_)
          · replace h := h.1 c54
            refine pv_unset (i := 3) (L1 := [(9, 0), (202, a1), (0, a2), (1, 0), (0, a4), (0, r50), (1, 0), (1, 0)]) rfl ?_
            exact vjp_L_isWhole_61 hl0 (by intros; exact ih _ _ _ _ _ (by assumption)) _ _ _ _ _ h
          · replace h := h.2 c54
            refine pv_aload_n (n := 46) d_L_isWhole_45 rfl rfl rfl ?_
            refine pv_iload (n := 48) d_L_isWhole_46 rfl rfl ?_
            refine pv_iconst (v := 0) (n := 49) d_L_isWhole_48 (by decide) rfl ?_
            refine pv_callV (n := 52) (x := 0) [(0, a4), (0, 0)] [] (con_X_chain hl0 h) pw_cf7 rfl q_509 q_510 q_511 q_62 q_508 pyo_X_chain (by decide) rfl rfl (by decide) d_L_isWhole_49 rfl (fun w55 r56 h _ => ?_) (fun _ _ h => pvx_out rfl h)
            show pw_V l g cx_L_isWhole Q X 52 [(9, 0), (202, a1), (0, a2), (0, a3), (0, a4), (0, r50), (1, 0), (1, 0)] [(0, r56)] w55
            refine pv_iload (n := 54) d_L_isWhole_52 rfl rfl ?_
            refine pv_icmp_ne (n := 57) (tgt := 61) d_L_isWhole_54 (by decide) rfl (fun c57 => ?_) (fun c57 => ?_)
            · replace h := h.1 c57
              refine pv_unset (i := 3) (L1 := [(9, 0), (202, a1), (0, a2), (1, 0), (0, a4), (0, r50), (1, 0), (1, 0)]) rfl ?_
              exact vjp_L_isWhole_61 hl0 (by intros; exact ih _ _ _ _ _ (by assumption)) _ _ _ _ _ h
            · replace h := h.2 c57
              refine pv_iconst (v := 1) (n := 58) d_L_isWhole_57 (by decide) rfl ?_
              refine pv_goto (tgt := 62) d_L_isWhole_58 (by decide) ?_
              refine pv_unset (i := 3) (L1 := [(9, 0), (202, a1), (0, a2), (1, 0), (0, a4), (0, r50), (1, 0), (1, 0)]) rfl ?_
              exact vjp_L_isWhole_62 hl0 (by intros; exact ih _ _ _ _ _ (by assumption)) _ _ _ _ _ _ h
set_option maxHeartbeats 4000000 in
set_option maxRecDepth 20000 in
def wp_L_isWhole (w : pw_W) (Q : pw_W → Int32 → Prop) (X : pw_W → Nat → Prop) : Prop := pw_rm w 200 (pw_i 40) ∧ ∀ w59, w59 = pw_nw w 200 (pw_i 40) (pw_i 40) → ∀ v61, v61 = (nI (pw_nv w 200)) → ∃ k63, lp_L_isWhole_12 Q X k63 v61 0 1 0 w59
set_option maxHeartbeats 4000000 in
set_option maxRecDepth 20000 in
theorem vw_L_isWhole {l : Launch} {g : pw_G} {Q : pw_W → Int32 → Prop} {X : pw_W → Nat → Prop} (hl0 : l.stackTraces = false) {w : pw_W} (h : wp_L_isWhole w Q X) : pw_V l g cx_L_isWhole Q X 0 [(9, 0), (1, 0), (1, 0), (1, 0), (1, 0), (1, 0), (1, 0), (1, 0)] [] w := by
  unfold wp_L_isWhole at h
  refine pv_bipush (v := 40) (n := 2) d_L_isWhole_0 (by decide) rfl ?_
  obtain ⟨g58, h⟩ := h
  refine pv_nwa_int (n := 4) (f := 200) (by decide) (by decide) rfl (by intro k; rfl) q_3 d_L_isWhole_2 (by decide) (by decide) g58 rfl (fun w59 e60 => ?_)
  replace h := h w59 e60
  refine pv_nm (fun v61 e62 => ?_)
  replace h := h v61 e62
  refine pv_astore_n (n := 5) (L' := [(9, 0), (202, v61), (1, 0), (1, 0), (1, 0), (1, 0), (1, 0), (1, 0)]) d_L_isWhole_4 rfl (by decide) rfl rfl ?_
  refine pv_iconst (v := 0) (n := 6) d_L_isWhole_5 (by decide) rfl ?_
  refine pv_istore_n (n := 7) (L' := [(9, 0), (202, v61), (0, 0), (1, 0), (1, 0), (1, 0), (1, 0), (1, 0)]) d_L_isWhole_6 rfl (by decide) rfl rfl ?_
  refine pv_iconst (v := 1) (n := 8) d_L_isWhole_7 (by decide) rfl ?_
  refine pv_istore_n (n := 9) (L' := [(9, 0), (202, v61), (0, 0), (0, 1), (1, 0), (1, 0), (1, 0), (1, 0)]) d_L_isWhole_8 rfl (by decide) rfl rfl ?_
  refine pv_iconst (v := 0) (n := 10) d_L_isWhole_9 (by decide) rfl ?_
  refine pv_istore (n := 12) (L' := [(9, 0), (202, v61), (0, 0), (0, 1), (0, 0), (1, 0), (1, 0), (1, 0)]) d_L_isWhole_10 (by decide) rfl rfl ?_
  obtain ⟨k63, h⟩ := h
  exact vlp_L_isWhole_12 hl0 _ _ _ _ _ _ h
set_option maxHeartbeats 4000000 in
set_option maxRecDepth 20000 in
theorem con_L_isWhole {l : Launch} {g : pw_G} {Q : pw_W → Int32 → Prop} {X : pw_W → Nat → Prop} (hl0 : l.stackTraces = false) {w : pw_W} (h : wp_L_isWhole w Q X) : pw_Con l g y_L_isWhole cx_L_isWhole [(9, 0)] w Q X :=
  pw_con (by decide +kernel) rfl rfl hl0 rfl (Nat.le_of_ble_eq_true rfl) (by simp) (vw_L_isWhole hl0 h)
theorem d_L_areRights_0 : decode (pw_cc cx_L_areRights) 0 = .ok (.bipush 40, 2) := by decide +kernel
theorem d_L_areRights_2 : decode (pw_cc cx_L_areRights) 2 = .ok (.newarray .int, 2) := by decide +kernel
theorem d_L_areRights_4 : decode (pw_cc cx_L_areRights) 4 = .ok (.astore_n 2, 1) := by decide +kernel
theorem d_L_areRights_5 : decode (pw_cc cx_L_areRights) 5 = .ok (.iconst 1, 1) := by decide +kernel
theorem d_L_areRights_6 : decode (pw_cc cx_L_areRights) 6 = .ok (.istore_n 3, 1) := by decide +kernel
theorem d_L_areRights_7 : decode (pw_cc cx_L_areRights) 7 = .ok (.iconst 0, 1) := by decide +kernel
theorem d_L_areRights_8 : decode (pw_cc cx_L_areRights) 8 = .ok (.istore 4, 2) := by decide +kernel
theorem d_L_areRights_10 : decode (pw_cc cx_L_areRights) 10 = .ok (.iload 4, 2) := by decide +kernel
theorem d_L_areRights_12 : decode (pw_cc cx_L_areRights) 12 = .ok (.iload_n 1, 1) := by decide +kernel
theorem d_L_areRights_13 : decode (pw_cc cx_L_areRights) 13 = .ok (.if_icmp .ge 162, 3) := by decide +kernel
theorem d_L_areRights_16 : decode (pw_cc cx_L_areRights) 16 = .ok (.iload_n 3, 1) := by decide +kernel
theorem d_L_areRights_17 : decode (pw_cc cx_L_areRights) 17 = .ok (.ifCond .eq 158, 3) := by decide +kernel
theorem d_L_areRights_20 : decode (pw_cc cx_L_areRights) 20 = .ok (.aload_n 0, 1) := by decide +kernel
theorem d_L_areRights_21 : decode (pw_cc cx_L_areRights) 21 = .ok (.iload 4, 2) := by decide +kernel
theorem d_L_areRights_23 : decode (pw_cc cx_L_areRights) 23 = .ok (.iconst 0, 1) := by decide +kernel
theorem d_L_areRights_24 : decode (pw_cc cx_L_areRights) 24 = .ok (.invokevirtual 94, 3) := by decide +kernel
theorem d_L_areRights_27 : decode (pw_cc cx_L_areRights) 27 = .ok (.istore 5, 2) := by decide +kernel
theorem d_L_areRights_29 : decode (pw_cc cx_L_areRights) 29 = .ok (.iload 5, 2) := by decide +kernel
theorem d_L_areRights_31 : decode (pw_cc cx_L_areRights) 31 = .ok (.ifCond .lt 138, 3) := by decide +kernel
theorem d_L_areRights_34 : decode (pw_cc cx_L_areRights) 34 = .ok (.aload_n 0, 1) := by decide +kernel
theorem d_L_areRights_35 : decode (pw_cc cx_L_areRights) 35 = .ok (.iload 4, 2) := by decide +kernel
theorem d_L_areRights_37 : decode (pw_cc cx_L_areRights) 37 = .ok (.iconst 1, 1) := by decide +kernel
theorem d_L_areRights_38 : decode (pw_cc cx_L_areRights) 38 = .ok (.invokevirtual 94, 3) := by decide +kernel
theorem d_L_areRights_41 : decode (pw_cc cx_L_areRights) 41 = .ok (.istore 6, 2) := by decide +kernel
theorem d_L_areRights_43 : decode (pw_cc cx_L_areRights) 43 = .ok (.aload_n 0, 1) := by decide +kernel
theorem d_L_areRights_44 : decode (pw_cc cx_L_areRights) 44 = .ok (.iload 4, 2) := by decide +kernel
theorem d_L_areRights_46 : decode (pw_cc cx_L_areRights) 46 = .ok (.iconst 4, 1) := by decide +kernel
theorem d_L_areRights_47 : decode (pw_cc cx_L_areRights) 47 = .ok (.invokevirtual 94, 3) := by decide +kernel
theorem d_L_areRights_50 : decode (pw_cc cx_L_areRights) 50 = .ok (.istore 7, 2) := by decide +kernel
theorem d_L_areRights_52 : decode (pw_cc cx_L_areRights) 52 = .ok (.aload_n 2, 1) := by decide +kernel
theorem d_L_areRights_53 : decode (pw_cc cx_L_areRights) 53 = .ok (.iload 6, 2) := by decide +kernel
theorem d_L_areRights_55 : decode (pw_cc cx_L_areRights) 55 = .ok (.dup2, 1) := by decide +kernel
theorem d_L_areRights_56 : decode (pw_cc cx_L_areRights) 56 = .ok (.iaload, 1) := by decide +kernel
theorem d_L_areRights_57 : decode (pw_cc cx_L_areRights) 57 = .ok (.aload_n 0, 1) := by decide +kernel
theorem d_L_areRights_58 : decode (pw_cc cx_L_areRights) 58 = .ok (.iload 4, 2) := by decide +kernel
theorem d_L_areRights_60 : decode (pw_cc cx_L_areRights) 60 = .ok (.iconst 3, 1) := by decide +kernel
theorem d_L_areRights_61 : decode (pw_cc cx_L_areRights) 61 = .ok (.invokevirtual 94, 3) := by decide +kernel
theorem d_L_areRights_64 : decode (pw_cc cx_L_areRights) 64 = .ok (.iadd, 1) := by decide +kernel
theorem d_L_areRights_65 : decode (pw_cc cx_L_areRights) 65 = .ok (.iastore, 1) := by decide +kernel
theorem d_L_areRights_66 : decode (pw_cc cx_L_areRights) 66 = .ok (.iload 5, 2) := by decide +kernel
theorem d_L_areRights_68 : decode (pw_cc cx_L_areRights) 68 = .ok (.iconst 3, 1) := by decide +kernel
theorem d_L_areRights_69 : decode (pw_cc cx_L_areRights) 69 = .ok (.if_icmp .ge 98, 3) := by decide +kernel
theorem d_L_areRights_72 : decode (pw_cc cx_L_areRights) 72 = .ok (.aload_n 0, 1) := by decide +kernel
theorem d_L_areRights_73 : decode (pw_cc cx_L_areRights) 73 = .ok (.iload 4, 2) := by decide +kernel
theorem d_L_areRights_75 : decode (pw_cc cx_L_areRights) 75 = .ok (.iconst 3, 1) := by decide +kernel
theorem d_L_areRights_76 : decode (pw_cc cx_L_areRights) 76 = .ok (.invokevirtual 94, 3) := by decide +kernel
theorem d_L_areRights_79 : decode (pw_cc cx_L_areRights) 79 = .ok (.ifCond .lt 88, 3) := by decide +kernel
theorem d_L_areRights_82 : decode (pw_cc cx_L_areRights) 82 = .ok (.iload 5, 2) := by decide +kernel
theorem d_L_areRights_84 : decode (pw_cc cx_L_areRights) 84 = .ok (.ifCond .eq 13, 3) := by decide +kernel
theorem d_L_areRights_87 : decode (pw_cc cx_L_areRights) 87 = .ok (.aload_n 0, 1) := by decide +kernel
theorem d_L_areRights_88 : decode (pw_cc cx_L_areRights) 88 = .ok (.iload 4, 2) := by decide +kernel
theorem d_L_areRights_90 : decode (pw_cc cx_L_areRights) 90 = .ok (.iconst 3, 1) := by decide +kernel
theorem d_L_areRights_91 : decode (pw_cc cx_L_areRights) 91 = .ok (.invokevirtual 94, 3) := by decide +kernel
theorem d_L_areRights_94 : decode (pw_cc cx_L_areRights) 94 = .ok (.ifCond .ne 73, 3) := by decide +kernel
theorem d_L_areRights_97 : decode (pw_cc cx_L_areRights) 97 = .ok (.aload_n 2, 1) := by decide +kernel
theorem d_L_areRights_98 : decode (pw_cc cx_L_areRights) 98 = .ok (.iload 6, 2) := by decide +kernel
theorem d_L_areRights_100 : decode (pw_cc cx_L_areRights) 100 = .ok (.iaload, 1) := by decide +kernel
theorem d_L_areRights_101 : decode (pw_cc cx_L_areRights) 101 = .ok (.iconst 2, 1) := by decide +kernel
theorem d_L_areRights_102 : decode (pw_cc cx_L_areRights) 102 = .ok (.aload_n 0, 1) := by decide +kernel
theorem d_L_areRights_103 : decode (pw_cc cx_L_areRights) 103 = .ok (.iload 6, 2) := by decide +kernel
theorem d_L_areRights_105 : decode (pw_cc cx_L_areRights) 105 = .ok (.invokevirtual 88, 3) := by decide +kernel
theorem d_L_areRights_108 : decode (pw_cc cx_L_areRights) 108 = .ok (.imul, 1) := by decide +kernel
theorem d_L_areRights_109 : decode (pw_cc cx_L_areRights) 109 = .ok (.if_icmp .gt 58, 3) := by decide +kernel
theorem d_L_areRights_112 : decode (pw_cc cx_L_areRights) 112 = .ok (.iload 7, 2) := by decide +kernel
theorem d_L_areRights_114 : decode (pw_cc cx_L_areRights) 114 = .ok (.iload 4, 2) := by decide +kernel
theorem d_L_areRights_116 : decode (pw_cc cx_L_areRights) 116 = .ok (.if_icmp .ge 51, 3) := by decide +kernel
theorem d_L_areRights_119 : decode (pw_cc cx_L_areRights) 119 = .ok (.iload 7, 2) := by decide +kernel
theorem d_L_areRights_121 : decode (pw_cc cx_L_areRights) 121 = .ok (.ifCond .lt 42, 3) := by decide +kernel
theorem d_L_areRights_124 : decode (pw_cc cx_L_areRights) 124 = .ok (.aload_n 0, 1) := by decide +kernel
theorem d_L_areRights_125 : decode (pw_cc cx_L_areRights) 125 = .ok (.iload 7, 2) := by decide +kernel
theorem d_L_areRights_127 : decode (pw_cc cx_L_areRights) 127 = .ok (.iconst 0, 1) := by decide +kernel
theorem d_L_areRights_128 : decode (pw_cc cx_L_areRights) 128 = .ok (.invokevirtual 94, 3) := by decide +kernel
theorem d_L_areRights_131 : decode (pw_cc cx_L_areRights) 131 = .ok (.ifCond .lt 32, 3) := by decide +kernel
theorem d_L_areRights_134 : decode (pw_cc cx_L_areRights) 134 = .ok (.aload_n 0, 1) := by decide +kernel
theorem d_L_areRights_135 : decode (pw_cc cx_L_areRights) 135 = .ok (.iload 7, 2) := by decide +kernel
theorem d_L_areRights_137 : decode (pw_cc cx_L_areRights) 137 = .ok (.iconst 0, 1) := by decide +kernel
theorem d_L_areRights_138 : decode (pw_cc cx_L_areRights) 138 = .ok (.invokevirtual 94, 3) := by decide +kernel
theorem d_L_areRights_141 : decode (pw_cc cx_L_areRights) 141 = .ok (.iload 5, 2) := by decide +kernel
theorem d_L_areRights_143 : decode (pw_cc cx_L_areRights) 143 = .ok (.if_icmp .ne 24, 3) := by decide +kernel
theorem d_L_areRights_146 : decode (pw_cc cx_L_areRights) 146 = .ok (.aload_n 0, 1) := by decide +kernel
theorem d_L_areRights_147 : decode (pw_cc cx_L_areRights) 147 = .ok (.iload 7, 2) := by decide +kernel
theorem d_L_areRights_149 : decode (pw_cc cx_L_areRights) 149 = .ok (.iconst 2, 1) := by decide +kernel
theorem d_L_areRights_150 : decode (pw_cc cx_L_areRights) 150 = .ok (.invokevirtual 94, 3) := by decide +kernel
theorem d_L_areRights_153 : decode (pw_cc cx_L_areRights) 153 = .ok (.aload_n 0, 1) := by decide +kernel
theorem d_L_areRights_154 : decode (pw_cc cx_L_areRights) 154 = .ok (.iload 4, 2) := by decide +kernel
theorem d_L_areRights_156 : decode (pw_cc cx_L_areRights) 156 = .ok (.iconst 2, 1) := by decide +kernel
theorem d_L_areRights_157 : decode (pw_cc cx_L_areRights) 157 = .ok (.invokevirtual 94, 3) := by decide +kernel
theorem d_L_areRights_160 : decode (pw_cc cx_L_areRights) 160 = .ok (.if_icmp .ne 7, 3) := by decide +kernel
theorem d_L_areRights_163 : decode (pw_cc cx_L_areRights) 163 = .ok (.iconst 1, 1) := by decide +kernel
theorem d_L_areRights_164 : decode (pw_cc cx_L_areRights) 164 = .ok (.goto 4, 3) := by decide +kernel
theorem d_L_areRights_167 : decode (pw_cc cx_L_areRights) 167 = .ok (.iconst 0, 1) := by decide +kernel
theorem d_L_areRights_168 : decode (pw_cc cx_L_areRights) 168 = .ok (.istore_n 3, 1) := by decide +kernel
theorem d_L_areRights_169 : decode (pw_cc cx_L_areRights) 169 = .ok (.iinc 4 1, 3) := by decide +kernel
theorem d_L_areRights_172 : decode (pw_cc cx_L_areRights) 172 = .ok (.goto (-162), 3) := by decide +kernel
theorem d_L_areRights_175 : decode (pw_cc cx_L_areRights) 175 = .ok (.iload_n 3, 1) := by decide +kernel
theorem d_L_areRights_176 : decode (pw_cc cx_L_areRights) 176 = .ok (.ireturn, 1) := by decide +kernel
set_option maxHeartbeats 4000000 in
set_option maxRecDepth 20000 in
def jp_L_areRights_97 (Q : pw_W → Int32 → Prop) (X : pw_W → Nat → Prop) (K10 : Int32 → Int32 → Int32 → Int32 → pw_W → Prop) (a1 a2 a4 a5 a6 a7 : Int32) (w : pw_W) : Prop := 0 ≤ a2 ∧ pw_jn a6 (pw_ln w 200 (pw_i a2)) ∧ wp_X_area w a6 (fun w3 r4 => (((2 : Int32) * r4) < (w.1 200 (pw_i a2) (pw_i a6)) → K10 a1 a2 0 (a4 + 1) w3) ∧ (¬ ((2 : Int32) * r4) < (w.1 200 (pw_i a2) (pw_i a6)) → (a4 ≤ a7 → K10 a1 a2 0 (a4 + 1) w3) ∧ (¬ a4 ≤ a7 → (a7 < 0 → K10 a1 a2 1 (a4 + 1) w3) ∧ (¬ a7 < 0 → wp_X_rightAt w3 a7 0 (fun w8 r9 => (r9 < 0 → K10 a1 a2 1 (a4 + 1) w8) ∧ (¬ r9 < 0 → wp_X_rightAt w8 a7 0 (fun w11 r12 => (¬ r12 = a5 → K10 a1 a2 0 (a4 + 1) w11) ∧ (r12 = a5 → wp_X_rightAt w11 a7 2 (fun w14 r15 => wp_X_rightAt w14 a4 2 (fun w16 r17 => (¬ r15 = r17 → K10 a1 a2 0 (a4 + 1) w16) ∧ (r15 = r17 → K10 a1 a2 1 (a4 + 1) w16)) X) X)) X)) X)))) X
set_option maxHeartbeats 4000000 in
set_option maxRecDepth 20000 in
theorem vjp_L_areRights_97 {l : Launch} {g : pw_G} {Q : pw_W → Int32 → Prop} {X : pw_W → Nat → Prop} (hl0 : l.stackTraces = false) {K10 : Int32 → Int32 → Int32 → Int32 → pw_W → Prop} (hK10 : ∀ (a1 a2 a3 a4 : Int32) (w : pw_W), K10 a1 a2 a3 a4 w → pw_V l g cx_L_areRights Q X 10 [(9, 0), (0, a1), (202, a2), (0, a3), (0, a4), (1, 0), (1, 0), (1, 0)] [] w) (a1 a2 a4 a5 a6 a7 : Int32) (w : pw_W) (h : jp_L_areRights_97 Q X K10 a1 a2 a4 a5 a6 a7 w) : pw_V l g cx_L_areRights Q X 97 [(9, 0), (0, a1), (202, a2), (1, 0), (0, a4), (0, a5), (0, a6), (0, a7)] [] w := by
  unfold jp_L_areRights_97 at h
  refine pv_aload_n (n := 98) d_L_areRights_97 rfl rfl rfl ?_
  refine pv_iload (n := 100) d_L_areRights_98 rfl rfl ?_
  obtain ⟨g1, h⟩ := h
  obtain ⟨g2, h⟩ := h
  refine pv_iald (n := 101) (f := 200) (by decide) rfl d_L_areRights_100 g1 g2 rfl ?_
  refine pv_iconst (v := 2) (n := 102) d_L_areRights_101 (by decide) rfl ?_
  refine pv_aload_n (n := 103) d_L_areRights_102 rfl rfl rfl ?_
  refine pv_iload (n := 105) d_L_areRights_103 rfl rfl ?_
  refine pv_callV (n := 108) (x := 0) [(0, a6)] [(0, 2), (0, (w.1 200 (pw_i a2) (pw_i a6)))] (con_X_area hl0 h) pw_cf7 rfl q_497 q_498 q_499 q_62 q_496 pyo_X_area (by decide) rfl rfl (by decide) d_L_areRights_105 rfl (fun w3 r4 h _ => ?_) (fun _ _ h => pvx_out rfl h)
  show pw_V l g cx_L_areRights Q X 108 [(9, 0), (0, a1), (202, a2), (1, 0), (0, a4), (0, a5), (0, a6), (0, a7)] [(0, r4), (0, 2), (0, (w.1 200 (pw_i a2) (pw_i a6)))] w3
  refine pv_imul (n := 109) d_L_areRights_108 rfl ?_
  refine pv_icmp_gt (n := 112) (tgt := 167) d_L_areRights_109 (by decide) rfl (fun c5 => ?_) (fun c5 => ?_)
  · replace h := h.1 c5
    refine pv_iconst (v := 0) (n := 168) d_L_areRights_167 (by decide) rfl ?_
    refine pv_istore_n (n := 169) (L' := [(9, 0), (0, a1), (202, a2), (0, 0), (0, a4), (0, a5), (0, a6), (0, a7)]) d_L_areRights_168 rfl (by decide) rfl rfl ?_
    refine pv_iinc (v := (a4 + 1)) (n := 172) (L1 := [(9, 0), (0, a1), (202, a2), (0, 0), (0, (a4 + 1)), (0, a5), (0, a6), (0, a7)]) d_L_areRights_169 rfl rfl rfl (by decide) rfl ?_
    refine pv_goto (tgt := 10) d_L_areRights_172 (by decide) ?_
    refine pv_unset (i := 5) (L1 := [(9, 0), (0, a1), (202, a2), (0, 0), (0, (a4 + 1)), (1, 0), (0, a6), (0, a7)]) rfl ?_
    refine pv_unset (i := 6) (L1 := [(9, 0), (0, a1), (202, a2), (0, 0), (0, (a4 + 1)), (1, 0), (1, 0), (0, a7)]) rfl ?_
    refine pv_unset (i := 7) (L1 := [(9, 0), (0, a1), (202, a2), (0, 0), (0, (a4 + 1)), (1, 0), (1, 0), (1, 0)]) rfl ?_
    exact hK10 _ _ _ _ _ h
  · replace h := h.2 c5
    refine pv_iload (n := 114) d_L_areRights_112 rfl rfl ?_
    refine pv_iload (n := 116) d_L_areRights_114 rfl rfl ?_
    refine pv_icmp_ge (n := 119) (tgt := 167) d_L_areRights_116 (by decide) rfl (fun c6 => ?_) (fun c6 => ?_)
    · replace h := h.1 c6
      refine pv_iconst (v := 0) (n := 168) d_L_areRights_167 (by decide) rfl ?_
      refine pv_istore_n (n := 169) (L' := [(9, 0), (0, a1), (202, a2), (0, 0), (0, a4), (0, a5), (0, a6), (0, a7)]) d_L_areRights_168 rfl (by decide) rfl rfl ?_
      refine pv_iinc (v := (a4 + 1)) (n := 172) (L1 := [(9, 0), (0, a1), (202, a2), (0, 0), (0, (a4 + 1)), (0, a5), (0, a6), (0, a7)]) d_L_areRights_169 rfl rfl rfl (by decide) rfl ?_
      refine pv_goto (tgt := 10) d_L_areRights_172 (by decide) ?_
      refine pv_unset (i := 5) (L1 := [(9, 0), (0, a1), (202, a2), (0, 0), (0, (a4 + 1)), (1, 0), (0, a6), (0, a7)]) rfl ?_
      refine pv_unset (i := 6) (L1 := [(9, 0), (0, a1), (202, a2), (0, 0), (0, (a4 + 1)), (1, 0), (1, 0), (0, a7)]) rfl ?_
      refine pv_unset (i := 7) (L1 := [(9, 0), (0, a1), (202, a2), (0, 0), (0, (a4 + 1)), (1, 0), (1, 0), (1, 0)]) rfl ?_
      exact hK10 _ _ _ _ _ h
    · replace h := h.2 c6
      refine pv_iload (n := 121) d_L_areRights_119 rfl rfl ?_
      refine pv_if_lt (n := 124) (tgt := 163) d_L_areRights_121 (by decide) rfl (fun c7 => ?_) (fun c7 => ?_)
      · replace h := h.1 c7
        refine pv_iconst (v := 1) (n := 164) d_L_areRights_163 (by decide) rfl ?_
        refine pv_goto (tgt := 168) d_L_areRights_164 (by decide) ?_
        refine pv_istore_n (n := 169) (L' := [(9, 0), (0, a1), (202, a2), (0, 1), (0, a4), (0, a5), (0, a6), (0, a7)]) d_L_areRights_168 rfl (by decide) rfl rfl ?_
        refine pv_iinc (v := (a4 + 1)) (n := 172) (L1 := [(9, 0), (0, a1), (202, a2), (0, 1), (0, (a4 + 1)), (0, a5), (0, a6), (0, a7)]) d_L_areRights_169 rfl rfl rfl (by decide) rfl ?_
        refine pv_goto (tgt := 10) d_L_areRights_172 (by decide) ?_
        refine pv_unset (i := 5) (L1 := [(9, 0), (0, a1), (202, a2), (0, 1), (0, (a4 + 1)), (1, 0), (0, a6), (0, a7)]) rfl ?_
        refine pv_unset (i := 6) (L1 := [(9, 0), (0, a1), (202, a2), (0, 1), (0, (a4 + 1)), (1, 0), (1, 0), (0, a7)]) rfl ?_
        refine pv_unset (i := 7) (L1 := [(9, 0), (0, a1), (202, a2), (0, 1), (0, (a4 + 1)), (1, 0), (1, 0), (1, 0)]) rfl ?_
        exact hK10 _ _ _ _ _ h
      · replace h := h.2 c7
        refine pv_aload_n (n := 125) d_L_areRights_124 rfl rfl rfl ?_
        refine pv_iload (n := 127) d_L_areRights_125 rfl rfl ?_
        refine pv_iconst (v := 0) (n := 128) d_L_areRights_127 (by decide) rfl ?_
        refine pv_callV (n := 131) (x := 0) [(0, a7), (0, 0)] [] (con_X_rightAt hl0 h) pw_cf7 rfl q_517 q_518 q_519 q_62 q_516 pyo_X_rightAt (by decide) rfl rfl (by decide) d_L_areRights_128 rfl (fun w8 r9 h _ => ?_) (fun _ _ h => pvx_out rfl h)
        show pw_V l g cx_L_areRights Q X 131 [(9, 0), (0, a1), (202, a2), (1, 0), (0, a4), (0, a5), (0, a6), (0, a7)] [(0, r9)] w8
        refine pv_if_lt (n := 134) (tgt := 163) d_L_areRights_131 (by decide) rfl (fun c10 => ?_) (fun c10 => ?_)
        · replace h := h.1 c10
          refine pv_iconst (v := 1) (n := 164) d_L_areRights_163 (by decide) rfl ?_
          refine pv_goto (tgt := 168) d_L_areRights_164 (by decide) ?_
          refine pv_istore_n (n := 169) (L' := [(9, 0), (0, a1), (202, a2), (0, 1), (0, a4), (0, a5), (0, a6), (0, a7)]) d_L_areRights_168 rfl (by decide) rfl rfl ?_
          refine pv_iinc (v := (a4 + 1)) (n := 172) (L1 := [(9, 0), (0, a1), (202, a2), (0, 1), (0, (a4 + 1)), (0, a5), (0, a6), (0, a7)]) d_L_areRights_169 rfl rfl rfl (by decide) rfl ?_
          refine pv_goto (tgt := 10) d_L_areRights_172 (by decide) ?_
          refine pv_unset (i := 5) (L1 := [(9, 0), (0, a1), (202, a2), (0, 1), (0, (a4 + 1)), (1, 0), (0, a6), (0, a7)]) rfl ?_
          refine pv_unset (i := 6) (L1 := [(9, 0), (0, a1), (202, a2), (0, 1), (0, (a4 + 1)), (1, 0), (1, 0), (0, a7)]) rfl ?_
          refine pv_unset (i := 7) (L1 := [(9, 0), (0, a1), (202, a2), (0, 1), (0, (a4 + 1)), (1, 0), (1, 0), (1, 0)]) rfl ?_
          exact hK10 _ _ _ _ _ h
        · replace h := h.2 c10
          refine pv_aload_n (n := 135) d_L_areRights_134 rfl rfl rfl ?_
          refine pv_iload (n := 137) d_L_areRights_135 rfl rfl ?_
          refine pv_iconst (v := 0) (n := 138) d_L_areRights_137 (by decide) rfl ?_
          refine pv_callV (n := 141) (x := 0) [(0, a7), (0, 0)] [] (con_X_rightAt hl0 h) pw_cf7 rfl q_517 q_518 q_519 q_62 q_516 pyo_X_rightAt (by decide) rfl rfl (by decide) d_L_areRights_138 rfl (fun w11 r12 h _ => ?_) (fun _ _ h => pvx_out rfl h)
          show pw_V l g cx_L_areRights Q X 141 [(9, 0), (0, a1), (202, a2), (1, 0), (0, a4), (0, a5), (0, a6), (0, a7)] [(0, r12)] w11
          refine pv_iload (n := 143) d_L_areRights_141 rfl rfl ?_
          refine pv_icmp_ne (n := 146) (tgt := 167) d_L_areRights_143 (by decide) rfl (fun c13 => ?_) (fun c13 => ?_)
          · replace h := h.1 c13
            refine pv_iconst (v := 0) (n := 168) d_L_areRights_167 (by decide) rfl ?_
            refine pv_istore_n (n := 169) (L' := [(9, 0), (0, a1), (202, a2), (0, 0), (0, a4), (0, a5), (0, a6), (0, a7)]) d_L_areRights_168 rfl (by decide) rfl rfl ?_
            refine pv_iinc (v := (a4 + 1)) (n := 172) (L1 := [(9, 0), (0, a1), (202, a2), (0, 0), (0, (a4 + 1)), (0, a5), (0, a6), (0, a7)]) d_L_areRights_169 rfl rfl rfl (by decide) rfl ?_
            refine pv_goto (tgt := 10) d_L_areRights_172 (by decide) ?_
            refine pv_unset (i := 5) (L1 := [(9, 0), (0, a1), (202, a2), (0, 0), (0, (a4 + 1)), (1, 0), (0, a6), (0, a7)]) rfl ?_
            refine pv_unset (i := 6) (L1 := [(9, 0), (0, a1), (202, a2), (0, 0), (0, (a4 + 1)), (1, 0), (1, 0), (0, a7)]) rfl ?_
            refine pv_unset (i := 7) (L1 := [(9, 0), (0, a1), (202, a2), (0, 0), (0, (a4 + 1)), (1, 0), (1, 0), (1, 0)]) rfl ?_
            exact hK10 _ _ _ _ _ h
          · replace h := h.2 c13
            refine pv_aload_n (n := 147) d_L_areRights_146 rfl rfl rfl ?_
            refine pv_iload (n := 149) d_L_areRights_147 rfl rfl ?_
            refine pv_iconst (v := 2) (n := 150) d_L_areRights_149 (by decide) rfl ?_
            refine pv_callV (n := 153) (x := 0) [(0, a7), (0, 2)] [] (con_X_rightAt hl0 h) pw_cf7 rfl q_517 q_518 q_519 q_62 q_516 pyo_X_rightAt (by decide) rfl rfl (by decide) d_L_areRights_150 rfl (fun w14 r15 h _ => ?_) (fun _ _ h => pvx_out rfl h)
            show pw_V l g cx_L_areRights Q X 153 [(9, 0), (0, a1), (202, a2), (1, 0), (0, a4), (0, a5), (0, a6), (0, a7)] [(0, r15)] w14
            refine pv_aload_n (n := 154) d_L_areRights_153 rfl rfl rfl ?_
            refine pv_iload (n := 156) d_L_areRights_154 rfl rfl ?_
            refine pv_iconst (v := 2) (n := 157) d_L_areRights_156 (by decide) rfl ?_
            refine pv_callV (n := 160) (x := 0) [(0, a4), (0, 2)] [(0, r15)] (con_X_rightAt hl0 h) pw_cf7 rfl q_517 q_518 q_519 q_62 q_516 pyo_X_rightAt (by decide) rfl rfl (by decide) d_L_areRights_157 rfl (fun w16 r17 h _ => ?_) (fun _ _ h => pvx_out rfl h)
            show pw_V l g cx_L_areRights Q X 160 [(9, 0), (0, a1), (202, a2), (1, 0), (0, a4), (0, a5), (0, a6), (0, a7)] [(0, r17), (0, r15)] w16
            refine pv_icmp_ne (n := 163) (tgt := 167) d_L_areRights_160 (by decide) rfl (fun c18 => ?_) (fun c18 => ?_)
            · replace h := h.1 c18
              refine pv_iconst (v := 0) (n := 168) d_L_areRights_167 (by decide) rfl ?_
              refine pv_istore_n (n := 169) (L' := [(9, 0), (0, a1), (202, a2), (0, 0), (0, a4), (0, a5), (0, a6), (0, a7)]) d_L_areRights_168 rfl (by decide) rfl rfl ?_
              refine pv_iinc (v := (a4 + 1)) (n := 172) (L1 := [(9, 0), (0, a1), (202, a2), (0, 0), (0, (a4 + 1)), (0, a5), (0, a6), (0, a7)]) d_L_areRights_169 rfl rfl rfl (by decide) rfl ?_
              refine pv_goto (tgt := 10) d_L_areRights_172 (by decide) ?_
              refine pv_unset (i := 5) (L1 := [(9, 0), (0, a1), (202, a2), (0, 0), (0, (a4 + 1)), (1, 0), (0, a6), (0, a7)]) rfl ?_
              refine pv_unset (i := 6) (L1 := [(9, 0), (0, a1), (202, a2), (0, 0), (0, (a4 + 1)), (1, 0), (1, 0), (0, a7)]) rfl ?_
              refine pv_unset (i := 7) (L1 := [(9, 0), (0, a1), (202, a2), (0, 0), (0, (a4 + 1)), (1, 0), (1, 0), (1, 0)]) rfl ?_
              exact hK10 _ _ _ _ _ h
            · replace h := h.2 c18
              refine pv_iconst (v := 1) (n := 164) d_L_areRights_163 (by decide) rfl ?_
              refine pv_goto (tgt := 168) d_L_areRights_164 (by decide) ?_
              refine pv_istore_n (n := 169) (L' := [(9, 0), (0, a1), (202, a2), (0, 1), (0, a4), (0, a5), (0, a6), (0, a7)]) d_L_areRights_168 rfl (by decide) rfl rfl ?_
              refine pv_iinc (v := (a4 + 1)) (n := 172) (L1 := [(9, 0), (0, a1), (202, a2), (0, 1), (0, (a4 + 1)), (0, a5), (0, a6), (0, a7)]) d_L_areRights_169 rfl rfl rfl (by decide) rfl ?_
              refine pv_goto (tgt := 10) d_L_areRights_172 (by decide) ?_
              refine pv_unset (i := 5) (L1 := [(9, 0), (0, a1), (202, a2), (0, 1), (0, (a4 + 1)), (1, 0), (0, a6), (0, a7)]) rfl ?_
              refine pv_unset (i := 6) (L1 := [(9, 0), (0, a1), (202, a2), (0, 1), (0, (a4 + 1)), (1, 0), (1, 0), (0, a7)]) rfl ?_
              refine pv_unset (i := 7) (L1 := [(9, 0), (0, a1), (202, a2), (0, 1), (0, (a4 + 1)), (1, 0), (1, 0), (1, 0)]) rfl ?_
              exact hK10 _ _ _ _ _ h
set_option maxHeartbeats 4000000 in
set_option maxRecDepth 20000 in
def lp_L_areRights_10 (Q : pw_W → Int32 → Prop) (X : pw_W → Nat → Prop) : Nat → Int32 → Int32 → Int32 → Int32 → pw_W → Prop := fun k => Nat.rec (motive := fun _ => Int32 → Int32 → Int32 → Int32 → pw_W → Prop) (fun _ _ _ _ _ => False) (fun _ ih a1 a2 a3 a4 w => (a1 ≤ a4 → (a3 = 0 ∨ a3 = 1) ∧ Q w a3) ∧ (¬ a1 ≤ a4 → (a3 = 0 → (a3 = 0 ∨ a3 = 1) ∧ Q w a3) ∧ (¬ a3 = 0 → wp_X_rightAt w a4 0 (fun w23 r24 => (r24 < 0 → ih a1 a2 a3 (a4 + 1) w23) ∧ (¬ r24 < 0 → wp_X_rightAt w23 a4 1 (fun w26 r27 => wp_X_rightAt w26 a4 4 (fun w28 r29 => 0 ≤ a2 ∧ pw_jn r27 (pw_ln w28 200 (pw_i a2)) ∧ wp_X_rightAt w28 a4 3 (fun w32 r33 => pw_jn r27 (pw_ln w32 200 (pw_i a2)) ∧ ∀ w35, w35 = pw_ps w32 200 (pw_i a2) (pw_i r27) ((w28.1 200 (pw_i a2) (pw_i r27)) + r33) → ((3 : Int32) ≤ r24 → ih a1 a2 0 (a4 + 1) w35) ∧ (¬ (3 : Int32) ≤ r24 → wp_X_rightAt w35 a4 3 (fun w38 r39 => (r39 < 0 → ih a1 a2 0 (a4 + 1) w38) ∧ (¬ r39 < 0 → (r24 = 0 → jp_L_areRights_97 Q X ih a1 a2 a4 r24 r27 r29 w38) ∧ (¬ r24 = 0 → wp_X_rightAt w38 a4 3 (fun w42 r43 => (¬ r43 = 0 → ih a1 a2 0 (a4 + 1) w42) ∧ (r43 = 0 → jp_L_areRights_97 Q X ih a1 a2 a4 r24 r27 r29 w42)) X))) X)) X) X) X)) X))) k
set_option maxHeartbeats 4000000 in
set_option maxRecDepth 20000 in
theorem lp_L_areRights_10_s {Q : pw_W → Int32 → Prop} {X : pw_W → Nat → Prop}  {k : Nat} {a1 a2 a3 a4 : Int32} {w : pw_W} : lp_L_areRights_10 Q X (k + 1) a1 a2 a3 a4 w = (let ih := lp_L_areRights_10 Q X k; (a1 ≤ a4 → (a3 = 0 ∨ a3 = 1) ∧ Q w a3) ∧ (¬ a1 ≤ a4 → (a3 = 0 → (a3 = 0 ∨ a3 = 1) ∧ Q w a3) ∧ (¬ a3 = 0 → wp_X_rightAt w a4 0 (fun w23 r24 => (r24 < 0 → ih a1 a2 a3 (a4 + 1) w23) ∧ (¬ r24 < 0 → wp_X_rightAt w23 a4 1 (fun w26 r27 => wp_X_rightAt w26 a4 4 (fun w28 r29 => 0 ≤ a2 ∧ pw_jn r27 (pw_ln w28 200 (pw_i a2)) ∧ wp_X_rightAt w28 a4 3 (fun w32 r33 => pw_jn r27 (pw_ln w32 200 (pw_i a2)) ∧ ∀ w35, w35 = pw_ps w32 200 (pw_i a2) (pw_i r27) ((w28.1 200 (pw_i a2) (pw_i r27)) + r33) → ((3 : Int32) ≤ r24 → ih a1 a2 0 (a4 + 1) w35) ∧ (¬ (3 : Int32) ≤ r24 → wp_X_rightAt w35 a4 3 (fun w38 r39 => (r39 < 0 → ih a1 a2 0 (a4 + 1) w38) ∧ (¬ r39 < 0 → (r24 = 0 → jp_L_areRights_97 Q X ih a1 a2 a4 r24 r27 r29 w38) ∧ (¬ r24 = 0 → wp_X_rightAt w38 a4 3 (fun w42 r43 => (¬ r43 = 0 → ih a1 a2 0 (a4 + 1) w42) ∧ (r43 = 0 → jp_L_areRights_97 Q X ih a1 a2 a4 r24 r27 r29 w42)) X))) X)) X) X) X)) X))) := rfl
set_option maxHeartbeats 4000000 in
set_option maxRecDepth 20000 in
theorem vlp_L_areRights_10 {l : Launch} {g : pw_G} {Q : pw_W → Int32 → Prop} {X : pw_W → Nat → Prop} (hl0 : l.stackTraces = false) : ∀ (k : Nat) (a1 a2 a3 a4 : Int32) (w : pw_W), lp_L_areRights_10 Q X k a1 a2 a3 a4 w → pw_V l g cx_L_areRights Q X 10 [(9, 0), (0, a1), (202, a2), (0, a3), (0, a4), (1, 0), (1, 0), (1, 0)] [] w := by
  intro k; induction k with
  | zero => intro _ _ _ _ _ h; exact h.elim
  | succ k ih =>
    intro a1 a2 a3 a4 w h
    rw [lp_L_areRights_10_s] at h
    refine pv_iload (n := 12) d_L_areRights_10 rfl rfl ?_
    refine pv_iload_n (n := 13) d_L_areRights_12 rfl rfl rfl ?_
    refine pv_icmp_ge (n := 16) (tgt := 175) d_L_areRights_13 (by decide) rfl (fun c19 => ?_) (fun c19 => ?_)
    · replace h := h.1 c19
      refine pv_iload_n (n := 176) d_L_areRights_175 rfl rfl rfl ?_
      obtain ⟨g20, h⟩ := h
      exact pv_zret rfl rfl d_L_areRights_176 g20 h
    · replace h := h.2 c19
      refine pv_iload_n (n := 17) d_L_areRights_16 rfl rfl rfl ?_
      refine pv_if_eq (n := 20) (tgt := 175) d_L_areRights_17 (by decide) rfl (fun c21 => ?_) (fun c21 => ?_)
      · replace h := h.1 c21
        refine pv_iload_n (n := 176) d_L_areRights_175 rfl rfl rfl ?_
        obtain ⟨g22, h⟩ := h
        exact pv_zret rfl rfl d_L_areRights_176 g22 h
      · replace h := h.2 c21
        refine pv_aload_n (n := 21) d_L_areRights_20 rfl rfl rfl ?_
        refine pv_iload (n := 23) d_L_areRights_21 rfl rfl ?_
        refine pv_iconst (v := 0) (n := 24) d_L_areRights_23 (by decide) rfl ?_
        refine pv_callV (n := 27) (x := 0) [(0, a4), (0, 0)] [] (con_X_rightAt hl0 h) pw_cf7 rfl q_517 q_518 q_519 q_62 q_516 pyo_X_rightAt (by decide) rfl rfl (by decide) d_L_areRights_24 rfl (fun w23 r24 h _ => ?_) (fun _ _ h => pvx_out rfl h)
        show pw_V l g cx_L_areRights Q X 27 [(9, 0), (0, a1), (202, a2), (0, a3), (0, a4), (1, 0), (1, 0), (1, 0)] [(0, r24)] w23
        refine pv_istore (n := 29) (L' := [(9, 0), (0, a1), (202, a2), (0, a3), (0, a4), (0, r24), (1, 0), (1, 0)]) d_L_areRights_27 (by decide) rfl rfl ?_
        refine pv_iload (n := 31) d_L_areRights_29 rfl rfl ?_
        refine pv_if_lt (n := 34) (tgt := 169) d_L_areRights_31 (by decide) rfl (fun c25 => ?_) (fun c25 => ?_)
        · replace h := h.1 c25
          refine pv_iinc (v := (a4 + 1)) (n := 172) (L1 := [(9, 0), (0, a1), (202, a2), (0, a3), (0, (a4 + 1)), (0, r24), (1, 0), (1, 0)]) d_L_areRights_169 rfl rfl rfl (by decide) rfl ?_
          refine pv_goto (tgt := 10) d_L_areRights_172 (by decide) ?_
          refine pv_unset (i := 5) (L1 := [(9, 0), (0, a1), (202, a2), (0, a3), (0, (a4 + 1)), (1, 0), (1, 0), (1, 0)]) rfl ?_
          exact ih _ _ _ _ _ h
        · replace h := h.2 c25
          refine pv_aload_n (n := 35) d_L_areRights_34 rfl rfl rfl ?_
          refine pv_iload (n := 37) d_L_areRights_35 rfl rfl ?_
          refine pv_iconst (v := 1) (n := 38) d_L_areRights_37 (by decide) rfl ?_
          refine pv_callV (n := 41) (x := 0) [(0, a4), (0, 1)] [] (con_X_rightAt hl0 h) pw_cf7 rfl q_517 q_518 q_519 q_62 q_516 pyo_X_rightAt (by decide) rfl rfl (by decide) d_L_areRights_38 rfl (fun w26 r27 h _ => ?_) (fun _ _ h => pvx_out rfl h)
          show pw_V l g cx_L_areRights Q X 41 [(9, 0), (0, a1), (202, a2), (0, a3), (0, a4), (0, r24), (1, 0), (1, 0)] [(0, r27)] w26
          refine pv_istore (n := 43) (L' := [(9, 0), (0, a1), (202, a2), (0, a3), (0, a4), (0, r24), (0, r27), (1, 0)]) d_L_areRights_41 (by decide) rfl rfl ?_
          refine pv_aload_n (n := 44) d_L_areRights_43 rfl rfl rfl ?_
          refine pv_iload (n := 46) d_L_areRights_44 rfl rfl ?_
          refine pv_iconst (v := 4) (n := 47) d_L_areRights_46 (by decide) rfl ?_
          refine pv_callV (n := 50) (x := 0) [(0, a4), (0, 4)] [] (con_X_rightAt hl0 h) pw_cf7 rfl q_517 q_518 q_519 q_62 q_516 pyo_X_rightAt (by decide) rfl rfl (by decide) d_L_areRights_47 rfl (fun w28 r29 h _ => ?_) (fun _ _ h => pvx_out rfl h)
          show pw_V l g cx_L_areRights Q X 50 [(9, 0), (0, a1), (202, a2), (0, a3), (0, a4), (0, r24), (0, r27), (1, 0)] [(0, r29)] w28
          refine pv_istore (n := 52) (L' := [(9, 0), (0, a1), (202, a2), (0, a3), (0, a4), (0, r24), (0, r27), (0, r29)]) d_L_areRights_50 (by decide) rfl rfl ?_
          refine pv_aload_n (n := 53) d_L_areRights_52 rfl rfl rfl ?_
          refine pv_iload (n := 55) d_L_areRights_53 rfl rfl ?_
          refine pv_dup2 (n := 56) d_L_areRights_55 (by decide) (by decide) rfl ?_
          obtain ⟨g30, h⟩ := h
          obtain ⟨g31, h⟩ := h
          refine pv_iald (n := 57) (f := 200) (by decide) rfl d_L_areRights_56 g30 g31 rfl ?_
          refine pv_aload_n (n := 58) d_L_areRights_57 rfl rfl rfl ?_
          refine pv_iload (n := 60) d_L_areRights_58 rfl rfl ?_
          refine pv_iconst (v := 3) (n := 61) d_L_areRights_60 (by decide) rfl ?_
          refine pv_callV (n := 64) (x := 0) [(0, a4), (0, 3)] [(0, (w28.1 200 (pw_i a2) (pw_i r27))), (0, r27), (202, a2)] (con_X_rightAt hl0 h) pw_cf7 rfl q_517 q_518 q_519 q_62 q_516 pyo_X_rightAt (by decide) rfl rfl (by decide) d_L_areRights_61 rfl (fun w32 r33 h _ => ?_) (fun _ _ h => pvx_out rfl h)
          show pw_V l g cx_L_areRights Q X 64 [(9, 0), (0, a1), (202, a2), (0, a3), (0, a4), (0, r24), (0, r27), (0, r29)] [(0, r33), (0, (w28.1 200 (pw_i a2) (pw_i r27))), (0, r27), (202, a2)] w32
          refine pv_iadd (n := 65) d_L_areRights_64 rfl ?_
          obtain ⟨g34, h⟩ := h
          refine pv_iast1 (n := 66) (f := 200) (by decide) rfl (fun _ => rfl) d_L_areRights_65 g30 g34 rfl (fun w35 e36 => ?_)
          replace h := h w35 e36
          refine pv_iload (n := 68) d_L_areRights_66 rfl rfl ?_
          refine pv_iconst (v := 3) (n := 69) d_L_areRights_68 (by decide) rfl ?_
          refine pv_icmp_ge (n := 72) (tgt := 167) d_L_areRights_69 (by decide) rfl (fun c37 => ?_) (fun c37 => ?_)
          · replace h := h.1 c37
            refine pv_iconst (v := 0) (n := 168) d_L_areRights_167 (by decide) rfl ?_
            refine pv_istore_n (n := 169) (L' := [(9, 0), (0, a1), (202, a2), (0, 0), (0, a4), (0, r24), (0, r27), (0, r29)]) d_L_areRights_168 rfl (by decide) rfl rfl ?_
            refine pv_iinc (v := (a4 + 1)) (n := 172) (L1 := [(9, 0), (0, a1), (202, a2), (0, 0), (0, (a4 + 1)), (0, r24), (0, r27), (0, r29)]) d_L_areRights_169 rfl rfl rfl (by decide) rfl ?_
            refine pv_goto (tgt := 10) d_L_areRights_172 (by decide) ?_
            refine pv_unset (i := 5) (L1 := [(9, 0), (0, a1), (202, a2), (0, 0), (0, (a4 + 1)), (1, 0), (0, r27), (0, r29)]) rfl ?_
            refine pv_unset (i := 6) (L1 := [(9, 0), (0, a1), (202, a2), (0, 0), (0, (a4 + 1)), (1, 0), (1, 0), (0, r29)]) rfl ?_
            refine pv_unset (i := 7) (L1 := [(9, 0), (0, a1), (202, a2), (0, 0), (0, (a4 + 1)), (1, 0), (1, 0), (1, 0)]) rfl ?_
            exact ih _ _ _ _ _ h
          · replace h := h.2 c37
            refine pv_aload_n (n := 73) d_L_areRights_72 rfl rfl rfl ?_
            refine pv_iload (n := 75) d_L_areRights_73 rfl rfl ?_
            refine pv_iconst (v := 3) (n := 76) d_L_areRights_75 (by decide) rfl ?_
            refine pv_callV (n := 79) (x := 0) [(0, a4), (0, 3)] [] (con_X_rightAt hl0 h) pw_cf7 rfl q_517 q_518 q_519 q_62 q_516 pyo_X_rightAt (by decide) rfl rfl (by decide) d_L_areRights_76 rfl (fun w38 r39 h _ => ?_) (fun _ _ h => pvx_out rfl h)
            show pw_V l g cx_L_areRights Q X 79 [(9, 0), (0, a1), (202, a2), (0, a3), (0, a4), (0, r24), (0, r27), (0, r29)] [(0, r39)] w38
            refine pv_if_lt (n := 82) (tgt := 167) d_L_areRights_79 (by decide) rfl (fun c40 => ?_) (fun c40 => ?_)
            · replace h := h.1 c40
              refine pv_iconst (v := 0) (n := 168) d_L_areRights_167 (by decide) rfl ?_
              refine pv_istore_n (n := 169) (L' := [(9, 0), (0, a1), (202, a2), (0, 0), (0, a4), (0, r24), (0, r27), (0, r29)]) d_L_areRights_168 rfl (by decide) rfl rfl ?_
              refine pv_iinc (v := (a4 + 1)) (n := 172) (L1 := [(9, 0), (0, a1), (202, a2), (0, 0), (0, (a4 + 1)), (0, r24), (0, r27), (0, r29)]) d_L_areRights_169 rfl rfl rfl (by decide) rfl ?_
              refine pv_goto (tgt := 10) d_L_areRights_172 (by decide) ?_
              refine pv_unset (i := 5) (L1 := [(9, 0), (0, a1), (202, a2), (0, 0), (0, (a4 + 1)), (1, 0), (0, r27), (0, r29)]) rfl ?_
              refine pv_unset (i := 6) (L1 := [(9, 0), (0, a1), (202, a2), (0, 0), (0, (a4 + 1)), (1, 0), (1, 0), (0, r29)]) rfl ?_
              refine pv_unset (i := 7) (L1 := [(9, 0), (0, a1), (202, a2), (0, 0), (0, (a4 + 1)), (1, 0), (1, 0), (1, 0)]) rfl ?_
              exact ih _ _ _ _ _ h
            · replace h := h.2 c40
              refine pv_iload (n := 84) d_L_areRights_82 rfl rfl ?_
              refine pv_if_eq (n := 87) (tgt := 97) d_L_areRights_84 (by decide) rfl (fun c41 => ?_) (fun c41 => ?_)
              · replace h := h.1 c41
                refine pv_unset (i := 3) (L1 := [(9, 0), (0, a1), (202, a2), (1, 0), (0, a4), (0, r24), (0, r27), (0, r29)]) rfl ?_
                exact vjp_L_areRights_97 hl0 (by intros; exact ih _ _ _ _ _ (by assumption)) _ _ _ _ _ _ _ h
              · replace h := h.2 c41
                refine pv_aload_n (n := 88) d_L_areRights_87 rfl rfl rfl ?_
                refine pv_iload (n := 90) d_L_areRights_88 rfl rfl ?_
                refine pv_iconst (v := 3) (n := 91) d_L_areRights_90 (by decide) rfl ?_
                refine pv_callV (n := 94) (x := 0) [(0, a4), (0, 3)] [] (con_X_rightAt hl0 h) pw_cf7 rfl q_517 q_518 q_519 q_62 q_516 pyo_X_rightAt (by decide) rfl rfl (by decide) d_L_areRights_91 rfl (fun w42 r43 h _ => ?_) (fun _ _ h => pvx_out rfl h)
                show pw_V l g cx_L_areRights Q X 94 [(9, 0), (0, a1), (202, a2), (0, a3), (0, a4), (0, r24), (0, r27), (0, r29)] [(0, r43)] w42
                refine pv_if_ne (n := 97) (tgt := 167) d_L_areRights_94 (by decide) rfl (fun c44 => ?_) (fun c44 => ?_)
                · replace h := h.1 c44
                  refine pv_iconst (v := 0) (n := 168) d_L_areRights_167 (by decide) rfl ?_
                  refine pv_istore_n (n := 169) (L' := [(9, 0), (0, a1), (202, a2), (0, 0), (0, a4), (0, r24), (0, r27), (0, r29)]) d_L_areRights_168 rfl (by decide) rfl rfl ?_
                  refine pv_iinc (v := (a4 + 1)) (n := 172) (L1 := [(9, 0), (0, a1), (202, a2), (0, 0), (0, (a4 + 1)), (0, r24), (0, r27), (0, r29)]) d_L_areRights_169 rfl rfl rfl (by decide) rfl ?_
                  refine pv_goto (tgt := 10) d_L_areRights_172 (by decide) ?_
                  refine pv_unset (i := 5) (L1 := [(9, 0), (0, a1), (202, a2), (0, 0), (0, (a4 + 1)), (1, 0), (0, r27), (0, r29)]) rfl ?_
                  refine pv_unset (i := 6) (L1 := [(9, 0), (0, a1), (202, a2), (0, 0), (0, (a4 + 1)), (1, 0), (1, 0), (0, r29)]) rfl ?_
                  refine pv_unset (i := 7) (L1 := [(9, 0), (0, a1), (202, a2), (0, 0), (0, (a4 + 1)), (1, 0), (1, 0), (1, 0)]) rfl ?_
                  exact ih _ _ _ _ _ h
                · replace h := h.2 c44
                  refine pv_unset (i := 3) (L1 := [(9, 0), (0, a1), (202, a2), (1, 0), (0, a4), (0, r24), (0, r27), (0, r29)]) rfl ?_
                  exact vjp_L_areRights_97 hl0 (by intros; exact ih _ _ _ _ _ (by assumption)) _ _ _ _ _ _ _ h
set_option maxHeartbeats 4000000 in
set_option maxRecDepth 20000 in
def wp_L_areRights (w : pw_W) (a1 : Int32) (Q : pw_W → Int32 → Prop) (X : pw_W → Nat → Prop) : Prop := pw_rm w 200 (pw_i 40) ∧ ∀ w46, w46 = pw_nw w 200 (pw_i 40) (pw_i 40) → ∀ v48, v48 = (nI (pw_nv w 200)) → ∃ k50, lp_L_areRights_10 Q X k50 a1 v48 1 0 w46
set_option maxHeartbeats 4000000 in
set_option maxRecDepth 20000 in
theorem vw_L_areRights {l : Launch} {g : pw_G} {Q : pw_W → Int32 → Prop} {X : pw_W → Nat → Prop} (hl0 : l.stackTraces = false) {w : pw_W} {a1 : Int32} (h : wp_L_areRights w a1 Q X) : pw_V l g cx_L_areRights Q X 0 [(9, 0), (0, a1), (1, 0), (1, 0), (1, 0), (1, 0), (1, 0), (1, 0)] [] w := by
  unfold wp_L_areRights at h
  refine pv_bipush (v := 40) (n := 2) d_L_areRights_0 (by decide) rfl ?_
  obtain ⟨g45, h⟩ := h
  refine pv_nwa_int (n := 4) (f := 200) (by decide) (by decide) rfl (by intro k; rfl) q_3 d_L_areRights_2 (by decide) (by decide) g45 rfl (fun w46 e47 => ?_)
  replace h := h w46 e47
  refine pv_nm (fun v48 e49 => ?_)
  replace h := h v48 e49
  refine pv_astore_n (n := 5) (L' := [(9, 0), (0, a1), (202, v48), (1, 0), (1, 0), (1, 0), (1, 0), (1, 0)]) d_L_areRights_4 rfl (by decide) rfl rfl ?_
  refine pv_iconst (v := 1) (n := 6) d_L_areRights_5 (by decide) rfl ?_
  refine pv_istore_n (n := 7) (L' := [(9, 0), (0, a1), (202, v48), (0, 1), (1, 0), (1, 0), (1, 0), (1, 0)]) d_L_areRights_6 rfl (by decide) rfl rfl ?_
  refine pv_iconst (v := 0) (n := 8) d_L_areRights_7 (by decide) rfl ?_
  refine pv_istore (n := 10) (L' := [(9, 0), (0, a1), (202, v48), (0, 1), (0, 0), (1, 0), (1, 0), (1, 0)]) d_L_areRights_8 (by decide) rfl rfl ?_
  obtain ⟨k50, h⟩ := h
  exact vlp_L_areRights_10 hl0 _ _ _ _ _ _ h
set_option maxHeartbeats 4000000 in
set_option maxRecDepth 20000 in
theorem con_L_areRights {l : Launch} {g : pw_G} {Q : pw_W → Int32 → Prop} {X : pw_W → Nat → Prop} (hl0 : l.stackTraces = false) {w : pw_W} {a1 : Int32} (h : wp_L_areRights w a1 Q X) : pw_Con l g y_L_areRights cx_L_areRights [(9, 0), (0, a1)] w Q X :=
  pw_con (by decide +kernel) rfl rfl hl0 rfl (Nat.le_of_ble_eq_true rfl) (by simp) (vw_L_areRights hl0 h)
theorem d_L_areCases_0 : decode (pw_cc cx_L_areCases) 0 = .ok (.iconst 0, 1) := by decide +kernel
theorem d_L_areCases_1 : decode (pw_cc cx_L_areCases) 1 = .ok (.istore_n 2, 1) := by decide +kernel
theorem d_L_areCases_2 : decode (pw_cc cx_L_areCases) 2 = .ok (.iconst 1, 1) := by decide +kernel
theorem d_L_areCases_3 : decode (pw_cc cx_L_areCases) 3 = .ok (.istore_n 3, 1) := by decide +kernel
theorem d_L_areCases_4 : decode (pw_cc cx_L_areCases) 4 = .ok (.iconst 0, 1) := by decide +kernel
theorem d_L_areCases_5 : decode (pw_cc cx_L_areCases) 5 = .ok (.istore 4, 2) := by decide +kernel
theorem d_L_areCases_7 : decode (pw_cc cx_L_areCases) 7 = .ok (.iload 4, 2) := by decide +kernel
theorem d_L_areCases_9 : decode (pw_cc cx_L_areCases) 9 = .ok (.iload_n 1, 1) := by decide +kernel
theorem d_L_areCases_10 : decode (pw_cc cx_L_areCases) 10 = .ok (.if_icmp .ge 122, 3) := by decide +kernel
theorem d_L_areCases_13 : decode (pw_cc cx_L_areCases) 13 = .ok (.iload_n 3, 1) := by decide +kernel
theorem d_L_areCases_14 : decode (pw_cc cx_L_areCases) 14 = .ok (.ifCond .eq 118, 3) := by decide +kernel
theorem d_L_areCases_17 : decode (pw_cc cx_L_areCases) 17 = .ok (.aload_n 0, 1) := by decide +kernel
theorem d_L_areCases_18 : decode (pw_cc cx_L_areCases) 18 = .ok (.iload 4, 2) := by decide +kernel
theorem d_L_areCases_20 : decode (pw_cc cx_L_areCases) 20 = .ok (.iconst 0, 1) := by decide +kernel
theorem d_L_areCases_21 : decode (pw_cc cx_L_areCases) 21 = .ok (.invokevirtual 97, 3) := by decide +kernel
theorem d_L_areCases_24 : decode (pw_cc cx_L_areCases) 24 = .ok (.istore 5, 2) := by decide +kernel
theorem d_L_areCases_26 : decode (pw_cc cx_L_areCases) 26 = .ok (.aload_n 0, 1) := by decide +kernel
theorem d_L_areCases_27 : decode (pw_cc cx_L_areCases) 27 = .ok (.iload 4, 2) := by decide +kernel
theorem d_L_areCases_29 : decode (pw_cc cx_L_areCases) 29 = .ok (.iconst 1, 1) := by decide +kernel
theorem d_L_areCases_30 : decode (pw_cc cx_L_areCases) 30 = .ok (.invokevirtual 97, 3) := by decide +kernel
theorem d_L_areCases_33 : decode (pw_cc cx_L_areCases) 33 = .ok (.istore 6, 2) := by decide +kernel
theorem d_L_areCases_35 : decode (pw_cc cx_L_areCases) 35 = .ok (.iload_n 2, 1) := by decide +kernel
theorem d_L_areCases_36 : decode (pw_cc cx_L_areCases) 36 = .ok (.aload_n 0, 1) := by decide +kernel
theorem d_L_areCases_37 : decode (pw_cc cx_L_areCases) 37 = .ok (.iload 4, 2) := by decide +kernel
theorem d_L_areCases_39 : decode (pw_cc cx_L_areCases) 39 = .ok (.iconst 3, 1) := by decide +kernel
theorem d_L_areCases_40 : decode (pw_cc cx_L_areCases) 40 = .ok (.invokevirtual 97, 3) := by decide +kernel
theorem d_L_areCases_43 : decode (pw_cc cx_L_areCases) 43 = .ok (.iadd, 1) := by decide +kernel
theorem d_L_areCases_44 : decode (pw_cc cx_L_areCases) 44 = .ok (.istore_n 2, 1) := by decide +kernel
theorem d_L_areCases_45 : decode (pw_cc cx_L_areCases) 45 = .ok (.iload 5, 2) := by decide +kernel
theorem d_L_areCases_47 : decode (pw_cc cx_L_areCases) 47 = .ok (.ifCond .lt 77, 3) := by decide +kernel
theorem d_L_areCases_50 : decode (pw_cc cx_L_areCases) 50 = .ok (.iload 5, 2) := by decide +kernel
theorem d_L_areCases_52 : decode (pw_cc cx_L_areCases) 52 = .ok (.iconst 3, 1) := by decide +kernel
theorem d_L_areCases_53 : decode (pw_cc cx_L_areCases) 53 = .ok (.if_icmp .ge 71, 3) := by decide +kernel
theorem d_L_areCases_56 : decode (pw_cc cx_L_areCases) 56 = .ok (.iload 6, 2) := by decide +kernel
theorem d_L_areCases_58 : decode (pw_cc cx_L_areCases) 58 = .ok (.ifCond .lt 66, 3) := by decide +kernel
theorem d_L_areCases_61 : decode (pw_cc cx_L_areCases) 61 = .ok (.iload 6, 2) := by decide +kernel
theorem d_L_areCases_63 : decode (pw_cc cx_L_areCases) 63 = .ok (.iconst 3, 1) := by decide +kernel
theorem d_L_areCases_64 : decode (pw_cc cx_L_areCases) 64 = .ok (.if_icmp .ge 60, 3) := by decide +kernel
theorem d_L_areCases_67 : decode (pw_cc cx_L_areCases) 67 = .ok (.aload_n 0, 1) := by decide +kernel
theorem d_L_areCases_68 : decode (pw_cc cx_L_areCases) 68 = .ok (.iload 4, 2) := by decide +kernel
theorem d_L_areCases_70 : decode (pw_cc cx_L_areCases) 70 = .ok (.iconst 2, 1) := by decide +kernel
theorem d_L_areCases_71 : decode (pw_cc cx_L_areCases) 71 = .ok (.invokevirtual 97, 3) := by decide +kernel
theorem d_L_areCases_74 : decode (pw_cc cx_L_areCases) 74 = .ok (.ifCond .le 50, 3) := by decide +kernel
theorem d_L_areCases_77 : decode (pw_cc cx_L_areCases) 77 = .ok (.aload_n 0, 1) := by decide +kernel
theorem d_L_areCases_78 : decode (pw_cc cx_L_areCases) 78 = .ok (.iload 4, 2) := by decide +kernel
theorem d_L_areCases_80 : decode (pw_cc cx_L_areCases) 80 = .ok (.iconst 3, 1) := by decide +kernel
theorem d_L_areCases_81 : decode (pw_cc cx_L_areCases) 81 = .ok (.invokevirtual 97, 3) := by decide +kernel
theorem d_L_areCases_84 : decode (pw_cc cx_L_areCases) 84 = .ok (.ifCond .lt 40, 3) := by decide +kernel
theorem d_L_areCases_87 : decode (pw_cc cx_L_areCases) 87 = .ok (.aload_n 0, 1) := by decide +kernel
theorem d_L_areCases_88 : decode (pw_cc cx_L_areCases) 88 = .ok (.iload 4, 2) := by decide +kernel
theorem d_L_areCases_90 : decode (pw_cc cx_L_areCases) 90 = .ok (.iconst 3, 1) := by decide +kernel
theorem d_L_areCases_91 : decode (pw_cc cx_L_areCases) 91 = .ok (.invokevirtual 97, 3) := by decide +kernel
theorem d_L_areCases_94 : decode (pw_cc cx_L_areCases) 94 = .ok (.aload_n 0, 1) := by decide +kernel
theorem d_L_areCases_95 : decode (pw_cc cx_L_areCases) 95 = .ok (.iload 4, 2) := by decide +kernel
theorem d_L_areCases_97 : decode (pw_cc cx_L_areCases) 97 = .ok (.iconst 2, 1) := by decide +kernel
theorem d_L_areCases_98 : decode (pw_cc cx_L_areCases) 98 = .ok (.invokevirtual 97, 3) := by decide +kernel
theorem d_L_areCases_101 : decode (pw_cc cx_L_areCases) 101 = .ok (.if_icmp .gt 23, 3) := by decide +kernel
theorem d_L_areCases_104 : decode (pw_cc cx_L_areCases) 104 = .ok (.iload 5, 2) := by decide +kernel
theorem d_L_areCases_106 : decode (pw_cc cx_L_areCases) 106 = .ok (.iconst 2, 1) := by decide +kernel
theorem d_L_areCases_107 : decode (pw_cc cx_L_areCases) 107 = .ok (.if_icmp .ne 13, 3) := by decide +kernel
theorem d_L_areCases_110 : decode (pw_cc cx_L_areCases) 110 = .ok (.aload_n 0, 1) := by decide +kernel
theorem d_L_areCases_111 : decode (pw_cc cx_L_areCases) 111 = .ok (.iload 4, 2) := by decide +kernel
theorem d_L_areCases_113 : decode (pw_cc cx_L_areCases) 113 = .ok (.iconst 3, 1) := by decide +kernel
theorem d_L_areCases_114 : decode (pw_cc cx_L_areCases) 114 = .ok (.invokevirtual 97, 3) := by decide +kernel
theorem d_L_areCases_117 : decode (pw_cc cx_L_areCases) 117 = .ok (.ifCond .ne 7, 3) := by decide +kernel
theorem d_L_areCases_120 : decode (pw_cc cx_L_areCases) 120 = .ok (.iconst 1, 1) := by decide +kernel
theorem d_L_areCases_121 : decode (pw_cc cx_L_areCases) 121 = .ok (.goto 4, 3) := by decide +kernel
theorem d_L_areCases_124 : decode (pw_cc cx_L_areCases) 124 = .ok (.iconst 0, 1) := by decide +kernel
theorem d_L_areCases_125 : decode (pw_cc cx_L_areCases) 125 = .ok (.istore_n 3, 1) := by decide +kernel
theorem d_L_areCases_126 : decode (pw_cc cx_L_areCases) 126 = .ok (.iinc 4 1, 3) := by decide +kernel
theorem d_L_areCases_129 : decode (pw_cc cx_L_areCases) 129 = .ok (.goto (-122), 3) := by decide +kernel
theorem d_L_areCases_132 : decode (pw_cc cx_L_areCases) 132 = .ok (.iload_n 3, 1) := by decide +kernel
theorem d_L_areCases_133 : decode (pw_cc cx_L_areCases) 133 = .ok (.ifCond .eq 13, 3) := by decide +kernel
theorem d_L_areCases_136 : decode (pw_cc cx_L_areCases) 136 = .ok (.iload_n 2, 1) := by decide +kernel
theorem d_L_areCases_137 : decode (pw_cc cx_L_areCases) 137 = .ok (.bipush 100, 2) := by decide +kernel
theorem d_L_areCases_139 : decode (pw_cc cx_L_areCases) 139 = .ok (.if_icmp .gt 7, 3) := by decide +kernel
theorem d_L_areCases_142 : decode (pw_cc cx_L_areCases) 142 = .ok (.iconst 1, 1) := by decide +kernel
theorem d_L_areCases_143 : decode (pw_cc cx_L_areCases) 143 = .ok (.goto 4, 3) := by decide +kernel
theorem d_L_areCases_146 : decode (pw_cc cx_L_areCases) 146 = .ok (.iconst 0, 1) := by decide +kernel
theorem d_L_areCases_147 : decode (pw_cc cx_L_areCases) 147 = .ok (.ireturn, 1) := by decide +kernel
set_option maxHeartbeats 4000000 in
set_option maxRecDepth 20000 in
def jp_L_areCases_132 (Q : pw_W → Int32 → Prop) (X : pw_W → Nat → Prop) (a2 a3 : Int32) (w : pw_W) : Prop := (a3 = 0 → Q w 0) ∧ (¬ a3 = 0 → ((100 : Int32) < a2 → Q w 0) ∧ (¬ (100 : Int32) < a2 → Q w 1))
set_option maxHeartbeats 4000000 in
set_option maxRecDepth 20000 in
theorem vjp_L_areCases_132 {l : Launch} {g : pw_G} {Q : pw_W → Int32 → Prop} {X : pw_W → Nat → Prop} (hl0 : l.stackTraces = false) (a2 a3 : Int32) (w : pw_W) (h : jp_L_areCases_132 Q X a2 a3 w) : pw_V l g cx_L_areCases Q X 132 [(1, 0), (1, 0), (0, a2), (0, a3), (1, 0), (1, 0), (1, 0)] [] w := by
  unfold jp_L_areCases_132 at h
  refine pv_iload_n (n := 133) d_L_areCases_132 rfl rfl rfl ?_
  refine pv_if_eq (n := 136) (tgt := 146) d_L_areCases_133 (by decide) rfl (fun c1 => ?_) (fun c1 => ?_)
  · replace h := h.1 c1
    refine pv_iconst (v := 0) (n := 147) d_L_areCases_146 (by decide) rfl ?_
    exact pv_zret rfl rfl d_L_areCases_147 (by decide) h
  · replace h := h.2 c1
    refine pv_iload_n (n := 137) d_L_areCases_136 rfl rfl rfl ?_
    refine pv_bipush (v := 100) (n := 139) d_L_areCases_137 (by decide) rfl ?_
    refine pv_icmp_gt (n := 142) (tgt := 146) d_L_areCases_139 (by decide) rfl (fun c2 => ?_) (fun c2 => ?_)
    · replace h := h.1 c2
      refine pv_iconst (v := 0) (n := 147) d_L_areCases_146 (by decide) rfl ?_
      exact pv_zret rfl rfl d_L_areCases_147 (by decide) h
    · replace h := h.2 c2
      refine pv_iconst (v := 1) (n := 143) d_L_areCases_142 (by decide) rfl ?_
      refine pv_goto (tgt := 147) d_L_areCases_143 (by decide) ?_
      exact pv_zret rfl rfl d_L_areCases_147 (by decide) h
set_option maxHeartbeats 4000000 in
set_option maxRecDepth 20000 in
def lp_L_areCases_7 (Q : pw_W → Int32 → Prop) (X : pw_W → Nat → Prop) : Nat → Int32 → Int32 → Int32 → Int32 → pw_W → Prop := fun k => Nat.rec (motive := fun _ => Int32 → Int32 → Int32 → Int32 → pw_W → Prop) (fun _ _ _ _ _ => False) (fun _ ih a1 a2 a3 a4 w => (a1 ≤ a4 → jp_L_areCases_132 Q X a2 a3 w) ∧ (¬ a1 ≤ a4 → (a3 = 0 → jp_L_areCases_132 Q X a2 a3 w) ∧ (¬ a3 = 0 → wp_X_caseAt w a4 0 (fun w5 r6 => wp_X_caseAt w5 a4 1 (fun w7 r8 => wp_X_caseAt w7 a4 3 (fun w9 r10 => ∀ v11, v11 = (a2 + r10) → (r6 < 0 → ih a1 v11 0 (a4 + 1) w9) ∧ (¬ r6 < 0 → ((3 : Int32) ≤ r6 → ih a1 v11 0 (a4 + 1) w9) ∧ (¬ (3 : Int32) ≤ r6 → (r8 < 0 → ih a1 v11 0 (a4 + 1) w9) ∧ (¬ r8 < 0 → ((3 : Int32) ≤ r8 → ih a1 v11 0 (a4 + 1) w9) ∧ (¬ (3 : Int32) ≤ r8 → wp_X_caseAt w9 a4 2 (fun w17 r18 => (r18 ≤ 0 → ih a1 v11 0 (a4 + 1) w17) ∧ (¬ r18 ≤ 0 → wp_X_caseAt w17 a4 3 (fun w20 r21 => (r21 < 0 → ih a1 v11 0 (a4 + 1) w20) ∧ (¬ r21 < 0 → wp_X_caseAt w20 a4 3 (fun w23 r24 => wp_X_caseAt w23 a4 2 (fun w25 r26 => (r26 < r24 → ih a1 v11 0 (a4 + 1) w25) ∧ (¬ r26 < r24 → (¬ r6 = 2 → ih a1 v11 1 (a4 + 1) w25) ∧ (r6 = 2 → wp_X_caseAt w25 a4 3 (fun w29 r30 => (¬ r30 = 0 → ih a1 v11 0 (a4 + 1) w29) ∧ (r30 = 0 → ih a1 v11 1 (a4 + 1) w29)) X))) X) X)) X)) X))))) X) X) X))) k
set_option maxHeartbeats 4000000 in
set_option maxRecDepth 20000 in
theorem lp_L_areCases_7_s {Q : pw_W → Int32 → Prop} {X : pw_W → Nat → Prop}  {k : Nat} {a1 a2 a3 a4 : Int32} {w : pw_W} : lp_L_areCases_7 Q X (k + 1) a1 a2 a3 a4 w = (let ih := lp_L_areCases_7 Q X k; (a1 ≤ a4 → jp_L_areCases_132 Q X a2 a3 w) ∧ (¬ a1 ≤ a4 → (a3 = 0 → jp_L_areCases_132 Q X a2 a3 w) ∧ (¬ a3 = 0 → wp_X_caseAt w a4 0 (fun w5 r6 => wp_X_caseAt w5 a4 1 (fun w7 r8 => wp_X_caseAt w7 a4 3 (fun w9 r10 => ∀ v11, v11 = (a2 + r10) → (r6 < 0 → ih a1 v11 0 (a4 + 1) w9) ∧ (¬ r6 < 0 → ((3 : Int32) ≤ r6 → ih a1 v11 0 (a4 + 1) w9) ∧ (¬ (3 : Int32) ≤ r6 → (r8 < 0 → ih a1 v11 0 (a4 + 1) w9) ∧ (¬ r8 < 0 → ((3 : Int32) ≤ r8 → ih a1 v11 0 (a4 + 1) w9) ∧ (¬ (3 : Int32) ≤ r8 → wp_X_caseAt w9 a4 2 (fun w17 r18 => (r18 ≤ 0 → ih a1 v11 0 (a4 + 1) w17) ∧ (¬ r18 ≤ 0 → wp_X_caseAt w17 a4 3 (fun w20 r21 => (r21 < 0 → ih a1 v11 0 (a4 + 1) w20) ∧ (¬ r21 < 0 → wp_X_caseAt w20 a4 3 (fun w23 r24 => wp_X_caseAt w23 a4 2 (fun w25 r26 => (r26 < r24 → ih a1 v11 0 (a4 + 1) w25) ∧ (¬ r26 < r24 → (¬ r6 = 2 → ih a1 v11 1 (a4 + 1) w25) ∧ (r6 = 2 → wp_X_caseAt w25 a4 3 (fun w29 r30 => (¬ r30 = 0 → ih a1 v11 0 (a4 + 1) w29) ∧ (r30 = 0 → ih a1 v11 1 (a4 + 1) w29)) X))) X) X)) X)) X))))) X) X) X))) := rfl
set_option maxHeartbeats 4000000 in
set_option maxRecDepth 20000 in
theorem vlp_L_areCases_7 {l : Launch} {g : pw_G} {Q : pw_W → Int32 → Prop} {X : pw_W → Nat → Prop} (hl0 : l.stackTraces = false) : ∀ (k : Nat) (a1 a2 a3 a4 : Int32) (w : pw_W), lp_L_areCases_7 Q X k a1 a2 a3 a4 w → pw_V l g cx_L_areCases Q X 7 [(9, 0), (0, a1), (0, a2), (0, a3), (0, a4), (1, 0), (1, 0)] [] w := by
  intro k; induction k with
  | zero => intro _ _ _ _ _ h; exact h.elim
  | succ k ih =>
    intro a1 a2 a3 a4 w h
    rw [lp_L_areCases_7_s] at h
    refine pv_iload (n := 9) d_L_areCases_7 rfl rfl ?_
    refine pv_iload_n (n := 10) d_L_areCases_9 rfl rfl rfl ?_
    refine pv_icmp_ge (n := 13) (tgt := 132) d_L_areCases_10 (by decide) rfl (fun c3 => ?_) (fun c3 => ?_)
    · replace h := h.1 c3
      refine pv_unset (i := 0) (L1 := [(1, 0), (0, a1), (0, a2), (0, a3), (0, a4), (1, 0), (1, 0)]) rfl ?_
      refine pv_unset (i := 1) (L1 := [(1, 0), (1, 0), (0, a2), (0, a3), (0, a4), (1, 0), (1, 0)]) rfl ?_
      refine pv_unset (i := 4) (L1 := [(1, 0), (1, 0), (0, a2), (0, a3), (1, 0), (1, 0), (1, 0)]) rfl ?_
      exact vjp_L_areCases_132 hl0 _ _ _ h
    · replace h := h.2 c3
      refine pv_iload_n (n := 14) d_L_areCases_13 rfl rfl rfl ?_
      refine pv_if_eq (n := 17) (tgt := 132) d_L_areCases_14 (by decide) rfl (fun c4 => ?_) (fun c4 => ?_)
      · replace h := h.1 c4
        refine pv_unset (i := 0) (L1 := [(1, 0), (0, a1), (0, a2), (0, a3), (0, a4), (1, 0), (1, 0)]) rfl ?_
        refine pv_unset (i := 1) (L1 := [(1, 0), (1, 0), (0, a2), (0, a3), (0, a4), (1, 0), (1, 0)]) rfl ?_
        refine pv_unset (i := 4) (L1 := [(1, 0), (1, 0), (0, a2), (0, a3), (1, 0), (1, 0), (1, 0)]) rfl ?_
        exact vjp_L_areCases_132 hl0 _ _ _ h
      · replace h := h.2 c4
        refine pv_aload_n (n := 18) d_L_areCases_17 rfl rfl rfl ?_
        refine pv_iload (n := 20) d_L_areCases_18 rfl rfl ?_
        refine pv_iconst (v := 0) (n := 21) d_L_areCases_20 (by decide) rfl ?_
        refine pv_callV (n := 24) (x := 0) [(0, a4), (0, 0)] [] (con_X_caseAt hl0 h) pw_cf7 rfl q_521 q_522 q_523 q_62 q_520 pyo_X_caseAt (by decide) rfl rfl (by decide) d_L_areCases_21 rfl (fun w5 r6 h _ => ?_) (fun _ _ h => pvx_out rfl h)
        show pw_V l g cx_L_areCases Q X 24 [(9, 0), (0, a1), (0, a2), (0, a3), (0, a4), (1, 0), (1, 0)] [(0, r6)] w5
        refine pv_istore (n := 26) (L' := [(9, 0), (0, a1), (0, a2), (0, a3), (0, a4), (0, r6), (1, 0)]) d_L_areCases_24 (by decide) rfl rfl ?_
        refine pv_aload_n (n := 27) d_L_areCases_26 rfl rfl rfl ?_
        refine pv_iload (n := 29) d_L_areCases_27 rfl rfl ?_
        refine pv_iconst (v := 1) (n := 30) d_L_areCases_29 (by decide) rfl ?_
        refine pv_callV (n := 33) (x := 0) [(0, a4), (0, 1)] [] (con_X_caseAt hl0 h) pw_cf7 rfl q_521 q_522 q_523 q_62 q_520 pyo_X_caseAt (by decide) rfl rfl (by decide) d_L_areCases_30 rfl (fun w7 r8 h _ => ?_) (fun _ _ h => pvx_out rfl h)
        show pw_V l g cx_L_areCases Q X 33 [(9, 0), (0, a1), (0, a2), (0, a3), (0, a4), (0, r6), (1, 0)] [(0, r8)] w7
        refine pv_istore (n := 35) (L' := [(9, 0), (0, a1), (0, a2), (0, a3), (0, a4), (0, r6), (0, r8)]) d_L_areCases_33 (by decide) rfl rfl ?_
        refine pv_iload_n (n := 36) d_L_areCases_35 rfl rfl rfl ?_
        refine pv_aload_n (n := 37) d_L_areCases_36 rfl rfl rfl ?_
        refine pv_iload (n := 39) d_L_areCases_37 rfl rfl ?_
        refine pv_iconst (v := 3) (n := 40) d_L_areCases_39 (by decide) rfl ?_
        refine pv_callV (n := 43) (x := 0) [(0, a4), (0, 3)] [(0, a2)] (con_X_caseAt hl0 h) pw_cf7 rfl q_521 q_522 q_523 q_62 q_520 pyo_X_caseAt (by decide) rfl rfl (by decide) d_L_areCases_40 rfl (fun w9 r10 h _ => ?_) (fun _ _ h => pvx_out rfl h)
        show pw_V l g cx_L_areCases Q X 43 [(9, 0), (0, a1), (0, a2), (0, a3), (0, a4), (0, r6), (0, r8)] [(0, r10), (0, a2)] w9
        refine pv_iadd (n := 44) d_L_areCases_43 rfl ?_
        refine pv_nm (fun v11 e12 => ?_)
        replace h := h v11 e12
        refine pv_istore_n (n := 45) (L' := [(9, 0), (0, a1), (0, v11), (0, a3), (0, a4), (0, r6), (0, r8)]) d_L_areCases_44 rfl (by decide) rfl rfl ?_
        refine pv_iload (n := 47) d_L_areCases_45 rfl rfl ?_
        refine pv_if_lt (n := 50) (tgt := 124) d_L_areCases_47 (by decide) rfl (fun c13 => ?_) (fun c13 => ?_)
        · replace h := h.1 c13
          refine pv_iconst (v := 0) (n := 125) d_L_areCases_124 (by decide) rfl ?_
          refine pv_istore_n (n := 126) (L' := [(9, 0), (0, a1), (0, v11), (0, 0), (0, a4), (0, r6), (0, r8)]) d_L_areCases_125 rfl (by decide) rfl rfl ?_
          refine pv_iinc (v := (a4 + 1)) (n := 129) (L1 := [(9, 0), (0, a1), (0, v11), (0, 0), (0, (a4 + 1)), (0, r6), (0, r8)]) d_L_areCases_126 rfl rfl rfl (by decide) rfl ?_
          refine pv_goto (tgt := 7) d_L_areCases_129 (by decide) ?_
          refine pv_unset (i := 5) (L1 := [(9, 0), (0, a1), (0, v11), (0, 0), (0, (a4 + 1)), (1, 0), (0, r8)]) rfl ?_
          refine pv_unset (i := 6) (L1 := [(9, 0), (0, a1), (0, v11), (0, 0), (0, (a4 + 1)), (1, 0), (1, 0)]) rfl ?_
          exact ih _ _ _ _ _ h
        · replace h := h.2 c13
          refine pv_iload (n := 52) d_L_areCases_50 rfl rfl ?_
          refine pv_iconst (v := 3) (n := 53) d_L_areCases_52 (by decide) rfl ?_
          refine pv_icmp_ge (n := 56) (tgt := 124) d_L_areCases_53 (by decide) rfl (fun c14 => ?_) (fun c14 => ?_)
          · replace h := h.1 c14
            refine pv_iconst (v := 0) (n := 125) d_L_areCases_124 (by decide) rfl ?_
            refine pv_istore_n (n := 126) (L' := [(9, 0), (0, a1), (0, v11), (0, 0), (0, a4), (0, r6), (0, r8)]) d_L_areCases_125 rfl (by decide) rfl rfl ?_
            refine pv_iinc (v := (a4 + 1)) (n := 129) (L1 := [(9, 0), (0, a1), (0, v11), (0, 0), (0, (a4 + 1)), (0, r6), (0, r8)]) d_L_areCases_126 rfl rfl rfl (by decide) rfl ?_
            refine pv_goto (tgt := 7) d_L_areCases_129 (by decide) ?_
            refine pv_unset (i := 5) (L1 := [(9, 0), (0, a1), (0, v11), (0, 0), (0, (a4 + 1)), (1, 0), (0, r8)]) rfl ?_
            refine pv_unset (i := 6) (L1 := [(9, 0), (0, a1), (0, v11), (0, 0), (0, (a4 + 1)), (1, 0), (1, 0)]) rfl ?_
            exact ih _ _ _ _ _ h
          · replace h := h.2 c14
            refine pv_iload (n := 58) d_L_areCases_56 rfl rfl ?_
            refine pv_if_lt (n := 61) (tgt := 124) d_L_areCases_58 (by decide) rfl (fun c15 => ?_) (fun c15 => ?_)
            · replace h := h.1 c15
              refine pv_iconst (v := 0) (n := 125) d_L_areCases_124 (by decide) rfl ?_
              refine pv_istore_n (n := 126) (L' := [(9, 0), (0, a1), (0, v11), (0, 0), (0, a4), (0, r6), (0, r8)]) d_L_areCases_125 rfl (by decide) rfl rfl ?_
              refine pv_iinc (v := (a4 + 1)) (n := 129) (L1 := [(9, 0), (0, a1), (0, v11), (0, 0), (0, (a4 + 1)), (0, r6), (0, r8)]) d_L_areCases_126 rfl rfl rfl (by decide) rfl ?_
              refine pv_goto (tgt := 7) d_L_areCases_129 (by decide) ?_
              refine pv_unset (i := 5) (L1 := [(9, 0), (0, a1), (0, v11), (0, 0), (0, (a4 + 1)), (1, 0), (0, r8)]) rfl ?_
              refine pv_unset (i := 6) (L1 := [(9, 0), (0, a1), (0, v11), (0, 0), (0, (a4 + 1)), (1, 0), (1, 0)]) rfl ?_
              exact ih _ _ _ _ _ h
            · replace h := h.2 c15
              refine pv_iload (n := 63) d_L_areCases_61 rfl rfl ?_
              refine pv_iconst (v := 3) (n := 64) d_L_areCases_63 (by decide) rfl ?_
              refine pv_icmp_ge (n := 67) (tgt := 124) d_L_areCases_64 (by decide) rfl (fun c16 => ?_) (fun c16 => ?_)
              · replace h := h.1 c16
                refine pv_iconst (v := 0) (n := 125) d_L_areCases_124 (by decide) rfl ?_
                refine pv_istore_n (n := 126) (L' := [(9, 0), (0, a1), (0, v11), (0, 0), (0, a4), (0, r6), (0, r8)]) d_L_areCases_125 rfl (by decide) rfl rfl ?_
                refine pv_iinc (v := (a4 + 1)) (n := 129) (L1 := [(9, 0), (0, a1), (0, v11), (0, 0), (0, (a4 + 1)), (0, r6), (0, r8)]) d_L_areCases_126 rfl rfl rfl (by decide) rfl ?_
                refine pv_goto (tgt := 7) d_L_areCases_129 (by decide) ?_
                refine pv_unset (i := 5) (L1 := [(9, 0), (0, a1), (0, v11), (0, 0), (0, (a4 + 1)), (1, 0), (0, r8)]) rfl ?_
                refine pv_unset (i := 6) (L1 := [(9, 0), (0, a1), (0, v11), (0, 0), (0, (a4 + 1)), (1, 0), (1, 0)]) rfl ?_
                exact ih _ _ _ _ _ h
              · replace h := h.2 c16
                refine pv_aload_n (n := 68) d_L_areCases_67 rfl rfl rfl ?_
                refine pv_iload (n := 70) d_L_areCases_68 rfl rfl ?_
                refine pv_iconst (v := 2) (n := 71) d_L_areCases_70 (by decide) rfl ?_
                refine pv_callV (n := 74) (x := 0) [(0, a4), (0, 2)] [] (con_X_caseAt hl0 h) pw_cf7 rfl q_521 q_522 q_523 q_62 q_520 pyo_X_caseAt (by decide) rfl rfl (by decide) d_L_areCases_71 rfl (fun w17 r18 h _ => ?_) (fun _ _ h => pvx_out rfl h)
                show pw_V l g cx_L_areCases Q X 74 [(9, 0), (0, a1), (0, v11), (0, a3), (0, a4), (0, r6), (0, r8)] [(0, r18)] w17
                refine pv_if_le (n := 77) (tgt := 124) d_L_areCases_74 (by decide) rfl (fun c19 => ?_) (fun c19 => ?_)
                · replace h := h.1 c19
                  refine pv_iconst (v := 0) (n := 125) d_L_areCases_124 (by decide) rfl ?_
                  refine pv_istore_n (n := 126) (L' := [(9, 0), (0, a1), (0, v11), (0, 0), (0, a4), (0, r6), (0, r8)]) d_L_areCases_125 rfl (by decide) rfl rfl ?_
                  refine pv_iinc (v := (a4 + 1)) (n := 129) (L1 := [(9, 0), (0, a1), (0, v11), (0, 0), (0, (a4 + 1)), (0, r6), (0, r8)]) d_L_areCases_126 rfl rfl rfl (by decide) rfl ?_
                  refine pv_goto (tgt := 7) d_L_areCases_129 (by decide) ?_
                  refine pv_unset (i := 5) (L1 := [(9, 0), (0, a1), (0, v11), (0, 0), (0, (a4 + 1)), (1, 0), (0, r8)]) rfl ?_
                  refine pv_unset (i := 6) (L1 := [(9, 0), (0, a1), (0, v11), (0, 0), (0, (a4 + 1)), (1, 0), (1, 0)]) rfl ?_
                  exact ih _ _ _ _ _ h
                · replace h := h.2 c19
                  refine pv_aload_n (n := 78) d_L_areCases_77 rfl rfl rfl ?_
                  refine pv_iload (n := 80) d_L_areCases_78 rfl rfl ?_
                  refine pv_iconst (v := 3) (n := 81) d_L_areCases_80 (by decide) rfl ?_
                  refine pv_callV (n := 84) (x := 0) [(0, a4), (0, 3)] [] (con_X_caseAt hl0 h) pw_cf7 rfl q_521 q_522 q_523 q_62 q_520 pyo_X_caseAt (by decide) rfl rfl (by decide) d_L_areCases_81 rfl (fun w20 r21 h _ => ?_) (fun _ _ h => pvx_out rfl h)
                  show pw_V l g cx_L_areCases Q X 84 [(9, 0), (0, a1), (0, v11), (0, a3), (0, a4), (0, r6), (0, r8)] [(0, r21)] w20
                  refine pv_if_lt (n := 87) (tgt := 124) d_L_areCases_84 (by decide) rfl (fun c22 => ?_) (fun c22 => ?_)
                  · replace h := h.1 c22
                    refine pv_iconst (v := 0) (n := 125) d_L_areCases_124 (by decide) rfl ?_
                    refine pv_istore_n (n := 126) (L' := [(9, 0), (0, a1), (0, v11), (0, 0), (0, a4), (0, r6), (0, r8)]) d_L_areCases_125 rfl (by decide) rfl rfl ?_
                    refine pv_iinc (v := (a4 + 1)) (n := 129) (L1 := [(9, 0), (0, a1), (0, v11), (0, 0), (0, (a4 + 1)), (0, r6), (0, r8)]) d_L_areCases_126 rfl rfl rfl (by decide) rfl ?_
                    refine pv_goto (tgt := 7) d_L_areCases_129 (by decide) ?_
                    refine pv_unset (i := 5) (L1 := [(9, 0), (0, a1), (0, v11), (0, 0), (0, (a4 + 1)), (1, 0), (0, r8)]) rfl ?_
                    refine pv_unset (i := 6) (L1 := [(9, 0), (0, a1), (0, v11), (0, 0), (0, (a4 + 1)), (1, 0), (1, 0)]) rfl ?_
                    exact ih _ _ _ _ _ h
                  · replace h := h.2 c22
                    refine pv_aload_n (n := 88) d_L_areCases_87 rfl rfl rfl ?_
                    refine pv_iload (n := 90) d_L_areCases_88 rfl rfl ?_
                    refine pv_iconst (v := 3) (n := 91) d_L_areCases_90 (by decide) rfl ?_
                    refine pv_callV (n := 94) (x := 0) [(0, a4), (0, 3)] [] (con_X_caseAt hl0 h) pw_cf7 rfl q_521 q_522 q_523 q_62 q_520 pyo_X_caseAt (by decide) rfl rfl (by decide) d_L_areCases_91 rfl (fun w23 r24 h _ => ?_) (fun _ _ h => pvx_out rfl h)
                    show pw_V l g cx_L_areCases Q X 94 [(9, 0), (0, a1), (0, v11), (0, a3), (0, a4), (0, r6), (0, r8)] [(0, r24)] w23
                    refine pv_aload_n (n := 95) d_L_areCases_94 rfl rfl rfl ?_
                    refine pv_iload (n := 97) d_L_areCases_95 rfl rfl ?_
                    refine pv_iconst (v := 2) (n := 98) d_L_areCases_97 (by decide) rfl ?_
                    refine pv_callV (n := 101) (x := 0) [(0, a4), (0, 2)] [(0, r24)] (con_X_caseAt hl0 h) pw_cf7 rfl q_521 q_522 q_523 q_62 q_520 pyo_X_caseAt (by decide) rfl rfl (by decide) d_L_areCases_98 rfl (fun w25 r26 h _ => ?_) (fun _ _ h => pvx_out rfl h)
                    show pw_V l g cx_L_areCases Q X 101 [(9, 0), (0, a1), (0, v11), (0, a3), (0, a4), (0, r6), (0, r8)] [(0, r26), (0, r24)] w25
                    refine pv_icmp_gt (n := 104) (tgt := 124) d_L_areCases_101 (by decide) rfl (fun c27 => ?_) (fun c27 => ?_)
                    · replace h := h.1 c27
                      refine pv_iconst (v := 0) (n := 125) d_L_areCases_124 (by decide) rfl ?_
                      refine pv_istore_n (n := 126) (L' := [(9, 0), (0, a1), (0, v11), (0, 0), (0, a4), (0, r6), (0, r8)]) d_L_areCases_125 rfl (by decide) rfl rfl ?_
                      refine pv_iinc (v := (a4 + 1)) (n := 129) (L1 := [(9, 0), (0, a1), (0, v11), (0, 0), (0, (a4 + 1)), (0, r6), (0, r8)]) d_L_areCases_126 rfl rfl rfl (by decide) rfl ?_
                      refine pv_goto (tgt := 7) d_L_areCases_129 (by decide) ?_
                      refine pv_unset (i := 5) (L1 := [(9, 0), (0, a1), (0, v11), (0, 0), (0, (a4 + 1)), (1, 0), (0, r8)]) rfl ?_
                      refine pv_unset (i := 6) (L1 := [(9, 0), (0, a1), (0, v11), (0, 0), (0, (a4 + 1)), (1, 0), (1, 0)]) rfl ?_
                      exact ih _ _ _ _ _ h
                    · replace h := h.2 c27
                      refine pv_iload (n := 106) d_L_areCases_104 rfl rfl ?_
                      refine pv_iconst (v := 2) (n := 107) d_L_areCases_106 (by decide) rfl ?_
                      refine pv_icmp_ne (n := 110) (tgt := 120) d_L_areCases_107 (by decide) rfl (fun c28 => ?_) (fun c28 => ?_)
                      · replace h := h.1 c28
                        refine pv_iconst (v := 1) (n := 121) d_L_areCases_120 (by decide) rfl ?_
                        refine pv_goto (tgt := 125) d_L_areCases_121 (by decide) ?_
                        refine pv_istore_n (n := 126) (L' := [(9, 0), (0, a1), (0, v11), (0, 1), (0, a4), (0, r6), (0, r8)]) d_L_areCases_125 rfl (by decide) rfl rfl ?_
                        refine pv_iinc (v := (a4 + 1)) (n := 129) (L1 := [(9, 0), (0, a1), (0, v11), (0, 1), (0, (a4 + 1)), (0, r6), (0, r8)]) d_L_areCases_126 rfl rfl rfl (by decide) rfl ?_
                        refine pv_goto (tgt := 7) d_L_areCases_129 (by decide) ?_
                        refine pv_unset (i := 5) (L1 := [(9, 0), (0, a1), (0, v11), (0, 1), (0, (a4 + 1)), (1, 0), (0, r8)]) rfl ?_
                        refine pv_unset (i := 6) (L1 := [(9, 0), (0, a1), (0, v11), (0, 1), (0, (a4 + 1)), (1, 0), (1, 0)]) rfl ?_
                        exact ih _ _ _ _ _ h
                      · replace h := h.2 c28
                        refine pv_aload_n (n := 111) d_L_areCases_110 rfl rfl rfl ?_
                        refine pv_iload (n := 113) d_L_areCases_111 rfl rfl ?_
                        refine pv_iconst (v := 3) (n := 114) d_L_areCases_113 (by decide) rfl ?_
                        refine pv_callV (n := 117) (x := 0) [(0, a4), (0, 3)] [] (con_X_caseAt hl0 h) pw_cf7 rfl q_521 q_522 q_523 q_62 q_520 pyo_X_caseAt (by decide) rfl rfl (by decide) d_L_areCases_114 rfl (fun w29 r30 h _ => ?_) (fun _ _ h => pvx_out rfl h)
                        show pw_V l g cx_L_areCases Q X 117 [(9, 0), (0, a1), (0, v11), (0, a3), (0, a4), (0, r6), (0, r8)] [(0, r30)] w29
                        refine pv_if_ne (n := 120) (tgt := 124) d_L_areCases_117 (by decide) rfl (fun c31 => ?_) (fun c31 => ?_)
                        · replace h := h.1 c31
                          refine pv_iconst (v := 0) (n := 125) d_L_areCases_124 (by decide) rfl ?_
                          refine pv_istore_n (n := 126) (L' := [(9, 0), (0, a1), (0, v11), (0, 0), (0, a4), (0, r6), (0, r8)]) d_L_areCases_125 rfl (by decide) rfl rfl ?_
                          refine pv_iinc (v := (a4 + 1)) (n := 129) (L1 := [(9, 0), (0, a1), (0, v11), (0, 0), (0, (a4 + 1)), (0, r6), (0, r8)]) d_L_areCases_126 rfl rfl rfl (by decide) rfl ?_
                          refine pv_goto (tgt := 7) d_L_areCases_129 (by decide) ?_
                          refine pv_unset (i := 5) (L1 := [(9, 0), (0, a1), (0, v11), (0, 0), (0, (a4 + 1)), (1, 0), (0, r8)]) rfl ?_
                          refine pv_unset (i := 6) (L1 := [(9, 0), (0, a1), (0, v11), (0, 0), (0, (a4 + 1)), (1, 0), (1, 0)]) rfl ?_
                          exact ih _ _ _ _ _ h
                        · replace h := h.2 c31
                          refine pv_iconst (v := 1) (n := 121) d_L_areCases_120 (by decide) rfl ?_
                          refine pv_goto (tgt := 125) d_L_areCases_121 (by decide) ?_
                          refine pv_istore_n (n := 126) (L' := [(9, 0), (0, a1), (0, v11), (0, 1), (0, a4), (0, r6), (0, r8)]) d_L_areCases_125 rfl (by decide) rfl rfl ?_
                          refine pv_iinc (v := (a4 + 1)) (n := 129) (L1 := [(9, 0), (0, a1), (0, v11), (0, 1), (0, (a4 + 1)), (0, r6), (0, r8)]) d_L_areCases_126 rfl rfl rfl (by decide) rfl ?_
                          refine pv_goto (tgt := 7) d_L_areCases_129 (by decide) ?_
                          refine pv_unset (i := 5) (L1 := [(9, 0), (0, a1), (0, v11), (0, 1), (0, (a4 + 1)), (1, 0), (0, r8)]) rfl ?_
                          refine pv_unset (i := 6) (L1 := [(9, 0), (0, a1), (0, v11), (0, 1), (0, (a4 + 1)), (1, 0), (1, 0)]) rfl ?_
                          exact ih _ _ _ _ _ h
set_option maxHeartbeats 4000000 in
set_option maxRecDepth 20000 in
def wp_L_areCases (w : pw_W) (a1 : Int32) (Q : pw_W → Int32 → Prop) (X : pw_W → Nat → Prop) : Prop := ∃ k32, lp_L_areCases_7 Q X k32 a1 0 1 0 w
set_option maxHeartbeats 4000000 in
set_option maxRecDepth 20000 in
theorem vw_L_areCases {l : Launch} {g : pw_G} {Q : pw_W → Int32 → Prop} {X : pw_W → Nat → Prop} (hl0 : l.stackTraces = false) {w : pw_W} {a1 : Int32} (h : wp_L_areCases w a1 Q X) : pw_V l g cx_L_areCases Q X 0 [(9, 0), (0, a1), (1, 0), (1, 0), (1, 0), (1, 0), (1, 0)] [] w := by
  unfold wp_L_areCases at h
  refine pv_iconst (v := 0) (n := 1) d_L_areCases_0 (by decide) rfl ?_
  refine pv_istore_n (n := 2) (L' := [(9, 0), (0, a1), (0, 0), (1, 0), (1, 0), (1, 0), (1, 0)]) d_L_areCases_1 rfl (by decide) rfl rfl ?_
  refine pv_iconst (v := 1) (n := 3) d_L_areCases_2 (by decide) rfl ?_
  refine pv_istore_n (n := 4) (L' := [(9, 0), (0, a1), (0, 0), (0, 1), (1, 0), (1, 0), (1, 0)]) d_L_areCases_3 rfl (by decide) rfl rfl ?_
  refine pv_iconst (v := 0) (n := 5) d_L_areCases_4 (by decide) rfl ?_
  refine pv_istore (n := 7) (L' := [(9, 0), (0, a1), (0, 0), (0, 1), (0, 0), (1, 0), (1, 0)]) d_L_areCases_5 (by decide) rfl rfl ?_
  obtain ⟨k32, h⟩ := h
  exact vlp_L_areCases_7 hl0 _ _ _ _ _ _ h
set_option maxHeartbeats 4000000 in
set_option maxRecDepth 20000 in
theorem con_L_areCases {l : Launch} {g : pw_G} {Q : pw_W → Int32 → Prop} {X : pw_W → Nat → Prop} (hl0 : l.stackTraces = false) {w : pw_W} {a1 : Int32} (h : wp_L_areCases w a1 Q X) : pw_Con l g y_L_areCases cx_L_areCases [(9, 0), (0, a1)] w Q X :=
  pw_con (by decide +kernel) rfl rfl hl0 rfl (Nat.le_of_ble_eq_true rfl) (by simp) (vw_L_areCases hl0 h)
theorem d_L_right_0 : decode (pw_cc cx_L_right) 0 = .ok (.aload_n 0, 1) := by decide +kernel
theorem d_L_right_1 : decode (pw_cc cx_L_right) 1 = .ok (.iload_n 1, 1) := by decide +kernel
theorem d_L_right_2 : decode (pw_cc cx_L_right) 2 = .ok (.iconst 0, 1) := by decide +kernel
theorem d_L_right_3 : decode (pw_cc cx_L_right) 3 = .ok (.invokevirtual 94, 3) := by decide +kernel
theorem d_L_right_6 : decode (pw_cc cx_L_right) 6 = .ok (.iconst (-1), 1) := by decide +kernel
theorem d_L_right_7 : decode (pw_cc cx_L_right) 7 = .ok (.if_icmp .lt 7, 3) := by decide +kernel
theorem d_L_right_10 : decode (pw_cc cx_L_right) 10 = .ok (.iconst 1, 1) := by decide +kernel
theorem d_L_right_11 : decode (pw_cc cx_L_right) 11 = .ok (.goto 4, 3) := by decide +kernel
theorem d_L_right_14 : decode (pw_cc cx_L_right) 14 = .ok (.iconst 0, 1) := by decide +kernel
theorem d_L_right_15 : decode (pw_cc cx_L_right) 15 = .ok (.ireturn, 1) := by decide +kernel
theorem d_L_right_16 : decode (pw_cc cx_L_right) 16 = .ok (.astore_n 2, 1) := by decide +kernel
theorem d_L_right_17 : decode (pw_cc cx_L_right) 17 = .ok (.iconst 0, 1) := by decide +kernel
theorem d_L_right_18 : decode (pw_cc cx_L_right) 18 = .ok (.ireturn, 1) := by decide +kernel
set_option maxHeartbeats 4000000 in
set_option maxRecDepth 20000 in
def wp_L_right (w : pw_W) (a1 : Int32) (Q : pw_W → Int32 → Prop) (X : pw_W → Nat → Prop) : Prop := wp_X_rightAt w a1 0 (fun w1 r2 => (r2 < (-1) → Q w1 0) ∧ (¬ r2 < (-1) → Q w1 1)) (fun wx kx => kx = 1 ∧ Q wx 0)
set_option maxHeartbeats 4000000 in
set_option maxRecDepth 20000 in
theorem vw_L_right {l : Launch} {g : pw_G} {Q : pw_W → Int32 → Prop} {X : pw_W → Nat → Prop} (hl0 : l.stackTraces = false) {w : pw_W} {a1 : Int32} (h : wp_L_right w a1 Q X) : pw_V l g cx_L_right Q X 0 [(9, 0), (0, a1), (1, 0)] [] w := by
  unfold wp_L_right at h
  refine pv_aload_n (n := 1) d_L_right_0 rfl rfl rfl ?_
  refine pv_iload_n (n := 2) d_L_right_1 rfl rfl rfl ?_
  refine pv_iconst (v := 0) (n := 3) d_L_right_2 (by decide) rfl ?_
  refine pv_callV (n := 6) (x := 0) [(0, a1), (0, 0)] [] (con_X_rightAt hl0 h) pw_cf7 rfl q_517 q_518 q_519 q_62 q_516 pyo_X_rightAt (by decide) rfl rfl (by decide) d_L_right_3 rfl (fun w1 r2 h _ => ?_) (fun wx kx h => ?_)
  · show pw_V l g cx_L_right Q X 6 [(9, 0), (0, a1), (1, 0)] [(0, r2)] w1
    refine pv_iconst (v := -1) (n := 7) d_L_right_6 (by decide) rfl ?_
    refine pv_icmp_lt (n := 10) (tgt := 14) d_L_right_7 (by decide) rfl (fun c3 => ?_) (fun c3 => ?_)
    · replace h := h.1 c3
      refine pv_iconst (v := 0) (n := 15) d_L_right_14 (by decide) rfl ?_
      exact pv_zret rfl rfl d_L_right_15 (by decide) h
    · replace h := h.2 c3
      refine pv_iconst (v := 1) (n := 11) d_L_right_10 (by decide) rfl ?_
      refine pv_goto (tgt := 15) d_L_right_11 (by decide) ?_
      exact pv_zret rfl rfl d_L_right_15 (by decide) h
  · rcases h with ⟨rfl, h⟩
    · refine pvx_catch_n (jf := 2) (i := 16) (n := 17) [] ⟨0, 15, 16, 69⟩ [] (L1 := [(9, 0), (0, a1), (1, 0)]) rfl (pw_hp0) (by decide) (by decide) q_487 q_486 rfl d_L_right_16 (by decide) rfl rfl ?_
      refine pv_iconst (v := 0) (n := 18) d_L_right_17 (by decide) rfl ?_
      exact pv_zret rfl rfl d_L_right_18 (by decide) h
set_option maxHeartbeats 4000000 in
set_option maxRecDepth 20000 in
theorem con_L_right {l : Launch} {g : pw_G} {Q : pw_W → Int32 → Prop} {X : pw_W → Nat → Prop} (hl0 : l.stackTraces = false) {w : pw_W} {a1 : Int32} (h : wp_L_right w a1 Q X) : pw_ConH l g y_L_right cx_L_right [(9, 0), (0, a1)] w Q X :=
  pw_conH (by decide +kernel) rfl rfl hl0 (Nat.le_of_ble_eq_true rfl) (by simp) (vw_L_right hl0 h)
