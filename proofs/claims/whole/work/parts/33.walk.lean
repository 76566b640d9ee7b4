theorem d_X_square_0 : decode (pw_cc cx_X_square) 0 = .ok (.aload_n 0, 1) := by decide +kernel
theorem d_X_square_1 : decode (pw_cc cx_X_square) 1 = .ok (.iload_n 1, 1) := by decide +kernel
theorem d_X_square_2 : decode (pw_cc cx_X_square) 2 = .ok (.invokevirtual 270, 3) := by decide +kernel
theorem d_X_square_5 : decode (pw_cc cx_X_square) 5 = .ok (.astore_n 3, 1) := by decide +kernel
theorem d_X_square_6 : decode (pw_cc cx_X_square) 6 = .ok (.iload_n 2, 1) := by decide +kernel
theorem d_X_square_7 : decode (pw_cc cx_X_square) 7 = .ok (.tableswitch 53 0 3 #[29, 34, 39, 45], 29) := by decide +kernel
theorem d_X_square_36 : decode (pw_cc cx_X_square) 36 = .ok (.aload_n 3, 1) := by decide +kernel
theorem d_X_square_37 : decode (pw_cc cx_X_square) 37 = .ok (.getfield 278, 3) := by decide +kernel
theorem d_X_square_40 : decode (pw_cc cx_X_square) 40 = .ok (.ireturn, 1) := by decide +kernel
theorem d_X_square_41 : decode (pw_cc cx_X_square) 41 = .ok (.aload_n 3, 1) := by decide +kernel
theorem d_X_square_42 : decode (pw_cc cx_X_square) 42 = .ok (.getfield 238, 3) := by decide +kernel
theorem d_X_square_45 : decode (pw_cc cx_X_square) 45 = .ok (.ireturn, 1) := by decide +kernel
theorem d_X_square_46 : decode (pw_cc cx_X_square) 46 = .ok (.aload_n 0, 1) := by decide +kernel
theorem d_X_square_47 : decode (pw_cc cx_X_square) 47 = .ok (.aload_n 3, 1) := by decide +kernel
theorem d_X_square_48 : decode (pw_cc cx_X_square) 48 = .ok (.invokevirtual 353, 3) := by decide +kernel
theorem d_X_square_51 : decode (pw_cc cx_X_square) 51 = .ok (.ireturn, 1) := by decide +kernel
theorem d_X_square_52 : decode (pw_cc cx_X_square) 52 = .ok (.aload_n 3, 1) := by decide +kernel
theorem d_X_square_53 : decode (pw_cc cx_X_square) 53 = .ok (.getfield 142, 3) := by decide +kernel
theorem d_X_square_56 : decode (pw_cc cx_X_square) 56 = .ok (.invokestatic 330, 3) := by decide +kernel
theorem d_X_square_59 : decode (pw_cc cx_X_square) 59 = .ok (.ireturn, 1) := by decide +kernel
theorem d_X_square_60 : decode (pw_cc cx_X_square) 60 = .ok (.new 320, 3) := by decide +kernel
theorem d_X_square_63 : decode (pw_cc cx_X_square) 63 = .ok (.dup, 1) := by decide +kernel
theorem d_X_square_64 : decode (pw_cc cx_X_square) 64 = .ok (.ldc_w 357, 3) := by decide +kernel
theorem d_X_square_67 : decode (pw_cc cx_X_square) 67 = .ok (.invokespecial 324, 3) := by decide +kernel
theorem d_X_square_70 : decode (pw_cc cx_X_square) 70 = .ok (.athrow, 1) := by decide +kernel
set_option maxHeartbeats 4000000 in
set_option maxRecDepth 20000 in
def wp_X_square (w : pw_W) (a1 a2 : Int32) (Q : pw_W → Int32 → Prop) (X : pw_W → Nat → Prop) : Prop := wp_X_squareNumbered w a1 (fun w1 r2 => ((a2.toInt < 0 ∨ 3 < a2.toInt) → pw_thr w1 X 1) ∧ (a2 = 0 → 0 ≤ r2 ∧ Q w1 (w1.1 6 (pw_i r2) 4)) ∧ (a2 = 1 → 0 ≤ r2 ∧ Q w1 (w1.1 6 (pw_i r2) 5)) ∧ (a2 = 2 → wp_X_countBirds w1 r2 (fun w6 r7 => Q w6 r7) (fun _ _ => False)) ∧ (a2 = 3 → 0 ≤ r2 ∧ wp_X_numberOf w1 (w1.1 6 (pw_i r2) 7) (fun w9 r10 => Q w9 r10) (fun _ _ => False))) X
set_option maxHeartbeats 4000000 in
set_option maxRecDepth 20000 in
theorem vw_X_square {l : Launch} {g : pw_G} {Q : pw_W → Int32 → Prop} {X : pw_W → Nat → Prop} (hl0 : l.stackTraces = false) {w : pw_W} {a1 a2 : Int32} (h : wp_X_square w a1 a2 Q X) : pw_V l g cx_X_square Q X 0 [(9, 0), (0, a1), (0, a2), (1, 0)] [] w := by
  unfold wp_X_square at h
  refine pv_aload_n (n := 1) d_X_square_0 rfl rfl rfl ?_
  refine pv_iload_n (n := 2) d_X_square_1 rfl rfl rfl ?_
  refine pv_callV (n := 5) (x := 0) [(0, a1)] [] (con_X_squareNumbered hl0 h) pw_cf7 rfl q_301 q_302 q_303 q_62 q_300 pyo_X_squareNumbered (by decide) rfl rfl (by decide) d_X_square_2 rfl (fun w1 r2 h _ => ?_) (fun _ _ h => pvx_out rfl h)
  show pw_V l g cx_X_square Q X 5 [(9, 0), (0, a1), (0, a2), (1, 0)] [(8, r2)] w1
  refine pv_astore_n (n := 6) (L' := [(9, 0), (0, a1), (0, a2), (8, r2)]) d_X_square_5 rfl (by decide) rfl rfl ?_
  refine pv_iload_n (n := 7) d_X_square_6 rfl rfl rfl ?_
  by_cases c3 : a2.toInt < 0 ∨ 3 < a2.toInt
  · replace h := h.1 c3
    refine pv_tableOut (tgt := 60) d_X_square_7 c3 (by decide) ?_
    exact pv_throw (k := 1) (text := "no such thing is told of a square") hl0 q_88 q_89 (by decide +kernel) (by decide +kernel) (pt_h1_324) (pt_g1_320_324) rfl d_X_square_60 d_X_square_63 d_X_square_64 d_X_square_67 d_X_square_70 (by decide) rfl h
  · replace h := h.2
    obtain ⟨cn, hcn, hce⟩ := pw_sw (N := 4) (x := a2) c3
    have hcs : cn = 0 ∨ cn = 1 ∨ cn = 2 ∨ cn = 3 := by omega
    rcases hcs with rfl | rfl | rfl | rfl
    · replace hce : a2 = 0 := hce
      replace h := h.1 hce
      refine pv_tableIn (tgt := 36) (off := 29) d_X_square_7 (by rw [hce]; decide) (by rw [hce]; decide) (by rw [hce]; rfl) (by decide) ?_
      refine pv_aload_n (n := 37) d_X_square_36 rfl rfl rfl ?_
      obtain ⟨g4, h⟩ := h
      refine gt_X_278 (n := 40) rfl d_X_square_37 g4 rfl ?_
      exact pv_iret rfl rfl d_X_square_40 h
    · replace hce : a2 = 1 := hce
      replace h := h.2.1 hce
      refine pv_tableIn (tgt := 41) (off := 34) d_X_square_7 (by rw [hce]; decide) (by rw [hce]; decide) (by rw [hce]; rfl) (by decide) ?_
      refine pv_aload_n (n := 42) d_X_square_41 rfl rfl rfl ?_
      obtain ⟨g5, h⟩ := h
      refine gt_X_238 (n := 45) rfl d_X_square_42 g5 rfl ?_
      exact pv_iret rfl rfl d_X_square_45 h
    · replace hce : a2 = 2 := hce
      replace h := h.2.2.1 hce
      refine pv_tableIn (tgt := 46) (off := 39) d_X_square_7 (by rw [hce]; decide) (by rw [hce]; decide) (by rw [hce]; rfl) (by decide) ?_
      refine pv_aload_n (n := 47) d_X_square_46 rfl rfl rfl ?_
      refine pv_aload_n (n := 48) d_X_square_47 rfl rfl rfl ?_
      refine pv_callV (n := 51) (x := 0) [(8, r2)] [] (con_X_countBirds hl0 h) pw_cf7 rfl q_325 q_326 q_327 q_62 q_324 pyo_X_countBirds (by decide) rfl rfl (by decide) d_X_square_48 rfl (fun w6 r7 h _ => ?_) (fun _ _ h => h.elim)
      show pw_V l g cx_X_square Q X 51 [(9, 0), (0, a1), (0, a2), (8, r2)] [(0, r7)] w6
      exact pv_iret rfl rfl d_X_square_51 h
    · replace hce : a2 = 3 := hce
      replace h := h.2.2.2 hce
      refine pv_tableIn (tgt := 52) (off := 45) d_X_square_7 (by rw [hce]; decide) (by rw [hce]; decide) (by rw [hce]; rfl) (by decide) ?_
      refine pv_aload_n (n := 53) d_X_square_52 rfl rfl rfl ?_
      obtain ⟨g8, h⟩ := h
      refine gt_X_142 (n := 56) rfl d_X_square_53 g8 rfl ?_
      refine pv_callS (n := 59) [(6, (w1.1 6 (pw_i r2) 7))] [] (con_X_numberOf hl0 h) q_407 q_408 q_62 q_406 pyo_X_numberOf (by decide) rfl rfl d_X_square_56 rfl (fun w9 r10 h _ => ?_) (fun _ _ h => h.elim)
      show pw_V l g cx_X_square Q X 59 [(9, 0), (0, a1), (0, a2), (8, r2)] [(0, r10)] w9
      exact pv_iret rfl rfl d_X_square_59 h
set_option maxHeartbeats 4000000 in
set_option maxRecDepth 20000 in
theorem con_X_square {l : Launch} {g : pw_G} {Q : pw_W → Int32 → Prop} {X : pw_W → Nat → Prop} (hl0 : l.stackTraces = false) {w : pw_W} {a1 a2 : Int32} (h : wp_X_square w a1 a2 Q X) : pw_Con l g y_X_square cx_X_square [(9, 0), (0, a1), (0, a2)] w Q X :=
  pw_con (by decide +kernel) rfl rfl hl0 rfl (Nat.le_of_ble_eq_true rfl) (by simp) (vw_X_square hl0 h)
theorem d_X_countWater_0 : decode (pw_cc cx_X_countWater) 0 = .ok (.iconst 0, 1) := by decide +kernel
theorem d_X_countWater_1 : decode (pw_cc cx_X_countWater) 1 = .ok (.istore_n 1, 1) := by decide +kernel
theorem d_X_countWater_2 : decode (pw_cc cx_X_countWater) 2 = .ok (.aload_n 0, 1) := by decide +kernel
theorem d_X_countWater_3 : decode (pw_cc cx_X_countWater) 3 = .ok (.getfield 11, 3) := by decide +kernel
theorem d_X_countWater_6 : decode (pw_cc cx_X_countWater) 6 = .ok (.astore_n 2, 1) := by decide +kernel
theorem d_X_countWater_7 : decode (pw_cc cx_X_countWater) 7 = .ok (.aload_n 2, 1) := by decide +kernel
theorem d_X_countWater_8 : decode (pw_cc cx_X_countWater) 8 = .ok (.arraylength, 1) := by decide +kernel
theorem d_X_countWater_9 : decode (pw_cc cx_X_countWater) 9 = .ok (.istore_n 3, 1) := by decide +kernel
theorem d_X_countWater_10 : decode (pw_cc cx_X_countWater) 10 = .ok (.iconst 0, 1) := by decide +kernel
theorem d_X_countWater_11 : decode (pw_cc cx_X_countWater) 11 = .ok (.istore 4, 2) := by decide +kernel
theorem d_X_countWater_13 : decode (pw_cc cx_X_countWater) 13 = .ok (.iload 4, 2) := by decide +kernel
theorem d_X_countWater_15 : decode (pw_cc cx_X_countWater) 15 = .ok (.iload_n 3, 1) := by decide +kernel
theorem d_X_countWater_16 : decode (pw_cc cx_X_countWater) 16 = .ok (.if_icmp .ge 23, 3) := by decide +kernel
theorem d_X_countWater_19 : decode (pw_cc cx_X_countWater) 19 = .ok (.aload_n 2, 1) := by decide +kernel
theorem d_X_countWater_20 : decode (pw_cc cx_X_countWater) 20 = .ok (.iload 4, 2) := by decide +kernel
theorem d_X_countWater_22 : decode (pw_cc cx_X_countWater) 22 = .ok (.aaload, 1) := by decide +kernel
theorem d_X_countWater_23 : decode (pw_cc cx_X_countWater) 23 = .ok (.astore 5, 2) := by decide +kernel
theorem d_X_countWater_25 : decode (pw_cc cx_X_countWater) 25 = .ok (.iload_n 1, 1) := by decide +kernel
theorem d_X_countWater_26 : decode (pw_cc cx_X_countWater) 26 = .ok (.aload 5, 2) := by decide +kernel
theorem d_X_countWater_28 : decode (pw_cc cx_X_countWater) 28 = .ok (.getfield 238, 3) := by decide +kernel
theorem d_X_countWater_31 : decode (pw_cc cx_X_countWater) 31 = .ok (.iadd, 1) := by decide +kernel
theorem d_X_countWater_32 : decode (pw_cc cx_X_countWater) 32 = .ok (.istore_n 1, 1) := by decide +kernel
theorem d_X_countWater_33 : decode (pw_cc cx_X_countWater) 33 = .ok (.iinc 4 1, 3) := by decide +kernel
theorem d_X_countWater_36 : decode (pw_cc cx_X_countWater) 36 = .ok (.goto (-23), 3) := by decide +kernel
theorem d_X_countWater_39 : decode (pw_cc cx_X_countWater) 39 = .ok (.iload_n 1, 1) := by decide +kernel
theorem d_X_countWater_40 : decode (pw_cc cx_X_countWater) 40 = .ok (.ireturn, 1) := by decide +kernel
set_option maxHeartbeats 4000000 in
set_option maxRecDepth 20000 in
def lp_X_countWater_13 (Q : pw_W → Int32 → Prop) (X : pw_W → Nat → Prop) : Nat → Int32 → Int32 → Int32 → pw_W → Prop := fun k => Nat.rec (motive := fun _ => Int32 → Int32 → Int32 → pw_W → Prop) (fun _ _ _ _ => False) (fun _ ih a1 a3 a4 w => (a3 ≤ a4 → Q w a1) ∧ (¬ a3 ≤ a4 → pw_jn a4 (pw_ln w 14 0) ∧ ∀ v3, v3 = (w.1 14 0 (pw_i a4)) → 0 ≤ v3 ∧ ∀ v6, v6 = (a1 + (w.1 6 (pw_i v3) 5)) → ih v6 a3 (a4 + 1) w)) k
set_option maxHeartbeats 4000000 in
set_option maxRecDepth 20000 in
theorem lp_X_countWater_13_s {Q : pw_W → Int32 → Prop} {X : pw_W → Nat → Prop}  {k : Nat} {a1 a3 a4 : Int32} {w : pw_W} : lp_X_countWater_13 Q X (k + 1) a1 a3 a4 w = (let ih := lp_X_countWater_13 Q X k; (a3 ≤ a4 → Q w a1) ∧ (¬ a3 ≤ a4 → pw_jn a4 (pw_ln w 14 0) ∧ ∀ v3, v3 = (w.1 14 0 (pw_i a4)) → 0 ≤ v3 ∧ ∀ v6, v6 = (a1 + (w.1 6 (pw_i v3) 5)) → ih v6 a3 (a4 + 1) w)) := rfl
set_option maxHeartbeats 4000000 in
set_option maxRecDepth 20000 in
theorem vlp_X_countWater_13 {l : Launch} {g : pw_G} {Q : pw_W → Int32 → Prop} {X : pw_W → Nat → Prop} (hl0 : l.stackTraces = false) : ∀ (k : Nat) (a1 a3 a4 : Int32) (w : pw_W), lp_X_countWater_13 Q X k a1 a3 a4 w → pw_V l g cx_X_countWater Q X 13 [(1, 0), (0, a1), (16, 0), (0, a3), (0, a4), (1, 0)] [] w := by
  intro k; induction k with
  | zero => intro _ _ _ _ h; exact h.elim
  | succ k ih =>
    intro a1 a3 a4 w h
    rw [lp_X_countWater_13_s] at h
    refine pv_iload (n := 15) d_X_countWater_13 rfl rfl ?_
    refine pv_iload_n (n := 16) d_X_countWater_15 rfl rfl rfl ?_
    refine pv_icmp_ge (n := 19) (tgt := 39) d_X_countWater_16 (by decide) rfl (fun c1 => ?_) (fun c1 => ?_)
    · replace h := h.1 c1
      refine pv_iload_n (n := 40) d_X_countWater_39 rfl rfl rfl ?_
      exact pv_iret rfl rfl d_X_countWater_40 h
    · replace h := h.2 c1
      refine pv_aload_n (n := 20) d_X_countWater_19 rfl rfl rfl ?_
      refine pv_iload (n := 22) d_X_countWater_20 rfl rfl ?_
      obtain ⟨g2, h⟩ := h
      refine pv_aald (n := 23) (f := 14) (F := 6) (C := "Peatland$Square") (by decide) (Or.inl ⟨rfl, rfl⟩) (fun _ => rfl) d_X_countWater_22 (by decide) g2 rfl (fun _ => ?_)
      refine pv_nm (fun v3 e4 => ?_)
      replace h := h v3 e4
      refine pv_astore (n := 25) (L' := [(1, 0), (0, a1), (16, 0), (0, a3), (0, a4), (8, v3)]) d_X_countWater_23 (by decide) rfl rfl ?_
      refine pv_iload_n (n := 26) d_X_countWater_25 rfl rfl rfl ?_
      refine pv_aload (n := 28) d_X_countWater_26 rfl rfl ?_
      obtain ⟨g5, h⟩ := h
      refine gt_X_238 (n := 31) rfl d_X_countWater_28 g5 rfl ?_
      refine pv_iadd (n := 32) d_X_countWater_31 rfl ?_
      refine pv_nm (fun v6 e7 => ?_)
      replace h := h v6 e7
      refine pv_istore_n (n := 33) (L' := [(1, 0), (0, v6), (16, 0), (0, a3), (0, a4), (8, v3)]) d_X_countWater_32 rfl (by decide) rfl rfl ?_
      refine pv_iinc (v := (a4 + 1)) (n := 36) (L1 := [(1, 0), (0, v6), (16, 0), (0, a3), (0, (a4 + 1)), (8, v3)]) d_X_countWater_33 rfl rfl rfl (by decide) rfl ?_
      refine pv_goto (tgt := 13) d_X_countWater_36 (by decide) ?_
      refine pv_unset (i := 5) (L1 := [(1, 0), (0, v6), (16, 0), (0, a3), (0, (a4 + 1)), (1, 0)]) rfl ?_
      exact ih _ _ _ _ h
set_option maxHeartbeats 4000000 in
set_option maxRecDepth 20000 in
def wp_X_countWater (w : pw_W) (Q : pw_W → Int32 → Prop) (X : pw_W → Nat → Prop) : Prop := w.1 7 0 0 = 0 ∧ ∀ v9, v9 = (nI (pw_ln w 14 0)) → ∃ k11, lp_X_countWater_13 Q X k11 0 v9 0 w
set_option maxHeartbeats 4000000 in
set_option maxRecDepth 20000 in
theorem vw_X_countWater {l : Launch} {g : pw_G} {Q : pw_W → Int32 → Prop} {X : pw_W → Nat → Prop} (hl0 : l.stackTraces = false) {w : pw_W} (h : wp_X_countWater w Q X) : pw_V l g cx_X_countWater Q X 0 [(9, 0), (1, 0), (1, 0), (1, 0), (1, 0), (1, 0)] [] w := by
  unfold wp_X_countWater at h
  refine pv_iconst (v := 0) (n := 1) d_X_countWater_0 (by decide) rfl ?_
  refine pv_istore_n (n := 2) (L' := [(9, 0), (0, 0), (1, 0), (1, 0), (1, 0), (1, 0)]) d_X_countWater_1 rfl (by decide) rfl rfl ?_
  refine pv_aload_n (n := 3) d_X_countWater_2 rfl rfl rfl ?_
  obtain ⟨g8, h⟩ := h
  refine gt_X_11 (n := 6) rfl d_X_countWater_3 (by decide) g8 rfl ?_
  refine pv_astore_n (n := 7) (L' := [(9, 0), (0, 0), (16, 0), (1, 0), (1, 0), (1, 0)]) d_X_countWater_6 rfl (by decide) rfl rfl ?_
  refine pv_aload_n (n := 8) d_X_countWater_7 rfl rfl rfl ?_
  refine pv_alen (n := 9) (f := 14) (by decide) ⟨_, rfl⟩ d_X_countWater_8 (by decide) rfl ?_
  refine pv_nm (fun v9 e10 => ?_)
  replace h := h v9 e10
  refine pv_istore_n (n := 10) (L' := [(9, 0), (0, 0), (16, 0), (0, v9), (1, 0), (1, 0)]) d_X_countWater_9 rfl (by decide) rfl rfl ?_
  refine pv_iconst (v := 0) (n := 11) d_X_countWater_10 (by decide) rfl ?_
  refine pv_istore (n := 13) (L' := [(9, 0), (0, 0), (16, 0), (0, v9), (0, 0), (1, 0)]) d_X_countWater_11 (by decide) rfl rfl ?_
  refine pv_unset (i := 0) (L1 := [(1, 0), (0, 0), (16, 0), (0, v9), (0, 0), (1, 0)]) rfl ?_
  obtain ⟨k11, h⟩ := h
  exact vlp_X_countWater_13 hl0 _ _ _ _ _ h
set_option maxHeartbeats 4000000 in
set_option maxRecDepth 20000 in
theorem con_X_countWater {l : Launch} {g : pw_G} {Q : pw_W → Int32 → Prop} {X : pw_W → Nat → Prop} (hl0 : l.stackTraces = false) {w : pw_W} (h : wp_X_countWater w Q X) : pw_Con l g y_X_countWater cx_X_countWater [(9, 0)] w Q X :=
  pw_con (by decide +kernel) rfl rfl hl0 rfl (Nat.le_of_ble_eq_true rfl) (by simp) (vw_X_countWater hl0 h)
theorem d_X_water_0 : decode (pw_cc cx_X_water) 0 = .ok (.iload_n 1, 1) := by decide +kernel
theorem d_X_water_1 : decode (pw_cc cx_X_water) 1 = .ok (.tableswitch 51 0 3 #[31, 36, 41, 46], 31) := by decide +kernel
theorem d_X_water_32 : decode (pw_cc cx_X_water) 32 = .ok (.aload_n 0, 1) := by decide +kernel
theorem d_X_water_33 : decode (pw_cc cx_X_water) 33 = .ok (.invokevirtual 359, 3) := by decide +kernel
theorem d_X_water_36 : decode (pw_cc cx_X_water) 36 = .ok (.ireturn, 1) := by decide +kernel
theorem d_X_water_37 : decode (pw_cc cx_X_water) 37 = .ok (.aload_n 0, 1) := by decide +kernel
theorem d_X_water_38 : decode (pw_cc cx_X_water) 38 = .ok (.getfield 247, 3) := by decide +kernel
theorem d_X_water_41 : decode (pw_cc cx_X_water) 41 = .ok (.ireturn, 1) := by decide +kernel
theorem d_X_water_42 : decode (pw_cc cx_X_water) 42 = .ok (.aload_n 0, 1) := by decide +kernel
theorem d_X_water_43 : decode (pw_cc cx_X_water) 43 = .ok (.getfield 250, 3) := by decide +kernel
theorem d_X_water_46 : decode (pw_cc cx_X_water) 46 = .ok (.ireturn, 1) := by decide +kernel
theorem d_X_water_47 : decode (pw_cc cx_X_water) 47 = .ok (.aload_n 0, 1) := by decide +kernel
theorem d_X_water_48 : decode (pw_cc cx_X_water) 48 = .ok (.getfield 362, 3) := by decide +kernel
theorem d_X_water_51 : decode (pw_cc cx_X_water) 51 = .ok (.ireturn, 1) := by decide +kernel
theorem d_X_water_52 : decode (pw_cc cx_X_water) 52 = .ok (.new 320, 3) := by decide +kernel
theorem d_X_water_55 : decode (pw_cc cx_X_water) 55 = .ok (.dup, 1) := by decide +kernel
theorem d_X_water_56 : decode (pw_cc cx_X_water) 56 = .ok (.ldc_w 365, 3) := by decide +kernel
theorem d_X_water_59 : decode (pw_cc cx_X_water) 59 = .ok (.invokespecial 324, 3) := by decide +kernel
theorem d_X_water_62 : decode (pw_cc cx_X_water) 62 = .ok (.athrow, 1) := by decide +kernel
set_option maxHeartbeats 4000000 in
set_option maxRecDepth 20000 in
def wp_X_water (w : pw_W) (a1 : Int32) (Q : pw_W → Int32 → Prop) (X : pw_W → Nat → Prop) : Prop := ((a1.toInt < 0 ∨ 3 < a1.toInt) → pw_thr w X 1) ∧ (a1 = 0 → wp_X_countWater w  (fun w2 r3 => Q w2 r3) (fun _ _ => False)) ∧ (a1 = 1 → Q w (w.1 7 0 9)) ∧ (a1 = 2 → Q w (w.1 7 0 10)) ∧ (a1 = 3 → Q w (w.1 7 0 11))
set_option maxHeartbeats 4000000 in
set_option maxRecDepth 20000 in
theorem vw_X_water {l : Launch} {g : pw_G} {Q : pw_W → Int32 → Prop} {X : pw_W → Nat → Prop} (hl0 : l.stackTraces = false) {w : pw_W} {a1 : Int32} (h : wp_X_water w a1 Q X) : pw_V l g cx_X_water Q X 0 [(9, 0), (0, a1)] [] w := by
  unfold wp_X_water at h
  refine pv_iload_n (n := 1) d_X_water_0 rfl rfl rfl ?_
  by_cases c1 : a1.toInt < 0 ∨ 3 < a1.toInt
  · replace h := h.1 c1
    refine pv_tableOut (tgt := 52) d_X_water_1 c1 (by decide) ?_
    exact pv_throw (k := 1) (text := "no such thing is told of water") hl0 q_88 q_89 (by decide +kernel) (by decide +kernel) (pt_h1_324) (pt_g1_320_324) rfl d_X_water_52 d_X_water_55 d_X_water_56 d_X_water_59 d_X_water_62 (by decide) rfl h
  · replace h := h.2
    obtain ⟨cn, hcn, hce⟩ := pw_sw (N := 4) (x := a1) c1
    have hcs : cn = 0 ∨ cn = 1 ∨ cn = 2 ∨ cn = 3 := by omega
    rcases hcs with rfl | rfl | rfl | rfl
    · replace hce : a1 = 0 := hce
      replace h := h.1 hce
      refine pv_tableIn (tgt := 32) (off := 31) d_X_water_1 (by rw [hce]; decide) (by rw [hce]; decide) (by rw [hce]; rfl) (by decide) ?_
      refine pv_aload_n (n := 33) d_X_water_32 rfl rfl rfl ?_
      refine pv_callV (n := 36) (x := 0) [] [] (con_X_countWater hl0 h) pw_cf7 rfl q_415 q_416 q_417 q_62 q_414 pyo_X_countWater (by decide) rfl rfl (by decide) d_X_water_33 rfl (fun w2 r3 h _ => ?_) (fun _ _ h => h.elim)
      show pw_V l g cx_X_water Q X 36 [(9, 0), (0, a1)] [(0, r3)] w2
      exact pv_iret rfl rfl d_X_water_36 h
    · replace hce : a1 = 1 := hce
      replace h := h.2.1 hce
      refine pv_tableIn (tgt := 37) (off := 36) d_X_water_1 (by rw [hce]; decide) (by rw [hce]; decide) (by rw [hce]; rfl) (by decide) ?_
      refine pv_aload_n (n := 38) d_X_water_37 rfl rfl rfl ?_
      refine gt_X_247 (n := 41) rfl d_X_water_38 (by decide) rfl ?_
      exact pv_iret rfl rfl d_X_water_41 h
    · replace hce : a1 = 2 := hce
      replace h := h.2.2.1 hce
      refine pv_tableIn (tgt := 42) (off := 41) d_X_water_1 (by rw [hce]; decide) (by rw [hce]; decide) (by rw [hce]; rfl) (by decide) ?_
      refine pv_aload_n (n := 43) d_X_water_42 rfl rfl rfl ?_
      refine gt_X_250 (n := 46) rfl d_X_water_43 (by decide) rfl ?_
      exact pv_iret rfl rfl d_X_water_46 h
    · replace hce : a1 = 3 := hce
      replace h := h.2.2.2 hce
      refine pv_tableIn (tgt := 47) (off := 46) d_X_water_1 (by rw [hce]; decide) (by rw [hce]; decide) (by rw [hce]; rfl) (by decide) ?_
      refine pv_aload_n (n := 48) d_X_water_47 rfl rfl rfl ?_
      refine gt_X_362 (n := 51) rfl d_X_water_48 (by decide) rfl ?_
      exact pv_iret rfl rfl d_X_water_51 h
set_option maxHeartbeats 4000000 in
set_option maxRecDepth 20000 in
theorem con_X_water {l : Launch} {g : pw_G} {Q : pw_W → Int32 → Prop} {X : pw_W → Nat → Prop} (hl0 : l.stackTraces = false) {w : pw_W} {a1 : Int32} (h : wp_X_water w a1 Q X) : pw_Con l g y_X_water cx_X_water [(9, 0), (0, a1)] w Q X :=
  pw_con (by decide +kernel) rfl rfl hl0 rfl (Nat.le_of_ble_eq_true rfl) (by simp) (vw_X_water hl0 h)
theorem d_X_paid_0 : decode (pw_cc cx_X_paid) 0 = .ok (.aload_n 0, 1) := by decide +kernel
theorem d_X_paid_1 : decode (pw_cc cx_X_paid) 1 = .ok (.iload_n 1, 1) := by decide +kernel
theorem d_X_paid_2 : decode (pw_cc cx_X_paid) 2 = .ok (.invokevirtual 69, 3) := by decide +kernel
theorem d_X_paid_5 : decode (pw_cc cx_X_paid) 5 = .ok (.getfield 367, 3) := by decide +kernel
theorem d_X_paid_8 : decode (pw_cc cx_X_paid) 8 = .ok (.ireturn, 1) := by decide +kernel
set_option maxHeartbeats 4000000 in
set_option maxRecDepth 20000 in
def wp_X_paid (w : pw_W) (a1 : Int32) (Q : pw_W → Int32 → Prop) (X : pw_W → Nat → Prop) : Prop := wp_X_personNumbered w a1 (fun w1 r2 => 0 ≤ r2 ∧ Q w1 (w1.1 4 (pw_i r2) 3)) X
set_option maxHeartbeats 4000000 in
set_option maxRecDepth 20000 in
theorem vw_X_paid {l : Launch} {g : pw_G} {Q : pw_W → Int32 → Prop} {X : pw_W → Nat → Prop} (hl0 : l.stackTraces = false) {w : pw_W} {a1 : Int32} (h : wp_X_paid w a1 Q X) : pw_V l g cx_X_paid Q X 0 [(9, 0), (0, a1)] [] w := by
  unfold wp_X_paid at h
  refine pv_aload_n (n := 1) d_X_paid_0 rfl rfl rfl ?_
  refine pv_iload_n (n := 2) d_X_paid_1 rfl rfl rfl ?_
  refine pv_callV (n := 5) (x := 0) [(0, a1)] [] (con_X_personNumbered hl0 h) pw_cf7 rfl q_139 q_140 q_141 q_62 q_138 pyo_X_personNumbered (by decide) rfl rfl (by decide) d_X_paid_2 rfl (fun w1 r2 h _ => ?_) (fun _ _ h => pvx_out rfl h)
  show pw_V l g cx_X_paid Q X 5 [(9, 0), (0, a1)] [(6, r2)] w1
  obtain ⟨g3, h⟩ := h
  refine gt_X_367 (n := 8) rfl d_X_paid_5 g3 rfl ?_
  exact pv_iret rfl rfl d_X_paid_8 h
set_option maxHeartbeats 4000000 in
set_option maxRecDepth 20000 in
theorem con_X_paid {l : Launch} {g : pw_G} {Q : pw_W → Int32 → Prop} {X : pw_W → Nat → Prop} (hl0 : l.stackTraces = false) {w : pw_W} {a1 : Int32} (h : wp_X_paid w a1 Q X) : pw_Con l g y_X_paid cx_X_paid [(9, 0), (0, a1)] w Q X :=
  pw_con (by decide +kernel) rfl rfl hl0 rfl (Nat.le_of_ble_eq_true rfl) (by simp) (vw_X_paid hl0 h)
theorem d_X_sheep_0 : decode (pw_cc cx_X_sheep) 0 = .ok (.aload_n 0, 1) := by decide +kernel
theorem d_X_sheep_1 : decode (pw_cc cx_X_sheep) 1 = .ok (.iload_n 1, 1) := by decide +kernel
theorem d_X_sheep_2 : decode (pw_cc cx_X_sheep) 2 = .ok (.invokevirtual 69, 3) := by decide +kernel
theorem d_X_sheep_5 : decode (pw_cc cx_X_sheep) 5 = .ok (.astore_n 3, 1) := by decide +kernel
theorem d_X_sheep_6 : decode (pw_cc cx_X_sheep) 6 = .ok (.aload_n 0, 1) := by decide +kernel
theorem d_X_sheep_7 : decode (pw_cc cx_X_sheep) 7 = .ok (.iload_n 2, 1) := by decide +kernel
theorem d_X_sheep_8 : decode (pw_cc cx_X_sheep) 8 = .ok (.invokevirtual 61, 3) := by decide +kernel
theorem d_X_sheep_11 : decode (pw_cc cx_X_sheep) 11 = .ok (.aload_n 3, 1) := by decide +kernel
theorem d_X_sheep_12 : decode (pw_cc cx_X_sheep) 12 = .ok (.getfield 230, 3) := by decide +kernel
theorem d_X_sheep_15 : decode (pw_cc cx_X_sheep) 15 = .ok (.invokevirtual 231, 3) := by decide +kernel
theorem d_X_sheep_18 : decode (pw_cc cx_X_sheep) 18 = .ok (.ireturn, 1) := by decide +kernel
set_option maxHeartbeats 4000000 in
set_option maxRecDepth 20000 in
def wp_X_sheep (w : pw_W) (a1 a2 : Int32) (Q : pw_W → Int32 → Prop) (X : pw_W → Nat → Prop) : Prop := wp_X_personNumbered w a1 (fun w1 r2 => wp_X_parcelNumbered w1 a2 (fun w3 r4 => 0 ≤ r2 ∧ 0 ≤ r4 ∧ wp_Parcel_sheepOf w3 r4 (w3.1 4 (pw_i r2) 0) (fun w6 r7 => Q w6 r7) (fun _ _ => False)) X) X
set_option maxHeartbeats 4000000 in
set_option maxRecDepth 20000 in
theorem vw_X_sheep {l : Launch} {g : pw_G} {Q : pw_W → Int32 → Prop} {X : pw_W → Nat → Prop} (hl0 : l.stackTraces = false) {w : pw_W} {a1 a2 : Int32} (h : wp_X_sheep w a1 a2 Q X) : pw_V l g cx_X_sheep Q X 0 [(9, 0), (0, a1), (0, a2), (1, 0)] [] w := by
  unfold wp_X_sheep at h
  refine pv_aload_n (n := 1) d_X_sheep_0 rfl rfl rfl ?_
  refine pv_iload_n (n := 2) d_X_sheep_1 rfl rfl rfl ?_
  refine pv_callV (n := 5) (x := 0) [(0, a1)] [] (con_X_personNumbered hl0 h) pw_cf7 rfl q_139 q_140 q_141 q_62 q_138 pyo_X_personNumbered (by decide) rfl rfl (by decide) d_X_sheep_2 rfl (fun w1 r2 h _ => ?_) (fun _ _ h => pvx_out rfl h)
  show pw_V l g cx_X_sheep Q X 5 [(9, 0), (0, a1), (0, a2), (1, 0)] [(6, r2)] w1
  refine pv_astore_n (n := 6) (L' := [(9, 0), (0, a1), (0, a2), (6, r2)]) d_X_sheep_5 rfl (by decide) rfl rfl ?_
  refine pv_aload_n (n := 7) d_X_sheep_6 rfl rfl rfl ?_
  refine pv_iload_n (n := 8) d_X_sheep_7 rfl rfl rfl ?_
  refine pv_callV (n := 11) (x := 0) [(0, a2)] [] (con_X_parcelNumbered hl0 h) pw_cf7 rfl q_146 q_147 q_148 q_62 q_145 pyo_X_parcelNumbered (by decide) rfl rfl (by decide) d_X_sheep_8 rfl (fun w3 r4 h _ => ?_) (fun _ _ h => pvx_out rfl h)
  show pw_V l g cx_X_sheep Q X 11 [(9, 0), (0, a1), (0, a2), (6, r2)] [(5, r4)] w3
  refine pv_aload_n (n := 12) d_X_sheep_11 rfl rfl rfl ?_
  obtain ⟨g5, h⟩ := h
  refine gt_X_230 (n := 15) rfl d_X_sheep_12 g5 rfl ?_
  obtain ⟨g8, h⟩ := h
  refine pv_callV (n := 18) (x := r4) [(0, (w3.1 4 (pw_i r2) 0))] [] (con_Parcel_sheepOf hl0 h) pw_cf3 rfl q_156 q_157 q_158 q_46 q_155 pyo_Parcel_sheepOf (by decide) rfl rfl g8 d_X_sheep_15 rfl (fun w6 r7 h _ => ?_) (fun _ _ h => h.elim)
  show pw_V l g cx_X_sheep Q X 18 [(9, 0), (0, a1), (0, a2), (6, r2)] [(0, r7)] w6
  exact pv_iret rfl rfl d_X_sheep_18 h
set_option maxHeartbeats 4000000 in
set_option maxRecDepth 20000 in
theorem con_X_sheep {l : Launch} {g : pw_G} {Q : pw_W → Int32 → Prop} {X : pw_W → Nat → Prop} (hl0 : l.stackTraces = false) {w : pw_W} {a1 a2 : Int32} (h : wp_X_sheep w a1 a2 Q X) : pw_Con l g y_X_sheep cx_X_sheep [(9, 0), (0, a1), (0, a2)] w Q X :=
  pw_con (by decide +kernel) rfl rfl hl0 rfl (Nat.le_of_ble_eq_true rfl) (by simp) (vw_X_sheep hl0 h)
theorem d_M_init_0 : decode (pw_cc cx_M_init) 0 = .ok (.aload_n 0, 1) := by decide +kernel
theorem d_M_init_1 : decode (pw_cc cx_M_init) 1 = .ok (.invokespecial 1, 3) := by decide +kernel
theorem d_M_init_4 : decode (pw_cc cx_M_init) 4 = .ok (.aload_n 0, 1) := by decide +kernel
theorem d_M_init_5 : decode (pw_cc cx_M_init) 5 = .ok (.bipush 100, 2) := by decide +kernel
theorem d_M_init_7 : decode (pw_cc cx_M_init) 7 = .ok (.newarray .int, 2) := by decide +kernel
theorem d_M_init_9 : decode (pw_cc cx_M_init) 9 = .ok (.putfield 7, 3) := by decide +kernel
theorem d_M_init_12 : decode (pw_cc cx_M_init) 12 = .ok (.aload_n 0, 1) := by decide +kernel
theorem d_M_init_13 : decode (pw_cc cx_M_init) 13 = .ok (.bipush 100, 2) := by decide +kernel
theorem d_M_init_15 : decode (pw_cc cx_M_init) 15 = .ok (.newarray .int, 2) := by decide +kernel
theorem d_M_init_17 : decode (pw_cc cx_M_init) 17 = .ok (.putfield 13, 3) := by decide +kernel
theorem d_M_init_20 : decode (pw_cc cx_M_init) 20 = .ok (.aload_n 0, 1) := by decide +kernel
theorem d_M_init_21 : decode (pw_cc cx_M_init) 21 = .ok (.bipush 100, 2) := by decide +kernel
theorem d_M_init_23 : decode (pw_cc cx_M_init) 23 = .ok (.newarray .int, 2) := by decide +kernel
theorem d_M_init_25 : decode (pw_cc cx_M_init) 25 = .ok (.putfield 16, 3) := by decide +kernel
theorem d_M_init_28 : decode (pw_cc cx_M_init) 28 = .ok (.aload_n 0, 1) := by decide +kernel
theorem d_M_init_29 : decode (pw_cc cx_M_init) 29 = .ok (.bipush 100, 2) := by decide +kernel
theorem d_M_init_31 : decode (pw_cc cx_M_init) 31 = .ok (.newarray .int, 2) := by decide +kernel
theorem d_M_init_33 : decode (pw_cc cx_M_init) 33 = .ok (.putfield 19, 3) := by decide +kernel
theorem d_M_init_36 : decode (pw_cc cx_M_init) 36 = .ok (.aload_n 0, 1) := by decide +kernel
theorem d_M_init_37 : decode (pw_cc cx_M_init) 37 = .ok (.bipush 100, 2) := by decide +kernel
theorem d_M_init_39 : decode (pw_cc cx_M_init) 39 = .ok (.newarray .int, 2) := by decide +kernel
theorem d_M_init_41 : decode (pw_cc cx_M_init) 41 = .ok (.putfield 22, 3) := by decide +kernel
theorem d_M_init_44 : decode (pw_cc cx_M_init) 44 = .ok (.aload_n 0, 1) := by decide +kernel
theorem d_M_init_45 : decode (pw_cc cx_M_init) 45 = .ok (.bipush 100, 2) := by decide +kernel
theorem d_M_init_47 : decode (pw_cc cx_M_init) 47 = .ok (.newarray .int, 2) := by decide +kernel
theorem d_M_init_49 : decode (pw_cc cx_M_init) 49 = .ok (.putfield 25, 3) := by decide +kernel
theorem d_M_init_52 : decode (pw_cc cx_M_init) 52 = .ok (.aload_n 0, 1) := by decide +kernel
theorem d_M_init_53 : decode (pw_cc cx_M_init) 53 = .ok (.bipush 100, 2) := by decide +kernel
theorem d_M_init_55 : decode (pw_cc cx_M_init) 55 = .ok (.newarray .int, 2) := by decide +kernel
theorem d_M_init_57 : decode (pw_cc cx_M_init) 57 = .ok (.putfield 28, 3) := by decide +kernel
theorem d_M_init_60 : decode (pw_cc cx_M_init) 60 = .ok (.aload_n 0, 1) := by decide +kernel
theorem d_M_init_61 : decode (pw_cc cx_M_init) 61 = .ok (.bipush 100, 2) := by decide +kernel
theorem d_M_init_63 : decode (pw_cc cx_M_init) 63 = .ok (.newarray .int, 2) := by decide +kernel
theorem d_M_init_65 : decode (pw_cc cx_M_init) 65 = .ok (.putfield 31, 3) := by decide +kernel
theorem d_M_init_68 : decode (pw_cc cx_M_init) 68 = .ok (.aload_n 0, 1) := by decide +kernel
theorem d_M_init_69 : decode (pw_cc cx_M_init) 69 = .ok (.bipush 100, 2) := by decide +kernel
theorem d_M_init_71 : decode (pw_cc cx_M_init) 71 = .ok (.newarray .int, 2) := by decide +kernel
theorem d_M_init_73 : decode (pw_cc cx_M_init) 73 = .ok (.putfield 34, 3) := by decide +kernel
theorem d_M_init_76 : decode (pw_cc cx_M_init) 76 = .ok (.aload_n 0, 1) := by decide +kernel
theorem d_M_init_77 : decode (pw_cc cx_M_init) 77 = .ok (.sipush 25000, 3) := by decide +kernel
theorem d_M_init_80 : decode (pw_cc cx_M_init) 80 = .ok (.newarray .int, 2) := by decide +kernel
theorem d_M_init_82 : decode (pw_cc cx_M_init) 82 = .ok (.putfield 37, 3) := by decide +kernel
theorem d_M_init_85 : decode (pw_cc cx_M_init) 85 = .ok (.aload_n 0, 1) := by decide +kernel
theorem d_M_init_86 : decode (pw_cc cx_M_init) 86 = .ok (.bipush 40, 2) := by decide +kernel
theorem d_M_init_88 : decode (pw_cc cx_M_init) 88 = .ok (.newarray .int, 2) := by decide +kernel
theorem d_M_init_90 : decode (pw_cc cx_M_init) 90 = .ok (.putfield 40, 3) := by decide +kernel
theorem d_M_init_93 : decode (pw_cc cx_M_init) 93 = .ok (.aload_n 0, 1) := by decide +kernel
theorem d_M_init_94 : decode (pw_cc cx_M_init) 94 = .ok (.bipush 40, 2) := by decide +kernel
theorem d_M_init_96 : decode (pw_cc cx_M_init) 96 = .ok (.newarray .int, 2) := by decide +kernel
theorem d_M_init_98 : decode (pw_cc cx_M_init) 98 = .ok (.putfield 43, 3) := by decide +kernel
theorem d_M_init_101 : decode (pw_cc cx_M_init) 101 = .ok (.aload_n 0, 1) := by decide +kernel
theorem d_M_init_102 : decode (pw_cc cx_M_init) 102 = .ok (.sipush 480, 3) := by decide +kernel
theorem d_M_init_105 : decode (pw_cc cx_M_init) 105 = .ok (.newarray .int, 2) := by decide +kernel
theorem d_M_init_107 : decode (pw_cc cx_M_init) 107 = .ok (.putfield 46, 3) := by decide +kernel
theorem d_M_init_110 : decode (pw_cc cx_M_init) 110 = .ok (.aload_n 0, 1) := by decide +kernel
theorem d_M_init_111 : decode (pw_cc cx_M_init) 111 = .ok (.bipush 80, 2) := by decide +kernel
theorem d_M_init_113 : decode (pw_cc cx_M_init) 113 = .ok (.newarray .int, 2) := by decide +kernel
theorem d_M_init_115 : decode (pw_cc cx_M_init) 115 = .ok (.putfield 49, 3) := by decide +kernel
theorem d_M_init_118 : decode (pw_cc cx_M_init) 118 = .ok (.aload_n 0, 1) := by decide +kernel
theorem d_M_init_119 : decode (pw_cc cx_M_init) 119 = .ok (.bipush 80, 2) := by decide +kernel
theorem d_M_init_121 : decode (pw_cc cx_M_init) 121 = .ok (.newarray .int, 2) := by decide +kernel
theorem d_M_init_123 : decode (pw_cc cx_M_init) 123 = .ok (.putfield 52, 3) := by decide +kernel
theorem d_M_init_126 : decode (pw_cc cx_M_init) 126 = .ok (.aload_n 0, 1) := by decide +kernel
theorem d_M_init_127 : decode (pw_cc cx_M_init) 127 = .ok (.bipush 80, 2) := by decide +kernel
theorem d_M_init_129 : decode (pw_cc cx_M_init) 129 = .ok (.newarray .int, 2) := by decide +kernel
theorem d_M_init_131 : decode (pw_cc cx_M_init) 131 = .ok (.putfield 55, 3) := by decide +kernel
theorem d_M_init_134 : decode (pw_cc cx_M_init) 134 = .ok (.aload_n 0, 1) := by decide +kernel
theorem d_M_init_135 : decode (pw_cc cx_M_init) 135 = .ok (.bipush 80, 2) := by decide +kernel
theorem d_M_init_137 : decode (pw_cc cx_M_init) 137 = .ok (.newarray .int, 2) := by decide +kernel
theorem d_M_init_139 : decode (pw_cc cx_M_init) 139 = .ok (.putfield 58, 3) := by decide +kernel
theorem d_M_init_142 : decode (pw_cc cx_M_init) 142 = .ok (.aload_n 0, 1) := by decide +kernel
theorem d_M_init_143 : decode (pw_cc cx_M_init) 143 = .ok (.bipush 80, 2) := by decide +kernel
theorem d_M_init_145 : decode (pw_cc cx_M_init) 145 = .ok (.newarray .int, 2) := by decide +kernel
theorem d_M_init_147 : decode (pw_cc cx_M_init) 147 = .ok (.putfield 61, 3) := by decide +kernel
theorem d_M_init_150 : decode (pw_cc cx_M_init) 150 = .ok (.aload_n 0, 1) := by decide +kernel
theorem d_M_init_151 : decode (pw_cc cx_M_init) 151 = .ok (.bipush 80, 2) := by decide +kernel
theorem d_M_init_153 : decode (pw_cc cx_M_init) 153 = .ok (.newarray .boolean, 2) := by decide +kernel
theorem d_M_init_155 : decode (pw_cc cx_M_init) 155 = .ok (.putfield 64, 3) := by decide +kernel
theorem d_M_init_158 : decode (pw_cc cx_M_init) 158 = .ok (.aload_n 0, 1) := by decide +kernel
theorem d_M_init_159 : decode (pw_cc cx_M_init) 159 = .ok (.bipush 12, 2) := by decide +kernel
theorem d_M_init_161 : decode (pw_cc cx_M_init) 161 = .ok (.newarray .int, 2) := by decide +kernel
theorem d_M_init_163 : decode (pw_cc cx_M_init) 163 = .ok (.putfield 68, 3) := by decide +kernel
theorem d_M_init_166 : decode (pw_cc cx_M_init) 166 = .ok (.aload_n 0, 1) := by decide +kernel
theorem d_M_init_167 : decode (pw_cc cx_M_init) 167 = .ok (.bipush 12, 2) := by decide +kernel
theorem d_M_init_169 : decode (pw_cc cx_M_init) 169 = .ok (.newarray .int, 2) := by decide +kernel
theorem d_M_init_171 : decode (pw_cc cx_M_init) 171 = .ok (.putfield 71, 3) := by decide +kernel
theorem d_M_init_174 : decode (pw_cc cx_M_init) 174 = .ok (.aload_n 0, 1) := by decide +kernel
theorem d_M_init_175 : decode (pw_cc cx_M_init) 175 = .ok (.bipush 12, 2) := by decide +kernel
theorem d_M_init_177 : decode (pw_cc cx_M_init) 177 = .ok (.newarray .int, 2) := by decide +kernel
theorem d_M_init_179 : decode (pw_cc cx_M_init) 179 = .ok (.putfield 74, 3) := by decide +kernel
theorem d_M_init_182 : decode (pw_cc cx_M_init) 182 = .ok (.aload_n 0, 1) := by decide +kernel
theorem d_M_init_183 : decode (pw_cc cx_M_init) 183 = .ok (.bipush 16, 2) := by decide +kernel
theorem d_M_init_185 : decode (pw_cc cx_M_init) 185 = .ok (.newarray .int, 2) := by decide +kernel
theorem d_M_init_187 : decode (pw_cc cx_M_init) 187 = .ok (.putfield 77, 3) := by decide +kernel
theorem d_M_init_190 : decode (pw_cc cx_M_init) 190 = .ok (.aload_n 0, 1) := by decide +kernel
theorem d_M_init_191 : decode (pw_cc cx_M_init) 191 = .ok (.bipush 16, 2) := by decide +kernel
theorem d_M_init_193 : decode (pw_cc cx_M_init) 193 = .ok (.newarray .int, 2) := by decide +kernel
theorem d_M_init_195 : decode (pw_cc cx_M_init) 195 = .ok (.putfield 80, 3) := by decide +kernel
theorem d_M_init_198 : decode (pw_cc cx_M_init) 198 = .ok (.aload_n 0, 1) := by decide +kernel
theorem d_M_init_199 : decode (pw_cc cx_M_init) 199 = .ok (.bipush 16, 2) := by decide +kernel
theorem d_M_init_201 : decode (pw_cc cx_M_init) 201 = .ok (.newarray .int, 2) := by decide +kernel
theorem d_M_init_203 : decode (pw_cc cx_M_init) 203 = .ok (.putfield 83, 3) := by decide +kernel
theorem d_M_init_206 : decode (pw_cc cx_M_init) 206 = .ok (.aload_n 0, 1) := by decide +kernel
theorem d_M_init_207 : decode (pw_cc cx_M_init) 207 = .ok (.bipush 16, 2) := by decide +kernel
theorem d_M_init_209 : decode (pw_cc cx_M_init) 209 = .ok (.newarray .int, 2) := by decide +kernel
theorem d_M_init_211 : decode (pw_cc cx_M_init) 211 = .ok (.putfield 86, 3) := by decide +kernel
theorem d_M_init_214 : decode (pw_cc cx_M_init) 214 = .ok (.aload_n 0, 1) := by decide +kernel
theorem d_M_init_215 : decode (pw_cc cx_M_init) 215 = .ok (.bipush 16, 2) := by decide +kernel
theorem d_M_init_217 : decode (pw_cc cx_M_init) 217 = .ok (.newarray .int, 2) := by decide +kernel
theorem d_M_init_219 : decode (pw_cc cx_M_init) 219 = .ok (.putfield 89, 3) := by decide +kernel
theorem d_M_init_222 : decode (pw_cc cx_M_init) 222 = .ok (.aload_n 0, 1) := by decide +kernel
theorem d_M_init_223 : decode (pw_cc cx_M_init) 223 = .ok (.bipush 16, 2) := by decide +kernel
theorem d_M_init_225 : decode (pw_cc cx_M_init) 225 = .ok (.newarray .int, 2) := by decide +kernel
theorem d_M_init_227 : decode (pw_cc cx_M_init) 227 = .ok (.putfield 92, 3) := by decide +kernel
theorem d_M_init_230 : decode (pw_cc cx_M_init) 230 = .ok (.aload_n 0, 1) := by decide +kernel
theorem d_M_init_231 : decode (pw_cc cx_M_init) 231 = .ok (.sipush 1600, 3) := by decide +kernel
theorem d_M_init_234 : decode (pw_cc cx_M_init) 234 = .ok (.newarray .boolean, 2) := by decide +kernel
theorem d_M_init_236 : decode (pw_cc cx_M_init) 236 = .ok (.putfield 95, 3) := by decide +kernel
theorem d_M_init_239 : decode (pw_cc cx_M_init) 239 = .ok (.aload_n 0, 1) := by decide +kernel
theorem d_M_init_240 : decode (pw_cc cx_M_init) 240 = .ok (.bipush 20, 2) := by decide +kernel
theorem d_M_init_242 : decode (pw_cc cx_M_init) 242 = .ok (.newarray .int, 2) := by decide +kernel
theorem d_M_init_244 : decode (pw_cc cx_M_init) 244 = .ok (.putfield 98, 3) := by decide +kernel
theorem d_M_init_247 : decode (pw_cc cx_M_init) 247 = .ok (.aload_n 0, 1) := by decide +kernel
theorem d_M_init_248 : decode (pw_cc cx_M_init) 248 = .ok (.bipush 20, 2) := by decide +kernel
theorem d_M_init_250 : decode (pw_cc cx_M_init) 250 = .ok (.newarray .int, 2) := by decide +kernel
theorem d_M_init_252 : decode (pw_cc cx_M_init) 252 = .ok (.putfield 101, 3) := by decide +kernel
theorem d_M_init_255 : decode (pw_cc cx_M_init) 255 = .ok (.aload_n 0, 1) := by decide +kernel
theorem d_M_init_256 : decode (pw_cc cx_M_init) 256 = .ok (.bipush 12, 2) := by decide +kernel
theorem d_M_init_258 : decode (pw_cc cx_M_init) 258 = .ok (.newarray .boolean, 2) := by decide +kernel
theorem d_M_init_260 : decode (pw_cc cx_M_init) 260 = .ok (.putfield 104, 3) := by decide +kernel
theorem d_M_init_263 : decode (pw_cc cx_M_init) 263 = .ok (.aload_n 0, 1) := by decide +kernel
theorem d_M_init_264 : decode (pw_cc cx_M_init) 264 = .ok (.bipush 36, 2) := by decide +kernel
theorem d_M_init_266 : decode (pw_cc cx_M_init) 266 = .ok (.newarray .int, 2) := by decide +kernel
theorem d_M_init_268 : decode (pw_cc cx_M_init) 268 = .ok (.putfield 107, 3) := by decide +kernel
theorem d_M_init_271 : decode (pw_cc cx_M_init) 271 = .ok (.aload_n 0, 1) := by decide +kernel
theorem d_M_init_272 : decode (pw_cc cx_M_init) 272 = .ok (.bipush 12, 2) := by decide +kernel
theorem d_M_init_274 : decode (pw_cc cx_M_init) 274 = .ok (.newarray .int, 2) := by decide +kernel
theorem d_M_init_276 : decode (pw_cc cx_M_init) 276 = .ok (.putfield 110, 3) := by decide +kernel
theorem d_M_init_279 : decode (pw_cc cx_M_init) 279 = .ok (.aload_n 0, 1) := by decide +kernel
theorem d_M_init_280 : decode (pw_cc cx_M_init) 280 = .ok (.bipush 12, 2) := by decide +kernel
theorem d_M_init_282 : decode (pw_cc cx_M_init) 282 = .ok (.newarray .int, 2) := by decide +kernel
theorem d_M_init_284 : decode (pw_cc cx_M_init) 284 = .ok (.putfield 113, 3) := by decide +kernel
theorem d_M_init_287 : decode (pw_cc cx_M_init) 287 = .ok (.aload_n 0, 1) := by decide +kernel
theorem d_M_init_288 : decode (pw_cc cx_M_init) 288 = .ok (.iconst 1, 1) := by decide +kernel
theorem d_M_init_289 : decode (pw_cc cx_M_init) 289 = .ok (.putfield 116, 3) := by decide +kernel
theorem d_M_init_292 : decode (pw_cc cx_M_init) 292 = .ok (.aload_n 0, 1) := by decide +kernel
theorem d_M_init_293 : decode (pw_cc cx_M_init) 293 = .ok (.getfield 40, 3) := by decide +kernel
theorem d_M_init_296 : decode (pw_cc cx_M_init) 296 = .ok (.iconst 0, 1) := by decide +kernel
theorem d_M_init_297 : decode (pw_cc cx_M_init) 297 = .ok (.iconst (-1), 1) := by decide +kernel
theorem d_M_init_298 : decode (pw_cc cx_M_init) 298 = .ok (.iastore, 1) := by decide +kernel
theorem d_M_init_299 : decode (pw_cc cx_M_init) 299 = .ok (.aload_n 0, 1) := by decide +kernel
theorem d_M_init_300 : decode (pw_cc cx_M_init) 300 = .ok (.getfield 43, 3) := by decide +kernel
theorem d_M_init_303 : decode (pw_cc cx_M_init) 303 = .ok (.iconst 0, 1) := by decide +kernel
theorem d_M_init_304 : decode (pw_cc cx_M_init) 304 = .ok (.iconst (-1), 1) := by decide +kernel
theorem d_M_init_305 : decode (pw_cc cx_M_init) 305 = .ok (.iastore, 1) := by decide +kernel
theorem d_M_init_306 : decode (pw_cc cx_M_init) 306 = .ok (.iconst 0, 1) := by decide +kernel
theorem d_M_init_307 : decode (pw_cc cx_M_init) 307 = .ok (.istore_n 1, 1) := by decide +kernel
theorem d_M_init_308 : decode (pw_cc cx_M_init) 308 = .ok (.iload_n 1, 1) := by decide +kernel
theorem d_M_init_309 : decode (pw_cc cx_M_init) 309 = .ok (.bipush 100, 2) := by decide +kernel
theorem d_M_init_311 : decode (pw_cc cx_M_init) 311 = .ok (.if_icmp .ge 54, 3) := by decide +kernel
theorem d_M_init_314 : decode (pw_cc cx_M_init) 314 = .ok (.aload_n 0, 1) := by decide +kernel
theorem d_M_init_315 : decode (pw_cc cx_M_init) 315 = .ok (.getfield 7, 3) := by decide +kernel
theorem d_M_init_318 : decode (pw_cc cx_M_init) 318 = .ok (.iload_n 1, 1) := by decide +kernel
theorem d_M_init_319 : decode (pw_cc cx_M_init) 319 = .ok (.bipush 50, 2) := by decide +kernel
theorem d_M_init_321 : decode (pw_cc cx_M_init) 321 = .ok (.iastore, 1) := by decide +kernel
theorem d_M_init_322 : decode (pw_cc cx_M_init) 322 = .ok (.aload_n 0, 1) := by decide +kernel
theorem d_M_init_323 : decode (pw_cc cx_M_init) 323 = .ok (.getfield 13, 3) := by decide +kernel
theorem d_M_init_326 : decode (pw_cc cx_M_init) 326 = .ok (.iload_n 1, 1) := by decide +kernel
theorem d_M_init_327 : decode (pw_cc cx_M_init) 327 = .ok (.bipush 40, 2) := by decide +kernel
theorem d_M_init_329 : decode (pw_cc cx_M_init) 329 = .ok (.iastore, 1) := by decide +kernel
theorem d_M_init_330 : decode (pw_cc cx_M_init) 330 = .ok (.aload_n 0, 1) := by decide +kernel
theorem d_M_init_331 : decode (pw_cc cx_M_init) 331 = .ok (.getfield 19, 3) := by decide +kernel
theorem d_M_init_334 : decode (pw_cc cx_M_init) 334 = .ok (.iload_n 1, 1) := by decide +kernel
theorem d_M_init_335 : decode (pw_cc cx_M_init) 335 = .ok (.ldc 120, 2) := by decide +kernel
theorem d_M_init_337 : decode (pw_cc cx_M_init) 337 = .ok (.iastore, 1) := by decide +kernel
theorem d_M_init_338 : decode (pw_cc cx_M_init) 338 = .ok (.aload_n 0, 1) := by decide +kernel
theorem d_M_init_339 : decode (pw_cc cx_M_init) 339 = .ok (.getfield 22, 3) := by decide +kernel
theorem d_M_init_342 : decode (pw_cc cx_M_init) 342 = .ok (.iload_n 1, 1) := by decide +kernel
theorem d_M_init_343 : decode (pw_cc cx_M_init) 343 = .ok (.iconst (-1), 1) := by decide +kernel
theorem d_M_init_344 : decode (pw_cc cx_M_init) 344 = .ok (.iastore, 1) := by decide +kernel
theorem d_M_init_345 : decode (pw_cc cx_M_init) 345 = .ok (.aload_n 0, 1) := by decide +kernel
theorem d_M_init_346 : decode (pw_cc cx_M_init) 346 = .ok (.getfield 28, 3) := by decide +kernel
theorem d_M_init_349 : decode (pw_cc cx_M_init) 349 = .ok (.iload_n 1, 1) := by decide +kernel
theorem d_M_init_350 : decode (pw_cc cx_M_init) 350 = .ok (.iconst (-1), 1) := by decide +kernel
theorem d_M_init_351 : decode (pw_cc cx_M_init) 351 = .ok (.iastore, 1) := by decide +kernel
theorem d_M_init_352 : decode (pw_cc cx_M_init) 352 = .ok (.aload_n 0, 1) := by decide +kernel
theorem d_M_init_353 : decode (pw_cc cx_M_init) 353 = .ok (.getfield 34, 3) := by decide +kernel
theorem d_M_init_356 : decode (pw_cc cx_M_init) 356 = .ok (.iload_n 1, 1) := by decide +kernel
theorem d_M_init_357 : decode (pw_cc cx_M_init) 357 = .ok (.iconst 1, 1) := by decide +kernel
theorem d_M_init_358 : decode (pw_cc cx_M_init) 358 = .ok (.iastore, 1) := by decide +kernel
theorem d_M_init_359 : decode (pw_cc cx_M_init) 359 = .ok (.iinc 1 1, 3) := by decide +kernel
theorem d_M_init_362 : decode (pw_cc cx_M_init) 362 = .ok (.goto (-54), 3) := by decide +kernel
theorem d_M_init_365 : decode (pw_cc cx_M_init) 365 = .ok (.return_, 1) := by decide +kernel
set_option maxHeartbeats 4000000 in
set_option maxRecDepth 20000 in
def lp_M_init_308 (Q : pw_W → Int32 → Prop) (X : pw_W → Nat → Prop) : Nat → Int32 → pw_W → Prop := fun k => Nat.rec (motive := fun _ => Int32 → pw_W → Prop) (fun _ _ => False) (fun _ ih a1 w => ((100 : Int32) ≤ a1 → Q w 0) ∧ (¬ (100 : Int32) ≤ a1 → w.1 8 0 6 = 0 ∧ pw_jn a1 (pw_ln w 206 0) ∧ ∀ w4, w4 = pw_ps w 206 0 (pw_i a1) 50 → w4.1 8 0 7 = 0 ∧ pw_jn a1 (pw_ln w4 207 0) ∧ ∀ w8, w8 = pw_ps w4 207 0 (pw_i a1) 40 → w8.1 8 0 9 = 0 ∧ pw_jn a1 (pw_ln w8 209 0) ∧ ∀ w12, w12 = pw_ps w8 209 0 (pw_i a1) (-50000) → w12.1 8 0 10 = 0 ∧ pw_jn a1 (pw_ln w12 210 0) ∧ ∀ w16, w16 = pw_ps w12 210 0 (pw_i a1) (-1) → w16.1 8 0 12 = 0 ∧ pw_jn a1 (pw_ln w16 212 0) ∧ ∀ w20, w20 = pw_ps w16 212 0 (pw_i a1) (-1) → w20.1 8 0 14 = 0 ∧ pw_jn a1 (pw_ln w20 214 0) ∧ ∀ w24, w24 = pw_ps w20 214 0 (pw_i a1) 1 → ih (a1 + 1) w24)) k
set_option maxHeartbeats 4000000 in
set_option maxRecDepth 20000 in
theorem lp_M_init_308_s {Q : pw_W → Int32 → Prop} {X : pw_W → Nat → Prop}  {k : Nat} {a1 : Int32} {w : pw_W} : lp_M_init_308 Q X (k + 1) a1 w = (let ih := lp_M_init_308 Q X k; ((100 : Int32) ≤ a1 → Q w 0) ∧ (¬ (100 : Int32) ≤ a1 → w.1 8 0 6 = 0 ∧ pw_jn a1 (pw_ln w 206 0) ∧ ∀ w4, w4 = pw_ps w 206 0 (pw_i a1) 50 → w4.1 8 0 7 = 0 ∧ pw_jn a1 (pw_ln w4 207 0) ∧ ∀ w8, w8 = pw_ps w4 207 0 (pw_i a1) 40 → w8.1 8 0 9 = 0 ∧ pw_jn a1 (pw_ln w8 209 0) ∧ ∀ w12, w12 = pw_ps w8 209 0 (pw_i a1) (-50000) → w12.1 8 0 10 = 0 ∧ pw_jn a1 (pw_ln w12 210 0) ∧ ∀ w16, w16 = pw_ps w12 210 0 (pw_i a1) (-1) → w16.1 8 0 12 = 0 ∧ pw_jn a1 (pw_ln w16 212 0) ∧ ∀ w20, w20 = pw_ps w16 212 0 (pw_i a1) (-1) → w20.1 8 0 14 = 0 ∧ pw_jn a1 (pw_ln w20 214 0) ∧ ∀ w24, w24 = pw_ps w20 214 0 (pw_i a1) 1 → ih (a1 + 1) w24)) := rfl
set_option maxHeartbeats 4000000 in
set_option maxRecDepth 20000 in
theorem vlp_M_init_308 {l : Launch} {g : pw_G} {Q : pw_W → Int32 → Prop} {X : pw_W → Nat → Prop} (hl0 : l.stackTraces = false) : ∀ (k : Nat) (a1 : Int32) (w : pw_W), lp_M_init_308 Q X k a1 w → pw_V l g cx_M_init Q X 308 [(10, 0), (0, a1)] [] w := by
  intro k; induction k with
  | zero => intro _ _ h; exact h.elim
  | succ k ih =>
    intro a1 w h
    rw [lp_M_init_308_s] at h
    refine pv_iload_n (n := 309) d_M_init_308 rfl rfl rfl ?_
    refine pv_bipush (v := 100) (n := 311) d_M_init_309 (by decide) rfl ?_
    refine pv_icmp_ge (n := 314) (tgt := 365) d_M_init_311 (by decide) rfl (fun c1 => ?_) (fun c1 => ?_)
    · replace h := h.1 c1
      exact pv_vret rfl rfl d_M_init_365 h
    · replace h := h.2 c1
      refine pv_aload_n (n := 315) d_M_init_314 rfl rfl rfl ?_
      obtain ⟨g2, h⟩ := h
      refine gt_M_7 (n := 318) rfl d_M_init_315 (by decide) g2 rfl ?_
      refine pv_iload_n (n := 319) d_M_init_318 rfl rfl rfl ?_
      refine pv_bipush (v := 50) (n := 321) d_M_init_319 (by decide) rfl ?_
      obtain ⟨g3, h⟩ := h
      refine pv_iast1 (n := 322) (f := 206) (by decide) rfl (fun _ => rfl) d_M_init_321 (by decide) g3 rfl (fun w4 e5 => ?_)
      replace h := h w4 e5
      refine pv_aload_n (n := 323) d_M_init_322 rfl rfl rfl ?_
      obtain ⟨g6, h⟩ := h
      refine gt_M_13 (n := 326) rfl d_M_init_323 (by decide) g6 rfl ?_
      refine pv_iload_n (n := 327) d_M_init_326 rfl rfl rfl ?_
      refine pv_bipush (v := 40) (n := 329) d_M_init_327 (by decide) rfl ?_
      obtain ⟨g7, h⟩ := h
      refine pv_iast1 (n := 330) (f := 207) (by decide) rfl (fun _ => rfl) d_M_init_329 (by decide) g7 rfl (fun w8 e9 => ?_)
      replace h := h w8 e9
      refine pv_aload_n (n := 331) d_M_init_330 rfl rfl rfl ?_
      obtain ⟨g10, h⟩ := h
      refine gt_M_19 (n := 334) rfl d_M_init_331 (by decide) g10 rfl ?_
      refine pv_iload_n (n := 335) d_M_init_334 rfl rfl rfl ?_
      refine pv_ldc (v := -50000) (n := 337) d_M_init_335 q_421 rfl ?_
      obtain ⟨g11, h⟩ := h
      refine pv_iast1 (n := 338) (f := 209) (by decide) rfl (fun _ => rfl) d_M_init_337 (by decide) g11 rfl (fun w12 e13 => ?_)
      replace h := h w12 e13
      refine pv_aload_n (n := 339) d_M_init_338 rfl rfl rfl ?_
      obtain ⟨g14, h⟩ := h
      refine gt_M_22 (n := 342) rfl d_M_init_339 (by decide) g14 rfl ?_
      refine pv_iload_n (n := 343) d_M_init_342 rfl rfl rfl ?_
      refine pv_iconst (v := -1) (n := 344) d_M_init_343 (by decide) rfl ?_
      obtain ⟨g15, h⟩ := h
      refine pv_iast1 (n := 345) (f := 210) (by decide) rfl (fun _ => rfl) d_M_init_344 (by decide) g15 rfl (fun w16 e17 => ?_)
      replace h := h w16 e17
      refine pv_aload_n (n := 346) d_M_init_345 rfl rfl rfl ?_
      obtain ⟨g18, h⟩ := h
      refine gt_M_28 (n := 349) rfl d_M_init_346 (by decide) g18 rfl ?_
      refine pv_iload_n (n := 350) d_M_init_349 rfl rfl rfl ?_
      refine pv_iconst (v := -1) (n := 351) d_M_init_350 (by decide) rfl ?_
      obtain ⟨g19, h⟩ := h
      refine pv_iast1 (n := 352) (f := 212) (by decide) rfl (fun _ => rfl) d_M_init_351 (by decide) g19 rfl (fun w20 e21 => ?_)
      replace h := h w20 e21
      refine pv_aload_n (n := 353) d_M_init_352 rfl rfl rfl ?_
      obtain ⟨g22, h⟩ := h
      refine gt_M_34 (n := 356) rfl d_M_init_353 (by decide) g22 rfl ?_
      refine pv_iload_n (n := 357) d_M_init_356 rfl rfl rfl ?_
      refine pv_iconst (v := 1) (n := 358) d_M_init_357 (by decide) rfl ?_
      obtain ⟨g23, h⟩ := h
      refine pv_iast1 (n := 359) (f := 214) (by decide) rfl (fun _ => rfl) d_M_init_358 (by decide) g23 rfl (fun w24 e25 => ?_)
      replace h := h w24 e25
      refine pv_iinc (v := (a1 + 1)) (n := 362) (L1 := [(10, 0), (0, (a1 + 1))]) d_M_init_359 rfl rfl rfl (by decide) rfl ?_
      refine pv_goto (tgt := 308) d_M_init_362 (by decide) ?_
      exact ih _ _ h
set_option maxHeartbeats 4000000 in
set_option maxRecDepth 20000 in
def wp_M_init (w : pw_W) (Q : pw_W → Int32 → Prop) (X : pw_W → Nat → Prop) : Prop := pw_nv w 206 = 0 ∧ pw_rm w 206 (pw_i 100) ∧ ∀ w28, w28 = pw_nw w 206 (pw_i 100) (pw_i 100) → ∀ w30, w30 = pw_ps w28 8 0 6 0 → pw_nv w30 207 = 0 ∧ pw_rm w30 207 (pw_i 100) ∧ ∀ w34, w34 = pw_nw w30 207 (pw_i 100) (pw_i 100) → ∀ w36, w36 = pw_ps w34 8 0 7 0 → pw_nv w36 208 = 0 ∧ pw_rm w36 208 (pw_i 100) ∧ ∀ w40, w40 = pw_nw w36 208 (pw_i 100) (pw_i 100) → ∀ w42, w42 = pw_ps w40 8 0 8 0 → pw_nv w42 209 = 0 ∧ pw_rm w42 209 (pw_i 100) ∧ ∀ w46, w46 = pw_nw w42 209 (pw_i 100) (pw_i 100) → ∀ w48, w48 = pw_ps w46 8 0 9 0 → pw_nv w48 210 = 0 ∧ pw_rm w48 210 (pw_i 100) ∧ ∀ w52, w52 = pw_nw w48 210 (pw_i 100) (pw_i 100) → ∀ w54, w54 = pw_ps w52 8 0 10 0 → pw_nv w54 211 = 0 ∧ pw_rm w54 211 (pw_i 100) ∧ ∀ w58, w58 = pw_nw w54 211 (pw_i 100) (pw_i 100) → ∀ w60, w60 = pw_ps w58 8 0 11 0 → pw_nv w60 212 = 0 ∧ pw_rm w60 212 (pw_i 100) ∧ ∀ w64, w64 = pw_nw w60 212 (pw_i 100) (pw_i 100) → ∀ w66, w66 = pw_ps w64 8 0 12 0 → pw_nv w66 213 = 0 ∧ pw_rm w66 213 (pw_i 100) ∧ ∀ w70, w70 = pw_nw w66 213 (pw_i 100) (pw_i 100) → ∀ w72, w72 = pw_ps w70 8 0 13 0 → pw_nv w72 214 = 0 ∧ pw_rm w72 214 (pw_i 100) ∧ ∀ w76, w76 = pw_nw w72 214 (pw_i 100) (pw_i 100) → ∀ w78, w78 = pw_ps w76 8 0 14 0 → pw_nv w78 215 = 0 ∧ pw_rm w78 215 (pw_i 25000) ∧ ∀ w82, w82 = pw_nw w78 215 (pw_i 25000) (pw_i 25000) → ∀ w84, w84 = pw_ps w82 8 0 15 0 → pw_nv w84 216 = 0 ∧ pw_rm w84 216 (pw_i 40) ∧ ∀ w88, w88 = pw_nw w84 216 (pw_i 40) (pw_i 40) → ∀ w90, w90 = pw_ps w88 8 0 16 0 → pw_nv w90 217 = 0 ∧ pw_rm w90 217 (pw_i 40) ∧ ∀ w94, w94 = pw_nw w90 217 (pw_i 40) (pw_i 40) → ∀ w96, w96 = pw_ps w94 8 0 17 0 → pw_nv w96 219 = 0 ∧ pw_rm w96 219 (pw_i 480) ∧ ∀ w100, w100 = pw_nw w96 219 (pw_i 480) (pw_i 480) → ∀ w102, w102 = pw_ps w100 8 0 19 0 → pw_nv w102 220 = 0 ∧ pw_rm w102 220 (pw_i 80) ∧ ∀ w106, w106 = pw_nw w102 220 (pw_i 80) (pw_i 80) → ∀ w108, w108 = pw_ps w106 8 0 20 0 → pw_nv w108 221 = 0 ∧ pw_rm w108 221 (pw_i 80) ∧ ∀ w112, w112 = pw_nw w108 221 (pw_i 80) (pw_i 80) → ∀ w114, w114 = pw_ps w112 8 0 21 0 → pw_nv w114 222 = 0 ∧ pw_rm w114 222 (pw_i 80) ∧ ∀ w118, w118 = pw_nw w114 222 (pw_i 80) (pw_i 80) → ∀ w120, w120 = pw_ps w118 8 0 22 0 → pw_nv w120 223 = 0 ∧ pw_rm w120 223 (pw_i 80) ∧ ∀ w124, w124 = pw_nw w120 223 (pw_i 80) (pw_i 80) → ∀ w126, w126 = pw_ps w124 8 0 23 0 → pw_nv w126 224 = 0 ∧ pw_rm w126 224 (pw_i 80) ∧ ∀ w130, w130 = pw_nw w126 224 (pw_i 80) (pw_i 80) → ∀ w132, w132 = pw_ps w130 8 0 24 0 → pw_nv w132 225 = 0 ∧ pw_rm w132 225 (pw_i 80) ∧ ∀ w136, w136 = pw_nw w132 225 (pw_i 80) (pw_i 80) → ∀ w138, w138 = pw_ps w136 8 0 25 0 → pw_nv w138 227 = 0 ∧ pw_rm w138 227 (pw_i 12) ∧ ∀ w142, w142 = pw_nw w138 227 (pw_i 12) (pw_i 12) → ∀ w144, w144 = pw_ps w142 8 0 27 0 → pw_nv w144 228 = 0 ∧ pw_rm w144 228 (pw_i 12) ∧ ∀ w148, w148 = pw_nw w144 228 (pw_i 12) (pw_i 12) → ∀ w150, w150 = pw_ps w148 8 0 28 0 → pw_nv w150 229 = 0 ∧ pw_rm w150 229 (pw_i 12) ∧ ∀ w154, w154 = pw_nw w150 229 (pw_i 12) (pw_i 12) → ∀ w156, w156 = pw_ps w154 8 0 29 0 → pw_nv w156 231 = 0 ∧ pw_rm w156 231 (pw_i 16) ∧ ∀ w160, w160 = pw_nw w156 231 (pw_i 16) (pw_i 16) → ∀ w162, w162 = pw_ps w160 8 0 31 0 → pw_nv w162 232 = 0 ∧ pw_rm w162 232 (pw_i 16) ∧ ∀ w166, w166 = pw_nw w162 232 (pw_i 16) (pw_i 16) → ∀ w168, w168 = pw_ps w166 8 0 32 0 → pw_nv w168 233 = 0 ∧ pw_rm w168 233 (pw_i 16) ∧ ∀ w172, w172 = pw_nw w168 233 (pw_i 16) (pw_i 16) → ∀ w174, w174 = pw_ps w172 8 0 33 0 → pw_nv w174 234 = 0 ∧ pw_rm w174 234 (pw_i 16) ∧ ∀ w178, w178 = pw_nw w174 234 (pw_i 16) (pw_i 16) → ∀ w180, w180 = pw_ps w178 8 0 34 0 → pw_nv w180 235 = 0 ∧ pw_rm w180 235 (pw_i 16) ∧ ∀ w184, w184 = pw_nw w180 235 (pw_i 16) (pw_i 16) → ∀ w186, w186 = pw_ps w184 8 0 35 0 → pw_nv w186 236 = 0 ∧ pw_rm w186 236 (pw_i 16) ∧ ∀ w190, w190 = pw_nw w186 236 (pw_i 16) (pw_i 16) → ∀ w192, w192 = pw_ps w190 8 0 36 0 → pw_nv w192 237 = 0 ∧ pw_rm w192 237 (pw_i 1600) ∧ ∀ w196, w196 = pw_nw w192 237 (pw_i 1600) (pw_i 1600) → ∀ w198, w198 = pw_ps w196 8 0 37 0 → pw_nv w198 239 = 0 ∧ pw_rm w198 239 (pw_i 20) ∧ ∀ w202, w202 = pw_nw w198 239 (pw_i 20) (pw_i 20) → ∀ w204, w204 = pw_ps w202 8 0 39 0 → pw_nv w204 240 = 0 ∧ pw_rm w204 240 (pw_i 20) ∧ ∀ w208, w208 = pw_nw w204 240 (pw_i 20) (pw_i 20) → ∀ w210, w210 = pw_ps w208 8 0 40 0 → pw_nv w210 242 = 0 ∧ pw_rm w210 242 (pw_i 12) ∧ ∀ w214, w214 = pw_nw w210 242 (pw_i 12) (pw_i 12) → ∀ w216, w216 = pw_ps w214 8 0 42 0 → pw_nv w216 243 = 0 ∧ pw_rm w216 243 (pw_i 36) ∧ ∀ w220, w220 = pw_nw w216 243 (pw_i 36) (pw_i 36) → ∀ w222, w222 = pw_ps w220 8 0 43 0 → pw_nv w222 244 = 0 ∧ pw_rm w222 244 (pw_i 12) ∧ ∀ w226, w226 = pw_nw w222 244 (pw_i 12) (pw_i 12) → ∀ w228, w228 = pw_ps w226 8 0 44 0 → pw_nv w228 245 = 0 ∧ pw_rm w228 245 (pw_i 12) ∧ ∀ w232, w232 = pw_nw w228 245 (pw_i 12) (pw_i 12) → ∀ w234, w234 = pw_ps w232 8 0 45 0 → ∀ w236, w236 = pw_ps w234 8 0 18 1 → w236.1 8 0 16 = 0 ∧ pw_jn 0 (pw_ln w236 216 0) ∧ ∀ w240, w240 = pw_ps w236 216 0 0 (-1) → w240.1 8 0 17 = 0 ∧ pw_jn 0 (pw_ln w240 217 0) ∧ ∀ w244, w244 = pw_ps w240 217 0 0 (-1) → ∃ k246, lp_M_init_308 Q X k246 0 w244
set_option maxHeartbeats 4000000 in
set_option maxRecDepth 20000 in
theorem vw_M_init {l : Launch} {g : pw_G} {Q : pw_W → Int32 → Prop} {X : pw_W → Nat → Prop} (hl0 : l.stackTraces = false) {w : pw_W} (h : wp_M_init w Q X) : pw_V l g cx_M_init Q X 0 [(10, 0), (1, 0)] [] w := by
  unfold wp_M_init at h
  refine pv_aload_n (n := 1) d_M_init_0 rfl rfl rfl ?_
  refine pv_objInit (n := 4) q_425 q_1 q_2 (by decide) rfl (by decide) d_M_init_1 rfl ?_
  refine pv_aload_n (n := 5) d_M_init_4 rfl rfl rfl ?_
  refine pv_bipush (v := 100) (n := 7) d_M_init_5 (by decide) rfl ?_
  obtain ⟨g26, h⟩ := h
  obtain ⟨g27, h⟩ := h
  refine pv_nwa0_int (n := 9) (f := 206) g26 (by decide) (by decide) rfl (by intro k; rfl) q_3 d_M_init_7 (by decide) (by decide) g27 rfl (fun w28 e29 => ?_)
  replace h := h w28 e29
  refine pt_M_7 (n := 12) rfl rfl d_M_init_9 (by decide) rfl (fun w30 e31 => ?_)
  replace h := h w30 e31
  refine pv_aload_n (n := 13) d_M_init_12 rfl rfl rfl ?_
  refine pv_bipush (v := 100) (n := 15) d_M_init_13 (by decide) rfl ?_
  obtain ⟨g32, h⟩ := h
  obtain ⟨g33, h⟩ := h
  refine pv_nwa0_int (n := 17) (f := 207) g32 (by decide) (by decide) rfl (by intro k; rfl) q_3 d_M_init_15 (by decide) (by decide) g33 rfl (fun w34 e35 => ?_)
  replace h := h w34 e35
  refine pt_M_13 (n := 20) rfl rfl d_M_init_17 (by decide) rfl (fun w36 e37 => ?_)
  replace h := h w36 e37
  refine pv_aload_n (n := 21) d_M_init_20 rfl rfl rfl ?_
  refine pv_bipush (v := 100) (n := 23) d_M_init_21 (by decide) rfl ?_
  obtain ⟨g38, h⟩ := h
  obtain ⟨g39, h⟩ := h
  refine pv_nwa0_int (n := 25) (f := 208) g38 (by decide) (by decide) rfl (by intro k; rfl) q_3 d_M_init_23 (by decide) (by decide) g39 rfl (fun w40 e41 => ?_)
  replace h := h w40 e41
  refine pt_M_16 (n := 28) rfl rfl d_M_init_25 (by decide) rfl (fun w42 e43 => ?_)
  replace h := h w42 e43
  refine pv_aload_n (n := 29) d_M_init_28 rfl rfl rfl ?_
  refine pv_bipush (v := 100) (n := 31) d_M_init_29 (by decide) rfl ?_
  obtain ⟨g44, h⟩ := h
  obtain ⟨g45, h⟩ := h
  refine pv_nwa0_int (n := 33) (f := 209) g44 (by decide) (by decide) rfl (by intro k; rfl) q_3 d_M_init_31 (by decide) (by decide) g45 rfl (fun w46 e47 => ?_)
  replace h := h w46 e47
  refine pt_M_19 (n := 36) rfl rfl d_M_init_33 (by decide) rfl (fun w48 e49 => ?_)
  replace h := h w48 e49
  refine pv_aload_n (n := 37) d_M_init_36 rfl rfl rfl ?_
  refine pv_bipush (v := 100) (n := 39) d_M_init_37 (by decide) rfl ?_
  obtain ⟨g50, h⟩ := h
  obtain ⟨g51, h⟩ := h
  refine pv_nwa0_int (n := 41) (f := 210) g50 (by decide) (by decide) rfl (by intro k; rfl) q_3 d_M_init_39 (by decide) (by decide) g51 rfl (fun w52 e53 => ?_)
  replace h := h w52 e53
  refine pt_M_22 (n := 44) rfl rfl d_M_init_41 (by decide) rfl (fun w54 e55 => ?_)
  replace h := h w54 e55
  refine pv_aload_n (n := 45) d_M_init_44 rfl rfl rfl ?_
  refine pv_bipush (v := 100) (n := 47) d_M_init_45 (by decide) rfl ?_
  obtain ⟨g56, h⟩ := h
  obtain ⟨g57, h⟩ := h
  refine pv_nwa0_int (n := 49) (f := 211) g56 (by decide) (by decide) rfl (by intro k; rfl) q_3 d_M_init_47 (by decide) (by decide) g57 rfl (fun w58 e59 => ?_)
  replace h := h w58 e59
  refine pt_M_25 (n := 52) rfl rfl d_M_init_49 (by decide) rfl (fun w60 e61 => ?_)
  replace h := h w60 e61
  refine pv_aload_n (n := 53) d_M_init_52 rfl rfl rfl ?_
  refine pv_bipush (v := 100) (n := 55) d_M_init_53 (by decide) rfl ?_
  obtain ⟨g62, h⟩ := h
  obtain ⟨g63, h⟩ := h
  refine pv_nwa0_int (n := 57) (f := 212) g62 (by decide) (by decide) rfl (by intro k; rfl) q_3 d_M_init_55 (by decide) (by decide) g63 rfl (fun w64 e65 => ?_)
  replace h := h w64 e65
  refine pt_M_28 (n := 60) rfl rfl d_M_init_57 (by decide) rfl (fun w66 e67 => ?_)
  replace h := h w66 e67
  refine pv_aload_n (n := 61) d_M_init_60 rfl rfl rfl ?_
  refine pv_bipush (v := 100) (n := 63) d_M_init_61 (by decide) rfl ?_
  obtain ⟨g68, h⟩ := h
  obtain ⟨g69, h⟩ := h
  refine pv_nwa0_int (n := 65) (f := 213) g68 (by decide) (by decide) rfl (by intro k; rfl) q_3 d_M_init_63 (by decide) (by decide) g69 rfl (fun w70 e71 => ?_)
  replace h := h w70 e71
  refine pt_M_31 (n := 68) rfl rfl d_M_init_65 (by decide) rfl (fun w72 e73 => ?_)
  replace h := h w72 e73
  refine pv_aload_n (n := 69) d_M_init_68 rfl rfl rfl ?_
  refine pv_bipush (v := 100) (n := 71) d_M_init_69 (by decide) rfl ?_
  obtain ⟨g74, h⟩ := h
  obtain ⟨g75, h⟩ := h
  refine pv_nwa0_int (n := 73) (f := 214) g74 (by decide) (by decide) rfl (by intro k; rfl) q_3 d_M_init_71 (by decide) (by decide) g75 rfl (fun w76 e77 => ?_)
  replace h := h w76 e77
  refine pt_M_34 (n := 76) rfl rfl d_M_init_73 (by decide) rfl (fun w78 e79 => ?_)
  replace h := h w78 e79
  refine pv_aload_n (n := 77) d_M_init_76 rfl rfl rfl ?_
  refine pv_sipush (v := 25000) (n := 80) d_M_init_77 (by decide) rfl ?_
  obtain ⟨g80, h⟩ := h
  obtain ⟨g81, h⟩ := h
  refine pv_nwa0_int (n := 82) (f := 215) g80 (by decide) (by decide) rfl (by intro k; rfl) q_3 d_M_init_80 (by decide) (by decide) g81 rfl (fun w82 e83 => ?_)
  replace h := h w82 e83
  refine pt_M_37 (n := 85) rfl rfl d_M_init_82 (by decide) rfl (fun w84 e85 => ?_)
  replace h := h w84 e85
  refine pv_aload_n (n := 86) d_M_init_85 rfl rfl rfl ?_
  refine pv_bipush (v := 40) (n := 88) d_M_init_86 (by decide) rfl ?_
  obtain ⟨g86, h⟩ := h
  obtain ⟨g87, h⟩ := h
  refine pv_nwa0_int (n := 90) (f := 216) g86 (by decide) (by decide) rfl (by intro k; rfl) q_3 d_M_init_88 (by decide) (by decide) g87 rfl (fun w88 e89 => ?_)
  replace h := h w88 e89
  refine pt_M_40 (n := 93) rfl rfl d_M_init_90 (by decide) rfl (fun w90 e91 => ?_)
  replace h := h w90 e91
  refine pv_aload_n (n := 94) d_M_init_93 rfl rfl rfl ?_
  refine pv_bipush (v := 40) (n := 96) d_M_init_94 (by decide) rfl ?_
  obtain ⟨g92, h⟩ := h
  obtain ⟨g93, h⟩ := h
  refine pv_nwa0_int (n := 98) (f := 217) g92 (by decide) (by decide) rfl (by intro k; rfl) q_3 d_M_init_96 (by decide) (by decide) g93 rfl (fun w94 e95 => ?_)
  replace h := h w94 e95
  refine pt_M_43 (n := 101) rfl rfl d_M_init_98 (by decide) rfl (fun w96 e97 => ?_)
  replace h := h w96 e97
  refine pv_aload_n (n := 102) d_M_init_101 rfl rfl rfl ?_
  refine pv_sipush (v := 480) (n := 105) d_M_init_102 (by decide) rfl ?_
  obtain ⟨g98, h⟩ := h
  obtain ⟨g99, h⟩ := h
  refine pv_nwa0_int (n := 107) (f := 219) g98 (by decide) (by decide) rfl (by intro k; rfl) q_3 d_M_init_105 (by decide) (by decide) g99 rfl (fun w100 e101 => ?_)
  replace h := h w100 e101
  refine pt_M_46 (n := 110) rfl rfl d_M_init_107 (by decide) rfl (fun w102 e103 => ?_)
  replace h := h w102 e103
  refine pv_aload_n (n := 111) d_M_init_110 rfl rfl rfl ?_
  refine pv_bipush (v := 80) (n := 113) d_M_init_111 (by decide) rfl ?_
  obtain ⟨g104, h⟩ := h
  obtain ⟨g105, h⟩ := h
  refine pv_nwa0_int (n := 115) (f := 220) g104 (by decide) (by decide) rfl (by intro k; rfl) q_3 d_M_init_113 (by decide) (by decide) g105 rfl (fun w106 e107 => ?_)
  replace h := h w106 e107
  refine pt_M_49 (n := 118) rfl rfl d_M_init_115 (by decide) rfl (fun w108 e109 => ?_)
  replace h := h w108 e109
  refine pv_aload_n (n := 119) d_M_init_118 rfl rfl rfl ?_
  refine pv_bipush (v := 80) (n := 121) d_M_init_119 (by decide) rfl ?_
  obtain ⟨g110, h⟩ := h
  obtain ⟨g111, h⟩ := h
  refine pv_nwa0_int (n := 123) (f := 221) g110 (by decide) (by decide) rfl (by intro k; rfl) q_3 d_M_init_121 (by decide) (by decide) g111 rfl (fun w112 e113 => ?_)
  replace h := h w112 e113
  refine pt_M_52 (n := 126) rfl rfl d_M_init_123 (by decide) rfl (fun w114 e115 => ?_)
  replace h := h w114 e115
  refine pv_aload_n (n := 127) d_M_init_126 rfl rfl rfl ?_
  refine pv_bipush (v := 80) (n := 129) d_M_init_127 (by decide) rfl ?_
  obtain ⟨g116, h⟩ := h
  obtain ⟨g117, h⟩ := h
  refine pv_nwa0_int (n := 131) (f := 222) g116 (by decide) (by decide) rfl (by intro k; rfl) q_3 d_M_init_129 (by decide) (by decide) g117 rfl (fun w118 e119 => ?_)
  replace h := h w118 e119
  refine pt_M_55 (n := 134) rfl rfl d_M_init_131 (by decide) rfl (fun w120 e121 => ?_)
  replace h := h w120 e121
  refine pv_aload_n (n := 135) d_M_init_134 rfl rfl rfl ?_
  refine pv_bipush (v := 80) (n := 137) d_M_init_135 (by decide) rfl ?_
  obtain ⟨g122, h⟩ := h
  obtain ⟨g123, h⟩ := h
  refine pv_nwa0_int (n := 139) (f := 223) g122 (by decide) (by decide) rfl (by intro k; rfl) q_3 d_M_init_137 (by decide) (by decide) g123 rfl (fun w124 e125 => ?_)
  replace h := h w124 e125
  refine pt_M_58 (n := 142) rfl rfl d_M_init_139 (by decide) rfl (fun w126 e127 => ?_)
  replace h := h w126 e127
  refine pv_aload_n (n := 143) d_M_init_142 rfl rfl rfl ?_
  refine pv_bipush (v := 80) (n := 145) d_M_init_143 (by decide) rfl ?_
  obtain ⟨g128, h⟩ := h
  obtain ⟨g129, h⟩ := h
  refine pv_nwa0_int (n := 147) (f := 224) g128 (by decide) (by decide) rfl (by intro k; rfl) q_3 d_M_init_145 (by decide) (by decide) g129 rfl (fun w130 e131 => ?_)
  replace h := h w130 e131
  refine pt_M_61 (n := 150) rfl rfl d_M_init_147 (by decide) rfl (fun w132 e133 => ?_)
  replace h := h w132 e133
  refine pv_aload_n (n := 151) d_M_init_150 rfl rfl rfl ?_
  refine pv_bipush (v := 80) (n := 153) d_M_init_151 (by decide) rfl ?_
  obtain ⟨g134, h⟩ := h
  obtain ⟨g135, h⟩ := h
  refine pv_nwa0_boolean (n := 155) (f := 225) g134 (by decide) (by decide) rfl (by intro k; rfl) q_193 d_M_init_153 (by decide) (by decide) g135 rfl (fun w136 e137 => ?_)
  replace h := h w136 e137
  refine pt_M_64 (n := 158) rfl rfl d_M_init_155 (by decide) rfl (fun w138 e139 => ?_)
  replace h := h w138 e139
  refine pv_aload_n (n := 159) d_M_init_158 rfl rfl rfl ?_
  refine pv_bipush (v := 12) (n := 161) d_M_init_159 (by decide) rfl ?_
  obtain ⟨g140, h⟩ := h
  obtain ⟨g141, h⟩ := h
  refine pv_nwa0_int (n := 163) (f := 227) g140 (by decide) (by decide) rfl (by intro k; rfl) q_3 d_M_init_161 (by decide) (by decide) g141 rfl (fun w142 e143 => ?_)
  replace h := h w142 e143
  refine pt_M_68 (n := 166) rfl rfl d_M_init_163 (by decide) rfl (fun w144 e145 => ?_)
  replace h := h w144 e145
  refine pv_aload_n (n := 167) d_M_init_166 rfl rfl rfl ?_
  refine pv_bipush (v := 12) (n := 169) d_M_init_167 (by decide) rfl ?_
  obtain ⟨g146, h⟩ := h
  obtain ⟨g147, h⟩ := h
  refine pv_nwa0_int (n := 171) (f := 228) g146 (by decide) (by decide) rfl (by intro k; rfl) q_3 d_M_init_169 (by decide) (by decide) g147 rfl (fun w148 e149 => ?_)
  replace h := h w148 e149
  refine pt_M_71 (n := 174) rfl rfl d_M_init_171 (by decide) rfl (fun w150 e151 => ?_)
  replace h := h w150 e151
  refine pv_aload_n (n := 175) d_M_init_174 rfl rfl rfl ?_
  refine pv_bipush (v := 12) (n := 177) d_M_init_175 (by decide) rfl ?_
  obtain ⟨g152, h⟩ := h
  obtain ⟨g153, h⟩ := h
  refine pv_nwa0_int (n := 179) (f := 229) g152 (by decide) (by decide) rfl (by intro k; rfl) q_3 d_M_init_177 (by decide) (by decide) g153 rfl (fun w154 e155 => ?_)
  replace h := h w154 e155
  refine pt_M_74 (n := 182) rfl rfl d_M_init_179 (by decide) rfl (fun w156 e157 => ?_)
  replace h := h w156 e157
  refine pv_aload_n (n := 183) d_M_init_182 rfl rfl rfl ?_
  refine pv_bipush (v := 16) (n := 185) d_M_init_183 (by decide) rfl ?_
  obtain ⟨g158, h⟩ := h
  obtain ⟨g159, h⟩ := h
  refine pv_nwa0_int (n := 187) (f := 231) g158 (by decide) (by decide) rfl (by intro k; rfl) q_3 d_M_init_185 (by decide) (by decide) g159 rfl (fun w160 e161 => ?_)
  replace h := h w160 e161
  refine pt_M_77 (n := 190) rfl rfl d_M_init_187 (by decide) rfl (fun w162 e163 => ?_)
  replace h := h w162 e163
  refine pv_aload_n (n := 191) d_M_init_190 rfl rfl rfl ?_
  refine pv_bipush (v := 16) (n := 193) d_M_init_191 (by decide) rfl ?_
  obtain ⟨g164, h⟩ := h
  obtain ⟨g165, h⟩ := h
  refine pv_nwa0_int (n := 195) (f := 232) g164 (by decide) (by decide) rfl (by intro k; rfl) q_3 d_M_init_193 (by decide) (by decide) g165 rfl (fun w166 e167 => ?_)
  replace h := h w166 e167
  refine pt_M_80 (n := 198) rfl rfl d_M_init_195 (by decide) rfl (fun w168 e169 => ?_)
  replace h := h w168 e169
  refine pv_aload_n (n := 199) d_M_init_198 rfl rfl rfl ?_
  refine pv_bipush (v := 16) (n := 201) d_M_init_199 (by decide) rfl ?_
  obtain ⟨g170, h⟩ := h
  obtain ⟨g171, h⟩ := h
  refine pv_nwa0_int (n := 203) (f := 233) g170 (by decide) (by decide) rfl (by intro k; rfl) q_3 d_M_init_201 (by decide) (by decide) g171 rfl (fun w172 e173 => ?_)
  replace h := h w172 e173
  refine pt_M_83 (n := 206) rfl rfl d_M_init_203 (by decide) rfl (fun w174 e175 => ?_)
  replace h := h w174 e175
  refine pv_aload_n (n := 207) d_M_init_206 rfl rfl rfl ?_
  refine pv_bipush (v := 16) (n := 209) d_M_init_207 (by decide) rfl ?_
  obtain ⟨g176, h⟩ := h
  obtain ⟨g177, h⟩ := h
  refine pv_nwa0_int (n := 211) (f := 234) g176 (by decide) (by decide) rfl (by intro k; rfl) q_3 d_M_init_209 (by decide) (by decide) g177 rfl (fun w178 e179 => ?_)
  replace h := h w178 e179
  refine pt_M_86 (n := 214) rfl rfl d_M_init_211 (by decide) rfl (fun w180 e181 => ?_)
  replace h := h w180 e181
  refine pv_aload_n (n := 215) d_M_init_214 rfl rfl rfl ?_
  refine pv_bipush (v := 16) (n := 217) d_M_init_215 (by decide) rfl ?_
  obtain ⟨g182, h⟩ := h
  obtain ⟨g183, h⟩ := h
  refine pv_nwa0_int (n := 219) (f := 235) g182 (by decide) (by decide) rfl (by intro k; rfl) q_3 d_M_init_217 (by decide) (by decide) g183 rfl (fun w184 e185 => ?_)
  replace h := h w184 e185
  refine pt_M_89 (n := 222) rfl rfl d_M_init_219 (by decide) rfl (fun w186 e187 => ?_)
  replace h := h w186 e187
  refine pv_aload_n (n := 223) d_M_init_222 rfl rfl rfl ?_
  refine pv_bipush (v := 16) (n := 225) d_M_init_223 (by decide) rfl ?_
  obtain ⟨g188, h⟩ := h
  obtain ⟨g189, h⟩ := h
  refine pv_nwa0_int (n := 227) (f := 236) g188 (by decide) (by decide) rfl (by intro k; rfl) q_3 d_M_init_225 (by decide) (by decide) g189 rfl (fun w190 e191 => ?_)
  replace h := h w190 e191
  refine pt_M_92 (n := 230) rfl rfl d_M_init_227 (by decide) rfl (fun w192 e193 => ?_)
  replace h := h w192 e193
  refine pv_aload_n (n := 231) d_M_init_230 rfl rfl rfl ?_
  refine pv_sipush (v := 1600) (n := 234) d_M_init_231 (by decide) rfl ?_
  obtain ⟨g194, h⟩ := h
  obtain ⟨g195, h⟩ := h
  refine pv_nwa0_boolean (n := 236) (f := 237) g194 (by decide) (by decide) rfl (by intro k; rfl) q_193 d_M_init_234 (by decide) (by decide) g195 rfl (fun w196 e197 => ?_)
  replace h := h w196 e197
  refine pt_M_95 (n := 239) rfl rfl d_M_init_236 (by decide) rfl (fun w198 e199 => ?_)
  replace h := h w198 e199
  refine pv_aload_n (n := 240) d_M_init_239 rfl rfl rfl ?_
  refine pv_bipush (v := 20) (n := 242) d_M_init_240 (by decide) rfl ?_
  obtain ⟨g200, h⟩ := h
  obtain ⟨g201, h⟩ := h
  refine pv_nwa0_int (n := 244) (f := 239) g200 (by decide) (by decide) rfl (by intro k; rfl) q_3 d_M_init_242 (by decide) (by decide) g201 rfl (fun w202 e203 => ?_)
  replace h := h w202 e203
  refine pt_M_98 (n := 247) rfl rfl d_M_init_244 (by decide) rfl (fun w204 e205 => ?_)
  replace h := h w204 e205
  refine pv_aload_n (n := 248) d_M_init_247 rfl rfl rfl ?_
  refine pv_bipush (v := 20) (n := 250) d_M_init_248 (by decide) rfl ?_
  obtain ⟨g206, h⟩ := h
  obtain ⟨g207, h⟩ := h
  refine pv_nwa0_int (n := 252) (f := 240) g206 (by decide) (by decide) rfl (by intro k; rfl) q_3 d_M_init_250 (by decide) (by decide) g207 rfl (fun w208 e209 => ?_)
  replace h := h w208 e209
  refine pt_M_101 (n := 255) rfl rfl d_M_init_252 (by decide) rfl (fun w210 e211 => ?_)
  replace h := h w210 e211
  refine pv_aload_n (n := 256) d_M_init_255 rfl rfl rfl ?_
  refine pv_bipush (v := 12) (n := 258) d_M_init_256 (by decide) rfl ?_
  obtain ⟨g212, h⟩ := h
  obtain ⟨g213, h⟩ := h
  refine pv_nwa0_boolean (n := 260) (f := 242) g212 (by decide) (by decide) rfl (by intro k; rfl) q_193 d_M_init_258 (by decide) (by decide) g213 rfl (fun w214 e215 => ?_)
  replace h := h w214 e215
  refine pt_M_104 (n := 263) rfl rfl d_M_init_260 (by decide) rfl (fun w216 e217 => ?_)
  replace h := h w216 e217
  refine pv_aload_n (n := 264) d_M_init_263 rfl rfl rfl ?_
  refine pv_bipush (v := 36) (n := 266) d_M_init_264 (by decide) rfl ?_
  obtain ⟨g218, h⟩ := h
  obtain ⟨g219, h⟩ := h
  refine pv_nwa0_int (n := 268) (f := 243) g218 (by decide) (by decide) rfl (by intro k; rfl) q_3 d_M_init_266 (by decide) (by decide) g219 rfl (fun w220 e221 => ?_)
  replace h := h w220 e221
  refine pt_M_107 (n := 271) rfl rfl d_M_init_268 (by decide) rfl (fun w222 e223 => ?_)
  replace h := h w222 e223
  refine pv_aload_n (n := 272) d_M_init_271 rfl rfl rfl ?_
  refine pv_bipush (v := 12) (n := 274) d_M_init_272 (by decide) rfl ?_
  obtain ⟨g224, h⟩ := h
  obtain ⟨g225, h⟩ := h
  refine pv_nwa0_int (n := 276) (f := 244) g224 (by decide) (by decide) rfl (by intro k; rfl) q_3 d_M_init_274 (by decide) (by decide) g225 rfl (fun w226 e227 => ?_)
  replace h := h w226 e227
  refine pt_M_110 (n := 279) rfl rfl d_M_init_276 (by decide) rfl (fun w228 e229 => ?_)
  replace h := h w228 e229
  refine pv_aload_n (n := 280) d_M_init_279 rfl rfl rfl ?_
  refine pv_bipush (v := 12) (n := 282) d_M_init_280 (by decide) rfl ?_
  obtain ⟨g230, h⟩ := h
  obtain ⟨g231, h⟩ := h
  refine pv_nwa0_int (n := 284) (f := 245) g230 (by decide) (by decide) rfl (by intro k; rfl) q_3 d_M_init_282 (by decide) (by decide) g231 rfl (fun w232 e233 => ?_)
  replace h := h w232 e233
  refine pt_M_113 (n := 287) rfl rfl d_M_init_284 (by decide) rfl (fun w234 e235 => ?_)
  replace h := h w234 e235
  refine pv_aload_n (n := 288) d_M_init_287 rfl rfl rfl ?_
  refine pv_iconst (v := 1) (n := 289) d_M_init_288 (by decide) rfl ?_
  refine pt_M_116 (n := 292) rfl d_M_init_289 (by decide) rfl (fun w236 e237 => ?_)
  replace h := h w236 e237
  refine pv_aload_n (n := 293) d_M_init_292 rfl rfl rfl ?_
  obtain ⟨g238, h⟩ := h
  refine gt_M_40 (n := 296) rfl d_M_init_293 (by decide) g238 rfl ?_
  refine pv_iconst (v := 0) (n := 297) d_M_init_296 (by decide) rfl ?_
  refine pv_iconst (v := -1) (n := 298) d_M_init_297 (by decide) rfl ?_
  obtain ⟨g239, h⟩ := h
  refine pv_iast1 (n := 299) (f := 216) (by decide) rfl (fun _ => rfl) d_M_init_298 (by decide) g239 rfl (fun w240 e241 => ?_)
  replace h := h w240 e241
  refine pv_aload_n (n := 300) d_M_init_299 rfl rfl rfl ?_
  obtain ⟨g242, h⟩ := h
  refine gt_M_43 (n := 303) rfl d_M_init_300 (by decide) g242 rfl ?_
  refine pv_iconst (v := 0) (n := 304) d_M_init_303 (by decide) rfl ?_
  refine pv_iconst (v := -1) (n := 305) d_M_init_304 (by decide) rfl ?_
  obtain ⟨g243, h⟩ := h
  refine pv_iast1 (n := 306) (f := 217) (by decide) rfl (fun _ => rfl) d_M_init_305 (by decide) g243 rfl (fun w244 e245 => ?_)
  replace h := h w244 e245
  refine pv_iconst (v := 0) (n := 307) d_M_init_306 (by decide) rfl ?_
  refine pv_istore_n (n := 308) (L' := [(10, 0), (0, 0)]) d_M_init_307 rfl (by decide) rfl rfl ?_
  obtain ⟨k246, h⟩ := h
  exact vlp_M_init_308 hl0 _ _ _ h
set_option maxHeartbeats 4000000 in
set_option maxRecDepth 20000 in
theorem con_M_init {l : Launch} {g : pw_G} {Q : pw_W → Int32 → Prop} {X : pw_W → Nat → Prop} (hl0 : l.stackTraces = false) {w : pw_W} (h : wp_M_init w Q X) : pw_Con l g y_M_init cx_M_init [(10, 0)] w Q X :=
  pw_con (by decide +kernel) rfl rfl hl0 rfl (Nat.le_of_ble_eq_true rfl) (by simp) (vw_M_init hl0 h)
theorem d_M_thrown_0 : decode (pw_cc cx_M_thrown) 0 = .ok (.aload_n 0, 1) := by decide +kernel
theorem d_M_thrown_1 : decode (pw_cc cx_M_thrown) 1 = .ok (.getfield 121, 3) := by decide +kernel
theorem d_M_thrown_4 : decode (pw_cc cx_M_thrown) 4 = .ok (.ireturn, 1) := by decide +kernel
set_option maxHeartbeats 4000000 in
set_option maxRecDepth 20000 in
def wp_M_thrown (w : pw_W) (Q : pw_W → Int32 → Prop) (X : pw_W → Nat → Prop) : Prop := Q w (w.1 8 0 0)
set_option maxHeartbeats 4000000 in
set_option maxRecDepth 20000 in
theorem vw_M_thrown {l : Launch} {g : pw_G} {Q : pw_W → Int32 → Prop} {X : pw_W → Nat → Prop} (hl0 : l.stackTraces = false) {w : pw_W} (h : wp_M_thrown w Q X) : pw_V l g cx_M_thrown Q X 0 [(10, 0)] [] w := by
  unfold wp_M_thrown at h
  refine pv_aload_n (n := 1) d_M_thrown_0 rfl rfl rfl ?_
  refine gt_M_121 (n := 4) rfl d_M_thrown_1 (by decide) rfl ?_
  exact pv_iret rfl rfl d_M_thrown_4 h
set_option maxHeartbeats 4000000 in
set_option maxRecDepth 20000 in
theorem con_M_thrown {l : Launch} {g : pw_G} {Q : pw_W → Int32 → Prop} {X : pw_W → Nat → Prop} (hl0 : l.stackTraces = false) {w : pw_W} (h : wp_M_thrown w Q X) : pw_Con l g y_M_thrown cx_M_thrown [(10, 0)] w Q X :=
  pw_con (by decide +kernel) rfl rfl hl0 rfl (Nat.le_of_ble_eq_true rfl) (by simp) (vw_M_thrown hl0 h)
theorem d_M_isFine_0 : decode (pw_cc cx_M_isFine) 0 = .ok (.aload_n 0, 1) := by decide +kernel
theorem d_M_isFine_1 : decode (pw_cc cx_M_isFine) 1 = .ok (.iload_n 1, 1) := by decide +kernel
theorem d_M_isFine_2 : decode (pw_cc cx_M_isFine) 2 = .ok (.putfield 121, 3) := by decide +kernel
theorem d_M_isFine_5 : decode (pw_cc cx_M_isFine) 5 = .ok (.iload_n 1, 1) := by decide +kernel
theorem d_M_isFine_6 : decode (pw_cc cx_M_isFine) 6 = .ok (.ifCond .ne 7, 3) := by decide +kernel
theorem d_M_isFine_9 : decode (pw_cc cx_M_isFine) 9 = .ok (.iconst 1, 1) := by decide +kernel
theorem d_M_isFine_10 : decode (pw_cc cx_M_isFine) 10 = .ok (.goto 4, 3) := by decide +kernel
theorem d_M_isFine_13 : decode (pw_cc cx_M_isFine) 13 = .ok (.iconst 0, 1) := by decide +kernel
theorem d_M_isFine_14 : decode (pw_cc cx_M_isFine) 14 = .ok (.ireturn, 1) := by decide +kernel
set_option maxHeartbeats 4000000 in
set_option maxRecDepth 20000 in
def wp_M_isFine (w : pw_W) (a1 : Int32) (Q : pw_W → Int32 → Prop) (X : pw_W → Nat → Prop) : Prop := ∀ w1, w1 = pw_ps w 8 0 0 a1 → (¬ a1 = 0 → Q w1 0) ∧ (a1 = 0 → Q w1 1)
set_option maxHeartbeats 4000000 in
set_option maxRecDepth 20000 in
theorem vw_M_isFine {l : Launch} {g : pw_G} {Q : pw_W → Int32 → Prop} {X : pw_W → Nat → Prop} (hl0 : l.stackTraces = false) {w : pw_W} {a1 : Int32} (h : wp_M_isFine w a1 Q X) : pw_V l g cx_M_isFine Q X 0 [(10, 0), (0, a1)] [] w := by
  unfold wp_M_isFine at h
  refine pv_aload_n (n := 1) d_M_isFine_0 rfl rfl rfl ?_
  refine pv_iload_n (n := 2) d_M_isFine_1 rfl rfl rfl ?_
  refine pt_M_121 (n := 5) rfl d_M_isFine_2 (by decide) rfl (fun w1 e2 => ?_)
  replace h := h w1 e2
  refine pv_iload_n (n := 6) d_M_isFine_5 rfl rfl rfl ?_
  refine pv_if_ne (n := 9) (tgt := 13) d_M_isFine_6 (by decide) rfl (fun c3 => ?_) (fun c3 => ?_)
  · replace h := h.1 c3
    refine pv_iconst (v := 0) (n := 14) d_M_isFine_13 (by decide) rfl ?_
    exact pv_zret rfl rfl d_M_isFine_14 (by decide) h
  · replace h := h.2 c3
    refine pv_iconst (v := 1) (n := 10) d_M_isFine_9 (by decide) rfl ?_
    refine pv_goto (tgt := 14) d_M_isFine_10 (by decide) ?_
    exact pv_zret rfl rfl d_M_isFine_14 (by decide) h
set_option maxHeartbeats 4000000 in
set_option maxRecDepth 20000 in
theorem con_M_isFine {l : Launch} {g : pw_G} {Q : pw_W → Int32 → Prop} {X : pw_W → Nat → Prop} (hl0 : l.stackTraces = false) {w : pw_W} {a1 : Int32} (h : wp_M_isFine w a1 Q X) : pw_Con l g y_M_isFine cx_M_isFine [(10, 0), (0, a1)] w Q X :=
  pw_con (by decide +kernel) rfl rfl hl0 rfl (Nat.le_of_ble_eq_true rfl) (by simp) (vw_M_isFine hl0 h)
theorem d_M_isIn_0 : decode (pw_cc cx_M_isIn) 0 = .ok (.iload_n 0, 1) := by decide +kernel
theorem d_M_isIn_1 : decode (pw_cc cx_M_isIn) 1 = .ok (.iload_n 1, 1) := by decide +kernel
theorem d_M_isIn_2 : decode (pw_cc cx_M_isIn) 2 = .ok (.if_icmp .lt 12, 3) := by decide +kernel
theorem d_M_isIn_5 : decode (pw_cc cx_M_isIn) 5 = .ok (.iload_n 0, 1) := by decide +kernel
theorem d_M_isIn_6 : decode (pw_cc cx_M_isIn) 6 = .ok (.iload_n 2, 1) := by decide +kernel
theorem d_M_isIn_7 : decode (pw_cc cx_M_isIn) 7 = .ok (.if_icmp .gt 7, 3) := by decide +kernel
theorem d_M_isIn_10 : decode (pw_cc cx_M_isIn) 10 = .ok (.iconst 1, 1) := by decide +kernel
theorem d_M_isIn_11 : decode (pw_cc cx_M_isIn) 11 = .ok (.goto 4, 3) := by decide +kernel
theorem d_M_isIn_14 : decode (pw_cc cx_M_isIn) 14 = .ok (.iconst 0, 1) := by decide +kernel
theorem d_M_isIn_15 : decode (pw_cc cx_M_isIn) 15 = .ok (.ireturn, 1) := by decide +kernel
set_option maxHeartbeats 4000000 in
set_option maxRecDepth 20000 in
def wp_M_isIn (w : pw_W) (a0 a1 a2 : Int32) (Q : pw_W → Int32 → Prop) (X : pw_W → Nat → Prop) : Prop := (a0 < a1 → Q w 0) ∧ (¬ a0 < a1 → (a2 < a0 → Q w 0) ∧ (¬ a2 < a0 → Q w 1))
set_option maxHeartbeats 4000000 in
set_option maxRecDepth 20000 in
theorem vw_M_isIn {l : Launch} {g : pw_G} {Q : pw_W → Int32 → Prop} {X : pw_W → Nat → Prop} (hl0 : l.stackTraces = false) {w : pw_W} {a0 a1 a2 : Int32} (h : wp_M_isIn w a0 a1 a2 Q X) : pw_V l g cx_M_isIn Q X 0 [(0, a0), (0, a1), (0, a2)] [] w := by
  unfold wp_M_isIn at h
  refine pv_iload_n (n := 1) d_M_isIn_0 rfl rfl rfl ?_
  refine pv_iload_n (n := 2) d_M_isIn_1 rfl rfl rfl ?_
  refine pv_icmp_lt (n := 5) (tgt := 14) d_M_isIn_2 (by decide) rfl (fun c1 => ?_) (fun c1 => ?_)
  · replace h := h.1 c1
    refine pv_iconst (v := 0) (n := 15) d_M_isIn_14 (by decide) rfl ?_
    exact pv_zret rfl rfl d_M_isIn_15 (by decide) h
  · replace h := h.2 c1
    refine pv_iload_n (n := 6) d_M_isIn_5 rfl rfl rfl ?_
    refine pv_iload_n (n := 7) d_M_isIn_6 rfl rfl rfl ?_
    refine pv_icmp_gt (n := 10) (tgt := 14) d_M_isIn_7 (by decide) rfl (fun c2 => ?_) (fun c2 => ?_)
    · replace h := h.1 c2
      refine pv_iconst (v := 0) (n := 15) d_M_isIn_14 (by decide) rfl ?_
      exact pv_zret rfl rfl d_M_isIn_15 (by decide) h
    · replace h := h.2 c2
      refine pv_iconst (v := 1) (n := 11) d_M_isIn_10 (by decide) rfl ?_
      refine pv_goto (tgt := 15) d_M_isIn_11 (by decide) ?_
      exact pv_zret rfl rfl d_M_isIn_15 (by decide) h
set_option maxHeartbeats 4000000 in
set_option maxRecDepth 20000 in
theorem con_M_isIn {l : Launch} {g : pw_G} {Q : pw_W → Int32 → Prop} {X : pw_W → Nat → Prop} (hl0 : l.stackTraces = false) {w : pw_W} {a0 a1 a2 : Int32} (h : wp_M_isIn w a0 a1 a2 Q X) : pw_Con l g y_M_isIn cx_M_isIn [(0, a0), (0, a1), (0, a2)] w Q X :=
  pw_con (by decide +kernel) rfl rfl hl0 rfl (Nat.le_of_ble_eq_true rfl) (by simp) (vw_M_isIn hl0 h)
theorem d_M_isSquare_0 : decode (pw_cc cx_M_isSquare) 0 = .ok (.iload_n 0, 1) := by decide +kernel
theorem d_M_isSquare_1 : decode (pw_cc cx_M_isSquare) 1 = .ok (.iconst 0, 1) := by decide +kernel
theorem d_M_isSquare_2 : decode (pw_cc cx_M_isSquare) 2 = .ok (.bipush 99, 2) := by decide +kernel
theorem d_M_isSquare_4 : decode (pw_cc cx_M_isSquare) 4 = .ok (.invokestatic 124, 3) := by decide +kernel
theorem d_M_isSquare_7 : decode (pw_cc cx_M_isSquare) 7 = .ok (.ireturn, 1) := by decide +kernel
set_option maxHeartbeats 4000000 in
set_option maxRecDepth 20000 in
def wp_M_isSquare (w : pw_W) (a0 : Int32) (Q : pw_W → Int32 → Prop) (X : pw_W → Nat → Prop) : Prop := wp_M_isIn w a0 0 99 (fun w1 r2 => (r2 = 0 ∨ r2 = 1) ∧ Q w1 r2) (fun _ _ => False)
set_option maxHeartbeats 4000000 in
set_option maxRecDepth 20000 in
theorem vw_M_isSquare {l : Launch} {g : pw_G} {Q : pw_W → Int32 → Prop} {X : pw_W → Nat → Prop} (hl0 : l.stackTraces = false) {w : pw_W} {a0 : Int32} (h : wp_M_isSquare w a0 Q X) : pw_V l g cx_M_isSquare Q X 0 [(0, a0)] [] w := by
  unfold wp_M_isSquare at h
  refine pv_iload_n (n := 1) d_M_isSquare_0 rfl rfl rfl ?_
  refine pv_iconst (v := 0) (n := 2) d_M_isSquare_1 (by decide) rfl ?_
  refine pv_bipush (v := 99) (n := 4) d_M_isSquare_2 (by decide) rfl ?_
  refine pv_callS (n := 7) [(0, a0), (0, 0), (0, 99)] [] (con_M_isIn hl0 h) q_459 q_460 q_458 q_457 pyo_M_isIn (by decide) rfl rfl d_M_isSquare_4 rfl (fun w1 r2 h _ => ?_) (fun _ _ h => h.elim)
  show pw_V l g cx_M_isSquare Q X 7 [(0, a0)] [(0, r2)] w1
  obtain ⟨g3, h⟩ := h
  exact pv_zret rfl rfl d_M_isSquare_7 g3 h
set_option maxHeartbeats 4000000 in
set_option maxRecDepth 20000 in
theorem con_M_isSquare {l : Launch} {g : pw_G} {Q : pw_W → Int32 → Prop} {X : pw_W → Nat → Prop} (hl0 : l.stackTraces = false) {w : pw_W} {a0 : Int32} (h : wp_M_isSquare w a0 Q X) : pw_Con l g y_M_isSquare cx_M_isSquare [(0, a0)] w Q X :=
  pw_con (by decide +kernel) rfl rfl hl0 rfl (Nat.le_of_ble_eq_true rfl) (by simp) (vw_M_isSquare hl0 h)
theorem d_M_isPerson_0 : decode (pw_cc cx_M_isPerson) 0 = .ok (.iload_n 0, 1) := by decide +kernel
theorem d_M_isPerson_1 : decode (pw_cc cx_M_isPerson) 1 = .ok (.iconst 0, 1) := by decide +kernel
theorem d_M_isPerson_2 : decode (pw_cc cx_M_isPerson) 2 = .ok (.bipush 11, 2) := by decide +kernel
theorem d_M_isPerson_4 : decode (pw_cc cx_M_isPerson) 4 = .ok (.invokestatic 124, 3) := by decide +kernel
theorem d_M_isPerson_7 : decode (pw_cc cx_M_isPerson) 7 = .ok (.ireturn, 1) := by decide +kernel
set_option maxHeartbeats 4000000 in
set_option maxRecDepth 20000 in
def wp_M_isPerson (w : pw_W) (a0 : Int32) (Q : pw_W → Int32 → Prop) (X : pw_W → Nat → Prop) : Prop := wp_M_isIn w a0 0 11 (fun w1 r2 => (r2 = 0 ∨ r2 = 1) ∧ Q w1 r2) (fun _ _ => False)
set_option maxHeartbeats 4000000 in
set_option maxRecDepth 20000 in
theorem vw_M_isPerson {l : Launch} {g : pw_G} {Q : pw_W → Int32 → Prop} {X : pw_W → Nat → Prop} (hl0 : l.stackTraces = false) {w : pw_W} {a0 : Int32} (h : wp_M_isPerson w a0 Q X) : pw_V l g cx_M_isPerson Q X 0 [(0, a0)] [] w := by
  unfold wp_M_isPerson at h
  refine pv_iload_n (n := 1) d_M_isPerson_0 rfl rfl rfl ?_
  refine pv_iconst (v := 0) (n := 2) d_M_isPerson_1 (by decide) rfl ?_
  refine pv_bipush (v := 11) (n := 4) d_M_isPerson_2 (by decide) rfl ?_
  refine pv_callS (n := 7) [(0, a0), (0, 0), (0, 11)] [] (con_M_isIn hl0 h) q_459 q_460 q_458 q_457 pyo_M_isIn (by decide) rfl rfl d_M_isPerson_4 rfl (fun w1 r2 h _ => ?_) (fun _ _ h => h.elim)
  show pw_V l g cx_M_isPerson Q X 7 [(0, a0)] [(0, r2)] w1
  obtain ⟨g3, h⟩ := h
  exact pv_zret rfl rfl d_M_isPerson_7 g3 h
set_option maxHeartbeats 4000000 in
set_option maxRecDepth 20000 in
theorem con_M_isPerson {l : Launch} {g : pw_G} {Q : pw_W → Int32 → Prop} {X : pw_W → Nat → Prop} (hl0 : l.stackTraces = false) {w : pw_W} {a0 : Int32} (h : wp_M_isPerson w a0 Q X) : pw_Con l g y_M_isPerson cx_M_isPerson [(0, a0)] w Q X :=
  pw_con (by decide +kernel) rfl rfl hl0 rfl (Nat.le_of_ble_eq_true rfl) (by simp) (vw_M_isPerson hl0 h)
theorem d_M_isParcel_0 : decode (pw_cc cx_M_isParcel) 0 = .ok (.iload_n 1, 1) := by decide +kernel
theorem d_M_isParcel_1 : decode (pw_cc cx_M_isParcel) 1 = .ok (.iconst 0, 1) := by decide +kernel
theorem d_M_isParcel_2 : decode (pw_cc cx_M_isParcel) 2 = .ok (.aload_n 0, 1) := by decide +kernel
theorem d_M_isParcel_3 : decode (pw_cc cx_M_isParcel) 3 = .ok (.getfield 116, 3) := by decide +kernel
theorem d_M_isParcel_6 : decode (pw_cc cx_M_isParcel) 6 = .ok (.iconst 1, 1) := by decide +kernel
theorem d_M_isParcel_7 : decode (pw_cc cx_M_isParcel) 7 = .ok (.isub, 1) := by decide +kernel
theorem d_M_isParcel_8 : decode (pw_cc cx_M_isParcel) 8 = .ok (.invokestatic 124, 3) := by decide +kernel
theorem d_M_isParcel_11 : decode (pw_cc cx_M_isParcel) 11 = .ok (.ireturn, 1) := by decide +kernel
set_option maxHeartbeats 4000000 in
set_option maxRecDepth 20000 in
def wp_M_isParcel (w : pw_W) (a1 : Int32) (Q : pw_W → Int32 → Prop) (X : pw_W → Nat → Prop) : Prop := wp_M_isIn w a1 0 ((w.1 8 0 18) - 1) (fun w1 r2 => (r2 = 0 ∨ r2 = 1) ∧ Q w1 r2) (fun _ _ => False)
set_option maxHeartbeats 4000000 in
set_option maxRecDepth 20000 in
theorem vw_M_isParcel {l : Launch} {g : pw_G} {Q : pw_W → Int32 → Prop} {X : pw_W → Nat → Prop} (hl0 : l.stackTraces = false) {w : pw_W} {a1 : Int32} (h : wp_M_isParcel w a1 Q X) : pw_V l g cx_M_isParcel Q X 0 [(10, 0), (0, a1)] [] w := by
  unfold wp_M_isParcel at h
  refine pv_iload_n (n := 1) d_M_isParcel_0 rfl rfl rfl ?_
  refine pv_iconst (v := 0) (n := 2) d_M_isParcel_1 (by decide) rfl ?_
  refine pv_aload_n (n := 3) d_M_isParcel_2 rfl rfl rfl ?_
  refine gt_M_116 (n := 6) rfl d_M_isParcel_3 (by decide) rfl ?_
  refine pv_iconst (v := 1) (n := 7) d_M_isParcel_6 (by decide) rfl ?_
  refine pv_isub (n := 8) d_M_isParcel_7 rfl ?_
  refine pv_callS (n := 11) [(0, a1), (0, 0), (0, ((w.1 8 0 18) - 1))] [] (con_M_isIn hl0 h) q_459 q_460 q_458 q_457 pyo_M_isIn (by decide) rfl rfl d_M_isParcel_8 rfl (fun w1 r2 h _ => ?_) (fun _ _ h => h.elim)
  show pw_V l g cx_M_isParcel Q X 11 [(10, 0), (0, a1)] [(0, r2)] w1
  obtain ⟨g3, h⟩ := h
  exact pv_zret rfl rfl d_M_isParcel_11 g3 h
set_option maxHeartbeats 4000000 in
set_option maxRecDepth 20000 in
theorem con_M_isParcel {l : Launch} {g : pw_G} {Q : pw_W → Int32 → Prop} {X : pw_W → Nat → Prop} (hl0 : l.stackTraces = false) {w : pw_W} {a1 : Int32} (h : wp_M_isParcel w a1 Q X) : pw_Con l g y_M_isParcel cx_M_isParcel [(10, 0), (0, a1)] w Q X :=
  pw_con (by decide +kernel) rfl rfl hl0 rfl (Nat.le_of_ble_eq_true rfl) (by simp) (vw_M_isParcel hl0 h)
theorem d_M_isCase_0 : decode (pw_cc cx_M_isCase) 0 = .ok (.iload_n 1, 1) := by decide +kernel
theorem d_M_isCase_1 : decode (pw_cc cx_M_isCase) 1 = .ok (.iconst 0, 1) := by decide +kernel
theorem d_M_isCase_2 : decode (pw_cc cx_M_isCase) 2 = .ok (.aload_n 0, 1) := by decide +kernel
theorem d_M_isCase_3 : decode (pw_cc cx_M_isCase) 3 = .ok (.getfield 128, 3) := by decide +kernel
theorem d_M_isCase_6 : decode (pw_cc cx_M_isCase) 6 = .ok (.iconst 1, 1) := by decide +kernel
theorem d_M_isCase_7 : decode (pw_cc cx_M_isCase) 7 = .ok (.isub, 1) := by decide +kernel
theorem d_M_isCase_8 : decode (pw_cc cx_M_isCase) 8 = .ok (.invokestatic 124, 3) := by decide +kernel
theorem d_M_isCase_11 : decode (pw_cc cx_M_isCase) 11 = .ok (.ireturn, 1) := by decide +kernel
set_option maxHeartbeats 4000000 in
set_option maxRecDepth 20000 in
def wp_M_isCase (w : pw_W) (a1 : Int32) (Q : pw_W → Int32 → Prop) (X : pw_W → Nat → Prop) : Prop := wp_M_isIn w a1 0 ((w.1 8 0 38) - 1) (fun w1 r2 => (r2 = 0 ∨ r2 = 1) ∧ Q w1 r2) (fun _ _ => False)
set_option maxHeartbeats 4000000 in
set_option maxRecDepth 20000 in
theorem vw_M_isCase {l : Launch} {g : pw_G} {Q : pw_W → Int32 → Prop} {X : pw_W → Nat → Prop} (hl0 : l.stackTraces = false) {w : pw_W} {a1 : Int32} (h : wp_M_isCase w a1 Q X) : pw_V l g cx_M_isCase Q X 0 [(10, 0), (0, a1)] [] w := by
  unfold wp_M_isCase at h
  refine pv_iload_n (n := 1) d_M_isCase_0 rfl rfl rfl ?_
  refine pv_iconst (v := 0) (n := 2) d_M_isCase_1 (by decide) rfl ?_
  refine pv_aload_n (n := 3) d_M_isCase_2 rfl rfl rfl ?_
  refine gt_M_128 (n := 6) rfl d_M_isCase_3 (by decide) rfl ?_
  refine pv_iconst (v := 1) (n := 7) d_M_isCase_6 (by decide) rfl ?_
  refine pv_isub (n := 8) d_M_isCase_7 rfl ?_
  refine pv_callS (n := 11) [(0, a1), (0, 0), (0, ((w.1 8 0 38) - 1))] [] (con_M_isIn hl0 h) q_459 q_460 q_458 q_457 pyo_M_isIn (by decide) rfl rfl d_M_isCase_8 rfl (fun w1 r2 h _ => ?_) (fun _ _ h => h.elim)
  show pw_V l g cx_M_isCase Q X 11 [(10, 0), (0, a1)] [(0, r2)] w1
  obtain ⟨g3, h⟩ := h
  exact pv_zret rfl rfl d_M_isCase_11 g3 h
set_option maxHeartbeats 4000000 in
set_option maxRecDepth 20000 in
theorem con_M_isCase {l : Launch} {g : pw_G} {Q : pw_W → Int32 → Prop} {X : pw_W → Nat → Prop} (hl0 : l.stackTraces = false) {w : pw_W} {a1 : Int32} (h : wp_M_isCase w a1 Q X) : pw_Con l g y_M_isCase cx_M_isCase [(10, 0), (0, a1)] w Q X :=
  pw_con (by decide +kernel) rfl rfl hl0 rfl (Nat.le_of_ble_eq_true rfl) (by simp) (vw_M_isCase hl0 h)
theorem d_M_lesser_0 : decode (pw_cc cx_M_lesser) 0 = .ok (.iload_n 0, 1) := by decide +kernel
theorem d_M_lesser_1 : decode (pw_cc cx_M_lesser) 1 = .ok (.iload_n 1, 1) := by decide +kernel
theorem d_M_lesser_2 : decode (pw_cc cx_M_lesser) 2 = .ok (.if_icmp .ge 7, 3) := by decide +kernel
theorem d_M_lesser_5 : decode (pw_cc cx_M_lesser) 5 = .ok (.iload_n 0, 1) := by decide +kernel
theorem d_M_lesser_6 : decode (pw_cc cx_M_lesser) 6 = .ok (.goto 4, 3) := by decide +kernel
theorem d_M_lesser_9 : decode (pw_cc cx_M_lesser) 9 = .ok (.iload_n 1, 1) := by decide +kernel
theorem d_M_lesser_10 : decode (pw_cc cx_M_lesser) 10 = .ok (.ireturn, 1) := by decide +kernel
set_option maxHeartbeats 4000000 in
set_option maxRecDepth 20000 in
def wp_M_lesser (w : pw_W) (a0 a1 : Int32) (Q : pw_W → Int32 → Prop) (X : pw_W → Nat → Prop) : Prop := (a1 ≤ a0 → Q w a1) ∧ (¬ a1 ≤ a0 → Q w a0)
set_option maxHeartbeats 4000000 in
set_option maxRecDepth 20000 in
theorem vw_M_lesser {l : Launch} {g : pw_G} {Q : pw_W → Int32 → Prop} {X : pw_W → Nat → Prop} (hl0 : l.stackTraces = false) {w : pw_W} {a0 a1 : Int32} (h : wp_M_lesser w a0 a1 Q X) : pw_V l g cx_M_lesser Q X 0 [(0, a0), (0, a1)] [] w := by
  unfold wp_M_lesser at h
  refine pv_iload_n (n := 1) d_M_lesser_0 rfl rfl rfl ?_
  refine pv_iload_n (n := 2) d_M_lesser_1 rfl rfl rfl ?_
  refine pv_icmp_ge (n := 5) (tgt := 9) d_M_lesser_2 (by decide) rfl (fun c1 => ?_) (fun c1 => ?_)
  · replace h := h.1 c1
    refine pv_iload_n (n := 10) d_M_lesser_9 rfl rfl rfl ?_
    exact pv_iret rfl rfl d_M_lesser_10 h
  · replace h := h.2 c1
    refine pv_iload_n (n := 6) d_M_lesser_5 rfl rfl rfl ?_
    refine pv_goto (tgt := 10) d_M_lesser_6 (by decide) ?_
    exact pv_iret rfl rfl d_M_lesser_10 h
set_option maxHeartbeats 4000000 in
set_option maxRecDepth 20000 in
theorem con_M_lesser {l : Launch} {g : pw_G} {Q : pw_W → Int32 → Prop} {X : pw_W → Nat → Prop} (hl0 : l.stackTraces = false) {w : pw_W} {a0 a1 : Int32} (h : wp_M_lesser w a0 a1 Q X) : pw_Con l g y_M_lesser cx_M_lesser [(0, a0), (0, a1)] w Q X :=
  pw_con (by decide +kernel) rfl rfl hl0 rfl (Nat.le_of_ble_eq_true rfl) (by simp) (vw_M_lesser hl0 h)
theorem d_M_isField_0 : decode (pw_cc cx_M_isField) 0 = .ok (.iload_n 0, 1) := by decide +kernel
theorem d_M_isField_1 : decode (pw_cc cx_M_isField) 1 = .ok (.bipush 10, 2) := by decide +kernel
theorem d_M_isField_3 : decode (pw_cc cx_M_isField) 3 = .ok (.irem, 1) := by decide +kernel
theorem d_M_isField_4 : decode (pw_cc cx_M_isField) 4 = .ok (.iload_n 1, 1) := by decide +kernel
theorem d_M_isField_5 : decode (pw_cc cx_M_isField) 5 = .ok (.bipush 10, 2) := by decide +kernel
theorem d_M_isField_7 : decode (pw_cc cx_M_isField) 7 = .ok (.irem, 1) := by decide +kernel
theorem d_M_isField_8 : decode (pw_cc cx_M_isField) 8 = .ok (.if_icmp .gt 18, 3) := by decide +kernel
theorem d_M_isField_11 : decode (pw_cc cx_M_isField) 11 = .ok (.iload_n 0, 1) := by decide +kernel
theorem d_M_isField_12 : decode (pw_cc cx_M_isField) 12 = .ok (.bipush 10, 2) := by decide +kernel
theorem d_M_isField_14 : decode (pw_cc cx_M_isField) 14 = .ok (.idiv, 1) := by decide +kernel
theorem d_M_isField_15 : decode (pw_cc cx_M_isField) 15 = .ok (.iload_n 1, 1) := by decide +kernel
theorem d_M_isField_16 : decode (pw_cc cx_M_isField) 16 = .ok (.bipush 10, 2) := by decide +kernel
theorem d_M_isField_18 : decode (pw_cc cx_M_isField) 18 = .ok (.idiv, 1) := by decide +kernel
theorem d_M_isField_19 : decode (pw_cc cx_M_isField) 19 = .ok (.if_icmp .gt 7, 3) := by decide +kernel
theorem d_M_isField_22 : decode (pw_cc cx_M_isField) 22 = .ok (.iconst 1, 1) := by decide +kernel
theorem d_M_isField_23 : decode (pw_cc cx_M_isField) 23 = .ok (.goto 4, 3) := by decide +kernel
theorem d_M_isField_26 : decode (pw_cc cx_M_isField) 26 = .ok (.iconst 0, 1) := by decide +kernel
theorem d_M_isField_27 : decode (pw_cc cx_M_isField) 27 = .ok (.ireturn, 1) := by decide +kernel
set_option maxHeartbeats 4000000 in
set_option maxRecDepth 20000 in
def wp_M_isField (w : pw_W) (a0 a1 : Int32) (Q : pw_W → Int32 → Prop) (X : pw_W → Nat → Prop) : Prop := ((a1 - a1 / 10 * 10) < (a0 - a0 / 10 * 10) → Q w 0) ∧ (¬ (a1 - a1 / 10 * 10) < (a0 - a0 / 10 * 10) → ((a1 / 10) < (a0 / 10) → Q w 0) ∧ (¬ (a1 / 10) < (a0 / 10) → Q w 1))
set_option maxHeartbeats 4000000 in
set_option maxRecDepth 20000 in
theorem vw_M_isField {l : Launch} {g : pw_G} {Q : pw_W → Int32 → Prop} {X : pw_W → Nat → Prop} (hl0 : l.stackTraces = false) {w : pw_W} {a0 a1 : Int32} (h : wp_M_isField w a0 a1 Q X) : pw_V l g cx_M_isField Q X 0 [(0, a0), (0, a1)] [] w := by
  unfold wp_M_isField at h
  refine pv_iload_n (n := 1) d_M_isField_0 rfl rfl rfl ?_
  refine pv_bipush (v := 10) (n := 3) d_M_isField_1 (by decide) rfl ?_
  refine pv_irem (n := 4) d_M_isField_3 (by decide) rfl ?_
  refine pv_iload_n (n := 5) d_M_isField_4 rfl rfl rfl ?_
  refine pv_bipush (v := 10) (n := 7) d_M_isField_5 (by decide) rfl ?_
  refine pv_irem (n := 8) d_M_isField_7 (by decide) rfl ?_
  refine pv_icmp_gt (n := 11) (tgt := 26) d_M_isField_8 (by decide) rfl (fun c1 => ?_) (fun c1 => ?_)
  · replace h := h.1 c1
    refine pv_iconst (v := 0) (n := 27) d_M_isField_26 (by decide) rfl ?_
    exact pv_zret rfl rfl d_M_isField_27 (by decide) h
  · replace h := h.2 c1
    refine pv_iload_n (n := 12) d_M_isField_11 rfl rfl rfl ?_
    refine pv_bipush (v := 10) (n := 14) d_M_isField_12 (by decide) rfl ?_
    refine pv_idiv (n := 15) d_M_isField_14 (by decide) rfl ?_
    refine pv_iload_n (n := 16) d_M_isField_15 rfl rfl rfl ?_
    refine pv_bipush (v := 10) (n := 18) d_M_isField_16 (by decide) rfl ?_
    refine pv_idiv (n := 19) d_M_isField_18 (by decide) rfl ?_
    refine pv_icmp_gt (n := 22) (tgt := 26) d_M_isField_19 (by decide) rfl (fun c2 => ?_) (fun c2 => ?_)
    · replace h := h.1 c2
      refine pv_iconst (v := 0) (n := 27) d_M_isField_26 (by decide) rfl ?_
      exact pv_zret rfl rfl d_M_isField_27 (by decide) h
    · replace h := h.2 c2
      refine pv_iconst (v := 1) (n := 23) d_M_isField_22 (by decide) rfl ?_
      refine pv_goto (tgt := 27) d_M_isField_23 (by decide) ?_
      exact pv_zret rfl rfl d_M_isField_27 (by decide) h
set_option maxHeartbeats 4000000 in
set_option maxRecDepth 20000 in
theorem con_M_isField {l : Launch} {g : pw_G} {Q : pw_W → Int32 → Prop} {X : pw_W → Nat → Prop} (hl0 : l.stackTraces = false) {w : pw_W} {a0 a1 : Int32} (h : wp_M_isField w a0 a1 Q X) : pw_Con l g y_M_isField cx_M_isField [(0, a0), (0, a1)] w Q X :=
  pw_con (by decide +kernel) rfl rfl hl0 rfl (Nat.le_of_ble_eq_true rfl) (by simp) (vw_M_isField hl0 h)
theorem d_M_isInField_0 : decode (pw_cc cx_M_isInField) 0 = .ok (.iload_n 0, 1) := by decide +kernel
theorem d_M_isInField_1 : decode (pw_cc cx_M_isInField) 1 = .ok (.bipush 10, 2) := by decide +kernel
theorem d_M_isInField_3 : decode (pw_cc cx_M_isInField) 3 = .ok (.irem, 1) := by decide +kernel
theorem d_M_isInField_4 : decode (pw_cc cx_M_isInField) 4 = .ok (.iload_n 1, 1) := by decide +kernel
theorem d_M_isInField_5 : decode (pw_cc cx_M_isInField) 5 = .ok (.bipush 10, 2) := by decide +kernel
theorem d_M_isInField_7 : decode (pw_cc cx_M_isInField) 7 = .ok (.irem, 1) := by decide +kernel
theorem d_M_isInField_8 : decode (pw_cc cx_M_isInField) 8 = .ok (.iload_n 2, 1) := by decide +kernel
theorem d_M_isInField_9 : decode (pw_cc cx_M_isInField) 9 = .ok (.bipush 10, 2) := by decide +kernel
theorem d_M_isInField_11 : decode (pw_cc cx_M_isInField) 11 = .ok (.irem, 1) := by decide +kernel
theorem d_M_isInField_12 : decode (pw_cc cx_M_isInField) 12 = .ok (.invokestatic 124, 3) := by decide +kernel
theorem d_M_isInField_15 : decode (pw_cc cx_M_isInField) 15 = .ok (.ifCond .eq 25, 3) := by decide +kernel
theorem d_M_isInField_18 : decode (pw_cc cx_M_isInField) 18 = .ok (.iload_n 0, 1) := by decide +kernel
theorem d_M_isInField_19 : decode (pw_cc cx_M_isInField) 19 = .ok (.bipush 10, 2) := by decide +kernel
theorem d_M_isInField_21 : decode (pw_cc cx_M_isInField) 21 = .ok (.idiv, 1) := by decide +kernel
theorem d_M_isInField_22 : decode (pw_cc cx_M_isInField) 22 = .ok (.iload_n 1, 1) := by decide +kernel
theorem d_M_isInField_23 : decode (pw_cc cx_M_isInField) 23 = .ok (.bipush 10, 2) := by decide +kernel
theorem d_M_isInField_25 : decode (pw_cc cx_M_isInField) 25 = .ok (.idiv, 1) := by decide +kernel
theorem d_M_isInField_26 : decode (pw_cc cx_M_isInField) 26 = .ok (.iload_n 2, 1) := by decide +kernel
theorem d_M_isInField_27 : decode (pw_cc cx_M_isInField) 27 = .ok (.bipush 10, 2) := by decide +kernel
theorem d_M_isInField_29 : decode (pw_cc cx_M_isInField) 29 = .ok (.idiv, 1) := by decide +kernel
theorem d_M_isInField_30 : decode (pw_cc cx_M_isInField) 30 = .ok (.invokestatic 124, 3) := by decide +kernel
theorem d_M_isInField_33 : decode (pw_cc cx_M_isInField) 33 = .ok (.ifCond .eq 7, 3) := by decide +kernel
theorem d_M_isInField_36 : decode (pw_cc cx_M_isInField) 36 = .ok (.iconst 1, 1) := by decide +kernel
theorem d_M_isInField_37 : decode (pw_cc cx_M_isInField) 37 = .ok (.goto 4, 3) := by decide +kernel
theorem d_M_isInField_40 : decode (pw_cc cx_M_isInField) 40 = .ok (.iconst 0, 1) := by decide +kernel
theorem d_M_isInField_41 : decode (pw_cc cx_M_isInField) 41 = .ok (.ireturn, 1) := by decide +kernel
set_option maxHeartbeats 4000000 in
set_option maxRecDepth 20000 in
def wp_M_isInField (w : pw_W) (a0 a1 a2 : Int32) (Q : pw_W → Int32 → Prop) (X : pw_W → Nat → Prop) : Prop := wp_M_isIn w (a0 - a0 / 10 * 10) (a1 - a1 / 10 * 10) (a2 - a2 / 10 * 10) (fun w1 r2 => (r2 = 0 → Q w1 0) ∧ (¬ r2 = 0 → wp_M_isIn w1 (a0 / 10) (a1 / 10) (a2 / 10) (fun w4 r5 => (r5 = 0 → Q w4 0) ∧ (¬ r5 = 0 → Q w4 1)) (fun _ _ => False))) (fun _ _ => False)
set_option maxHeartbeats 4000000 in
set_option maxRecDepth 20000 in
theorem vw_M_isInField {l : Launch} {g : pw_G} {Q : pw_W → Int32 → Prop} {X : pw_W → Nat → Prop} (hl0 : l.stackTraces = false) {w : pw_W} {a0 a1 a2 : Int32} (h : wp_M_isInField w a0 a1 a2 Q X) : pw_V l g cx_M_isInField Q X 0 [(0, a0), (0, a1), (0, a2)] [] w := by
  unfold wp_M_isInField at h
  refine pv_iload_n (n := 1) d_M_isInField_0 rfl rfl rfl ?_
  refine pv_bipush (v := 10) (n := 3) d_M_isInField_1 (by decide) rfl ?_
  refine pv_irem (n := 4) d_M_isInField_3 (by decide) rfl ?_
  refine pv_iload_n (n := 5) d_M_isInField_4 rfl rfl rfl ?_
  refine pv_bipush (v := 10) (n := 7) d_M_isInField_5 (by decide) rfl ?_
  refine pv_irem (n := 8) d_M_isInField_7 (by decide) rfl ?_
  refine pv_iload_n (n := 9) d_M_isInField_8 rfl rfl rfl ?_
  refine pv_bipush (v := 10) (n := 11) d_M_isInField_9 (by decide) rfl ?_
  refine pv_irem (n := 12) d_M_isInField_11 (by decide) rfl ?_
  refine pv_callS (n := 15) [(0, (a0 - a0 / 10 * 10)), (0, (a1 - a1 / 10 * 10)), (0, (a2 - a2 / 10 * 10))] [] (con_M_isIn hl0 h) q_459 q_460 q_458 q_457 pyo_M_isIn (by decide) rfl rfl d_M_isInField_12 rfl (fun w1 r2 h _ => ?_) (fun _ _ h => h.elim)
  show pw_V l g cx_M_isInField Q X 15 [(0, a0), (0, a1), (0, a2)] [(0, r2)] w1
  refine pv_if_eq (n := 18) (tgt := 40) d_M_isInField_15 (by decide) rfl (fun c3 => ?_) (fun c3 => ?_)
  · replace h := h.1 c3
    refine pv_iconst (v := 0) (n := 41) d_M_isInField_40 (by decide) rfl ?_
    exact pv_zret rfl rfl d_M_isInField_41 (by decide) h
  · replace h := h.2 c3
    refine pv_iload_n (n := 19) d_M_isInField_18 rfl rfl rfl ?_
    refine pv_bipush (v := 10) (n := 21) d_M_isInField_19 (by decide) rfl ?_
    refine pv_idiv (n := 22) d_M_isInField_21 (by decide) rfl ?_
    refine pv_iload_n (n := 23) d_M_isInField_22 rfl rfl rfl ?_
    refine pv_bipush (v := 10) (n := 25) d_M_isInField_23 (by decide) rfl ?_
    refine pv_idiv (n := 26) d_M_isInField_25 (by decide) rfl ?_
    refine pv_iload_n (n := 27) d_M_isInField_26 rfl rfl rfl ?_
    refine pv_bipush (v := 10) (n := 29) d_M_isInField_27 (by decide) rfl ?_
    refine pv_idiv (n := 30) d_M_isInField_29 (by decide) rfl ?_
    refine pv_callS (n := 33) [(0, (a0 / 10)), (0, (a1 / 10)), (0, (a2 / 10))] [] (con_M_isIn hl0 h) q_459 q_460 q_458 q_457 pyo_M_isIn (by decide) rfl rfl d_M_isInField_30 rfl (fun w4 r5 h _ => ?_) (fun _ _ h => h.elim)
    show pw_V l g cx_M_isInField Q X 33 [(0, a0), (0, a1), (0, a2)] [(0, r5)] w4
    refine pv_if_eq (n := 36) (tgt := 40) d_M_isInField_33 (by decide) rfl (fun c6 => ?_) (fun c6 => ?_)
    · replace h := h.1 c6
      refine pv_iconst (v := 0) (n := 41) d_M_isInField_40 (by decide) rfl ?_
      exact pv_zret rfl rfl d_M_isInField_41 (by decide) h
    · replace h := h.2 c6
      refine pv_iconst (v := 1) (n := 37) d_M_isInField_36 (by decide) rfl ?_
      refine pv_goto (tgt := 41) d_M_isInField_37 (by decide) ?_
      exact pv_zret rfl rfl d_M_isInField_41 (by decide) h
set_option maxHeartbeats 4000000 in
set_option maxRecDepth 20000 in
theorem con_M_isInField {l : Launch} {g : pw_G} {Q : pw_W → Int32 → Prop} {X : pw_W → Nat → Prop} (hl0 : l.stackTraces = false) {w : pw_W} {a0 a1 a2 : Int32} (h : wp_M_isInField w a0 a1 a2 Q X) : pw_Con l g y_M_isInField cx_M_isInField [(0, a0), (0, a1), (0, a2)] w Q X :=
  pw_con (by decide +kernel) rfl rfl hl0 rfl (Nat.le_of_ble_eq_true rfl) (by simp) (vw_M_isInField hl0 h)
theorem d_M_now_0 : decode (pw_cc cx_M_now) 0 = .ok (.iload_n 1, 1) := by decide +kernel
theorem d_M_now_1 : decode (pw_cc cx_M_now) 1 = .ok (.istore_n 2, 1) := by decide +kernel
theorem d_M_now_2 : decode (pw_cc cx_M_now) 2 = .ok (.aload_n 0, 1) := by decide +kernel
theorem d_M_now_3 : decode (pw_cc cx_M_now) 3 = .ok (.getfield 43, 3) := by decide +kernel
theorem d_M_now_6 : decode (pw_cc cx_M_now) 6 = .ok (.iload_n 2, 1) := by decide +kernel
theorem d_M_now_7 : decode (pw_cc cx_M_now) 7 = .ok (.iaload, 1) := by decide +kernel
theorem d_M_now_8 : decode (pw_cc cx_M_now) 8 = .ok (.iconst (-1), 1) := by decide +kernel
theorem d_M_now_9 : decode (pw_cc cx_M_now) 9 = .ok (.if_icmp .eq 13, 3) := by decide +kernel
theorem d_M_now_12 : decode (pw_cc cx_M_now) 12 = .ok (.aload_n 0, 1) := by decide +kernel
theorem d_M_now_13 : decode (pw_cc cx_M_now) 13 = .ok (.getfield 43, 3) := by decide +kernel
theorem d_M_now_16 : decode (pw_cc cx_M_now) 16 = .ok (.iload_n 2, 1) := by decide +kernel
theorem d_M_now_17 : decode (pw_cc cx_M_now) 17 = .ok (.iaload, 1) := by decide +kernel
theorem d_M_now_18 : decode (pw_cc cx_M_now) 18 = .ok (.istore_n 2, 1) := by decide +kernel
theorem d_M_now_19 : decode (pw_cc cx_M_now) 19 = .ok (.goto (-17), 3) := by decide +kernel
theorem d_M_now_22 : decode (pw_cc cx_M_now) 22 = .ok (.iload_n 2, 1) := by decide +kernel
theorem d_M_now_23 : decode (pw_cc cx_M_now) 23 = .ok (.ireturn, 1) := by decide +kernel
set_option maxHeartbeats 4000000 in
set_option maxRecDepth 20000 in
def lp_M_now_2 (Q : pw_W → Int32 → Prop) (X : pw_W → Nat → Prop) : Nat → Int32 → pw_W → Prop := fun k => Nat.rec (motive := fun _ => Int32 → pw_W → Prop) (fun _ _ => False) (fun _ ih a2 w => w.1 8 0 17 = 0 ∧ pw_jn a2 (pw_ln w 217 0) ∧ ((w.1 217 0 (pw_i a2)) = (-1) → Q w a2) ∧ (¬ (w.1 217 0 (pw_i a2)) = (-1) → w.1 8 0 17 = 0 ∧ pw_jn a2 (pw_ln w 217 0) ∧ ∀ v6, v6 = (w.1 217 0 (pw_i a2)) → ih v6 w)) k
set_option maxHeartbeats 4000000 in
set_option maxRecDepth 20000 in
theorem lp_M_now_2_s {Q : pw_W → Int32 → Prop} {X : pw_W → Nat → Prop}  {k : Nat} {a2 : Int32} {w : pw_W} : lp_M_now_2 Q X (k + 1) a2 w = (let ih := lp_M_now_2 Q X k; w.1 8 0 17 = 0 ∧ pw_jn a2 (pw_ln w 217 0) ∧ ((w.1 217 0 (pw_i a2)) = (-1) → Q w a2) ∧ (¬ (w.1 217 0 (pw_i a2)) = (-1) → w.1 8 0 17 = 0 ∧ pw_jn a2 (pw_ln w 217 0) ∧ ∀ v6, v6 = (w.1 217 0 (pw_i a2)) → ih v6 w)) := rfl
set_option maxHeartbeats 4000000 in
set_option maxRecDepth 20000 in
theorem vlp_M_now_2 {l : Launch} {g : pw_G} {Q : pw_W → Int32 → Prop} {X : pw_W → Nat → Prop} (hl0 : l.stackTraces = false) : ∀ (k : Nat) (a2 : Int32) (w : pw_W), lp_M_now_2 Q X k a2 w → pw_V l g cx_M_now Q X 2 [(10, 0), (1, 0), (0, a2)] [] w := by
  intro k; induction k with
  | zero => intro _ _ h; exact h.elim
  | succ k ih =>
    intro a2 w h
    rw [lp_M_now_2_s] at h
    refine pv_aload_n (n := 3) d_M_now_2 rfl rfl rfl ?_
    obtain ⟨g1, h⟩ := h
    refine gt_M_43 (n := 6) rfl d_M_now_3 (by decide) g1 rfl ?_
    refine pv_iload_n (n := 7) d_M_now_6 rfl rfl rfl ?_
    obtain ⟨g2, h⟩ := h
    refine pv_iald (n := 8) (f := 217) (by decide) rfl d_M_now_7 (by decide) g2 rfl ?_
    refine pv_iconst (v := -1) (n := 9) d_M_now_8 (by decide) rfl ?_
    refine pv_icmp_eq (n := 12) (tgt := 22) d_M_now_9 (by decide) rfl (fun c3 => ?_) (fun c3 => ?_)
    · replace h := h.1 c3
      refine pv_iload_n (n := 23) d_M_now_22 rfl rfl rfl ?_
      exact pv_iret rfl rfl d_M_now_23 h
    · replace h := h.2 c3
      refine pv_aload_n (n := 13) d_M_now_12 rfl rfl rfl ?_
      obtain ⟨g4, h⟩ := h
      refine gt_M_43 (n := 16) rfl d_M_now_13 (by decide) g4 rfl ?_
      refine pv_iload_n (n := 17) d_M_now_16 rfl rfl rfl ?_
      obtain ⟨g5, h⟩ := h
      refine pv_iald (n := 18) (f := 217) (by decide) rfl d_M_now_17 (by decide) g5 rfl ?_
      refine pv_nm (fun v6 e7 => ?_)
      replace h := h v6 e7
      refine pv_istore_n (n := 19) (L' := [(10, 0), (1, 0), (0, v6)]) d_M_now_18 rfl (by decide) rfl rfl ?_
      refine pv_goto (tgt := 2) d_M_now_19 (by decide) ?_
      exact ih _ _ h
set_option maxHeartbeats 4000000 in
set_option maxRecDepth 20000 in
def wp_M_now (w : pw_W) (a1 : Int32) (Q : pw_W → Int32 → Prop) (X : pw_W → Nat → Prop) : Prop := ∃ k8, lp_M_now_2 Q X k8 a1 w
set_option maxHeartbeats 4000000 in
set_option maxRecDepth 20000 in
theorem vw_M_now {l : Launch} {g : pw_G} {Q : pw_W → Int32 → Prop} {X : pw_W → Nat → Prop} (hl0 : l.stackTraces = false) {w : pw_W} {a1 : Int32} (h : wp_M_now w a1 Q X) : pw_V l g cx_M_now Q X 0 [(10, 0), (0, a1), (1, 0)] [] w := by
  unfold wp_M_now at h
  refine pv_iload_n (n := 1) d_M_now_0 rfl rfl rfl ?_
  refine pv_istore_n (n := 2) (L' := [(10, 0), (0, a1), (0, a1)]) d_M_now_1 rfl (by decide) rfl rfl ?_
  refine pv_unset (i := 1) (L1 := [(10, 0), (1, 0), (0, a1)]) rfl ?_
  obtain ⟨k8, h⟩ := h
  exact vlp_M_now_2 hl0 _ _ _ h
set_option maxHeartbeats 4000000 in
set_option maxRecDepth 20000 in
theorem con_M_now {l : Launch} {g : pw_G} {Q : pw_W → Int32 → Prop} {X : pw_W → Nat → Prop} (hl0 : l.stackTraces = false) {w : pw_W} {a1 : Int32} (h : wp_M_now w a1 Q X) : pw_Con l g y_M_now cx_M_now [(10, 0), (0, a1)] w Q X :=
  pw_con (by decide +kernel) rfl rfl hl0 rfl (Nat.le_of_ble_eq_true rfl) (by simp) (vw_M_now hl0 h)
theorem d_M_areaOf_0 : decode (pw_cc cx_M_areaOf) 0 = .ok (.iconst 0, 1) := by decide +kernel
theorem d_M_areaOf_1 : decode (pw_cc cx_M_areaOf) 1 = .ok (.istore_n 2, 1) := by decide +kernel
theorem d_M_areaOf_2 : decode (pw_cc cx_M_areaOf) 2 = .ok (.iconst 0, 1) := by decide +kernel
theorem d_M_areaOf_3 : decode (pw_cc cx_M_areaOf) 3 = .ok (.istore_n 3, 1) := by decide +kernel
theorem d_M_areaOf_4 : decode (pw_cc cx_M_areaOf) 4 = .ok (.iload_n 3, 1) := by decide +kernel
theorem d_M_areaOf_5 : decode (pw_cc cx_M_areaOf) 5 = .ok (.bipush 100, 2) := by decide +kernel
theorem d_M_areaOf_7 : decode (pw_cc cx_M_areaOf) 7 = .ok (.if_icmp .ge 27, 3) := by decide +kernel
theorem d_M_areaOf_10 : decode (pw_cc cx_M_areaOf) 10 = .ok (.iload_n 2, 1) := by decide +kernel
theorem d_M_areaOf_11 : decode (pw_cc cx_M_areaOf) 11 = .ok (.aload_n 0, 1) := by decide +kernel
theorem d_M_areaOf_12 : decode (pw_cc cx_M_areaOf) 12 = .ok (.getfield 16, 3) := by decide +kernel
theorem d_M_areaOf_15 : decode (pw_cc cx_M_areaOf) 15 = .ok (.iload_n 3, 1) := by decide +kernel
theorem d_M_areaOf_16 : decode (pw_cc cx_M_areaOf) 16 = .ok (.iaload, 1) := by decide +kernel
theorem d_M_areaOf_17 : decode (pw_cc cx_M_areaOf) 17 = .ok (.iload_n 1, 1) := by decide +kernel
theorem d_M_areaOf_18 : decode (pw_cc cx_M_areaOf) 18 = .ok (.if_icmp .ne 7, 3) := by decide +kernel
theorem d_M_areaOf_21 : decode (pw_cc cx_M_areaOf) 21 = .ok (.iconst 1, 1) := by decide +kernel
theorem d_M_areaOf_22 : decode (pw_cc cx_M_areaOf) 22 = .ok (.goto 4, 3) := by decide +kernel
theorem d_M_areaOf_25 : decode (pw_cc cx_M_areaOf) 25 = .ok (.iconst 0, 1) := by decide +kernel
theorem d_M_areaOf_26 : decode (pw_cc cx_M_areaOf) 26 = .ok (.iadd, 1) := by decide +kernel
theorem d_M_areaOf_27 : decode (pw_cc cx_M_areaOf) 27 = .ok (.istore_n 2, 1) := by decide +kernel
theorem d_M_areaOf_28 : decode (pw_cc cx_M_areaOf) 28 = .ok (.iinc 3 1, 3) := by decide +kernel
theorem d_M_areaOf_31 : decode (pw_cc cx_M_areaOf) 31 = .ok (.goto (-27), 3) := by decide +kernel
theorem d_M_areaOf_34 : decode (pw_cc cx_M_areaOf) 34 = .ok (.iload_n 2, 1) := by decide +kernel
theorem d_M_areaOf_35 : decode (pw_cc cx_M_areaOf) 35 = .ok (.ireturn, 1) := by decide +kernel
set_option maxHeartbeats 4000000 in
set_option maxRecDepth 20000 in
def lp_M_areaOf_4 (Q : pw_W → Int32 → Prop) (X : pw_W → Nat → Prop) : Nat → Int32 → Int32 → Int32 → pw_W → Prop := fun k => Nat.rec (motive := fun _ => Int32 → Int32 → Int32 → pw_W → Prop) (fun _ _ _ _ => False) (fun _ ih a1 a2 a3 w => ((100 : Int32) ≤ a3 → Q w a2) ∧ (¬ (100 : Int32) ≤ a3 → w.1 8 0 8 = 0 ∧ pw_jn a3 (pw_ln w 208 0) ∧ (¬ (w.1 208 0 (pw_i a3)) = a1 → ∀ v5, v5 = (a2 + 0) → ih a1 v5 (a3 + 1) w) ∧ ((w.1 208 0 (pw_i a3)) = a1 → ∀ v7, v7 = (a2 + 1) → ih a1 v7 (a3 + 1) w))) k
set_option maxHeartbeats 4000000 in
set_option maxRecDepth 20000 in
theorem lp_M_areaOf_4_s {Q : pw_W → Int32 → Prop} {X : pw_W → Nat → Prop}  {k : Nat} {a1 a2 a3 : Int32} {w : pw_W} : lp_M_areaOf_4 Q X (k + 1) a1 a2 a3 w = (let ih := lp_M_areaOf_4 Q X k; ((100 : Int32) ≤ a3 → Q w a2) ∧ (¬ (100 : Int32) ≤ a3 → w.1 8 0 8 = 0 ∧ pw_jn a3 (pw_ln w 208 0) ∧ (¬ (w.1 208 0 (pw_i a3)) = a1 → ∀ v5, v5 = (a2 + 0) → ih a1 v5 (a3 + 1) w) ∧ ((w.1 208 0 (pw_i a3)) = a1 → ∀ v7, v7 = (a2 + 1) → ih a1 v7 (a3 + 1) w))) := rfl
set_option maxHeartbeats 4000000 in
set_option maxRecDepth 20000 in
theorem vlp_M_areaOf_4 {l : Launch} {g : pw_G} {Q : pw_W → Int32 → Prop} {X : pw_W → Nat → Prop} (hl0 : l.stackTraces = false) : ∀ (k : Nat) (a1 a2 a3 : Int32) (w : pw_W), lp_M_areaOf_4 Q X k a1 a2 a3 w → pw_V l g cx_M_areaOf Q X 4 [(10, 0), (0, a1), (0, a2), (0, a3)] [] w := by
  intro k; induction k with
  | zero => intro _ _ _ _ h; exact h.elim
  | succ k ih =>
    intro a1 a2 a3 w h
    rw [lp_M_areaOf_4_s] at h
    refine pv_iload_n (n := 5) d_M_areaOf_4 rfl rfl rfl ?_
    refine pv_bipush (v := 100) (n := 7) d_M_areaOf_5 (by decide) rfl ?_
    refine pv_icmp_ge (n := 10) (tgt := 34) d_M_areaOf_7 (by decide) rfl (fun c1 => ?_) (fun c1 => ?_)
    · replace h := h.1 c1
      refine pv_iload_n (n := 35) d_M_areaOf_34 rfl rfl rfl ?_
      exact pv_iret rfl rfl d_M_areaOf_35 h
    · replace h := h.2 c1
      refine pv_iload_n (n := 11) d_M_areaOf_10 rfl rfl rfl ?_
      refine pv_aload_n (n := 12) d_M_areaOf_11 rfl rfl rfl ?_
      obtain ⟨g2, h⟩ := h
      refine gt_M_16 (n := 15) rfl d_M_areaOf_12 (by decide) g2 rfl ?_
      refine pv_iload_n (n := 16) d_M_areaOf_15 rfl rfl rfl ?_
      obtain ⟨g3, h⟩ := h
      refine pv_iald (n := 17) (f := 208) (by decide) rfl d_M_areaOf_16 (by decide) g3 rfl ?_
      refine pv_iload_n (n := 18) d_M_areaOf_17 rfl rfl rfl ?_
      refine pv_icmp_ne (n := 21) (tgt := 25) d_M_areaOf_18 (by decide) rfl (fun c4 => ?_) (fun c4 => ?_)
      · replace h := h.1 c4
        refine pv_iconst (v := 0) (n := 26) d_M_areaOf_25 (by decide) rfl ?_
        refine pv_iadd (n := 27) d_M_areaOf_26 rfl ?_
        refine pv_nm (fun v5 e6 => ?_)
        replace h := h v5 e6
        refine pv_istore_n (n := 28) (L' := [(10, 0), (0, a1), (0, v5), (0, a3)]) d_M_areaOf_27 rfl (by decide) rfl rfl ?_
        refine pv_iinc (v := (a3 + 1)) (n := 31) (L1 := [(10, 0), (0, a1), (0, v5), (0, (a3 + 1))]) d_M_areaOf_28 rfl rfl rfl (by decide) rfl ?_
        refine pv_goto (tgt := 4) d_M_areaOf_31 (by decide) ?_
        exact ih _ _ _ _ h
      · replace h := h.2 c4
        refine pv_iconst (v := 1) (n := 22) d_M_areaOf_21 (by decide) rfl ?_
        refine pv_goto (tgt := 26) d_M_areaOf_22 (by decide) ?_
        refine pv_iadd (n := 27) d_M_areaOf_26 rfl ?_
        refine pv_nm (fun v7 e8 => ?_)
        replace h := h v7 e8
        refine pv_istore_n (n := 28) (L' := [(10, 0), (0, a1), (0, v7), (0, a3)]) d_M_areaOf_27 rfl (by decide) rfl rfl ?_
        refine pv_iinc (v := (a3 + 1)) (n := 31) (L1 := [(10, 0), (0, a1), (0, v7), (0, (a3 + 1))]) d_M_areaOf_28 rfl rfl rfl (by decide) rfl ?_
        refine pv_goto (tgt := 4) d_M_areaOf_31 (by decide) ?_
        exact ih _ _ _ _ h
set_option maxHeartbeats 4000000 in
set_option maxRecDepth 20000 in
def wp_M_areaOf (w : pw_W) (a1 : Int32) (Q : pw_W → Int32 → Prop) (X : pw_W → Nat → Prop) : Prop := ∃ k9, lp_M_areaOf_4 Q X k9 a1 0 0 w
set_option maxHeartbeats 4000000 in
set_option maxRecDepth 20000 in
theorem vw_M_areaOf {l : Launch} {g : pw_G} {Q : pw_W → Int32 → Prop} {X : pw_W → Nat → Prop} (hl0 : l.stackTraces = false) {w : pw_W} {a1 : Int32} (h : wp_M_areaOf w a1 Q X) : pw_V l g cx_M_areaOf Q X 0 [(10, 0), (0, a1), (1, 0), (1, 0)] [] w := by
  unfold wp_M_areaOf at h
  refine pv_iconst (v := 0) (n := 1) d_M_areaOf_0 (by decide) rfl ?_
  refine pv_istore_n (n := 2) (L' := [(10, 0), (0, a1), (0, 0), (1, 0)]) d_M_areaOf_1 rfl (by decide) rfl rfl ?_
  refine pv_iconst (v := 0) (n := 3) d_M_areaOf_2 (by decide) rfl ?_
  refine pv_istore_n (n := 4) (L' := [(10, 0), (0, a1), (0, 0), (0, 0)]) d_M_areaOf_3 rfl (by decide) rfl rfl ?_
  obtain ⟨k9, h⟩ := h
  exact vlp_M_areaOf_4 hl0 _ _ _ _ _ h
set_option maxHeartbeats 4000000 in
set_option maxRecDepth 20000 in
theorem con_M_areaOf {l : Launch} {g : pw_G} {Q : pw_W → Int32 → Prop} {X : pw_W → Nat → Prop} (hl0 : l.stackTraces = false) {w : pw_W} {a1 : Int32} (h : wp_M_areaOf w a1 Q X) : pw_Con l g y_M_areaOf cx_M_areaOf [(10, 0), (0, a1)] w Q X :=
  pw_con (by decide +kernel) rfl rfl hl0 rfl (Nat.le_of_ble_eq_true rfl) (by simp) (vw_M_areaOf hl0 h)
theorem d_M_comes_0 : decode (pw_cc cx_M_comes) 0 = .ok (.aload_n 0, 1) := by decide +kernel
theorem d_M_comes_1 : decode (pw_cc cx_M_comes) 1 = .ok (.getfield 16, 3) := by decide +kernel
theorem d_M_comes_4 : decode (pw_cc cx_M_comes) 4 = .ok (.iload_n 1, 1) := by decide +kernel
theorem d_M_comes_5 : decode (pw_cc cx_M_comes) 5 = .ok (.iaload, 1) := by decide +kernel
theorem d_M_comes_6 : decode (pw_cc cx_M_comes) 6 = .ok (.iload_n 2, 1) := by decide +kernel
theorem d_M_comes_7 : decode (pw_cc cx_M_comes) 7 = .ok (.if_icmp .ne 5, 3) := by decide +kernel
theorem d_M_comes_10 : decode (pw_cc cx_M_comes) 10 = .ok (.iconst 0, 1) := by decide +kernel
theorem d_M_comes_11 : decode (pw_cc cx_M_comes) 11 = .ok (.ireturn, 1) := by decide +kernel
theorem d_M_comes_12 : decode (pw_cc cx_M_comes) 12 = .ok (.aload_n 0, 1) := by decide +kernel
theorem d_M_comes_13 : decode (pw_cc cx_M_comes) 13 = .ok (.getfield 16, 3) := by decide +kernel
theorem d_M_comes_16 : decode (pw_cc cx_M_comes) 16 = .ok (.iload_n 1, 1) := by decide +kernel
theorem d_M_comes_17 : decode (pw_cc cx_M_comes) 17 = .ok (.iload_n 2, 1) := by decide +kernel
theorem d_M_comes_18 : decode (pw_cc cx_M_comes) 18 = .ok (.iastore, 1) := by decide +kernel
theorem d_M_comes_19 : decode (pw_cc cx_M_comes) 19 = .ok (.aload_n 0, 1) := by decide +kernel
theorem d_M_comes_20 : decode (pw_cc cx_M_comes) 20 = .ok (.getfield 37, 3) := by decide +kernel
theorem d_M_comes_23 : decode (pw_cc cx_M_comes) 23 = .ok (.sipush 250, 3) := by decide +kernel
theorem d_M_comes_26 : decode (pw_cc cx_M_comes) 26 = .ok (.iload_n 1, 1) := by decide +kernel
theorem d_M_comes_27 : decode (pw_cc cx_M_comes) 27 = .ok (.imul, 1) := by decide +kernel
theorem d_M_comes_28 : decode (pw_cc cx_M_comes) 28 = .ok (.aload_n 0, 1) := by decide +kernel
theorem d_M_comes_29 : decode (pw_cc cx_M_comes) 29 = .ok (.getfield 34, 3) := by decide +kernel
theorem d_M_comes_32 : decode (pw_cc cx_M_comes) 32 = .ok (.iload_n 1, 1) := by decide +kernel
theorem d_M_comes_33 : decode (pw_cc cx_M_comes) 33 = .ok (.iaload, 1) := by decide +kernel
theorem d_M_comes_34 : decode (pw_cc cx_M_comes) 34 = .ok (.iadd, 1) := by decide +kernel
theorem d_M_comes_35 : decode (pw_cc cx_M_comes) 35 = .ok (.iload_n 2, 1) := by decide +kernel
theorem d_M_comes_36 : decode (pw_cc cx_M_comes) 36 = .ok (.iastore, 1) := by decide +kernel
theorem d_M_comes_37 : decode (pw_cc cx_M_comes) 37 = .ok (.aload_n 0, 1) := by decide +kernel
theorem d_M_comes_38 : decode (pw_cc cx_M_comes) 38 = .ok (.getfield 34, 3) := by decide +kernel
theorem d_M_comes_41 : decode (pw_cc cx_M_comes) 41 = .ok (.iload_n 1, 1) := by decide +kernel
theorem d_M_comes_42 : decode (pw_cc cx_M_comes) 42 = .ok (.dup2, 1) := by decide +kernel
theorem d_M_comes_43 : decode (pw_cc cx_M_comes) 43 = .ok (.iaload, 1) := by decide +kernel
theorem d_M_comes_44 : decode (pw_cc cx_M_comes) 44 = .ok (.aload_n 0, 1) := by decide +kernel
theorem d_M_comes_45 : decode (pw_cc cx_M_comes) 45 = .ok (.getfield 34, 3) := by decide +kernel
theorem d_M_comes_48 : decode (pw_cc cx_M_comes) 48 = .ok (.iload_n 1, 1) := by decide +kernel
theorem d_M_comes_49 : decode (pw_cc cx_M_comes) 49 = .ok (.iaload, 1) := by decide +kernel
theorem d_M_comes_50 : decode (pw_cc cx_M_comes) 50 = .ok (.sipush 249, 3) := by decide +kernel
theorem d_M_comes_53 : decode (pw_cc cx_M_comes) 53 = .ok (.if_icmp .ge 7, 3) := by decide +kernel
theorem d_M_comes_56 : decode (pw_cc cx_M_comes) 56 = .ok (.iconst 1, 1) := by decide +kernel
theorem d_M_comes_57 : decode (pw_cc cx_M_comes) 57 = .ok (.goto 4, 3) := by decide +kernel
theorem d_M_comes_60 : decode (pw_cc cx_M_comes) 60 = .ok (.iconst 0, 1) := by decide +kernel
theorem d_M_comes_61 : decode (pw_cc cx_M_comes) 61 = .ok (.iadd, 1) := by decide +kernel
theorem d_M_comes_62 : decode (pw_cc cx_M_comes) 62 = .ok (.iastore, 1) := by decide +kernel
theorem d_M_comes_63 : decode (pw_cc cx_M_comes) 63 = .ok (.iconst 1, 1) := by decide +kernel
theorem d_M_comes_64 : decode (pw_cc cx_M_comes) 64 = .ok (.ireturn, 1) := by decide +kernel
set_option maxHeartbeats 4000000 in
set_option maxRecDepth 20000 in
def jp_M_comes_61 (Q : pw_W → Int32 → Prop) (X : pw_W → Nat → Prop) (s0 s1 s2 : Int32) (w : pw_W) : Prop := pw_jn s2 (pw_ln w 214 0) ∧ ∀ w2, w2 = pw_ps w 214 0 (pw_i s2) (s1 + s0) → Q w2 1
set_option maxHeartbeats 4000000 in
set_option maxRecDepth 20000 in
theorem vjp_M_comes_61 {l : Launch} {g : pw_G} {Q : pw_W → Int32 → Prop} {X : pw_W → Nat → Prop} (hl0 : l.stackTraces = false) (s0 s1 s2 : Int32) (w : pw_W) (h : jp_M_comes_61 Q X s0 s1 s2 w) : pw_V l g cx_M_comes Q X 61 [(1, 0), (1, 0), (1, 0)] [(0, s0), (0, s1), (0, s2), (216, 0)] w := by
  unfold jp_M_comes_61 at h
  refine pv_iadd (n := 62) d_M_comes_61 rfl ?_
  obtain ⟨g1, h⟩ := h
  refine pv_iast1 (n := 63) (f := 214) (by decide) rfl (fun _ => rfl) d_M_comes_62 (by decide) g1 rfl (fun w2 e3 => ?_)
  replace h := h w2 e3
  refine pv_iconst (v := 1) (n := 64) d_M_comes_63 (by decide) rfl ?_
  exact pv_iret rfl rfl d_M_comes_64 h
set_option maxHeartbeats 4000000 in
set_option maxRecDepth 20000 in
def wp_M_comes (w : pw_W) (a1 a2 : Int32) (Q : pw_W → Int32 → Prop) (X : pw_W → Nat → Prop) : Prop := w.1 8 0 8 = 0 ∧ pw_jn a1 (pw_ln w 208 0) ∧ (¬ (w.1 208 0 (pw_i a1)) = a2 → w.1 8 0 8 = 0 ∧ pw_jn a1 (pw_ln w 208 0) ∧ ∀ w9, w9 = pw_ps w 208 0 (pw_i a1) a2 → w9.1 8 0 15 = 0 ∧ w9.1 8 0 14 = 0 ∧ pw_jn a1 (pw_ln w9 214 0) ∧ pw_jn (((250 : Int32) * a1) + (w9.1 214 0 (pw_i a1))) (pw_ln w9 215 0) ∧ ∀ w15, w15 = pw_ps w9 215 0 (pw_i (((250 : Int32) * a1) + (w9.1 214 0 (pw_i a1)))) a2 → w15.1 8 0 14 = 0 ∧ pw_jn a1 (pw_ln w15 214 0) ∧ w15.1 8 0 14 = 0 ∧ pw_jn a1 (pw_ln w15 214 0) ∧ ((249 : Int32) ≤ (w15.1 214 0 (pw_i a1)) → jp_M_comes_61 Q X 0 (w15.1 214 0 (pw_i a1)) a1 w15) ∧ (¬ (249 : Int32) ≤ (w15.1 214 0 (pw_i a1)) → jp_M_comes_61 Q X 1 (w15.1 214 0 (pw_i a1)) a1 w15)) ∧ ((w.1 208 0 (pw_i a1)) = a2 → Q w 0)
set_option maxHeartbeats 4000000 in
set_option maxRecDepth 20000 in
theorem vw_M_comes {l : Launch} {g : pw_G} {Q : pw_W → Int32 → Prop} {X : pw_W → Nat → Prop} (hl0 : l.stackTraces = false) {w : pw_W} {a1 a2 : Int32} (h : wp_M_comes w a1 a2 Q X) : pw_V l g cx_M_comes Q X 0 [(10, 0), (0, a1), (0, a2)] [] w := by
  unfold wp_M_comes at h
  refine pv_aload_n (n := 1) d_M_comes_0 rfl rfl rfl ?_
  obtain ⟨g4, h⟩ := h
  refine gt_M_16 (n := 4) rfl d_M_comes_1 (by decide) g4 rfl ?_
  refine pv_iload_n (n := 5) d_M_comes_4 rfl rfl rfl ?_
  obtain ⟨g5, h⟩ := h
  refine pv_iald (n := 6) (f := 208) (by decide) rfl d_M_comes_5 (by decide) g5 rfl ?_
  refine pv_iload_n (n := 7) d_M_comes_6 rfl rfl rfl ?_
  refine pv_icmp_ne (n := 10) (tgt := 12) d_M_comes_7 (by decide) rfl (fun c6 => ?_) (fun c6 => ?_)
  · replace h := h.1 c6
    refine pv_aload_n (n := 13) d_M_comes_12 rfl rfl rfl ?_
    obtain ⟨g7, h⟩ := h
    refine gt_M_16 (n := 16) rfl d_M_comes_13 (by decide) g7 rfl ?_
    refine pv_iload_n (n := 17) d_M_comes_16 rfl rfl rfl ?_
    refine pv_iload_n (n := 18) d_M_comes_17 rfl rfl rfl ?_
    obtain ⟨g8, h⟩ := h
    refine pv_iast1 (n := 19) (f := 208) (by decide) rfl (fun _ => rfl) d_M_comes_18 (by decide) g8 rfl (fun w9 e10 => ?_)
    replace h := h w9 e10
    refine pv_aload_n (n := 20) d_M_comes_19 rfl rfl rfl ?_
    obtain ⟨g11, h⟩ := h
    refine gt_M_37 (n := 23) rfl d_M_comes_20 (by decide) g11 rfl ?_
    refine pv_sipush (v := 250) (n := 26) d_M_comes_23 (by decide) rfl ?_
    refine pv_iload_n (n := 27) d_M_comes_26 rfl rfl rfl ?_
    refine pv_imul (n := 28) d_M_comes_27 rfl ?_
    refine pv_aload_n (n := 29) d_M_comes_28 rfl rfl rfl ?_
    obtain ⟨g12, h⟩ := h
    refine gt_M_34 (n := 32) rfl d_M_comes_29 (by decide) g12 rfl ?_
    refine pv_iload_n (n := 33) d_M_comes_32 rfl rfl rfl ?_
    obtain ⟨g13, h⟩ := h
    refine pv_iald (n := 34) (f := 214) (by decide) rfl d_M_comes_33 (by decide) g13 rfl ?_
    refine pv_iadd (n := 35) d_M_comes_34 rfl ?_
    refine pv_iload_n (n := 36) d_M_comes_35 rfl rfl rfl ?_
    obtain ⟨g14, h⟩ := h
    refine pv_iast1 (n := 37) (f := 215) (by decide) rfl (fun _ => rfl) d_M_comes_36 (by decide) g14 rfl (fun w15 e16 => ?_)
    replace h := h w15 e16
    refine pv_aload_n (n := 38) d_M_comes_37 rfl rfl rfl ?_
    obtain ⟨g17, h⟩ := h
    refine gt_M_34 (n := 41) rfl d_M_comes_38 (by decide) g17 rfl ?_
    refine pv_iload_n (n := 42) d_M_comes_41 rfl rfl rfl ?_
    refine pv_dup2 (n := 43) d_M_comes_42 (by decide) (by decide) rfl ?_
    obtain ⟨g18, h⟩ := h
    refine pv_iald (n := 44) (f := 214) (by decide) rfl d_M_comes_43 (by decide) g18 rfl ?_
    refine pv_aload_n (n := 45) d_M_comes_44 rfl rfl rfl ?_
    obtain ⟨g19, h⟩ := h
    refine gt_M_34 (n := 48) rfl d_M_comes_45 (by decide) g19 rfl ?_
    refine pv_iload_n (n := 49) d_M_comes_48 rfl rfl rfl ?_
    obtain ⟨g20, h⟩ := h
    refine pv_iald (n := 50) (f := 214) (by decide) rfl d_M_comes_49 (by decide) g20 rfl ?_
    refine pv_sipush (v := 249) (n := 53) d_M_comes_50 (by decide) rfl ?_
    refine pv_icmp_ge (n := 56) (tgt := 60) d_M_comes_53 (by decide) rfl (fun c21 => ?_) (fun c21 => ?_)
    · replace h := h.1 c21
      refine pv_iconst (v := 0) (n := 61) d_M_comes_60 (by decide) rfl ?_
      refine pv_unset (i := 0) (L1 := [(1, 0), (0, a1), (0, a2)]) rfl ?_
      refine pv_unset (i := 1) (L1 := [(1, 0), (1, 0), (0, a2)]) rfl ?_
      refine pv_unset (i := 2) (L1 := [(1, 0), (1, 0), (1, 0)]) rfl ?_
      exact vjp_M_comes_61 hl0 _ _ _ _ h
    · replace h := h.2 c21
      refine pv_iconst (v := 1) (n := 57) d_M_comes_56 (by decide) rfl ?_
      refine pv_goto (tgt := 61) d_M_comes_57 (by decide) ?_
      refine pv_unset (i := 0) (L1 := [(1, 0), (0, a1), (0, a2)]) rfl ?_
      refine pv_unset (i := 1) (L1 := [(1, 0), (1, 0), (0, a2)]) rfl ?_
      refine pv_unset (i := 2) (L1 := [(1, 0), (1, 0), (1, 0)]) rfl ?_
      exact vjp_M_comes_61 hl0 _ _ _ _ h
  · replace h := h.2 c6
    refine pv_iconst (v := 0) (n := 11) d_M_comes_10 (by decide) rfl ?_
    exact pv_iret rfl rfl d_M_comes_11 h
set_option maxHeartbeats 4000000 in
set_option maxRecDepth 20000 in
theorem con_M_comes {l : Launch} {g : pw_G} {Q : pw_W → Int32 → Prop} {X : pw_W → Nat → Prop} (hl0 : l.stackTraces = false) {w : pw_W} {a1 a2 : Int32} (h : wp_M_comes w a1 a2 Q X) : pw_Con l g y_M_comes cx_M_comes [(10, 0), (0, a1), (0, a2)] w Q X :=
  pw_con (by decide +kernel) rfl rfl hl0 rfl (Nat.le_of_ble_eq_true rfl) (by simp) (vw_M_comes hl0 h)
theorem d_M_makesParcel_0 : decode (pw_cc cx_M_makesParcel) 0 = .ok (.aload_n 0, 1) := by decide +kernel
theorem d_M_makesParcel_1 : decode (pw_cc cx_M_makesParcel) 1 = .ok (.getfield 40, 3) := by decide +kernel
theorem d_M_makesParcel_4 : decode (pw_cc cx_M_makesParcel) 4 = .ok (.aload_n 0, 1) := by decide +kernel
theorem d_M_makesParcel_5 : decode (pw_cc cx_M_makesParcel) 5 = .ok (.getfield 116, 3) := by decide +kernel
theorem d_M_makesParcel_8 : decode (pw_cc cx_M_makesParcel) 8 = .ok (.iload_n 1, 1) := by decide +kernel
theorem d_M_makesParcel_9 : decode (pw_cc cx_M_makesParcel) 9 = .ok (.iastore, 1) := by decide +kernel
theorem d_M_makesParcel_10 : decode (pw_cc cx_M_makesParcel) 10 = .ok (.aload_n 0, 1) := by decide +kernel
theorem d_M_makesParcel_11 : decode (pw_cc cx_M_makesParcel) 11 = .ok (.getfield 43, 3) := by decide +kernel
theorem d_M_makesParcel_14 : decode (pw_cc cx_M_makesParcel) 14 = .ok (.aload_n 0, 1) := by decide +kernel
theorem d_M_makesParcel_15 : decode (pw_cc cx_M_makesParcel) 15 = .ok (.getfield 116, 3) := by decide +kernel
theorem d_M_makesParcel_18 : decode (pw_cc cx_M_makesParcel) 18 = .ok (.iconst (-1), 1) := by decide +kernel
theorem d_M_makesParcel_19 : decode (pw_cc cx_M_makesParcel) 19 = .ok (.iastore, 1) := by decide +kernel
theorem d_M_makesParcel_20 : decode (pw_cc cx_M_makesParcel) 20 = .ok (.aload_n 0, 1) := by decide +kernel
theorem d_M_makesParcel_21 : decode (pw_cc cx_M_makesParcel) 21 = .ok (.dup, 1) := by decide +kernel
theorem d_M_makesParcel_22 : decode (pw_cc cx_M_makesParcel) 22 = .ok (.getfield 116, 3) := by decide +kernel
theorem d_M_makesParcel_25 : decode (pw_cc cx_M_makesParcel) 25 = .ok (.iconst 1, 1) := by decide +kernel
theorem d_M_makesParcel_26 : decode (pw_cc cx_M_makesParcel) 26 = .ok (.iadd, 1) := by decide +kernel
theorem d_M_makesParcel_27 : decode (pw_cc cx_M_makesParcel) 27 = .ok (.putfield 116, 3) := by decide +kernel
theorem d_M_makesParcel_30 : decode (pw_cc cx_M_makesParcel) 30 = .ok (.aload_n 0, 1) := by decide +kernel
theorem d_M_makesParcel_31 : decode (pw_cc cx_M_makesParcel) 31 = .ok (.getfield 116, 3) := by decide +kernel
theorem d_M_makesParcel_34 : decode (pw_cc cx_M_makesParcel) 34 = .ok (.iconst 1, 1) := by decide +kernel
theorem d_M_makesParcel_35 : decode (pw_cc cx_M_makesParcel) 35 = .ok (.isub, 1) := by decide +kernel
theorem d_M_makesParcel_36 : decode (pw_cc cx_M_makesParcel) 36 = .ok (.ireturn, 1) := by decide +kernel
set_option maxHeartbeats 4000000 in
set_option maxRecDepth 20000 in
def wp_M_makesParcel (w : pw_W) (a1 : Int32) (Q : pw_W → Int32 → Prop) (X : pw_W → Nat → Prop) : Prop := w.1 8 0 16 = 0 ∧ pw_jn (w.1 8 0 18) (pw_ln w 216 0) ∧ ∀ w3, w3 = pw_ps w 216 0 (pw_i (w.1 8 0 18)) a1 → w3.1 8 0 17 = 0 ∧ pw_jn (w3.1 8 0 18) (pw_ln w3 217 0) ∧ ∀ w7, w7 = pw_ps w3 217 0 (pw_i (w3.1 8 0 18)) (-1) → ∀ w9, w9 = pw_ps w7 8 0 18 ((w7.1 8 0 18) + 1) → Q w9 ((w9.1 8 0 18) - 1)
set_option maxHeartbeats 4000000 in
set_option maxRecDepth 20000 in
theorem vw_M_makesParcel {l : Launch} {g : pw_G} {Q : pw_W → Int32 → Prop} {X : pw_W → Nat → Prop} (hl0 : l.stackTraces = false) {w : pw_W} {a1 : Int32} (h : wp_M_makesParcel w a1 Q X) : pw_V l g cx_M_makesParcel Q X 0 [(10, 0), (0, a1)] [] w := by
  unfold wp_M_makesParcel at h
  refine pv_aload_n (n := 1) d_M_makesParcel_0 rfl rfl rfl ?_
  obtain ⟨g1, h⟩ := h
  refine gt_M_40 (n := 4) rfl d_M_makesParcel_1 (by decide) g1 rfl ?_
  refine pv_aload_n (n := 5) d_M_makesParcel_4 rfl rfl rfl ?_
  refine gt_M_116 (n := 8) rfl d_M_makesParcel_5 (by decide) rfl ?_
  refine pv_iload_n (n := 9) d_M_makesParcel_8 rfl rfl rfl ?_
  obtain ⟨g2, h⟩ := h
  refine pv_iast1 (n := 10) (f := 216) (by decide) rfl (fun _ => rfl) d_M_makesParcel_9 (by decide) g2 rfl (fun w3 e4 => ?_)
  replace h := h w3 e4
  refine pv_aload_n (n := 11) d_M_makesParcel_10 rfl rfl rfl ?_
  obtain ⟨g5, h⟩ := h
  refine gt_M_43 (n := 14) rfl d_M_makesParcel_11 (by decide) g5 rfl ?_
  refine pv_aload_n (n := 15) d_M_makesParcel_14 rfl rfl rfl ?_
  refine gt_M_116 (n := 18) rfl d_M_makesParcel_15 (by decide) rfl ?_
  refine pv_iconst (v := -1) (n := 19) d_M_makesParcel_18 (by decide) rfl ?_
  obtain ⟨g6, h⟩ := h
  refine pv_iast1 (n := 20) (f := 217) (by decide) rfl (fun _ => rfl) d_M_makesParcel_19 (by decide) g6 rfl (fun w7 e8 => ?_)
  replace h := h w7 e8
  refine pv_aload_n (n := 21) d_M_makesParcel_20 rfl rfl rfl ?_
  refine pv_dup (n := 22) d_M_makesParcel_21 (by decide) rfl ?_
  refine gt_M_116 (n := 25) rfl d_M_makesParcel_22 (by decide) rfl ?_
  refine pv_iconst (v := 1) (n := 26) d_M_makesParcel_25 (by decide) rfl ?_
  refine pv_iadd (n := 27) d_M_makesParcel_26 rfl ?_
  refine pt_M_116 (n := 30) rfl d_M_makesParcel_27 (by decide) rfl (fun w9 e10 => ?_)
  replace h := h w9 e10
  refine pv_aload_n (n := 31) d_M_makesParcel_30 rfl rfl rfl ?_
  refine gt_M_116 (n := 34) rfl d_M_makesParcel_31 (by decide) rfl ?_
  refine pv_iconst (v := 1) (n := 35) d_M_makesParcel_34 (by decide) rfl ?_
  refine pv_isub (n := 36) d_M_makesParcel_35 rfl ?_
  exact pv_iret rfl rfl d_M_makesParcel_36 h
set_option maxHeartbeats 4000000 in
set_option maxRecDepth 20000 in
theorem con_M_makesParcel {l : Launch} {g : pw_G} {Q : pw_W → Int32 → Prop} {X : pw_W → Nat → Prop} (hl0 : l.stackTraces = false) {w : pw_W} {a1 : Int32} (h : wp_M_makesParcel w a1 Q X) : pw_Con l g y_M_makesParcel cx_M_makesParcel [(10, 0), (0, a1)] w Q X :=
  pw_con (by decide +kernel) rfl rfl hl0 rfl (Nat.le_of_ble_eq_true rfl) (by simp) (vw_M_makesParcel hl0 h)
theorem d_M_isOn_0 : decode (pw_cc cx_M_isOn) 0 = .ok (.aload_n 0, 1) := by decide +kernel
theorem d_M_isOn_1 : decode (pw_cc cx_M_isOn) 1 = .ok (.getfield 64, 3) := by decide +kernel
theorem d_M_isOn_4 : decode (pw_cc cx_M_isOn) 4 = .ok (.iload_n 1, 1) := by decide +kernel
theorem d_M_isOn_5 : decode (pw_cc cx_M_isOn) 5 = .ok (.baload, 1) := by decide +kernel
theorem d_M_isOn_6 : decode (pw_cc cx_M_isOn) 6 = .ok (.ifCond .ne 17, 3) := by decide +kernel
theorem d_M_isOn_9 : decode (pw_cc cx_M_isOn) 9 = .ok (.aload_n 0, 1) := by decide +kernel
theorem d_M_isOn_10 : decode (pw_cc cx_M_isOn) 10 = .ok (.getfield 52, 3) := by decide +kernel
theorem d_M_isOn_13 : decode (pw_cc cx_M_isOn) 13 = .ok (.iload_n 1, 1) := by decide +kernel
theorem d_M_isOn_14 : decode (pw_cc cx_M_isOn) 14 = .ok (.iaload, 1) := by decide +kernel
theorem d_M_isOn_15 : decode (pw_cc cx_M_isOn) 15 = .ok (.iload_n 2, 1) := by decide +kernel
theorem d_M_isOn_16 : decode (pw_cc cx_M_isOn) 16 = .ok (.if_icmp .ne 7, 3) := by decide +kernel
theorem d_M_isOn_19 : decode (pw_cc cx_M_isOn) 19 = .ok (.iconst 1, 1) := by decide +kernel
theorem d_M_isOn_20 : decode (pw_cc cx_M_isOn) 20 = .ok (.goto 4, 3) := by decide +kernel
theorem d_M_isOn_23 : decode (pw_cc cx_M_isOn) 23 = .ok (.iconst 0, 1) := by decide +kernel
theorem d_M_isOn_24 : decode (pw_cc cx_M_isOn) 24 = .ok (.ireturn, 1) := by decide +kernel
set_option maxHeartbeats 4000000 in
set_option maxRecDepth 20000 in
def wp_M_isOn (w : pw_W) (a1 a2 : Int32) (Q : pw_W → Int32 → Prop) (X : pw_W → Nat → Prop) : Prop := w.1 8 0 25 = 0 ∧ pw_jn a1 (pw_ln w 225 0) ∧ (¬ (w.1 225 0 (pw_i a1)) = 0 → Q w 0) ∧ ((w.1 225 0 (pw_i a1)) = 0 → w.1 8 0 21 = 0 ∧ pw_jn a1 (pw_ln w 221 0) ∧ (¬ (w.1 221 0 (pw_i a1)) = a2 → Q w 0) ∧ ((w.1 221 0 (pw_i a1)) = a2 → Q w 1))
set_option maxHeartbeats 4000000 in
set_option maxRecDepth 20000 in
theorem vw_M_isOn {l : Launch} {g : pw_G} {Q : pw_W → Int32 → Prop} {X : pw_W → Nat → Prop} (hl0 : l.stackTraces = false) {w : pw_W} {a1 a2 : Int32} (h : wp_M_isOn w a1 a2 Q X) : pw_V l g cx_M_isOn Q X 0 [(10, 0), (0, a1), (0, a2)] [] w := by
  unfold wp_M_isOn at h
  refine pv_aload_n (n := 1) d_M_isOn_0 rfl rfl rfl ?_
  obtain ⟨g1, h⟩ := h
  refine gt_M_64 (n := 4) rfl d_M_isOn_1 (by decide) g1 rfl ?_
  refine pv_iload_n (n := 5) d_M_isOn_4 rfl rfl rfl ?_
  obtain ⟨g2, h⟩ := h
  refine pv_zald (n := 6) (f := 225) (by decide) rfl d_M_isOn_5 (by decide) g2 rfl ?_
  refine pv_if_ne (n := 9) (tgt := 23) d_M_isOn_6 (by decide) rfl (fun c3 => ?_) (fun c3 => ?_)
  · replace h := h.1 c3
    refine pv_iconst (v := 0) (n := 24) d_M_isOn_23 (by decide) rfl ?_
    exact pv_zret rfl rfl d_M_isOn_24 (by decide) h
  · replace h := h.2 c3
    refine pv_aload_n (n := 10) d_M_isOn_9 rfl rfl rfl ?_
    obtain ⟨g4, h⟩ := h
    refine gt_M_52 (n := 13) rfl d_M_isOn_10 (by decide) g4 rfl ?_
    refine pv_iload_n (n := 14) d_M_isOn_13 rfl rfl rfl ?_
    obtain ⟨g5, h⟩ := h
    refine pv_iald (n := 15) (f := 221) (by decide) rfl d_M_isOn_14 (by decide) g5 rfl ?_
    refine pv_iload_n (n := 16) d_M_isOn_15 rfl rfl rfl ?_
    refine pv_icmp_ne (n := 19) (tgt := 23) d_M_isOn_16 (by decide) rfl (fun c6 => ?_) (fun c6 => ?_)
    · replace h := h.1 c6
      refine pv_iconst (v := 0) (n := 24) d_M_isOn_23 (by decide) rfl ?_
      exact pv_zret rfl rfl d_M_isOn_24 (by decide) h
    · replace h := h.2 c6
      refine pv_iconst (v := 1) (n := 20) d_M_isOn_19 (by decide) rfl ?_
      refine pv_goto (tgt := 24) d_M_isOn_20 (by decide) ?_
      exact pv_zret rfl rfl d_M_isOn_24 (by decide) h
set_option maxHeartbeats 4000000 in
set_option maxRecDepth 20000 in
theorem con_M_isOn {l : Launch} {g : pw_G} {Q : pw_W → Int32 → Prop} {X : pw_W → Nat → Prop} (hl0 : l.stackTraces = false) {w : pw_W} {a1 a2 : Int32} (h : wp_M_isOn w a1 a2 Q X) : pw_Con l g y_M_isOn cx_M_isOn [(10, 0), (0, a1), (0, a2)] w Q X :=
  pw_con (by decide +kernel) rfl rfl hl0 rfl (Nat.le_of_ble_eq_true rfl) (by simp) (vw_M_isOn hl0 h)
theorem d_M_rightsOn_0 : decode (pw_cc cx_M_rightsOn) 0 = .ok (.iconst 0, 1) := by decide +kernel
theorem d_M_rightsOn_1 : decode (pw_cc cx_M_rightsOn) 1 = .ok (.istore_n 2, 1) := by decide +kernel
theorem d_M_rightsOn_2 : decode (pw_cc cx_M_rightsOn) 2 = .ok (.iconst 0, 1) := by decide +kernel
theorem d_M_rightsOn_3 : decode (pw_cc cx_M_rightsOn) 3 = .ok (.istore_n 3, 1) := by decide +kernel
theorem d_M_rightsOn_4 : decode (pw_cc cx_M_rightsOn) 4 = .ok (.iload_n 3, 1) := by decide +kernel
theorem d_M_rightsOn_5 : decode (pw_cc cx_M_rightsOn) 5 = .ok (.aload_n 0, 1) := by decide +kernel
theorem d_M_rightsOn_6 : decode (pw_cc cx_M_rightsOn) 6 = .ok (.getfield 131, 3) := by decide +kernel
theorem d_M_rightsOn_9 : decode (pw_cc cx_M_rightsOn) 9 = .ok (.if_icmp .ge 26, 3) := by decide +kernel
theorem d_M_rightsOn_12 : decode (pw_cc cx_M_rightsOn) 12 = .ok (.iload_n 2, 1) := by decide +kernel
theorem d_M_rightsOn_13 : decode (pw_cc cx_M_rightsOn) 13 = .ok (.aload_n 0, 1) := by decide +kernel
theorem d_M_rightsOn_14 : decode (pw_cc cx_M_rightsOn) 14 = .ok (.iload_n 3, 1) := by decide +kernel
theorem d_M_rightsOn_15 : decode (pw_cc cx_M_rightsOn) 15 = .ok (.iload_n 1, 1) := by decide +kernel
theorem d_M_rightsOn_16 : decode (pw_cc cx_M_rightsOn) 16 = .ok (.invokevirtual 134, 3) := by decide +kernel
theorem d_M_rightsOn_19 : decode (pw_cc cx_M_rightsOn) 19 = .ok (.ifCond .eq 7, 3) := by decide +kernel
theorem d_M_rightsOn_22 : decode (pw_cc cx_M_rightsOn) 22 = .ok (.iconst 1, 1) := by decide +kernel
theorem d_M_rightsOn_23 : decode (pw_cc cx_M_rightsOn) 23 = .ok (.goto 4, 3) := by decide +kernel
theorem d_M_rightsOn_26 : decode (pw_cc cx_M_rightsOn) 26 = .ok (.iconst 0, 1) := by decide +kernel
theorem d_M_rightsOn_27 : decode (pw_cc cx_M_rightsOn) 27 = .ok (.iadd, 1) := by decide +kernel
theorem d_M_rightsOn_28 : decode (pw_cc cx_M_rightsOn) 28 = .ok (.istore_n 2, 1) := by decide +kernel
theorem d_M_rightsOn_29 : decode (pw_cc cx_M_rightsOn) 29 = .ok (.iinc 3 1, 3) := by decide +kernel
theorem d_M_rightsOn_32 : decode (pw_cc cx_M_rightsOn) 32 = .ok (.goto (-28), 3) := by decide +kernel
theorem d_M_rightsOn_35 : decode (pw_cc cx_M_rightsOn) 35 = .ok (.iload_n 2, 1) := by decide +kernel
theorem d_M_rightsOn_36 : decode (pw_cc cx_M_rightsOn) 36 = .ok (.ireturn, 1) := by decide +kernel
set_option maxHeartbeats 4000000 in
set_option maxRecDepth 20000 in
def lp_M_rightsOn_4 (Q : pw_W → Int32 → Prop) (X : pw_W → Nat → Prop) : Nat → Int32 → Int32 → Int32 → pw_W → Prop := fun k => Nat.rec (motive := fun _ => Int32 → Int32 → Int32 → pw_W → Prop) (fun _ _ _ _ => False) (fun _ ih a1 a2 a3 w => ((w.1 8 0 26) ≤ a3 → Q w a2) ∧ (¬ (w.1 8 0 26) ≤ a3 → wp_M_isOn w a3 a1 (fun w2 r3 => (r3 = 0 → ∀ v5, v5 = (a2 + 0) → ih a1 v5 (a3 + 1) w2) ∧ (¬ r3 = 0 → ∀ v7, v7 = (a2 + 1) → ih a1 v7 (a3 + 1) w2)) (fun _ _ => False))) k
set_option maxHeartbeats 4000000 in
set_option maxRecDepth 20000 in
theorem lp_M_rightsOn_4_s {Q : pw_W → Int32 → Prop} {X : pw_W → Nat → Prop}  {k : Nat} {a1 a2 a3 : Int32} {w : pw_W} : lp_M_rightsOn_4 Q X (k + 1) a1 a2 a3 w = (let ih := lp_M_rightsOn_4 Q X k; ((w.1 8 0 26) ≤ a3 → Q w a2) ∧ (¬ (w.1 8 0 26) ≤ a3 → wp_M_isOn w a3 a1 (fun w2 r3 => (r3 = 0 → ∀ v5, v5 = (a2 + 0) → ih a1 v5 (a3 + 1) w2) ∧ (¬ r3 = 0 → ∀ v7, v7 = (a2 + 1) → ih a1 v7 (a3 + 1) w2)) (fun _ _ => False))) := rfl
set_option maxHeartbeats 4000000 in
set_option maxRecDepth 20000 in
theorem vlp_M_rightsOn_4 {l : Launch} {g : pw_G} {Q : pw_W → Int32 → Prop} {X : pw_W → Nat → Prop} (hl0 : l.stackTraces = false) : ∀ (k : Nat) (a1 a2 a3 : Int32) (w : pw_W), lp_M_rightsOn_4 Q X k a1 a2 a3 w → pw_V l g cx_M_rightsOn Q X 4 [(10, 0), (0, a1), (0, a2), (0, a3)] [] w := by
  intro k; induction k with
  | zero => intro _ _ _ _ h; exact h.elim
  | succ k ih =>
    intro a1 a2 a3 w h
    rw [lp_M_rightsOn_4_s] at h
    refine pv_iload_n (n := 5) d_M_rightsOn_4 rfl rfl rfl ?_
    refine pv_aload_n (n := 6) d_M_rightsOn_5 rfl rfl rfl ?_
    refine gt_M_131 (n := 9) rfl d_M_rightsOn_6 (by decide) rfl ?_
    refine pv_icmp_ge (n := 12) (tgt := 35) d_M_rightsOn_9 (by decide) rfl (fun c1 => ?_) (fun c1 => ?_)
    · replace h := h.1 c1
      refine pv_iload_n (n := 36) d_M_rightsOn_35 rfl rfl rfl ?_
      exact pv_iret rfl rfl d_M_rightsOn_36 h
    · replace h := h.2 c1
      refine pv_iload_n (n := 13) d_M_rightsOn_12 rfl rfl rfl ?_
      refine pv_aload_n (n := 14) d_M_rightsOn_13 rfl rfl rfl ?_
      refine pv_iload_n (n := 15) d_M_rightsOn_14 rfl rfl rfl ?_
      refine pv_iload_n (n := 16) d_M_rightsOn_15 rfl rfl rfl ?_
      refine pv_callV (n := 19) (x := 0) [(0, a3), (0, a1)] [(0, a2)] (con_M_isOn hl0 h) pw_cf8 rfl q_464 q_465 q_466 q_458 q_463 pyo_M_isOn (by decide) rfl rfl (by decide) d_M_rightsOn_16 rfl (fun w2 r3 h _ => ?_) (fun _ _ h => h.elim)
      show pw_V l g cx_M_rightsOn Q X 19 [(10, 0), (0, a1), (0, a2), (0, a3)] [(0, r3), (0, a2)] w2
      refine pv_if_eq (n := 22) (tgt := 26) d_M_rightsOn_19 (by decide) rfl (fun c4 => ?_) (fun c4 => ?_)
      · replace h := h.1 c4
        refine pv_iconst (v := 0) (n := 27) d_M_rightsOn_26 (by decide) rfl ?_
        refine pv_iadd (n := 28) d_M_rightsOn_27 rfl ?_
        refine pv_nm (fun v5 e6 => ?_)
        replace h := h v5 e6
        refine pv_istore_n (n := 29) (L' := [(10, 0), (0, a1), (0, v5), (0, a3)]) d_M_rightsOn_28 rfl (by decide) rfl rfl ?_
        refine pv_iinc (v := (a3 + 1)) (n := 32) (L1 := [(10, 0), (0, a1), (0, v5), (0, (a3 + 1))]) d_M_rightsOn_29 rfl rfl rfl (by decide) rfl ?_
        refine pv_goto (tgt := 4) d_M_rightsOn_32 (by decide) ?_
        exact ih _ _ _ _ h
      · replace h := h.2 c4
        refine pv_iconst (v := 1) (n := 23) d_M_rightsOn_22 (by decide) rfl ?_
        refine pv_goto (tgt := 27) d_M_rightsOn_23 (by decide) ?_
        refine pv_iadd (n := 28) d_M_rightsOn_27 rfl ?_
        refine pv_nm (fun v7 e8 => ?_)
        replace h := h v7 e8
        refine pv_istore_n (n := 29) (L' := [(10, 0), (0, a1), (0, v7), (0, a3)]) d_M_rightsOn_28 rfl (by decide) rfl rfl ?_
        refine pv_iinc (v := (a3 + 1)) (n := 32) (L1 := [(10, 0), (0, a1), (0, v7), (0, (a3 + 1))]) d_M_rightsOn_29 rfl rfl rfl (by decide) rfl ?_
        refine pv_goto (tgt := 4) d_M_rightsOn_32 (by decide) ?_
        exact ih _ _ _ _ h
set_option maxHeartbeats 4000000 in
set_option maxRecDepth 20000 in
def wp_M_rightsOn (w : pw_W) (a1 : Int32) (Q : pw_W → Int32 → Prop) (X : pw_W → Nat → Prop) : Prop := ∃ k9, lp_M_rightsOn_4 Q X k9 a1 0 0 w
set_option maxHeartbeats 4000000 in
set_option maxRecDepth 20000 in
theorem vw_M_rightsOn {l : Launch} {g : pw_G} {Q : pw_W → Int32 → Prop} {X : pw_W → Nat → Prop} (hl0 : l.stackTraces = false) {w : pw_W} {a1 : Int32} (h : wp_M_rightsOn w a1 Q X) : pw_V l g cx_M_rightsOn Q X 0 [(10, 0), (0, a1), (1, 0), (1, 0)] [] w := by
  unfold wp_M_rightsOn at h
  refine pv_iconst (v := 0) (n := 1) d_M_rightsOn_0 (by decide) rfl ?_
  refine pv_istore_n (n := 2) (L' := [(10, 0), (0, a1), (0, 0), (1, 0)]) d_M_rightsOn_1 rfl (by decide) rfl rfl ?_
  refine pv_iconst (v := 0) (n := 3) d_M_rightsOn_2 (by decide) rfl ?_
  refine pv_istore_n (n := 4) (L' := [(10, 0), (0, a1), (0, 0), (0, 0)]) d_M_rightsOn_3 rfl (by decide) rfl rfl ?_
  obtain ⟨k9, h⟩ := h
  exact vlp_M_rightsOn_4 hl0 _ _ _ _ _ h
set_option maxHeartbeats 4000000 in
set_option maxRecDepth 20000 in
theorem con_M_rightsOn {l : Launch} {g : pw_G} {Q : pw_W → Int32 → Prop} {X : pw_W → Nat → Prop} (hl0 : l.stackTraces = false) {w : pw_W} {a1 : Int32} (h : wp_M_rightsOn w a1 Q X) : pw_Con l g y_M_rightsOn cx_M_rightsOn [(10, 0), (0, a1)] w Q X :=
  pw_con (by decide +kernel) rfl rfl hl0 rfl (Nat.le_of_ble_eq_true rfl) (by simp) (vw_M_rightsOn hl0 h)
theorem d_M_hasRight_0 : decode (pw_cc cx_M_hasRight) 0 = .ok (.iconst 0, 1) := by decide +kernel
theorem d_M_hasRight_1 : decode (pw_cc cx_M_hasRight) 1 = .ok (.istore 4, 2) := by decide +kernel
theorem d_M_hasRight_3 : decode (pw_cc cx_M_hasRight) 3 = .ok (.iconst 0, 1) := by decide +kernel
theorem d_M_hasRight_4 : decode (pw_cc cx_M_hasRight) 4 = .ok (.istore 5, 2) := by decide +kernel
theorem d_M_hasRight_6 : decode (pw_cc cx_M_hasRight) 6 = .ok (.iload 5, 2) := by decide +kernel
theorem d_M_hasRight_8 : decode (pw_cc cx_M_hasRight) 8 = .ok (.aload_n 0, 1) := by decide +kernel
theorem d_M_hasRight_9 : decode (pw_cc cx_M_hasRight) 9 = .ok (.getfield 131, 3) := by decide +kernel
theorem d_M_hasRight_12 : decode (pw_cc cx_M_hasRight) 12 = .ok (.if_icmp .ge 53, 3) := by decide +kernel
theorem d_M_hasRight_15 : decode (pw_cc cx_M_hasRight) 15 = .ok (.iload 4, 2) := by decide +kernel
theorem d_M_hasRight_17 : decode (pw_cc cx_M_hasRight) 17 = .ok (.ifCond .ne 35, 3) := by decide +kernel
theorem d_M_hasRight_20 : decode (pw_cc cx_M_hasRight) 20 = .ok (.aload_n 0, 1) := by decide +kernel
theorem d_M_hasRight_21 : decode (pw_cc cx_M_hasRight) 21 = .ok (.iload 5, 2) := by decide +kernel
theorem d_M_hasRight_23 : decode (pw_cc cx_M_hasRight) 23 = .ok (.iload_n 2, 1) := by decide +kernel
theorem d_M_hasRight_24 : decode (pw_cc cx_M_hasRight) 24 = .ok (.invokevirtual 134, 3) := by decide +kernel
theorem d_M_hasRight_27 : decode (pw_cc cx_M_hasRight) 27 = .ok (.ifCond .eq 29, 3) := by decide +kernel
theorem d_M_hasRight_30 : decode (pw_cc cx_M_hasRight) 30 = .ok (.aload_n 0, 1) := by decide +kernel
theorem d_M_hasRight_31 : decode (pw_cc cx_M_hasRight) 31 = .ok (.getfield 49, 3) := by decide +kernel
theorem d_M_hasRight_34 : decode (pw_cc cx_M_hasRight) 34 = .ok (.iload 5, 2) := by decide +kernel
theorem d_M_hasRight_36 : decode (pw_cc cx_M_hasRight) 36 = .ok (.iaload, 1) := by decide +kernel
theorem d_M_hasRight_37 : decode (pw_cc cx_M_hasRight) 37 = .ok (.iload_n 1, 1) := by decide +kernel
theorem d_M_hasRight_38 : decode (pw_cc cx_M_hasRight) 38 = .ok (.if_icmp .ne 18, 3) := by decide +kernel
theorem d_M_hasRight_41 : decode (pw_cc cx_M_hasRight) 41 = .ok (.aload_n 0, 1) := by decide +kernel
theorem d_M_hasRight_42 : decode (pw_cc cx_M_hasRight) 42 = .ok (.getfield 55, 3) := by decide +kernel
theorem d_M_hasRight_45 : decode (pw_cc cx_M_hasRight) 45 = .ok (.iload 5, 2) := by decide +kernel
theorem d_M_hasRight_47 : decode (pw_cc cx_M_hasRight) 47 = .ok (.iaload, 1) := by decide +kernel
theorem d_M_hasRight_48 : decode (pw_cc cx_M_hasRight) 48 = .ok (.iload_n 3, 1) := by decide +kernel
theorem d_M_hasRight_49 : decode (pw_cc cx_M_hasRight) 49 = .ok (.if_icmp .ne 7, 3) := by decide +kernel
theorem d_M_hasRight_52 : decode (pw_cc cx_M_hasRight) 52 = .ok (.iconst 1, 1) := by decide +kernel
theorem d_M_hasRight_53 : decode (pw_cc cx_M_hasRight) 53 = .ok (.goto 4, 3) := by decide +kernel
theorem d_M_hasRight_56 : decode (pw_cc cx_M_hasRight) 56 = .ok (.iconst 0, 1) := by decide +kernel
theorem d_M_hasRight_57 : decode (pw_cc cx_M_hasRight) 57 = .ok (.istore 4, 2) := by decide +kernel
theorem d_M_hasRight_59 : decode (pw_cc cx_M_hasRight) 59 = .ok (.iinc 5 1, 3) := by decide +kernel
theorem d_M_hasRight_62 : decode (pw_cc cx_M_hasRight) 62 = .ok (.goto (-56), 3) := by decide +kernel
theorem d_M_hasRight_65 : decode (pw_cc cx_M_hasRight) 65 = .ok (.iload 4, 2) := by decide +kernel
theorem d_M_hasRight_67 : decode (pw_cc cx_M_hasRight) 67 = .ok (.ireturn, 1) := by decide +kernel
set_option maxHeartbeats 4000000 in
set_option maxRecDepth 20000 in
def lp_M_hasRight_6 (Q : pw_W → Int32 → Prop) (X : pw_W → Nat → Prop) : Nat → Int32 → Int32 → Int32 → Int32 → Int32 → pw_W → Prop := fun k => Nat.rec (motive := fun _ => Int32 → Int32 → Int32 → Int32 → Int32 → pw_W → Prop) (fun _ _ _ _ _ _ => False) (fun _ ih a1 a2 a3 a4 a5 w => ((w.1 8 0 26) ≤ a5 → (a4 = 0 ∨ a4 = 1) ∧ Q w a4) ∧ (¬ (w.1 8 0 26) ≤ a5 → (¬ a4 = 0 → ih a1 a2 a3 1 (a5 + 1) w) ∧ (a4 = 0 → wp_M_isOn w a5 a2 (fun w4 r5 => (r5 = 0 → ih a1 a2 a3 0 (a5 + 1) w4) ∧ (¬ r5 = 0 → w4.1 8 0 20 = 0 ∧ pw_jn a5 (pw_ln w4 220 0) ∧ (¬ (w4.1 220 0 (pw_i a5)) = a1 → ih a1 a2 a3 0 (a5 + 1) w4) ∧ ((w4.1 220 0 (pw_i a5)) = a1 → w4.1 8 0 22 = 0 ∧ pw_jn a5 (pw_ln w4 222 0) ∧ (¬ (w4.1 222 0 (pw_i a5)) = a3 → ih a1 a2 a3 0 (a5 + 1) w4) ∧ ((w4.1 222 0 (pw_i a5)) = a3 → ih a1 a2 a3 1 (a5 + 1) w4)))) (fun _ _ => False)))) k
set_option maxHeartbeats 4000000 in
set_option maxRecDepth 20000 in
theorem lp_M_hasRight_6_s {Q : pw_W → Int32 → Prop} {X : pw_W → Nat → Prop}  {k : Nat} {a1 a2 a3 a4 a5 : Int32} {w : pw_W} : lp_M_hasRight_6 Q X (k + 1) a1 a2 a3 a4 a5 w = (let ih := lp_M_hasRight_6 Q X k; ((w.1 8 0 26) ≤ a5 → (a4 = 0 ∨ a4 = 1) ∧ Q w a4) ∧ (¬ (w.1 8 0 26) ≤ a5 → (¬ a4 = 0 → ih a1 a2 a3 1 (a5 + 1) w) ∧ (a4 = 0 → wp_M_isOn w a5 a2 (fun w4 r5 => (r5 = 0 → ih a1 a2 a3 0 (a5 + 1) w4) ∧ (¬ r5 = 0 → w4.1 8 0 20 = 0 ∧ pw_jn a5 (pw_ln w4 220 0) ∧ (¬ (w4.1 220 0 (pw_i a5)) = a1 → ih a1 a2 a3 0 (a5 + 1) w4) ∧ ((w4.1 220 0 (pw_i a5)) = a1 → w4.1 8 0 22 = 0 ∧ pw_jn a5 (pw_ln w4 222 0) ∧ (¬ (w4.1 222 0 (pw_i a5)) = a3 → ih a1 a2 a3 0 (a5 + 1) w4) ∧ ((w4.1 222 0 (pw_i a5)) = a3 → ih a1 a2 a3 1 (a5 + 1) w4)))) (fun _ _ => False)))) := rfl
set_option maxHeartbeats 4000000 in
set_option maxRecDepth 20000 in
theorem vlp_M_hasRight_6 {l : Launch} {g : pw_G} {Q : pw_W → Int32 → Prop} {X : pw_W → Nat → Prop} (hl0 : l.stackTraces = false) : ∀ (k : Nat) (a1 a2 a3 a4 a5 : Int32) (w : pw_W), lp_M_hasRight_6 Q X k a1 a2 a3 a4 a5 w → pw_V l g cx_M_hasRight Q X 6 [(10, 0), (0, a1), (0, a2), (0, a3), (0, a4), (0, a5)] [] w := by
  intro k; induction k with
  | zero => intro _ _ _ _ _ _ h; exact h.elim
  | succ k ih =>
    intro a1 a2 a3 a4 a5 w h
    rw [lp_M_hasRight_6_s] at h
    refine pv_iload (n := 8) d_M_hasRight_6 rfl rfl ?_
    refine pv_aload_n (n := 9) d_M_hasRight_8 rfl rfl rfl ?_
    refine gt_M_131 (n := 12) rfl d_M_hasRight_9 (by decide) rfl ?_
    refine pv_icmp_ge (n := 15) (tgt := 65) d_M_hasRight_12 (by decide) rfl (fun c1 => ?_) (fun c1 => ?_)
    · replace h := h.1 c1
      refine pv_iload (n := 67) d_M_hasRight_65 rfl rfl ?_
      obtain ⟨g2, h⟩ := h
      exact pv_zret rfl rfl d_M_hasRight_67 g2 h
    · replace h := h.2 c1
      refine pv_iload (n := 17) d_M_hasRight_15 rfl rfl ?_
      refine pv_if_ne (n := 20) (tgt := 52) d_M_hasRight_17 (by decide) rfl (fun c3 => ?_) (fun c3 => ?_)
      · replace h := h.1 c3
        refine pv_iconst (v := 1) (n := 53) d_M_hasRight_52 (by decide) rfl ?_
        refine pv_goto (tgt := 57) d_M_hasRight_53 (by decide) ?_
        refine pv_istore (n := 59) (L' := [(10, 0), (0, a1), (0, a2), (0, a3), (0, 1), (0, a5)]) d_M_hasRight_57 (by decide) rfl rfl ?_
        refine pv_iinc (v := (a5 + 1)) (n := 62) (L1 := [(10, 0), (0, a1), (0, a2), (0, a3), (0, 1), (0, (a5 + 1))]) d_M_hasRight_59 rfl rfl rfl (by decide) rfl ?_
        refine pv_goto (tgt := 6) d_M_hasRight_62 (by decide) ?_
        exact ih _ _ _ _ _ _ h
      · replace h := h.2 c3
        refine pv_aload_n (n := 21) d_M_hasRight_20 rfl rfl rfl ?_
        refine pv_iload (n := 23) d_M_hasRight_21 rfl rfl ?_
        refine pv_iload_n (n := 24) d_M_hasRight_23 rfl rfl rfl ?_
        refine pv_callV (n := 27) (x := 0) [(0, a5), (0, a2)] [] (con_M_isOn hl0 h) pw_cf8 rfl q_464 q_465 q_466 q_458 q_463 pyo_M_isOn (by decide) rfl rfl (by decide) d_M_hasRight_24 rfl (fun w4 r5 h _ => ?_) (fun _ _ h => h.elim)
        show pw_V l g cx_M_hasRight Q X 27 [(10, 0), (0, a1), (0, a2), (0, a3), (0, a4), (0, a5)] [(0, r5)] w4
        refine pv_if_eq (n := 30) (tgt := 56) d_M_hasRight_27 (by decide) rfl (fun c6 => ?_) (fun c6 => ?_)
        · replace h := h.1 c6
          refine pv_iconst (v := 0) (n := 57) d_M_hasRight_56 (by decide) rfl ?_
          refine pv_istore (n := 59) (L' := [(10, 0), (0, a1), (0, a2), (0, a3), (0, 0), (0, a5)]) d_M_hasRight_57 (by decide) rfl rfl ?_
          refine pv_iinc (v := (a5 + 1)) (n := 62) (L1 := [(10, 0), (0, a1), (0, a2), (0, a3), (0, 0), (0, (a5 + 1))]) d_M_hasRight_59 rfl rfl rfl (by decide) rfl ?_
          refine pv_goto (tgt := 6) d_M_hasRight_62 (by decide) ?_
          exact ih _ _ _ _ _ _ h
        · replace h := h.2 c6
          refine pv_aload_n (n := 31) d_M_hasRight_30 rfl rfl rfl ?_
          obtain ⟨g7, h⟩ := h
          refine gt_M_49 (n := 34) rfl d_M_hasRight_31 (by decide) g7 rfl ?_
          refine pv_iload (n := 36) d_M_hasRight_34 rfl rfl ?_
          obtain ⟨g8, h⟩ := h
          refine pv_iald (n := 37) (f := 220) (by decide) rfl d_M_hasRight_36 (by decide) g8 rfl ?_
          refine pv_iload_n (n := 38) d_M_hasRight_37 rfl rfl rfl ?_
          refine pv_icmp_ne (n := 41) (tgt := 56) d_M_hasRight_38 (by decide) rfl (fun c9 => ?_) (fun c9 => ?_)
          · replace h := h.1 c9
            refine pv_iconst (v := 0) (n := 57) d_M_hasRight_56 (by decide) rfl ?_
            refine pv_istore (n := 59) (L' := [(10, 0), (0, a1), (0, a2), (0, a3), (0, 0), (0, a5)]) d_M_hasRight_57 (by decide) rfl rfl ?_
            refine pv_iinc (v := (a5 + 1)) (n := 62) (L1 := [(10, 0), (0, a1), (0, a2), (0, a3), (0, 0), (0, (a5 + 1))]) d_M_hasRight_59 rfl rfl rfl (by decide) rfl ?_
            refine pv_goto (tgt := 6) d_M_hasRight_62 (by decide) ?_
            exact ih _ _ _ _ _ _ h
          · replace h := h.2 c9
            refine pv_aload_n (n := 42) d_M_hasRight_41 rfl rfl rfl ?_
            obtain ⟨g10, h⟩ := h
            refine gt_M_55 (n := 45) rfl d_M_hasRight_42 (by decide) g10 rfl ?_
            refine pv_iload (n := 47) d_M_hasRight_45 rfl rfl ?_
            obtain ⟨g11, h⟩ := h
            refine pv_iald (n := 48) (f := 222) (by decide) rfl d_M_hasRight_47 (by decide) g11 rfl ?_
            refine pv_iload_n (n := 49) d_M_hasRight_48 rfl rfl rfl ?_
            refine pv_icmp_ne (n := 52) (tgt := 56) d_M_hasRight_49 (by decide) rfl (fun c12 => ?_) (fun c12 => ?_)
            · replace h := h.1 c12
              refine pv_iconst (v := 0) (n := 57) d_M_hasRight_56 (by decide) rfl ?_
              refine pv_istore (n := 59) (L' := [(10, 0), (0, a1), (0, a2), (0, a3), (0, 0), (0, a5)]) d_M_hasRight_57 (by decide) rfl rfl ?_
              refine pv_iinc (v := (a5 + 1)) (n := 62) (L1 := [(10, 0), (0, a1), (0, a2), (0, a3), (0, 0), (0, (a5 + 1))]) d_M_hasRight_59 rfl rfl rfl (by decide) rfl ?_
              refine pv_goto (tgt := 6) d_M_hasRight_62 (by decide) ?_
              exact ih _ _ _ _ _ _ h
            · replace h := h.2 c12
              refine pv_iconst (v := 1) (n := 53) d_M_hasRight_52 (by decide) rfl ?_
              refine pv_goto (tgt := 57) d_M_hasRight_53 (by decide) ?_
              refine pv_istore (n := 59) (L' := [(10, 0), (0, a1), (0, a2), (0, a3), (0, 1), (0, a5)]) d_M_hasRight_57 (by decide) rfl rfl ?_
              refine pv_iinc (v := (a5 + 1)) (n := 62) (L1 := [(10, 0), (0, a1), (0, a2), (0, a3), (0, 1), (0, (a5 + 1))]) d_M_hasRight_59 rfl rfl rfl (by decide) rfl ?_
              refine pv_goto (tgt := 6) d_M_hasRight_62 (by decide) ?_
              exact ih _ _ _ _ _ _ h
set_option maxHeartbeats 4000000 in
set_option maxRecDepth 20000 in
def wp_M_hasRight (w : pw_W) (a1 a2 a3 : Int32) (Q : pw_W → Int32 → Prop) (X : pw_W → Nat → Prop) : Prop := ∃ k13, lp_M_hasRight_6 Q X k13 a1 a2 a3 0 0 w
set_option maxHeartbeats 4000000 in
set_option maxRecDepth 20000 in
theorem vw_M_hasRight {l : Launch} {g : pw_G} {Q : pw_W → Int32 → Prop} {X : pw_W → Nat → Prop} (hl0 : l.stackTraces = false) {w : pw_W} {a1 a2 a3 : Int32} (h : wp_M_hasRight w a1 a2 a3 Q X) : pw_V l g cx_M_hasRight Q X 0 [(10, 0), (0, a1), (0, a2), (0, a3), (1, 0), (1, 0)] [] w := by
  unfold wp_M_hasRight at h
  refine pv_iconst (v := 0) (n := 1) d_M_hasRight_0 (by decide) rfl ?_
  refine pv_istore (n := 3) (L' := [(10, 0), (0, a1), (0, a2), (0, a3), (0, 0), (1, 0)]) d_M_hasRight_1 (by decide) rfl rfl ?_
  refine pv_iconst (v := 0) (n := 4) d_M_hasRight_3 (by decide) rfl ?_
  refine pv_istore (n := 6) (L' := [(10, 0), (0, a1), (0, a2), (0, a3), (0, 0), (0, 0)]) d_M_hasRight_4 (by decide) rfl rfl ?_
  obtain ⟨k13, h⟩ := h
  exact vlp_M_hasRight_6 hl0 _ _ _ _ _ _ _ h
set_option maxHeartbeats 4000000 in
set_option maxRecDepth 20000 in
theorem con_M_hasRight {l : Launch} {g : pw_G} {Q : pw_W → Int32 → Prop} {X : pw_W → Nat → Prop} (hl0 : l.stackTraces = false) {w : pw_W} {a1 a2 a3 : Int32} (h : wp_M_hasRight w a1 a2 a3 Q X) : pw_Con l g y_M_hasRight cx_M_hasRight [(10, 0), (0, a1), (0, a2), (0, a3)] w Q X :=
  pw_con (by decide +kernel) rfl rfl hl0 rfl (Nat.le_of_ble_eq_true rfl) (by simp) (vw_M_hasRight hl0 h)
theorem d_M_makesRight_0 : decode (pw_cc cx_M_makesRight) 0 = .ok (.aload_n 0, 1) := by decide +kernel
theorem d_M_makesRight_1 : decode (pw_cc cx_M_makesRight) 1 = .ok (.getfield 49, 3) := by decide +kernel
theorem d_M_makesRight_4 : decode (pw_cc cx_M_makesRight) 4 = .ok (.aload_n 0, 1) := by decide +kernel
theorem d_M_makesRight_5 : decode (pw_cc cx_M_makesRight) 5 = .ok (.getfield 131, 3) := by decide +kernel
theorem d_M_makesRight_8 : decode (pw_cc cx_M_makesRight) 8 = .ok (.iload_n 1, 1) := by decide +kernel
theorem d_M_makesRight_9 : decode (pw_cc cx_M_makesRight) 9 = .ok (.iastore, 1) := by decide +kernel
theorem d_M_makesRight_10 : decode (pw_cc cx_M_makesRight) 10 = .ok (.aload_n 0, 1) := by decide +kernel
theorem d_M_makesRight_11 : decode (pw_cc cx_M_makesRight) 11 = .ok (.getfield 52, 3) := by decide +kernel
theorem d_M_makesRight_14 : decode (pw_cc cx_M_makesRight) 14 = .ok (.aload_n 0, 1) := by decide +kernel
theorem d_M_makesRight_15 : decode (pw_cc cx_M_makesRight) 15 = .ok (.getfield 131, 3) := by decide +kernel
theorem d_M_makesRight_18 : decode (pw_cc cx_M_makesRight) 18 = .ok (.iload_n 2, 1) := by decide +kernel
theorem d_M_makesRight_19 : decode (pw_cc cx_M_makesRight) 19 = .ok (.iastore, 1) := by decide +kernel
theorem d_M_makesRight_20 : decode (pw_cc cx_M_makesRight) 20 = .ok (.aload_n 0, 1) := by decide +kernel
theorem d_M_makesRight_21 : decode (pw_cc cx_M_makesRight) 21 = .ok (.getfield 55, 3) := by decide +kernel
theorem d_M_makesRight_24 : decode (pw_cc cx_M_makesRight) 24 = .ok (.aload_n 0, 1) := by decide +kernel
theorem d_M_makesRight_25 : decode (pw_cc cx_M_makesRight) 25 = .ok (.getfield 131, 3) := by decide +kernel
theorem d_M_makesRight_28 : decode (pw_cc cx_M_makesRight) 28 = .ok (.iload_n 3, 1) := by decide +kernel
theorem d_M_makesRight_29 : decode (pw_cc cx_M_makesRight) 29 = .ok (.iastore, 1) := by decide +kernel
theorem d_M_makesRight_30 : decode (pw_cc cx_M_makesRight) 30 = .ok (.aload_n 0, 1) := by decide +kernel
theorem d_M_makesRight_31 : decode (pw_cc cx_M_makesRight) 31 = .ok (.getfield 58, 3) := by decide +kernel
theorem d_M_makesRight_34 : decode (pw_cc cx_M_makesRight) 34 = .ok (.aload_n 0, 1) := by decide +kernel
theorem d_M_makesRight_35 : decode (pw_cc cx_M_makesRight) 35 = .ok (.getfield 131, 3) := by decide +kernel
theorem d_M_makesRight_38 : decode (pw_cc cx_M_makesRight) 38 = .ok (.iload 4, 2) := by decide +kernel
theorem d_M_makesRight_40 : decode (pw_cc cx_M_makesRight) 40 = .ok (.iastore, 1) := by decide +kernel
theorem d_M_makesRight_41 : decode (pw_cc cx_M_makesRight) 41 = .ok (.aload_n 0, 1) := by decide +kernel
theorem d_M_makesRight_42 : decode (pw_cc cx_M_makesRight) 42 = .ok (.getfield 61, 3) := by decide +kernel
theorem d_M_makesRight_45 : decode (pw_cc cx_M_makesRight) 45 = .ok (.aload_n 0, 1) := by decide +kernel
theorem d_M_makesRight_46 : decode (pw_cc cx_M_makesRight) 46 = .ok (.getfield 131, 3) := by decide +kernel
theorem d_M_makesRight_49 : decode (pw_cc cx_M_makesRight) 49 = .ok (.iload 5, 2) := by decide +kernel
theorem d_M_makesRight_51 : decode (pw_cc cx_M_makesRight) 51 = .ok (.iastore, 1) := by decide +kernel
theorem d_M_makesRight_52 : decode (pw_cc cx_M_makesRight) 52 = .ok (.aload_n 0, 1) := by decide +kernel
theorem d_M_makesRight_53 : decode (pw_cc cx_M_makesRight) 53 = .ok (.getfield 64, 3) := by decide +kernel
theorem d_M_makesRight_56 : decode (pw_cc cx_M_makesRight) 56 = .ok (.aload_n 0, 1) := by decide +kernel
theorem d_M_makesRight_57 : decode (pw_cc cx_M_makesRight) 57 = .ok (.getfield 131, 3) := by decide +kernel
theorem d_M_makesRight_60 : decode (pw_cc cx_M_makesRight) 60 = .ok (.iconst 0, 1) := by decide +kernel
theorem d_M_makesRight_61 : decode (pw_cc cx_M_makesRight) 61 = .ok (.bastore, 1) := by decide +kernel
theorem d_M_makesRight_62 : decode (pw_cc cx_M_makesRight) 62 = .ok (.aload_n 0, 1) := by decide +kernel
theorem d_M_makesRight_63 : decode (pw_cc cx_M_makesRight) 63 = .ok (.dup, 1) := by decide +kernel
theorem d_M_makesRight_64 : decode (pw_cc cx_M_makesRight) 64 = .ok (.getfield 131, 3) := by decide +kernel
theorem d_M_makesRight_67 : decode (pw_cc cx_M_makesRight) 67 = .ok (.iconst 1, 1) := by decide +kernel
theorem d_M_makesRight_68 : decode (pw_cc cx_M_makesRight) 68 = .ok (.iadd, 1) := by decide +kernel
theorem d_M_makesRight_69 : decode (pw_cc cx_M_makesRight) 69 = .ok (.putfield 131, 3) := by decide +kernel
theorem d_M_makesRight_72 : decode (pw_cc cx_M_makesRight) 72 = .ok (.return_, 1) := by decide +kernel
set_option maxHeartbeats 4000000 in
set_option maxRecDepth 20000 in
def wp_M_makesRight (w : pw_W) (a1 a2 a3 a4 a5 : Int32) (Q : pw_W → Int32 → Prop) (X : pw_W → Nat → Prop) : Prop := w.1 8 0 20 = 0 ∧ pw_jn (w.1 8 0 26) (pw_ln w 220 0) ∧ ∀ w3, w3 = pw_ps w 220 0 (pw_i (w.1 8 0 26)) a1 → w3.1 8 0 21 = 0 ∧ pw_jn (w3.1 8 0 26) (pw_ln w3 221 0) ∧ ∀ w7, w7 = pw_ps w3 221 0 (pw_i (w3.1 8 0 26)) a2 → w7.1 8 0 22 = 0 ∧ pw_jn (w7.1 8 0 26) (pw_ln w7 222 0) ∧ ∀ w11, w11 = pw_ps w7 222 0 (pw_i (w7.1 8 0 26)) a3 → w11.1 8 0 23 = 0 ∧ pw_jn (w11.1 8 0 26) (pw_ln w11 223 0) ∧ ∀ w15, w15 = pw_ps w11 223 0 (pw_i (w11.1 8 0 26)) a4 → w15.1 8 0 24 = 0 ∧ pw_jn (w15.1 8 0 26) (pw_ln w15 224 0) ∧ ∀ w19, w19 = pw_ps w15 224 0 (pw_i (w15.1 8 0 26)) a5 → w19.1 8 0 25 = 0 ∧ pw_jn (w19.1 8 0 26) (pw_ln w19 225 0) ∧ ∀ w23, w23 = pw_ps w19 225 0 (pw_i (w19.1 8 0 26)) 0 → ∀ w25, w25 = pw_ps w23 8 0 26 ((w23.1 8 0 26) + 1) → Q w25 0
set_option maxHeartbeats 4000000 in
set_option maxRecDepth 20000 in
theorem vw_M_makesRight {l : Launch} {g : pw_G} {Q : pw_W → Int32 → Prop} {X : pw_W → Nat → Prop} (hl0 : l.stackTraces = false) {w : pw_W} {a1 a2 a3 a4 a5 : Int32} (h : wp_M_makesRight w a1 a2 a3 a4 a5 Q X) : pw_V l g cx_M_makesRight Q X 0 [(10, 0), (0, a1), (0, a2), (0, a3), (0, a4), (0, a5)] [] w := by
  unfold wp_M_makesRight at h
  refine pv_aload_n (n := 1) d_M_makesRight_0 rfl rfl rfl ?_
  obtain ⟨g1, h⟩ := h
  refine gt_M_49 (n := 4) rfl d_M_makesRight_1 (by decide) g1 rfl ?_
  refine pv_aload_n (n := 5) d_M_makesRight_4 rfl rfl rfl ?_
  refine gt_M_131 (n := 8) rfl d_M_makesRight_5 (by decide) rfl ?_
  refine pv_iload_n (n := 9) d_M_makesRight_8 rfl rfl rfl ?_
  obtain ⟨g2, h⟩ := h
  refine pv_iast1 (n := 10) (f := 220) (by decide) rfl (fun _ => rfl) d_M_makesRight_9 (by decide) g2 rfl (fun w3 e4 => ?_)
  replace h := h w3 e4
  refine pv_aload_n (n := 11) d_M_makesRight_10 rfl rfl rfl ?_
  obtain ⟨g5, h⟩ := h
  refine gt_M_52 (n := 14) rfl d_M_makesRight_11 (by decide) g5 rfl ?_
  refine pv_aload_n (n := 15) d_M_makesRight_14 rfl rfl rfl ?_
  refine gt_M_131 (n := 18) rfl d_M_makesRight_15 (by decide) rfl ?_
  refine pv_iload_n (n := 19) d_M_makesRight_18 rfl rfl rfl ?_
  obtain ⟨g6, h⟩ := h
  refine pv_iast1 (n := 20) (f := 221) (by decide) rfl (fun _ => rfl) d_M_makesRight_19 (by decide) g6 rfl (fun w7 e8 => ?_)
  replace h := h w7 e8
  refine pv_aload_n (n := 21) d_M_makesRight_20 rfl rfl rfl ?_
  obtain ⟨g9, h⟩ := h
  refine gt_M_55 (n := 24) rfl d_M_makesRight_21 (by decide) g9 rfl ?_
  refine pv_aload_n (n := 25) d_M_makesRight_24 rfl rfl rfl ?_
  refine gt_M_131 (n := 28) rfl d_M_makesRight_25 (by decide) rfl ?_
  refine pv_iload_n (n := 29) d_M_makesRight_28 rfl rfl rfl ?_
  obtain ⟨g10, h⟩ := h
  refine pv_iast1 (n := 30) (f := 222) (by decide) rfl (fun _ => rfl) d_M_makesRight_29 (by decide) g10 rfl (fun w11 e12 => ?_)
  replace h := h w11 e12
  refine pv_aload_n (n := 31) d_M_makesRight_30 rfl rfl rfl ?_
  obtain ⟨g13, h⟩ := h
  refine gt_M_58 (n := 34) rfl d_M_makesRight_31 (by decide) g13 rfl ?_
  refine pv_aload_n (n := 35) d_M_makesRight_34 rfl rfl rfl ?_
  refine gt_M_131 (n := 38) rfl d_M_makesRight_35 (by decide) rfl ?_
  refine pv_iload (n := 40) d_M_makesRight_38 rfl rfl ?_
  obtain ⟨g14, h⟩ := h
  refine pv_iast1 (n := 41) (f := 223) (by decide) rfl (fun _ => rfl) d_M_makesRight_40 (by decide) g14 rfl (fun w15 e16 => ?_)
  replace h := h w15 e16
  refine pv_aload_n (n := 42) d_M_makesRight_41 rfl rfl rfl ?_
  obtain ⟨g17, h⟩ := h
  refine gt_M_61 (n := 45) rfl d_M_makesRight_42 (by decide) g17 rfl ?_
  refine pv_aload_n (n := 46) d_M_makesRight_45 rfl rfl rfl ?_
  refine gt_M_131 (n := 49) rfl d_M_makesRight_46 (by decide) rfl ?_
  refine pv_iload (n := 51) d_M_makesRight_49 rfl rfl ?_
  obtain ⟨g18, h⟩ := h
  refine pv_iast1 (n := 52) (f := 224) (by decide) rfl (fun _ => rfl) d_M_makesRight_51 (by decide) g18 rfl (fun w19 e20 => ?_)
  replace h := h w19 e20
  refine pv_aload_n (n := 53) d_M_makesRight_52 rfl rfl rfl ?_
  obtain ⟨g21, h⟩ := h
  refine gt_M_64 (n := 56) rfl d_M_makesRight_53 (by decide) g21 rfl ?_
  refine pv_aload_n (n := 57) d_M_makesRight_56 rfl rfl rfl ?_
  refine gt_M_131 (n := 60) rfl d_M_makesRight_57 (by decide) rfl ?_
  refine pv_iconst (v := 0) (n := 61) d_M_makesRight_60 (by decide) rfl ?_
  obtain ⟨g22, h⟩ := h
  refine pv_zast1 (n := 62) (f := 225) (by decide) rfl (fun _ => rfl) d_M_makesRight_61 (by decide) g22 (by decide) rfl (fun w23 e24 => ?_)
  replace h := h w23 e24
  refine pv_aload_n (n := 63) d_M_makesRight_62 rfl rfl rfl ?_
  refine pv_dup (n := 64) d_M_makesRight_63 (by decide) rfl ?_
  refine gt_M_131 (n := 67) rfl d_M_makesRight_64 (by decide) rfl ?_
  refine pv_iconst (v := 1) (n := 68) d_M_makesRight_67 (by decide) rfl ?_
  refine pv_iadd (n := 69) d_M_makesRight_68 rfl ?_
  refine pt_M_131 (n := 72) rfl d_M_makesRight_69 (by decide) rfl (fun w25 e26 => ?_)
  replace h := h w25 e26
  exact pv_vret rfl rfl d_M_makesRight_72 h
set_option maxHeartbeats 4000000 in
set_option maxRecDepth 20000 in
theorem con_M_makesRight {l : Launch} {g : pw_G} {Q : pw_W → Int32 → Prop} {X : pw_W → Nat → Prop} (hl0 : l.stackTraces = false) {w : pw_W} {a1 a2 a3 a4 a5 : Int32} (h : wp_M_makesRight w a1 a2 a3 a4 a5 Q X) : pw_Con l g y_M_makesRight cx_M_makesRight [(10, 0), (0, a1), (0, a2), (0, a3), (0, a4), (0, a5)] w Q X :=
  pw_con (by decide +kernel) rfl rfl hl0 rfl (Nat.le_of_ble_eq_true rfl) (by simp) (vw_M_makesRight hl0 h)
theorem d_M_worth_0 : decode (pw_cc cx_M_worth) 0 = .ok (.iconst 2, 1) := by decide +kernel
theorem d_M_worth_1 : decode (pw_cc cx_M_worth) 1 = .ok (.aload_n 0, 1) := by decide +kernel
theorem d_M_worth_2 : decode (pw_cc cx_M_worth) 2 = .ok (.aload_n 0, 1) := by decide +kernel
theorem d_M_worth_3 : decode (pw_cc cx_M_worth) 3 = .ok (.getfield 52, 3) := by decide +kernel
theorem d_M_worth_6 : decode (pw_cc cx_M_worth) 6 = .ok (.iload_n 1, 1) := by decide +kernel
theorem d_M_worth_7 : decode (pw_cc cx_M_worth) 7 = .ok (.iaload, 1) := by decide +kernel
theorem d_M_worth_8 : decode (pw_cc cx_M_worth) 8 = .ok (.invokevirtual 138, 3) := by decide +kernel
theorem d_M_worth_11 : decode (pw_cc cx_M_worth) 11 = .ok (.imul, 1) := by decide +kernel
theorem d_M_worth_12 : decode (pw_cc cx_M_worth) 12 = .ok (.istore_n 2, 1) := by decide +kernel
theorem d_M_worth_13 : decode (pw_cc cx_M_worth) 13 = .ok (.iconst 0, 1) := by decide +kernel
theorem d_M_worth_14 : decode (pw_cc cx_M_worth) 14 = .ok (.istore_n 3, 1) := by decide +kernel
theorem d_M_worth_15 : decode (pw_cc cx_M_worth) 15 = .ok (.iload_n 3, 1) := by decide +kernel
theorem d_M_worth_16 : decode (pw_cc cx_M_worth) 16 = .ok (.iload_n 1, 1) := by decide +kernel
theorem d_M_worth_17 : decode (pw_cc cx_M_worth) 17 = .ok (.if_icmp .ge 45, 3) := by decide +kernel
theorem d_M_worth_20 : decode (pw_cc cx_M_worth) 20 = .ok (.iload_n 2, 1) := by decide +kernel
theorem d_M_worth_21 : decode (pw_cc cx_M_worth) 21 = .ok (.aload_n 0, 1) := by decide +kernel
theorem d_M_worth_22 : decode (pw_cc cx_M_worth) 22 = .ok (.iload_n 3, 1) := by decide +kernel
theorem d_M_worth_23 : decode (pw_cc cx_M_worth) 23 = .ok (.aload_n 0, 1) := by decide +kernel
theorem d_M_worth_24 : decode (pw_cc cx_M_worth) 24 = .ok (.getfield 52, 3) := by decide +kernel
theorem d_M_worth_27 : decode (pw_cc cx_M_worth) 27 = .ok (.iload_n 1, 1) := by decide +kernel
theorem d_M_worth_28 : decode (pw_cc cx_M_worth) 28 = .ok (.iaload, 1) := by decide +kernel
theorem d_M_worth_29 : decode (pw_cc cx_M_worth) 29 = .ok (.invokevirtual 134, 3) := by decide +kernel
theorem d_M_worth_32 : decode (pw_cc cx_M_worth) 32 = .ok (.ifCond .eq 21, 3) := by decide +kernel
theorem d_M_worth_35 : decode (pw_cc cx_M_worth) 35 = .ok (.aload_n 0, 1) := by decide +kernel
theorem d_M_worth_36 : decode (pw_cc cx_M_worth) 36 = .ok (.getfield 49, 3) := by decide +kernel
theorem d_M_worth_39 : decode (pw_cc cx_M_worth) 39 = .ok (.iload_n 3, 1) := by decide +kernel
theorem d_M_worth_40 : decode (pw_cc cx_M_worth) 40 = .ok (.iaload, 1) := by decide +kernel
theorem d_M_worth_41 : decode (pw_cc cx_M_worth) 41 = .ok (.ifCond .ne 12, 3) := by decide +kernel
theorem d_M_worth_44 : decode (pw_cc cx_M_worth) 44 = .ok (.aload_n 0, 1) := by decide +kernel
theorem d_M_worth_45 : decode (pw_cc cx_M_worth) 45 = .ok (.getfield 58, 3) := by decide +kernel
theorem d_M_worth_48 : decode (pw_cc cx_M_worth) 48 = .ok (.iload_n 3, 1) := by decide +kernel
theorem d_M_worth_49 : decode (pw_cc cx_M_worth) 49 = .ok (.iaload, 1) := by decide +kernel
theorem d_M_worth_50 : decode (pw_cc cx_M_worth) 50 = .ok (.goto 4, 3) := by decide +kernel
theorem d_M_worth_53 : decode (pw_cc cx_M_worth) 53 = .ok (.iconst 0, 1) := by decide +kernel
theorem d_M_worth_54 : decode (pw_cc cx_M_worth) 54 = .ok (.isub, 1) := by decide +kernel
theorem d_M_worth_55 : decode (pw_cc cx_M_worth) 55 = .ok (.istore_n 2, 1) := by decide +kernel
theorem d_M_worth_56 : decode (pw_cc cx_M_worth) 56 = .ok (.iinc 3 1, 3) := by decide +kernel
theorem d_M_worth_59 : decode (pw_cc cx_M_worth) 59 = .ok (.goto (-44), 3) := by decide +kernel
theorem d_M_worth_62 : decode (pw_cc cx_M_worth) 62 = .ok (.aload_n 0, 1) := by decide +kernel
theorem d_M_worth_63 : decode (pw_cc cx_M_worth) 63 = .ok (.getfield 49, 3) := by decide +kernel
theorem d_M_worth_66 : decode (pw_cc cx_M_worth) 66 = .ok (.iload_n 1, 1) := by decide +kernel
theorem d_M_worth_67 : decode (pw_cc cx_M_worth) 67 = .ok (.iaload, 1) := by decide +kernel
theorem d_M_worth_68 : decode (pw_cc cx_M_worth) 68 = .ok (.ifCond .ne 7, 3) := by decide +kernel
theorem d_M_worth_71 : decode (pw_cc cx_M_worth) 71 = .ok (.iload_n 2, 1) := by decide +kernel
theorem d_M_worth_72 : decode (pw_cc cx_M_worth) 72 = .ok (.ifCond .ge 7, 3) := by decide +kernel
theorem d_M_worth_75 : decode (pw_cc cx_M_worth) 75 = .ok (.iconst 0, 1) := by decide +kernel
theorem d_M_worth_76 : decode (pw_cc cx_M_worth) 76 = .ok (.goto 13, 3) := by decide +kernel
theorem d_M_worth_79 : decode (pw_cc cx_M_worth) 79 = .ok (.aload_n 0, 1) := by decide +kernel
theorem d_M_worth_80 : decode (pw_cc cx_M_worth) 80 = .ok (.getfield 58, 3) := by decide +kernel
theorem d_M_worth_83 : decode (pw_cc cx_M_worth) 83 = .ok (.iload_n 1, 1) := by decide +kernel
theorem d_M_worth_84 : decode (pw_cc cx_M_worth) 84 = .ok (.iaload, 1) := by decide +kernel
theorem d_M_worth_85 : decode (pw_cc cx_M_worth) 85 = .ok (.iload_n 2, 1) := by decide +kernel
theorem d_M_worth_86 : decode (pw_cc cx_M_worth) 86 = .ok (.invokestatic 142, 3) := by decide +kernel
theorem d_M_worth_89 : decode (pw_cc cx_M_worth) 89 = .ok (.ireturn, 1) := by decide +kernel
set_option maxHeartbeats 4000000 in
set_option maxRecDepth 20000 in
def lp_M_worth_15 (Q : pw_W → Int32 → Prop) (X : pw_W → Nat → Prop) : Nat → Int32 → Int32 → Int32 → pw_W → Prop := fun k => Nat.rec (motive := fun _ => Int32 → Int32 → Int32 → pw_W → Prop) (fun _ _ _ _ => False) (fun _ ih a1 a2 a3 w => (a1 ≤ a3 → w.1 8 0 20 = 0 ∧ pw_jn a1 (pw_ln w 220 0) ∧ (¬ (w.1 220 0 (pw_i a1)) = 0 → Q w 0) ∧ ((w.1 220 0 (pw_i a1)) = 0 → (0 ≤ a2 → w.1 8 0 23 = 0 ∧ pw_jn a1 (pw_ln w 223 0) ∧ wp_M_lesser w (w.1 223 0 (pw_i a1)) a2 (fun w8 r9 => Q w8 r9) (fun _ _ => False)) ∧ (¬ 0 ≤ a2 → Q w 0))) ∧ (¬ a1 ≤ a3 → w.1 8 0 21 = 0 ∧ pw_jn a1 (pw_ln w 221 0) ∧ wp_M_isOn w a3 (w.1 221 0 (pw_i a1)) (fun w12 r13 => (r13 = 0 → ∀ v15, v15 = (a2 - 0) → ih a1 v15 (a3 + 1) w12) ∧ (¬ r13 = 0 → w12.1 8 0 20 = 0 ∧ pw_jn a3 (pw_ln w12 220 0) ∧ (¬ (w12.1 220 0 (pw_i a3)) = 0 → ∀ v20, v20 = (a2 - 0) → ih a1 v20 (a3 + 1) w12) ∧ ((w12.1 220 0 (pw_i a3)) = 0 → w12.1 8 0 23 = 0 ∧ pw_jn a3 (pw_ln w12 223 0) ∧ ∀ v24, v24 = (a2 - (w12.1 223 0 (pw_i a3))) → ih a1 v24 (a3 + 1) w12))) (fun _ _ => False))) k
set_option maxHeartbeats 4000000 in
set_option maxRecDepth 20000 in
theorem lp_M_worth_15_s {Q : pw_W → Int32 → Prop} {X : pw_W → Nat → Prop}  {k : Nat} {a1 a2 a3 : Int32} {w : pw_W} : lp_M_worth_15 Q X (k + 1) a1 a2 a3 w = (let ih := lp_M_worth_15 Q X k; (a1 ≤ a3 → w.1 8 0 20 = 0 ∧ pw_jn a1 (pw_ln w 220 0) ∧ (¬ (w.1 220 0 (pw_i a1)) = 0 → Q w 0) ∧ ((w.1 220 0 (pw_i a1)) = 0 → (0 ≤ a2 → w.1 8 0 23 = 0 ∧ pw_jn a1 (pw_ln w 223 0) ∧ wp_M_lesser w (w.1 223 0 (pw_i a1)) a2 (fun w8 r9 => Q w8 r9) (fun _ _ => False)) ∧ (¬ 0 ≤ a2 → Q w 0))) ∧ (¬ a1 ≤ a3 → w.1 8 0 21 = 0 ∧ pw_jn a1 (pw_ln w 221 0) ∧ wp_M_isOn w a3 (w.1 221 0 (pw_i a1)) (fun w12 r13 => (r13 = 0 → ∀ v15, v15 = (a2 - 0) → ih a1 v15 (a3 + 1) w12) ∧ (¬ r13 = 0 → w12.1 8 0 20 = 0 ∧ pw_jn a3 (pw_ln w12 220 0) ∧ (¬ (w12.1 220 0 (pw_i a3)) = 0 → ∀ v20, v20 = (a2 - 0) → ih a1 v20 (a3 + 1) w12) ∧ ((w12.1 220 0 (pw_i a3)) = 0 → w12.1 8 0 23 = 0 ∧ pw_jn a3 (pw_ln w12 223 0) ∧ ∀ v24, v24 = (a2 - (w12.1 223 0 (pw_i a3))) → ih a1 v24 (a3 + 1) w12))) (fun _ _ => False))) := rfl
set_option maxHeartbeats 4000000 in
set_option maxRecDepth 20000 in
theorem vlp_M_worth_15 {l : Launch} {g : pw_G} {Q : pw_W → Int32 → Prop} {X : pw_W → Nat → Prop} (hl0 : l.stackTraces = false) : ∀ (k : Nat) (a1 a2 a3 : Int32) (w : pw_W), lp_M_worth_15 Q X k a1 a2 a3 w → pw_V l g cx_M_worth Q X 15 [(10, 0), (0, a1), (0, a2), (0, a3)] [] w := by
  intro k; induction k with
  | zero => intro _ _ _ _ h; exact h.elim
  | succ k ih =>
    intro a1 a2 a3 w h
    rw [lp_M_worth_15_s] at h
    refine pv_iload_n (n := 16) d_M_worth_15 rfl rfl rfl ?_
    refine pv_iload_n (n := 17) d_M_worth_16 rfl rfl rfl ?_
    refine pv_icmp_ge (n := 20) (tgt := 62) d_M_worth_17 (by decide) rfl (fun c1 => ?_) (fun c1 => ?_)
    · replace h := h.1 c1
      refine pv_aload_n (n := 63) d_M_worth_62 rfl rfl rfl ?_
      obtain ⟨g2, h⟩ := h
      refine gt_M_49 (n := 66) rfl d_M_worth_63 (by decide) g2 rfl ?_
      refine pv_iload_n (n := 67) d_M_worth_66 rfl rfl rfl ?_
      obtain ⟨g3, h⟩ := h
      refine pv_iald (n := 68) (f := 220) (by decide) rfl d_M_worth_67 (by decide) g3 rfl ?_
      refine pv_if_ne (n := 71) (tgt := 75) d_M_worth_68 (by decide) rfl (fun c4 => ?_) (fun c4 => ?_)
      · replace h := h.1 c4
        refine pv_iconst (v := 0) (n := 76) d_M_worth_75 (by decide) rfl ?_
        refine pv_goto (tgt := 89) d_M_worth_76 (by decide) ?_
        exact pv_iret rfl rfl d_M_worth_89 h
      · replace h := h.2 c4
        refine pv_iload_n (n := 72) d_M_worth_71 rfl rfl rfl ?_
        refine pv_if_ge (n := 75) (tgt := 79) d_M_worth_72 (by decide) rfl (fun c5 => ?_) (fun c5 => ?_)
        · replace h := h.1 c5
          refine pv_aload_n (n := 80) d_M_worth_79 rfl rfl rfl ?_
          obtain ⟨g6, h⟩ := h
          refine gt_M_58 (n := 83) rfl d_M_worth_80 (by decide) g6 rfl ?_
          refine pv_iload_n (n := 84) d_M_worth_83 rfl rfl rfl ?_
          obtain ⟨g7, h⟩ := h
          refine pv_iald (n := 85) (f := 223) (by decide) rfl d_M_worth_84 (by decide) g7 rfl ?_
          refine pv_iload_n (n := 86) d_M_worth_85 rfl rfl rfl ?_
          refine pv_callS (n := 89) [(0, (w.1 223 0 (pw_i a1))), (0, a2)] [] (con_M_lesser hl0 h) q_468 q_469 q_458 q_467 pyo_M_lesser (by decide) rfl rfl d_M_worth_86 rfl (fun w8 r9 h _ => ?_) (fun _ _ h => h.elim)
          show pw_V l g cx_M_worth Q X 89 [(10, 0), (0, a1), (0, a2), (0, a3)] [(0, r9)] w8
          exact pv_iret rfl rfl d_M_worth_89 h
        · replace h := h.2 c5
          refine pv_iconst (v := 0) (n := 76) d_M_worth_75 (by decide) rfl ?_
          refine pv_goto (tgt := 89) d_M_worth_76 (by decide) ?_
          exact pv_iret rfl rfl d_M_worth_89 h
    · replace h := h.2 c1
      refine pv_iload_n (n := 21) d_M_worth_20 rfl rfl rfl ?_
      refine pv_aload_n (n := 22) d_M_worth_21 rfl rfl rfl ?_
      refine pv_iload_n (n := 23) d_M_worth_22 rfl rfl rfl ?_
      refine pv_aload_n (n := 24) d_M_worth_23 rfl rfl rfl ?_
      obtain ⟨g10, h⟩ := h
      refine gt_M_52 (n := 27) rfl d_M_worth_24 (by decide) g10 rfl ?_
      refine pv_iload_n (n := 28) d_M_worth_27 rfl rfl rfl ?_
      obtain ⟨g11, h⟩ := h
      refine pv_iald (n := 29) (f := 221) (by decide) rfl d_M_worth_28 (by decide) g11 rfl ?_
      refine pv_callV (n := 32) (x := 0) [(0, a3), (0, (w.1 221 0 (pw_i a1)))] [(0, a2)] (con_M_isOn hl0 h) pw_cf8 rfl q_464 q_465 q_466 q_458 q_463 pyo_M_isOn (by decide) rfl rfl (by decide) d_M_worth_29 rfl (fun w12 r13 h _ => ?_) (fun _ _ h => h.elim)
      show pw_V l g cx_M_worth Q X 32 [(10, 0), (0, a1), (0, a2), (0, a3)] [(0, r13), (0, a2)] w12
      refine pv_if_eq (n := 35) (tgt := 53) d_M_worth_32 (by decide) rfl (fun c14 => ?_) (fun c14 => ?_)
      · replace h := h.1 c14
        refine pv_iconst (v := 0) (n := 54) d_M_worth_53 (by decide) rfl ?_
        refine pv_isub (n := 55) d_M_worth_54 rfl ?_
        refine pv_nm (fun v15 e16 => ?_)
        replace h := h v15 e16
        refine pv_istore_n (n := 56) (L' := [(10, 0), (0, a1), (0, v15), (0, a3)]) d_M_worth_55 rfl (by decide) rfl rfl ?_
        refine pv_iinc (v := (a3 + 1)) (n := 59) (L1 := [(10, 0), (0, a1), (0, v15), (0, (a3 + 1))]) d_M_worth_56 rfl rfl rfl (by decide) rfl ?_
        refine pv_goto (tgt := 15) d_M_worth_59 (by decide) ?_
        exact ih _ _ _ _ h
      · replace h := h.2 c14
        refine pv_aload_n (n := 36) d_M_worth_35 rfl rfl rfl ?_
        obtain ⟨g17, h⟩ := h
        refine gt_M_49 (n := 39) rfl d_M_worth_36 (by decide) g17 rfl ?_
        refine pv_iload_n (n := 40) d_M_worth_39 rfl rfl rfl ?_
        obtain ⟨g18, h⟩ := h
        refine pv_iald (n := 41) (f := 220) (by decide) rfl d_M_worth_40 (by decide) g18 rfl ?_
        refine pv_if_ne (n := 44) (tgt := 53) d_M_worth_41 (by decide) rfl (fun c19 => ?_) (fun c19 => ?_)
        · replace h := h.1 c19
          refine pv_iconst (v := 0) (n := 54) d_M_worth_53 (by decide) rfl ?_
          refine pv_isub (n := 55) d_M_worth_54 rfl ?_
          refine pv_nm (fun v20 e21 => ?_)
          replace h := h v20 e21
          refine pv_istore_n (n := 56) (L' := [(10, 0), (0, a1), (0, v20), (0, a3)]) d_M_worth_55 rfl (by decide) rfl rfl ?_
          refine pv_iinc (v := (a3 + 1)) (n := 59) (L1 := [(10, 0), (0, a1), (0, v20), (0, (a3 + 1))]) d_M_worth_56 rfl rfl rfl (by decide) rfl ?_
          refine pv_goto (tgt := 15) d_M_worth_59 (by decide) ?_
          exact ih _ _ _ _ h
        · replace h := h.2 c19
          refine pv_aload_n (n := 45) d_M_worth_44 rfl rfl rfl ?_
          obtain ⟨g22, h⟩ := h
          refine gt_M_58 (n := 48) rfl d_M_worth_45 (by decide) g22 rfl ?_
          refine pv_iload_n (n := 49) d_M_worth_48 rfl rfl rfl ?_
          obtain ⟨g23, h⟩ := h
          refine pv_iald (n := 50) (f := 223) (by decide) rfl d_M_worth_49 (by decide) g23 rfl ?_
          refine pv_goto (tgt := 54) d_M_worth_50 (by decide) ?_
          refine pv_isub (n := 55) d_M_worth_54 rfl ?_
          refine pv_nm (fun v24 e25 => ?_)
          replace h := h v24 e25
          refine pv_istore_n (n := 56) (L' := [(10, 0), (0, a1), (0, v24), (0, a3)]) d_M_worth_55 rfl (by decide) rfl rfl ?_
          refine pv_iinc (v := (a3 + 1)) (n := 59) (L1 := [(10, 0), (0, a1), (0, v24), (0, (a3 + 1))]) d_M_worth_56 rfl rfl rfl (by decide) rfl ?_
          refine pv_goto (tgt := 15) d_M_worth_59 (by decide) ?_
          exact ih _ _ _ _ h
set_option maxHeartbeats 4000000 in
set_option maxRecDepth 20000 in
def wp_M_worth (w : pw_W) (a1 : Int32) (Q : pw_W → Int32 → Prop) (X : pw_W → Nat → Prop) : Prop := w.1 8 0 21 = 0 ∧ pw_jn a1 (pw_ln w 221 0) ∧ wp_M_areaOf w (w.1 221 0 (pw_i a1)) (fun w28 r29 => ∀ v30, v30 = ((2 : Int32) * r29) → ∃ k32, lp_M_worth_15 Q X k32 a1 v30 0 w28) (fun _ _ => False)
set_option maxHeartbeats 4000000 in
set_option maxRecDepth 20000 in
theorem vw_M_worth {l : Launch} {g : pw_G} {Q : pw_W → Int32 → Prop} {X : pw_W → Nat → Prop} (hl0 : l.stackTraces = false) {w : pw_W} {a1 : Int32} (h : wp_M_worth w a1 Q X) : pw_V l g cx_M_worth Q X 0 [(10, 0), (0, a1), (1, 0), (1, 0)] [] w := by
  unfold wp_M_worth at h
  refine pv_iconst (v := 2) (n := 1) d_M_worth_0 (by decide) rfl ?_
  refine pv_aload_n (n := 2) d_M_worth_1 rfl rfl rfl ?_
  refine pv_aload_n (n := 3) d_M_worth_2 rfl rfl rfl ?_
  obtain ⟨g26, h⟩ := h
  refine gt_M_52 (n := 6) rfl d_M_worth_3 (by decide) g26 rfl ?_
  refine pv_iload_n (n := 7) d_M_worth_6 rfl rfl rfl ?_
  obtain ⟨g27, h⟩ := h
  refine pv_iald (n := 8) (f := 221) (by decide) rfl d_M_worth_7 (by decide) g27 rfl ?_
  refine pv_callV (n := 11) (x := 0) [(0, (w.1 221 0 (pw_i a1)))] [(0, 2)] (con_M_areaOf hl0 h) pw_cf8 rfl q_471 q_472 q_473 q_458 q_470 pyo_M_areaOf (by decide) rfl rfl (by decide) d_M_worth_8 rfl (fun w28 r29 h _ => ?_) (fun _ _ h => h.elim)
  show pw_V l g cx_M_worth Q X 11 [(10, 0), (0, a1), (1, 0), (1, 0)] [(0, r29), (0, 2)] w28
  refine pv_imul (n := 12) d_M_worth_11 rfl ?_
  refine pv_nm (fun v30 e31 => ?_)
  replace h := h v30 e31
  refine pv_istore_n (n := 13) (L' := [(10, 0), (0, a1), (0, v30), (1, 0)]) d_M_worth_12 rfl (by decide) rfl rfl ?_
  refine pv_iconst (v := 0) (n := 14) d_M_worth_13 (by decide) rfl ?_
  refine pv_istore_n (n := 15) (L' := [(10, 0), (0, a1), (0, v30), (0, 0)]) d_M_worth_14 rfl (by decide) rfl rfl ?_
  obtain ⟨k32, h⟩ := h
  exact vlp_M_worth_15 hl0 _ _ _ _ _ h
set_option maxHeartbeats 4000000 in
set_option maxRecDepth 20000 in
theorem con_M_worth {l : Launch} {g : pw_G} {Q : pw_W → Int32 → Prop} {X : pw_W → Nat → Prop} (hl0 : l.stackTraces = false) {w : pw_W} {a1 : Int32} (h : wp_M_worth w a1 Q X) : pw_Con l g y_M_worth cx_M_worth [(10, 0), (0, a1)] w Q X :=
  pw_con (by decide +kernel) rfl rfl hl0 rfl (Nat.le_of_ble_eq_true rfl) (by simp) (vw_M_worth hl0 h)
theorem d_M_worthOf_0 : decode (pw_cc cx_M_worthOf) 0 = .ok (.iconst 0, 1) := by decide +kernel
theorem d_M_worthOf_1 : decode (pw_cc cx_M_worthOf) 1 = .ok (.istore_n 3, 1) := by decide +kernel
theorem d_M_worthOf_2 : decode (pw_cc cx_M_worthOf) 2 = .ok (.iconst 0, 1) := by decide +kernel
theorem d_M_worthOf_3 : decode (pw_cc cx_M_worthOf) 3 = .ok (.istore 4, 2) := by decide +kernel
theorem d_M_worthOf_5 : decode (pw_cc cx_M_worthOf) 5 = .ok (.iload 4, 2) := by decide +kernel
theorem d_M_worthOf_7 : decode (pw_cc cx_M_worthOf) 7 = .ok (.aload_n 0, 1) := by decide +kernel
theorem d_M_worthOf_8 : decode (pw_cc cx_M_worthOf) 8 = .ok (.getfield 131, 3) := by decide +kernel
theorem d_M_worthOf_11 : decode (pw_cc cx_M_worthOf) 11 = .ok (.if_icmp .ge 43, 3) := by decide +kernel
theorem d_M_worthOf_14 : decode (pw_cc cx_M_worthOf) 14 = .ok (.iload_n 3, 1) := by decide +kernel
theorem d_M_worthOf_15 : decode (pw_cc cx_M_worthOf) 15 = .ok (.aload_n 0, 1) := by decide +kernel
theorem d_M_worthOf_16 : decode (pw_cc cx_M_worthOf) 16 = .ok (.iload 4, 2) := by decide +kernel
theorem d_M_worthOf_18 : decode (pw_cc cx_M_worthOf) 18 = .ok (.iload_n 2, 1) := by decide +kernel
theorem d_M_worthOf_19 : decode (pw_cc cx_M_worthOf) 19 = .ok (.invokevirtual 134, 3) := by decide +kernel
theorem d_M_worthOf_22 : decode (pw_cc cx_M_worthOf) 22 = .ok (.ifCond .eq 23, 3) := by decide +kernel
theorem d_M_worthOf_25 : decode (pw_cc cx_M_worthOf) 25 = .ok (.aload_n 0, 1) := by decide +kernel
theorem d_M_worthOf_26 : decode (pw_cc cx_M_worthOf) 26 = .ok (.getfield 55, 3) := by decide +kernel
theorem d_M_worthOf_29 : decode (pw_cc cx_M_worthOf) 29 = .ok (.iload 4, 2) := by decide +kernel
theorem d_M_worthOf_31 : decode (pw_cc cx_M_worthOf) 31 = .ok (.iaload, 1) := by decide +kernel
theorem d_M_worthOf_32 : decode (pw_cc cx_M_worthOf) 32 = .ok (.iload_n 1, 1) := by decide +kernel
theorem d_M_worthOf_33 : decode (pw_cc cx_M_worthOf) 33 = .ok (.if_icmp .ne 12, 3) := by decide +kernel
theorem d_M_worthOf_36 : decode (pw_cc cx_M_worthOf) 36 = .ok (.aload_n 0, 1) := by decide +kernel
theorem d_M_worthOf_37 : decode (pw_cc cx_M_worthOf) 37 = .ok (.iload 4, 2) := by decide +kernel
theorem d_M_worthOf_39 : decode (pw_cc cx_M_worthOf) 39 = .ok (.invokevirtual 146, 3) := by decide +kernel
theorem d_M_worthOf_42 : decode (pw_cc cx_M_worthOf) 42 = .ok (.goto 4, 3) := by decide +kernel
theorem d_M_worthOf_45 : decode (pw_cc cx_M_worthOf) 45 = .ok (.iconst 0, 1) := by decide +kernel
theorem d_M_worthOf_46 : decode (pw_cc cx_M_worthOf) 46 = .ok (.iadd, 1) := by decide +kernel
theorem d_M_worthOf_47 : decode (pw_cc cx_M_worthOf) 47 = .ok (.istore_n 3, 1) := by decide +kernel
theorem d_M_worthOf_48 : decode (pw_cc cx_M_worthOf) 48 = .ok (.iinc 4 1, 3) := by decide +kernel
theorem d_M_worthOf_51 : decode (pw_cc cx_M_worthOf) 51 = .ok (.goto (-46), 3) := by decide +kernel
theorem d_M_worthOf_54 : decode (pw_cc cx_M_worthOf) 54 = .ok (.iload_n 3, 1) := by decide +kernel
theorem d_M_worthOf_55 : decode (pw_cc cx_M_worthOf) 55 = .ok (.ireturn, 1) := by decide +kernel
set_option maxHeartbeats 4000000 in
set_option maxRecDepth 20000 in
def lp_M_worthOf_5 (Q : pw_W → Int32 → Prop) (X : pw_W → Nat → Prop) : Nat → Int32 → Int32 → Int32 → Int32 → pw_W → Prop := fun k => Nat.rec (motive := fun _ => Int32 → Int32 → Int32 → Int32 → pw_W → Prop) (fun _ _ _ _ _ => False) (fun _ ih a1 a2 a3 a4 w => ((w.1 8 0 26) ≤ a4 → Q w a3) ∧ (¬ (w.1 8 0 26) ≤ a4 → wp_M_isOn w a4 a2 (fun w2 r3 => (r3 = 0 → ∀ v5, v5 = (a3 + 0) → ih a1 a2 v5 (a4 + 1) w2) ∧ (¬ r3 = 0 → w2.1 8 0 22 = 0 ∧ pw_jn a4 (pw_ln w2 222 0) ∧ (¬ (w2.1 222 0 (pw_i a4)) = a1 → ∀ v10, v10 = (a3 + 0) → ih a1 a2 v10 (a4 + 1) w2) ∧ ((w2.1 222 0 (pw_i a4)) = a1 → wp_M_worth w2 a4 (fun w12 r13 => ∀ v14, v14 = (a3 + r13) → ih a1 a2 v14 (a4 + 1) w12) (fun _ _ => False)))) (fun _ _ => False))) k
set_option maxHeartbeats 4000000 in
set_option maxRecDepth 20000 in
theorem lp_M_worthOf_5_s {Q : pw_W → Int32 → Prop} {X : pw_W → Nat → Prop}  {k : Nat} {a1 a2 a3 a4 : Int32} {w : pw_W} : lp_M_worthOf_5 Q X (k + 1) a1 a2 a3 a4 w = (let ih := lp_M_worthOf_5 Q X k; ((w.1 8 0 26) ≤ a4 → Q w a3) ∧ (¬ (w.1 8 0 26) ≤ a4 → wp_M_isOn w a4 a2 (fun w2 r3 => (r3 = 0 → ∀ v5, v5 = (a3 + 0) → ih a1 a2 v5 (a4 + 1) w2) ∧ (¬ r3 = 0 → w2.1 8 0 22 = 0 ∧ pw_jn a4 (pw_ln w2 222 0) ∧ (¬ (w2.1 222 0 (pw_i a4)) = a1 → ∀ v10, v10 = (a3 + 0) → ih a1 a2 v10 (a4 + 1) w2) ∧ ((w2.1 222 0 (pw_i a4)) = a1 → wp_M_worth w2 a4 (fun w12 r13 => ∀ v14, v14 = (a3 + r13) → ih a1 a2 v14 (a4 + 1) w12) (fun _ _ => False)))) (fun _ _ => False))) := rfl
set_option maxHeartbeats 4000000 in
set_option maxRecDepth 20000 in
theorem vlp_M_worthOf_5 {l : Launch} {g : pw_G} {Q : pw_W → Int32 → Prop} {X : pw_W → Nat → Prop} (hl0 : l.stackTraces = false) : ∀ (k : Nat) (a1 a2 a3 a4 : Int32) (w : pw_W), lp_M_worthOf_5 Q X k a1 a2 a3 a4 w → pw_V l g cx_M_worthOf Q X 5 [(10, 0), (0, a1), (0, a2), (0, a3), (0, a4)] [] w := by
  intro k; induction k with
  | zero => intro _ _ _ _ _ h; exact h.elim
  | succ k ih =>
    intro a1 a2 a3 a4 w h
    rw [lp_M_worthOf_5_s] at h
    refine pv_iload (n := 7) d_M_worthOf_5 rfl rfl ?_
    refine pv_aload_n (n := 8) d_M_worthOf_7 rfl rfl rfl ?_
    refine gt_M_131 (n := 11) rfl d_M_worthOf_8 (by decide) rfl ?_
    refine pv_icmp_ge (n := 14) (tgt := 54) d_M_worthOf_11 (by decide) rfl (fun c1 => ?_) (fun c1 => ?_)
    · replace h := h.1 c1
      refine pv_iload_n (n := 55) d_M_worthOf_54 rfl rfl rfl ?_
      exact pv_iret rfl rfl d_M_worthOf_55 h
    · replace h := h.2 c1
      refine pv_iload_n (n := 15) d_M_worthOf_14 rfl rfl rfl ?_
      refine pv_aload_n (n := 16) d_M_worthOf_15 rfl rfl rfl ?_
      refine pv_iload (n := 18) d_M_worthOf_16 rfl rfl ?_
      refine pv_iload_n (n := 19) d_M_worthOf_18 rfl rfl rfl ?_
      refine pv_callV (n := 22) (x := 0) [(0, a4), (0, a2)] [(0, a3)] (con_M_isOn hl0 h) pw_cf8 rfl q_464 q_465 q_466 q_458 q_463 pyo_M_isOn (by decide) rfl rfl (by decide) d_M_worthOf_19 rfl (fun w2 r3 h _ => ?_) (fun _ _ h => h.elim)
      show pw_V l g cx_M_worthOf Q X 22 [(10, 0), (0, a1), (0, a2), (0, a3), (0, a4)] [(0, r3), (0, a3)] w2
      refine pv_if_eq (n := 25) (tgt := 45) d_M_worthOf_22 (by decide) rfl (fun c4 => ?_) (fun c4 => ?_)
      · replace h := h.1 c4
        refine pv_iconst (v := 0) (n := 46) d_M_worthOf_45 (by decide) rfl ?_
        refine pv_iadd (n := 47) d_M_worthOf_46 rfl ?_
        refine pv_nm (fun v5 e6 => ?_)
        replace h := h v5 e6
        refine pv_istore_n (n := 48) (L' := [(10, 0), (0, a1), (0, a2), (0, v5), (0, a4)]) d_M_worthOf_47 rfl (by decide) rfl rfl ?_
        refine pv_iinc (v := (a4 + 1)) (n := 51) (L1 := [(10, 0), (0, a1), (0, a2), (0, v5), (0, (a4 + 1))]) d_M_worthOf_48 rfl rfl rfl (by decide) rfl ?_
        refine pv_goto (tgt := 5) d_M_worthOf_51 (by decide) ?_
        exact ih _ _ _ _ _ h
      · replace h := h.2 c4
        refine pv_aload_n (n := 26) d_M_worthOf_25 rfl rfl rfl ?_
        obtain ⟨g7, h⟩ := h
        refine gt_M_55 (n := 29) rfl d_M_worthOf_26 (by decide) g7 rfl ?_
        refine pv_iload (n := 31) d_M_worthOf_29 rfl rfl ?_
        obtain ⟨g8, h⟩ := h
        refine pv_iald (n := 32) (f := 222) (by decide) rfl d_M_worthOf_31 (by decide) g8 rfl ?_
        refine pv_iload_n (n := 33) d_M_worthOf_32 rfl rfl rfl ?_
        refine pv_icmp_ne (n := 36) (tgt := 45) d_M_worthOf_33 (by decide) rfl (fun c9 => ?_) (fun c9 => ?_)
        · replace h := h.1 c9
          refine pv_iconst (v := 0) (n := 46) d_M_worthOf_45 (by decide) rfl ?_
          refine pv_iadd (n := 47) d_M_worthOf_46 rfl ?_
          refine pv_nm (fun v10 e11 => ?_)
          replace h := h v10 e11
          refine pv_istore_n (n := 48) (L' := [(10, 0), (0, a1), (0, a2), (0, v10), (0, a4)]) d_M_worthOf_47 rfl (by decide) rfl rfl ?_
          refine pv_iinc (v := (a4 + 1)) (n := 51) (L1 := [(10, 0), (0, a1), (0, a2), (0, v10), (0, (a4 + 1))]) d_M_worthOf_48 rfl rfl rfl (by decide) rfl ?_
          refine pv_goto (tgt := 5) d_M_worthOf_51 (by decide) ?_
          exact ih _ _ _ _ _ h
        · replace h := h.2 c9
          refine pv_aload_n (n := 37) d_M_worthOf_36 rfl rfl rfl ?_
          refine pv_iload (n := 39) d_M_worthOf_37 rfl rfl ?_
          refine pv_callV (n := 42) (x := 0) [(0, a4)] [(0, a3)] (con_M_worth hl0 h) pw_cf8 rfl q_475 q_476 q_477 q_458 q_474 pyo_M_worth (by decide) rfl rfl (by decide) d_M_worthOf_39 rfl (fun w12 r13 h _ => ?_) (fun _ _ h => h.elim)
          show pw_V l g cx_M_worthOf Q X 42 [(10, 0), (0, a1), (0, a2), (0, a3), (0, a4)] [(0, r13), (0, a3)] w12
          refine pv_goto (tgt := 46) d_M_worthOf_42 (by decide) ?_
          refine pv_iadd (n := 47) d_M_worthOf_46 rfl ?_
          refine pv_nm (fun v14 e15 => ?_)
          replace h := h v14 e15
          refine pv_istore_n (n := 48) (L' := [(10, 0), (0, a1), (0, a2), (0, v14), (0, a4)]) d_M_worthOf_47 rfl (by decide) rfl rfl ?_
          refine pv_iinc (v := (a4 + 1)) (n := 51) (L1 := [(10, 0), (0, a1), (0, a2), (0, v14), (0, (a4 + 1))]) d_M_worthOf_48 rfl rfl rfl (by decide) rfl ?_
          refine pv_goto (tgt := 5) d_M_worthOf_51 (by decide) ?_
          exact ih _ _ _ _ _ h
set_option maxHeartbeats 4000000 in
set_option maxRecDepth 20000 in
def wp_M_worthOf (w : pw_W) (a1 a2 : Int32) (Q : pw_W → Int32 → Prop) (X : pw_W → Nat → Prop) : Prop := ∃ k16, lp_M_worthOf_5 Q X k16 a1 a2 0 0 w
set_option maxHeartbeats 4000000 in
set_option maxRecDepth 20000 in
theorem vw_M_worthOf {l : Launch} {g : pw_G} {Q : pw_W → Int32 → Prop} {X : pw_W → Nat → Prop} (hl0 : l.stackTraces = false) {w : pw_W} {a1 a2 : Int32} (h : wp_M_worthOf w a1 a2 Q X) : pw_V l g cx_M_worthOf Q X 0 [(10, 0), (0, a1), (0, a2), (1, 0), (1, 0)] [] w := by
  unfold wp_M_worthOf at h
  refine pv_iconst (v := 0) (n := 1) d_M_worthOf_0 (by decide) rfl ?_
  refine pv_istore_n (n := 2) (L' := [(10, 0), (0, a1), (0, a2), (0, 0), (1, 0)]) d_M_worthOf_1 rfl (by decide) rfl rfl ?_
  refine pv_iconst (v := 0) (n := 3) d_M_worthOf_2 (by decide) rfl ?_
  refine pv_istore (n := 5) (L' := [(10, 0), (0, a1), (0, a2), (0, 0), (0, 0)]) d_M_worthOf_3 (by decide) rfl rfl ?_
  obtain ⟨k16, h⟩ := h
  exact vlp_M_worthOf_5 hl0 _ _ _ _ _ _ h
set_option maxHeartbeats 4000000 in
set_option maxRecDepth 20000 in
theorem con_M_worthOf {l : Launch} {g : pw_G} {Q : pw_W → Int32 → Prop} {X : pw_W → Nat → Prop} (hl0 : l.stackTraces = false) {w : pw_W} {a1 a2 : Int32} (h : wp_M_worthOf w a1 a2 Q X) : pw_Con l g y_M_worthOf cx_M_worthOf [(10, 0), (0, a1), (0, a2)] w Q X :=
  pw_con (by decide +kernel) rfl rfl hl0 rfl (Nat.le_of_ble_eq_true rfl) (by simp) (vw_M_worthOf hl0 h)
theorem d_M_inField_0 : decode (pw_cc cx_M_inField) 0 = .ok (.iconst 0, 1) := by decide +kernel
theorem d_M_inField_1 : decode (pw_cc cx_M_inField) 1 = .ok (.istore 4, 2) := by decide +kernel
theorem d_M_inField_3 : decode (pw_cc cx_M_inField) 3 = .ok (.iconst 0, 1) := by decide +kernel
theorem d_M_inField_4 : decode (pw_cc cx_M_inField) 4 = .ok (.istore 5, 2) := by decide +kernel
theorem d_M_inField_6 : decode (pw_cc cx_M_inField) 6 = .ok (.iload 5, 2) := by decide +kernel
theorem d_M_inField_8 : decode (pw_cc cx_M_inField) 8 = .ok (.bipush 100, 2) := by decide +kernel
theorem d_M_inField_10 : decode (pw_cc cx_M_inField) 10 = .ok (.if_icmp .ge 40, 3) := by decide +kernel
theorem d_M_inField_13 : decode (pw_cc cx_M_inField) 13 = .ok (.iload 4, 2) := by decide +kernel
theorem d_M_inField_15 : decode (pw_cc cx_M_inField) 15 = .ok (.aload_n 0, 1) := by decide +kernel
theorem d_M_inField_16 : decode (pw_cc cx_M_inField) 16 = .ok (.getfield 16, 3) := by decide +kernel
theorem d_M_inField_19 : decode (pw_cc cx_M_inField) 19 = .ok (.iload 5, 2) := by decide +kernel
theorem d_M_inField_21 : decode (pw_cc cx_M_inField) 21 = .ok (.iaload, 1) := by decide +kernel
theorem d_M_inField_22 : decode (pw_cc cx_M_inField) 22 = .ok (.iload_n 1, 1) := by decide +kernel
theorem d_M_inField_23 : decode (pw_cc cx_M_inField) 23 = .ok (.if_icmp .ne 17, 3) := by decide +kernel
theorem d_M_inField_26 : decode (pw_cc cx_M_inField) 26 = .ok (.iload 5, 2) := by decide +kernel
theorem d_M_inField_28 : decode (pw_cc cx_M_inField) 28 = .ok (.iload_n 2, 1) := by decide +kernel
theorem d_M_inField_29 : decode (pw_cc cx_M_inField) 29 = .ok (.iload_n 3, 1) := by decide +kernel
theorem d_M_inField_30 : decode (pw_cc cx_M_inField) 30 = .ok (.invokestatic 149, 3) := by decide +kernel
theorem d_M_inField_33 : decode (pw_cc cx_M_inField) 33 = .ok (.ifCond .eq 7, 3) := by decide +kernel
theorem d_M_inField_36 : decode (pw_cc cx_M_inField) 36 = .ok (.iconst 1, 1) := by decide +kernel
theorem d_M_inField_37 : decode (pw_cc cx_M_inField) 37 = .ok (.goto 4, 3) := by decide +kernel
theorem d_M_inField_40 : decode (pw_cc cx_M_inField) 40 = .ok (.iconst 0, 1) := by decide +kernel
theorem d_M_inField_41 : decode (pw_cc cx_M_inField) 41 = .ok (.iadd, 1) := by decide +kernel
theorem d_M_inField_42 : decode (pw_cc cx_M_inField) 42 = .ok (.istore 4, 2) := by decide +kernel
theorem d_M_inField_44 : decode (pw_cc cx_M_inField) 44 = .ok (.iinc 5 1, 3) := by decide +kernel
theorem d_M_inField_47 : decode (pw_cc cx_M_inField) 47 = .ok (.goto (-41), 3) := by decide +kernel
theorem d_M_inField_50 : decode (pw_cc cx_M_inField) 50 = .ok (.iload 4, 2) := by decide +kernel
theorem d_M_inField_52 : decode (pw_cc cx_M_inField) 52 = .ok (.ireturn, 1) := by decide +kernel
set_option maxHeartbeats 4000000 in
set_option maxRecDepth 20000 in
def lp_M_inField_6 (Q : pw_W → Int32 → Prop) (X : pw_W → Nat → Prop) : Nat → Int32 → Int32 → Int32 → Int32 → Int32 → pw_W → Prop := fun k => Nat.rec (motive := fun _ => Int32 → Int32 → Int32 → Int32 → Int32 → pw_W → Prop) (fun _ _ _ _ _ _ => False) (fun _ ih a1 a2 a3 a4 a5 w => ((100 : Int32) ≤ a5 → Q w a4) ∧ (¬ (100 : Int32) ≤ a5 → w.1 8 0 8 = 0 ∧ pw_jn a5 (pw_ln w 208 0) ∧ (¬ (w.1 208 0 (pw_i a5)) = a1 → ∀ v5, v5 = (a4 + 0) → ih a1 a2 a3 v5 (a5 + 1) w) ∧ ((w.1 208 0 (pw_i a5)) = a1 → wp_M_isInField w a5 a2 a3 (fun w7 r8 => (r8 = 0 → ∀ v10, v10 = (a4 + 0) → ih a1 a2 a3 v10 (a5 + 1) w7) ∧ (¬ r8 = 0 → ∀ v12, v12 = (a4 + 1) → ih a1 a2 a3 v12 (a5 + 1) w7)) (fun _ _ => False)))) k
set_option maxHeartbeats 4000000 in
set_option maxRecDepth 20000 in
theorem lp_M_inField_6_s {Q : pw_W → Int32 → Prop} {X : pw_W → Nat → Prop}  {k : Nat} {a1 a2 a3 a4 a5 : Int32} {w : pw_W} : lp_M_inField_6 Q X (k + 1) a1 a2 a3 a4 a5 w = (let ih := lp_M_inField_6 Q X k; ((100 : Int32) ≤ a5 → Q w a4) ∧ (¬ (100 : Int32) ≤ a5 → w.1 8 0 8 = 0 ∧ pw_jn a5 (pw_ln w 208 0) ∧ (¬ (w.1 208 0 (pw_i a5)) = a1 → ∀ v5, v5 = (a4 + 0) → ih a1 a2 a3 v5 (a5 + 1) w) ∧ ((w.1 208 0 (pw_i a5)) = a1 → wp_M_isInField w a5 a2 a3 (fun w7 r8 => (r8 = 0 → ∀ v10, v10 = (a4 + 0) → ih a1 a2 a3 v10 (a5 + 1) w7) ∧ (¬ r8 = 0 → ∀ v12, v12 = (a4 + 1) → ih a1 a2 a3 v12 (a5 + 1) w7)) (fun _ _ => False)))) := rfl
set_option maxHeartbeats 4000000 in
set_option maxRecDepth 20000 in
theorem vlp_M_inField_6 {l : Launch} {g : pw_G} {Q : pw_W → Int32 → Prop} {X : pw_W → Nat → Prop} (hl0 : l.stackTraces = false) : ∀ (k : Nat) (a1 a2 a3 a4 a5 : Int32) (w : pw_W), lp_M_inField_6 Q X k a1 a2 a3 a4 a5 w → pw_V l g cx_M_inField Q X 6 [(10, 0), (0, a1), (0, a2), (0, a3), (0, a4), (0, a5)] [] w := by
  intro k; induction k with
  | zero => intro _ _ _ _ _ _ h; exact h.elim
  | succ k ih =>
    intro a1 a2 a3 a4 a5 w h
    rw [lp_M_inField_6_s] at h
    refine pv_iload (n := 8) d_M_inField_6 rfl rfl ?_
    refine pv_bipush (v := 100) (n := 10) d_M_inField_8 (by decide) rfl ?_
    refine pv_icmp_ge (n := 13) (tgt := 50) d_M_inField_10 (by decide) rfl (fun c1 => ?_) (fun c1 => ?_)
    · replace h := h.1 c1
      refine pv_iload (n := 52) d_M_inField_50 rfl rfl ?_
      exact pv_iret rfl rfl d_M_inField_52 h
    · replace h := h.2 c1
      refine pv_iload (n := 15) d_M_inField_13 rfl rfl ?_
      refine pv_aload_n (n := 16) d_M_inField_15 rfl rfl rfl ?_
      obtain ⟨g2, h⟩ := h
      refine gt_M_16 (n := 19) rfl d_M_inField_16 (by decide) g2 rfl ?_
      refine pv_iload (n := 21) d_M_inField_19 rfl rfl ?_
      obtain ⟨g3, h⟩ := h
      refine pv_iald (n := 22) (f := 208) (by decide) rfl d_M_inField_21 (by decide) g3 rfl ?_
      refine pv_iload_n (n := 23) d_M_inField_22 rfl rfl rfl ?_
      refine pv_icmp_ne (n := 26) (tgt := 40) d_M_inField_23 (by decide) rfl (fun c4 => ?_) (fun c4 => ?_)
      · replace h := h.1 c4
        refine pv_iconst (v := 0) (n := 41) d_M_inField_40 (by decide) rfl ?_
        refine pv_iadd (n := 42) d_M_inField_41 rfl ?_
        refine pv_nm (fun v5 e6 => ?_)
        replace h := h v5 e6
        refine pv_istore (n := 44) (L' := [(10, 0), (0, a1), (0, a2), (0, a3), (0, v5), (0, a5)]) d_M_inField_42 (by decide) rfl rfl ?_
        refine pv_iinc (v := (a5 + 1)) (n := 47) (L1 := [(10, 0), (0, a1), (0, a2), (0, a3), (0, v5), (0, (a5 + 1))]) d_M_inField_44 rfl rfl rfl (by decide) rfl ?_
        refine pv_goto (tgt := 6) d_M_inField_47 (by decide) ?_
        exact ih _ _ _ _ _ _ h
      · replace h := h.2 c4
        refine pv_iload (n := 28) d_M_inField_26 rfl rfl ?_
        refine pv_iload_n (n := 29) d_M_inField_28 rfl rfl rfl ?_
        refine pv_iload_n (n := 30) d_M_inField_29 rfl rfl rfl ?_
        refine pv_callS (n := 33) [(0, a5), (0, a2), (0, a3)] [(0, a4)] (con_M_isInField hl0 h) q_479 q_480 q_458 q_478 pyo_M_isInField (by decide) rfl rfl d_M_inField_30 rfl (fun w7 r8 h _ => ?_) (fun _ _ h => h.elim)
        show pw_V l g cx_M_inField Q X 33 [(10, 0), (0, a1), (0, a2), (0, a3), (0, a4), (0, a5)] [(0, r8), (0, a4)] w7
        refine pv_if_eq (n := 36) (tgt := 40) d_M_inField_33 (by decide) rfl (fun c9 => ?_) (fun c9 => ?_)
        · replace h := h.1 c9
          refine pv_iconst (v := 0) (n := 41) d_M_inField_40 (by decide) rfl ?_
          refine pv_iadd (n := 42) d_M_inField_41 rfl ?_
          refine pv_nm (fun v10 e11 => ?_)
          replace h := h v10 e11
          refine pv_istore (n := 44) (L' := [(10, 0), (0, a1), (0, a2), (0, a3), (0, v10), (0, a5)]) d_M_inField_42 (by decide) rfl rfl ?_
          refine pv_iinc (v := (a5 + 1)) (n := 47) (L1 := [(10, 0), (0, a1), (0, a2), (0, a3), (0, v10), (0, (a5 + 1))]) d_M_inField_44 rfl rfl rfl (by decide) rfl ?_
          refine pv_goto (tgt := 6) d_M_inField_47 (by decide) ?_
          exact ih _ _ _ _ _ _ h
        · replace h := h.2 c9
          refine pv_iconst (v := 1) (n := 37) d_M_inField_36 (by decide) rfl ?_
          refine pv_goto (tgt := 41) d_M_inField_37 (by decide) ?_
          refine pv_iadd (n := 42) d_M_inField_41 rfl ?_
          refine pv_nm (fun v12 e13 => ?_)
          replace h := h v12 e13
          refine pv_istore (n := 44) (L' := [(10, 0), (0, a1), (0, a2), (0, a3), (0, v12), (0, a5)]) d_M_inField_42 (by decide) rfl rfl ?_
          refine pv_iinc (v := (a5 + 1)) (n := 47) (L1 := [(10, 0), (0, a1), (0, a2), (0, a3), (0, v12), (0, (a5 + 1))]) d_M_inField_44 rfl rfl rfl (by decide) rfl ?_
          refine pv_goto (tgt := 6) d_M_inField_47 (by decide) ?_
          exact ih _ _ _ _ _ _ h
set_option maxHeartbeats 4000000 in
set_option maxRecDepth 20000 in
def wp_M_inField (w : pw_W) (a1 a2 a3 : Int32) (Q : pw_W → Int32 → Prop) (X : pw_W → Nat → Prop) : Prop := ∃ k14, lp_M_inField_6 Q X k14 a1 a2 a3 0 0 w
set_option maxHeartbeats 4000000 in
set_option maxRecDepth 20000 in
theorem vw_M_inField {l : Launch} {g : pw_G} {Q : pw_W → Int32 → Prop} {X : pw_W → Nat → Prop} (hl0 : l.stackTraces = false) {w : pw_W} {a1 a2 a3 : Int32} (h : wp_M_inField w a1 a2 a3 Q X) : pw_V l g cx_M_inField Q X 0 [(10, 0), (0, a1), (0, a2), (0, a3), (1, 0), (1, 0)] [] w := by
  unfold wp_M_inField at h
  refine pv_iconst (v := 0) (n := 1) d_M_inField_0 (by decide) rfl ?_
  refine pv_istore (n := 3) (L' := [(10, 0), (0, a1), (0, a2), (0, a3), (0, 0), (1, 0)]) d_M_inField_1 (by decide) rfl rfl ?_
  refine pv_iconst (v := 0) (n := 4) d_M_inField_3 (by decide) rfl ?_
  refine pv_istore (n := 6) (L' := [(10, 0), (0, a1), (0, a2), (0, a3), (0, 0), (0, 0)]) d_M_inField_4 (by decide) rfl rfl ?_
  obtain ⟨k14, h⟩ := h
  exact vlp_M_inField_6 hl0 _ _ _ _ _ _ _ h
set_option maxHeartbeats 4000000 in
set_option maxRecDepth 20000 in
theorem con_M_inField {l : Launch} {g : pw_G} {Q : pw_W → Int32 → Prop} {X : pw_W → Nat → Prop} (hl0 : l.stackTraces = false) {w : pw_W} {a1 a2 a3 : Int32} (h : wp_M_inField w a1 a2 a3 Q X) : pw_Con l g y_M_inField cx_M_inField [(10, 0), (0, a1), (0, a2), (0, a3)] w Q X :=
  pw_con (by decide +kernel) rfl rfl hl0 rfl (Nat.le_of_ble_eq_true rfl) (by simp) (vw_M_inField hl0 h)
theorem d_M_canGrant_0 : decode (pw_cc cx_M_canGrant) 0 = .ok (.aload_n 0, 1) := by decide +kernel
theorem d_M_canGrant_1 : decode (pw_cc cx_M_canGrant) 1 = .ok (.iload_n 1, 1) := by decide +kernel
theorem d_M_canGrant_2 : decode (pw_cc cx_M_canGrant) 2 = .ok (.iload_n 2, 1) := by decide +kernel
theorem d_M_canGrant_3 : decode (pw_cc cx_M_canGrant) 3 = .ok (.iload_n 3, 1) := by decide +kernel
theorem d_M_canGrant_4 : decode (pw_cc cx_M_canGrant) 4 = .ok (.invokevirtual 152, 3) := by decide +kernel
theorem d_M_canGrant_7 : decode (pw_cc cx_M_canGrant) 7 = .ok (.ifCond .le 41, 3) := by decide +kernel
theorem d_M_canGrant_10 : decode (pw_cc cx_M_canGrant) 10 = .ok (.aload_n 0, 1) := by decide +kernel
theorem d_M_canGrant_11 : decode (pw_cc cx_M_canGrant) 11 = .ok (.getfield 104, 3) := by decide +kernel
theorem d_M_canGrant_14 : decode (pw_cc cx_M_canGrant) 14 = .ok (.iload 4, 2) := by decide +kernel
theorem d_M_canGrant_16 : decode (pw_cc cx_M_canGrant) 16 = .ok (.baload, 1) := by decide +kernel
theorem d_M_canGrant_17 : decode (pw_cc cx_M_canGrant) 17 = .ok (.ifCond .ne 31, 3) := by decide +kernel
theorem d_M_canGrant_20 : decode (pw_cc cx_M_canGrant) 20 = .ok (.aload_n 0, 1) := by decide +kernel
theorem d_M_canGrant_21 : decode (pw_cc cx_M_canGrant) 21 = .ok (.getfield 116, 3) := by decide +kernel
theorem d_M_canGrant_24 : decode (pw_cc cx_M_canGrant) 24 = .ok (.bipush 40, 2) := by decide +kernel
theorem d_M_canGrant_26 : decode (pw_cc cx_M_canGrant) 26 = .ok (.if_icmp .ge 22, 3) := by decide +kernel
theorem d_M_canGrant_29 : decode (pw_cc cx_M_canGrant) 29 = .ok (.aload_n 0, 1) := by decide +kernel
theorem d_M_canGrant_30 : decode (pw_cc cx_M_canGrant) 30 = .ok (.getfield 131, 3) := by decide +kernel
theorem d_M_canGrant_33 : decode (pw_cc cx_M_canGrant) 33 = .ok (.aload_n 0, 1) := by decide +kernel
theorem d_M_canGrant_34 : decode (pw_cc cx_M_canGrant) 34 = .ok (.iload_n 1, 1) := by decide +kernel
theorem d_M_canGrant_35 : decode (pw_cc cx_M_canGrant) 35 = .ok (.invokevirtual 156, 3) := by decide +kernel
theorem d_M_canGrant_38 : decode (pw_cc cx_M_canGrant) 38 = .ok (.iadd, 1) := by decide +kernel
theorem d_M_canGrant_39 : decode (pw_cc cx_M_canGrant) 39 = .ok (.bipush 80, 2) := by decide +kernel
theorem d_M_canGrant_41 : decode (pw_cc cx_M_canGrant) 41 = .ok (.if_icmp .gt 7, 3) := by decide +kernel
theorem d_M_canGrant_44 : decode (pw_cc cx_M_canGrant) 44 = .ok (.iconst 1, 1) := by decide +kernel
theorem d_M_canGrant_45 : decode (pw_cc cx_M_canGrant) 45 = .ok (.goto 4, 3) := by decide +kernel
theorem d_M_canGrant_48 : decode (pw_cc cx_M_canGrant) 48 = .ok (.iconst 0, 1) := by decide +kernel
theorem d_M_canGrant_49 : decode (pw_cc cx_M_canGrant) 49 = .ok (.ireturn, 1) := by decide +kernel
set_option maxHeartbeats 4000000 in
set_option maxRecDepth 20000 in
def wp_M_canGrant (w : pw_W) (a1 a2 a3 a4 : Int32) (Q : pw_W → Int32 → Prop) (X : pw_W → Nat → Prop) : Prop := wp_M_inField w a1 a2 a3 (fun w1 r2 => (r2 ≤ 0 → Q w1 0) ∧ (¬ r2 ≤ 0 → w1.1 8 0 42 = 0 ∧ pw_jn a4 (pw_ln w1 242 0) ∧ (¬ (w1.1 242 0 (pw_i a4)) = 0 → Q w1 0) ∧ ((w1.1 242 0 (pw_i a4)) = 0 → ((40 : Int32) ≤ (w1.1 8 0 18) → Q w1 0) ∧ (¬ (40 : Int32) ≤ (w1.1 8 0 18) → wp_M_rightsOn w1 a1 (fun w8 r9 => ((80 : Int32) < ((w1.1 8 0 26) + r9) → Q w8 0) ∧ (¬ (80 : Int32) < ((w1.1 8 0 26) + r9) → Q w8 1)) (fun _ _ => False))))) (fun _ _ => False)
set_option maxHeartbeats 4000000 in
set_option maxRecDepth 20000 in
theorem vw_M_canGrant {l : Launch} {g : pw_G} {Q : pw_W → Int32 → Prop} {X : pw_W → Nat → Prop} (hl0 : l.stackTraces = false) {w : pw_W} {a1 a2 a3 a4 : Int32} (h : wp_M_canGrant w a1 a2 a3 a4 Q X) : pw_V l g cx_M_canGrant Q X 0 [(10, 0), (0, a1), (0, a2), (0, a3), (0, a4)] [] w := by
  unfold wp_M_canGrant at h
  refine pv_aload_n (n := 1) d_M_canGrant_0 rfl rfl rfl ?_
  refine pv_iload_n (n := 2) d_M_canGrant_1 rfl rfl rfl ?_
  refine pv_iload_n (n := 3) d_M_canGrant_2 rfl rfl rfl ?_
  refine pv_iload_n (n := 4) d_M_canGrant_3 rfl rfl rfl ?_
  refine pv_callV (n := 7) (x := 0) [(0, a1), (0, a2), (0, a3)] [] (con_M_inField hl0 h) pw_cf8 rfl q_486 q_487 q_488 q_458 q_485 pyo_M_inField (by decide) rfl rfl (by decide) d_M_canGrant_4 rfl (fun w1 r2 h _ => ?_) (fun _ _ h => h.elim)
  show pw_V l g cx_M_canGrant Q X 7 [(10, 0), (0, a1), (0, a2), (0, a3), (0, a4)] [(0, r2)] w1
  refine pv_if_le (n := 10) (tgt := 48) d_M_canGrant_7 (by decide) rfl (fun c3 => ?_) (fun c3 => ?_)
  · replace h := h.1 c3
    refine pv_iconst (v := 0) (n := 49) d_M_canGrant_48 (by decide) rfl ?_
    exact pv_zret rfl rfl d_M_canGrant_49 (by decide) h
  · replace h := h.2 c3
    refine pv_aload_n (n := 11) d_M_canGrant_10 rfl rfl rfl ?_
    obtain ⟨g4, h⟩ := h
    refine gt_M_104 (n := 14) rfl d_M_canGrant_11 (by decide) g4 rfl ?_
    refine pv_iload (n := 16) d_M_canGrant_14 rfl rfl ?_
    obtain ⟨g5, h⟩ := h
    refine pv_zald (n := 17) (f := 242) (by decide) rfl d_M_canGrant_16 (by decide) g5 rfl ?_
    refine pv_if_ne (n := 20) (tgt := 48) d_M_canGrant_17 (by decide) rfl (fun c6 => ?_) (fun c6 => ?_)
    · replace h := h.1 c6
      refine pv_iconst (v := 0) (n := 49) d_M_canGrant_48 (by decide) rfl ?_
      exact pv_zret rfl rfl d_M_canGrant_49 (by decide) h
    · replace h := h.2 c6
      refine pv_aload_n (n := 21) d_M_canGrant_20 rfl rfl rfl ?_
      refine gt_M_116 (n := 24) rfl d_M_canGrant_21 (by decide) rfl ?_
      refine pv_bipush (v := 40) (n := 26) d_M_canGrant_24 (by decide) rfl ?_
      refine pv_icmp_ge (n := 29) (tgt := 48) d_M_canGrant_26 (by decide) rfl (fun c7 => ?_) (fun c7 => ?_)
      · replace h := h.1 c7
        refine pv_iconst (v := 0) (n := 49) d_M_canGrant_48 (by decide) rfl ?_
        exact pv_zret rfl rfl d_M_canGrant_49 (by decide) h
      · replace h := h.2 c7
        refine pv_aload_n (n := 30) d_M_canGrant_29 rfl rfl rfl ?_
        refine gt_M_131 (n := 33) rfl d_M_canGrant_30 (by decide) rfl ?_
        refine pv_aload_n (n := 34) d_M_canGrant_33 rfl rfl rfl ?_
        refine pv_iload_n (n := 35) d_M_canGrant_34 rfl rfl rfl ?_
        refine pv_callV (n := 38) (x := 0) [(0, a1)] [(0, (w1.1 8 0 26))] (con_M_rightsOn hl0 h) pw_cf8 rfl q_482 q_483 q_484 q_458 q_481 pyo_M_rightsOn (by decide) rfl rfl (by decide) d_M_canGrant_35 rfl (fun w8 r9 h _ => ?_) (fun _ _ h => h.elim)
        show pw_V l g cx_M_canGrant Q X 38 [(10, 0), (0, a1), (0, a2), (0, a3), (0, a4)] [(0, r9), (0, (w1.1 8 0 26))] w8
        refine pv_iadd (n := 39) d_M_canGrant_38 rfl ?_
        refine pv_bipush (v := 80) (n := 41) d_M_canGrant_39 (by decide) rfl ?_
        refine pv_icmp_gt (n := 44) (tgt := 48) d_M_canGrant_41 (by decide) rfl (fun c10 => ?_) (fun c10 => ?_)
        · replace h := h.1 c10
          refine pv_iconst (v := 0) (n := 49) d_M_canGrant_48 (by decide) rfl ?_
          exact pv_zret rfl rfl d_M_canGrant_49 (by decide) h
        · replace h := h.2 c10
          refine pv_iconst (v := 1) (n := 45) d_M_canGrant_44 (by decide) rfl ?_
          refine pv_goto (tgt := 49) d_M_canGrant_45 (by decide) ?_
          exact pv_zret rfl rfl d_M_canGrant_49 (by decide) h
set_option maxHeartbeats 4000000 in
set_option maxRecDepth 20000 in
theorem con_M_canGrant {l : Launch} {g : pw_G} {Q : pw_W → Int32 → Prop} {X : pw_W → Nat → Prop} (hl0 : l.stackTraces = false) {w : pw_W} {a1 a2 a3 a4 : Int32} (h : wp_M_canGrant w a1 a2 a3 a4 Q X) : pw_Con l g y_M_canGrant cx_M_canGrant [(10, 0), (0, a1), (0, a2), (0, a3), (0, a4)] w Q X :=
  pw_con (by decide +kernel) rfl rfl hl0 rfl (Nat.le_of_ble_eq_true rfl) (by simp) (vw_M_canGrant hl0 h)
theorem d_M_grant_0 : decode (pw_cc cx_M_grant) 0 = .ok (.aload_n 0, 1) := by decide +kernel
theorem d_M_grant_1 : decode (pw_cc cx_M_grant) 1 = .ok (.iload_n 1, 1) := by decide +kernel
theorem d_M_grant_2 : decode (pw_cc cx_M_grant) 2 = .ok (.invokevirtual 159, 3) := by decide +kernel
theorem d_M_grant_5 : decode (pw_cc cx_M_grant) 5 = .ok (.ifCond .eq 29, 3) := by decide +kernel
theorem d_M_grant_8 : decode (pw_cc cx_M_grant) 8 = .ok (.iload_n 2, 1) := by decide +kernel
theorem d_M_grant_9 : decode (pw_cc cx_M_grant) 9 = .ok (.invokestatic 163, 3) := by decide +kernel
theorem d_M_grant_12 : decode (pw_cc cx_M_grant) 12 = .ok (.ifCond .eq 22, 3) := by decide +kernel
theorem d_M_grant_15 : decode (pw_cc cx_M_grant) 15 = .ok (.iload_n 3, 1) := by decide +kernel
theorem d_M_grant_16 : decode (pw_cc cx_M_grant) 16 = .ok (.invokestatic 163, 3) := by decide +kernel
theorem d_M_grant_19 : decode (pw_cc cx_M_grant) 19 = .ok (.ifCond .eq 15, 3) := by decide +kernel
theorem d_M_grant_22 : decode (pw_cc cx_M_grant) 22 = .ok (.iload 4, 2) := by decide +kernel
theorem d_M_grant_24 : decode (pw_cc cx_M_grant) 24 = .ok (.invokestatic 166, 3) := by decide +kernel
theorem d_M_grant_27 : decode (pw_cc cx_M_grant) 27 = .ok (.ifCond .eq 7, 3) := by decide +kernel
theorem d_M_grant_30 : decode (pw_cc cx_M_grant) 30 = .ok (.iconst 1, 1) := by decide +kernel
theorem d_M_grant_31 : decode (pw_cc cx_M_grant) 31 = .ok (.goto 4, 3) := by decide +kernel
theorem d_M_grant_34 : decode (pw_cc cx_M_grant) 34 = .ok (.iconst 0, 1) := by decide +kernel
theorem d_M_grant_35 : decode (pw_cc cx_M_grant) 35 = .ok (.istore 5, 2) := by decide +kernel
theorem d_M_grant_37 : decode (pw_cc cx_M_grant) 37 = .ok (.aload_n 0, 1) := by decide +kernel
theorem d_M_grant_38 : decode (pw_cc cx_M_grant) 38 = .ok (.iload 5, 2) := by decide +kernel
theorem d_M_grant_40 : decode (pw_cc cx_M_grant) 40 = .ok (.ifCond .ne 7, 3) := by decide +kernel
theorem d_M_grant_43 : decode (pw_cc cx_M_grant) 43 = .ok (.iconst 1, 1) := by decide +kernel
theorem d_M_grant_44 : decode (pw_cc cx_M_grant) 44 = .ok (.goto 36, 3) := by decide +kernel
theorem d_M_grant_47 : decode (pw_cc cx_M_grant) 47 = .ok (.iload_n 2, 1) := by decide +kernel
theorem d_M_grant_48 : decode (pw_cc cx_M_grant) 48 = .ok (.iload_n 3, 1) := by decide +kernel
theorem d_M_grant_49 : decode (pw_cc cx_M_grant) 49 = .ok (.invokestatic 169, 3) := by decide +kernel
theorem d_M_grant_52 : decode (pw_cc cx_M_grant) 52 = .ok (.ifCond .ne 7, 3) := by decide +kernel
theorem d_M_grant_55 : decode (pw_cc cx_M_grant) 55 = .ok (.iconst 2, 1) := by decide +kernel
theorem d_M_grant_56 : decode (pw_cc cx_M_grant) 56 = .ok (.goto 24, 3) := by decide +kernel
theorem d_M_grant_59 : decode (pw_cc cx_M_grant) 59 = .ok (.aload_n 0, 1) := by decide +kernel
theorem d_M_grant_60 : decode (pw_cc cx_M_grant) 60 = .ok (.aload_n 0, 1) := by decide +kernel
theorem d_M_grant_61 : decode (pw_cc cx_M_grant) 61 = .ok (.iload_n 1, 1) := by decide +kernel
theorem d_M_grant_62 : decode (pw_cc cx_M_grant) 62 = .ok (.invokevirtual 172, 3) := by decide +kernel
theorem d_M_grant_65 : decode (pw_cc cx_M_grant) 65 = .ok (.iload_n 2, 1) := by decide +kernel
theorem d_M_grant_66 : decode (pw_cc cx_M_grant) 66 = .ok (.iload_n 3, 1) := by decide +kernel
theorem d_M_grant_67 : decode (pw_cc cx_M_grant) 67 = .ok (.iload 4, 2) := by decide +kernel
theorem d_M_grant_69 : decode (pw_cc cx_M_grant) 69 = .ok (.invokevirtual 175, 3) := by decide +kernel
theorem d_M_grant_72 : decode (pw_cc cx_M_grant) 72 = .ok (.ifCond .ne 7, 3) := by decide +kernel
theorem d_M_grant_75 : decode (pw_cc cx_M_grant) 75 = .ok (.iconst 3, 1) := by decide +kernel
theorem d_M_grant_76 : decode (pw_cc cx_M_grant) 76 = .ok (.goto 4, 3) := by decide +kernel
theorem d_M_grant_79 : decode (pw_cc cx_M_grant) 79 = .ok (.iconst 0, 1) := by decide +kernel
theorem d_M_grant_80 : decode (pw_cc cx_M_grant) 80 = .ok (.invokevirtual 179, 3) := by decide +kernel
theorem d_M_grant_83 : decode (pw_cc cx_M_grant) 83 = .ok (.ifCond .ne 5, 3) := by decide +kernel
theorem d_M_grant_86 : decode (pw_cc cx_M_grant) 86 = .ok (.iconst 0, 1) := by decide +kernel
theorem d_M_grant_87 : decode (pw_cc cx_M_grant) 87 = .ok (.ireturn, 1) := by decide +kernel
theorem d_M_grant_88 : decode (pw_cc cx_M_grant) 88 = .ok (.aload_n 0, 1) := by decide +kernel
theorem d_M_grant_89 : decode (pw_cc cx_M_grant) 89 = .ok (.iload_n 1, 1) := by decide +kernel
theorem d_M_grant_90 : decode (pw_cc cx_M_grant) 90 = .ok (.invokevirtual 172, 3) := by decide +kernel
theorem d_M_grant_93 : decode (pw_cc cx_M_grant) 93 = .ok (.istore 6, 2) := by decide +kernel
theorem d_M_grant_95 : decode (pw_cc cx_M_grant) 95 = .ok (.aload_n 0, 1) := by decide +kernel
theorem d_M_grant_96 : decode (pw_cc cx_M_grant) 96 = .ok (.iload 4, 2) := by decide +kernel
theorem d_M_grant_98 : decode (pw_cc cx_M_grant) 98 = .ok (.invokevirtual 182, 3) := by decide +kernel
theorem d_M_grant_101 : decode (pw_cc cx_M_grant) 101 = .ok (.istore 7, 2) := by decide +kernel
theorem d_M_grant_103 : decode (pw_cc cx_M_grant) 103 = .ok (.iconst 0, 1) := by decide +kernel
theorem d_M_grant_104 : decode (pw_cc cx_M_grant) 104 = .ok (.istore 8, 2) := by decide +kernel
theorem d_M_grant_106 : decode (pw_cc cx_M_grant) 106 = .ok (.iload 8, 2) := by decide +kernel
theorem d_M_grant_108 : decode (pw_cc cx_M_grant) 108 = .ok (.bipush 100, 2) := by decide +kernel
theorem d_M_grant_110 : decode (pw_cc cx_M_grant) 110 = .ok (.if_icmp .ge 40, 3) := by decide +kernel
theorem d_M_grant_113 : decode (pw_cc cx_M_grant) 113 = .ok (.aload_n 0, 1) := by decide +kernel
theorem d_M_grant_114 : decode (pw_cc cx_M_grant) 114 = .ok (.getfield 16, 3) := by decide +kernel
theorem d_M_grant_117 : decode (pw_cc cx_M_grant) 117 = .ok (.iload 8, 2) := by decide +kernel
theorem d_M_grant_119 : decode (pw_cc cx_M_grant) 119 = .ok (.iaload, 1) := by decide +kernel
theorem d_M_grant_120 : decode (pw_cc cx_M_grant) 120 = .ok (.iload 6, 2) := by decide +kernel
theorem d_M_grant_122 : decode (pw_cc cx_M_grant) 122 = .ok (.if_icmp .ne 22, 3) := by decide +kernel
theorem d_M_grant_125 : decode (pw_cc cx_M_grant) 125 = .ok (.iload 8, 2) := by decide +kernel
theorem d_M_grant_127 : decode (pw_cc cx_M_grant) 127 = .ok (.iload_n 2, 1) := by decide +kernel
theorem d_M_grant_128 : decode (pw_cc cx_M_grant) 128 = .ok (.iload_n 3, 1) := by decide +kernel
theorem d_M_grant_129 : decode (pw_cc cx_M_grant) 129 = .ok (.invokestatic 149, 3) := by decide +kernel
theorem d_M_grant_132 : decode (pw_cc cx_M_grant) 132 = .ok (.ifCond .eq 12, 3) := by decide +kernel
theorem d_M_grant_135 : decode (pw_cc cx_M_grant) 135 = .ok (.aload_n 0, 1) := by decide +kernel
theorem d_M_grant_136 : decode (pw_cc cx_M_grant) 136 = .ok (.iload 8, 2) := by decide +kernel
theorem d_M_grant_138 : decode (pw_cc cx_M_grant) 138 = .ok (.iload 7, 2) := by decide +kernel
theorem d_M_grant_140 : decode (pw_cc cx_M_grant) 140 = .ok (.invokevirtual 185, 3) := by decide +kernel
theorem d_M_grant_143 : decode (pw_cc cx_M_grant) 143 = .ok (.pop, 1) := by decide +kernel
theorem d_M_grant_144 : decode (pw_cc cx_M_grant) 144 = .ok (.iinc 8 1, 3) := by decide +kernel
theorem d_M_grant_147 : decode (pw_cc cx_M_grant) 147 = .ok (.goto (-41), 3) := by decide +kernel
theorem d_M_grant_150 : decode (pw_cc cx_M_grant) 150 = .ok (.aload_n 0, 1) := by decide +kernel
theorem d_M_grant_151 : decode (pw_cc cx_M_grant) 151 = .ok (.getfield 131, 3) := by decide +kernel
theorem d_M_grant_154 : decode (pw_cc cx_M_grant) 154 = .ok (.istore 8, 2) := by decide +kernel
theorem d_M_grant_156 : decode (pw_cc cx_M_grant) 156 = .ok (.iconst 0, 1) := by decide +kernel
theorem d_M_grant_157 : decode (pw_cc cx_M_grant) 157 = .ok (.istore 9, 2) := by decide +kernel
theorem d_M_grant_159 : decode (pw_cc cx_M_grant) 159 = .ok (.iload 9, 2) := by decide +kernel
theorem d_M_grant_161 : decode (pw_cc cx_M_grant) 161 = .ok (.iload 8, 2) := by decide +kernel
theorem d_M_grant_163 : decode (pw_cc cx_M_grant) 163 = .ok (.if_icmp .ge 49, 3) := by decide +kernel
theorem d_M_grant_166 : decode (pw_cc cx_M_grant) 166 = .ok (.aload_n 0, 1) := by decide +kernel
theorem d_M_grant_167 : decode (pw_cc cx_M_grant) 167 = .ok (.iload 9, 2) := by decide +kernel
theorem d_M_grant_169 : decode (pw_cc cx_M_grant) 169 = .ok (.iload 6, 2) := by decide +kernel
theorem d_M_grant_171 : decode (pw_cc cx_M_grant) 171 = .ok (.invokevirtual 134, 3) := by decide +kernel
theorem d_M_grant_174 : decode (pw_cc cx_M_grant) 174 = .ok (.ifCond .eq 32, 3) := by decide +kernel
theorem d_M_grant_177 : decode (pw_cc cx_M_grant) 177 = .ok (.aload_n 0, 1) := by decide +kernel
theorem d_M_grant_178 : decode (pw_cc cx_M_grant) 178 = .ok (.aload_n 0, 1) := by decide +kernel
theorem d_M_grant_179 : decode (pw_cc cx_M_grant) 179 = .ok (.getfield 49, 3) := by decide +kernel
theorem d_M_grant_182 : decode (pw_cc cx_M_grant) 182 = .ok (.iload 9, 2) := by decide +kernel
theorem d_M_grant_184 : decode (pw_cc cx_M_grant) 184 = .ok (.iaload, 1) := by decide +kernel
theorem d_M_grant_185 : decode (pw_cc cx_M_grant) 185 = .ok (.iload 7, 2) := by decide +kernel
theorem d_M_grant_187 : decode (pw_cc cx_M_grant) 187 = .ok (.aload_n 0, 1) := by decide +kernel
theorem d_M_grant_188 : decode (pw_cc cx_M_grant) 188 = .ok (.getfield 55, 3) := by decide +kernel
theorem d_M_grant_191 : decode (pw_cc cx_M_grant) 191 = .ok (.iload 9, 2) := by decide +kernel
theorem d_M_grant_193 : decode (pw_cc cx_M_grant) 193 = .ok (.iaload, 1) := by decide +kernel
theorem d_M_grant_194 : decode (pw_cc cx_M_grant) 194 = .ok (.aload_n 0, 1) := by decide +kernel
theorem d_M_grant_195 : decode (pw_cc cx_M_grant) 195 = .ok (.getfield 58, 3) := by decide +kernel
theorem d_M_grant_198 : decode (pw_cc cx_M_grant) 198 = .ok (.iload 9, 2) := by decide +kernel
theorem d_M_grant_200 : decode (pw_cc cx_M_grant) 200 = .ok (.iaload, 1) := by decide +kernel
theorem d_M_grant_201 : decode (pw_cc cx_M_grant) 201 = .ok (.iload 9, 2) := by decide +kernel
theorem d_M_grant_203 : decode (pw_cc cx_M_grant) 203 = .ok (.invokevirtual 188, 3) := by decide +kernel
theorem d_M_grant_206 : decode (pw_cc cx_M_grant) 206 = .ok (.iinc 9 1, 3) := by decide +kernel
theorem d_M_grant_209 : decode (pw_cc cx_M_grant) 209 = .ok (.goto (-50), 3) := by decide +kernel
theorem d_M_grant_212 : decode (pw_cc cx_M_grant) 212 = .ok (.iload 7, 2) := by decide +kernel
theorem d_M_grant_214 : decode (pw_cc cx_M_grant) 214 = .ok (.ireturn, 1) := by decide +kernel
set_option maxHeartbeats 4000000 in
set_option maxRecDepth 20000 in
def lp_M_grant_159 (Q : pw_W → Int32 → Prop) (X : pw_W → Nat → Prop) : Nat → Int32 → Int32 → Int32 → Int32 → pw_W → Prop := fun k => Nat.rec (motive := fun _ => Int32 → Int32 → Int32 → Int32 → pw_W → Prop) (fun _ _ _ _ _ => False) (fun _ ih a6 a7 a8 a9 w => (a8 ≤ a9 → Q w a7) ∧ (¬ a8 ≤ a9 → wp_M_isOn w a9 a6 (fun w2 r3 => (r3 = 0 → ih a6 a7 a8 (a9 + 1) w2) ∧ (¬ r3 = 0 → w2.1 8 0 20 = 0 ∧ pw_jn a9 (pw_ln w2 220 0) ∧ w2.1 8 0 22 = 0 ∧ pw_jn a9 (pw_ln w2 222 0) ∧ w2.1 8 0 23 = 0 ∧ pw_jn a9 (pw_ln w2 223 0) ∧ wp_M_makesRight w2 (w2.1 220 0 (pw_i a9)) a7 (w2.1 222 0 (pw_i a9)) (w2.1 223 0 (pw_i a9)) a9 (fun w11 r12 => ih a6 a7 a8 (a9 + 1) w11) (fun _ _ => False))) (fun _ _ => False))) k
set_option maxHeartbeats 4000000 in
set_option maxRecDepth 20000 in
theorem lp_M_grant_159_s {Q : pw_W → Int32 → Prop} {X : pw_W → Nat → Prop}  {k : Nat} {a6 a7 a8 a9 : Int32} {w : pw_W} : lp_M_grant_159 Q X (k + 1) a6 a7 a8 a9 w = (let ih := lp_M_grant_159 Q X k; (a8 ≤ a9 → Q w a7) ∧ (¬ a8 ≤ a9 → wp_M_isOn w a9 a6 (fun w2 r3 => (r3 = 0 → ih a6 a7 a8 (a9 + 1) w2) ∧ (¬ r3 = 0 → w2.1 8 0 20 = 0 ∧ pw_jn a9 (pw_ln w2 220 0) ∧ w2.1 8 0 22 = 0 ∧ pw_jn a9 (pw_ln w2 222 0) ∧ w2.1 8 0 23 = 0 ∧ pw_jn a9 (pw_ln w2 223 0) ∧ wp_M_makesRight w2 (w2.1 220 0 (pw_i a9)) a7 (w2.1 222 0 (pw_i a9)) (w2.1 223 0 (pw_i a9)) a9 (fun w11 r12 => ih a6 a7 a8 (a9 + 1) w11) (fun _ _ => False))) (fun _ _ => False))) := rfl
set_option maxHeartbeats 4000000 in
set_option maxRecDepth 20000 in
theorem vlp_M_grant_159 {l : Launch} {g : pw_G} {Q : pw_W → Int32 → Prop} {X : pw_W → Nat → Prop} (hl0 : l.stackTraces = false) : ∀ (k : Nat) (a6 a7 a8 a9 : Int32) (w : pw_W), lp_M_grant_159 Q X k a6 a7 a8 a9 w → pw_V l g cx_M_grant Q X 159 [(10, 0), (1, 0), (1, 0), (1, 0), (1, 0), (1, 0), (0, a6), (0, a7), (0, a8), (0, a9)] [] w := by
  intro k; induction k with
  | zero => intro _ _ _ _ _ h; exact h.elim
  | succ k ih =>
    intro a6 a7 a8 a9 w h
    rw [lp_M_grant_159_s] at h
    refine pv_iload (n := 161) d_M_grant_159 rfl rfl ?_
    refine pv_iload (n := 163) d_M_grant_161 rfl rfl ?_
    refine pv_icmp_ge (n := 166) (tgt := 212) d_M_grant_163 (by decide) rfl (fun c1 => ?_) (fun c1 => ?_)
    · replace h := h.1 c1
      refine pv_iload (n := 214) d_M_grant_212 rfl rfl ?_
      exact pv_iret rfl rfl d_M_grant_214 h
    · replace h := h.2 c1
      refine pv_aload_n (n := 167) d_M_grant_166 rfl rfl rfl ?_
      refine pv_iload (n := 169) d_M_grant_167 rfl rfl ?_
      refine pv_iload (n := 171) d_M_grant_169 rfl rfl ?_
      refine pv_callV (n := 174) (x := 0) [(0, a9), (0, a6)] [] (con_M_isOn hl0 h) pw_cf8 rfl q_464 q_465 q_466 q_458 q_463 pyo_M_isOn (by decide) rfl rfl (by decide) d_M_grant_171 rfl (fun w2 r3 h _ => ?_) (fun _ _ h => h.elim)
      show pw_V l g cx_M_grant Q X 174 [(10, 0), (1, 0), (1, 0), (1, 0), (1, 0), (1, 0), (0, a6), (0, a7), (0, a8), (0, a9)] [(0, r3)] w2
      refine pv_if_eq (n := 177) (tgt := 206) d_M_grant_174 (by decide) rfl (fun c4 => ?_) (fun c4 => ?_)
      · replace h := h.1 c4
        refine pv_iinc (v := (a9 + 1)) (n := 209) (L1 := [(10, 0), (1, 0), (1, 0), (1, 0), (1, 0), (1, 0), (0, a6), (0, a7), (0, a8), (0, (a9 + 1))]) d_M_grant_206 rfl rfl rfl (by decide) rfl ?_
        refine pv_goto (tgt := 159) d_M_grant_209 (by decide) ?_
        exact ih _ _ _ _ _ h
      · replace h := h.2 c4
        refine pv_aload_n (n := 178) d_M_grant_177 rfl rfl rfl ?_
        refine pv_aload_n (n := 179) d_M_grant_178 rfl rfl rfl ?_
        obtain ⟨g5, h⟩ := h
        refine gt_M_49 (n := 182) rfl d_M_grant_179 (by decide) g5 rfl ?_
        refine pv_iload (n := 184) d_M_grant_182 rfl rfl ?_
        obtain ⟨g6, h⟩ := h
        refine pv_iald (n := 185) (f := 220) (by decide) rfl d_M_grant_184 (by decide) g6 rfl ?_
        refine pv_iload (n := 187) d_M_grant_185 rfl rfl ?_
        refine pv_aload_n (n := 188) d_M_grant_187 rfl rfl rfl ?_
        obtain ⟨g7, h⟩ := h
        refine gt_M_55 (n := 191) rfl d_M_grant_188 (by decide) g7 rfl ?_
        refine pv_iload (n := 193) d_M_grant_191 rfl rfl ?_
        obtain ⟨g8, h⟩ := h
        refine pv_iald (n := 194) (f := 222) (by decide) rfl d_M_grant_193 (by decide) g8 rfl ?_
        refine pv_aload_n (n := 195) d_M_grant_194 rfl rfl rfl ?_
        obtain ⟨g9, h⟩ := h
        refine gt_M_58 (n := 198) rfl d_M_grant_195 (by decide) g9 rfl ?_
        refine pv_iload (n := 200) d_M_grant_198 rfl rfl ?_
        obtain ⟨g10, h⟩ := h
        refine pv_iald (n := 201) (f := 223) (by decide) rfl d_M_grant_200 (by decide) g10 rfl ?_
        refine pv_iload (n := 203) d_M_grant_201 rfl rfl ?_
        refine pv_callV (n := 206) (x := 0) [(0, (w2.1 220 0 (pw_i a9))), (0, a7), (0, (w2.1 222 0 (pw_i a9))), (0, (w2.1 223 0 (pw_i a9))), (0, a9)] [] (con_M_makesRight hl0 h) pw_cf8 rfl q_490 q_491 q_492 q_458 q_489 pyo_M_makesRight (by decide) rfl rfl (by decide) d_M_grant_203 rfl (fun w11 r12 h _ => ?_) (fun _ _ h => h.elim)
        show pw_V l g cx_M_grant Q X 206 [(10, 0), (1, 0), (1, 0), (1, 0), (1, 0), (1, 0), (0, a6), (0, a7), (0, a8), (0, a9)] [] w11
        refine pv_iinc (v := (a9 + 1)) (n := 209) (L1 := [(10, 0), (1, 0), (1, 0), (1, 0), (1, 0), (1, 0), (0, a6), (0, a7), (0, a8), (0, (a9 + 1))]) d_M_grant_206 rfl rfl rfl (by decide) rfl ?_
        refine pv_goto (tgt := 159) d_M_grant_209 (by decide) ?_
        exact ih _ _ _ _ _ h
set_option maxHeartbeats 4000000 in
set_option maxRecDepth 20000 in
def lp_M_grant_106 (Q : pw_W → Int32 → Prop) (X : pw_W → Nat → Prop) : Nat → Int32 → Int32 → Int32 → Int32 → Int32 → pw_W → Prop := fun k => Nat.rec (motive := fun _ => Int32 → Int32 → Int32 → Int32 → Int32 → pw_W → Prop) (fun _ _ _ _ _ _ => False) (fun _ ih a2 a3 a6 a7 a8 w => ((100 : Int32) ≤ a8 → ∀ v14, v14 = (w.1 8 0 26) → ∃ k16, lp_M_grant_159 Q X k16 a6 a7 v14 0 w) ∧ (¬ (100 : Int32) ≤ a8 → w.1 8 0 8 = 0 ∧ pw_jn a8 (pw_ln w 208 0) ∧ (¬ (w.1 208 0 (pw_i a8)) = a6 → ih a2 a3 a6 a7 (a8 + 1) w) ∧ ((w.1 208 0 (pw_i a8)) = a6 → wp_M_isInField w a8 a2 a3 (fun w20 r21 => (r21 = 0 → ih a2 a3 a6 a7 (a8 + 1) w20) ∧ (¬ r21 = 0 → wp_M_comes w20 a8 a7 (fun w23 r24 => ih a2 a3 a6 a7 (a8 + 1) w23) (fun _ _ => False))) (fun _ _ => False)))) k
set_option maxHeartbeats 4000000 in
set_option maxRecDepth 20000 in
theorem lp_M_grant_106_s {Q : pw_W → Int32 → Prop} {X : pw_W → Nat → Prop}  {k : Nat} {a2 a3 a6 a7 a8 : Int32} {w : pw_W} : lp_M_grant_106 Q X (k + 1) a2 a3 a6 a7 a8 w = (let ih := lp_M_grant_106 Q X k; ((100 : Int32) ≤ a8 → ∀ v14, v14 = (w.1 8 0 26) → ∃ k16, lp_M_grant_159 Q X k16 a6 a7 v14 0 w) ∧ (¬ (100 : Int32) ≤ a8 → w.1 8 0 8 = 0 ∧ pw_jn a8 (pw_ln w 208 0) ∧ (¬ (w.1 208 0 (pw_i a8)) = a6 → ih a2 a3 a6 a7 (a8 + 1) w) ∧ ((w.1 208 0 (pw_i a8)) = a6 → wp_M_isInField w a8 a2 a3 (fun w20 r21 => (r21 = 0 → ih a2 a3 a6 a7 (a8 + 1) w20) ∧ (¬ r21 = 0 → wp_M_comes w20 a8 a7 (fun w23 r24 => ih a2 a3 a6 a7 (a8 + 1) w23) (fun _ _ => False))) (fun _ _ => False)))) := rfl
set_option maxHeartbeats 4000000 in
set_option maxRecDepth 20000 in
theorem vlp_M_grant_106 {l : Launch} {g : pw_G} {Q : pw_W → Int32 → Prop} {X : pw_W → Nat → Prop} (hl0 : l.stackTraces = false) : ∀ (k : Nat) (a2 a3 a6 a7 a8 : Int32) (w : pw_W), lp_M_grant_106 Q X k a2 a3 a6 a7 a8 w → pw_V l g cx_M_grant Q X 106 [(10, 0), (1, 0), (0, a2), (0, a3), (1, 0), (1, 0), (0, a6), (0, a7), (0, a8), (1, 0)] [] w := by
  intro k; induction k with
  | zero => intro _ _ _ _ _ _ h; exact h.elim
  | succ k ih =>
    intro a2 a3 a6 a7 a8 w h
    rw [lp_M_grant_106_s] at h
    refine pv_iload (n := 108) d_M_grant_106 rfl rfl ?_
    refine pv_bipush (v := 100) (n := 110) d_M_grant_108 (by decide) rfl ?_
    refine pv_icmp_ge (n := 113) (tgt := 150) d_M_grant_110 (by decide) rfl (fun c13 => ?_) (fun c13 => ?_)
    · replace h := h.1 c13
      refine pv_aload_n (n := 151) d_M_grant_150 rfl rfl rfl ?_
      refine gt_M_131 (n := 154) rfl d_M_grant_151 (by decide) rfl ?_
      refine pv_nm (fun v14 e15 => ?_)
      replace h := h v14 e15
      refine pv_istore (n := 156) (L' := [(10, 0), (1, 0), (0, a2), (0, a3), (1, 0), (1, 0), (0, a6), (0, a7), (0, v14), (1, 0)]) d_M_grant_154 (by decide) rfl rfl ?_
      refine pv_iconst (v := 0) (n := 157) d_M_grant_156 (by decide) rfl ?_
      refine pv_istore (n := 159) (L' := [(10, 0), (1, 0), (0, a2), (0, a3), (1, 0), (1, 0), (0, a6), (0, a7), (0, v14), (0, 0)]) d_M_grant_157 (by decide) rfl rfl ?_
      refine pv_unset (i := 2) (L1 := [(10, 0), (1, 0), (1, 0), (0, a3), (1, 0), (1, 0), (0, a6), (0, a7), (0, v14), (0, 0)]) rfl ?_
      refine pv_unset (i := 3) (L1 := [(10, 0), (1, 0), (1, 0), (1, 0), (1, 0), (1, 0), (0, a6), (0, a7), (0, v14), (0, 0)]) rfl ?_
      obtain ⟨k16, h⟩ := h
      exact vlp_M_grant_159 hl0 _ _ _ _ _ _ h
    · replace h := h.2 c13
      refine pv_aload_n (n := 114) d_M_grant_113 rfl rfl rfl ?_
      obtain ⟨g17, h⟩ := h
      refine gt_M_16 (n := 117) rfl d_M_grant_114 (by decide) g17 rfl ?_
      refine pv_iload (n := 119) d_M_grant_117 rfl rfl ?_
      obtain ⟨g18, h⟩ := h
      refine pv_iald (n := 120) (f := 208) (by decide) rfl d_M_grant_119 (by decide) g18 rfl ?_
      refine pv_iload (n := 122) d_M_grant_120 rfl rfl ?_
      refine pv_icmp_ne (n := 125) (tgt := 144) d_M_grant_122 (by decide) rfl (fun c19 => ?_) (fun c19 => ?_)
      · replace h := h.1 c19
        refine pv_iinc (v := (a8 + 1)) (n := 147) (L1 := [(10, 0), (1, 0), (0, a2), (0, a3), (1, 0), (1, 0), (0, a6), (0, a7), (0, (a8 + 1)), (1, 0)]) d_M_grant_144 rfl rfl rfl (by decide) rfl ?_
        refine pv_goto (tgt := 106) d_M_grant_147 (by decide) ?_
        exact ih _ _ _ _ _ _ h
      · replace h := h.2 c19
        refine pv_iload (n := 127) d_M_grant_125 rfl rfl ?_
        refine pv_iload_n (n := 128) d_M_grant_127 rfl rfl rfl ?_
        refine pv_iload_n (n := 129) d_M_grant_128 rfl rfl rfl ?_
        refine pv_callS (n := 132) [(0, a8), (0, a2), (0, a3)] [] (con_M_isInField hl0 h) q_479 q_480 q_458 q_478 pyo_M_isInField (by decide) rfl rfl d_M_grant_129 rfl (fun w20 r21 h _ => ?_) (fun _ _ h => h.elim)
        show pw_V l g cx_M_grant Q X 132 [(10, 0), (1, 0), (0, a2), (0, a3), (1, 0), (1, 0), (0, a6), (0, a7), (0, a8), (1, 0)] [(0, r21)] w20
        refine pv_if_eq (n := 135) (tgt := 144) d_M_grant_132 (by decide) rfl (fun c22 => ?_) (fun c22 => ?_)
        · replace h := h.1 c22
          refine pv_iinc (v := (a8 + 1)) (n := 147) (L1 := [(10, 0), (1, 0), (0, a2), (0, a3), (1, 0), (1, 0), (0, a6), (0, a7), (0, (a8 + 1)), (1, 0)]) d_M_grant_144 rfl rfl rfl (by decide) rfl ?_
          refine pv_goto (tgt := 106) d_M_grant_147 (by decide) ?_
          exact ih _ _ _ _ _ _ h
        · replace h := h.2 c22
          refine pv_aload_n (n := 136) d_M_grant_135 rfl rfl rfl ?_
          refine pv_iload (n := 138) d_M_grant_136 rfl rfl ?_
          refine pv_iload (n := 140) d_M_grant_138 rfl rfl ?_
          refine pv_callV (n := 143) (x := 0) [(0, a8), (0, a7)] [] (con_M_comes hl0 h) pw_cf8 rfl q_494 q_495 q_496 q_458 q_493 pyo_M_comes (by decide) rfl rfl (by decide) d_M_grant_140 rfl (fun w23 r24 h _ => ?_) (fun _ _ h => h.elim)
          show pw_V l g cx_M_grant Q X 143 [(10, 0), (1, 0), (0, a2), (0, a3), (1, 0), (1, 0), (0, a6), (0, a7), (0, a8), (1, 0)] [(0, r24)] w23
          refine pv_pop (n := 144) d_M_grant_143 (by decide) rfl ?_
          refine pv_iinc (v := (a8 + 1)) (n := 147) (L1 := [(10, 0), (1, 0), (0, a2), (0, a3), (1, 0), (1, 0), (0, a6), (0, a7), (0, (a8 + 1)), (1, 0)]) d_M_grant_144 rfl rfl rfl (by decide) rfl ?_
          refine pv_goto (tgt := 106) d_M_grant_147 (by decide) ?_
          exact ih _ _ _ _ _ _ h
set_option maxHeartbeats 4000000 in
set_option maxRecDepth 20000 in
def jp_M_grant_80 (Q : pw_W → Int32 → Prop) (X : pw_W → Nat → Prop) (a1 a2 a3 a4 s0 : Int32) (w : pw_W) : Prop := wp_M_isFine w s0 (fun w25 r26 => (¬ r26 = 0 → wp_M_now w25 a1 (fun w28 r29 => wp_M_makesParcel w28 a4 (fun w30 r31 => ∃ k32, lp_M_grant_106 Q X k32 a2 a3 r29 r31 0 w30) (fun _ _ => False)) (fun _ _ => False)) ∧ (r26 = 0 → Q w25 0)) (fun _ _ => False)
set_option maxHeartbeats 4000000 in
set_option maxRecDepth 20000 in
theorem vjp_M_grant_80 {l : Launch} {g : pw_G} {Q : pw_W → Int32 → Prop} {X : pw_W → Nat → Prop} (hl0 : l.stackTraces = false) (a1 a2 a3 a4 s0 : Int32) (w : pw_W) (h : jp_M_grant_80 Q X a1 a2 a3 a4 s0 w) : pw_V l g cx_M_grant Q X 80 [(10, 0), (0, a1), (0, a2), (0, a3), (0, a4), (1, 0), (1, 0), (1, 0), (1, 0), (1, 0)] [(0, s0), (10, 0)] w := by
  unfold jp_M_grant_80 at h
  refine pv_callV (n := 83) (x := 0) [(0, s0)] [] (con_M_isFine hl0 h) pw_cf8 rfl q_506 q_507 q_508 q_458 q_505 pyo_M_isFine (by decide) rfl rfl (by decide) d_M_grant_80 rfl (fun w25 r26 h _ => ?_) (fun _ _ h => h.elim)
  show pw_V l g cx_M_grant Q X 83 [(10, 0), (0, a1), (0, a2), (0, a3), (0, a4), (1, 0), (1, 0), (1, 0), (1, 0), (1, 0)] [(0, r26)] w25
  refine pv_if_ne (n := 86) (tgt := 88) d_M_grant_83 (by decide) rfl (fun c27 => ?_) (fun c27 => ?_)
  · replace h := h.1 c27
    refine pv_aload_n (n := 89) d_M_grant_88 rfl rfl rfl ?_
    refine pv_iload_n (n := 90) d_M_grant_89 rfl rfl rfl ?_
    refine pv_callV (n := 93) (x := 0) [(0, a1)] [] (con_M_now hl0 h) pw_cf8 rfl q_502 q_503 q_504 q_458 q_501 pyo_M_now (by decide) rfl rfl (by decide) d_M_grant_90 rfl (fun w28 r29 h _ => ?_) (fun _ _ h => h.elim)
    show pw_V l g cx_M_grant Q X 93 [(10, 0), (0, a1), (0, a2), (0, a3), (0, a4), (1, 0), (1, 0), (1, 0), (1, 0), (1, 0)] [(0, r29)] w28
    refine pv_istore (n := 95) (L' := [(10, 0), (0, a1), (0, a2), (0, a3), (0, a4), (1, 0), (0, r29), (1, 0), (1, 0), (1, 0)]) d_M_grant_93 (by decide) rfl rfl ?_
    refine pv_aload_n (n := 96) d_M_grant_95 rfl rfl rfl ?_
    refine pv_iload (n := 98) d_M_grant_96 rfl rfl ?_
    refine pv_callV (n := 101) (x := 0) [(0, a4)] [] (con_M_makesParcel hl0 h) pw_cf8 rfl q_498 q_499 q_500 q_458 q_497 pyo_M_makesParcel (by decide) rfl rfl (by decide) d_M_grant_98 rfl (fun w30 r31 h _ => ?_) (fun _ _ h => h.elim)
    show pw_V l g cx_M_grant Q X 101 [(10, 0), (0, a1), (0, a2), (0, a3), (0, a4), (1, 0), (0, r29), (1, 0), (1, 0), (1, 0)] [(0, r31)] w30
    refine pv_istore (n := 103) (L' := [(10, 0), (0, a1), (0, a2), (0, a3), (0, a4), (1, 0), (0, r29), (0, r31), (1, 0), (1, 0)]) d_M_grant_101 (by decide) rfl rfl ?_
    refine pv_iconst (v := 0) (n := 104) d_M_grant_103 (by decide) rfl ?_
    refine pv_istore (n := 106) (L' := [(10, 0), (0, a1), (0, a2), (0, a3), (0, a4), (1, 0), (0, r29), (0, r31), (0, 0), (1, 0)]) d_M_grant_104 (by decide) rfl rfl ?_
    refine pv_unset (i := 1) (L1 := [(10, 0), (1, 0), (0, a2), (0, a3), (0, a4), (1, 0), (0, r29), (0, r31), (0, 0), (1, 0)]) rfl ?_
    refine pv_unset (i := 4) (L1 := [(10, 0), (1, 0), (0, a2), (0, a3), (1, 0), (1, 0), (0, r29), (0, r31), (0, 0), (1, 0)]) rfl ?_
    obtain ⟨k32, h⟩ := h
    exact vlp_M_grant_106 hl0 _ _ _ _ _ _ _ h
  · replace h := h.2 c27
    refine pv_iconst (v := 0) (n := 87) d_M_grant_86 (by decide) rfl ?_
    exact pv_iret rfl rfl d_M_grant_87 h
set_option maxHeartbeats 4000000 in
set_option maxRecDepth 20000 in
def jp_M_grant_35 (Q : pw_W → Int32 → Prop) (X : pw_W → Nat → Prop) (a1 a2 a3 a4 s0 : Int32) (w : pw_W) : Prop := (¬ s0 = 0 → wp_M_isField w a2 a3 (fun w34 r35 => (¬ r35 = 0 → wp_M_now w34 a1 (fun w37 r38 => wp_M_canGrant w37 r38 a2 a3 a4 (fun w39 r40 => (¬ r40 = 0 → jp_M_grant_80 Q X a1 a2 a3 a4 0 w39) ∧ (r40 = 0 → jp_M_grant_80 Q X a1 a2 a3 a4 3 w39)) (fun _ _ => False)) (fun _ _ => False)) ∧ (r35 = 0 → jp_M_grant_80 Q X a1 a2 a3 a4 2 w34)) (fun _ _ => False)) ∧ (s0 = 0 → jp_M_grant_80 Q X a1 a2 a3 a4 1 w)
set_option maxHeartbeats 4000000 in
set_option maxRecDepth 20000 in
theorem vjp_M_grant_35 {l : Launch} {g : pw_G} {Q : pw_W → Int32 → Prop} {X : pw_W → Nat → Prop} (hl0 : l.stackTraces = false) (a1 a2 a3 a4 s0 : Int32) (w : pw_W) (h : jp_M_grant_35 Q X a1 a2 a3 a4 s0 w) : pw_V l g cx_M_grant Q X 35 [(10, 0), (0, a1), (0, a2), (0, a3), (0, a4), (1, 0), (1, 0), (1, 0), (1, 0), (1, 0)] [(0, s0)] w := by
  unfold jp_M_grant_35 at h
  refine pv_istore (n := 37) (L' := [(10, 0), (0, a1), (0, a2), (0, a3), (0, a4), (0, s0), (1, 0), (1, 0), (1, 0), (1, 0)]) d_M_grant_35 (by decide) rfl rfl ?_
  refine pv_aload_n (n := 38) d_M_grant_37 rfl rfl rfl ?_
  refine pv_iload (n := 40) d_M_grant_38 rfl rfl ?_
  refine pv_if_ne (n := 43) (tgt := 47) d_M_grant_40 (by decide) rfl (fun c33 => ?_) (fun c33 => ?_)
  · replace h := h.1 c33
    refine pv_iload_n (n := 48) d_M_grant_47 rfl rfl rfl ?_
    refine pv_iload_n (n := 49) d_M_grant_48 rfl rfl rfl ?_
    refine pv_callS (n := 52) [(0, a2), (0, a3)] [(10, 0)] (con_M_isField hl0 h) q_514 q_515 q_458 q_513 pyo_M_isField (by decide) rfl rfl d_M_grant_49 rfl (fun w34 r35 h _ => ?_) (fun _ _ h => h.elim)
    show pw_V l g cx_M_grant Q X 52 [(10, 0), (0, a1), (0, a2), (0, a3), (0, a4), (0, s0), (1, 0), (1, 0), (1, 0), (1, 0)] [(0, r35), (10, 0)] w34
    refine pv_if_ne (n := 55) (tgt := 59) d_M_grant_52 (by decide) rfl (fun c36 => ?_) (fun c36 => ?_)
    · replace h := h.1 c36
      refine pv_aload_n (n := 60) d_M_grant_59 rfl rfl rfl ?_
      refine pv_aload_n (n := 61) d_M_grant_60 rfl rfl rfl ?_
      refine pv_iload_n (n := 62) d_M_grant_61 rfl rfl rfl ?_
      refine pv_callV (n := 65) (x := 0) [(0, a1)] [(10, 0), (10, 0)] (con_M_now hl0 h) pw_cf8 rfl q_502 q_503 q_504 q_458 q_501 pyo_M_now (by decide) rfl rfl (by decide) d_M_grant_62 rfl (fun w37 r38 h _ => ?_) (fun _ _ h => h.elim)
      show pw_V l g cx_M_grant Q X 65 [(10, 0), (0, a1), (0, a2), (0, a3), (0, a4), (0, s0), (1, 0), (1, 0), (1, 0), (1, 0)] [(0, r38), (10, 0), (10, 0)] w37
      refine pv_iload_n (n := 66) d_M_grant_65 rfl rfl rfl ?_
      refine pv_iload_n (n := 67) d_M_grant_66 rfl rfl rfl ?_
      refine pv_iload (n := 69) d_M_grant_67 rfl rfl ?_
      refine pv_callV (n := 72) (x := 0) [(0, r38), (0, a2), (0, a3), (0, a4)] [(10, 0)] (con_M_canGrant hl0 h) pw_cf8 rfl q_510 q_511 q_512 q_458 q_509 pyo_M_canGrant (by decide) rfl rfl (by decide) d_M_grant_69 rfl (fun w39 r40 h _ => ?_) (fun _ _ h => h.elim)
      show pw_V l g cx_M_grant Q X 72 [(10, 0), (0, a1), (0, a2), (0, a3), (0, a4), (0, s0), (1, 0), (1, 0), (1, 0), (1, 0)] [(0, r40), (10, 0)] w39
      refine pv_if_ne (n := 75) (tgt := 79) d_M_grant_72 (by decide) rfl (fun c41 => ?_) (fun c41 => ?_)
      · replace h := h.1 c41
        refine pv_iconst (v := 0) (n := 80) d_M_grant_79 (by decide) rfl ?_
        refine pv_unset (i := 5) (L1 := [(10, 0), (0, a1), (0, a2), (0, a3), (0, a4), (1, 0), (1, 0), (1, 0), (1, 0), (1, 0)]) rfl ?_
        exact vjp_M_grant_80 hl0 _ _ _ _ _ _ h
      · replace h := h.2 c41
        refine pv_iconst (v := 3) (n := 76) d_M_grant_75 (by decide) rfl ?_
        refine pv_goto (tgt := 80) d_M_grant_76 (by decide) ?_
        refine pv_unset (i := 5) (L1 := [(10, 0), (0, a1), (0, a2), (0, a3), (0, a4), (1, 0), (1, 0), (1, 0), (1, 0), (1, 0)]) rfl ?_
        exact vjp_M_grant_80 hl0 _ _ _ _ _ _ h
    · replace h := h.2 c36
      refine pv_iconst (v := 2) (n := 56) d_M_grant_55 (by decide) rfl ?_
      refine pv_goto (tgt := 80) d_M_grant_56 (by decide) ?_
      refine pv_unset (i := 5) (L1 := [(10, 0), (0, a1), (0, a2), (0, a3), (0, a4), (1, 0), (1, 0), (1, 0), (1, 0), (1, 0)]) rfl ?_
      exact vjp_M_grant_80 hl0 _ _ _ _ _ _ h
  · replace h := h.2 c33
    refine pv_iconst (v := 1) (n := 44) d_M_grant_43 (by decide) rfl ?_
    refine pv_goto (tgt := 80) d_M_grant_44 (by decide) ?_
    refine pv_unset (i := 5) (L1 := [(10, 0), (0, a1), (0, a2), (0, a3), (0, a4), (1, 0), (1, 0), (1, 0), (1, 0), (1, 0)]) rfl ?_
    exact vjp_M_grant_80 hl0 _ _ _ _ _ _ h
set_option maxHeartbeats 4000000 in
set_option maxRecDepth 20000 in
def jp_M_grant_34 (Q : pw_W → Int32 → Prop) (X : pw_W → Nat → Prop) (a1 a2 a3 a4 : Int32) (w : pw_W) : Prop := jp_M_grant_35 Q X a1 a2 a3 a4 0 w
set_option maxHeartbeats 4000000 in
set_option maxRecDepth 20000 in
theorem vjp_M_grant_34 {l : Launch} {g : pw_G} {Q : pw_W → Int32 → Prop} {X : pw_W → Nat → Prop} (hl0 : l.stackTraces = false) (a1 a2 a3 a4 : Int32) (w : pw_W) (h : jp_M_grant_34 Q X a1 a2 a3 a4 w) : pw_V l g cx_M_grant Q X 34 [(10, 0), (0, a1), (0, a2), (0, a3), (0, a4), (1, 0), (1, 0), (1, 0), (1, 0), (1, 0)] [] w := by
  unfold jp_M_grant_34 at h
  refine pv_iconst (v := 0) (n := 35) d_M_grant_34 (by decide) rfl ?_
  exact vjp_M_grant_35 hl0 _ _ _ _ _ _ h
set_option maxHeartbeats 4000000 in
set_option maxRecDepth 20000 in
def wp_M_grant (w : pw_W) (a1 a2 a3 a4 : Int32) (Q : pw_W → Int32 → Prop) (X : pw_W → Nat → Prop) : Prop := wp_M_isParcel w a1 (fun w42 r43 => (r43 = 0 → jp_M_grant_34 Q X a1 a2 a3 a4 w42) ∧ (¬ r43 = 0 → wp_M_isSquare w42 a2 (fun w45 r46 => (r46 = 0 → jp_M_grant_34 Q X a1 a2 a3 a4 w45) ∧ (¬ r46 = 0 → wp_M_isSquare w45 a3 (fun w48 r49 => (r49 = 0 → jp_M_grant_34 Q X a1 a2 a3 a4 w48) ∧ (¬ r49 = 0 → wp_M_isPerson w48 a4 (fun w51 r52 => (r52 = 0 → jp_M_grant_34 Q X a1 a2 a3 a4 w51) ∧ (¬ r52 = 0 → jp_M_grant_35 Q X a1 a2 a3 a4 1 w51)) (fun _ _ => False))) (fun _ _ => False))) (fun _ _ => False))) (fun _ _ => False)
set_option maxHeartbeats 4000000 in
set_option maxRecDepth 20000 in
theorem vw_M_grant {l : Launch} {g : pw_G} {Q : pw_W → Int32 → Prop} {X : pw_W → Nat → Prop} (hl0 : l.stackTraces = false) {w : pw_W} {a1 a2 a3 a4 : Int32} (h : wp_M_grant w a1 a2 a3 a4 Q X) : pw_V l g cx_M_grant Q X 0 [(10, 0), (0, a1), (0, a2), (0, a3), (0, a4), (1, 0), (1, 0), (1, 0), (1, 0), (1, 0)] [] w := by
  unfold wp_M_grant at h
  refine pv_aload_n (n := 1) d_M_grant_0 rfl rfl rfl ?_
  refine pv_iload_n (n := 2) d_M_grant_1 rfl rfl rfl ?_
  refine pv_callV (n := 5) (x := 0) [(0, a1)] [] (con_M_isParcel hl0 h) pw_cf8 rfl q_523 q_524 q_525 q_458 q_522 pyo_M_isParcel (by decide) rfl rfl (by decide) d_M_grant_2 rfl (fun w42 r43 h _ => ?_) (fun _ _ h => h.elim)
  show pw_V l g cx_M_grant Q X 5 [(10, 0), (0, a1), (0, a2), (0, a3), (0, a4), (1, 0), (1, 0), (1, 0), (1, 0), (1, 0)] [(0, r43)] w42
  refine pv_if_eq (n := 8) (tgt := 34) d_M_grant_5 (by decide) rfl (fun c44 => ?_) (fun c44 => ?_)
  · replace h := h.1 c44
    exact vjp_M_grant_34 hl0 _ _ _ _ _ h
  · replace h := h.2 c44
    refine pv_iload_n (n := 9) d_M_grant_8 rfl rfl rfl ?_
    refine pv_callS (n := 12) [(0, a2)] [] (con_M_isSquare hl0 h) q_520 q_521 q_458 q_519 pyo_M_isSquare (by decide) rfl rfl d_M_grant_9 rfl (fun w45 r46 h _ => ?_) (fun _ _ h => h.elim)
    show pw_V l g cx_M_grant Q X 12 [(10, 0), (0, a1), (0, a2), (0, a3), (0, a4), (1, 0), (1, 0), (1, 0), (1, 0), (1, 0)] [(0, r46)] w45
    refine pv_if_eq (n := 15) (tgt := 34) d_M_grant_12 (by decide) rfl (fun c47 => ?_) (fun c47 => ?_)
    · replace h := h.1 c47
      exact vjp_M_grant_34 hl0 _ _ _ _ _ h
    · replace h := h.2 c47
      refine pv_iload_n (n := 16) d_M_grant_15 rfl rfl rfl ?_
      refine pv_callS (n := 19) [(0, a3)] [] (con_M_isSquare hl0 h) q_520 q_521 q_458 q_519 pyo_M_isSquare (by decide) rfl rfl d_M_grant_16 rfl (fun w48 r49 h _ => ?_) (fun _ _ h => h.elim)
      show pw_V l g cx_M_grant Q X 19 [(10, 0), (0, a1), (0, a2), (0, a3), (0, a4), (1, 0), (1, 0), (1, 0), (1, 0), (1, 0)] [(0, r49)] w48
      refine pv_if_eq (n := 22) (tgt := 34) d_M_grant_19 (by decide) rfl (fun c50 => ?_) (fun c50 => ?_)
      · replace h := h.1 c50
        exact vjp_M_grant_34 hl0 _ _ _ _ _ h
      · replace h := h.2 c50
        refine pv_iload (n := 24) d_M_grant_22 rfl rfl ?_
        refine pv_callS (n := 27) [(0, a4)] [] (con_M_isPerson hl0 h) q_517 q_518 q_458 q_516 pyo_M_isPerson (by decide) rfl rfl d_M_grant_24 rfl (fun w51 r52 h _ => ?_) (fun _ _ h => h.elim)
        show pw_V l g cx_M_grant Q X 27 [(10, 0), (0, a1), (0, a2), (0, a3), (0, a4), (1, 0), (1, 0), (1, 0), (1, 0), (1, 0)] [(0, r52)] w51
        refine pv_if_eq (n := 30) (tgt := 34) d_M_grant_27 (by decide) rfl (fun c53 => ?_) (fun c53 => ?_)
        · replace h := h.1 c53
          exact vjp_M_grant_34 hl0 _ _ _ _ _ h
        · replace h := h.2 c53
          refine pv_iconst (v := 1) (n := 31) d_M_grant_30 (by decide) rfl ?_
          refine pv_goto (tgt := 35) d_M_grant_31 (by decide) ?_
          exact vjp_M_grant_35 hl0 _ _ _ _ _ _ h
set_option maxHeartbeats 4000000 in
set_option maxRecDepth 20000 in
theorem con_M_grant {l : Launch} {g : pw_G} {Q : pw_W → Int32 → Prop} {X : pw_W → Nat → Prop} (hl0 : l.stackTraces = false) {w : pw_W} {a1 a2 a3 a4 : Int32} (h : wp_M_grant w a1 a2 a3 a4 Q X) : pw_Con l g y_M_grant cx_M_grant [(10, 0), (0, a1), (0, a2), (0, a3), (0, a4)] w Q X :=
  pw_con (by decide +kernel) rfl rfl hl0 rfl (Nat.le_of_ble_eq_true rfl) (by simp) (vw_M_grant hl0 h)
theorem d_M_missing_0 : decode (pw_cc cx_M_missing) 0 = .ok (.iconst 0, 1) := by decide +kernel
theorem d_M_missing_1 : decode (pw_cc cx_M_missing) 1 = .ok (.istore_n 3, 1) := by decide +kernel
theorem d_M_missing_2 : decode (pw_cc cx_M_missing) 2 = .ok (.iconst 0, 1) := by decide +kernel
theorem d_M_missing_3 : decode (pw_cc cx_M_missing) 3 = .ok (.istore 4, 2) := by decide +kernel
theorem d_M_missing_5 : decode (pw_cc cx_M_missing) 5 = .ok (.iload 4, 2) := by decide +kernel
theorem d_M_missing_7 : decode (pw_cc cx_M_missing) 7 = .ok (.aload_n 0, 1) := by decide +kernel
theorem d_M_missing_8 : decode (pw_cc cx_M_missing) 8 = .ok (.getfield 131, 3) := by decide +kernel
theorem d_M_missing_11 : decode (pw_cc cx_M_missing) 11 = .ok (.if_icmp .ge 49, 3) := by decide +kernel
theorem d_M_missing_14 : decode (pw_cc cx_M_missing) 14 = .ok (.iload_n 3, 1) := by decide +kernel
theorem d_M_missing_15 : decode (pw_cc cx_M_missing) 15 = .ok (.aload_n 0, 1) := by decide +kernel
theorem d_M_missing_16 : decode (pw_cc cx_M_missing) 16 = .ok (.iload 4, 2) := by decide +kernel
theorem d_M_missing_18 : decode (pw_cc cx_M_missing) 18 = .ok (.iload_n 1, 1) := by decide +kernel
theorem d_M_missing_19 : decode (pw_cc cx_M_missing) 19 = .ok (.invokevirtual 134, 3) := by decide +kernel
theorem d_M_missing_22 : decode (pw_cc cx_M_missing) 22 = .ok (.ifCond .eq 29, 3) := by decide +kernel
theorem d_M_missing_25 : decode (pw_cc cx_M_missing) 25 = .ok (.aload_n 0, 1) := by decide +kernel
theorem d_M_missing_26 : decode (pw_cc cx_M_missing) 26 = .ok (.aload_n 0, 1) := by decide +kernel
theorem d_M_missing_27 : decode (pw_cc cx_M_missing) 27 = .ok (.getfield 49, 3) := by decide +kernel
theorem d_M_missing_30 : decode (pw_cc cx_M_missing) 30 = .ok (.iload 4, 2) := by decide +kernel
theorem d_M_missing_32 : decode (pw_cc cx_M_missing) 32 = .ok (.iaload, 1) := by decide +kernel
theorem d_M_missing_33 : decode (pw_cc cx_M_missing) 33 = .ok (.iload_n 2, 1) := by decide +kernel
theorem d_M_missing_34 : decode (pw_cc cx_M_missing) 34 = .ok (.aload_n 0, 1) := by decide +kernel
theorem d_M_missing_35 : decode (pw_cc cx_M_missing) 35 = .ok (.getfield 55, 3) := by decide +kernel
theorem d_M_missing_38 : decode (pw_cc cx_M_missing) 38 = .ok (.iload 4, 2) := by decide +kernel
theorem d_M_missing_40 : decode (pw_cc cx_M_missing) 40 = .ok (.iaload, 1) := by decide +kernel
theorem d_M_missing_41 : decode (pw_cc cx_M_missing) 41 = .ok (.invokevirtual 192, 3) := by decide +kernel
theorem d_M_missing_44 : decode (pw_cc cx_M_missing) 44 = .ok (.ifCond .ne 7, 3) := by decide +kernel
theorem d_M_missing_47 : decode (pw_cc cx_M_missing) 47 = .ok (.iconst 1, 1) := by decide +kernel
theorem d_M_missing_48 : decode (pw_cc cx_M_missing) 48 = .ok (.goto 4, 3) := by decide +kernel
theorem d_M_missing_51 : decode (pw_cc cx_M_missing) 51 = .ok (.iconst 0, 1) := by decide +kernel
theorem d_M_missing_52 : decode (pw_cc cx_M_missing) 52 = .ok (.iadd, 1) := by decide +kernel
theorem d_M_missing_53 : decode (pw_cc cx_M_missing) 53 = .ok (.istore_n 3, 1) := by decide +kernel
theorem d_M_missing_54 : decode (pw_cc cx_M_missing) 54 = .ok (.iinc 4 1, 3) := by decide +kernel
theorem d_M_missing_57 : decode (pw_cc cx_M_missing) 57 = .ok (.goto (-52), 3) := by decide +kernel
theorem d_M_missing_60 : decode (pw_cc cx_M_missing) 60 = .ok (.iload_n 3, 1) := by decide +kernel
theorem d_M_missing_61 : decode (pw_cc cx_M_missing) 61 = .ok (.ireturn, 1) := by decide +kernel
set_option maxHeartbeats 4000000 in
set_option maxRecDepth 20000 in
def lp_M_missing_5 (Q : pw_W → Int32 → Prop) (X : pw_W → Nat → Prop) : Nat → Int32 → Int32 → Int32 → Int32 → pw_W → Prop := fun k => Nat.rec (motive := fun _ => Int32 → Int32 → Int32 → Int32 → pw_W → Prop) (fun _ _ _ _ _ => False) (fun _ ih a1 a2 a3 a4 w => ((w.1 8 0 26) ≤ a4 → Q w a3) ∧ (¬ (w.1 8 0 26) ≤ a4 → wp_M_isOn w a4 a1 (fun w2 r3 => (r3 = 0 → ∀ v5, v5 = (a3 + 0) → ih a1 a2 v5 (a4 + 1) w2) ∧ (¬ r3 = 0 → w2.1 8 0 20 = 0 ∧ pw_jn a4 (pw_ln w2 220 0) ∧ w2.1 8 0 22 = 0 ∧ pw_jn a4 (pw_ln w2 222 0) ∧ wp_M_hasRight w2 (w2.1 220 0 (pw_i a4)) a2 (w2.1 222 0 (pw_i a4)) (fun w11 r12 => (¬ r12 = 0 → ∀ v14, v14 = (a3 + 0) → ih a1 a2 v14 (a4 + 1) w11) ∧ (r12 = 0 → ∀ v16, v16 = (a3 + 1) → ih a1 a2 v16 (a4 + 1) w11)) (fun _ _ => False))) (fun _ _ => False))) k
set_option maxHeartbeats 4000000 in
set_option maxRecDepth 20000 in
theorem lp_M_missing_5_s {Q : pw_W → Int32 → Prop} {X : pw_W → Nat → Prop}  {k : Nat} {a1 a2 a3 a4 : Int32} {w : pw_W} : lp_M_missing_5 Q X (k + 1) a1 a2 a3 a4 w = (let ih := lp_M_missing_5 Q X k; ((w.1 8 0 26) ≤ a4 → Q w a3) ∧ (¬ (w.1 8 0 26) ≤ a4 → wp_M_isOn w a4 a1 (fun w2 r3 => (r3 = 0 → ∀ v5, v5 = (a3 + 0) → ih a1 a2 v5 (a4 + 1) w2) ∧ (¬ r3 = 0 → w2.1 8 0 20 = 0 ∧ pw_jn a4 (pw_ln w2 220 0) ∧ w2.1 8 0 22 = 0 ∧ pw_jn a4 (pw_ln w2 222 0) ∧ wp_M_hasRight w2 (w2.1 220 0 (pw_i a4)) a2 (w2.1 222 0 (pw_i a4)) (fun w11 r12 => (¬ r12 = 0 → ∀ v14, v14 = (a3 + 0) → ih a1 a2 v14 (a4 + 1) w11) ∧ (r12 = 0 → ∀ v16, v16 = (a3 + 1) → ih a1 a2 v16 (a4 + 1) w11)) (fun _ _ => False))) (fun _ _ => False))) := rfl
set_option maxHeartbeats 4000000 in
set_option maxRecDepth 20000 in
theorem vlp_M_missing_5 {l : Launch} {g : pw_G} {Q : pw_W → Int32 → Prop} {X : pw_W → Nat → Prop} (hl0 : l.stackTraces = false) : ∀ (k : Nat) (a1 a2 a3 a4 : Int32) (w : pw_W), lp_M_missing_5 Q X k a1 a2 a3 a4 w → pw_V l g cx_M_missing Q X 5 [(10, 0), (0, a1), (0, a2), (0, a3), (0, a4)] [] w := by
  intro k; induction k with
  | zero => intro _ _ _ _ _ h; exact h.elim
  | succ k ih =>
    intro a1 a2 a3 a4 w h
    rw [lp_M_missing_5_s] at h
    refine pv_iload (n := 7) d_M_missing_5 rfl rfl ?_
    refine pv_aload_n (n := 8) d_M_missing_7 rfl rfl rfl ?_
    refine gt_M_131 (n := 11) rfl d_M_missing_8 (by decide) rfl ?_
    refine pv_icmp_ge (n := 14) (tgt := 60) d_M_missing_11 (by decide) rfl (fun c1 => ?_) (fun c1 => ?_)
    · replace h := h.1 c1
      refine pv_iload_n (n := 61) d_M_missing_60 rfl rfl rfl ?_
      exact pv_iret rfl rfl d_M_missing_61 h
    · replace h := h.2 c1
      refine pv_iload_n (n := 15) d_M_missing_14 rfl rfl rfl ?_
      refine pv_aload_n (n := 16) d_M_missing_15 rfl rfl rfl ?_
      refine pv_iload (n := 18) d_M_missing_16 rfl rfl ?_
      refine pv_iload_n (n := 19) d_M_missing_18 rfl rfl rfl ?_
      refine pv_callV (n := 22) (x := 0) [(0, a4), (0, a1)] [(0, a3)] (con_M_isOn hl0 h) pw_cf8 rfl q_464 q_465 q_466 q_458 q_463 pyo_M_isOn (by decide) rfl rfl (by decide) d_M_missing_19 rfl (fun w2 r3 h _ => ?_) (fun _ _ h => h.elim)
      show pw_V l g cx_M_missing Q X 22 [(10, 0), (0, a1), (0, a2), (0, a3), (0, a4)] [(0, r3), (0, a3)] w2
      refine pv_if_eq (n := 25) (tgt := 51) d_M_missing_22 (by decide) rfl (fun c4 => ?_) (fun c4 => ?_)
      · replace h := h.1 c4
        refine pv_iconst (v := 0) (n := 52) d_M_missing_51 (by decide) rfl ?_
        refine pv_iadd (n := 53) d_M_missing_52 rfl ?_
        refine pv_nm (fun v5 e6 => ?_)
        replace h := h v5 e6
        refine pv_istore_n (n := 54) (L' := [(10, 0), (0, a1), (0, a2), (0, v5), (0, a4)]) d_M_missing_53 rfl (by decide) rfl rfl ?_
        refine pv_iinc (v := (a4 + 1)) (n := 57) (L1 := [(10, 0), (0, a1), (0, a2), (0, v5), (0, (a4 + 1))]) d_M_missing_54 rfl rfl rfl (by decide) rfl ?_
        refine pv_goto (tgt := 5) d_M_missing_57 (by decide) ?_
        exact ih _ _ _ _ _ h
      · replace h := h.2 c4
        refine pv_aload_n (n := 26) d_M_missing_25 rfl rfl rfl ?_
        refine pv_aload_n (n := 27) d_M_missing_26 rfl rfl rfl ?_
        obtain ⟨g7, h⟩ := h
        refine gt_M_49 (n := 30) rfl d_M_missing_27 (by decide) g7 rfl ?_
        refine pv_iload (n := 32) d_M_missing_30 rfl rfl ?_
        obtain ⟨g8, h⟩ := h
        refine pv_iald (n := 33) (f := 220) (by decide) rfl d_M_missing_32 (by decide) g8 rfl ?_
        refine pv_iload_n (n := 34) d_M_missing_33 rfl rfl rfl ?_
        refine pv_aload_n (n := 35) d_M_missing_34 rfl rfl rfl ?_
        obtain ⟨g9, h⟩ := h
        refine gt_M_55 (n := 38) rfl d_M_missing_35 (by decide) g9 rfl ?_
        refine pv_iload (n := 40) d_M_missing_38 rfl rfl ?_
        obtain ⟨g10, h⟩ := h
        refine pv_iald (n := 41) (f := 222) (by decide) rfl d_M_missing_40 (by decide) g10 rfl ?_
        refine pv_callV (n := 44) (x := 0) [(0, (w2.1 220 0 (pw_i a4))), (0, a2), (0, (w2.1 222 0 (pw_i a4)))] [(0, a3)] (con_M_hasRight hl0 h) pw_cf8 rfl q_527 q_528 q_529 q_458 q_526 pyo_M_hasRight (by decide) rfl rfl (by decide) d_M_missing_41 rfl (fun w11 r12 h _ => ?_) (fun _ _ h => h.elim)
        show pw_V l g cx_M_missing Q X 44 [(10, 0), (0, a1), (0, a2), (0, a3), (0, a4)] [(0, r12), (0, a3)] w11
        refine pv_if_ne (n := 47) (tgt := 51) d_M_missing_44 (by decide) rfl (fun c13 => ?_) (fun c13 => ?_)
        · replace h := h.1 c13
          refine pv_iconst (v := 0) (n := 52) d_M_missing_51 (by decide) rfl ?_
          refine pv_iadd (n := 53) d_M_missing_52 rfl ?_
          refine pv_nm (fun v14 e15 => ?_)
          replace h := h v14 e15
          refine pv_istore_n (n := 54) (L' := [(10, 0), (0, a1), (0, a2), (0, v14), (0, a4)]) d_M_missing_53 rfl (by decide) rfl rfl ?_
          refine pv_iinc (v := (a4 + 1)) (n := 57) (L1 := [(10, 0), (0, a1), (0, a2), (0, v14), (0, (a4 + 1))]) d_M_missing_54 rfl rfl rfl (by decide) rfl ?_
          refine pv_goto (tgt := 5) d_M_missing_57 (by decide) ?_
          exact ih _ _ _ _ _ h
        · replace h := h.2 c13
          refine pv_iconst (v := 1) (n := 48) d_M_missing_47 (by decide) rfl ?_
          refine pv_goto (tgt := 52) d_M_missing_48 (by decide) ?_
          refine pv_iadd (n := 53) d_M_missing_52 rfl ?_
          refine pv_nm (fun v16 e17 => ?_)
          replace h := h v16 e17
          refine pv_istore_n (n := 54) (L' := [(10, 0), (0, a1), (0, a2), (0, v16), (0, a4)]) d_M_missing_53 rfl (by decide) rfl rfl ?_
          refine pv_iinc (v := (a4 + 1)) (n := 57) (L1 := [(10, 0), (0, a1), (0, a2), (0, v16), (0, (a4 + 1))]) d_M_missing_54 rfl rfl rfl (by decide) rfl ?_
          refine pv_goto (tgt := 5) d_M_missing_57 (by decide) ?_
          exact ih _ _ _ _ _ h
set_option maxHeartbeats 4000000 in
set_option maxRecDepth 20000 in
def wp_M_missing (w : pw_W) (a1 a2 : Int32) (Q : pw_W → Int32 → Prop) (X : pw_W → Nat → Prop) : Prop := ∃ k18, lp_M_missing_5 Q X k18 a1 a2 0 0 w
set_option maxHeartbeats 4000000 in
set_option maxRecDepth 20000 in
theorem vw_M_missing {l : Launch} {g : pw_G} {Q : pw_W → Int32 → Prop} {X : pw_W → Nat → Prop} (hl0 : l.stackTraces = false) {w : pw_W} {a1 a2 : Int32} (h : wp_M_missing w a1 a2 Q X) : pw_V l g cx_M_missing Q X 0 [(10, 0), (0, a1), (0, a2), (1, 0), (1, 0)] [] w := by
  unfold wp_M_missing at h
  refine pv_iconst (v := 0) (n := 1) d_M_missing_0 (by decide) rfl ?_
  refine pv_istore_n (n := 2) (L' := [(10, 0), (0, a1), (0, a2), (0, 0), (1, 0)]) d_M_missing_1 rfl (by decide) rfl rfl ?_
  refine pv_iconst (v := 0) (n := 3) d_M_missing_2 (by decide) rfl ?_
  refine pv_istore (n := 5) (L' := [(10, 0), (0, a1), (0, a2), (0, 0), (0, 0)]) d_M_missing_3 (by decide) rfl rfl ?_
  obtain ⟨k18, h⟩ := h
  exact vlp_M_missing_5 hl0 _ _ _ _ _ _ h
set_option maxHeartbeats 4000000 in
set_option maxRecDepth 20000 in
theorem con_M_missing {l : Launch} {g : pw_G} {Q : pw_W → Int32 → Prop} {X : pw_W → Nat → Prop} (hl0 : l.stackTraces = false) {w : pw_W} {a1 a2 : Int32} (h : wp_M_missing w a1 a2 Q X) : pw_Con l g y_M_missing cx_M_missing [(10, 0), (0, a1), (0, a2)] w Q X :=
  pw_con (by decide +kernel) rfl rfl hl0 rfl (Nat.le_of_ble_eq_true rfl) (by simp) (vw_M_missing hl0 h)
