theorem d_M_dayPasses_0 : decode (pw_cc cx_M_dayPasses) 0 = .ok (.aload_n 0, 1) := by decide +kernel
theorem d_M_dayPasses_1 : decode (pw_cc cx_M_dayPasses) 1 = .ok (.dup, 1) := by decide +kernel
theorem d_M_dayPasses_2 : decode (pw_cc cx_M_dayPasses) 2 = .ok (.getfield 204, 3) := by decide +kernel
theorem d_M_dayPasses_5 : decode (pw_cc cx_M_dayPasses) 5 = .ok (.iconst 1, 1) := by decide +kernel
theorem d_M_dayPasses_6 : decode (pw_cc cx_M_dayPasses) 6 = .ok (.iadd, 1) := by decide +kernel
theorem d_M_dayPasses_7 : decode (pw_cc cx_M_dayPasses) 7 = .ok (.putfield 204, 3) := by decide +kernel
theorem d_M_dayPasses_10 : decode (pw_cc cx_M_dayPasses) 10 = .ok (.aload_n 0, 1) := by decide +kernel
theorem d_M_dayPasses_11 : decode (pw_cc cx_M_dayPasses) 11 = .ok (.invokevirtual 275, 3) := by decide +kernel
theorem d_M_dayPasses_14 : decode (pw_cc cx_M_dayPasses) 14 = .ok (.aload_n 0, 1) := by decide +kernel
theorem d_M_dayPasses_15 : decode (pw_cc cx_M_dayPasses) 15 = .ok (.getfield 204, 3) := by decide +kernel
theorem d_M_dayPasses_18 : decode (pw_cc cx_M_dayPasses) 18 = .ok (.sipush 360, 3) := by decide +kernel
theorem d_M_dayPasses_21 : decode (pw_cc cx_M_dayPasses) 21 = .ok (.irem, 1) := by decide +kernel
theorem d_M_dayPasses_22 : decode (pw_cc cx_M_dayPasses) 22 = .ok (.bipush 120, 2) := by decide +kernel
theorem d_M_dayPasses_24 : decode (pw_cc cx_M_dayPasses) 24 = .ok (.sipush 239, 3) := by decide +kernel
theorem d_M_dayPasses_27 : decode (pw_cc cx_M_dayPasses) 27 = .ok (.invokestatic 124, 3) := by decide +kernel
theorem d_M_dayPasses_30 : decode (pw_cc cx_M_dayPasses) 30 = .ok (.ifCond .eq 7, 3) := by decide +kernel
theorem d_M_dayPasses_33 : decode (pw_cc cx_M_dayPasses) 33 = .ok (.aload_n 0, 1) := by decide +kernel
theorem d_M_dayPasses_34 : decode (pw_cc cx_M_dayPasses) 34 = .ok (.invokevirtual 278, 3) := by decide +kernel
theorem d_M_dayPasses_37 : decode (pw_cc cx_M_dayPasses) 37 = .ok (.iconst 0, 1) := by decide +kernel
theorem d_M_dayPasses_38 : decode (pw_cc cx_M_dayPasses) 38 = .ok (.istore_n 1, 1) := by decide +kernel
theorem d_M_dayPasses_39 : decode (pw_cc cx_M_dayPasses) 39 = .ok (.iload_n 1, 1) := by decide +kernel
theorem d_M_dayPasses_40 : decode (pw_cc cx_M_dayPasses) 40 = .ok (.aload_n 0, 1) := by decide +kernel
theorem d_M_dayPasses_41 : decode (pw_cc cx_M_dayPasses) 41 = .ok (.getfield 116, 3) := by decide +kernel
theorem d_M_dayPasses_44 : decode (pw_cc cx_M_dayPasses) 44 = .ok (.if_icmp .ge 29, 3) := by decide +kernel
theorem d_M_dayPasses_47 : decode (pw_cc cx_M_dayPasses) 47 = .ok (.aload_n 0, 1) := by decide +kernel
theorem d_M_dayPasses_48 : decode (pw_cc cx_M_dayPasses) 48 = .ok (.iload_n 1, 1) := by decide +kernel
theorem d_M_dayPasses_49 : decode (pw_cc cx_M_dayPasses) 49 = .ok (.invokevirtual 281, 3) := by decide +kernel
theorem d_M_dayPasses_52 : decode (pw_cc cx_M_dayPasses) 52 = .ok (.iconst 2, 1) := by decide +kernel
theorem d_M_dayPasses_53 : decode (pw_cc cx_M_dayPasses) 53 = .ok (.aload_n 0, 1) := by decide +kernel
theorem d_M_dayPasses_54 : decode (pw_cc cx_M_dayPasses) 54 = .ok (.iload_n 1, 1) := by decide +kernel
theorem d_M_dayPasses_55 : decode (pw_cc cx_M_dayPasses) 55 = .ok (.invokevirtual 138, 3) := by decide +kernel
theorem d_M_dayPasses_58 : decode (pw_cc cx_M_dayPasses) 58 = .ok (.imul, 1) := by decide +kernel
theorem d_M_dayPasses_59 : decode (pw_cc cx_M_dayPasses) 59 = .ok (.if_icmp .le 8, 3) := by decide +kernel
theorem d_M_dayPasses_62 : decode (pw_cc cx_M_dayPasses) 62 = .ok (.aload_n 0, 1) := by decide +kernel
theorem d_M_dayPasses_63 : decode (pw_cc cx_M_dayPasses) 63 = .ok (.iload_n 1, 1) := by decide +kernel
theorem d_M_dayPasses_64 : decode (pw_cc cx_M_dayPasses) 64 = .ok (.invokevirtual 284, 3) := by decide +kernel
theorem d_M_dayPasses_67 : decode (pw_cc cx_M_dayPasses) 67 = .ok (.iinc 1 1, 3) := by decide +kernel
theorem d_M_dayPasses_70 : decode (pw_cc cx_M_dayPasses) 70 = .ok (.goto (-31), 3) := by decide +kernel
theorem d_M_dayPasses_73 : decode (pw_cc cx_M_dayPasses) 73 = .ok (.aload_n 0, 1) := by decide +kernel
theorem d_M_dayPasses_74 : decode (pw_cc cx_M_dayPasses) 74 = .ok (.getfield 204, 3) := by decide +kernel
theorem d_M_dayPasses_77 : decode (pw_cc cx_M_dayPasses) 77 = .ok (.sipush 360, 3) := by decide +kernel
theorem d_M_dayPasses_80 : decode (pw_cc cx_M_dayPasses) 80 = .ok (.irem, 1) := by decide +kernel
theorem d_M_dayPasses_81 : decode (pw_cc cx_M_dayPasses) 81 = .ok (.ifCond .ne 7, 3) := by decide +kernel
theorem d_M_dayPasses_84 : decode (pw_cc cx_M_dayPasses) 84 = .ok (.aload_n 0, 1) := by decide +kernel
theorem d_M_dayPasses_85 : decode (pw_cc cx_M_dayPasses) 85 = .ok (.invokevirtual 288, 3) := by decide +kernel
theorem d_M_dayPasses_88 : decode (pw_cc cx_M_dayPasses) 88 = .ok (.return_, 1) := by decide +kernel
set_option maxHeartbeats 4000000 in
set_option maxRecDepth 20000 in
def lp_M_dayPasses_39 (Q : pw_W → Int32 → Prop) (X : pw_W → Nat → Prop) : Nat → Int32 → pw_W → Prop := fun k => Nat.rec (motive := fun _ => Int32 → pw_W → Prop) (fun _ _ => False) (fun _ ih a1 w => ((w.1 8 0 18) ≤ a1 → (¬ ((w.1 8 0 1) - (w.1 8 0 1) / 360 * 360) = 0 → Q w 0) ∧ (((w.1 8 0 1) - (w.1 8 0 1) / 360 * 360) = 0 → wp_M_yearBegins w  (fun w3 r4 => Q w3 0) (fun _ _ => False))) ∧ (¬ (w.1 8 0 18) ≤ a1 → wp_M_sheepOn w a1 (fun w5 r6 => wp_M_areaOf w5 a1 (fun w7 r8 => (r6 ≤ ((2 : Int32) * r8) → ih (a1 + 1) w7) ∧ (¬ r6 ≤ ((2 : Int32) * r8) → wp_M_eats w7 a1 (fun w10 r11 => ih (a1 + 1) w10) (fun _ _ => False))) (fun _ _ => False)) (fun _ _ => False))) k
set_option maxHeartbeats 4000000 in
set_option maxRecDepth 20000 in
theorem lp_M_dayPasses_39_s {Q : pw_W → Int32 → Prop} {X : pw_W → Nat → Prop}  {k : Nat} {a1 : Int32} {w : pw_W} : lp_M_dayPasses_39 Q X (k + 1) a1 w = (let ih := lp_M_dayPasses_39 Q X k; ((w.1 8 0 18) ≤ a1 → (¬ ((w.1 8 0 1) - (w.1 8 0 1) / 360 * 360) = 0 → Q w 0) ∧ (((w.1 8 0 1) - (w.1 8 0 1) / 360 * 360) = 0 → wp_M_yearBegins w  (fun w3 r4 => Q w3 0) (fun _ _ => False))) ∧ (¬ (w.1 8 0 18) ≤ a1 → wp_M_sheepOn w a1 (fun w5 r6 => wp_M_areaOf w5 a1 (fun w7 r8 => (r6 ≤ ((2 : Int32) * r8) → ih (a1 + 1) w7) ∧ (¬ r6 ≤ ((2 : Int32) * r8) → wp_M_eats w7 a1 (fun w10 r11 => ih (a1 + 1) w10) (fun _ _ => False))) (fun _ _ => False)) (fun _ _ => False))) := rfl
set_option maxHeartbeats 4000000 in
set_option maxRecDepth 20000 in
theorem vlp_M_dayPasses_39 {l : Launch} {g : pw_G} {Q : pw_W → Int32 → Prop} {X : pw_W → Nat → Prop} (hl0 : l.stackTraces = false) : ∀ (k : Nat) (a1 : Int32) (w : pw_W), lp_M_dayPasses_39 Q X k a1 w → pw_V l g cx_M_dayPasses Q X 39 [(10, 0), (0, a1)] [] w := by
  intro k; induction k with
  | zero => intro _ _ h; exact h.elim
  | succ k ih =>
    intro a1 w h
    rw [lp_M_dayPasses_39_s] at h
    refine pv_iload_n (n := 40) d_M_dayPasses_39 rfl rfl rfl ?_
    refine pv_aload_n (n := 41) d_M_dayPasses_40 rfl rfl rfl ?_
    refine gt_M_116 (n := 44) rfl d_M_dayPasses_41 (by decide) rfl ?_
    refine pv_icmp_ge (n := 47) (tgt := 73) d_M_dayPasses_44 (by decide) rfl (fun c1 => ?_) (fun c1 => ?_)
    · replace h := h.1 c1
      refine pv_aload_n (n := 74) d_M_dayPasses_73 rfl rfl rfl ?_
      refine gt_M_204 (n := 77) rfl d_M_dayPasses_74 (by decide) rfl ?_
      refine pv_sipush (v := 360) (n := 80) d_M_dayPasses_77 (by decide) rfl ?_
      refine pv_irem (n := 81) d_M_dayPasses_80 (by decide) rfl ?_
      refine pv_if_ne (n := 84) (tgt := 88) d_M_dayPasses_81 (by decide) rfl (fun c2 => ?_) (fun c2 => ?_)
      · replace h := h.1 c2
        exact pv_vret rfl rfl d_M_dayPasses_88 h
      · replace h := h.2 c2
        refine pv_aload_n (n := 85) d_M_dayPasses_84 rfl rfl rfl ?_
        refine pv_callV (n := 88) (x := 0) [] [] (con_M_yearBegins hl0 h) pw_cf8 rfl q_613 q_614 q_615 q_458 q_612 pyo_M_yearBegins (by decide) rfl rfl (by decide) d_M_dayPasses_85 rfl (fun w3 r4 h _ => ?_) (fun _ _ h => h.elim)
        show pw_V l g cx_M_dayPasses Q X 88 [(10, 0), (0, a1)] [] w3
        exact pv_vret rfl rfl d_M_dayPasses_88 h
    · replace h := h.2 c1
      refine pv_aload_n (n := 48) d_M_dayPasses_47 rfl rfl rfl ?_
      refine pv_iload_n (n := 49) d_M_dayPasses_48 rfl rfl rfl ?_
      refine pv_callV (n := 52) (x := 0) [(0, a1)] [] (con_M_sheepOn hl0 h) pw_cf8 rfl q_621 q_622 q_623 q_458 q_620 pyo_M_sheepOn (by decide) rfl rfl (by decide) d_M_dayPasses_49 rfl (fun w5 r6 h _ => ?_) (fun _ _ h => h.elim)
      show pw_V l g cx_M_dayPasses Q X 52 [(10, 0), (0, a1)] [(0, r6)] w5
      refine pv_iconst (v := 2) (n := 53) d_M_dayPasses_52 (by decide) rfl ?_
      refine pv_aload_n (n := 54) d_M_dayPasses_53 rfl rfl rfl ?_
      refine pv_iload_n (n := 55) d_M_dayPasses_54 rfl rfl rfl ?_
      refine pv_callV (n := 58) (x := 0) [(0, a1)] [(0, 2), (0, r6)] (con_M_areaOf hl0 h) pw_cf8 rfl q_471 q_472 q_473 q_458 q_470 pyo_M_areaOf (by decide) rfl rfl (by decide) d_M_dayPasses_55 rfl (fun w7 r8 h _ => ?_) (fun _ _ h => h.elim)
      show pw_V l g cx_M_dayPasses Q X 58 [(10, 0), (0, a1)] [(0, r8), (0, 2), (0, r6)] w7
      refine pv_imul (n := 59) d_M_dayPasses_58 rfl ?_
      refine pv_icmp_le (n := 62) (tgt := 67) d_M_dayPasses_59 (by decide) rfl (fun c9 => ?_) (fun c9 => ?_)
      · replace h := h.1 c9
        refine pv_iinc (v := (a1 + 1)) (n := 70) (L1 := [(10, 0), (0, (a1 + 1))]) d_M_dayPasses_67 rfl rfl rfl (by decide) rfl ?_
        refine pv_goto (tgt := 39) d_M_dayPasses_70 (by decide) ?_
        exact ih _ _ h
      · replace h := h.2 c9
        refine pv_aload_n (n := 63) d_M_dayPasses_62 rfl rfl rfl ?_
        refine pv_iload_n (n := 64) d_M_dayPasses_63 rfl rfl rfl ?_
        refine pv_callV (n := 67) (x := 0) [(0, a1)] [] (con_M_eats hl0 h) pw_cf8 rfl q_617 q_618 q_619 q_458 q_616 pyo_M_eats (by decide) rfl rfl (by decide) d_M_dayPasses_64 rfl (fun w10 r11 h _ => ?_) (fun _ _ h => h.elim)
        show pw_V l g cx_M_dayPasses Q X 67 [(10, 0), (0, a1)] [] w10
        refine pv_iinc (v := (a1 + 1)) (n := 70) (L1 := [(10, 0), (0, (a1 + 1))]) d_M_dayPasses_67 rfl rfl rfl (by decide) rfl ?_
        refine pv_goto (tgt := 39) d_M_dayPasses_70 (by decide) ?_
        exact ih _ _ h
set_option maxHeartbeats 4000000 in
set_option maxRecDepth 20000 in
def jp_M_dayPasses_37 (Q : pw_W → Int32 → Prop) (X : pw_W → Nat → Prop) (w : pw_W) : Prop := ∃ k12, lp_M_dayPasses_39 Q X k12 0 w
set_option maxHeartbeats 4000000 in
set_option maxRecDepth 20000 in
theorem vjp_M_dayPasses_37 {l : Launch} {g : pw_G} {Q : pw_W → Int32 → Prop} {X : pw_W → Nat → Prop} (hl0 : l.stackTraces = false) (w : pw_W) (h : jp_M_dayPasses_37 Q X w) : pw_V l g cx_M_dayPasses Q X 37 [(10, 0), (1, 0)] [] w := by
  unfold jp_M_dayPasses_37 at h
  refine pv_iconst (v := 0) (n := 38) d_M_dayPasses_37 (by decide) rfl ?_
  refine pv_istore_n (n := 39) (L' := [(10, 0), (0, 0)]) d_M_dayPasses_38 rfl (by decide) rfl rfl ?_
  obtain ⟨k12, h⟩ := h
  exact vlp_M_dayPasses_39 hl0 _ _ _ h
set_option maxHeartbeats 4000000 in
set_option maxRecDepth 20000 in
def wp_M_dayPasses (w : pw_W) (Q : pw_W → Int32 → Prop) (X : pw_W → Nat → Prop) : Prop := ∀ w13, w13 = pw_ps w 8 0 1 ((w.1 8 0 1) + 1) → wp_M_drainsRun w13  (fun w15 r16 => wp_M_isIn w15 ((w15.1 8 0 1) - (w15.1 8 0 1) / 360 * 360) 120 239 (fun w17 r18 => (r18 = 0 → jp_M_dayPasses_37 Q X w17) ∧ (¬ r18 = 0 → wp_M_dries w17  (fun w20 r21 => jp_M_dayPasses_37 Q X w20) (fun _ _ => False))) (fun _ _ => False)) (fun _ _ => False)
set_option maxHeartbeats 4000000 in
set_option maxRecDepth 20000 in
theorem vw_M_dayPasses {l : Launch} {g : pw_G} {Q : pw_W → Int32 → Prop} {X : pw_W → Nat → Prop} (hl0 : l.stackTraces = false) {w : pw_W} (h : wp_M_dayPasses w Q X) : pw_V l g cx_M_dayPasses Q X 0 [(10, 0), (1, 0)] [] w := by
  unfold wp_M_dayPasses at h
  refine pv_aload_n (n := 1) d_M_dayPasses_0 rfl rfl rfl ?_
  refine pv_dup (n := 2) d_M_dayPasses_1 (by decide) rfl ?_
  refine gt_M_204 (n := 5) rfl d_M_dayPasses_2 (by decide) rfl ?_
  refine pv_iconst (v := 1) (n := 6) d_M_dayPasses_5 (by decide) rfl ?_
  refine pv_iadd (n := 7) d_M_dayPasses_6 rfl ?_
  refine pt_M_204 (n := 10) rfl d_M_dayPasses_7 (by decide) rfl (fun w13 e14 => ?_)
  replace h := h w13 e14
  refine pv_aload_n (n := 11) d_M_dayPasses_10 rfl rfl rfl ?_
  refine pv_callV (n := 14) (x := 0) [] [] (con_M_drainsRun hl0 h) pw_cf8 rfl q_629 q_630 q_631 q_458 q_628 pyo_M_drainsRun (by decide) rfl rfl (by decide) d_M_dayPasses_11 rfl (fun w15 r16 h _ => ?_) (fun _ _ h => h.elim)
  show pw_V l g cx_M_dayPasses Q X 14 [(10, 0), (1, 0)] [] w15
  refine pv_aload_n (n := 15) d_M_dayPasses_14 rfl rfl rfl ?_
  refine gt_M_204 (n := 18) rfl d_M_dayPasses_15 (by decide) rfl ?_
  refine pv_sipush (v := 360) (n := 21) d_M_dayPasses_18 (by decide) rfl ?_
  refine pv_irem (n := 22) d_M_dayPasses_21 (by decide) rfl ?_
  refine pv_bipush (v := 120) (n := 24) d_M_dayPasses_22 (by decide) rfl ?_
  refine pv_sipush (v := 239) (n := 27) d_M_dayPasses_24 (by decide) rfl ?_
  refine pv_callS (n := 30) [(0, ((w15.1 8 0 1) - (w15.1 8 0 1) / 360 * 360)), (0, 120), (0, 239)] [] (con_M_isIn hl0 h) q_459 q_460 q_458 q_457 pyo_M_isIn (by decide) rfl rfl d_M_dayPasses_27 rfl (fun w17 r18 h _ => ?_) (fun _ _ h => h.elim)
  show pw_V l g cx_M_dayPasses Q X 30 [(10, 0), (1, 0)] [(0, r18)] w17
  refine pv_if_eq (n := 33) (tgt := 37) d_M_dayPasses_30 (by decide) rfl (fun c19 => ?_) (fun c19 => ?_)
  · replace h := h.1 c19
    exact vjp_M_dayPasses_37 hl0 _ h
  · replace h := h.2 c19
    refine pv_aload_n (n := 34) d_M_dayPasses_33 rfl rfl rfl ?_
    refine pv_callV (n := 37) (x := 0) [] [] (con_M_dries hl0 h) pw_cf8 rfl q_625 q_626 q_627 q_458 q_624 pyo_M_dries (by decide) rfl rfl (by decide) d_M_dayPasses_34 rfl (fun w20 r21 h _ => ?_) (fun _ _ h => h.elim)
    show pw_V l g cx_M_dayPasses Q X 37 [(10, 0), (1, 0)] [] w20
    exact vjp_M_dayPasses_37 hl0 _ h
set_option maxHeartbeats 4000000 in
set_option maxRecDepth 20000 in
theorem con_M_dayPasses {l : Launch} {g : pw_G} {Q : pw_W → Int32 → Prop} {X : pw_W → Nat → Prop} (hl0 : l.stackTraces = false) {w : pw_W} (h : wp_M_dayPasses w Q X) : pw_Con l g y_M_dayPasses cx_M_dayPasses [(10, 0)] w Q X :=
  pw_con (by decide +kernel) rfl rfl hl0 rfl (Nat.le_of_ble_eq_true rfl) (by simp) (vw_M_dayPasses hl0 h)
theorem d_M_pass_0 : decode (pw_cc cx_M_pass) 0 = .ok (.aload_n 0, 1) := by decide +kernel
theorem d_M_pass_1 : decode (pw_cc cx_M_pass) 1 = .ok (.iload_n 1, 1) := by decide +kernel
theorem d_M_pass_2 : decode (pw_cc cx_M_pass) 2 = .ok (.iconst 1, 1) := by decide +kernel
theorem d_M_pass_3 : decode (pw_cc cx_M_pass) 3 = .ok (.sipush 200, 3) := by decide +kernel
theorem d_M_pass_6 : decode (pw_cc cx_M_pass) 6 = .ok (.invokestatic 124, 3) := by decide +kernel
theorem d_M_pass_9 : decode (pw_cc cx_M_pass) 9 = .ok (.ifCond .ne 7, 3) := by decide +kernel
theorem d_M_pass_12 : decode (pw_cc cx_M_pass) 12 = .ok (.iconst 1, 1) := by decide +kernel
theorem d_M_pass_13 : decode (pw_cc cx_M_pass) 13 = .ok (.goto 20, 3) := by decide +kernel
theorem d_M_pass_16 : decode (pw_cc cx_M_pass) 16 = .ok (.aload_n 0, 1) := by decide +kernel
theorem d_M_pass_17 : decode (pw_cc cx_M_pass) 17 = .ok (.getfield 204, 3) := by decide +kernel
theorem d_M_pass_20 : decode (pw_cc cx_M_pass) 20 = .ok (.iload_n 1, 1) := by decide +kernel
theorem d_M_pass_21 : decode (pw_cc cx_M_pass) 21 = .ok (.iadd, 1) := by decide +kernel
theorem d_M_pass_22 : decode (pw_cc cx_M_pass) 22 = .ok (.sipush 20000, 3) := by decide +kernel
theorem d_M_pass_25 : decode (pw_cc cx_M_pass) 25 = .ok (.if_icmp .le 7, 3) := by decide +kernel
theorem d_M_pass_28 : decode (pw_cc cx_M_pass) 28 = .ok (.iconst 2, 1) := by decide +kernel
theorem d_M_pass_29 : decode (pw_cc cx_M_pass) 29 = .ok (.goto 4, 3) := by decide +kernel
theorem d_M_pass_32 : decode (pw_cc cx_M_pass) 32 = .ok (.iconst 0, 1) := by decide +kernel
theorem d_M_pass_33 : decode (pw_cc cx_M_pass) 33 = .ok (.invokevirtual 179, 3) := by decide +kernel
theorem d_M_pass_36 : decode (pw_cc cx_M_pass) 36 = .ok (.ifCond .ne 5, 3) := by decide +kernel
theorem d_M_pass_39 : decode (pw_cc cx_M_pass) 39 = .ok (.iconst 0, 1) := by decide +kernel
theorem d_M_pass_40 : decode (pw_cc cx_M_pass) 40 = .ok (.ireturn, 1) := by decide +kernel
theorem d_M_pass_41 : decode (pw_cc cx_M_pass) 41 = .ok (.iconst 0, 1) := by decide +kernel
theorem d_M_pass_42 : decode (pw_cc cx_M_pass) 42 = .ok (.istore_n 2, 1) := by decide +kernel
theorem d_M_pass_43 : decode (pw_cc cx_M_pass) 43 = .ok (.iload_n 2, 1) := by decide +kernel
theorem d_M_pass_44 : decode (pw_cc cx_M_pass) 44 = .ok (.iload_n 1, 1) := by decide +kernel
theorem d_M_pass_45 : decode (pw_cc cx_M_pass) 45 = .ok (.if_icmp .ge 13, 3) := by decide +kernel
theorem d_M_pass_48 : decode (pw_cc cx_M_pass) 48 = .ok (.aload_n 0, 1) := by decide +kernel
theorem d_M_pass_49 : decode (pw_cc cx_M_pass) 49 = .ok (.invokevirtual 291, 3) := by decide +kernel
theorem d_M_pass_52 : decode (pw_cc cx_M_pass) 52 = .ok (.iinc 2 1, 3) := by decide +kernel
theorem d_M_pass_55 : decode (pw_cc cx_M_pass) 55 = .ok (.goto (-12), 3) := by decide +kernel
theorem d_M_pass_58 : decode (pw_cc cx_M_pass) 58 = .ok (.aload_n 0, 1) := by decide +kernel
theorem d_M_pass_59 : decode (pw_cc cx_M_pass) 59 = .ok (.getfield 204, 3) := by decide +kernel
theorem d_M_pass_62 : decode (pw_cc cx_M_pass) 62 = .ok (.ireturn, 1) := by decide +kernel
set_option maxHeartbeats 4000000 in
set_option maxRecDepth 20000 in
def lp_M_pass_43 (Q : pw_W → Int32 → Prop) (X : pw_W → Nat → Prop) : Nat → Int32 → Int32 → pw_W → Prop := fun k => Nat.rec (motive := fun _ => Int32 → Int32 → pw_W → Prop) (fun _ _ _ => False) (fun _ ih a1 a2 w => (a1 ≤ a2 → Q w (w.1 8 0 1)) ∧ (¬ a1 ≤ a2 → wp_M_dayPasses w  (fun w2 r3 => ih a1 (a2 + 1) w2) (fun _ _ => False))) k
set_option maxHeartbeats 4000000 in
set_option maxRecDepth 20000 in
theorem lp_M_pass_43_s {Q : pw_W → Int32 → Prop} {X : pw_W → Nat → Prop}  {k : Nat} {a1 a2 : Int32} {w : pw_W} : lp_M_pass_43 Q X (k + 1) a1 a2 w = (let ih := lp_M_pass_43 Q X k; (a1 ≤ a2 → Q w (w.1 8 0 1)) ∧ (¬ a1 ≤ a2 → wp_M_dayPasses w  (fun w2 r3 => ih a1 (a2 + 1) w2) (fun _ _ => False))) := rfl
set_option maxHeartbeats 4000000 in
set_option maxRecDepth 20000 in
theorem vlp_M_pass_43 {l : Launch} {g : pw_G} {Q : pw_W → Int32 → Prop} {X : pw_W → Nat → Prop} (hl0 : l.stackTraces = false) : ∀ (k : Nat) (a1 a2 : Int32) (w : pw_W), lp_M_pass_43 Q X k a1 a2 w → pw_V l g cx_M_pass Q X 43 [(10, 0), (0, a1), (0, a2)] [] w := by
  intro k; induction k with
  | zero => intro _ _ _ h; exact h.elim
  | succ k ih =>
    intro a1 a2 w h
    rw [lp_M_pass_43_s] at h
    refine pv_iload_n (n := 44) d_M_pass_43 rfl rfl rfl ?_
    refine pv_iload_n (n := 45) d_M_pass_44 rfl rfl rfl ?_
    refine pv_icmp_ge (n := 48) (tgt := 58) d_M_pass_45 (by decide) rfl (fun c1 => ?_) (fun c1 => ?_)
    · replace h := h.1 c1
      refine pv_aload_n (n := 59) d_M_pass_58 rfl rfl rfl ?_
      refine gt_M_204 (n := 62) rfl d_M_pass_59 (by decide) rfl ?_
      exact pv_iret rfl rfl d_M_pass_62 h
    · replace h := h.2 c1
      refine pv_aload_n (n := 49) d_M_pass_48 rfl rfl rfl ?_
      refine pv_callV (n := 52) (x := 0) [] [] (con_M_dayPasses hl0 h) pw_cf8 rfl q_633 q_634 q_635 q_458 q_632 pyo_M_dayPasses (by decide) rfl rfl (by decide) d_M_pass_49 rfl (fun w2 r3 h _ => ?_) (fun _ _ h => h.elim)
      show pw_V l g cx_M_pass Q X 52 [(10, 0), (0, a1), (0, a2)] [] w2
      refine pv_iinc (v := (a2 + 1)) (n := 55) (L1 := [(10, 0), (0, a1), (0, (a2 + 1))]) d_M_pass_52 rfl rfl rfl (by decide) rfl ?_
      refine pv_goto (tgt := 43) d_M_pass_55 (by decide) ?_
      exact ih _ _ _ h
set_option maxHeartbeats 4000000 in
set_option maxRecDepth 20000 in
def jp_M_pass_33 (Q : pw_W → Int32 → Prop) (X : pw_W → Nat → Prop) (a1 s0 : Int32) (w : pw_W) : Prop := wp_M_isFine w s0 (fun w4 r5 => (¬ r5 = 0 → ∃ k7, lp_M_pass_43 Q X k7 a1 0 w4) ∧ (r5 = 0 → Q w4 0)) (fun _ _ => False)
set_option maxHeartbeats 4000000 in
set_option maxRecDepth 20000 in
theorem vjp_M_pass_33 {l : Launch} {g : pw_G} {Q : pw_W → Int32 → Prop} {X : pw_W → Nat → Prop} (hl0 : l.stackTraces = false) (a1 s0 : Int32) (w : pw_W) (h : jp_M_pass_33 Q X a1 s0 w) : pw_V l g cx_M_pass Q X 33 [(10, 0), (0, a1), (1, 0)] [(0, s0), (10, 0)] w := by
  unfold jp_M_pass_33 at h
  refine pv_callV (n := 36) (x := 0) [(0, s0)] [] (con_M_isFine hl0 h) pw_cf8 rfl q_506 q_507 q_508 q_458 q_505 pyo_M_isFine (by decide) rfl rfl (by decide) d_M_pass_33 rfl (fun w4 r5 h _ => ?_) (fun _ _ h => h.elim)
  show pw_V l g cx_M_pass Q X 36 [(10, 0), (0, a1), (1, 0)] [(0, r5)] w4
  refine pv_if_ne (n := 39) (tgt := 41) d_M_pass_36 (by decide) rfl (fun c6 => ?_) (fun c6 => ?_)
  · replace h := h.1 c6
    refine pv_iconst (v := 0) (n := 42) d_M_pass_41 (by decide) rfl ?_
    refine pv_istore_n (n := 43) (L' := [(10, 0), (0, a1), (0, 0)]) d_M_pass_42 rfl (by decide) rfl rfl ?_
    obtain ⟨k7, h⟩ := h
    exact vlp_M_pass_43 hl0 _ _ _ _ h
  · replace h := h.2 c6
    refine pv_iconst (v := 0) (n := 40) d_M_pass_39 (by decide) rfl ?_
    exact pv_iret rfl rfl d_M_pass_40 h
set_option maxHeartbeats 4000000 in
set_option maxRecDepth 20000 in
def wp_M_pass (w : pw_W) (a1 : Int32) (Q : pw_W → Int32 → Prop) (X : pw_W → Nat → Prop) : Prop := wp_M_isIn w a1 1 200 (fun w8 r9 => (¬ r9 = 0 → (((w8.1 8 0 1) + a1) ≤ 20000 → jp_M_pass_33 Q X a1 0 w8) ∧ (¬ ((w8.1 8 0 1) + a1) ≤ 20000 → jp_M_pass_33 Q X a1 2 w8)) ∧ (r9 = 0 → jp_M_pass_33 Q X a1 1 w8)) (fun _ _ => False)
set_option maxHeartbeats 4000000 in
set_option maxRecDepth 20000 in
theorem vw_M_pass {l : Launch} {g : pw_G} {Q : pw_W → Int32 → Prop} {X : pw_W → Nat → Prop} (hl0 : l.stackTraces = false) {w : pw_W} {a1 : Int32} (h : wp_M_pass w a1 Q X) : pw_V l g cx_M_pass Q X 0 [(10, 0), (0, a1), (1, 0)] [] w := by
  unfold wp_M_pass at h
  refine pv_aload_n (n := 1) d_M_pass_0 rfl rfl rfl ?_
  refine pv_iload_n (n := 2) d_M_pass_1 rfl rfl rfl ?_
  refine pv_iconst (v := 1) (n := 3) d_M_pass_2 (by decide) rfl ?_
  refine pv_sipush (v := 200) (n := 6) d_M_pass_3 (by decide) rfl ?_
  refine pv_callS (n := 9) [(0, a1), (0, 1), (0, 200)] [(10, 0)] (con_M_isIn hl0 h) q_459 q_460 q_458 q_457 pyo_M_isIn (by decide) rfl rfl d_M_pass_6 rfl (fun w8 r9 h _ => ?_) (fun _ _ h => h.elim)
  show pw_V l g cx_M_pass Q X 9 [(10, 0), (0, a1), (1, 0)] [(0, r9), (10, 0)] w8
  refine pv_if_ne (n := 12) (tgt := 16) d_M_pass_9 (by decide) rfl (fun c10 => ?_) (fun c10 => ?_)
  · replace h := h.1 c10
    refine pv_aload_n (n := 17) d_M_pass_16 rfl rfl rfl ?_
    refine gt_M_204 (n := 20) rfl d_M_pass_17 (by decide) rfl ?_
    refine pv_iload_n (n := 21) d_M_pass_20 rfl rfl rfl ?_
    refine pv_iadd (n := 22) d_M_pass_21 rfl ?_
    refine pv_sipush (v := 20000) (n := 25) d_M_pass_22 (by decide) rfl ?_
    refine pv_icmp_le (n := 28) (tgt := 32) d_M_pass_25 (by decide) rfl (fun c11 => ?_) (fun c11 => ?_)
    · replace h := h.1 c11
      refine pv_iconst (v := 0) (n := 33) d_M_pass_32 (by decide) rfl ?_
      exact vjp_M_pass_33 hl0 _ _ _ h
    · replace h := h.2 c11
      refine pv_iconst (v := 2) (n := 29) d_M_pass_28 (by decide) rfl ?_
      refine pv_goto (tgt := 33) d_M_pass_29 (by decide) ?_
      exact vjp_M_pass_33 hl0 _ _ _ h
  · replace h := h.2 c10
    refine pv_iconst (v := 1) (n := 13) d_M_pass_12 (by decide) rfl ?_
    refine pv_goto (tgt := 33) d_M_pass_13 (by decide) ?_
    exact vjp_M_pass_33 hl0 _ _ _ h
set_option maxHeartbeats 4000000 in
set_option maxRecDepth 20000 in
theorem con_M_pass {l : Launch} {g : pw_G} {Q : pw_W → Int32 → Prop} {X : pw_W → Nat → Prop} (hl0 : l.stackTraces = false) {w : pw_W} {a1 : Int32} (h : wp_M_pass w a1 Q X) : pw_Con l g y_M_pass cx_M_pass [(10, 0), (0, a1)] w Q X :=
  pw_con (by decide +kernel) rfl rfl hl0 rfl (Nat.le_of_ble_eq_true rfl) (by simp) (vw_M_pass hl0 h)
theorem d_M_isHeir_0 : decode (pw_cc cx_M_isHeir) 0 = .ok (.iconst 0, 1) := by decide +kernel
theorem d_M_isHeir_1 : decode (pw_cc cx_M_isHeir) 1 = .ok (.istore_n 3, 1) := by decide +kernel
theorem d_M_isHeir_2 : decode (pw_cc cx_M_isHeir) 2 = .ok (.iconst 0, 1) := by decide +kernel
theorem d_M_isHeir_3 : decode (pw_cc cx_M_isHeir) 3 = .ok (.istore 4, 2) := by decide +kernel
theorem d_M_isHeir_5 : decode (pw_cc cx_M_isHeir) 5 = .ok (.iload 4, 2) := by decide +kernel
theorem d_M_isHeir_7 : decode (pw_cc cx_M_isHeir) 7 = .ok (.aload_n 0, 1) := by decide +kernel
theorem d_M_isHeir_8 : decode (pw_cc cx_M_isHeir) 8 = .ok (.getfield 110, 3) := by decide +kernel
theorem d_M_isHeir_11 : decode (pw_cc cx_M_isHeir) 11 = .ok (.iload_n 1, 1) := by decide +kernel
theorem d_M_isHeir_12 : decode (pw_cc cx_M_isHeir) 12 = .ok (.iaload, 1) := by decide +kernel
theorem d_M_isHeir_13 : decode (pw_cc cx_M_isHeir) 13 = .ok (.if_icmp .ge 34, 3) := by decide +kernel
theorem d_M_isHeir_16 : decode (pw_cc cx_M_isHeir) 16 = .ok (.iload_n 3, 1) := by decide +kernel
theorem d_M_isHeir_17 : decode (pw_cc cx_M_isHeir) 17 = .ok (.ifCond .ne 18, 3) := by decide +kernel
theorem d_M_isHeir_20 : decode (pw_cc cx_M_isHeir) 20 = .ok (.aload_n 0, 1) := by decide +kernel
theorem d_M_isHeir_21 : decode (pw_cc cx_M_isHeir) 21 = .ok (.getfield 107, 3) := by decide +kernel
theorem d_M_isHeir_24 : decode (pw_cc cx_M_isHeir) 24 = .ok (.iconst 3, 1) := by decide +kernel
theorem d_M_isHeir_25 : decode (pw_cc cx_M_isHeir) 25 = .ok (.iload_n 1, 1) := by decide +kernel
theorem d_M_isHeir_26 : decode (pw_cc cx_M_isHeir) 26 = .ok (.imul, 1) := by decide +kernel
theorem d_M_isHeir_27 : decode (pw_cc cx_M_isHeir) 27 = .ok (.iload 4, 2) := by decide +kernel
theorem d_M_isHeir_29 : decode (pw_cc cx_M_isHeir) 29 = .ok (.iadd, 1) := by decide +kernel
theorem d_M_isHeir_30 : decode (pw_cc cx_M_isHeir) 30 = .ok (.iaload, 1) := by decide +kernel
theorem d_M_isHeir_31 : decode (pw_cc cx_M_isHeir) 31 = .ok (.iload_n 2, 1) := by decide +kernel
theorem d_M_isHeir_32 : decode (pw_cc cx_M_isHeir) 32 = .ok (.if_icmp .ne 7, 3) := by decide +kernel
theorem d_M_isHeir_35 : decode (pw_cc cx_M_isHeir) 35 = .ok (.iconst 1, 1) := by decide +kernel
theorem d_M_isHeir_36 : decode (pw_cc cx_M_isHeir) 36 = .ok (.goto 4, 3) := by decide +kernel
theorem d_M_isHeir_39 : decode (pw_cc cx_M_isHeir) 39 = .ok (.iconst 0, 1) := by decide +kernel
theorem d_M_isHeir_40 : decode (pw_cc cx_M_isHeir) 40 = .ok (.istore_n 3, 1) := by decide +kernel
theorem d_M_isHeir_41 : decode (pw_cc cx_M_isHeir) 41 = .ok (.iinc 4 1, 3) := by decide +kernel
theorem d_M_isHeir_44 : decode (pw_cc cx_M_isHeir) 44 = .ok (.goto (-39), 3) := by decide +kernel
theorem d_M_isHeir_47 : decode (pw_cc cx_M_isHeir) 47 = .ok (.iload_n 3, 1) := by decide +kernel
theorem d_M_isHeir_48 : decode (pw_cc cx_M_isHeir) 48 = .ok (.ireturn, 1) := by decide +kernel
set_option maxHeartbeats 4000000 in
set_option maxRecDepth 20000 in
def lp_M_isHeir_5 (Q : pw_W → Int32 → Prop) (X : pw_W → Nat → Prop) : Nat → Int32 → Int32 → Int32 → Int32 → pw_W → Prop := fun k => Nat.rec (motive := fun _ => Int32 → Int32 → Int32 → Int32 → pw_W → Prop) (fun _ _ _ _ _ => False) (fun _ ih a1 a2 a3 a4 w => w.1 8 0 44 = 0 ∧ pw_jn a1 (pw_ln w 244 0) ∧ ((w.1 244 0 (pw_i a1)) ≤ a4 → (a3 = 0 ∨ a3 = 1) ∧ Q w a3) ∧ (¬ (w.1 244 0 (pw_i a1)) ≤ a4 → (¬ a3 = 0 → ih a1 a2 1 (a4 + 1) w) ∧ (a3 = 0 → w.1 8 0 43 = 0 ∧ pw_jn (((3 : Int32) * a1) + a4) (pw_ln w 243 0) ∧ (¬ (w.1 243 0 (pw_i (((3 : Int32) * a1) + a4))) = a2 → ih a1 a2 0 (a4 + 1) w) ∧ ((w.1 243 0 (pw_i (((3 : Int32) * a1) + a4))) = a2 → ih a1 a2 1 (a4 + 1) w)))) k
set_option maxHeartbeats 4000000 in
set_option maxRecDepth 20000 in
theorem lp_M_isHeir_5_s {Q : pw_W → Int32 → Prop} {X : pw_W → Nat → Prop}  {k : Nat} {a1 a2 a3 a4 : Int32} {w : pw_W} : lp_M_isHeir_5 Q X (k + 1) a1 a2 a3 a4 w = (let ih := lp_M_isHeir_5 Q X k; w.1 8 0 44 = 0 ∧ pw_jn a1 (pw_ln w 244 0) ∧ ((w.1 244 0 (pw_i a1)) ≤ a4 → (a3 = 0 ∨ a3 = 1) ∧ Q w a3) ∧ (¬ (w.1 244 0 (pw_i a1)) ≤ a4 → (¬ a3 = 0 → ih a1 a2 1 (a4 + 1) w) ∧ (a3 = 0 → w.1 8 0 43 = 0 ∧ pw_jn (((3 : Int32) * a1) + a4) (pw_ln w 243 0) ∧ (¬ (w.1 243 0 (pw_i (((3 : Int32) * a1) + a4))) = a2 → ih a1 a2 0 (a4 + 1) w) ∧ ((w.1 243 0 (pw_i (((3 : Int32) * a1) + a4))) = a2 → ih a1 a2 1 (a4 + 1) w)))) := rfl
set_option maxHeartbeats 4000000 in
set_option maxRecDepth 20000 in
theorem vlp_M_isHeir_5 {l : Launch} {g : pw_G} {Q : pw_W → Int32 → Prop} {X : pw_W → Nat → Prop} (hl0 : l.stackTraces = false) : ∀ (k : Nat) (a1 a2 a3 a4 : Int32) (w : pw_W), lp_M_isHeir_5 Q X k a1 a2 a3 a4 w → pw_V l g cx_M_isHeir Q X 5 [(10, 0), (0, a1), (0, a2), (0, a3), (0, a4)] [] w := by
  intro k; induction k with
  | zero => intro _ _ _ _ _ h; exact h.elim
  | succ k ih =>
    intro a1 a2 a3 a4 w h
    rw [lp_M_isHeir_5_s] at h
    refine pv_iload (n := 7) d_M_isHeir_5 rfl rfl ?_
    refine pv_aload_n (n := 8) d_M_isHeir_7 rfl rfl rfl ?_
    obtain ⟨g1, h⟩ := h
    refine gt_M_110 (n := 11) rfl d_M_isHeir_8 (by decide) g1 rfl ?_
    refine pv_iload_n (n := 12) d_M_isHeir_11 rfl rfl rfl ?_
    obtain ⟨g2, h⟩ := h
    refine pv_iald (n := 13) (f := 244) (by decide) rfl d_M_isHeir_12 (by decide) g2 rfl ?_
    refine pv_icmp_ge (n := 16) (tgt := 47) d_M_isHeir_13 (by decide) rfl (fun c3 => ?_) (fun c3 => ?_)
    · replace h := h.1 c3
      refine pv_iload_n (n := 48) d_M_isHeir_47 rfl rfl rfl ?_
      obtain ⟨g4, h⟩ := h
      exact pv_zret rfl rfl d_M_isHeir_48 g4 h
    · replace h := h.2 c3
      refine pv_iload_n (n := 17) d_M_isHeir_16 rfl rfl rfl ?_
      refine pv_if_ne (n := 20) (tgt := 35) d_M_isHeir_17 (by decide) rfl (fun c5 => ?_) (fun c5 => ?_)
      · replace h := h.1 c5
        refine pv_iconst (v := 1) (n := 36) d_M_isHeir_35 (by decide) rfl ?_
        refine pv_goto (tgt := 40) d_M_isHeir_36 (by decide) ?_
        refine pv_istore_n (n := 41) (L' := [(10, 0), (0, a1), (0, a2), (0, 1), (0, a4)]) d_M_isHeir_40 rfl (by decide) rfl rfl ?_
        refine pv_iinc (v := (a4 + 1)) (n := 44) (L1 := [(10, 0), (0, a1), (0, a2), (0, 1), (0, (a4 + 1))]) d_M_isHeir_41 rfl rfl rfl (by decide) rfl ?_
        refine pv_goto (tgt := 5) d_M_isHeir_44 (by decide) ?_
        exact ih _ _ _ _ _ h
      · replace h := h.2 c5
        refine pv_aload_n (n := 21) d_M_isHeir_20 rfl rfl rfl ?_
        obtain ⟨g6, h⟩ := h
        refine gt_M_107 (n := 24) rfl d_M_isHeir_21 (by decide) g6 rfl ?_
        refine pv_iconst (v := 3) (n := 25) d_M_isHeir_24 (by decide) rfl ?_
        refine pv_iload_n (n := 26) d_M_isHeir_25 rfl rfl rfl ?_
        refine pv_imul (n := 27) d_M_isHeir_26 rfl ?_
        refine pv_iload (n := 29) d_M_isHeir_27 rfl rfl ?_
        refine pv_iadd (n := 30) d_M_isHeir_29 rfl ?_
        obtain ⟨g7, h⟩ := h
        refine pv_iald (n := 31) (f := 243) (by decide) rfl d_M_isHeir_30 (by decide) g7 rfl ?_
        refine pv_iload_n (n := 32) d_M_isHeir_31 rfl rfl rfl ?_
        refine pv_icmp_ne (n := 35) (tgt := 39) d_M_isHeir_32 (by decide) rfl (fun c8 => ?_) (fun c8 => ?_)
        · replace h := h.1 c8
          refine pv_iconst (v := 0) (n := 40) d_M_isHeir_39 (by decide) rfl ?_
          refine pv_istore_n (n := 41) (L' := [(10, 0), (0, a1), (0, a2), (0, 0), (0, a4)]) d_M_isHeir_40 rfl (by decide) rfl rfl ?_
          refine pv_iinc (v := (a4 + 1)) (n := 44) (L1 := [(10, 0), (0, a1), (0, a2), (0, 0), (0, (a4 + 1))]) d_M_isHeir_41 rfl rfl rfl (by decide) rfl ?_
          refine pv_goto (tgt := 5) d_M_isHeir_44 (by decide) ?_
          exact ih _ _ _ _ _ h
        · replace h := h.2 c8
          refine pv_iconst (v := 1) (n := 36) d_M_isHeir_35 (by decide) rfl ?_
          refine pv_goto (tgt := 40) d_M_isHeir_36 (by decide) ?_
          refine pv_istore_n (n := 41) (L' := [(10, 0), (0, a1), (0, a2), (0, 1), (0, a4)]) d_M_isHeir_40 rfl (by decide) rfl rfl ?_
          refine pv_iinc (v := (a4 + 1)) (n := 44) (L1 := [(10, 0), (0, a1), (0, a2), (0, 1), (0, (a4 + 1))]) d_M_isHeir_41 rfl rfl rfl (by decide) rfl ?_
          refine pv_goto (tgt := 5) d_M_isHeir_44 (by decide) ?_
          exact ih _ _ _ _ _ h
set_option maxHeartbeats 4000000 in
set_option maxRecDepth 20000 in
def wp_M_isHeir (w : pw_W) (a1 a2 : Int32) (Q : pw_W → Int32 → Prop) (X : pw_W → Nat → Prop) : Prop := ∃ k9, lp_M_isHeir_5 Q X k9 a1 a2 0 0 w
set_option maxHeartbeats 4000000 in
set_option maxRecDepth 20000 in
theorem vw_M_isHeir {l : Launch} {g : pw_G} {Q : pw_W → Int32 → Prop} {X : pw_W → Nat → Prop} (hl0 : l.stackTraces = false) {w : pw_W} {a1 a2 : Int32} (h : wp_M_isHeir w a1 a2 Q X) : pw_V l g cx_M_isHeir Q X 0 [(10, 0), (0, a1), (0, a2), (1, 0), (1, 0)] [] w := by
  unfold wp_M_isHeir at h
  refine pv_iconst (v := 0) (n := 1) d_M_isHeir_0 (by decide) rfl ?_
  refine pv_istore_n (n := 2) (L' := [(10, 0), (0, a1), (0, a2), (0, 0), (1, 0)]) d_M_isHeir_1 rfl (by decide) rfl rfl ?_
  refine pv_iconst (v := 0) (n := 3) d_M_isHeir_2 (by decide) rfl ?_
  refine pv_istore (n := 5) (L' := [(10, 0), (0, a1), (0, a2), (0, 0), (0, 0)]) d_M_isHeir_3 (by decide) rfl rfl ?_
  obtain ⟨k9, h⟩ := h
  exact vlp_M_isHeir_5 hl0 _ _ _ _ _ _ h
set_option maxHeartbeats 4000000 in
set_option maxRecDepth 20000 in
theorem con_M_isHeir {l : Launch} {g : pw_G} {Q : pw_W → Int32 → Prop} {X : pw_W → Nat → Prop} (hl0 : l.stackTraces = false) {w : pw_W} {a1 a2 : Int32} (h : wp_M_isHeir w a1 a2 Q X) : pw_Con l g y_M_isHeir cx_M_isHeir [(10, 0), (0, a1), (0, a2)] w Q X :=
  pw_con (by decide +kernel) rfl rfl hl0 rfl (Nat.le_of_ble_eq_true rfl) (by simp) (vw_M_isHeir hl0 h)
theorem d_M_name_0 : decode (pw_cc cx_M_name) 0 = .ok (.iload_n 1, 1) := by decide +kernel
theorem d_M_name_1 : decode (pw_cc cx_M_name) 1 = .ok (.invokestatic 166, 3) := by decide +kernel
theorem d_M_name_4 : decode (pw_cc cx_M_name) 4 = .ok (.ifCond .eq 14, 3) := by decide +kernel
theorem d_M_name_7 : decode (pw_cc cx_M_name) 7 = .ok (.iload_n 2, 1) := by decide +kernel
theorem d_M_name_8 : decode (pw_cc cx_M_name) 8 = .ok (.invokestatic 166, 3) := by decide +kernel
theorem d_M_name_11 : decode (pw_cc cx_M_name) 11 = .ok (.ifCond .eq 7, 3) := by decide +kernel
theorem d_M_name_14 : decode (pw_cc cx_M_name) 14 = .ok (.iconst 1, 1) := by decide +kernel
theorem d_M_name_15 : decode (pw_cc cx_M_name) 15 = .ok (.goto 4, 3) := by decide +kernel
theorem d_M_name_18 : decode (pw_cc cx_M_name) 18 = .ok (.iconst 0, 1) := by decide +kernel
theorem d_M_name_19 : decode (pw_cc cx_M_name) 19 = .ok (.istore_n 3, 1) := by decide +kernel
theorem d_M_name_20 : decode (pw_cc cx_M_name) 20 = .ok (.iload_n 3, 1) := by decide +kernel
theorem d_M_name_21 : decode (pw_cc cx_M_name) 21 = .ok (.ifCond .eq 49, 3) := by decide +kernel
theorem d_M_name_24 : decode (pw_cc cx_M_name) 24 = .ok (.aload_n 0, 1) := by decide +kernel
theorem d_M_name_25 : decode (pw_cc cx_M_name) 25 = .ok (.getfield 104, 3) := by decide +kernel
theorem d_M_name_28 : decode (pw_cc cx_M_name) 28 = .ok (.iload_n 1, 1) := by decide +kernel
theorem d_M_name_29 : decode (pw_cc cx_M_name) 29 = .ok (.baload, 1) := by decide +kernel
theorem d_M_name_30 : decode (pw_cc cx_M_name) 30 = .ok (.ifCond .ne 40, 3) := by decide +kernel
theorem d_M_name_33 : decode (pw_cc cx_M_name) 33 = .ok (.aload_n 0, 1) := by decide +kernel
theorem d_M_name_34 : decode (pw_cc cx_M_name) 34 = .ok (.getfield 104, 3) := by decide +kernel
theorem d_M_name_37 : decode (pw_cc cx_M_name) 37 = .ok (.iload_n 2, 1) := by decide +kernel
theorem d_M_name_38 : decode (pw_cc cx_M_name) 38 = .ok (.baload, 1) := by decide +kernel
theorem d_M_name_39 : decode (pw_cc cx_M_name) 39 = .ok (.ifCond .ne 31, 3) := by decide +kernel
theorem d_M_name_42 : decode (pw_cc cx_M_name) 42 = .ok (.iload_n 1, 1) := by decide +kernel
theorem d_M_name_43 : decode (pw_cc cx_M_name) 43 = .ok (.iload_n 2, 1) := by decide +kernel
theorem d_M_name_44 : decode (pw_cc cx_M_name) 44 = .ok (.if_icmp .eq 26, 3) := by decide +kernel
theorem d_M_name_47 : decode (pw_cc cx_M_name) 47 = .ok (.aload_n 0, 1) := by decide +kernel
theorem d_M_name_48 : decode (pw_cc cx_M_name) 48 = .ok (.iload_n 1, 1) := by decide +kernel
theorem d_M_name_49 : decode (pw_cc cx_M_name) 49 = .ok (.iload_n 2, 1) := by decide +kernel
theorem d_M_name_50 : decode (pw_cc cx_M_name) 50 = .ok (.invokevirtual 294, 3) := by decide +kernel
theorem d_M_name_53 : decode (pw_cc cx_M_name) 53 = .ok (.ifCond .ne 17, 3) := by decide +kernel
theorem d_M_name_56 : decode (pw_cc cx_M_name) 56 = .ok (.aload_n 0, 1) := by decide +kernel
theorem d_M_name_57 : decode (pw_cc cx_M_name) 57 = .ok (.getfield 110, 3) := by decide +kernel
theorem d_M_name_60 : decode (pw_cc cx_M_name) 60 = .ok (.iload_n 1, 1) := by decide +kernel
theorem d_M_name_61 : decode (pw_cc cx_M_name) 61 = .ok (.iaload, 1) := by decide +kernel
theorem d_M_name_62 : decode (pw_cc cx_M_name) 62 = .ok (.iconst 3, 1) := by decide +kernel
theorem d_M_name_63 : decode (pw_cc cx_M_name) 63 = .ok (.if_icmp .ge 7, 3) := by decide +kernel
theorem d_M_name_66 : decode (pw_cc cx_M_name) 66 = .ok (.iconst 1, 1) := by decide +kernel
theorem d_M_name_67 : decode (pw_cc cx_M_name) 67 = .ok (.goto 4, 3) := by decide +kernel
theorem d_M_name_70 : decode (pw_cc cx_M_name) 70 = .ok (.iconst 0, 1) := by decide +kernel
theorem d_M_name_71 : decode (pw_cc cx_M_name) 71 = .ok (.istore 4, 2) := by decide +kernel
theorem d_M_name_73 : decode (pw_cc cx_M_name) 73 = .ok (.aload_n 0, 1) := by decide +kernel
theorem d_M_name_74 : decode (pw_cc cx_M_name) 74 = .ok (.iload_n 3, 1) := by decide +kernel
theorem d_M_name_75 : decode (pw_cc cx_M_name) 75 = .ok (.ifCond .ne 7, 3) := by decide +kernel
theorem d_M_name_78 : decode (pw_cc cx_M_name) 78 = .ok (.iconst 1, 1) := by decide +kernel
theorem d_M_name_79 : decode (pw_cc cx_M_name) 79 = .ok (.goto 13, 3) := by decide +kernel
theorem d_M_name_82 : decode (pw_cc cx_M_name) 82 = .ok (.iload 4, 2) := by decide +kernel
theorem d_M_name_84 : decode (pw_cc cx_M_name) 84 = .ok (.ifCond .ne 7, 3) := by decide +kernel
theorem d_M_name_87 : decode (pw_cc cx_M_name) 87 = .ok (.iconst 2, 1) := by decide +kernel
theorem d_M_name_88 : decode (pw_cc cx_M_name) 88 = .ok (.goto 4, 3) := by decide +kernel
theorem d_M_name_91 : decode (pw_cc cx_M_name) 91 = .ok (.iconst 0, 1) := by decide +kernel
theorem d_M_name_92 : decode (pw_cc cx_M_name) 92 = .ok (.invokevirtual 179, 3) := by decide +kernel
theorem d_M_name_95 : decode (pw_cc cx_M_name) 95 = .ok (.ifCond .ne 5, 3) := by decide +kernel
theorem d_M_name_98 : decode (pw_cc cx_M_name) 98 = .ok (.iconst 0, 1) := by decide +kernel
theorem d_M_name_99 : decode (pw_cc cx_M_name) 99 = .ok (.ireturn, 1) := by decide +kernel
theorem d_M_name_100 : decode (pw_cc cx_M_name) 100 = .ok (.aload_n 0, 1) := by decide +kernel
theorem d_M_name_101 : decode (pw_cc cx_M_name) 101 = .ok (.getfield 107, 3) := by decide +kernel
theorem d_M_name_104 : decode (pw_cc cx_M_name) 104 = .ok (.iconst 3, 1) := by decide +kernel
theorem d_M_name_105 : decode (pw_cc cx_M_name) 105 = .ok (.iload_n 1, 1) := by decide +kernel
theorem d_M_name_106 : decode (pw_cc cx_M_name) 106 = .ok (.imul, 1) := by decide +kernel
theorem d_M_name_107 : decode (pw_cc cx_M_name) 107 = .ok (.aload_n 0, 1) := by decide +kernel
theorem d_M_name_108 : decode (pw_cc cx_M_name) 108 = .ok (.getfield 110, 3) := by decide +kernel
theorem d_M_name_111 : decode (pw_cc cx_M_name) 111 = .ok (.iload_n 1, 1) := by decide +kernel
theorem d_M_name_112 : decode (pw_cc cx_M_name) 112 = .ok (.iaload, 1) := by decide +kernel
theorem d_M_name_113 : decode (pw_cc cx_M_name) 113 = .ok (.iadd, 1) := by decide +kernel
theorem d_M_name_114 : decode (pw_cc cx_M_name) 114 = .ok (.iload_n 2, 1) := by decide +kernel
theorem d_M_name_115 : decode (pw_cc cx_M_name) 115 = .ok (.iastore, 1) := by decide +kernel
theorem d_M_name_116 : decode (pw_cc cx_M_name) 116 = .ok (.aload_n 0, 1) := by decide +kernel
theorem d_M_name_117 : decode (pw_cc cx_M_name) 117 = .ok (.getfield 110, 3) := by decide +kernel
theorem d_M_name_120 : decode (pw_cc cx_M_name) 120 = .ok (.iload_n 1, 1) := by decide +kernel
theorem d_M_name_121 : decode (pw_cc cx_M_name) 121 = .ok (.dup2, 1) := by decide +kernel
theorem d_M_name_122 : decode (pw_cc cx_M_name) 122 = .ok (.iaload, 1) := by decide +kernel
theorem d_M_name_123 : decode (pw_cc cx_M_name) 123 = .ok (.iconst 1, 1) := by decide +kernel
theorem d_M_name_124 : decode (pw_cc cx_M_name) 124 = .ok (.iadd, 1) := by decide +kernel
theorem d_M_name_125 : decode (pw_cc cx_M_name) 125 = .ok (.iastore, 1) := by decide +kernel
theorem d_M_name_126 : decode (pw_cc cx_M_name) 126 = .ok (.aload_n 0, 1) := by decide +kernel
theorem d_M_name_127 : decode (pw_cc cx_M_name) 127 = .ok (.getfield 110, 3) := by decide +kernel
theorem d_M_name_130 : decode (pw_cc cx_M_name) 130 = .ok (.iload_n 1, 1) := by decide +kernel
theorem d_M_name_131 : decode (pw_cc cx_M_name) 131 = .ok (.iaload, 1) := by decide +kernel
theorem d_M_name_132 : decode (pw_cc cx_M_name) 132 = .ok (.ireturn, 1) := by decide +kernel
set_option maxHeartbeats 4000000 in
set_option maxRecDepth 20000 in
def jp_M_name_92 (Q : pw_W → Int32 → Prop) (X : pw_W → Nat → Prop) (a1 a2 s0 : Int32) (w : pw_W) : Prop := wp_M_isFine w s0 (fun w1 r2 => (¬ r2 = 0 → w1.1 8 0 43 = 0 ∧ w1.1 8 0 44 = 0 ∧ pw_jn a1 (pw_ln w1 244 0) ∧ pw_jn (((3 : Int32) * a1) + (w1.1 244 0 (pw_i a1))) (pw_ln w1 243 0) ∧ ∀ w8, w8 = pw_ps w1 243 0 (pw_i (((3 : Int32) * a1) + (w1.1 244 0 (pw_i a1)))) a2 → w8.1 8 0 44 = 0 ∧ pw_jn a1 (pw_ln w8 244 0) ∧ pw_jn a1 (pw_ln w8 244 0) ∧ ∀ w13, w13 = pw_ps w8 244 0 (pw_i a1) ((w8.1 244 0 (pw_i a1)) + 1) → w13.1 8 0 44 = 0 ∧ pw_jn a1 (pw_ln w13 244 0) ∧ Q w13 (w13.1 244 0 (pw_i a1))) ∧ (r2 = 0 → Q w1 0)) (fun _ _ => False)
set_option maxHeartbeats 4000000 in
set_option maxRecDepth 20000 in
theorem vjp_M_name_92 {l : Launch} {g : pw_G} {Q : pw_W → Int32 → Prop} {X : pw_W → Nat → Prop} (hl0 : l.stackTraces = false) (a1 a2 s0 : Int32) (w : pw_W) (h : jp_M_name_92 Q X a1 a2 s0 w) : pw_V l g cx_M_name Q X 92 [(10, 0), (0, a1), (0, a2), (1, 0), (1, 0)] [(0, s0), (10, 0)] w := by
  unfold jp_M_name_92 at h
  refine pv_callV (n := 95) (x := 0) [(0, s0)] [] (con_M_isFine hl0 h) pw_cf8 rfl q_506 q_507 q_508 q_458 q_505 pyo_M_isFine (by decide) rfl rfl (by decide) d_M_name_92 rfl (fun w1 r2 h _ => ?_) (fun _ _ h => h.elim)
  show pw_V l g cx_M_name Q X 95 [(10, 0), (0, a1), (0, a2), (1, 0), (1, 0)] [(0, r2)] w1
  refine pv_if_ne (n := 98) (tgt := 100) d_M_name_95 (by decide) rfl (fun c3 => ?_) (fun c3 => ?_)
  · replace h := h.1 c3
    refine pv_aload_n (n := 101) d_M_name_100 rfl rfl rfl ?_
    obtain ⟨g4, h⟩ := h
    refine gt_M_107 (n := 104) rfl d_M_name_101 (by decide) g4 rfl ?_
    refine pv_iconst (v := 3) (n := 105) d_M_name_104 (by decide) rfl ?_
    refine pv_iload_n (n := 106) d_M_name_105 rfl rfl rfl ?_
    refine pv_imul (n := 107) d_M_name_106 rfl ?_
    refine pv_aload_n (n := 108) d_M_name_107 rfl rfl rfl ?_
    obtain ⟨g5, h⟩ := h
    refine gt_M_110 (n := 111) rfl d_M_name_108 (by decide) g5 rfl ?_
    refine pv_iload_n (n := 112) d_M_name_111 rfl rfl rfl ?_
    obtain ⟨g6, h⟩ := h
    refine pv_iald (n := 113) (f := 244) (by decide) rfl d_M_name_112 (by decide) g6 rfl ?_
    refine pv_iadd (n := 114) d_M_name_113 rfl ?_
    refine pv_iload_n (n := 115) d_M_name_114 rfl rfl rfl ?_
    obtain ⟨g7, h⟩ := h
    refine pv_iast1 (n := 116) (f := 243) (by decide) rfl (fun _ => rfl) d_M_name_115 (by decide) g7 rfl (fun w8 e9 => ?_)
    replace h := h w8 e9
    refine pv_aload_n (n := 117) d_M_name_116 rfl rfl rfl ?_
    obtain ⟨g10, h⟩ := h
    refine gt_M_110 (n := 120) rfl d_M_name_117 (by decide) g10 rfl ?_
    refine pv_iload_n (n := 121) d_M_name_120 rfl rfl rfl ?_
    refine pv_dup2 (n := 122) d_M_name_121 (by decide) (by decide) rfl ?_
    obtain ⟨g11, h⟩ := h
    refine pv_iald (n := 123) (f := 244) (by decide) rfl d_M_name_122 (by decide) g11 rfl ?_
    refine pv_iconst (v := 1) (n := 124) d_M_name_123 (by decide) rfl ?_
    refine pv_iadd (n := 125) d_M_name_124 rfl ?_
    obtain ⟨g12, h⟩ := h
    refine pv_iast1 (n := 126) (f := 244) (by decide) rfl (fun _ => rfl) d_M_name_125 (by decide) g12 rfl (fun w13 e14 => ?_)
    replace h := h w13 e14
    refine pv_aload_n (n := 127) d_M_name_126 rfl rfl rfl ?_
    obtain ⟨g15, h⟩ := h
    refine gt_M_110 (n := 130) rfl d_M_name_127 (by decide) g15 rfl ?_
    refine pv_iload_n (n := 131) d_M_name_130 rfl rfl rfl ?_
    obtain ⟨g16, h⟩ := h
    refine pv_iald (n := 132) (f := 244) (by decide) rfl d_M_name_131 (by decide) g16 rfl ?_
    exact pv_iret rfl rfl d_M_name_132 h
  · replace h := h.2 c3
    refine pv_iconst (v := 0) (n := 99) d_M_name_98 (by decide) rfl ?_
    exact pv_iret rfl rfl d_M_name_99 h
set_option maxHeartbeats 4000000 in
set_option maxRecDepth 20000 in
def jp_M_name_71 (Q : pw_W → Int32 → Prop) (X : pw_W → Nat → Prop) (a1 a2 a3 s0 : Int32) (w : pw_W) : Prop := (¬ a3 = 0 → (¬ s0 = 0 → jp_M_name_92 Q X a1 a2 0 w) ∧ (s0 = 0 → jp_M_name_92 Q X a1 a2 2 w)) ∧ (a3 = 0 → jp_M_name_92 Q X a1 a2 1 w)
set_option maxHeartbeats 4000000 in
set_option maxRecDepth 20000 in
theorem vjp_M_name_71 {l : Launch} {g : pw_G} {Q : pw_W → Int32 → Prop} {X : pw_W → Nat → Prop} (hl0 : l.stackTraces = false) (a1 a2 a3 s0 : Int32) (w : pw_W) (h : jp_M_name_71 Q X a1 a2 a3 s0 w) : pw_V l g cx_M_name Q X 71 [(10, 0), (0, a1), (0, a2), (0, a3), (1, 0)] [(0, s0)] w := by
  unfold jp_M_name_71 at h
  refine pv_istore (n := 73) (L' := [(10, 0), (0, a1), (0, a2), (0, a3), (0, s0)]) d_M_name_71 (by decide) rfl rfl ?_
  refine pv_aload_n (n := 74) d_M_name_73 rfl rfl rfl ?_
  refine pv_iload_n (n := 75) d_M_name_74 rfl rfl rfl ?_
  refine pv_if_ne (n := 78) (tgt := 82) d_M_name_75 (by decide) rfl (fun c17 => ?_) (fun c17 => ?_)
  · replace h := h.1 c17
    refine pv_iload (n := 84) d_M_name_82 rfl rfl ?_
    refine pv_if_ne (n := 87) (tgt := 91) d_M_name_84 (by decide) rfl (fun c18 => ?_) (fun c18 => ?_)
    · replace h := h.1 c18
      refine pv_iconst (v := 0) (n := 92) d_M_name_91 (by decide) rfl ?_
      refine pv_unset (i := 3) (L1 := [(10, 0), (0, a1), (0, a2), (1, 0), (0, s0)]) rfl ?_
      refine pv_unset (i := 4) (L1 := [(10, 0), (0, a1), (0, a2), (1, 0), (1, 0)]) rfl ?_
      exact vjp_M_name_92 hl0 _ _ _ _ h
    · replace h := h.2 c18
      refine pv_iconst (v := 2) (n := 88) d_M_name_87 (by decide) rfl ?_
      refine pv_goto (tgt := 92) d_M_name_88 (by decide) ?_
      refine pv_unset (i := 3) (L1 := [(10, 0), (0, a1), (0, a2), (1, 0), (0, s0)]) rfl ?_
      refine pv_unset (i := 4) (L1 := [(10, 0), (0, a1), (0, a2), (1, 0), (1, 0)]) rfl ?_
      exact vjp_M_name_92 hl0 _ _ _ _ h
  · replace h := h.2 c17
    refine pv_iconst (v := 1) (n := 79) d_M_name_78 (by decide) rfl ?_
    refine pv_goto (tgt := 92) d_M_name_79 (by decide) ?_
    refine pv_unset (i := 3) (L1 := [(10, 0), (0, a1), (0, a2), (1, 0), (0, s0)]) rfl ?_
    refine pv_unset (i := 4) (L1 := [(10, 0), (0, a1), (0, a2), (1, 0), (1, 0)]) rfl ?_
    exact vjp_M_name_92 hl0 _ _ _ _ h
set_option maxHeartbeats 4000000 in
set_option maxRecDepth 20000 in
def jp_M_name_70 (Q : pw_W → Int32 → Prop) (X : pw_W → Nat → Prop) (a1 a2 a3 : Int32) (w : pw_W) : Prop := jp_M_name_71 Q X a1 a2 a3 0 w
set_option maxHeartbeats 4000000 in
set_option maxRecDepth 20000 in
theorem vjp_M_name_70 {l : Launch} {g : pw_G} {Q : pw_W → Int32 → Prop} {X : pw_W → Nat → Prop} (hl0 : l.stackTraces = false) (a1 a2 a3 : Int32) (w : pw_W) (h : jp_M_name_70 Q X a1 a2 a3 w) : pw_V l g cx_M_name Q X 70 [(10, 0), (0, a1), (0, a2), (0, a3), (1, 0)] [] w := by
  unfold jp_M_name_70 at h
  refine pv_iconst (v := 0) (n := 71) d_M_name_70 (by decide) rfl ?_
  exact vjp_M_name_71 hl0 _ _ _ _ _ h
set_option maxHeartbeats 4000000 in
set_option maxRecDepth 20000 in
def jp_M_name_19 (Q : pw_W → Int32 → Prop) (X : pw_W → Nat → Prop) (a1 a2 s0 : Int32) (w : pw_W) : Prop := (s0 = 0 → jp_M_name_70 Q X a1 a2 s0 w) ∧ (¬ s0 = 0 → w.1 8 0 42 = 0 ∧ pw_jn a1 (pw_ln w 242 0) ∧ (¬ (w.1 242 0 (pw_i a1)) = 0 → jp_M_name_70 Q X a1 a2 s0 w) ∧ ((w.1 242 0 (pw_i a1)) = 0 → w.1 8 0 42 = 0 ∧ pw_jn a2 (pw_ln w 242 0) ∧ (¬ (w.1 242 0 (pw_i a2)) = 0 → jp_M_name_70 Q X a1 a2 s0 w) ∧ ((w.1 242 0 (pw_i a2)) = 0 → (a1 = a2 → jp_M_name_70 Q X a1 a2 s0 w) ∧ (¬ a1 = a2 → wp_M_isHeir w a1 a2 (fun w27 r28 => (¬ r28 = 0 → jp_M_name_70 Q X a1 a2 s0 w27) ∧ (r28 = 0 → w27.1 8 0 44 = 0 ∧ pw_jn a1 (pw_ln w27 244 0) ∧ ((3 : Int32) ≤ (w27.1 244 0 (pw_i a1)) → jp_M_name_70 Q X a1 a2 s0 w27) ∧ (¬ (3 : Int32) ≤ (w27.1 244 0 (pw_i a1)) → jp_M_name_71 Q X a1 a2 s0 1 w27))) (fun _ _ => False)))))
set_option maxHeartbeats 4000000 in
set_option maxRecDepth 20000 in
theorem vjp_M_name_19 {l : Launch} {g : pw_G} {Q : pw_W → Int32 → Prop} {X : pw_W → Nat → Prop} (hl0 : l.stackTraces = false) (a1 a2 s0 : Int32) (w : pw_W) (h : jp_M_name_19 Q X a1 a2 s0 w) : pw_V l g cx_M_name Q X 19 [(10, 0), (0, a1), (0, a2), (1, 0), (1, 0)] [(0, s0)] w := by
  unfold jp_M_name_19 at h
  refine pv_istore_n (n := 20) (L' := [(10, 0), (0, a1), (0, a2), (0, s0), (1, 0)]) d_M_name_19 rfl (by decide) rfl rfl ?_
  refine pv_iload_n (n := 21) d_M_name_20 rfl rfl rfl ?_
  refine pv_if_eq (n := 24) (tgt := 70) d_M_name_21 (by decide) rfl (fun c19 => ?_) (fun c19 => ?_)
  · replace h := h.1 c19
    exact vjp_M_name_70 hl0 _ _ _ _ h
  · replace h := h.2 c19
    refine pv_aload_n (n := 25) d_M_name_24 rfl rfl rfl ?_
    obtain ⟨g20, h⟩ := h
    refine gt_M_104 (n := 28) rfl d_M_name_25 (by decide) g20 rfl ?_
    refine pv_iload_n (n := 29) d_M_name_28 rfl rfl rfl ?_
    obtain ⟨g21, h⟩ := h
    refine pv_zald (n := 30) (f := 242) (by decide) rfl d_M_name_29 (by decide) g21 rfl ?_
    refine pv_if_ne (n := 33) (tgt := 70) d_M_name_30 (by decide) rfl (fun c22 => ?_) (fun c22 => ?_)
    · replace h := h.1 c22
      exact vjp_M_name_70 hl0 _ _ _ _ h
    · replace h := h.2 c22
      refine pv_aload_n (n := 34) d_M_name_33 rfl rfl rfl ?_
      obtain ⟨g23, h⟩ := h
      refine gt_M_104 (n := 37) rfl d_M_name_34 (by decide) g23 rfl ?_
      refine pv_iload_n (n := 38) d_M_name_37 rfl rfl rfl ?_
      obtain ⟨g24, h⟩ := h
      refine pv_zald (n := 39) (f := 242) (by decide) rfl d_M_name_38 (by decide) g24 rfl ?_
      refine pv_if_ne (n := 42) (tgt := 70) d_M_name_39 (by decide) rfl (fun c25 => ?_) (fun c25 => ?_)
      · replace h := h.1 c25
        exact vjp_M_name_70 hl0 _ _ _ _ h
      · replace h := h.2 c25
        refine pv_iload_n (n := 43) d_M_name_42 rfl rfl rfl ?_
        refine pv_iload_n (n := 44) d_M_name_43 rfl rfl rfl ?_
        refine pv_icmp_eq (n := 47) (tgt := 70) d_M_name_44 (by decide) rfl (fun c26 => ?_) (fun c26 => ?_)
        · replace h := h.1 c26
          exact vjp_M_name_70 hl0 _ _ _ _ h
        · replace h := h.2 c26
          refine pv_aload_n (n := 48) d_M_name_47 rfl rfl rfl ?_
          refine pv_iload_n (n := 49) d_M_name_48 rfl rfl rfl ?_
          refine pv_iload_n (n := 50) d_M_name_49 rfl rfl rfl ?_
          refine pv_callV (n := 53) (x := 0) [(0, a1), (0, a2)] [] (con_M_isHeir hl0 h) pw_cf8 rfl q_637 q_638 q_639 q_458 q_636 pyo_M_isHeir (by decide) rfl rfl (by decide) d_M_name_50 rfl (fun w27 r28 h _ => ?_) (fun _ _ h => h.elim)
          show pw_V l g cx_M_name Q X 53 [(10, 0), (0, a1), (0, a2), (0, s0), (1, 0)] [(0, r28)] w27
          refine pv_if_ne (n := 56) (tgt := 70) d_M_name_53 (by decide) rfl (fun c29 => ?_) (fun c29 => ?_)
          · replace h := h.1 c29
            exact vjp_M_name_70 hl0 _ _ _ _ h
          · replace h := h.2 c29
            refine pv_aload_n (n := 57) d_M_name_56 rfl rfl rfl ?_
            obtain ⟨g30, h⟩ := h
            refine gt_M_110 (n := 60) rfl d_M_name_57 (by decide) g30 rfl ?_
            refine pv_iload_n (n := 61) d_M_name_60 rfl rfl rfl ?_
            obtain ⟨g31, h⟩ := h
            refine pv_iald (n := 62) (f := 244) (by decide) rfl d_M_name_61 (by decide) g31 rfl ?_
            refine pv_iconst (v := 3) (n := 63) d_M_name_62 (by decide) rfl ?_
            refine pv_icmp_ge (n := 66) (tgt := 70) d_M_name_63 (by decide) rfl (fun c32 => ?_) (fun c32 => ?_)
            · replace h := h.1 c32
              exact vjp_M_name_70 hl0 _ _ _ _ h
            · replace h := h.2 c32
              refine pv_iconst (v := 1) (n := 67) d_M_name_66 (by decide) rfl ?_
              refine pv_goto (tgt := 71) d_M_name_67 (by decide) ?_
              exact vjp_M_name_71 hl0 _ _ _ _ _ h
set_option maxHeartbeats 4000000 in
set_option maxRecDepth 20000 in
def jp_M_name_18 (Q : pw_W → Int32 → Prop) (X : pw_W → Nat → Prop) (a1 a2 : Int32) (w : pw_W) : Prop := jp_M_name_19 Q X a1 a2 0 w
set_option maxHeartbeats 4000000 in
set_option maxRecDepth 20000 in
theorem vjp_M_name_18 {l : Launch} {g : pw_G} {Q : pw_W → Int32 → Prop} {X : pw_W → Nat → Prop} (hl0 : l.stackTraces = false) (a1 a2 : Int32) (w : pw_W) (h : jp_M_name_18 Q X a1 a2 w) : pw_V l g cx_M_name Q X 18 [(10, 0), (0, a1), (0, a2), (1, 0), (1, 0)] [] w := by
  unfold jp_M_name_18 at h
  refine pv_iconst (v := 0) (n := 19) d_M_name_18 (by decide) rfl ?_
  exact vjp_M_name_19 hl0 _ _ _ _ h
set_option maxHeartbeats 4000000 in
set_option maxRecDepth 20000 in
def wp_M_name (w : pw_W) (a1 a2 : Int32) (Q : pw_W → Int32 → Prop) (X : pw_W → Nat → Prop) : Prop := wp_M_isPerson w a1 (fun w33 r34 => (r34 = 0 → jp_M_name_18 Q X a1 a2 w33) ∧ (¬ r34 = 0 → wp_M_isPerson w33 a2 (fun w36 r37 => (r37 = 0 → jp_M_name_18 Q X a1 a2 w36) ∧ (¬ r37 = 0 → jp_M_name_19 Q X a1 a2 1 w36)) (fun _ _ => False))) (fun _ _ => False)
set_option maxHeartbeats 4000000 in
set_option maxRecDepth 20000 in
theorem vw_M_name {l : Launch} {g : pw_G} {Q : pw_W → Int32 → Prop} {X : pw_W → Nat → Prop} (hl0 : l.stackTraces = false) {w : pw_W} {a1 a2 : Int32} (h : wp_M_name w a1 a2 Q X) : pw_V l g cx_M_name Q X 0 [(10, 0), (0, a1), (0, a2), (1, 0), (1, 0)] [] w := by
  unfold wp_M_name at h
  refine pv_iload_n (n := 1) d_M_name_0 rfl rfl rfl ?_
  refine pv_callS (n := 4) [(0, a1)] [] (con_M_isPerson hl0 h) q_517 q_518 q_458 q_516 pyo_M_isPerson (by decide) rfl rfl d_M_name_1 rfl (fun w33 r34 h _ => ?_) (fun _ _ h => h.elim)
  show pw_V l g cx_M_name Q X 4 [(10, 0), (0, a1), (0, a2), (1, 0), (1, 0)] [(0, r34)] w33
  refine pv_if_eq (n := 7) (tgt := 18) d_M_name_4 (by decide) rfl (fun c35 => ?_) (fun c35 => ?_)
  · replace h := h.1 c35
    exact vjp_M_name_18 hl0 _ _ _ h
  · replace h := h.2 c35
    refine pv_iload_n (n := 8) d_M_name_7 rfl rfl rfl ?_
    refine pv_callS (n := 11) [(0, a2)] [] (con_M_isPerson hl0 h) q_517 q_518 q_458 q_516 pyo_M_isPerson (by decide) rfl rfl d_M_name_8 rfl (fun w36 r37 h _ => ?_) (fun _ _ h => h.elim)
    show pw_V l g cx_M_name Q X 11 [(10, 0), (0, a1), (0, a2), (1, 0), (1, 0)] [(0, r37)] w36
    refine pv_if_eq (n := 14) (tgt := 18) d_M_name_11 (by decide) rfl (fun c38 => ?_) (fun c38 => ?_)
    · replace h := h.1 c38
      exact vjp_M_name_18 hl0 _ _ _ h
    · replace h := h.2 c38
      refine pv_iconst (v := 1) (n := 15) d_M_name_14 (by decide) rfl ?_
      refine pv_goto (tgt := 19) d_M_name_15 (by decide) ?_
      exact vjp_M_name_19 hl0 _ _ _ _ h
set_option maxHeartbeats 4000000 in
set_option maxRecDepth 20000 in
theorem con_M_name {l : Launch} {g : pw_G} {Q : pw_W → Int32 → Prop} {X : pw_W → Nat → Prop} (hl0 : l.stackTraces = false) {w : pw_W} {a1 a2 : Int32} (h : wp_M_name w a1 a2 Q X) : pw_Con l g y_M_name cx_M_name [(10, 0), (0, a1), (0, a2)] w Q X :=
  pw_con (by decide +kernel) rfl rfl hl0 rfl (Nat.le_of_ble_eq_true rfl) (by simp) (vw_M_name hl0 h)
theorem d_M_nextHeir_0 : decode (pw_cc cx_M_nextHeir) 0 = .ok (.iconst 0, 1) := by decide +kernel
theorem d_M_nextHeir_1 : decode (pw_cc cx_M_nextHeir) 1 = .ok (.istore_n 3, 1) := by decide +kernel
theorem d_M_nextHeir_2 : decode (pw_cc cx_M_nextHeir) 2 = .ok (.iload_n 3, 1) := by decide +kernel
theorem d_M_nextHeir_3 : decode (pw_cc cx_M_nextHeir) 3 = .ok (.aload_n 0, 1) := by decide +kernel
theorem d_M_nextHeir_4 : decode (pw_cc cx_M_nextHeir) 4 = .ok (.getfield 110, 3) := by decide +kernel
theorem d_M_nextHeir_7 : decode (pw_cc cx_M_nextHeir) 7 = .ok (.iload_n 1, 1) := by decide +kernel
theorem d_M_nextHeir_8 : decode (pw_cc cx_M_nextHeir) 8 = .ok (.iaload, 1) := by decide +kernel
theorem d_M_nextHeir_9 : decode (pw_cc cx_M_nextHeir) 9 = .ok (.if_icmp .ge 43, 3) := by decide +kernel
theorem d_M_nextHeir_12 : decode (pw_cc cx_M_nextHeir) 12 = .ok (.iload_n 2, 1) := by decide +kernel
theorem d_M_nextHeir_13 : decode (pw_cc cx_M_nextHeir) 13 = .ok (.iload_n 3, 1) := by decide +kernel
theorem d_M_nextHeir_14 : decode (pw_cc cx_M_nextHeir) 14 = .ok (.iadd, 1) := by decide +kernel
theorem d_M_nextHeir_15 : decode (pw_cc cx_M_nextHeir) 15 = .ok (.aload_n 0, 1) := by decide +kernel
theorem d_M_nextHeir_16 : decode (pw_cc cx_M_nextHeir) 16 = .ok (.getfield 110, 3) := by decide +kernel
theorem d_M_nextHeir_19 : decode (pw_cc cx_M_nextHeir) 19 = .ok (.iload_n 1, 1) := by decide +kernel
theorem d_M_nextHeir_20 : decode (pw_cc cx_M_nextHeir) 20 = .ok (.iaload, 1) := by decide +kernel
theorem d_M_nextHeir_21 : decode (pw_cc cx_M_nextHeir) 21 = .ok (.irem, 1) := by decide +kernel
theorem d_M_nextHeir_22 : decode (pw_cc cx_M_nextHeir) 22 = .ok (.istore 4, 2) := by decide +kernel
theorem d_M_nextHeir_24 : decode (pw_cc cx_M_nextHeir) 24 = .ok (.aload_n 0, 1) := by decide +kernel
theorem d_M_nextHeir_25 : decode (pw_cc cx_M_nextHeir) 25 = .ok (.getfield 104, 3) := by decide +kernel
theorem d_M_nextHeir_28 : decode (pw_cc cx_M_nextHeir) 28 = .ok (.aload_n 0, 1) := by decide +kernel
theorem d_M_nextHeir_29 : decode (pw_cc cx_M_nextHeir) 29 = .ok (.getfield 107, 3) := by decide +kernel
theorem d_M_nextHeir_32 : decode (pw_cc cx_M_nextHeir) 32 = .ok (.iconst 3, 1) := by decide +kernel
theorem d_M_nextHeir_33 : decode (pw_cc cx_M_nextHeir) 33 = .ok (.iload_n 1, 1) := by decide +kernel
theorem d_M_nextHeir_34 : decode (pw_cc cx_M_nextHeir) 34 = .ok (.imul, 1) := by decide +kernel
theorem d_M_nextHeir_35 : decode (pw_cc cx_M_nextHeir) 35 = .ok (.iload 4, 2) := by decide +kernel
theorem d_M_nextHeir_37 : decode (pw_cc cx_M_nextHeir) 37 = .ok (.iadd, 1) := by decide +kernel
theorem d_M_nextHeir_38 : decode (pw_cc cx_M_nextHeir) 38 = .ok (.iaload, 1) := by decide +kernel
theorem d_M_nextHeir_39 : decode (pw_cc cx_M_nextHeir) 39 = .ok (.baload, 1) := by decide +kernel
theorem d_M_nextHeir_40 : decode (pw_cc cx_M_nextHeir) 40 = .ok (.ifCond .ne 6, 3) := by decide +kernel
theorem d_M_nextHeir_43 : decode (pw_cc cx_M_nextHeir) 43 = .ok (.iload 4, 2) := by decide +kernel
theorem d_M_nextHeir_45 : decode (pw_cc cx_M_nextHeir) 45 = .ok (.ireturn, 1) := by decide +kernel
theorem d_M_nextHeir_46 : decode (pw_cc cx_M_nextHeir) 46 = .ok (.iinc 3 1, 3) := by decide +kernel
theorem d_M_nextHeir_49 : decode (pw_cc cx_M_nextHeir) 49 = .ok (.goto (-47), 3) := by decide +kernel
theorem d_M_nextHeir_52 : decode (pw_cc cx_M_nextHeir) 52 = .ok (.iconst (-1), 1) := by decide +kernel
theorem d_M_nextHeir_53 : decode (pw_cc cx_M_nextHeir) 53 = .ok (.ireturn, 1) := by decide +kernel
set_option maxHeartbeats 4000000 in
set_option maxRecDepth 20000 in
def lp_M_nextHeir_2 (Q : pw_W → Int32 → Prop) (X : pw_W → Nat → Prop) : Nat → Int32 → Int32 → Int32 → pw_W → Prop := fun k => Nat.rec (motive := fun _ => Int32 → Int32 → Int32 → pw_W → Prop) (fun _ _ _ _ => False) (fun _ ih a1 a2 a3 w => w.1 8 0 44 = 0 ∧ pw_jn a1 (pw_ln w 244 0) ∧ ((w.1 244 0 (pw_i a1)) ≤ a3 → Q w (-1)) ∧ (¬ (w.1 244 0 (pw_i a1)) ≤ a3 → w.1 8 0 44 = 0 ∧ pw_jn a1 (pw_ln w 244 0) ∧ ¬ (w.1 244 0 (pw_i a1)) = 0 ∧ ∀ v7, v7 = ((a2 + a3) - (a2 + a3) / (w.1 244 0 (pw_i a1)) * (w.1 244 0 (pw_i a1))) → w.1 8 0 42 = 0 ∧ w.1 8 0 43 = 0 ∧ pw_jn (((3 : Int32) * a1) + v7) (pw_ln w 243 0) ∧ pw_jn (w.1 243 0 (pw_i (((3 : Int32) * a1) + v7))) (pw_ln w 242 0) ∧ (¬ (w.1 242 0 (pw_i (w.1 243 0 (pw_i (((3 : Int32) * a1) + v7))))) = 0 → ih a1 a2 (a3 + 1) w) ∧ ((w.1 242 0 (pw_i (w.1 243 0 (pw_i (((3 : Int32) * a1) + v7))))) = 0 → Q w v7))) k
set_option maxHeartbeats 4000000 in
set_option maxRecDepth 20000 in
theorem lp_M_nextHeir_2_s {Q : pw_W → Int32 → Prop} {X : pw_W → Nat → Prop}  {k : Nat} {a1 a2 a3 : Int32} {w : pw_W} : lp_M_nextHeir_2 Q X (k + 1) a1 a2 a3 w = (let ih := lp_M_nextHeir_2 Q X k; w.1 8 0 44 = 0 ∧ pw_jn a1 (pw_ln w 244 0) ∧ ((w.1 244 0 (pw_i a1)) ≤ a3 → Q w (-1)) ∧ (¬ (w.1 244 0 (pw_i a1)) ≤ a3 → w.1 8 0 44 = 0 ∧ pw_jn a1 (pw_ln w 244 0) ∧ ¬ (w.1 244 0 (pw_i a1)) = 0 ∧ ∀ v7, v7 = ((a2 + a3) - (a2 + a3) / (w.1 244 0 (pw_i a1)) * (w.1 244 0 (pw_i a1))) → w.1 8 0 42 = 0 ∧ w.1 8 0 43 = 0 ∧ pw_jn (((3 : Int32) * a1) + v7) (pw_ln w 243 0) ∧ pw_jn (w.1 243 0 (pw_i (((3 : Int32) * a1) + v7))) (pw_ln w 242 0) ∧ (¬ (w.1 242 0 (pw_i (w.1 243 0 (pw_i (((3 : Int32) * a1) + v7))))) = 0 → ih a1 a2 (a3 + 1) w) ∧ ((w.1 242 0 (pw_i (w.1 243 0 (pw_i (((3 : Int32) * a1) + v7))))) = 0 → Q w v7))) := rfl
set_option maxHeartbeats 4000000 in
set_option maxRecDepth 20000 in
theorem vlp_M_nextHeir_2 {l : Launch} {g : pw_G} {Q : pw_W → Int32 → Prop} {X : pw_W → Nat → Prop} (hl0 : l.stackTraces = false) : ∀ (k : Nat) (a1 a2 a3 : Int32) (w : pw_W), lp_M_nextHeir_2 Q X k a1 a2 a3 w → pw_V l g cx_M_nextHeir Q X 2 [(10, 0), (0, a1), (0, a2), (0, a3), (1, 0)] [] w := by
  intro k; induction k with
  | zero => intro _ _ _ _ h; exact h.elim
  | succ k ih =>
    intro a1 a2 a3 w h
    rw [lp_M_nextHeir_2_s] at h
    refine pv_iload_n (n := 3) d_M_nextHeir_2 rfl rfl rfl ?_
    refine pv_aload_n (n := 4) d_M_nextHeir_3 rfl rfl rfl ?_
    obtain ⟨g1, h⟩ := h
    refine gt_M_110 (n := 7) rfl d_M_nextHeir_4 (by decide) g1 rfl ?_
    refine pv_iload_n (n := 8) d_M_nextHeir_7 rfl rfl rfl ?_
    obtain ⟨g2, h⟩ := h
    refine pv_iald (n := 9) (f := 244) (by decide) rfl d_M_nextHeir_8 (by decide) g2 rfl ?_
    refine pv_icmp_ge (n := 12) (tgt := 52) d_M_nextHeir_9 (by decide) rfl (fun c3 => ?_) (fun c3 => ?_)
    · replace h := h.1 c3
      refine pv_iconst (v := -1) (n := 53) d_M_nextHeir_52 (by decide) rfl ?_
      exact pv_iret rfl rfl d_M_nextHeir_53 h
    · replace h := h.2 c3
      refine pv_iload_n (n := 13) d_M_nextHeir_12 rfl rfl rfl ?_
      refine pv_iload_n (n := 14) d_M_nextHeir_13 rfl rfl rfl ?_
      refine pv_iadd (n := 15) d_M_nextHeir_14 rfl ?_
      refine pv_aload_n (n := 16) d_M_nextHeir_15 rfl rfl rfl ?_
      obtain ⟨g4, h⟩ := h
      refine gt_M_110 (n := 19) rfl d_M_nextHeir_16 (by decide) g4 rfl ?_
      refine pv_iload_n (n := 20) d_M_nextHeir_19 rfl rfl rfl ?_
      obtain ⟨g5, h⟩ := h
      refine pv_iald (n := 21) (f := 244) (by decide) rfl d_M_nextHeir_20 (by decide) g5 rfl ?_
      obtain ⟨g6, h⟩ := h
      refine pv_irem (n := 22) d_M_nextHeir_21 g6 rfl ?_
      refine pv_nm (fun v7 e8 => ?_)
      replace h := h v7 e8
      refine pv_istore (n := 24) (L' := [(10, 0), (0, a1), (0, a2), (0, a3), (0, v7)]) d_M_nextHeir_22 (by decide) rfl rfl ?_
      refine pv_aload_n (n := 25) d_M_nextHeir_24 rfl rfl rfl ?_
      obtain ⟨g9, h⟩ := h
      refine gt_M_104 (n := 28) rfl d_M_nextHeir_25 (by decide) g9 rfl ?_
      refine pv_aload_n (n := 29) d_M_nextHeir_28 rfl rfl rfl ?_
      obtain ⟨g10, h⟩ := h
      refine gt_M_107 (n := 32) rfl d_M_nextHeir_29 (by decide) g10 rfl ?_
      refine pv_iconst (v := 3) (n := 33) d_M_nextHeir_32 (by decide) rfl ?_
      refine pv_iload_n (n := 34) d_M_nextHeir_33 rfl rfl rfl ?_
      refine pv_imul (n := 35) d_M_nextHeir_34 rfl ?_
      refine pv_iload (n := 37) d_M_nextHeir_35 rfl rfl ?_
      refine pv_iadd (n := 38) d_M_nextHeir_37 rfl ?_
      obtain ⟨g11, h⟩ := h
      refine pv_iald (n := 39) (f := 243) (by decide) rfl d_M_nextHeir_38 (by decide) g11 rfl ?_
      obtain ⟨g12, h⟩ := h
      refine pv_zald (n := 40) (f := 242) (by decide) rfl d_M_nextHeir_39 (by decide) g12 rfl ?_
      refine pv_if_ne (n := 43) (tgt := 46) d_M_nextHeir_40 (by decide) rfl (fun c13 => ?_) (fun c13 => ?_)
      · replace h := h.1 c13
        refine pv_iinc (v := (a3 + 1)) (n := 49) (L1 := [(10, 0), (0, a1), (0, a2), (0, (a3 + 1)), (0, v7)]) d_M_nextHeir_46 rfl rfl rfl (by decide) rfl ?_
        refine pv_goto (tgt := 2) d_M_nextHeir_49 (by decide) ?_
        refine pv_unset (i := 4) (L1 := [(10, 0), (0, a1), (0, a2), (0, (a3 + 1)), (1, 0)]) rfl ?_
        exact ih _ _ _ _ h
      · replace h := h.2 c13
        refine pv_iload (n := 45) d_M_nextHeir_43 rfl rfl ?_
        exact pv_iret rfl rfl d_M_nextHeir_45 h
set_option maxHeartbeats 4000000 in
set_option maxRecDepth 20000 in
def wp_M_nextHeir (w : pw_W) (a1 a2 : Int32) (Q : pw_W → Int32 → Prop) (X : pw_W → Nat → Prop) : Prop := ∃ k14, lp_M_nextHeir_2 Q X k14 a1 a2 0 w
set_option maxHeartbeats 4000000 in
set_option maxRecDepth 20000 in
theorem vw_M_nextHeir {l : Launch} {g : pw_G} {Q : pw_W → Int32 → Prop} {X : pw_W → Nat → Prop} (hl0 : l.stackTraces = false) {w : pw_W} {a1 a2 : Int32} (h : wp_M_nextHeir w a1 a2 Q X) : pw_V l g cx_M_nextHeir Q X 0 [(10, 0), (0, a1), (0, a2), (1, 0), (1, 0)] [] w := by
  unfold wp_M_nextHeir at h
  refine pv_iconst (v := 0) (n := 1) d_M_nextHeir_0 (by decide) rfl ?_
  refine pv_istore_n (n := 2) (L' := [(10, 0), (0, a1), (0, a2), (0, 0), (1, 0)]) d_M_nextHeir_1 rfl (by decide) rfl rfl ?_
  obtain ⟨k14, h⟩ := h
  exact vlp_M_nextHeir_2 hl0 _ _ _ _ _ h
set_option maxHeartbeats 4000000 in
set_option maxRecDepth 20000 in
theorem con_M_nextHeir {l : Launch} {g : pw_G} {Q : pw_W → Int32 → Prop} {X : pw_W → Nat → Prop} (hl0 : l.stackTraces = false) {w : pw_W} {a1 a2 : Int32} (h : wp_M_nextHeir w a1 a2 Q X) : pw_Con l g y_M_nextHeir cx_M_nextHeir [(10, 0), (0, a1), (0, a2)] w Q X :=
  pw_con (by decide +kernel) rfl rfl hl0 rfl (Nat.le_of_ble_eq_true rfl) (by simp) (vw_M_nextHeir hl0 h)
theorem d_M_inherits_0 : decode (pw_cc cx_M_inherits) 0 = .ok (.iconst 0, 1) := by decide +kernel
theorem d_M_inherits_1 : decode (pw_cc cx_M_inherits) 1 = .ok (.istore_n 2, 1) := by decide +kernel
theorem d_M_inherits_2 : decode (pw_cc cx_M_inherits) 2 = .ok (.iconst 0, 1) := by decide +kernel
theorem d_M_inherits_3 : decode (pw_cc cx_M_inherits) 3 = .ok (.istore_n 3, 1) := by decide +kernel
theorem d_M_inherits_4 : decode (pw_cc cx_M_inherits) 4 = .ok (.iconst 0, 1) := by decide +kernel
theorem d_M_inherits_5 : decode (pw_cc cx_M_inherits) 5 = .ok (.istore 4, 2) := by decide +kernel
theorem d_M_inherits_7 : decode (pw_cc cx_M_inherits) 7 = .ok (.iload 4, 2) := by decide +kernel
theorem d_M_inherits_9 : decode (pw_cc cx_M_inherits) 9 = .ok (.aload_n 0, 1) := by decide +kernel
theorem d_M_inherits_10 : decode (pw_cc cx_M_inherits) 10 = .ok (.getfield 116, 3) := by decide +kernel
theorem d_M_inherits_13 : decode (pw_cc cx_M_inherits) 13 = .ok (.if_icmp .ge 86, 3) := by decide +kernel
theorem d_M_inherits_16 : decode (pw_cc cx_M_inherits) 16 = .ok (.aload_n 0, 1) := by decide +kernel
theorem d_M_inherits_17 : decode (pw_cc cx_M_inherits) 17 = .ok (.getfield 40, 3) := by decide +kernel
theorem d_M_inherits_20 : decode (pw_cc cx_M_inherits) 20 = .ok (.iload 4, 2) := by decide +kernel
theorem d_M_inherits_22 : decode (pw_cc cx_M_inherits) 22 = .ok (.iaload, 1) := by decide +kernel
theorem d_M_inherits_23 : decode (pw_cc cx_M_inherits) 23 = .ok (.iload_n 1, 1) := by decide +kernel
theorem d_M_inherits_24 : decode (pw_cc cx_M_inherits) 24 = .ok (.if_icmp .ne 69, 3) := by decide +kernel
theorem d_M_inherits_27 : decode (pw_cc cx_M_inherits) 27 = .ok (.aload_n 0, 1) := by decide +kernel
theorem d_M_inherits_28 : decode (pw_cc cx_M_inherits) 28 = .ok (.getfield 43, 3) := by decide +kernel
theorem d_M_inherits_31 : decode (pw_cc cx_M_inherits) 31 = .ok (.iload 4, 2) := by decide +kernel
theorem d_M_inherits_33 : decode (pw_cc cx_M_inherits) 33 = .ok (.iaload, 1) := by decide +kernel
theorem d_M_inherits_34 : decode (pw_cc cx_M_inherits) 34 = .ok (.iconst (-1), 1) := by decide +kernel
theorem d_M_inherits_35 : decode (pw_cc cx_M_inherits) 35 = .ok (.if_icmp .ne 58, 3) := by decide +kernel
theorem d_M_inherits_38 : decode (pw_cc cx_M_inherits) 38 = .ok (.aload_n 0, 1) := by decide +kernel
theorem d_M_inherits_39 : decode (pw_cc cx_M_inherits) 39 = .ok (.iload_n 1, 1) := by decide +kernel
theorem d_M_inherits_40 : decode (pw_cc cx_M_inherits) 40 = .ok (.iload_n 2, 1) := by decide +kernel
theorem d_M_inherits_41 : decode (pw_cc cx_M_inherits) 41 = .ok (.invokevirtual 297, 3) := by decide +kernel
theorem d_M_inherits_44 : decode (pw_cc cx_M_inherits) 44 = .ok (.istore 5, 2) := by decide +kernel
theorem d_M_inherits_46 : decode (pw_cc cx_M_inherits) 46 = .ok (.aload_n 0, 1) := by decide +kernel
theorem d_M_inherits_47 : decode (pw_cc cx_M_inherits) 47 = .ok (.getfield 40, 3) := by decide +kernel
theorem d_M_inherits_50 : decode (pw_cc cx_M_inherits) 50 = .ok (.iload 4, 2) := by decide +kernel
theorem d_M_inherits_52 : decode (pw_cc cx_M_inherits) 52 = .ok (.iload 5, 2) := by decide +kernel
theorem d_M_inherits_54 : decode (pw_cc cx_M_inherits) 54 = .ok (.iconst (-1), 1) := by decide +kernel
theorem d_M_inherits_55 : decode (pw_cc cx_M_inherits) 55 = .ok (.if_icmp .ne 7, 3) := by decide +kernel
theorem d_M_inherits_58 : decode (pw_cc cx_M_inherits) 58 = .ok (.iconst (-1), 1) := by decide +kernel
theorem d_M_inherits_59 : decode (pw_cc cx_M_inherits) 59 = .ok (.goto 14, 3) := by decide +kernel
theorem d_M_inherits_62 : decode (pw_cc cx_M_inherits) 62 = .ok (.aload_n 0, 1) := by decide +kernel
theorem d_M_inherits_63 : decode (pw_cc cx_M_inherits) 63 = .ok (.getfield 107, 3) := by decide +kernel
theorem d_M_inherits_66 : decode (pw_cc cx_M_inherits) 66 = .ok (.iconst 3, 1) := by decide +kernel
theorem d_M_inherits_67 : decode (pw_cc cx_M_inherits) 67 = .ok (.iload_n 1, 1) := by decide +kernel
theorem d_M_inherits_68 : decode (pw_cc cx_M_inherits) 68 = .ok (.imul, 1) := by decide +kernel
theorem d_M_inherits_69 : decode (pw_cc cx_M_inherits) 69 = .ok (.iload 5, 2) := by decide +kernel
theorem d_M_inherits_71 : decode (pw_cc cx_M_inherits) 71 = .ok (.iadd, 1) := by decide +kernel
theorem d_M_inherits_72 : decode (pw_cc cx_M_inherits) 72 = .ok (.iaload, 1) := by decide +kernel
theorem d_M_inherits_73 : decode (pw_cc cx_M_inherits) 73 = .ok (.iastore, 1) := by decide +kernel
theorem d_M_inherits_74 : decode (pw_cc cx_M_inherits) 74 = .ok (.iload_n 3, 1) := by decide +kernel
theorem d_M_inherits_75 : decode (pw_cc cx_M_inherits) 75 = .ok (.iload 5, 2) := by decide +kernel
theorem d_M_inherits_77 : decode (pw_cc cx_M_inherits) 77 = .ok (.iconst (-1), 1) := by decide +kernel
theorem d_M_inherits_78 : decode (pw_cc cx_M_inherits) 78 = .ok (.if_icmp .ne 7, 3) := by decide +kernel
theorem d_M_inherits_81 : decode (pw_cc cx_M_inherits) 81 = .ok (.iconst 0, 1) := by decide +kernel
theorem d_M_inherits_82 : decode (pw_cc cx_M_inherits) 82 = .ok (.goto 4, 3) := by decide +kernel
theorem d_M_inherits_85 : decode (pw_cc cx_M_inherits) 85 = .ok (.iconst 1, 1) := by decide +kernel
theorem d_M_inherits_86 : decode (pw_cc cx_M_inherits) 86 = .ok (.iadd, 1) := by decide +kernel
theorem d_M_inherits_87 : decode (pw_cc cx_M_inherits) 87 = .ok (.istore_n 3, 1) := by decide +kernel
theorem d_M_inherits_88 : decode (pw_cc cx_M_inherits) 88 = .ok (.iload 5, 2) := by decide +kernel
theorem d_M_inherits_90 : decode (pw_cc cx_M_inherits) 90 = .ok (.iconst 1, 1) := by decide +kernel
theorem d_M_inherits_91 : decode (pw_cc cx_M_inherits) 91 = .ok (.iadd, 1) := by decide +kernel
theorem d_M_inherits_92 : decode (pw_cc cx_M_inherits) 92 = .ok (.istore_n 2, 1) := by decide +kernel
theorem d_M_inherits_93 : decode (pw_cc cx_M_inherits) 93 = .ok (.iinc 4 1, 3) := by decide +kernel
theorem d_M_inherits_96 : decode (pw_cc cx_M_inherits) 96 = .ok (.goto (-89), 3) := by decide +kernel
theorem d_M_inherits_99 : decode (pw_cc cx_M_inherits) 99 = .ok (.iload_n 3, 1) := by decide +kernel
theorem d_M_inherits_100 : decode (pw_cc cx_M_inherits) 100 = .ok (.ireturn, 1) := by decide +kernel
set_option maxHeartbeats 4000000 in
set_option maxRecDepth 20000 in
def jp_M_inherits_86 (Q : pw_W → Int32 → Prop) (X : pw_W → Nat → Prop) (K7 : Int32 → Int32 → Int32 → Int32 → pw_W → Prop) (a1 a4 a5 s0 s1 : Int32) (w : pw_W) : Prop := ∀ v1, v1 = (s1 + s0) → ∀ v3, v3 = (a5 + 1) → K7 a1 v3 v1 (a4 + 1) w
set_option maxHeartbeats 4000000 in
set_option maxRecDepth 20000 in
theorem vjp_M_inherits_86 {l : Launch} {g : pw_G} {Q : pw_W → Int32 → Prop} {X : pw_W → Nat → Prop} (hl0 : l.stackTraces = false) {K7 : Int32 → Int32 → Int32 → Int32 → pw_W → Prop} (hK7 : ∀ (a1 a2 a3 a4 : Int32) (w : pw_W), K7 a1 a2 a3 a4 w → pw_V l g cx_M_inherits Q X 7 [(10, 0), (0, a1), (0, a2), (0, a3), (0, a4), (1, 0)] [] w) (a1 a4 a5 s0 s1 : Int32) (w : pw_W) (h : jp_M_inherits_86 Q X K7 a1 a4 a5 s0 s1 w) : pw_V l g cx_M_inherits Q X 86 [(10, 0), (0, a1), (1, 0), (1, 0), (0, a4), (0, a5)] [(0, s0), (0, s1)] w := by
  unfold jp_M_inherits_86 at h
  refine pv_iadd (n := 87) d_M_inherits_86 rfl ?_
  refine pv_nm (fun v1 e2 => ?_)
  replace h := h v1 e2
  refine pv_istore_n (n := 88) (L' := [(10, 0), (0, a1), (1, 0), (0, v1), (0, a4), (0, a5)]) d_M_inherits_87 rfl (by decide) rfl rfl ?_
  refine pv_iload (n := 90) d_M_inherits_88 rfl rfl ?_
  refine pv_iconst (v := 1) (n := 91) d_M_inherits_90 (by decide) rfl ?_
  refine pv_iadd (n := 92) d_M_inherits_91 rfl ?_
  refine pv_nm (fun v3 e4 => ?_)
  replace h := h v3 e4
  refine pv_istore_n (n := 93) (L' := [(10, 0), (0, a1), (0, v3), (0, v1), (0, a4), (0, a5)]) d_M_inherits_92 rfl (by decide) rfl rfl ?_
  refine pv_iinc (v := (a4 + 1)) (n := 96) (L1 := [(10, 0), (0, a1), (0, v3), (0, v1), (0, (a4 + 1)), (0, a5)]) d_M_inherits_93 rfl rfl rfl (by decide) rfl ?_
  refine pv_goto (tgt := 7) d_M_inherits_96 (by decide) ?_
  refine pv_unset (i := 5) (L1 := [(10, 0), (0, a1), (0, v3), (0, v1), (0, (a4 + 1)), (1, 0)]) rfl ?_
  exact hK7 _ _ _ _ _ h
set_option maxHeartbeats 4000000 in
set_option maxRecDepth 20000 in
def jp_M_inherits_73 (Q : pw_W → Int32 → Prop) (X : pw_W → Nat → Prop) (K7 : Int32 → Int32 → Int32 → Int32 → pw_W → Prop) (a1 a3 a4 a5 s0 s1 : Int32) (w : pw_W) : Prop := pw_jn s1 (pw_ln w 216 0) ∧ ∀ w6, w6 = pw_ps w 216 0 (pw_i s1) s0 → (¬ a5 = (-1) → jp_M_inherits_86 Q X K7 a1 a4 a5 1 a3 w6) ∧ (a5 = (-1) → jp_M_inherits_86 Q X K7 a1 a4 a5 0 a3 w6)
set_option maxHeartbeats 4000000 in
set_option maxRecDepth 20000 in
theorem vjp_M_inherits_73 {l : Launch} {g : pw_G} {Q : pw_W → Int32 → Prop} {X : pw_W → Nat → Prop} (hl0 : l.stackTraces = false) {K7 : Int32 → Int32 → Int32 → Int32 → pw_W → Prop} (hK7 : ∀ (a1 a2 a3 a4 : Int32) (w : pw_W), K7 a1 a2 a3 a4 w → pw_V l g cx_M_inherits Q X 7 [(10, 0), (0, a1), (0, a2), (0, a3), (0, a4), (1, 0)] [] w) (a1 a3 a4 a5 s0 s1 : Int32) (w : pw_W) (h : jp_M_inherits_73 Q X K7 a1 a3 a4 a5 s0 s1 w) : pw_V l g cx_M_inherits Q X 73 [(10, 0), (0, a1), (1, 0), (0, a3), (0, a4), (0, a5)] [(0, s0), (0, s1), (218, 0)] w := by
  unfold jp_M_inherits_73 at h
  obtain ⟨g5, h⟩ := h
  refine pv_iast1 (n := 74) (f := 216) (by decide) rfl (fun _ => rfl) d_M_inherits_73 (by decide) g5 rfl (fun w6 e7 => ?_)
  replace h := h w6 e7
  refine pv_iload_n (n := 75) d_M_inherits_74 rfl rfl rfl ?_
  refine pv_iload (n := 77) d_M_inherits_75 rfl rfl ?_
  refine pv_iconst (v := -1) (n := 78) d_M_inherits_77 (by decide) rfl ?_
  refine pv_icmp_ne (n := 81) (tgt := 85) d_M_inherits_78 (by decide) rfl (fun c8 => ?_) (fun c8 => ?_)
  · replace h := h.1 c8
    refine pv_iconst (v := 1) (n := 86) d_M_inherits_85 (by decide) rfl ?_
    refine pv_unset (i := 3) (L1 := [(10, 0), (0, a1), (1, 0), (1, 0), (0, a4), (0, a5)]) rfl ?_
    exact vjp_M_inherits_86 hl0 (by intros; exact hK7 _ _ _ _ _ (by assumption)) _ _ _ _ _ _ h
  · replace h := h.2 c8
    refine pv_iconst (v := 0) (n := 82) d_M_inherits_81 (by decide) rfl ?_
    refine pv_goto (tgt := 86) d_M_inherits_82 (by decide) ?_
    refine pv_unset (i := 3) (L1 := [(10, 0), (0, a1), (1, 0), (1, 0), (0, a4), (0, a5)]) rfl ?_
    exact vjp_M_inherits_86 hl0 (by intros; exact hK7 _ _ _ _ _ (by assumption)) _ _ _ _ _ _ h
set_option maxHeartbeats 4000000 in
set_option maxRecDepth 20000 in
def lp_M_inherits_7 (Q : pw_W → Int32 → Prop) (X : pw_W → Nat → Prop) : Nat → Int32 → Int32 → Int32 → Int32 → pw_W → Prop := fun k => Nat.rec (motive := fun _ => Int32 → Int32 → Int32 → Int32 → pw_W → Prop) (fun _ _ _ _ _ => False) (fun _ ih a1 a2 a3 a4 w => ((w.1 8 0 18) ≤ a4 → Q w a3) ∧ (¬ (w.1 8 0 18) ≤ a4 → w.1 8 0 16 = 0 ∧ pw_jn a4 (pw_ln w 216 0) ∧ (¬ (w.1 216 0 (pw_i a4)) = a1 → ih a1 a2 a3 (a4 + 1) w) ∧ ((w.1 216 0 (pw_i a4)) = a1 → w.1 8 0 17 = 0 ∧ pw_jn a4 (pw_ln w 217 0) ∧ (¬ (w.1 217 0 (pw_i a4)) = (-1) → ih a1 a2 a3 (a4 + 1) w) ∧ ((w.1 217 0 (pw_i a4)) = (-1) → wp_M_nextHeir w a1 a2 (fun w16 r17 => w16.1 8 0 16 = 0 ∧ (¬ r17 = (-1) → w16.1 8 0 43 = 0 ∧ pw_jn (((3 : Int32) * a1) + r17) (pw_ln w16 243 0) ∧ jp_M_inherits_73 Q X ih a1 a3 a4 r17 (w16.1 243 0 (pw_i (((3 : Int32) * a1) + r17))) a4 w16) ∧ (r17 = (-1) → jp_M_inherits_73 Q X ih a1 a3 a4 r17 (-1) a4 w16)) (fun _ _ => False))))) k
set_option maxHeartbeats 4000000 in
set_option maxRecDepth 20000 in
theorem lp_M_inherits_7_s {Q : pw_W → Int32 → Prop} {X : pw_W → Nat → Prop}  {k : Nat} {a1 a2 a3 a4 : Int32} {w : pw_W} : lp_M_inherits_7 Q X (k + 1) a1 a2 a3 a4 w = (let ih := lp_M_inherits_7 Q X k; ((w.1 8 0 18) ≤ a4 → Q w a3) ∧ (¬ (w.1 8 0 18) ≤ a4 → w.1 8 0 16 = 0 ∧ pw_jn a4 (pw_ln w 216 0) ∧ (¬ (w.1 216 0 (pw_i a4)) = a1 → ih a1 a2 a3 (a4 + 1) w) ∧ ((w.1 216 0 (pw_i a4)) = a1 → w.1 8 0 17 = 0 ∧ pw_jn a4 (pw_ln w 217 0) ∧ (¬ (w.1 217 0 (pw_i a4)) = (-1) → ih a1 a2 a3 (a4 + 1) w) ∧ ((w.1 217 0 (pw_i a4)) = (-1) → wp_M_nextHeir w a1 a2 (fun w16 r17 => w16.1 8 0 16 = 0 ∧ (¬ r17 = (-1) → w16.1 8 0 43 = 0 ∧ pw_jn (((3 : Int32) * a1) + r17) (pw_ln w16 243 0) ∧ jp_M_inherits_73 Q X ih a1 a3 a4 r17 (w16.1 243 0 (pw_i (((3 : Int32) * a1) + r17))) a4 w16) ∧ (r17 = (-1) → jp_M_inherits_73 Q X ih a1 a3 a4 r17 (-1) a4 w16)) (fun _ _ => False))))) := rfl
set_option maxHeartbeats 4000000 in
set_option maxRecDepth 20000 in
theorem vlp_M_inherits_7 {l : Launch} {g : pw_G} {Q : pw_W → Int32 → Prop} {X : pw_W → Nat → Prop} (hl0 : l.stackTraces = false) : ∀ (k : Nat) (a1 a2 a3 a4 : Int32) (w : pw_W), lp_M_inherits_7 Q X k a1 a2 a3 a4 w → pw_V l g cx_M_inherits Q X 7 [(10, 0), (0, a1), (0, a2), (0, a3), (0, a4), (1, 0)] [] w := by
  intro k; induction k with
  | zero => intro _ _ _ _ _ h; exact h.elim
  | succ k ih =>
    intro a1 a2 a3 a4 w h
    rw [lp_M_inherits_7_s] at h
    refine pv_iload (n := 9) d_M_inherits_7 rfl rfl ?_
    refine pv_aload_n (n := 10) d_M_inherits_9 rfl rfl rfl ?_
    refine gt_M_116 (n := 13) rfl d_M_inherits_10 (by decide) rfl ?_
    refine pv_icmp_ge (n := 16) (tgt := 99) d_M_inherits_13 (by decide) rfl (fun c9 => ?_) (fun c9 => ?_)
    · replace h := h.1 c9
      refine pv_iload_n (n := 100) d_M_inherits_99 rfl rfl rfl ?_
      exact pv_iret rfl rfl d_M_inherits_100 h
    · replace h := h.2 c9
      refine pv_aload_n (n := 17) d_M_inherits_16 rfl rfl rfl ?_
      obtain ⟨g10, h⟩ := h
      refine gt_M_40 (n := 20) rfl d_M_inherits_17 (by decide) g10 rfl ?_
      refine pv_iload (n := 22) d_M_inherits_20 rfl rfl ?_
      obtain ⟨g11, h⟩ := h
      refine pv_iald (n := 23) (f := 216) (by decide) rfl d_M_inherits_22 (by decide) g11 rfl ?_
      refine pv_iload_n (n := 24) d_M_inherits_23 rfl rfl rfl ?_
      refine pv_icmp_ne (n := 27) (tgt := 93) d_M_inherits_24 (by decide) rfl (fun c12 => ?_) (fun c12 => ?_)
      · replace h := h.1 c12
        refine pv_iinc (v := (a4 + 1)) (n := 96) (L1 := [(10, 0), (0, a1), (0, a2), (0, a3), (0, (a4 + 1)), (1, 0)]) d_M_inherits_93 rfl rfl rfl (by decide) rfl ?_
        refine pv_goto (tgt := 7) d_M_inherits_96 (by decide) ?_
        exact ih _ _ _ _ _ h
      · replace h := h.2 c12
        refine pv_aload_n (n := 28) d_M_inherits_27 rfl rfl rfl ?_
        obtain ⟨g13, h⟩ := h
        refine gt_M_43 (n := 31) rfl d_M_inherits_28 (by decide) g13 rfl ?_
        refine pv_iload (n := 33) d_M_inherits_31 rfl rfl ?_
        obtain ⟨g14, h⟩ := h
        refine pv_iald (n := 34) (f := 217) (by decide) rfl d_M_inherits_33 (by decide) g14 rfl ?_
        refine pv_iconst (v := -1) (n := 35) d_M_inherits_34 (by decide) rfl ?_
        refine pv_icmp_ne (n := 38) (tgt := 93) d_M_inherits_35 (by decide) rfl (fun c15 => ?_) (fun c15 => ?_)
        · replace h := h.1 c15
          refine pv_iinc (v := (a4 + 1)) (n := 96) (L1 := [(10, 0), (0, a1), (0, a2), (0, a3), (0, (a4 + 1)), (1, 0)]) d_M_inherits_93 rfl rfl rfl (by decide) rfl ?_
          refine pv_goto (tgt := 7) d_M_inherits_96 (by decide) ?_
          exact ih _ _ _ _ _ h
        · replace h := h.2 c15
          refine pv_aload_n (n := 39) d_M_inherits_38 rfl rfl rfl ?_
          refine pv_iload_n (n := 40) d_M_inherits_39 rfl rfl rfl ?_
          refine pv_iload_n (n := 41) d_M_inherits_40 rfl rfl rfl ?_
          refine pv_callV (n := 44) (x := 0) [(0, a1), (0, a2)] [] (con_M_nextHeir hl0 h) pw_cf8 rfl q_641 q_642 q_643 q_458 q_640 pyo_M_nextHeir (by decide) rfl rfl (by decide) d_M_inherits_41 rfl (fun w16 r17 h _ => ?_) (fun _ _ h => h.elim)
          show pw_V l g cx_M_inherits Q X 44 [(10, 0), (0, a1), (0, a2), (0, a3), (0, a4), (1, 0)] [(0, r17)] w16
          refine pv_istore (n := 46) (L' := [(10, 0), (0, a1), (0, a2), (0, a3), (0, a4), (0, r17)]) d_M_inherits_44 (by decide) rfl rfl ?_
          refine pv_aload_n (n := 47) d_M_inherits_46 rfl rfl rfl ?_
          obtain ⟨g18, h⟩ := h
          refine gt_M_40 (n := 50) rfl d_M_inherits_47 (by decide) g18 rfl ?_
          refine pv_iload (n := 52) d_M_inherits_50 rfl rfl ?_
          refine pv_iload (n := 54) d_M_inherits_52 rfl rfl ?_
          refine pv_iconst (v := -1) (n := 55) d_M_inherits_54 (by decide) rfl ?_
          refine pv_icmp_ne (n := 58) (tgt := 62) d_M_inherits_55 (by decide) rfl (fun c19 => ?_) (fun c19 => ?_)
          · replace h := h.1 c19
            refine pv_aload_n (n := 63) d_M_inherits_62 rfl rfl rfl ?_
            obtain ⟨g20, h⟩ := h
            refine gt_M_107 (n := 66) rfl d_M_inherits_63 (by decide) g20 rfl ?_
            refine pv_iconst (v := 3) (n := 67) d_M_inherits_66 (by decide) rfl ?_
            refine pv_iload_n (n := 68) d_M_inherits_67 rfl rfl rfl ?_
            refine pv_imul (n := 69) d_M_inherits_68 rfl ?_
            refine pv_iload (n := 71) d_M_inherits_69 rfl rfl ?_
            refine pv_iadd (n := 72) d_M_inherits_71 rfl ?_
            obtain ⟨g21, h⟩ := h
            refine pv_iald (n := 73) (f := 243) (by decide) rfl d_M_inherits_72 (by decide) g21 rfl ?_
            refine pv_unset (i := 2) (L1 := [(10, 0), (0, a1), (1, 0), (0, a3), (0, a4), (0, r17)]) rfl ?_
            exact vjp_M_inherits_73 hl0 (by intros; exact ih _ _ _ _ _ (by assumption)) _ _ _ _ _ _ _ h
          · replace h := h.2 c19
            refine pv_iconst (v := -1) (n := 59) d_M_inherits_58 (by decide) rfl ?_
            refine pv_goto (tgt := 73) d_M_inherits_59 (by decide) ?_
            refine pv_unset (i := 2) (L1 := [(10, 0), (0, a1), (1, 0), (0, a3), (0, a4), (0, r17)]) rfl ?_
            exact vjp_M_inherits_73 hl0 (by intros; exact ih _ _ _ _ _ (by assumption)) _ _ _ _ _ _ _ h
set_option maxHeartbeats 4000000 in
set_option maxRecDepth 20000 in
def wp_M_inherits (w : pw_W) (a1 : Int32) (Q : pw_W → Int32 → Prop) (X : pw_W → Nat → Prop) : Prop := ∃ k22, lp_M_inherits_7 Q X k22 a1 0 0 0 w
set_option maxHeartbeats 4000000 in
set_option maxRecDepth 20000 in
theorem vw_M_inherits {l : Launch} {g : pw_G} {Q : pw_W → Int32 → Prop} {X : pw_W → Nat → Prop} (hl0 : l.stackTraces = false) {w : pw_W} {a1 : Int32} (h : wp_M_inherits w a1 Q X) : pw_V l g cx_M_inherits Q X 0 [(10, 0), (0, a1), (1, 0), (1, 0), (1, 0), (1, 0)] [] w := by
  unfold wp_M_inherits at h
  refine pv_iconst (v := 0) (n := 1) d_M_inherits_0 (by decide) rfl ?_
  refine pv_istore_n (n := 2) (L' := [(10, 0), (0, a1), (0, 0), (1, 0), (1, 0), (1, 0)]) d_M_inherits_1 rfl (by decide) rfl rfl ?_
  refine pv_iconst (v := 0) (n := 3) d_M_inherits_2 (by decide) rfl ?_
  refine pv_istore_n (n := 4) (L' := [(10, 0), (0, a1), (0, 0), (0, 0), (1, 0), (1, 0)]) d_M_inherits_3 rfl (by decide) rfl rfl ?_
  refine pv_iconst (v := 0) (n := 5) d_M_inherits_4 (by decide) rfl ?_
  refine pv_istore (n := 7) (L' := [(10, 0), (0, a1), (0, 0), (0, 0), (0, 0), (1, 0)]) d_M_inherits_5 (by decide) rfl rfl ?_
  obtain ⟨k22, h⟩ := h
  exact vlp_M_inherits_7 hl0 _ _ _ _ _ _ h
set_option maxHeartbeats 4000000 in
set_option maxRecDepth 20000 in
theorem con_M_inherits {l : Launch} {g : pw_G} {Q : pw_W → Int32 → Prop} {X : pw_W → Nat → Prop} (hl0 : l.stackTraces = false) {w : pw_W} {a1 : Int32} (h : wp_M_inherits w a1 Q X) : pw_Con l g y_M_inherits cx_M_inherits [(10, 0), (0, a1)] w Q X :=
  pw_con (by decide +kernel) rfl rfl hl0 rfl (Nat.le_of_ble_eq_true rfl) (by simp) (vw_M_inherits hl0 h)
theorem d_M_endsMaps_0 : decode (pw_cc cx_M_endsMaps) 0 = .ok (.iconst 0, 1) := by decide +kernel
theorem d_M_endsMaps_1 : decode (pw_cc cx_M_endsMaps) 1 = .ok (.istore_n 2, 1) := by decide +kernel
theorem d_M_endsMaps_2 : decode (pw_cc cx_M_endsMaps) 2 = .ok (.iconst 0, 1) := by decide +kernel
theorem d_M_endsMaps_3 : decode (pw_cc cx_M_endsMaps) 3 = .ok (.istore_n 3, 1) := by decide +kernel
theorem d_M_endsMaps_4 : decode (pw_cc cx_M_endsMaps) 4 = .ok (.iload_n 3, 1) := by decide +kernel
theorem d_M_endsMaps_5 : decode (pw_cc cx_M_endsMaps) 5 = .ok (.aload_n 0, 1) := by decide +kernel
theorem d_M_endsMaps_6 : decode (pw_cc cx_M_endsMaps) 6 = .ok (.getfield 201, 3) := by decide +kernel
theorem d_M_endsMaps_9 : decode (pw_cc cx_M_endsMaps) 9 = .ok (.if_icmp .ge 58, 3) := by decide +kernel
theorem d_M_endsMaps_12 : decode (pw_cc cx_M_endsMaps) 12 = .ok (.aload_n 0, 1) := by decide +kernel
theorem d_M_endsMaps_13 : decode (pw_cc cx_M_endsMaps) 13 = .ok (.getfield 68, 3) := by decide +kernel
theorem d_M_endsMaps_16 : decode (pw_cc cx_M_endsMaps) 16 = .ok (.iload_n 3, 1) := by decide +kernel
theorem d_M_endsMaps_17 : decode (pw_cc cx_M_endsMaps) 17 = .ok (.iaload, 1) := by decide +kernel
theorem d_M_endsMaps_18 : decode (pw_cc cx_M_endsMaps) 18 = .ok (.iload_n 1, 1) := by decide +kernel
theorem d_M_endsMaps_19 : decode (pw_cc cx_M_endsMaps) 19 = .ok (.if_icmp .eq 42, 3) := by decide +kernel
theorem d_M_endsMaps_22 : decode (pw_cc cx_M_endsMaps) 22 = .ok (.aload_n 0, 1) := by decide +kernel
theorem d_M_endsMaps_23 : decode (pw_cc cx_M_endsMaps) 23 = .ok (.getfield 68, 3) := by decide +kernel
theorem d_M_endsMaps_26 : decode (pw_cc cx_M_endsMaps) 26 = .ok (.iload_n 2, 1) := by decide +kernel
theorem d_M_endsMaps_27 : decode (pw_cc cx_M_endsMaps) 27 = .ok (.aload_n 0, 1) := by decide +kernel
theorem d_M_endsMaps_28 : decode (pw_cc cx_M_endsMaps) 28 = .ok (.getfield 68, 3) := by decide +kernel
theorem d_M_endsMaps_31 : decode (pw_cc cx_M_endsMaps) 31 = .ok (.iload_n 3, 1) := by decide +kernel
theorem d_M_endsMaps_32 : decode (pw_cc cx_M_endsMaps) 32 = .ok (.iaload, 1) := by decide +kernel
theorem d_M_endsMaps_33 : decode (pw_cc cx_M_endsMaps) 33 = .ok (.iastore, 1) := by decide +kernel
theorem d_M_endsMaps_34 : decode (pw_cc cx_M_endsMaps) 34 = .ok (.aload_n 0, 1) := by decide +kernel
theorem d_M_endsMaps_35 : decode (pw_cc cx_M_endsMaps) 35 = .ok (.getfield 71, 3) := by decide +kernel
theorem d_M_endsMaps_38 : decode (pw_cc cx_M_endsMaps) 38 = .ok (.iload_n 2, 1) := by decide +kernel
theorem d_M_endsMaps_39 : decode (pw_cc cx_M_endsMaps) 39 = .ok (.aload_n 0, 1) := by decide +kernel
theorem d_M_endsMaps_40 : decode (pw_cc cx_M_endsMaps) 40 = .ok (.getfield 71, 3) := by decide +kernel
theorem d_M_endsMaps_43 : decode (pw_cc cx_M_endsMaps) 43 = .ok (.iload_n 3, 1) := by decide +kernel
theorem d_M_endsMaps_44 : decode (pw_cc cx_M_endsMaps) 44 = .ok (.iaload, 1) := by decide +kernel
theorem d_M_endsMaps_45 : decode (pw_cc cx_M_endsMaps) 45 = .ok (.iastore, 1) := by decide +kernel
theorem d_M_endsMaps_46 : decode (pw_cc cx_M_endsMaps) 46 = .ok (.aload_n 0, 1) := by decide +kernel
theorem d_M_endsMaps_47 : decode (pw_cc cx_M_endsMaps) 47 = .ok (.getfield 74, 3) := by decide +kernel
theorem d_M_endsMaps_50 : decode (pw_cc cx_M_endsMaps) 50 = .ok (.iload_n 2, 1) := by decide +kernel
theorem d_M_endsMaps_51 : decode (pw_cc cx_M_endsMaps) 51 = .ok (.aload_n 0, 1) := by decide +kernel
theorem d_M_endsMaps_52 : decode (pw_cc cx_M_endsMaps) 52 = .ok (.getfield 74, 3) := by decide +kernel
theorem d_M_endsMaps_55 : decode (pw_cc cx_M_endsMaps) 55 = .ok (.iload_n 3, 1) := by decide +kernel
theorem d_M_endsMaps_56 : decode (pw_cc cx_M_endsMaps) 56 = .ok (.iaload, 1) := by decide +kernel
theorem d_M_endsMaps_57 : decode (pw_cc cx_M_endsMaps) 57 = .ok (.iastore, 1) := by decide +kernel
theorem d_M_endsMaps_58 : decode (pw_cc cx_M_endsMaps) 58 = .ok (.iinc 2 1, 3) := by decide +kernel
theorem d_M_endsMaps_61 : decode (pw_cc cx_M_endsMaps) 61 = .ok (.iinc 3 1, 3) := by decide +kernel
theorem d_M_endsMaps_64 : decode (pw_cc cx_M_endsMaps) 64 = .ok (.goto (-60), 3) := by decide +kernel
theorem d_M_endsMaps_67 : decode (pw_cc cx_M_endsMaps) 67 = .ok (.aload_n 0, 1) := by decide +kernel
theorem d_M_endsMaps_68 : decode (pw_cc cx_M_endsMaps) 68 = .ok (.iload_n 2, 1) := by decide +kernel
theorem d_M_endsMaps_69 : decode (pw_cc cx_M_endsMaps) 69 = .ok (.putfield 201, 3) := by decide +kernel
theorem d_M_endsMaps_72 : decode (pw_cc cx_M_endsMaps) 72 = .ok (.return_, 1) := by decide +kernel
set_option maxHeartbeats 4000000 in
set_option maxRecDepth 20000 in
def lp_M_endsMaps_4 (Q : pw_W → Int32 → Prop) (X : pw_W → Nat → Prop) : Nat → Int32 → Int32 → Int32 → pw_W → Prop := fun k => Nat.rec (motive := fun _ => Int32 → Int32 → Int32 → pw_W → Prop) (fun _ _ _ _ => False) (fun _ ih a1 a2 a3 w => ((w.1 8 0 30) ≤ a3 → ∀ w2, w2 = pw_ps w 8 0 30 a2 → Q w2 0) ∧ (¬ (w.1 8 0 30) ≤ a3 → w.1 8 0 27 = 0 ∧ pw_jn a3 (pw_ln w 227 0) ∧ ((w.1 227 0 (pw_i a3)) = a1 → ih a1 a2 (a3 + 1) w) ∧ (¬ (w.1 227 0 (pw_i a3)) = a1 → w.1 8 0 27 = 0 ∧ w.1 8 0 27 = 0 ∧ pw_jn a3 (pw_ln w 227 0) ∧ pw_jn a2 (pw_ln w 227 0) ∧ ∀ w11, w11 = pw_ps w 227 0 (pw_i a2) (w.1 227 0 (pw_i a3)) → w11.1 8 0 28 = 0 ∧ w11.1 8 0 28 = 0 ∧ pw_jn a3 (pw_ln w11 228 0) ∧ pw_jn a2 (pw_ln w11 228 0) ∧ ∀ w17, w17 = pw_ps w11 228 0 (pw_i a2) (w11.1 228 0 (pw_i a3)) → w17.1 8 0 29 = 0 ∧ w17.1 8 0 29 = 0 ∧ pw_jn a3 (pw_ln w17 229 0) ∧ pw_jn a2 (pw_ln w17 229 0) ∧ ∀ w23, w23 = pw_ps w17 229 0 (pw_i a2) (w17.1 229 0 (pw_i a3)) → ih a1 (a2 + 1) (a3 + 1) w23))) k
set_option maxHeartbeats 4000000 in
set_option maxRecDepth 20000 in
theorem lp_M_endsMaps_4_s {Q : pw_W → Int32 → Prop} {X : pw_W → Nat → Prop}  {k : Nat} {a1 a2 a3 : Int32} {w : pw_W} : lp_M_endsMaps_4 Q X (k + 1) a1 a2 a3 w = (let ih := lp_M_endsMaps_4 Q X k; ((w.1 8 0 30) ≤ a3 → ∀ w2, w2 = pw_ps w 8 0 30 a2 → Q w2 0) ∧ (¬ (w.1 8 0 30) ≤ a3 → w.1 8 0 27 = 0 ∧ pw_jn a3 (pw_ln w 227 0) ∧ ((w.1 227 0 (pw_i a3)) = a1 → ih a1 a2 (a3 + 1) w) ∧ (¬ (w.1 227 0 (pw_i a3)) = a1 → w.1 8 0 27 = 0 ∧ w.1 8 0 27 = 0 ∧ pw_jn a3 (pw_ln w 227 0) ∧ pw_jn a2 (pw_ln w 227 0) ∧ ∀ w11, w11 = pw_ps w 227 0 (pw_i a2) (w.1 227 0 (pw_i a3)) → w11.1 8 0 28 = 0 ∧ w11.1 8 0 28 = 0 ∧ pw_jn a3 (pw_ln w11 228 0) ∧ pw_jn a2 (pw_ln w11 228 0) ∧ ∀ w17, w17 = pw_ps w11 228 0 (pw_i a2) (w11.1 228 0 (pw_i a3)) → w17.1 8 0 29 = 0 ∧ w17.1 8 0 29 = 0 ∧ pw_jn a3 (pw_ln w17 229 0) ∧ pw_jn a2 (pw_ln w17 229 0) ∧ ∀ w23, w23 = pw_ps w17 229 0 (pw_i a2) (w17.1 229 0 (pw_i a3)) → ih a1 (a2 + 1) (a3 + 1) w23))) := rfl
set_option maxHeartbeats 4000000 in
set_option maxRecDepth 20000 in
theorem vlp_M_endsMaps_4 {l : Launch} {g : pw_G} {Q : pw_W → Int32 → Prop} {X : pw_W → Nat → Prop} (hl0 : l.stackTraces = false) : ∀ (k : Nat) (a1 a2 a3 : Int32) (w : pw_W), lp_M_endsMaps_4 Q X k a1 a2 a3 w → pw_V l g cx_M_endsMaps Q X 4 [(10, 0), (0, a1), (0, a2), (0, a3)] [] w := by
  intro k; induction k with
  | zero => intro _ _ _ _ h; exact h.elim
  | succ k ih =>
    intro a1 a2 a3 w h
    rw [lp_M_endsMaps_4_s] at h
    refine pv_iload_n (n := 5) d_M_endsMaps_4 rfl rfl rfl ?_
    refine pv_aload_n (n := 6) d_M_endsMaps_5 rfl rfl rfl ?_
    refine gt_M_201 (n := 9) rfl d_M_endsMaps_6 (by decide) rfl ?_
    refine pv_icmp_ge (n := 12) (tgt := 67) d_M_endsMaps_9 (by decide) rfl (fun c1 => ?_) (fun c1 => ?_)
    · replace h := h.1 c1
      refine pv_aload_n (n := 68) d_M_endsMaps_67 rfl rfl rfl ?_
      refine pv_iload_n (n := 69) d_M_endsMaps_68 rfl rfl rfl ?_
      refine pt_M_201 (n := 72) rfl d_M_endsMaps_69 (by decide) rfl (fun w2 e3 => ?_)
      replace h := h w2 e3
      exact pv_vret rfl rfl d_M_endsMaps_72 h
    · replace h := h.2 c1
      refine pv_aload_n (n := 13) d_M_endsMaps_12 rfl rfl rfl ?_
      obtain ⟨g4, h⟩ := h
      refine gt_M_68 (n := 16) rfl d_M_endsMaps_13 (by decide) g4 rfl ?_
      refine pv_iload_n (n := 17) d_M_endsMaps_16 rfl rfl rfl ?_
      obtain ⟨g5, h⟩ := h
      refine pv_iald (n := 18) (f := 227) (by decide) rfl d_M_endsMaps_17 (by decide) g5 rfl ?_
      refine pv_iload_n (n := 19) d_M_endsMaps_18 rfl rfl rfl ?_
      refine pv_icmp_eq (n := 22) (tgt := 61) d_M_endsMaps_19 (by decide) rfl (fun c6 => ?_) (fun c6 => ?_)
      · replace h := h.1 c6
        refine pv_iinc (v := (a3 + 1)) (n := 64) (L1 := [(10, 0), (0, a1), (0, a2), (0, (a3 + 1))]) d_M_endsMaps_61 rfl rfl rfl (by decide) rfl ?_
        refine pv_goto (tgt := 4) d_M_endsMaps_64 (by decide) ?_
        exact ih _ _ _ _ h
      · replace h := h.2 c6
        refine pv_aload_n (n := 23) d_M_endsMaps_22 rfl rfl rfl ?_
        obtain ⟨g7, h⟩ := h
        refine gt_M_68 (n := 26) rfl d_M_endsMaps_23 (by decide) g7 rfl ?_
        refine pv_iload_n (n := 27) d_M_endsMaps_26 rfl rfl rfl ?_
        refine pv_aload_n (n := 28) d_M_endsMaps_27 rfl rfl rfl ?_
        obtain ⟨g8, h⟩ := h
        refine gt_M_68 (n := 31) rfl d_M_endsMaps_28 (by decide) g8 rfl ?_
        refine pv_iload_n (n := 32) d_M_endsMaps_31 rfl rfl rfl ?_
        obtain ⟨g9, h⟩ := h
        refine pv_iald (n := 33) (f := 227) (by decide) rfl d_M_endsMaps_32 (by decide) g9 rfl ?_
        obtain ⟨g10, h⟩ := h
        refine pv_iast1 (n := 34) (f := 227) (by decide) rfl (fun _ => rfl) d_M_endsMaps_33 (by decide) g10 rfl (fun w11 e12 => ?_)
        replace h := h w11 e12
        refine pv_aload_n (n := 35) d_M_endsMaps_34 rfl rfl rfl ?_
        obtain ⟨g13, h⟩ := h
        refine gt_M_71 (n := 38) rfl d_M_endsMaps_35 (by decide) g13 rfl ?_
        refine pv_iload_n (n := 39) d_M_endsMaps_38 rfl rfl rfl ?_
        refine pv_aload_n (n := 40) d_M_endsMaps_39 rfl rfl rfl ?_
        obtain ⟨g14, h⟩ := h
        refine gt_M_71 (n := 43) rfl d_M_endsMaps_40 (by decide) g14 rfl ?_
        refine pv_iload_n (n := 44) d_M_endsMaps_43 rfl rfl rfl ?_
        obtain ⟨g15, h⟩ := h
        refine pv_iald (n := 45) (f := 228) (by decide) rfl d_M_endsMaps_44 (by decide) g15 rfl ?_
        obtain ⟨g16, h⟩ := h
        refine pv_iast1 (n := 46) (f := 228) (by decide) rfl (fun _ => rfl) d_M_endsMaps_45 (by decide) g16 rfl (fun w17 e18 => ?_)
        replace h := h w17 e18
        refine pv_aload_n (n := 47) d_M_endsMaps_46 rfl rfl rfl ?_
        obtain ⟨g19, h⟩ := h
        refine gt_M_74 (n := 50) rfl d_M_endsMaps_47 (by decide) g19 rfl ?_
        refine pv_iload_n (n := 51) d_M_endsMaps_50 rfl rfl rfl ?_
        refine pv_aload_n (n := 52) d_M_endsMaps_51 rfl rfl rfl ?_
        obtain ⟨g20, h⟩ := h
        refine gt_M_74 (n := 55) rfl d_M_endsMaps_52 (by decide) g20 rfl ?_
        refine pv_iload_n (n := 56) d_M_endsMaps_55 rfl rfl rfl ?_
        obtain ⟨g21, h⟩ := h
        refine pv_iald (n := 57) (f := 229) (by decide) rfl d_M_endsMaps_56 (by decide) g21 rfl ?_
        obtain ⟨g22, h⟩ := h
        refine pv_iast1 (n := 58) (f := 229) (by decide) rfl (fun _ => rfl) d_M_endsMaps_57 (by decide) g22 rfl (fun w23 e24 => ?_)
        replace h := h w23 e24
        refine pv_iinc (v := (a2 + 1)) (n := 61) (L1 := [(10, 0), (0, a1), (0, (a2 + 1)), (0, a3)]) d_M_endsMaps_58 rfl rfl rfl (by decide) rfl ?_
        refine pv_iinc (v := (a3 + 1)) (n := 64) (L1 := [(10, 0), (0, a1), (0, (a2 + 1)), (0, (a3 + 1))]) d_M_endsMaps_61 rfl rfl rfl (by decide) rfl ?_
        refine pv_goto (tgt := 4) d_M_endsMaps_64 (by decide) ?_
        exact ih _ _ _ _ h
set_option maxHeartbeats 4000000 in
set_option maxRecDepth 20000 in
def wp_M_endsMaps (w : pw_W) (a1 : Int32) (Q : pw_W → Int32 → Prop) (X : pw_W → Nat → Prop) : Prop := ∃ k25, lp_M_endsMaps_4 Q X k25 a1 0 0 w
set_option maxHeartbeats 4000000 in
set_option maxRecDepth 20000 in
theorem vw_M_endsMaps {l : Launch} {g : pw_G} {Q : pw_W → Int32 → Prop} {X : pw_W → Nat → Prop} (hl0 : l.stackTraces = false) {w : pw_W} {a1 : Int32} (h : wp_M_endsMaps w a1 Q X) : pw_V l g cx_M_endsMaps Q X 0 [(10, 0), (0, a1), (1, 0), (1, 0)] [] w := by
  unfold wp_M_endsMaps at h
  refine pv_iconst (v := 0) (n := 1) d_M_endsMaps_0 (by decide) rfl ?_
  refine pv_istore_n (n := 2) (L' := [(10, 0), (0, a1), (0, 0), (1, 0)]) d_M_endsMaps_1 rfl (by decide) rfl rfl ?_
  refine pv_iconst (v := 0) (n := 3) d_M_endsMaps_2 (by decide) rfl ?_
  refine pv_istore_n (n := 4) (L' := [(10, 0), (0, a1), (0, 0), (0, 0)]) d_M_endsMaps_3 rfl (by decide) rfl rfl ?_
  obtain ⟨k25, h⟩ := h
  exact vlp_M_endsMaps_4 hl0 _ _ _ _ _ h
set_option maxHeartbeats 4000000 in
set_option maxRecDepth 20000 in
theorem con_M_endsMaps {l : Launch} {g : pw_G} {Q : pw_W → Int32 → Prop} {X : pw_W → Nat → Prop} (hl0 : l.stackTraces = false) {w : pw_W} {a1 : Int32} (h : wp_M_endsMaps w a1 Q X) : pw_Con l g y_M_endsMaps cx_M_endsMaps [(10, 0), (0, a1)] w Q X :=
  pw_con (by decide +kernel) rfl rfl hl0 rfl (Nat.le_of_ble_eq_true rfl) (by simp) (vw_M_endsMaps hl0 h)
theorem d_M_die_0 : decode (pw_cc cx_M_die) 0 = .ok (.iload_n 1, 1) := by decide +kernel
theorem d_M_die_1 : decode (pw_cc cx_M_die) 1 = .ok (.invokestatic 166, 3) := by decide +kernel
theorem d_M_die_4 : decode (pw_cc cx_M_die) 4 = .ok (.istore_n 2, 1) := by decide +kernel
theorem d_M_die_5 : decode (pw_cc cx_M_die) 5 = .ok (.aload_n 0, 1) := by decide +kernel
theorem d_M_die_6 : decode (pw_cc cx_M_die) 6 = .ok (.iload_n 2, 1) := by decide +kernel
theorem d_M_die_7 : decode (pw_cc cx_M_die) 7 = .ok (.ifCond .ne 7, 3) := by decide +kernel
theorem d_M_die_10 : decode (pw_cc cx_M_die) 10 = .ok (.iconst 1, 1) := by decide +kernel
theorem d_M_die_11 : decode (pw_cc cx_M_die) 11 = .ok (.goto 17, 3) := by decide +kernel
theorem d_M_die_14 : decode (pw_cc cx_M_die) 14 = .ok (.aload_n 0, 1) := by decide +kernel
theorem d_M_die_15 : decode (pw_cc cx_M_die) 15 = .ok (.getfield 104, 3) := by decide +kernel
theorem d_M_die_18 : decode (pw_cc cx_M_die) 18 = .ok (.iload_n 1, 1) := by decide +kernel
theorem d_M_die_19 : decode (pw_cc cx_M_die) 19 = .ok (.baload, 1) := by decide +kernel
theorem d_M_die_20 : decode (pw_cc cx_M_die) 20 = .ok (.ifCond .eq 7, 3) := by decide +kernel
theorem d_M_die_23 : decode (pw_cc cx_M_die) 23 = .ok (.iconst 2, 1) := by decide +kernel
theorem d_M_die_24 : decode (pw_cc cx_M_die) 24 = .ok (.goto 4, 3) := by decide +kernel
theorem d_M_die_27 : decode (pw_cc cx_M_die) 27 = .ok (.iconst 0, 1) := by decide +kernel
theorem d_M_die_28 : decode (pw_cc cx_M_die) 28 = .ok (.invokevirtual 179, 3) := by decide +kernel
theorem d_M_die_31 : decode (pw_cc cx_M_die) 31 = .ok (.ifCond .ne 5, 3) := by decide +kernel
theorem d_M_die_34 : decode (pw_cc cx_M_die) 34 = .ok (.iconst 0, 1) := by decide +kernel
theorem d_M_die_35 : decode (pw_cc cx_M_die) 35 = .ok (.ireturn, 1) := by decide +kernel
theorem d_M_die_36 : decode (pw_cc cx_M_die) 36 = .ok (.aload_n 0, 1) := by decide +kernel
theorem d_M_die_37 : decode (pw_cc cx_M_die) 37 = .ok (.getfield 104, 3) := by decide +kernel
theorem d_M_die_40 : decode (pw_cc cx_M_die) 40 = .ok (.iload_n 1, 1) := by decide +kernel
theorem d_M_die_41 : decode (pw_cc cx_M_die) 41 = .ok (.iconst 1, 1) := by decide +kernel
theorem d_M_die_42 : decode (pw_cc cx_M_die) 42 = .ok (.bastore, 1) := by decide +kernel
theorem d_M_die_43 : decode (pw_cc cx_M_die) 43 = .ok (.aload_n 0, 1) := by decide +kernel
theorem d_M_die_44 : decode (pw_cc cx_M_die) 44 = .ok (.iload_n 1, 1) := by decide +kernel
theorem d_M_die_45 : decode (pw_cc cx_M_die) 45 = .ok (.invokevirtual 300, 3) := by decide +kernel
theorem d_M_die_48 : decode (pw_cc cx_M_die) 48 = .ok (.istore_n 3, 1) := by decide +kernel
theorem d_M_die_49 : decode (pw_cc cx_M_die) 49 = .ok (.iconst 0, 1) := by decide +kernel
theorem d_M_die_50 : decode (pw_cc cx_M_die) 50 = .ok (.istore 4, 2) := by decide +kernel
theorem d_M_die_52 : decode (pw_cc cx_M_die) 52 = .ok (.iload 4, 2) := by decide +kernel
theorem d_M_die_54 : decode (pw_cc cx_M_die) 54 = .ok (.aload_n 0, 1) := by decide +kernel
theorem d_M_die_55 : decode (pw_cc cx_M_die) 55 = .ok (.getfield 131, 3) := by decide +kernel
theorem d_M_die_58 : decode (pw_cc cx_M_die) 58 = .ok (.if_icmp .ge 42, 3) := by decide +kernel
theorem d_M_die_61 : decode (pw_cc cx_M_die) 61 = .ok (.aload_n 0, 1) := by decide +kernel
theorem d_M_die_62 : decode (pw_cc cx_M_die) 62 = .ok (.getfield 64, 3) := by decide +kernel
theorem d_M_die_65 : decode (pw_cc cx_M_die) 65 = .ok (.iload 4, 2) := by decide +kernel
theorem d_M_die_67 : decode (pw_cc cx_M_die) 67 = .ok (.aload_n 0, 1) := by decide +kernel
theorem d_M_die_68 : decode (pw_cc cx_M_die) 68 = .ok (.getfield 64, 3) := by decide +kernel
theorem d_M_die_71 : decode (pw_cc cx_M_die) 71 = .ok (.iload 4, 2) := by decide +kernel
theorem d_M_die_73 : decode (pw_cc cx_M_die) 73 = .ok (.baload, 1) := by decide +kernel
theorem d_M_die_74 : decode (pw_cc cx_M_die) 74 = .ok (.ifCond .ne 14, 3) := by decide +kernel
theorem d_M_die_77 : decode (pw_cc cx_M_die) 77 = .ok (.aload_n 0, 1) := by decide +kernel
theorem d_M_die_78 : decode (pw_cc cx_M_die) 78 = .ok (.getfield 55, 3) := by decide +kernel
theorem d_M_die_81 : decode (pw_cc cx_M_die) 81 = .ok (.iload 4, 2) := by decide +kernel
theorem d_M_die_83 : decode (pw_cc cx_M_die) 83 = .ok (.iaload, 1) := by decide +kernel
theorem d_M_die_84 : decode (pw_cc cx_M_die) 84 = .ok (.iload_n 1, 1) := by decide +kernel
theorem d_M_die_85 : decode (pw_cc cx_M_die) 85 = .ok (.if_icmp .ne 7, 3) := by decide +kernel
theorem d_M_die_88 : decode (pw_cc cx_M_die) 88 = .ok (.iconst 1, 1) := by decide +kernel
theorem d_M_die_89 : decode (pw_cc cx_M_die) 89 = .ok (.goto 4, 3) := by decide +kernel
theorem d_M_die_92 : decode (pw_cc cx_M_die) 92 = .ok (.iconst 0, 1) := by decide +kernel
theorem d_M_die_93 : decode (pw_cc cx_M_die) 93 = .ok (.bastore, 1) := by decide +kernel
theorem d_M_die_94 : decode (pw_cc cx_M_die) 94 = .ok (.iinc 4 1, 3) := by decide +kernel
theorem d_M_die_97 : decode (pw_cc cx_M_die) 97 = .ok (.goto (-45), 3) := by decide +kernel
theorem d_M_die_100 : decode (pw_cc cx_M_die) 100 = .ok (.iconst 0, 1) := by decide +kernel
theorem d_M_die_101 : decode (pw_cc cx_M_die) 101 = .ok (.istore 4, 2) := by decide +kernel
theorem d_M_die_103 : decode (pw_cc cx_M_die) 103 = .ok (.iload 4, 2) := by decide +kernel
theorem d_M_die_105 : decode (pw_cc cx_M_die) 105 = .ok (.aload_n 0, 1) := by decide +kernel
theorem d_M_die_106 : decode (pw_cc cx_M_die) 106 = .ok (.getfield 116, 3) := by decide +kernel
theorem d_M_die_109 : decode (pw_cc cx_M_die) 109 = .ok (.if_icmp .ge 22, 3) := by decide +kernel
theorem d_M_die_112 : decode (pw_cc cx_M_die) 112 = .ok (.aload_n 0, 1) := by decide +kernel
theorem d_M_die_113 : decode (pw_cc cx_M_die) 113 = .ok (.getfield 46, 3) := by decide +kernel
theorem d_M_die_116 : decode (pw_cc cx_M_die) 116 = .ok (.bipush 12, 2) := by decide +kernel
theorem d_M_die_118 : decode (pw_cc cx_M_die) 118 = .ok (.iload 4, 2) := by decide +kernel
theorem d_M_die_120 : decode (pw_cc cx_M_die) 120 = .ok (.imul, 1) := by decide +kernel
theorem d_M_die_121 : decode (pw_cc cx_M_die) 121 = .ok (.iload_n 1, 1) := by decide +kernel
theorem d_M_die_122 : decode (pw_cc cx_M_die) 122 = .ok (.iadd, 1) := by decide +kernel
theorem d_M_die_123 : decode (pw_cc cx_M_die) 123 = .ok (.iconst 0, 1) := by decide +kernel
theorem d_M_die_124 : decode (pw_cc cx_M_die) 124 = .ok (.iastore, 1) := by decide +kernel
theorem d_M_die_125 : decode (pw_cc cx_M_die) 125 = .ok (.iinc 4 1, 3) := by decide +kernel
theorem d_M_die_128 : decode (pw_cc cx_M_die) 128 = .ok (.goto (-25), 3) := by decide +kernel
theorem d_M_die_131 : decode (pw_cc cx_M_die) 131 = .ok (.aload_n 0, 1) := by decide +kernel
theorem d_M_die_132 : decode (pw_cc cx_M_die) 132 = .ok (.iload_n 1, 1) := by decide +kernel
theorem d_M_die_133 : decode (pw_cc cx_M_die) 133 = .ok (.invokevirtual 303, 3) := by decide +kernel
theorem d_M_die_136 : decode (pw_cc cx_M_die) 136 = .ok (.iconst 0, 1) := by decide +kernel
theorem d_M_die_137 : decode (pw_cc cx_M_die) 137 = .ok (.istore 4, 2) := by decide +kernel
theorem d_M_die_139 : decode (pw_cc cx_M_die) 139 = .ok (.iload 4, 2) := by decide +kernel
theorem d_M_die_141 : decode (pw_cc cx_M_die) 141 = .ok (.bipush 100, 2) := by decide +kernel
theorem d_M_die_143 : decode (pw_cc cx_M_die) 143 = .ok (.if_icmp .ge 38, 3) := by decide +kernel
theorem d_M_die_146 : decode (pw_cc cx_M_die) 146 = .ok (.aload_n 0, 1) := by decide +kernel
theorem d_M_die_147 : decode (pw_cc cx_M_die) 147 = .ok (.getfield 22, 3) := by decide +kernel
theorem d_M_die_150 : decode (pw_cc cx_M_die) 150 = .ok (.iload 4, 2) := by decide +kernel
theorem d_M_die_152 : decode (pw_cc cx_M_die) 152 = .ok (.aload_n 0, 1) := by decide +kernel
theorem d_M_die_153 : decode (pw_cc cx_M_die) 153 = .ok (.getfield 22, 3) := by decide +kernel
theorem d_M_die_156 : decode (pw_cc cx_M_die) 156 = .ok (.iload 4, 2) := by decide +kernel
theorem d_M_die_158 : decode (pw_cc cx_M_die) 158 = .ok (.iaload, 1) := by decide +kernel
theorem d_M_die_159 : decode (pw_cc cx_M_die) 159 = .ok (.iload_n 1, 1) := by decide +kernel
theorem d_M_die_160 : decode (pw_cc cx_M_die) 160 = .ok (.if_icmp .ne 7, 3) := by decide +kernel
theorem d_M_die_163 : decode (pw_cc cx_M_die) 163 = .ok (.iconst (-1), 1) := by decide +kernel
theorem d_M_die_164 : decode (pw_cc cx_M_die) 164 = .ok (.goto 10, 3) := by decide +kernel
theorem d_M_die_167 : decode (pw_cc cx_M_die) 167 = .ok (.aload_n 0, 1) := by decide +kernel
theorem d_M_die_168 : decode (pw_cc cx_M_die) 168 = .ok (.getfield 22, 3) := by decide +kernel
theorem d_M_die_171 : decode (pw_cc cx_M_die) 171 = .ok (.iload 4, 2) := by decide +kernel
theorem d_M_die_173 : decode (pw_cc cx_M_die) 173 = .ok (.iaload, 1) := by decide +kernel
theorem d_M_die_174 : decode (pw_cc cx_M_die) 174 = .ok (.iastore, 1) := by decide +kernel
theorem d_M_die_175 : decode (pw_cc cx_M_die) 175 = .ok (.iinc 4 1, 3) := by decide +kernel
theorem d_M_die_178 : decode (pw_cc cx_M_die) 178 = .ok (.goto (-39), 3) := by decide +kernel
theorem d_M_die_181 : decode (pw_cc cx_M_die) 181 = .ok (.iconst 0, 1) := by decide +kernel
theorem d_M_die_182 : decode (pw_cc cx_M_die) 182 = .ok (.istore 4, 2) := by decide +kernel
theorem d_M_die_184 : decode (pw_cc cx_M_die) 184 = .ok (.iload 4, 2) := by decide +kernel
theorem d_M_die_186 : decode (pw_cc cx_M_die) 186 = .ok (.aload_n 0, 1) := by decide +kernel
theorem d_M_die_187 : decode (pw_cc cx_M_die) 187 = .ok (.getfield 128, 3) := by decide +kernel
theorem d_M_die_190 : decode (pw_cc cx_M_die) 190 = .ok (.if_icmp .ge 38, 3) := by decide +kernel
theorem d_M_die_193 : decode (pw_cc cx_M_die) 193 = .ok (.aload_n 0, 1) := by decide +kernel
theorem d_M_die_194 : decode (pw_cc cx_M_die) 194 = .ok (.getfield 77, 3) := by decide +kernel
theorem d_M_die_197 : decode (pw_cc cx_M_die) 197 = .ok (.iload 4, 2) := by decide +kernel
theorem d_M_die_199 : decode (pw_cc cx_M_die) 199 = .ok (.iaload, 1) := by decide +kernel
theorem d_M_die_200 : decode (pw_cc cx_M_die) 200 = .ok (.iload_n 1, 1) := by decide +kernel
theorem d_M_die_201 : decode (pw_cc cx_M_die) 201 = .ok (.if_icmp .ne 21, 3) := by decide +kernel
theorem d_M_die_204 : decode (pw_cc cx_M_die) 204 = .ok (.aload_n 0, 1) := by decide +kernel
theorem d_M_die_205 : decode (pw_cc cx_M_die) 205 = .ok (.getfield 80, 3) := by decide +kernel
theorem d_M_die_208 : decode (pw_cc cx_M_die) 208 = .ok (.iload 4, 2) := by decide +kernel
theorem d_M_die_210 : decode (pw_cc cx_M_die) 210 = .ok (.iaload, 1) := by decide +kernel
theorem d_M_die_211 : decode (pw_cc cx_M_die) 211 = .ok (.ifCond .ne 11, 3) := by decide +kernel
theorem d_M_die_214 : decode (pw_cc cx_M_die) 214 = .ok (.aload_n 0, 1) := by decide +kernel
theorem d_M_die_215 : decode (pw_cc cx_M_die) 215 = .ok (.iload 4, 2) := by decide +kernel
theorem d_M_die_217 : decode (pw_cc cx_M_die) 217 = .ok (.invokevirtual 233, 3) := by decide +kernel
theorem d_M_die_220 : decode (pw_cc cx_M_die) 220 = .ok (.istore 5, 2) := by decide +kernel
theorem d_M_die_222 : decode (pw_cc cx_M_die) 222 = .ok (.iinc 4 1, 3) := by decide +kernel
theorem d_M_die_225 : decode (pw_cc cx_M_die) 225 = .ok (.goto (-41), 3) := by decide +kernel
theorem d_M_die_228 : decode (pw_cc cx_M_die) 228 = .ok (.iload_n 3, 1) := by decide +kernel
theorem d_M_die_229 : decode (pw_cc cx_M_die) 229 = .ok (.ireturn, 1) := by decide +kernel
set_option maxHeartbeats 4000000 in
set_option maxRecDepth 20000 in
def lp_M_die_184 (Q : pw_W → Int32 → Prop) (X : pw_W → Nat → Prop) : Nat → Int32 → Int32 → Int32 → pw_W → Prop := fun k => Nat.rec (motive := fun _ => Int32 → Int32 → Int32 → pw_W → Prop) (fun _ _ _ _ => False) (fun _ ih a1 a3 a4 w => ((w.1 8 0 38) ≤ a4 → Q w a3) ∧ (¬ (w.1 8 0 38) ≤ a4 → w.1 8 0 31 = 0 ∧ pw_jn a4 (pw_ln w 231 0) ∧ (¬ (w.1 231 0 (pw_i a4)) = a1 → ih a1 a3 (a4 + 1) w) ∧ ((w.1 231 0 (pw_i a4)) = a1 → w.1 8 0 32 = 0 ∧ pw_jn a4 (pw_ln w 232 0) ∧ (¬ (w.1 232 0 (pw_i a4)) = 0 → ih a1 a3 (a4 + 1) w) ∧ ((w.1 232 0 (pw_i a4)) = 0 → wp_M_refuses w a4 (fun w8 r9 => ih a1 a3 (a4 + 1) w8) (fun _ _ => False))))) k
set_option maxHeartbeats 4000000 in
set_option maxRecDepth 20000 in
theorem lp_M_die_184_s {Q : pw_W → Int32 → Prop} {X : pw_W → Nat → Prop}  {k : Nat} {a1 a3 a4 : Int32} {w : pw_W} : lp_M_die_184 Q X (k + 1) a1 a3 a4 w = (let ih := lp_M_die_184 Q X k; ((w.1 8 0 38) ≤ a4 → Q w a3) ∧ (¬ (w.1 8 0 38) ≤ a4 → w.1 8 0 31 = 0 ∧ pw_jn a4 (pw_ln w 231 0) ∧ (¬ (w.1 231 0 (pw_i a4)) = a1 → ih a1 a3 (a4 + 1) w) ∧ ((w.1 231 0 (pw_i a4)) = a1 → w.1 8 0 32 = 0 ∧ pw_jn a4 (pw_ln w 232 0) ∧ (¬ (w.1 232 0 (pw_i a4)) = 0 → ih a1 a3 (a4 + 1) w) ∧ ((w.1 232 0 (pw_i a4)) = 0 → wp_M_refuses w a4 (fun w8 r9 => ih a1 a3 (a4 + 1) w8) (fun _ _ => False))))) := rfl
set_option maxHeartbeats 4000000 in
set_option maxRecDepth 20000 in
theorem vlp_M_die_184 {l : Launch} {g : pw_G} {Q : pw_W → Int32 → Prop} {X : pw_W → Nat → Prop} (hl0 : l.stackTraces = false) : ∀ (k : Nat) (a1 a3 a4 : Int32) (w : pw_W), lp_M_die_184 Q X k a1 a3 a4 w → pw_V l g cx_M_die Q X 184 [(10, 0), (0, a1), (1, 0), (0, a3), (0, a4), (1, 0)] [] w := by
  intro k; induction k with
  | zero => intro _ _ _ _ h; exact h.elim
  | succ k ih =>
    intro a1 a3 a4 w h
    rw [lp_M_die_184_s] at h
    refine pv_iload (n := 186) d_M_die_184 rfl rfl ?_
    refine pv_aload_n (n := 187) d_M_die_186 rfl rfl rfl ?_
    refine gt_M_128 (n := 190) rfl d_M_die_187 (by decide) rfl ?_
    refine pv_icmp_ge (n := 193) (tgt := 228) d_M_die_190 (by decide) rfl (fun c1 => ?_) (fun c1 => ?_)
    · replace h := h.1 c1
      refine pv_iload_n (n := 229) d_M_die_228 rfl rfl rfl ?_
      exact pv_iret rfl rfl d_M_die_229 h
    · replace h := h.2 c1
      refine pv_aload_n (n := 194) d_M_die_193 rfl rfl rfl ?_
      obtain ⟨g2, h⟩ := h
      refine gt_M_77 (n := 197) rfl d_M_die_194 (by decide) g2 rfl ?_
      refine pv_iload (n := 199) d_M_die_197 rfl rfl ?_
      obtain ⟨g3, h⟩ := h
      refine pv_iald (n := 200) (f := 231) (by decide) rfl d_M_die_199 (by decide) g3 rfl ?_
      refine pv_iload_n (n := 201) d_M_die_200 rfl rfl rfl ?_
      refine pv_icmp_ne (n := 204) (tgt := 222) d_M_die_201 (by decide) rfl (fun c4 => ?_) (fun c4 => ?_)
      · replace h := h.1 c4
        refine pv_iinc (v := (a4 + 1)) (n := 225) (L1 := [(10, 0), (0, a1), (1, 0), (0, a3), (0, (a4 + 1)), (1, 0)]) d_M_die_222 rfl rfl rfl (by decide) rfl ?_
        refine pv_goto (tgt := 184) d_M_die_225 (by decide) ?_
        exact ih _ _ _ _ h
      · replace h := h.2 c4
        refine pv_aload_n (n := 205) d_M_die_204 rfl rfl rfl ?_
        obtain ⟨g5, h⟩ := h
        refine gt_M_80 (n := 208) rfl d_M_die_205 (by decide) g5 rfl ?_
        refine pv_iload (n := 210) d_M_die_208 rfl rfl ?_
        obtain ⟨g6, h⟩ := h
        refine pv_iald (n := 211) (f := 232) (by decide) rfl d_M_die_210 (by decide) g6 rfl ?_
        refine pv_if_ne (n := 214) (tgt := 222) d_M_die_211 (by decide) rfl (fun c7 => ?_) (fun c7 => ?_)
        · replace h := h.1 c7
          refine pv_iinc (v := (a4 + 1)) (n := 225) (L1 := [(10, 0), (0, a1), (1, 0), (0, a3), (0, (a4 + 1)), (1, 0)]) d_M_die_222 rfl rfl rfl (by decide) rfl ?_
          refine pv_goto (tgt := 184) d_M_die_225 (by decide) ?_
          exact ih _ _ _ _ h
        · replace h := h.2 c7
          refine pv_aload_n (n := 215) d_M_die_214 rfl rfl rfl ?_
          refine pv_iload (n := 217) d_M_die_215 rfl rfl ?_
          refine pv_callV (n := 220) (x := 0) [(0, a4)] [] (con_M_refuses hl0 h) pw_cf8 rfl q_565 q_566 q_567 q_458 q_564 pyo_M_refuses (by decide) rfl rfl (by decide) d_M_die_217 rfl (fun w8 r9 h _ => ?_) (fun _ _ h => h.elim)
          show pw_V l g cx_M_die Q X 220 [(10, 0), (0, a1), (1, 0), (0, a3), (0, a4), (1, 0)] [(0, r9)] w8
          refine pv_istore (n := 222) (L' := [(10, 0), (0, a1), (1, 0), (0, a3), (0, a4), (0, r9)]) d_M_die_220 (by decide) rfl rfl ?_
          refine pv_iinc (v := (a4 + 1)) (n := 225) (L1 := [(10, 0), (0, a1), (1, 0), (0, a3), (0, (a4 + 1)), (0, r9)]) d_M_die_222 rfl rfl rfl (by decide) rfl ?_
          refine pv_goto (tgt := 184) d_M_die_225 (by decide) ?_
          refine pv_unset (i := 5) (L1 := [(10, 0), (0, a1), (1, 0), (0, a3), (0, (a4 + 1)), (1, 0)]) rfl ?_
          exact ih _ _ _ _ h
set_option maxHeartbeats 4000000 in
set_option maxRecDepth 20000 in
def jp_M_die_174 (Q : pw_W → Int32 → Prop) (X : pw_W → Nat → Prop) (K139 : Int32 → Int32 → Int32 → pw_W → Prop) (a1 a3 a4 s0 s1 : Int32) (w : pw_W) : Prop := pw_jn s1 (pw_ln w 210 0) ∧ ∀ w11, w11 = pw_ps w 210 0 (pw_i s1) s0 → K139 a1 a3 (a4 + 1) w11
set_option maxHeartbeats 4000000 in
set_option maxRecDepth 20000 in
theorem vjp_M_die_174 {l : Launch} {g : pw_G} {Q : pw_W → Int32 → Prop} {X : pw_W → Nat → Prop} (hl0 : l.stackTraces = false) {K139 : Int32 → Int32 → Int32 → pw_W → Prop} (hK139 : ∀ (a1 a3 a4 : Int32) (w : pw_W), K139 a1 a3 a4 w → pw_V l g cx_M_die Q X 139 [(10, 0), (0, a1), (1, 0), (0, a3), (0, a4), (1, 0)] [] w) (a1 a3 a4 s0 s1 : Int32) (w : pw_W) (h : jp_M_die_174 Q X K139 a1 a3 a4 s0 s1 w) : pw_V l g cx_M_die Q X 174 [(10, 0), (0, a1), (1, 0), (0, a3), (0, a4), (1, 0)] [(0, s0), (0, s1), (212, 0)] w := by
  unfold jp_M_die_174 at h
  obtain ⟨g10, h⟩ := h
  refine pv_iast1 (n := 175) (f := 210) (by decide) rfl (fun _ => rfl) d_M_die_174 (by decide) g10 rfl (fun w11 e12 => ?_)
  replace h := h w11 e12
  refine pv_iinc (v := (a4 + 1)) (n := 178) (L1 := [(10, 0), (0, a1), (1, 0), (0, a3), (0, (a4 + 1)), (1, 0)]) d_M_die_175 rfl rfl rfl (by decide) rfl ?_
  refine pv_goto (tgt := 139) d_M_die_178 (by decide) ?_
  exact hK139 _ _ _ _ h
set_option maxHeartbeats 4000000 in
set_option maxRecDepth 20000 in
def lp_M_die_139 (Q : pw_W → Int32 → Prop) (X : pw_W → Nat → Prop) : Nat → Int32 → Int32 → Int32 → pw_W → Prop := fun k => Nat.rec (motive := fun _ => Int32 → Int32 → Int32 → pw_W → Prop) (fun _ _ _ _ => False) (fun _ ih a1 a3 a4 w => ((100 : Int32) ≤ a4 → ∃ k14, lp_M_die_184 Q X k14 a1 a3 0 w) ∧ (¬ (100 : Int32) ≤ a4 → w.1 8 0 10 = 0 ∧ w.1 8 0 10 = 0 ∧ pw_jn a4 (pw_ln w 210 0) ∧ (¬ (w.1 210 0 (pw_i a4)) = a1 → w.1 8 0 10 = 0 ∧ pw_jn a4 (pw_ln w 210 0) ∧ jp_M_die_174 Q X ih a1 a3 a4 (w.1 210 0 (pw_i a4)) a4 w) ∧ ((w.1 210 0 (pw_i a4)) = a1 → jp_M_die_174 Q X ih a1 a3 a4 (-1) a4 w))) k
set_option maxHeartbeats 4000000 in
set_option maxRecDepth 20000 in
theorem lp_M_die_139_s {Q : pw_W → Int32 → Prop} {X : pw_W → Nat → Prop}  {k : Nat} {a1 a3 a4 : Int32} {w : pw_W} : lp_M_die_139 Q X (k + 1) a1 a3 a4 w = (let ih := lp_M_die_139 Q X k; ((100 : Int32) ≤ a4 → ∃ k14, lp_M_die_184 Q X k14 a1 a3 0 w) ∧ (¬ (100 : Int32) ≤ a4 → w.1 8 0 10 = 0 ∧ w.1 8 0 10 = 0 ∧ pw_jn a4 (pw_ln w 210 0) ∧ (¬ (w.1 210 0 (pw_i a4)) = a1 → w.1 8 0 10 = 0 ∧ pw_jn a4 (pw_ln w 210 0) ∧ jp_M_die_174 Q X ih a1 a3 a4 (w.1 210 0 (pw_i a4)) a4 w) ∧ ((w.1 210 0 (pw_i a4)) = a1 → jp_M_die_174 Q X ih a1 a3 a4 (-1) a4 w))) := rfl
set_option maxHeartbeats 4000000 in
set_option maxRecDepth 20000 in
theorem vlp_M_die_139 {l : Launch} {g : pw_G} {Q : pw_W → Int32 → Prop} {X : pw_W → Nat → Prop} (hl0 : l.stackTraces = false) : ∀ (k : Nat) (a1 a3 a4 : Int32) (w : pw_W), lp_M_die_139 Q X k a1 a3 a4 w → pw_V l g cx_M_die Q X 139 [(10, 0), (0, a1), (1, 0), (0, a3), (0, a4), (1, 0)] [] w := by
  intro k; induction k with
  | zero => intro _ _ _ _ h; exact h.elim
  | succ k ih =>
    intro a1 a3 a4 w h
    rw [lp_M_die_139_s] at h
    refine pv_iload (n := 141) d_M_die_139 rfl rfl ?_
    refine pv_bipush (v := 100) (n := 143) d_M_die_141 (by decide) rfl ?_
    refine pv_icmp_ge (n := 146) (tgt := 181) d_M_die_143 (by decide) rfl (fun c13 => ?_) (fun c13 => ?_)
    · replace h := h.1 c13
      refine pv_iconst (v := 0) (n := 182) d_M_die_181 (by decide) rfl ?_
      refine pv_istore (n := 184) (L' := [(10, 0), (0, a1), (1, 0), (0, a3), (0, 0), (1, 0)]) d_M_die_182 (by decide) rfl rfl ?_
      obtain ⟨k14, h⟩ := h
      exact vlp_M_die_184 hl0 _ _ _ _ _ h
    · replace h := h.2 c13
      refine pv_aload_n (n := 147) d_M_die_146 rfl rfl rfl ?_
      obtain ⟨g15, h⟩ := h
      refine gt_M_22 (n := 150) rfl d_M_die_147 (by decide) g15 rfl ?_
      refine pv_iload (n := 152) d_M_die_150 rfl rfl ?_
      refine pv_aload_n (n := 153) d_M_die_152 rfl rfl rfl ?_
      obtain ⟨g16, h⟩ := h
      refine gt_M_22 (n := 156) rfl d_M_die_153 (by decide) g16 rfl ?_
      refine pv_iload (n := 158) d_M_die_156 rfl rfl ?_
      obtain ⟨g17, h⟩ := h
      refine pv_iald (n := 159) (f := 210) (by decide) rfl d_M_die_158 (by decide) g17 rfl ?_
      refine pv_iload_n (n := 160) d_M_die_159 rfl rfl rfl ?_
      refine pv_icmp_ne (n := 163) (tgt := 167) d_M_die_160 (by decide) rfl (fun c18 => ?_) (fun c18 => ?_)
      · replace h := h.1 c18
        refine pv_aload_n (n := 168) d_M_die_167 rfl rfl rfl ?_
        obtain ⟨g19, h⟩ := h
        refine gt_M_22 (n := 171) rfl d_M_die_168 (by decide) g19 rfl ?_
        refine pv_iload (n := 173) d_M_die_171 rfl rfl ?_
        obtain ⟨g20, h⟩ := h
        refine pv_iald (n := 174) (f := 210) (by decide) rfl d_M_die_173 (by decide) g20 rfl ?_
        exact vjp_M_die_174 hl0 (by intros; exact ih _ _ _ _ (by assumption)) _ _ _ _ _ _ h
      · replace h := h.2 c18
        refine pv_iconst (v := -1) (n := 164) d_M_die_163 (by decide) rfl ?_
        refine pv_goto (tgt := 174) d_M_die_164 (by decide) ?_
        exact vjp_M_die_174 hl0 (by intros; exact ih _ _ _ _ (by assumption)) _ _ _ _ _ _ h
set_option maxHeartbeats 4000000 in
set_option maxRecDepth 20000 in
def lp_M_die_103 (Q : pw_W → Int32 → Prop) (X : pw_W → Nat → Prop) : Nat → Int32 → Int32 → Int32 → pw_W → Prop := fun k => Nat.rec (motive := fun _ => Int32 → Int32 → Int32 → pw_W → Prop) (fun _ _ _ _ => False) (fun _ ih a1 a3 a4 w => ((w.1 8 0 18) ≤ a4 → wp_M_endsMaps w a1 (fun w22 r23 => ∃ k24, lp_M_die_139 Q X k24 a1 a3 0 w22) (fun _ _ => False)) ∧ (¬ (w.1 8 0 18) ≤ a4 → w.1 8 0 19 = 0 ∧ pw_jn (((12 : Int32) * a4) + a1) (pw_ln w 219 0) ∧ ∀ w27, w27 = pw_ps w 219 0 (pw_i (((12 : Int32) * a4) + a1)) 0 → ih a1 a3 (a4 + 1) w27)) k
set_option maxHeartbeats 4000000 in
set_option maxRecDepth 20000 in
theorem lp_M_die_103_s {Q : pw_W → Int32 → Prop} {X : pw_W → Nat → Prop}  {k : Nat} {a1 a3 a4 : Int32} {w : pw_W} : lp_M_die_103 Q X (k + 1) a1 a3 a4 w = (let ih := lp_M_die_103 Q X k; ((w.1 8 0 18) ≤ a4 → wp_M_endsMaps w a1 (fun w22 r23 => ∃ k24, lp_M_die_139 Q X k24 a1 a3 0 w22) (fun _ _ => False)) ∧ (¬ (w.1 8 0 18) ≤ a4 → w.1 8 0 19 = 0 ∧ pw_jn (((12 : Int32) * a4) + a1) (pw_ln w 219 0) ∧ ∀ w27, w27 = pw_ps w 219 0 (pw_i (((12 : Int32) * a4) + a1)) 0 → ih a1 a3 (a4 + 1) w27)) := rfl
set_option maxHeartbeats 4000000 in
set_option maxRecDepth 20000 in
theorem vlp_M_die_103 {l : Launch} {g : pw_G} {Q : pw_W → Int32 → Prop} {X : pw_W → Nat → Prop} (hl0 : l.stackTraces = false) : ∀ (k : Nat) (a1 a3 a4 : Int32) (w : pw_W), lp_M_die_103 Q X k a1 a3 a4 w → pw_V l g cx_M_die Q X 103 [(10, 0), (0, a1), (1, 0), (0, a3), (0, a4), (1, 0)] [] w := by
  intro k; induction k with
  | zero => intro _ _ _ _ h; exact h.elim
  | succ k ih =>
    intro a1 a3 a4 w h
    rw [lp_M_die_103_s] at h
    refine pv_iload (n := 105) d_M_die_103 rfl rfl ?_
    refine pv_aload_n (n := 106) d_M_die_105 rfl rfl rfl ?_
    refine gt_M_116 (n := 109) rfl d_M_die_106 (by decide) rfl ?_
    refine pv_icmp_ge (n := 112) (tgt := 131) d_M_die_109 (by decide) rfl (fun c21 => ?_) (fun c21 => ?_)
    · replace h := h.1 c21
      refine pv_aload_n (n := 132) d_M_die_131 rfl rfl rfl ?_
      refine pv_iload_n (n := 133) d_M_die_132 rfl rfl rfl ?_
      refine pv_callV (n := 136) (x := 0) [(0, a1)] [] (con_M_endsMaps hl0 h) pw_cf8 rfl q_645 q_646 q_647 q_458 q_644 pyo_M_endsMaps (by decide) rfl rfl (by decide) d_M_die_133 rfl (fun w22 r23 h _ => ?_) (fun _ _ h => h.elim)
      show pw_V l g cx_M_die Q X 136 [(10, 0), (0, a1), (1, 0), (0, a3), (0, a4), (1, 0)] [] w22
      refine pv_iconst (v := 0) (n := 137) d_M_die_136 (by decide) rfl ?_
      refine pv_istore (n := 139) (L' := [(10, 0), (0, a1), (1, 0), (0, a3), (0, 0), (1, 0)]) d_M_die_137 (by decide) rfl rfl ?_
      obtain ⟨k24, h⟩ := h
      exact vlp_M_die_139 hl0 _ _ _ _ _ h
    · replace h := h.2 c21
      refine pv_aload_n (n := 113) d_M_die_112 rfl rfl rfl ?_
      obtain ⟨g25, h⟩ := h
      refine gt_M_46 (n := 116) rfl d_M_die_113 (by decide) g25 rfl ?_
      refine pv_bipush (v := 12) (n := 118) d_M_die_116 (by decide) rfl ?_
      refine pv_iload (n := 120) d_M_die_118 rfl rfl ?_
      refine pv_imul (n := 121) d_M_die_120 rfl ?_
      refine pv_iload_n (n := 122) d_M_die_121 rfl rfl rfl ?_
      refine pv_iadd (n := 123) d_M_die_122 rfl ?_
      refine pv_iconst (v := 0) (n := 124) d_M_die_123 (by decide) rfl ?_
      obtain ⟨g26, h⟩ := h
      refine pv_iast1 (n := 125) (f := 219) (by decide) rfl (fun _ => rfl) d_M_die_124 (by decide) g26 rfl (fun w27 e28 => ?_)
      replace h := h w27 e28
      refine pv_iinc (v := (a4 + 1)) (n := 128) (L1 := [(10, 0), (0, a1), (1, 0), (0, a3), (0, (a4 + 1)), (1, 0)]) d_M_die_125 rfl rfl rfl (by decide) rfl ?_
      refine pv_goto (tgt := 103) d_M_die_128 (by decide) ?_
      exact ih _ _ _ _ h
set_option maxHeartbeats 4000000 in
set_option maxRecDepth 20000 in
def jp_M_die_93 (Q : pw_W → Int32 → Prop) (X : pw_W → Nat → Prop) (K52 : Int32 → Int32 → Int32 → pw_W → Prop) (a1 a3 a4 s0 s1 : Int32) (w : pw_W) : Prop := pw_jn s1 (pw_ln w 225 0) ∧ (s0 = 0 ∨ s0 = 1) ∧ ∀ w31, w31 = pw_ps w 225 0 (pw_i s1) s0 → K52 a1 a3 (a4 + 1) w31
set_option maxHeartbeats 4000000 in
set_option maxRecDepth 20000 in
theorem vjp_M_die_93 {l : Launch} {g : pw_G} {Q : pw_W → Int32 → Prop} {X : pw_W → Nat → Prop} (hl0 : l.stackTraces = false) {K52 : Int32 → Int32 → Int32 → pw_W → Prop} (hK52 : ∀ (a1 a3 a4 : Int32) (w : pw_W), K52 a1 a3 a4 w → pw_V l g cx_M_die Q X 52 [(10, 0), (0, a1), (1, 0), (0, a3), (0, a4), (1, 0)] [] w) (a1 a3 a4 s0 s1 : Int32) (w : pw_W) (h : jp_M_die_93 Q X K52 a1 a3 a4 s0 s1 w) : pw_V l g cx_M_die Q X 93 [(10, 0), (0, a1), (1, 0), (0, a3), (0, a4), (1, 0)] [(0, s0), (0, s1), (227, 0)] w := by
  unfold jp_M_die_93 at h
  obtain ⟨g29, h⟩ := h
  obtain ⟨g30, h⟩ := h
  refine pv_zast1 (n := 94) (f := 225) (by decide) rfl (fun _ => rfl) d_M_die_93 (by decide) g29 g30 rfl (fun w31 e32 => ?_)
  replace h := h w31 e32
  refine pv_iinc (v := (a4 + 1)) (n := 97) (L1 := [(10, 0), (0, a1), (1, 0), (0, a3), (0, (a4 + 1)), (1, 0)]) d_M_die_94 rfl rfl rfl (by decide) rfl ?_
  refine pv_goto (tgt := 52) d_M_die_97 (by decide) ?_
  exact hK52 _ _ _ _ h
set_option maxHeartbeats 4000000 in
set_option maxRecDepth 20000 in
def jp_M_die_88 (Q : pw_W → Int32 → Prop) (X : pw_W → Nat → Prop) (K52 : Int32 → Int32 → Int32 → pw_W → Prop) (a1 a3 a4 s0 : Int32) (w : pw_W) : Prop := jp_M_die_93 Q X K52 a1 a3 a4 1 s0 w
set_option maxHeartbeats 4000000 in
set_option maxRecDepth 20000 in
theorem vjp_M_die_88 {l : Launch} {g : pw_G} {Q : pw_W → Int32 → Prop} {X : pw_W → Nat → Prop} (hl0 : l.stackTraces = false) {K52 : Int32 → Int32 → Int32 → pw_W → Prop} (hK52 : ∀ (a1 a3 a4 : Int32) (w : pw_W), K52 a1 a3 a4 w → pw_V l g cx_M_die Q X 52 [(10, 0), (0, a1), (1, 0), (0, a3), (0, a4), (1, 0)] [] w) (a1 a3 a4 s0 : Int32) (w : pw_W) (h : jp_M_die_88 Q X K52 a1 a3 a4 s0 w) : pw_V l g cx_M_die Q X 88 [(10, 0), (0, a1), (1, 0), (0, a3), (0, a4), (1, 0)] [(0, s0), (227, 0)] w := by
  unfold jp_M_die_88 at h
  refine pv_iconst (v := 1) (n := 89) d_M_die_88 (by decide) rfl ?_
  refine pv_goto (tgt := 93) d_M_die_89 (by decide) ?_
  exact vjp_M_die_93 hl0 (by intros; exact hK52 _ _ _ _ (by assumption)) _ _ _ _ _ _ h
set_option maxHeartbeats 4000000 in
set_option maxRecDepth 20000 in
def lp_M_die_52 (Q : pw_W → Int32 → Prop) (X : pw_W → Nat → Prop) : Nat → Int32 → Int32 → Int32 → pw_W → Prop := fun k => Nat.rec (motive := fun _ => Int32 → Int32 → Int32 → pw_W → Prop) (fun _ _ _ _ => False) (fun _ ih a1 a3 a4 w => ((w.1 8 0 26) ≤ a4 → ∃ k34, lp_M_die_103 Q X k34 a1 a3 0 w) ∧ (¬ (w.1 8 0 26) ≤ a4 → w.1 8 0 25 = 0 ∧ w.1 8 0 25 = 0 ∧ pw_jn a4 (pw_ln w 225 0) ∧ (¬ (w.1 225 0 (pw_i a4)) = 0 → jp_M_die_88 Q X ih a1 a3 a4 a4 w) ∧ ((w.1 225 0 (pw_i a4)) = 0 → w.1 8 0 22 = 0 ∧ pw_jn a4 (pw_ln w 222 0) ∧ (¬ (w.1 222 0 (pw_i a4)) = a1 → jp_M_die_93 Q X ih a1 a3 a4 0 a4 w) ∧ ((w.1 222 0 (pw_i a4)) = a1 → jp_M_die_88 Q X ih a1 a3 a4 a4 w)))) k
set_option maxHeartbeats 4000000 in
set_option maxRecDepth 20000 in
theorem lp_M_die_52_s {Q : pw_W → Int32 → Prop} {X : pw_W → Nat → Prop}  {k : Nat} {a1 a3 a4 : Int32} {w : pw_W} : lp_M_die_52 Q X (k + 1) a1 a3 a4 w = (let ih := lp_M_die_52 Q X k; ((w.1 8 0 26) ≤ a4 → ∃ k34, lp_M_die_103 Q X k34 a1 a3 0 w) ∧ (¬ (w.1 8 0 26) ≤ a4 → w.1 8 0 25 = 0 ∧ w.1 8 0 25 = 0 ∧ pw_jn a4 (pw_ln w 225 0) ∧ (¬ (w.1 225 0 (pw_i a4)) = 0 → jp_M_die_88 Q X ih a1 a3 a4 a4 w) ∧ ((w.1 225 0 (pw_i a4)) = 0 → w.1 8 0 22 = 0 ∧ pw_jn a4 (pw_ln w 222 0) ∧ (¬ (w.1 222 0 (pw_i a4)) = a1 → jp_M_die_93 Q X ih a1 a3 a4 0 a4 w) ∧ ((w.1 222 0 (pw_i a4)) = a1 → jp_M_die_88 Q X ih a1 a3 a4 a4 w)))) := rfl
set_option maxHeartbeats 4000000 in
set_option maxRecDepth 20000 in
theorem vlp_M_die_52 {l : Launch} {g : pw_G} {Q : pw_W → Int32 → Prop} {X : pw_W → Nat → Prop} (hl0 : l.stackTraces = false) : ∀ (k : Nat) (a1 a3 a4 : Int32) (w : pw_W), lp_M_die_52 Q X k a1 a3 a4 w → pw_V l g cx_M_die Q X 52 [(10, 0), (0, a1), (1, 0), (0, a3), (0, a4), (1, 0)] [] w := by
  intro k; induction k with
  | zero => intro _ _ _ _ h; exact h.elim
  | succ k ih =>
    intro a1 a3 a4 w h
    rw [lp_M_die_52_s] at h
    refine pv_iload (n := 54) d_M_die_52 rfl rfl ?_
    refine pv_aload_n (n := 55) d_M_die_54 rfl rfl rfl ?_
    refine gt_M_131 (n := 58) rfl d_M_die_55 (by decide) rfl ?_
    refine pv_icmp_ge (n := 61) (tgt := 100) d_M_die_58 (by decide) rfl (fun c33 => ?_) (fun c33 => ?_)
    · replace h := h.1 c33
      refine pv_iconst (v := 0) (n := 101) d_M_die_100 (by decide) rfl ?_
      refine pv_istore (n := 103) (L' := [(10, 0), (0, a1), (1, 0), (0, a3), (0, 0), (1, 0)]) d_M_die_101 (by decide) rfl rfl ?_
      obtain ⟨k34, h⟩ := h
      exact vlp_M_die_103 hl0 _ _ _ _ _ h
    · replace h := h.2 c33
      refine pv_aload_n (n := 62) d_M_die_61 rfl rfl rfl ?_
      obtain ⟨g35, h⟩ := h
      refine gt_M_64 (n := 65) rfl d_M_die_62 (by decide) g35 rfl ?_
      refine pv_iload (n := 67) d_M_die_65 rfl rfl ?_
      refine pv_aload_n (n := 68) d_M_die_67 rfl rfl rfl ?_
      obtain ⟨g36, h⟩ := h
      refine gt_M_64 (n := 71) rfl d_M_die_68 (by decide) g36 rfl ?_
      refine pv_iload (n := 73) d_M_die_71 rfl rfl ?_
      obtain ⟨g37, h⟩ := h
      refine pv_zald (n := 74) (f := 225) (by decide) rfl d_M_die_73 (by decide) g37 rfl ?_
      refine pv_if_ne (n := 77) (tgt := 88) d_M_die_74 (by decide) rfl (fun c38 => ?_) (fun c38 => ?_)
      · replace h := h.1 c38
        exact vjp_M_die_88 hl0 (by intros; exact ih _ _ _ _ (by assumption)) _ _ _ _ _ h
      · replace h := h.2 c38
        refine pv_aload_n (n := 78) d_M_die_77 rfl rfl rfl ?_
        obtain ⟨g39, h⟩ := h
        refine gt_M_55 (n := 81) rfl d_M_die_78 (by decide) g39 rfl ?_
        refine pv_iload (n := 83) d_M_die_81 rfl rfl ?_
        obtain ⟨g40, h⟩ := h
        refine pv_iald (n := 84) (f := 222) (by decide) rfl d_M_die_83 (by decide) g40 rfl ?_
        refine pv_iload_n (n := 85) d_M_die_84 rfl rfl rfl ?_
        refine pv_icmp_ne (n := 88) (tgt := 92) d_M_die_85 (by decide) rfl (fun c41 => ?_) (fun c41 => ?_)
        · replace h := h.1 c41
          refine pv_iconst (v := 0) (n := 93) d_M_die_92 (by decide) rfl ?_
          exact vjp_M_die_93 hl0 (by intros; exact ih _ _ _ _ (by assumption)) _ _ _ _ _ _ h
        · replace h := h.2 c41
          exact vjp_M_die_88 hl0 (by intros; exact ih _ _ _ _ (by assumption)) _ _ _ _ _ h
set_option maxHeartbeats 4000000 in
set_option maxRecDepth 20000 in
def jp_M_die_28 (Q : pw_W → Int32 → Prop) (X : pw_W → Nat → Prop) (a1 s0 : Int32) (w : pw_W) : Prop := wp_M_isFine w s0 (fun w42 r43 => (¬ r43 = 0 → w42.1 8 0 42 = 0 ∧ pw_jn a1 (pw_ln w42 242 0) ∧ ∀ w47, w47 = pw_ps w42 242 0 (pw_i a1) 1 → wp_M_inherits w47 a1 (fun w49 r50 => ∃ k51, lp_M_die_52 Q X k51 a1 r50 0 w49) (fun _ _ => False)) ∧ (r43 = 0 → Q w42 0)) (fun _ _ => False)
set_option maxHeartbeats 4000000 in
set_option maxRecDepth 20000 in
theorem vjp_M_die_28 {l : Launch} {g : pw_G} {Q : pw_W → Int32 → Prop} {X : pw_W → Nat → Prop} (hl0 : l.stackTraces = false) (a1 s0 : Int32) (w : pw_W) (h : jp_M_die_28 Q X a1 s0 w) : pw_V l g cx_M_die Q X 28 [(10, 0), (0, a1), (1, 0), (1, 0), (1, 0), (1, 0)] [(0, s0), (10, 0)] w := by
  unfold jp_M_die_28 at h
  refine pv_callV (n := 31) (x := 0) [(0, s0)] [] (con_M_isFine hl0 h) pw_cf8 rfl q_506 q_507 q_508 q_458 q_505 pyo_M_isFine (by decide) rfl rfl (by decide) d_M_die_28 rfl (fun w42 r43 h _ => ?_) (fun _ _ h => h.elim)
  show pw_V l g cx_M_die Q X 31 [(10, 0), (0, a1), (1, 0), (1, 0), (1, 0), (1, 0)] [(0, r43)] w42
  refine pv_if_ne (n := 34) (tgt := 36) d_M_die_31 (by decide) rfl (fun c44 => ?_) (fun c44 => ?_)
  · replace h := h.1 c44
    refine pv_aload_n (n := 37) d_M_die_36 rfl rfl rfl ?_
    obtain ⟨g45, h⟩ := h
    refine gt_M_104 (n := 40) rfl d_M_die_37 (by decide) g45 rfl ?_
    refine pv_iload_n (n := 41) d_M_die_40 rfl rfl rfl ?_
    refine pv_iconst (v := 1) (n := 42) d_M_die_41 (by decide) rfl ?_
    obtain ⟨g46, h⟩ := h
    refine pv_zast1 (n := 43) (f := 242) (by decide) rfl (fun _ => rfl) d_M_die_42 (by decide) g46 (by decide) rfl (fun w47 e48 => ?_)
    replace h := h w47 e48
    refine pv_aload_n (n := 44) d_M_die_43 rfl rfl rfl ?_
    refine pv_iload_n (n := 45) d_M_die_44 rfl rfl rfl ?_
    refine pv_callV (n := 48) (x := 0) [(0, a1)] [] (con_M_inherits hl0 h) pw_cf8 rfl q_649 q_650 q_651 q_458 q_648 pyo_M_inherits (by decide) rfl rfl (by decide) d_M_die_45 rfl (fun w49 r50 h _ => ?_) (fun _ _ h => h.elim)
    show pw_V l g cx_M_die Q X 48 [(10, 0), (0, a1), (1, 0), (1, 0), (1, 0), (1, 0)] [(0, r50)] w49
    refine pv_istore_n (n := 49) (L' := [(10, 0), (0, a1), (1, 0), (0, r50), (1, 0), (1, 0)]) d_M_die_48 rfl (by decide) rfl rfl ?_
    refine pv_iconst (v := 0) (n := 50) d_M_die_49 (by decide) rfl ?_
    refine pv_istore (n := 52) (L' := [(10, 0), (0, a1), (1, 0), (0, r50), (0, 0), (1, 0)]) d_M_die_50 (by decide) rfl rfl ?_
    obtain ⟨k51, h⟩ := h
    exact vlp_M_die_52 hl0 _ _ _ _ _ h
  · replace h := h.2 c44
    refine pv_iconst (v := 0) (n := 35) d_M_die_34 (by decide) rfl ?_
    exact pv_iret rfl rfl d_M_die_35 h
set_option maxHeartbeats 4000000 in
set_option maxRecDepth 20000 in
def wp_M_die (w : pw_W) (a1 : Int32) (Q : pw_W → Int32 → Prop) (X : pw_W → Nat → Prop) : Prop := wp_M_isPerson w a1 (fun w52 r53 => (¬ r53 = 0 → w52.1 8 0 42 = 0 ∧ pw_jn a1 (pw_ln w52 242 0) ∧ ((w52.1 242 0 (pw_i a1)) = 0 → jp_M_die_28 Q X a1 0 w52) ∧ (¬ (w52.1 242 0 (pw_i a1)) = 0 → jp_M_die_28 Q X a1 2 w52)) ∧ (r53 = 0 → jp_M_die_28 Q X a1 1 w52)) (fun _ _ => False)
set_option maxHeartbeats 4000000 in
set_option maxRecDepth 20000 in
theorem vw_M_die {l : Launch} {g : pw_G} {Q : pw_W → Int32 → Prop} {X : pw_W → Nat → Prop} (hl0 : l.stackTraces = false) {w : pw_W} {a1 : Int32} (h : wp_M_die w a1 Q X) : pw_V l g cx_M_die Q X 0 [(10, 0), (0, a1), (1, 0), (1, 0), (1, 0), (1, 0)] [] w := by
  unfold wp_M_die at h
  refine pv_iload_n (n := 1) d_M_die_0 rfl rfl rfl ?_
  refine pv_callS (n := 4) [(0, a1)] [] (con_M_isPerson hl0 h) q_517 q_518 q_458 q_516 pyo_M_isPerson (by decide) rfl rfl d_M_die_1 rfl (fun w52 r53 h _ => ?_) (fun _ _ h => h.elim)
  show pw_V l g cx_M_die Q X 4 [(10, 0), (0, a1), (1, 0), (1, 0), (1, 0), (1, 0)] [(0, r53)] w52
  refine pv_istore_n (n := 5) (L' := [(10, 0), (0, a1), (0, r53), (1, 0), (1, 0), (1, 0)]) d_M_die_4 rfl (by decide) rfl rfl ?_
  refine pv_aload_n (n := 6) d_M_die_5 rfl rfl rfl ?_
  refine pv_iload_n (n := 7) d_M_die_6 rfl rfl rfl ?_
  refine pv_if_ne (n := 10) (tgt := 14) d_M_die_7 (by decide) rfl (fun c54 => ?_) (fun c54 => ?_)
  · replace h := h.1 c54
    refine pv_aload_n (n := 15) d_M_die_14 rfl rfl rfl ?_
    obtain ⟨g55, h⟩ := h
    refine gt_M_104 (n := 18) rfl d_M_die_15 (by decide) g55 rfl ?_
    refine pv_iload_n (n := 19) d_M_die_18 rfl rfl rfl ?_
    obtain ⟨g56, h⟩ := h
    refine pv_zald (n := 20) (f := 242) (by decide) rfl d_M_die_19 (by decide) g56 rfl ?_
    refine pv_if_eq (n := 23) (tgt := 27) d_M_die_20 (by decide) rfl (fun c57 => ?_) (fun c57 => ?_)
    · replace h := h.1 c57
      refine pv_iconst (v := 0) (n := 28) d_M_die_27 (by decide) rfl ?_
      refine pv_unset (i := 2) (L1 := [(10, 0), (0, a1), (1, 0), (1, 0), (1, 0), (1, 0)]) rfl ?_
      exact vjp_M_die_28 hl0 _ _ _ h
    · replace h := h.2 c57
      refine pv_iconst (v := 2) (n := 24) d_M_die_23 (by decide) rfl ?_
      refine pv_goto (tgt := 28) d_M_die_24 (by decide) ?_
      refine pv_unset (i := 2) (L1 := [(10, 0), (0, a1), (1, 0), (1, 0), (1, 0), (1, 0)]) rfl ?_
      exact vjp_M_die_28 hl0 _ _ _ h
  · replace h := h.2 c54
    refine pv_iconst (v := 1) (n := 11) d_M_die_10 (by decide) rfl ?_
    refine pv_goto (tgt := 28) d_M_die_11 (by decide) ?_
    refine pv_unset (i := 2) (L1 := [(10, 0), (0, a1), (1, 0), (1, 0), (1, 0), (1, 0)]) rfl ?_
    exact vjp_M_die_28 hl0 _ _ _ h
set_option maxHeartbeats 4000000 in
set_option maxRecDepth 20000 in
theorem con_M_die {l : Launch} {g : pw_G} {Q : pw_W → Int32 → Prop} {X : pw_W → Nat → Prop} (hl0 : l.stackTraces = false) {w : pw_W} {a1 : Int32} (h : wp_M_die w a1 Q X) : pw_Con l g y_M_die cx_M_die [(10, 0), (0, a1)] w Q X :=
  pw_con (by decide +kernel) rfl rfl hl0 rfl (Nat.le_of_ble_eq_true rfl) (by simp) (vw_M_die hl0 h)
theorem d_M_today_0 : decode (pw_cc cx_M_today) 0 = .ok (.aload_n 0, 1) := by decide +kernel
theorem d_M_today_1 : decode (pw_cc cx_M_today) 1 = .ok (.iconst 0, 1) := by decide +kernel
theorem d_M_today_2 : decode (pw_cc cx_M_today) 2 = .ok (.putfield 121, 3) := by decide +kernel
theorem d_M_today_5 : decode (pw_cc cx_M_today) 5 = .ok (.aload_n 0, 1) := by decide +kernel
theorem d_M_today_6 : decode (pw_cc cx_M_today) 6 = .ok (.getfield 204, 3) := by decide +kernel
theorem d_M_today_9 : decode (pw_cc cx_M_today) 9 = .ok (.ireturn, 1) := by decide +kernel
set_option maxHeartbeats 4000000 in
set_option maxRecDepth 20000 in
def wp_M_today (w : pw_W) (Q : pw_W → Int32 → Prop) (X : pw_W → Nat → Prop) : Prop := ∀ w1, w1 = pw_ps w 8 0 0 0 → Q w1 (w1.1 8 0 1)
set_option maxHeartbeats 4000000 in
set_option maxRecDepth 20000 in
theorem vw_M_today {l : Launch} {g : pw_G} {Q : pw_W → Int32 → Prop} {X : pw_W → Nat → Prop} (hl0 : l.stackTraces = false) {w : pw_W} (h : wp_M_today w Q X) : pw_V l g cx_M_today Q X 0 [(10, 0)] [] w := by
  unfold wp_M_today at h
  refine pv_aload_n (n := 1) d_M_today_0 rfl rfl rfl ?_
  refine pv_iconst (v := 0) (n := 2) d_M_today_1 (by decide) rfl ?_
  refine pt_M_121 (n := 5) rfl d_M_today_2 (by decide) rfl (fun w1 e2 => ?_)
  replace h := h w1 e2
  refine pv_aload_n (n := 6) d_M_today_5 rfl rfl rfl ?_
  refine gt_M_204 (n := 9) rfl d_M_today_6 (by decide) rfl ?_
  exact pv_iret rfl rfl d_M_today_9 h
set_option maxHeartbeats 4000000 in
set_option maxRecDepth 20000 in
theorem con_M_today {l : Launch} {g : pw_G} {Q : pw_W → Int32 → Prop} {X : pw_W → Nat → Prop} (hl0 : l.stackTraces = false) {w : pw_W} (h : wp_M_today w Q X) : pw_Con l g y_M_today cx_M_today [(10, 0)] w Q X :=
  pw_con (by decide +kernel) rfl rfl hl0 rfl (Nat.le_of_ble_eq_true rfl) (by simp) (vw_M_today hl0 h)
theorem d_M_parcels_0 : decode (pw_cc cx_M_parcels) 0 = .ok (.aload_n 0, 1) := by decide +kernel
theorem d_M_parcels_1 : decode (pw_cc cx_M_parcels) 1 = .ok (.iconst 0, 1) := by decide +kernel
theorem d_M_parcels_2 : decode (pw_cc cx_M_parcels) 2 = .ok (.putfield 121, 3) := by decide +kernel
theorem d_M_parcels_5 : decode (pw_cc cx_M_parcels) 5 = .ok (.aload_n 0, 1) := by decide +kernel
theorem d_M_parcels_6 : decode (pw_cc cx_M_parcels) 6 = .ok (.getfield 116, 3) := by decide +kernel
theorem d_M_parcels_9 : decode (pw_cc cx_M_parcels) 9 = .ok (.ireturn, 1) := by decide +kernel
set_option maxHeartbeats 4000000 in
set_option maxRecDepth 20000 in
def wp_M_parcels (w : pw_W) (Q : pw_W → Int32 → Prop) (X : pw_W → Nat → Prop) : Prop := ∀ w1, w1 = pw_ps w 8 0 0 0 → Q w1 (w1.1 8 0 18)
set_option maxHeartbeats 4000000 in
set_option maxRecDepth 20000 in
theorem vw_M_parcels {l : Launch} {g : pw_G} {Q : pw_W → Int32 → Prop} {X : pw_W → Nat → Prop} (hl0 : l.stackTraces = false) {w : pw_W} (h : wp_M_parcels w Q X) : pw_V l g cx_M_parcels Q X 0 [(10, 0)] [] w := by
  unfold wp_M_parcels at h
  refine pv_aload_n (n := 1) d_M_parcels_0 rfl rfl rfl ?_
  refine pv_iconst (v := 0) (n := 2) d_M_parcels_1 (by decide) rfl ?_
  refine pt_M_121 (n := 5) rfl d_M_parcels_2 (by decide) rfl (fun w1 e2 => ?_)
  replace h := h w1 e2
  refine pv_aload_n (n := 6) d_M_parcels_5 rfl rfl rfl ?_
  refine gt_M_116 (n := 9) rfl d_M_parcels_6 (by decide) rfl ?_
  exact pv_iret rfl rfl d_M_parcels_9 h
set_option maxHeartbeats 4000000 in
set_option maxRecDepth 20000 in
theorem con_M_parcels {l : Launch} {g : pw_G} {Q : pw_W → Int32 → Prop} {X : pw_W → Nat → Prop} (hl0 : l.stackTraces = false) {w : pw_W} (h : wp_M_parcels w Q X) : pw_Con l g y_M_parcels cx_M_parcels [(10, 0)] w Q X :=
  pw_con (by decide +kernel) rfl rfl hl0 rfl (Nat.le_of_ble_eq_true rfl) (by simp) (vw_M_parcels hl0 h)
theorem d_M_parcelOf_0 : decode (pw_cc cx_M_parcelOf) 0 = .ok (.aload_n 0, 1) := by decide +kernel
theorem d_M_parcelOf_1 : decode (pw_cc cx_M_parcelOf) 1 = .ok (.iload_n 1, 1) := by decide +kernel
theorem d_M_parcelOf_2 : decode (pw_cc cx_M_parcelOf) 2 = .ok (.invokestatic 163, 3) := by decide +kernel
theorem d_M_parcelOf_5 : decode (pw_cc cx_M_parcelOf) 5 = .ok (.ifCond .eq 7, 3) := by decide +kernel
theorem d_M_parcelOf_8 : decode (pw_cc cx_M_parcelOf) 8 = .ok (.iconst 0, 1) := by decide +kernel
theorem d_M_parcelOf_9 : decode (pw_cc cx_M_parcelOf) 9 = .ok (.goto 4, 3) := by decide +kernel
theorem d_M_parcelOf_12 : decode (pw_cc cx_M_parcelOf) 12 = .ok (.iconst 1, 1) := by decide +kernel
theorem d_M_parcelOf_13 : decode (pw_cc cx_M_parcelOf) 13 = .ok (.invokevirtual 179, 3) := by decide +kernel
theorem d_M_parcelOf_16 : decode (pw_cc cx_M_parcelOf) 16 = .ok (.ifCond .eq 12, 3) := by decide +kernel
theorem d_M_parcelOf_19 : decode (pw_cc cx_M_parcelOf) 19 = .ok (.aload_n 0, 1) := by decide +kernel
theorem d_M_parcelOf_20 : decode (pw_cc cx_M_parcelOf) 20 = .ok (.getfield 16, 3) := by decide +kernel
theorem d_M_parcelOf_23 : decode (pw_cc cx_M_parcelOf) 23 = .ok (.iload_n 1, 1) := by decide +kernel
theorem d_M_parcelOf_24 : decode (pw_cc cx_M_parcelOf) 24 = .ok (.iaload, 1) := by decide +kernel
theorem d_M_parcelOf_25 : decode (pw_cc cx_M_parcelOf) 25 = .ok (.goto 4, 3) := by decide +kernel
theorem d_M_parcelOf_28 : decode (pw_cc cx_M_parcelOf) 28 = .ok (.iconst 0, 1) := by decide +kernel
theorem d_M_parcelOf_29 : decode (pw_cc cx_M_parcelOf) 29 = .ok (.ireturn, 1) := by decide +kernel
set_option maxHeartbeats 4000000 in
set_option maxRecDepth 20000 in
def jp_M_parcelOf_13 (Q : pw_W → Int32 → Prop) (X : pw_W → Nat → Prop) (a1 s0 : Int32) (w : pw_W) : Prop := wp_M_isFine w s0 (fun w1 r2 => (r2 = 0 → Q w1 0) ∧ (¬ r2 = 0 → w1.1 8 0 8 = 0 ∧ pw_jn a1 (pw_ln w1 208 0) ∧ Q w1 (w1.1 208 0 (pw_i a1)))) (fun _ _ => False)
set_option maxHeartbeats 4000000 in
set_option maxRecDepth 20000 in
theorem vjp_M_parcelOf_13 {l : Launch} {g : pw_G} {Q : pw_W → Int32 → Prop} {X : pw_W → Nat → Prop} (hl0 : l.stackTraces = false) (a1 s0 : Int32) (w : pw_W) (h : jp_M_parcelOf_13 Q X a1 s0 w) : pw_V l g cx_M_parcelOf Q X 13 [(10, 0), (0, a1)] [(0, s0), (10, 0)] w := by
  unfold jp_M_parcelOf_13 at h
  refine pv_callV (n := 16) (x := 0) [(0, s0)] [] (con_M_isFine hl0 h) pw_cf8 rfl q_506 q_507 q_508 q_458 q_505 pyo_M_isFine (by decide) rfl rfl (by decide) d_M_parcelOf_13 rfl (fun w1 r2 h _ => ?_) (fun _ _ h => h.elim)
  show pw_V l g cx_M_parcelOf Q X 16 [(10, 0), (0, a1)] [(0, r2)] w1
  refine pv_if_eq (n := 19) (tgt := 28) d_M_parcelOf_16 (by decide) rfl (fun c3 => ?_) (fun c3 => ?_)
  · replace h := h.1 c3
    refine pv_iconst (v := 0) (n := 29) d_M_parcelOf_28 (by decide) rfl ?_
    exact pv_iret rfl rfl d_M_parcelOf_29 h
  · replace h := h.2 c3
    refine pv_aload_n (n := 20) d_M_parcelOf_19 rfl rfl rfl ?_
    obtain ⟨g4, h⟩ := h
    refine gt_M_16 (n := 23) rfl d_M_parcelOf_20 (by decide) g4 rfl ?_
    refine pv_iload_n (n := 24) d_M_parcelOf_23 rfl rfl rfl ?_
    obtain ⟨g5, h⟩ := h
    refine pv_iald (n := 25) (f := 208) (by decide) rfl d_M_parcelOf_24 (by decide) g5 rfl ?_
    refine pv_goto (tgt := 29) d_M_parcelOf_25 (by decide) ?_
    exact pv_iret rfl rfl d_M_parcelOf_29 h
set_option maxHeartbeats 4000000 in
set_option maxRecDepth 20000 in
def wp_M_parcelOf (w : pw_W) (a1 : Int32) (Q : pw_W → Int32 → Prop) (X : pw_W → Nat → Prop) : Prop := wp_M_isSquare w a1 (fun w6 r7 => (r7 = 0 → jp_M_parcelOf_13 Q X a1 1 w6) ∧ (¬ r7 = 0 → jp_M_parcelOf_13 Q X a1 0 w6)) (fun _ _ => False)
set_option maxHeartbeats 4000000 in
set_option maxRecDepth 20000 in
theorem vw_M_parcelOf {l : Launch} {g : pw_G} {Q : pw_W → Int32 → Prop} {X : pw_W → Nat → Prop} (hl0 : l.stackTraces = false) {w : pw_W} {a1 : Int32} (h : wp_M_parcelOf w a1 Q X) : pw_V l g cx_M_parcelOf Q X 0 [(10, 0), (0, a1)] [] w := by
  unfold wp_M_parcelOf at h
  refine pv_aload_n (n := 1) d_M_parcelOf_0 rfl rfl rfl ?_
  refine pv_iload_n (n := 2) d_M_parcelOf_1 rfl rfl rfl ?_
  refine pv_callS (n := 5) [(0, a1)] [(10, 0)] (con_M_isSquare hl0 h) q_520 q_521 q_458 q_519 pyo_M_isSquare (by decide) rfl rfl d_M_parcelOf_2 rfl (fun w6 r7 h _ => ?_) (fun _ _ h => h.elim)
  show pw_V l g cx_M_parcelOf Q X 5 [(10, 0), (0, a1)] [(0, r7), (10, 0)] w6
  refine pv_if_eq (n := 8) (tgt := 12) d_M_parcelOf_5 (by decide) rfl (fun c8 => ?_) (fun c8 => ?_)
  · replace h := h.1 c8
    refine pv_iconst (v := 1) (n := 13) d_M_parcelOf_12 (by decide) rfl ?_
    exact vjp_M_parcelOf_13 hl0 _ _ _ h
  · replace h := h.2 c8
    refine pv_iconst (v := 0) (n := 9) d_M_parcelOf_8 (by decide) rfl ?_
    refine pv_goto (tgt := 13) d_M_parcelOf_9 (by decide) ?_
    exact vjp_M_parcelOf_13 hl0 _ _ _ h
set_option maxHeartbeats 4000000 in
set_option maxRecDepth 20000 in
theorem con_M_parcelOf {l : Launch} {g : pw_G} {Q : pw_W → Int32 → Prop} {X : pw_W → Nat → Prop} (hl0 : l.stackTraces = false) {w : pw_W} {a1 : Int32} (h : wp_M_parcelOf w a1 Q X) : pw_Con l g y_M_parcelOf cx_M_parcelOf [(10, 0), (0, a1)] w Q X :=
  pw_con (by decide +kernel) rfl rfl hl0 rfl (Nat.le_of_ble_eq_true rfl) (by simp) (vw_M_parcelOf hl0 h)
theorem d_M_chain_0 : decode (pw_cc cx_M_chain) 0 = .ok (.aload_n 0, 1) := by decide +kernel
theorem d_M_chain_1 : decode (pw_cc cx_M_chain) 1 = .ok (.iload_n 1, 1) := by decide +kernel
theorem d_M_chain_2 : decode (pw_cc cx_M_chain) 2 = .ok (.invokestatic 163, 3) := by decide +kernel
theorem d_M_chain_5 : decode (pw_cc cx_M_chain) 5 = .ok (.ifCond .eq 11, 3) := by decide +kernel
theorem d_M_chain_8 : decode (pw_cc cx_M_chain) 8 = .ok (.iload_n 2, 1) := by decide +kernel
theorem d_M_chain_9 : decode (pw_cc cx_M_chain) 9 = .ok (.ifCond .lt 7, 3) := by decide +kernel
theorem d_M_chain_12 : decode (pw_cc cx_M_chain) 12 = .ok (.iconst 0, 1) := by decide +kernel
theorem d_M_chain_13 : decode (pw_cc cx_M_chain) 13 = .ok (.goto 4, 3) := by decide +kernel
theorem d_M_chain_16 : decode (pw_cc cx_M_chain) 16 = .ok (.iconst 1, 1) := by decide +kernel
theorem d_M_chain_17 : decode (pw_cc cx_M_chain) 17 = .ok (.invokevirtual 179, 3) := by decide +kernel
theorem d_M_chain_20 : decode (pw_cc cx_M_chain) 20 = .ok (.ifCond .ne 5, 3) := by decide +kernel
theorem d_M_chain_23 : decode (pw_cc cx_M_chain) 23 = .ok (.iconst 0, 1) := by decide +kernel
theorem d_M_chain_24 : decode (pw_cc cx_M_chain) 24 = .ok (.ireturn, 1) := by decide +kernel
theorem d_M_chain_25 : decode (pw_cc cx_M_chain) 25 = .ok (.iload_n 2, 1) := by decide +kernel
theorem d_M_chain_26 : decode (pw_cc cx_M_chain) 26 = .ok (.aload_n 0, 1) := by decide +kernel
theorem d_M_chain_27 : decode (pw_cc cx_M_chain) 27 = .ok (.getfield 34, 3) := by decide +kernel
theorem d_M_chain_30 : decode (pw_cc cx_M_chain) 30 = .ok (.iload_n 1, 1) := by decide +kernel
theorem d_M_chain_31 : decode (pw_cc cx_M_chain) 31 = .ok (.iaload, 1) := by decide +kernel
theorem d_M_chain_32 : decode (pw_cc cx_M_chain) 32 = .ok (.if_icmp .ge 27, 3) := by decide +kernel
theorem d_M_chain_35 : decode (pw_cc cx_M_chain) 35 = .ok (.aload_n 0, 1) := by decide +kernel
theorem d_M_chain_36 : decode (pw_cc cx_M_chain) 36 = .ok (.getfield 37, 3) := by decide +kernel
theorem d_M_chain_39 : decode (pw_cc cx_M_chain) 39 = .ok (.sipush 250, 3) := by decide +kernel
theorem d_M_chain_42 : decode (pw_cc cx_M_chain) 42 = .ok (.iload_n 1, 1) := by decide +kernel
theorem d_M_chain_43 : decode (pw_cc cx_M_chain) 43 = .ok (.imul, 1) := by decide +kernel
theorem d_M_chain_44 : decode (pw_cc cx_M_chain) 44 = .ok (.aload_n 0, 1) := by decide +kernel
theorem d_M_chain_45 : decode (pw_cc cx_M_chain) 45 = .ok (.getfield 34, 3) := by decide +kernel
theorem d_M_chain_48 : decode (pw_cc cx_M_chain) 48 = .ok (.iload_n 1, 1) := by decide +kernel
theorem d_M_chain_49 : decode (pw_cc cx_M_chain) 49 = .ok (.iaload, 1) := by decide +kernel
theorem d_M_chain_50 : decode (pw_cc cx_M_chain) 50 = .ok (.iadd, 1) := by decide +kernel
theorem d_M_chain_51 : decode (pw_cc cx_M_chain) 51 = .ok (.iconst 1, 1) := by decide +kernel
theorem d_M_chain_52 : decode (pw_cc cx_M_chain) 52 = .ok (.isub, 1) := by decide +kernel
theorem d_M_chain_53 : decode (pw_cc cx_M_chain) 53 = .ok (.iload_n 2, 1) := by decide +kernel
theorem d_M_chain_54 : decode (pw_cc cx_M_chain) 54 = .ok (.isub, 1) := by decide +kernel
theorem d_M_chain_55 : decode (pw_cc cx_M_chain) 55 = .ok (.iaload, 1) := by decide +kernel
theorem d_M_chain_56 : decode (pw_cc cx_M_chain) 56 = .ok (.goto 4, 3) := by decide +kernel
theorem d_M_chain_59 : decode (pw_cc cx_M_chain) 59 = .ok (.iconst (-1), 1) := by decide +kernel
theorem d_M_chain_60 : decode (pw_cc cx_M_chain) 60 = .ok (.ireturn, 1) := by decide +kernel
set_option maxHeartbeats 4000000 in
set_option maxRecDepth 20000 in
def jp_M_chain_17 (Q : pw_W → Int32 → Prop) (X : pw_W → Nat → Prop) (a1 a2 s0 : Int32) (w : pw_W) : Prop := wp_M_isFine w s0 (fun w1 r2 => (¬ r2 = 0 → w1.1 8 0 14 = 0 ∧ pw_jn a1 (pw_ln w1 214 0) ∧ ((w1.1 214 0 (pw_i a1)) ≤ a2 → Q w1 (-1)) ∧ (¬ (w1.1 214 0 (pw_i a1)) ≤ a2 → w1.1 8 0 15 = 0 ∧ w1.1 8 0 14 = 0 ∧ pw_jn a1 (pw_ln w1 214 0) ∧ pw_jn (((((250 : Int32) * a1) + (w1.1 214 0 (pw_i a1))) - 1) - a2) (pw_ln w1 215 0) ∧ Q w1 (w1.1 215 0 (pw_i (((((250 : Int32) * a1) + (w1.1 214 0 (pw_i a1))) - 1) - a2))))) ∧ (r2 = 0 → Q w1 0)) (fun _ _ => False)
set_option maxHeartbeats 4000000 in
set_option maxRecDepth 20000 in
theorem vjp_M_chain_17 {l : Launch} {g : pw_G} {Q : pw_W → Int32 → Prop} {X : pw_W → Nat → Prop} (hl0 : l.stackTraces = false) (a1 a2 s0 : Int32) (w : pw_W) (h : jp_M_chain_17 Q X a1 a2 s0 w) : pw_V l g cx_M_chain Q X 17 [(10, 0), (0, a1), (0, a2)] [(0, s0), (10, 0)] w := by
  unfold jp_M_chain_17 at h
  refine pv_callV (n := 20) (x := 0) [(0, s0)] [] (con_M_isFine hl0 h) pw_cf8 rfl q_506 q_507 q_508 q_458 q_505 pyo_M_isFine (by decide) rfl rfl (by decide) d_M_chain_17 rfl (fun w1 r2 h _ => ?_) (fun _ _ h => h.elim)
  show pw_V l g cx_M_chain Q X 20 [(10, 0), (0, a1), (0, a2)] [(0, r2)] w1
  refine pv_if_ne (n := 23) (tgt := 25) d_M_chain_20 (by decide) rfl (fun c3 => ?_) (fun c3 => ?_)
  · replace h := h.1 c3
    refine pv_iload_n (n := 26) d_M_chain_25 rfl rfl rfl ?_
    refine pv_aload_n (n := 27) d_M_chain_26 rfl rfl rfl ?_
    obtain ⟨g4, h⟩ := h
    refine gt_M_34 (n := 30) rfl d_M_chain_27 (by decide) g4 rfl ?_
    refine pv_iload_n (n := 31) d_M_chain_30 rfl rfl rfl ?_
    obtain ⟨g5, h⟩ := h
    refine pv_iald (n := 32) (f := 214) (by decide) rfl d_M_chain_31 (by decide) g5 rfl ?_
    refine pv_icmp_ge (n := 35) (tgt := 59) d_M_chain_32 (by decide) rfl (fun c6 => ?_) (fun c6 => ?_)
    · replace h := h.1 c6
      refine pv_iconst (v := -1) (n := 60) d_M_chain_59 (by decide) rfl ?_
      exact pv_iret rfl rfl d_M_chain_60 h
    · replace h := h.2 c6
      refine pv_aload_n (n := 36) d_M_chain_35 rfl rfl rfl ?_
      obtain ⟨g7, h⟩ := h
      refine gt_M_37 (n := 39) rfl d_M_chain_36 (by decide) g7 rfl ?_
      refine pv_sipush (v := 250) (n := 42) d_M_chain_39 (by decide) rfl ?_
      refine pv_iload_n (n := 43) d_M_chain_42 rfl rfl rfl ?_
      refine pv_imul (n := 44) d_M_chain_43 rfl ?_
      refine pv_aload_n (n := 45) d_M_chain_44 rfl rfl rfl ?_
      obtain ⟨g8, h⟩ := h
      refine gt_M_34 (n := 48) rfl d_M_chain_45 (by decide) g8 rfl ?_
      refine pv_iload_n (n := 49) d_M_chain_48 rfl rfl rfl ?_
      obtain ⟨g9, h⟩ := h
      refine pv_iald (n := 50) (f := 214) (by decide) rfl d_M_chain_49 (by decide) g9 rfl ?_
      refine pv_iadd (n := 51) d_M_chain_50 rfl ?_
      refine pv_iconst (v := 1) (n := 52) d_M_chain_51 (by decide) rfl ?_
      refine pv_isub (n := 53) d_M_chain_52 rfl ?_
      refine pv_iload_n (n := 54) d_M_chain_53 rfl rfl rfl ?_
      refine pv_isub (n := 55) d_M_chain_54 rfl ?_
      obtain ⟨g10, h⟩ := h
      refine pv_iald (n := 56) (f := 215) (by decide) rfl d_M_chain_55 (by decide) g10 rfl ?_
      refine pv_goto (tgt := 60) d_M_chain_56 (by decide) ?_
      exact pv_iret rfl rfl d_M_chain_60 h
  · replace h := h.2 c3
    refine pv_iconst (v := 0) (n := 24) d_M_chain_23 (by decide) rfl ?_
    exact pv_iret rfl rfl d_M_chain_24 h
set_option maxHeartbeats 4000000 in
set_option maxRecDepth 20000 in
def jp_M_chain_16 (Q : pw_W → Int32 → Prop) (X : pw_W → Nat → Prop) (a1 a2 : Int32) (w : pw_W) : Prop := jp_M_chain_17 Q X a1 a2 1 w
set_option maxHeartbeats 4000000 in
set_option maxRecDepth 20000 in
theorem vjp_M_chain_16 {l : Launch} {g : pw_G} {Q : pw_W → Int32 → Prop} {X : pw_W → Nat → Prop} (hl0 : l.stackTraces = false) (a1 a2 : Int32) (w : pw_W) (h : jp_M_chain_16 Q X a1 a2 w) : pw_V l g cx_M_chain Q X 16 [(10, 0), (0, a1), (0, a2)] [(10, 0)] w := by
  unfold jp_M_chain_16 at h
  refine pv_iconst (v := 1) (n := 17) d_M_chain_16 (by decide) rfl ?_
  exact vjp_M_chain_17 hl0 _ _ _ _ h
set_option maxHeartbeats 4000000 in
set_option maxRecDepth 20000 in
def wp_M_chain (w : pw_W) (a1 a2 : Int32) (Q : pw_W → Int32 → Prop) (X : pw_W → Nat → Prop) : Prop := wp_M_isSquare w a1 (fun w11 r12 => (r12 = 0 → jp_M_chain_16 Q X a1 a2 w11) ∧ (¬ r12 = 0 → (a2 < 0 → jp_M_chain_16 Q X a1 a2 w11) ∧ (¬ a2 < 0 → jp_M_chain_17 Q X a1 a2 0 w11))) (fun _ _ => False)
set_option maxHeartbeats 4000000 in
set_option maxRecDepth 20000 in
theorem vw_M_chain {l : Launch} {g : pw_G} {Q : pw_W → Int32 → Prop} {X : pw_W → Nat → Prop} (hl0 : l.stackTraces = false) {w : pw_W} {a1 a2 : Int32} (h : wp_M_chain w a1 a2 Q X) : pw_V l g cx_M_chain Q X 0 [(10, 0), (0, a1), (0, a2)] [] w := by
  unfold wp_M_chain at h
  refine pv_aload_n (n := 1) d_M_chain_0 rfl rfl rfl ?_
  refine pv_iload_n (n := 2) d_M_chain_1 rfl rfl rfl ?_
  refine pv_callS (n := 5) [(0, a1)] [(10, 0)] (con_M_isSquare hl0 h) q_520 q_521 q_458 q_519 pyo_M_isSquare (by decide) rfl rfl d_M_chain_2 rfl (fun w11 r12 h _ => ?_) (fun _ _ h => h.elim)
  show pw_V l g cx_M_chain Q X 5 [(10, 0), (0, a1), (0, a2)] [(0, r12), (10, 0)] w11
  refine pv_if_eq (n := 8) (tgt := 16) d_M_chain_5 (by decide) rfl (fun c13 => ?_) (fun c13 => ?_)
  · replace h := h.1 c13
    exact vjp_M_chain_16 hl0 _ _ _ h
  · replace h := h.2 c13
    refine pv_iload_n (n := 9) d_M_chain_8 rfl rfl rfl ?_
    refine pv_if_lt (n := 12) (tgt := 16) d_M_chain_9 (by decide) rfl (fun c14 => ?_) (fun c14 => ?_)
    · replace h := h.1 c14
      exact vjp_M_chain_16 hl0 _ _ _ h
    · replace h := h.2 c14
      refine pv_iconst (v := 0) (n := 13) d_M_chain_12 (by decide) rfl ?_
      refine pv_goto (tgt := 17) d_M_chain_13 (by decide) ?_
      exact vjp_M_chain_17 hl0 _ _ _ _ h
set_option maxHeartbeats 4000000 in
set_option maxRecDepth 20000 in
theorem con_M_chain {l : Launch} {g : pw_G} {Q : pw_W → Int32 → Prop} {X : pw_W → Nat → Prop} (hl0 : l.stackTraces = false) {w : pw_W} {a1 a2 : Int32} (h : wp_M_chain w a1 a2 Q X) : pw_Con l g y_M_chain cx_M_chain [(10, 0), (0, a1), (0, a2)] w Q X :=
  pw_con (by decide +kernel) rfl rfl hl0 rfl (Nat.le_of_ble_eq_true rfl) (by simp) (vw_M_chain hl0 h)
theorem d_M_area_0 : decode (pw_cc cx_M_area) 0 = .ok (.aload_n 0, 1) := by decide +kernel
theorem d_M_area_1 : decode (pw_cc cx_M_area) 1 = .ok (.aload_n 0, 1) := by decide +kernel
theorem d_M_area_2 : decode (pw_cc cx_M_area) 2 = .ok (.iload_n 1, 1) := by decide +kernel
theorem d_M_area_3 : decode (pw_cc cx_M_area) 3 = .ok (.invokevirtual 159, 3) := by decide +kernel
theorem d_M_area_6 : decode (pw_cc cx_M_area) 6 = .ok (.ifCond .eq 7, 3) := by decide +kernel
theorem d_M_area_9 : decode (pw_cc cx_M_area) 9 = .ok (.iconst 0, 1) := by decide +kernel
theorem d_M_area_10 : decode (pw_cc cx_M_area) 10 = .ok (.goto 4, 3) := by decide +kernel
theorem d_M_area_13 : decode (pw_cc cx_M_area) 13 = .ok (.iconst 1, 1) := by decide +kernel
theorem d_M_area_14 : decode (pw_cc cx_M_area) 14 = .ok (.invokevirtual 179, 3) := by decide +kernel
theorem d_M_area_17 : decode (pw_cc cx_M_area) 17 = .ok (.ifCond .eq 15, 3) := by decide +kernel
theorem d_M_area_20 : decode (pw_cc cx_M_area) 20 = .ok (.aload_n 0, 1) := by decide +kernel
theorem d_M_area_21 : decode (pw_cc cx_M_area) 21 = .ok (.aload_n 0, 1) := by decide +kernel
theorem d_M_area_22 : decode (pw_cc cx_M_area) 22 = .ok (.iload_n 1, 1) := by decide +kernel
theorem d_M_area_23 : decode (pw_cc cx_M_area) 23 = .ok (.invokevirtual 172, 3) := by decide +kernel
theorem d_M_area_26 : decode (pw_cc cx_M_area) 26 = .ok (.invokevirtual 138, 3) := by decide +kernel
theorem d_M_area_29 : decode (pw_cc cx_M_area) 29 = .ok (.goto 4, 3) := by decide +kernel
theorem d_M_area_32 : decode (pw_cc cx_M_area) 32 = .ok (.iconst 0, 1) := by decide +kernel
theorem d_M_area_33 : decode (pw_cc cx_M_area) 33 = .ok (.ireturn, 1) := by decide +kernel
set_option maxHeartbeats 4000000 in
set_option maxRecDepth 20000 in
def jp_M_area_14 (Q : pw_W → Int32 → Prop) (X : pw_W → Nat → Prop) (a1 s0 : Int32) (w : pw_W) : Prop := wp_M_isFine w s0 (fun w1 r2 => (r2 = 0 → Q w1 0) ∧ (¬ r2 = 0 → wp_M_now w1 a1 (fun w4 r5 => wp_M_areaOf w4 r5 (fun w6 r7 => Q w6 r7) (fun _ _ => False)) (fun _ _ => False))) (fun _ _ => False)
set_option maxHeartbeats 4000000 in
set_option maxRecDepth 20000 in
theorem vjp_M_area_14 {l : Launch} {g : pw_G} {Q : pw_W → Int32 → Prop} {X : pw_W → Nat → Prop} (hl0 : l.stackTraces = false) (a1 s0 : Int32) (w : pw_W) (h : jp_M_area_14 Q X a1 s0 w) : pw_V l g cx_M_area Q X 14 [(10, 0), (0, a1)] [(0, s0), (10, 0)] w := by
  unfold jp_M_area_14 at h
  refine pv_callV (n := 17) (x := 0) [(0, s0)] [] (con_M_isFine hl0 h) pw_cf8 rfl q_506 q_507 q_508 q_458 q_505 pyo_M_isFine (by decide) rfl rfl (by decide) d_M_area_14 rfl (fun w1 r2 h _ => ?_) (fun _ _ h => h.elim)
  show pw_V l g cx_M_area Q X 17 [(10, 0), (0, a1)] [(0, r2)] w1
  refine pv_if_eq (n := 20) (tgt := 32) d_M_area_17 (by decide) rfl (fun c3 => ?_) (fun c3 => ?_)
  · replace h := h.1 c3
    refine pv_iconst (v := 0) (n := 33) d_M_area_32 (by decide) rfl ?_
    exact pv_iret rfl rfl d_M_area_33 h
  · replace h := h.2 c3
    refine pv_aload_n (n := 21) d_M_area_20 rfl rfl rfl ?_
    refine pv_aload_n (n := 22) d_M_area_21 rfl rfl rfl ?_
    refine pv_iload_n (n := 23) d_M_area_22 rfl rfl rfl ?_
    refine pv_callV (n := 26) (x := 0) [(0, a1)] [(10, 0)] (con_M_now hl0 h) pw_cf8 rfl q_502 q_503 q_504 q_458 q_501 pyo_M_now (by decide) rfl rfl (by decide) d_M_area_23 rfl (fun w4 r5 h _ => ?_) (fun _ _ h => h.elim)
    show pw_V l g cx_M_area Q X 26 [(10, 0), (0, a1)] [(0, r5), (10, 0)] w4
    refine pv_callV (n := 29) (x := 0) [(0, r5)] [] (con_M_areaOf hl0 h) pw_cf8 rfl q_471 q_472 q_473 q_458 q_470 pyo_M_areaOf (by decide) rfl rfl (by decide) d_M_area_26 rfl (fun w6 r7 h _ => ?_) (fun _ _ h => h.elim)
    show pw_V l g cx_M_area Q X 29 [(10, 0), (0, a1)] [(0, r7)] w6
    refine pv_goto (tgt := 33) d_M_area_29 (by decide) ?_
    exact pv_iret rfl rfl d_M_area_33 h
set_option maxHeartbeats 4000000 in
set_option maxRecDepth 20000 in
def wp_M_area (w : pw_W) (a1 : Int32) (Q : pw_W → Int32 → Prop) (X : pw_W → Nat → Prop) : Prop := wp_M_isParcel w a1 (fun w8 r9 => (r9 = 0 → jp_M_area_14 Q X a1 1 w8) ∧ (¬ r9 = 0 → jp_M_area_14 Q X a1 0 w8)) (fun _ _ => False)
set_option maxHeartbeats 4000000 in
set_option maxRecDepth 20000 in
theorem vw_M_area {l : Launch} {g : pw_G} {Q : pw_W → Int32 → Prop} {X : pw_W → Nat → Prop} (hl0 : l.stackTraces = false) {w : pw_W} {a1 : Int32} (h : wp_M_area w a1 Q X) : pw_V l g cx_M_area Q X 0 [(10, 0), (0, a1)] [] w := by
  unfold wp_M_area at h
  refine pv_aload_n (n := 1) d_M_area_0 rfl rfl rfl ?_
  refine pv_aload_n (n := 2) d_M_area_1 rfl rfl rfl ?_
  refine pv_iload_n (n := 3) d_M_area_2 rfl rfl rfl ?_
  refine pv_callV (n := 6) (x := 0) [(0, a1)] [(10, 0)] (con_M_isParcel hl0 h) pw_cf8 rfl q_523 q_524 q_525 q_458 q_522 pyo_M_isParcel (by decide) rfl rfl (by decide) d_M_area_3 rfl (fun w8 r9 h _ => ?_) (fun _ _ h => h.elim)
  show pw_V l g cx_M_area Q X 6 [(10, 0), (0, a1)] [(0, r9), (10, 0)] w8
  refine pv_if_eq (n := 9) (tgt := 13) d_M_area_6 (by decide) rfl (fun c10 => ?_) (fun c10 => ?_)
  · replace h := h.1 c10
    refine pv_iconst (v := 1) (n := 14) d_M_area_13 (by decide) rfl ?_
    exact vjp_M_area_14 hl0 _ _ _ h
  · replace h := h.2 c10
    refine pv_iconst (v := 0) (n := 10) d_M_area_9 (by decide) rfl ?_
    refine pv_goto (tgt := 14) d_M_area_10 (by decide) ?_
    exact vjp_M_area_14 hl0 _ _ _ h
set_option maxHeartbeats 4000000 in
set_option maxRecDepth 20000 in
theorem con_M_area {l : Launch} {g : pw_G} {Q : pw_W → Int32 → Prop} {X : pw_W → Nat → Prop} (hl0 : l.stackTraces = false) {w : pw_W} {a1 : Int32} (h : wp_M_area w a1 Q X) : pw_Con l g y_M_area cx_M_area [(10, 0), (0, a1)] w Q X :=
  pw_con (by decide +kernel) rfl rfl hl0 rfl (Nat.le_of_ble_eq_true rfl) (by simp) (vw_M_area hl0 h)
theorem d_M_owner_0 : decode (pw_cc cx_M_owner) 0 = .ok (.aload_n 0, 1) := by decide +kernel
theorem d_M_owner_1 : decode (pw_cc cx_M_owner) 1 = .ok (.aload_n 0, 1) := by decide +kernel
theorem d_M_owner_2 : decode (pw_cc cx_M_owner) 2 = .ok (.iload_n 1, 1) := by decide +kernel
theorem d_M_owner_3 : decode (pw_cc cx_M_owner) 3 = .ok (.invokevirtual 159, 3) := by decide +kernel
theorem d_M_owner_6 : decode (pw_cc cx_M_owner) 6 = .ok (.ifCond .eq 7, 3) := by decide +kernel
theorem d_M_owner_9 : decode (pw_cc cx_M_owner) 9 = .ok (.iconst 0, 1) := by decide +kernel
theorem d_M_owner_10 : decode (pw_cc cx_M_owner) 10 = .ok (.goto 4, 3) := by decide +kernel
theorem d_M_owner_13 : decode (pw_cc cx_M_owner) 13 = .ok (.iconst 1, 1) := by decide +kernel
theorem d_M_owner_14 : decode (pw_cc cx_M_owner) 14 = .ok (.invokevirtual 179, 3) := by decide +kernel
theorem d_M_owner_17 : decode (pw_cc cx_M_owner) 17 = .ok (.ifCond .eq 16, 3) := by decide +kernel
theorem d_M_owner_20 : decode (pw_cc cx_M_owner) 20 = .ok (.aload_n 0, 1) := by decide +kernel
theorem d_M_owner_21 : decode (pw_cc cx_M_owner) 21 = .ok (.getfield 40, 3) := by decide +kernel
theorem d_M_owner_24 : decode (pw_cc cx_M_owner) 24 = .ok (.aload_n 0, 1) := by decide +kernel
theorem d_M_owner_25 : decode (pw_cc cx_M_owner) 25 = .ok (.iload_n 1, 1) := by decide +kernel
theorem d_M_owner_26 : decode (pw_cc cx_M_owner) 26 = .ok (.invokevirtual 172, 3) := by decide +kernel
theorem d_M_owner_29 : decode (pw_cc cx_M_owner) 29 = .ok (.iaload, 1) := by decide +kernel
theorem d_M_owner_30 : decode (pw_cc cx_M_owner) 30 = .ok (.goto 4, 3) := by decide +kernel
theorem d_M_owner_33 : decode (pw_cc cx_M_owner) 33 = .ok (.iconst 0, 1) := by decide +kernel
theorem d_M_owner_34 : decode (pw_cc cx_M_owner) 34 = .ok (.ireturn, 1) := by decide +kernel
set_option maxHeartbeats 4000000 in
set_option maxRecDepth 20000 in
def jp_M_owner_14 (Q : pw_W → Int32 → Prop) (X : pw_W → Nat → Prop) (a1 s0 : Int32) (w : pw_W) : Prop := wp_M_isFine w s0 (fun w1 r2 => (r2 = 0 → Q w1 0) ∧ (¬ r2 = 0 → w1.1 8 0 16 = 0 ∧ wp_M_now w1 a1 (fun w5 r6 => pw_jn r6 (pw_ln w5 216 0) ∧ Q w5 (w5.1 216 0 (pw_i r6))) (fun _ _ => False))) (fun _ _ => False)
set_option maxHeartbeats 4000000 in
set_option maxRecDepth 20000 in
theorem vjp_M_owner_14 {l : Launch} {g : pw_G} {Q : pw_W → Int32 → Prop} {X : pw_W → Nat → Prop} (hl0 : l.stackTraces = false) (a1 s0 : Int32) (w : pw_W) (h : jp_M_owner_14 Q X a1 s0 w) : pw_V l g cx_M_owner Q X 14 [(10, 0), (0, a1)] [(0, s0), (10, 0)] w := by
  unfold jp_M_owner_14 at h
  refine pv_callV (n := 17) (x := 0) [(0, s0)] [] (con_M_isFine hl0 h) pw_cf8 rfl q_506 q_507 q_508 q_458 q_505 pyo_M_isFine (by decide) rfl rfl (by decide) d_M_owner_14 rfl (fun w1 r2 h _ => ?_) (fun _ _ h => h.elim)
  show pw_V l g cx_M_owner Q X 17 [(10, 0), (0, a1)] [(0, r2)] w1
  refine pv_if_eq (n := 20) (tgt := 33) d_M_owner_17 (by decide) rfl (fun c3 => ?_) (fun c3 => ?_)
  · replace h := h.1 c3
    refine pv_iconst (v := 0) (n := 34) d_M_owner_33 (by decide) rfl ?_
    exact pv_iret rfl rfl d_M_owner_34 h
  · replace h := h.2 c3
    refine pv_aload_n (n := 21) d_M_owner_20 rfl rfl rfl ?_
    obtain ⟨g4, h⟩ := h
    refine gt_M_40 (n := 24) rfl d_M_owner_21 (by decide) g4 rfl ?_
    refine pv_aload_n (n := 25) d_M_owner_24 rfl rfl rfl ?_
    refine pv_iload_n (n := 26) d_M_owner_25 rfl rfl rfl ?_
    refine pv_callV (n := 29) (x := 0) [(0, a1)] [(218, 0)] (con_M_now hl0 h) pw_cf8 rfl q_502 q_503 q_504 q_458 q_501 pyo_M_now (by decide) rfl rfl (by decide) d_M_owner_26 rfl (fun w5 r6 h _ => ?_) (fun _ _ h => h.elim)
    show pw_V l g cx_M_owner Q X 29 [(10, 0), (0, a1)] [(0, r6), (218, 0)] w5
    obtain ⟨g7, h⟩ := h
    refine pv_iald (n := 30) (f := 216) (by decide) rfl d_M_owner_29 (by decide) g7 rfl ?_
    refine pv_goto (tgt := 34) d_M_owner_30 (by decide) ?_
    exact pv_iret rfl rfl d_M_owner_34 h
set_option maxHeartbeats 4000000 in
set_option maxRecDepth 20000 in
def wp_M_owner (w : pw_W) (a1 : Int32) (Q : pw_W → Int32 → Prop) (X : pw_W → Nat → Prop) : Prop := wp_M_isParcel w a1 (fun w8 r9 => (r9 = 0 → jp_M_owner_14 Q X a1 1 w8) ∧ (¬ r9 = 0 → jp_M_owner_14 Q X a1 0 w8)) (fun _ _ => False)
set_option maxHeartbeats 4000000 in
set_option maxRecDepth 20000 in
theorem vw_M_owner {l : Launch} {g : pw_G} {Q : pw_W → Int32 → Prop} {X : pw_W → Nat → Prop} (hl0 : l.stackTraces = false) {w : pw_W} {a1 : Int32} (h : wp_M_owner w a1 Q X) : pw_V l g cx_M_owner Q X 0 [(10, 0), (0, a1)] [] w := by
  unfold wp_M_owner at h
  refine pv_aload_n (n := 1) d_M_owner_0 rfl rfl rfl ?_
  refine pv_aload_n (n := 2) d_M_owner_1 rfl rfl rfl ?_
  refine pv_iload_n (n := 3) d_M_owner_2 rfl rfl rfl ?_
  refine pv_callV (n := 6) (x := 0) [(0, a1)] [(10, 0)] (con_M_isParcel hl0 h) pw_cf8 rfl q_523 q_524 q_525 q_458 q_522 pyo_M_isParcel (by decide) rfl rfl (by decide) d_M_owner_3 rfl (fun w8 r9 h _ => ?_) (fun _ _ h => h.elim)
  show pw_V l g cx_M_owner Q X 6 [(10, 0), (0, a1)] [(0, r9), (10, 0)] w8
  refine pv_if_eq (n := 9) (tgt := 13) d_M_owner_6 (by decide) rfl (fun c10 => ?_) (fun c10 => ?_)
  · replace h := h.1 c10
    refine pv_iconst (v := 1) (n := 14) d_M_owner_13 (by decide) rfl ?_
    exact vjp_M_owner_14 hl0 _ _ _ h
  · replace h := h.2 c10
    refine pv_iconst (v := 0) (n := 10) d_M_owner_9 (by decide) rfl ?_
    refine pv_goto (tgt := 14) d_M_owner_10 (by decide) ?_
    exact vjp_M_owner_14 hl0 _ _ _ h
set_option maxHeartbeats 4000000 in
set_option maxRecDepth 20000 in
theorem con_M_owner {l : Launch} {g : pw_G} {Q : pw_W → Int32 → Prop} {X : pw_W → Nat → Prop} (hl0 : l.stackTraces = false) {w : pw_W} {a1 : Int32} (h : wp_M_owner w a1 Q X) : pw_Con l g y_M_owner cx_M_owner [(10, 0), (0, a1)] w Q X :=
  pw_con (by decide +kernel) rfl rfl hl0 rfl (Nat.le_of_ble_eq_true rfl) (by simp) (vw_M_owner hl0 h)
theorem d_M_disputed_0 : decode (pw_cc cx_M_disputed) 0 = .ok (.aload_n 0, 1) := by decide +kernel
theorem d_M_disputed_1 : decode (pw_cc cx_M_disputed) 1 = .ok (.iload_n 1, 1) := by decide +kernel
theorem d_M_disputed_2 : decode (pw_cc cx_M_disputed) 2 = .ok (.invokestatic 163, 3) := by decide +kernel
theorem d_M_disputed_5 : decode (pw_cc cx_M_disputed) 5 = .ok (.ifCond .eq 7, 3) := by decide +kernel
theorem d_M_disputed_8 : decode (pw_cc cx_M_disputed) 8 = .ok (.iconst 0, 1) := by decide +kernel
theorem d_M_disputed_9 : decode (pw_cc cx_M_disputed) 9 = .ok (.goto 4, 3) := by decide +kernel
theorem d_M_disputed_12 : decode (pw_cc cx_M_disputed) 12 = .ok (.iconst 1, 1) := by decide +kernel
theorem d_M_disputed_13 : decode (pw_cc cx_M_disputed) 13 = .ok (.invokevirtual 179, 3) := by decide +kernel
theorem d_M_disputed_16 : decode (pw_cc cx_M_disputed) 16 = .ok (.ifCond .ne 5, 3) := by decide +kernel
theorem d_M_disputed_19 : decode (pw_cc cx_M_disputed) 19 = .ok (.iconst 0, 1) := by decide +kernel
theorem d_M_disputed_20 : decode (pw_cc cx_M_disputed) 20 = .ok (.ireturn, 1) := by decide +kernel
theorem d_M_disputed_21 : decode (pw_cc cx_M_disputed) 21 = .ok (.iconst 0, 1) := by decide +kernel
theorem d_M_disputed_22 : decode (pw_cc cx_M_disputed) 22 = .ok (.istore_n 2, 1) := by decide +kernel
theorem d_M_disputed_23 : decode (pw_cc cx_M_disputed) 23 = .ok (.iconst 0, 1) := by decide +kernel
theorem d_M_disputed_24 : decode (pw_cc cx_M_disputed) 24 = .ok (.istore_n 3, 1) := by decide +kernel
theorem d_M_disputed_25 : decode (pw_cc cx_M_disputed) 25 = .ok (.iload_n 3, 1) := by decide +kernel
theorem d_M_disputed_26 : decode (pw_cc cx_M_disputed) 26 = .ok (.bipush 12, 2) := by decide +kernel
theorem d_M_disputed_28 : decode (pw_cc cx_M_disputed) 28 = .ok (.if_icmp .ge 26, 3) := by decide +kernel
theorem d_M_disputed_31 : decode (pw_cc cx_M_disputed) 31 = .ok (.iload_n 2, 1) := by decide +kernel
theorem d_M_disputed_32 : decode (pw_cc cx_M_disputed) 32 = .ok (.aload_n 0, 1) := by decide +kernel
theorem d_M_disputed_33 : decode (pw_cc cx_M_disputed) 33 = .ok (.iload_n 3, 1) := by decide +kernel
theorem d_M_disputed_34 : decode (pw_cc cx_M_disputed) 34 = .ok (.iload_n 1, 1) := by decide +kernel
theorem d_M_disputed_35 : decode (pw_cc cx_M_disputed) 35 = .ok (.invokevirtual 207, 3) := by decide +kernel
theorem d_M_disputed_38 : decode (pw_cc cx_M_disputed) 38 = .ok (.ifCond .eq 7, 3) := by decide +kernel
theorem d_M_disputed_41 : decode (pw_cc cx_M_disputed) 41 = .ok (.iconst 1, 1) := by decide +kernel
theorem d_M_disputed_42 : decode (pw_cc cx_M_disputed) 42 = .ok (.goto 4, 3) := by decide +kernel
theorem d_M_disputed_45 : decode (pw_cc cx_M_disputed) 45 = .ok (.iconst 0, 1) := by decide +kernel
theorem d_M_disputed_46 : decode (pw_cc cx_M_disputed) 46 = .ok (.iadd, 1) := by decide +kernel
theorem d_M_disputed_47 : decode (pw_cc cx_M_disputed) 47 = .ok (.istore_n 2, 1) := by decide +kernel
theorem d_M_disputed_48 : decode (pw_cc cx_M_disputed) 48 = .ok (.iinc 3 1, 3) := by decide +kernel
theorem d_M_disputed_51 : decode (pw_cc cx_M_disputed) 51 = .ok (.goto (-26), 3) := by decide +kernel
theorem d_M_disputed_54 : decode (pw_cc cx_M_disputed) 54 = .ok (.iload_n 2, 1) := by decide +kernel
theorem d_M_disputed_55 : decode (pw_cc cx_M_disputed) 55 = .ok (.ireturn, 1) := by decide +kernel
set_option maxHeartbeats 4000000 in
set_option maxRecDepth 20000 in
def lp_M_disputed_25 (Q : pw_W → Int32 → Prop) (X : pw_W → Nat → Prop) : Nat → Int32 → Int32 → Int32 → pw_W → Prop := fun k => Nat.rec (motive := fun _ => Int32 → Int32 → Int32 → pw_W → Prop) (fun _ _ _ _ => False) (fun _ ih a1 a2 a3 w => ((12 : Int32) ≤ a3 → Q w a2) ∧ (¬ (12 : Int32) ≤ a3 → wp_M_isMapped w a3 a1 (fun w2 r3 => (r3 = 0 → ∀ v5, v5 = (a2 + 0) → ih a1 v5 (a3 + 1) w2) ∧ (¬ r3 = 0 → ∀ v7, v7 = (a2 + 1) → ih a1 v7 (a3 + 1) w2)) (fun _ _ => False))) k
set_option maxHeartbeats 4000000 in
set_option maxRecDepth 20000 in
theorem lp_M_disputed_25_s {Q : pw_W → Int32 → Prop} {X : pw_W → Nat → Prop}  {k : Nat} {a1 a2 a3 : Int32} {w : pw_W} : lp_M_disputed_25 Q X (k + 1) a1 a2 a3 w = (let ih := lp_M_disputed_25 Q X k; ((12 : Int32) ≤ a3 → Q w a2) ∧ (¬ (12 : Int32) ≤ a3 → wp_M_isMapped w a3 a1 (fun w2 r3 => (r3 = 0 → ∀ v5, v5 = (a2 + 0) → ih a1 v5 (a3 + 1) w2) ∧ (¬ r3 = 0 → ∀ v7, v7 = (a2 + 1) → ih a1 v7 (a3 + 1) w2)) (fun _ _ => False))) := rfl
set_option maxHeartbeats 4000000 in
set_option maxRecDepth 20000 in
theorem vlp_M_disputed_25 {l : Launch} {g : pw_G} {Q : pw_W → Int32 → Prop} {X : pw_W → Nat → Prop} (hl0 : l.stackTraces = false) : ∀ (k : Nat) (a1 a2 a3 : Int32) (w : pw_W), lp_M_disputed_25 Q X k a1 a2 a3 w → pw_V l g cx_M_disputed Q X 25 [(10, 0), (0, a1), (0, a2), (0, a3)] [] w := by
  intro k; induction k with
  | zero => intro _ _ _ _ h; exact h.elim
  | succ k ih =>
    intro a1 a2 a3 w h
    rw [lp_M_disputed_25_s] at h
    refine pv_iload_n (n := 26) d_M_disputed_25 rfl rfl rfl ?_
    refine pv_bipush (v := 12) (n := 28) d_M_disputed_26 (by decide) rfl ?_
    refine pv_icmp_ge (n := 31) (tgt := 54) d_M_disputed_28 (by decide) rfl (fun c1 => ?_) (fun c1 => ?_)
    · replace h := h.1 c1
      refine pv_iload_n (n := 55) d_M_disputed_54 rfl rfl rfl ?_
      exact pv_iret rfl rfl d_M_disputed_55 h
    · replace h := h.2 c1
      refine pv_iload_n (n := 32) d_M_disputed_31 rfl rfl rfl ?_
      refine pv_aload_n (n := 33) d_M_disputed_32 rfl rfl rfl ?_
      refine pv_iload_n (n := 34) d_M_disputed_33 rfl rfl rfl ?_
      refine pv_iload_n (n := 35) d_M_disputed_34 rfl rfl rfl ?_
      refine pv_callV (n := 38) (x := 0) [(0, a3), (0, a1)] [(0, a2)] (con_M_isMapped hl0 h) pw_cf8 rfl q_541 q_542 q_543 q_458 q_540 pyo_M_isMapped (by decide) rfl rfl (by decide) d_M_disputed_35 rfl (fun w2 r3 h _ => ?_) (fun _ _ h => h.elim)
      show pw_V l g cx_M_disputed Q X 38 [(10, 0), (0, a1), (0, a2), (0, a3)] [(0, r3), (0, a2)] w2
      refine pv_if_eq (n := 41) (tgt := 45) d_M_disputed_38 (by decide) rfl (fun c4 => ?_) (fun c4 => ?_)
      · replace h := h.1 c4
        refine pv_iconst (v := 0) (n := 46) d_M_disputed_45 (by decide) rfl ?_
        refine pv_iadd (n := 47) d_M_disputed_46 rfl ?_
        refine pv_nm (fun v5 e6 => ?_)
        replace h := h v5 e6
        refine pv_istore_n (n := 48) (L' := [(10, 0), (0, a1), (0, v5), (0, a3)]) d_M_disputed_47 rfl (by decide) rfl rfl ?_
        refine pv_iinc (v := (a3 + 1)) (n := 51) (L1 := [(10, 0), (0, a1), (0, v5), (0, (a3 + 1))]) d_M_disputed_48 rfl rfl rfl (by decide) rfl ?_
        refine pv_goto (tgt := 25) d_M_disputed_51 (by decide) ?_
        exact ih _ _ _ _ h
      · replace h := h.2 c4
        refine pv_iconst (v := 1) (n := 42) d_M_disputed_41 (by decide) rfl ?_
        refine pv_goto (tgt := 46) d_M_disputed_42 (by decide) ?_
        refine pv_iadd (n := 47) d_M_disputed_46 rfl ?_
        refine pv_nm (fun v7 e8 => ?_)
        replace h := h v7 e8
        refine pv_istore_n (n := 48) (L' := [(10, 0), (0, a1), (0, v7), (0, a3)]) d_M_disputed_47 rfl (by decide) rfl rfl ?_
        refine pv_iinc (v := (a3 + 1)) (n := 51) (L1 := [(10, 0), (0, a1), (0, v7), (0, (a3 + 1))]) d_M_disputed_48 rfl rfl rfl (by decide) rfl ?_
        refine pv_goto (tgt := 25) d_M_disputed_51 (by decide) ?_
        exact ih _ _ _ _ h
set_option maxHeartbeats 4000000 in
set_option maxRecDepth 20000 in
def jp_M_disputed_13 (Q : pw_W → Int32 → Prop) (X : pw_W → Nat → Prop) (a1 s0 : Int32) (w : pw_W) : Prop := wp_M_isFine w s0 (fun w9 r10 => (¬ r10 = 0 → ∃ k12, lp_M_disputed_25 Q X k12 a1 0 0 w9) ∧ (r10 = 0 → Q w9 0)) (fun _ _ => False)
set_option maxHeartbeats 4000000 in
set_option maxRecDepth 20000 in
theorem vjp_M_disputed_13 {l : Launch} {g : pw_G} {Q : pw_W → Int32 → Prop} {X : pw_W → Nat → Prop} (hl0 : l.stackTraces = false) (a1 s0 : Int32) (w : pw_W) (h : jp_M_disputed_13 Q X a1 s0 w) : pw_V l g cx_M_disputed Q X 13 [(10, 0), (0, a1), (1, 0), (1, 0)] [(0, s0), (10, 0)] w := by
  unfold jp_M_disputed_13 at h
  refine pv_callV (n := 16) (x := 0) [(0, s0)] [] (con_M_isFine hl0 h) pw_cf8 rfl q_506 q_507 q_508 q_458 q_505 pyo_M_isFine (by decide) rfl rfl (by decide) d_M_disputed_13 rfl (fun w9 r10 h _ => ?_) (fun _ _ h => h.elim)
  show pw_V l g cx_M_disputed Q X 16 [(10, 0), (0, a1), (1, 0), (1, 0)] [(0, r10)] w9
  refine pv_if_ne (n := 19) (tgt := 21) d_M_disputed_16 (by decide) rfl (fun c11 => ?_) (fun c11 => ?_)
  · replace h := h.1 c11
    refine pv_iconst (v := 0) (n := 22) d_M_disputed_21 (by decide) rfl ?_
    refine pv_istore_n (n := 23) (L' := [(10, 0), (0, a1), (0, 0), (1, 0)]) d_M_disputed_22 rfl (by decide) rfl rfl ?_
    refine pv_iconst (v := 0) (n := 24) d_M_disputed_23 (by decide) rfl ?_
    refine pv_istore_n (n := 25) (L' := [(10, 0), (0, a1), (0, 0), (0, 0)]) d_M_disputed_24 rfl (by decide) rfl rfl ?_
    obtain ⟨k12, h⟩ := h
    exact vlp_M_disputed_25 hl0 _ _ _ _ _ h
  · replace h := h.2 c11
    refine pv_iconst (v := 0) (n := 20) d_M_disputed_19 (by decide) rfl ?_
    exact pv_iret rfl rfl d_M_disputed_20 h
set_option maxHeartbeats 4000000 in
set_option maxRecDepth 20000 in
def wp_M_disputed (w : pw_W) (a1 : Int32) (Q : pw_W → Int32 → Prop) (X : pw_W → Nat → Prop) : Prop := wp_M_isSquare w a1 (fun w13 r14 => (r14 = 0 → jp_M_disputed_13 Q X a1 1 w13) ∧ (¬ r14 = 0 → jp_M_disputed_13 Q X a1 0 w13)) (fun _ _ => False)
set_option maxHeartbeats 4000000 in
set_option maxRecDepth 20000 in
theorem vw_M_disputed {l : Launch} {g : pw_G} {Q : pw_W → Int32 → Prop} {X : pw_W → Nat → Prop} (hl0 : l.stackTraces = false) {w : pw_W} {a1 : Int32} (h : wp_M_disputed w a1 Q X) : pw_V l g cx_M_disputed Q X 0 [(10, 0), (0, a1), (1, 0), (1, 0)] [] w := by
  unfold wp_M_disputed at h
  refine pv_aload_n (n := 1) d_M_disputed_0 rfl rfl rfl ?_
  refine pv_iload_n (n := 2) d_M_disputed_1 rfl rfl rfl ?_
  refine pv_callS (n := 5) [(0, a1)] [(10, 0)] (con_M_isSquare hl0 h) q_520 q_521 q_458 q_519 pyo_M_isSquare (by decide) rfl rfl d_M_disputed_2 rfl (fun w13 r14 h _ => ?_) (fun _ _ h => h.elim)
  show pw_V l g cx_M_disputed Q X 5 [(10, 0), (0, a1), (1, 0), (1, 0)] [(0, r14), (10, 0)] w13
  refine pv_if_eq (n := 8) (tgt := 12) d_M_disputed_5 (by decide) rfl (fun c15 => ?_) (fun c15 => ?_)
  · replace h := h.1 c15
    refine pv_iconst (v := 1) (n := 13) d_M_disputed_12 (by decide) rfl ?_
    exact vjp_M_disputed_13 hl0 _ _ _ h
  · replace h := h.2 c15
    refine pv_iconst (v := 0) (n := 9) d_M_disputed_8 (by decide) rfl ?_
    refine pv_goto (tgt := 13) d_M_disputed_9 (by decide) ?_
    exact vjp_M_disputed_13 hl0 _ _ _ h
set_option maxHeartbeats 4000000 in
set_option maxRecDepth 20000 in
theorem con_M_disputed {l : Launch} {g : pw_G} {Q : pw_W → Int32 → Prop} {X : pw_W → Nat → Prop} (hl0 : l.stackTraces = false) {w : pw_W} {a1 : Int32} (h : wp_M_disputed w a1 Q X) : pw_Con l g y_M_disputed cx_M_disputed [(10, 0), (0, a1)] w Q X :=
  pw_con (by decide +kernel) rfl rfl hl0 rfl (Nat.le_of_ble_eq_true rfl) (by simp) (vw_M_disputed hl0 h)
theorem d_M_countOf_0 : decode (pw_cc cx_M_countOf) 0 = .ok (.iconst 0, 1) := by decide +kernel
theorem d_M_countOf_1 : decode (pw_cc cx_M_countOf) 1 = .ok (.istore_n 3, 1) := by decide +kernel
theorem d_M_countOf_2 : decode (pw_cc cx_M_countOf) 2 = .ok (.iconst 0, 1) := by decide +kernel
theorem d_M_countOf_3 : decode (pw_cc cx_M_countOf) 3 = .ok (.istore 4, 2) := by decide +kernel
theorem d_M_countOf_5 : decode (pw_cc cx_M_countOf) 5 = .ok (.iload 4, 2) := by decide +kernel
theorem d_M_countOf_7 : decode (pw_cc cx_M_countOf) 7 = .ok (.bipush 100, 2) := by decide +kernel
theorem d_M_countOf_9 : decode (pw_cc cx_M_countOf) 9 = .ok (.if_icmp .ge 55, 3) := by decide +kernel
theorem d_M_countOf_12 : decode (pw_cc cx_M_countOf) 12 = .ok (.iload_n 3, 1) := by decide +kernel
theorem d_M_countOf_13 : decode (pw_cc cx_M_countOf) 13 = .ok (.iload_n 2, 1) := by decide +kernel
theorem d_M_countOf_14 : decode (pw_cc cx_M_countOf) 14 = .ok (.ifCond .eq 22, 3) := by decide +kernel
theorem d_M_countOf_17 : decode (pw_cc cx_M_countOf) 17 = .ok (.aload_n 0, 1) := by decide +kernel
theorem d_M_countOf_18 : decode (pw_cc cx_M_countOf) 18 = .ok (.getfield 28, 3) := by decide +kernel
theorem d_M_countOf_21 : decode (pw_cc cx_M_countOf) 21 = .ok (.iload 4, 2) := by decide +kernel
theorem d_M_countOf_23 : decode (pw_cc cx_M_countOf) 23 = .ok (.iaload, 1) := by decide +kernel
theorem d_M_countOf_24 : decode (pw_cc cx_M_countOf) 24 = .ok (.iload_n 1, 1) := by decide +kernel
theorem d_M_countOf_25 : decode (pw_cc cx_M_countOf) 25 = .ok (.if_icmp .ne 7, 3) := by decide +kernel
theorem d_M_countOf_28 : decode (pw_cc cx_M_countOf) 28 = .ok (.iconst 1, 1) := by decide +kernel
theorem d_M_countOf_29 : decode (pw_cc cx_M_countOf) 29 = .ok (.goto 27, 3) := by decide +kernel
theorem d_M_countOf_32 : decode (pw_cc cx_M_countOf) 32 = .ok (.iconst 0, 1) := by decide +kernel
theorem d_M_countOf_33 : decode (pw_cc cx_M_countOf) 33 = .ok (.goto 23, 3) := by decide +kernel
theorem d_M_countOf_36 : decode (pw_cc cx_M_countOf) 36 = .ok (.aload_n 0, 1) := by decide +kernel
theorem d_M_countOf_37 : decode (pw_cc cx_M_countOf) 37 = .ok (.getfield 95, 3) := by decide +kernel
theorem d_M_countOf_40 : decode (pw_cc cx_M_countOf) 40 = .ok (.bipush 100, 2) := by decide +kernel
theorem d_M_countOf_42 : decode (pw_cc cx_M_countOf) 42 = .ok (.iload_n 1, 1) := by decide +kernel
theorem d_M_countOf_43 : decode (pw_cc cx_M_countOf) 43 = .ok (.imul, 1) := by decide +kernel
theorem d_M_countOf_44 : decode (pw_cc cx_M_countOf) 44 = .ok (.iload 4, 2) := by decide +kernel
theorem d_M_countOf_46 : decode (pw_cc cx_M_countOf) 46 = .ok (.iadd, 1) := by decide +kernel
theorem d_M_countOf_47 : decode (pw_cc cx_M_countOf) 47 = .ok (.baload, 1) := by decide +kernel
theorem d_M_countOf_48 : decode (pw_cc cx_M_countOf) 48 = .ok (.ifCond .eq 7, 3) := by decide +kernel
theorem d_M_countOf_51 : decode (pw_cc cx_M_countOf) 51 = .ok (.iconst 1, 1) := by decide +kernel
theorem d_M_countOf_52 : decode (pw_cc cx_M_countOf) 52 = .ok (.goto 4, 3) := by decide +kernel
theorem d_M_countOf_55 : decode (pw_cc cx_M_countOf) 55 = .ok (.iconst 0, 1) := by decide +kernel
theorem d_M_countOf_56 : decode (pw_cc cx_M_countOf) 56 = .ok (.iadd, 1) := by decide +kernel
theorem d_M_countOf_57 : decode (pw_cc cx_M_countOf) 57 = .ok (.istore_n 3, 1) := by decide +kernel
theorem d_M_countOf_58 : decode (pw_cc cx_M_countOf) 58 = .ok (.iinc 4 1, 3) := by decide +kernel
theorem d_M_countOf_61 : decode (pw_cc cx_M_countOf) 61 = .ok (.goto (-56), 3) := by decide +kernel
theorem d_M_countOf_64 : decode (pw_cc cx_M_countOf) 64 = .ok (.iload_n 3, 1) := by decide +kernel
theorem d_M_countOf_65 : decode (pw_cc cx_M_countOf) 65 = .ok (.ireturn, 1) := by decide +kernel
set_option maxHeartbeats 4000000 in
set_option maxRecDepth 20000 in
def lp_M_countOf_5 (Q : pw_W → Int32 → Prop) (X : pw_W → Nat → Prop) : Nat → Int32 → Int32 → Int32 → Int32 → pw_W → Prop := fun k => Nat.rec (motive := fun _ => Int32 → Int32 → Int32 → Int32 → pw_W → Prop) (fun _ _ _ _ _ => False) (fun _ ih a1 a2 a3 a4 w => ((100 : Int32) ≤ a4 → Q w a3) ∧ (¬ (100 : Int32) ≤ a4 → (a2 = 0 → w.1 8 0 37 = 0 ∧ pw_jn (((100 : Int32) * a1) + a4) (pw_ln w 237 0) ∧ ((w.1 237 0 (pw_i (((100 : Int32) * a1) + a4))) = 0 → ∀ v6, v6 = (a3 + 0) → ih a1 a2 v6 (a4 + 1) w) ∧ (¬ (w.1 237 0 (pw_i (((100 : Int32) * a1) + a4))) = 0 → ∀ v8, v8 = (a3 + 1) → ih a1 a2 v8 (a4 + 1) w)) ∧ (¬ a2 = 0 → w.1 8 0 12 = 0 ∧ pw_jn a4 (pw_ln w 212 0) ∧ (¬ (w.1 212 0 (pw_i a4)) = a1 → ∀ v13, v13 = (a3 + 0) → ih a1 a2 v13 (a4 + 1) w) ∧ ((w.1 212 0 (pw_i a4)) = a1 → ∀ v15, v15 = (a3 + 1) → ih a1 a2 v15 (a4 + 1) w)))) k
set_option maxHeartbeats 4000000 in
set_option maxRecDepth 20000 in
theorem lp_M_countOf_5_s {Q : pw_W → Int32 → Prop} {X : pw_W → Nat → Prop}  {k : Nat} {a1 a2 a3 a4 : Int32} {w : pw_W} : lp_M_countOf_5 Q X (k + 1) a1 a2 a3 a4 w = (let ih := lp_M_countOf_5 Q X k; ((100 : Int32) ≤ a4 → Q w a3) ∧ (¬ (100 : Int32) ≤ a4 → (a2 = 0 → w.1 8 0 37 = 0 ∧ pw_jn (((100 : Int32) * a1) + a4) (pw_ln w 237 0) ∧ ((w.1 237 0 (pw_i (((100 : Int32) * a1) + a4))) = 0 → ∀ v6, v6 = (a3 + 0) → ih a1 a2 v6 (a4 + 1) w) ∧ (¬ (w.1 237 0 (pw_i (((100 : Int32) * a1) + a4))) = 0 → ∀ v8, v8 = (a3 + 1) → ih a1 a2 v8 (a4 + 1) w)) ∧ (¬ a2 = 0 → w.1 8 0 12 = 0 ∧ pw_jn a4 (pw_ln w 212 0) ∧ (¬ (w.1 212 0 (pw_i a4)) = a1 → ∀ v13, v13 = (a3 + 0) → ih a1 a2 v13 (a4 + 1) w) ∧ ((w.1 212 0 (pw_i a4)) = a1 → ∀ v15, v15 = (a3 + 1) → ih a1 a2 v15 (a4 + 1) w)))) := rfl
set_option maxHeartbeats 4000000 in
set_option maxRecDepth 20000 in
theorem vlp_M_countOf_5 {l : Launch} {g : pw_G} {Q : pw_W → Int32 → Prop} {X : pw_W → Nat → Prop} (hl0 : l.stackTraces = false) : ∀ (k : Nat) (a1 a2 a3 a4 : Int32) (w : pw_W), lp_M_countOf_5 Q X k a1 a2 a3 a4 w → pw_V l g cx_M_countOf Q X 5 [(10, 0), (0, a1), (0, a2), (0, a3), (0, a4)] [] w := by
  intro k; induction k with
  | zero => intro _ _ _ _ _ h; exact h.elim
  | succ k ih =>
    intro a1 a2 a3 a4 w h
    rw [lp_M_countOf_5_s] at h
    refine pv_iload (n := 7) d_M_countOf_5 rfl rfl ?_
    refine pv_bipush (v := 100) (n := 9) d_M_countOf_7 (by decide) rfl ?_
    refine pv_icmp_ge (n := 12) (tgt := 64) d_M_countOf_9 (by decide) rfl (fun c1 => ?_) (fun c1 => ?_)
    · replace h := h.1 c1
      refine pv_iload_n (n := 65) d_M_countOf_64 rfl rfl rfl ?_
      exact pv_iret rfl rfl d_M_countOf_65 h
    · replace h := h.2 c1
      refine pv_iload_n (n := 13) d_M_countOf_12 rfl rfl rfl ?_
      refine pv_iload_n (n := 14) d_M_countOf_13 rfl rfl rfl ?_
      refine pv_if_eq (n := 17) (tgt := 36) d_M_countOf_14 (by decide) rfl (fun c2 => ?_) (fun c2 => ?_)
      · replace h := h.1 c2
        refine pv_aload_n (n := 37) d_M_countOf_36 rfl rfl rfl ?_
        obtain ⟨g3, h⟩ := h
        refine gt_M_95 (n := 40) rfl d_M_countOf_37 (by decide) g3 rfl ?_
        refine pv_bipush (v := 100) (n := 42) d_M_countOf_40 (by decide) rfl ?_
        refine pv_iload_n (n := 43) d_M_countOf_42 rfl rfl rfl ?_
        refine pv_imul (n := 44) d_M_countOf_43 rfl ?_
        refine pv_iload (n := 46) d_M_countOf_44 rfl rfl ?_
        refine pv_iadd (n := 47) d_M_countOf_46 rfl ?_
        obtain ⟨g4, h⟩ := h
        refine pv_zald (n := 48) (f := 237) (by decide) rfl d_M_countOf_47 (by decide) g4 rfl ?_
        refine pv_if_eq (n := 51) (tgt := 55) d_M_countOf_48 (by decide) rfl (fun c5 => ?_) (fun c5 => ?_)
        · replace h := h.1 c5
          refine pv_iconst (v := 0) (n := 56) d_M_countOf_55 (by decide) rfl ?_
          refine pv_iadd (n := 57) d_M_countOf_56 rfl ?_
          refine pv_nm (fun v6 e7 => ?_)
          replace h := h v6 e7
          refine pv_istore_n (n := 58) (L' := [(10, 0), (0, a1), (0, a2), (0, v6), (0, a4)]) d_M_countOf_57 rfl (by decide) rfl rfl ?_
          refine pv_iinc (v := (a4 + 1)) (n := 61) (L1 := [(10, 0), (0, a1), (0, a2), (0, v6), (0, (a4 + 1))]) d_M_countOf_58 rfl rfl rfl (by decide) rfl ?_
          refine pv_goto (tgt := 5) d_M_countOf_61 (by decide) ?_
          exact ih _ _ _ _ _ h
        · replace h := h.2 c5
          refine pv_iconst (v := 1) (n := 52) d_M_countOf_51 (by decide) rfl ?_
          refine pv_goto (tgt := 56) d_M_countOf_52 (by decide) ?_
          refine pv_iadd (n := 57) d_M_countOf_56 rfl ?_
          refine pv_nm (fun v8 e9 => ?_)
          replace h := h v8 e9
          refine pv_istore_n (n := 58) (L' := [(10, 0), (0, a1), (0, a2), (0, v8), (0, a4)]) d_M_countOf_57 rfl (by decide) rfl rfl ?_
          refine pv_iinc (v := (a4 + 1)) (n := 61) (L1 := [(10, 0), (0, a1), (0, a2), (0, v8), (0, (a4 + 1))]) d_M_countOf_58 rfl rfl rfl (by decide) rfl ?_
          refine pv_goto (tgt := 5) d_M_countOf_61 (by decide) ?_
          exact ih _ _ _ _ _ h
      · replace h := h.2 c2
        refine pv_aload_n (n := 18) d_M_countOf_17 rfl rfl rfl ?_
        obtain ⟨g10, h⟩ := h
        refine gt_M_28 (n := 21) rfl d_M_countOf_18 (by decide) g10 rfl ?_
        refine pv_iload (n := 23) d_M_countOf_21 rfl rfl ?_
        obtain ⟨g11, h⟩ := h
        refine pv_iald (n := 24) (f := 212) (by decide) rfl d_M_countOf_23 (by decide) g11 rfl ?_
        refine pv_iload_n (n := 25) d_M_countOf_24 rfl rfl rfl ?_
        refine pv_icmp_ne (n := 28) (tgt := 32) d_M_countOf_25 (by decide) rfl (fun c12 => ?_) (fun c12 => ?_)
        · replace h := h.1 c12
          refine pv_iconst (v := 0) (n := 33) d_M_countOf_32 (by decide) rfl ?_
          refine pv_goto (tgt := 56) d_M_countOf_33 (by decide) ?_
          refine pv_iadd (n := 57) d_M_countOf_56 rfl ?_
          refine pv_nm (fun v13 e14 => ?_)
          replace h := h v13 e14
          refine pv_istore_n (n := 58) (L' := [(10, 0), (0, a1), (0, a2), (0, v13), (0, a4)]) d_M_countOf_57 rfl (by decide) rfl rfl ?_
          refine pv_iinc (v := (a4 + 1)) (n := 61) (L1 := [(10, 0), (0, a1), (0, a2), (0, v13), (0, (a4 + 1))]) d_M_countOf_58 rfl rfl rfl (by decide) rfl ?_
          refine pv_goto (tgt := 5) d_M_countOf_61 (by decide) ?_
          exact ih _ _ _ _ _ h
        · replace h := h.2 c12
          refine pv_iconst (v := 1) (n := 29) d_M_countOf_28 (by decide) rfl ?_
          refine pv_goto (tgt := 56) d_M_countOf_29 (by decide) ?_
          refine pv_iadd (n := 57) d_M_countOf_56 rfl ?_
          refine pv_nm (fun v15 e16 => ?_)
          replace h := h v15 e16
          refine pv_istore_n (n := 58) (L' := [(10, 0), (0, a1), (0, a2), (0, v15), (0, a4)]) d_M_countOf_57 rfl (by decide) rfl rfl ?_
          refine pv_iinc (v := (a4 + 1)) (n := 61) (L1 := [(10, 0), (0, a1), (0, a2), (0, v15), (0, (a4 + 1))]) d_M_countOf_58 rfl rfl rfl (by decide) rfl ?_
          refine pv_goto (tgt := 5) d_M_countOf_61 (by decide) ?_
          exact ih _ _ _ _ _ h
set_option maxHeartbeats 4000000 in
set_option maxRecDepth 20000 in
def wp_M_countOf (w : pw_W) (a1 a2 : Int32) (Q : pw_W → Int32 → Prop) (X : pw_W → Nat → Prop) : Prop := ∃ k17, lp_M_countOf_5 Q X k17 a1 a2 0 0 w
set_option maxHeartbeats 4000000 in
set_option maxRecDepth 20000 in
theorem vw_M_countOf {l : Launch} {g : pw_G} {Q : pw_W → Int32 → Prop} {X : pw_W → Nat → Prop} (hl0 : l.stackTraces = false) {w : pw_W} {a1 a2 : Int32} (h : wp_M_countOf w a1 a2 Q X) : pw_V l g cx_M_countOf Q X 0 [(10, 0), (0, a1), (0, a2), (1, 0), (1, 0)] [] w := by
  unfold wp_M_countOf at h
  refine pv_iconst (v := 0) (n := 1) d_M_countOf_0 (by decide) rfl ?_
  refine pv_istore_n (n := 2) (L' := [(10, 0), (0, a1), (0, a2), (0, 0), (1, 0)]) d_M_countOf_1 rfl (by decide) rfl rfl ?_
  refine pv_iconst (v := 0) (n := 3) d_M_countOf_2 (by decide) rfl ?_
  refine pv_istore (n := 5) (L' := [(10, 0), (0, a1), (0, a2), (0, 0), (0, 0)]) d_M_countOf_3 (by decide) rfl rfl ?_
  obtain ⟨k17, h⟩ := h
  exact vlp_M_countOf_5 hl0 _ _ _ _ _ _ h
set_option maxHeartbeats 4000000 in
set_option maxRecDepth 20000 in
theorem con_M_countOf {l : Launch} {g : pw_G} {Q : pw_W → Int32 → Prop} {X : pw_W → Nat → Prop} (hl0 : l.stackTraces = false) {w : pw_W} {a1 a2 : Int32} (h : wp_M_countOf w a1 a2 Q X) : pw_Con l g y_M_countOf cx_M_countOf [(10, 0), (0, a1), (0, a2)] w Q X :=
  pw_con (by decide +kernel) rfl rfl hl0 rfl (Nat.le_of_ble_eq_true rfl) (by simp) (vw_M_countOf hl0 h)
theorem d_M_caseAt_0 : decode (pw_cc cx_M_caseAt) 0 = .ok (.aload_n 0, 1) := by decide +kernel
theorem d_M_caseAt_1 : decode (pw_cc cx_M_caseAt) 1 = .ok (.aload_n 0, 1) := by decide +kernel
theorem d_M_caseAt_2 : decode (pw_cc cx_M_caseAt) 2 = .ok (.iload_n 1, 1) := by decide +kernel
theorem d_M_caseAt_3 : decode (pw_cc cx_M_caseAt) 3 = .ok (.invokevirtual 218, 3) := by decide +kernel
theorem d_M_caseAt_6 : decode (pw_cc cx_M_caseAt) 6 = .ok (.ifCond .eq 16, 3) := by decide +kernel
theorem d_M_caseAt_9 : decode (pw_cc cx_M_caseAt) 9 = .ok (.iload_n 2, 1) := by decide +kernel
theorem d_M_caseAt_10 : decode (pw_cc cx_M_caseAt) 10 = .ok (.iconst 0, 1) := by decide +kernel
theorem d_M_caseAt_11 : decode (pw_cc cx_M_caseAt) 11 = .ok (.iconst 3, 1) := by decide +kernel
theorem d_M_caseAt_12 : decode (pw_cc cx_M_caseAt) 12 = .ok (.invokestatic 124, 3) := by decide +kernel
theorem d_M_caseAt_15 : decode (pw_cc cx_M_caseAt) 15 = .ok (.ifCond .eq 7, 3) := by decide +kernel
theorem d_M_caseAt_18 : decode (pw_cc cx_M_caseAt) 18 = .ok (.iconst 0, 1) := by decide +kernel
theorem d_M_caseAt_19 : decode (pw_cc cx_M_caseAt) 19 = .ok (.goto 4, 3) := by decide +kernel
theorem d_M_caseAt_22 : decode (pw_cc cx_M_caseAt) 22 = .ok (.iconst 1, 1) := by decide +kernel
theorem d_M_caseAt_23 : decode (pw_cc cx_M_caseAt) 23 = .ok (.invokevirtual 179, 3) := by decide +kernel
theorem d_M_caseAt_26 : decode (pw_cc cx_M_caseAt) 26 = .ok (.ifCond .ne 5, 3) := by decide +kernel
theorem d_M_caseAt_29 : decode (pw_cc cx_M_caseAt) 29 = .ok (.iconst 0, 1) := by decide +kernel
theorem d_M_caseAt_30 : decode (pw_cc cx_M_caseAt) 30 = .ok (.ireturn, 1) := by decide +kernel
theorem d_M_caseAt_31 : decode (pw_cc cx_M_caseAt) 31 = .ok (.iload_n 2, 1) := by decide +kernel
theorem d_M_caseAt_32 : decode (pw_cc cx_M_caseAt) 32 = .ok (.ifCond .ne 12, 3) := by decide +kernel
theorem d_M_caseAt_35 : decode (pw_cc cx_M_caseAt) 35 = .ok (.aload_n 0, 1) := by decide +kernel
theorem d_M_caseAt_36 : decode (pw_cc cx_M_caseAt) 36 = .ok (.getfield 80, 3) := by decide +kernel
theorem d_M_caseAt_39 : decode (pw_cc cx_M_caseAt) 39 = .ok (.iload_n 1, 1) := by decide +kernel
theorem d_M_caseAt_40 : decode (pw_cc cx_M_caseAt) 40 = .ok (.iaload, 1) := by decide +kernel
theorem d_M_caseAt_41 : decode (pw_cc cx_M_caseAt) 41 = .ok (.goto 32, 3) := by decide +kernel
theorem d_M_caseAt_44 : decode (pw_cc cx_M_caseAt) 44 = .ok (.iload_n 2, 1) := by decide +kernel
theorem d_M_caseAt_45 : decode (pw_cc cx_M_caseAt) 45 = .ok (.iconst 1, 1) := by decide +kernel
theorem d_M_caseAt_46 : decode (pw_cc cx_M_caseAt) 46 = .ok (.if_icmp .ne 12, 3) := by decide +kernel
theorem d_M_caseAt_49 : decode (pw_cc cx_M_caseAt) 49 = .ok (.aload_n 0, 1) := by decide +kernel
theorem d_M_caseAt_50 : decode (pw_cc cx_M_caseAt) 50 = .ok (.getfield 83, 3) := by decide +kernel
theorem d_M_caseAt_53 : decode (pw_cc cx_M_caseAt) 53 = .ok (.iload_n 1, 1) := by decide +kernel
theorem d_M_caseAt_54 : decode (pw_cc cx_M_caseAt) 54 = .ok (.iaload, 1) := by decide +kernel
theorem d_M_caseAt_55 : decode (pw_cc cx_M_caseAt) 55 = .ok (.goto 18, 3) := by decide +kernel
theorem d_M_caseAt_58 : decode (pw_cc cx_M_caseAt) 58 = .ok (.aload_n 0, 1) := by decide +kernel
theorem d_M_caseAt_59 : decode (pw_cc cx_M_caseAt) 59 = .ok (.iload_n 1, 1) := by decide +kernel
theorem d_M_caseAt_60 : decode (pw_cc cx_M_caseAt) 60 = .ok (.iload_n 2, 1) := by decide +kernel
theorem d_M_caseAt_61 : decode (pw_cc cx_M_caseAt) 61 = .ok (.iconst 3, 1) := by decide +kernel
theorem d_M_caseAt_62 : decode (pw_cc cx_M_caseAt) 62 = .ok (.if_icmp .ne 7, 3) := by decide +kernel
theorem d_M_caseAt_65 : decode (pw_cc cx_M_caseAt) 65 = .ok (.iconst 1, 1) := by decide +kernel
theorem d_M_caseAt_66 : decode (pw_cc cx_M_caseAt) 66 = .ok (.goto 4, 3) := by decide +kernel
theorem d_M_caseAt_69 : decode (pw_cc cx_M_caseAt) 69 = .ok (.iconst 0, 1) := by decide +kernel
theorem d_M_caseAt_70 : decode (pw_cc cx_M_caseAt) 70 = .ok (.invokevirtual 306, 3) := by decide +kernel
theorem d_M_caseAt_73 : decode (pw_cc cx_M_caseAt) 73 = .ok (.ireturn, 1) := by decide +kernel
set_option maxHeartbeats 4000000 in
set_option maxRecDepth 20000 in
def jp_M_caseAt_70 (Q : pw_W → Int32 → Prop) (X : pw_W → Nat → Prop) (s0 s1 : Int32) (w : pw_W) : Prop := wp_M_countOf w s1 s0 (fun w1 r2 => Q w1 r2) (fun _ _ => False)
set_option maxHeartbeats 4000000 in
set_option maxRecDepth 20000 in
theorem vjp_M_caseAt_70 {l : Launch} {g : pw_G} {Q : pw_W → Int32 → Prop} {X : pw_W → Nat → Prop} (hl0 : l.stackTraces = false) (s0 s1 : Int32) (w : pw_W) (h : jp_M_caseAt_70 Q X s0 s1 w) : pw_V l g cx_M_caseAt Q X 70 [(1, 0), (1, 0), (1, 0)] [(0, s0), (0, s1), (10, 0)] w := by
  unfold jp_M_caseAt_70 at h
  refine pv_callV (n := 73) (x := 0) [(0, s1), (0, s0)] [] (con_M_countOf hl0 h) pw_cf8 rfl q_653 q_654 q_655 q_458 q_652 pyo_M_countOf (by decide) rfl rfl (by decide) d_M_caseAt_70 rfl (fun w1 r2 h _ => ?_) (fun _ _ h => h.elim)
  show pw_V l g cx_M_caseAt Q X 73 [(1, 0), (1, 0), (1, 0)] [(0, r2)] w1
  exact pv_iret rfl rfl d_M_caseAt_73 h
set_option maxHeartbeats 4000000 in
set_option maxRecDepth 20000 in
def jp_M_caseAt_23 (Q : pw_W → Int32 → Prop) (X : pw_W → Nat → Prop) (a1 a2 s0 : Int32) (w : pw_W) : Prop := wp_M_isFine w s0 (fun w3 r4 => (¬ r4 = 0 → (¬ a2 = 0 → (¬ a2 = 1 → (¬ a2 = 3 → jp_M_caseAt_70 Q X 0 a1 w3) ∧ (a2 = 3 → jp_M_caseAt_70 Q X 1 a1 w3)) ∧ (a2 = 1 → w3.1 8 0 33 = 0 ∧ pw_jn a1 (pw_ln w3 233 0) ∧ Q w3 (w3.1 233 0 (pw_i a1)))) ∧ (a2 = 0 → w3.1 8 0 32 = 0 ∧ pw_jn a1 (pw_ln w3 232 0) ∧ Q w3 (w3.1 232 0 (pw_i a1)))) ∧ (r4 = 0 → Q w3 0)) (fun _ _ => False)
set_option maxHeartbeats 4000000 in
set_option maxRecDepth 20000 in
theorem vjp_M_caseAt_23 {l : Launch} {g : pw_G} {Q : pw_W → Int32 → Prop} {X : pw_W → Nat → Prop} (hl0 : l.stackTraces = false) (a1 a2 s0 : Int32) (w : pw_W) (h : jp_M_caseAt_23 Q X a1 a2 s0 w) : pw_V l g cx_M_caseAt Q X 23 [(10, 0), (0, a1), (0, a2)] [(0, s0), (10, 0)] w := by
  unfold jp_M_caseAt_23 at h
  refine pv_callV (n := 26) (x := 0) [(0, s0)] [] (con_M_isFine hl0 h) pw_cf8 rfl q_506 q_507 q_508 q_458 q_505 pyo_M_isFine (by decide) rfl rfl (by decide) d_M_caseAt_23 rfl (fun w3 r4 h _ => ?_) (fun _ _ h => h.elim)
  show pw_V l g cx_M_caseAt Q X 26 [(10, 0), (0, a1), (0, a2)] [(0, r4)] w3
  refine pv_if_ne (n := 29) (tgt := 31) d_M_caseAt_26 (by decide) rfl (fun c5 => ?_) (fun c5 => ?_)
  · replace h := h.1 c5
    refine pv_iload_n (n := 32) d_M_caseAt_31 rfl rfl rfl ?_
    refine pv_if_ne (n := 35) (tgt := 44) d_M_caseAt_32 (by decide) rfl (fun c6 => ?_) (fun c6 => ?_)
    · replace h := h.1 c6
      refine pv_iload_n (n := 45) d_M_caseAt_44 rfl rfl rfl ?_
      refine pv_iconst (v := 1) (n := 46) d_M_caseAt_45 (by decide) rfl ?_
      refine pv_icmp_ne (n := 49) (tgt := 58) d_M_caseAt_46 (by decide) rfl (fun c7 => ?_) (fun c7 => ?_)
      · replace h := h.1 c7
        refine pv_aload_n (n := 59) d_M_caseAt_58 rfl rfl rfl ?_
        refine pv_iload_n (n := 60) d_M_caseAt_59 rfl rfl rfl ?_
        refine pv_iload_n (n := 61) d_M_caseAt_60 rfl rfl rfl ?_
        refine pv_iconst (v := 3) (n := 62) d_M_caseAt_61 (by decide) rfl ?_
        refine pv_icmp_ne (n := 65) (tgt := 69) d_M_caseAt_62 (by decide) rfl (fun c8 => ?_) (fun c8 => ?_)
        · replace h := h.1 c8
          refine pv_iconst (v := 0) (n := 70) d_M_caseAt_69 (by decide) rfl ?_
          refine pv_unset (i := 0) (L1 := [(1, 0), (0, a1), (0, a2)]) rfl ?_
          refine pv_unset (i := 1) (L1 := [(1, 0), (1, 0), (0, a2)]) rfl ?_
          refine pv_unset (i := 2) (L1 := [(1, 0), (1, 0), (1, 0)]) rfl ?_
          exact vjp_M_caseAt_70 hl0 _ _ _ h
        · replace h := h.2 c8
          refine pv_iconst (v := 1) (n := 66) d_M_caseAt_65 (by decide) rfl ?_
          refine pv_goto (tgt := 70) d_M_caseAt_66 (by decide) ?_
          refine pv_unset (i := 0) (L1 := [(1, 0), (0, a1), (0, a2)]) rfl ?_
          refine pv_unset (i := 1) (L1 := [(1, 0), (1, 0), (0, a2)]) rfl ?_
          refine pv_unset (i := 2) (L1 := [(1, 0), (1, 0), (1, 0)]) rfl ?_
          exact vjp_M_caseAt_70 hl0 _ _ _ h
      · replace h := h.2 c7
        refine pv_aload_n (n := 50) d_M_caseAt_49 rfl rfl rfl ?_
        obtain ⟨g9, h⟩ := h
        refine gt_M_83 (n := 53) rfl d_M_caseAt_50 (by decide) g9 rfl ?_
        refine pv_iload_n (n := 54) d_M_caseAt_53 rfl rfl rfl ?_
        obtain ⟨g10, h⟩ := h
        refine pv_iald (n := 55) (f := 233) (by decide) rfl d_M_caseAt_54 (by decide) g10 rfl ?_
        refine pv_goto (tgt := 73) d_M_caseAt_55 (by decide) ?_
        exact pv_iret rfl rfl d_M_caseAt_73 h
    · replace h := h.2 c6
      refine pv_aload_n (n := 36) d_M_caseAt_35 rfl rfl rfl ?_
      obtain ⟨g11, h⟩ := h
      refine gt_M_80 (n := 39) rfl d_M_caseAt_36 (by decide) g11 rfl ?_
      refine pv_iload_n (n := 40) d_M_caseAt_39 rfl rfl rfl ?_
      obtain ⟨g12, h⟩ := h
      refine pv_iald (n := 41) (f := 232) (by decide) rfl d_M_caseAt_40 (by decide) g12 rfl ?_
      refine pv_goto (tgt := 73) d_M_caseAt_41 (by decide) ?_
      exact pv_iret rfl rfl d_M_caseAt_73 h
  · replace h := h.2 c5
    refine pv_iconst (v := 0) (n := 30) d_M_caseAt_29 (by decide) rfl ?_
    exact pv_iret rfl rfl d_M_caseAt_30 h
set_option maxHeartbeats 4000000 in
set_option maxRecDepth 20000 in
def jp_M_caseAt_22 (Q : pw_W → Int32 → Prop) (X : pw_W → Nat → Prop) (a1 a2 : Int32) (w : pw_W) : Prop := jp_M_caseAt_23 Q X a1 a2 1 w
set_option maxHeartbeats 4000000 in
set_option maxRecDepth 20000 in
theorem vjp_M_caseAt_22 {l : Launch} {g : pw_G} {Q : pw_W → Int32 → Prop} {X : pw_W → Nat → Prop} (hl0 : l.stackTraces = false) (a1 a2 : Int32) (w : pw_W) (h : jp_M_caseAt_22 Q X a1 a2 w) : pw_V l g cx_M_caseAt Q X 22 [(10, 0), (0, a1), (0, a2)] [(10, 0)] w := by
  unfold jp_M_caseAt_22 at h
  refine pv_iconst (v := 1) (n := 23) d_M_caseAt_22 (by decide) rfl ?_
  exact vjp_M_caseAt_23 hl0 _ _ _ _ h
set_option maxHeartbeats 4000000 in
set_option maxRecDepth 20000 in
def wp_M_caseAt (w : pw_W) (a1 a2 : Int32) (Q : pw_W → Int32 → Prop) (X : pw_W → Nat → Prop) : Prop := wp_M_isCase w a1 (fun w13 r14 => (r14 = 0 → jp_M_caseAt_22 Q X a1 a2 w13) ∧ (¬ r14 = 0 → wp_M_isIn w13 a2 0 3 (fun w16 r17 => (r17 = 0 → jp_M_caseAt_22 Q X a1 a2 w16) ∧ (¬ r17 = 0 → jp_M_caseAt_23 Q X a1 a2 0 w16)) (fun _ _ => False))) (fun _ _ => False)
set_option maxHeartbeats 4000000 in
set_option maxRecDepth 20000 in
theorem vw_M_caseAt {l : Launch} {g : pw_G} {Q : pw_W → Int32 → Prop} {X : pw_W → Nat → Prop} (hl0 : l.stackTraces = false) {w : pw_W} {a1 a2 : Int32} (h : wp_M_caseAt w a1 a2 Q X) : pw_V l g cx_M_caseAt Q X 0 [(10, 0), (0, a1), (0, a2)] [] w := by
  unfold wp_M_caseAt at h
  refine pv_aload_n (n := 1) d_M_caseAt_0 rfl rfl rfl ?_
  refine pv_aload_n (n := 2) d_M_caseAt_1 rfl rfl rfl ?_
  refine pv_iload_n (n := 3) d_M_caseAt_2 rfl rfl rfl ?_
  refine pv_callV (n := 6) (x := 0) [(0, a1)] [(10, 0)] (con_M_isCase hl0 h) pw_cf8 rfl q_553 q_554 q_555 q_458 q_552 pyo_M_isCase (by decide) rfl rfl (by decide) d_M_caseAt_3 rfl (fun w13 r14 h _ => ?_) (fun _ _ h => h.elim)
  show pw_V l g cx_M_caseAt Q X 6 [(10, 0), (0, a1), (0, a2)] [(0, r14), (10, 0)] w13
  refine pv_if_eq (n := 9) (tgt := 22) d_M_caseAt_6 (by decide) rfl (fun c15 => ?_) (fun c15 => ?_)
  · replace h := h.1 c15
    exact vjp_M_caseAt_22 hl0 _ _ _ h
  · replace h := h.2 c15
    refine pv_iload_n (n := 10) d_M_caseAt_9 rfl rfl rfl ?_
    refine pv_iconst (v := 0) (n := 11) d_M_caseAt_10 (by decide) rfl ?_
    refine pv_iconst (v := 3) (n := 12) d_M_caseAt_11 (by decide) rfl ?_
    refine pv_callS (n := 15) [(0, a2), (0, 0), (0, 3)] [(10, 0)] (con_M_isIn hl0 h) q_459 q_460 q_458 q_457 pyo_M_isIn (by decide) rfl rfl d_M_caseAt_12 rfl (fun w16 r17 h _ => ?_) (fun _ _ h => h.elim)
    show pw_V l g cx_M_caseAt Q X 15 [(10, 0), (0, a1), (0, a2)] [(0, r17), (10, 0)] w16
    refine pv_if_eq (n := 18) (tgt := 22) d_M_caseAt_15 (by decide) rfl (fun c18 => ?_) (fun c18 => ?_)
    · replace h := h.1 c18
      exact vjp_M_caseAt_22 hl0 _ _ _ h
    · replace h := h.2 c18
      refine pv_iconst (v := 0) (n := 19) d_M_caseAt_18 (by decide) rfl ?_
      refine pv_goto (tgt := 23) d_M_caseAt_19 (by decide) ?_
      exact vjp_M_caseAt_23 hl0 _ _ _ _ h
set_option maxHeartbeats 4000000 in
set_option maxRecDepth 20000 in
theorem con_M_caseAt {l : Launch} {g : pw_G} {Q : pw_W → Int32 → Prop} {X : pw_W → Nat → Prop} (hl0 : l.stackTraces = false) {w : pw_W} {a1 a2 : Int32} (h : wp_M_caseAt w a1 a2 Q X) : pw_Con l g y_M_caseAt cx_M_caseAt [(10, 0), (0, a1), (0, a2)] w Q X :=
  pw_con (by decide +kernel) rfl rfl hl0 rfl (Nat.le_of_ble_eq_true rfl) (by simp) (vw_M_caseAt hl0 h)
theorem d_M_rightAt_0 : decode (pw_cc cx_M_rightAt) 0 = .ok (.aload_n 0, 1) := by decide +kernel
theorem d_M_rightAt_1 : decode (pw_cc cx_M_rightAt) 1 = .ok (.iload_n 1, 1) := by decide +kernel
theorem d_M_rightAt_2 : decode (pw_cc cx_M_rightAt) 2 = .ok (.iconst 0, 1) := by decide +kernel
theorem d_M_rightAt_3 : decode (pw_cc cx_M_rightAt) 3 = .ok (.aload_n 0, 1) := by decide +kernel
theorem d_M_rightAt_4 : decode (pw_cc cx_M_rightAt) 4 = .ok (.getfield 131, 3) := by decide +kernel
theorem d_M_rightAt_7 : decode (pw_cc cx_M_rightAt) 7 = .ok (.iconst 1, 1) := by decide +kernel
theorem d_M_rightAt_8 : decode (pw_cc cx_M_rightAt) 8 = .ok (.isub, 1) := by decide +kernel
theorem d_M_rightAt_9 : decode (pw_cc cx_M_rightAt) 9 = .ok (.invokestatic 124, 3) := by decide +kernel
theorem d_M_rightAt_12 : decode (pw_cc cx_M_rightAt) 12 = .ok (.ifCond .eq 16, 3) := by decide +kernel
theorem d_M_rightAt_15 : decode (pw_cc cx_M_rightAt) 15 = .ok (.iload_n 2, 1) := by decide +kernel
theorem d_M_rightAt_16 : decode (pw_cc cx_M_rightAt) 16 = .ok (.iconst 0, 1) := by decide +kernel
theorem d_M_rightAt_17 : decode (pw_cc cx_M_rightAt) 17 = .ok (.iconst 4, 1) := by decide +kernel
theorem d_M_rightAt_18 : decode (pw_cc cx_M_rightAt) 18 = .ok (.invokestatic 124, 3) := by decide +kernel
theorem d_M_rightAt_21 : decode (pw_cc cx_M_rightAt) 21 = .ok (.ifCond .eq 7, 3) := by decide +kernel
theorem d_M_rightAt_24 : decode (pw_cc cx_M_rightAt) 24 = .ok (.iconst 0, 1) := by decide +kernel
theorem d_M_rightAt_25 : decode (pw_cc cx_M_rightAt) 25 = .ok (.goto 4, 3) := by decide +kernel
theorem d_M_rightAt_28 : decode (pw_cc cx_M_rightAt) 28 = .ok (.iconst 1, 1) := by decide +kernel
theorem d_M_rightAt_29 : decode (pw_cc cx_M_rightAt) 29 = .ok (.invokevirtual 179, 3) := by decide +kernel
theorem d_M_rightAt_32 : decode (pw_cc cx_M_rightAt) 32 = .ok (.ifCond .ne 5, 3) := by decide +kernel
theorem d_M_rightAt_35 : decode (pw_cc cx_M_rightAt) 35 = .ok (.iconst 0, 1) := by decide +kernel
theorem d_M_rightAt_36 : decode (pw_cc cx_M_rightAt) 36 = .ok (.ireturn, 1) := by decide +kernel
theorem d_M_rightAt_37 : decode (pw_cc cx_M_rightAt) 37 = .ok (.aload_n 0, 1) := by decide +kernel
theorem d_M_rightAt_38 : decode (pw_cc cx_M_rightAt) 38 = .ok (.getfield 64, 3) := by decide +kernel
theorem d_M_rightAt_41 : decode (pw_cc cx_M_rightAt) 41 = .ok (.iload_n 1, 1) := by decide +kernel
theorem d_M_rightAt_42 : decode (pw_cc cx_M_rightAt) 42 = .ok (.baload, 1) := by decide +kernel
theorem d_M_rightAt_43 : decode (pw_cc cx_M_rightAt) 43 = .ok (.ifCond .eq 5, 3) := by decide +kernel
theorem d_M_rightAt_46 : decode (pw_cc cx_M_rightAt) 46 = .ok (.iconst (-1), 1) := by decide +kernel
theorem d_M_rightAt_47 : decode (pw_cc cx_M_rightAt) 47 = .ok (.ireturn, 1) := by decide +kernel
theorem d_M_rightAt_48 : decode (pw_cc cx_M_rightAt) 48 = .ok (.iload_n 2, 1) := by decide +kernel
theorem d_M_rightAt_49 : decode (pw_cc cx_M_rightAt) 49 = .ok (.ifCond .ne 12, 3) := by decide +kernel
theorem d_M_rightAt_52 : decode (pw_cc cx_M_rightAt) 52 = .ok (.aload_n 0, 1) := by decide +kernel
theorem d_M_rightAt_53 : decode (pw_cc cx_M_rightAt) 53 = .ok (.getfield 49, 3) := by decide +kernel
theorem d_M_rightAt_56 : decode (pw_cc cx_M_rightAt) 56 = .ok (.iload_n 1, 1) := by decide +kernel
theorem d_M_rightAt_57 : decode (pw_cc cx_M_rightAt) 57 = .ok (.iaload, 1) := by decide +kernel
theorem d_M_rightAt_58 : decode (pw_cc cx_M_rightAt) 58 = .ok (.goto 50, 3) := by decide +kernel
theorem d_M_rightAt_61 : decode (pw_cc cx_M_rightAt) 61 = .ok (.iload_n 2, 1) := by decide +kernel
theorem d_M_rightAt_62 : decode (pw_cc cx_M_rightAt) 62 = .ok (.iconst 1, 1) := by decide +kernel
theorem d_M_rightAt_63 : decode (pw_cc cx_M_rightAt) 63 = .ok (.if_icmp .ne 12, 3) := by decide +kernel
theorem d_M_rightAt_66 : decode (pw_cc cx_M_rightAt) 66 = .ok (.aload_n 0, 1) := by decide +kernel
theorem d_M_rightAt_67 : decode (pw_cc cx_M_rightAt) 67 = .ok (.getfield 52, 3) := by decide +kernel
theorem d_M_rightAt_70 : decode (pw_cc cx_M_rightAt) 70 = .ok (.iload_n 1, 1) := by decide +kernel
theorem d_M_rightAt_71 : decode (pw_cc cx_M_rightAt) 71 = .ok (.iaload, 1) := by decide +kernel
theorem d_M_rightAt_72 : decode (pw_cc cx_M_rightAt) 72 = .ok (.goto 36, 3) := by decide +kernel
theorem d_M_rightAt_75 : decode (pw_cc cx_M_rightAt) 75 = .ok (.iload_n 2, 1) := by decide +kernel
theorem d_M_rightAt_76 : decode (pw_cc cx_M_rightAt) 76 = .ok (.iconst 2, 1) := by decide +kernel
theorem d_M_rightAt_77 : decode (pw_cc cx_M_rightAt) 77 = .ok (.if_icmp .ne 12, 3) := by decide +kernel
theorem d_M_rightAt_80 : decode (pw_cc cx_M_rightAt) 80 = .ok (.aload_n 0, 1) := by decide +kernel
theorem d_M_rightAt_81 : decode (pw_cc cx_M_rightAt) 81 = .ok (.getfield 55, 3) := by decide +kernel
theorem d_M_rightAt_84 : decode (pw_cc cx_M_rightAt) 84 = .ok (.iload_n 1, 1) := by decide +kernel
theorem d_M_rightAt_85 : decode (pw_cc cx_M_rightAt) 85 = .ok (.iaload, 1) := by decide +kernel
theorem d_M_rightAt_86 : decode (pw_cc cx_M_rightAt) 86 = .ok (.goto 22, 3) := by decide +kernel
theorem d_M_rightAt_89 : decode (pw_cc cx_M_rightAt) 89 = .ok (.iload_n 2, 1) := by decide +kernel
theorem d_M_rightAt_90 : decode (pw_cc cx_M_rightAt) 90 = .ok (.iconst 3, 1) := by decide +kernel
theorem d_M_rightAt_91 : decode (pw_cc cx_M_rightAt) 91 = .ok (.if_icmp .ne 11, 3) := by decide +kernel
theorem d_M_rightAt_94 : decode (pw_cc cx_M_rightAt) 94 = .ok (.aload_n 0, 1) := by decide +kernel
theorem d_M_rightAt_95 : decode (pw_cc cx_M_rightAt) 95 = .ok (.iload_n 1, 1) := by decide +kernel
theorem d_M_rightAt_96 : decode (pw_cc cx_M_rightAt) 96 = .ok (.invokevirtual 146, 3) := by decide +kernel
theorem d_M_rightAt_99 : decode (pw_cc cx_M_rightAt) 99 = .ok (.goto 9, 3) := by decide +kernel
theorem d_M_rightAt_102 : decode (pw_cc cx_M_rightAt) 102 = .ok (.aload_n 0, 1) := by decide +kernel
theorem d_M_rightAt_103 : decode (pw_cc cx_M_rightAt) 103 = .ok (.getfield 61, 3) := by decide +kernel
theorem d_M_rightAt_106 : decode (pw_cc cx_M_rightAt) 106 = .ok (.iload_n 1, 1) := by decide +kernel
theorem d_M_rightAt_107 : decode (pw_cc cx_M_rightAt) 107 = .ok (.iaload, 1) := by decide +kernel
theorem d_M_rightAt_108 : decode (pw_cc cx_M_rightAt) 108 = .ok (.ireturn, 1) := by decide +kernel
set_option maxHeartbeats 4000000 in
set_option maxRecDepth 20000 in
def jp_M_rightAt_29 (Q : pw_W → Int32 → Prop) (X : pw_W → Nat → Prop) (a1 a2 s0 : Int32) (w : pw_W) : Prop := wp_M_isFine w s0 (fun w1 r2 => (¬ r2 = 0 → w1.1 8 0 25 = 0 ∧ pw_jn a1 (pw_ln w1 225 0) ∧ ((w1.1 225 0 (pw_i a1)) = 0 → (¬ a2 = 0 → (¬ a2 = 1 → (¬ a2 = 2 → (¬ a2 = 3 → w1.1 8 0 24 = 0 ∧ pw_jn a1 (pw_ln w1 224 0) ∧ Q w1 (w1.1 224 0 (pw_i a1))) ∧ (a2 = 3 → wp_M_worth w1 a1 (fun w13 r14 => Q w13 r14) (fun _ _ => False))) ∧ (a2 = 2 → w1.1 8 0 22 = 0 ∧ pw_jn a1 (pw_ln w1 222 0) ∧ Q w1 (w1.1 222 0 (pw_i a1)))) ∧ (a2 = 1 → w1.1 8 0 21 = 0 ∧ pw_jn a1 (pw_ln w1 221 0) ∧ Q w1 (w1.1 221 0 (pw_i a1)))) ∧ (a2 = 0 → w1.1 8 0 20 = 0 ∧ pw_jn a1 (pw_ln w1 220 0) ∧ Q w1 (w1.1 220 0 (pw_i a1)))) ∧ (¬ (w1.1 225 0 (pw_i a1)) = 0 → Q w1 (-1))) ∧ (r2 = 0 → Q w1 0)) (fun _ _ => False)
set_option maxHeartbeats 4000000 in
set_option maxRecDepth 20000 in
theorem vjp_M_rightAt_29 {l : Launch} {g : pw_G} {Q : pw_W → Int32 → Prop} {X : pw_W → Nat → Prop} (hl0 : l.stackTraces = false) (a1 a2 s0 : Int32) (w : pw_W) (h : jp_M_rightAt_29 Q X a1 a2 s0 w) : pw_V l g cx_M_rightAt Q X 29 [(10, 0), (0, a1), (0, a2)] [(0, s0), (10, 0)] w := by
  unfold jp_M_rightAt_29 at h
  refine pv_callV (n := 32) (x := 0) [(0, s0)] [] (con_M_isFine hl0 h) pw_cf8 rfl q_506 q_507 q_508 q_458 q_505 pyo_M_isFine (by decide) rfl rfl (by decide) d_M_rightAt_29 rfl (fun w1 r2 h _ => ?_) (fun _ _ h => h.elim)
  show pw_V l g cx_M_rightAt Q X 32 [(10, 0), (0, a1), (0, a2)] [(0, r2)] w1
  refine pv_if_ne (n := 35) (tgt := 37) d_M_rightAt_32 (by decide) rfl (fun c3 => ?_) (fun c3 => ?_)
  · replace h := h.1 c3
    refine pv_aload_n (n := 38) d_M_rightAt_37 rfl rfl rfl ?_
    obtain ⟨g4, h⟩ := h
    refine gt_M_64 (n := 41) rfl d_M_rightAt_38 (by decide) g4 rfl ?_
    refine pv_iload_n (n := 42) d_M_rightAt_41 rfl rfl rfl ?_
    obtain ⟨g5, h⟩ := h
    refine pv_zald (n := 43) (f := 225) (by decide) rfl d_M_rightAt_42 (by decide) g5 rfl ?_
    refine pv_if_eq (n := 46) (tgt := 48) d_M_rightAt_43 (by decide) rfl (fun c6 => ?_) (fun c6 => ?_)
    · replace h := h.1 c6
      refine pv_iload_n (n := 49) d_M_rightAt_48 rfl rfl rfl ?_
      refine pv_if_ne (n := 52) (tgt := 61) d_M_rightAt_49 (by decide) rfl (fun c7 => ?_) (fun c7 => ?_)
      · replace h := h.1 c7
        refine pv_iload_n (n := 62) d_M_rightAt_61 rfl rfl rfl ?_
        refine pv_iconst (v := 1) (n := 63) d_M_rightAt_62 (by decide) rfl ?_
        refine pv_icmp_ne (n := 66) (tgt := 75) d_M_rightAt_63 (by decide) rfl (fun c8 => ?_) (fun c8 => ?_)
        · replace h := h.1 c8
          refine pv_iload_n (n := 76) d_M_rightAt_75 rfl rfl rfl ?_
          refine pv_iconst (v := 2) (n := 77) d_M_rightAt_76 (by decide) rfl ?_
          refine pv_icmp_ne (n := 80) (tgt := 89) d_M_rightAt_77 (by decide) rfl (fun c9 => ?_) (fun c9 => ?_)
          · replace h := h.1 c9
            refine pv_iload_n (n := 90) d_M_rightAt_89 rfl rfl rfl ?_
            refine pv_iconst (v := 3) (n := 91) d_M_rightAt_90 (by decide) rfl ?_
            refine pv_icmp_ne (n := 94) (tgt := 102) d_M_rightAt_91 (by decide) rfl (fun c10 => ?_) (fun c10 => ?_)
            · replace h := h.1 c10
              refine pv_aload_n (n := 103) d_M_rightAt_102 rfl rfl rfl ?_
              obtain ⟨g11, h⟩ := h
              refine gt_M_61 (n := 106) rfl d_M_rightAt_103 (by decide) g11 rfl ?_
              refine pv_iload_n (n := 107) d_M_rightAt_106 rfl rfl rfl ?_
              obtain ⟨g12, h⟩ := h
              refine pv_iald (n := 108) (f := 224) (by decide) rfl d_M_rightAt_107 (by decide) g12 rfl ?_
              exact pv_iret rfl rfl d_M_rightAt_108 h
            · replace h := h.2 c10
              refine pv_aload_n (n := 95) d_M_rightAt_94 rfl rfl rfl ?_
              refine pv_iload_n (n := 96) d_M_rightAt_95 rfl rfl rfl ?_
              refine pv_callV (n := 99) (x := 0) [(0, a1)] [] (con_M_worth hl0 h) pw_cf8 rfl q_475 q_476 q_477 q_458 q_474 pyo_M_worth (by decide) rfl rfl (by decide) d_M_rightAt_96 rfl (fun w13 r14 h _ => ?_) (fun _ _ h => h.elim)
              show pw_V l g cx_M_rightAt Q X 99 [(10, 0), (0, a1), (0, a2)] [(0, r14)] w13
              refine pv_goto (tgt := 108) d_M_rightAt_99 (by decide) ?_
              exact pv_iret rfl rfl d_M_rightAt_108 h
          · replace h := h.2 c9
            refine pv_aload_n (n := 81) d_M_rightAt_80 rfl rfl rfl ?_
            obtain ⟨g15, h⟩ := h
            refine gt_M_55 (n := 84) rfl d_M_rightAt_81 (by decide) g15 rfl ?_
            refine pv_iload_n (n := 85) d_M_rightAt_84 rfl rfl rfl ?_
            obtain ⟨g16, h⟩ := h
            refine pv_iald (n := 86) (f := 222) (by decide) rfl d_M_rightAt_85 (by decide) g16 rfl ?_
            refine pv_goto (tgt := 108) d_M_rightAt_86 (by decide) ?_
            exact pv_iret rfl rfl d_M_rightAt_108 h
        · replace h := h.2 c8
          refine pv_aload_n (n := 67) d_M_rightAt_66 rfl rfl rfl ?_
          obtain ⟨g17, h⟩ := h
          refine gt_M_52 (n := 70) rfl d_M_rightAt_67 (by decide) g17 rfl ?_
          refine pv_iload_n (n := 71) d_M_rightAt_70 rfl rfl rfl ?_
          obtain ⟨g18, h⟩ := h
          refine pv_iald (n := 72) (f := 221) (by decide) rfl d_M_rightAt_71 (by decide) g18 rfl ?_
          refine pv_goto (tgt := 108) d_M_rightAt_72 (by decide) ?_
          exact pv_iret rfl rfl d_M_rightAt_108 h
      · replace h := h.2 c7
        refine pv_aload_n (n := 53) d_M_rightAt_52 rfl rfl rfl ?_
        obtain ⟨g19, h⟩ := h
        refine gt_M_49 (n := 56) rfl d_M_rightAt_53 (by decide) g19 rfl ?_
        refine pv_iload_n (n := 57) d_M_rightAt_56 rfl rfl rfl ?_
        obtain ⟨g20, h⟩ := h
        refine pv_iald (n := 58) (f := 220) (by decide) rfl d_M_rightAt_57 (by decide) g20 rfl ?_
        refine pv_goto (tgt := 108) d_M_rightAt_58 (by decide) ?_
        exact pv_iret rfl rfl d_M_rightAt_108 h
    · replace h := h.2 c6
      refine pv_iconst (v := -1) (n := 47) d_M_rightAt_46 (by decide) rfl ?_
      exact pv_iret rfl rfl d_M_rightAt_47 h
  · replace h := h.2 c3
    refine pv_iconst (v := 0) (n := 36) d_M_rightAt_35 (by decide) rfl ?_
    exact pv_iret rfl rfl d_M_rightAt_36 h
set_option maxHeartbeats 4000000 in
set_option maxRecDepth 20000 in
def jp_M_rightAt_28 (Q : pw_W → Int32 → Prop) (X : pw_W → Nat → Prop) (a1 a2 : Int32) (w : pw_W) : Prop := jp_M_rightAt_29 Q X a1 a2 1 w
set_option maxHeartbeats 4000000 in
set_option maxRecDepth 20000 in
theorem vjp_M_rightAt_28 {l : Launch} {g : pw_G} {Q : pw_W → Int32 → Prop} {X : pw_W → Nat → Prop} (hl0 : l.stackTraces = false) (a1 a2 : Int32) (w : pw_W) (h : jp_M_rightAt_28 Q X a1 a2 w) : pw_V l g cx_M_rightAt Q X 28 [(10, 0), (0, a1), (0, a2)] [(10, 0)] w := by
  unfold jp_M_rightAt_28 at h
  refine pv_iconst (v := 1) (n := 29) d_M_rightAt_28 (by decide) rfl ?_
  exact vjp_M_rightAt_29 hl0 _ _ _ _ h
set_option maxHeartbeats 4000000 in
set_option maxRecDepth 20000 in
def wp_M_rightAt (w : pw_W) (a1 a2 : Int32) (Q : pw_W → Int32 → Prop) (X : pw_W → Nat → Prop) : Prop := wp_M_isIn w a1 0 ((w.1 8 0 26) - 1) (fun w21 r22 => (r22 = 0 → jp_M_rightAt_28 Q X a1 a2 w21) ∧ (¬ r22 = 0 → wp_M_isIn w21 a2 0 4 (fun w24 r25 => (r25 = 0 → jp_M_rightAt_28 Q X a1 a2 w24) ∧ (¬ r25 = 0 → jp_M_rightAt_29 Q X a1 a2 0 w24)) (fun _ _ => False))) (fun _ _ => False)
set_option maxHeartbeats 4000000 in
set_option maxRecDepth 20000 in
theorem vw_M_rightAt {l : Launch} {g : pw_G} {Q : pw_W → Int32 → Prop} {X : pw_W → Nat → Prop} (hl0 : l.stackTraces = false) {w : pw_W} {a1 a2 : Int32} (h : wp_M_rightAt w a1 a2 Q X) : pw_V l g cx_M_rightAt Q X 0 [(10, 0), (0, a1), (0, a2)] [] w := by
  unfold wp_M_rightAt at h
  refine pv_aload_n (n := 1) d_M_rightAt_0 rfl rfl rfl ?_
  refine pv_iload_n (n := 2) d_M_rightAt_1 rfl rfl rfl ?_
  refine pv_iconst (v := 0) (n := 3) d_M_rightAt_2 (by decide) rfl ?_
  refine pv_aload_n (n := 4) d_M_rightAt_3 rfl rfl rfl ?_
  refine gt_M_131 (n := 7) rfl d_M_rightAt_4 (by decide) rfl ?_
  refine pv_iconst (v := 1) (n := 8) d_M_rightAt_7 (by decide) rfl ?_
  refine pv_isub (n := 9) d_M_rightAt_8 rfl ?_
  refine pv_callS (n := 12) [(0, a1), (0, 0), (0, ((w.1 8 0 26) - 1))] [(10, 0)] (con_M_isIn hl0 h) q_459 q_460 q_458 q_457 pyo_M_isIn (by decide) rfl rfl d_M_rightAt_9 rfl (fun w21 r22 h _ => ?_) (fun _ _ h => h.elim)
  show pw_V l g cx_M_rightAt Q X 12 [(10, 0), (0, a1), (0, a2)] [(0, r22), (10, 0)] w21
  refine pv_if_eq (n := 15) (tgt := 28) d_M_rightAt_12 (by decide) rfl (fun c23 => ?_) (fun c23 => ?_)
  · replace h := h.1 c23
    exact vjp_M_rightAt_28 hl0 _ _ _ h
  · replace h := h.2 c23
    refine pv_iload_n (n := 16) d_M_rightAt_15 rfl rfl rfl ?_
    refine pv_iconst (v := 0) (n := 17) d_M_rightAt_16 (by decide) rfl ?_
    refine pv_iconst (v := 4) (n := 18) d_M_rightAt_17 (by decide) rfl ?_
    refine pv_callS (n := 21) [(0, a2), (0, 0), (0, 4)] [(10, 0)] (con_M_isIn hl0 h) q_459 q_460 q_458 q_457 pyo_M_isIn (by decide) rfl rfl d_M_rightAt_18 rfl (fun w24 r25 h _ => ?_) (fun _ _ h => h.elim)
    show pw_V l g cx_M_rightAt Q X 21 [(10, 0), (0, a1), (0, a2)] [(0, r25), (10, 0)] w24
    refine pv_if_eq (n := 24) (tgt := 28) d_M_rightAt_21 (by decide) rfl (fun c26 => ?_) (fun c26 => ?_)
    · replace h := h.1 c26
      exact vjp_M_rightAt_28 hl0 _ _ _ h
    · replace h := h.2 c26
      refine pv_iconst (v := 0) (n := 25) d_M_rightAt_24 (by decide) rfl ?_
      refine pv_goto (tgt := 29) d_M_rightAt_25 (by decide) ?_
      exact vjp_M_rightAt_29 hl0 _ _ _ _ h
set_option maxHeartbeats 4000000 in
set_option maxRecDepth 20000 in
theorem con_M_rightAt {l : Launch} {g : pw_G} {Q : pw_W → Int32 → Prop} {X : pw_W → Nat → Prop} (hl0 : l.stackTraces = false) {w : pw_W} {a1 a2 : Int32} (h : wp_M_rightAt w a1 a2 Q X) : pw_Con l g y_M_rightAt cx_M_rightAt [(10, 0), (0, a1), (0, a2)] w Q X :=
  pw_con (by decide +kernel) rfl rfl hl0 rfl (Nat.le_of_ble_eq_true rfl) (by simp) (vw_M_rightAt hl0 h)
theorem d_M_square_0 : decode (pw_cc cx_M_square) 0 = .ok (.aload_n 0, 1) := by decide +kernel
theorem d_M_square_1 : decode (pw_cc cx_M_square) 1 = .ok (.iload_n 1, 1) := by decide +kernel
theorem d_M_square_2 : decode (pw_cc cx_M_square) 2 = .ok (.invokestatic 163, 3) := by decide +kernel
theorem d_M_square_5 : decode (pw_cc cx_M_square) 5 = .ok (.ifCond .eq 16, 3) := by decide +kernel
theorem d_M_square_8 : decode (pw_cc cx_M_square) 8 = .ok (.iload_n 2, 1) := by decide +kernel
theorem d_M_square_9 : decode (pw_cc cx_M_square) 9 = .ok (.iconst 0, 1) := by decide +kernel
theorem d_M_square_10 : decode (pw_cc cx_M_square) 10 = .ok (.iconst 3, 1) := by decide +kernel
theorem d_M_square_11 : decode (pw_cc cx_M_square) 11 = .ok (.invokestatic 124, 3) := by decide +kernel
theorem d_M_square_14 : decode (pw_cc cx_M_square) 14 = .ok (.ifCond .eq 7, 3) := by decide +kernel
theorem d_M_square_17 : decode (pw_cc cx_M_square) 17 = .ok (.iconst 0, 1) := by decide +kernel
theorem d_M_square_18 : decode (pw_cc cx_M_square) 18 = .ok (.goto 4, 3) := by decide +kernel
theorem d_M_square_21 : decode (pw_cc cx_M_square) 21 = .ok (.iconst 1, 1) := by decide +kernel
theorem d_M_square_22 : decode (pw_cc cx_M_square) 22 = .ok (.invokevirtual 179, 3) := by decide +kernel
theorem d_M_square_25 : decode (pw_cc cx_M_square) 25 = .ok (.ifCond .ne 5, 3) := by decide +kernel
theorem d_M_square_28 : decode (pw_cc cx_M_square) 28 = .ok (.iconst 0, 1) := by decide +kernel
theorem d_M_square_29 : decode (pw_cc cx_M_square) 29 = .ok (.ireturn, 1) := by decide +kernel
theorem d_M_square_30 : decode (pw_cc cx_M_square) 30 = .ok (.iload_n 2, 1) := by decide +kernel
theorem d_M_square_31 : decode (pw_cc cx_M_square) 31 = .ok (.ifCond .ne 12, 3) := by decide +kernel
theorem d_M_square_34 : decode (pw_cc cx_M_square) 34 = .ok (.aload_n 0, 1) := by decide +kernel
theorem d_M_square_35 : decode (pw_cc cx_M_square) 35 = .ok (.getfield 7, 3) := by decide +kernel
theorem d_M_square_38 : decode (pw_cc cx_M_square) 38 = .ok (.iload_n 1, 1) := by decide +kernel
theorem d_M_square_39 : decode (pw_cc cx_M_square) 39 = .ok (.iaload, 1) := by decide +kernel
theorem d_M_square_40 : decode (pw_cc cx_M_square) 40 = .ok (.goto 36, 3) := by decide +kernel
theorem d_M_square_43 : decode (pw_cc cx_M_square) 43 = .ok (.iload_n 2, 1) := by decide +kernel
theorem d_M_square_44 : decode (pw_cc cx_M_square) 44 = .ok (.iconst 1, 1) := by decide +kernel
theorem d_M_square_45 : decode (pw_cc cx_M_square) 45 = .ok (.if_icmp .ne 12, 3) := by decide +kernel
theorem d_M_square_48 : decode (pw_cc cx_M_square) 48 = .ok (.aload_n 0, 1) := by decide +kernel
theorem d_M_square_49 : decode (pw_cc cx_M_square) 49 = .ok (.getfield 13, 3) := by decide +kernel
theorem d_M_square_52 : decode (pw_cc cx_M_square) 52 = .ok (.iload_n 1, 1) := by decide +kernel
theorem d_M_square_53 : decode (pw_cc cx_M_square) 53 = .ok (.iaload, 1) := by decide +kernel
theorem d_M_square_54 : decode (pw_cc cx_M_square) 54 = .ok (.goto 22, 3) := by decide +kernel
theorem d_M_square_57 : decode (pw_cc cx_M_square) 57 = .ok (.iload_n 2, 1) := by decide +kernel
theorem d_M_square_58 : decode (pw_cc cx_M_square) 58 = .ok (.iconst 2, 1) := by decide +kernel
theorem d_M_square_59 : decode (pw_cc cx_M_square) 59 = .ok (.if_icmp .ne 11, 3) := by decide +kernel
theorem d_M_square_62 : decode (pw_cc cx_M_square) 62 = .ok (.aload_n 0, 1) := by decide +kernel
theorem d_M_square_63 : decode (pw_cc cx_M_square) 63 = .ok (.iload_n 1, 1) := by decide +kernel
theorem d_M_square_64 : decode (pw_cc cx_M_square) 64 = .ok (.invokevirtual 272, 3) := by decide +kernel
theorem d_M_square_67 : decode (pw_cc cx_M_square) 67 = .ok (.goto 9, 3) := by decide +kernel
theorem d_M_square_70 : decode (pw_cc cx_M_square) 70 = .ok (.aload_n 0, 1) := by decide +kernel
theorem d_M_square_71 : decode (pw_cc cx_M_square) 71 = .ok (.getfield 22, 3) := by decide +kernel
theorem d_M_square_74 : decode (pw_cc cx_M_square) 74 = .ok (.iload_n 1, 1) := by decide +kernel
theorem d_M_square_75 : decode (pw_cc cx_M_square) 75 = .ok (.iaload, 1) := by decide +kernel
theorem d_M_square_76 : decode (pw_cc cx_M_square) 76 = .ok (.ireturn, 1) := by decide +kernel
set_option maxHeartbeats 4000000 in
set_option maxRecDepth 20000 in
def jp_M_square_22 (Q : pw_W → Int32 → Prop) (X : pw_W → Nat → Prop) (a1 a2 s0 : Int32) (w : pw_W) : Prop := wp_M_isFine w s0 (fun w1 r2 => (¬ r2 = 0 → (¬ a2 = 0 → (¬ a2 = 1 → (¬ a2 = 2 → w1.1 8 0 10 = 0 ∧ pw_jn a1 (pw_ln w1 210 0) ∧ Q w1 (w1.1 210 0 (pw_i a1))) ∧ (a2 = 2 → wp_M_birds w1 a1 (fun w9 r10 => Q w9 r10) (fun _ _ => False))) ∧ (a2 = 1 → w1.1 8 0 7 = 0 ∧ pw_jn a1 (pw_ln w1 207 0) ∧ Q w1 (w1.1 207 0 (pw_i a1)))) ∧ (a2 = 0 → w1.1 8 0 6 = 0 ∧ pw_jn a1 (pw_ln w1 206 0) ∧ Q w1 (w1.1 206 0 (pw_i a1)))) ∧ (r2 = 0 → Q w1 0)) (fun _ _ => False)
set_option maxHeartbeats 4000000 in
set_option maxRecDepth 20000 in
theorem vjp_M_square_22 {l : Launch} {g : pw_G} {Q : pw_W → Int32 → Prop} {X : pw_W → Nat → Prop} (hl0 : l.stackTraces = false) (a1 a2 s0 : Int32) (w : pw_W) (h : jp_M_square_22 Q X a1 a2 s0 w) : pw_V l g cx_M_square Q X 22 [(10, 0), (0, a1), (0, a2)] [(0, s0), (10, 0)] w := by
  unfold jp_M_square_22 at h
  refine pv_callV (n := 25) (x := 0) [(0, s0)] [] (con_M_isFine hl0 h) pw_cf8 rfl q_506 q_507 q_508 q_458 q_505 pyo_M_isFine (by decide) rfl rfl (by decide) d_M_square_22 rfl (fun w1 r2 h _ => ?_) (fun _ _ h => h.elim)
  show pw_V l g cx_M_square Q X 25 [(10, 0), (0, a1), (0, a2)] [(0, r2)] w1
  refine pv_if_ne (n := 28) (tgt := 30) d_M_square_25 (by decide) rfl (fun c3 => ?_) (fun c3 => ?_)
  · replace h := h.1 c3
    refine pv_iload_n (n := 31) d_M_square_30 rfl rfl rfl ?_
    refine pv_if_ne (n := 34) (tgt := 43) d_M_square_31 (by decide) rfl (fun c4 => ?_) (fun c4 => ?_)
    · replace h := h.1 c4
      refine pv_iload_n (n := 44) d_M_square_43 rfl rfl rfl ?_
      refine pv_iconst (v := 1) (n := 45) d_M_square_44 (by decide) rfl ?_
      refine pv_icmp_ne (n := 48) (tgt := 57) d_M_square_45 (by decide) rfl (fun c5 => ?_) (fun c5 => ?_)
      · replace h := h.1 c5
        refine pv_iload_n (n := 58) d_M_square_57 rfl rfl rfl ?_
        refine pv_iconst (v := 2) (n := 59) d_M_square_58 (by decide) rfl ?_
        refine pv_icmp_ne (n := 62) (tgt := 70) d_M_square_59 (by decide) rfl (fun c6 => ?_) (fun c6 => ?_)
        · replace h := h.1 c6
          refine pv_aload_n (n := 71) d_M_square_70 rfl rfl rfl ?_
          obtain ⟨g7, h⟩ := h
          refine gt_M_22 (n := 74) rfl d_M_square_71 (by decide) g7 rfl ?_
          refine pv_iload_n (n := 75) d_M_square_74 rfl rfl rfl ?_
          obtain ⟨g8, h⟩ := h
          refine pv_iald (n := 76) (f := 210) (by decide) rfl d_M_square_75 (by decide) g8 rfl ?_
          exact pv_iret rfl rfl d_M_square_76 h
        · replace h := h.2 c6
          refine pv_aload_n (n := 63) d_M_square_62 rfl rfl rfl ?_
          refine pv_iload_n (n := 64) d_M_square_63 rfl rfl rfl ?_
          refine pv_callV (n := 67) (x := 0) [(0, a1)] [] (con_M_birds hl0 h) pw_cf8 rfl q_609 q_610 q_611 q_458 q_608 pyo_M_birds (by decide) rfl rfl (by decide) d_M_square_64 rfl (fun w9 r10 h _ => ?_) (fun _ _ h => h.elim)
          show pw_V l g cx_M_square Q X 67 [(10, 0), (0, a1), (0, a2)] [(0, r10)] w9
          refine pv_goto (tgt := 76) d_M_square_67 (by decide) ?_
          exact pv_iret rfl rfl d_M_square_76 h
      · replace h := h.2 c5
        refine pv_aload_n (n := 49) d_M_square_48 rfl rfl rfl ?_
        obtain ⟨g11, h⟩ := h
        refine gt_M_13 (n := 52) rfl d_M_square_49 (by decide) g11 rfl ?_
        refine pv_iload_n (n := 53) d_M_square_52 rfl rfl rfl ?_
        obtain ⟨g12, h⟩ := h
        refine pv_iald (n := 54) (f := 207) (by decide) rfl d_M_square_53 (by decide) g12 rfl ?_
        refine pv_goto (tgt := 76) d_M_square_54 (by decide) ?_
        exact pv_iret rfl rfl d_M_square_76 h
    · replace h := h.2 c4
      refine pv_aload_n (n := 35) d_M_square_34 rfl rfl rfl ?_
      obtain ⟨g13, h⟩ := h
      refine gt_M_7 (n := 38) rfl d_M_square_35 (by decide) g13 rfl ?_
      refine pv_iload_n (n := 39) d_M_square_38 rfl rfl rfl ?_
      obtain ⟨g14, h⟩ := h
      refine pv_iald (n := 40) (f := 206) (by decide) rfl d_M_square_39 (by decide) g14 rfl ?_
      refine pv_goto (tgt := 76) d_M_square_40 (by decide) ?_
      exact pv_iret rfl rfl d_M_square_76 h
  · replace h := h.2 c3
    refine pv_iconst (v := 0) (n := 29) d_M_square_28 (by decide) rfl ?_
    exact pv_iret rfl rfl d_M_square_29 h
set_option maxHeartbeats 4000000 in
set_option maxRecDepth 20000 in
def jp_M_square_21 (Q : pw_W → Int32 → Prop) (X : pw_W → Nat → Prop) (a1 a2 : Int32) (w : pw_W) : Prop := jp_M_square_22 Q X a1 a2 1 w
set_option maxHeartbeats 4000000 in
set_option maxRecDepth 20000 in
theorem vjp_M_square_21 {l : Launch} {g : pw_G} {Q : pw_W → Int32 → Prop} {X : pw_W → Nat → Prop} (hl0 : l.stackTraces = false) (a1 a2 : Int32) (w : pw_W) (h : jp_M_square_21 Q X a1 a2 w) : pw_V l g cx_M_square Q X 21 [(10, 0), (0, a1), (0, a2)] [(10, 0)] w := by
  unfold jp_M_square_21 at h
  refine pv_iconst (v := 1) (n := 22) d_M_square_21 (by decide) rfl ?_
  exact vjp_M_square_22 hl0 _ _ _ _ h
set_option maxHeartbeats 4000000 in
set_option maxRecDepth 20000 in
def wp_M_square (w : pw_W) (a1 a2 : Int32) (Q : pw_W → Int32 → Prop) (X : pw_W → Nat → Prop) : Prop := wp_M_isSquare w a1 (fun w15 r16 => (r16 = 0 → jp_M_square_21 Q X a1 a2 w15) ∧ (¬ r16 = 0 → wp_M_isIn w15 a2 0 3 (fun w18 r19 => (r19 = 0 → jp_M_square_21 Q X a1 a2 w18) ∧ (¬ r19 = 0 → jp_M_square_22 Q X a1 a2 0 w18)) (fun _ _ => False))) (fun _ _ => False)
set_option maxHeartbeats 4000000 in
set_option maxRecDepth 20000 in
theorem vw_M_square {l : Launch} {g : pw_G} {Q : pw_W → Int32 → Prop} {X : pw_W → Nat → Prop} (hl0 : l.stackTraces = false) {w : pw_W} {a1 a2 : Int32} (h : wp_M_square w a1 a2 Q X) : pw_V l g cx_M_square Q X 0 [(10, 0), (0, a1), (0, a2)] [] w := by
  unfold wp_M_square at h
  refine pv_aload_n (n := 1) d_M_square_0 rfl rfl rfl ?_
  refine pv_iload_n (n := 2) d_M_square_1 rfl rfl rfl ?_
  refine pv_callS (n := 5) [(0, a1)] [(10, 0)] (con_M_isSquare hl0 h) q_520 q_521 q_458 q_519 pyo_M_isSquare (by decide) rfl rfl d_M_square_2 rfl (fun w15 r16 h _ => ?_) (fun _ _ h => h.elim)
  show pw_V l g cx_M_square Q X 5 [(10, 0), (0, a1), (0, a2)] [(0, r16), (10, 0)] w15
  refine pv_if_eq (n := 8) (tgt := 21) d_M_square_5 (by decide) rfl (fun c17 => ?_) (fun c17 => ?_)
  · replace h := h.1 c17
    exact vjp_M_square_21 hl0 _ _ _ h
  · replace h := h.2 c17
    refine pv_iload_n (n := 9) d_M_square_8 rfl rfl rfl ?_
    refine pv_iconst (v := 0) (n := 10) d_M_square_9 (by decide) rfl ?_
    refine pv_iconst (v := 3) (n := 11) d_M_square_10 (by decide) rfl ?_
    refine pv_callS (n := 14) [(0, a2), (0, 0), (0, 3)] [(10, 0)] (con_M_isIn hl0 h) q_459 q_460 q_458 q_457 pyo_M_isIn (by decide) rfl rfl d_M_square_11 rfl (fun w18 r19 h _ => ?_) (fun _ _ h => h.elim)
    show pw_V l g cx_M_square Q X 14 [(10, 0), (0, a1), (0, a2)] [(0, r19), (10, 0)] w18
    refine pv_if_eq (n := 17) (tgt := 21) d_M_square_14 (by decide) rfl (fun c20 => ?_) (fun c20 => ?_)
    · replace h := h.1 c20
      exact vjp_M_square_21 hl0 _ _ _ h
    · replace h := h.2 c20
      refine pv_iconst (v := 0) (n := 18) d_M_square_17 (by decide) rfl ?_
      refine pv_goto (tgt := 22) d_M_square_18 (by decide) ?_
      exact vjp_M_square_22 hl0 _ _ _ _ h
set_option maxHeartbeats 4000000 in
set_option maxRecDepth 20000 in
theorem con_M_square {l : Launch} {g : pw_G} {Q : pw_W → Int32 → Prop} {X : pw_W → Nat → Prop} (hl0 : l.stackTraces = false) {w : pw_W} {a1 a2 : Int32} (h : wp_M_square w a1 a2 Q X) : pw_Con l g y_M_square cx_M_square [(10, 0), (0, a1), (0, a2)] w Q X :=
  pw_con (by decide +kernel) rfl rfl hl0 rfl (Nat.le_of_ble_eq_true rfl) (by simp) (vw_M_square hl0 h)
theorem d_M_water_0 : decode (pw_cc cx_M_water) 0 = .ok (.aload_n 0, 1) := by decide +kernel
theorem d_M_water_1 : decode (pw_cc cx_M_water) 1 = .ok (.iload_n 1, 1) := by decide +kernel
theorem d_M_water_2 : decode (pw_cc cx_M_water) 2 = .ok (.iconst 0, 1) := by decide +kernel
theorem d_M_water_3 : decode (pw_cc cx_M_water) 3 = .ok (.iconst 3, 1) := by decide +kernel
theorem d_M_water_4 : decode (pw_cc cx_M_water) 4 = .ok (.invokestatic 124, 3) := by decide +kernel
theorem d_M_water_7 : decode (pw_cc cx_M_water) 7 = .ok (.ifCond .eq 7, 3) := by decide +kernel
theorem d_M_water_10 : decode (pw_cc cx_M_water) 10 = .ok (.iconst 0, 1) := by decide +kernel
theorem d_M_water_11 : decode (pw_cc cx_M_water) 11 = .ok (.goto 4, 3) := by decide +kernel
theorem d_M_water_14 : decode (pw_cc cx_M_water) 14 = .ok (.iconst 1, 1) := by decide +kernel
theorem d_M_water_15 : decode (pw_cc cx_M_water) 15 = .ok (.invokevirtual 179, 3) := by decide +kernel
theorem d_M_water_18 : decode (pw_cc cx_M_water) 18 = .ok (.ifCond .ne 5, 3) := by decide +kernel
theorem d_M_water_21 : decode (pw_cc cx_M_water) 21 = .ok (.iconst 0, 1) := by decide +kernel
theorem d_M_water_22 : decode (pw_cc cx_M_water) 22 = .ok (.ireturn, 1) := by decide +kernel
theorem d_M_water_23 : decode (pw_cc cx_M_water) 23 = .ok (.iconst 0, 1) := by decide +kernel
theorem d_M_water_24 : decode (pw_cc cx_M_water) 24 = .ok (.istore_n 2, 1) := by decide +kernel
theorem d_M_water_25 : decode (pw_cc cx_M_water) 25 = .ok (.iconst 0, 1) := by decide +kernel
theorem d_M_water_26 : decode (pw_cc cx_M_water) 26 = .ok (.istore_n 3, 1) := by decide +kernel
theorem d_M_water_27 : decode (pw_cc cx_M_water) 27 = .ok (.iload_n 3, 1) := by decide +kernel
theorem d_M_water_28 : decode (pw_cc cx_M_water) 28 = .ok (.bipush 100, 2) := by decide +kernel
theorem d_M_water_30 : decode (pw_cc cx_M_water) 30 = .ok (.if_icmp .ge 18, 3) := by decide +kernel
theorem d_M_water_33 : decode (pw_cc cx_M_water) 33 = .ok (.iload_n 2, 1) := by decide +kernel
theorem d_M_water_34 : decode (pw_cc cx_M_water) 34 = .ok (.aload_n 0, 1) := by decide +kernel
theorem d_M_water_35 : decode (pw_cc cx_M_water) 35 = .ok (.getfield 13, 3) := by decide +kernel
theorem d_M_water_38 : decode (pw_cc cx_M_water) 38 = .ok (.iload_n 3, 1) := by decide +kernel
theorem d_M_water_39 : decode (pw_cc cx_M_water) 39 = .ok (.iaload, 1) := by decide +kernel
theorem d_M_water_40 : decode (pw_cc cx_M_water) 40 = .ok (.iadd, 1) := by decide +kernel
theorem d_M_water_41 : decode (pw_cc cx_M_water) 41 = .ok (.istore_n 2, 1) := by decide +kernel
theorem d_M_water_42 : decode (pw_cc cx_M_water) 42 = .ok (.iinc 3 1, 3) := by decide +kernel
theorem d_M_water_45 : decode (pw_cc cx_M_water) 45 = .ok (.goto (-18), 3) := by decide +kernel
theorem d_M_water_48 : decode (pw_cc cx_M_water) 48 = .ok (.iload_n 1, 1) := by decide +kernel
theorem d_M_water_49 : decode (pw_cc cx_M_water) 49 = .ok (.ifCond .ne 7, 3) := by decide +kernel
theorem d_M_water_52 : decode (pw_cc cx_M_water) 52 = .ok (.iload_n 2, 1) := by decide +kernel
theorem d_M_water_53 : decode (pw_cc cx_M_water) 53 = .ok (.goto 31, 3) := by decide +kernel
theorem d_M_water_56 : decode (pw_cc cx_M_water) 56 = .ok (.iload_n 1, 1) := by decide +kernel
theorem d_M_water_57 : decode (pw_cc cx_M_water) 57 = .ok (.iconst 1, 1) := by decide +kernel
theorem d_M_water_58 : decode (pw_cc cx_M_water) 58 = .ok (.if_icmp .ne 10, 3) := by decide +kernel
theorem d_M_water_61 : decode (pw_cc cx_M_water) 61 = .ok (.aload_n 0, 1) := by decide +kernel
theorem d_M_water_62 : decode (pw_cc cx_M_water) 62 = .ok (.getfield 239, 3) := by decide +kernel
theorem d_M_water_65 : decode (pw_cc cx_M_water) 65 = .ok (.goto 19, 3) := by decide +kernel
theorem d_M_water_68 : decode (pw_cc cx_M_water) 68 = .ok (.iload_n 1, 1) := by decide +kernel
theorem d_M_water_69 : decode (pw_cc cx_M_water) 69 = .ok (.iconst 2, 1) := by decide +kernel
theorem d_M_water_70 : decode (pw_cc cx_M_water) 70 = .ok (.if_icmp .ne 10, 3) := by decide +kernel
theorem d_M_water_73 : decode (pw_cc cx_M_water) 73 = .ok (.aload_n 0, 1) := by decide +kernel
theorem d_M_water_74 : decode (pw_cc cx_M_water) 74 = .ok (.getfield 242, 3) := by decide +kernel
theorem d_M_water_77 : decode (pw_cc cx_M_water) 77 = .ok (.goto 7, 3) := by decide +kernel
theorem d_M_water_80 : decode (pw_cc cx_M_water) 80 = .ok (.aload_n 0, 1) := by decide +kernel
theorem d_M_water_81 : decode (pw_cc cx_M_water) 81 = .ok (.getfield 269, 3) := by decide +kernel
theorem d_M_water_84 : decode (pw_cc cx_M_water) 84 = .ok (.ireturn, 1) := by decide +kernel
set_option maxHeartbeats 4000000 in
set_option maxRecDepth 20000 in
def lp_M_water_27 (Q : pw_W → Int32 → Prop) (X : pw_W → Nat → Prop) : Nat → Int32 → Int32 → Int32 → pw_W → Prop := fun k => Nat.rec (motive := fun _ => Int32 → Int32 → Int32 → pw_W → Prop) (fun _ _ _ _ => False) (fun _ ih a1 a2 a3 w => ((100 : Int32) ≤ a3 → (¬ a1 = 0 → (¬ a1 = 1 → (¬ a1 = 2 → Q w (w.1 8 0 5)) ∧ (a1 = 2 → Q w (w.1 8 0 4))) ∧ (a1 = 1 → Q w (w.1 8 0 3))) ∧ (a1 = 0 → Q w a2)) ∧ (¬ (100 : Int32) ≤ a3 → w.1 8 0 7 = 0 ∧ pw_jn a3 (pw_ln w 207 0) ∧ ∀ v7, v7 = (a2 + (w.1 207 0 (pw_i a3))) → ih a1 v7 (a3 + 1) w)) k
set_option maxHeartbeats 4000000 in
set_option maxRecDepth 20000 in
theorem lp_M_water_27_s {Q : pw_W → Int32 → Prop} {X : pw_W → Nat → Prop}  {k : Nat} {a1 a2 a3 : Int32} {w : pw_W} : lp_M_water_27 Q X (k + 1) a1 a2 a3 w = (let ih := lp_M_water_27 Q X k; ((100 : Int32) ≤ a3 → (¬ a1 = 0 → (¬ a1 = 1 → (¬ a1 = 2 → Q w (w.1 8 0 5)) ∧ (a1 = 2 → Q w (w.1 8 0 4))) ∧ (a1 = 1 → Q w (w.1 8 0 3))) ∧ (a1 = 0 → Q w a2)) ∧ (¬ (100 : Int32) ≤ a3 → w.1 8 0 7 = 0 ∧ pw_jn a3 (pw_ln w 207 0) ∧ ∀ v7, v7 = (a2 + (w.1 207 0 (pw_i a3))) → ih a1 v7 (a3 + 1) w)) := rfl
set_option maxHeartbeats 4000000 in
set_option maxRecDepth 20000 in
theorem vlp_M_water_27 {l : Launch} {g : pw_G} {Q : pw_W → Int32 → Prop} {X : pw_W → Nat → Prop} (hl0 : l.stackTraces = false) : ∀ (k : Nat) (a1 a2 a3 : Int32) (w : pw_W), lp_M_water_27 Q X k a1 a2 a3 w → pw_V l g cx_M_water Q X 27 [(10, 0), (0, a1), (0, a2), (0, a3)] [] w := by
  intro k; induction k with
  | zero => intro _ _ _ _ h; exact h.elim
  | succ k ih =>
    intro a1 a2 a3 w h
    rw [lp_M_water_27_s] at h
    refine pv_iload_n (n := 28) d_M_water_27 rfl rfl rfl ?_
    refine pv_bipush (v := 100) (n := 30) d_M_water_28 (by decide) rfl ?_
    refine pv_icmp_ge (n := 33) (tgt := 48) d_M_water_30 (by decide) rfl (fun c1 => ?_) (fun c1 => ?_)
    · replace h := h.1 c1
      refine pv_iload_n (n := 49) d_M_water_48 rfl rfl rfl ?_
      refine pv_if_ne (n := 52) (tgt := 56) d_M_water_49 (by decide) rfl (fun c2 => ?_) (fun c2 => ?_)
      · replace h := h.1 c2
        refine pv_iload_n (n := 57) d_M_water_56 rfl rfl rfl ?_
        refine pv_iconst (v := 1) (n := 58) d_M_water_57 (by decide) rfl ?_
        refine pv_icmp_ne (n := 61) (tgt := 68) d_M_water_58 (by decide) rfl (fun c3 => ?_) (fun c3 => ?_)
        · replace h := h.1 c3
          refine pv_iload_n (n := 69) d_M_water_68 rfl rfl rfl ?_
          refine pv_iconst (v := 2) (n := 70) d_M_water_69 (by decide) rfl ?_
          refine pv_icmp_ne (n := 73) (tgt := 80) d_M_water_70 (by decide) rfl (fun c4 => ?_) (fun c4 => ?_)
          · replace h := h.1 c4
            refine pv_aload_n (n := 81) d_M_water_80 rfl rfl rfl ?_
            refine gt_M_269 (n := 84) rfl d_M_water_81 (by decide) rfl ?_
            exact pv_iret rfl rfl d_M_water_84 h
          · replace h := h.2 c4
            refine pv_aload_n (n := 74) d_M_water_73 rfl rfl rfl ?_
            refine gt_M_242 (n := 77) rfl d_M_water_74 (by decide) rfl ?_
            refine pv_goto (tgt := 84) d_M_water_77 (by decide) ?_
            exact pv_iret rfl rfl d_M_water_84 h
        · replace h := h.2 c3
          refine pv_aload_n (n := 62) d_M_water_61 rfl rfl rfl ?_
          refine gt_M_239 (n := 65) rfl d_M_water_62 (by decide) rfl ?_
          refine pv_goto (tgt := 84) d_M_water_65 (by decide) ?_
          exact pv_iret rfl rfl d_M_water_84 h
      · replace h := h.2 c2
        refine pv_iload_n (n := 53) d_M_water_52 rfl rfl rfl ?_
        refine pv_goto (tgt := 84) d_M_water_53 (by decide) ?_
        exact pv_iret rfl rfl d_M_water_84 h
    · replace h := h.2 c1
      refine pv_iload_n (n := 34) d_M_water_33 rfl rfl rfl ?_
      refine pv_aload_n (n := 35) d_M_water_34 rfl rfl rfl ?_
      obtain ⟨g5, h⟩ := h
      refine gt_M_13 (n := 38) rfl d_M_water_35 (by decide) g5 rfl ?_
      refine pv_iload_n (n := 39) d_M_water_38 rfl rfl rfl ?_
      obtain ⟨g6, h⟩ := h
      refine pv_iald (n := 40) (f := 207) (by decide) rfl d_M_water_39 (by decide) g6 rfl ?_
      refine pv_iadd (n := 41) d_M_water_40 rfl ?_
      refine pv_nm (fun v7 e8 => ?_)
      replace h := h v7 e8
      refine pv_istore_n (n := 42) (L' := [(10, 0), (0, a1), (0, v7), (0, a3)]) d_M_water_41 rfl (by decide) rfl rfl ?_
      refine pv_iinc (v := (a3 + 1)) (n := 45) (L1 := [(10, 0), (0, a1), (0, v7), (0, (a3 + 1))]) d_M_water_42 rfl rfl rfl (by decide) rfl ?_
      refine pv_goto (tgt := 27) d_M_water_45 (by decide) ?_
      exact ih _ _ _ _ h
set_option maxHeartbeats 4000000 in
set_option maxRecDepth 20000 in
def jp_M_water_15 (Q : pw_W → Int32 → Prop) (X : pw_W → Nat → Prop) (a1 s0 : Int32) (w : pw_W) : Prop := wp_M_isFine w s0 (fun w9 r10 => (¬ r10 = 0 → ∃ k12, lp_M_water_27 Q X k12 a1 0 0 w9) ∧ (r10 = 0 → Q w9 0)) (fun _ _ => False)
set_option maxHeartbeats 4000000 in
set_option maxRecDepth 20000 in
theorem vjp_M_water_15 {l : Launch} {g : pw_G} {Q : pw_W → Int32 → Prop} {X : pw_W → Nat → Prop} (hl0 : l.stackTraces = false) (a1 s0 : Int32) (w : pw_W) (h : jp_M_water_15 Q X a1 s0 w) : pw_V l g cx_M_water Q X 15 [(10, 0), (0, a1), (1, 0), (1, 0)] [(0, s0), (10, 0)] w := by
  unfold jp_M_water_15 at h
  refine pv_callV (n := 18) (x := 0) [(0, s0)] [] (con_M_isFine hl0 h) pw_cf8 rfl q_506 q_507 q_508 q_458 q_505 pyo_M_isFine (by decide) rfl rfl (by decide) d_M_water_15 rfl (fun w9 r10 h _ => ?_) (fun _ _ h => h.elim)
  show pw_V l g cx_M_water Q X 18 [(10, 0), (0, a1), (1, 0), (1, 0)] [(0, r10)] w9
  refine pv_if_ne (n := 21) (tgt := 23) d_M_water_18 (by decide) rfl (fun c11 => ?_) (fun c11 => ?_)
  · replace h := h.1 c11
    refine pv_iconst (v := 0) (n := 24) d_M_water_23 (by decide) rfl ?_
    refine pv_istore_n (n := 25) (L' := [(10, 0), (0, a1), (0, 0), (1, 0)]) d_M_water_24 rfl (by decide) rfl rfl ?_
    refine pv_iconst (v := 0) (n := 26) d_M_water_25 (by decide) rfl ?_
    refine pv_istore_n (n := 27) (L' := [(10, 0), (0, a1), (0, 0), (0, 0)]) d_M_water_26 rfl (by decide) rfl rfl ?_
    obtain ⟨k12, h⟩ := h
    exact vlp_M_water_27 hl0 _ _ _ _ _ h
  · replace h := h.2 c11
    refine pv_iconst (v := 0) (n := 22) d_M_water_21 (by decide) rfl ?_
    exact pv_iret rfl rfl d_M_water_22 h
set_option maxHeartbeats 4000000 in
set_option maxRecDepth 20000 in
def wp_M_water (w : pw_W) (a1 : Int32) (Q : pw_W → Int32 → Prop) (X : pw_W → Nat → Prop) : Prop := wp_M_isIn w a1 0 3 (fun w13 r14 => (r14 = 0 → jp_M_water_15 Q X a1 1 w13) ∧ (¬ r14 = 0 → jp_M_water_15 Q X a1 0 w13)) (fun _ _ => False)
set_option maxHeartbeats 4000000 in
set_option maxRecDepth 20000 in
theorem vw_M_water {l : Launch} {g : pw_G} {Q : pw_W → Int32 → Prop} {X : pw_W → Nat → Prop} (hl0 : l.stackTraces = false) {w : pw_W} {a1 : Int32} (h : wp_M_water w a1 Q X) : pw_V l g cx_M_water Q X 0 [(10, 0), (0, a1), (1, 0), (1, 0)] [] w := by
  unfold wp_M_water at h
  refine pv_aload_n (n := 1) d_M_water_0 rfl rfl rfl ?_
  refine pv_iload_n (n := 2) d_M_water_1 rfl rfl rfl ?_
  refine pv_iconst (v := 0) (n := 3) d_M_water_2 (by decide) rfl ?_
  refine pv_iconst (v := 3) (n := 4) d_M_water_3 (by decide) rfl ?_
  refine pv_callS (n := 7) [(0, a1), (0, 0), (0, 3)] [(10, 0)] (con_M_isIn hl0 h) q_459 q_460 q_458 q_457 pyo_M_isIn (by decide) rfl rfl d_M_water_4 rfl (fun w13 r14 h _ => ?_) (fun _ _ h => h.elim)
  show pw_V l g cx_M_water Q X 7 [(10, 0), (0, a1), (1, 0), (1, 0)] [(0, r14), (10, 0)] w13
  refine pv_if_eq (n := 10) (tgt := 14) d_M_water_7 (by decide) rfl (fun c15 => ?_) (fun c15 => ?_)
  · replace h := h.1 c15
    refine pv_iconst (v := 1) (n := 15) d_M_water_14 (by decide) rfl ?_
    exact vjp_M_water_15 hl0 _ _ _ h
  · replace h := h.2 c15
    refine pv_iconst (v := 0) (n := 11) d_M_water_10 (by decide) rfl ?_
    refine pv_goto (tgt := 15) d_M_water_11 (by decide) ?_
    exact vjp_M_water_15 hl0 _ _ _ h
set_option maxHeartbeats 4000000 in
set_option maxRecDepth 20000 in
theorem con_M_water {l : Launch} {g : pw_G} {Q : pw_W → Int32 → Prop} {X : pw_W → Nat → Prop} (hl0 : l.stackTraces = false) {w : pw_W} {a1 : Int32} (h : wp_M_water w a1 Q X) : pw_Con l g y_M_water cx_M_water [(10, 0), (0, a1)] w Q X :=
  pw_con (by decide +kernel) rfl rfl hl0 rfl (Nat.le_of_ble_eq_true rfl) (by simp) (vw_M_water hl0 h)
theorem d_M_paid_0 : decode (pw_cc cx_M_paid) 0 = .ok (.aload_n 0, 1) := by decide +kernel
theorem d_M_paid_1 : decode (pw_cc cx_M_paid) 1 = .ok (.iload_n 1, 1) := by decide +kernel
theorem d_M_paid_2 : decode (pw_cc cx_M_paid) 2 = .ok (.invokestatic 166, 3) := by decide +kernel
theorem d_M_paid_5 : decode (pw_cc cx_M_paid) 5 = .ok (.ifCond .eq 7, 3) := by decide +kernel
theorem d_M_paid_8 : decode (pw_cc cx_M_paid) 8 = .ok (.iconst 0, 1) := by decide +kernel
theorem d_M_paid_9 : decode (pw_cc cx_M_paid) 9 = .ok (.goto 4, 3) := by decide +kernel
theorem d_M_paid_12 : decode (pw_cc cx_M_paid) 12 = .ok (.iconst 1, 1) := by decide +kernel
theorem d_M_paid_13 : decode (pw_cc cx_M_paid) 13 = .ok (.invokevirtual 179, 3) := by decide +kernel
theorem d_M_paid_16 : decode (pw_cc cx_M_paid) 16 = .ok (.ifCond .eq 12, 3) := by decide +kernel
theorem d_M_paid_19 : decode (pw_cc cx_M_paid) 19 = .ok (.aload_n 0, 1) := by decide +kernel
theorem d_M_paid_20 : decode (pw_cc cx_M_paid) 20 = .ok (.getfield 113, 3) := by decide +kernel
theorem d_M_paid_23 : decode (pw_cc cx_M_paid) 23 = .ok (.iload_n 1, 1) := by decide +kernel
theorem d_M_paid_24 : decode (pw_cc cx_M_paid) 24 = .ok (.iaload, 1) := by decide +kernel
theorem d_M_paid_25 : decode (pw_cc cx_M_paid) 25 = .ok (.goto 4, 3) := by decide +kernel
theorem d_M_paid_28 : decode (pw_cc cx_M_paid) 28 = .ok (.iconst 0, 1) := by decide +kernel
theorem d_M_paid_29 : decode (pw_cc cx_M_paid) 29 = .ok (.ireturn, 1) := by decide +kernel
set_option maxHeartbeats 4000000 in
set_option maxRecDepth 20000 in
def jp_M_paid_13 (Q : pw_W → Int32 → Prop) (X : pw_W → Nat → Prop) (a1 s0 : Int32) (w : pw_W) : Prop := wp_M_isFine w s0 (fun w1 r2 => (r2 = 0 → Q w1 0) ∧ (¬ r2 = 0 → w1.1 8 0 45 = 0 ∧ pw_jn a1 (pw_ln w1 245 0) ∧ Q w1 (w1.1 245 0 (pw_i a1)))) (fun _ _ => False)
set_option maxHeartbeats 4000000 in
set_option maxRecDepth 20000 in
theorem vjp_M_paid_13 {l : Launch} {g : pw_G} {Q : pw_W → Int32 → Prop} {X : pw_W → Nat → Prop} (hl0 : l.stackTraces = false) (a1 s0 : Int32) (w : pw_W) (h : jp_M_paid_13 Q X a1 s0 w) : pw_V l g cx_M_paid Q X 13 [(10, 0), (0, a1)] [(0, s0), (10, 0)] w := by
  unfold jp_M_paid_13 at h
  refine pv_callV (n := 16) (x := 0) [(0, s0)] [] (con_M_isFine hl0 h) pw_cf8 rfl q_506 q_507 q_508 q_458 q_505 pyo_M_isFine (by decide) rfl rfl (by decide) d_M_paid_13 rfl (fun w1 r2 h _ => ?_) (fun _ _ h => h.elim)
  show pw_V l g cx_M_paid Q X 16 [(10, 0), (0, a1)] [(0, r2)] w1
  refine pv_if_eq (n := 19) (tgt := 28) d_M_paid_16 (by decide) rfl (fun c3 => ?_) (fun c3 => ?_)
  · replace h := h.1 c3
    refine pv_iconst (v := 0) (n := 29) d_M_paid_28 (by decide) rfl ?_
    exact pv_iret rfl rfl d_M_paid_29 h
  · replace h := h.2 c3
    refine pv_aload_n (n := 20) d_M_paid_19 rfl rfl rfl ?_
    obtain ⟨g4, h⟩ := h
    refine gt_M_113 (n := 23) rfl d_M_paid_20 (by decide) g4 rfl ?_
    refine pv_iload_n (n := 24) d_M_paid_23 rfl rfl rfl ?_
    obtain ⟨g5, h⟩ := h
    refine pv_iald (n := 25) (f := 245) (by decide) rfl d_M_paid_24 (by decide) g5 rfl ?_
    refine pv_goto (tgt := 29) d_M_paid_25 (by decide) ?_
    exact pv_iret rfl rfl d_M_paid_29 h
set_option maxHeartbeats 4000000 in
set_option maxRecDepth 20000 in
def wp_M_paid (w : pw_W) (a1 : Int32) (Q : pw_W → Int32 → Prop) (X : pw_W → Nat → Prop) : Prop := wp_M_isPerson w a1 (fun w6 r7 => (r7 = 0 → jp_M_paid_13 Q X a1 1 w6) ∧ (¬ r7 = 0 → jp_M_paid_13 Q X a1 0 w6)) (fun _ _ => False)
set_option maxHeartbeats 4000000 in
set_option maxRecDepth 20000 in
theorem vw_M_paid {l : Launch} {g : pw_G} {Q : pw_W → Int32 → Prop} {X : pw_W → Nat → Prop} (hl0 : l.stackTraces = false) {w : pw_W} {a1 : Int32} (h : wp_M_paid w a1 Q X) : pw_V l g cx_M_paid Q X 0 [(10, 0), (0, a1)] [] w := by
  unfold wp_M_paid at h
  refine pv_aload_n (n := 1) d_M_paid_0 rfl rfl rfl ?_
  refine pv_iload_n (n := 2) d_M_paid_1 rfl rfl rfl ?_
  refine pv_callS (n := 5) [(0, a1)] [(10, 0)] (con_M_isPerson hl0 h) q_517 q_518 q_458 q_516 pyo_M_isPerson (by decide) rfl rfl d_M_paid_2 rfl (fun w6 r7 h _ => ?_) (fun _ _ h => h.elim)
  show pw_V l g cx_M_paid Q X 5 [(10, 0), (0, a1)] [(0, r7), (10, 0)] w6
  refine pv_if_eq (n := 8) (tgt := 12) d_M_paid_5 (by decide) rfl (fun c8 => ?_) (fun c8 => ?_)
  · replace h := h.1 c8
    refine pv_iconst (v := 1) (n := 13) d_M_paid_12 (by decide) rfl ?_
    exact vjp_M_paid_13 hl0 _ _ _ h
  · replace h := h.2 c8
    refine pv_iconst (v := 0) (n := 9) d_M_paid_8 (by decide) rfl ?_
    refine pv_goto (tgt := 13) d_M_paid_9 (by decide) ?_
    exact vjp_M_paid_13 hl0 _ _ _ h
set_option maxHeartbeats 4000000 in
set_option maxRecDepth 20000 in
theorem con_M_paid {l : Launch} {g : pw_G} {Q : pw_W → Int32 → Prop} {X : pw_W → Nat → Prop} (hl0 : l.stackTraces = false) {w : pw_W} {a1 : Int32} (h : wp_M_paid w a1 Q X) : pw_Con l g y_M_paid cx_M_paid [(10, 0), (0, a1)] w Q X :=
  pw_con (by decide +kernel) rfl rfl hl0 rfl (Nat.le_of_ble_eq_true rfl) (by simp) (vw_M_paid hl0 h)
theorem d_M_sheep_0 : decode (pw_cc cx_M_sheep) 0 = .ok (.aload_n 0, 1) := by decide +kernel
theorem d_M_sheep_1 : decode (pw_cc cx_M_sheep) 1 = .ok (.iload_n 1, 1) := by decide +kernel
theorem d_M_sheep_2 : decode (pw_cc cx_M_sheep) 2 = .ok (.invokestatic 166, 3) := by decide +kernel
theorem d_M_sheep_5 : decode (pw_cc cx_M_sheep) 5 = .ok (.ifCond .eq 15, 3) := by decide +kernel
theorem d_M_sheep_8 : decode (pw_cc cx_M_sheep) 8 = .ok (.aload_n 0, 1) := by decide +kernel
theorem d_M_sheep_9 : decode (pw_cc cx_M_sheep) 9 = .ok (.iload_n 2, 1) := by decide +kernel
theorem d_M_sheep_10 : decode (pw_cc cx_M_sheep) 10 = .ok (.invokevirtual 159, 3) := by decide +kernel
theorem d_M_sheep_13 : decode (pw_cc cx_M_sheep) 13 = .ok (.ifCond .eq 7, 3) := by decide +kernel
theorem d_M_sheep_16 : decode (pw_cc cx_M_sheep) 16 = .ok (.iconst 0, 1) := by decide +kernel
theorem d_M_sheep_17 : decode (pw_cc cx_M_sheep) 17 = .ok (.goto 4, 3) := by decide +kernel
theorem d_M_sheep_20 : decode (pw_cc cx_M_sheep) 20 = .ok (.iconst 1, 1) := by decide +kernel
theorem d_M_sheep_21 : decode (pw_cc cx_M_sheep) 21 = .ok (.invokevirtual 179, 3) := by decide +kernel
theorem d_M_sheep_24 : decode (pw_cc cx_M_sheep) 24 = .ok (.ifCond .eq 21, 3) := by decide +kernel
theorem d_M_sheep_27 : decode (pw_cc cx_M_sheep) 27 = .ok (.aload_n 0, 1) := by decide +kernel
theorem d_M_sheep_28 : decode (pw_cc cx_M_sheep) 28 = .ok (.getfield 46, 3) := by decide +kernel
theorem d_M_sheep_31 : decode (pw_cc cx_M_sheep) 31 = .ok (.bipush 12, 2) := by decide +kernel
theorem d_M_sheep_33 : decode (pw_cc cx_M_sheep) 33 = .ok (.aload_n 0, 1) := by decide +kernel
theorem d_M_sheep_34 : decode (pw_cc cx_M_sheep) 34 = .ok (.iload_n 2, 1) := by decide +kernel
theorem d_M_sheep_35 : decode (pw_cc cx_M_sheep) 35 = .ok (.invokevirtual 172, 3) := by decide +kernel
theorem d_M_sheep_38 : decode (pw_cc cx_M_sheep) 38 = .ok (.imul, 1) := by decide +kernel
theorem d_M_sheep_39 : decode (pw_cc cx_M_sheep) 39 = .ok (.iload_n 1, 1) := by decide +kernel
theorem d_M_sheep_40 : decode (pw_cc cx_M_sheep) 40 = .ok (.iadd, 1) := by decide +kernel
theorem d_M_sheep_41 : decode (pw_cc cx_M_sheep) 41 = .ok (.iaload, 1) := by decide +kernel
theorem d_M_sheep_42 : decode (pw_cc cx_M_sheep) 42 = .ok (.goto 4, 3) := by decide +kernel
theorem d_M_sheep_45 : decode (pw_cc cx_M_sheep) 45 = .ok (.iconst 0, 1) := by decide +kernel
theorem d_M_sheep_46 : decode (pw_cc cx_M_sheep) 46 = .ok (.ireturn, 1) := by decide +kernel
set_option maxHeartbeats 4000000 in
set_option maxRecDepth 20000 in
def jp_M_sheep_21 (Q : pw_W → Int32 → Prop) (X : pw_W → Nat → Prop) (a1 a2 s0 : Int32) (w : pw_W) : Prop := wp_M_isFine w s0 (fun w1 r2 => (r2 = 0 → Q w1 0) ∧ (¬ r2 = 0 → w1.1 8 0 19 = 0 ∧ wp_M_now w1 a2 (fun w5 r6 => pw_jn (((12 : Int32) * r6) + a1) (pw_ln w5 219 0) ∧ Q w5 (w5.1 219 0 (pw_i (((12 : Int32) * r6) + a1)))) (fun _ _ => False))) (fun _ _ => False)
set_option maxHeartbeats 4000000 in
set_option maxRecDepth 20000 in
theorem vjp_M_sheep_21 {l : Launch} {g : pw_G} {Q : pw_W → Int32 → Prop} {X : pw_W → Nat → Prop} (hl0 : l.stackTraces = false) (a1 a2 s0 : Int32) (w : pw_W) (h : jp_M_sheep_21 Q X a1 a2 s0 w) : pw_V l g cx_M_sheep Q X 21 [(10, 0), (0, a1), (0, a2)] [(0, s0), (10, 0)] w := by
  unfold jp_M_sheep_21 at h
  refine pv_callV (n := 24) (x := 0) [(0, s0)] [] (con_M_isFine hl0 h) pw_cf8 rfl q_506 q_507 q_508 q_458 q_505 pyo_M_isFine (by decide) rfl rfl (by decide) d_M_sheep_21 rfl (fun w1 r2 h _ => ?_) (fun _ _ h => h.elim)
  show pw_V l g cx_M_sheep Q X 24 [(10, 0), (0, a1), (0, a2)] [(0, r2)] w1
  refine pv_if_eq (n := 27) (tgt := 45) d_M_sheep_24 (by decide) rfl (fun c3 => ?_) (fun c3 => ?_)
  · replace h := h.1 c3
    refine pv_iconst (v := 0) (n := 46) d_M_sheep_45 (by decide) rfl ?_
    exact pv_iret rfl rfl d_M_sheep_46 h
  · replace h := h.2 c3
    refine pv_aload_n (n := 28) d_M_sheep_27 rfl rfl rfl ?_
    obtain ⟨g4, h⟩ := h
    refine gt_M_46 (n := 31) rfl d_M_sheep_28 (by decide) g4 rfl ?_
    refine pv_bipush (v := 12) (n := 33) d_M_sheep_31 (by decide) rfl ?_
    refine pv_aload_n (n := 34) d_M_sheep_33 rfl rfl rfl ?_
    refine pv_iload_n (n := 35) d_M_sheep_34 rfl rfl rfl ?_
    refine pv_callV (n := 38) (x := 0) [(0, a2)] [(0, 12), (221, 0)] (con_M_now hl0 h) pw_cf8 rfl q_502 q_503 q_504 q_458 q_501 pyo_M_now (by decide) rfl rfl (by decide) d_M_sheep_35 rfl (fun w5 r6 h _ => ?_) (fun _ _ h => h.elim)
    show pw_V l g cx_M_sheep Q X 38 [(10, 0), (0, a1), (0, a2)] [(0, r6), (0, 12), (221, 0)] w5
    refine pv_imul (n := 39) d_M_sheep_38 rfl ?_
    refine pv_iload_n (n := 40) d_M_sheep_39 rfl rfl rfl ?_
    refine pv_iadd (n := 41) d_M_sheep_40 rfl ?_
    obtain ⟨g7, h⟩ := h
    refine pv_iald (n := 42) (f := 219) (by decide) rfl d_M_sheep_41 (by decide) g7 rfl ?_
    refine pv_goto (tgt := 46) d_M_sheep_42 (by decide) ?_
    exact pv_iret rfl rfl d_M_sheep_46 h
set_option maxHeartbeats 4000000 in
set_option maxRecDepth 20000 in
def jp_M_sheep_20 (Q : pw_W → Int32 → Prop) (X : pw_W → Nat → Prop) (a1 a2 : Int32) (w : pw_W) : Prop := jp_M_sheep_21 Q X a1 a2 1 w
set_option maxHeartbeats 4000000 in
set_option maxRecDepth 20000 in
theorem vjp_M_sheep_20 {l : Launch} {g : pw_G} {Q : pw_W → Int32 → Prop} {X : pw_W → Nat → Prop} (hl0 : l.stackTraces = false) (a1 a2 : Int32) (w : pw_W) (h : jp_M_sheep_20 Q X a1 a2 w) : pw_V l g cx_M_sheep Q X 20 [(10, 0), (0, a1), (0, a2)] [(10, 0)] w := by
  unfold jp_M_sheep_20 at h
  refine pv_iconst (v := 1) (n := 21) d_M_sheep_20 (by decide) rfl ?_
  exact vjp_M_sheep_21 hl0 _ _ _ _ h
set_option maxHeartbeats 4000000 in
set_option maxRecDepth 20000 in
def wp_M_sheep (w : pw_W) (a1 a2 : Int32) (Q : pw_W → Int32 → Prop) (X : pw_W → Nat → Prop) : Prop := wp_M_isPerson w a1 (fun w8 r9 => (r9 = 0 → jp_M_sheep_20 Q X a1 a2 w8) ∧ (¬ r9 = 0 → wp_M_isParcel w8 a2 (fun w11 r12 => (r12 = 0 → jp_M_sheep_20 Q X a1 a2 w11) ∧ (¬ r12 = 0 → jp_M_sheep_21 Q X a1 a2 0 w11)) (fun _ _ => False))) (fun _ _ => False)
set_option maxHeartbeats 4000000 in
set_option maxRecDepth 20000 in
theorem vw_M_sheep {l : Launch} {g : pw_G} {Q : pw_W → Int32 → Prop} {X : pw_W → Nat → Prop} (hl0 : l.stackTraces = false) {w : pw_W} {a1 a2 : Int32} (h : wp_M_sheep w a1 a2 Q X) : pw_V l g cx_M_sheep Q X 0 [(10, 0), (0, a1), (0, a2)] [] w := by
  unfold wp_M_sheep at h
  refine pv_aload_n (n := 1) d_M_sheep_0 rfl rfl rfl ?_
  refine pv_iload_n (n := 2) d_M_sheep_1 rfl rfl rfl ?_
  refine pv_callS (n := 5) [(0, a1)] [(10, 0)] (con_M_isPerson hl0 h) q_517 q_518 q_458 q_516 pyo_M_isPerson (by decide) rfl rfl d_M_sheep_2 rfl (fun w8 r9 h _ => ?_) (fun _ _ h => h.elim)
  show pw_V l g cx_M_sheep Q X 5 [(10, 0), (0, a1), (0, a2)] [(0, r9), (10, 0)] w8
  refine pv_if_eq (n := 8) (tgt := 20) d_M_sheep_5 (by decide) rfl (fun c10 => ?_) (fun c10 => ?_)
  · replace h := h.1 c10
    exact vjp_M_sheep_20 hl0 _ _ _ h
  · replace h := h.2 c10
    refine pv_aload_n (n := 9) d_M_sheep_8 rfl rfl rfl ?_
    refine pv_iload_n (n := 10) d_M_sheep_9 rfl rfl rfl ?_
    refine pv_callV (n := 13) (x := 0) [(0, a2)] [(10, 0)] (con_M_isParcel hl0 h) pw_cf8 rfl q_523 q_524 q_525 q_458 q_522 pyo_M_isParcel (by decide) rfl rfl (by decide) d_M_sheep_10 rfl (fun w11 r12 h _ => ?_) (fun _ _ h => h.elim)
    show pw_V l g cx_M_sheep Q X 13 [(10, 0), (0, a1), (0, a2)] [(0, r12), (10, 0)] w11
    refine pv_if_eq (n := 16) (tgt := 20) d_M_sheep_13 (by decide) rfl (fun c13 => ?_) (fun c13 => ?_)
    · replace h := h.1 c13
      exact vjp_M_sheep_20 hl0 _ _ _ h
    · replace h := h.2 c13
      refine pv_iconst (v := 0) (n := 17) d_M_sheep_16 (by decide) rfl ?_
      refine pv_goto (tgt := 21) d_M_sheep_17 (by decide) ?_
      exact vjp_M_sheep_21 hl0 _ _ _ _ h
set_option maxHeartbeats 4000000 in
set_option maxRecDepth 20000 in
theorem con_M_sheep {l : Launch} {g : pw_G} {Q : pw_W → Int32 → Prop} {X : pw_W → Nat → Prop} (hl0 : l.stackTraces = false) {w : pw_W} {a1 a2 : Int32} (h : wp_M_sheep w a1 a2 Q X) : pw_Con l g y_M_sheep cx_M_sheep [(10, 0), (0, a1), (0, a2)] w Q X :=
  pw_con (by decide +kernel) rfl rfl hl0 rfl (Nat.le_of_ble_eq_true rfl) (by simp) (vw_M_sheep hl0 h)
theorem d_L_grant_0 : decode (pw_cc cx_L_grant) 0 = .ok (.aload 5, 2) := by decide +kernel
theorem d_L_grant_2 : decode (pw_cc cx_L_grant) 2 = .ok (.iconst 0, 1) := by decide +kernel
theorem d_L_grant_3 : decode (pw_cc cx_L_grant) 3 = .ok (.aload_n 0, 1) := by decide +kernel
theorem d_L_grant_4 : decode (pw_cc cx_L_grant) 4 = .ok (.iload_n 1, 1) := by decide +kernel
theorem d_L_grant_5 : decode (pw_cc cx_L_grant) 5 = .ok (.iload_n 2, 1) := by decide +kernel
theorem d_L_grant_6 : decode (pw_cc cx_L_grant) 6 = .ok (.iload_n 3, 1) := by decide +kernel
theorem d_L_grant_7 : decode (pw_cc cx_L_grant) 7 = .ok (.iload 4, 2) := by decide +kernel
theorem d_L_grant_9 : decode (pw_cc cx_L_grant) 9 = .ok (.invokevirtual 7, 3) := by decide +kernel
theorem d_L_grant_12 : decode (pw_cc cx_L_grant) 12 = .ok (.i2l, 1) := by decide +kernel
theorem d_L_grant_13 : decode (pw_cc cx_L_grant) 13 = .ok (.lastore, 1) := by decide +kernel
theorem d_L_grant_14 : decode (pw_cc cx_L_grant) 14 = .ok (.goto 15, 3) := by decide +kernel
theorem d_L_grant_17 : decode (pw_cc cx_L_grant) 17 = .ok (.astore 6, 2) := by decide +kernel
theorem d_L_grant_19 : decode (pw_cc cx_L_grant) 19 = .ok (.iconst 1, 1) := by decide +kernel
theorem d_L_grant_20 : decode (pw_cc cx_L_grant) 20 = .ok (.ireturn, 1) := by decide +kernel
theorem d_L_grant_21 : decode (pw_cc cx_L_grant) 21 = .ok (.astore 6, 2) := by decide +kernel
theorem d_L_grant_23 : decode (pw_cc cx_L_grant) 23 = .ok (.iconst 2, 1) := by decide +kernel
theorem d_L_grant_24 : decode (pw_cc cx_L_grant) 24 = .ok (.ireturn, 1) := by decide +kernel
theorem d_L_grant_25 : decode (pw_cc cx_L_grant) 25 = .ok (.astore 6, 2) := by decide +kernel
theorem d_L_grant_27 : decode (pw_cc cx_L_grant) 27 = .ok (.iconst 3, 1) := by decide +kernel
theorem d_L_grant_28 : decode (pw_cc cx_L_grant) 28 = .ok (.ireturn, 1) := by decide +kernel
theorem d_L_grant_29 : decode (pw_cc cx_L_grant) 29 = .ok (.iconst 0, 1) := by decide +kernel
theorem d_L_grant_30 : decode (pw_cc cx_L_grant) 30 = .ok (.ireturn, 1) := by decide +kernel
set_option maxHeartbeats 4000000 in
set_option maxRecDepth 20000 in
def wp_L_grant (w : pw_W) (a1 a2 a3 a4 : Int32) (Q : pw_W → Int32 → Prop) (X : pw_W → Nat → Prop) : Prop := wp_X_grant w a1 a2 a3 a4 (fun w1 r2 => pw_jn 0 (pw_ln w1 13 0) ∧ ∀ w4, w4 = pw_ps w1 13 0 0 r2 → Q w4 0) (fun wx kx => kx = 1 ∧ Q wx 1 ∨ kx = 2 ∧ Q wx 2 ∨ kx = 3 ∧ Q wx 3)
set_option maxHeartbeats 4000000 in
set_option maxRecDepth 20000 in
theorem vw_L_grant {l : Launch} {g : pw_G} {Q : pw_W → Int32 → Prop} {X : pw_W → Nat → Prop} (hl0 : l.stackTraces = false) {w : pw_W} {a1 a2 a3 a4 : Int32} (h : wp_L_grant w a1 a2 a3 a4 Q X) : pw_V l g cx_L_grant Q X 0 [(9, 0), (0, a1), (0, a2), (0, a3), (0, a4), (15, 0), (1, 0)] [] w := by
  unfold wp_L_grant at h
  refine pv_aload (n := 2) d_L_grant_0 rfl rfl ?_
  refine pv_iconst (v := 0) (n := 3) d_L_grant_2 (by decide) rfl ?_
  refine pv_aload_n (n := 4) d_L_grant_3 rfl rfl rfl ?_
  refine pv_iload_n (n := 5) d_L_grant_4 rfl rfl rfl ?_
  refine pv_iload_n (n := 6) d_L_grant_5 rfl rfl rfl ?_
  refine pv_iload_n (n := 7) d_L_grant_6 rfl rfl rfl ?_
  refine pv_iload (n := 9) d_L_grant_7 rfl rfl ?_
  refine pv_callV (n := 12) (x := 0) [(0, a1), (0, a2), (0, a3), (0, a4)] [(0, 0), (15, 0)] (con_X_grant hl0 h) pw_cf7 rfl q_657 q_658 q_659 q_62 q_656 pyo_X_grant (by decide) rfl rfl (by decide) d_L_grant_9 rfl (fun w1 r2 h _ => ?_) (fun wx kx h => ?_)
  · show pw_V l g cx_L_grant Q X 12 [(9, 0), (0, a1), (0, a2), (0, a3), (0, a4), (15, 0), (1, 0)] [(0, r2), (0, 0), (15, 0)] w1
    refine pv_i2l (n := 13) d_L_grant_12 rfl ?_
    obtain ⟨g3, h⟩ := h
    refine pv_last1 (n := 14) (f := 13) (by decide) rfl (fun _ => rfl) d_L_grant_13 (by decide) g3 rfl (fun w4 e5 => ?_)
    replace h := h w4 e5
    refine pv_goto (tgt := 29) d_L_grant_14 (by decide) ?_
    refine pv_iconst (v := 0) (n := 30) d_L_grant_29 (by decide) rfl ?_
    exact pv_iret rfl rfl d_L_grant_30 h
  · rcases h with ⟨rfl, h⟩ | ⟨rfl, h⟩ | ⟨rfl, h⟩
    · refine pvx_catch (jf := 6) (i := 17) (n := 19) [] ⟨0, 14, 17, 13⟩ [⟨0, 14, 21, 15⟩, ⟨0, 14, 25, 17⟩] (L1 := [(9, 0), (0, a1), (0, a2), (0, a3), (0, a4), (15, 0), (1, 0)]) rfl (pw_hp0) (by decide) (by decide) q_661 q_660 rfl d_L_grant_17 (by decide) rfl rfl ?_
      refine pv_iconst (v := 1) (n := 20) d_L_grant_19 (by decide) rfl ?_
      exact pv_iret rfl rfl d_L_grant_20 h
    · refine pvx_catch (jf := 6) (i := 21) (n := 23) [⟨0, 14, 17, 13⟩] ⟨0, 14, 21, 15⟩ [⟨0, 14, 25, 17⟩] (L1 := [(9, 0), (0, a1), (0, a2), (0, a3), (0, a4), (15, 0), (1, 0)]) rfl (pw_hp1 ⟨by decide, 1, q_661, by decide⟩) (by decide) (by decide) q_663 q_662 rfl d_L_grant_21 (by decide) rfl rfl ?_
      refine pv_iconst (v := 2) (n := 24) d_L_grant_23 (by decide) rfl ?_
      exact pv_iret rfl rfl d_L_grant_24 h
    · refine pvx_catch (jf := 6) (i := 25) (n := 27) [⟨0, 14, 17, 13⟩, ⟨0, 14, 21, 15⟩] ⟨0, 14, 25, 17⟩ [] (L1 := [(9, 0), (0, a1), (0, a2), (0, a3), (0, a4), (15, 0), (1, 0)]) rfl (pw_hp2 ⟨by decide, 1, q_661, by decide⟩ ⟨by decide, 2, q_663, by decide⟩) (by decide) (by decide) q_665 q_664 rfl d_L_grant_25 (by decide) rfl rfl ?_
      refine pv_iconst (v := 3) (n := 28) d_L_grant_27 (by decide) rfl ?_
      exact pv_iret rfl rfl d_L_grant_28 h
set_option maxHeartbeats 4000000 in
set_option maxRecDepth 20000 in
theorem con_L_grant {l : Launch} {g : pw_G} {Q : pw_W → Int32 → Prop} {X : pw_W → Nat → Prop} (hl0 : l.stackTraces = false) {w : pw_W} {a1 a2 a3 a4 : Int32} (h : wp_L_grant w a1 a2 a3 a4 Q X) : pw_ConH l g y_L_grant cx_L_grant [(9, 0), (0, a1), (0, a2), (0, a3), (0, a4), (15, 0)] w Q X :=
  pw_conH (by decide +kernel) rfl rfl hl0 (Nat.le_of_ble_eq_true rfl) (by simp) (vw_L_grant hl0 h)
