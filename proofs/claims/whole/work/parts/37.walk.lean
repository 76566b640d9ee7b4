theorem d_L_merge_0 : decode (pw_cc cx_L_merge) 0 = .ok (.aload_n 3, 1) := by decide +kernel
theorem d_L_merge_1 : decode (pw_cc cx_L_merge) 1 = .ok (.iconst 0, 1) := by decide +kernel
theorem d_L_merge_2 : decode (pw_cc cx_L_merge) 2 = .ok (.aload_n 0, 1) := by decide +kernel
theorem d_L_merge_3 : decode (pw_cc cx_L_merge) 3 = .ok (.iload_n 1, 1) := by decide +kernel
theorem d_L_merge_4 : decode (pw_cc cx_L_merge) 4 = .ok (.iload_n 2, 1) := by decide +kernel
theorem d_L_merge_5 : decode (pw_cc cx_L_merge) 5 = .ok (.invokevirtual 19, 3) := by decide +kernel
theorem d_L_merge_8 : decode (pw_cc cx_L_merge) 8 = .ok (.i2l, 1) := by decide +kernel
theorem d_L_merge_9 : decode (pw_cc cx_L_merge) 9 = .ok (.lastore, 1) := by decide +kernel
theorem d_L_merge_10 : decode (pw_cc cx_L_merge) 10 = .ok (.goto 11, 3) := by decide +kernel
theorem d_L_merge_13 : decode (pw_cc cx_L_merge) 13 = .ok (.astore 4, 2) := by decide +kernel
theorem d_L_merge_15 : decode (pw_cc cx_L_merge) 15 = .ok (.iconst 1, 1) := by decide +kernel
theorem d_L_merge_16 : decode (pw_cc cx_L_merge) 16 = .ok (.ireturn, 1) := by decide +kernel
theorem d_L_merge_17 : decode (pw_cc cx_L_merge) 17 = .ok (.astore 4, 2) := by decide +kernel
theorem d_L_merge_19 : decode (pw_cc cx_L_merge) 19 = .ok (.iconst 2, 1) := by decide +kernel
theorem d_L_merge_20 : decode (pw_cc cx_L_merge) 20 = .ok (.ireturn, 1) := by decide +kernel
theorem d_L_merge_21 : decode (pw_cc cx_L_merge) 21 = .ok (.iconst 0, 1) := by decide +kernel
theorem d_L_merge_22 : decode (pw_cc cx_L_merge) 22 = .ok (.ireturn, 1) := by decide +kernel
set_option maxHeartbeats 4000000 in
set_option maxRecDepth 20000 in
def wp_L_merge (w : pw_W) (a1 a2 : Int32) (Q : pw_W → Int32 → Prop) (X : pw_W → Nat → Prop) : Prop := wp_X_merge w a1 a2 (fun w1 r2 => pw_jn 0 (pw_ln w1 13 0) ∧ ∀ w4, w4 = pw_ps w1 13 0 0 r2 → Q w4 0) (fun wx kx => kx = 1 ∧ Q wx 1 ∨ kx = 3 ∧ Q wx 2)
set_option maxHeartbeats 4000000 in
set_option maxRecDepth 20000 in
theorem vw_L_merge {l : Launch} {g : pw_G} {Q : pw_W → Int32 → Prop} {X : pw_W → Nat → Prop} (hl0 : l.stackTraces = false) {w : pw_W} {a1 a2 : Int32} (h : wp_L_merge w a1 a2 Q X) : pw_V l g cx_L_merge Q X 0 [(9, 0), (0, a1), (0, a2), (15, 0), (1, 0)] [] w := by
  unfold wp_L_merge at h
  refine pv_aload_n (n := 1) d_L_merge_0 rfl rfl rfl ?_
  refine pv_iconst (v := 0) (n := 2) d_L_merge_1 (by decide) rfl ?_
  refine pv_aload_n (n := 3) d_L_merge_2 rfl rfl rfl ?_
  refine pv_iload_n (n := 4) d_L_merge_3 rfl rfl rfl ?_
  refine pv_iload_n (n := 5) d_L_merge_4 rfl rfl rfl ?_
  refine pv_callV (n := 8) (x := 0) [(0, a1), (0, a2)] [(0, 0), (15, 0)] (con_X_merge hl0 h) pw_cf7 rfl q_667 q_668 q_669 q_62 q_666 pyo_X_merge (by decide) rfl rfl (by decide) d_L_merge_5 rfl (fun w1 r2 h _ => ?_) (fun wx kx h => ?_)
  · show pw_V l g cx_L_merge Q X 8 [(9, 0), (0, a1), (0, a2), (15, 0), (1, 0)] [(0, r2), (0, 0), (15, 0)] w1
    refine pv_i2l (n := 9) d_L_merge_8 rfl ?_
    obtain ⟨g3, h⟩ := h
    refine pv_last1 (n := 10) (f := 13) (by decide) rfl (fun _ => rfl) d_L_merge_9 (by decide) g3 rfl (fun w4 e5 => ?_)
    replace h := h w4 e5
    refine pv_goto (tgt := 21) d_L_merge_10 (by decide) ?_
    refine pv_iconst (v := 0) (n := 22) d_L_merge_21 (by decide) rfl ?_
    exact pv_iret rfl rfl d_L_merge_22 h
  · rcases h with ⟨rfl, h⟩ | ⟨rfl, h⟩
    · refine pvx_catch (jf := 4) (i := 13) (n := 15) [] ⟨0, 10, 13, 13⟩ [⟨0, 10, 17, 17⟩] (L1 := [(9, 0), (0, a1), (0, a2), (15, 0), (1, 0)]) rfl (pw_hp0) (by decide) (by decide) q_661 q_660 rfl d_L_merge_13 (by decide) rfl rfl ?_
      refine pv_iconst (v := 1) (n := 16) d_L_merge_15 (by decide) rfl ?_
      exact pv_iret rfl rfl d_L_merge_16 h
    · refine pvx_catch (jf := 4) (i := 17) (n := 19) [⟨0, 10, 13, 13⟩] ⟨0, 10, 17, 17⟩ [] (L1 := [(9, 0), (0, a1), (0, a2), (15, 0), (1, 0)]) rfl (pw_hp1 ⟨by decide, 1, q_661, by decide⟩) (by decide) (by decide) q_665 q_664 rfl d_L_merge_17 (by decide) rfl rfl ?_
      refine pv_iconst (v := 2) (n := 20) d_L_merge_19 (by decide) rfl ?_
      exact pv_iret rfl rfl d_L_merge_20 h
set_option maxHeartbeats 4000000 in
set_option maxRecDepth 20000 in
theorem con_L_merge {l : Launch} {g : pw_G} {Q : pw_W → Int32 → Prop} {X : pw_W → Nat → Prop} (hl0 : l.stackTraces = false) {w : pw_W} {a1 a2 : Int32} (h : wp_L_merge w a1 a2 Q X) : pw_ConH l g y_L_merge cx_L_merge [(9, 0), (0, a1), (0, a2), (15, 0)] w Q X :=
  pw_conH (by decide +kernel) rfl rfl hl0 (Nat.le_of_ble_eq_true rfl) (by simp) (vw_L_merge hl0 h)
theorem d_L_survey_0 : decode (pw_cc cx_L_survey) 0 = .ok (.aload 4, 2) := by decide +kernel
theorem d_L_survey_2 : decode (pw_cc cx_L_survey) 2 = .ok (.iconst 0, 1) := by decide +kernel
theorem d_L_survey_3 : decode (pw_cc cx_L_survey) 3 = .ok (.aload_n 0, 1) := by decide +kernel
theorem d_L_survey_4 : decode (pw_cc cx_L_survey) 4 = .ok (.iload_n 1, 1) := by decide +kernel
theorem d_L_survey_5 : decode (pw_cc cx_L_survey) 5 = .ok (.iload_n 2, 1) := by decide +kernel
theorem d_L_survey_6 : decode (pw_cc cx_L_survey) 6 = .ok (.iload_n 3, 1) := by decide +kernel
theorem d_L_survey_7 : decode (pw_cc cx_L_survey) 7 = .ok (.invokevirtual 23, 3) := by decide +kernel
theorem d_L_survey_10 : decode (pw_cc cx_L_survey) 10 = .ok (.i2l, 1) := by decide +kernel
theorem d_L_survey_11 : decode (pw_cc cx_L_survey) 11 = .ok (.lastore, 1) := by decide +kernel
theorem d_L_survey_12 : decode (pw_cc cx_L_survey) 12 = .ok (.goto 15, 3) := by decide +kernel
theorem d_L_survey_15 : decode (pw_cc cx_L_survey) 15 = .ok (.astore 5, 2) := by decide +kernel
theorem d_L_survey_17 : decode (pw_cc cx_L_survey) 17 = .ok (.iconst 1, 1) := by decide +kernel
theorem d_L_survey_18 : decode (pw_cc cx_L_survey) 18 = .ok (.ireturn, 1) := by decide +kernel
theorem d_L_survey_19 : decode (pw_cc cx_L_survey) 19 = .ok (.astore 5, 2) := by decide +kernel
theorem d_L_survey_21 : decode (pw_cc cx_L_survey) 21 = .ok (.iconst 2, 1) := by decide +kernel
theorem d_L_survey_22 : decode (pw_cc cx_L_survey) 22 = .ok (.ireturn, 1) := by decide +kernel
theorem d_L_survey_23 : decode (pw_cc cx_L_survey) 23 = .ok (.astore 5, 2) := by decide +kernel
theorem d_L_survey_25 : decode (pw_cc cx_L_survey) 25 = .ok (.iconst 3, 1) := by decide +kernel
theorem d_L_survey_26 : decode (pw_cc cx_L_survey) 26 = .ok (.ireturn, 1) := by decide +kernel
theorem d_L_survey_27 : decode (pw_cc cx_L_survey) 27 = .ok (.iconst 0, 1) := by decide +kernel
theorem d_L_survey_28 : decode (pw_cc cx_L_survey) 28 = .ok (.ireturn, 1) := by decide +kernel
set_option maxHeartbeats 4000000 in
set_option maxRecDepth 20000 in
def wp_L_survey (w : pw_W) (a1 a2 a3 : Int32) (Q : pw_W → Int32 → Prop) (X : pw_W → Nat → Prop) : Prop := wp_X_survey w a1 a2 a3 (fun w1 r2 => pw_jn 0 (pw_ln w1 13 0) ∧ ∀ w4, w4 = pw_ps w1 13 0 0 r2 → Q w4 0) (fun wx kx => kx = 1 ∧ Q wx 1 ∨ kx = 2 ∧ Q wx 2 ∨ kx = 3 ∧ Q wx 3)
set_option maxHeartbeats 4000000 in
set_option maxRecDepth 20000 in
theorem vw_L_survey {l : Launch} {g : pw_G} {Q : pw_W → Int32 → Prop} {X : pw_W → Nat → Prop} (hl0 : l.stackTraces = false) {w : pw_W} {a1 a2 a3 : Int32} (h : wp_L_survey w a1 a2 a3 Q X) : pw_V l g cx_L_survey Q X 0 [(9, 0), (0, a1), (0, a2), (0, a3), (15, 0), (1, 0)] [] w := by
  unfold wp_L_survey at h
  refine pv_aload (n := 2) d_L_survey_0 rfl rfl ?_
  refine pv_iconst (v := 0) (n := 3) d_L_survey_2 (by decide) rfl ?_
  refine pv_aload_n (n := 4) d_L_survey_3 rfl rfl rfl ?_
  refine pv_iload_n (n := 5) d_L_survey_4 rfl rfl rfl ?_
  refine pv_iload_n (n := 6) d_L_survey_5 rfl rfl rfl ?_
  refine pv_iload_n (n := 7) d_L_survey_6 rfl rfl rfl ?_
  refine pv_callV (n := 10) (x := 0) [(0, a1), (0, a2), (0, a3)] [(0, 0), (15, 0)] (con_X_survey hl0 h) pw_cf7 rfl q_671 q_672 q_673 q_62 q_670 pyo_X_survey (by decide) rfl rfl (by decide) d_L_survey_7 rfl (fun w1 r2 h _ => ?_) (fun wx kx h => ?_)
  · show pw_V l g cx_L_survey Q X 10 [(9, 0), (0, a1), (0, a2), (0, a3), (15, 0), (1, 0)] [(0, r2), (0, 0), (15, 0)] w1
    refine pv_i2l (n := 11) d_L_survey_10 rfl ?_
    obtain ⟨g3, h⟩ := h
    refine pv_last1 (n := 12) (f := 13) (by decide) rfl (fun _ => rfl) d_L_survey_11 (by decide) g3 rfl (fun w4 e5 => ?_)
    replace h := h w4 e5
    refine pv_goto (tgt := 27) d_L_survey_12 (by decide) ?_
    refine pv_iconst (v := 0) (n := 28) d_L_survey_27 (by decide) rfl ?_
    exact pv_iret rfl rfl d_L_survey_28 h
  · rcases h with ⟨rfl, h⟩ | ⟨rfl, h⟩ | ⟨rfl, h⟩
    · refine pvx_catch (jf := 5) (i := 15) (n := 17) [] ⟨0, 12, 15, 13⟩ [⟨0, 12, 19, 15⟩, ⟨0, 12, 23, 17⟩] (L1 := [(9, 0), (0, a1), (0, a2), (0, a3), (15, 0), (1, 0)]) rfl (pw_hp0) (by decide) (by decide) q_661 q_660 rfl d_L_survey_15 (by decide) rfl rfl ?_
      refine pv_iconst (v := 1) (n := 18) d_L_survey_17 (by decide) rfl ?_
      exact pv_iret rfl rfl d_L_survey_18 h
    · refine pvx_catch (jf := 5) (i := 19) (n := 21) [⟨0, 12, 15, 13⟩] ⟨0, 12, 19, 15⟩ [⟨0, 12, 23, 17⟩] (L1 := [(9, 0), (0, a1), (0, a2), (0, a3), (15, 0), (1, 0)]) rfl (pw_hp1 ⟨by decide, 1, q_661, by decide⟩) (by decide) (by decide) q_663 q_662 rfl d_L_survey_19 (by decide) rfl rfl ?_
      refine pv_iconst (v := 2) (n := 22) d_L_survey_21 (by decide) rfl ?_
      exact pv_iret rfl rfl d_L_survey_22 h
    · refine pvx_catch (jf := 5) (i := 23) (n := 25) [⟨0, 12, 15, 13⟩, ⟨0, 12, 19, 15⟩] ⟨0, 12, 23, 17⟩ [] (L1 := [(9, 0), (0, a1), (0, a2), (0, a3), (15, 0), (1, 0)]) rfl (pw_hp2 ⟨by decide, 1, q_661, by decide⟩ ⟨by decide, 2, q_663, by decide⟩) (by decide) (by decide) q_665 q_664 rfl d_L_survey_23 (by decide) rfl rfl ?_
      refine pv_iconst (v := 3) (n := 26) d_L_survey_25 (by decide) rfl ?_
      exact pv_iret rfl rfl d_L_survey_26 h
set_option maxHeartbeats 4000000 in
set_option maxRecDepth 20000 in
theorem con_L_survey {l : Launch} {g : pw_G} {Q : pw_W → Int32 → Prop} {X : pw_W → Nat → Prop} (hl0 : l.stackTraces = false) {w : pw_W} {a1 a2 a3 : Int32} (h : wp_L_survey w a1 a2 a3 Q X) : pw_ConH l g y_L_survey cx_L_survey [(9, 0), (0, a1), (0, a2), (0, a3), (15, 0)] w Q X :=
  pw_conH (by decide +kernel) rfl rfl hl0 (Nat.le_of_ble_eq_true rfl) (by simp) (vw_L_survey hl0 h)
theorem d_L_use_0 : decode (pw_cc cx_L_use) 0 = .ok (.aload 4, 2) := by decide +kernel
theorem d_L_use_2 : decode (pw_cc cx_L_use) 2 = .ok (.iconst 0, 1) := by decide +kernel
theorem d_L_use_3 : decode (pw_cc cx_L_use) 3 = .ok (.aload_n 0, 1) := by decide +kernel
theorem d_L_use_4 : decode (pw_cc cx_L_use) 4 = .ok (.iload_n 1, 1) := by decide +kernel
theorem d_L_use_5 : decode (pw_cc cx_L_use) 5 = .ok (.iload_n 2, 1) := by decide +kernel
theorem d_L_use_6 : decode (pw_cc cx_L_use) 6 = .ok (.iload_n 3, 1) := by decide +kernel
theorem d_L_use_7 : decode (pw_cc cx_L_use) 7 = .ok (.invokevirtual 27, 3) := by decide +kernel
theorem d_L_use_10 : decode (pw_cc cx_L_use) 10 = .ok (.i2l, 1) := by decide +kernel
theorem d_L_use_11 : decode (pw_cc cx_L_use) 11 = .ok (.lastore, 1) := by decide +kernel
theorem d_L_use_12 : decode (pw_cc cx_L_use) 12 = .ok (.goto 15, 3) := by decide +kernel
theorem d_L_use_15 : decode (pw_cc cx_L_use) 15 = .ok (.astore 5, 2) := by decide +kernel
theorem d_L_use_17 : decode (pw_cc cx_L_use) 17 = .ok (.iconst 1, 1) := by decide +kernel
theorem d_L_use_18 : decode (pw_cc cx_L_use) 18 = .ok (.ireturn, 1) := by decide +kernel
theorem d_L_use_19 : decode (pw_cc cx_L_use) 19 = .ok (.astore 5, 2) := by decide +kernel
theorem d_L_use_21 : decode (pw_cc cx_L_use) 21 = .ok (.iconst 2, 1) := by decide +kernel
theorem d_L_use_22 : decode (pw_cc cx_L_use) 22 = .ok (.ireturn, 1) := by decide +kernel
theorem d_L_use_23 : decode (pw_cc cx_L_use) 23 = .ok (.astore 5, 2) := by decide +kernel
theorem d_L_use_25 : decode (pw_cc cx_L_use) 25 = .ok (.iconst 3, 1) := by decide +kernel
theorem d_L_use_26 : decode (pw_cc cx_L_use) 26 = .ok (.ireturn, 1) := by decide +kernel
theorem d_L_use_27 : decode (pw_cc cx_L_use) 27 = .ok (.iconst 0, 1) := by decide +kernel
theorem d_L_use_28 : decode (pw_cc cx_L_use) 28 = .ok (.ireturn, 1) := by decide +kernel
set_option maxHeartbeats 4000000 in
set_option maxRecDepth 20000 in
def wp_L_use (w : pw_W) (a1 a2 a3 : Int32) (Q : pw_W → Int32 → Prop) (X : pw_W → Nat → Prop) : Prop := wp_X_use w a1 a2 a3 (fun w1 r2 => pw_jn 0 (pw_ln w1 13 0) ∧ ∀ w4, w4 = pw_ps w1 13 0 0 r2 → Q w4 0) (fun wx kx => kx = 1 ∧ Q wx 1 ∨ kx = 2 ∧ Q wx 2 ∨ kx = 3 ∧ Q wx 3)
set_option maxHeartbeats 4000000 in
set_option maxRecDepth 20000 in
theorem vw_L_use {l : Launch} {g : pw_G} {Q : pw_W → Int32 → Prop} {X : pw_W → Nat → Prop} (hl0 : l.stackTraces = false) {w : pw_W} {a1 a2 a3 : Int32} (h : wp_L_use w a1 a2 a3 Q X) : pw_V l g cx_L_use Q X 0 [(9, 0), (0, a1), (0, a2), (0, a3), (15, 0), (1, 0)] [] w := by
  unfold wp_L_use at h
  refine pv_aload (n := 2) d_L_use_0 rfl rfl ?_
  refine pv_iconst (v := 0) (n := 3) d_L_use_2 (by decide) rfl ?_
  refine pv_aload_n (n := 4) d_L_use_3 rfl rfl rfl ?_
  refine pv_iload_n (n := 5) d_L_use_4 rfl rfl rfl ?_
  refine pv_iload_n (n := 6) d_L_use_5 rfl rfl rfl ?_
  refine pv_iload_n (n := 7) d_L_use_6 rfl rfl rfl ?_
  refine pv_callV (n := 10) (x := 0) [(0, a1), (0, a2), (0, a3)] [(0, 0), (15, 0)] (con_X_use hl0 h) pw_cf7 rfl q_675 q_676 q_677 q_62 q_674 pyo_X_use (by decide) rfl rfl (by decide) d_L_use_7 rfl (fun w1 r2 h _ => ?_) (fun wx kx h => ?_)
  · show pw_V l g cx_L_use Q X 10 [(9, 0), (0, a1), (0, a2), (0, a3), (15, 0), (1, 0)] [(0, r2), (0, 0), (15, 0)] w1
    refine pv_i2l (n := 11) d_L_use_10 rfl ?_
    obtain ⟨g3, h⟩ := h
    refine pv_last1 (n := 12) (f := 13) (by decide) rfl (fun _ => rfl) d_L_use_11 (by decide) g3 rfl (fun w4 e5 => ?_)
    replace h := h w4 e5
    refine pv_goto (tgt := 27) d_L_use_12 (by decide) ?_
    refine pv_iconst (v := 0) (n := 28) d_L_use_27 (by decide) rfl ?_
    exact pv_iret rfl rfl d_L_use_28 h
  · rcases h with ⟨rfl, h⟩ | ⟨rfl, h⟩ | ⟨rfl, h⟩
    · refine pvx_catch (jf := 5) (i := 15) (n := 17) [] ⟨0, 12, 15, 13⟩ [⟨0, 12, 19, 15⟩, ⟨0, 12, 23, 17⟩] (L1 := [(9, 0), (0, a1), (0, a2), (0, a3), (15, 0), (1, 0)]) rfl (pw_hp0) (by decide) (by decide) q_661 q_660 rfl d_L_use_15 (by decide) rfl rfl ?_
      refine pv_iconst (v := 1) (n := 18) d_L_use_17 (by decide) rfl ?_
      exact pv_iret rfl rfl d_L_use_18 h
    · refine pvx_catch (jf := 5) (i := 19) (n := 21) [⟨0, 12, 15, 13⟩] ⟨0, 12, 19, 15⟩ [⟨0, 12, 23, 17⟩] (L1 := [(9, 0), (0, a1), (0, a2), (0, a3), (15, 0), (1, 0)]) rfl (pw_hp1 ⟨by decide, 1, q_661, by decide⟩) (by decide) (by decide) q_663 q_662 rfl d_L_use_19 (by decide) rfl rfl ?_
      refine pv_iconst (v := 2) (n := 22) d_L_use_21 (by decide) rfl ?_
      exact pv_iret rfl rfl d_L_use_22 h
    · refine pvx_catch (jf := 5) (i := 23) (n := 25) [⟨0, 12, 15, 13⟩, ⟨0, 12, 19, 15⟩] ⟨0, 12, 23, 17⟩ [] (L1 := [(9, 0), (0, a1), (0, a2), (0, a3), (15, 0), (1, 0)]) rfl (pw_hp2 ⟨by decide, 1, q_661, by decide⟩ ⟨by decide, 2, q_663, by decide⟩) (by decide) (by decide) q_665 q_664 rfl d_L_use_23 (by decide) rfl rfl ?_
      refine pv_iconst (v := 3) (n := 26) d_L_use_25 (by decide) rfl ?_
      exact pv_iret rfl rfl d_L_use_26 h
set_option maxHeartbeats 4000000 in
set_option maxRecDepth 20000 in
theorem con_L_use {l : Launch} {g : pw_G} {Q : pw_W → Int32 → Prop} {X : pw_W → Nat → Prop} (hl0 : l.stackTraces = false) {w : pw_W} {a1 a2 a3 : Int32} (h : wp_L_use w a1 a2 a3 Q X) : pw_ConH l g y_L_use cx_L_use [(9, 0), (0, a1), (0, a2), (0, a3), (15, 0)] w Q X :=
  pw_conH (by decide +kernel) rfl rfl hl0 (Nat.le_of_ble_eq_true rfl) (by simp) (vw_L_use hl0 h)
theorem d_L_file_0 : decode (pw_cc cx_L_file) 0 = .ok (.aload 5, 2) := by decide +kernel
theorem d_L_file_2 : decode (pw_cc cx_L_file) 2 = .ok (.iconst 0, 1) := by decide +kernel
theorem d_L_file_3 : decode (pw_cc cx_L_file) 3 = .ok (.aload_n 0, 1) := by decide +kernel
theorem d_L_file_4 : decode (pw_cc cx_L_file) 4 = .ok (.iload_n 1, 1) := by decide +kernel
theorem d_L_file_5 : decode (pw_cc cx_L_file) 5 = .ok (.iload_n 2, 1) := by decide +kernel
theorem d_L_file_6 : decode (pw_cc cx_L_file) 6 = .ok (.iload_n 3, 1) := by decide +kernel
theorem d_L_file_7 : decode (pw_cc cx_L_file) 7 = .ok (.iload 4, 2) := by decide +kernel
theorem d_L_file_9 : decode (pw_cc cx_L_file) 9 = .ok (.invokevirtual 30, 3) := by decide +kernel
theorem d_L_file_12 : decode (pw_cc cx_L_file) 12 = .ok (.i2l, 1) := by decide +kernel
theorem d_L_file_13 : decode (pw_cc cx_L_file) 13 = .ok (.lastore, 1) := by decide +kernel
theorem d_L_file_14 : decode (pw_cc cx_L_file) 14 = .ok (.goto 15, 3) := by decide +kernel
theorem d_L_file_17 : decode (pw_cc cx_L_file) 17 = .ok (.astore 6, 2) := by decide +kernel
theorem d_L_file_19 : decode (pw_cc cx_L_file) 19 = .ok (.iconst 1, 1) := by decide +kernel
theorem d_L_file_20 : decode (pw_cc cx_L_file) 20 = .ok (.ireturn, 1) := by decide +kernel
theorem d_L_file_21 : decode (pw_cc cx_L_file) 21 = .ok (.astore 6, 2) := by decide +kernel
theorem d_L_file_23 : decode (pw_cc cx_L_file) 23 = .ok (.iconst 2, 1) := by decide +kernel
theorem d_L_file_24 : decode (pw_cc cx_L_file) 24 = .ok (.ireturn, 1) := by decide +kernel
theorem d_L_file_25 : decode (pw_cc cx_L_file) 25 = .ok (.astore 6, 2) := by decide +kernel
theorem d_L_file_27 : decode (pw_cc cx_L_file) 27 = .ok (.iconst 3, 1) := by decide +kernel
theorem d_L_file_28 : decode (pw_cc cx_L_file) 28 = .ok (.ireturn, 1) := by decide +kernel
theorem d_L_file_29 : decode (pw_cc cx_L_file) 29 = .ok (.iconst 0, 1) := by decide +kernel
theorem d_L_file_30 : decode (pw_cc cx_L_file) 30 = .ok (.ireturn, 1) := by decide +kernel
set_option maxHeartbeats 4000000 in
set_option maxRecDepth 20000 in
def wp_L_file (w : pw_W) (a1 a2 a3 a4 : Int32) (Q : pw_W → Int32 → Prop) (X : pw_W → Nat → Prop) : Prop := wp_X_file w a1 a2 a3 a4 (fun w1 r2 => pw_jn 0 (pw_ln w1 13 0) ∧ ∀ w4, w4 = pw_ps w1 13 0 0 r2 → Q w4 0) (fun wx kx => kx = 1 ∧ Q wx 1 ∨ kx = 2 ∧ Q wx 2 ∨ kx = 3 ∧ Q wx 3)
set_option maxHeartbeats 4000000 in
set_option maxRecDepth 20000 in
theorem vw_L_file {l : Launch} {g : pw_G} {Q : pw_W → Int32 → Prop} {X : pw_W → Nat → Prop} (hl0 : l.stackTraces = false) {w : pw_W} {a1 a2 a3 a4 : Int32} (h : wp_L_file w a1 a2 a3 a4 Q X) : pw_V l g cx_L_file Q X 0 [(9, 0), (0, a1), (0, a2), (0, a3), (0, a4), (15, 0), (1, 0)] [] w := by
  unfold wp_L_file at h
  refine pv_aload (n := 2) d_L_file_0 rfl rfl ?_
  refine pv_iconst (v := 0) (n := 3) d_L_file_2 (by decide) rfl ?_
  refine pv_aload_n (n := 4) d_L_file_3 rfl rfl rfl ?_
  refine pv_iload_n (n := 5) d_L_file_4 rfl rfl rfl ?_
  refine pv_iload_n (n := 6) d_L_file_5 rfl rfl rfl ?_
  refine pv_iload_n (n := 7) d_L_file_6 rfl rfl rfl ?_
  refine pv_iload (n := 9) d_L_file_7 rfl rfl ?_
  refine pv_callV (n := 12) (x := 0) [(0, a1), (0, a2), (0, a3), (0, a4)] [(0, 0), (15, 0)] (con_X_file hl0 h) pw_cf7 rfl q_679 q_680 q_681 q_62 q_678 pyo_X_file (by decide) rfl rfl (by decide) d_L_file_9 rfl (fun w1 r2 h _ => ?_) (fun wx kx h => ?_)
  · show pw_V l g cx_L_file Q X 12 [(9, 0), (0, a1), (0, a2), (0, a3), (0, a4), (15, 0), (1, 0)] [(0, r2), (0, 0), (15, 0)] w1
    refine pv_i2l (n := 13) d_L_file_12 rfl ?_
    obtain ⟨g3, h⟩ := h
    refine pv_last1 (n := 14) (f := 13) (by decide) rfl (fun _ => rfl) d_L_file_13 (by decide) g3 rfl (fun w4 e5 => ?_)
    replace h := h w4 e5
    refine pv_goto (tgt := 29) d_L_file_14 (by decide) ?_
    refine pv_iconst (v := 0) (n := 30) d_L_file_29 (by decide) rfl ?_
    exact pv_iret rfl rfl d_L_file_30 h
  · rcases h with ⟨rfl, h⟩ | ⟨rfl, h⟩ | ⟨rfl, h⟩
    · refine pvx_catch (jf := 6) (i := 17) (n := 19) [] ⟨0, 14, 17, 13⟩ [⟨0, 14, 21, 15⟩, ⟨0, 14, 25, 17⟩] (L1 := [(9, 0), (0, a1), (0, a2), (0, a3), (0, a4), (15, 0), (1, 0)]) rfl (pw_hp0) (by decide) (by decide) q_661 q_660 rfl d_L_file_17 (by decide) rfl rfl ?_
      refine pv_iconst (v := 1) (n := 20) d_L_file_19 (by decide) rfl ?_
      exact pv_iret rfl rfl d_L_file_20 h
    · refine pvx_catch (jf := 6) (i := 21) (n := 23) [⟨0, 14, 17, 13⟩] ⟨0, 14, 21, 15⟩ [⟨0, 14, 25, 17⟩] (L1 := [(9, 0), (0, a1), (0, a2), (0, a3), (0, a4), (15, 0), (1, 0)]) rfl (pw_hp1 ⟨by decide, 1, q_661, by decide⟩) (by decide) (by decide) q_663 q_662 rfl d_L_file_21 (by decide) rfl rfl ?_
      refine pv_iconst (v := 2) (n := 24) d_L_file_23 (by decide) rfl ?_
      exact pv_iret rfl rfl d_L_file_24 h
    · refine pvx_catch (jf := 6) (i := 25) (n := 27) [⟨0, 14, 17, 13⟩, ⟨0, 14, 21, 15⟩] ⟨0, 14, 25, 17⟩ [] (L1 := [(9, 0), (0, a1), (0, a2), (0, a3), (0, a4), (15, 0), (1, 0)]) rfl (pw_hp2 ⟨by decide, 1, q_661, by decide⟩ ⟨by decide, 2, q_663, by decide⟩) (by decide) (by decide) q_665 q_664 rfl d_L_file_25 (by decide) rfl rfl ?_
      refine pv_iconst (v := 3) (n := 28) d_L_file_27 (by decide) rfl ?_
      exact pv_iret rfl rfl d_L_file_28 h
set_option maxHeartbeats 4000000 in
set_option maxRecDepth 20000 in
theorem con_L_file {l : Launch} {g : pw_G} {Q : pw_W → Int32 → Prop} {X : pw_W → Nat → Prop} (hl0 : l.stackTraces = false) {w : pw_W} {a1 a2 a3 a4 : Int32} (h : wp_L_file w a1 a2 a3 a4 Q X) : pw_ConH l g y_L_file cx_L_file [(9, 0), (0, a1), (0, a2), (0, a3), (0, a4), (15, 0)] w Q X :=
  pw_conH (by decide +kernel) rfl rfl hl0 (Nat.le_of_ble_eq_true rfl) (by simp) (vw_L_file hl0 h)
theorem d_L_evidence_0 : decode (pw_cc cx_L_evidence) 0 = .ok (.aload 4, 2) := by decide +kernel
theorem d_L_evidence_2 : decode (pw_cc cx_L_evidence) 2 = .ok (.iconst 0, 1) := by decide +kernel
theorem d_L_evidence_3 : decode (pw_cc cx_L_evidence) 3 = .ok (.aload_n 0, 1) := by decide +kernel
theorem d_L_evidence_4 : decode (pw_cc cx_L_evidence) 4 = .ok (.iload_n 1, 1) := by decide +kernel
theorem d_L_evidence_5 : decode (pw_cc cx_L_evidence) 5 = .ok (.iload_n 2, 1) := by decide +kernel
theorem d_L_evidence_6 : decode (pw_cc cx_L_evidence) 6 = .ok (.iload_n 3, 1) := by decide +kernel
theorem d_L_evidence_7 : decode (pw_cc cx_L_evidence) 7 = .ok (.invokevirtual 34, 3) := by decide +kernel
theorem d_L_evidence_10 : decode (pw_cc cx_L_evidence) 10 = .ok (.i2l, 1) := by decide +kernel
theorem d_L_evidence_11 : decode (pw_cc cx_L_evidence) 11 = .ok (.lastore, 1) := by decide +kernel
theorem d_L_evidence_12 : decode (pw_cc cx_L_evidence) 12 = .ok (.goto 15, 3) := by decide +kernel
theorem d_L_evidence_15 : decode (pw_cc cx_L_evidence) 15 = .ok (.astore 5, 2) := by decide +kernel
theorem d_L_evidence_17 : decode (pw_cc cx_L_evidence) 17 = .ok (.iconst 1, 1) := by decide +kernel
theorem d_L_evidence_18 : decode (pw_cc cx_L_evidence) 18 = .ok (.ireturn, 1) := by decide +kernel
theorem d_L_evidence_19 : decode (pw_cc cx_L_evidence) 19 = .ok (.astore 5, 2) := by decide +kernel
theorem d_L_evidence_21 : decode (pw_cc cx_L_evidence) 21 = .ok (.iconst 2, 1) := by decide +kernel
theorem d_L_evidence_22 : decode (pw_cc cx_L_evidence) 22 = .ok (.ireturn, 1) := by decide +kernel
theorem d_L_evidence_23 : decode (pw_cc cx_L_evidence) 23 = .ok (.astore 5, 2) := by decide +kernel
theorem d_L_evidence_25 : decode (pw_cc cx_L_evidence) 25 = .ok (.iconst 3, 1) := by decide +kernel
theorem d_L_evidence_26 : decode (pw_cc cx_L_evidence) 26 = .ok (.ireturn, 1) := by decide +kernel
theorem d_L_evidence_27 : decode (pw_cc cx_L_evidence) 27 = .ok (.iconst 0, 1) := by decide +kernel
theorem d_L_evidence_28 : decode (pw_cc cx_L_evidence) 28 = .ok (.ireturn, 1) := by decide +kernel
set_option maxHeartbeats 4000000 in
set_option maxRecDepth 20000 in
def wp_L_evidence (w : pw_W) (a1 a2 a3 : Int32) (Q : pw_W → Int32 → Prop) (X : pw_W → Nat → Prop) : Prop := wp_X_evidence w a1 a2 a3 (fun w1 r2 => pw_jn 0 (pw_ln w1 13 0) ∧ ∀ w4, w4 = pw_ps w1 13 0 0 r2 → Q w4 0) (fun wx kx => kx = 1 ∧ Q wx 1 ∨ kx = 2 ∧ Q wx 2 ∨ kx = 3 ∧ Q wx 3)
set_option maxHeartbeats 4000000 in
set_option maxRecDepth 20000 in
theorem vw_L_evidence {l : Launch} {g : pw_G} {Q : pw_W → Int32 → Prop} {X : pw_W → Nat → Prop} (hl0 : l.stackTraces = false) {w : pw_W} {a1 a2 a3 : Int32} (h : wp_L_evidence w a1 a2 a3 Q X) : pw_V l g cx_L_evidence Q X 0 [(9, 0), (0, a1), (0, a2), (0, a3), (15, 0), (1, 0)] [] w := by
  unfold wp_L_evidence at h
  refine pv_aload (n := 2) d_L_evidence_0 rfl rfl ?_
  refine pv_iconst (v := 0) (n := 3) d_L_evidence_2 (by decide) rfl ?_
  refine pv_aload_n (n := 4) d_L_evidence_3 rfl rfl rfl ?_
  refine pv_iload_n (n := 5) d_L_evidence_4 rfl rfl rfl ?_
  refine pv_iload_n (n := 6) d_L_evidence_5 rfl rfl rfl ?_
  refine pv_iload_n (n := 7) d_L_evidence_6 rfl rfl rfl ?_
  refine pv_callV (n := 10) (x := 0) [(0, a1), (0, a2), (0, a3)] [(0, 0), (15, 0)] (con_X_evidence hl0 h) pw_cf7 rfl q_683 q_684 q_685 q_62 q_682 pyo_X_evidence (by decide) rfl rfl (by decide) d_L_evidence_7 rfl (fun w1 r2 h _ => ?_) (fun wx kx h => ?_)
  · show pw_V l g cx_L_evidence Q X 10 [(9, 0), (0, a1), (0, a2), (0, a3), (15, 0), (1, 0)] [(0, r2), (0, 0), (15, 0)] w1
    refine pv_i2l (n := 11) d_L_evidence_10 rfl ?_
    obtain ⟨g3, h⟩ := h
    refine pv_last1 (n := 12) (f := 13) (by decide) rfl (fun _ => rfl) d_L_evidence_11 (by decide) g3 rfl (fun w4 e5 => ?_)
    replace h := h w4 e5
    refine pv_goto (tgt := 27) d_L_evidence_12 (by decide) ?_
    refine pv_iconst (v := 0) (n := 28) d_L_evidence_27 (by decide) rfl ?_
    exact pv_iret rfl rfl d_L_evidence_28 h
  · rcases h with ⟨rfl, h⟩ | ⟨rfl, h⟩ | ⟨rfl, h⟩
    · refine pvx_catch (jf := 5) (i := 15) (n := 17) [] ⟨0, 12, 15, 13⟩ [⟨0, 12, 19, 15⟩, ⟨0, 12, 23, 17⟩] (L1 := [(9, 0), (0, a1), (0, a2), (0, a3), (15, 0), (1, 0)]) rfl (pw_hp0) (by decide) (by decide) q_661 q_660 rfl d_L_evidence_15 (by decide) rfl rfl ?_
      refine pv_iconst (v := 1) (n := 18) d_L_evidence_17 (by decide) rfl ?_
      exact pv_iret rfl rfl d_L_evidence_18 h
    · refine pvx_catch (jf := 5) (i := 19) (n := 21) [⟨0, 12, 15, 13⟩] ⟨0, 12, 19, 15⟩ [⟨0, 12, 23, 17⟩] (L1 := [(9, 0), (0, a1), (0, a2), (0, a3), (15, 0), (1, 0)]) rfl (pw_hp1 ⟨by decide, 1, q_661, by decide⟩) (by decide) (by decide) q_663 q_662 rfl d_L_evidence_19 (by decide) rfl rfl ?_
      refine pv_iconst (v := 2) (n := 22) d_L_evidence_21 (by decide) rfl ?_
      exact pv_iret rfl rfl d_L_evidence_22 h
    · refine pvx_catch (jf := 5) (i := 23) (n := 25) [⟨0, 12, 15, 13⟩, ⟨0, 12, 19, 15⟩] ⟨0, 12, 23, 17⟩ [] (L1 := [(9, 0), (0, a1), (0, a2), (0, a3), (15, 0), (1, 0)]) rfl (pw_hp2 ⟨by decide, 1, q_661, by decide⟩ ⟨by decide, 2, q_663, by decide⟩) (by decide) (by decide) q_665 q_664 rfl d_L_evidence_23 (by decide) rfl rfl ?_
      refine pv_iconst (v := 3) (n := 26) d_L_evidence_25 (by decide) rfl ?_
      exact pv_iret rfl rfl d_L_evidence_26 h
set_option maxHeartbeats 4000000 in
set_option maxRecDepth 20000 in
theorem con_L_evidence {l : Launch} {g : pw_G} {Q : pw_W → Int32 → Prop} {X : pw_W → Nat → Prop} (hl0 : l.stackTraces = false) {w : pw_W} {a1 a2 a3 : Int32} (h : wp_L_evidence w a1 a2 a3 Q X) : pw_ConH l g y_L_evidence cx_L_evidence [(9, 0), (0, a1), (0, a2), (0, a3), (15, 0)] w Q X :=
  pw_conH (by decide +kernel) rfl rfl hl0 (Nat.le_of_ble_eq_true rfl) (by simp) (vw_L_evidence hl0 h)
theorem d_L_decide_0 : decode (pw_cc cx_L_decide) 0 = .ok (.aload_n 2, 1) := by decide +kernel
theorem d_L_decide_1 : decode (pw_cc cx_L_decide) 1 = .ok (.iconst 0, 1) := by decide +kernel
theorem d_L_decide_2 : decode (pw_cc cx_L_decide) 2 = .ok (.aload_n 0, 1) := by decide +kernel
theorem d_L_decide_3 : decode (pw_cc cx_L_decide) 3 = .ok (.iload_n 1, 1) := by decide +kernel
theorem d_L_decide_4 : decode (pw_cc cx_L_decide) 4 = .ok (.invokevirtual 38, 3) := by decide +kernel
theorem d_L_decide_7 : decode (pw_cc cx_L_decide) 7 = .ok (.i2l, 1) := by decide +kernel
theorem d_L_decide_8 : decode (pw_cc cx_L_decide) 8 = .ok (.lastore, 1) := by decide +kernel
theorem d_L_decide_9 : decode (pw_cc cx_L_decide) 9 = .ok (.goto 9, 3) := by decide +kernel
theorem d_L_decide_12 : decode (pw_cc cx_L_decide) 12 = .ok (.astore_n 3, 1) := by decide +kernel
theorem d_L_decide_13 : decode (pw_cc cx_L_decide) 13 = .ok (.iconst 1, 1) := by decide +kernel
theorem d_L_decide_14 : decode (pw_cc cx_L_decide) 14 = .ok (.ireturn, 1) := by decide +kernel
theorem d_L_decide_15 : decode (pw_cc cx_L_decide) 15 = .ok (.astore_n 3, 1) := by decide +kernel
theorem d_L_decide_16 : decode (pw_cc cx_L_decide) 16 = .ok (.iconst 2, 1) := by decide +kernel
theorem d_L_decide_17 : decode (pw_cc cx_L_decide) 17 = .ok (.ireturn, 1) := by decide +kernel
theorem d_L_decide_18 : decode (pw_cc cx_L_decide) 18 = .ok (.iconst 0, 1) := by decide +kernel
theorem d_L_decide_19 : decode (pw_cc cx_L_decide) 19 = .ok (.ireturn, 1) := by decide +kernel
set_option maxHeartbeats 4000000 in
set_option maxRecDepth 20000 in
def wp_L_decide (w : pw_W) (a1 : Int32) (Q : pw_W → Int32 → Prop) (X : pw_W → Nat → Prop) : Prop := wp_X_decide w a1 (fun w1 r2 => pw_jn 0 (pw_ln w1 13 0) ∧ ∀ w4, w4 = pw_ps w1 13 0 0 r2 → Q w4 0) (fun wx kx => kx = 1 ∧ Q wx 1 ∨ kx = 3 ∧ Q wx 2)
set_option maxHeartbeats 4000000 in
set_option maxRecDepth 20000 in
theorem vw_L_decide {l : Launch} {g : pw_G} {Q : pw_W → Int32 → Prop} {X : pw_W → Nat → Prop} (hl0 : l.stackTraces = false) {w : pw_W} {a1 : Int32} (h : wp_L_decide w a1 Q X) : pw_V l g cx_L_decide Q X 0 [(9, 0), (0, a1), (15, 0), (1, 0)] [] w := by
  unfold wp_L_decide at h
  refine pv_aload_n (n := 1) d_L_decide_0 rfl rfl rfl ?_
  refine pv_iconst (v := 0) (n := 2) d_L_decide_1 (by decide) rfl ?_
  refine pv_aload_n (n := 3) d_L_decide_2 rfl rfl rfl ?_
  refine pv_iload_n (n := 4) d_L_decide_3 rfl rfl rfl ?_
  refine pv_callV (n := 7) (x := 0) [(0, a1)] [(0, 0), (15, 0)] (con_X_decide hl0 h) pw_cf7 rfl q_687 q_688 q_689 q_62 q_686 pyo_X_decide (by decide) rfl rfl (by decide) d_L_decide_4 rfl (fun w1 r2 h _ => ?_) (fun wx kx h => ?_)
  · show pw_V l g cx_L_decide Q X 7 [(9, 0), (0, a1), (15, 0), (1, 0)] [(0, r2), (0, 0), (15, 0)] w1
    refine pv_i2l (n := 8) d_L_decide_7 rfl ?_
    obtain ⟨g3, h⟩ := h
    refine pv_last1 (n := 9) (f := 13) (by decide) rfl (fun _ => rfl) d_L_decide_8 (by decide) g3 rfl (fun w4 e5 => ?_)
    replace h := h w4 e5
    refine pv_goto (tgt := 18) d_L_decide_9 (by decide) ?_
    refine pv_iconst (v := 0) (n := 19) d_L_decide_18 (by decide) rfl ?_
    exact pv_iret rfl rfl d_L_decide_19 h
  · rcases h with ⟨rfl, h⟩ | ⟨rfl, h⟩
    · refine pvx_catch_n (jf := 3) (i := 12) (n := 13) [] ⟨0, 9, 12, 13⟩ [⟨0, 9, 15, 17⟩] (L1 := [(9, 0), (0, a1), (15, 0), (1, 0)]) rfl (pw_hp0) (by decide) (by decide) q_661 q_660 rfl d_L_decide_12 (by decide) rfl rfl ?_
      refine pv_iconst (v := 1) (n := 14) d_L_decide_13 (by decide) rfl ?_
      exact pv_iret rfl rfl d_L_decide_14 h
    · refine pvx_catch_n (jf := 3) (i := 15) (n := 16) [⟨0, 9, 12, 13⟩] ⟨0, 9, 15, 17⟩ [] (L1 := [(9, 0), (0, a1), (15, 0), (1, 0)]) rfl (pw_hp1 ⟨by decide, 1, q_661, by decide⟩) (by decide) (by decide) q_665 q_664 rfl d_L_decide_15 (by decide) rfl rfl ?_
      refine pv_iconst (v := 2) (n := 17) d_L_decide_16 (by decide) rfl ?_
      exact pv_iret rfl rfl d_L_decide_17 h
set_option maxHeartbeats 4000000 in
set_option maxRecDepth 20000 in
theorem con_L_decide {l : Launch} {g : pw_G} {Q : pw_W → Int32 → Prop} {X : pw_W → Nat → Prop} (hl0 : l.stackTraces = false) {w : pw_W} {a1 : Int32} (h : wp_L_decide w a1 Q X) : pw_ConH l g y_L_decide cx_L_decide [(9, 0), (0, a1), (15, 0)] w Q X :=
  pw_conH (by decide +kernel) rfl rfl hl0 (Nat.le_of_ble_eq_true rfl) (by simp) (vw_L_decide hl0 h)
theorem d_L_appeal_0 : decode (pw_cc cx_L_appeal) 0 = .ok (.aload_n 2, 1) := by decide +kernel
theorem d_L_appeal_1 : decode (pw_cc cx_L_appeal) 1 = .ok (.iconst 0, 1) := by decide +kernel
theorem d_L_appeal_2 : decode (pw_cc cx_L_appeal) 2 = .ok (.aload_n 0, 1) := by decide +kernel
theorem d_L_appeal_3 : decode (pw_cc cx_L_appeal) 3 = .ok (.iload_n 1, 1) := by decide +kernel
theorem d_L_appeal_4 : decode (pw_cc cx_L_appeal) 4 = .ok (.invokevirtual 42, 3) := by decide +kernel
theorem d_L_appeal_7 : decode (pw_cc cx_L_appeal) 7 = .ok (.i2l, 1) := by decide +kernel
theorem d_L_appeal_8 : decode (pw_cc cx_L_appeal) 8 = .ok (.lastore, 1) := by decide +kernel
theorem d_L_appeal_9 : decode (pw_cc cx_L_appeal) 9 = .ok (.goto 9, 3) := by decide +kernel
theorem d_L_appeal_12 : decode (pw_cc cx_L_appeal) 12 = .ok (.astore_n 3, 1) := by decide +kernel
theorem d_L_appeal_13 : decode (pw_cc cx_L_appeal) 13 = .ok (.iconst 1, 1) := by decide +kernel
theorem d_L_appeal_14 : decode (pw_cc cx_L_appeal) 14 = .ok (.ireturn, 1) := by decide +kernel
theorem d_L_appeal_15 : decode (pw_cc cx_L_appeal) 15 = .ok (.astore_n 3, 1) := by decide +kernel
theorem d_L_appeal_16 : decode (pw_cc cx_L_appeal) 16 = .ok (.iconst 2, 1) := by decide +kernel
theorem d_L_appeal_17 : decode (pw_cc cx_L_appeal) 17 = .ok (.ireturn, 1) := by decide +kernel
theorem d_L_appeal_18 : decode (pw_cc cx_L_appeal) 18 = .ok (.iconst 0, 1) := by decide +kernel
theorem d_L_appeal_19 : decode (pw_cc cx_L_appeal) 19 = .ok (.ireturn, 1) := by decide +kernel
set_option maxHeartbeats 4000000 in
set_option maxRecDepth 20000 in
def wp_L_appeal (w : pw_W) (a1 : Int32) (Q : pw_W → Int32 → Prop) (X : pw_W → Nat → Prop) : Prop := wp_X_appeal w a1 (fun w1 r2 => pw_jn 0 (pw_ln w1 13 0) ∧ ∀ w4, w4 = pw_ps w1 13 0 0 r2 → Q w4 0) (fun wx kx => kx = 1 ∧ Q wx 1 ∨ kx = 3 ∧ Q wx 2)
set_option maxHeartbeats 4000000 in
set_option maxRecDepth 20000 in
theorem vw_L_appeal {l : Launch} {g : pw_G} {Q : pw_W → Int32 → Prop} {X : pw_W → Nat → Prop} (hl0 : l.stackTraces = false) {w : pw_W} {a1 : Int32} (h : wp_L_appeal w a1 Q X) : pw_V l g cx_L_appeal Q X 0 [(9, 0), (0, a1), (15, 0), (1, 0)] [] w := by
  unfold wp_L_appeal at h
  refine pv_aload_n (n := 1) d_L_appeal_0 rfl rfl rfl ?_
  refine pv_iconst (v := 0) (n := 2) d_L_appeal_1 (by decide) rfl ?_
  refine pv_aload_n (n := 3) d_L_appeal_2 rfl rfl rfl ?_
  refine pv_iload_n (n := 4) d_L_appeal_3 rfl rfl rfl ?_
  refine pv_callV (n := 7) (x := 0) [(0, a1)] [(0, 0), (15, 0)] (con_X_appeal hl0 h) pw_cf7 rfl q_691 q_692 q_693 q_62 q_690 pyo_X_appeal (by decide) rfl rfl (by decide) d_L_appeal_4 rfl (fun w1 r2 h _ => ?_) (fun wx kx h => ?_)
  · show pw_V l g cx_L_appeal Q X 7 [(9, 0), (0, a1), (15, 0), (1, 0)] [(0, r2), (0, 0), (15, 0)] w1
    refine pv_i2l (n := 8) d_L_appeal_7 rfl ?_
    obtain ⟨g3, h⟩ := h
    refine pv_last1 (n := 9) (f := 13) (by decide) rfl (fun _ => rfl) d_L_appeal_8 (by decide) g3 rfl (fun w4 e5 => ?_)
    replace h := h w4 e5
    refine pv_goto (tgt := 18) d_L_appeal_9 (by decide) ?_
    refine pv_iconst (v := 0) (n := 19) d_L_appeal_18 (by decide) rfl ?_
    exact pv_iret rfl rfl d_L_appeal_19 h
  · rcases h with ⟨rfl, h⟩ | ⟨rfl, h⟩
    · refine pvx_catch_n (jf := 3) (i := 12) (n := 13) [] ⟨0, 9, 12, 13⟩ [⟨0, 9, 15, 17⟩] (L1 := [(9, 0), (0, a1), (15, 0), (1, 0)]) rfl (pw_hp0) (by decide) (by decide) q_661 q_660 rfl d_L_appeal_12 (by decide) rfl rfl ?_
      refine pv_iconst (v := 1) (n := 14) d_L_appeal_13 (by decide) rfl ?_
      exact pv_iret rfl rfl d_L_appeal_14 h
    · refine pvx_catch_n (jf := 3) (i := 15) (n := 16) [⟨0, 9, 12, 13⟩] ⟨0, 9, 15, 17⟩ [] (L1 := [(9, 0), (0, a1), (15, 0), (1, 0)]) rfl (pw_hp1 ⟨by decide, 1, q_661, by decide⟩) (by decide) (by decide) q_665 q_664 rfl d_L_appeal_15 (by decide) rfl rfl ?_
      refine pv_iconst (v := 2) (n := 17) d_L_appeal_16 (by decide) rfl ?_
      exact pv_iret rfl rfl d_L_appeal_17 h
set_option maxHeartbeats 4000000 in
set_option maxRecDepth 20000 in
theorem con_L_appeal {l : Launch} {g : pw_G} {Q : pw_W → Int32 → Prop} {X : pw_W → Nat → Prop} (hl0 : l.stackTraces = false) {w : pw_W} {a1 : Int32} (h : wp_L_appeal w a1 Q X) : pw_ConH l g y_L_appeal cx_L_appeal [(9, 0), (0, a1), (15, 0)] w Q X :=
  pw_conH (by decide +kernel) rfl rfl hl0 (Nat.le_of_ble_eq_true rfl) (by simp) (vw_L_appeal hl0 h)
theorem d_L_register_0 : decode (pw_cc cx_L_register) 0 = .ok (.aload 5, 2) := by decide +kernel
theorem d_L_register_2 : decode (pw_cc cx_L_register) 2 = .ok (.iconst 0, 1) := by decide +kernel
theorem d_L_register_3 : decode (pw_cc cx_L_register) 3 = .ok (.aload_n 0, 1) := by decide +kernel
theorem d_L_register_4 : decode (pw_cc cx_L_register) 4 = .ok (.iload_n 1, 1) := by decide +kernel
theorem d_L_register_5 : decode (pw_cc cx_L_register) 5 = .ok (.iload_n 2, 1) := by decide +kernel
theorem d_L_register_6 : decode (pw_cc cx_L_register) 6 = .ok (.iload_n 3, 1) := by decide +kernel
theorem d_L_register_7 : decode (pw_cc cx_L_register) 7 = .ok (.iload 4, 2) := by decide +kernel
theorem d_L_register_9 : decode (pw_cc cx_L_register) 9 = .ok (.invokevirtual 45, 3) := by decide +kernel
theorem d_L_register_12 : decode (pw_cc cx_L_register) 12 = .ok (.i2l, 1) := by decide +kernel
theorem d_L_register_13 : decode (pw_cc cx_L_register) 13 = .ok (.lastore, 1) := by decide +kernel
theorem d_L_register_14 : decode (pw_cc cx_L_register) 14 = .ok (.goto 15, 3) := by decide +kernel
theorem d_L_register_17 : decode (pw_cc cx_L_register) 17 = .ok (.astore 6, 2) := by decide +kernel
theorem d_L_register_19 : decode (pw_cc cx_L_register) 19 = .ok (.iconst 1, 1) := by decide +kernel
theorem d_L_register_20 : decode (pw_cc cx_L_register) 20 = .ok (.ireturn, 1) := by decide +kernel
theorem d_L_register_21 : decode (pw_cc cx_L_register) 21 = .ok (.astore 6, 2) := by decide +kernel
theorem d_L_register_23 : decode (pw_cc cx_L_register) 23 = .ok (.iconst 2, 1) := by decide +kernel
theorem d_L_register_24 : decode (pw_cc cx_L_register) 24 = .ok (.ireturn, 1) := by decide +kernel
theorem d_L_register_25 : decode (pw_cc cx_L_register) 25 = .ok (.astore 6, 2) := by decide +kernel
theorem d_L_register_27 : decode (pw_cc cx_L_register) 27 = .ok (.iconst 3, 1) := by decide +kernel
theorem d_L_register_28 : decode (pw_cc cx_L_register) 28 = .ok (.ireturn, 1) := by decide +kernel
theorem d_L_register_29 : decode (pw_cc cx_L_register) 29 = .ok (.iconst 0, 1) := by decide +kernel
theorem d_L_register_30 : decode (pw_cc cx_L_register) 30 = .ok (.ireturn, 1) := by decide +kernel
set_option maxHeartbeats 4000000 in
set_option maxRecDepth 20000 in
def wp_L_register (w : pw_W) (a1 a2 a3 a4 : Int32) (Q : pw_W → Int32 → Prop) (X : pw_W → Nat → Prop) : Prop := wp_X_register w a1 a2 a3 a4 (fun w1 r2 => pw_jn 0 (pw_ln w1 13 0) ∧ ∀ w4, w4 = pw_ps w1 13 0 0 r2 → Q w4 0) (fun wx kx => kx = 1 ∧ Q wx 1 ∨ kx = 2 ∧ Q wx 2 ∨ kx = 3 ∧ Q wx 3)
set_option maxHeartbeats 4000000 in
set_option maxRecDepth 20000 in
theorem vw_L_register {l : Launch} {g : pw_G} {Q : pw_W → Int32 → Prop} {X : pw_W → Nat → Prop} (hl0 : l.stackTraces = false) {w : pw_W} {a1 a2 a3 a4 : Int32} (h : wp_L_register w a1 a2 a3 a4 Q X) : pw_V l g cx_L_register Q X 0 [(9, 0), (0, a1), (0, a2), (0, a3), (0, a4), (15, 0), (1, 0)] [] w := by
  unfold wp_L_register at h
  refine pv_aload (n := 2) d_L_register_0 rfl rfl ?_
  refine pv_iconst (v := 0) (n := 3) d_L_register_2 (by decide) rfl ?_
  refine pv_aload_n (n := 4) d_L_register_3 rfl rfl rfl ?_
  refine pv_iload_n (n := 5) d_L_register_4 rfl rfl rfl ?_
  refine pv_iload_n (n := 6) d_L_register_5 rfl rfl rfl ?_
  refine pv_iload_n (n := 7) d_L_register_6 rfl rfl rfl ?_
  refine pv_iload (n := 9) d_L_register_7 rfl rfl ?_
  refine pv_callV (n := 12) (x := 0) [(0, a1), (0, a2), (0, a3), (0, a4)] [(0, 0), (15, 0)] (con_X_register hl0 h) pw_cf7 rfl q_695 q_696 q_697 q_62 q_694 pyo_X_register (by decide) rfl rfl (by decide) d_L_register_9 rfl (fun w1 r2 h _ => ?_) (fun wx kx h => ?_)
  · show pw_V l g cx_L_register Q X 12 [(9, 0), (0, a1), (0, a2), (0, a3), (0, a4), (15, 0), (1, 0)] [(0, r2), (0, 0), (15, 0)] w1
    refine pv_i2l (n := 13) d_L_register_12 rfl ?_
    obtain ⟨g3, h⟩ := h
    refine pv_last1 (n := 14) (f := 13) (by decide) rfl (fun _ => rfl) d_L_register_13 (by decide) g3 rfl (fun w4 e5 => ?_)
    replace h := h w4 e5
    refine pv_goto (tgt := 29) d_L_register_14 (by decide) ?_
    refine pv_iconst (v := 0) (n := 30) d_L_register_29 (by decide) rfl ?_
    exact pv_iret rfl rfl d_L_register_30 h
  · rcases h with ⟨rfl, h⟩ | ⟨rfl, h⟩ | ⟨rfl, h⟩
    · refine pvx_catch (jf := 6) (i := 17) (n := 19) [] ⟨0, 14, 17, 13⟩ [⟨0, 14, 21, 15⟩, ⟨0, 14, 25, 17⟩] (L1 := [(9, 0), (0, a1), (0, a2), (0, a3), (0, a4), (15, 0), (1, 0)]) rfl (pw_hp0) (by decide) (by decide) q_661 q_660 rfl d_L_register_17 (by decide) rfl rfl ?_
      refine pv_iconst (v := 1) (n := 20) d_L_register_19 (by decide) rfl ?_
      exact pv_iret rfl rfl d_L_register_20 h
    · refine pvx_catch (jf := 6) (i := 21) (n := 23) [⟨0, 14, 17, 13⟩] ⟨0, 14, 21, 15⟩ [⟨0, 14, 25, 17⟩] (L1 := [(9, 0), (0, a1), (0, a2), (0, a3), (0, a4), (15, 0), (1, 0)]) rfl (pw_hp1 ⟨by decide, 1, q_661, by decide⟩) (by decide) (by decide) q_663 q_662 rfl d_L_register_21 (by decide) rfl rfl ?_
      refine pv_iconst (v := 2) (n := 24) d_L_register_23 (by decide) rfl ?_
      exact pv_iret rfl rfl d_L_register_24 h
    · refine pvx_catch (jf := 6) (i := 25) (n := 27) [⟨0, 14, 17, 13⟩, ⟨0, 14, 21, 15⟩] ⟨0, 14, 25, 17⟩ [] (L1 := [(9, 0), (0, a1), (0, a2), (0, a3), (0, a4), (15, 0), (1, 0)]) rfl (pw_hp2 ⟨by decide, 1, q_661, by decide⟩ ⟨by decide, 2, q_663, by decide⟩) (by decide) (by decide) q_665 q_664 rfl d_L_register_25 (by decide) rfl rfl ?_
      refine pv_iconst (v := 3) (n := 28) d_L_register_27 (by decide) rfl ?_
      exact pv_iret rfl rfl d_L_register_28 h
set_option maxHeartbeats 4000000 in
set_option maxRecDepth 20000 in
theorem con_L_register {l : Launch} {g : pw_G} {Q : pw_W → Int32 → Prop} {X : pw_W → Nat → Prop} (hl0 : l.stackTraces = false) {w : pw_W} {a1 a2 a3 a4 : Int32} (h : wp_L_register w a1 a2 a3 a4 Q X) : pw_ConH l g y_L_register cx_L_register [(9, 0), (0, a1), (0, a2), (0, a3), (0, a4), (15, 0)] w Q X :=
  pw_conH (by decide +kernel) rfl rfl hl0 (Nat.le_of_ble_eq_true rfl) (by simp) (vw_L_register hl0 h)
theorem d_L_release_0 : decode (pw_cc cx_L_release) 0 = .ok (.aload_n 2, 1) := by decide +kernel
theorem d_L_release_1 : decode (pw_cc cx_L_release) 1 = .ok (.iconst 0, 1) := by decide +kernel
theorem d_L_release_2 : decode (pw_cc cx_L_release) 2 = .ok (.aload_n 0, 1) := by decide +kernel
theorem d_L_release_3 : decode (pw_cc cx_L_release) 3 = .ok (.iload_n 1, 1) := by decide +kernel
theorem d_L_release_4 : decode (pw_cc cx_L_release) 4 = .ok (.invokevirtual 48, 3) := by decide +kernel
theorem d_L_release_7 : decode (pw_cc cx_L_release) 7 = .ok (.ifCond .eq 7, 3) := by decide +kernel
theorem d_L_release_10 : decode (pw_cc cx_L_release) 10 = .ok (.lconst 1, 1) := by decide +kernel
theorem d_L_release_11 : decode (pw_cc cx_L_release) 11 = .ok (.goto 4, 3) := by decide +kernel
theorem d_L_release_14 : decode (pw_cc cx_L_release) 14 = .ok (.lconst 0, 1) := by decide +kernel
theorem d_L_release_15 : decode (pw_cc cx_L_release) 15 = .ok (.lastore, 1) := by decide +kernel
theorem d_L_release_16 : decode (pw_cc cx_L_release) 16 = .ok (.goto 6, 3) := by decide +kernel
theorem d_L_release_19 : decode (pw_cc cx_L_release) 19 = .ok (.astore_n 3, 1) := by decide +kernel
theorem d_L_release_20 : decode (pw_cc cx_L_release) 20 = .ok (.iconst 1, 1) := by decide +kernel
theorem d_L_release_21 : decode (pw_cc cx_L_release) 21 = .ok (.ireturn, 1) := by decide +kernel
theorem d_L_release_22 : decode (pw_cc cx_L_release) 22 = .ok (.iconst 0, 1) := by decide +kernel
theorem d_L_release_23 : decode (pw_cc cx_L_release) 23 = .ok (.ireturn, 1) := by decide +kernel
set_option maxHeartbeats 4000000 in
set_option maxRecDepth 20000 in
def jp_L_release_15 (Q : pw_W → Int32 → Prop) (X : pw_W → Nat → Prop) (s0 s1 : Int32) (w : pw_W) : Prop := pw_jn s1 (pw_ln w 13 0) ∧ ∀ w2, w2 = pw_ps w 13 0 (pw_i s1) s0 → Q w2 0
set_option maxHeartbeats 4000000 in
set_option maxRecDepth 20000 in
theorem vjp_L_release_15 {l : Launch} {g : pw_G} {Q : pw_W → Int32 → Prop} {X : pw_W → Nat → Prop} (hl0 : l.stackTraces = false) (s0 s1 : Int32) (w : pw_W) (h : jp_L_release_15 Q X s0 s1 w) : pw_V l g cx_L_release Q X 15 [(1, 0), (1, 0), (1, 0), (1, 0)] [(1, s0), (0, s1), (15, 0)] w := by
  unfold jp_L_release_15 at h
  obtain ⟨g1, h⟩ := h
  refine pv_last1 (n := 16) (f := 13) (by decide) rfl (fun _ => rfl) d_L_release_15 (by decide) g1 rfl (fun w2 e3 => ?_)
  replace h := h w2 e3
  refine pv_goto (tgt := 22) d_L_release_16 (by decide) ?_
  refine pv_iconst (v := 0) (n := 23) d_L_release_22 (by decide) rfl ?_
  exact pv_iret rfl rfl d_L_release_23 h
set_option maxHeartbeats 4000000 in
set_option maxRecDepth 20000 in
def wp_L_release (w : pw_W) (a1 : Int32) (Q : pw_W → Int32 → Prop) (X : pw_W → Nat → Prop) : Prop := wp_X_release w a1 (fun w4 r5 => (r5 = 0 → jp_L_release_15 Q X 0 0 w4) ∧ (¬ r5 = 0 → jp_L_release_15 Q X 1 0 w4)) (fun wx kx => kx = 1 ∧ Q wx 1)
set_option maxHeartbeats 4000000 in
set_option maxRecDepth 20000 in
theorem vw_L_release {l : Launch} {g : pw_G} {Q : pw_W → Int32 → Prop} {X : pw_W → Nat → Prop} (hl0 : l.stackTraces = false) {w : pw_W} {a1 : Int32} (h : wp_L_release w a1 Q X) : pw_V l g cx_L_release Q X 0 [(9, 0), (0, a1), (15, 0), (1, 0)] [] w := by
  unfold wp_L_release at h
  refine pv_aload_n (n := 1) d_L_release_0 rfl rfl rfl ?_
  refine pv_iconst (v := 0) (n := 2) d_L_release_1 (by decide) rfl ?_
  refine pv_aload_n (n := 3) d_L_release_2 rfl rfl rfl ?_
  refine pv_iload_n (n := 4) d_L_release_3 rfl rfl rfl ?_
  refine pv_callV (n := 7) (x := 0) [(0, a1)] [(0, 0), (15, 0)] (con_X_release hl0 h) pw_cf7 rfl q_699 q_700 q_701 q_62 q_698 pyo_X_release (by decide) rfl rfl (by decide) d_L_release_4 rfl (fun w4 r5 h _ => ?_) (fun wx kx h => ?_)
  · show pw_V l g cx_L_release Q X 7 [(9, 0), (0, a1), (15, 0), (1, 0)] [(0, r5), (0, 0), (15, 0)] w4
    refine pv_if_eq (n := 10) (tgt := 14) d_L_release_7 (by decide) rfl (fun c6 => ?_) (fun c6 => ?_)
    · replace h := h.1 c6
      refine pv_lconst (x := 0) (n := 15) d_L_release_14 (by decide) rfl ?_
      refine pv_unset (i := 0) (L1 := [(1, 0), (0, a1), (15, 0), (1, 0)]) rfl ?_
      refine pv_unset (i := 1) (L1 := [(1, 0), (1, 0), (15, 0), (1, 0)]) rfl ?_
      refine pv_unset (i := 2) (L1 := [(1, 0), (1, 0), (1, 0), (1, 0)]) rfl ?_
      exact vjp_L_release_15 hl0 _ _ _ h
    · replace h := h.2 c6
      refine pv_lconst (x := 1) (n := 11) d_L_release_10 (by decide) rfl ?_
      refine pv_goto (tgt := 15) d_L_release_11 (by decide) ?_
      refine pv_unset (i := 0) (L1 := [(1, 0), (0, a1), (15, 0), (1, 0)]) rfl ?_
      refine pv_unset (i := 1) (L1 := [(1, 0), (1, 0), (15, 0), (1, 0)]) rfl ?_
      refine pv_unset (i := 2) (L1 := [(1, 0), (1, 0), (1, 0), (1, 0)]) rfl ?_
      exact vjp_L_release_15 hl0 _ _ _ h
  · rcases h with ⟨rfl, h⟩
    · refine pvx_catch_n (jf := 3) (i := 19) (n := 20) [] ⟨0, 16, 19, 13⟩ [] (L1 := [(9, 0), (0, a1), (15, 0), (1, 0)]) rfl (pw_hp0) (by decide) (by decide) q_661 q_660 rfl d_L_release_19 (by decide) rfl rfl ?_
      refine pv_iconst (v := 1) (n := 21) d_L_release_20 (by decide) rfl ?_
      exact pv_iret rfl rfl d_L_release_21 h
set_option maxHeartbeats 4000000 in
set_option maxRecDepth 20000 in
theorem con_L_release {l : Launch} {g : pw_G} {Q : pw_W → Int32 → Prop} {X : pw_W → Nat → Prop} (hl0 : l.stackTraces = false) {w : pw_W} {a1 : Int32} (h : wp_L_release w a1 Q X) : pw_ConH l g y_L_release cx_L_release [(9, 0), (0, a1), (15, 0)] w Q X :=
  pw_conH (by decide +kernel) rfl rfl hl0 (Nat.le_of_ble_eq_true rfl) (by simp) (vw_L_release hl0 h)
theorem d_L_graze_0 : decode (pw_cc cx_L_graze) 0 = .ok (.aload 4, 2) := by decide +kernel
theorem d_L_graze_2 : decode (pw_cc cx_L_graze) 2 = .ok (.iconst 0, 1) := by decide +kernel
theorem d_L_graze_3 : decode (pw_cc cx_L_graze) 3 = .ok (.aload_n 0, 1) := by decide +kernel
theorem d_L_graze_4 : decode (pw_cc cx_L_graze) 4 = .ok (.iload_n 1, 1) := by decide +kernel
theorem d_L_graze_5 : decode (pw_cc cx_L_graze) 5 = .ok (.iload_n 2, 1) := by decide +kernel
theorem d_L_graze_6 : decode (pw_cc cx_L_graze) 6 = .ok (.iload_n 3, 1) := by decide +kernel
theorem d_L_graze_7 : decode (pw_cc cx_L_graze) 7 = .ok (.invokevirtual 52, 3) := by decide +kernel
theorem d_L_graze_10 : decode (pw_cc cx_L_graze) 10 = .ok (.i2l, 1) := by decide +kernel
theorem d_L_graze_11 : decode (pw_cc cx_L_graze) 11 = .ok (.lastore, 1) := by decide +kernel
theorem d_L_graze_12 : decode (pw_cc cx_L_graze) 12 = .ok (.goto 15, 3) := by decide +kernel
theorem d_L_graze_15 : decode (pw_cc cx_L_graze) 15 = .ok (.astore 5, 2) := by decide +kernel
theorem d_L_graze_17 : decode (pw_cc cx_L_graze) 17 = .ok (.iconst 1, 1) := by decide +kernel
theorem d_L_graze_18 : decode (pw_cc cx_L_graze) 18 = .ok (.ireturn, 1) := by decide +kernel
theorem d_L_graze_19 : decode (pw_cc cx_L_graze) 19 = .ok (.astore 5, 2) := by decide +kernel
theorem d_L_graze_21 : decode (pw_cc cx_L_graze) 21 = .ok (.iconst 2, 1) := by decide +kernel
theorem d_L_graze_22 : decode (pw_cc cx_L_graze) 22 = .ok (.ireturn, 1) := by decide +kernel
theorem d_L_graze_23 : decode (pw_cc cx_L_graze) 23 = .ok (.astore 5, 2) := by decide +kernel
theorem d_L_graze_25 : decode (pw_cc cx_L_graze) 25 = .ok (.iconst 3, 1) := by decide +kernel
theorem d_L_graze_26 : decode (pw_cc cx_L_graze) 26 = .ok (.ireturn, 1) := by decide +kernel
theorem d_L_graze_27 : decode (pw_cc cx_L_graze) 27 = .ok (.iconst 0, 1) := by decide +kernel
theorem d_L_graze_28 : decode (pw_cc cx_L_graze) 28 = .ok (.ireturn, 1) := by decide +kernel
set_option maxHeartbeats 4000000 in
set_option maxRecDepth 20000 in
def wp_L_graze (w : pw_W) (a1 a2 a3 : Int32) (Q : pw_W → Int32 → Prop) (X : pw_W → Nat → Prop) : Prop := wp_X_graze w a1 a2 a3 (fun w1 r2 => pw_jn 0 (pw_ln w1 13 0) ∧ ∀ w4, w4 = pw_ps w1 13 0 0 r2 → Q w4 0) (fun wx kx => kx = 1 ∧ Q wx 1 ∨ kx = 2 ∧ Q wx 2 ∨ kx = 3 ∧ Q wx 3)
set_option maxHeartbeats 4000000 in
set_option maxRecDepth 20000 in
theorem vw_L_graze {l : Launch} {g : pw_G} {Q : pw_W → Int32 → Prop} {X : pw_W → Nat → Prop} (hl0 : l.stackTraces = false) {w : pw_W} {a1 a2 a3 : Int32} (h : wp_L_graze w a1 a2 a3 Q X) : pw_V l g cx_L_graze Q X 0 [(9, 0), (0, a1), (0, a2), (0, a3), (15, 0), (1, 0)] [] w := by
  unfold wp_L_graze at h
  refine pv_aload (n := 2) d_L_graze_0 rfl rfl ?_
  refine pv_iconst (v := 0) (n := 3) d_L_graze_2 (by decide) rfl ?_
  refine pv_aload_n (n := 4) d_L_graze_3 rfl rfl rfl ?_
  refine pv_iload_n (n := 5) d_L_graze_4 rfl rfl rfl ?_
  refine pv_iload_n (n := 6) d_L_graze_5 rfl rfl rfl ?_
  refine pv_iload_n (n := 7) d_L_graze_6 rfl rfl rfl ?_
  refine pv_callV (n := 10) (x := 0) [(0, a1), (0, a2), (0, a3)] [(0, 0), (15, 0)] (con_X_graze hl0 h) pw_cf7 rfl q_703 q_704 q_705 q_62 q_702 pyo_X_graze (by decide) rfl rfl (by decide) d_L_graze_7 rfl (fun w1 r2 h _ => ?_) (fun wx kx h => ?_)
  · show pw_V l g cx_L_graze Q X 10 [(9, 0), (0, a1), (0, a2), (0, a3), (15, 0), (1, 0)] [(0, r2), (0, 0), (15, 0)] w1
    refine pv_i2l (n := 11) d_L_graze_10 rfl ?_
    obtain ⟨g3, h⟩ := h
    refine pv_last1 (n := 12) (f := 13) (by decide) rfl (fun _ => rfl) d_L_graze_11 (by decide) g3 rfl (fun w4 e5 => ?_)
    replace h := h w4 e5
    refine pv_goto (tgt := 27) d_L_graze_12 (by decide) ?_
    refine pv_iconst (v := 0) (n := 28) d_L_graze_27 (by decide) rfl ?_
    exact pv_iret rfl rfl d_L_graze_28 h
  · rcases h with ⟨rfl, h⟩ | ⟨rfl, h⟩ | ⟨rfl, h⟩
    · refine pvx_catch (jf := 5) (i := 15) (n := 17) [] ⟨0, 12, 15, 13⟩ [⟨0, 12, 19, 15⟩, ⟨0, 12, 23, 17⟩] (L1 := [(9, 0), (0, a1), (0, a2), (0, a3), (15, 0), (1, 0)]) rfl (pw_hp0) (by decide) (by decide) q_661 q_660 rfl d_L_graze_15 (by decide) rfl rfl ?_
      refine pv_iconst (v := 1) (n := 18) d_L_graze_17 (by decide) rfl ?_
      exact pv_iret rfl rfl d_L_graze_18 h
    · refine pvx_catch (jf := 5) (i := 19) (n := 21) [⟨0, 12, 15, 13⟩] ⟨0, 12, 19, 15⟩ [⟨0, 12, 23, 17⟩] (L1 := [(9, 0), (0, a1), (0, a2), (0, a3), (15, 0), (1, 0)]) rfl (pw_hp1 ⟨by decide, 1, q_661, by decide⟩) (by decide) (by decide) q_663 q_662 rfl d_L_graze_19 (by decide) rfl rfl ?_
      refine pv_iconst (v := 2) (n := 22) d_L_graze_21 (by decide) rfl ?_
      exact pv_iret rfl rfl d_L_graze_22 h
    · refine pvx_catch (jf := 5) (i := 23) (n := 25) [⟨0, 12, 15, 13⟩, ⟨0, 12, 19, 15⟩] ⟨0, 12, 23, 17⟩ [] (L1 := [(9, 0), (0, a1), (0, a2), (0, a3), (15, 0), (1, 0)]) rfl (pw_hp2 ⟨by decide, 1, q_661, by decide⟩ ⟨by decide, 2, q_663, by decide⟩) (by decide) (by decide) q_665 q_664 rfl d_L_graze_23 (by decide) rfl rfl ?_
      refine pv_iconst (v := 3) (n := 26) d_L_graze_25 (by decide) rfl ?_
      exact pv_iret rfl rfl d_L_graze_26 h
set_option maxHeartbeats 4000000 in
set_option maxRecDepth 20000 in
theorem con_L_graze {l : Launch} {g : pw_G} {Q : pw_W → Int32 → Prop} {X : pw_W → Nat → Prop} (hl0 : l.stackTraces = false) {w : pw_W} {a1 a2 a3 : Int32} (h : wp_L_graze w a1 a2 a3 Q X) : pw_ConH l g y_L_graze cx_L_graze [(9, 0), (0, a1), (0, a2), (0, a3), (15, 0)] w Q X :=
  pw_conH (by decide +kernel) rfl rfl hl0 (Nat.le_of_ble_eq_true rfl) (by simp) (vw_L_graze hl0 h)
theorem d_L_rain_0 : decode (pw_cc cx_L_rain) 0 = .ok (.aload_n 2, 1) := by decide +kernel
theorem d_L_rain_1 : decode (pw_cc cx_L_rain) 1 = .ok (.iconst 0, 1) := by decide +kernel
theorem d_L_rain_2 : decode (pw_cc cx_L_rain) 2 = .ok (.aload_n 0, 1) := by decide +kernel
theorem d_L_rain_3 : decode (pw_cc cx_L_rain) 3 = .ok (.iload_n 1, 1) := by decide +kernel
theorem d_L_rain_4 : decode (pw_cc cx_L_rain) 4 = .ok (.invokevirtual 55, 3) := by decide +kernel
theorem d_L_rain_7 : decode (pw_cc cx_L_rain) 7 = .ok (.i2l, 1) := by decide +kernel
theorem d_L_rain_8 : decode (pw_cc cx_L_rain) 8 = .ok (.lastore, 1) := by decide +kernel
theorem d_L_rain_9 : decode (pw_cc cx_L_rain) 9 = .ok (.goto 6, 3) := by decide +kernel
theorem d_L_rain_12 : decode (pw_cc cx_L_rain) 12 = .ok (.astore_n 3, 1) := by decide +kernel
theorem d_L_rain_13 : decode (pw_cc cx_L_rain) 13 = .ok (.iconst 1, 1) := by decide +kernel
theorem d_L_rain_14 : decode (pw_cc cx_L_rain) 14 = .ok (.ireturn, 1) := by decide +kernel
theorem d_L_rain_15 : decode (pw_cc cx_L_rain) 15 = .ok (.iconst 0, 1) := by decide +kernel
theorem d_L_rain_16 : decode (pw_cc cx_L_rain) 16 = .ok (.ireturn, 1) := by decide +kernel
set_option maxHeartbeats 4000000 in
set_option maxRecDepth 20000 in
def wp_L_rain (w : pw_W) (a1 : Int32) (Q : pw_W → Int32 → Prop) (X : pw_W → Nat → Prop) : Prop := wp_X_rain w a1 (fun w1 r2 => pw_jn 0 (pw_ln w1 13 0) ∧ ∀ w4, w4 = pw_ps w1 13 0 0 r2 → Q w4 0) (fun wx kx => kx = 2 ∧ Q wx 1)
set_option maxHeartbeats 4000000 in
set_option maxRecDepth 20000 in
theorem vw_L_rain {l : Launch} {g : pw_G} {Q : pw_W → Int32 → Prop} {X : pw_W → Nat → Prop} (hl0 : l.stackTraces = false) {w : pw_W} {a1 : Int32} (h : wp_L_rain w a1 Q X) : pw_V l g cx_L_rain Q X 0 [(9, 0), (0, a1), (15, 0), (1, 0)] [] w := by
  unfold wp_L_rain at h
  refine pv_aload_n (n := 1) d_L_rain_0 rfl rfl rfl ?_
  refine pv_iconst (v := 0) (n := 2) d_L_rain_1 (by decide) rfl ?_
  refine pv_aload_n (n := 3) d_L_rain_2 rfl rfl rfl ?_
  refine pv_iload_n (n := 4) d_L_rain_3 rfl rfl rfl ?_
  refine pv_callV (n := 7) (x := 0) [(0, a1)] [(0, 0), (15, 0)] (con_X_rain hl0 h) pw_cf7 rfl q_707 q_708 q_709 q_62 q_706 pyo_X_rain (by decide) rfl rfl (by decide) d_L_rain_4 rfl (fun w1 r2 h _ => ?_) (fun wx kx h => ?_)
  · show pw_V l g cx_L_rain Q X 7 [(9, 0), (0, a1), (15, 0), (1, 0)] [(0, r2), (0, 0), (15, 0)] w1
    refine pv_i2l (n := 8) d_L_rain_7 rfl ?_
    obtain ⟨g3, h⟩ := h
    refine pv_last1 (n := 9) (f := 13) (by decide) rfl (fun _ => rfl) d_L_rain_8 (by decide) g3 rfl (fun w4 e5 => ?_)
    replace h := h w4 e5
    refine pv_goto (tgt := 15) d_L_rain_9 (by decide) ?_
    refine pv_iconst (v := 0) (n := 16) d_L_rain_15 (by decide) rfl ?_
    exact pv_iret rfl rfl d_L_rain_16 h
  · rcases h with ⟨rfl, h⟩
    · refine pvx_catch_n (jf := 3) (i := 12) (n := 13) [] ⟨0, 9, 12, 15⟩ [] (L1 := [(9, 0), (0, a1), (15, 0), (1, 0)]) rfl (pw_hp0) (by decide) (by decide) q_663 q_662 rfl d_L_rain_12 (by decide) rfl rfl ?_
      refine pv_iconst (v := 1) (n := 14) d_L_rain_13 (by decide) rfl ?_
      exact pv_iret rfl rfl d_L_rain_14 h
set_option maxHeartbeats 4000000 in
set_option maxRecDepth 20000 in
theorem con_L_rain {l : Launch} {g : pw_G} {Q : pw_W → Int32 → Prop} {X : pw_W → Nat → Prop} (hl0 : l.stackTraces = false) {w : pw_W} {a1 : Int32} (h : wp_L_rain w a1 Q X) : pw_ConH l g y_L_rain cx_L_rain [(9, 0), (0, a1), (15, 0)] w Q X :=
  pw_conH (by decide +kernel) rfl rfl hl0 (Nat.le_of_ble_eq_true rfl) (by simp) (vw_L_rain hl0 h)
theorem d_L_dig_0 : decode (pw_cc cx_L_dig) 0 = .ok (.aload_n 3, 1) := by decide +kernel
theorem d_L_dig_1 : decode (pw_cc cx_L_dig) 1 = .ok (.iconst 0, 1) := by decide +kernel
theorem d_L_dig_2 : decode (pw_cc cx_L_dig) 2 = .ok (.aload_n 0, 1) := by decide +kernel
theorem d_L_dig_3 : decode (pw_cc cx_L_dig) 3 = .ok (.iload_n 1, 1) := by decide +kernel
theorem d_L_dig_4 : decode (pw_cc cx_L_dig) 4 = .ok (.iload_n 2, 1) := by decide +kernel
theorem d_L_dig_5 : decode (pw_cc cx_L_dig) 5 = .ok (.invokevirtual 58, 3) := by decide +kernel
theorem d_L_dig_8 : decode (pw_cc cx_L_dig) 8 = .ok (.i2l, 1) := by decide +kernel
theorem d_L_dig_9 : decode (pw_cc cx_L_dig) 9 = .ok (.lastore, 1) := by decide +kernel
theorem d_L_dig_10 : decode (pw_cc cx_L_dig) 10 = .ok (.goto 15, 3) := by decide +kernel
theorem d_L_dig_13 : decode (pw_cc cx_L_dig) 13 = .ok (.astore 4, 2) := by decide +kernel
theorem d_L_dig_15 : decode (pw_cc cx_L_dig) 15 = .ok (.iconst 1, 1) := by decide +kernel
theorem d_L_dig_16 : decode (pw_cc cx_L_dig) 16 = .ok (.ireturn, 1) := by decide +kernel
theorem d_L_dig_17 : decode (pw_cc cx_L_dig) 17 = .ok (.astore 4, 2) := by decide +kernel
theorem d_L_dig_19 : decode (pw_cc cx_L_dig) 19 = .ok (.iconst 2, 1) := by decide +kernel
theorem d_L_dig_20 : decode (pw_cc cx_L_dig) 20 = .ok (.ireturn, 1) := by decide +kernel
theorem d_L_dig_21 : decode (pw_cc cx_L_dig) 21 = .ok (.astore 4, 2) := by decide +kernel
theorem d_L_dig_23 : decode (pw_cc cx_L_dig) 23 = .ok (.iconst 3, 1) := by decide +kernel
theorem d_L_dig_24 : decode (pw_cc cx_L_dig) 24 = .ok (.ireturn, 1) := by decide +kernel
theorem d_L_dig_25 : decode (pw_cc cx_L_dig) 25 = .ok (.iconst 0, 1) := by decide +kernel
theorem d_L_dig_26 : decode (pw_cc cx_L_dig) 26 = .ok (.ireturn, 1) := by decide +kernel
set_option maxHeartbeats 4000000 in
set_option maxRecDepth 20000 in
def wp_L_dig (w : pw_W) (a1 a2 : Int32) (Q : pw_W → Int32 → Prop) (X : pw_W → Nat → Prop) : Prop := wp_X_dig w a1 a2 (fun w1 r2 => pw_jn 0 (pw_ln w1 13 0) ∧ ∀ w4, w4 = pw_ps w1 13 0 0 r2 → Q w4 0) (fun wx kx => kx = 1 ∧ Q wx 1 ∨ kx = 2 ∧ Q wx 2 ∨ kx = 3 ∧ Q wx 3)
set_option maxHeartbeats 4000000 in
set_option maxRecDepth 20000 in
theorem vw_L_dig {l : Launch} {g : pw_G} {Q : pw_W → Int32 → Prop} {X : pw_W → Nat → Prop} (hl0 : l.stackTraces = false) {w : pw_W} {a1 a2 : Int32} (h : wp_L_dig w a1 a2 Q X) : pw_V l g cx_L_dig Q X 0 [(9, 0), (0, a1), (0, a2), (15, 0), (1, 0)] [] w := by
  unfold wp_L_dig at h
  refine pv_aload_n (n := 1) d_L_dig_0 rfl rfl rfl ?_
  refine pv_iconst (v := 0) (n := 2) d_L_dig_1 (by decide) rfl ?_
  refine pv_aload_n (n := 3) d_L_dig_2 rfl rfl rfl ?_
  refine pv_iload_n (n := 4) d_L_dig_3 rfl rfl rfl ?_
  refine pv_iload_n (n := 5) d_L_dig_4 rfl rfl rfl ?_
  refine pv_callV (n := 8) (x := 0) [(0, a1), (0, a2)] [(0, 0), (15, 0)] (con_X_dig hl0 h) pw_cf7 rfl q_711 q_712 q_713 q_62 q_710 pyo_X_dig (by decide) rfl rfl (by decide) d_L_dig_5 rfl (fun w1 r2 h _ => ?_) (fun wx kx h => ?_)
  · show pw_V l g cx_L_dig Q X 8 [(9, 0), (0, a1), (0, a2), (15, 0), (1, 0)] [(0, r2), (0, 0), (15, 0)] w1
    refine pv_i2l (n := 9) d_L_dig_8 rfl ?_
    obtain ⟨g3, h⟩ := h
    refine pv_last1 (n := 10) (f := 13) (by decide) rfl (fun _ => rfl) d_L_dig_9 (by decide) g3 rfl (fun w4 e5 => ?_)
    replace h := h w4 e5
    refine pv_goto (tgt := 25) d_L_dig_10 (by decide) ?_
    refine pv_iconst (v := 0) (n := 26) d_L_dig_25 (by decide) rfl ?_
    exact pv_iret rfl rfl d_L_dig_26 h
  · rcases h with ⟨rfl, h⟩ | ⟨rfl, h⟩ | ⟨rfl, h⟩
    · refine pvx_catch (jf := 4) (i := 13) (n := 15) [] ⟨0, 10, 13, 13⟩ [⟨0, 10, 17, 15⟩, ⟨0, 10, 21, 17⟩] (L1 := [(9, 0), (0, a1), (0, a2), (15, 0), (1, 0)]) rfl (pw_hp0) (by decide) (by decide) q_661 q_660 rfl d_L_dig_13 (by decide) rfl rfl ?_
      refine pv_iconst (v := 1) (n := 16) d_L_dig_15 (by decide) rfl ?_
      exact pv_iret rfl rfl d_L_dig_16 h
    · refine pvx_catch (jf := 4) (i := 17) (n := 19) [⟨0, 10, 13, 13⟩] ⟨0, 10, 17, 15⟩ [⟨0, 10, 21, 17⟩] (L1 := [(9, 0), (0, a1), (0, a2), (15, 0), (1, 0)]) rfl (pw_hp1 ⟨by decide, 1, q_661, by decide⟩) (by decide) (by decide) q_663 q_662 rfl d_L_dig_17 (by decide) rfl rfl ?_
      refine pv_iconst (v := 2) (n := 20) d_L_dig_19 (by decide) rfl ?_
      exact pv_iret rfl rfl d_L_dig_20 h
    · refine pvx_catch (jf := 4) (i := 21) (n := 23) [⟨0, 10, 13, 13⟩, ⟨0, 10, 17, 15⟩] ⟨0, 10, 21, 17⟩ [] (L1 := [(9, 0), (0, a1), (0, a2), (15, 0), (1, 0)]) rfl (pw_hp2 ⟨by decide, 1, q_661, by decide⟩ ⟨by decide, 2, q_663, by decide⟩) (by decide) (by decide) q_665 q_664 rfl d_L_dig_21 (by decide) rfl rfl ?_
      refine pv_iconst (v := 3) (n := 24) d_L_dig_23 (by decide) rfl ?_
      exact pv_iret rfl rfl d_L_dig_24 h
set_option maxHeartbeats 4000000 in
set_option maxRecDepth 20000 in
theorem con_L_dig {l : Launch} {g : pw_G} {Q : pw_W → Int32 → Prop} {X : pw_W → Nat → Prop} (hl0 : l.stackTraces = false) {w : pw_W} {a1 a2 : Int32} (h : wp_L_dig w a1 a2 Q X) : pw_ConH l g y_L_dig cx_L_dig [(9, 0), (0, a1), (0, a2), (15, 0)] w Q X :=
  pw_conH (by decide +kernel) rfl rfl hl0 (Nat.le_of_ble_eq_true rfl) (by simp) (vw_L_dig hl0 h)
theorem d_L_fill_0 : decode (pw_cc cx_L_fill) 0 = .ok (.aload_n 2, 1) := by decide +kernel
theorem d_L_fill_1 : decode (pw_cc cx_L_fill) 1 = .ok (.iconst 0, 1) := by decide +kernel
theorem d_L_fill_2 : decode (pw_cc cx_L_fill) 2 = .ok (.aload_n 0, 1) := by decide +kernel
theorem d_L_fill_3 : decode (pw_cc cx_L_fill) 3 = .ok (.iload_n 1, 1) := by decide +kernel
theorem d_L_fill_4 : decode (pw_cc cx_L_fill) 4 = .ok (.invokevirtual 61, 3) := by decide +kernel
theorem d_L_fill_7 : decode (pw_cc cx_L_fill) 7 = .ok (.i2l, 1) := by decide +kernel
theorem d_L_fill_8 : decode (pw_cc cx_L_fill) 8 = .ok (.lastore, 1) := by decide +kernel
theorem d_L_fill_9 : decode (pw_cc cx_L_fill) 9 = .ok (.goto 6, 3) := by decide +kernel
theorem d_L_fill_12 : decode (pw_cc cx_L_fill) 12 = .ok (.astore_n 3, 1) := by decide +kernel
theorem d_L_fill_13 : decode (pw_cc cx_L_fill) 13 = .ok (.iconst 1, 1) := by decide +kernel
theorem d_L_fill_14 : decode (pw_cc cx_L_fill) 14 = .ok (.ireturn, 1) := by decide +kernel
theorem d_L_fill_15 : decode (pw_cc cx_L_fill) 15 = .ok (.iconst 0, 1) := by decide +kernel
theorem d_L_fill_16 : decode (pw_cc cx_L_fill) 16 = .ok (.ireturn, 1) := by decide +kernel
set_option maxHeartbeats 4000000 in
set_option maxRecDepth 20000 in
def wp_L_fill (w : pw_W) (a1 : Int32) (Q : pw_W → Int32 → Prop) (X : pw_W → Nat → Prop) : Prop := wp_X_fill w a1 (fun w1 r2 => pw_jn 0 (pw_ln w1 13 0) ∧ ∀ w4, w4 = pw_ps w1 13 0 0 r2 → Q w4 0) (fun wx kx => kx = 1 ∧ Q wx 1)
set_option maxHeartbeats 4000000 in
set_option maxRecDepth 20000 in
theorem vw_L_fill {l : Launch} {g : pw_G} {Q : pw_W → Int32 → Prop} {X : pw_W → Nat → Prop} (hl0 : l.stackTraces = false) {w : pw_W} {a1 : Int32} (h : wp_L_fill w a1 Q X) : pw_V l g cx_L_fill Q X 0 [(9, 0), (0, a1), (15, 0), (1, 0)] [] w := by
  unfold wp_L_fill at h
  refine pv_aload_n (n := 1) d_L_fill_0 rfl rfl rfl ?_
  refine pv_iconst (v := 0) (n := 2) d_L_fill_1 (by decide) rfl ?_
  refine pv_aload_n (n := 3) d_L_fill_2 rfl rfl rfl ?_
  refine pv_iload_n (n := 4) d_L_fill_3 rfl rfl rfl ?_
  refine pv_callV (n := 7) (x := 0) [(0, a1)] [(0, 0), (15, 0)] (con_X_fill hl0 h) pw_cf7 rfl q_715 q_716 q_717 q_62 q_714 pyo_X_fill (by decide) rfl rfl (by decide) d_L_fill_4 rfl (fun w1 r2 h _ => ?_) (fun wx kx h => ?_)
  · show pw_V l g cx_L_fill Q X 7 [(9, 0), (0, a1), (15, 0), (1, 0)] [(0, r2), (0, 0), (15, 0)] w1
    refine pv_i2l (n := 8) d_L_fill_7 rfl ?_
    obtain ⟨g3, h⟩ := h
    refine pv_last1 (n := 9) (f := 13) (by decide) rfl (fun _ => rfl) d_L_fill_8 (by decide) g3 rfl (fun w4 e5 => ?_)
    replace h := h w4 e5
    refine pv_goto (tgt := 15) d_L_fill_9 (by decide) ?_
    refine pv_iconst (v := 0) (n := 16) d_L_fill_15 (by decide) rfl ?_
    exact pv_iret rfl rfl d_L_fill_16 h
  · rcases h with ⟨rfl, h⟩
    · refine pvx_catch_n (jf := 3) (i := 12) (n := 13) [] ⟨0, 9, 12, 13⟩ [] (L1 := [(9, 0), (0, a1), (15, 0), (1, 0)]) rfl (pw_hp0) (by decide) (by decide) q_661 q_660 rfl d_L_fill_12 (by decide) rfl rfl ?_
      refine pv_iconst (v := 1) (n := 14) d_L_fill_13 (by decide) rfl ?_
      exact pv_iret rfl rfl d_L_fill_14 h
set_option maxHeartbeats 4000000 in
set_option maxRecDepth 20000 in
theorem con_L_fill {l : Launch} {g : pw_G} {Q : pw_W → Int32 → Prop} {X : pw_W → Nat → Prop} (hl0 : l.stackTraces = false) {w : pw_W} {a1 : Int32} (h : wp_L_fill w a1 Q X) : pw_ConH l g y_L_fill cx_L_fill [(9, 0), (0, a1), (15, 0)] w Q X :=
  pw_conH (by decide +kernel) rfl rfl hl0 (Nat.le_of_ble_eq_true rfl) (by simp) (vw_L_fill hl0 h)
theorem d_L_cut_0 : decode (pw_cc cx_L_cut) 0 = .ok (.aload 4, 2) := by decide +kernel
theorem d_L_cut_2 : decode (pw_cc cx_L_cut) 2 = .ok (.iconst 0, 1) := by decide +kernel
theorem d_L_cut_3 : decode (pw_cc cx_L_cut) 3 = .ok (.aload_n 0, 1) := by decide +kernel
theorem d_L_cut_4 : decode (pw_cc cx_L_cut) 4 = .ok (.iload_n 1, 1) := by decide +kernel
theorem d_L_cut_5 : decode (pw_cc cx_L_cut) 5 = .ok (.iload_n 2, 1) := by decide +kernel
theorem d_L_cut_6 : decode (pw_cc cx_L_cut) 6 = .ok (.iload_n 3, 1) := by decide +kernel
theorem d_L_cut_7 : decode (pw_cc cx_L_cut) 7 = .ok (.invokevirtual 64, 3) := by decide +kernel
theorem d_L_cut_10 : decode (pw_cc cx_L_cut) 10 = .ok (.i2l, 1) := by decide +kernel
theorem d_L_cut_11 : decode (pw_cc cx_L_cut) 11 = .ok (.lastore, 1) := by decide +kernel
theorem d_L_cut_12 : decode (pw_cc cx_L_cut) 12 = .ok (.goto 15, 3) := by decide +kernel
theorem d_L_cut_15 : decode (pw_cc cx_L_cut) 15 = .ok (.astore 5, 2) := by decide +kernel
theorem d_L_cut_17 : decode (pw_cc cx_L_cut) 17 = .ok (.iconst 1, 1) := by decide +kernel
theorem d_L_cut_18 : decode (pw_cc cx_L_cut) 18 = .ok (.ireturn, 1) := by decide +kernel
theorem d_L_cut_19 : decode (pw_cc cx_L_cut) 19 = .ok (.astore 5, 2) := by decide +kernel
theorem d_L_cut_21 : decode (pw_cc cx_L_cut) 21 = .ok (.iconst 2, 1) := by decide +kernel
theorem d_L_cut_22 : decode (pw_cc cx_L_cut) 22 = .ok (.ireturn, 1) := by decide +kernel
theorem d_L_cut_23 : decode (pw_cc cx_L_cut) 23 = .ok (.astore 5, 2) := by decide +kernel
theorem d_L_cut_25 : decode (pw_cc cx_L_cut) 25 = .ok (.iconst 3, 1) := by decide +kernel
theorem d_L_cut_26 : decode (pw_cc cx_L_cut) 26 = .ok (.ireturn, 1) := by decide +kernel
theorem d_L_cut_27 : decode (pw_cc cx_L_cut) 27 = .ok (.iconst 0, 1) := by decide +kernel
theorem d_L_cut_28 : decode (pw_cc cx_L_cut) 28 = .ok (.ireturn, 1) := by decide +kernel
set_option maxHeartbeats 4000000 in
set_option maxRecDepth 20000 in
def wp_L_cut (w : pw_W) (a1 a2 a3 : Int32) (Q : pw_W → Int32 → Prop) (X : pw_W → Nat → Prop) : Prop := wp_X_cut w a1 a2 a3 (fun w1 r2 => pw_jn 0 (pw_ln w1 13 0) ∧ ∀ w4, w4 = pw_ps w1 13 0 0 r2 → Q w4 0) (fun wx kx => kx = 1 ∧ Q wx 1 ∨ kx = 2 ∧ Q wx 2 ∨ kx = 3 ∧ Q wx 3)
set_option maxHeartbeats 4000000 in
set_option maxRecDepth 20000 in
theorem vw_L_cut {l : Launch} {g : pw_G} {Q : pw_W → Int32 → Prop} {X : pw_W → Nat → Prop} (hl0 : l.stackTraces = false) {w : pw_W} {a1 a2 a3 : Int32} (h : wp_L_cut w a1 a2 a3 Q X) : pw_V l g cx_L_cut Q X 0 [(9, 0), (0, a1), (0, a2), (0, a3), (15, 0), (1, 0)] [] w := by
  unfold wp_L_cut at h
  refine pv_aload (n := 2) d_L_cut_0 rfl rfl ?_
  refine pv_iconst (v := 0) (n := 3) d_L_cut_2 (by decide) rfl ?_
  refine pv_aload_n (n := 4) d_L_cut_3 rfl rfl rfl ?_
  refine pv_iload_n (n := 5) d_L_cut_4 rfl rfl rfl ?_
  refine pv_iload_n (n := 6) d_L_cut_5 rfl rfl rfl ?_
  refine pv_iload_n (n := 7) d_L_cut_6 rfl rfl rfl ?_
  refine pv_callV (n := 10) (x := 0) [(0, a1), (0, a2), (0, a3)] [(0, 0), (15, 0)] (con_X_cut hl0 h) pw_cf7 rfl q_719 q_720 q_721 q_62 q_718 pyo_X_cut (by decide) rfl rfl (by decide) d_L_cut_7 rfl (fun w1 r2 h _ => ?_) (fun wx kx h => ?_)
  · show pw_V l g cx_L_cut Q X 10 [(9, 0), (0, a1), (0, a2), (0, a3), (15, 0), (1, 0)] [(0, r2), (0, 0), (15, 0)] w1
    refine pv_i2l (n := 11) d_L_cut_10 rfl ?_
    obtain ⟨g3, h⟩ := h
    refine pv_last1 (n := 12) (f := 13) (by decide) rfl (fun _ => rfl) d_L_cut_11 (by decide) g3 rfl (fun w4 e5 => ?_)
    replace h := h w4 e5
    refine pv_goto (tgt := 27) d_L_cut_12 (by decide) ?_
    refine pv_iconst (v := 0) (n := 28) d_L_cut_27 (by decide) rfl ?_
    exact pv_iret rfl rfl d_L_cut_28 h
  · rcases h with ⟨rfl, h⟩ | ⟨rfl, h⟩ | ⟨rfl, h⟩
    · refine pvx_catch (jf := 5) (i := 15) (n := 17) [] ⟨0, 12, 15, 13⟩ [⟨0, 12, 19, 15⟩, ⟨0, 12, 23, 17⟩] (L1 := [(9, 0), (0, a1), (0, a2), (0, a3), (15, 0), (1, 0)]) rfl (pw_hp0) (by decide) (by decide) q_661 q_660 rfl d_L_cut_15 (by decide) rfl rfl ?_
      refine pv_iconst (v := 1) (n := 18) d_L_cut_17 (by decide) rfl ?_
      exact pv_iret rfl rfl d_L_cut_18 h
    · refine pvx_catch (jf := 5) (i := 19) (n := 21) [⟨0, 12, 15, 13⟩] ⟨0, 12, 19, 15⟩ [⟨0, 12, 23, 17⟩] (L1 := [(9, 0), (0, a1), (0, a2), (0, a3), (15, 0), (1, 0)]) rfl (pw_hp1 ⟨by decide, 1, q_661, by decide⟩) (by decide) (by decide) q_663 q_662 rfl d_L_cut_19 (by decide) rfl rfl ?_
      refine pv_iconst (v := 2) (n := 22) d_L_cut_21 (by decide) rfl ?_
      exact pv_iret rfl rfl d_L_cut_22 h
    · refine pvx_catch (jf := 5) (i := 23) (n := 25) [⟨0, 12, 15, 13⟩, ⟨0, 12, 19, 15⟩] ⟨0, 12, 23, 17⟩ [] (L1 := [(9, 0), (0, a1), (0, a2), (0, a3), (15, 0), (1, 0)]) rfl (pw_hp2 ⟨by decide, 1, q_661, by decide⟩ ⟨by decide, 2, q_663, by decide⟩) (by decide) (by decide) q_665 q_664 rfl d_L_cut_23 (by decide) rfl rfl ?_
      refine pv_iconst (v := 3) (n := 26) d_L_cut_25 (by decide) rfl ?_
      exact pv_iret rfl rfl d_L_cut_26 h
set_option maxHeartbeats 4000000 in
set_option maxRecDepth 20000 in
theorem con_L_cut {l : Launch} {g : pw_G} {Q : pw_W → Int32 → Prop} {X : pw_W → Nat → Prop} (hl0 : l.stackTraces = false) {w : pw_W} {a1 a2 a3 : Int32} (h : wp_L_cut w a1 a2 a3 Q X) : pw_ConH l g y_L_cut cx_L_cut [(9, 0), (0, a1), (0, a2), (0, a3), (15, 0)] w Q X :=
  pw_conH (by decide +kernel) rfl rfl hl0 (Nat.le_of_ble_eq_true rfl) (by simp) (vw_L_cut hl0 h)
theorem d_L_wind_0 : decode (pw_cc cx_L_wind) 0 = .ok (.aload_n 2, 1) := by decide +kernel
theorem d_L_wind_1 : decode (pw_cc cx_L_wind) 1 = .ok (.iconst 0, 1) := by decide +kernel
theorem d_L_wind_2 : decode (pw_cc cx_L_wind) 2 = .ok (.aload_n 0, 1) := by decide +kernel
theorem d_L_wind_3 : decode (pw_cc cx_L_wind) 3 = .ok (.iload_n 1, 1) := by decide +kernel
theorem d_L_wind_4 : decode (pw_cc cx_L_wind) 4 = .ok (.invokevirtual 67, 3) := by decide +kernel
theorem d_L_wind_7 : decode (pw_cc cx_L_wind) 7 = .ok (.i2l, 1) := by decide +kernel
theorem d_L_wind_8 : decode (pw_cc cx_L_wind) 8 = .ok (.lastore, 1) := by decide +kernel
theorem d_L_wind_9 : decode (pw_cc cx_L_wind) 9 = .ok (.goto 6, 3) := by decide +kernel
theorem d_L_wind_12 : decode (pw_cc cx_L_wind) 12 = .ok (.astore_n 3, 1) := by decide +kernel
theorem d_L_wind_13 : decode (pw_cc cx_L_wind) 13 = .ok (.iconst 1, 1) := by decide +kernel
theorem d_L_wind_14 : decode (pw_cc cx_L_wind) 14 = .ok (.ireturn, 1) := by decide +kernel
theorem d_L_wind_15 : decode (pw_cc cx_L_wind) 15 = .ok (.iconst 0, 1) := by decide +kernel
theorem d_L_wind_16 : decode (pw_cc cx_L_wind) 16 = .ok (.ireturn, 1) := by decide +kernel
set_option maxHeartbeats 4000000 in
set_option maxRecDepth 20000 in
def wp_L_wind (w : pw_W) (a1 : Int32) (Q : pw_W → Int32 → Prop) (X : pw_W → Nat → Prop) : Prop := wp_X_wind w a1 (fun w1 r2 => pw_jn 0 (pw_ln w1 13 0) ∧ ∀ w4, w4 = pw_ps w1 13 0 0 r2 → Q w4 0) (fun wx kx => kx = 2 ∧ Q wx 1)
set_option maxHeartbeats 4000000 in
set_option maxRecDepth 20000 in
theorem vw_L_wind {l : Launch} {g : pw_G} {Q : pw_W → Int32 → Prop} {X : pw_W → Nat → Prop} (hl0 : l.stackTraces = false) {w : pw_W} {a1 : Int32} (h : wp_L_wind w a1 Q X) : pw_V l g cx_L_wind Q X 0 [(9, 0), (0, a1), (15, 0), (1, 0)] [] w := by
  unfold wp_L_wind at h
  refine pv_aload_n (n := 1) d_L_wind_0 rfl rfl rfl ?_
  refine pv_iconst (v := 0) (n := 2) d_L_wind_1 (by decide) rfl ?_
  refine pv_aload_n (n := 3) d_L_wind_2 rfl rfl rfl ?_
  refine pv_iload_n (n := 4) d_L_wind_3 rfl rfl rfl ?_
  refine pv_callV (n := 7) (x := 0) [(0, a1)] [(0, 0), (15, 0)] (con_X_wind hl0 h) pw_cf7 rfl q_723 q_724 q_725 q_62 q_722 pyo_X_wind (by decide) rfl rfl (by decide) d_L_wind_4 rfl (fun w1 r2 h _ => ?_) (fun wx kx h => ?_)
  · show pw_V l g cx_L_wind Q X 7 [(9, 0), (0, a1), (15, 0), (1, 0)] [(0, r2), (0, 0), (15, 0)] w1
    refine pv_i2l (n := 8) d_L_wind_7 rfl ?_
    obtain ⟨g3, h⟩ := h
    refine pv_last1 (n := 9) (f := 13) (by decide) rfl (fun _ => rfl) d_L_wind_8 (by decide) g3 rfl (fun w4 e5 => ?_)
    replace h := h w4 e5
    refine pv_goto (tgt := 15) d_L_wind_9 (by decide) ?_
    refine pv_iconst (v := 0) (n := 16) d_L_wind_15 (by decide) rfl ?_
    exact pv_iret rfl rfl d_L_wind_16 h
  · rcases h with ⟨rfl, h⟩
    · refine pvx_catch_n (jf := 3) (i := 12) (n := 13) [] ⟨0, 9, 12, 15⟩ [] (L1 := [(9, 0), (0, a1), (15, 0), (1, 0)]) rfl (pw_hp0) (by decide) (by decide) q_663 q_662 rfl d_L_wind_12 (by decide) rfl rfl ?_
      refine pv_iconst (v := 1) (n := 14) d_L_wind_13 (by decide) rfl ?_
      exact pv_iret rfl rfl d_L_wind_14 h
set_option maxHeartbeats 4000000 in
set_option maxRecDepth 20000 in
theorem con_L_wind {l : Launch} {g : pw_G} {Q : pw_W → Int32 → Prop} {X : pw_W → Nat → Prop} (hl0 : l.stackTraces = false) {w : pw_W} {a1 : Int32} (h : wp_L_wind w a1 Q X) : pw_ConH l g y_L_wind cx_L_wind [(9, 0), (0, a1), (15, 0)] w Q X :=
  pw_conH (by decide +kernel) rfl rfl hl0 (Nat.le_of_ble_eq_true rfl) (by simp) (vw_L_wind hl0 h)
theorem d_L_burn_0 : decode (pw_cc cx_L_burn) 0 = .ok (.aload_n 3, 1) := by decide +kernel
theorem d_L_burn_1 : decode (pw_cc cx_L_burn) 1 = .ok (.iconst 0, 1) := by decide +kernel
theorem d_L_burn_2 : decode (pw_cc cx_L_burn) 2 = .ok (.aload_n 0, 1) := by decide +kernel
theorem d_L_burn_3 : decode (pw_cc cx_L_burn) 3 = .ok (.iload_n 1, 1) := by decide +kernel
theorem d_L_burn_4 : decode (pw_cc cx_L_burn) 4 = .ok (.iload_n 2, 1) := by decide +kernel
theorem d_L_burn_5 : decode (pw_cc cx_L_burn) 5 = .ok (.invokevirtual 70, 3) := by decide +kernel
theorem d_L_burn_8 : decode (pw_cc cx_L_burn) 8 = .ok (.i2l, 1) := by decide +kernel
theorem d_L_burn_9 : decode (pw_cc cx_L_burn) 9 = .ok (.lastore, 1) := by decide +kernel
theorem d_L_burn_10 : decode (pw_cc cx_L_burn) 10 = .ok (.goto 11, 3) := by decide +kernel
theorem d_L_burn_13 : decode (pw_cc cx_L_burn) 13 = .ok (.astore 4, 2) := by decide +kernel
theorem d_L_burn_15 : decode (pw_cc cx_L_burn) 15 = .ok (.iconst 1, 1) := by decide +kernel
theorem d_L_burn_16 : decode (pw_cc cx_L_burn) 16 = .ok (.ireturn, 1) := by decide +kernel
theorem d_L_burn_17 : decode (pw_cc cx_L_burn) 17 = .ok (.astore 4, 2) := by decide +kernel
theorem d_L_burn_19 : decode (pw_cc cx_L_burn) 19 = .ok (.iconst 2, 1) := by decide +kernel
theorem d_L_burn_20 : decode (pw_cc cx_L_burn) 20 = .ok (.ireturn, 1) := by decide +kernel
theorem d_L_burn_21 : decode (pw_cc cx_L_burn) 21 = .ok (.iconst 0, 1) := by decide +kernel
theorem d_L_burn_22 : decode (pw_cc cx_L_burn) 22 = .ok (.ireturn, 1) := by decide +kernel
set_option maxHeartbeats 4000000 in
set_option maxRecDepth 20000 in
def wp_L_burn (w : pw_W) (a1 a2 : Int32) (Q : pw_W → Int32 → Prop) (X : pw_W → Nat → Prop) : Prop := wp_X_burn w a1 a2 (fun w1 r2 => pw_jn 0 (pw_ln w1 13 0) ∧ ∀ w4, w4 = pw_ps w1 13 0 0 r2 → Q w4 0) (fun wx kx => kx = 1 ∧ Q wx 1 ∨ kx = 3 ∧ Q wx 2)
set_option maxHeartbeats 4000000 in
set_option maxRecDepth 20000 in
theorem vw_L_burn {l : Launch} {g : pw_G} {Q : pw_W → Int32 → Prop} {X : pw_W → Nat → Prop} (hl0 : l.stackTraces = false) {w : pw_W} {a1 a2 : Int32} (h : wp_L_burn w a1 a2 Q X) : pw_V l g cx_L_burn Q X 0 [(9, 0), (0, a1), (0, a2), (15, 0), (1, 0)] [] w := by
  unfold wp_L_burn at h
  refine pv_aload_n (n := 1) d_L_burn_0 rfl rfl rfl ?_
  refine pv_iconst (v := 0) (n := 2) d_L_burn_1 (by decide) rfl ?_
  refine pv_aload_n (n := 3) d_L_burn_2 rfl rfl rfl ?_
  refine pv_iload_n (n := 4) d_L_burn_3 rfl rfl rfl ?_
  refine pv_iload_n (n := 5) d_L_burn_4 rfl rfl rfl ?_
  refine pv_callV (n := 8) (x := 0) [(0, a1), (0, a2)] [(0, 0), (15, 0)] (con_X_burn hl0 h) pw_cf7 rfl q_727 q_728 q_729 q_62 q_726 pyo_X_burn (by decide) rfl rfl (by decide) d_L_burn_5 rfl (fun w1 r2 h _ => ?_) (fun wx kx h => ?_)
  · show pw_V l g cx_L_burn Q X 8 [(9, 0), (0, a1), (0, a2), (15, 0), (1, 0)] [(0, r2), (0, 0), (15, 0)] w1
    refine pv_i2l (n := 9) d_L_burn_8 rfl ?_
    obtain ⟨g3, h⟩ := h
    refine pv_last1 (n := 10) (f := 13) (by decide) rfl (fun _ => rfl) d_L_burn_9 (by decide) g3 rfl (fun w4 e5 => ?_)
    replace h := h w4 e5
    refine pv_goto (tgt := 21) d_L_burn_10 (by decide) ?_
    refine pv_iconst (v := 0) (n := 22) d_L_burn_21 (by decide) rfl ?_
    exact pv_iret rfl rfl d_L_burn_22 h
  · rcases h with ⟨rfl, h⟩ | ⟨rfl, h⟩
    · refine pvx_catch (jf := 4) (i := 13) (n := 15) [] ⟨0, 10, 13, 13⟩ [⟨0, 10, 17, 17⟩] (L1 := [(9, 0), (0, a1), (0, a2), (15, 0), (1, 0)]) rfl (pw_hp0) (by decide) (by decide) q_661 q_660 rfl d_L_burn_13 (by decide) rfl rfl ?_
      refine pv_iconst (v := 1) (n := 16) d_L_burn_15 (by decide) rfl ?_
      exact pv_iret rfl rfl d_L_burn_16 h
    · refine pvx_catch (jf := 4) (i := 17) (n := 19) [⟨0, 10, 13, 13⟩] ⟨0, 10, 17, 17⟩ [] (L1 := [(9, 0), (0, a1), (0, a2), (15, 0), (1, 0)]) rfl (pw_hp1 ⟨by decide, 1, q_661, by decide⟩) (by decide) (by decide) q_665 q_664 rfl d_L_burn_17 (by decide) rfl rfl ?_
      refine pv_iconst (v := 2) (n := 20) d_L_burn_19 (by decide) rfl ?_
      exact pv_iret rfl rfl d_L_burn_20 h
set_option maxHeartbeats 4000000 in
set_option maxRecDepth 20000 in
theorem con_L_burn {l : Launch} {g : pw_G} {Q : pw_W → Int32 → Prop} {X : pw_W → Nat → Prop} (hl0 : l.stackTraces = false) {w : pw_W} {a1 a2 : Int32} (h : wp_L_burn w a1 a2 Q X) : pw_ConH l g y_L_burn cx_L_burn [(9, 0), (0, a1), (0, a2), (15, 0)] w Q X :=
  pw_conH (by decide +kernel) rfl rfl hl0 (Nat.le_of_ble_eq_true rfl) (by simp) (vw_L_burn hl0 h)
theorem d_L_pass_0 : decode (pw_cc cx_L_pass) 0 = .ok (.aload_n 2, 1) := by decide +kernel
theorem d_L_pass_1 : decode (pw_cc cx_L_pass) 1 = .ok (.iconst 0, 1) := by decide +kernel
theorem d_L_pass_2 : decode (pw_cc cx_L_pass) 2 = .ok (.aload_n 0, 1) := by decide +kernel
theorem d_L_pass_3 : decode (pw_cc cx_L_pass) 3 = .ok (.iload_n 1, 1) := by decide +kernel
theorem d_L_pass_4 : decode (pw_cc cx_L_pass) 4 = .ok (.invokevirtual 73, 3) := by decide +kernel
theorem d_L_pass_7 : decode (pw_cc cx_L_pass) 7 = .ok (.i2l, 1) := by decide +kernel
theorem d_L_pass_8 : decode (pw_cc cx_L_pass) 8 = .ok (.lastore, 1) := by decide +kernel
theorem d_L_pass_9 : decode (pw_cc cx_L_pass) 9 = .ok (.goto 9, 3) := by decide +kernel
theorem d_L_pass_12 : decode (pw_cc cx_L_pass) 12 = .ok (.astore_n 3, 1) := by decide +kernel
theorem d_L_pass_13 : decode (pw_cc cx_L_pass) 13 = .ok (.iconst 1, 1) := by decide +kernel
theorem d_L_pass_14 : decode (pw_cc cx_L_pass) 14 = .ok (.ireturn, 1) := by decide +kernel
theorem d_L_pass_15 : decode (pw_cc cx_L_pass) 15 = .ok (.astore_n 3, 1) := by decide +kernel
theorem d_L_pass_16 : decode (pw_cc cx_L_pass) 16 = .ok (.iconst 2, 1) := by decide +kernel
theorem d_L_pass_17 : decode (pw_cc cx_L_pass) 17 = .ok (.ireturn, 1) := by decide +kernel
theorem d_L_pass_18 : decode (pw_cc cx_L_pass) 18 = .ok (.iconst 0, 1) := by decide +kernel
theorem d_L_pass_19 : decode (pw_cc cx_L_pass) 19 = .ok (.ireturn, 1) := by decide +kernel
set_option maxHeartbeats 4000000 in
set_option maxRecDepth 20000 in
def wp_L_pass (w : pw_W) (a1 : Int32) (Q : pw_W → Int32 → Prop) (X : pw_W → Nat → Prop) : Prop := wp_X_pass w a1 (fun w1 r2 => pw_jn 0 (pw_ln w1 13 0) ∧ ∀ w4, w4 = pw_ps w1 13 0 0 r2 → Q w4 0) (fun wx kx => kx = 2 ∧ Q wx 1 ∨ kx = 3 ∧ Q wx 2)
set_option maxHeartbeats 4000000 in
set_option maxRecDepth 20000 in
theorem vw_L_pass {l : Launch} {g : pw_G} {Q : pw_W → Int32 → Prop} {X : pw_W → Nat → Prop} (hl0 : l.stackTraces = false) {w : pw_W} {a1 : Int32} (h : wp_L_pass w a1 Q X) : pw_V l g cx_L_pass Q X 0 [(9, 0), (0, a1), (15, 0), (1, 0)] [] w := by
  unfold wp_L_pass at h
  refine pv_aload_n (n := 1) d_L_pass_0 rfl rfl rfl ?_
  refine pv_iconst (v := 0) (n := 2) d_L_pass_1 (by decide) rfl ?_
  refine pv_aload_n (n := 3) d_L_pass_2 rfl rfl rfl ?_
  refine pv_iload_n (n := 4) d_L_pass_3 rfl rfl rfl ?_
  refine pv_callV (n := 7) (x := 0) [(0, a1)] [(0, 0), (15, 0)] (con_X_pass hl0 h) pw_cf7 rfl q_731 q_732 q_733 q_62 q_730 pyo_X_pass (by decide) rfl rfl (by decide) d_L_pass_4 rfl (fun w1 r2 h _ => ?_) (fun wx kx h => ?_)
  · show pw_V l g cx_L_pass Q X 7 [(9, 0), (0, a1), (15, 0), (1, 0)] [(0, r2), (0, 0), (15, 0)] w1
    refine pv_i2l (n := 8) d_L_pass_7 rfl ?_
    obtain ⟨g3, h⟩ := h
    refine pv_last1 (n := 9) (f := 13) (by decide) rfl (fun _ => rfl) d_L_pass_8 (by decide) g3 rfl (fun w4 e5 => ?_)
    replace h := h w4 e5
    refine pv_goto (tgt := 18) d_L_pass_9 (by decide) ?_
    refine pv_iconst (v := 0) (n := 19) d_L_pass_18 (by decide) rfl ?_
    exact pv_iret rfl rfl d_L_pass_19 h
  · rcases h with ⟨rfl, h⟩ | ⟨rfl, h⟩
    · refine pvx_catch_n (jf := 3) (i := 12) (n := 13) [] ⟨0, 9, 12, 15⟩ [⟨0, 9, 15, 17⟩] (L1 := [(9, 0), (0, a1), (15, 0), (1, 0)]) rfl (pw_hp0) (by decide) (by decide) q_663 q_662 rfl d_L_pass_12 (by decide) rfl rfl ?_
      refine pv_iconst (v := 1) (n := 14) d_L_pass_13 (by decide) rfl ?_
      exact pv_iret rfl rfl d_L_pass_14 h
    · refine pvx_catch_n (jf := 3) (i := 15) (n := 16) [⟨0, 9, 12, 15⟩] ⟨0, 9, 15, 17⟩ [] (L1 := [(9, 0), (0, a1), (15, 0), (1, 0)]) rfl (pw_hp1 ⟨by decide, 2, q_663, by decide⟩) (by decide) (by decide) q_665 q_664 rfl d_L_pass_15 (by decide) rfl rfl ?_
      refine pv_iconst (v := 2) (n := 17) d_L_pass_16 (by decide) rfl ?_
      exact pv_iret rfl rfl d_L_pass_17 h
set_option maxHeartbeats 4000000 in
set_option maxRecDepth 20000 in
theorem con_L_pass {l : Launch} {g : pw_G} {Q : pw_W → Int32 → Prop} {X : pw_W → Nat → Prop} (hl0 : l.stackTraces = false) {w : pw_W} {a1 : Int32} (h : wp_L_pass w a1 Q X) : pw_ConH l g y_L_pass cx_L_pass [(9, 0), (0, a1), (15, 0)] w Q X :=
  pw_conH (by decide +kernel) rfl rfl hl0 (Nat.le_of_ble_eq_true rfl) (by simp) (vw_L_pass hl0 h)
theorem d_L_name_0 : decode (pw_cc cx_L_name) 0 = .ok (.aload_n 3, 1) := by decide +kernel
theorem d_L_name_1 : decode (pw_cc cx_L_name) 1 = .ok (.iconst 0, 1) := by decide +kernel
theorem d_L_name_2 : decode (pw_cc cx_L_name) 2 = .ok (.aload_n 0, 1) := by decide +kernel
theorem d_L_name_3 : decode (pw_cc cx_L_name) 3 = .ok (.iload_n 1, 1) := by decide +kernel
theorem d_L_name_4 : decode (pw_cc cx_L_name) 4 = .ok (.iload_n 2, 1) := by decide +kernel
theorem d_L_name_5 : decode (pw_cc cx_L_name) 5 = .ok (.invokevirtual 76, 3) := by decide +kernel
theorem d_L_name_8 : decode (pw_cc cx_L_name) 8 = .ok (.i2l, 1) := by decide +kernel
theorem d_L_name_9 : decode (pw_cc cx_L_name) 9 = .ok (.lastore, 1) := by decide +kernel
theorem d_L_name_10 : decode (pw_cc cx_L_name) 10 = .ok (.goto 11, 3) := by decide +kernel
theorem d_L_name_13 : decode (pw_cc cx_L_name) 13 = .ok (.astore 4, 2) := by decide +kernel
theorem d_L_name_15 : decode (pw_cc cx_L_name) 15 = .ok (.iconst 1, 1) := by decide +kernel
theorem d_L_name_16 : decode (pw_cc cx_L_name) 16 = .ok (.ireturn, 1) := by decide +kernel
theorem d_L_name_17 : decode (pw_cc cx_L_name) 17 = .ok (.astore 4, 2) := by decide +kernel
theorem d_L_name_19 : decode (pw_cc cx_L_name) 19 = .ok (.iconst 2, 1) := by decide +kernel
theorem d_L_name_20 : decode (pw_cc cx_L_name) 20 = .ok (.ireturn, 1) := by decide +kernel
theorem d_L_name_21 : decode (pw_cc cx_L_name) 21 = .ok (.iconst 0, 1) := by decide +kernel
theorem d_L_name_22 : decode (pw_cc cx_L_name) 22 = .ok (.ireturn, 1) := by decide +kernel
set_option maxHeartbeats 4000000 in
set_option maxRecDepth 20000 in
def wp_L_name (w : pw_W) (a1 a2 : Int32) (Q : pw_W → Int32 → Prop) (X : pw_W → Nat → Prop) : Prop := wp_X_name w a1 a2 (fun w1 r2 => pw_jn 0 (pw_ln w1 13 0) ∧ ∀ w4, w4 = pw_ps w1 13 0 0 r2 → Q w4 0) (fun wx kx => kx = 1 ∧ Q wx 1 ∨ kx = 3 ∧ Q wx 2)
set_option maxHeartbeats 4000000 in
set_option maxRecDepth 20000 in
theorem vw_L_name {l : Launch} {g : pw_G} {Q : pw_W → Int32 → Prop} {X : pw_W → Nat → Prop} (hl0 : l.stackTraces = false) {w : pw_W} {a1 a2 : Int32} (h : wp_L_name w a1 a2 Q X) : pw_V l g cx_L_name Q X 0 [(9, 0), (0, a1), (0, a2), (15, 0), (1, 0)] [] w := by
  unfold wp_L_name at h
  refine pv_aload_n (n := 1) d_L_name_0 rfl rfl rfl ?_
  refine pv_iconst (v := 0) (n := 2) d_L_name_1 (by decide) rfl ?_
  refine pv_aload_n (n := 3) d_L_name_2 rfl rfl rfl ?_
  refine pv_iload_n (n := 4) d_L_name_3 rfl rfl rfl ?_
  refine pv_iload_n (n := 5) d_L_name_4 rfl rfl rfl ?_
  refine pv_callV (n := 8) (x := 0) [(0, a1), (0, a2)] [(0, 0), (15, 0)] (con_X_name hl0 h) pw_cf7 rfl q_735 q_736 q_737 q_62 q_734 pyo_X_name (by decide) rfl rfl (by decide) d_L_name_5 rfl (fun w1 r2 h _ => ?_) (fun wx kx h => ?_)
  · show pw_V l g cx_L_name Q X 8 [(9, 0), (0, a1), (0, a2), (15, 0), (1, 0)] [(0, r2), (0, 0), (15, 0)] w1
    refine pv_i2l (n := 9) d_L_name_8 rfl ?_
    obtain ⟨g3, h⟩ := h
    refine pv_last1 (n := 10) (f := 13) (by decide) rfl (fun _ => rfl) d_L_name_9 (by decide) g3 rfl (fun w4 e5 => ?_)
    replace h := h w4 e5
    refine pv_goto (tgt := 21) d_L_name_10 (by decide) ?_
    refine pv_iconst (v := 0) (n := 22) d_L_name_21 (by decide) rfl ?_
    exact pv_iret rfl rfl d_L_name_22 h
  · rcases h with ⟨rfl, h⟩ | ⟨rfl, h⟩
    · refine pvx_catch (jf := 4) (i := 13) (n := 15) [] ⟨0, 10, 13, 13⟩ [⟨0, 10, 17, 17⟩] (L1 := [(9, 0), (0, a1), (0, a2), (15, 0), (1, 0)]) rfl (pw_hp0) (by decide) (by decide) q_661 q_660 rfl d_L_name_13 (by decide) rfl rfl ?_
      refine pv_iconst (v := 1) (n := 16) d_L_name_15 (by decide) rfl ?_
      exact pv_iret rfl rfl d_L_name_16 h
    · refine pvx_catch (jf := 4) (i := 17) (n := 19) [⟨0, 10, 13, 13⟩] ⟨0, 10, 17, 17⟩ [] (L1 := [(9, 0), (0, a1), (0, a2), (15, 0), (1, 0)]) rfl (pw_hp1 ⟨by decide, 1, q_661, by decide⟩) (by decide) (by decide) q_665 q_664 rfl d_L_name_17 (by decide) rfl rfl ?_
      refine pv_iconst (v := 2) (n := 20) d_L_name_19 (by decide) rfl ?_
      exact pv_iret rfl rfl d_L_name_20 h
set_option maxHeartbeats 4000000 in
set_option maxRecDepth 20000 in
theorem con_L_name {l : Launch} {g : pw_G} {Q : pw_W → Int32 → Prop} {X : pw_W → Nat → Prop} (hl0 : l.stackTraces = false) {w : pw_W} {a1 a2 : Int32} (h : wp_L_name w a1 a2 Q X) : pw_ConH l g y_L_name cx_L_name [(9, 0), (0, a1), (0, a2), (15, 0)] w Q X :=
  pw_conH (by decide +kernel) rfl rfl hl0 (Nat.le_of_ble_eq_true rfl) (by simp) (vw_L_name hl0 h)
theorem d_L_die_0 : decode (pw_cc cx_L_die) 0 = .ok (.aload_n 2, 1) := by decide +kernel
theorem d_L_die_1 : decode (pw_cc cx_L_die) 1 = .ok (.iconst 0, 1) := by decide +kernel
theorem d_L_die_2 : decode (pw_cc cx_L_die) 2 = .ok (.aload_n 0, 1) := by decide +kernel
theorem d_L_die_3 : decode (pw_cc cx_L_die) 3 = .ok (.iload_n 1, 1) := by decide +kernel
theorem d_L_die_4 : decode (pw_cc cx_L_die) 4 = .ok (.invokevirtual 79, 3) := by decide +kernel
theorem d_L_die_7 : decode (pw_cc cx_L_die) 7 = .ok (.i2l, 1) := by decide +kernel
theorem d_L_die_8 : decode (pw_cc cx_L_die) 8 = .ok (.lastore, 1) := by decide +kernel
theorem d_L_die_9 : decode (pw_cc cx_L_die) 9 = .ok (.goto 9, 3) := by decide +kernel
theorem d_L_die_12 : decode (pw_cc cx_L_die) 12 = .ok (.astore_n 3, 1) := by decide +kernel
theorem d_L_die_13 : decode (pw_cc cx_L_die) 13 = .ok (.iconst 1, 1) := by decide +kernel
theorem d_L_die_14 : decode (pw_cc cx_L_die) 14 = .ok (.ireturn, 1) := by decide +kernel
theorem d_L_die_15 : decode (pw_cc cx_L_die) 15 = .ok (.astore_n 3, 1) := by decide +kernel
theorem d_L_die_16 : decode (pw_cc cx_L_die) 16 = .ok (.iconst 2, 1) := by decide +kernel
theorem d_L_die_17 : decode (pw_cc cx_L_die) 17 = .ok (.ireturn, 1) := by decide +kernel
theorem d_L_die_18 : decode (pw_cc cx_L_die) 18 = .ok (.iconst 0, 1) := by decide +kernel
theorem d_L_die_19 : decode (pw_cc cx_L_die) 19 = .ok (.ireturn, 1) := by decide +kernel
set_option maxHeartbeats 4000000 in
set_option maxRecDepth 20000 in
def wp_L_die (w : pw_W) (a1 : Int32) (Q : pw_W → Int32 → Prop) (X : pw_W → Nat → Prop) : Prop := wp_X_die w a1 (fun w1 r2 => pw_jn 0 (pw_ln w1 13 0) ∧ ∀ w4, w4 = pw_ps w1 13 0 0 r2 → Q w4 0) (fun wx kx => kx = 1 ∧ Q wx 1 ∨ kx = 3 ∧ Q wx 2)
set_option maxHeartbeats 4000000 in
set_option maxRecDepth 20000 in
theorem vw_L_die {l : Launch} {g : pw_G} {Q : pw_W → Int32 → Prop} {X : pw_W → Nat → Prop} (hl0 : l.stackTraces = false) {w : pw_W} {a1 : Int32} (h : wp_L_die w a1 Q X) : pw_V l g cx_L_die Q X 0 [(9, 0), (0, a1), (15, 0), (1, 0)] [] w := by
  unfold wp_L_die at h
  refine pv_aload_n (n := 1) d_L_die_0 rfl rfl rfl ?_
  refine pv_iconst (v := 0) (n := 2) d_L_die_1 (by decide) rfl ?_
  refine pv_aload_n (n := 3) d_L_die_2 rfl rfl rfl ?_
  refine pv_iload_n (n := 4) d_L_die_3 rfl rfl rfl ?_
  refine pv_callV (n := 7) (x := 0) [(0, a1)] [(0, 0), (15, 0)] (con_X_die hl0 h) pw_cf7 rfl q_739 q_740 q_741 q_62 q_738 pyo_X_die (by decide) rfl rfl (by decide) d_L_die_4 rfl (fun w1 r2 h _ => ?_) (fun wx kx h => ?_)
  · show pw_V l g cx_L_die Q X 7 [(9, 0), (0, a1), (15, 0), (1, 0)] [(0, r2), (0, 0), (15, 0)] w1
    refine pv_i2l (n := 8) d_L_die_7 rfl ?_
    obtain ⟨g3, h⟩ := h
    refine pv_last1 (n := 9) (f := 13) (by decide) rfl (fun _ => rfl) d_L_die_8 (by decide) g3 rfl (fun w4 e5 => ?_)
    replace h := h w4 e5
    refine pv_goto (tgt := 18) d_L_die_9 (by decide) ?_
    refine pv_iconst (v := 0) (n := 19) d_L_die_18 (by decide) rfl ?_
    exact pv_iret rfl rfl d_L_die_19 h
  · rcases h with ⟨rfl, h⟩ | ⟨rfl, h⟩
    · refine pvx_catch_n (jf := 3) (i := 12) (n := 13) [] ⟨0, 9, 12, 13⟩ [⟨0, 9, 15, 17⟩] (L1 := [(9, 0), (0, a1), (15, 0), (1, 0)]) rfl (pw_hp0) (by decide) (by decide) q_661 q_660 rfl d_L_die_12 (by decide) rfl rfl ?_
      refine pv_iconst (v := 1) (n := 14) d_L_die_13 (by decide) rfl ?_
      exact pv_iret rfl rfl d_L_die_14 h
    · refine pvx_catch_n (jf := 3) (i := 15) (n := 16) [⟨0, 9, 12, 13⟩] ⟨0, 9, 15, 17⟩ [] (L1 := [(9, 0), (0, a1), (15, 0), (1, 0)]) rfl (pw_hp1 ⟨by decide, 1, q_661, by decide⟩) (by decide) (by decide) q_665 q_664 rfl d_L_die_15 (by decide) rfl rfl ?_
      refine pv_iconst (v := 2) (n := 17) d_L_die_16 (by decide) rfl ?_
      exact pv_iret rfl rfl d_L_die_17 h
set_option maxHeartbeats 4000000 in
set_option maxRecDepth 20000 in
theorem con_L_die {l : Launch} {g : pw_G} {Q : pw_W → Int32 → Prop} {X : pw_W → Nat → Prop} (hl0 : l.stackTraces = false) {w : pw_W} {a1 : Int32} (h : wp_L_die w a1 Q X) : pw_ConH l g y_L_die cx_L_die [(9, 0), (0, a1), (15, 0)] w Q X :=
  pw_conH (by decide +kernel) rfl rfl hl0 (Nat.le_of_ble_eq_true rfl) (by simp) (vw_L_die hl0 h)
theorem d_L_parcelOf_0 : decode (pw_cc cx_L_parcelOf) 0 = .ok (.aload_n 2, 1) := by decide +kernel
theorem d_L_parcelOf_1 : decode (pw_cc cx_L_parcelOf) 1 = .ok (.iconst 0, 1) := by decide +kernel
theorem d_L_parcelOf_2 : decode (pw_cc cx_L_parcelOf) 2 = .ok (.aload_n 0, 1) := by decide +kernel
theorem d_L_parcelOf_3 : decode (pw_cc cx_L_parcelOf) 3 = .ok (.iload_n 1, 1) := by decide +kernel
theorem d_L_parcelOf_4 : decode (pw_cc cx_L_parcelOf) 4 = .ok (.invokevirtual 82, 3) := by decide +kernel
theorem d_L_parcelOf_7 : decode (pw_cc cx_L_parcelOf) 7 = .ok (.i2l, 1) := by decide +kernel
theorem d_L_parcelOf_8 : decode (pw_cc cx_L_parcelOf) 8 = .ok (.lastore, 1) := by decide +kernel
theorem d_L_parcelOf_9 : decode (pw_cc cx_L_parcelOf) 9 = .ok (.goto 6, 3) := by decide +kernel
theorem d_L_parcelOf_12 : decode (pw_cc cx_L_parcelOf) 12 = .ok (.astore_n 3, 1) := by decide +kernel
theorem d_L_parcelOf_13 : decode (pw_cc cx_L_parcelOf) 13 = .ok (.iconst 1, 1) := by decide +kernel
theorem d_L_parcelOf_14 : decode (pw_cc cx_L_parcelOf) 14 = .ok (.ireturn, 1) := by decide +kernel
theorem d_L_parcelOf_15 : decode (pw_cc cx_L_parcelOf) 15 = .ok (.iconst 0, 1) := by decide +kernel
theorem d_L_parcelOf_16 : decode (pw_cc cx_L_parcelOf) 16 = .ok (.ireturn, 1) := by decide +kernel
set_option maxHeartbeats 4000000 in
set_option maxRecDepth 20000 in
def wp_L_parcelOf (w : pw_W) (a1 : Int32) (Q : pw_W → Int32 → Prop) (X : pw_W → Nat → Prop) : Prop := wp_X_parcelOf w a1 (fun w1 r2 => pw_jn 0 (pw_ln w1 13 0) ∧ ∀ w4, w4 = pw_ps w1 13 0 0 r2 → Q w4 0) (fun wx kx => kx = 1 ∧ Q wx 1)
set_option maxHeartbeats 4000000 in
set_option maxRecDepth 20000 in
theorem vw_L_parcelOf {l : Launch} {g : pw_G} {Q : pw_W → Int32 → Prop} {X : pw_W → Nat → Prop} (hl0 : l.stackTraces = false) {w : pw_W} {a1 : Int32} (h : wp_L_parcelOf w a1 Q X) : pw_V l g cx_L_parcelOf Q X 0 [(9, 0), (0, a1), (15, 0), (1, 0)] [] w := by
  unfold wp_L_parcelOf at h
  refine pv_aload_n (n := 1) d_L_parcelOf_0 rfl rfl rfl ?_
  refine pv_iconst (v := 0) (n := 2) d_L_parcelOf_1 (by decide) rfl ?_
  refine pv_aload_n (n := 3) d_L_parcelOf_2 rfl rfl rfl ?_
  refine pv_iload_n (n := 4) d_L_parcelOf_3 rfl rfl rfl ?_
  refine pv_callV (n := 7) (x := 0) [(0, a1)] [(0, 0), (15, 0)] (con_X_parcelOf hl0 h) pw_cf7 rfl q_743 q_744 q_745 q_62 q_742 pyo_X_parcelOf (by decide) rfl rfl (by decide) d_L_parcelOf_4 rfl (fun w1 r2 h _ => ?_) (fun wx kx h => ?_)
  · show pw_V l g cx_L_parcelOf Q X 7 [(9, 0), (0, a1), (15, 0), (1, 0)] [(0, r2), (0, 0), (15, 0)] w1
    refine pv_i2l (n := 8) d_L_parcelOf_7 rfl ?_
    obtain ⟨g3, h⟩ := h
    refine pv_last1 (n := 9) (f := 13) (by decide) rfl (fun _ => rfl) d_L_parcelOf_8 (by decide) g3 rfl (fun w4 e5 => ?_)
    replace h := h w4 e5
    refine pv_goto (tgt := 15) d_L_parcelOf_9 (by decide) ?_
    refine pv_iconst (v := 0) (n := 16) d_L_parcelOf_15 (by decide) rfl ?_
    exact pv_iret rfl rfl d_L_parcelOf_16 h
  · rcases h with ⟨rfl, h⟩
    · refine pvx_catch_n (jf := 3) (i := 12) (n := 13) [] ⟨0, 9, 12, 13⟩ [] (L1 := [(9, 0), (0, a1), (15, 0), (1, 0)]) rfl (pw_hp0) (by decide) (by decide) q_661 q_660 rfl d_L_parcelOf_12 (by decide) rfl rfl ?_
      refine pv_iconst (v := 1) (n := 14) d_L_parcelOf_13 (by decide) rfl ?_
      exact pv_iret rfl rfl d_L_parcelOf_14 h
set_option maxHeartbeats 4000000 in
set_option maxRecDepth 20000 in
theorem con_L_parcelOf {l : Launch} {g : pw_G} {Q : pw_W → Int32 → Prop} {X : pw_W → Nat → Prop} (hl0 : l.stackTraces = false) {w : pw_W} {a1 : Int32} (h : wp_L_parcelOf w a1 Q X) : pw_ConH l g y_L_parcelOf cx_L_parcelOf [(9, 0), (0, a1), (15, 0)] w Q X :=
  pw_conH (by decide +kernel) rfl rfl hl0 (Nat.le_of_ble_eq_true rfl) (by simp) (vw_L_parcelOf hl0 h)
theorem d_L_chain_0 : decode (pw_cc cx_L_chain) 0 = .ok (.aload_n 3, 1) := by decide +kernel
theorem d_L_chain_1 : decode (pw_cc cx_L_chain) 1 = .ok (.iconst 0, 1) := by decide +kernel
theorem d_L_chain_2 : decode (pw_cc cx_L_chain) 2 = .ok (.aload_n 0, 1) := by decide +kernel
theorem d_L_chain_3 : decode (pw_cc cx_L_chain) 3 = .ok (.iload_n 1, 1) := by decide +kernel
theorem d_L_chain_4 : decode (pw_cc cx_L_chain) 4 = .ok (.iload_n 2, 1) := by decide +kernel
theorem d_L_chain_5 : decode (pw_cc cx_L_chain) 5 = .ok (.invokevirtual 85, 3) := by decide +kernel
theorem d_L_chain_8 : decode (pw_cc cx_L_chain) 8 = .ok (.i2l, 1) := by decide +kernel
theorem d_L_chain_9 : decode (pw_cc cx_L_chain) 9 = .ok (.lastore, 1) := by decide +kernel
theorem d_L_chain_10 : decode (pw_cc cx_L_chain) 10 = .ok (.goto 7, 3) := by decide +kernel
theorem d_L_chain_13 : decode (pw_cc cx_L_chain) 13 = .ok (.astore 4, 2) := by decide +kernel
theorem d_L_chain_15 : decode (pw_cc cx_L_chain) 15 = .ok (.iconst 1, 1) := by decide +kernel
theorem d_L_chain_16 : decode (pw_cc cx_L_chain) 16 = .ok (.ireturn, 1) := by decide +kernel
theorem d_L_chain_17 : decode (pw_cc cx_L_chain) 17 = .ok (.iconst 0, 1) := by decide +kernel
theorem d_L_chain_18 : decode (pw_cc cx_L_chain) 18 = .ok (.ireturn, 1) := by decide +kernel
set_option maxHeartbeats 4000000 in
set_option maxRecDepth 20000 in
def wp_L_chain (w : pw_W) (a1 a2 : Int32) (Q : pw_W → Int32 → Prop) (X : pw_W → Nat → Prop) : Prop := wp_X_chain w a1 a2 (fun w1 r2 => pw_jn 0 (pw_ln w1 13 0) ∧ ∀ w4, w4 = pw_ps w1 13 0 0 r2 → Q w4 0) (fun wx kx => kx = 1 ∧ Q wx 1)
set_option maxHeartbeats 4000000 in
set_option maxRecDepth 20000 in
theorem vw_L_chain {l : Launch} {g : pw_G} {Q : pw_W → Int32 → Prop} {X : pw_W → Nat → Prop} (hl0 : l.stackTraces = false) {w : pw_W} {a1 a2 : Int32} (h : wp_L_chain w a1 a2 Q X) : pw_V l g cx_L_chain Q X 0 [(9, 0), (0, a1), (0, a2), (15, 0), (1, 0)] [] w := by
  unfold wp_L_chain at h
  refine pv_aload_n (n := 1) d_L_chain_0 rfl rfl rfl ?_
  refine pv_iconst (v := 0) (n := 2) d_L_chain_1 (by decide) rfl ?_
  refine pv_aload_n (n := 3) d_L_chain_2 rfl rfl rfl ?_
  refine pv_iload_n (n := 4) d_L_chain_3 rfl rfl rfl ?_
  refine pv_iload_n (n := 5) d_L_chain_4 rfl rfl rfl ?_
  refine pv_callV (n := 8) (x := 0) [(0, a1), (0, a2)] [(0, 0), (15, 0)] (con_X_chain hl0 h) pw_cf7 rfl q_747 q_748 q_749 q_62 q_746 pyo_X_chain (by decide) rfl rfl (by decide) d_L_chain_5 rfl (fun w1 r2 h _ => ?_) (fun wx kx h => ?_)
  · show pw_V l g cx_L_chain Q X 8 [(9, 0), (0, a1), (0, a2), (15, 0), (1, 0)] [(0, r2), (0, 0), (15, 0)] w1
    refine pv_i2l (n := 9) d_L_chain_8 rfl ?_
    obtain ⟨g3, h⟩ := h
    refine pv_last1 (n := 10) (f := 13) (by decide) rfl (fun _ => rfl) d_L_chain_9 (by decide) g3 rfl (fun w4 e5 => ?_)
    replace h := h w4 e5
    refine pv_goto (tgt := 17) d_L_chain_10 (by decide) ?_
    refine pv_iconst (v := 0) (n := 18) d_L_chain_17 (by decide) rfl ?_
    exact pv_iret rfl rfl d_L_chain_18 h
  · rcases h with ⟨rfl, h⟩
    · refine pvx_catch (jf := 4) (i := 13) (n := 15) [] ⟨0, 10, 13, 13⟩ [] (L1 := [(9, 0), (0, a1), (0, a2), (15, 0), (1, 0)]) rfl (pw_hp0) (by decide) (by decide) q_661 q_660 rfl d_L_chain_13 (by decide) rfl rfl ?_
      refine pv_iconst (v := 1) (n := 16) d_L_chain_15 (by decide) rfl ?_
      exact pv_iret rfl rfl d_L_chain_16 h
set_option maxHeartbeats 4000000 in
set_option maxRecDepth 20000 in
theorem con_L_chain {l : Launch} {g : pw_G} {Q : pw_W → Int32 → Prop} {X : pw_W → Nat → Prop} (hl0 : l.stackTraces = false) {w : pw_W} {a1 a2 : Int32} (h : wp_L_chain w a1 a2 Q X) : pw_ConH l g y_L_chain cx_L_chain [(9, 0), (0, a1), (0, a2), (15, 0)] w Q X :=
  pw_conH (by decide +kernel) rfl rfl hl0 (Nat.le_of_ble_eq_true rfl) (by simp) (vw_L_chain hl0 h)
theorem d_L_area_0 : decode (pw_cc cx_L_area) 0 = .ok (.aload_n 2, 1) := by decide +kernel
theorem d_L_area_1 : decode (pw_cc cx_L_area) 1 = .ok (.iconst 0, 1) := by decide +kernel
theorem d_L_area_2 : decode (pw_cc cx_L_area) 2 = .ok (.aload_n 0, 1) := by decide +kernel
theorem d_L_area_3 : decode (pw_cc cx_L_area) 3 = .ok (.iload_n 1, 1) := by decide +kernel
theorem d_L_area_4 : decode (pw_cc cx_L_area) 4 = .ok (.invokevirtual 88, 3) := by decide +kernel
theorem d_L_area_7 : decode (pw_cc cx_L_area) 7 = .ok (.i2l, 1) := by decide +kernel
theorem d_L_area_8 : decode (pw_cc cx_L_area) 8 = .ok (.lastore, 1) := by decide +kernel
theorem d_L_area_9 : decode (pw_cc cx_L_area) 9 = .ok (.goto 6, 3) := by decide +kernel
theorem d_L_area_12 : decode (pw_cc cx_L_area) 12 = .ok (.astore_n 3, 1) := by decide +kernel
theorem d_L_area_13 : decode (pw_cc cx_L_area) 13 = .ok (.iconst 1, 1) := by decide +kernel
theorem d_L_area_14 : decode (pw_cc cx_L_area) 14 = .ok (.ireturn, 1) := by decide +kernel
theorem d_L_area_15 : decode (pw_cc cx_L_area) 15 = .ok (.iconst 0, 1) := by decide +kernel
theorem d_L_area_16 : decode (pw_cc cx_L_area) 16 = .ok (.ireturn, 1) := by decide +kernel
set_option maxHeartbeats 4000000 in
set_option maxRecDepth 20000 in
def wp_L_area (w : pw_W) (a1 : Int32) (Q : pw_W → Int32 → Prop) (X : pw_W → Nat → Prop) : Prop := wp_X_area w a1 (fun w1 r2 => pw_jn 0 (pw_ln w1 13 0) ∧ ∀ w4, w4 = pw_ps w1 13 0 0 r2 → Q w4 0) (fun wx kx => kx = 1 ∧ Q wx 1)
set_option maxHeartbeats 4000000 in
set_option maxRecDepth 20000 in
theorem vw_L_area {l : Launch} {g : pw_G} {Q : pw_W → Int32 → Prop} {X : pw_W → Nat → Prop} (hl0 : l.stackTraces = false) {w : pw_W} {a1 : Int32} (h : wp_L_area w a1 Q X) : pw_V l g cx_L_area Q X 0 [(9, 0), (0, a1), (15, 0), (1, 0)] [] w := by
  unfold wp_L_area at h
  refine pv_aload_n (n := 1) d_L_area_0 rfl rfl rfl ?_
  refine pv_iconst (v := 0) (n := 2) d_L_area_1 (by decide) rfl ?_
  refine pv_aload_n (n := 3) d_L_area_2 rfl rfl rfl ?_
  refine pv_iload_n (n := 4) d_L_area_3 rfl rfl rfl ?_
  refine pv_callV (n := 7) (x := 0) [(0, a1)] [(0, 0), (15, 0)] (con_X_area hl0 h) pw_cf7 rfl q_751 q_752 q_753 q_62 q_750 pyo_X_area (by decide) rfl rfl (by decide) d_L_area_4 rfl (fun w1 r2 h _ => ?_) (fun wx kx h => ?_)
  · show pw_V l g cx_L_area Q X 7 [(9, 0), (0, a1), (15, 0), (1, 0)] [(0, r2), (0, 0), (15, 0)] w1
    refine pv_i2l (n := 8) d_L_area_7 rfl ?_
    obtain ⟨g3, h⟩ := h
    refine pv_last1 (n := 9) (f := 13) (by decide) rfl (fun _ => rfl) d_L_area_8 (by decide) g3 rfl (fun w4 e5 => ?_)
    replace h := h w4 e5
    refine pv_goto (tgt := 15) d_L_area_9 (by decide) ?_
    refine pv_iconst (v := 0) (n := 16) d_L_area_15 (by decide) rfl ?_
    exact pv_iret rfl rfl d_L_area_16 h
  · rcases h with ⟨rfl, h⟩
    · refine pvx_catch_n (jf := 3) (i := 12) (n := 13) [] ⟨0, 9, 12, 13⟩ [] (L1 := [(9, 0), (0, a1), (15, 0), (1, 0)]) rfl (pw_hp0) (by decide) (by decide) q_661 q_660 rfl d_L_area_12 (by decide) rfl rfl ?_
      refine pv_iconst (v := 1) (n := 14) d_L_area_13 (by decide) rfl ?_
      exact pv_iret rfl rfl d_L_area_14 h
set_option maxHeartbeats 4000000 in
set_option maxRecDepth 20000 in
theorem con_L_area {l : Launch} {g : pw_G} {Q : pw_W → Int32 → Prop} {X : pw_W → Nat → Prop} (hl0 : l.stackTraces = false) {w : pw_W} {a1 : Int32} (h : wp_L_area w a1 Q X) : pw_ConH l g y_L_area cx_L_area [(9, 0), (0, a1), (15, 0)] w Q X :=
  pw_conH (by decide +kernel) rfl rfl hl0 (Nat.le_of_ble_eq_true rfl) (by simp) (vw_L_area hl0 h)
theorem d_L_owner_0 : decode (pw_cc cx_L_owner) 0 = .ok (.aload_n 2, 1) := by decide +kernel
theorem d_L_owner_1 : decode (pw_cc cx_L_owner) 1 = .ok (.iconst 0, 1) := by decide +kernel
theorem d_L_owner_2 : decode (pw_cc cx_L_owner) 2 = .ok (.aload_n 0, 1) := by decide +kernel
theorem d_L_owner_3 : decode (pw_cc cx_L_owner) 3 = .ok (.iload_n 1, 1) := by decide +kernel
theorem d_L_owner_4 : decode (pw_cc cx_L_owner) 4 = .ok (.invokevirtual 91, 3) := by decide +kernel
theorem d_L_owner_7 : decode (pw_cc cx_L_owner) 7 = .ok (.i2l, 1) := by decide +kernel
theorem d_L_owner_8 : decode (pw_cc cx_L_owner) 8 = .ok (.lastore, 1) := by decide +kernel
theorem d_L_owner_9 : decode (pw_cc cx_L_owner) 9 = .ok (.goto 6, 3) := by decide +kernel
theorem d_L_owner_12 : decode (pw_cc cx_L_owner) 12 = .ok (.astore_n 3, 1) := by decide +kernel
theorem d_L_owner_13 : decode (pw_cc cx_L_owner) 13 = .ok (.iconst 1, 1) := by decide +kernel
theorem d_L_owner_14 : decode (pw_cc cx_L_owner) 14 = .ok (.ireturn, 1) := by decide +kernel
theorem d_L_owner_15 : decode (pw_cc cx_L_owner) 15 = .ok (.iconst 0, 1) := by decide +kernel
theorem d_L_owner_16 : decode (pw_cc cx_L_owner) 16 = .ok (.ireturn, 1) := by decide +kernel
set_option maxHeartbeats 4000000 in
set_option maxRecDepth 20000 in
def wp_L_owner (w : pw_W) (a1 : Int32) (Q : pw_W → Int32 → Prop) (X : pw_W → Nat → Prop) : Prop := wp_X_owner w a1 (fun w1 r2 => pw_jn 0 (pw_ln w1 13 0) ∧ ∀ w4, w4 = pw_ps w1 13 0 0 r2 → Q w4 0) (fun wx kx => kx = 1 ∧ Q wx 1)
set_option maxHeartbeats 4000000 in
set_option maxRecDepth 20000 in
theorem vw_L_owner {l : Launch} {g : pw_G} {Q : pw_W → Int32 → Prop} {X : pw_W → Nat → Prop} (hl0 : l.stackTraces = false) {w : pw_W} {a1 : Int32} (h : wp_L_owner w a1 Q X) : pw_V l g cx_L_owner Q X 0 [(9, 0), (0, a1), (15, 0), (1, 0)] [] w := by
  unfold wp_L_owner at h
  refine pv_aload_n (n := 1) d_L_owner_0 rfl rfl rfl ?_
  refine pv_iconst (v := 0) (n := 2) d_L_owner_1 (by decide) rfl ?_
  refine pv_aload_n (n := 3) d_L_owner_2 rfl rfl rfl ?_
  refine pv_iload_n (n := 4) d_L_owner_3 rfl rfl rfl ?_
  refine pv_callV (n := 7) (x := 0) [(0, a1)] [(0, 0), (15, 0)] (con_X_owner hl0 h) pw_cf7 rfl q_755 q_756 q_757 q_62 q_754 pyo_X_owner (by decide) rfl rfl (by decide) d_L_owner_4 rfl (fun w1 r2 h _ => ?_) (fun wx kx h => ?_)
  · show pw_V l g cx_L_owner Q X 7 [(9, 0), (0, a1), (15, 0), (1, 0)] [(0, r2), (0, 0), (15, 0)] w1
    refine pv_i2l (n := 8) d_L_owner_7 rfl ?_
    obtain ⟨g3, h⟩ := h
    refine pv_last1 (n := 9) (f := 13) (by decide) rfl (fun _ => rfl) d_L_owner_8 (by decide) g3 rfl (fun w4 e5 => ?_)
    replace h := h w4 e5
    refine pv_goto (tgt := 15) d_L_owner_9 (by decide) ?_
    refine pv_iconst (v := 0) (n := 16) d_L_owner_15 (by decide) rfl ?_
    exact pv_iret rfl rfl d_L_owner_16 h
  · rcases h with ⟨rfl, h⟩
    · refine pvx_catch_n (jf := 3) (i := 12) (n := 13) [] ⟨0, 9, 12, 13⟩ [] (L1 := [(9, 0), (0, a1), (15, 0), (1, 0)]) rfl (pw_hp0) (by decide) (by decide) q_661 q_660 rfl d_L_owner_12 (by decide) rfl rfl ?_
      refine pv_iconst (v := 1) (n := 14) d_L_owner_13 (by decide) rfl ?_
      exact pv_iret rfl rfl d_L_owner_14 h
set_option maxHeartbeats 4000000 in
set_option maxRecDepth 20000 in
theorem con_L_owner {l : Launch} {g : pw_G} {Q : pw_W → Int32 → Prop} {X : pw_W → Nat → Prop} (hl0 : l.stackTraces = false) {w : pw_W} {a1 : Int32} (h : wp_L_owner w a1 Q X) : pw_ConH l g y_L_owner cx_L_owner [(9, 0), (0, a1), (15, 0)] w Q X :=
  pw_conH (by decide +kernel) rfl rfl hl0 (Nat.le_of_ble_eq_true rfl) (by simp) (vw_L_owner hl0 h)
theorem d_L_disputed_0 : decode (pw_cc cx_L_disputed) 0 = .ok (.aload_n 2, 1) := by decide +kernel
theorem d_L_disputed_1 : decode (pw_cc cx_L_disputed) 1 = .ok (.iconst 0, 1) := by decide +kernel
theorem d_L_disputed_2 : decode (pw_cc cx_L_disputed) 2 = .ok (.aload_n 0, 1) := by decide +kernel
theorem d_L_disputed_3 : decode (pw_cc cx_L_disputed) 3 = .ok (.iload_n 1, 1) := by decide +kernel
theorem d_L_disputed_4 : decode (pw_cc cx_L_disputed) 4 = .ok (.invokevirtual 94, 3) := by decide +kernel
theorem d_L_disputed_7 : decode (pw_cc cx_L_disputed) 7 = .ok (.i2l, 1) := by decide +kernel
theorem d_L_disputed_8 : decode (pw_cc cx_L_disputed) 8 = .ok (.lastore, 1) := by decide +kernel
theorem d_L_disputed_9 : decode (pw_cc cx_L_disputed) 9 = .ok (.goto 6, 3) := by decide +kernel
theorem d_L_disputed_12 : decode (pw_cc cx_L_disputed) 12 = .ok (.astore_n 3, 1) := by decide +kernel
theorem d_L_disputed_13 : decode (pw_cc cx_L_disputed) 13 = .ok (.iconst 1, 1) := by decide +kernel
theorem d_L_disputed_14 : decode (pw_cc cx_L_disputed) 14 = .ok (.ireturn, 1) := by decide +kernel
theorem d_L_disputed_15 : decode (pw_cc cx_L_disputed) 15 = .ok (.iconst 0, 1) := by decide +kernel
theorem d_L_disputed_16 : decode (pw_cc cx_L_disputed) 16 = .ok (.ireturn, 1) := by decide +kernel
set_option maxHeartbeats 4000000 in
set_option maxRecDepth 20000 in
def wp_L_disputed (w : pw_W) (a1 : Int32) (Q : pw_W → Int32 → Prop) (X : pw_W → Nat → Prop) : Prop := wp_X_disputed w a1 (fun w1 r2 => pw_jn 0 (pw_ln w1 13 0) ∧ ∀ w4, w4 = pw_ps w1 13 0 0 r2 → Q w4 0) (fun wx kx => kx = 1 ∧ Q wx 1)
set_option maxHeartbeats 4000000 in
set_option maxRecDepth 20000 in
theorem vw_L_disputed {l : Launch} {g : pw_G} {Q : pw_W → Int32 → Prop} {X : pw_W → Nat → Prop} (hl0 : l.stackTraces = false) {w : pw_W} {a1 : Int32} (h : wp_L_disputed w a1 Q X) : pw_V l g cx_L_disputed Q X 0 [(9, 0), (0, a1), (15, 0), (1, 0)] [] w := by
  unfold wp_L_disputed at h
  refine pv_aload_n (n := 1) d_L_disputed_0 rfl rfl rfl ?_
  refine pv_iconst (v := 0) (n := 2) d_L_disputed_1 (by decide) rfl ?_
  refine pv_aload_n (n := 3) d_L_disputed_2 rfl rfl rfl ?_
  refine pv_iload_n (n := 4) d_L_disputed_3 rfl rfl rfl ?_
  refine pv_callV (n := 7) (x := 0) [(0, a1)] [(0, 0), (15, 0)] (con_X_disputed hl0 h) pw_cf7 rfl q_759 q_760 q_761 q_62 q_758 pyo_X_disputed (by decide) rfl rfl (by decide) d_L_disputed_4 rfl (fun w1 r2 h _ => ?_) (fun wx kx h => ?_)
  · show pw_V l g cx_L_disputed Q X 7 [(9, 0), (0, a1), (15, 0), (1, 0)] [(0, r2), (0, 0), (15, 0)] w1
    refine pv_i2l (n := 8) d_L_disputed_7 rfl ?_
    obtain ⟨g3, h⟩ := h
    refine pv_last1 (n := 9) (f := 13) (by decide) rfl (fun _ => rfl) d_L_disputed_8 (by decide) g3 rfl (fun w4 e5 => ?_)
    replace h := h w4 e5
    refine pv_goto (tgt := 15) d_L_disputed_9 (by decide) ?_
    refine pv_iconst (v := 0) (n := 16) d_L_disputed_15 (by decide) rfl ?_
    exact pv_iret rfl rfl d_L_disputed_16 h
  · rcases h with ⟨rfl, h⟩
    · refine pvx_catch_n (jf := 3) (i := 12) (n := 13) [] ⟨0, 9, 12, 13⟩ [] (L1 := [(9, 0), (0, a1), (15, 0), (1, 0)]) rfl (pw_hp0) (by decide) (by decide) q_661 q_660 rfl d_L_disputed_12 (by decide) rfl rfl ?_
      refine pv_iconst (v := 1) (n := 14) d_L_disputed_13 (by decide) rfl ?_
      exact pv_iret rfl rfl d_L_disputed_14 h
set_option maxHeartbeats 4000000 in
set_option maxRecDepth 20000 in
theorem con_L_disputed {l : Launch} {g : pw_G} {Q : pw_W → Int32 → Prop} {X : pw_W → Nat → Prop} (hl0 : l.stackTraces = false) {w : pw_W} {a1 : Int32} (h : wp_L_disputed w a1 Q X) : pw_ConH l g y_L_disputed cx_L_disputed [(9, 0), (0, a1), (15, 0)] w Q X :=
  pw_conH (by decide +kernel) rfl rfl hl0 (Nat.le_of_ble_eq_true rfl) (by simp) (vw_L_disputed hl0 h)
theorem d_L_caseAt_0 : decode (pw_cc cx_L_caseAt) 0 = .ok (.aload_n 3, 1) := by decide +kernel
theorem d_L_caseAt_1 : decode (pw_cc cx_L_caseAt) 1 = .ok (.iconst 0, 1) := by decide +kernel
theorem d_L_caseAt_2 : decode (pw_cc cx_L_caseAt) 2 = .ok (.aload_n 0, 1) := by decide +kernel
theorem d_L_caseAt_3 : decode (pw_cc cx_L_caseAt) 3 = .ok (.iload_n 1, 1) := by decide +kernel
theorem d_L_caseAt_4 : decode (pw_cc cx_L_caseAt) 4 = .ok (.iload_n 2, 1) := by decide +kernel
theorem d_L_caseAt_5 : decode (pw_cc cx_L_caseAt) 5 = .ok (.invokevirtual 97, 3) := by decide +kernel
theorem d_L_caseAt_8 : decode (pw_cc cx_L_caseAt) 8 = .ok (.i2l, 1) := by decide +kernel
theorem d_L_caseAt_9 : decode (pw_cc cx_L_caseAt) 9 = .ok (.lastore, 1) := by decide +kernel
theorem d_L_caseAt_10 : decode (pw_cc cx_L_caseAt) 10 = .ok (.goto 7, 3) := by decide +kernel
theorem d_L_caseAt_13 : decode (pw_cc cx_L_caseAt) 13 = .ok (.astore 4, 2) := by decide +kernel
theorem d_L_caseAt_15 : decode (pw_cc cx_L_caseAt) 15 = .ok (.iconst 1, 1) := by decide +kernel
theorem d_L_caseAt_16 : decode (pw_cc cx_L_caseAt) 16 = .ok (.ireturn, 1) := by decide +kernel
theorem d_L_caseAt_17 : decode (pw_cc cx_L_caseAt) 17 = .ok (.iconst 0, 1) := by decide +kernel
theorem d_L_caseAt_18 : decode (pw_cc cx_L_caseAt) 18 = .ok (.ireturn, 1) := by decide +kernel
set_option maxHeartbeats 4000000 in
set_option maxRecDepth 20000 in
def wp_L_caseAt (w : pw_W) (a1 a2 : Int32) (Q : pw_W → Int32 → Prop) (X : pw_W → Nat → Prop) : Prop := wp_X_caseAt w a1 a2 (fun w1 r2 => pw_jn 0 (pw_ln w1 13 0) ∧ ∀ w4, w4 = pw_ps w1 13 0 0 r2 → Q w4 0) (fun wx kx => kx = 1 ∧ Q wx 1)
set_option maxHeartbeats 4000000 in
set_option maxRecDepth 20000 in
theorem vw_L_caseAt {l : Launch} {g : pw_G} {Q : pw_W → Int32 → Prop} {X : pw_W → Nat → Prop} (hl0 : l.stackTraces = false) {w : pw_W} {a1 a2 : Int32} (h : wp_L_caseAt w a1 a2 Q X) : pw_V l g cx_L_caseAt Q X 0 [(9, 0), (0, a1), (0, a2), (15, 0), (1, 0)] [] w := by
  unfold wp_L_caseAt at h
  refine pv_aload_n (n := 1) d_L_caseAt_0 rfl rfl rfl ?_
  refine pv_iconst (v := 0) (n := 2) d_L_caseAt_1 (by decide) rfl ?_
  refine pv_aload_n (n := 3) d_L_caseAt_2 rfl rfl rfl ?_
  refine pv_iload_n (n := 4) d_L_caseAt_3 rfl rfl rfl ?_
  refine pv_iload_n (n := 5) d_L_caseAt_4 rfl rfl rfl ?_
  refine pv_callV (n := 8) (x := 0) [(0, a1), (0, a2)] [(0, 0), (15, 0)] (con_X_caseAt hl0 h) pw_cf7 rfl q_763 q_764 q_765 q_62 q_762 pyo_X_caseAt (by decide) rfl rfl (by decide) d_L_caseAt_5 rfl (fun w1 r2 h _ => ?_) (fun wx kx h => ?_)
  · show pw_V l g cx_L_caseAt Q X 8 [(9, 0), (0, a1), (0, a2), (15, 0), (1, 0)] [(0, r2), (0, 0), (15, 0)] w1
    refine pv_i2l (n := 9) d_L_caseAt_8 rfl ?_
    obtain ⟨g3, h⟩ := h
    refine pv_last1 (n := 10) (f := 13) (by decide) rfl (fun _ => rfl) d_L_caseAt_9 (by decide) g3 rfl (fun w4 e5 => ?_)
    replace h := h w4 e5
    refine pv_goto (tgt := 17) d_L_caseAt_10 (by decide) ?_
    refine pv_iconst (v := 0) (n := 18) d_L_caseAt_17 (by decide) rfl ?_
    exact pv_iret rfl rfl d_L_caseAt_18 h
  · rcases h with ⟨rfl, h⟩
    · refine pvx_catch (jf := 4) (i := 13) (n := 15) [] ⟨0, 10, 13, 13⟩ [] (L1 := [(9, 0), (0, a1), (0, a2), (15, 0), (1, 0)]) rfl (pw_hp0) (by decide) (by decide) q_661 q_660 rfl d_L_caseAt_13 (by decide) rfl rfl ?_
      refine pv_iconst (v := 1) (n := 16) d_L_caseAt_15 (by decide) rfl ?_
      exact pv_iret rfl rfl d_L_caseAt_16 h
set_option maxHeartbeats 4000000 in
set_option maxRecDepth 20000 in
theorem con_L_caseAt {l : Launch} {g : pw_G} {Q : pw_W → Int32 → Prop} {X : pw_W → Nat → Prop} (hl0 : l.stackTraces = false) {w : pw_W} {a1 a2 : Int32} (h : wp_L_caseAt w a1 a2 Q X) : pw_ConH l g y_L_caseAt cx_L_caseAt [(9, 0), (0, a1), (0, a2), (15, 0)] w Q X :=
  pw_conH (by decide +kernel) rfl rfl hl0 (Nat.le_of_ble_eq_true rfl) (by simp) (vw_L_caseAt hl0 h)
theorem d_L_rightAt_0 : decode (pw_cc cx_L_rightAt) 0 = .ok (.aload_n 3, 1) := by decide +kernel
theorem d_L_rightAt_1 : decode (pw_cc cx_L_rightAt) 1 = .ok (.iconst 0, 1) := by decide +kernel
theorem d_L_rightAt_2 : decode (pw_cc cx_L_rightAt) 2 = .ok (.aload_n 0, 1) := by decide +kernel
theorem d_L_rightAt_3 : decode (pw_cc cx_L_rightAt) 3 = .ok (.iload_n 1, 1) := by decide +kernel
theorem d_L_rightAt_4 : decode (pw_cc cx_L_rightAt) 4 = .ok (.iload_n 2, 1) := by decide +kernel
theorem d_L_rightAt_5 : decode (pw_cc cx_L_rightAt) 5 = .ok (.invokevirtual 100, 3) := by decide +kernel
theorem d_L_rightAt_8 : decode (pw_cc cx_L_rightAt) 8 = .ok (.i2l, 1) := by decide +kernel
theorem d_L_rightAt_9 : decode (pw_cc cx_L_rightAt) 9 = .ok (.lastore, 1) := by decide +kernel
theorem d_L_rightAt_10 : decode (pw_cc cx_L_rightAt) 10 = .ok (.goto 7, 3) := by decide +kernel
theorem d_L_rightAt_13 : decode (pw_cc cx_L_rightAt) 13 = .ok (.astore 4, 2) := by decide +kernel
theorem d_L_rightAt_15 : decode (pw_cc cx_L_rightAt) 15 = .ok (.iconst 1, 1) := by decide +kernel
theorem d_L_rightAt_16 : decode (pw_cc cx_L_rightAt) 16 = .ok (.ireturn, 1) := by decide +kernel
theorem d_L_rightAt_17 : decode (pw_cc cx_L_rightAt) 17 = .ok (.iconst 0, 1) := by decide +kernel
theorem d_L_rightAt_18 : decode (pw_cc cx_L_rightAt) 18 = .ok (.ireturn, 1) := by decide +kernel
set_option maxHeartbeats 4000000 in
set_option maxRecDepth 20000 in
def wp_L_rightAt (w : pw_W) (a1 a2 : Int32) (Q : pw_W → Int32 → Prop) (X : pw_W → Nat → Prop) : Prop := wp_X_rightAt w a1 a2 (fun w1 r2 => pw_jn 0 (pw_ln w1 13 0) ∧ ∀ w4, w4 = pw_ps w1 13 0 0 r2 → Q w4 0) (fun wx kx => kx = 1 ∧ Q wx 1)
set_option maxHeartbeats 4000000 in
set_option maxRecDepth 20000 in
theorem vw_L_rightAt {l : Launch} {g : pw_G} {Q : pw_W → Int32 → Prop} {X : pw_W → Nat → Prop} (hl0 : l.stackTraces = false) {w : pw_W} {a1 a2 : Int32} (h : wp_L_rightAt w a1 a2 Q X) : pw_V l g cx_L_rightAt Q X 0 [(9, 0), (0, a1), (0, a2), (15, 0), (1, 0)] [] w := by
  unfold wp_L_rightAt at h
  refine pv_aload_n (n := 1) d_L_rightAt_0 rfl rfl rfl ?_
  refine pv_iconst (v := 0) (n := 2) d_L_rightAt_1 (by decide) rfl ?_
  refine pv_aload_n (n := 3) d_L_rightAt_2 rfl rfl rfl ?_
  refine pv_iload_n (n := 4) d_L_rightAt_3 rfl rfl rfl ?_
  refine pv_iload_n (n := 5) d_L_rightAt_4 rfl rfl rfl ?_
  refine pv_callV (n := 8) (x := 0) [(0, a1), (0, a2)] [(0, 0), (15, 0)] (con_X_rightAt hl0 h) pw_cf7 rfl q_767 q_768 q_769 q_62 q_766 pyo_X_rightAt (by decide) rfl rfl (by decide) d_L_rightAt_5 rfl (fun w1 r2 h _ => ?_) (fun wx kx h => ?_)
  · show pw_V l g cx_L_rightAt Q X 8 [(9, 0), (0, a1), (0, a2), (15, 0), (1, 0)] [(0, r2), (0, 0), (15, 0)] w1
    refine pv_i2l (n := 9) d_L_rightAt_8 rfl ?_
    obtain ⟨g3, h⟩ := h
    refine pv_last1 (n := 10) (f := 13) (by decide) rfl (fun _ => rfl) d_L_rightAt_9 (by decide) g3 rfl (fun w4 e5 => ?_)
    replace h := h w4 e5
    refine pv_goto (tgt := 17) d_L_rightAt_10 (by decide) ?_
    refine pv_iconst (v := 0) (n := 18) d_L_rightAt_17 (by decide) rfl ?_
    exact pv_iret rfl rfl d_L_rightAt_18 h
  · rcases h with ⟨rfl, h⟩
    · refine pvx_catch (jf := 4) (i := 13) (n := 15) [] ⟨0, 10, 13, 13⟩ [] (L1 := [(9, 0), (0, a1), (0, a2), (15, 0), (1, 0)]) rfl (pw_hp0) (by decide) (by decide) q_661 q_660 rfl d_L_rightAt_13 (by decide) rfl rfl ?_
      refine pv_iconst (v := 1) (n := 16) d_L_rightAt_15 (by decide) rfl ?_
      exact pv_iret rfl rfl d_L_rightAt_16 h
set_option maxHeartbeats 4000000 in
set_option maxRecDepth 20000 in
theorem con_L_rightAt {l : Launch} {g : pw_G} {Q : pw_W → Int32 → Prop} {X : pw_W → Nat → Prop} (hl0 : l.stackTraces = false) {w : pw_W} {a1 a2 : Int32} (h : wp_L_rightAt w a1 a2 Q X) : pw_ConH l g y_L_rightAt cx_L_rightAt [(9, 0), (0, a1), (0, a2), (15, 0)] w Q X :=
  pw_conH (by decide +kernel) rfl rfl hl0 (Nat.le_of_ble_eq_true rfl) (by simp) (vw_L_rightAt hl0 h)
theorem d_L_square_0 : decode (pw_cc cx_L_square) 0 = .ok (.aload_n 3, 1) := by decide +kernel
theorem d_L_square_1 : decode (pw_cc cx_L_square) 1 = .ok (.iconst 0, 1) := by decide +kernel
theorem d_L_square_2 : decode (pw_cc cx_L_square) 2 = .ok (.aload_n 0, 1) := by decide +kernel
theorem d_L_square_3 : decode (pw_cc cx_L_square) 3 = .ok (.iload_n 1, 1) := by decide +kernel
theorem d_L_square_4 : decode (pw_cc cx_L_square) 4 = .ok (.iload_n 2, 1) := by decide +kernel
theorem d_L_square_5 : decode (pw_cc cx_L_square) 5 = .ok (.invokevirtual 103, 3) := by decide +kernel
theorem d_L_square_8 : decode (pw_cc cx_L_square) 8 = .ok (.i2l, 1) := by decide +kernel
theorem d_L_square_9 : decode (pw_cc cx_L_square) 9 = .ok (.lastore, 1) := by decide +kernel
theorem d_L_square_10 : decode (pw_cc cx_L_square) 10 = .ok (.goto 7, 3) := by decide +kernel
theorem d_L_square_13 : decode (pw_cc cx_L_square) 13 = .ok (.astore 4, 2) := by decide +kernel
theorem d_L_square_15 : decode (pw_cc cx_L_square) 15 = .ok (.iconst 1, 1) := by decide +kernel
theorem d_L_square_16 : decode (pw_cc cx_L_square) 16 = .ok (.ireturn, 1) := by decide +kernel
theorem d_L_square_17 : decode (pw_cc cx_L_square) 17 = .ok (.iconst 0, 1) := by decide +kernel
theorem d_L_square_18 : decode (pw_cc cx_L_square) 18 = .ok (.ireturn, 1) := by decide +kernel
set_option maxHeartbeats 4000000 in
set_option maxRecDepth 20000 in
def wp_L_square (w : pw_W) (a1 a2 : Int32) (Q : pw_W → Int32 → Prop) (X : pw_W → Nat → Prop) : Prop := wp_X_square w a1 a2 (fun w1 r2 => pw_jn 0 (pw_ln w1 13 0) ∧ ∀ w4, w4 = pw_ps w1 13 0 0 r2 → Q w4 0) (fun wx kx => kx = 1 ∧ Q wx 1)
set_option maxHeartbeats 4000000 in
set_option maxRecDepth 20000 in
theorem vw_L_square {l : Launch} {g : pw_G} {Q : pw_W → Int32 → Prop} {X : pw_W → Nat → Prop} (hl0 : l.stackTraces = false) {w : pw_W} {a1 a2 : Int32} (h : wp_L_square w a1 a2 Q X) : pw_V l g cx_L_square Q X 0 [(9, 0), (0, a1), (0, a2), (15, 0), (1, 0)] [] w := by
  unfold wp_L_square at h
  refine pv_aload_n (n := 1) d_L_square_0 rfl rfl rfl ?_
  refine pv_iconst (v := 0) (n := 2) d_L_square_1 (by decide) rfl ?_
  refine pv_aload_n (n := 3) d_L_square_2 rfl rfl rfl ?_
  refine pv_iload_n (n := 4) d_L_square_3 rfl rfl rfl ?_
  refine pv_iload_n (n := 5) d_L_square_4 rfl rfl rfl ?_
  refine pv_callV (n := 8) (x := 0) [(0, a1), (0, a2)] [(0, 0), (15, 0)] (con_X_square hl0 h) pw_cf7 rfl q_771 q_772 q_773 q_62 q_770 pyo_X_square (by decide) rfl rfl (by decide) d_L_square_5 rfl (fun w1 r2 h _ => ?_) (fun wx kx h => ?_)
  · show pw_V l g cx_L_square Q X 8 [(9, 0), (0, a1), (0, a2), (15, 0), (1, 0)] [(0, r2), (0, 0), (15, 0)] w1
    refine pv_i2l (n := 9) d_L_square_8 rfl ?_
    obtain ⟨g3, h⟩ := h
    refine pv_last1 (n := 10) (f := 13) (by decide) rfl (fun _ => rfl) d_L_square_9 (by decide) g3 rfl (fun w4 e5 => ?_)
    replace h := h w4 e5
    refine pv_goto (tgt := 17) d_L_square_10 (by decide) ?_
    refine pv_iconst (v := 0) (n := 18) d_L_square_17 (by decide) rfl ?_
    exact pv_iret rfl rfl d_L_square_18 h
  · rcases h with ⟨rfl, h⟩
    · refine pvx_catch (jf := 4) (i := 13) (n := 15) [] ⟨0, 10, 13, 13⟩ [] (L1 := [(9, 0), (0, a1), (0, a2), (15, 0), (1, 0)]) rfl (pw_hp0) (by decide) (by decide) q_661 q_660 rfl d_L_square_13 (by decide) rfl rfl ?_
      refine pv_iconst (v := 1) (n := 16) d_L_square_15 (by decide) rfl ?_
      exact pv_iret rfl rfl d_L_square_16 h
set_option maxHeartbeats 4000000 in
set_option maxRecDepth 20000 in
theorem con_L_square {l : Launch} {g : pw_G} {Q : pw_W → Int32 → Prop} {X : pw_W → Nat → Prop} (hl0 : l.stackTraces = false) {w : pw_W} {a1 a2 : Int32} (h : wp_L_square w a1 a2 Q X) : pw_ConH l g y_L_square cx_L_square [(9, 0), (0, a1), (0, a2), (15, 0)] w Q X :=
  pw_conH (by decide +kernel) rfl rfl hl0 (Nat.le_of_ble_eq_true rfl) (by simp) (vw_L_square hl0 h)
theorem d_L_water_0 : decode (pw_cc cx_L_water) 0 = .ok (.aload_n 2, 1) := by decide +kernel
theorem d_L_water_1 : decode (pw_cc cx_L_water) 1 = .ok (.iconst 0, 1) := by decide +kernel
theorem d_L_water_2 : decode (pw_cc cx_L_water) 2 = .ok (.aload_n 0, 1) := by decide +kernel
theorem d_L_water_3 : decode (pw_cc cx_L_water) 3 = .ok (.iload_n 1, 1) := by decide +kernel
theorem d_L_water_4 : decode (pw_cc cx_L_water) 4 = .ok (.invokevirtual 106, 3) := by decide +kernel
theorem d_L_water_7 : decode (pw_cc cx_L_water) 7 = .ok (.i2l, 1) := by decide +kernel
theorem d_L_water_8 : decode (pw_cc cx_L_water) 8 = .ok (.lastore, 1) := by decide +kernel
theorem d_L_water_9 : decode (pw_cc cx_L_water) 9 = .ok (.goto 6, 3) := by decide +kernel
theorem d_L_water_12 : decode (pw_cc cx_L_water) 12 = .ok (.astore_n 3, 1) := by decide +kernel
theorem d_L_water_13 : decode (pw_cc cx_L_water) 13 = .ok (.iconst 1, 1) := by decide +kernel
theorem d_L_water_14 : decode (pw_cc cx_L_water) 14 = .ok (.ireturn, 1) := by decide +kernel
theorem d_L_water_15 : decode (pw_cc cx_L_water) 15 = .ok (.iconst 0, 1) := by decide +kernel
theorem d_L_water_16 : decode (pw_cc cx_L_water) 16 = .ok (.ireturn, 1) := by decide +kernel
set_option maxHeartbeats 4000000 in
set_option maxRecDepth 20000 in
def wp_L_water (w : pw_W) (a1 : Int32) (Q : pw_W → Int32 → Prop) (X : pw_W → Nat → Prop) : Prop := wp_X_water w a1 (fun w1 r2 => pw_jn 0 (pw_ln w1 13 0) ∧ ∀ w4, w4 = pw_ps w1 13 0 0 r2 → Q w4 0) (fun wx kx => kx = 1 ∧ Q wx 1)
set_option maxHeartbeats 4000000 in
set_option maxRecDepth 20000 in
theorem vw_L_water {l : Launch} {g : pw_G} {Q : pw_W → Int32 → Prop} {X : pw_W → Nat → Prop} (hl0 : l.stackTraces = false) {w : pw_W} {a1 : Int32} (h : wp_L_water w a1 Q X) : pw_V l g cx_L_water Q X 0 [(9, 0), (0, a1), (15, 0), (1, 0)] [] w := by
  unfold wp_L_water at h
  refine pv_aload_n (n := 1) d_L_water_0 rfl rfl rfl ?_
  refine pv_iconst (v := 0) (n := 2) d_L_water_1 (by decide) rfl ?_
  refine pv_aload_n (n := 3) d_L_water_2 rfl rfl rfl ?_
  refine pv_iload_n (n := 4) d_L_water_3 rfl rfl rfl ?_
  refine pv_callV (n := 7) (x := 0) [(0, a1)] [(0, 0), (15, 0)] (con_X_water hl0 h) pw_cf7 rfl q_775 q_776 q_777 q_62 q_774 pyo_X_water (by decide) rfl rfl (by decide) d_L_water_4 rfl (fun w1 r2 h _ => ?_) (fun wx kx h => ?_)
  · show pw_V l g cx_L_water Q X 7 [(9, 0), (0, a1), (15, 0), (1, 0)] [(0, r2), (0, 0), (15, 0)] w1
    refine pv_i2l (n := 8) d_L_water_7 rfl ?_
    obtain ⟨g3, h⟩ := h
    refine pv_last1 (n := 9) (f := 13) (by decide) rfl (fun _ => rfl) d_L_water_8 (by decide) g3 rfl (fun w4 e5 => ?_)
    replace h := h w4 e5
    refine pv_goto (tgt := 15) d_L_water_9 (by decide) ?_
    refine pv_iconst (v := 0) (n := 16) d_L_water_15 (by decide) rfl ?_
    exact pv_iret rfl rfl d_L_water_16 h
  · rcases h with ⟨rfl, h⟩
    · refine pvx_catch_n (jf := 3) (i := 12) (n := 13) [] ⟨0, 9, 12, 13⟩ [] (L1 := [(9, 0), (0, a1), (15, 0), (1, 0)]) rfl (pw_hp0) (by decide) (by decide) q_661 q_660 rfl d_L_water_12 (by decide) rfl rfl ?_
      refine pv_iconst (v := 1) (n := 14) d_L_water_13 (by decide) rfl ?_
      exact pv_iret rfl rfl d_L_water_14 h
set_option maxHeartbeats 4000000 in
set_option maxRecDepth 20000 in
theorem con_L_water {l : Launch} {g : pw_G} {Q : pw_W → Int32 → Prop} {X : pw_W → Nat → Prop} (hl0 : l.stackTraces = false) {w : pw_W} {a1 : Int32} (h : wp_L_water w a1 Q X) : pw_ConH l g y_L_water cx_L_water [(9, 0), (0, a1), (15, 0)] w Q X :=
  pw_conH (by decide +kernel) rfl rfl hl0 (Nat.le_of_ble_eq_true rfl) (by simp) (vw_L_water hl0 h)
theorem d_L_paid_0 : decode (pw_cc cx_L_paid) 0 = .ok (.aload_n 2, 1) := by decide +kernel
theorem d_L_paid_1 : decode (pw_cc cx_L_paid) 1 = .ok (.iconst 0, 1) := by decide +kernel
theorem d_L_paid_2 : decode (pw_cc cx_L_paid) 2 = .ok (.aload_n 0, 1) := by decide +kernel
theorem d_L_paid_3 : decode (pw_cc cx_L_paid) 3 = .ok (.iload_n 1, 1) := by decide +kernel
theorem d_L_paid_4 : decode (pw_cc cx_L_paid) 4 = .ok (.invokevirtual 109, 3) := by decide +kernel
theorem d_L_paid_7 : decode (pw_cc cx_L_paid) 7 = .ok (.i2l, 1) := by decide +kernel
theorem d_L_paid_8 : decode (pw_cc cx_L_paid) 8 = .ok (.lastore, 1) := by decide +kernel
theorem d_L_paid_9 : decode (pw_cc cx_L_paid) 9 = .ok (.goto 6, 3) := by decide +kernel
theorem d_L_paid_12 : decode (pw_cc cx_L_paid) 12 = .ok (.astore_n 3, 1) := by decide +kernel
theorem d_L_paid_13 : decode (pw_cc cx_L_paid) 13 = .ok (.iconst 1, 1) := by decide +kernel
theorem d_L_paid_14 : decode (pw_cc cx_L_paid) 14 = .ok (.ireturn, 1) := by decide +kernel
theorem d_L_paid_15 : decode (pw_cc cx_L_paid) 15 = .ok (.iconst 0, 1) := by decide +kernel
theorem d_L_paid_16 : decode (pw_cc cx_L_paid) 16 = .ok (.ireturn, 1) := by decide +kernel
set_option maxHeartbeats 4000000 in
set_option maxRecDepth 20000 in
def wp_L_paid (w : pw_W) (a1 : Int32) (Q : pw_W → Int32 → Prop) (X : pw_W → Nat → Prop) : Prop := wp_X_paid w a1 (fun w1 r2 => pw_jn 0 (pw_ln w1 13 0) ∧ ∀ w4, w4 = pw_ps w1 13 0 0 r2 → Q w4 0) (fun wx kx => kx = 1 ∧ Q wx 1)
set_option maxHeartbeats 4000000 in
set_option maxRecDepth 20000 in
theorem vw_L_paid {l : Launch} {g : pw_G} {Q : pw_W → Int32 → Prop} {X : pw_W → Nat → Prop} (hl0 : l.stackTraces = false) {w : pw_W} {a1 : Int32} (h : wp_L_paid w a1 Q X) : pw_V l g cx_L_paid Q X 0 [(9, 0), (0, a1), (15, 0), (1, 0)] [] w := by
  unfold wp_L_paid at h
  refine pv_aload_n (n := 1) d_L_paid_0 rfl rfl rfl ?_
  refine pv_iconst (v := 0) (n := 2) d_L_paid_1 (by decide) rfl ?_
  refine pv_aload_n (n := 3) d_L_paid_2 rfl rfl rfl ?_
  refine pv_iload_n (n := 4) d_L_paid_3 rfl rfl rfl ?_
  refine pv_callV (n := 7) (x := 0) [(0, a1)] [(0, 0), (15, 0)] (con_X_paid hl0 h) pw_cf7 rfl q_779 q_780 q_781 q_62 q_778 pyo_X_paid (by decide) rfl rfl (by decide) d_L_paid_4 rfl (fun w1 r2 h _ => ?_) (fun wx kx h => ?_)
  · show pw_V l g cx_L_paid Q X 7 [(9, 0), (0, a1), (15, 0), (1, 0)] [(0, r2), (0, 0), (15, 0)] w1
    refine pv_i2l (n := 8) d_L_paid_7 rfl ?_
    obtain ⟨g3, h⟩ := h
    refine pv_last1 (n := 9) (f := 13) (by decide) rfl (fun _ => rfl) d_L_paid_8 (by decide) g3 rfl (fun w4 e5 => ?_)
    replace h := h w4 e5
    refine pv_goto (tgt := 15) d_L_paid_9 (by decide) ?_
    refine pv_iconst (v := 0) (n := 16) d_L_paid_15 (by decide) rfl ?_
    exact pv_iret rfl rfl d_L_paid_16 h
  · rcases h with ⟨rfl, h⟩
    · refine pvx_catch_n (jf := 3) (i := 12) (n := 13) [] ⟨0, 9, 12, 13⟩ [] (L1 := [(9, 0), (0, a1), (15, 0), (1, 0)]) rfl (pw_hp0) (by decide) (by decide) q_661 q_660 rfl d_L_paid_12 (by decide) rfl rfl ?_
      refine pv_iconst (v := 1) (n := 14) d_L_paid_13 (by decide) rfl ?_
      exact pv_iret rfl rfl d_L_paid_14 h
set_option maxHeartbeats 4000000 in
set_option maxRecDepth 20000 in
theorem con_L_paid {l : Launch} {g : pw_G} {Q : pw_W → Int32 → Prop} {X : pw_W → Nat → Prop} (hl0 : l.stackTraces = false) {w : pw_W} {a1 : Int32} (h : wp_L_paid w a1 Q X) : pw_ConH l g y_L_paid cx_L_paid [(9, 0), (0, a1), (15, 0)] w Q X :=
  pw_conH (by decide +kernel) rfl rfl hl0 (Nat.le_of_ble_eq_true rfl) (by simp) (vw_L_paid hl0 h)
theorem d_L_sheep_0 : decode (pw_cc cx_L_sheep) 0 = .ok (.aload_n 3, 1) := by decide +kernel
theorem d_L_sheep_1 : decode (pw_cc cx_L_sheep) 1 = .ok (.iconst 0, 1) := by decide +kernel
theorem d_L_sheep_2 : decode (pw_cc cx_L_sheep) 2 = .ok (.aload_n 0, 1) := by decide +kernel
theorem d_L_sheep_3 : decode (pw_cc cx_L_sheep) 3 = .ok (.iload_n 1, 1) := by decide +kernel
theorem d_L_sheep_4 : decode (pw_cc cx_L_sheep) 4 = .ok (.iload_n 2, 1) := by decide +kernel
theorem d_L_sheep_5 : decode (pw_cc cx_L_sheep) 5 = .ok (.invokevirtual 112, 3) := by decide +kernel
theorem d_L_sheep_8 : decode (pw_cc cx_L_sheep) 8 = .ok (.i2l, 1) := by decide +kernel
theorem d_L_sheep_9 : decode (pw_cc cx_L_sheep) 9 = .ok (.lastore, 1) := by decide +kernel
theorem d_L_sheep_10 : decode (pw_cc cx_L_sheep) 10 = .ok (.goto 7, 3) := by decide +kernel
theorem d_L_sheep_13 : decode (pw_cc cx_L_sheep) 13 = .ok (.astore 4, 2) := by decide +kernel
theorem d_L_sheep_15 : decode (pw_cc cx_L_sheep) 15 = .ok (.iconst 1, 1) := by decide +kernel
theorem d_L_sheep_16 : decode (pw_cc cx_L_sheep) 16 = .ok (.ireturn, 1) := by decide +kernel
theorem d_L_sheep_17 : decode (pw_cc cx_L_sheep) 17 = .ok (.iconst 0, 1) := by decide +kernel
theorem d_L_sheep_18 : decode (pw_cc cx_L_sheep) 18 = .ok (.ireturn, 1) := by decide +kernel
set_option maxHeartbeats 4000000 in
set_option maxRecDepth 20000 in
def wp_L_sheep (w : pw_W) (a1 a2 : Int32) (Q : pw_W → Int32 → Prop) (X : pw_W → Nat → Prop) : Prop := wp_X_sheep w a1 a2 (fun w1 r2 => pw_jn 0 (pw_ln w1 13 0) ∧ ∀ w4, w4 = pw_ps w1 13 0 0 r2 → Q w4 0) (fun wx kx => kx = 1 ∧ Q wx 1)
set_option maxHeartbeats 4000000 in
set_option maxRecDepth 20000 in
theorem vw_L_sheep {l : Launch} {g : pw_G} {Q : pw_W → Int32 → Prop} {X : pw_W → Nat → Prop} (hl0 : l.stackTraces = false) {w : pw_W} {a1 a2 : Int32} (h : wp_L_sheep w a1 a2 Q X) : pw_V l g cx_L_sheep Q X 0 [(9, 0), (0, a1), (0, a2), (15, 0), (1, 0)] [] w := by
  unfold wp_L_sheep at h
  refine pv_aload_n (n := 1) d_L_sheep_0 rfl rfl rfl ?_
  refine pv_iconst (v := 0) (n := 2) d_L_sheep_1 (by decide) rfl ?_
  refine pv_aload_n (n := 3) d_L_sheep_2 rfl rfl rfl ?_
  refine pv_iload_n (n := 4) d_L_sheep_3 rfl rfl rfl ?_
  refine pv_iload_n (n := 5) d_L_sheep_4 rfl rfl rfl ?_
  refine pv_callV (n := 8) (x := 0) [(0, a1), (0, a2)] [(0, 0), (15, 0)] (con_X_sheep hl0 h) pw_cf7 rfl q_783 q_784 q_785 q_62 q_782 pyo_X_sheep (by decide) rfl rfl (by decide) d_L_sheep_5 rfl (fun w1 r2 h _ => ?_) (fun wx kx h => ?_)
  · show pw_V l g cx_L_sheep Q X 8 [(9, 0), (0, a1), (0, a2), (15, 0), (1, 0)] [(0, r2), (0, 0), (15, 0)] w1
    refine pv_i2l (n := 9) d_L_sheep_8 rfl ?_
    obtain ⟨g3, h⟩ := h
    refine pv_last1 (n := 10) (f := 13) (by decide) rfl (fun _ => rfl) d_L_sheep_9 (by decide) g3 rfl (fun w4 e5 => ?_)
    replace h := h w4 e5
    refine pv_goto (tgt := 17) d_L_sheep_10 (by decide) ?_
    refine pv_iconst (v := 0) (n := 18) d_L_sheep_17 (by decide) rfl ?_
    exact pv_iret rfl rfl d_L_sheep_18 h
  · rcases h with ⟨rfl, h⟩
    · refine pvx_catch (jf := 4) (i := 13) (n := 15) [] ⟨0, 10, 13, 13⟩ [] (L1 := [(9, 0), (0, a1), (0, a2), (15, 0), (1, 0)]) rfl (pw_hp0) (by decide) (by decide) q_661 q_660 rfl d_L_sheep_13 (by decide) rfl rfl ?_
      refine pv_iconst (v := 1) (n := 16) d_L_sheep_15 (by decide) rfl ?_
      exact pv_iret rfl rfl d_L_sheep_16 h
set_option maxHeartbeats 4000000 in
set_option maxRecDepth 20000 in
theorem con_L_sheep {l : Launch} {g : pw_G} {Q : pw_W → Int32 → Prop} {X : pw_W → Nat → Prop} (hl0 : l.stackTraces = false) {w : pw_W} {a1 a2 : Int32} (h : wp_L_sheep w a1 a2 Q X) : pw_ConH l g y_L_sheep cx_L_sheep [(9, 0), (0, a1), (0, a2), (15, 0)] w Q X :=
  pw_conH (by decide +kernel) rfl rfl hl0 (Nat.le_of_ble_eq_true rfl) (by simp) (vw_L_sheep hl0 h)
