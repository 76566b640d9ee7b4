/-! public methods: release, graze, survey, drains, heirs, cut, burn -/
section PZOB
variable {sc : pz_S} {sq : pz_Q} {pa : pz_P} {ri : pz_N} {mp : pz_N} {ca : pz_P} {dr : pz_N} {pe : pz_Q} {U V : Nat} {w0 w w1 w2 : pw_W} {K : pw_W → Int32 → Prop} {X : pw_W → Nat → Prop} {x y z t : Int32} {i s r j n p q a b k k' : Nat} {c d e v v' : Int32}
theorem pi_release (I : pz_I sc sq pa ri mp ca dr pe) (c1 : pw_jn x ri.1) : pz_I sc sq pa (ri.1, pz_u ri.2 25 (pw_i x) 1) mp ca dr pe := by
  refine ⟨I.1, I.2.1, I.2.2.1, ⟨I.gr.1, I.gr.2.1, fun m m' hm hm' a1 a2 a3 a4 a5 => ?_, fun m => ?_⟩, I.2.2.2.2⟩
  · have a1 : (pz_u ri.2 25 (pw_i x) 1) 25 m = 0 := a1
    have a2 : (pz_u ri.2 25 (pw_i x) 1) 25 m' = 0 := a2
    by_cases q : m = pw_i x
    · rw [q, pz_us] at a1; exact absurd a1 (by decide)
    · by_cases q' : m' = pw_i x
      · rw [q', pz_us] at a2; exact absurd a2 (by decide)
      · rw [pz_un q] at a1
        rw [pz_un q'] at a2
        exact I.gr.2.2.1 m m' hm hm' a1 a2 a3 a4 a5
  · rw [show ((ri.1, pz_u ri.2 25 (pw_i x) 1) : pz_N).2 25 m = (pz_u ri.2 25 (pw_i x) 1) 25 m from rfl]
    by_cases q : m = pw_i x
    · rw [q, pz_us]; exact Or.inr rfl
    · rw [pz_un q]; exact I.gr.2.2.2 m
theorem cp_graze (h : pz_c sc sq pa ri mp ca dr pe U V w0 w) (I : pz_I sc sq pa ri mp ca dr pe) (hU : U ≤ 190000) (hV : V ≤ 3900000) (k0 : (pw_jn x 12 ∧ pw_jn y pa.1) → (pz_in z 0 400) → (z ≤ pz_wr ri sq x (pz_ro pa y)) → ∀ w1, pz_c sc sq (pa.1, pa.2.1, pz_u pa.2.2 (pw_i (pz_ro pa y)) (pw_i x) z) ri mp ca dr pe (U + 0) (V + 0) w0 w1 → K w1 (pa.2.2 (pw_i (pz_ro pa y)) (pw_i x))) (k1 : ¬ (pw_jn x 12 ∧ pw_jn y pa.1) → ∀ w1, pz_c sc sq pa ri mp ca dr pe (U + 1) (V + 6) w0 w1 → X w1 1) (k2 : (pw_jn x 12 ∧ pw_jn y pa.1) → ¬ (pz_in z 0 400) → ∀ w1, pz_c sc sq pa ri mp ca dr pe (U + 1) (V + 6) w0 w1 → X w1 2) (k3 : (pw_jn x 12 ∧ pw_jn y pa.1) → (pz_in z 0 400) → ¬ (z ≤ pz_wr ri sq x (pz_ro pa y)) → ∀ w1, pz_c sc sq pa ri mp ca dr pe (U + 1) (V + 6) w0 w1 → X w1 3) : wp_X_graze w x y z K X := by
  unfold wp_X_graze jp_X_graze_42
  have hr80 := I.gr.1
  rw [cv_personNumbered h]
  refine ⟨fun a1 => ?_, fun a1 => cu_thr h (by omega) (by omega) (pz_hL I) I.gr.1 (k1 fun z => a1 z.1)⟩
  rw [cv_parcelNumbered h I.gp.2.1 I.gp.1.2]
  refine ⟨fun a2 => ?_, fun a2 => cu_thr h (by omega) (by omega) (pz_hL I) I.gr.1 (k1 fun z => a2 z.2)⟩
  rw [cv_isInRange, cv_checkArgument]
  refine ⟨fun c2 => ?_, fun c2 => cu_thr h (by omega) (by omega) (pz_hL I) I.gr.1 (k2 ⟨a1, a2⟩ c2)⟩
  rw [cv_worthOfRights h I.gr.2.1 hr80]
  have e := pz_roj I a2
  refine ⟨fun c3 => ?_, fun c3 => ?_⟩
  · rw [cv_checkState0]
    exact cu_thr h (by omega) (by omega) (pz_hL I) I.gr.1 (k3 ⟨a1, a2⟩ c2 fun z => absurd z (Int32.not_le.mpr c3))
  · rw [cv_checkState1]
    have k9 := k0 ⟨a1, a2⟩ c2 (Int32.not_lt.mp c3)
    rw [pz_k40 h _ a1.2, cv_sheepOf h e I.gp.1.2 a1.2]
    refine ⟨a1.1, e.1, ?_⟩
    rw [pz_k40 h _ a1.2]
    exact cu_setSheep h e I.gp.1.2 a1.2 k9
theorem pi_graze (I : pz_I sc sq pa ri mp ca dr pe) (c1 : pw_jn x 12 ∧ pw_jn y pa.1) (c2 : pz_in z 0 400) (c3 : z ≤ pz_wr ri sq x (pz_ro pa y)) : pz_I sc sq (pa.1, pa.2.1, pz_u pa.2.2 (pw_i (pz_ro pa y)) (pw_i x) z) ri mp ca dr pe := by
  refine ⟨I.1, I.2.1, ⟨I.gp.1, I.gp.2.1, I.gp.2.2.1, fun m g hm hg => ?_⟩, I.2.2.2.1, I.2.2.2.2⟩
  have hm : pa.1 ≤ m := hm
  show (pz_u pa.2.2 (pw_i (pz_ro pa y)) (pw_i x) z) m g = 0
  have := (pz_roj I c1.2).2
  rw [pz_uk (by omega)]
  exact I.gp.2.2.2 m g hm hg
theorem cp_survey (h : pz_c sc sq pa ri mp ca dr pe U V w0 w) (I : pz_I sc sq pa ri mp ca dr pe) (hU : U ≤ 190000) (hV : V ≤ 3900000) (k0 : (pz_as x y z) → (pz_fd y z) → (pe.1 42 (pw_i x) = 0 ∧ mp.1 < 12) → ∀ w1, pz_c sc sq pa ri (mp.1 + 1, pz_u (pz_u (pz_u mp.2 27 mp.1 x) 28 mp.1 y) 29 mp.1 z) ca dr pe (U + 2) (V + 123) w0 w1 → K w1 (nI (mp.1 + 1))) (k1 : ¬ (pz_as x y z) → ∀ w1, pz_c sc sq pa ri mp ca dr pe (U + 2) (V + 123) w0 w1 → X w1 1) (k2 : (pz_as x y z) → ¬ (pz_fd y z) → ∀ w1, pz_c sc sq pa ri mp ca dr pe (U + 2) (V + 123) w0 w1 → X w1 2) (k3 : (pz_as x y z) → (pz_fd y z) → ¬ (pe.1 42 (pw_i x) = 0 ∧ mp.1 < 12) → ∀ w1, pz_c sc sq pa ri mp ca dr pe (U + 2) (V + 123) w0 w1 → X w1 3) : wp_X_survey w x y z K X := by
  unfold wp_X_survey jp_X_survey_44 wp_FieldMap_init
  have hm12 : mp.1 ≤ 12 := I.gm
  rw [cv_personNumbered h]
  refine ⟨fun a1 => ?_, fun a1 => cu_thr (X := X) (n := 1) h (by omega) (by omega) (pz_hL I) I.gr.1 (fun w1 h1 => k1 (fun z => a1 z.1) w1 (h1.up (by omega) (by omega)))⟩
  rw [cv_checkSquares]
  refine ⟨fun a2 => ?_, fun a2 => cu_thr (X := X) (n := 1) h (by omega) (by omega) (pz_hL I) I.gr.1 (fun w1 h1 => k1 (fun z => a2 z.2) w1 (h1.up (by omega) (by omega)))⟩
  have c1 : pz_as x y z := ⟨a1, a2⟩
  rw [cv_checkField]
  refine ⟨fun c2 => ⟨a1.1, ?_⟩, fun c2 => cu_thr (X := X) (n := 2) h (by omega) (by omega) (pz_hL I) I.gr.1 (fun w1 h1 => k2 c1 c2 w1 (h1.up (by omega) (by omega)))⟩
  rw [pz_k42 h _ a1.2, cv_checkState]
  refine ⟨fun b1 => ?_, fun b1 => cu_thr (X := X) (n := 3) h (by omega) (by omega) (pz_hL I) I.gr.1 (fun w1 h1 => k3 c1 c2 (fun z => b1 z.1) w1 (h1.up (by omega) (by omega)))⟩
  have ru := pz_kru h
  have rv := pz_krv h
  have rn := pz_knv h 2
  have hL := pz_hL I
  have hr := I.gr.1
  have e7 : w.1 7 0 3 = 0 := (pz_csc.of h).2.2.2.1
  have el : pw_ln w 22 0 = mp.1 := (pz_cmp.of h).1
  (try simp (disch := omega) only [pz_ce h, pz_k14 h, pz_k60 h, pz_k23 h, pz_k30 h, pz_k31 h, pz_k34 h, pz_k35 h, pz_kl11 h, pz_k11 h, pz_k15 h, pz_k40 h, pz_k41 h, pz_k42 h, pz_k25 h, pz_km0 h, pz_km1 h, pz_km2 h, pz_kc0 h, pz_kc1 h, pz_kc2 h, pz_kc3 h, pz_kc4 h, pz_kc6 h, pz_kc7 h, pz_kl12 h, pz_k12 h, pz_kd0 h, pz_kd1 h, forall_eq, true_and, and_true, true_imp_iff, forall_const, not_true_eq_false, not_false_eq_true, false_imp_iff, implies_true, eq_self, pz_i, pz_s1, pz_p1, pz_jnt, pz_b0, pz_b1, pz_em, pz_nnt, pz_nm1, pz_10, pz_20, pz_30, Classical.not_not, cv_checkState0, cv_checkState1, pz_l12, pz_le])
  refine ⟨fun b2 => cu_thr (X := X) (n := 3) h (by omega) (by omega) (pz_hL I) I.gr.1 (fun w1 h1 => k3 c1 c2 (fun z => by have := z.2; omega) w1 (h1.up (by omega) (by omega))), fun b2 => ?_⟩
  have k9 := k0 c1 c2 ⟨b1, by omega⟩
  refine ⟨⟨by omega, by omega, by omega⟩, pz_lg (by show pw_ln w 22 0 ≤ 80; omega) (by show w.2.2.1 + 1 + 1 ≤ _; omega) (by show w.2.2.2 + 3 + 120 ≤ _; omega), e7, ?_⟩
  rw [show ∀ w' : pw_W, ∀ u, pw_ln (pw_la w' 22 0 u) 22 0 = pw_ln w' 22 0 + 1 from fun _ _ => pz_lals]
  show K _ (nI (pw_ln w 22 0 + 1))
  rw [el]
  exact k9 _ (csma h (a := x) (b := y) (c := z) (by omega) (by omega))
theorem pi_survey (I : pz_I sc sq pa ri mp ca dr pe) (c1 : pz_as x y z) (c2 : pz_fd y z) (c3 : pe.1 42 (pw_i x) = 0 ∧ mp.1 < 12) : pz_I sc sq pa ri (mp.1 + 1, pz_u (pz_u (pz_u mp.2 27 mp.1 x) 28 mp.1 y) 29 mp.1 z) ca dr pe := ⟨I.1, I.2.1, I.2.2.1, I.2.2.2.1, (by show mp.1 + 1 ≤ 12; have := c3.2; omega), I.2.2.2.2.2⟩
end PZOB
