/-! public methods: release, graze, survey, drains, heirs, cut, burn -/
section PZOB
variable {sc : pz_S} {sq : pz_Q} {pa : pz_P} {ri : pz_N} {mp : pz_N} {ca : pz_P} {dr : pz_N} {pe : pz_Q} {U V : Nat} {w0 w w1 w2 : pw_W} {K : pw_W → Int32 → Prop} {X : pw_W → Nat → Prop} {x y z t : Int32} {i s r j n p q a b k k' : Nat} {c d e v v' : Int32}
theorem mp_release (h : pz_m sc sq pa ri mp ca dr pe w0 w) (I : pz_I sc sq pa ri mp ca dr pe) (k0 : (pw_jn x ri.1) → ∀ w1, pz_m (pz_u1 sc 0 0) sq pa (ri.1, pz_u ri.2 25 (pw_i x) 1) mp ca dr pe w0 w1 → K w1 (pz_b (ri.2 25 (pw_i x) = 0))) (k1 : ¬ (pw_jn x ri.1) → ∀ w1, pz_m (pz_u1 sc 0 1) sq pa ri mp ca dr pe w0 w1 → K w1 0) : wp_M_release w x K X := by
  unfold wp_M_release jp_M_release_20 jp_M_release_42
  have hr80 := I.gr.1
  have h0 := pz_ms0 h (v := 0)
  have h1 := pz_ms0 h (v := 1)
  (try simp (disch := omega) only [pz_me h, forall_eq, true_and, and_true, true_imp_iff, forall_const, not_true_eq_false, not_false_eq_true, false_imp_iff, implies_true, eq_self, pz_i, pz_s1, pz_p1, pz_jnt, pz_b0, pz_b1, pz_em, pz_nnt, pz_nm1, pz_10, pz_20, pz_30, Classical.not_not, mv_isIn, mu_isFine, pz_in_jn])
  by_cases q : pw_jn x ri.1
  · obtain ⟨a, ha, rfl⟩ := pz_of q
    have k9 := k0 q
    rw [pz_i (by omega)] at k9
    have h2 := pz_ms25 h0 (i := a) (v := 1)
    by_cases e : ri.2 25 a = 0
    · rw [pz_bt e] at k9
      (try simp (disch := omega) only [pz_me h0, forall_eq, true_and, and_true, true_imp_iff, forall_const, not_true_eq_false, not_false_eq_true, false_imp_iff, implies_true, eq_self, pz_i, pz_s1, pz_p1, pz_jnt, pz_b0, pz_b1, pz_em, pz_nnt, pz_nm1, pz_10, pz_20, pz_30, Classical.not_not, q, e])
      exact ⟨by simp, k9 _ h2⟩
    · rw [pz_bf e] at k9
      (try simp (disch := omega) only [pz_me h0, forall_eq, true_and, and_true, true_imp_iff, forall_const, not_true_eq_false, not_false_eq_true, false_imp_iff, implies_true, eq_self, pz_i, pz_s1, pz_p1, pz_jnt, pz_b0, pz_b1, pz_em, pz_nnt, pz_nm1, pz_10, pz_20, pz_30, Classical.not_not, q, e])
      exact ⟨by simp, k9 _ h2⟩
  · (try simp (disch := omega) only [pz_me h1, forall_eq, true_and, and_true, true_imp_iff, forall_const, not_true_eq_false, not_false_eq_true, false_imp_iff, implies_true, eq_self, pz_i, pz_s1, pz_p1, pz_jnt, pz_b0, pz_b1, pz_em, pz_nnt, pz_nm1, pz_10, pz_20, pz_30, Classical.not_not, q])
    exact k1 q _ h1
theorem cp_release (h : pz_c sc sq pa ri mp ca dr pe U V w0 w) (I : pz_I sc sq pa ri mp ca dr pe) (hU : U ≤ 190000) (hV : V ≤ 3900000) (k0 : (pw_jn x ri.1) → ∀ w1, pz_c sc sq pa (ri.1, pz_u ri.2 25 (pw_i x) 1) mp ca dr pe (U + 0) (V + 0) w0 w1 → K w1 (pz_b (ri.2 25 (pw_i x) = 0))) (k1 : ¬ (pw_jn x ri.1) → ∀ w1, pz_c sc sq pa ri mp ca dr pe (U + 1) (V + 6) w0 w1 → X w1 1) : wp_X_release w x K X := by
  unfold wp_X_release jp_X_release_18
  rw [cv_rightNumbered h I.gr.1]
  refine ⟨fun q => ?_, fun q => cu_thr h (by omega) (by omega) (pz_hL I) I.gr.1 (k1 q)⟩
  have hr80 := I.gr.1
  obtain ⟨a, ha, rfl⟩ := pz_of q
  have k9 := k0 q
  rw [pz_i (by omega)] at k9
  (try simp (disch := omega) only [pz_ce h, pz_k14 h, pz_k60 h, pz_k23 h, pz_k30 h, pz_k31 h, pz_k34 h, pz_k35 h, pz_kl11 h, pz_k11 h, pz_k15 h, pz_k40 h, pz_k41 h, pz_k42 h, pz_k25 h, pz_km0 h, pz_km1 h, pz_km2 h, pz_kc0 h, pz_kc1 h, pz_kc2 h, pz_kc3 h, pz_kc4 h, pz_kc6 h, pz_kc7 h, pz_kl12 h, pz_k12 h, pz_kd0 h, pz_kd1 h, forall_eq, true_and, and_true, true_imp_iff, forall_const, not_true_eq_false, not_false_eq_true, false_imp_iff, implies_true, eq_self, pz_i, pz_s1, pz_p1, pz_jnt, pz_b0, pz_b1, pz_em, pz_nnt, pz_nm1, pz_10, pz_20, pz_30, Classical.not_not])
  refine ⟨fun e => ⟨by simp, ?_⟩, fun e => ⟨by simp, ?_⟩⟩
  · rw [pz_bf e] at k9; exact k9 _ (cs55 h)
  · rw [pz_bt e] at k9; exact k9 _ (cs55 h)
theorem pi_release (I : pz_I sc sq pa ri mp ca dr pe) (c1 : pw_jn x ri.1) : pz_I sc sq pa (ri.1, pz_u ri.2 25 (pw_i x) 1) mp ca dr pe := by
  refine ⟨I.1, I.2.1, I.2.2.1, ⟨I.gr.1, I.gr.2.1, fun m m' hm hm' a1 a2 a3 a4 a5 => ?_, fun m => ?_⟩, I.2.2.2.2⟩
  · have a1 : (pz_u ri.2 25 (pw_i x) 1) 25 m = 0 := a1
    have a2 : (pz_u ri.2 25 (pw_i x) 1) 25 m' = 0 := a2
    by_cases q : m = pw_i x
    · rw [q, pz_us] at a1; exact absurd a1 (by decide)
    · by_cases q' : m' = pw_i x
      · rw [q', pz_us] at a2; exact absurd a2 (by decide)
      · rw [pz_un q] at a1
        rw [pz_un q'] at a2
        exact I.gr.2.2.1 m m' hm hm' a1 a2 a3 a4 a5
  · rw [show ((ri.1, pz_u ri.2 25 (pw_i x) 1) : pz_N).2 25 m = (pz_u ri.2 25 (pw_i x) 1) 25 m from rfl]
    by_cases q : m = pw_i x
    · rw [q, pz_us]; exact Or.inr rfl
    · rw [pz_un q]; exact I.gr.2.2.2 m
def pz_Tb (G Z : pw_W → Prop) (r : Int32) : pw_W → Int32 → Prop := fun w b => wp_M_thrown w (fun w6 r7 => (r7 = r → (¬ r = 0 → G w6) ∧ (r = 0 → pw_jn 0 (pw_ln w6 13 0) ∧ (b = 0 → ∀ r11 : Int32, (r11 = 0 ↔ (w6.1 13 0 0) = 0) → (r11 = 0 → G w6) ∧ (¬ r11 = 0 → Z w6)) ∧ (¬ b = 0 → ∀ r11 : Int32, (r11 = 0 ↔ (w6.1 13 0 0) = 1) → (r11 = 0 → G w6) ∧ (¬ r11 = 0 → Z w6)))) ∧ (¬ r7 = r → Z w6)) (fun _ _ => False)
theorem pz_Tbof {G Z : pw_W → Prop} {r : Int32} {b : Int32} (hb : b = 0 ∨ b = 1) (h : pz_T G Z r w b) : pz_Tb G Z r w b := by
  unfold pz_T at h
  unfold pz_Tb
  rcases hb with rfl | rfl
  · refine ⟨fun q => ⟨(h.1 q).1, fun q2 => ⟨((h.1 q).2 q2).1, fun _ => ((h.1 q).2 q2).2, fun q3 => absurd rfl q3⟩⟩, h.2⟩
  · refine ⟨fun q => ⟨(h.1 q).1, fun q2 => ⟨((h.1 q).2 q2).1, fun q3 => absurd q3 (by decide), fun _ => ((h.1 q).2 q2).2⟩⟩, h.2⟩
theorem br_release {G Z : pw_W → Prop} (hR : pz_R i w) (hi : i < 512) (kk : ∀ w2, pz_R (i + 1) w2 → G w2) : wp_L_release w x (fun w1 r1 => wp_M_release w1 x (pz_Tb G Z r1) (fun _ _ => False)) (fun _ _ => False) := by
  obtain ⟨sc, sq, pa, ri, mp, ca, dr, pe, I, hm, hc⟩ := hR
  unfold wp_L_release jp_L_release_15
  refine cp_release hc I (by omega) (by omega) (fun c1 w1 h1 => ?_) (fun c1 w1 h1 => ⟨rfl, ?_⟩)
  · have key : ∀ b : Int32, b = pz_b (ri.2 25 (pw_i x) = 0) → pw_jn 0 (pw_ln w1 13 0) ∧ ∀ w2, w2 = pw_ps w1 13 0 (pw_i 0) b → wp_M_release w2 x (pz_Tb G Z 0) (fun _ _ => False) := by
      intro b eb
      refine ⟨pz_o13 h1, fun w4 e4 => ?_⟩
      have h4 : pz_c sc sq pa (ri.1, pz_u ri.2 25 (pw_i x) 1) mp ca dr pe (4000 + 200 * i + 0) (200000 + 6000 * i + 0) w w4 := by rw [e4]; exact csout h1
      have e13 : w4.1 13 0 0 = pz_b (ri.2 25 (pw_i x) = 0) := by rw [e4, ← eb]; exact pz_pss
      exact mp_release (pz_mid hm h4) I (fun _ w2 h2 => pz_Tbof pz_b01 (pz_fin0 (pi_release I c1) h4 h2 (by omega) (by omega) e13 kk)) (fun d1 _ _ => absurd c1 d1)
    exact ⟨fun q => key 0 q.symm, fun q => key 1 ((pz_b01.resolve_left q).symm)⟩
  · exact mp_release (pz_mid hm h1) I (fun d1 _ _ => absurd d1 c1) (fun _ w2 h2 => pz_Tbof (Or.inl rfl) (pz_fin1 I h1 h2 (by omega) (by omega) (by decide) kk))
theorem mp_graze (h : pz_m sc sq pa ri mp ca dr pe w0 w) (I : pz_I sc sq pa ri mp ca dr pe) (k0 : (pw_jn x 12 ∧ pw_jn y pa.1) → (pz_in z 0 400) → (z ≤ pz_wr ri sq x (pz_ro pa y)) → ∀ w1, pz_m (pz_u1 sc 0 0) sq (pa.1, pa.2.1, pz_u pa.2.2 (pw_i (pz_ro pa y)) (pw_i x) z) ri mp ca dr pe w0 w1 → K w1 (pa.2.2 (pw_i (pz_ro pa y)) (pw_i x))) (k1 : ¬ (pw_jn x 12 ∧ pw_jn y pa.1) → ∀ w1, pz_m (pz_u1 sc 0 1) sq pa ri mp ca dr pe w0 w1 → K w1 0) (k2 : (pw_jn x 12 ∧ pw_jn y pa.1) → ¬ (pz_in z 0 400) → ∀ w1, pz_m (pz_u1 sc 0 2) sq pa ri mp ca dr pe w0 w1 → K w1 0) (k3 : (pw_jn x 12 ∧ pw_jn y pa.1) → (pz_in z 0 400) → ¬ (z ≤ pz_wr ri sq x (pz_ro pa y)) → ∀ w1, pz_m (pz_u1 sc 0 3) sq pa ri mp ca dr pe w0 w1 → K w1 0) : wp_M_graze w x y z K X := by
  unfold wp_M_graze jp_M_graze_19 jp_M_graze_20 jp_M_graze_66
  have hr80 := I.gr.1
  have h0 := pz_ms0 h (v := 0)
  have h1 := pz_ms0 h (v := 1)
  have h2 := pz_ms0 h (v := 2)
  have h3 := pz_ms0 h (v := 3)
  simp only [mv_isParcel h I.gp.1.2, mv_isPerson, mv_isIn, mu_isFine, pz_b0, Classical.not_not]
  by_cases a1 : pw_jn x 12
  case neg =>
    have k9 := k1 (fun z => a1 z.1) _ h1
    (try simp (disch := omega) only [forall_eq, true_and, and_true, true_imp_iff, forall_const, not_true_eq_false, not_false_eq_true, false_imp_iff, implies_true, eq_self, pz_i, pz_s1, pz_p1, pz_jnt, pz_b0, pz_b1, pz_em, pz_nnt, pz_nm1, pz_10, pz_20, pz_30, Classical.not_not, a1])
    exact k9
  by_cases a2 : pw_jn y pa.1
  case neg =>
    have k9 := k1 (fun z => a2 z.2) _ h1
    (try simp (disch := omega) only [forall_eq, true_and, and_true, true_imp_iff, forall_const, not_true_eq_false, not_false_eq_true, false_imp_iff, implies_true, eq_self, pz_i, pz_s1, pz_p1, pz_jnt, pz_b0, pz_b1, pz_em, pz_nnt, pz_nm1, pz_10, pz_20, pz_30, Classical.not_not, a1, a2])
    exact k9
  by_cases c2 : pz_in z 0 400
  case neg =>
    have k9 := k2 ⟨a1, a2⟩ c2 _ h2
    (try simp (disch := omega) only [forall_eq, true_and, and_true, true_imp_iff, forall_const, not_true_eq_false, not_false_eq_true, false_imp_iff, implies_true, eq_self, pz_i, pz_s1, pz_p1, pz_jnt, pz_b0, pz_b1, pz_em, pz_nnt, pz_nm1, pz_10, pz_20, pz_30, Classical.not_not, a1, a2, c2])
    exact k9
  by_cases c3 : z ≤ pz_wr ri sq x (pz_ro pa y)
  case neg =>
    have k9 := k3 ⟨a1, a2⟩ c2 c3 _ h3
    (try simp (disch := omega) only [pz_me h, forall_eq, true_and, and_true, true_imp_iff, forall_const, not_true_eq_false, not_false_eq_true, false_imp_iff, implies_true, eq_self, pz_i, pz_s1, pz_p1, pz_jnt, pz_b0, pz_b1, pz_em, pz_nnt, pz_nm1, pz_10, pz_20, pz_30, Classical.not_not, a1, a2, c2, c3, mv_now h I.gp.2.1 I.gp.1.2 a2, mv_worthOf h hr80])
    exact k9
  have k9 := k0 ⟨a1, a2⟩ c2 c3
  have e := pz_jw (pz_roj I a2) I.gp.1.2
  (try simp (disch := omega) only [pz_me h, forall_eq, true_and, and_true, true_imp_iff, forall_const, not_true_eq_false, not_false_eq_true, false_imp_iff, implies_true, eq_self, pz_i, pz_s1, pz_p1, pz_jnt, pz_b0, pz_b1, pz_em, pz_nnt, pz_nm1, pz_10, pz_20, pz_30, Classical.not_not, a1, a2, c2, c3, mv_now h I.gp.2.1 I.gp.1.2 a2, mv_worthOf h hr80])
  (try simp (disch := omega) only [pz_me h0, forall_eq, true_and, and_true, true_imp_iff, forall_const, not_true_eq_false, not_false_eq_true, false_imp_iff, implies_true, eq_self, pz_i, pz_s1, pz_p1, pz_jnt, pz_b0, pz_b1, pz_em, pz_nnt, pz_nm1, pz_10, pz_20, pz_30, Classical.not_not, mv_now h0 I.gp.2.1 I.gp.1.2 a2])
  obtain ⟨a, ha, ea⟩ := pz_of e
  obtain ⟨b, hb, rfl⟩ := pz_of a1
  rw [ea, pz_i (by omega), pz_i (by omega)] at k9
  rw [ea, pz_x12]
  (try simp (disch := omega) only [pz_me h0, forall_eq, true_and, and_true, true_imp_iff, forall_const, not_true_eq_false, not_false_eq_true, false_imp_iff, implies_true, eq_self, pz_i, pz_s1, pz_p1, pz_jnt, pz_b0, pz_b1, pz_em, pz_nnt, pz_nm1, pz_10, pz_20, pz_30, Classical.not_not])
  rw [pz_md19 h0 a b ha hb]
  exact k9 _ (pz_ms19 h0 ha hb rfl)
theorem cp_graze (h : pz_c sc sq pa ri mp ca dr pe U V w0 w) (I : pz_I sc sq pa ri mp ca dr pe) (hU : U ≤ 190000) (hV : V ≤ 3900000) (k0 : (pw_jn x 12 ∧ pw_jn y pa.1) → (pz_in z 0 400) → (z ≤ pz_wr ri sq x (pz_ro pa y)) → ∀ w1, pz_c sc sq (pa.1, pa.2.1, pz_u pa.2.2 (pw_i (pz_ro pa y)) (pw_i x) z) ri mp ca dr pe (U + 0) (V + 0) w0 w1 → K w1 (pa.2.2 (pw_i (pz_ro pa y)) (pw_i x))) (k1 : ¬ (pw_jn x 12 ∧ pw_jn y pa.1) → ∀ w1, pz_c sc sq pa ri mp ca dr pe (U + 1) (V + 6) w0 w1 → X w1 1) (k2 : (pw_jn x 12 ∧ pw_jn y pa.1) → ¬ (pz_in z 0 400) → ∀ w1, pz_c sc sq pa ri mp ca dr pe (U + 1) (V + 6) w0 w1 → X w1 2) (k3 : (pw_jn x 12 ∧ pw_jn y pa.1) → (pz_in z 0 400) → ¬ (z ≤ pz_wr ri sq x (pz_ro pa y)) → ∀ w1, pz_c sc sq pa ri mp ca dr pe (U + 1) (V + 6) w0 w1 → X w1 3) : wp_X_graze w x y z K X := by
  unfold wp_X_graze jp_X_graze_42
  have hr80 := I.gr.1
  rw [cv_personNumbered h]
  refine ⟨fun a1 => ?_, fun a1 => cu_thr h (by omega) (by omega) (pz_hL I) I.gr.1 (k1 fun z => a1 z.1)⟩
  rw [cv_parcelNumbered h I.gp.2.1 I.gp.1.2]
  refine ⟨fun a2 => ?_, fun a2 => cu_thr h (by omega) (by omega) (pz_hL I) I.gr.1 (k1 fun z => a2 z.2)⟩
  rw [cv_isInRange, cv_checkArgument]
  refine ⟨fun c2 => ?_, fun c2 => cu_thr h (by omega) (by omega) (pz_hL I) I.gr.1 (k2 ⟨a1, a2⟩ c2)⟩
  rw [cv_worthOfRights h I.gr.2.1 hr80]
  have e := pz_roj I a2
  refine ⟨fun c3 => ?_, fun c3 => ?_⟩
  · rw [cv_checkState0]
    exact cu_thr h (by omega) (by omega) (pz_hL I) I.gr.1 (k3 ⟨a1, a2⟩ c2 fun z => absurd z (Int32.not_le.mpr c3))
  · rw [cv_checkState1]
    have k9 := k0 ⟨a1, a2⟩ c2 (Int32.not_lt.mp c3)
    rw [pz_k40 h _ a1.2, cv_sheepOf h e I.gp.1.2 a1.2]
    refine ⟨a1.1, e.1, ?_⟩
    rw [pz_k40 h _ a1.2]
    exact cu_setSheep h e I.gp.1.2 a1.2 k9
theorem pi_graze (I : pz_I sc sq pa ri mp ca dr pe) (c1 : pw_jn x 12 ∧ pw_jn y pa.1) (c2 : pz_in z 0 400) (c3 : z ≤ pz_wr ri sq x (pz_ro pa y)) : pz_I sc sq (pa.1, pa.2.1, pz_u pa.2.2 (pw_i (pz_ro pa y)) (pw_i x) z) ri mp ca dr pe := by
  refine ⟨I.1, I.2.1, ⟨I.gp.1, I.gp.2.1, I.gp.2.2.1, fun m g hm hg => ?_⟩, I.2.2.2.1, I.2.2.2.2⟩
  have hm : pa.1 ≤ m := hm
  show (pz_u pa.2.2 (pw_i (pz_ro pa y)) (pw_i x) z) m g = 0
  have := (pz_roj I c1.2).2
  rw [pz_uk (by omega)]
  exact I.gp.2.2.2 m g hm hg
theorem br_graze {G Z : pw_W → Prop} (hR : pz_R i w) (hi : i < 512) (kk : ∀ w2, pz_R (i + 1) w2 → G w2) : wp_L_graze w x y z (fun w1 r1 => wp_M_graze w1 x y z (pz_T G Z r1) (fun _ _ => False)) (fun _ _ => False) := by
  obtain ⟨sc, sq, pa, ri, mp, ca, dr, pe, I, hm, hc⟩ := hR
  unfold wp_L_graze
  refine cp_graze hc I (by omega) (by omega) (fun c1 c2 c3 w1 h1 => ⟨pz_o13 h1, fun w4 e4 => ?_⟩) (fun c1 w1 h1 => Or.inl ⟨rfl, ?_⟩) (fun c1 c2 w1 h1 => Or.inr (Or.inl ⟨rfl, ?_⟩)) (fun c1 c2 c3 w1 h1 => Or.inr (Or.inr (⟨rfl, ?_⟩)))
  · have h4 : pz_c sc sq (pa.1, pa.2.1, pz_u pa.2.2 (pw_i (pz_ro pa y)) (pw_i x) z) ri mp ca dr pe (4000 + 200 * i + 0) (200000 + 6000 * i + 0) w w4 := by rw [e4]; exact csout h1
    have hm4 := pz_mid hm h4
    have e13 : w4.1 13 0 0 = pa.2.2 (pw_i (pz_ro pa y)) (pw_i x) := by rw [e4]; exact pz_pss
    exact mp_graze hm4 I (fun _ _ _ w2 h2 => pz_fin0 (pi_graze I c1 c2 c3) h4 h2 (by omega) (by omega) e13 kk) (fun d1 _ _ => absurd c1 d1) (fun d1 d2 _ _ => absurd c2 d2) (fun d1 d2 d3 _ _ => absurd c3 d3)
  · have hm4 := pz_mid hm h1
    exact mp_graze hm4 I (fun d1 d2 d3 _ _ => absurd d1 c1) (fun _ w2 h2 => pz_fin1 I h1 h2 (by omega) (by omega) (by decide) kk) (fun d1 d2 _ _ => absurd d1 c1) (fun d1 d2 d3 _ _ => absurd d1 c1)
  · have hm4 := pz_mid hm h1
    exact mp_graze hm4 I (fun d1 d2 d3 _ _ => absurd d2 c2) (fun d1 _ _ => absurd c1 d1) (fun _ _ w2 h2 => pz_fin1 I h1 h2 (by omega) (by omega) (by decide) kk) (fun d1 d2 d3 _ _ => absurd d2 c2)
  · have hm4 := pz_mid hm h1
    exact mp_graze hm4 I (fun d1 d2 d3 _ _ => absurd d3 c3) (fun d1 _ _ => absurd c1 d1) (fun d1 d2 _ _ => absurd c2 d2) (fun _ _ _ w2 h2 => pz_fin1 I h1 h2 (by omega) (by omega) (by decide) kk)
theorem mp_survey (h : pz_m sc sq pa ri mp ca dr pe w0 w) (I : pz_I sc sq pa ri mp ca dr pe) (k0 : (pz_as x y z) → (pz_fd y z) → (pe.1 42 (pw_i x) = 0 ∧ mp.1 < 12) → ∀ w1, pz_m (pz_u1 sc 0 0) sq pa ri (mp.1 + 1, pz_u (pz_u (pz_u mp.2 27 mp.1 x) 28 mp.1 y) 29 mp.1 z) ca dr pe w0 w1 → K w1 (nI (mp.1 + 1))) (k1 : ¬ (pz_as x y z) → ∀ w1, pz_m (pz_u1 sc 0 1) sq pa ri mp ca dr pe w0 w1 → K w1 0) (k2 : (pz_as x y z) → ¬ (pz_fd y z) → ∀ w1, pz_m (pz_u1 sc 0 2) sq pa ri mp ca dr pe w0 w1 → K w1 0) (k3 : (pz_as x y z) → (pz_fd y z) → ¬ (pe.1 42 (pw_i x) = 0 ∧ mp.1 < 12) → ∀ w1, pz_m (pz_u1 sc 0 3) sq pa ri mp ca dr pe w0 w1 → K w1 0) : wp_M_survey w x y z K X := by
  unfold wp_M_survey jp_M_survey_49 jp_M_survey_54
  have h0 := pz_ms0 h (v := 0)
  have h1 := pz_ms0 h (v := 1)
  have h2 := pz_ms0 h (v := 2)
  have h3 := pz_ms0 h (v := 3)
  have hm12 : mp.1 ≤ 12 := I.gm
  have en12 : (nI mp.1 = 12) = (mp.1 = 12) := by rw [pz_l12, pz_eq (by omega) (by omega)]
  simp only [mv_areSquares, mv_isField, mu_isFine, pz_b0, Classical.not_not]
  by_cases c1 : pz_as x y z
  case neg =>
    have k9 := k1 c1 _ h1
    (try simp (disch := omega) only [forall_eq, true_and, and_true, true_imp_iff, forall_const, not_true_eq_false, not_false_eq_true, false_imp_iff, implies_true, eq_self, pz_i, pz_s1, pz_p1, pz_jnt, pz_b0, pz_b1, pz_em, pz_nnt, pz_nm1, pz_10, pz_20, pz_30, Classical.not_not, c1])
    exact k9
  by_cases c2 : pz_fd y z
  case neg =>
    have k9 := k2 c1 c2 _ h2
    (try simp (disch := omega) only [forall_eq, true_and, and_true, true_imp_iff, forall_const, not_true_eq_false, not_false_eq_true, false_imp_iff, implies_true, eq_self, pz_i, pz_s1, pz_p1, pz_jnt, pz_b0, pz_b1, pz_em, pz_nnt, pz_nm1, pz_10, pz_20, pz_30, Classical.not_not, c1, c2])
    exact k9
  have c1x := c1.1
  by_cases b1 : pe.1 42 (pw_i x) = 0
  case neg =>
    have k9 := k3 c1 c2 (fun q => b1 q.1) _ h3
    (try simp (disch := omega) only [pz_me h, forall_eq, true_and, and_true, true_imp_iff, forall_const, not_true_eq_false, not_false_eq_true, false_imp_iff, implies_true, eq_self, pz_i, pz_s1, pz_p1, pz_jnt, pz_b0, pz_b1, pz_em, pz_nnt, pz_nm1, pz_10, pz_20, pz_30, Classical.not_not, c1, c2, c1x, b1])
    exact k9
  by_cases b2 : mp.1 < 12
  case neg =>
    have k9 := k3 c1 c2 (fun q => b2 q.2) _ h3
    have b3 : mp.1 = 12 := by omega
    (try simp (disch := omega) only [pz_me h, forall_eq, true_and, and_true, true_imp_iff, forall_const, not_true_eq_false, not_false_eq_true, false_imp_iff, implies_true, eq_self, pz_i, pz_s1, pz_p1, pz_jnt, pz_b0, pz_b1, pz_em, pz_nnt, pz_nm1, pz_10, pz_20, pz_30, Classical.not_not, c1, c2, c1x, b1, en12, eq_true b3])
    exact k9
  have b3 : ¬ mp.1 = 12 := by omega
  have k9 := k0 c1 c2 ⟨b1, b2⟩
  (try simp (disch := omega) only [pz_me h, forall_eq, true_and, and_true, true_imp_iff, forall_const, not_true_eq_false, not_false_eq_true, false_imp_iff, implies_true, eq_self, pz_i, pz_s1, pz_p1, pz_jnt, pz_b0, pz_b1, pz_em, pz_nnt, pz_nm1, pz_10, pz_20, pz_30, Classical.not_not, c1, c2, c1x, b1, en12, b3])
  (try simp (disch := omega) only [pz_me h0, forall_eq, true_and, and_true, true_imp_iff, forall_const, not_true_eq_false, not_false_eq_true, false_imp_iff, implies_true, eq_self, pz_i, pz_s1, pz_p1, pz_jnt, pz_b0, pz_b1, pz_em, pz_nnt, pz_nm1, pz_10, pz_20, pz_30, Classical.not_not])
  have h4 := pz_ms27 h0 (i := mp.1) (v := x)
  (try simp (disch := omega) only [pz_me h4, forall_eq, true_and, and_true, true_imp_iff, forall_const, not_true_eq_false, not_false_eq_true, false_imp_iff, implies_true, eq_self, pz_i, pz_s1, pz_p1, pz_jnt, pz_b0, pz_b1, pz_em, pz_nnt, pz_nm1, pz_10, pz_20, pz_30, Classical.not_not])
  have h5 := pz_ms28 h4 (i := mp.1) (v := y)
  (try simp (disch := omega) only [pz_me h5, forall_eq, true_and, and_true, true_imp_iff, forall_const, not_true_eq_false, not_false_eq_true, false_imp_iff, implies_true, eq_self, pz_i, pz_s1, pz_p1, pz_jnt, pz_b0, pz_b1, pz_em, pz_nnt, pz_nm1, pz_10, pz_20, pz_30, Classical.not_not])
  have h6 := pz_ms29 h5 (i := mp.1) (v := z)
  (try simp (disch := omega) only [pz_me h6, forall_eq, true_and, and_true, true_imp_iff, forall_const, not_true_eq_false, not_false_eq_true, false_imp_iff, implies_true, eq_self, pz_i, pz_s1, pz_p1, pz_jnt, pz_b0, pz_b1, pz_em, pz_nnt, pz_nm1, pz_10, pz_20, pz_30, Classical.not_not])
  have h7 := pz_ms30 h6 (n := mp.1 + 1) rfl
  (try simp (disch := omega) only [pz_me h7, forall_eq, true_and, and_true, true_imp_iff, forall_const, not_true_eq_false, not_false_eq_true, false_imp_iff, implies_true, eq_self, pz_i, pz_s1, pz_p1, pz_jnt, pz_b0, pz_b1, pz_em, pz_nnt, pz_nm1, pz_10, pz_20, pz_30, Classical.not_not])
  exact k9 _ h7
theorem cp_survey (h : pz_c sc sq pa ri mp ca dr pe U V w0 w) (I : pz_I sc sq pa ri mp ca dr pe) (hU : U ≤ 190000) (hV : V ≤ 3900000) (k0 : (pz_as x y z) → (pz_fd y z) → (pe.1 42 (pw_i x) = 0 ∧ mp.1 < 12) → ∀ w1, pz_c sc sq pa ri (mp.1 + 1, pz_u (pz_u (pz_u mp.2 27 mp.1 x) 28 mp.1 y) 29 mp.1 z) ca dr pe (U + 2) (V + 123) w0 w1 → K w1 (nI (mp.1 + 1))) (k1 : ¬ (pz_as x y z) → ∀ w1, pz_c sc sq pa ri mp ca dr pe (U + 2) (V + 123) w0 w1 → X w1 1) (k2 : (pz_as x y z) → ¬ (pz_fd y z) → ∀ w1, pz_c sc sq pa ri mp ca dr pe (U + 2) (V + 123) w0 w1 → X w1 2) (k3 : (pz_as x y z) → (pz_fd y z) → ¬ (pe.1 42 (pw_i x) = 0 ∧ mp.1 < 12) → ∀ w1, pz_c sc sq pa ri mp ca dr pe (U + 2) (V + 123) w0 w1 → X w1 3) : wp_X_survey w x y z K X := by
  unfold wp_X_survey jp_X_survey_44 wp_FieldMap_init
  have hm12 : mp.1 ≤ 12 := I.gm
  rw [cv_personNumbered h]
  refine ⟨fun a1 => ?_, fun a1 => cu_thr (X := X) (n := 1) h (by omega) (by omega) (pz_hL I) I.gr.1 (fun w1 h1 => k1 (fun z => a1 z.1) w1 (h1.up (by omega) (by omega)))⟩
  rw [cv_checkSquares]
  refine ⟨fun a2 => ?_, fun a2 => cu_thr (X := X) (n := 1) h (by omega) (by omega) (pz_hL I) I.gr.1 (fun w1 h1 => k1 (fun z => a2 z.2) w1 (h1.up (by omega) (by omega)))⟩
  have c1 : pz_as x y z := ⟨a1, a2⟩
  rw [cv_checkField]
  refine ⟨fun c2 => ⟨a1.1, ?_⟩, fun c2 => cu_thr (X := X) (n := 2) h (by omega) (by omega) (pz_hL I) I.gr.1 (fun w1 h1 => k2 c1 c2 w1 (h1.up (by omega) (by omega)))⟩
  rw [pz_k42 h _ a1.2, cv_checkState]
  refine ⟨fun b1 => ?_, fun b1 => cu_thr (X := X) (n := 3) h (by omega) (by omega) (pz_hL I) I.gr.1 (fun w1 h1 => k3 c1 c2 (fun z => b1 z.1) w1 (h1.up (by omega) (by omega)))⟩
  have ru := pz_kru h
  have rv := pz_krv h
  have rn := pz_knv h 2
  have hL := pz_hL I
  have hr := I.gr.1
  have e7 : w.1 7 0 3 = 0 := (pz_csc.of h).2.2.2.1
  have el : pw_ln w 22 0 = mp.1 := (pz_cmp.of h).1
  (try simp (disch := omega) only [pz_ce h, pz_k14 h, pz_k60 h, pz_k23 h, pz_k30 h, pz_k31 h, pz_k34 h, pz_k35 h, pz_kl11 h, pz_k11 h, pz_k15 h, pz_k40 h, pz_k41 h, pz_k42 h, pz_k25 h, pz_km0 h, pz_km1 h, pz_km2 h, pz_kc0 h, pz_kc1 h, pz_kc2 h, pz_kc3 h, pz_kc4 h, pz_kc6 h, pz_kc7 h, pz_kl12 h, pz_k12 h, pz_kd0 h, pz_kd1 h, forall_eq, true_and, and_true, true_imp_iff, forall_const, not_true_eq_false, not_false_eq_true, false_imp_iff, implies_true, eq_self, pz_i, pz_s1, pz_p1, pz_jnt, pz_b0, pz_b1, pz_em, pz_nnt, pz_nm1, pz_10, pz_20, pz_30, Classical.not_not, cv_checkState0, cv_checkState1, pz_l12, pz_le])
  refine ⟨fun b2 => cu_thr (X := X) (n := 3) h (by omega) (by omega) (pz_hL I) I.gr.1 (fun w1 h1 => k3 c1 c2 (fun z => by have := z.2; omega) w1 (h1.up (by omega) (by omega))), fun b2 => ?_⟩
  have k9 := k0 c1 c2 ⟨b1, by omega⟩
  refine ⟨⟨by omega, by omega, by omega⟩, pz_lg (by show pw_ln w 22 0 ≤ 80; omega) (by show w.2.2.1 + 1 + 1 ≤ _; omega) (by show w.2.2.2 + 3 + 120 ≤ _; omega), e7, ?_⟩
  rw [show ∀ w' : pw_W, ∀ u, pw_ln (pw_la w' 22 0 u) 22 0 = pw_ln w' 22 0 + 1 from fun _ _ => pz_lals]
  show K _ (nI (pw_ln w 22 0 + 1))
  rw [el]
  exact k9 _ (csma h (a := x) (b := y) (c := z) (by omega) (by omega))
theorem pi_survey (I : pz_I sc sq pa ri mp ca dr pe) (c1 : pz_as x y z) (c2 : pz_fd y z) (c3 : pe.1 42 (pw_i x) = 0 ∧ mp.1 < 12) : pz_I sc sq pa ri (mp.1 + 1, pz_u (pz_u (pz_u mp.2 27 mp.1 x) 28 mp.1 y) 29 mp.1 z) ca dr pe := ⟨I.1, I.2.1, I.2.2.1, I.2.2.2.1, (by show mp.1 + 1 ≤ 12; have := c3.2; omega), I.2.2.2.2.2⟩
theorem br_survey {G Z : pw_W → Prop} (hR : pz_R i w) (hi : i < 512) (kk : ∀ w2, pz_R (i + 1) w2 → G w2) : wp_L_survey w x y z (fun w1 r1 => wp_M_survey w1 x y z (pz_T G Z r1) (fun _ _ => False)) (fun _ _ => False) := by
  obtain ⟨sc, sq, pa, ri, mp, ca, dr, pe, I, hm, hc⟩ := hR
  unfold wp_L_survey
  refine cp_survey hc I (by omega) (by omega) (fun c1 c2 c3 w1 h1 => ⟨pz_o13 h1, fun w4 e4 => ?_⟩) (fun c1 w1 h1 => Or.inl ⟨rfl, ?_⟩) (fun c1 c2 w1 h1 => Or.inr (Or.inl ⟨rfl, ?_⟩)) (fun c1 c2 c3 w1 h1 => Or.inr (Or.inr (⟨rfl, ?_⟩)))
  · have h4 : pz_c sc sq pa ri (mp.1 + 1, pz_u (pz_u (pz_u mp.2 27 mp.1 x) 28 mp.1 y) 29 mp.1 z) ca dr pe (4000 + 200 * i + 2) (200000 + 6000 * i + 123) w w4 := by rw [e4]; exact csout h1
    have hm4 := pz_mid hm h4
    have e13 : w4.1 13 0 0 = nI (mp.1 + 1) := by rw [e4]; exact pz_pss
    exact mp_survey hm4 I (fun _ _ _ w2 h2 => pz_fin0 (pi_survey I c1 c2 c3) h4 h2 (by omega) (by omega) e13 kk) (fun d1 _ _ => absurd c1 d1) (fun d1 d2 _ _ => absurd c2 d2) (fun d1 d2 d3 _ _ => absurd c3 d3)
  · have hm4 := pz_mid hm h1
    exact mp_survey hm4 I (fun d1 d2 d3 _ _ => absurd d1 c1) (fun _ w2 h2 => pz_fin1 I h1 h2 (by omega) (by omega) (by decide) kk) (fun d1 d2 _ _ => absurd d1 c1) (fun d1 d2 d3 _ _ => absurd d1 c1)
  · have hm4 := pz_mid hm h1
    exact mp_survey hm4 I (fun d1 d2 d3 _ _ => absurd d2 c2) (fun d1 _ _ => absurd c1 d1) (fun _ _ w2 h2 => pz_fin1 I h1 h2 (by omega) (by omega) (by decide) kk) (fun d1 d2 d3 _ _ => absurd d2 c2)
  · have hm4 := pz_mid hm h1
    exact mp_survey hm4 I (fun d1 d2 d3 _ _ => absurd d3 c3) (fun d1 _ _ => absurd c1 d1) (fun d1 d2 _ _ => absurd c2 d2) (fun _ _ _ w2 h2 => pz_fin1 I h1 h2 (by omega) (by omega) (by decide) kk)
end PZOB
