/-! public methods: more of what is asked -/
section PZOQ
variable {sc : pz_S} {sq : pz_Q} {pa : pz_P} {ri : pz_N} {mp : pz_N} {ca : pz_P} {dr : pz_N} {pe : pz_Q} {U V : Nat} {w0 w : pw_W} {K : pw_W → Int32 → Prop} {X : pw_W → Nat → Prop} {x y z t : Int32} {i s r c j n p q a b : Nat}
theorem pz_sub (h : b ≤ a) : nI a - nI b = nI (a - b) := (Int32.ofNat_sub a b h).symm
noncomputable def pz_chv (sq : pz_Q) (x y : Int32) : Int32 := pz_ite (sq.1 14 (pw_i x) ≤ y) (-1) (sq.2 (pw_i x) (pw_i (sq.1 14 (pw_i x) - 1 - y)))
theorem mp_chain (h : pz_m sc sq pa ri mp ca dr pe w0 w) (I : pz_I sc sq pa ri mp ca dr pe) (k0 : (pw_jn x 100 ∧ 0 ≤ y) → ∀ w1, pz_m (pz_u1 sc 0 0) sq pa ri mp ca dr pe w0 w1 → K w1 (pz_chv sq x y)) (k1 : ¬ (pw_jn x 100 ∧ 0 ≤ y) → ∀ w1, pz_m (pz_u1 sc 0 1) sq pa ri mp ca dr pe w0 w1 → K w1 0) : wp_M_chain w x y K X := by
  unfold wp_M_chain jp_M_chain_16 jp_M_chain_17
  simp only [mv_isSquare, mu_isFine, pz_b0, Classical.not_not]
  by_cases q : pw_jn x 100
  · by_cases q2 : 0 ≤ y
    · have q3 : ¬ y < 0 := Int32.not_lt.mpr q2
      have h1 := pz_ms0 h (v := 0)
      obtain ⟨a, ha, rfl⟩ := pz_of q
      obtain ⟨l, e, hl1, hl2⟩ := I.gl.gb I.gp.1.2 ha
      have k0 := k0 ⟨q, q2⟩ _ h1
      unfold pz_chv at k0
      rw [pz_i (by omega), e] at k0
      (try simp (disch := omega) only [pz_me h1, forall_eq, true_and, and_true, true_imp_iff, forall_const, not_true_eq_false, not_false_eq_true, false_imp_iff, implies_true, eq_self, pz_i, pz_s1, pz_p1, pz_jnt, pz_b0, pz_b1, pz_em, pz_nnt, pz_nm1, pz_10, pz_20, pz_30, Classical.not_not, q, q2, q3, e])
      refine ⟨fun z => ?_, fun z => ?_⟩
      · rw [pz_it z] at k0; exact k0
      · rw [pz_if' z] at k0
        have q4 : pw_jn y l := by rw [pz_jlt (by omega)]; exact ⟨q3, Int32.not_le.mp z⟩
        obtain ⟨b, hb, rfl⟩ := pz_of q4
        rw [show (1 : Int32) = nI 1 from rfl, pz_sub hl1, pz_sub (by omega), pz_i (by omega)] at k0
        rw [pz_x250, show (1 : Int32) = nI 1 from rfl, pz_sub (by omega), pz_sub (by omega), show 250 * a + l - 1 - b = 250 * a + (l - 1 - b) by omega]
        (try simp (disch := omega) only [pz_me h1, forall_eq, true_and, and_true, true_imp_iff, forall_const, not_true_eq_false, not_false_eq_true, false_imp_iff, implies_true, eq_self, pz_i, pz_s1, pz_p1, pz_jnt, pz_b0, pz_b1, pz_em, pz_nnt, pz_nm1, pz_10, pz_20, pz_30, Classical.not_not])
        rw [pz_md15 h1 a _ ha (by omega)]
        exact k0
    · have q3 : y < 0 := Int32.not_le.mp q2
      have h1 := pz_ms0 h (v := 1)
      (try simp (disch := omega) only [pz_me h1, forall_eq, true_and, and_true, true_imp_iff, forall_const, not_true_eq_false, not_false_eq_true, false_imp_iff, implies_true, eq_self, pz_i, pz_s1, pz_p1, pz_jnt, pz_b0, pz_b1, pz_em, pz_nnt, pz_nm1, pz_10, pz_20, pz_30, Classical.not_not, q, q3])
      exact k1 (fun z => q2 z.2) _ h1
  · have h1 := pz_ms0 h (v := 1)
    (try simp (disch := omega) only [pz_me h1, forall_eq, true_and, and_true, true_imp_iff, forall_const, not_true_eq_false, not_false_eq_true, false_imp_iff, implies_true, eq_self, pz_i, pz_s1, pz_p1, pz_jnt, pz_b0, pz_b1, pz_em, pz_nnt, pz_nm1, pz_10, pz_20, pz_30, Classical.not_not, q])
    exact k1 (fun z => q z.1) _ h1
theorem cp_chain (h : pz_c sc sq pa ri mp ca dr pe U V w0 w) (I : pz_I sc sq pa ri mp ca dr pe) (hU : U ≤ 190000) (hV : V ≤ 3900000) (k0 : (pw_jn x 100 ∧ 0 ≤ y) → ∀ w1, pz_c sc sq pa ri mp ca dr pe (U + 0) (V + 0) w0 w1 → K w1 (pz_chv sq x y)) (k1 : ¬ (pw_jn x 100 ∧ 0 ≤ y) → ∀ w1, pz_c sc sq pa ri mp ca dr pe (U + 1) (V + 6) w0 w1 → X w1 1) : wp_X_chain w x y K X := by
  unfold wp_X_chain wp_Square_parcelBefore
  rw [cv_squareNumbered h]
  refine ⟨fun q => ?_, fun q => cu_thr h (by omega) (by omega) (pz_hL I) I.gr.1 (k1 fun z => q z.1)⟩
  refine ⟨fun q2 => ?_, fun q2 => cu_thr h (by omega) (by omega) (pz_hL I) I.gr.1 (k1 fun z => q2 z.2)⟩
  have q3 : ¬ y < 0 := Int32.not_lt.mpr q2
  obtain ⟨a, ha, rfl⟩ := pz_of q
  obtain ⟨l, e, hl1, hl2⟩ := I.gl.gb I.gp.1.2 ha
  have k0 := k0 ⟨q, q2⟩ _ h
  unfold pz_chv at k0
  rw [pz_i (by omega), e] at k0
  have hk := pz_kl10 h a ha
  have hk0 := (pz_k62 h a ha).1
  rw [e, pz_i (by omega)] at hk
  (try simp (disch := omega) only [pz_ce h, pz_k14 h, pz_k60 h, pz_k23 h, pz_k30 h, pz_k31 h, pz_k34 h, pz_k35 h, pz_kl11 h, pz_k11 h, pz_k15 h, pz_k40 h, pz_k41 h, pz_k42 h, pz_k25 h, pz_km0 h, pz_km1 h, pz_km2 h, pz_kc0 h, pz_kc1 h, pz_kc2 h, pz_kc3 h, pz_kc4 h, pz_kc6 h, pz_kc7 h, pz_kl12 h, pz_k12 h, pz_kd0 h, pz_kd1 h, forall_eq, true_and, and_true, true_imp_iff, forall_const, not_true_eq_false, not_false_eq_true, false_imp_iff, implies_true, eq_self, pz_i, pz_s1, pz_p1, pz_jnt, pz_b0, pz_b1, pz_em, pz_nnt, pz_nm1, pz_10, pz_20, pz_30, Classical.not_not, cv_isInRange, e, pz_in_jn, hk0])
  refine ⟨fun z => ?_, fun z => ?_⟩
  · have z2 : nI l ≤ y := by rw [pz_jlt (by omega)] at z; exact Int32.not_lt.mp fun w => z ⟨q3, w⟩
    rw [pz_it z2] at k0; exact k0
  · obtain ⟨b, hb, rfl⟩ := pz_of z
    have z2 : ¬ nI l ≤ nI b := by rw [pz_le (by omega) (by omega)]; omega
    rw [pz_if' z2, show (1 : Int32) = nI 1 from rfl, pz_sub hl1, pz_sub (by omega), pz_i (by omega)] at k0
    rw [show (1 : Int32) = nI 1 from rfl, pz_sub hl1, pz_sub (by omega), pz_i (by omega), pz_k10 h a _ ha (by rw [e, pz_i (by omega)]; omega)]
    exact ⟨pz_jn (by omega) (by omega), k0⟩
theorem pi_chain (I : pz_I sc sq pa ri mp ca dr pe) (c1 : pw_jn x 100 ∧ 0 ≤ y) : pz_I sc sq pa ri mp ca dr pe := I
theorem br_chain {G Z : pw_W → Prop} (hR : pz_R i w) (hi : i < 512) (kk : ∀ w2, pz_R (i + 1) w2 → G w2) : wp_L_chain w x y (fun w1 r1 => wp_M_chain w1 x y (pz_T G Z r1) (fun _ _ => False)) (fun _ _ => False) := by
  obtain ⟨sc, sq, pa, ri, mp, ca, dr, pe, I, hm, hc⟩ := hR
  unfold wp_L_chain
  refine cp_chain hc I (by omega) (by omega) (fun c1 w1 h1 => ⟨pz_o13 h1, fun w4 e4 => ?_⟩) (fun c1 w1 h1 => ⟨rfl, ?_⟩)
  · have h4 : pz_c sc sq pa ri mp ca dr pe (4000 + 200 * i + 0) (200000 + 6000 * i + 0) w w4 := by rw [e4]; exact csout h1
    have hm4 := pz_mid hm h4
    have e13 : w4.1 13 0 0 = pz_chv sq x y := by rw [e4]; exact pz_pss
    exact mp_chain hm4 I (fun _ w2 h2 => pz_fin0 (pi_chain I c1) h4 h2 (by omega) (by omega) e13 kk) (fun d1 _ _ => absurd c1 d1)
  · have hm4 := pz_mid hm h1
    exact mp_chain hm4 I (fun d1 _ _ => absurd d1 c1) (fun _ w2 h2 => pz_fin1 I h1 h2 (by omega) (by omega) (by decide) kk)
theorem pz_in4 (h : pz_in y 0 3) : y = 0 ∨ y = 1 ∨ y = 2 ∨ y = 3 := by
  rw [show pz_in y 0 3 = pw_jn y 4 from pz_in_jn (n := 4) (by decide)] at h
  obtain ⟨a, ha, rfl⟩ := pz_of h
  have : a = 0 ∨ a = 1 ∨ a = 2 ∨ a = 3 := by omega
  rcases this with rfl | rfl | rfl | rfl
  · exact Or.inl rfl
  · exact Or.inr (Or.inl rfl)
  · exact Or.inr (Or.inr (Or.inl rfl))
  · exact Or.inr (Or.inr (Or.inr rfl))
theorem pz_in5 (h : pz_in y 0 4) : y = 0 ∨ y = 1 ∨ y = 2 ∨ y = 3 ∨ y = 4 := by
  rw [show pz_in y 0 4 = pw_jn y 5 from pz_in_jn (n := 5) (by decide)] at h
  obtain ⟨a, ha, rfl⟩ := pz_of h
  have : a = 0 ∨ a = 1 ∨ a = 2 ∨ a = 3 ∨ a = 4 := by omega
  rcases this with rfl | rfl | rfl | rfl | rfl
  · exact Or.inl rfl
  · exact Or.inr (Or.inl rfl)
  · exact Or.inr (Or.inr (Or.inl rfl))
  · exact Or.inr (Or.inr (Or.inr (Or.inl rfl)))
  · exact Or.inr (Or.inr (Or.inr (Or.inr rfl)))
theorem pz_inT : (y.toInt < 0 ∨ 3 < y.toInt) = ¬ pz_in y 0 3 := by
  unfold pz_in
  rw [Int32.lt_iff_toInt_lt, Int32.lt_iff_toInt_lt, show (0 : Int32).toInt = 0 from rfl, show (3 : Int32).toInt = 3 from rfl]
  exact propext ⟨fun h q => by omega, fun h => by omega⟩
theorem pz_c01 : ((0 : Int32) = 1) = False := by decide
theorem pz_c02 : ((0 : Int32) = 2) = False := by decide
theorem pz_c03 : ((0 : Int32) = 3) = False := by decide
theorem pz_c12 : ((1 : Int32) = 2) = False := by decide
theorem pz_c13 : ((1 : Int32) = 3) = False := by decide
theorem pz_c21 : ((2 : Int32) = 1) = False := by decide
theorem pz_c23 : ((2 : Int32) = 3) = False := by decide
theorem pz_c31 : ((3 : Int32) = 1) = False := by decide
theorem pz_c32 : ((3 : Int32) = 2) = False := by decide
theorem pz_c40 : ((4 : Int32) = 0) = False := by decide
theorem pz_c41 : ((4 : Int32) = 1) = False := by decide
theorem pz_c42 : ((4 : Int32) = 2) = False := by decide
theorem pz_c43 : ((4 : Int32) = 3) = False := by decide
noncomputable def pz_cav (sq : pz_Q) (ca : pz_P) (c : Nat) (y : Int32) : Int32 := pz_ite (y = 0) (ca.2.1 32 c) (pz_ite (y = 1) (ca.2.1 33 c) (pz_ite (y = 3) (pz_ct (fun s => sq.1 12 s = nI c) 100) (pz_ct (fun s => ¬ ca.2.2 c s = 0) 100)))
theorem mp_caseAt (h : pz_m sc sq pa ri mp ca dr pe w0 w) (I : pz_I sc sq pa ri mp ca dr pe) (k0 : (pw_jn x ca.1 ∧ pz_in y 0 3) → ∀ w1, pz_m (pz_u1 sc 0 0) sq pa ri mp ca dr pe w0 w1 → K w1 (pz_cav sq ca (pw_i x) y)) (k1 : ¬ (pw_jn x ca.1 ∧ pz_in y 0 3) → ∀ w1, pz_m (pz_u1 sc 0 1) sq pa ri mp ca dr pe w0 w1 → K w1 0) : wp_M_caseAt w x y K X := by
  unfold wp_M_caseAt jp_M_caseAt_22 jp_M_caseAt_23 jp_M_caseAt_70
  simp only [mv_isCase h I.gc.1, mv_isIn, mu_isFine, pz_b0, Classical.not_not]
  by_cases q : pw_jn x ca.1
  · by_cases q2 : pz_in y 0 3
    · have h1 := pz_ms0 h (v := 0)
      have q16 := pz_jw q I.gc.1
      have k0 := k0 ⟨q, q2⟩ _ h1
      unfold pz_cav at k0
      obtain ⟨c, hc, rfl⟩ := pz_of q
      have hc16 : c < 16 := Nat.lt_of_lt_of_le hc I.gc.1
      rw [pz_i (by omega)] at k0
      rcases pz_in4 q2 with rfl | rfl | rfl | rfl
      · (try simp (disch := omega) only [pz_me h1, forall_eq, true_and, and_true, true_imp_iff, forall_const, not_true_eq_false, not_false_eq_true, false_imp_iff, implies_true, eq_self, pz_i, pz_s1, pz_p1, pz_jnt, pz_b0, pz_b1, pz_em, pz_nnt, pz_nm1, pz_10, pz_20, pz_30, Classical.not_not, q, q2, pz_c01, pz_c03, q16])
        (try simp (disch := omega) only [forall_eq, true_and, and_true, true_imp_iff, forall_const, not_true_eq_false, not_false_eq_true, false_imp_iff, implies_true, eq_self, pz_i, pz_s1, pz_p1, pz_jnt, pz_b0, pz_b1, pz_em, pz_nnt, pz_nm1, pz_10, pz_20, pz_30, Classical.not_not, pz_iT, pz_iF] at k0)
        exact k0
      · (try simp (disch := omega) only [pz_me h1, forall_eq, true_and, and_true, true_imp_iff, forall_const, not_true_eq_false, not_false_eq_true, false_imp_iff, implies_true, eq_self, pz_i, pz_s1, pz_p1, pz_jnt, pz_b0, pz_b1, pz_em, pz_nnt, pz_nm1, pz_10, pz_20, pz_30, Classical.not_not, q, q2, pz_c12, pz_c13, q16])
        (try simp (disch := omega) only [forall_eq, true_and, and_true, true_imp_iff, forall_const, not_true_eq_false, not_false_eq_true, false_imp_iff, implies_true, eq_self, pz_i, pz_s1, pz_p1, pz_jnt, pz_b0, pz_b1, pz_em, pz_nnt, pz_nm1, pz_10, pz_20, pz_30, Classical.not_not, pz_iT, pz_iF] at k0)
        exact k0
      · (try simp (disch := omega) only [pz_me h1, forall_eq, true_and, and_true, true_imp_iff, forall_const, not_true_eq_false, not_false_eq_true, false_imp_iff, implies_true, eq_self, pz_i, pz_s1, pz_p1, pz_jnt, pz_b0, pz_b1, pz_em, pz_nnt, pz_nm1, pz_10, pz_20, pz_30, Classical.not_not, q, q2, pz_c21, pz_c23, q16, mv_countOf0 h1])
        (try simp (disch := omega) only [forall_eq, true_and, and_true, true_imp_iff, forall_const, not_true_eq_false, not_false_eq_true, false_imp_iff, implies_true, eq_self, pz_i, pz_s1, pz_p1, pz_jnt, pz_b0, pz_b1, pz_em, pz_nnt, pz_nm1, pz_10, pz_20, pz_30, Classical.not_not, pz_iT, pz_iF, pz_c21, pz_c23] at k0)
        exact k0
      · (try simp (disch := omega) only [pz_me h1, forall_eq, true_and, and_true, true_imp_iff, forall_const, not_true_eq_false, not_false_eq_true, false_imp_iff, implies_true, eq_self, pz_i, pz_s1, pz_p1, pz_jnt, pz_b0, pz_b1, pz_em, pz_nnt, pz_nm1, pz_10, pz_20, pz_30, Classical.not_not, q, q2, pz_c31, pz_c32, q16, mv_countOf1 h1])
        (try simp (disch := omega) only [forall_eq, true_and, and_true, true_imp_iff, forall_const, not_true_eq_false, not_false_eq_true, false_imp_iff, implies_true, eq_self, pz_i, pz_s1, pz_p1, pz_jnt, pz_b0, pz_b1, pz_em, pz_nnt, pz_nm1, pz_10, pz_20, pz_30, Classical.not_not, pz_iT, pz_iF, pz_c31] at k0)
        exact k0
    · have h1 := pz_ms0 h (v := 1)
      (try simp (disch := omega) only [pz_me h1, forall_eq, true_and, and_true, true_imp_iff, forall_const, not_true_eq_false, not_false_eq_true, false_imp_iff, implies_true, eq_self, pz_i, pz_s1, pz_p1, pz_jnt, pz_b0, pz_b1, pz_em, pz_nnt, pz_nm1, pz_10, pz_20, pz_30, Classical.not_not, q, q2])
      exact k1 (fun z => q2 z.2) _ h1
  · have h1 := pz_ms0 h (v := 1)
    (try simp (disch := omega) only [pz_me h1, forall_eq, true_and, and_true, true_imp_iff, forall_const, not_true_eq_false, not_false_eq_true, false_imp_iff, implies_true, eq_self, pz_i, pz_s1, pz_p1, pz_jnt, pz_b0, pz_b1, pz_em, pz_nnt, pz_nm1, pz_10, pz_20, pz_30, Classical.not_not, q])
    exact k1 (fun z => q z.1) _ h1
theorem cp_caseAt (h : pz_c sc sq pa ri mp ca dr pe U V w0 w) (I : pz_I sc sq pa ri mp ca dr pe) (hU : U ≤ 190000) (hV : V ≤ 3900000) (k0 : (pw_jn x ca.1 ∧ pz_in y 0 3) → ∀ w1, pz_c sc sq pa ri mp ca dr pe (U + 0) (V + 0) w0 w1 → K w1 (pz_cav sq ca (pw_i x) y)) (k1 : ¬ (pw_jn x ca.1 ∧ pz_in y 0 3) → ∀ w1, pz_c sc sq pa ri mp ca dr pe (U + 1) (V + 6) w0 w1 → X w1 1) : wp_X_caseAt w x y K X := by
  unfold wp_X_caseAt
  rw [cv_caseNumbered h I.gc.1]
  refine ⟨fun q => ?_, fun q => cu_thr h (by omega) (by omega) (pz_hL I) I.gr.1 (k1 fun z => q z.1)⟩
  rw [pz_inT]
  refine ⟨fun z => cu_thr h (by omega) (by omega) (pz_hL I) I.gr.1 (k1 fun q => z q.2), ?_⟩
  have g0 := (pz_k20 h _ q.2).1
  obtain ⟨c, hc, rfl⟩ := pz_of q
  have hc16 : c < 16 := Nat.lt_of_lt_of_le hc I.gc.1
  rw [pz_i (by omega)] at g0 ⊢
  have ku := fun q2 => k0 ⟨q, q2⟩ _ h
  unfold pz_cav at ku
  rw [pz_i (by omega)] at ku
  refine ⟨fun z => ⟨g0, ?_⟩, fun z => ⟨g0, ?_⟩, fun z => ⟨g0, ?_⟩, fun z => ?_⟩
  · have k0 := ku (by rw [z]; unfold pz_in; decide)
    rw [pz_it z] at k0; rw [pz_kc3 h c hc]; exact k0
  · have k0 := ku (by rw [z]; unfold pz_in; decide)
    rw [pz_if' (by rw [z]; decide), pz_it z] at k0; rw [pz_kc4 h c hc]; exact k0
  · have k0 := ku (by rw [z]; unfold pz_in; decide)
    rw [pz_if' (by rw [z]; decide), pz_if' (by rw [z]; decide), pz_if' (by rw [z]; decide)] at k0; rw [pz_kc2 h c hc]; exact k0
  · have k0 := ku (by rw [z]; unfold pz_in; decide)
    rw [pz_if' (by rw [z]; decide), pz_if' (by rw [z]; decide), pz_it z] at k0; rw [cv_countGivenBy h I.gl.2.1 I.gc.1 hc]; exact k0
theorem pi_caseAt (I : pz_I sc sq pa ri mp ca dr pe) (c1 : pw_jn x ca.1 ∧ pz_in y 0 3) : pz_I sc sq pa ri mp ca dr pe := I
theorem br_caseAt {G Z : pw_W → Prop} (hR : pz_R i w) (hi : i < 512) (kk : ∀ w2, pz_R (i + 1) w2 → G w2) : wp_L_caseAt w x y (fun w1 r1 => wp_M_caseAt w1 x y (pz_T G Z r1) (fun _ _ => False)) (fun _ _ => False) := by
  obtain ⟨sc, sq, pa, ri, mp, ca, dr, pe, I, hm, hc⟩ := hR
  unfold wp_L_caseAt
  refine cp_caseAt hc I (by omega) (by omega) (fun c1 w1 h1 => ⟨pz_o13 h1, fun w4 e4 => ?_⟩) (fun c1 w1 h1 => ⟨rfl, ?_⟩)
  · have h4 : pz_c sc sq pa ri mp ca dr pe (4000 + 200 * i + 0) (200000 + 6000 * i + 0) w w4 := by rw [e4]; exact csout h1
    have hm4 := pz_mid hm h4
    have e13 : w4.1 13 0 0 = pz_cav sq ca (pw_i x) y := by rw [e4]; exact pz_pss
    exact mp_caseAt hm4 I (fun _ w2 h2 => pz_fin0 (pi_caseAt I c1) h4 h2 (by omega) (by omega) e13 kk) (fun d1 _ _ => absurd c1 d1)
  · have hm4 := pz_mid hm h1
    exact mp_caseAt hm4 I (fun d1 _ _ => absurd d1 c1) (fun _ w2 h2 => pz_fin1 I h1 h2 (by omega) (by omega) (by decide) kk)
noncomputable def pz_rav (sq : pz_Q) (ri : pz_N) (r : Nat) (y : Int32) : Int32 := pz_ite (ri.2 25 r = 0) (pz_ite (y = 0) (ri.2 20 r) (pz_ite (y = 1) (ri.2 21 r) (pz_ite (y = 2) (ri.2 22 r) (pz_ite (y = 3) (pz_wo ri sq r) (ri.2 24 r))))) (-1)
theorem mp_rightAt (h : pz_m sc sq pa ri mp ca dr pe w0 w) (I : pz_I sc sq pa ri mp ca dr pe) (k0 : (pw_jn x ri.1 ∧ pz_in y 0 4) → ∀ w1, pz_m (pz_u1 sc 0 0) sq pa ri mp ca dr pe w0 w1 → K w1 (pz_rav sq ri (pw_i x) y)) (k1 : ¬ (pw_jn x ri.1 ∧ pz_in y 0 4) → ∀ w1, pz_m (pz_u1 sc 0 1) sq pa ri mp ca dr pe w0 w1 → K w1 0) : wp_M_rightAt w x y K X := by
  unfold wp_M_rightAt jp_M_rightAt_28 jp_M_rightAt_29
  have hr80 := I.gr.1
  (try simp (disch := omega) only [pz_me h, forall_eq, true_and, and_true, true_imp_iff, forall_const, not_true_eq_false, not_false_eq_true, false_imp_iff, implies_true, eq_self, pz_i, pz_s1, pz_p1, pz_jnt, pz_b0, pz_b1, pz_em, pz_nnt, pz_nm1, pz_10, pz_20, pz_30, Classical.not_not, mv_isIn, mu_isFine, pz_in_jn])
  by_cases q : pw_jn x ri.1
  · by_cases q2 : pz_in y 0 4
    · have h1 := pz_ms0 h (v := 0)
      have q80 := pz_jw q I.gr.1
      have k0 := k0 ⟨q, q2⟩ _ h1
      unfold pz_rav at k0
      obtain ⟨c, hc, rfl⟩ := pz_of q
      rw [pz_i (by omega)] at k0
      by_cases q3 : ri.2 25 c = 0
      · rw [pz_it q3] at k0
        rcases pz_in5 q2 with rfl | rfl | rfl | rfl | rfl
        · (try simp (disch := omega) only [pz_me h1, forall_eq, true_and, and_true, true_imp_iff, forall_const, not_true_eq_false, not_false_eq_true, false_imp_iff, implies_true, eq_self, pz_i, pz_s1, pz_p1, pz_jnt, pz_b0, pz_b1, pz_em, pz_nnt, pz_nm1, pz_10, pz_20, pz_30, Classical.not_not, q, q2, pz_c01, pz_c03, pz_c02, q3])
          (try simp (disch := omega) only [forall_eq, true_and, and_true, true_imp_iff, forall_const, not_true_eq_false, not_false_eq_true, false_imp_iff, implies_true, eq_self, pz_i, pz_s1, pz_p1, pz_jnt, pz_b0, pz_b1, pz_em, pz_nnt, pz_nm1, pz_10, pz_20, pz_30, Classical.not_not, pz_iT, pz_iF] at k0)
          exact k0
        · (try simp (disch := omega) only [pz_me h1, forall_eq, true_and, and_true, true_imp_iff, forall_const, not_true_eq_false, not_false_eq_true, false_imp_iff, implies_true, eq_self, pz_i, pz_s1, pz_p1, pz_jnt, pz_b0, pz_b1, pz_em, pz_nnt, pz_nm1, pz_10, pz_20, pz_30, Classical.not_not, q, q2, pz_c12, pz_c13, q3])
          (try simp (disch := omega) only [forall_eq, true_and, and_true, true_imp_iff, forall_const, not_true_eq_false, not_false_eq_true, false_imp_iff, implies_true, eq_self, pz_i, pz_s1, pz_p1, pz_jnt, pz_b0, pz_b1, pz_em, pz_nnt, pz_nm1, pz_10, pz_20, pz_30, Classical.not_not, pz_iT, pz_iF] at k0)
          exact k0
        · (try simp (disch := omega) only [pz_me h1, forall_eq, true_and, and_true, true_imp_iff, forall_const, not_true_eq_false, not_false_eq_true, false_imp_iff, implies_true, eq_self, pz_i, pz_s1, pz_p1, pz_jnt, pz_b0, pz_b1, pz_em, pz_nnt, pz_nm1, pz_10, pz_20, pz_30, Classical.not_not, q, q2, pz_c21, pz_c23, q3])
          (try simp (disch := omega) only [forall_eq, true_and, and_true, true_imp_iff, forall_const, not_true_eq_false, not_false_eq_true, false_imp_iff, implies_true, eq_self, pz_i, pz_s1, pz_p1, pz_jnt, pz_b0, pz_b1, pz_em, pz_nnt, pz_nm1, pz_10, pz_20, pz_30, Classical.not_not, pz_iT, pz_iF, pz_c21, pz_c23] at k0)
          exact k0
        · (try simp (disch := omega) only [pz_me h1, forall_eq, true_and, and_true, true_imp_iff, forall_const, not_true_eq_false, not_false_eq_true, false_imp_iff, implies_true, eq_self, pz_i, pz_s1, pz_p1, pz_jnt, pz_b0, pz_b1, pz_em, pz_nnt, pz_nm1, pz_10, pz_20, pz_30, Classical.not_not, q, q2, pz_c31, pz_c32, q3, mv_worth h1])
          (try simp (disch := omega) only [forall_eq, true_and, and_true, true_imp_iff, forall_const, not_true_eq_false, not_false_eq_true, false_imp_iff, implies_true, eq_self, pz_i, pz_s1, pz_p1, pz_jnt, pz_b0, pz_b1, pz_em, pz_nnt, pz_nm1, pz_10, pz_20, pz_30, Classical.not_not, pz_iT, pz_iF, pz_c31, pz_c32] at k0)
          exact k0
        · (try simp (disch := omega) only [pz_me h1, forall_eq, true_and, and_true, true_imp_iff, forall_const, not_true_eq_false, not_false_eq_true, false_imp_iff, implies_true, eq_self, pz_i, pz_s1, pz_p1, pz_jnt, pz_b0, pz_b1, pz_em, pz_nnt, pz_nm1, pz_10, pz_20, pz_30, Classical.not_not, q, q2, pz_c40, pz_c41, pz_c42, pz_c43, q3])
          (try simp (disch := omega) only [forall_eq, true_and, and_true, true_imp_iff, forall_const, not_true_eq_false, not_false_eq_true, false_imp_iff, implies_true, eq_self, pz_i, pz_s1, pz_p1, pz_jnt, pz_b0, pz_b1, pz_em, pz_nnt, pz_nm1, pz_10, pz_20, pz_30, Classical.not_not, pz_iT, pz_iF, pz_c40, pz_c41, pz_c42, pz_c43] at k0)
          exact k0
      · rw [pz_if' q3] at k0
        (try simp (disch := omega) only [pz_me h1, forall_eq, true_and, and_true, true_imp_iff, forall_const, not_true_eq_false, not_false_eq_true, false_imp_iff, implies_true, eq_self, pz_i, pz_s1, pz_p1, pz_jnt, pz_b0, pz_b1, pz_em, pz_nnt, pz_nm1, pz_10, pz_20, pz_30, Classical.not_not, q, q2, q3])
        exact k0
    · have h1 := pz_ms0 h (v := 1)
      (try simp (disch := omega) only [pz_me h1, forall_eq, true_and, and_true, true_imp_iff, forall_const, not_true_eq_false, not_false_eq_true, false_imp_iff, implies_true, eq_self, pz_i, pz_s1, pz_p1, pz_jnt, pz_b0, pz_b1, pz_em, pz_nnt, pz_nm1, pz_10, pz_20, pz_30, Classical.not_not, q, q2])
      exact k1 (fun z => q2 z.2) _ h1
  · have h1 := pz_ms0 h (v := 1)
    (try simp (disch := omega) only [pz_me h1, forall_eq, true_and, and_true, true_imp_iff, forall_const, not_true_eq_false, not_false_eq_true, false_imp_iff, implies_true, eq_self, pz_i, pz_s1, pz_p1, pz_jnt, pz_b0, pz_b1, pz_em, pz_nnt, pz_nm1, pz_10, pz_20, pz_30, Classical.not_not, q])
    exact k1 (fun z => q z.1) _ h1
theorem cp_rightAt (h : pz_c sc sq pa ri mp ca dr pe U V w0 w) (I : pz_I sc sq pa ri mp ca dr pe) (hU : U ≤ 190000) (hV : V ≤ 3900000) (k0 : (pw_jn x ri.1 ∧ pz_in y 0 4) → ∀ w1, pz_c sc sq pa ri mp ca dr pe (U + 0) (V + 0) w0 w1 → K w1 (pz_rav sq ri (pw_i x) y)) (k1 : ¬ (pw_jn x ri.1 ∧ pz_in y 0 4) → ∀ w1, pz_c sc sq pa ri mp ca dr pe (U + 1) (V + 6) w0 w1 → X w1 1) : wp_X_rightAt w x y K X := by
  unfold wp_X_rightAt
  rw [cv_rightNumbered h I.gr.1]
  refine ⟨fun q => ?_, fun q => cu_thr h (by omega) (by omega) (pz_hL I) I.gr.1 (k1 fun z => q z.1)⟩
  have e4 : pz_in y 0 4 = pw_jn y 5 := pz_in_jn (n := 5) (by decide)
  rw [pz_l5, cv_checkIndex (by decide), ← e4]
  refine ⟨fun q2 => ?_, fun q2 => cu_thr h (by omega) (by omega) (pz_hL I) I.gr.1 (k1 fun z => q2 z.2)⟩
  obtain ⟨c, hc, rfl⟩ := pz_of q
  have hr80 := I.gr.1
  obtain ⟨j1, j2, j3⟩ := I.gr.2.1 c hc
  have k0 := k0 ⟨q, q2⟩ _ h
  unfold pz_rav at k0
  rw [pz_i (by omega)] at k0
  have j10 := j1.1
  have j20 := j2.1
  (try simp (disch := omega) only [pz_ce h, pz_k14 h, pz_k60 h, pz_k23 h, pz_k30 h, pz_k31 h, pz_k34 h, pz_k35 h, pz_kl11 h, pz_k11 h, pz_k15 h, pz_k40 h, pz_k41 h, pz_k42 h, pz_k25 h, pz_km0 h, pz_km1 h, pz_km2 h, pz_kc0 h, pz_kc1 h, pz_kc2 h, pz_kc3 h, pz_kc4 h, pz_kc6 h, pz_kc7 h, pz_kl12 h, pz_k12 h, pz_kd0 h, pz_kd1 h, forall_eq, true_and, and_true, true_imp_iff, forall_const, not_true_eq_false, not_false_eq_true, false_imp_iff, implies_true, eq_self, pz_i, pz_s1, pz_p1, pz_jnt, pz_b0, pz_b1, pz_em, pz_nnt, pz_nm1, pz_10, pz_20, pz_30, Classical.not_not, j10, j20])
  refine ⟨fun q3 => ?_, fun q3 => ?_⟩
  · rw [pz_it q3] at k0
    rw [pz_inT]
    refine ⟨fun z => ?_, fun z => ?_, fun z => ?_, fun z => ?_, fun z => ?_⟩
    · have z4 : y = 4 := by
        rcases pz_in5 q2 with h | h | h | h | h
        · exact absurd (by rw [h]; unfold pz_in; decide) z
        · exact absurd (by rw [h]; unfold pz_in; decide) z
        · exact absurd (by rw [h]; unfold pz_in; decide) z
        · exact absurd (by rw [h]; unfold pz_in; decide) z
        · exact h
      subst z4
      (try simp (disch := omega) only [forall_eq, true_and, and_true, true_imp_iff, forall_const, not_true_eq_false, not_false_eq_true, false_imp_iff, implies_true, eq_self, pz_i, pz_s1, pz_p1, pz_jnt, pz_b0, pz_b1, pz_em, pz_nnt, pz_nm1, pz_10, pz_20, pz_30, Classical.not_not, pz_iT, pz_iF, pz_c40, pz_c41, pz_c42, pz_c43] at k0)
      exact k0
    · rw [pz_it z] at k0; exact k0
    · rw [pz_if' (by rw [z]; decide), pz_it z] at k0
      rw [pz_k30 h _ j1.2, pw_nIi j1.1]; exact k0
    · rw [pz_if' (by rw [z]; decide), pz_if' (by rw [z]; decide), pz_it z] at k0
      rw [pz_k40 h _ j2.2, pw_nIi j2.1]; exact k0
    · rw [pz_if' (by rw [z]; decide), pz_if' (by rw [z]; decide), pz_if' (by rw [z]; decide), pz_it z] at k0
      rw [cv_worthOf h I.gr.2.1 I.gr.1 hc]; exact k0
  · rw [pz_if' q3] at k0; exact k0
theorem pi_rightAt (I : pz_I sc sq pa ri mp ca dr pe) (c1 : pw_jn x ri.1 ∧ pz_in y 0 4) : pz_I sc sq pa ri mp ca dr pe := I
theorem br_rightAt {G Z : pw_W → Prop} (hR : pz_R i w) (hi : i < 512) (kk : ∀ w2, pz_R (i + 1) w2 → G w2) : wp_L_rightAt w x y (fun w1 r1 => wp_M_rightAt w1 x y (pz_T G Z r1) (fun _ _ => False)) (fun _ _ => False) := by
  obtain ⟨sc, sq, pa, ri, mp, ca, dr, pe, I, hm, hc⟩ := hR
  unfold wp_L_rightAt
  refine cp_rightAt hc I (by omega) (by omega) (fun c1 w1 h1 => ⟨pz_o13 h1, fun w4 e4 => ?_⟩) (fun c1 w1 h1 => ⟨rfl, ?_⟩)
  · have h4 : pz_c sc sq pa ri mp ca dr pe (4000 + 200 * i + 0) (200000 + 6000 * i + 0) w w4 := by rw [e4]; exact csout h1
    have hm4 := pz_mid hm h4
    have e13 : w4.1 13 0 0 = pz_rav sq ri (pw_i x) y := by rw [e4]; exact pz_pss
    exact mp_rightAt hm4 I (fun _ w2 h2 => pz_fin0 (pi_rightAt I c1) h4 h2 (by omega) (by omega) e13 kk) (fun d1 _ _ => absurd c1 d1)
  · have hm4 := pz_mid hm h1
    exact mp_rightAt hm4 I (fun d1 _ _ => absurd d1 c1) (fun _ w2 h2 => pz_fin1 I h1 h2 (by omega) (by omega) (by decide) kk)
noncomputable def pz_sqv (sc : pz_S) (sq : pz_Q) (s : Nat) (y : Int32) : Int32 := pz_ite (y = 0) (sq.1 6 s) (pz_ite (y = 1) (sq.1 7 s) (pz_ite (y = 2) (pz_bi sc sq s) (sq.1 10 s)))
theorem mp_square (h : pz_m sc sq pa ri mp ca dr pe w0 w) (I : pz_I sc sq pa ri mp ca dr pe) (k0 : (pw_jn x 100 ∧ pz_in y 0 3) → ∀ w1, pz_m (pz_u1 sc 0 0) sq pa ri mp ca dr pe w0 w1 → K w1 (pz_sqv sc sq (pw_i x) y)) (k1 : ¬ (pw_jn x 100 ∧ pz_in y 0 3) → ∀ w1, pz_m (pz_u1 sc 0 1) sq pa ri mp ca dr pe w0 w1 → K w1 0) : wp_M_square w x y K X := by
  unfold wp_M_square jp_M_square_21 jp_M_square_22
  simp only [mv_isSquare, mv_isIn, mu_isFine, pz_b0, Classical.not_not]
  by_cases q : pw_jn x 100
  · by_cases q2 : pz_in y 0 3
    · have h1 := pz_ms0 h (v := 0)
      have k0 := k0 ⟨q, q2⟩ _ h1
      unfold pz_sqv at k0
      obtain ⟨c, hc, rfl⟩ := pz_of q
      rw [pz_i (by omega)] at k0
      have eb : pz_bi (pz_u1 sc 0 0) sq c = pz_bi sc sq c := rfl
      rcases pz_in4 q2 with rfl | rfl | rfl | rfl
      · (try simp (disch := omega) only [pz_me h1, forall_eq, true_and, and_true, true_imp_iff, forall_const, not_true_eq_false, not_false_eq_true, false_imp_iff, implies_true, eq_self, pz_i, pz_s1, pz_p1, pz_jnt, pz_b0, pz_b1, pz_em, pz_nnt, pz_nm1, pz_10, pz_20, pz_30, Classical.not_not, q, q2, pz_c01, pz_c02])
        (try simp (disch := omega) only [forall_eq, true_and, and_true, true_imp_iff, forall_const, not_true_eq_false, not_false_eq_true, false_imp_iff, implies_true, eq_self, pz_i, pz_s1, pz_p1, pz_jnt, pz_b0, pz_b1, pz_em, pz_nnt, pz_nm1, pz_10, pz_20, pz_30, Classical.not_not, pz_iT, pz_iF] at k0)
        exact k0
      · (try simp (disch := omega) only [pz_me h1, forall_eq, true_and, and_true, true_imp_iff, forall_const, not_true_eq_false, not_false_eq_true, false_imp_iff, implies_true, eq_self, pz_i, pz_s1, pz_p1, pz_jnt, pz_b0, pz_b1, pz_em, pz_nnt, pz_nm1, pz_10, pz_20, pz_30, Classical.not_not, q, q2, pz_c12])
        (try simp (disch := omega) only [forall_eq, true_and, and_true, true_imp_iff, forall_const, not_true_eq_false, not_false_eq_true, false_imp_iff, implies_true, eq_self, pz_i, pz_s1, pz_p1, pz_jnt, pz_b0, pz_b1, pz_em, pz_nnt, pz_nm1, pz_10, pz_20, pz_30, Classical.not_not, pz_iT, pz_iF] at k0)
        exact k0
      · (try simp (disch := omega) only [pz_me h1, forall_eq, true_and, and_true, true_imp_iff, forall_const, not_true_eq_false, not_false_eq_true, false_imp_iff, implies_true, eq_self, pz_i, pz_s1, pz_p1, pz_jnt, pz_b0, pz_b1, pz_em, pz_nnt, pz_nm1, pz_10, pz_20, pz_30, Classical.not_not, q, q2, pz_c21, mv_birds h1, eb])
        (try simp (disch := omega) only [forall_eq, true_and, and_true, true_imp_iff, forall_const, not_true_eq_false, not_false_eq_true, false_imp_iff, implies_true, eq_self, pz_i, pz_s1, pz_p1, pz_jnt, pz_b0, pz_b1, pz_em, pz_nnt, pz_nm1, pz_10, pz_20, pz_30, Classical.not_not, pz_iT, pz_iF, pz_c21] at k0)
        exact k0
      · (try simp (disch := omega) only [pz_me h1, forall_eq, true_and, and_true, true_imp_iff, forall_const, not_true_eq_false, not_false_eq_true, false_imp_iff, implies_true, eq_self, pz_i, pz_s1, pz_p1, pz_jnt, pz_b0, pz_b1, pz_em, pz_nnt, pz_nm1, pz_10, pz_20, pz_30, Classical.not_not, q, q2, pz_c31, pz_c32])
        (try simp (disch := omega) only [forall_eq, true_and, and_true, true_imp_iff, forall_const, not_true_eq_false, not_false_eq_true, false_imp_iff, implies_true, eq_self, pz_i, pz_s1, pz_p1, pz_jnt, pz_b0, pz_b1, pz_em, pz_nnt, pz_nm1, pz_10, pz_20, pz_30, Classical.not_not, pz_iT, pz_iF, pz_c31, pz_c32] at k0)
        exact k0
    · have h1 := pz_ms0 h (v := 1)
      (try simp (disch := omega) only [pz_me h1, forall_eq, true_and, and_true, true_imp_iff, forall_const, not_true_eq_false, not_false_eq_true, false_imp_iff, implies_true, eq_self, pz_i, pz_s1, pz_p1, pz_jnt, pz_b0, pz_b1, pz_em, pz_nnt, pz_nm1, pz_10, pz_20, pz_30, Classical.not_not, q, q2])
      exact k1 (fun z => q2 z.2) _ h1
  · have h1 := pz_ms0 h (v := 1)
    (try simp (disch := omega) only [pz_me h1, forall_eq, true_and, and_true, true_imp_iff, forall_const, not_true_eq_false, not_false_eq_true, false_imp_iff, implies_true, eq_self, pz_i, pz_s1, pz_p1, pz_jnt, pz_b0, pz_b1, pz_em, pz_nnt, pz_nm1, pz_10, pz_20, pz_30, Classical.not_not, q])
    exact k1 (fun z => q z.1) _ h1
theorem cp_square (h : pz_c sc sq pa ri mp ca dr pe U V w0 w) (I : pz_I sc sq pa ri mp ca dr pe) (hU : U ≤ 190000) (hV : V ≤ 3900000) (k0 : (pw_jn x 100 ∧ pz_in y 0 3) → ∀ w1, pz_c sc sq pa ri mp ca dr pe (U + 0) (V + 0) w0 w1 → K w1 (pz_sqv sc sq (pw_i x) y)) (k1 : ¬ (pw_jn x 100 ∧ pz_in y 0 3) → ∀ w1, pz_c sc sq pa ri mp ca dr pe (U + 1) (V + 6) w0 w1 → X w1 1) : wp_X_square w x y K X := by
  unfold wp_X_square
  rw [cv_squareNumbered h]
  refine ⟨fun q => ?_, fun q => cu_thr h (by omega) (by omega) (pz_hL I) I.gr.1 (k1 fun z => q z.1)⟩
  rw [pz_inT]
  refine ⟨fun z => cu_thr h (by omega) (by omega) (pz_hL I) I.gr.1 (k1 fun q => z q.2), ?_⟩
  obtain ⟨c, hc, rfl⟩ := pz_of q
  have ku := fun q2 => k0 ⟨q, q2⟩ _ h
  unfold pz_sqv at ku
  rw [pz_i (by omega)] at ku
  (try simp (disch := omega) only [pz_ce h, pz_k14 h, pz_k60 h, pz_k23 h, pz_k30 h, pz_k31 h, pz_k34 h, pz_k35 h, pz_kl11 h, pz_k11 h, pz_k15 h, pz_k40 h, pz_k41 h, pz_k42 h, pz_k25 h, pz_km0 h, pz_km1 h, pz_km2 h, pz_kc0 h, pz_kc1 h, pz_kc2 h, pz_kc3 h, pz_kc4 h, pz_kc6 h, pz_kc7 h, pz_kl12 h, pz_k12 h, pz_kd0 h, pz_kd1 h, forall_eq, true_and, and_true, true_imp_iff, forall_const, not_true_eq_false, not_false_eq_true, false_imp_iff, implies_true, eq_self, pz_i, pz_s1, pz_p1, pz_jnt, pz_b0, pz_b1, pz_em, pz_nnt, pz_nm1, pz_10, pz_20, pz_30, Classical.not_not, cv_countBirds h I.gq.1])
  refine ⟨fun z => ?_, fun z => ?_, fun z => ?_, fun z => ?_⟩
  · have k0 := ku (by rw [z]; unfold pz_in; decide)
    rw [pz_it z] at k0; exact k0
  · have k0 := ku (by rw [z]; unfold pz_in; decide)
    rw [pz_if' (by rw [z]; decide), pz_it z] at k0; exact k0
  · have k0 := ku (by rw [z]; unfold pz_in; decide)
    rw [pz_if' (by rw [z]; decide), pz_if' (by rw [z]; decide), pz_it z] at k0; exact k0
  · have k0 := ku (by rw [z]; unfold pz_in; decide)
    rw [pz_if' (by rw [z]; decide), pz_if' (by rw [z]; decide), pz_if' (by rw [z]; decide)] at k0
    rw [cv_numberOf h (I.gq.2.2.2 c hc)]; exact k0
theorem pi_square (I : pz_I sc sq pa ri mp ca dr pe) (c1 : pw_jn x 100 ∧ pz_in y 0 3) : pz_I sc sq pa ri mp ca dr pe := I
theorem br_square {G Z : pw_W → Prop} (hR : pz_R i w) (hi : i < 512) (kk : ∀ w2, pz_R (i + 1) w2 → G w2) : wp_L_square w x y (fun w1 r1 => wp_M_square w1 x y (pz_T G Z r1) (fun _ _ => False)) (fun _ _ => False) := by
  obtain ⟨sc, sq, pa, ri, mp, ca, dr, pe, I, hm, hc⟩ := hR
  unfold wp_L_square
  refine cp_square hc I (by omega) (by omega) (fun c1 w1 h1 => ⟨pz_o13 h1, fun w4 e4 => ?_⟩) (fun c1 w1 h1 => ⟨rfl, ?_⟩)
  · have h4 : pz_c sc sq pa ri mp ca dr pe (4000 + 200 * i + 0) (200000 + 6000 * i + 0) w w4 := by rw [e4]; exact csout h1
    have hm4 := pz_mid hm h4
    have e13 : w4.1 13 0 0 = pz_sqv sc sq (pw_i x) y := by rw [e4]; exact pz_pss
    exact mp_square hm4 I (fun _ w2 h2 => pz_fin0 (pi_square I c1) h4 h2 (by omega) (by omega) e13 kk) (fun d1 _ _ => absurd c1 d1)
  · have hm4 := pz_mid hm h1
    exact mp_square hm4 I (fun d1 _ _ => absurd d1 c1) (fun _ w2 h2 => pz_fin1 I h1 h2 (by omega) (by omega) (by decide) kk)
noncomputable def pz_wav (sc : pz_S) (sq : pz_Q) (y : Int32) : Int32 := pz_ite (y = 0) (pz_su (fun _ => True) (sq.1 7) 100) (pz_ite (y = 1) (sc 3) (pz_ite (y = 2) (sc 4) (sc 5)))
theorem mp_water (h : pz_m sc sq pa ri mp ca dr pe w0 w) (I : pz_I sc sq pa ri mp ca dr pe) (k0 : (pz_in x 0 3) → ∀ w1, pz_m (pz_u1 sc 0 0) sq pa ri mp ca dr pe w0 w1 → K w1 (pz_wav sc sq x)) (k1 : ¬ (pz_in x 0 3) → ∀ w1, pz_m (pz_u1 sc 0 1) sq pa ri mp ca dr pe w0 w1 → K w1 0) : wp_M_water w x K X := by
  unfold wp_M_water jp_M_water_15
  simp only [mv_isIn, mu_isFine, pz_b0, Classical.not_not]
  by_cases q : pz_in x 0 3
  · have h1 := pz_ms0 h (v := 0)
    (try simp (disch := omega) only [pz_me h1, forall_eq, true_and, and_true, true_imp_iff, forall_const, not_true_eq_false, not_false_eq_true, false_imp_iff, implies_true, eq_self, pz_i, pz_s1, pz_p1, pz_jnt, pz_b0, pz_b1, pz_em, pz_nnt, pz_nm1, pz_10, pz_20, pz_30, Classical.not_not, q])
    have e : (∃ k, lp_M_water_27 K X k x 0 0 (pw_ps w 8 0 0 0)) = K (pw_ps w 8 0 0 0) (pz_wav sc sq x) := by
      refine pz_upe (F := fun k t => lp_M_water_27 K X k x (pz_su (fun _ => True) (sq.1 7) t) (nI t) (pw_ps w 8 0 0 0)) 100 (fun s => rfl) (fun t k ht => Or.inl ?_) (fun k => ?_)
      · rw [lp_M_water_27_s]
        (try simp (disch := omega) only [pz_me h1, forall_eq, true_and, and_true, true_imp_iff, forall_const, not_true_eq_false, not_false_eq_true, false_imp_iff, implies_true, eq_self, pz_i, pz_s1, pz_p1, pz_jnt, pz_b0, pz_b1, pz_em, pz_nnt, pz_nm1, pz_10, pz_20, pz_30, Classical.not_not, pz_l100, pz_le, pz_suS, pz_iT, show ¬ 100 ≤ t by omega])
      · rw [lp_M_water_27_s]
        unfold pz_wav
        (try simp (disch := omega) only [pz_me h1, forall_eq, true_and, and_true, true_imp_iff, forall_const, not_true_eq_false, not_false_eq_true, false_imp_iff, implies_true, eq_self, pz_i, pz_s1, pz_p1, pz_jnt, pz_b0, pz_b1, pz_em, pz_nnt, pz_nm1, pz_10, pz_20, pz_30, Classical.not_not, pz_l100, pz_le, Nat.le_refl])
        rcases pz_in4 q with rfl | rfl | rfl | rfl
        · (try simp (disch := omega) only [forall_eq, true_and, and_true, true_imp_iff, forall_const, not_true_eq_false, not_false_eq_true, false_imp_iff, implies_true, eq_self, pz_i, pz_s1, pz_p1, pz_jnt, pz_b0, pz_b1, pz_em, pz_nnt, pz_nm1, pz_10, pz_20, pz_30, Classical.not_not, pz_iT, pz_c01, pz_c02])
        · (try simp (disch := omega) only [forall_eq, true_and, and_true, true_imp_iff, forall_const, not_true_eq_false, not_false_eq_true, false_imp_iff, implies_true, eq_self, pz_i, pz_s1, pz_p1, pz_jnt, pz_b0, pz_b1, pz_em, pz_nnt, pz_nm1, pz_10, pz_20, pz_30, Classical.not_not, pz_iT, pz_iF, pz_c12])
          rfl
        · (try simp (disch := omega) only [forall_eq, true_and, and_true, true_imp_iff, forall_const, not_true_eq_false, not_false_eq_true, false_imp_iff, implies_true, eq_self, pz_i, pz_s1, pz_p1, pz_jnt, pz_b0, pz_b1, pz_em, pz_nnt, pz_nm1, pz_10, pz_20, pz_30, Classical.not_not, pz_iT, pz_iF, pz_c21])
          rfl
        · (try simp (disch := omega) only [forall_eq, true_and, and_true, true_imp_iff, forall_const, not_true_eq_false, not_false_eq_true, false_imp_iff, implies_true, eq_self, pz_i, pz_s1, pz_p1, pz_jnt, pz_b0, pz_b1, pz_em, pz_nnt, pz_nm1, pz_10, pz_20, pz_30, Classical.not_not, pz_iT, pz_iF, pz_c31, pz_c32])
          rfl
    rw [e]
    exact k0 q _ h1
  · have h1 := pz_ms0 h (v := 1)
    (try simp (disch := omega) only [pz_me h1, forall_eq, true_and, and_true, true_imp_iff, forall_const, not_true_eq_false, not_false_eq_true, false_imp_iff, implies_true, eq_self, pz_i, pz_s1, pz_p1, pz_jnt, pz_b0, pz_b1, pz_em, pz_nnt, pz_nm1, pz_10, pz_20, pz_30, Classical.not_not, q])
    exact k1 q _ h1
theorem cp_water (h : pz_c sc sq pa ri mp ca dr pe U V w0 w) (I : pz_I sc sq pa ri mp ca dr pe) (hU : U ≤ 190000) (hV : V ≤ 3900000) (k0 : (pz_in x 0 3) → ∀ w1, pz_c sc sq pa ri mp ca dr pe (U + 0) (V + 0) w0 w1 → K w1 (pz_wav sc sq x)) (k1 : ¬ (pz_in x 0 3) → ∀ w1, pz_c sc sq pa ri mp ca dr pe (U + 1) (V + 6) w0 w1 → X w1 1) : wp_X_water w x K X := by
  unfold wp_X_water
  rw [pz_inT, cv_countWater h]
  have ku := fun q2 => k0 q2 _ h
  unfold pz_wav at ku
  (try simp (disch := omega) only [pz_ce h, pz_k14 h, pz_k60 h, pz_k23 h, pz_k30 h, pz_k31 h, pz_k34 h, pz_k35 h, pz_kl11 h, pz_k11 h, pz_k15 h, pz_k40 h, pz_k41 h, pz_k42 h, pz_k25 h, pz_km0 h, pz_km1 h, pz_km2 h, pz_kc0 h, pz_kc1 h, pz_kc2 h, pz_kc3 h, pz_kc4 h, pz_kc6 h, pz_kc7 h, pz_kl12 h, pz_k12 h, pz_kd0 h, pz_kd1 h, forall_eq, true_and, and_true, true_imp_iff, forall_const, not_true_eq_false, not_false_eq_true, false_imp_iff, implies_true, eq_self, pz_i, pz_s1, pz_p1, pz_jnt, pz_b0, pz_b1, pz_em, pz_nnt, pz_nm1, pz_10, pz_20, pz_30, Classical.not_not])
  refine ⟨fun z => cu_thr h (by omega) (by omega) (pz_hL I) I.gr.1 (k1 z), fun z => ?_, fun z => ?_, fun z => ?_, fun z => ?_⟩
  · have k0 := ku (by rw [z]; unfold pz_in; decide)
    rw [pz_it z] at k0; exact k0
  · have k0 := ku (by rw [z]; unfold pz_in; decide)
    rw [pz_if' (by rw [z]; decide), pz_it z] at k0; exact k0
  · have k0 := ku (by rw [z]; unfold pz_in; decide)
    rw [pz_if' (by rw [z]; decide), pz_if' (by rw [z]; decide), pz_it z] at k0; exact k0
  · have k0 := ku (by rw [z]; unfold pz_in; decide)
    rw [pz_if' (by rw [z]; decide), pz_if' (by rw [z]; decide), pz_if' (by rw [z]; decide)] at k0; exact k0
theorem pi_water (I : pz_I sc sq pa ri mp ca dr pe) (c1 : pz_in x 0 3) : pz_I sc sq pa ri mp ca dr pe := I
theorem br_water {G Z : pw_W → Prop} (hR : pz_R i w) (hi : i < 512) (kk : ∀ w2, pz_R (i + 1) w2 → G w2) : wp_L_water w x (fun w1 r1 => wp_M_water w1 x (pz_T G Z r1) (fun _ _ => False)) (fun _ _ => False) := by
  obtain ⟨sc, sq, pa, ri, mp, ca, dr, pe, I, hm, hc⟩ := hR
  unfold wp_L_water
  refine cp_water hc I (by omega) (by omega) (fun c1 w1 h1 => ⟨pz_o13 h1, fun w4 e4 => ?_⟩) (fun c1 w1 h1 => ⟨rfl, ?_⟩)
  · have h4 : pz_c sc sq pa ri mp ca dr pe (4000 + 200 * i + 0) (200000 + 6000 * i + 0) w w4 := by rw [e4]; exact csout h1
    have hm4 := pz_mid hm h4
    have e13 : w4.1 13 0 0 = pz_wav sc sq x := by rw [e4]; exact pz_pss
    exact mp_water hm4 I (fun _ w2 h2 => pz_fin0 (pi_water I c1) h4 h2 (by omega) (by omega) e13 kk) (fun d1 _ _ => absurd c1 d1)
  · have hm4 := pz_mid hm h1
    exact mp_water hm4 I (fun d1 _ _ => absurd d1 c1) (fun _ w2 h2 => pz_fin1 I h1 h2 (by omega) (by omega) (by decide) kk)
theorem br_today {G Z : pw_W → Prop} (hR : pz_R i w) (kk : ∀ w2, pz_R (i + 1) w2 → G w2) : wp_X_today w (fun w1 r1 => wp_M_today w1 (fun w2 r2 => (r1 = r2 → G w2) ∧ (¬ r1 = r2 → Z w2)) (fun _ _ => False)) (fun _ _ => False) := by
  obtain ⟨sc, sq, pa, ri, mp, ca, dr, pe, I, hm, hc⟩ := hR
  unfold wp_X_today wp_M_today
  have h1 := pz_ms0 hm (v := 0)
  (try simp (disch := omega) only [pz_ce hc, pz_k14 hc, pz_k60 hc, pz_k23 hc, pz_k30 hc, pz_k31 hc, pz_k34 hc, pz_k35 hc, pz_kl11 hc, pz_k11 hc, pz_k15 hc, pz_k40 hc, pz_k41 hc, pz_k42 hc, pz_k25 hc, pz_km0 hc, pz_km1 hc, pz_km2 hc, pz_kc0 hc, pz_kc1 hc, pz_kc2 hc, pz_kc3 hc, pz_kc4 hc, pz_kc6 hc, pz_kc7 hc, pz_kl12 hc, pz_k12 hc, pz_kd0 hc, pz_kd1 hc, forall_eq, true_and, and_true, true_imp_iff, forall_const, not_true_eq_false, not_false_eq_true, false_imp_iff, implies_true, eq_self, pz_i, pz_s1, pz_p1, pz_jnt, pz_b0, pz_b1, pz_em, pz_nnt, pz_nm1, pz_10, pz_20, pz_30, Classical.not_not])
  (try simp (disch := omega) only [pz_me h1, forall_eq, true_and, and_true, true_imp_iff, forall_const, not_true_eq_false, not_false_eq_true, false_imp_iff, implies_true, eq_self, pz_i, pz_s1, pz_p1, pz_jnt, pz_b0, pz_b1, pz_em, pz_nnt, pz_nm1, pz_10, pz_20, pz_30, Classical.not_not])
  have e : pz_u1 sc 0 0 1 = sc 1 := rfl
  refine ⟨fun _ => kk _ ⟨pz_u1 sc 0 0, sq, pa, ri, mp, ca, dr, pe, I, ⟨⟨fun _ _ _ => rfl, rfl⟩, h1.2⟩, (pz_c.shift hc h1.1.1 h1.1.2).up (by omega) (by omega)⟩, fun q => absurd e.symm q⟩
theorem br_parcels {G Z : pw_W → Prop} (hR : pz_R i w) (kk : ∀ w2, pz_R (i + 1) w2 → G w2) : wp_X_parcels w (fun w1 r1 => wp_M_parcels w1 (fun w2 r2 => (r1 = r2 → G w2) ∧ (¬ r1 = r2 → Z w2)) (fun _ _ => False)) (fun _ _ => False) := by
  obtain ⟨sc, sq, pa, ri, mp, ca, dr, pe, I, hm, hc⟩ := hR
  unfold wp_X_parcels wp_M_parcels
  have h1 := pz_ms0 hm (v := 0)
  (try simp (disch := omega) only [pz_ce hc, pz_k14 hc, pz_k60 hc, pz_k23 hc, pz_k30 hc, pz_k31 hc, pz_k34 hc, pz_k35 hc, pz_kl11 hc, pz_k11 hc, pz_k15 hc, pz_k40 hc, pz_k41 hc, pz_k42 hc, pz_k25 hc, pz_km0 hc, pz_km1 hc, pz_km2 hc, pz_kc0 hc, pz_kc1 hc, pz_kc2 hc, pz_kc3 hc, pz_kc4 hc, pz_kc6 hc, pz_kc7 hc, pz_kl12 hc, pz_k12 hc, pz_kd0 hc, pz_kd1 hc, forall_eq, true_and, and_true, true_imp_iff, forall_const, not_true_eq_false, not_false_eq_true, false_imp_iff, implies_true, eq_self, pz_i, pz_s1, pz_p1, pz_jnt, pz_b0, pz_b1, pz_em, pz_nnt, pz_nm1, pz_10, pz_20, pz_30, Classical.not_not])
  (try simp (disch := omega) only [pz_me h1, forall_eq, true_and, and_true, true_imp_iff, forall_const, not_true_eq_false, not_false_eq_true, false_imp_iff, implies_true, eq_self, pz_i, pz_s1, pz_p1, pz_jnt, pz_b0, pz_b1, pz_em, pz_nnt, pz_nm1, pz_10, pz_20, pz_30, Classical.not_not])
  exact kk _ ⟨pz_u1 sc 0 0, sq, pa, ri, mp, ca, dr, pe, I, ⟨⟨fun _ _ _ => rfl, rfl⟩, h1.2⟩, (pz_c.shift hc h1.1.1 h1.1.2).up (by omega) (by omega)⟩
end PZOQ
