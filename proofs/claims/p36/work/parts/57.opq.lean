/-! public methods: more of what is asked -/
section PZOQ
variable {sc : pz_S} {sq : pz_Q} {pa : pz_P} {ri : pz_N} {mp : pz_N} {ca : pz_P} {dr : pz_N} {pe : pz_Q} {U V : Nat} {w0 w : pw_W} {K : pw_W → Int32 → Prop} {X : pw_W → Nat → Prop} {x y z t : Int32} {i s r c j n p q a b : Nat}
theorem pz_sub (h : b ≤ a) : nI a - nI b = nI (a - b) := (Int32.ofNat_sub a b h).symm
noncomputable def pz_chv (sq : pz_Q) (x y : Int32) : Int32 := pz_ite (sq.1 14 (pw_i x) ≤ y) (-1) (sq.2 (pw_i x) (pw_i (sq.1 14 (pw_i x) - 1 - y)))
theorem cp_chain (h : pz_c sc sq pa ri mp ca dr pe U V w0 w) (I : pz_I sc sq pa ri mp ca dr pe) (hU : U ≤ 190000) (hV : V ≤ 3900000) (k0 : (pw_jn x 100 ∧ 0 ≤ y) → ∀ w1, pz_c sc sq pa ri mp ca dr pe (U + 0) (V + 0) w0 w1 → K w1 (pz_chv sq x y)) (k1 : ¬ (pw_jn x 100 ∧ 0 ≤ y) → ∀ w1, pz_c sc sq pa ri mp ca dr pe (U + 1) (V + 6) w0 w1 → X w1 1) : wp_X_chain w x y K X := by
  unfold wp_X_chain wp_Square_parcelBefore
  rw [cv_squareNumbered h]
  refine ⟨fun q => ?_, fun q => cu_thr h (by omega) (by omega) (pz_hL I) I.gr.1 (k1 fun z => q z.1)⟩
  refine ⟨fun q2 => ?_, fun q2 => cu_thr h (by omega) (by omega) (pz_hL I) I.gr.1 (k1 fun z => q2 z.2)⟩
  have q3 : ¬ y < 0 := Int32.not_lt.mpr q2
  obtain ⟨a, ha, rfl⟩ := pz_of q
  obtain ⟨l, e, hl1, hl2⟩ := I.gl.gb I.gp.1.2 ha
  have k0 := k0 ⟨q, q2⟩ _ h
  unfold pz_chv at k0
  rw [pz_i (by omega), e] at k0
  have hk := pz_kl10 h a ha
  have hk0 := (pz_k62 h a ha).1
  rw [e, pz_i (by omega)] at hk
  (try simp (disch := omega) only [pz_ce h, pz_k14 h, pz_k60 h, pz_k23 h, pz_k30 h, pz_k31 h, pz_k34 h, pz_k35 h, pz_kl11 h, pz_k11 h, pz_k15 h, pz_k40 h, pz_k41 h, pz_k42 h, pz_k25 h, pz_km0 h, pz_km1 h, pz_km2 h, pz_kc0 h, pz_kc1 h, pz_kc2 h, pz_kc3 h, pz_kc4 h, pz_kc6 h, pz_kc7 h, pz_kl12 h, pz_k12 h, pz_kd0 h, pz_kd1 h, forall_eq, true_and, and_true, true_imp_iff, forall_const, not_true_eq_false, not_false_eq_true, false_imp_iff, implies_true, eq_self, pz_i, pz_s1, pz_p1, pz_jnt, pz_b0, pz_b1, pz_em, pz_nnt, pz_nm1, pz_10, pz_20, pz_30, Classical.not_not, cv_isInRange, e, pz_in_jn, hk0])
  refine ⟨fun z => ?_, fun z => ?_⟩
  · have z2 : nI l ≤ y := by rw [pz_jlt (by omega)] at z; exact Int32.not_lt.mp fun w => z ⟨q3, w⟩
    rw [pz_it z2] at k0; exact k0
  · obtain ⟨b, hb, rfl⟩ := pz_of z
    have z2 : ¬ nI l ≤ nI b := by rw [pz_le (by omega) (by omega)]; omega
    rw [pz_if' z2, show (1 : Int32) = nI 1 from rfl, pz_sub hl1, pz_sub (by omega), pz_i (by omega)] at k0
    rw [show (1 : Int32) = nI 1 from rfl, pz_sub hl1, pz_sub (by omega), pz_i (by omega), pz_k10 h a _ ha (by rw [e, pz_i (by omega)]; omega)]
    exact ⟨pz_jn (by omega) (by omega), k0⟩
theorem pi_chain (I : pz_I sc sq pa ri mp ca dr pe) (c1 : pw_jn x 100 ∧ 0 ≤ y) : pz_I sc sq pa ri mp ca dr pe := I
theorem pz_in4 (h : pz_in y 0 3) : y = 0 ∨ y = 1 ∨ y = 2 ∨ y = 3 := by
  rw [show pz_in y 0 3 = pw_jn y 4 from pz_in_jn (n := 4) (by decide)] at h
  obtain ⟨a, ha, rfl⟩ := pz_of h
  have : a = 0 ∨ a = 1 ∨ a = 2 ∨ a = 3 := by omega
  rcases this with rfl | rfl | rfl | rfl
  · exact Or.inl rfl
  · exact Or.inr (Or.inl rfl)
  · exact Or.inr (Or.inr (Or.inl rfl))
  · exact Or.inr (Or.inr (Or.inr rfl))
theorem pz_in5 (h : pz_in y 0 4) : y = 0 ∨ y = 1 ∨ y = 2 ∨ y = 3 ∨ y = 4 := by
  rw [show pz_in y 0 4 = pw_jn y 5 from pz_in_jn (n := 5) (by decide)] at h
  obtain ⟨a, ha, rfl⟩ := pz_of h
  have : a = 0 ∨ a = 1 ∨ a = 2 ∨ a = 3 ∨ a = 4 := by omega
  rcases this with rfl | rfl | rfl | rfl | rfl
  · exact Or.inl rfl
  · exact Or.inr (Or.inl rfl)
  · exact Or.inr (Or.inr (Or.inl rfl))
  · exact Or.inr (Or.inr (Or.inr (Or.inl rfl)))
  · exact Or.inr (Or.inr (Or.inr (Or.inr rfl)))
theorem pz_inT : (y.toInt < 0 ∨ 3 < y.toInt) = ¬ pz_in y 0 3 := by
  unfold pz_in
  rw [Int32.lt_iff_toInt_lt, Int32.lt_iff_toInt_lt, show (0 : Int32).toInt = 0 from rfl, show (3 : Int32).toInt = 3 from rfl]
  exact propext ⟨fun h q => by omega, fun h => by omega⟩
theorem pz_c01 : ((0 : Int32) = 1) = False := by decide
theorem pz_c02 : ((0 : Int32) = 2) = False := by decide
theorem pz_c03 : ((0 : Int32) = 3) = False := by decide
theorem pz_c12 : ((1 : Int32) = 2) = False := by decide
theorem pz_c13 : ((1 : Int32) = 3) = False := by decide
theorem pz_c21 : ((2 : Int32) = 1) = False := by decide
theorem pz_c23 : ((2 : Int32) = 3) = False := by decide
theorem pz_c31 : ((3 : Int32) = 1) = False := by decide
theorem pz_c32 : ((3 : Int32) = 2) = False := by decide
theorem pz_c40 : ((4 : Int32) = 0) = False := by decide
theorem pz_c41 : ((4 : Int32) = 1) = False := by decide
theorem pz_c42 : ((4 : Int32) = 2) = False := by decide
theorem pz_c43 : ((4 : Int32) = 3) = False := by decide
noncomputable def pz_cav (sq : pz_Q) (ca : pz_P) (c : Nat) (y : Int32) : Int32 := pz_ite (y = 0) (ca.2.1 32 c) (pz_ite (y = 1) (ca.2.1 33 c) (pz_ite (y = 3) (pz_ct (fun s => sq.1 12 s = nI c) 100) (pz_ct (fun s => ¬ ca.2.2 c s = 0) 100)))
theorem cp_caseAt (h : pz_c sc sq pa ri mp ca dr pe U V w0 w) (I : pz_I sc sq pa ri mp ca dr pe) (hU : U ≤ 190000) (hV : V ≤ 3900000) (k0 : (pw_jn x ca.1 ∧ pz_in y 0 3) → ∀ w1, pz_c sc sq pa ri mp ca dr pe (U + 0) (V + 0) w0 w1 → K w1 (pz_cav sq ca (pw_i x) y)) (k1 : ¬ (pw_jn x ca.1 ∧ pz_in y 0 3) → ∀ w1, pz_c sc sq pa ri mp ca dr pe (U + 1) (V + 6) w0 w1 → X w1 1) : wp_X_caseAt w x y K X := by
  unfold wp_X_caseAt
  rw [cv_caseNumbered h I.gc.1]
  refine ⟨fun q => ?_, fun q => cu_thr h (by omega) (by omega) (pz_hL I) I.gr.1 (k1 fun z => q z.1)⟩
  rw [pz_inT]
  refine ⟨fun z => cu_thr h (by omega) (by omega) (pz_hL I) I.gr.1 (k1 fun q => z q.2), ?_⟩
  have g0 := (pz_k20 h _ q.2).1
  obtain ⟨c, hc, rfl⟩ := pz_of q
  have hc16 : c < 16 := Nat.lt_of_lt_of_le hc I.gc.1
  rw [pz_i (by omega)] at g0 ⊢
  have ku := fun q2 => k0 ⟨q, q2⟩ _ h
  unfold pz_cav at ku
  rw [pz_i (by omega)] at ku
  refine ⟨fun z => ⟨g0, ?_⟩, fun z => ⟨g0, ?_⟩, fun z => ⟨g0, ?_⟩, fun z => ?_⟩
  · have k0 := ku (by rw [z]; unfold pz_in; decide)
    rw [pz_it z] at k0; rw [pz_kc3 h c hc]; exact k0
  · have k0 := ku (by rw [z]; unfold pz_in; decide)
    rw [pz_if' (by rw [z]; decide), pz_it z] at k0; rw [pz_kc4 h c hc]; exact k0
  · have k0 := ku (by rw [z]; unfold pz_in; decide)
    rw [pz_if' (by rw [z]; decide), pz_if' (by rw [z]; decide), pz_if' (by rw [z]; decide)] at k0; rw [pz_kc2 h c hc]; exact k0
  · have k0 := ku (by rw [z]; unfold pz_in; decide)
    rw [pz_if' (by rw [z]; decide), pz_if' (by rw [z]; decide), pz_it z] at k0; rw [cv_countGivenBy h I.gl.2.1 I.gc.1 hc]; exact k0
theorem pi_caseAt (I : pz_I sc sq pa ri mp ca dr pe) (c1 : pw_jn x ca.1 ∧ pz_in y 0 3) : pz_I sc sq pa ri mp ca dr pe := I
noncomputable def pz_rav (sq : pz_Q) (ri : pz_N) (r : Nat) (y : Int32) : Int32 := pz_ite (ri.2 25 r = 0) (pz_ite (y = 0) (ri.2 20 r) (pz_ite (y = 1) (ri.2 21 r) (pz_ite (y = 2) (ri.2 22 r) (pz_ite (y = 3) (pz_wo ri sq r) (ri.2 24 r))))) (-1)
theorem cp_rightAt (h : pz_c sc sq pa ri mp ca dr pe U V w0 w) (I : pz_I sc sq pa ri mp ca dr pe) (hU : U ≤ 190000) (hV : V ≤ 3900000) (k0 : (pw_jn x ri.1 ∧ pz_in y 0 4) → ∀ w1, pz_c sc sq pa ri mp ca dr pe (U + 0) (V + 0) w0 w1 → K w1 (pz_rav sq ri (pw_i x) y)) (k1 : ¬ (pw_jn x ri.1 ∧ pz_in y 0 4) → ∀ w1, pz_c sc sq pa ri mp ca dr pe (U + 1) (V + 6) w0 w1 → X w1 1) : wp_X_rightAt w x y K X := by
  unfold wp_X_rightAt
  rw [cv_rightNumbered h I.gr.1]
  refine ⟨fun q => ?_, fun q => cu_thr h (by omega) (by omega) (pz_hL I) I.gr.1 (k1 fun z => q z.1)⟩
  have e4 : pz_in y 0 4 = pw_jn y 5 := pz_in_jn (n := 5) (by decide)
  rw [pz_l5, cv_checkIndex (by decide), ← e4]
  refine ⟨fun q2 => ?_, fun q2 => cu_thr h (by omega) (by omega) (pz_hL I) I.gr.1 (k1 fun z => q2 z.2)⟩
  obtain ⟨c, hc, rfl⟩ := pz_of q
  have hr80 := I.gr.1
  obtain ⟨j1, j2, j3⟩ := I.gr.2.1 c hc
  have k0 := k0 ⟨q, q2⟩ _ h
  unfold pz_rav at k0
  rw [pz_i (by omega)] at k0
  have j10 := j1.1
  have j20 := j2.1
  (try simp (disch := omega) only [pz_ce h, pz_k14 h, pz_k60 h, pz_k23 h, pz_k30 h, pz_k31 h, pz_k34 h, pz_k35 h, pz_kl11 h, pz_k11 h, pz_k15 h, pz_k40 h, pz_k41 h, pz_k42 h, pz_k25 h, pz_km0 h, pz_km1 h, pz_km2 h, pz_kc0 h, pz_kc1 h, pz_kc2 h, pz_kc3 h, pz_kc4 h, pz_kc6 h, pz_kc7 h, pz_kl12 h, pz_k12 h, pz_kd0 h, pz_kd1 h, forall_eq, true_and, and_true, true_imp_iff, forall_const, not_true_eq_false, not_false_eq_true, false_imp_iff, implies_true, eq_self, pz_i, pz_s1, pz_p1, pz_jnt, pz_b0, pz_b1, pz_em, pz_nnt, pz_nm1, pz_10, pz_20, pz_30, Classical.not_not, j10, j20])
  refine ⟨fun q3 => ?_, fun q3 => ?_⟩
  · rw [pz_it q3] at k0
    rw [pz_inT]
    refine ⟨fun z => ?_, fun z => ?_, fun z => ?_, fun z => ?_, fun z => ?_⟩
    · have z4 : y = 4 := by
        rcases pz_in5 q2 with h | h | h | h | h
        · exact absurd (by rw [h]; unfold pz_in; decide) z
        · exact absurd (by rw [h]; unfold pz_in; decide) z
        · exact absurd (by rw [h]; unfold pz_in; decide) z
        · exact absurd (by rw [h]; unfold pz_in; decide) z
        · exact h
      subst z4
      (try simp (disch := omega) only [forall_eq, true_and, and_true, true_imp_iff, forall_const, not_true_eq_false, not_false_eq_true, false_imp_iff, implies_true, eq_self, pz_i, pz_s1, pz_p1, pz_jnt, pz_b0, pz_b1, pz_em, pz_nnt, pz_nm1, pz_10, pz_20, pz_30, Classical.not_not, pz_iT, pz_iF, pz_c40, pz_c41, pz_c42, pz_c43] at k0)
      exact k0
    · rw [pz_it z] at k0; exact k0
    · rw [pz_if' (by rw [z]; decide), pz_it z] at k0
      rw [pz_k30 h _ j1.2, pw_nIi j1.1]; exact k0
    · rw [pz_if' (by rw [z]; decide), pz_if' (by rw [z]; decide), pz_it z] at k0
      rw [pz_k40 h _ j2.2, pw_nIi j2.1]; exact k0
    · rw [pz_if' (by rw [z]; decide), pz_if' (by rw [z]; decide), pz_if' (by rw [z]; decide), pz_it z] at k0
      rw [cv_worthOf h I.gr.2.1 I.gr.1 hc]; exact k0
  · rw [pz_if' q3] at k0; exact k0
theorem pi_rightAt (I : pz_I sc sq pa ri mp ca dr pe) (c1 : pw_jn x ri.1 ∧ pz_in y 0 4) : pz_I sc sq pa ri mp ca dr pe := I
noncomputable def pz_sqv (sc : pz_S) (sq : pz_Q) (s : Nat) (y : Int32) : Int32 := pz_ite (y = 0) (sq.1 6 s) (pz_ite (y = 1) (sq.1 7 s) (pz_ite (y = 2) (pz_bi sc sq s) (sq.1 10 s)))
theorem cp_square (h : pz_c sc sq pa ri mp ca dr pe U V w0 w) (I : pz_I sc sq pa ri mp ca dr pe) (hU : U ≤ 190000) (hV : V ≤ 3900000) (k0 : (pw_jn x 100 ∧ pz_in y 0 3) → ∀ w1, pz_c sc sq pa ri mp ca dr pe (U + 0) (V + 0) w0 w1 → K w1 (pz_sqv sc sq (pw_i x) y)) (k1 : ¬ (pw_jn x 100 ∧ pz_in y 0 3) → ∀ w1, pz_c sc sq pa ri mp ca dr pe (U + 1) (V + 6) w0 w1 → X w1 1) : wp_X_square w x y K X := by
  unfold wp_X_square
  rw [cv_squareNumbered h]
  refine ⟨fun q => ?_, fun q => cu_thr h (by omega) (by omega) (pz_hL I) I.gr.1 (k1 fun z => q z.1)⟩
  rw [pz_inT]
  refine ⟨fun z => cu_thr h (by omega) (by omega) (pz_hL I) I.gr.1 (k1 fun q => z q.2), ?_⟩
  obtain ⟨c, hc, rfl⟩ := pz_of q
  have ku := fun q2 => k0 ⟨q, q2⟩ _ h
  unfold pz_sqv at ku
  rw [pz_i (by omega)] at ku
  (try simp (disch := omega) only [pz_ce h, pz_k14 h, pz_k60 h, pz_k23 h, pz_k30 h, pz_k31 h, pz_k34 h, pz_k35 h, pz_kl11 h, pz_k11 h, pz_k15 h, pz_k40 h, pz_k41 h, pz_k42 h, pz_k25 h, pz_km0 h, pz_km1 h, pz_km2 h, pz_kc0 h, pz_kc1 h, pz_kc2 h, pz_kc3 h, pz_kc4 h, pz_kc6 h, pz_kc7 h, pz_kl12 h, pz_k12 h, pz_kd0 h, pz_kd1 h, forall_eq, true_and, and_true, true_imp_iff, forall_const, not_true_eq_false, not_false_eq_true, false_imp_iff, implies_true, eq_self, pz_i, pz_s1, pz_p1, pz_jnt, pz_b0, pz_b1, pz_em, pz_nnt, pz_nm1, pz_10, pz_20, pz_30, Classical.not_not, cv_countBirds h I.gq.1])
  refine ⟨fun z => ?_, fun z => ?_, fun z => ?_, fun z => ?_⟩
  · have k0 := ku (by rw [z]; unfold pz_in; decide)
    rw [pz_it z] at k0; exact k0
  · have k0 := ku (by rw [z]; unfold pz_in; decide)
    rw [pz_if' (by rw [z]; decide), pz_it z] at k0; exact k0
  · have k0 := ku (by rw [z]; unfold pz_in; decide)
    rw [pz_if' (by rw [z]; decide), pz_if' (by rw [z]; decide), pz_it z] at k0; exact k0
  · have k0 := ku (by rw [z]; unfold pz_in; decide)
    rw [pz_if' (by rw [z]; decide), pz_if' (by rw [z]; decide), pz_if' (by rw [z]; decide)] at k0
    rw [cv_numberOf h (I.gq.2.2.2 c hc)]; exact k0
theorem pi_square (I : pz_I sc sq pa ri mp ca dr pe) (c1 : pw_jn x 100 ∧ pz_in y 0 3) : pz_I sc sq pa ri mp ca dr pe := I
noncomputable def pz_wav (sc : pz_S) (sq : pz_Q) (y : Int32) : Int32 := pz_ite (y = 0) (pz_su (fun _ => True) (sq.1 7) 100) (pz_ite (y = 1) (sc 3) (pz_ite (y = 2) (sc 4) (sc 5)))
theorem cp_water (h : pz_c sc sq pa ri mp ca dr pe U V w0 w) (I : pz_I sc sq pa ri mp ca dr pe) (hU : U ≤ 190000) (hV : V ≤ 3900000) (k0 : (pz_in x 0 3) → ∀ w1, pz_c sc sq pa ri mp ca dr pe (U + 0) (V + 0) w0 w1 → K w1 (pz_wav sc sq x)) (k1 : ¬ (pz_in x 0 3) → ∀ w1, pz_c sc sq pa ri mp ca dr pe (U + 1) (V + 6) w0 w1 → X w1 1) : wp_X_water w x K X := by
  unfold wp_X_water
  rw [pz_inT, cv_countWater h]
  have ku := fun q2 => k0 q2 _ h
  unfold pz_wav at ku
  (try simp (disch := omega) only [pz_ce h, pz_k14 h, pz_k60 h, pz_k23 h, pz_k30 h, pz_k31 h, pz_k34 h, pz_k35 h, pz_kl11 h, pz_k11 h, pz_k15 h, pz_k40 h, pz_k41 h, pz_k42 h, pz_k25 h, pz_km0 h, pz_km1 h, pz_km2 h, pz_kc0 h, pz_kc1 h, pz_kc2 h, pz_kc3 h, pz_kc4 h, pz_kc6 h, pz_kc7 h, pz_kl12 h, pz_k12 h, pz_kd0 h, pz_kd1 h, forall_eq, true_and, and_true, true_imp_iff, forall_const, not_true_eq_false, not_false_eq_true, false_imp_iff, implies_true, eq_self, pz_i, pz_s1, pz_p1, pz_jnt, pz_b0, pz_b1, pz_em, pz_nnt, pz_nm1, pz_10, pz_20, pz_30, Classical.not_not])
  refine ⟨fun z => cu_thr h (by omega) (by omega) (pz_hL I) I.gr.1 (k1 z), fun z => ?_, fun z => ?_, fun z => ?_, fun z => ?_⟩
  · have k0 := ku (by rw [z]; unfold pz_in; decide)
    rw [pz_it z] at k0; exact k0
  · have k0 := ku (by rw [z]; unfold pz_in; decide)
    rw [pz_if' (by rw [z]; decide), pz_it z] at k0; exact k0
  · have k0 := ku (by rw [z]; unfold pz_in; decide)
    rw [pz_if' (by rw [z]; decide), pz_if' (by rw [z]; decide), pz_it z] at k0; exact k0
  · have k0 := ku (by rw [z]; unfold pz_in; decide)
    rw [pz_if' (by rw [z]; decide), pz_if' (by rw [z]; decide), pz_if' (by rw [z]; decide)] at k0; exact k0
theorem pi_water (I : pz_I sc sq pa ri mp ca dr pe) (c1 : pz_in x 0 3) : pz_I sc sq pa ri mp ca dr pe := I
end PZOQ
