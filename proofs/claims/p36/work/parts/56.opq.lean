/-! public methods: what is asked -/
section PZO
variable {sc : pz_S} {sq : pz_Q} {pa : pz_P} {ri : pz_N} {mp : pz_N} {ca : pz_P} {dr : pz_N} {pe : pz_Q} {U V : Nat} {w0 w : pw_W} {K : pw_W → Int32 → Prop} {X : pw_W → Nat → Prop} {x y z t : Int32} {i s r c j n p q : Nat}
theorem pz_u1c {v : Int32} {k : Nat} (hk : ¬ k = 0) {a : Int32} : pz_u1 (pz_u1 sc 0 a) k v = pz_u1 (pz_u1 sc k v) 0 a := funext fun m => by
  unfold pz_u1
  by_cases e : m = k
  · rw [if_pos e, if_neg (by omega), if_pos e]
  · by_cases e2 : m = 0
    · rw [if_neg e, if_pos e2, if_pos e2]
    · rw [if_neg e, if_neg e2, if_neg e2, if_neg e]
theorem pz_hL (I : pz_I sc sq pa ri mp ca dr pe) : pz_L sq ≤ 12000 := I.gl.L I.gp.1.2
theorem cp_wind (h : pz_c sc sq pa ri mp ca dr pe U V w0 w) (I : pz_I sc sq pa ri mp ca dr pe) (hU : U ≤ 190000) (hV : V ≤ 3900000) (k0 : (pz_in x 0 9) → ∀ w1, pz_c (pz_u1 sc 2 x) sq pa ri mp ca dr pe (U + 0) (V + 0) w0 w1 → K w1 (sc 2)) (k1 : ¬ (pz_in x 0 9) → ∀ w1, pz_c sc sq pa ri mp ca dr pe (U + 1) (V + 6) w0 w1 → X w1 2) : wp_X_wind w x K X := by
  unfold wp_X_wind
  simp only [cv_isInRange, cv_checkArgument]
  refine ⟨fun q => ?_, fun q => cu_thr h (by omega) (by omega) (pz_hL I) I.gr.1 (k1 q)⟩
  (try simp (disch := omega) only [pz_ce h, pz_k14 h, pz_k60 h, pz_k23 h, pz_k30 h, pz_k31 h, pz_k34 h, pz_k35 h, pz_kl11 h, pz_k11 h, pz_k15 h, pz_k40 h, pz_k41 h, pz_k42 h, pz_k25 h, pz_km0 h, pz_km1 h, pz_km2 h, pz_kc0 h, pz_kc1 h, pz_kc2 h, pz_kc3 h, pz_kc4 h, pz_kc6 h, pz_kc7 h, pz_kl12 h, pz_k12 h, pz_kd0 h, pz_kd1 h, forall_eq, true_and, and_true, true_imp_iff, forall_const, not_true_eq_false, not_false_eq_true, false_imp_iff, implies_true, eq_self, pz_i, pz_s1, pz_p1, pz_jnt, pz_b0, pz_b1, pz_em, pz_nnt, pz_nm1, pz_10, pz_20, pz_30, Classical.not_not])
  exact k0 q _ (cs72 h)
theorem pi_wind (I : pz_I sc sq pa ri mp ca dr pe) (c1 : pz_in x 0 9) : pz_I (pz_u1 sc 2 x) sq pa ri mp ca dr pe := I
theorem cp_parcelOf (h : pz_c sc sq pa ri mp ca dr pe U V w0 w) (I : pz_I sc sq pa ri mp ca dr pe) (hU : U ≤ 190000) (hV : V ≤ 3900000) (k0 : (pw_jn x 100) → ∀ w1, pz_c sc sq pa ri mp ca dr pe (U + 0) (V + 0) w0 w1 → K w1 (sq.1 8 (pw_i x))) (k1 : ¬ (pw_jn x 100) → ∀ w1, pz_c sc sq pa ri mp ca dr pe (U + 1) (V + 6) w0 w1 → X w1 1) : wp_X_parcelOf w x K X := by
  unfold wp_X_parcelOf
  rw [cv_squareNumbered h]
  refine ⟨fun q => ?_, fun q => cu_thr h (by omega) (by omega) (pz_hL I) I.gr.1 (k1 q)⟩
  have e8 := I.gl.1 _ q.2
  have e80 := e8.1
  have q0 := q.1
  (try simp (disch := omega) only [pz_ce h, pz_k14 h, pz_k60 h, pz_k23 h, pz_k30 h, pz_k31 h, pz_k34 h, pz_k35 h, pz_kl11 h, pz_k11 h, pz_k15 h, pz_k40 h, pz_k41 h, pz_k42 h, pz_k25 h, pz_km0 h, pz_km1 h, pz_km2 h, pz_kc0 h, pz_kc1 h, pz_kc2 h, pz_kc3 h, pz_kc4 h, pz_kc6 h, pz_kc7 h, pz_kl12 h, pz_k12 h, pz_kd0 h, pz_kd1 h, forall_eq, true_and, and_true, true_imp_iff, forall_const, not_true_eq_false, not_false_eq_true, false_imp_iff, implies_true, eq_self, pz_i, pz_s1, pz_p1, pz_jnt, pz_b0, pz_b1, pz_em, pz_nnt, pz_nm1, pz_10, pz_20, pz_30, Classical.not_not, e80, q0])
  rw [pz_k30 h _ e8.2, pw_nIi e8.1]
  exact k0 q _ h
theorem pi_parcelOf (I : pz_I sc sq pa ri mp ca dr pe) (c1 : pw_jn x 100) : pz_I sc sq pa ri mp ca dr pe := I
theorem pz_roj (I : pz_I sc sq pa ri mp ca dr pe) (q : pw_jn x pa.1) : pw_jn (pz_ro pa x) pa.1 := (I.gp.2.1.is I.gp.1.2 _ q.2).1
theorem cp_area (h : pz_c sc sq pa ri mp ca dr pe U V w0 w) (I : pz_I sc sq pa ri mp ca dr pe) (hU : U ≤ 190000) (hV : V ≤ 3900000) (k0 : (pw_jn x pa.1) → ∀ w1, pz_c sc sq pa ri mp ca dr pe (U + 0) (V + 0) w0 w1 → K w1 (pz_ct (fun s => sq.1 8 s = pz_ro pa x) 100)) (k1 : ¬ (pw_jn x pa.1) → ∀ w1, pz_c sc sq pa ri mp ca dr pe (U + 1) (V + 6) w0 w1 → X w1 1) : wp_X_area w x K X := by
  unfold wp_X_area
  rw [cv_parcelNumbered h I.gp.2.1 I.gp.1.2]
  refine ⟨fun q => ?_, fun q => cu_thr h (by omega) (by omega) (pz_hL I) I.gr.1 (k1 q)⟩
  have e := pz_roj I q
  rw [pz_k34 h _ e.2, pw_nIi e.1]
  exact ⟨e.1, k0 q _ h⟩
theorem pi_area (I : pz_I sc sq pa ri mp ca dr pe) (c1 : pw_jn x pa.1) : pz_I sc sq pa ri mp ca dr pe := I
theorem cp_owner (h : pz_c sc sq pa ri mp ca dr pe U V w0 w) (I : pz_I sc sq pa ri mp ca dr pe) (hU : U ≤ 190000) (hV : V ≤ 3900000) (k0 : (pw_jn x pa.1) → ∀ w1, pz_c sc sq pa ri mp ca dr pe (U + 0) (V + 0) w0 w1 → K w1 (pa.2.1 16 (pw_i (pz_ro pa x)))) (k1 : ¬ (pw_jn x pa.1) → ∀ w1, pz_c sc sq pa ri mp ca dr pe (U + 1) (V + 6) w0 w1 → X w1 1) : wp_X_owner w x K X := by
  unfold wp_X_owner
  rw [cv_parcelNumbered h I.gp.2.1 I.gp.1.2]
  refine ⟨fun q => ?_, fun q => cu_thr h (by omega) (by omega) (pz_hL I) I.gr.1 (k1 q)⟩
  have e := pz_roj I q
  (try simp (disch := omega) only [pz_ce h, pz_k14 h, pz_k60 h, pz_k23 h, pz_k30 h, pz_k31 h, pz_k34 h, pz_k35 h, pz_kl11 h, pz_k11 h, pz_k15 h, pz_k40 h, pz_k41 h, pz_k42 h, pz_k25 h, pz_km0 h, pz_km1 h, pz_km2 h, pz_kc0 h, pz_kc1 h, pz_kc2 h, pz_kc3 h, pz_kc4 h, pz_kc6 h, pz_kc7 h, pz_kl12 h, pz_k12 h, pz_kd0 h, pz_kd1 h, forall_eq, true_and, and_true, true_imp_iff, forall_const, not_true_eq_false, not_false_eq_true, false_imp_iff, implies_true, eq_self, pz_i, pz_s1, pz_p1, pz_jnt, pz_b0, pz_b1, pz_em, pz_nnt, pz_nm1, pz_10, pz_20, pz_30, Classical.not_not])
  rw [cv_numberOf h (I.gp.2.2.1 _ e.2)]
  exact ⟨e.1, k0 q _ h⟩
theorem pi_owner (I : pz_I sc sq pa ri mp ca dr pe) (c1 : pw_jn x pa.1) : pz_I sc sq pa ri mp ca dr pe := I
theorem cp_disputed (h : pz_c sc sq pa ri mp ca dr pe U V w0 w) (I : pz_I sc sq pa ri mp ca dr pe) (hU : U ≤ 190000) (hV : V ≤ 3900000) (k0 : (pw_jn x 100) → ∀ w1, pz_c sc sq pa ri mp ca dr pe (U + 0) (V + 0) w0 w1 → K w1 (pz_ct (fun q => pz_ex (pz_mp mp (nI q) x) mp.1) 12)) (k1 : ¬ (pw_jn x 100) → ∀ w1, pz_c sc sq pa ri mp ca dr pe (U + 1) (V + 6) w0 w1 → X w1 1) : wp_X_disputed w x K X := by
  unfold wp_X_disputed
  rw [pz_l100, cv_checkIndex (by decide)]
  refine ⟨fun q => ?_, fun q => cu_thr h (by omega) (by omega) (pz_hL I) I.gr.1 (k1 q)⟩
  (try simp (disch := omega) only [pz_ce h, pz_k14 h, pz_k60 h, pz_k23 h, pz_k30 h, pz_k31 h, pz_k34 h, pz_k35 h, pz_kl11 h, pz_k11 h, pz_k15 h, pz_k40 h, pz_k41 h, pz_k42 h, pz_k25 h, pz_km0 h, pz_km1 h, pz_km2 h, pz_kc0 h, pz_kc1 h, pz_kc2 h, pz_kc3 h, pz_kc4 h, pz_kc6 h, pz_kc7 h, pz_kl12 h, pz_k12 h, pz_kd0 h, pz_kd1 h, forall_eq, true_and, and_true, true_imp_iff, forall_const, not_true_eq_false, not_false_eq_true, false_imp_iff, implies_true, eq_self, pz_i, pz_s1, pz_p1, pz_jnt, pz_b0, pz_b1, pz_em, pz_nnt, pz_nm1, pz_10, pz_20, pz_30, Classical.not_not])
  have e : (∃ k, lp_X_disputed_20 K X k x 0 (nI 12) 0 w) = K w (pz_ct (fun q => pz_ex (pz_mp mp (nI q) x) mp.1) 12) := by
    refine pz_upe (F := fun k t => lp_X_disputed_20 K X k x (pz_ct (fun q => pz_ex (pz_mp mp (nI q) x) mp.1) t) (nI 12) (nI t) w) 12 (fun s => rfl) (fun t k ht => Or.inl ?_) (fun k => ?_)
    · rw [lp_X_disputed_20_s]
      (try simp (disch := omega) only [pz_ce h, pz_k14 h, pz_k60 h, pz_k23 h, pz_k30 h, pz_k31 h, pz_k34 h, pz_k35 h, pz_kl11 h, pz_k11 h, pz_k15 h, pz_k40 h, pz_k41 h, pz_k42 h, pz_k25 h, pz_km0 h, pz_km1 h, pz_km2 h, pz_kc0 h, pz_kc1 h, pz_kc2 h, pz_kc3 h, pz_kc4 h, pz_kc6 h, pz_kc7 h, pz_kl12 h, pz_k12 h, pz_kd0 h, pz_kd1 h, forall_eq, true_and, and_true, true_imp_iff, forall_const, not_true_eq_false, not_false_eq_true, false_imp_iff, implies_true, eq_self, pz_i, pz_s1, pz_p1, pz_jnt, pz_b0, pz_b1, pz_em, pz_nnt, pz_nm1, pz_10, pz_20, pz_30, Classical.not_not, pz_le, pz_ctS, cv_isMapped h I.gm, show ¬ 12 ≤ t by omega])
      by_cases a1 : pz_ex (pz_mp mp (nI t) x) mp.1 <;> simp [a1, pz_bT, pz_bF]
    · rw [lp_X_disputed_20_s]
      (try simp (disch := omega) only [pz_ce h, pz_k14 h, pz_k60 h, pz_k23 h, pz_k30 h, pz_k31 h, pz_k34 h, pz_k35 h, pz_kl11 h, pz_k11 h, pz_k15 h, pz_k40 h, pz_k41 h, pz_k42 h, pz_k25 h, pz_km0 h, pz_km1 h, pz_km2 h, pz_kc0 h, pz_kc1 h, pz_kc2 h, pz_kc3 h, pz_kc4 h, pz_kc6 h, pz_kc7 h, pz_kl12 h, pz_k12 h, pz_kd0 h, pz_kd1 h, forall_eq, true_and, and_true, true_imp_iff, forall_const, not_true_eq_false, not_false_eq_true, false_imp_iff, implies_true, eq_self, pz_i, pz_s1, pz_p1, pz_jnt, pz_b0, pz_b1, pz_em, pz_nnt, pz_nm1, pz_10, pz_20, pz_30, Classical.not_not, pz_le, Nat.le_refl])
  rw [e]
  exact k0 q _ h
theorem pi_disputed (I : pz_I sc sq pa ri mp ca dr pe) (c1 : pw_jn x 100) : pz_I sc sq pa ri mp ca dr pe := I
theorem cp_paid (h : pz_c sc sq pa ri mp ca dr pe U V w0 w) (I : pz_I sc sq pa ri mp ca dr pe) (hU : U ≤ 190000) (hV : V ≤ 3900000) (k0 : (pw_jn x 12) → ∀ w1, pz_c sc sq pa ri mp ca dr pe (U + 0) (V + 0) w0 w1 → K w1 (pe.1 45 (pw_i x))) (k1 : ¬ (pw_jn x 12) → ∀ w1, pz_c sc sq pa ri mp ca dr pe (U + 1) (V + 6) w0 w1 → X w1 1) : wp_X_paid w x K X := by
  unfold wp_X_paid
  rw [cv_personNumbered h]
  refine ⟨fun q => ?_, fun q => cu_thr h (by omega) (by omega) (pz_hL I) I.gr.1 (k1 q)⟩
  (try simp (disch := omega) only [pz_ce h, pz_k14 h, pz_k60 h, pz_k23 h, pz_k30 h, pz_k31 h, pz_k34 h, pz_k35 h, pz_kl11 h, pz_k11 h, pz_k15 h, pz_k40 h, pz_k41 h, pz_k42 h, pz_k25 h, pz_km0 h, pz_km1 h, pz_km2 h, pz_kc0 h, pz_kc1 h, pz_kc2 h, pz_kc3 h, pz_kc4 h, pz_kc6 h, pz_kc7 h, pz_kl12 h, pz_k12 h, pz_kd0 h, pz_kd1 h, forall_eq, true_and, and_true, true_imp_iff, forall_const, not_true_eq_false, not_false_eq_true, false_imp_iff, implies_true, eq_self, pz_i, pz_s1, pz_p1, pz_jnt, pz_b0, pz_b1, pz_em, pz_nnt, pz_nm1, pz_10, pz_20, pz_30, Classical.not_not, q.1])
  exact k0 q _ h
theorem pi_paid (I : pz_I sc sq pa ri mp ca dr pe) (c1 : pw_jn x 12) : pz_I sc sq pa ri mp ca dr pe := I
theorem cp_sheep (h : pz_c sc sq pa ri mp ca dr pe U V w0 w) (I : pz_I sc sq pa ri mp ca dr pe) (hU : U ≤ 190000) (hV : V ≤ 3900000) (k0 : (pw_jn x 12 ∧ pw_jn y pa.1) → ∀ w1, pz_c sc sq pa ri mp ca dr pe (U + 0) (V + 0) w0 w1 → K w1 (pa.2.2 (pw_i (pz_ro pa y)) (pw_i x))) (k1 : ¬ (pw_jn x 12 ∧ pw_jn y pa.1) → ∀ w1, pz_c sc sq pa ri mp ca dr pe (U + 1) (V + 6) w0 w1 → X w1 1) : wp_X_sheep w x y K X := by
  unfold wp_X_sheep
  rw [cv_personNumbered h]
  refine ⟨fun q => ?_, fun q => cu_thr h (by omega) (by omega) (pz_hL I) I.gr.1 (k1 fun z => q z.1)⟩
  rw [cv_parcelNumbered h I.gp.2.1 I.gp.1.2]
  refine ⟨fun q2 => ?_, fun q2 => cu_thr h (by omega) (by omega) (pz_hL I) I.gr.1 (k1 fun z => q2 z.2)⟩
  have e := pz_roj I q2
  rw [pz_k40 h _ q.2, cv_sheepOf h e I.gp.1.2 q.2]
  exact ⟨q.1, e.1, k0 ⟨q, q2⟩ _ h⟩
theorem pi_sheep (I : pz_I sc sq pa ri mp ca dr pe) (c1 : pw_jn x 12 ∧ pw_jn y pa.1) : pz_I sc sq pa ri mp ca dr pe := I
end PZO
