/-! pass, the days -/
section PZPB
variable {sc : pz_S} {sq : pz_Q} {pa : pz_P} {ri : pz_N} {mp : pz_N} {ca : pz_P} {dr : pz_N} {pe : pz_Q} {U V : Nat} {w0 w w1 w2 : pw_W} {K : pw_W → Int32 → Prop} {X : pw_W → Nat → Prop} {x y z t : Int32} {i s r j n p q a b k k' m d T : Nat} {c : Nat} {e v v' : Int32}
theorem pz_psq8 : ∀ {n : Nat}, (pz_ps sc sq pa dr pe n).2.1.1 8 s = sq.1 8 s
  | 0 => rfl
  | n + 1 => (pz_dDk (by decide) (by decide)).trans (pz_psq8 (n := n))
theorem pz_psqk (hk : ¬ k = 6) (hk7 : ¬ k = 7) : ∀ {n : Nat}, (pz_ps sc sq pa dr pe n).2.1.1 k s = sq.1 k s
  | 0 => rfl
  | n + 1 => (pz_dDk hk hk7).trans (pz_psqk hk hk7 (n := n))
theorem pz_psiq (h : pz_iq sc sq) (hd : pz_id dr) (e : sc 1 = nI T) : ∀ {n : Nat}, T + n ≤ 20000 → pz_iq (pz_ps sc sq pa dr pe n).1 (pz_ps sc sq pa dr pe n).2.1
  | 0, _ => h
  | n + 1, hn => by
    have ih := pz_psiq h hd e (n := n) (by omega)
    refine (pz_iqday ih hd ?_).2.2
    rw [pz_ps1 e, pz_s1, show (20000 : Int32) = nI 20000 from rfl, pz_le (by omega) (by omega)]
    omega
theorem pz_psh (h : pz_ih pe) : ∀ {n : Nat}, pz_ih (pz_ps sc sq pa dr pe n).2.2
  | 0 => h
  | n + 1 => by
    have ih := pz_psh h (n := n)
    show pz_ih (pz_dE (pz_ps sc sq pa dr pe n).1 (pz_ps sc sq pa dr pe n).2.1 pa dr (pz_ps sc sq pa dr pe n).2.2)
    unfold pz_dE
    by_cases q : pz_yY (pz_dB (pz_ps sc sq pa dr pe n).1 (pz_ps sc sq pa dr pe n).2.1 dr)
    · rw [if_pos q]
      refine ⟨fun p => by rw [pz_pyk (by decide)]; exact ih.1 p, fun p hp => ?_⟩
      obtain ⟨d, a1, a2, a3⟩ := ih.2 p hp
      exact ⟨d, a1, by rw [pz_pyk (by decide)]; exact a2, fun k hk => by rw [pz_py2]; exact a3 k hk⟩
    · rw [if_neg q]; exact ih
/-- the days as numbers -/
theorem pz_psT (h : pz_jb sc sq) (c1 : pz_in x 1 200) (c2 : ¬ 20000 < sc 1 + x) : ∃ T D, sc 1 = nI T ∧ x = nI D ∧ T + D ≤ 20000 ∧ D ≤ 200 := by
  have hj : pw_jn (sc 1) 20001 := by
    rw [pz_jlt (by omega)]
    refine ⟨Int32.not_lt.mpr h.1.1, ?_⟩
    have := h.1.2
    rw [Int32.le_iff_toInt_le, show (20000 : Int32).toInt = 20000 from rfl] at this
    rw [Int32.lt_iff_toInt_lt, show (nI 20001).toInt = 20001 from rfl]; omega
  have hx : pw_jn x 201 := by
    rw [pz_jlt (by omega)]
    have h1 := c1.1
    have h2 := c1.2
    rw [Int32.lt_iff_toInt_lt, show (1 : Int32).toInt = 1 from rfl] at h1
    rw [Int32.lt_iff_toInt_lt, show (200 : Int32).toInt = 200 from rfl] at h2
    rw [Int32.lt_iff_toInt_lt, Int32.lt_iff_toInt_lt, show (nI 201).toInt = 201 from rfl, show (0 : Int32).toInt = 0 from rfl]; omega
  obtain ⟨T, hT, eT⟩ := pz_of hj
  obtain ⟨D, hD, eD⟩ := pz_of hx
  refine ⟨T, D, eT, eD, ?_, by omega⟩
  rw [eT, eD, pz_add, show (20000 : Int32) = nI 20000 from rfl, pz_lt (by omega) (by omega)] at c2
  omega
theorem pi_pass (I : pz_I sc sq pa ri mp ca dr pe) (c1 : pz_in x 1 200) (c2 : ¬ 20000 < sc 1 + x) : pz_I (pz_ps (pz_u1 sc 0 0) sq pa dr pe (pw_i x)).1 (pz_ps (pz_u1 sc 0 0) sq pa dr pe (pw_i x)).2.1 pa ri mp ca dr (pz_ps (pz_u1 sc 0 0) sq pa dr pe (pw_i x)).2.2 := by
  obtain ⟨T, D, eT, eD, hTD, hD⟩ := pz_psT I.gq.1 c1 c2
  have hi : pw_i x = D := by rw [eD, pz_i (by omega)]
  rw [hi]
  have e0 : (pz_u1 sc 0 0) 1 = nI T := eT
  refine ⟨pz_psiq (sc := pz_u1 sc 0 0) I.gq I.gd e0 hTD, ⟨fun s hs => ?_, fun s hs => ?_, fun s hs hq => ?_, fun s hs => ?_⟩, I.gp, I.gr, I.gm, I.gc, I.gd, pz_psh I.gh⟩
  · rw [pz_psq8]; exact I.gl.1 s hs
  · rw [pz_psqk (by decide) (by decide)]; exact I.gl.2.1 s hs
  · rw [pz_psqk (by decide) (by decide)] at hq ⊢; exact I.gl.2.2.1 s hs hq
  · rw [pz_psqk (by decide) (by decide), pz_psqk (by decide) (by decide)]; exact I.gl.2.2.2 s hs
theorem cp_pass (h : pz_c sc sq pa ri mp ca dr pe U V w0 w) (I : pz_I sc sq pa ri mp ca dr pe) (hU : U ≤ 190000) (hV : V ≤ 3900000) (k0 : (pz_in x 1 200) → (¬ 20000 < sc 1 + x) → ∀ w1, pz_c (pz_ps (pz_u1 sc 0 0) sq pa dr pe (pw_i x)).1 (pz_ps (pz_u1 sc 0 0) sq pa dr pe (pw_i x)).2.1 pa ri mp ca dr (pz_ps (pz_u1 sc 0 0) sq pa dr pe (pw_i x)).2.2 (U + 0) (V + 0) w0 w1 → K w1 ((pz_ps (pz_u1 sc 0 0) sq pa dr pe (pw_i x)).1 1)) (k1 : ¬ (pz_in x 1 200) → ∀ w1, pz_c sc sq pa ri mp ca dr pe (U + 1) (V + 6) w0 w1 → X w1 2) (k2 : (pz_in x 1 200) → ¬ (¬ 20000 < sc 1 + x) → ∀ w1, pz_c sc sq pa ri mp ca dr pe (U + 1) (V + 6) w0 w1 → X w1 3) : wp_X_pass w x K X := by
  unfold wp_X_pass jp_X_pass_28
  rw [cv_isInRange, cv_checkArgument]
  refine ⟨fun c1 => ?_, fun c1 => cu_thr h (by omega) (by omega) (pz_hL I) I.gr.1 (k1 c1)⟩
  (try simp (disch := omega) only [pz_ce h, pz_k14 h, pz_k60 h, pz_k23 h, pz_k30 h, pz_k31 h, pz_k34 h, pz_k35 h, pz_kl11 h, pz_k11 h, pz_k15 h, pz_k40 h, pz_k41 h, pz_k42 h, pz_k25 h, pz_km0 h, pz_km1 h, pz_km2 h, pz_kc0 h, pz_kc1 h, pz_kc2 h, pz_kc3 h, pz_kc4 h, pz_kc6 h, pz_kc7 h, pz_kl12 h, pz_k12 h, pz_kd0 h, pz_kd1 h, forall_eq, true_and, and_true, true_imp_iff, forall_const, not_true_eq_false, not_false_eq_true, false_imp_iff, implies_true, eq_self, pz_i, pz_s1, pz_p1, pz_jnt, pz_b0, pz_b1, pz_em, pz_nnt, pz_nm1, pz_10, pz_20, pz_30, Classical.not_not, cv_checkState0, cv_checkState1])
  refine ⟨fun c2 => cu_thr h (by omega) (by omega) (pz_hL I) I.gr.1 (k2 c1 fun z => z c2), fun c2 => ?_⟩
  have k9 := k0 c1 c2
  obtain ⟨T, D, eT, eD, hTD, hD⟩ := pz_psT I.gq.1 c1 c2
  have hi : pw_i x = D := by rw [eD, pz_i (by omega)]
  rw [hi] at k9
  rw [eD]
  have e0 : (pz_u1 sc 0 0) 1 = nI T := eT
  refine pz_up (F := fun k s w => lp_X_pass_33 K X k (nI D) (nI s) w) (I := fun s w => pz_c (pz_ps (pz_u1 sc 0 0) sq pa dr pe s).1 (pz_ps (pz_u1 sc 0 0) sq pa dr pe s).2.1 pa ri mp ca dr (pz_ps (pz_u1 sc 0 0) sq pa dr pe s).2.2 U V w0 w) D (fun s w4 k5 hs h4 ih => ?_) (fun w4 h4 => ?_) h
  · rw [lp_X_pass_33_s]
    (try simp (disch := omega) only [forall_eq, true_and, and_true, true_imp_iff, forall_const, not_true_eq_false, not_false_eq_true, false_imp_iff, implies_true, eq_self, pz_i, pz_s1, pz_p1, pz_jnt, pz_b0, pz_b1, pz_em, pz_nnt, pz_nm1, pz_10, pz_20, pz_30, Classical.not_not, pz_le, show ¬ D ≤ s by omega])
    refine cu_day h4 (pz_psiq (sc := pz_u1 sc 0 0) I.gq I.gd e0 (by omega)) ?_ I.gd (fun s hs => by rw [pz_psq8]; exact I.gl.1 s hs) I.gp.1.2 I.gp.2.2.1 (fun w5 h5 => ih w5 h5)
    rw [pz_ps1 e0, pz_s1, show (20000 : Int32) = nI 20000 from rfl, pz_le (by omega) (by omega)]
    omega
  · rw [lp_X_pass_33_s]
    (try simp (disch := omega) only [pz_ce h4, pz_k14 h4, pz_k60 h4, pz_k23 h4, pz_k30 h4, pz_k31 h4, pz_k34 h4, pz_k35 h4, pz_kl11 h4, pz_k11 h4, pz_k15 h4, pz_k40 h4, pz_k41 h4, pz_k42 h4, pz_k25 h4, pz_km0 h4, pz_km1 h4, pz_km2 h4, pz_kc0 h4, pz_kc1 h4, pz_kc2 h4, pz_kc3 h4, pz_kc4 h4, pz_kc6 h4, pz_kc7 h4, pz_kl12 h4, pz_k12 h4, pz_kd0 h4, pz_kd1 h4, forall_eq, true_and, and_true, true_imp_iff, forall_const, not_true_eq_false, not_false_eq_true, false_imp_iff, implies_true, eq_self, pz_i, pz_s1, pz_p1, pz_jnt, pz_b0, pz_b1, pz_em, pz_nnt, pz_nm1, pz_10, pz_20, pz_30, Classical.not_not, pz_le, Nat.le_refl])
    exact k9 _ h4
end PZPB
