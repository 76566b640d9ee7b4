/-! more of the class's methods that only tell -/
section PZCW
variable {sc : pz_S} {sq : pz_Q} {pa : pz_P} {ri : pz_N} {mp : pz_N} {ca : pz_P} {dr : pz_N} {pe : pz_Q} {U V : Nat} {w0 w : pw_W} {K : pw_W → Int32 → Prop} {X : pw_W → Nat → Prop} {x y z t v : Int32} {s r c j n p q : Nat}
theorem cv_room (h : pz_c sc sq pa ri mp ca dr pe U V w0 w) (hx : pw_jn x pa.1) : wp_Parcel_room w x K X = K w (2 * pz_ct (fun s => sq.1 8 s = x) 100) := by
  unfold wp_Parcel_room
  rw [pz_k34 h _ hx.2, pw_nIi hx.1]
  exact propext ⟨fun q => q.2, fun q => ⟨hx.1, q⟩⟩
theorem cv_sheepOf (h : pz_c sc sq pa ri mp ca dr pe U V w0 w) (hx : pw_jn x pa.1) (hn : pa.1 ≤ 40) (hq : q < 12) : wp_Parcel_sheepOf w x (nI q) K X = K w (pa.2.2 (pw_i x) q) := by
  unfold wp_Parcel_sheepOf
  have hx0 : 0 ≤ x := hx.1
  have hx2 := hx.2
  have e : pz_in (nI q) 0 11 := by rw [show pz_in (nI q) 0 11 = pw_jn (nI q) 12 from pz_in_jn (n := 12) (by decide)]; exact pz_jn hq (by omega)
  (try simp (disch := omega) only [pz_ce h, pz_k14 h, pz_k60 h, pz_k23 h, pz_k30 h, pz_k31 h, pz_k34 h, pz_k35 h, pz_kl11 h, pz_k11 h, pz_k15 h, pz_k40 h, pz_k41 h, pz_k42 h, pz_k25 h, pz_km0 h, pz_km1 h, pz_km2 h, pz_kc0 h, pz_kc1 h, pz_kc2 h, pz_kc3 h, pz_kc4 h, pz_kc6 h, pz_kc7 h, pz_kl12 h, pz_k12 h, pz_kd0 h, pz_kd1 h, forall_eq, true_and, and_true, true_imp_iff, forall_const, not_true_eq_false, not_false_eq_true, false_imp_iff, implies_true, eq_self, pz_i, pz_s1, pz_p1, pz_jnt, pz_b0, pz_b1, pz_em, pz_nnt, pz_nm1, pz_10, pz_20, pz_30, Classical.not_not, cv_isInRange, e, hx0, show ¬ (1 : Int32) = 0 by decide])
theorem cv_isMapped (h : pz_c sc sq pa ri mp ca dr pe U V w0 w) (hn : mp.1 ≤ 12) : wp_X_isMapped w y x K X = K w (pz_b (pz_ex (pz_mp mp x y) mp.1)) := by
  unfold wp_X_isMapped
  refine pz_upx (F := fun k s => lp_X_isMapped_2 K X k y x (nI s) w) (P := pz_mp mp x y) (K := K w) mp.1 (fun s => rfl) (fun s k hs hp => ?_) (fun s k hs hp => ?_) (fun k => ?_)
  · rw [lp_X_isMapped_2_s]
    unfold pz_mp at hp
    (try simp (disch := omega) only [pz_ce h, pz_k14 h, pz_k60 h, pz_k23 h, pz_k30 h, pz_k31 h, pz_k34 h, pz_k35 h, pz_kl11 h, pz_k11 h, pz_k15 h, pz_k40 h, pz_k41 h, pz_k42 h, pz_k25 h, pz_km0 h, pz_km1 h, pz_km2 h, pz_kc0 h, pz_kc1 h, pz_kc2 h, pz_kc3 h, pz_kc4 h, pz_kc6 h, pz_kc7 h, pz_kl12 h, pz_k12 h, pz_kd0 h, pz_kd1 h, forall_eq, true_and, and_true, true_imp_iff, forall_const, not_true_eq_false, not_false_eq_true, false_imp_iff, implies_true, eq_self, pz_i, pz_s1, pz_p1, pz_jnt, pz_b0, pz_b1, pz_em, pz_nnt, pz_nm1, pz_10, pz_20, pz_30, Classical.not_not, pz_le, cv_isInField, (pz_k22 h s hs).1, show ¬ mp.1 ≤ s by omega])
    by_cases h1 : mp.2 27 s = x <;> by_cases h2 : pz_if y (mp.2 28 s) (mp.2 29 s) <;> simp_all
  · rw [lp_X_isMapped_2_s]
    unfold pz_mp at hp
    (try simp (disch := omega) only [pz_ce h, pz_k14 h, pz_k60 h, pz_k23 h, pz_k30 h, pz_k31 h, pz_k34 h, pz_k35 h, pz_kl11 h, pz_k11 h, pz_k15 h, pz_k40 h, pz_k41 h, pz_k42 h, pz_k25 h, pz_km0 h, pz_km1 h, pz_km2 h, pz_kc0 h, pz_kc1 h, pz_kc2 h, pz_kc3 h, pz_kc4 h, pz_kc6 h, pz_kc7 h, pz_kl12 h, pz_k12 h, pz_kd0 h, pz_kd1 h, forall_eq, true_and, and_true, true_imp_iff, forall_const, not_true_eq_false, not_false_eq_true, false_imp_iff, implies_true, eq_self, pz_i, pz_s1, pz_p1, pz_jnt, pz_b0, pz_b1, pz_em, pz_nnt, pz_nm1, pz_10, pz_20, pz_30, Classical.not_not, pz_le, cv_isInField, (pz_k22 h s hs).1, show ¬ mp.1 ≤ s by omega, hp.1, hp.2])
  · rw [lp_X_isMapped_2_s]
    (try simp (disch := omega) only [pz_ce h, pz_k14 h, pz_k60 h, pz_k23 h, pz_k30 h, pz_k31 h, pz_k34 h, pz_k35 h, pz_kl11 h, pz_k11 h, pz_k15 h, pz_k40 h, pz_k41 h, pz_k42 h, pz_k25 h, pz_km0 h, pz_km1 h, pz_km2 h, pz_kc0 h, pz_kc1 h, pz_kc2 h, pz_kc3 h, pz_kc4 h, pz_kc6 h, pz_kc7 h, pz_kl12 h, pz_k12 h, pz_kd0 h, pz_kd1 h, forall_eq, true_and, and_true, true_imp_iff, forall_const, not_true_eq_false, not_false_eq_true, false_imp_iff, implies_true, eq_self, pz_i, pz_s1, pz_p1, pz_jnt, pz_b0, pz_b1, pz_em, pz_nnt, pz_nm1, pz_10, pz_20, pz_30, Classical.not_not, pz_le, Nat.le_refl])
theorem cv_isClaimable (h : pz_c sc sq pa ri mp ca dr pe U V w0 w) (hn : mp.1 ≤ 12) (hs : s < 100) : wp_X_isClaimable w (nI s) x y K X = K w (pz_b (pz_cl sc sq mp x y s)) := by
  unfold wp_X_isClaimable pz_cl
  (try simp (disch := omega) only [pz_ce h, pz_k14 h, pz_k60 h, pz_k23 h, pz_k30 h, pz_k31 h, pz_k34 h, pz_k35 h, pz_kl11 h, pz_k11 h, pz_k15 h, pz_k40 h, pz_k41 h, pz_k42 h, pz_k25 h, pz_km0 h, pz_km1 h, pz_km2 h, pz_kc0 h, pz_kc1 h, pz_kc2 h, pz_kc3 h, pz_kc4 h, pz_kc6 h, pz_kc7 h, pz_kl12 h, pz_k12 h, pz_kd0 h, pz_kd1 h, forall_eq, true_and, and_true, true_imp_iff, forall_const, not_true_eq_false, not_false_eq_true, false_imp_iff, implies_true, eq_self, pz_i, pz_s1, pz_p1, pz_jnt, pz_b0, pz_b1, pz_em, pz_nnt, pz_nm1, pz_10, pz_20, pz_30, Classical.not_not, cv_isMapped h hn])
  by_cases h1 : y = 0 <;> by_cases h2 : pz_ex (pz_mp mp x (nI s)) mp.1 <;> by_cases h3 : sq.1 10 s = x <;> by_cases h4 : sc 1 - sq.1 11 s < 720 <;> simp only [h1, h2, h3, h4, pz_bT, pz_bF, true_imp_iff, not_true_eq_false, not_false_eq_true, false_imp_iff, and_true, true_and, and_self, and_false, false_and, or_true, true_or, or_false, false_or, or_self]
theorem cv_hasSquare (h : pz_c sc sq pa ri mp ca dr pe U V w0 w) (hc : c < ca.1) (hs : s < 100) : wp_Case_hasSquare w (w.1 20 0 c) (nI s) K X = K w (pz_b (¬ ca.2.2 c s = 0)) := by
  unfold wp_Case_hasSquare
  have e : pz_in (nI s) 0 99 := by rw [show pz_in (nI s) 0 99 = pw_jn (nI s) 100 from pz_in_jn (n := 100) (by decide)]; exact pz_jn hs (by omega)
  (try simp (disch := omega) only [pz_ce h, pz_k14 h, pz_k60 h, pz_k23 h, pz_k30 h, pz_k31 h, pz_k34 h, pz_k35 h, pz_kl11 h, pz_k11 h, pz_k15 h, pz_k40 h, pz_k41 h, pz_k42 h, pz_k25 h, pz_km0 h, pz_km1 h, pz_km2 h, pz_kc0 h, pz_kc1 h, pz_kc2 h, pz_kc3 h, pz_kc4 h, pz_kc6 h, pz_kc7 h, pz_kl12 h, pz_k12 h, pz_kd0 h, pz_kd1 h, forall_eq, true_and, and_true, true_imp_iff, forall_const, not_true_eq_false, not_false_eq_true, false_imp_iff, implies_true, eq_self, pz_i, pz_s1, pz_p1, pz_jnt, pz_b0, pz_b1, pz_em, pz_nnt, pz_nm1, pz_10, pz_20, pz_30, Classical.not_not, cv_isInRange, e, (pz_k20 h c hc).1, show ¬ (1 : Int32) = 0 by decide])
  by_cases h1 : ca.2.2 c s = 0 <;> simp [h1, pz_bT, pz_bF]
theorem pz_gv1 (h : pz_c sc sq pa ri mp ca dr pe U V w0 w) (hq : x = -1 ∨ pw_jn x ca.1) : (pz_gv w x = -1) = (x = -1) := by
  unfold pz_gv
  by_cases e : x = -1
  · rw [pz_it e]; simp [e]
  · rw [pz_if' e]
    have e2 := (pz_k20 h _ (hq.resolve_left e).2).1
    exact propext ⟨fun q => by rw [q] at e2; exact absurd e2 (by decide), fun q => absurd q e⟩
theorem pz_gv2 (h : pz_c sc sq pa ri mp ca dr pe U V w0 w) (hq : x = -1 ∨ pw_jn x ca.1) (hc : c < ca.1) (hn : ca.1 ≤ 16) : (pz_gv w x = w.1 20 0 c) = (x = nI c) := by
  unfold pz_gv
  by_cases e : x = -1
  · rw [pz_it e]
    have e2 := (pz_k20 h _ hc).1
    exact propext ⟨fun q => by rw [← q] at e2; exact absurd e2 (by decide), fun q => by rw [e] at q; have := pz_nn (a := c) (by omega); rw [← q] at this; exact absurd this (by decide)⟩
  · rw [pz_if' e]
    have e1 := hq.resolve_left e
    exact propext ⟨fun q => by rw [← pz_k20i h _ _ e1.2 hc q, pw_nIi e1.1], fun q => by rw [q, pz_i (by omega)]⟩
theorem cv_isTaken (h : pz_c sc sq pa ri mp ca dr pe U V w0 w) (h8 : pz_j8 sq pa) (h12 : pz_j12 sq ca) (hp : pa.1 ≤ 40) (hn : ca.1 ≤ 16) (hs : s < 100) (hc : c < ca.1) : wp_X_isTaken w (nI s) (w.1 20 0 c) K X = K w (pz_b (pz_gt sq pa ca c s)) := by
  unfold wp_X_isTaken pz_gt
  have e8 := (h8 s hs).1
  (try simp (disch := omega) only [pz_ce h, pz_k14 h, pz_k60 h, pz_k23 h, pz_k30 h, pz_k31 h, pz_k34 h, pz_k35 h, pz_kl11 h, pz_k11 h, pz_k15 h, pz_k40 h, pz_k41 h, pz_k42 h, pz_k25 h, pz_km0 h, pz_km1 h, pz_km2 h, pz_kc0 h, pz_kc1 h, pz_kc2 h, pz_kc3 h, pz_kc4 h, pz_kc6 h, pz_kc7 h, pz_kl12 h, pz_k12 h, pz_kd0 h, pz_kd1 h, forall_eq, true_and, and_true, true_imp_iff, forall_const, not_true_eq_false, not_false_eq_true, false_imp_iff, implies_true, eq_self, pz_i, pz_s1, pz_p1, pz_jnt, pz_b0, pz_b1, pz_em, pz_nnt, pz_nm1, pz_10, pz_20, pz_30, Classical.not_not, (pz_k20 h c hc).1, cv_hasSquare h, e8])
  rw [pz_k69 h s hs, pz_gv1 h (h12 s hs), pz_gv2 h (h12 s hs) hc hn]
  by_cases a1 : ca.2.2 c s = 0
  · simp [a1, pz_bF]
  by_cases a2 : pa.2.1 16 (pw_i (sq.1 8 s)) = ca.2.1 31 c
  · simp [a1, a2, pz_bF]
  by_cases a3 : sq.1 12 s = -1
  · simp [a1, a2, a3, pz_bT]
  by_cases a4 : sq.1 12 s = nI c
  · have hm : ¬ nI c = -1 := by rw [pz_nm1 (by omega)]; exact id
    simp [a1, a2, a3, a4, hm, pz_bT]
  have e12 := (h12 s hs).resolve_left a3
  have eg : pz_gv w (sq.1 12 s) = w.1 20 0 (pw_i (sq.1 12 s)) := by unfold pz_gv; rw [pz_if' a3]
  have e5 := pz_kc5 h (pw_i (sq.1 12 s)) s e12.2 hs (Or.inr (pw_nIi e12.1).symm)
  rw [eg]
  simp only [(pz_k20 h _ e12.2).1, e5, a1, a2, a3, a4, true_and, and_true, not_false_eq_true, true_imp_iff, false_imp_iff, not_true_eq_false, false_or, Int32.not_lt]
  by_cases a5 : ca.2.1 33 c < ca.2.1 34 (pw_i (sq.1 12 s))
  · have a6 : ¬ ca.2.1 34 (pw_i (sq.1 12 s)) ≤ ca.2.1 33 c := by rw [Int32.not_le]; exact a5
    simp only [a5, a6, pz_bF, true_imp_iff, false_imp_iff, and_true]
  · have a6 : ca.2.1 34 (pw_i (sq.1 12 s)) ≤ ca.2.1 33 c := Int32.not_lt.mp a5
    simp only [a5, a6, pz_bT, true_imp_iff, false_imp_iff, true_and]
theorem cv_countTaken (h : pz_c sc sq pa ri mp ca dr pe U V w0 w) (h8 : pz_j8 sq pa) (h12 : pz_j12 sq ca) (hp : pa.1 ≤ 40) (hn : ca.1 ≤ 16) (hc : c < ca.1) : wp_X_countTaken w (w.1 20 0 c) K X = K w (pz_ct (pz_gt sq pa ca c) 100) := by
  unfold wp_X_countTaken
  (try simp (disch := omega) only [pz_ce h, pz_k14 h, pz_k60 h, pz_k23 h, pz_k30 h, pz_k31 h, pz_k34 h, pz_k35 h, pz_kl11 h, pz_k11 h, pz_k15 h, pz_k40 h, pz_k41 h, pz_k42 h, pz_k25 h, pz_km0 h, pz_km1 h, pz_km2 h, pz_kc0 h, pz_kc1 h, pz_kc2 h, pz_kc3 h, pz_kc4 h, pz_kc6 h, pz_kc7 h, pz_kl12 h, pz_k12 h, pz_kd0 h, pz_kd1 h, forall_eq, true_and, and_true, true_imp_iff, forall_const, not_true_eq_false, not_false_eq_true, false_imp_iff, implies_true, eq_self, pz_i, pz_s1, pz_p1, pz_jnt, pz_b0, pz_b1, pz_em, pz_nnt, pz_nm1, pz_10, pz_20, pz_30, Classical.not_not])
  refine pz_upe (F := fun k s => lp_X_countTaken_14 K X k (w.1 20 0 c) (pz_ct (pz_gt sq pa ca c) s) (nI 100) (nI s) w) 100 (fun s => rfl) (fun s k hs => Or.inl ?_) (fun k => ?_)
  · rw [lp_X_countTaken_14_s]
    (try simp (disch := omega) only [pz_ce h, pz_k14 h, pz_k60 h, pz_k23 h, pz_k30 h, pz_k31 h, pz_k34 h, pz_k35 h, pz_kl11 h, pz_k11 h, pz_k15 h, pz_k40 h, pz_k41 h, pz_k42 h, pz_k25 h, pz_km0 h, pz_km1 h, pz_km2 h, pz_kc0 h, pz_kc1 h, pz_kc2 h, pz_kc3 h, pz_kc4 h, pz_kc6 h, pz_kc7 h, pz_kl12 h, pz_k12 h, pz_kd0 h, pz_kd1 h, forall_eq, true_and, and_true, true_imp_iff, forall_const, not_true_eq_false, not_false_eq_true, false_imp_iff, implies_true, eq_self, pz_i, pz_s1, pz_p1, pz_jnt, pz_b0, pz_b1, pz_em, pz_nnt, pz_nm1, pz_10, pz_20, pz_30, Classical.not_not, pz_le, pz_ctS, cv_isTaken h h8 h12 hp hn hs hc, show ¬ 100 ≤ s by omega])
    by_cases h1 : pz_gt sq pa ca c s <;> simp [h1, pz_bT, pz_bF]
  · rw [lp_X_countTaken_14_s]
    (try simp (disch := omega) only [pz_ce h, pz_k14 h, pz_k60 h, pz_k23 h, pz_k30 h, pz_k31 h, pz_k34 h, pz_k35 h, pz_kl11 h, pz_k11 h, pz_k15 h, pz_k40 h, pz_k41 h, pz_k42 h, pz_k25 h, pz_km0 h, pz_km1 h, pz_km2 h, pz_kc0 h, pz_kc1 h, pz_kc2 h, pz_kc3 h, pz_kc4 h, pz_kc6 h, pz_kc7 h, pz_kl12 h, pz_k12 h, pz_kd0 h, pz_kd1 h, forall_eq, true_and, and_true, true_imp_iff, forall_const, not_true_eq_false, not_false_eq_true, false_imp_iff, implies_true, eq_self, pz_i, pz_s1, pz_p1, pz_jnt, pz_b0, pz_b1, pz_em, pz_nnt, pz_nm1, pz_10, pz_20, pz_30, Classical.not_not, pz_le, Nat.le_refl])
theorem cv_countGivenBy (h : pz_c sc sq pa ri mp ca dr pe U V w0 w) (h12 : pz_j12 sq ca) (hn : ca.1 ≤ 16) (hc : c < ca.1) : wp_X_countGivenBy w (w.1 20 0 c) K X = K w (pz_ct (fun s => sq.1 12 s = nI c) 100) := by
  unfold wp_X_countGivenBy
  (try simp (disch := omega) only [pz_ce h, pz_k14 h, pz_k60 h, pz_k23 h, pz_k30 h, pz_k31 h, pz_k34 h, pz_k35 h, pz_kl11 h, pz_k11 h, pz_k15 h, pz_k40 h, pz_k41 h, pz_k42 h, pz_k25 h, pz_km0 h, pz_km1 h, pz_km2 h, pz_kc0 h, pz_kc1 h, pz_kc2 h, pz_kc3 h, pz_kc4 h, pz_kc6 h, pz_kc7 h, pz_kl12 h, pz_k12 h, pz_kd0 h, pz_kd1 h, forall_eq, true_and, and_true, true_imp_iff, forall_const, not_true_eq_false, not_false_eq_true, false_imp_iff, implies_true, eq_self, pz_i, pz_s1, pz_p1, pz_jnt, pz_b0, pz_b1, pz_em, pz_nnt, pz_nm1, pz_10, pz_20, pz_30, Classical.not_not])
  refine pz_upe (F := fun k s => lp_X_countGivenBy_14 K X k (w.1 20 0 c) (pz_ct (fun s => sq.1 12 s = nI c) s) (nI 100) (nI s) w) 100 (fun s => rfl) (fun s k hs => Or.inl ?_) (fun k => ?_)
  · rw [lp_X_countGivenBy_14_s]
    (try simp (disch := omega) only [pz_ce h, pz_k14 h, pz_k60 h, pz_k23 h, pz_k30 h, pz_k31 h, pz_k34 h, pz_k35 h, pz_kl11 h, pz_k11 h, pz_k15 h, pz_k40 h, pz_k41 h, pz_k42 h, pz_k25 h, pz_km0 h, pz_km1 h, pz_km2 h, pz_kc0 h, pz_kc1 h, pz_kc2 h, pz_kc3 h, pz_kc4 h, pz_kc6 h, pz_kc7 h, pz_kl12 h, pz_k12 h, pz_kd0 h, pz_kd1 h, forall_eq, true_and, and_true, true_imp_iff, forall_const, not_true_eq_false, not_false_eq_true, false_imp_iff, implies_true, eq_self, pz_i, pz_s1, pz_p1, pz_jnt, pz_b0, pz_b1, pz_em, pz_nnt, pz_nm1, pz_10, pz_20, pz_30, Classical.not_not, pz_le, pz_ctS, show ¬ 100 ≤ s by omega])
    rw [pz_k69 h s hs, pz_gv2 h (h12 s hs) hc hn]
    by_cases h1 : sq.1 12 s = nI c <;> simp [h1, pz_bT, pz_bF]
  · rw [lp_X_countGivenBy_14_s]
    (try simp (disch := omega) only [pz_ce h, pz_k14 h, pz_k60 h, pz_k23 h, pz_k30 h, pz_k31 h, pz_k34 h, pz_k35 h, pz_kl11 h, pz_k11 h, pz_k15 h, pz_k40 h, pz_k41 h, pz_k42 h, pz_k25 h, pz_km0 h, pz_km1 h, pz_km2 h, pz_kc0 h, pz_kc1 h, pz_kc2 h, pz_kc3 h, pz_kc4 h, pz_kc6 h, pz_kc7 h, pz_kl12 h, pz_k12 h, pz_kd0 h, pz_kd1 h, forall_eq, true_and, and_true, true_imp_iff, forall_const, not_true_eq_false, not_false_eq_true, false_imp_iff, implies_true, eq_self, pz_i, pz_s1, pz_p1, pz_jnt, pz_b0, pz_b1, pz_em, pz_nnt, pz_nm1, pz_10, pz_20, pz_30, Classical.not_not, pz_le, Nat.le_refl])
theorem pz_wmm {l sh : Int32} (h : 0 ≤ sh) : (if 0 < (if l < sh then l else sh) then (if l < sh then l else sh) else 0) = pz_ite (0 ≤ l) (pz_mn sh l) 0 := by
  have e0 : (0 : Int32).toInt = 0 := rfl
  unfold pz_mn
  rw [Int32.le_iff_toInt_le] at h
  by_cases a : l < sh <;> by_cases b : 0 ≤ l <;> by_cases d : l ≤ sh <;> by_cases f : 0 < l <;> by_cases g : 0 < sh <;>
    simp only [a, b, d, f, g, if_true, if_false, pz_iT, pz_iF] <;>
    (simp only [Int32.lt_iff_toInt_lt, Int32.le_iff_toInt_le] at a b d f g) <;> first | rfl | (rw [← Int32.toInt_inj]; omega) | omega
def pz_js (ri : pz_N) (pa : pz_P) : Prop := ∀ r, r < ri.1 → pw_jn (ri.2 21 r) pa.1 ∧ pw_jn (ri.2 22 r) 12 ∧ (ri.2 20 r = 0 → 0 ≤ ri.2 23 r)
theorem cv_worthOf (h : pz_c sc sq pa ri mp ca dr pe U V w0 w) (hj : pz_js ri pa) (hn : ri.1 ≤ 80) (hr : r < ri.1) : wp_X_worthOf w (nI r) K X = K w (pz_wo ri sq r) := by
  unfold wp_X_worthOf
  obtain ⟨j1, j2, j3⟩ := hj r hr
  have j10 := j1.1
  have e1 : pw_jn (nI r) ri.1 := pz_jn hr (by omega)
  rw [cv_rightNumbered h hn]
  (try simp (disch := omega) only [pz_ce h, pz_k14 h, pz_k60 h, pz_k23 h, pz_k30 h, pz_k31 h, pz_k34 h, pz_k35 h, pz_kl11 h, pz_k11 h, pz_k15 h, pz_k40 h, pz_k41 h, pz_k42 h, pz_k25 h, pz_km0 h, pz_km1 h, pz_km2 h, pz_kc0 h, pz_kc1 h, pz_kc2 h, pz_kc3 h, pz_kc4 h, pz_kc6 h, pz_kc7 h, pz_kl12 h, pz_k12 h, pz_kd0 h, pz_kd1 h, forall_eq, true_and, and_true, true_imp_iff, forall_const, not_true_eq_false, not_false_eq_true, false_imp_iff, implies_true, eq_self, pz_i, pz_s1, pz_p1, pz_jnt, pz_b0, pz_b1, pz_em, pz_nnt, pz_nm1, pz_10, pz_20, pz_30, Classical.not_not, e1, cv_room h j1, j10])
  by_cases a0 : ¬ ri.2 20 r = 0
  · unfold pz_wo
    simp [a0, pz_iF]
  have a0 := Classical.not_not.mp a0
  simp only [a0, true_imp_iff, not_true_eq_false, false_imp_iff, and_true]
  refine pz_upe (F := fun k s => lp_X_worthOf_26 K X k (nI r) (nI r) (pz_lf ri sq (ri.2 21 r) s) (nI s) w) r (fun s => rfl) (fun s k hs => Or.inl ?_) (fun k => ?_)
  · rw [lp_X_worthOf_26_s]
    unfold pz_lf
    (try simp (disch := omega) only [pz_ce h, pz_k14 h, pz_k60 h, pz_k23 h, pz_k30 h, pz_k31 h, pz_k34 h, pz_k35 h, pz_kl11 h, pz_k11 h, pz_k15 h, pz_k40 h, pz_k41 h, pz_k42 h, pz_k25 h, pz_km0 h, pz_km1 h, pz_km2 h, pz_kc0 h, pz_kc1 h, pz_kc2 h, pz_kc3 h, pz_kc4 h, pz_kc6 h, pz_kc7 h, pz_kl12 h, pz_k12 h, pz_kd0 h, pz_kd1 h, forall_eq, true_and, and_true, true_imp_iff, forall_const, not_true_eq_false, not_false_eq_true, false_imp_iff, implies_true, eq_self, pz_i, pz_s1, pz_p1, pz_jnt, pz_b0, pz_b1, pz_em, pz_nnt, pz_nm1, pz_10, pz_20, pz_30, Classical.not_not, pz_le, pz_sbS, cv_isOn h, show ¬ r ≤ s by omega])
    by_cases h1 : pz_on ri (ri.2 21 r) s <;> by_cases h2 : ri.2 20 s = 0
    · simp only [h1, h2, pz_iT, pz_iF, true_imp_iff, not_true_eq_false, not_false_eq_true, false_imp_iff, and_true, true_and, and_self, and_false, false_and]
      rw [pz_k53 h s (by omega) h2]
    all_goals simp only [h1, h2, pz_iT, pz_iF, true_imp_iff, not_true_eq_false, not_false_eq_true, false_imp_iff, and_true, true_and, and_self, and_false, false_and]
  · rw [lp_X_worthOf_26_s]
    unfold pz_wo
    (try simp (disch := omega) only [pz_ce h, pz_k14 h, pz_k60 h, pz_k23 h, pz_k30 h, pz_k31 h, pz_k34 h, pz_k35 h, pz_kl11 h, pz_k11 h, pz_k15 h, pz_k40 h, pz_k41 h, pz_k42 h, pz_k25 h, pz_km0 h, pz_km1 h, pz_km2 h, pz_kc0 h, pz_kc1 h, pz_kc2 h, pz_kc3 h, pz_kc4 h, pz_kc6 h, pz_kc7 h, pz_kl12 h, pz_k12 h, pz_kd0 h, pz_kd1 h, forall_eq, true_and, and_true, true_imp_iff, forall_const, not_true_eq_false, not_false_eq_true, false_imp_iff, implies_true, eq_self, pz_i, pz_s1, pz_p1, pz_jnt, pz_b0, pz_b1, pz_em, pz_nnt, pz_nm1, pz_10, pz_20, pz_30, Classical.not_not, pz_le, Nat.le_refl])
    rw [pz_k53 h r hr a0, pz_wmm (j3 a0)]
    simp only [a0, true_and]
theorem cv_worthOfRights (h : pz_c sc sq pa ri mp ca dr pe U V w0 w) (hj : pz_js ri pa) (hn : ri.1 ≤ 80) : wp_X_worthOfRights w y x K X = K w (pz_wr ri sq y x) := by
  unfold wp_X_worthOfRights pz_wr
  refine pz_upe (F := fun k s => lp_X_worthOfRights_5 K X k y x (pz_su (fun r => pz_on ri x r ∧ ri.2 22 r = y) (pz_wo ri sq) s) (nI s) w) ri.1 (fun s => rfl) (fun s k hs => Or.inl ?_) (fun k => ?_)
  · rw [lp_X_worthOfRights_5_s]
    (try simp (disch := omega) only [pz_ce h, pz_k14 h, pz_k60 h, pz_k23 h, pz_k30 h, pz_k31 h, pz_k34 h, pz_k35 h, pz_kl11 h, pz_k11 h, pz_k15 h, pz_k40 h, pz_k41 h, pz_k42 h, pz_k25 h, pz_km0 h, pz_km1 h, pz_km2 h, pz_kc0 h, pz_kc1 h, pz_kc2 h, pz_kc3 h, pz_kc4 h, pz_kc6 h, pz_kc7 h, pz_kl12 h, pz_k12 h, pz_kd0 h, pz_kd1 h, forall_eq, true_and, and_true, true_imp_iff, forall_const, not_true_eq_false, not_false_eq_true, false_imp_iff, implies_true, eq_self, pz_i, pz_s1, pz_p1, pz_jnt, pz_b0, pz_b1, pz_em, pz_nnt, pz_nm1, pz_10, pz_20, pz_30, Classical.not_not, pz_le, pz_suS, cv_isOn h, cv_worthOf h hj hn hs, show ¬ ri.1 ≤ s by omega])
    by_cases h1 : pz_on ri x s <;> by_cases h2 : ri.2 22 s = y <;> simp [h1, h2, pz_iT, pz_iF]
  · rw [lp_X_worthOfRights_5_s]
    (try simp (disch := omega) only [pz_ce h, pz_k14 h, pz_k60 h, pz_k23 h, pz_k30 h, pz_k31 h, pz_k34 h, pz_k35 h, pz_kl11 h, pz_k11 h, pz_k15 h, pz_k40 h, pz_k41 h, pz_k42 h, pz_k25 h, pz_km0 h, pz_km1 h, pz_km2 h, pz_kc0 h, pz_kc1 h, pz_kc2 h, pz_kc3 h, pz_kc4 h, pz_kc6 h, pz_kc7 h, pz_kl12 h, pz_k12 h, pz_kd0 h, pz_kd1 h, forall_eq, true_and, and_true, true_imp_iff, forall_const, not_true_eq_false, not_false_eq_true, false_imp_iff, implies_true, eq_self, pz_i, pz_s1, pz_p1, pz_jnt, pz_b0, pz_b1, pz_em, pz_nnt, pz_nm1, pz_10, pz_20, pz_30, Classical.not_not, pz_le, Nat.le_refl])
theorem cv_hasDrain (h : pz_c sc sq pa ri mp ca dr pe U V w0 w) (hn : dr.1 ≤ 20) : wp_X_hasDrain w x y K X = K w (pz_b (pz_ex (pz_dr dr x y) dr.1)) := by
  unfold wp_X_hasDrain
  refine pz_upx (F := fun k s => lp_X_hasDrain_2 K X k x y (nI s) w) (P := pz_dr dr x y) (K := K w) dr.1 (fun s => rfl) (fun s k hs hp => ?_) (fun s k hs hp => ?_) (fun k => ?_)
  · rw [lp_X_hasDrain_2_s]
    unfold pz_dr at hp
    (try simp (disch := omega) only [pz_ce h, pz_k14 h, pz_k60 h, pz_k23 h, pz_k30 h, pz_k31 h, pz_k34 h, pz_k35 h, pz_kl11 h, pz_k11 h, pz_k15 h, pz_k40 h, pz_k41 h, pz_k42 h, pz_k25 h, pz_km0 h, pz_km1 h, pz_km2 h, pz_kc0 h, pz_kc1 h, pz_kc2 h, pz_kc3 h, pz_kc4 h, pz_kc6 h, pz_kc7 h, pz_kl12 h, pz_k12 h, pz_kd0 h, pz_kd1 h, forall_eq, true_and, and_true, true_imp_iff, forall_const, not_true_eq_false, not_false_eq_true, false_imp_iff, implies_true, eq_self, pz_i, pz_s1, pz_p1, pz_jnt, pz_b0, pz_b1, pz_em, pz_nnt, pz_nm1, pz_10, pz_20, pz_30, Classical.not_not, pz_le, (pz_k21 h s hs).1, show ¬ dr.1 ≤ s by omega])
    by_cases h1 : dr.2 39 s = x <;> by_cases h2 : dr.2 40 s = y <;> simp_all
  · rw [lp_X_hasDrain_2_s]
    unfold pz_dr at hp
    (try simp (disch := omega) only [pz_ce h, pz_k14 h, pz_k60 h, pz_k23 h, pz_k30 h, pz_k31 h, pz_k34 h, pz_k35 h, pz_kl11 h, pz_k11 h, pz_k15 h, pz_k40 h, pz_k41 h, pz_k42 h, pz_k25 h, pz_km0 h, pz_km1 h, pz_km2 h, pz_kc0 h, pz_kc1 h, pz_kc2 h, pz_kc3 h, pz_kc4 h, pz_kc6 h, pz_kc7 h, pz_kl12 h, pz_k12 h, pz_kd0 h, pz_kd1 h, forall_eq, true_and, and_true, true_imp_iff, forall_const, not_true_eq_false, not_false_eq_true, false_imp_iff, implies_true, eq_self, pz_i, pz_s1, pz_p1, pz_jnt, pz_b0, pz_b1, pz_em, pz_nnt, pz_nm1, pz_10, pz_20, pz_30, Classical.not_not, pz_le, (pz_k21 h s hs).1, show ¬ dr.1 ≤ s by omega, hp.1, hp.2])
  · rw [lp_X_hasDrain_2_s]
    (try simp (disch := omega) only [pz_ce h, pz_k14 h, pz_k60 h, pz_k23 h, pz_k30 h, pz_k31 h, pz_k34 h, pz_k35 h, pz_kl11 h, pz_k11 h, pz_k15 h, pz_k40 h, pz_k41 h, pz_k42 h, pz_k25 h, pz_km0 h, pz_km1 h, pz_km2 h, pz_kc0 h, pz_kc1 h, pz_kc2 h, pz_kc3 h, pz_kc4 h, pz_kc6 h, pz_kc7 h, pz_kl12 h, pz_k12 h, pz_kd0 h, pz_kd1 h, forall_eq, true_and, and_true, true_imp_iff, forall_const, not_true_eq_false, not_false_eq_true, false_imp_iff, implies_true, eq_self, pz_i, pz_s1, pz_p1, pz_jnt, pz_b0, pz_b1, pz_em, pz_nnt, pz_nm1, pz_10, pz_20, pz_30, Classical.not_not, pz_le, Nat.le_refl])
theorem cv_isAllowed (h : pz_c sc sq pa ri mp ca dr pe U V w0 w) (hn : ri.1 ≤ 80) (hx : 0 ≤ x) : wp_X_isAllowed w y z x K X = K w (pz_b (pa.2.1 16 (pw_i x) = y ∨ pz_ex (pz_hr ri z x y) ri.1)) := by
  unfold wp_X_isAllowed
  (try simp (disch := omega) only [pz_ce h, pz_k14 h, pz_k60 h, pz_k23 h, pz_k30 h, pz_k31 h, pz_k34 h, pz_k35 h, pz_kl11 h, pz_k11 h, pz_k15 h, pz_k40 h, pz_k41 h, pz_k42 h, pz_k25 h, pz_km0 h, pz_km1 h, pz_km2 h, pz_kc0 h, pz_kc1 h, pz_kc2 h, pz_kc3 h, pz_kc4 h, pz_kc6 h, pz_kc7 h, pz_kl12 h, pz_k12 h, pz_kd0 h, pz_kd1 h, forall_eq, true_and, and_true, true_imp_iff, forall_const, not_true_eq_false, not_false_eq_true, false_imp_iff, implies_true, eq_self, pz_i, pz_s1, pz_p1, pz_jnt, pz_b0, pz_b1, pz_em, pz_nnt, pz_nm1, pz_10, pz_20, pz_30, Classical.not_not, hx, cv_hasRight h hn])
  by_cases h1 : pa.2.1 16 (pw_i x) = y <;> by_cases h2 : pz_ex (pz_hr ri z x y) ri.1 <;> simp [h1, h2, pz_bT, pz_bF]
/-- burnt never, or on a day up to today -/
def pz_jb (sc : pz_S) (sq : pz_Q) : Prop := (0 ≤ sc 1 ∧ sc 1 ≤ 20000) ∧ ∀ s, s < 100 → sq.1 9 s = -50000 ∨ (0 ≤ sq.1 9 s ∧ sq.1 9 s ≤ sc 1)
theorem cv_isBurntInLast (h : pz_c sc sq pa ri mp ca dr pe U V w0 w) (hb : pz_jb sc sq) (hs : s < 100) (hx : x ≤ 20000) : wp_X_isBurntInLast w x (nI s) K X = K w (pz_b (pz_wb sc sq x s)) := by
  unfold wp_X_isBurntInLast pz_wb
  (try simp (disch := omega) only [pz_ce h, pz_k14 h, pz_k60 h, pz_k23 h, pz_k30 h, pz_k31 h, pz_k34 h, pz_k35 h, pz_kl11 h, pz_k11 h, pz_k15 h, pz_k40 h, pz_k41 h, pz_k42 h, pz_k25 h, pz_km0 h, pz_km1 h, pz_km2 h, pz_kc0 h, pz_kc1 h, pz_kc2 h, pz_kc3 h, pz_kc4 h, pz_kc6 h, pz_kc7 h, pz_kl12 h, pz_k12 h, pz_kd0 h, pz_kd1 h, forall_eq, true_and, and_true, true_imp_iff, forall_const, not_true_eq_false, not_false_eq_true, false_imp_iff, implies_true, eq_self, pz_i, pz_s1, pz_p1, pz_jnt, pz_b0, pz_b1, pz_em, pz_nnt, pz_nm1, pz_10, pz_20, pz_30, Classical.not_not])
  unfold pz_bn
  obtain ⟨⟨b1, b2⟩, b3⟩ := hb
  rcases b3 s hs with e | ⟨e1, e2⟩
  · have e5 : x ≤ sc 1 - sq.1 9 s := by
      rw [e]
      rw [Int32.le_iff_toInt_le] at *
      rw [Int32.toInt_sub, show (-50000 : Int32).toInt = -50000 from rfl]
      rw [show (20000 : Int32).toInt = 20000 from rfl] at *
      rw [show (0 : Int32).toInt = 0 from rfl] at *
      rw [Int.bmod_eq_of_le (by omega) (by omega)]
      omega
    have e6 : x ≤ sc 1 - -50000 := by rw [e] at e5; exact e5
    simp only [e, e6, if_true, pz_bF, true_imp_iff, not_true_eq_false, false_imp_iff, and_true]
  · have e3 : ¬ sq.1 9 s = -50000 := fun q => by rw [q] at e1; exact absurd e1 (by decide)
    have e4 : ¬ sq.1 9 s = -1 := fun q => by rw [q] at e1; exact absurd e1 (by decide)
    by_cases e5 : x ≤ sc 1 - sq.1 9 s <;> simp only [e3, e4, e5, if_false, pz_bT, pz_bF, true_imp_iff, not_true_eq_false, not_false_eq_true, false_imp_iff, and_true, true_and, and_self, and_false, false_and]
theorem cv_isBurnable (h : pz_c sc sq pa ri mp ca dr pe U V w0 w) (hb : pz_jb sc sq) (hs : s < 100) : wp_X_isBurnable w (nI s) K X = K w (pz_b (pz_bu sc sq s)) := by
  unfold wp_X_isBurnable pz_bu
  (try simp (disch := omega) only [pz_ce h, pz_k14 h, pz_k60 h, pz_k23 h, pz_k30 h, pz_k31 h, pz_k34 h, pz_k35 h, pz_kl11 h, pz_k11 h, pz_k15 h, pz_k40 h, pz_k41 h, pz_k42 h, pz_k25 h, pz_km0 h, pz_km1 h, pz_km2 h, pz_kc0 h, pz_kc1 h, pz_kc2 h, pz_kc3 h, pz_kc4 h, pz_kc6 h, pz_kc7 h, pz_kl12 h, pz_k12 h, pz_kd0 h, pz_kd1 h, forall_eq, true_and, and_true, true_imp_iff, forall_const, not_true_eq_false, not_false_eq_true, false_imp_iff, implies_true, eq_self, pz_i, pz_s1, pz_p1, pz_jnt, pz_b0, pz_b1, pz_em, pz_nnt, pz_nm1, pz_10, pz_20, pz_30, Classical.not_not, cv_isInRange, cv_isBurntInLast h hb hs (show (1080 : Int32) ≤ 20000 by decide)])
  by_cases a1 : 3 < sc 2 <;> by_cases a2 : 30 < sq.1 7 s <;> by_cases a3 : pz_in (sc 1 - sc 1 / 360 * 360) 60 150 <;> by_cases a4 : pz_wb sc sq 1080 s <;> simp only [a1, a2, a3, a4, pz_bT, pz_bF, true_imp_iff, not_true_eq_false, not_false_eq_true, false_imp_iff, and_true, true_and, and_self, and_false, false_and]
theorem cv_isWet (h : pz_c sc sq pa ri mp ca dr pe U V w0 w) (hs : s < 100) : wp_Square_isWet w (nI s) K X = K w (pz_b (pz_wt sq s)) := by
  unfold wp_Square_isWet pz_wt
  (try simp (disch := omega) only [pz_ce h, pz_k14 h, pz_k60 h, pz_k23 h, pz_k30 h, pz_k31 h, pz_k34 h, pz_k35 h, pz_kl11 h, pz_k11 h, pz_k15 h, pz_k40 h, pz_k41 h, pz_k42 h, pz_k25 h, pz_km0 h, pz_km1 h, pz_km2 h, pz_kc0 h, pz_kc1 h, pz_kc2 h, pz_kc3 h, pz_kc4 h, pz_kc6 h, pz_kc7 h, pz_kl12 h, pz_k12 h, pz_kd0 h, pz_kd1 h, forall_eq, true_and, and_true, true_imp_iff, forall_const, not_true_eq_false, not_false_eq_true, false_imp_iff, implies_true, eq_self, pz_i, pz_s1, pz_p1, pz_jnt, pz_b0, pz_b1, pz_em, pz_nnt, pz_nm1, pz_10, pz_20, pz_30, Classical.not_not])
  by_cases a1 : sq.1 7 s < 60 <;> simp only [a1, pz_bT, pz_bF, true_imp_iff, not_true_eq_false, not_false_eq_true, false_imp_iff, and_true, true_and]
theorem cv_countWater (h : pz_c sc sq pa ri mp ca dr pe U V w0 w) : wp_X_countWater w K X = K w (pz_su (fun _ => True) (sq.1 7) 100) := by
  unfold wp_X_countWater
  (try simp (disch := omega) only [pz_ce h, pz_k14 h, pz_k60 h, pz_k23 h, pz_k30 h, pz_k31 h, pz_k34 h, pz_k35 h, pz_kl11 h, pz_k11 h, pz_k15 h, pz_k40 h, pz_k41 h, pz_k42 h, pz_k25 h, pz_km0 h, pz_km1 h, pz_km2 h, pz_kc0 h, pz_kc1 h, pz_kc2 h, pz_kc3 h, pz_kc4 h, pz_kc6 h, pz_kc7 h, pz_kl12 h, pz_k12 h, pz_kd0 h, pz_kd1 h, forall_eq, true_and, and_true, true_imp_iff, forall_const, not_true_eq_false, not_false_eq_true, false_imp_iff, implies_true, eq_self, pz_i, pz_s1, pz_p1, pz_jnt, pz_b0, pz_b1, pz_em, pz_nnt, pz_nm1, pz_10, pz_20, pz_30, Classical.not_not])
  refine pz_upe (F := fun k s => lp_X_countWater_13 K X k (pz_su (fun _ => True) (sq.1 7) s) (nI 100) (nI s) w) 100 (fun s => rfl) (fun s k hs => Or.inl ?_) (fun k => ?_)
  · rw [lp_X_countWater_13_s]
    (try simp (disch := omega) only [pz_ce h, pz_k14 h, pz_k60 h, pz_k23 h, pz_k30 h, pz_k31 h, pz_k34 h, pz_k35 h, pz_kl11 h, pz_k11 h, pz_k15 h, pz_k40 h, pz_k41 h, pz_k42 h, pz_k25 h, pz_km0 h, pz_km1 h, pz_km2 h, pz_kc0 h, pz_kc1 h, pz_kc2 h, pz_kc3 h, pz_kc4 h, pz_kc6 h, pz_kc7 h, pz_kl12 h, pz_k12 h, pz_kd0 h, pz_kd1 h, forall_eq, true_and, and_true, true_imp_iff, forall_const, not_true_eq_false, not_false_eq_true, false_imp_iff, implies_true, eq_self, pz_i, pz_s1, pz_p1, pz_jnt, pz_b0, pz_b1, pz_em, pz_nnt, pz_nm1, pz_10, pz_20, pz_30, Classical.not_not, pz_le, pz_suS, pz_iT, show ¬ 100 ≤ s by omega])
  · rw [lp_X_countWater_13_s]
    (try simp (disch := omega) only [pz_ce h, pz_k14 h, pz_k60 h, pz_k23 h, pz_k30 h, pz_k31 h, pz_k34 h, pz_k35 h, pz_kl11 h, pz_k11 h, pz_k15 h, pz_k40 h, pz_k41 h, pz_k42 h, pz_k25 h, pz_km0 h, pz_km1 h, pz_km2 h, pz_kc0 h, pz_kc1 h, pz_kc2 h, pz_kc3 h, pz_kc4 h, pz_kc6 h, pz_kc7 h, pz_kl12 h, pz_k12 h, pz_kd0 h, pz_kd1 h, forall_eq, true_and, and_true, true_imp_iff, forall_const, not_true_eq_false, not_false_eq_true, false_imp_iff, implies_true, eq_self, pz_i, pz_s1, pz_p1, pz_jnt, pz_b0, pz_b1, pz_em, pz_nnt, pz_nm1, pz_10, pz_20, pz_30, Classical.not_not, pz_le, Nat.le_refl])
theorem cv_hasNamed (h : pz_c sc sq pa ri mp ca dr pe U V w0 w) (hp : p < 12) : wp_Person_hasNamed w (nI p) x K X = K w (pz_b (pz_ex (fun k => pe.2 p k = x) (pw_ln w 24 p))) := by
  unfold wp_Person_hasNamed
  have hl := (pz_kl24 h p hp).2
  refine pz_upx (F := fun k s => lp_Person_hasNamed_2 K X k (nI p) x (nI s) w) (P := fun k => pe.2 p k = x) (K := K w) (pw_ln w 24 p) (fun s => rfl) (fun s k hs hp' => ?_) (fun s k hs hp' => ?_) (fun k => ?_)
  · rw [lp_Person_hasNamed_2_s]
    (try simp (disch := omega) only [pz_ce h, pz_k14 h, pz_k60 h, pz_k23 h, pz_k30 h, pz_k31 h, pz_k34 h, pz_k35 h, pz_kl11 h, pz_k11 h, pz_k15 h, pz_k40 h, pz_k41 h, pz_k42 h, pz_k25 h, pz_km0 h, pz_km1 h, pz_km2 h, pz_kc0 h, pz_kc1 h, pz_kc2 h, pz_kc3 h, pz_kc4 h, pz_kc6 h, pz_kc7 h, pz_kl12 h, pz_k12 h, pz_kd0 h, pz_kd1 h, forall_eq, true_and, and_true, true_imp_iff, forall_const, not_true_eq_false, not_false_eq_true, false_imp_iff, implies_true, eq_self, pz_i, pz_s1, pz_p1, pz_jnt, pz_b0, pz_b1, pz_em, pz_nnt, pz_nm1, pz_10, pz_20, pz_30, Classical.not_not, pz_le, show ¬ pw_ln w 24 p ≤ s by omega])
    rw [pz_k24 h p s hp hs]
    simp only [hp', true_imp_iff, not_true_eq_false, not_false_eq_true, false_imp_iff, and_true, true_and]
  · rw [lp_Person_hasNamed_2_s]
    (try simp (disch := omega) only [pz_ce h, pz_k14 h, pz_k60 h, pz_k23 h, pz_k30 h, pz_k31 h, pz_k34 h, pz_k35 h, pz_kl11 h, pz_k11 h, pz_k15 h, pz_k40 h, pz_k41 h, pz_k42 h, pz_k25 h, pz_km0 h, pz_km1 h, pz_km2 h, pz_kc0 h, pz_kc1 h, pz_kc2 h, pz_kc3 h, pz_kc4 h, pz_kc6 h, pz_kc7 h, pz_kl12 h, pz_k12 h, pz_kd0 h, pz_kd1 h, forall_eq, true_and, and_true, true_imp_iff, forall_const, not_true_eq_false, not_false_eq_true, false_imp_iff, implies_true, eq_self, pz_i, pz_s1, pz_p1, pz_jnt, pz_b0, pz_b1, pz_em, pz_nnt, pz_nm1, pz_10, pz_20, pz_30, Classical.not_not, pz_le, show ¬ pw_ln w 24 p ≤ s by omega])
    rw [pz_k24 h p s hp hs]
    simp only [hp', true_imp_iff, not_true_eq_false, not_false_eq_true, false_imp_iff, and_true, true_and]
  · rw [lp_Person_hasNamed_2_s]
    (try simp (disch := omega) only [pz_ce h, pz_k14 h, pz_k60 h, pz_k23 h, pz_k30 h, pz_k31 h, pz_k34 h, pz_k35 h, pz_kl11 h, pz_k11 h, pz_k15 h, pz_k40 h, pz_k41 h, pz_k42 h, pz_k25 h, pz_km0 h, pz_km1 h, pz_km2 h, pz_kc0 h, pz_kc1 h, pz_kc2 h, pz_kc3 h, pz_kc4 h, pz_kc6 h, pz_kc7 h, pz_kl12 h, pz_k12 h, pz_kd0 h, pz_kd1 h, forall_eq, true_and, and_true, true_imp_iff, forall_const, not_true_eq_false, not_false_eq_true, false_imp_iff, implies_true, eq_self, pz_i, pz_s1, pz_p1, pz_jnt, pz_b0, pz_b1, pz_em, pz_nnt, pz_nm1, pz_10, pz_20, pz_30, Classical.not_not, pz_le, Nat.le_refl])
theorem cv_numberOf (h : pz_c sc sq pa ri mp ca dr pe U V w0 w) (hx : x = -1 ∨ pw_jn x 12) : wp_X_numberOf w x K X = K w x := by
  unfold wp_X_numberOf
  by_cases e : x = -1
  · simp [e]
  · have e1 := hx.resolve_left e
    have e2 := e1.1
    rw [pz_k40 h _ e1.2, pw_nIi e1.1]
    simp [e, e2]
end PZCW
