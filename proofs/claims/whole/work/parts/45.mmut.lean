/-! the model's methods that change it: single steps -/
section PZU
variable {sc : pz_S} {sq : pz_Q} {pa : pz_P} {ri : pz_N} {mp : pz_N} {ca : pz_P} {dr : pz_N} {pe : pz_Q} {w0 w : pw_W} {K : pw_W → Int32 → Prop} {X : pw_W → Nat → Prop} {x y z t v : Int32} {s r c d l : Nat}
theorem mu_isFine : wp_M_isFine w v K X = K (pw_ps w 8 0 0 v) (pz_b (v = 0)) := by
  unfold wp_M_isFine
  by_cases h : v = 0 <;> simp [h, pz_bT, pz_bF]
theorem mu_thrown (h : pz_m sc sq pa ri mp ca dr pe w0 w) : wp_M_thrown w K X = K w (sc 0) := by
  unfold wp_M_thrown
  (try simp (disch := omega) only [pz_me h, forall_eq, true_and, and_true, true_imp_iff, forall_const, not_true_eq_false, not_false_eq_true, false_imp_iff, implies_true, eq_self, pz_i, pz_s1, pz_p1, pz_jnt, pz_b0, pz_b1, pz_em, pz_nnt, pz_nm1, pz_10, pz_20, pz_30, Classical.not_not])
/-- a square comes to a parcel -/
noncomputable def pz_cm (sq : pz_Q) (s : Nat) (x : Int32) : pz_Q := @ite _ (sq.1 8 s = x) (Classical.propDecidable _) sq (pz_u (pz_u sq.1 8 s x) 14 s (sq.1 14 s + 1), pz_u sq.2 s (pw_i (sq.1 14 s)) x)
theorem mu_comes (h : pz_m sc sq pa ri mp ca dr pe w0 w) (hs : s < 100) (e : sq.1 14 s = nI l) (hl : l < 249) (k : ∀ w1, pz_m sc (pz_cm sq s x) pa ri mp ca dr pe w0 w1 → K w1 (pz_b (¬ sq.1 8 s = x))) : wp_M_comes w (nI s) x K X := by
  unfold wp_M_comes jp_M_comes_61
  (try simp (disch := omega) only [pz_me h, forall_eq, true_and, and_true, true_imp_iff, forall_const, not_true_eq_false, not_false_eq_true, false_imp_iff, implies_true, eq_self, pz_i, pz_s1, pz_p1, pz_jnt, pz_b0, pz_b1, pz_em, pz_nnt, pz_nm1, pz_10, pz_20, pz_30, Classical.not_not])
  by_cases hx : sq.1 8 s = x
  · refine ⟨fun q => absurd hx q, fun _ => ?_⟩
    have k1 := k w (by unfold pz_cm; rw [if_pos hx]; exact h)
    rw [pz_bf (fun q => q hx)] at k1
    exact k1
  · refine ⟨fun _ => ?_, fun q => absurd q hx⟩
    have h1 := pz_ms8 h (i := s) (v := x)
    (try simp (disch := omega) only [pz_me h1, forall_eq, true_and, and_true, true_imp_iff, forall_const, not_true_eq_false, not_false_eq_true, false_imp_iff, implies_true, eq_self, pz_i, pz_s1, pz_p1, pz_jnt, pz_b0, pz_b1, pz_em, pz_nnt, pz_nm1, pz_10, pz_20, pz_30, Classical.not_not])
    rw [show (pz_u sq.1 8 s x) 14 s = nI l from e, pz_x250]
    (try simp (disch := omega) only [pz_me h1, forall_eq, true_and, and_true, true_imp_iff, forall_const, not_true_eq_false, not_false_eq_true, false_imp_iff, implies_true, eq_self, pz_i, pz_s1, pz_p1, pz_jnt, pz_b0, pz_b1, pz_em, pz_nnt, pz_nm1, pz_10, pz_20, pz_30, Classical.not_not])
    have h2 := pz_ms15 h1 (s := s) (j := l) (m := 250 * s + l) (v := x) hs (by omega) rfl
    (try simp (disch := omega) only [pz_me h2, forall_eq, true_and, and_true, true_imp_iff, forall_const, not_true_eq_false, not_false_eq_true, false_imp_iff, implies_true, eq_self, pz_i, pz_s1, pz_p1, pz_jnt, pz_b0, pz_b1, pz_em, pz_nnt, pz_nm1, pz_10, pz_20, pz_30, Classical.not_not])
    rw [show (pz_u sq.1 8 s x) 14 s = nI l from e]
    (try simp (disch := omega) only [forall_eq, true_and, and_true, true_imp_iff, forall_const, not_true_eq_false, not_false_eq_true, false_imp_iff, implies_true, eq_self, pz_i, pz_s1, pz_p1, pz_jnt, pz_b0, pz_b1, pz_em, pz_nnt, pz_nm1, pz_10, pz_20, pz_30, Classical.not_not, pz_l249, pz_le, show ¬ 249 ≤ l by omega])
    have h3 := pz_ms14 h2 (i := s) (v := nI (l + 1))
    have k1 := k _ (by unfold pz_cm; rw [if_neg hx, e, pz_s1, pz_i (by omega)]; exact h3)
    rw [pz_bt hx] at k1
    exact k1
def pz_mk (pa : pz_P) (x : Int32) : pz_P := (pa.1 + 1, pz_u (pz_u (pz_u pa.2.1 16 pa.1 x) 17 pa.1 (-1)) 46 pa.1 (nI pa.1), pa.2.2)
theorem pz_m46 (h : pz_m sc sq pa ri mp ca dr pe w0 w) {i : Nat} : pz_m sc sq (pa.1, pz_u pa.2.1 46 i v, pa.2.2) ri mp ca dr pe w0 w := h
theorem mu_makesParcel (h : pz_m sc sq pa ri mp ca dr pe w0 w) (hn : pa.1 < 40) (k : ∀ w1, pz_m sc sq (pz_mk pa x) ri mp ca dr pe w0 w1 → K w1 (nI pa.1)) : wp_M_makesParcel w x K X := by
  unfold wp_M_makesParcel
  (try simp (disch := omega) only [pz_me h, forall_eq, true_and, and_true, true_imp_iff, forall_const, not_true_eq_false, not_false_eq_true, false_imp_iff, implies_true, eq_self, pz_i, pz_s1, pz_p1, pz_jnt, pz_b0, pz_b1, pz_em, pz_nnt, pz_nm1, pz_10, pz_20, pz_30, Classical.not_not])
  have h1 := pz_ms16 h (i := pa.1) (v := x)
  (try simp (disch := omega) only [pz_me h1, forall_eq, true_and, and_true, true_imp_iff, forall_const, not_true_eq_false, not_false_eq_true, false_imp_iff, implies_true, eq_self, pz_i, pz_s1, pz_p1, pz_jnt, pz_b0, pz_b1, pz_em, pz_nnt, pz_nm1, pz_10, pz_20, pz_30, Classical.not_not])
  have h2 := pz_ms17 h1 (i := pa.1) (v := -1)
  (try simp (disch := omega) only [pz_me h2, forall_eq, true_and, and_true, true_imp_iff, forall_const, not_true_eq_false, not_false_eq_true, false_imp_iff, implies_true, eq_self, pz_i, pz_s1, pz_p1, pz_jnt, pz_b0, pz_b1, pz_em, pz_nnt, pz_nm1, pz_10, pz_20, pz_30, Classical.not_not])
  have h3 := pz_ms18 h2 (n := pa.1 + 1) rfl
  (try simp (disch := omega) only [pz_me h3, forall_eq, true_and, and_true, true_imp_iff, forall_const, not_true_eq_false, not_false_eq_true, false_imp_iff, implies_true, eq_self, pz_i, pz_s1, pz_p1, pz_jnt, pz_b0, pz_b1, pz_em, pz_nnt, pz_nm1, pz_10, pz_20, pz_30, Classical.not_not])
  exact k _ (pz_m46 h3)
def pz_mr' (ri : pz_N) (a b c d e : Int32) : pz_N := (ri.1 + 1, pz_u (pz_u (pz_u (pz_u (pz_u (pz_u ri.2 20 ri.1 a) 21 ri.1 b) 22 ri.1 c) 23 ri.1 d) 24 ri.1 e) 25 ri.1 0)
theorem mu_makesRight (h : pz_m sc sq pa ri mp ca dr pe w0 w) (hn : ri.1 < 80) (k : ∀ w1, pz_m sc sq pa (pz_mr' ri x y z t v) mp ca dr pe w0 w1 → K w1 0) : wp_M_makesRight w x y z t v K X := by
  unfold wp_M_makesRight
  (try simp (disch := omega) only [pz_me h, forall_eq, true_and, and_true, true_imp_iff, forall_const, not_true_eq_false, not_false_eq_true, false_imp_iff, implies_true, eq_self, pz_i, pz_s1, pz_p1, pz_jnt, pz_b0, pz_b1, pz_em, pz_nnt, pz_nm1, pz_10, pz_20, pz_30, Classical.not_not])
  have h1 := pz_ms20 h (i := ri.1) (v := x)
  (try simp (disch := omega) only [pz_me h1, forall_eq, true_and, and_true, true_imp_iff, forall_const, not_true_eq_false, not_false_eq_true, false_imp_iff, implies_true, eq_self, pz_i, pz_s1, pz_p1, pz_jnt, pz_b0, pz_b1, pz_em, pz_nnt, pz_nm1, pz_10, pz_20, pz_30, Classical.not_not])
  have h2 := pz_ms21 h1 (i := ri.1) (v := y)
  (try simp (disch := omega) only [pz_me h2, forall_eq, true_and, and_true, true_imp_iff, forall_const, not_true_eq_false, not_false_eq_true, false_imp_iff, implies_true, eq_self, pz_i, pz_s1, pz_p1, pz_jnt, pz_b0, pz_b1, pz_em, pz_nnt, pz_nm1, pz_10, pz_20, pz_30, Classical.not_not])
  have h3 := pz_ms22 h2 (i := ri.1) (v := z)
  (try simp (disch := omega) only [pz_me h3, forall_eq, true_and, and_true, true_imp_iff, forall_const, not_true_eq_false, not_false_eq_true, false_imp_iff, implies_true, eq_self, pz_i, pz_s1, pz_p1, pz_jnt, pz_b0, pz_b1, pz_em, pz_nnt, pz_nm1, pz_10, pz_20, pz_30, Classical.not_not])
  have h4 := pz_ms23 h3 (i := ri.1) (v := t)
  (try simp (disch := omega) only [pz_me h4, forall_eq, true_and, and_true, true_imp_iff, forall_const, not_true_eq_false, not_false_eq_true, false_imp_iff, implies_true, eq_self, pz_i, pz_s1, pz_p1, pz_jnt, pz_b0, pz_b1, pz_em, pz_nnt, pz_nm1, pz_10, pz_20, pz_30, Classical.not_not])
  have h5 := pz_ms24 h4 (i := ri.1) (v := v)
  (try simp (disch := omega) only [pz_me h5, forall_eq, true_and, and_true, true_imp_iff, forall_const, not_true_eq_false, not_false_eq_true, false_imp_iff, implies_true, eq_self, pz_i, pz_s1, pz_p1, pz_jnt, pz_b0, pz_b1, pz_em, pz_nnt, pz_nm1, pz_10, pz_20, pz_30, Classical.not_not])
  have h6 := pz_ms25 h5 (i := ri.1) (v := 0)
  (try simp (disch := omega) only [pz_me h6, forall_eq, true_and, and_true, true_imp_iff, forall_const, not_true_eq_false, not_false_eq_true, false_imp_iff, implies_true, eq_self, pz_i, pz_s1, pz_p1, pz_jnt, pz_b0, pz_b1, pz_em, pz_nnt, pz_nm1, pz_10, pz_20, pz_30, Classical.not_not])
  exact k _ (pz_ms26 h6 (n := ri.1 + 1) rfl)
end PZU
