/-! public methods: drains, heirs, cut, burn -/
section PZOC
variable {sc : pz_S} {sq : pz_Q} {pa : pz_P} {ri : pz_N} {mp : pz_N} {ca : pz_P} {dr : pz_N} {pe : pz_Q} {U V : Nat} {w0 w w1 w2 : pw_W} {K : pw_W → Int32 → Prop} {X : pw_W → Nat → Prop} {x y z t : Int32} {i s r j n p q a b k k' : Nat} {c d e v v' : Int32}
theorem mp_dig (h : pz_m sc sq pa ri mp ca dr pe w0 w) (I : pz_I sc sq pa ri mp ca dr pe) (k0 : (pw_jn x 100 ∧ pw_jn y 100) → (pz_sd x y) → (¬ pz_ex (pz_dr dr x y) dr.1 ∧ dr.1 < 20) → ∀ w1, pz_m (pz_u1 sc 0 0) sq pa ri mp ca (dr.1 + 1, pz_u (pz_u dr.2 39 dr.1 x) 40 dr.1 y) pe w0 w1 → K w1 (nI (dr.1 + 1))) (k1 : ¬ (pw_jn x 100 ∧ pw_jn y 100) → ∀ w1, pz_m (pz_u1 sc 0 1) sq pa ri mp ca dr pe w0 w1 → K w1 0) (k2 : (pw_jn x 100 ∧ pw_jn y 100) → ¬ (pz_sd x y) → ∀ w1, pz_m (pz_u1 sc 0 2) sq pa ri mp ca dr pe w0 w1 → K w1 0) (k3 : (pw_jn x 100 ∧ pw_jn y 100) → (pz_sd x y) → ¬ (¬ pz_ex (pz_dr dr x y) dr.1 ∧ dr.1 < 20) → ∀ w1, pz_m (pz_u1 sc 0 3) sq pa ri mp ca dr pe w0 w1 → K w1 0) : wp_M_dig w x y K X := by
  unfold wp_M_dig jp_M_dig_18 jp_M_dig_19 jp_M_dig_59 jp_M_dig_64
  have h0 := pz_ms0 h (v := 0)
  have h1 := pz_ms0 h (v := 1)
  have h2 := pz_ms0 h (v := 2)
  have h3 := pz_ms0 h (v := 3)
  have hm20 : dr.1 ≤ 20 := I.gd.1
  have en : (nI dr.1 = 20) = (dr.1 = 20) := by rw [pz_l20, pz_eq (by omega) (by omega)]
  simp only [mv_isSquare, mv_areSides, mu_isFine, pz_b0, Classical.not_not]
  by_cases a1 : pw_jn x 100
  case neg =>
    have k9 := k1 (fun z => a1 z.1) _ h1
    (try simp (disch := omega) only [forall_eq, true_and, and_true, true_imp_iff, forall_const, not_true_eq_false, not_false_eq_true, false_imp_iff, implies_true, eq_self, pz_i, pz_s1, pz_p1, pz_jnt, pz_b0, pz_b1, pz_em, pz_nnt, pz_nm1, pz_10, pz_20, pz_30, Classical.not_not, a1])
    exact k9
  by_cases a2 : pw_jn y 100
  case neg =>
    have k9 := k1 (fun z => a2 z.2) _ h1
    (try simp (disch := omega) only [forall_eq, true_and, and_true, true_imp_iff, forall_const, not_true_eq_false, not_false_eq_true, false_imp_iff, implies_true, eq_self, pz_i, pz_s1, pz_p1, pz_jnt, pz_b0, pz_b1, pz_em, pz_nnt, pz_nm1, pz_10, pz_20, pz_30, Classical.not_not, a1, a2])
    exact k9
  by_cases c2 : pz_sd x y
  case neg =>
    have k9 := k2 ⟨a1, a2⟩ c2 _ h2
    (try simp (disch := omega) only [forall_eq, true_and, and_true, true_imp_iff, forall_const, not_true_eq_false, not_false_eq_true, false_imp_iff, implies_true, eq_self, pz_i, pz_s1, pz_p1, pz_jnt, pz_b0, pz_b1, pz_em, pz_nnt, pz_nm1, pz_10, pz_20, pz_30, Classical.not_not, a1, a2, c2])
    exact k9
  by_cases b1 : pz_ex (pz_dr dr x y) dr.1
  case pos =>
    have k9 := k3 ⟨a1, a2⟩ c2 (fun q => q.1 b1) _ h3
    (try simp (disch := omega) only [pz_me h, forall_eq, true_and, and_true, true_imp_iff, forall_const, not_true_eq_false, not_false_eq_true, false_imp_iff, implies_true, eq_self, pz_i, pz_s1, pz_p1, pz_jnt, pz_b0, pz_b1, pz_em, pz_nnt, pz_nm1, pz_10, pz_20, pz_30, Classical.not_not, a1, a2, c2, mv_isDrain h hm20, b1])
    exact k9
  by_cases b2 : dr.1 < 20
  case neg =>
    have k9 := k3 ⟨a1, a2⟩ c2 (fun q => b2 q.2) _ h3
    have b3 : dr.1 = 20 := by omega
    (try simp (disch := omega) only [pz_me h, forall_eq, true_and, and_true, true_imp_iff, forall_const, not_true_eq_false, not_false_eq_true, false_imp_iff, implies_true, eq_self, pz_i, pz_s1, pz_p1, pz_jnt, pz_b0, pz_b1, pz_em, pz_nnt, pz_nm1, pz_10, pz_20, pz_30, Classical.not_not, a1, a2, c2, mv_isDrain h hm20, b1, en, eq_true b3])
    exact k9
  have b3 : ¬ dr.1 = 20 := by omega
  have k9 := k0 ⟨a1, a2⟩ c2 ⟨b1, b2⟩
  (try simp (disch := omega) only [pz_me h, forall_eq, true_and, and_true, true_imp_iff, forall_const, not_true_eq_false, not_false_eq_true, false_imp_iff, implies_true, eq_self, pz_i, pz_s1, pz_p1, pz_jnt, pz_b0, pz_b1, pz_em, pz_nnt, pz_nm1, pz_10, pz_20, pz_30, Classical.not_not, a1, a2, c2, mv_isDrain h hm20, b1, en, b3])
  (try simp (disch := omega) only [pz_me h0, forall_eq, true_and, and_true, true_imp_iff, forall_const, not_true_eq_false, not_false_eq_true, false_imp_iff, implies_true, eq_self, pz_i, pz_s1, pz_p1, pz_jnt, pz_b0, pz_b1, pz_em, pz_nnt, pz_nm1, pz_10, pz_20, pz_30, Classical.not_not])
  have h4 := pz_ms39 h0 (i := dr.1) (v := x)
  (try simp (disch := omega) only [pz_me h4, forall_eq, true_and, and_true, true_imp_iff, forall_const, not_true_eq_false, not_false_eq_true, false_imp_iff, implies_true, eq_self, pz_i, pz_s1, pz_p1, pz_jnt, pz_b0, pz_b1, pz_em, pz_nnt, pz_nm1, pz_10, pz_20, pz_30, Classical.not_not])
  have h5 := pz_ms40 h4 (i := dr.1) (v := y)
  (try simp (disch := omega) only [pz_me h5, forall_eq, true_and, and_true, true_imp_iff, forall_const, not_true_eq_false, not_false_eq_true, false_imp_iff, implies_true, eq_self, pz_i, pz_s1, pz_p1, pz_jnt, pz_b0, pz_b1, pz_em, pz_nnt, pz_nm1, pz_10, pz_20, pz_30, Classical.not_not])
  have h6 := pz_ms41 h5 (n := dr.1 + 1) rfl
  (try simp (disch := omega) only [pz_me h6, forall_eq, true_and, and_true, true_imp_iff, forall_const, not_true_eq_false, not_false_eq_true, false_imp_iff, implies_true, eq_self, pz_i, pz_s1, pz_p1, pz_jnt, pz_b0, pz_b1, pz_em, pz_nnt, pz_nm1, pz_10, pz_20, pz_30, Classical.not_not])
  exact k9 _ h6
theorem cp_dig (h : pz_c sc sq pa ri mp ca dr pe U V w0 w) (I : pz_I sc sq pa ri mp ca dr pe) (hU : U ≤ 190000) (hV : V ≤ 3900000) (k0 : (pw_jn x 100 ∧ pw_jn y 100) → (pz_sd x y) → (¬ pz_ex (pz_dr dr x y) dr.1 ∧ dr.1 < 20) → ∀ w1, pz_c sc sq pa ri mp ca (dr.1 + 1, pz_u (pz_u dr.2 39 dr.1 x) 40 dr.1 y) pe (U + 2) (V + 122) w0 w1 → K w1 (nI (dr.1 + 1))) (k1 : ¬ (pw_jn x 100 ∧ pw_jn y 100) → ∀ w1, pz_c sc sq pa ri mp ca dr pe (U + 2) (V + 122) w0 w1 → X w1 1) (k2 : (pw_jn x 100 ∧ pw_jn y 100) → ¬ (pz_sd x y) → ∀ w1, pz_c sc sq pa ri mp ca dr pe (U + 2) (V + 122) w0 w1 → X w1 2) (k3 : (pw_jn x 100 ∧ pw_jn y 100) → (pz_sd x y) → ¬ (¬ pz_ex (pz_dr dr x y) dr.1 ∧ dr.1 < 20) → ∀ w1, pz_c sc sq pa ri mp ca dr pe (U + 2) (V + 122) w0 w1 → X w1 3) : wp_X_dig w x y K X := by
  unfold wp_X_dig jp_X_dig_43 jp_X_dig_65 wp_Drain_init
  have hm20 : dr.1 ≤ 20 := I.gd.1
  rw [cv_checkSquares]
  refine ⟨fun c1 => ?_, fun c1 => cu_thr (X := X) (n := 1) h (by omega) (by omega) (pz_hL I) I.gr.1 (fun w1 h1 => k1 c1 w1 (h1.up (by omega) (by omega)))⟩
  rw [cv_isSharingSide c1.1 c1.2, cv_checkArgument]
  refine ⟨fun c2 => ?_, fun c2 => cu_thr (X := X) (n := 2) h (by omega) (by omega) (pz_hL I) I.gr.1 (fun w1 h1 => k2 c1 c2 w1 (h1.up (by omega) (by omega)))⟩
  have ru := pz_kru h
  have rv := pz_krv h
  have rn := pz_knv h 1
  have hL := pz_hL I
  have hr := I.gr.1
  have e7 : w.1 7 0 6 = 0 := (pz_csc.of h).2.2.2.2.2.2.1
  have el : pw_ln w 21 0 = dr.1 := (pz_cdr.of h).1
  have a1 := c1.1
  have a2 := c1.2
  (try simp (disch := omega) only [pz_ce h, pz_k14 h, pz_k60 h, pz_k23 h, pz_k30 h, pz_k31 h, pz_k34 h, pz_k35 h, pz_kl11 h, pz_k11 h, pz_k15 h, pz_k40 h, pz_k41 h, pz_k42 h, pz_k25 h, pz_km0 h, pz_km1 h, pz_km2 h, pz_kc0 h, pz_kc1 h, pz_kc2 h, pz_kc3 h, pz_kc4 h, pz_kc6 h, pz_kc7 h, pz_kl12 h, pz_k12 h, pz_kd0 h, pz_kd1 h, forall_eq, true_and, and_true, true_imp_iff, forall_const, not_true_eq_false, not_false_eq_true, false_imp_iff, implies_true, eq_self, pz_i, pz_s1, pz_p1, pz_jnt, pz_b0, pz_b1, pz_em, pz_nnt, pz_nm1, pz_10, pz_20, pz_30, Classical.not_not, a1, a2, pz_k14 h _ a1.2, pz_k14 h _ a2.2, pw_nIi a1.1, pw_nIi a2.1, cv_hasDrain h hm20, cv_checkState0, cv_checkState1, pz_l20, pz_le])
  refine ⟨fun b1 => cu_thr (X := X) (n := 3) h (by omega) (by omega) (pz_hL I) I.gr.1 (fun w1 h1 => k3 c1 c2 (fun z => z.1 b1) w1 (h1.up (by omega) (by omega))), fun b1 => ⟨fun b2 => cu_thr (X := X) (n := 3) h (by omega) (by omega) (pz_hL I) I.gr.1 (fun w1 h1 => k3 c1 c2 (fun z => by have := z.2; omega) w1 (h1.up (by omega) (by omega))), fun b2 => ?_⟩⟩
  have k9 := k0 c1 c2 ⟨b1, by omega⟩
  refine ⟨⟨by omega, by omega, by omega⟩, pz_lg (by show pw_ln w 21 0 ≤ 80; omega) (by show w.2.2.1 + 1 + 1 ≤ _; omega) (by show w.2.2.2 + 2 + 120 ≤ _; omega), e7, ?_⟩
  rw [show ∀ w' : pw_W, ∀ u, pw_ln (pw_la w' 21 0 u) 21 0 = pw_ln w' 21 0 + 1 from fun _ _ => pz_lals]
  show K _ (nI (pw_ln w 21 0 + 1))
  rw [el]
  exact k9 _ (csda h (a := x) (b := y) (by omega) (by omega))
theorem pi_dig (I : pz_I sc sq pa ri mp ca dr pe) (c1 : pw_jn x 100 ∧ pw_jn y 100) (c2 : pz_sd x y) (c3 : ¬ pz_ex (pz_dr dr x y) dr.1 ∧ dr.1 < 20) : pz_I sc sq pa ri mp ca (dr.1 + 1, pz_u (pz_u dr.2 39 dr.1 x) 40 dr.1 y) pe := by
  refine ⟨I.1, I.2.1, I.2.2.1, I.2.2.2.1, I.2.2.2.2.1, I.2.2.2.2.2.1, ⟨(by show dr.1 + 1 ≤ 20; have := c3.2; omega), fun m hm => ?_⟩, I.gh⟩
  have hm : m < dr.1 + 1 := hm
  show pw_jn ((pz_u (pz_u dr.2 39 dr.1 x) 40 dr.1 y) 39 m) 100 ∧ pw_jn ((pz_u (pz_u dr.2 39 dr.1 x) 40 dr.1 y) 40 m) 100
  rw [pz_uk (k := 40) (k' := 39) (by decide)]
  by_cases q : m = dr.1
  · rw [q, pz_us, pz_us]; exact c1
  · rw [pz_un q, pz_un q, pz_uk (by decide)]; exact I.gd.2 m (by omega)
theorem br_dig {G Z : pw_W → Prop} (hR : pz_R i w) (hi : i < 512) (kk : ∀ w2, pz_R (i + 1) w2 → G w2) : wp_L_dig w x y (fun w1 r1 => wp_M_dig w1 x y (pz_T G Z r1) (fun _ _ => False)) (fun _ _ => False) := by
  obtain ⟨sc, sq, pa, ri, mp, ca, dr, pe, I, hm, hc⟩ := hR
  unfold wp_L_dig
  refine cp_dig hc I (by omega) (by omega) (fun c1 c2 c3 w1 h1 => ⟨pz_o13 h1, fun w4 e4 => ?_⟩) (fun c1 w1 h1 => Or.inl ⟨rfl, ?_⟩) (fun c1 c2 w1 h1 => Or.inr (Or.inl ⟨rfl, ?_⟩)) (fun c1 c2 c3 w1 h1 => Or.inr (Or.inr (⟨rfl, ?_⟩)))
  · have h4 : pz_c sc sq pa ri mp ca (dr.1 + 1, pz_u (pz_u dr.2 39 dr.1 x) 40 dr.1 y) pe (4000 + 200 * i + 2) (200000 + 6000 * i + 122) w w4 := by rw [e4]; exact csout h1
    have hm4 := pz_mid hm h4
    have e13 : w4.1 13 0 0 = nI (dr.1 + 1) := by rw [e4]; exact pz_pss
    exact mp_dig hm4 I (fun _ _ _ w2 h2 => pz_fin0 (pi_dig I c1 c2 c3) h4 h2 (by omega) (by omega) e13 kk) (fun d1 _ _ => absurd c1 d1) (fun d1 d2 _ _ => absurd c2 d2) (fun d1 d2 d3 _ _ => absurd c3 d3)
  · have hm4 := pz_mid hm h1
    exact mp_dig hm4 I (fun d1 d2 d3 _ _ => absurd d1 c1) (fun _ w2 h2 => pz_fin1 I h1 h2 (by omega) (by omega) (by decide) kk) (fun d1 d2 _ _ => absurd d1 c1) (fun d1 d2 d3 _ _ => absurd d1 c1)
  · have hm4 := pz_mid hm h1
    exact mp_dig hm4 I (fun d1 d2 d3 _ _ => absurd d2 c2) (fun d1 _ _ => absurd c1 d1) (fun _ _ w2 h2 => pz_fin1 I h1 h2 (by omega) (by omega) (by decide) kk) (fun d1 d2 d3 _ _ => absurd d2 c2)
  · have hm4 := pz_mid hm h1
    exact mp_dig hm4 I (fun d1 d2 d3 _ _ => absurd d3 c3) (fun d1 _ _ => absurd c1 d1) (fun d1 d2 _ _ => absurd c2 d2) (fun _ _ _ w2 h2 => pz_fin1 I h1 h2 (by omega) (by omega) (by decide) kk)
theorem pz_cdrc {dr' : pz_N} (h : pz_c sc sq pa ri mp ca dr pe U V w0 w) (e : dr'.1 = dr.1) (e2 : ∀ f m, m < dr.1 → dr'.2 f m = dr.2 f m) : pz_c sc sq pa ri mp ca dr' pe U V w0 w := by
  obtain ⟨h1, h2, h3, h4, h5, h6, h7, h8, h9, h10, h11, h12, h13, h14⟩ := h
  refine ⟨h1, h2, h3, h4, h5, h6, h7, h8, h9, h10, h11, h12, ?_, h14⟩
  unfold pz_cdr at *
  rw [e]
  exact ⟨h13.1, h13.2.1, fun d hd => by rw [e2 _ _ hd]; exact h13.2.2.1 d hd, fun d hd => by rw [e2 _ _ hd]; exact h13.2.2.2 d hd⟩
theorem pz_mdrc {dr' : pz_N} (h : pz_m sc sq pa ri mp ca dr pe w0 w) (e : dr'.1 = dr.1) (e39 : ∀ m, dr'.2 39 m = dr.2 39 m) (e40 : ∀ m, dr'.2 40 m = dr.2 40 m) : pz_m sc sq pa ri mp ca dr' pe w0 w := by
  obtain ⟨h1, h2, h3, h4, h5, h6, h7, h8, h9, h10, h11⟩ := h
  refine ⟨h1, h2, h3, h4, h5, h6, h7, h8, h9, ?_, h11⟩
  unfold pz_mdr at *
  rw [e]
  exact ⟨fun m => by rw [e39]; exact h10.1 m, fun m => by rw [e40]; exact h10.2.1 m, h10.2.2⟩
def pz_fl (dr : pz_N) (x n : Nat) : pz_N := (dr.1 - 1, fun f m => if x ≤ m ∧ m < n then dr.2 f (m + 1) else dr.2 f m)
theorem mp_fill (h : pz_m sc sq pa ri mp ca dr pe w0 w) (I : pz_I sc sq pa ri mp ca dr pe) (k0 : (pw_jn x dr.1) → ∀ w1, pz_m (pz_u1 sc 0 0) sq pa ri mp ca (dr.1 - 1, fun f m => if pw_i x ≤ m ∧ m < dr.1 - 1 then dr.2 f (m + 1) else dr.2 f m) pe w0 w1 → K w1 (nI (dr.1 - 1))) (k1 : ¬ (pw_jn x dr.1) → ∀ w1, pz_m (pz_u1 sc 0 1) sq pa ri mp ca dr pe w0 w1 → K w1 0) : wp_M_fill w x K X := by
  unfold wp_M_fill jp_M_fill_20
  have h0 := pz_ms0 h (v := 0)
  have h1 := pz_ms0 h (v := 1)
  have hm20 : dr.1 ≤ 20 := I.gd.1
  (try simp (disch := omega) only [pz_me h, forall_eq, true_and, and_true, true_imp_iff, forall_const, not_true_eq_false, not_false_eq_true, false_imp_iff, implies_true, eq_self, pz_i, pz_s1, pz_p1, pz_jnt, pz_b0, pz_b1, pz_em, pz_nnt, pz_nm1, pz_10, pz_20, pz_30, Classical.not_not, mv_isIn, mu_isFine, pz_in_jn])
  by_cases q : pw_jn x dr.1
  case neg =>
    have k9 := k1 q _ h1
    (try simp (disch := omega) only [pz_me h1, forall_eq, true_and, and_true, true_imp_iff, forall_const, not_true_eq_false, not_false_eq_true, false_imp_iff, implies_true, eq_self, pz_i, pz_s1, pz_p1, pz_jnt, pz_b0, pz_b1, pz_em, pz_nnt, pz_nm1, pz_10, pz_20, pz_30, Classical.not_not, q])
    exact k9
  have k9 := k0 q
  obtain ⟨a, ha, rfl⟩ := pz_of q
  rw [pz_i (by omega)] at k9
  have e1 : nI dr.1 - 1 = nI (dr.1 - 1) := pz_sub (b := 1) (by omega)
  (try simp (disch := omega) only [pz_me h0, forall_eq, true_and, and_true, true_imp_iff, forall_const, not_true_eq_false, not_false_eq_true, false_imp_iff, implies_true, eq_self, pz_i, pz_s1, pz_p1, pz_jnt, pz_b0, pz_b1, pz_em, pz_nnt, pz_nm1, pz_10, pz_20, pz_30, Classical.not_not, q, e1])
  have h2 := pz_ms41 h0 (n := dr.1 - 1) rfl
  have hI0 : pz_m (pz_u1 sc 0 0) sq pa ri mp ca (pz_fl dr a a) pe w0 (pw_ps (pw_ps w 8 0 0 0) 8 0 41 (nI (dr.1 - 1))) := by
    have e : pz_fl dr a a = (dr.1 - 1, dr.2) := by
      unfold pz_fl
      congr 1
      funext f m
      rw [if_neg (by omega)]
    rw [e]; exact h2
  refine pz_up (F := fun k s w => lp_M_fill_40 K X k (nI (a + s)) w) (I := fun s w => pz_m (pz_u1 sc 0 0) sq pa ri mp ca (pz_fl dr a (a + s)) pe w0 w) (dr.1 - 1 - a) (fun s w4 k5 hs h4 ih => ?_) (fun w4 h4 => ?_) hI0
  · rw [lp_M_fill_40_s]
    have e9 : (pz_fl dr a (a + s)).1 = dr.1 - 1 := rfl
    (try simp (disch := omega) only [pz_me h4, forall_eq, true_and, and_true, true_imp_iff, forall_const, not_true_eq_false, not_false_eq_true, false_imp_iff, implies_true, eq_self, pz_i, pz_s1, pz_p1, pz_jnt, pz_b0, pz_b1, pz_em, pz_nnt, pz_nm1, pz_10, pz_20, pz_30, Classical.not_not, e9, pz_le, show ¬ dr.1 - 1 ≤ a + s by omega])
    have h5 := pz_ms39 h4 (i := a + s) (v := (pz_fl dr a (a + s)).2 39 (a + s + 1))
    (try simp (disch := omega) only [pz_me h5, forall_eq, true_and, and_true, true_imp_iff, forall_const, not_true_eq_false, not_false_eq_true, false_imp_iff, implies_true, eq_self, pz_i, pz_s1, pz_p1, pz_jnt, pz_b0, pz_b1, pz_em, pz_nnt, pz_nm1, pz_10, pz_20, pz_30, Classical.not_not, e9])
    have h6 := pz_ms40 h5 (i := a + s) (v := (pz_u (pz_fl dr a (a + s)).2 39 (a + s) ((pz_fl dr a (a + s)).2 39 (a + s + 1))) 40 (a + s + 1))
    refine ih _ (pz_mdrc h6 rfl (fun m => ?_) (fun m => ?_))
    · show (if a ≤ m ∧ m < a + (s + 1) then dr.2 39 (m + 1) else dr.2 39 m) = (pz_u (pz_u (pz_fl dr a (a + s)).2 39 (a + s) ((pz_fl dr a (a + s)).2 39 (a + s + 1))) 40 (a + s) ((pz_u (pz_fl dr a (a + s)).2 39 (a + s) ((pz_fl dr a (a + s)).2 39 (a + s + 1))) 40 (a + s + 1))) 39 m
      rw [pz_uk (k := 40) (k' := 39) (by decide)]
      by_cases q : m = a + s
      · rw [q, pz_us, if_pos (by omega)]
        exact (if_neg (by omega)).symm
      · rw [pz_un q]
        show _ = if a ≤ m ∧ m < a + s then dr.2 39 (m + 1) else dr.2 39 m
        by_cases q2 : a ≤ m ∧ m < a + s
        · rw [if_pos q2, if_pos (by omega)]
        · rw [if_neg q2, if_neg (by omega)]
    · show (if a ≤ m ∧ m < a + (s + 1) then dr.2 40 (m + 1) else dr.2 40 m) = (pz_u (pz_u (pz_fl dr a (a + s)).2 39 (a + s) ((pz_fl dr a (a + s)).2 39 (a + s + 1))) 40 (a + s) ((pz_u (pz_fl dr a (a + s)).2 39 (a + s) ((pz_fl dr a (a + s)).2 39 (a + s + 1))) 40 (a + s + 1))) 40 m
      by_cases q : m = a + s
      · rw [q, pz_us, if_pos (by omega), pz_uk (k := 39) (k' := 40) (by decide)]
        exact (if_neg (by omega)).symm
      · rw [pz_un q, pz_uk (k := 39) (k' := 40) (by decide)]
        show _ = if a ≤ m ∧ m < a + s then dr.2 40 (m + 1) else dr.2 40 m
        by_cases q2 : a ≤ m ∧ m < a + s
        · rw [if_pos q2, if_pos (by omega)]
        · rw [if_neg q2, if_neg (by omega)]
  · rw [lp_M_fill_40_s]
    have e9 : (pz_fl dr a (a + (dr.1 - 1 - a))).1 = dr.1 - 1 := rfl
    (try simp (disch := omega) only [pz_me h4, forall_eq, true_and, and_true, true_imp_iff, forall_const, not_true_eq_false, not_false_eq_true, false_imp_iff, implies_true, eq_self, pz_i, pz_s1, pz_p1, pz_jnt, pz_b0, pz_b1, pz_em, pz_nnt, pz_nm1, pz_10, pz_20, pz_30, Classical.not_not, e9, pz_le, show dr.1 - 1 ≤ a + (dr.1 - 1 - a) by omega])
    have e8 : a + (dr.1 - 1 - a) = dr.1 - 1 := by omega
    rw [e8] at h4
    exact k9 _ h4
theorem cp_fill (h : pz_c sc sq pa ri mp ca dr pe U V w0 w) (I : pz_I sc sq pa ri mp ca dr pe) (hU : U ≤ 190000) (hV : V ≤ 3900000) (k0 : (pw_jn x dr.1) → ∀ w1, pz_c sc sq pa ri mp ca (dr.1 - 1, fun f m => if pw_i x ≤ m ∧ m < dr.1 - 1 then dr.2 f (m + 1) else dr.2 f m) pe (U + 0) (V + 0) w0 w1 → K w1 (nI (dr.1 - 1))) (k1 : ¬ (pw_jn x dr.1) → ∀ w1, pz_c sc sq pa ri mp ca dr pe (U + 1) (V + 6) w0 w1 → X w1 1) : wp_X_fill w x K X := by
  unfold wp_X_fill
  have hm20 : dr.1 ≤ 20 := I.gd.1
  have e7 : w.1 7 0 6 = 0 := (pz_csc.of h).2.2.2.2.2.2.1
  have el : pw_ln w 21 0 = dr.1 := (pz_cdr.of h).1
  (try simp (disch := omega) only [pz_ce h, pz_k14 h, pz_k60 h, pz_k23 h, pz_k30 h, pz_k31 h, pz_k34 h, pz_k35 h, pz_kl11 h, pz_k11 h, pz_k15 h, pz_k40 h, pz_k41 h, pz_k42 h, pz_k25 h, pz_km0 h, pz_km1 h, pz_km2 h, pz_kc0 h, pz_kc1 h, pz_kc2 h, pz_kc3 h, pz_kc4 h, pz_kc6 h, pz_kc7 h, pz_kl12 h, pz_k12 h, pz_kd0 h, pz_kd1 h, forall_eq, true_and, and_true, true_imp_iff, forall_const, not_true_eq_false, not_false_eq_true, false_imp_iff, implies_true, eq_self, pz_i, pz_s1, pz_p1, pz_jnt, pz_b0, pz_b1, pz_em, pz_nnt, pz_nm1, pz_10, pz_20, pz_30, Classical.not_not])
  rw [cv_checkIndex (by omega)]
  refine ⟨fun q => ?_, fun q => cu_thr h (by omega) (by omega) (pz_hL I) I.gr.1 (k1 q)⟩
  refine ⟨e7, by rw [el]; exact q, e7, ?_⟩
  have h6 := csdd h (i := pw_i x)
  have el6 : pw_ln (pw_lr w 21 0 (pw_i x)) 21 0 = dr.1 - 1 := (pz_cdr.of h6).1
  rw [el6]
  have q2 := q.2
  exact k0 q _ (pz_cdrc h6 rfl (fun f m hm => by
    have hm : m < dr.1 - 1 := hm
    show (if pw_i x ≤ m ∧ m < dr.1 - 1 then dr.2 f (m + 1) else dr.2 f m) = if pw_i x ≤ m then dr.2 f (m + 1) else dr.2 f m
    by_cases z : pw_i x ≤ m
    · rw [if_pos z, if_pos ⟨z, hm⟩]
    · rw [if_neg z, if_neg (fun y => z y.1)]))
theorem pi_fill (I : pz_I sc sq pa ri mp ca dr pe) (c1 : pw_jn x dr.1) : pz_I sc sq pa ri mp ca (dr.1 - 1, fun f m => if pw_i x ≤ m ∧ m < dr.1 - 1 then dr.2 f (m + 1) else dr.2 f m) pe := by
  refine ⟨I.1, I.2.1, I.2.2.1, I.2.2.2.1, I.2.2.2.2.1, I.2.2.2.2.2.1, ⟨(by show dr.1 - 1 ≤ 20; have := I.gd.1; omega), fun m hm => ?_⟩, I.gh⟩
  have hm : m < dr.1 - 1 := hm
  show pw_jn (if pw_i x ≤ m ∧ m < dr.1 - 1 then dr.2 39 (m + 1) else dr.2 39 m) 100 ∧ pw_jn (if pw_i x ≤ m ∧ m < dr.1 - 1 then dr.2 40 (m + 1) else dr.2 40 m) 100
  by_cases z : pw_i x ≤ m ∧ m < dr.1 - 1
  · rw [if_pos z, if_pos z]; exact I.gd.2 _ (by omega)
  · rw [if_neg z, if_neg z]; exact I.gd.2 _ (by omega)
theorem br_fill {G Z : pw_W → Prop} (hR : pz_R i w) (hi : i < 512) (kk : ∀ w2, pz_R (i + 1) w2 → G w2) : wp_L_fill w x (fun w1 r1 => wp_M_fill w1 x (pz_T G Z r1) (fun _ _ => False)) (fun _ _ => False) := by
  obtain ⟨sc, sq, pa, ri, mp, ca, dr, pe, I, hm, hc⟩ := hR
  unfold wp_L_fill
  refine cp_fill hc I (by omega) (by omega) (fun c1 w1 h1 => ⟨pz_o13 h1, fun w4 e4 => ?_⟩) (fun c1 w1 h1 => ⟨rfl, ?_⟩)
  · have h4 : pz_c sc sq pa ri mp ca (dr.1 - 1, fun f m => if pw_i x ≤ m ∧ m < dr.1 - 1 then dr.2 f (m + 1) else dr.2 f m) pe (4000 + 200 * i + 0) (200000 + 6000 * i + 0) w w4 := by rw [e4]; exact csout h1
    have hm4 := pz_mid hm h4
    have e13 : w4.1 13 0 0 = nI (dr.1 - 1) := by rw [e4]; exact pz_pss
    exact mp_fill hm4 I (fun _ w2 h2 => pz_fin0 (pi_fill I c1) h4 h2 (by omega) (by omega) e13 kk) (fun d1 _ _ => absurd c1 d1)
  · have hm4 := pz_mid hm h1
    exact mp_fill hm4 I (fun d1 _ _ => absurd d1 c1) (fun _ w2 h2 => pz_fin1 I h1 h2 (by omega) (by omega) (by decide) kk)
theorem mp_cut (h : pz_m sc sq pa ri mp ca dr pe w0 w) (I : pz_I sc sq pa ri mp ca dr pe) (k0 : (pw_jn x 12 ∧ pw_jn y 100) → (pz_in z 1 20) → (pz_my sq pa ri pe x 1 (pw_i y) ∧ z ≤ sq.1 6 (pw_i y)) → ∀ w1, pz_m (pz_u1 sc 0 0) (pz_u sq.1 6 (pw_i y) (sq.1 6 (pw_i y) - z), sq.2) pa ri mp ca dr pe w0 w1 → K w1 (sq.1 6 (pw_i y) - z)) (k1 : ¬ (pw_jn x 12 ∧ pw_jn y 100) → ∀ w1, pz_m (pz_u1 sc 0 1) sq pa ri mp ca dr pe w0 w1 → K w1 0) (k2 : (pw_jn x 12 ∧ pw_jn y 100) → ¬ (pz_in z 1 20) → ∀ w1, pz_m (pz_u1 sc 0 2) sq pa ri mp ca dr pe w0 w1 → K w1 0) (k3 : (pw_jn x 12 ∧ pw_jn y 100) → (pz_in z 1 20) → ¬ (pz_my sq pa ri pe x 1 (pw_i y) ∧ z ≤ sq.1 6 (pw_i y)) → ∀ w1, pz_m (pz_u1 sc 0 3) sq pa ri mp ca dr pe w0 w1 → K w1 0) : wp_M_cut w x y z K X := by
  unfold wp_M_cut jp_M_cut_18 jp_M_cut_19 jp_M_cut_65 jp_M_cut_70
  have h0 := pz_ms0 h (v := 0)
  have h1 := pz_ms0 h (v := 1)
  have h2 := pz_ms0 h (v := 2)
  have h3 := pz_ms0 h (v := 3)
  simp only [mv_isPerson, mv_isSquare, mv_isIn, mu_isFine, pz_b0, Classical.not_not]
  by_cases a1 : pw_jn x 12
  case neg =>
    have k9 := k1 (fun z => a1 z.1) _ h1
    (try simp (disch := omega) only [forall_eq, true_and, and_true, true_imp_iff, forall_const, not_true_eq_false, not_false_eq_true, false_imp_iff, implies_true, eq_self, pz_i, pz_s1, pz_p1, pz_jnt, pz_b0, pz_b1, pz_em, pz_nnt, pz_nm1, pz_10, pz_20, pz_30, Classical.not_not, a1])
    exact k9
  by_cases a2 : pw_jn y 100
  case neg =>
    have k9 := k1 (fun z => a2 z.2) _ h1
    (try simp (disch := omega) only [forall_eq, true_and, and_true, true_imp_iff, forall_const, not_true_eq_false, not_false_eq_true, false_imp_iff, implies_true, eq_self, pz_i, pz_s1, pz_p1, pz_jnt, pz_b0, pz_b1, pz_em, pz_nnt, pz_nm1, pz_10, pz_20, pz_30, Classical.not_not, a1, a2])
    exact k9
  by_cases c2 : pz_in z 1 20
  case neg =>
    have k9 := k2 ⟨a1, a2⟩ c2 _ h2
    (try simp (disch := omega) only [forall_eq, true_and, and_true, true_imp_iff, forall_const, not_true_eq_false, not_false_eq_true, false_imp_iff, implies_true, eq_self, pz_i, pz_s1, pz_p1, pz_jnt, pz_b0, pz_b1, pz_em, pz_nnt, pz_nm1, pz_10, pz_20, pz_30, Classical.not_not, a1, a2, c2])
    exact k9
  obtain ⟨a, ha, rfl⟩ := pz_of a2
  rw [pz_i (by omega)] at *
  by_cases b1 : pz_my sq pa ri pe x 1 a
  case neg =>
    have k9 := k3 ⟨a1, a2⟩ c2 (fun q => b1 q.1) _ h3
    (try simp (disch := omega) only [pz_me h, forall_eq, true_and, and_true, true_imp_iff, forall_const, not_true_eq_false, not_false_eq_true, false_imp_iff, implies_true, eq_self, pz_i, pz_s1, pz_p1, pz_jnt, pz_b0, pz_b1, pz_em, pz_nnt, pz_nm1, pz_10, pz_20, pz_30, Classical.not_not, a1, a2, c2, mv_may h I.gl.1 I.gp.1.2 I.gr.1 a1, b1])
    exact k9
  by_cases b2 : z ≤ sq.1 6 a
  case neg =>
    have k9 := k3 ⟨a1, a2⟩ c2 (fun q => b2 q.2) _ h3
    (try simp (disch := omega) only [pz_me h, forall_eq, true_and, and_true, true_imp_iff, forall_const, not_true_eq_false, not_false_eq_true, false_imp_iff, implies_true, eq_self, pz_i, pz_s1, pz_p1, pz_jnt, pz_b0, pz_b1, pz_em, pz_nnt, pz_nm1, pz_10, pz_20, pz_30, Classical.not_not, a1, a2, c2, mv_may h I.gl.1 I.gp.1.2 I.gr.1 a1, b1, b2])
    exact k9
  have k9 := k0 ⟨a1, a2⟩ c2 ⟨b1, b2⟩
  (try simp (disch := omega) only [pz_me h, forall_eq, true_and, and_true, true_imp_iff, forall_const, not_true_eq_false, not_false_eq_true, false_imp_iff, implies_true, eq_self, pz_i, pz_s1, pz_p1, pz_jnt, pz_b0, pz_b1, pz_em, pz_nnt, pz_nm1, pz_10, pz_20, pz_30, Classical.not_not, a1, a2, c2, mv_may h I.gl.1 I.gp.1.2 I.gr.1 a1, b1, b2])
  (try simp (disch := omega) only [pz_me h0, forall_eq, true_and, and_true, true_imp_iff, forall_const, not_true_eq_false, not_false_eq_true, false_imp_iff, implies_true, eq_self, pz_i, pz_s1, pz_p1, pz_jnt, pz_b0, pz_b1, pz_em, pz_nnt, pz_nm1, pz_10, pz_20, pz_30, Classical.not_not])
  have h4 := pz_ms6 h0 (i := a) (v := sq.1 6 a - z)
  (try simp (disch := omega) only [pz_me h4, forall_eq, true_and, and_true, true_imp_iff, forall_const, not_true_eq_false, not_false_eq_true, false_imp_iff, implies_true, eq_self, pz_i, pz_s1, pz_p1, pz_jnt, pz_b0, pz_b1, pz_em, pz_nnt, pz_nm1, pz_10, pz_20, pz_30, Classical.not_not])
  rw [pz_us]
  exact k9 _ h4
theorem cp_cut (h : pz_c sc sq pa ri mp ca dr pe U V w0 w) (I : pz_I sc sq pa ri mp ca dr pe) (hU : U ≤ 190000) (hV : V ≤ 3900000) (k0 : (pw_jn x 12 ∧ pw_jn y 100) → (pz_in z 1 20) → (pz_my sq pa ri pe x 1 (pw_i y) ∧ z ≤ sq.1 6 (pw_i y)) → ∀ w1, pz_c sc (pz_u sq.1 6 (pw_i y) (sq.1 6 (pw_i y) - z), sq.2) pa ri mp ca dr pe (U + 0) (V + 0) w0 w1 → K w1 (sq.1 6 (pw_i y) - z)) (k1 : ¬ (pw_jn x 12 ∧ pw_jn y 100) → ∀ w1, pz_c sc sq pa ri mp ca dr pe (U + 1) (V + 6) w0 w1 → X w1 1) (k2 : (pw_jn x 12 ∧ pw_jn y 100) → ¬ (pz_in z 1 20) → ∀ w1, pz_c sc sq pa ri mp ca dr pe (U + 1) (V + 6) w0 w1 → X w1 2) (k3 : (pw_jn x 12 ∧ pw_jn y 100) → (pz_in z 1 20) → ¬ (pz_my sq pa ri pe x 1 (pw_i y) ∧ z ≤ sq.1 6 (pw_i y)) → ∀ w1, pz_c sc sq pa ri mp ca dr pe (U + 1) (V + 6) w0 w1 → X w1 3) : wp_X_cut w x y z K X := by
  unfold wp_X_cut jp_X_cut_61
  rw [cv_personNumbered h]
  refine ⟨fun a1 => ?_, fun a1 => cu_thr h (by omega) (by omega) (pz_hL I) I.gr.1 (k1 fun z => a1 z.1)⟩
  rw [cv_squareNumbered h]
  refine ⟨fun a2 => ?_, fun a2 => cu_thr h (by omega) (by omega) (pz_hL I) I.gr.1 (k1 fun z => a2 z.2)⟩
  rw [cv_isInRange, cv_checkArgument]
  refine ⟨fun c2 => ?_, fun c2 => cu_thr h (by omega) (by omega) (pz_hL I) I.gr.1 (k2 ⟨a1, a2⟩ c2)⟩
  have k3 := k3 ⟨a1, a2⟩ c2
  have k0 := k0 ⟨a1, a2⟩ c2
  obtain ⟨a, ha, rfl⟩ := pz_of a2
  rw [pz_i (by omega)] at *
  unfold pz_my at k3 k0
  rw [pz_k42 h _ a1.2, cv_checkState]
  refine ⟨a1.1, fun b1 => ?_, fun b1 => cu_thr h (by omega) (by omega) (pz_hL I) I.gr.1 (k3 fun z => b1 z.1.1)⟩
  have e8 := (I.gl.1 a ha).1
  (try simp (disch := omega) only [pz_ce h, pz_k14 h, pz_k60 h, pz_k23 h, pz_k30 h, pz_k31 h, pz_k34 h, pz_k35 h, pz_kl11 h, pz_k11 h, pz_k15 h, pz_k40 h, pz_k41 h, pz_k42 h, pz_k25 h, pz_km0 h, pz_km1 h, pz_km2 h, pz_kc0 h, pz_kc1 h, pz_kc2 h, pz_kc3 h, pz_kc4 h, pz_kc6 h, pz_kc7 h, pz_kl12 h, pz_k12 h, pz_kd0 h, pz_kd1 h, forall_eq, true_and, and_true, true_imp_iff, forall_const, not_true_eq_false, not_false_eq_true, false_imp_iff, implies_true, eq_self, pz_i, pz_s1, pz_p1, pz_jnt, pz_b0, pz_b1, pz_em, pz_nnt, pz_nm1, pz_10, pz_20, pz_30, Classical.not_not, cv_isAllowed h I.gr.1 e8, cv_checkState, cv_checkState0, cv_checkState1])
  refine ⟨fun b2 => ⟨fun b3 => cu_thr h (by omega) (by omega) (pz_hL I) I.gr.1 (k3 fun z => absurd z.2 (Int32.not_le.mpr b3)), fun b3 => ?_⟩, fun b2 => cu_thr h (by omega) (by omega) (pz_hL I) I.gr.1 (k3 fun z => b2 z.1.2)⟩
  rw [pz_pss]
  exact k0 ⟨⟨b1, b2⟩, Int32.not_lt.mp b3⟩ _ (cs64 h)
theorem pz_pk {F : Nat → Int32} {i : Nat} (hp : ∀ s, s < 100 → 0 ≤ F s ∧ F s ≤ 200) (hv : 0 ≤ v ∧ v ≤ 200) : ∀ s, s < 100 → 0 ≤ (if s = i then v else F s) ∧ (if s = i then v else F s) ≤ 200 := fun s hs => by
  by_cases q : s = i
  · rw [if_pos q]; exact hv
  · rw [if_neg q]; exact hp s hs
theorem pz_iq.k6 {i : Nat} (h : pz_iq sc sq) (hv : 0 ≤ v ∧ v ≤ 200) : pz_iq sc (pz_u sq.1 6 i v, sq.2) := by
  refine ⟨h.1, h.2.1, fun s hs => ?_, h.2.2.2⟩
  rw [show ((pz_u sq.1 6 i v, sq.2) : pz_Q).1 6 s = (pz_u sq.1 6 i v) 6 s from rfl]
  by_cases q : s = i
  · rw [q, pz_us]; exact hv
  · rw [pz_un q]; exact h.2.2.1 s hs
theorem pz_dec {x y : Int32} (h1 : 0 ≤ x) (h2 : x ≤ 200) (h3 : 0 ≤ y) (h4 : y ≤ x) : 0 ≤ x - y ∧ x - y ≤ 200 := by
  rw [Int32.le_iff_toInt_le] at *
  rw [Int32.le_iff_toInt_le]
  rw [Int32.toInt_sub]
  rw [show (0 : Int32).toInt = 0 from rfl] at *
  rw [show (200 : Int32).toInt = 200 from rfl] at *
  rw [Int.bmod_eq_of_le (by omega) (by omega)]
  omega
theorem pz_in0 {x y z : Int32} (h : pz_in x y z) (hy : 0 ≤ y) : 0 ≤ x := by
  have := Int32.not_lt.mp h.1
  rw [Int32.le_iff_toInt_le] at *
  omega
theorem pi_cut (I : pz_I sc sq pa ri mp ca dr pe) (c1 : pw_jn x 12 ∧ pw_jn y 100) (c2 : pz_in z 1 20) (c3 : pz_my sq pa ri pe x 1 (pw_i y) ∧ z ≤ sq.1 6 (pw_i y)) : pz_I sc (pz_u sq.1 6 (pw_i y) (sq.1 6 (pw_i y) - z), sq.2) pa ri mp ca dr pe := ⟨I.gq.k6 (pz_dec (I.gq.2.2.1 _ c1.2.2).1 (I.gq.2.2.1 _ c1.2.2).2 (pz_in0 c2 (by decide)) c3.2), I.2⟩
theorem br_cut {G Z : pw_W → Prop} (hR : pz_R i w) (hi : i < 512) (kk : ∀ w2, pz_R (i + 1) w2 → G w2) : wp_L_cut w x y z (fun w1 r1 => wp_M_cut w1 x y z (pz_T G Z r1) (fun _ _ => False)) (fun _ _ => False) := by
  obtain ⟨sc, sq, pa, ri, mp, ca, dr, pe, I, hm, hc⟩ := hR
  unfold wp_L_cut
  refine cp_cut hc I (by omega) (by omega) (fun c1 c2 c3 w1 h1 => ⟨pz_o13 h1, fun w4 e4 => ?_⟩) (fun c1 w1 h1 => Or.inl ⟨rfl, ?_⟩) (fun c1 c2 w1 h1 => Or.inr (Or.inl ⟨rfl, ?_⟩)) (fun c1 c2 c3 w1 h1 => Or.inr (Or.inr (⟨rfl, ?_⟩)))
  · have h4 : pz_c sc (pz_u sq.1 6 (pw_i y) (sq.1 6 (pw_i y) - z), sq.2) pa ri mp ca dr pe (4000 + 200 * i + 0) (200000 + 6000 * i + 0) w w4 := by rw [e4]; exact csout h1
    have hm4 := pz_mid hm h4
    have e13 : w4.1 13 0 0 = sq.1 6 (pw_i y) - z := by rw [e4]; exact pz_pss
    exact mp_cut hm4 I (fun _ _ _ w2 h2 => pz_fin0 (pi_cut I c1 c2 c3) h4 h2 (by omega) (by omega) e13 kk) (fun d1 _ _ => absurd c1 d1) (fun d1 d2 _ _ => absurd c2 d2) (fun d1 d2 d3 _ _ => absurd c3 d3)
  · have hm4 := pz_mid hm h1
    exact mp_cut hm4 I (fun d1 d2 d3 _ _ => absurd d1 c1) (fun _ w2 h2 => pz_fin1 I h1 h2 (by omega) (by omega) (by decide) kk) (fun d1 d2 _ _ => absurd d1 c1) (fun d1 d2 d3 _ _ => absurd d1 c1)
  · have hm4 := pz_mid hm h1
    exact mp_cut hm4 I (fun d1 d2 d3 _ _ => absurd d2 c2) (fun d1 _ _ => absurd c1 d1) (fun _ _ w2 h2 => pz_fin1 I h1 h2 (by omega) (by omega) (by decide) kk) (fun d1 d2 d3 _ _ => absurd d2 c2)
  · have hm4 := pz_mid hm h1
    exact mp_cut hm4 I (fun d1 d2 d3 _ _ => absurd d3 c3) (fun d1 _ _ => absurd c1 d1) (fun d1 d2 _ _ => absurd c2 d2) (fun _ _ _ w2 h2 => pz_fin1 I h1 h2 (by omega) (by omega) (by decide) kk)
theorem mp_burn (h : pz_m sc sq pa ri mp ca dr pe w0 w) (I : pz_I sc sq pa ri mp ca dr pe) (k0 : (pw_jn x 12 ∧ pw_jn y 100) → (pz_my sq pa ri pe x 2 (pw_i y) ∧ pz_bu sc sq (pw_i y)) → ∀ w1, pz_m (pz_u1 sc 0 0) (pz_u (pz_u sq.1 9 (pw_i y) (sc 1)) 6 (pw_i y) (sq.1 6 (pw_i y) - pz_mn (sq.1 6 (pw_i y)) 5), sq.2) pa ri mp ca dr pe w0 w1 → K w1 (sq.1 6 (pw_i y) - pz_mn (sq.1 6 (pw_i y)) 5)) (k1 : ¬ (pw_jn x 12 ∧ pw_jn y 100) → ∀ w1, pz_m (pz_u1 sc 0 1) sq pa ri mp ca dr pe w0 w1 → K w1 0) (k2 : (pw_jn x 12 ∧ pw_jn y 100) → ¬ (pz_my sq pa ri pe x 2 (pw_i y) ∧ pz_bu sc sq (pw_i y)) → ∀ w1, pz_m (pz_u1 sc 0 2) sq pa ri mp ca dr pe w0 w1 → K w1 0) : wp_M_burn w x y K X := by
  unfold wp_M_burn jp_M_burn_18 jp_M_burn_19 jp_M_burn_47 jp_M_burn_52
  have h0 := pz_ms0 h (v := 0)
  have h1 := pz_ms0 h (v := 1)
  have h2 := pz_ms0 h (v := 2)
  simp only [mv_isPerson, mv_isSquare, mv_isIn, mu_isFine, pz_b0, Classical.not_not]
  by_cases a1 : pw_jn x 12
  case neg =>
    have k9 := k1 (fun z => a1 z.1) _ h1
    (try simp (disch := omega) only [forall_eq, true_and, and_true, true_imp_iff, forall_const, not_true_eq_false, not_false_eq_true, false_imp_iff, implies_true, eq_self, pz_i, pz_s1, pz_p1, pz_jnt, pz_b0, pz_b1, pz_em, pz_nnt, pz_nm1, pz_10, pz_20, pz_30, Classical.not_not, a1])
    exact k9
  by_cases a2 : pw_jn y 100
  case neg =>
    have k9 := k1 (fun z => a2 z.2) _ h1
    (try simp (disch := omega) only [forall_eq, true_and, and_true, true_imp_iff, forall_const, not_true_eq_false, not_false_eq_true, false_imp_iff, implies_true, eq_self, pz_i, pz_s1, pz_p1, pz_jnt, pz_b0, pz_b1, pz_em, pz_nnt, pz_nm1, pz_10, pz_20, pz_30, Classical.not_not, a1, a2])
    exact k9
  obtain ⟨a, ha, rfl⟩ := pz_of a2
  rw [pz_i (by omega)] at *
  by_cases b1 : pz_my sq pa ri pe x 2 a
  case neg =>
    have k9 := k2 ⟨a1, a2⟩ (fun q => b1 q.1) _ h2
    (try simp (disch := omega) only [pz_me h, forall_eq, true_and, and_true, true_imp_iff, forall_const, not_true_eq_false, not_false_eq_true, false_imp_iff, implies_true, eq_self, pz_i, pz_s1, pz_p1, pz_jnt, pz_b0, pz_b1, pz_em, pz_nnt, pz_nm1, pz_10, pz_20, pz_30, Classical.not_not, a1, a2, mv_may h I.gl.1 I.gp.1.2 I.gr.1 a1, b1])
    exact k9
  by_cases b2 : pz_bu sc sq a
  case neg =>
    have k9 := k2 ⟨a1, a2⟩ (fun q => b2 q.2) _ h2
    (try simp (disch := omega) only [pz_me h, forall_eq, true_and, and_true, true_imp_iff, forall_const, not_true_eq_false, not_false_eq_true, false_imp_iff, implies_true, eq_self, pz_i, pz_s1, pz_p1, pz_jnt, pz_b0, pz_b1, pz_em, pz_nnt, pz_nm1, pz_10, pz_20, pz_30, Classical.not_not, a1, a2, mv_may h I.gl.1 I.gp.1.2 I.gr.1 a1, b1, mv_burns h, b2])
    exact k9
  have k9 := k0 ⟨a1, a2⟩ ⟨b1, b2⟩
  (try simp (disch := omega) only [pz_me h, forall_eq, true_and, and_true, true_imp_iff, forall_const, not_true_eq_false, not_false_eq_true, false_imp_iff, implies_true, eq_self, pz_i, pz_s1, pz_p1, pz_jnt, pz_b0, pz_b1, pz_em, pz_nnt, pz_nm1, pz_10, pz_20, pz_30, Classical.not_not, a1, a2, mv_may h I.gl.1 I.gp.1.2 I.gr.1 a1, b1, mv_burns h, b2])
  (try simp (disch := omega) only [pz_me h0, forall_eq, true_and, and_true, true_imp_iff, forall_const, not_true_eq_false, not_false_eq_true, false_imp_iff, implies_true, eq_self, pz_i, pz_s1, pz_p1, pz_jnt, pz_b0, pz_b1, pz_em, pz_nnt, pz_nm1, pz_10, pz_20, pz_30, Classical.not_not])
  have h4 := pz_ms9 h0 (i := a) (v := sc 1)
  rw [show pz_u1 sc 0 0 1 = sc 1 from rfl]
  (try simp (disch := omega) only [pz_me h4, forall_eq, true_and, and_true, true_imp_iff, forall_const, not_true_eq_false, not_false_eq_true, false_imp_iff, implies_true, eq_self, pz_i, pz_s1, pz_p1, pz_jnt, pz_b0, pz_b1, pz_em, pz_nnt, pz_nm1, pz_10, pz_20, pz_30, Classical.not_not, mv_lesser])
  have h5 := pz_ms6 h4 (i := a) (v := sq.1 6 a - pz_mn (sq.1 6 a) 5)
  rw [show (pz_u sq.1 9 a (sc 1)) 6 a = sq.1 6 a from rfl]
  (try simp (disch := omega) only [pz_me h5, forall_eq, true_and, and_true, true_imp_iff, forall_const, not_true_eq_false, not_false_eq_true, false_imp_iff, implies_true, eq_self, pz_i, pz_s1, pz_p1, pz_jnt, pz_b0, pz_b1, pz_em, pz_nnt, pz_nm1, pz_10, pz_20, pz_30, Classical.not_not])
  rw [pz_us]
  exact k9 _ h5
theorem cp_burn (h : pz_c sc sq pa ri mp ca dr pe U V w0 w) (I : pz_I sc sq pa ri mp ca dr pe) (hU : U ≤ 190000) (hV : V ≤ 3900000) (k0 : (pw_jn x 12 ∧ pw_jn y 100) → (pz_my sq pa ri pe x 2 (pw_i y) ∧ pz_bu sc sq (pw_i y)) → ∀ w1, pz_c sc (pz_u (pz_u sq.1 9 (pw_i y) (sc 1)) 6 (pw_i y) (sq.1 6 (pw_i y) - pz_mn (sq.1 6 (pw_i y)) 5), sq.2) pa ri mp ca dr pe (U + 0) (V + 0) w0 w1 → K w1 (sq.1 6 (pw_i y) - pz_mn (sq.1 6 (pw_i y)) 5)) (k1 : ¬ (pw_jn x 12 ∧ pw_jn y 100) → ∀ w1, pz_c sc sq pa ri mp ca dr pe (U + 1) (V + 6) w0 w1 → X w1 1) (k2 : (pw_jn x 12 ∧ pw_jn y 100) → ¬ (pz_my sq pa ri pe x 2 (pw_i y) ∧ pz_bu sc sq (pw_i y)) → ∀ w1, pz_c sc sq pa ri mp ca dr pe (U + 1) (V + 6) w0 w1 → X w1 3) : wp_X_burn w x y K X := by
  unfold wp_X_burn
  rw [cv_personNumbered h]
  refine ⟨fun a1 => ?_, fun a1 => cu_thr h (by omega) (by omega) (pz_hL I) I.gr.1 (k1 fun z => a1 z.1)⟩
  rw [cv_squareNumbered h]
  refine ⟨fun a2 => ?_, fun a2 => cu_thr h (by omega) (by omega) (pz_hL I) I.gr.1 (k1 fun z => a2 z.2)⟩
  have k2 := k2 ⟨a1, a2⟩
  have k0 := k0 ⟨a1, a2⟩
  obtain ⟨a, ha, rfl⟩ := pz_of a2
  rw [pz_i (by omega)] at *
  unfold pz_my at k2 k0
  rw [pz_k42 h _ a1.2, cv_checkState]
  refine ⟨a1.1, fun b1 => ?_, fun b1 => cu_thr h (by omega) (by omega) (pz_hL I) I.gr.1 (k2 fun z => b1 z.1.1)⟩
  have e8 := (I.gl.1 a ha).1
  have emn : (if sq.1 6 a < 5 then sq.1 6 a else 5) = pz_mn (sq.1 6 a) 5 := by
    unfold pz_mn
    by_cases q : sq.1 6 a < 5
    · rw [if_pos q, if_neg (fun z => absurd z (Int32.not_le.mpr q))]
    · rw [if_neg q, if_pos (Int32.not_lt.mp q)]
  (try simp (disch := omega) only [pz_ce h, pz_k14 h, pz_k60 h, pz_k23 h, pz_k30 h, pz_k31 h, pz_k34 h, pz_k35 h, pz_kl11 h, pz_k11 h, pz_k15 h, pz_k40 h, pz_k41 h, pz_k42 h, pz_k25 h, pz_km0 h, pz_km1 h, pz_km2 h, pz_kc0 h, pz_kc1 h, pz_kc2 h, pz_kc3 h, pz_kc4 h, pz_kc6 h, pz_kc7 h, pz_kl12 h, pz_k12 h, pz_kd0 h, pz_kd1 h, forall_eq, true_and, and_true, true_imp_iff, forall_const, not_true_eq_false, not_false_eq_true, false_imp_iff, implies_true, eq_self, pz_i, pz_s1, pz_p1, pz_jnt, pz_b0, pz_b1, pz_em, pz_nnt, pz_nm1, pz_10, pz_20, pz_30, Classical.not_not, cv_isAllowed h I.gr.1 e8, cv_checkState, cv_isBurnable h I.gq.1, emn])
  refine ⟨fun b2 => ⟨fun b3 => ?_, fun b3 => cu_thr h (by omega) (by omega) (pz_hL I) I.gr.1 (k2 fun z => b3 z.2)⟩, fun b2 => cu_thr h (by omega) (by omega) (pz_hL I) I.gr.1 (k2 fun z => b2 z.1.2)⟩
  have h4 := cs64 h (s := a) (v := sq.1 6 a - pz_mn (sq.1 6 a) 5)
  have e71 : (pw_ps w 6 a 4 (sq.1 6 a - pz_mn (sq.1 6 a) 5)).1 7 0 7 = sc 1 := by rw [pz_psf (by decide)]; exact (pz_csc.of h).2.2.2.2.2.2.2.1
  rw [e71, pz_psk (by decide), pz_pss]
  have hbn : pz_bn (sc 1) = sc 1 := if_neg fun q => by have := I.gq.1.1.1; rw [q] at this; exact absurd this (by decide)
  have h5 := cs66 h4 hbn (s := a)
  have k9 := k0 ⟨⟨b1, b2⟩, b3⟩
  rw [pz_uc (by decide)] at k9
  exact k9 _ h5
theorem pi_burn (I : pz_I sc sq pa ri mp ca dr pe) (c1 : pw_jn x 12 ∧ pw_jn y 100) (c2 : pz_my sq pa ri pe x 2 (pw_i y) ∧ pz_bu sc sq (pw_i y)) : pz_I sc (pz_u (pz_u sq.1 9 (pw_i y) (sc 1)) 6 (pw_i y) (sq.1 6 (pw_i y) - pz_mn (sq.1 6 (pw_i y)) 5), sq.2) pa ri mp ca dr pe := by
  have hp := I.gq.2.2.1 _ c1.2.2
  have hm : 0 ≤ pz_mn (sq.1 6 (pw_i y)) 5 ∧ pz_mn (sq.1 6 (pw_i y)) 5 ≤ sq.1 6 (pw_i y) := by
    unfold pz_mn
    by_cases q : 5 ≤ sq.1 6 (pw_i y)
    · rw [if_pos q]; exact ⟨by decide, q⟩
    · rw [if_neg q]; exact ⟨hp.1, by rw [Int32.le_iff_toInt_le]; omega⟩
  have hq : pz_iq sc (pz_u sq.1 9 (pw_i y) (sc 1), sq.2) := by
    refine ⟨⟨I.gq.1.1, fun s hs => ?_⟩, I.gq.2⟩
    rw [show ((pz_u sq.1 9 (pw_i y) (sc 1), sq.2) : pz_Q).1 9 s = (pz_u sq.1 9 (pw_i y) (sc 1)) 9 s from rfl]
    by_cases q : s = pw_i y
    · rw [q, pz_us]; exact Or.inr ⟨I.gq.1.1.1, by rw [Int32.le_iff_toInt_le]; omega⟩
    · rw [pz_un q]; exact I.gq.1.2 s hs
  exact ⟨hq.k6 (pz_dec hp.1 hp.2 hm.1 hm.2), I.2⟩
theorem br_burn {G Z : pw_W → Prop} (hR : pz_R i w) (hi : i < 512) (kk : ∀ w2, pz_R (i + 1) w2 → G w2) : wp_L_burn w x y (fun w1 r1 => wp_M_burn w1 x y (pz_T G Z r1) (fun _ _ => False)) (fun _ _ => False) := by
  obtain ⟨sc, sq, pa, ri, mp, ca, dr, pe, I, hm, hc⟩ := hR
  unfold wp_L_burn
  refine cp_burn hc I (by omega) (by omega) (fun c1 c2 w1 h1 => ⟨pz_o13 h1, fun w4 e4 => ?_⟩) (fun c1 w1 h1 => Or.inl ⟨rfl, ?_⟩) (fun c1 c2 w1 h1 => Or.inr (⟨rfl, ?_⟩))
  · have h4 : pz_c sc (pz_u (pz_u sq.1 9 (pw_i y) (sc 1)) 6 (pw_i y) (sq.1 6 (pw_i y) - pz_mn (sq.1 6 (pw_i y)) 5), sq.2) pa ri mp ca dr pe (4000 + 200 * i + 0) (200000 + 6000 * i + 0) w w4 := by rw [e4]; exact csout h1
    have hm4 := pz_mid hm h4
    have e13 : w4.1 13 0 0 = sq.1 6 (pw_i y) - pz_mn (sq.1 6 (pw_i y)) 5 := by rw [e4]; exact pz_pss
    exact mp_burn hm4 I (fun _ _ w2 h2 => pz_fin0 (pi_burn I c1 c2) h4 h2 (by omega) (by omega) e13 kk) (fun d1 _ _ => absurd c1 d1) (fun d1 d2 _ _ => absurd c2 d2)
  · have hm4 := pz_mid hm h1
    exact mp_burn hm4 I (fun d1 d2 _ _ => absurd d1 c1) (fun _ w2 h2 => pz_fin1 I h1 h2 (by omega) (by omega) (by decide) kk) (fun d1 d2 _ _ => absurd d1 c1)
  · have hm4 := pz_mid hm h1
    exact mp_burn hm4 I (fun d1 d2 _ _ => absurd d2 c2) (fun d1 _ _ => absurd c1 d1) (fun _ _ w2 h2 => pz_fin1 I h1 h2 (by omega) (by omega) (by decide) kk)
theorem mp_name (h : pz_m sc sq pa ri mp ca dr pe w0 w) (I : pz_I sc sq pa ri mp ca dr pe) (k0 : (pw_jn x 12 ∧ pw_jn y 12) → (pe.1 42 (pw_i x) = 0 ∧ pe.1 42 (pw_i y) = 0 ∧ ¬ x = y ∧ ¬ pz_ex (fun k => pe.2 (pw_i x) k = y) (pw_i (pe.1 44 (pw_i x))) ∧ pw_i (pe.1 44 (pw_i x)) < 3) → ∀ w1, pz_m (pz_u1 sc 0 0) sq pa ri mp ca dr (pz_u pe.1 44 (pw_i x) (pe.1 44 (pw_i x) + 1), pz_u pe.2 (pw_i x) (pw_i (pe.1 44 (pw_i x))) y) w0 w1 → K w1 (pe.1 44 (pw_i x) + 1)) (k1 : ¬ (pw_jn x 12 ∧ pw_jn y 12) → ∀ w1, pz_m (pz_u1 sc 0 1) sq pa ri mp ca dr pe w0 w1 → K w1 0) (k2 : (pw_jn x 12 ∧ pw_jn y 12) → ¬ (pe.1 42 (pw_i x) = 0 ∧ pe.1 42 (pw_i y) = 0 ∧ ¬ x = y ∧ ¬ pz_ex (fun k => pe.2 (pw_i x) k = y) (pw_i (pe.1 44 (pw_i x))) ∧ pw_i (pe.1 44 (pw_i x)) < 3) → ∀ w1, pz_m (pz_u1 sc 0 2) sq pa ri mp ca dr pe w0 w1 → K w1 0) : wp_M_name w x y K X := by
  unfold wp_M_name jp_M_name_18 jp_M_name_19 jp_M_name_70 jp_M_name_71 jp_M_name_92
  have h0 := pz_ms0 h (v := 0)
  have h1 := pz_ms0 h (v := 1)
  have h2 := pz_ms0 h (v := 2)
  simp only [mv_isPerson, mu_isFine, pz_b0, Classical.not_not]
  by_cases a1 : pw_jn x 12
  case neg =>
    have k9 := k1 (fun z => a1 z.1) _ h1
    (try simp (disch := omega) only [forall_eq, true_and, and_true, true_imp_iff, forall_const, not_true_eq_false, not_false_eq_true, false_imp_iff, implies_true, eq_self, pz_i, pz_s1, pz_p1, pz_jnt, pz_b0, pz_b1, pz_em, pz_nnt, pz_nm1, pz_10, pz_20, pz_30, Classical.not_not, a1])
    exact k9
  by_cases a2 : pw_jn y 12
  case neg =>
    have k9 := k1 (fun z => a2 z.2) _ h1
    (try simp (disch := omega) only [forall_eq, true_and, and_true, true_imp_iff, forall_const, not_true_eq_false, not_false_eq_true, false_imp_iff, implies_true, eq_self, pz_i, pz_s1, pz_p1, pz_jnt, pz_b0, pz_b1, pz_em, pz_nnt, pz_nm1, pz_10, pz_20, pz_30, Classical.not_not, a1, a2])
    exact k9
  have k2 := k2 ⟨a1, a2⟩
  have k0 := k0 ⟨a1, a2⟩
  obtain ⟨a, ha, rfl⟩ := pz_of a1
  obtain ⟨d, hd, ed, -⟩ := I.gh.2 a ha
  rw [pz_i (by omega), ed, pz_i (by omega)] at k0 k2
  by_cases b1 : pe.1 42 a = 0
  case neg =>
    have k9 := k2 (fun q => b1 q.1) _ h2
    (try simp (disch := omega) only [pz_me h, forall_eq, true_and, and_true, true_imp_iff, forall_const, not_true_eq_false, not_false_eq_true, false_imp_iff, implies_true, eq_self, pz_i, pz_s1, pz_p1, pz_jnt, pz_b0, pz_b1, pz_em, pz_nnt, pz_nm1, pz_10, pz_20, pz_30, Classical.not_not, a1, a2, b1])
    exact k9
  by_cases b2 : pe.1 42 (pw_i y) = 0
  case neg =>
    have k9 := k2 (fun q => b2 q.2.1) _ h2
    (try simp (disch := omega) only [pz_me h, forall_eq, true_and, and_true, true_imp_iff, forall_const, not_true_eq_false, not_false_eq_true, false_imp_iff, implies_true, eq_self, pz_i, pz_s1, pz_p1, pz_jnt, pz_b0, pz_b1, pz_em, pz_nnt, pz_nm1, pz_10, pz_20, pz_30, Classical.not_not, a1, a2, b1, b2])
    exact k9
  by_cases b3 : nI a = y
  case pos =>
    have k9 := k2 (fun q => q.2.2.1 b3) _ h2
    (try simp (disch := omega) only [pz_me h, forall_eq, true_and, and_true, true_imp_iff, forall_const, not_true_eq_false, not_false_eq_true, false_imp_iff, implies_true, eq_self, pz_i, pz_s1, pz_p1, pz_jnt, pz_b0, pz_b1, pz_em, pz_nnt, pz_nm1, pz_10, pz_20, pz_30, Classical.not_not, a1, a2, b1, b2, eq_true b3])
    exact k9
  by_cases b4 : pz_ex (fun k => pe.2 a k = y) d
  case pos =>
    have k9 := k2 (fun q => q.2.2.2.1 b4) _ h2
    (try simp (disch := omega) only [pz_me h, forall_eq, true_and, and_true, true_imp_iff, forall_const, not_true_eq_false, not_false_eq_true, false_imp_iff, implies_true, eq_self, pz_i, pz_s1, pz_p1, pz_jnt, pz_b0, pz_b1, pz_em, pz_nnt, pz_nm1, pz_10, pz_20, pz_30, Classical.not_not, a1, a2, b1, b2, b3, mv_isHeir h ha hd ed, b4])
    exact k9
  by_cases b5 : d < 3
  case neg =>
    have k9 := k2 (fun q => b5 q.2.2.2.2) _ h2
    have b6 : 3 ≤ d := by omega
    (try simp (disch := omega) only [pz_me h, forall_eq, true_and, and_true, true_imp_iff, forall_const, not_true_eq_false, not_false_eq_true, false_imp_iff, implies_true, eq_self, pz_i, pz_s1, pz_p1, pz_jnt, pz_b0, pz_b1, pz_em, pz_nnt, pz_nm1, pz_10, pz_20, pz_30, Classical.not_not, a1, a2, b1, b2, b3, mv_isHeir h ha hd ed, b4, ed, pz_l3, pz_le, b6])
    exact k9
  have b6 : ¬ 3 ≤ d := by omega
  have k9 := k0 ⟨b1, b2, b3, b4, b5⟩
  (try simp (disch := omega) only [pz_me h, forall_eq, true_and, and_true, true_imp_iff, forall_const, not_true_eq_false, not_false_eq_true, false_imp_iff, implies_true, eq_self, pz_i, pz_s1, pz_p1, pz_jnt, pz_b0, pz_b1, pz_em, pz_nnt, pz_nm1, pz_10, pz_20, pz_30, Classical.not_not, a1, a2, b1, b2, b3, mv_isHeir h ha hd ed, b4, ed, pz_le, show ((3 : Int32) ≤ nI d) = (3 ≤ d) from pz_le (a := 3) (by decide) (by omega), b6])
  (try simp (disch := omega) only [pz_me h0, forall_eq, true_and, and_true, true_imp_iff, forall_const, not_true_eq_false, not_false_eq_true, false_imp_iff, implies_true, eq_self, pz_i, pz_s1, pz_p1, pz_jnt, pz_b0, pz_b1, pz_em, pz_nnt, pz_nm1, pz_10, pz_20, pz_30, Classical.not_not, ed, pz_x3])
  have h4 := pz_ms43 h0 (s := a) (j := d) (v := y) ha b5 rfl
  (try simp (disch := omega) only [pz_me h4, forall_eq, true_and, and_true, true_imp_iff, forall_const, not_true_eq_false, not_false_eq_true, false_imp_iff, implies_true, eq_self, pz_i, pz_s1, pz_p1, pz_jnt, pz_b0, pz_b1, pz_em, pz_nnt, pz_nm1, pz_10, pz_20, pz_30, Classical.not_not, ed])
  have h5 := pz_ms44 h4 (i := a) (v := nI (d + 1))
  (try simp (disch := omega) only [pz_me h5, forall_eq, true_and, and_true, true_imp_iff, forall_const, not_true_eq_false, not_false_eq_true, false_imp_iff, implies_true, eq_self, pz_i, pz_s1, pz_p1, pz_jnt, pz_b0, pz_b1, pz_em, pz_nnt, pz_nm1, pz_10, pz_20, pz_30, Classical.not_not])
  rw [pz_us]
  rw [pz_s1] at k9
  exact k9 _ h5
theorem cp_name (h : pz_c sc sq pa ri mp ca dr pe U V w0 w) (I : pz_I sc sq pa ri mp ca dr pe) (hU : U ≤ 190000) (hV : V ≤ 3900000) (k0 : (pw_jn x 12 ∧ pw_jn y 12) → (pe.1 42 (pw_i x) = 0 ∧ pe.1 42 (pw_i y) = 0 ∧ ¬ x = y ∧ ¬ pz_ex (fun k => pe.2 (pw_i x) k = y) (pw_i (pe.1 44 (pw_i x))) ∧ pw_i (pe.1 44 (pw_i x)) < 3) → ∀ w1, pz_c sc sq pa ri mp ca dr (pz_u pe.1 44 (pw_i x) (pe.1 44 (pw_i x) + 1), pz_u pe.2 (pw_i x) (pw_i (pe.1 44 (pw_i x))) y) (U + 1) (V + 120) w0 w1 → K w1 (pe.1 44 (pw_i x) + 1)) (k1 : ¬ (pw_jn x 12 ∧ pw_jn y 12) → ∀ w1, pz_c sc sq pa ri mp ca dr pe (U + 1) (V + 120) w0 w1 → X w1 1) (k2 : (pw_jn x 12 ∧ pw_jn y 12) → ¬ (pe.1 42 (pw_i x) = 0 ∧ pe.1 42 (pw_i y) = 0 ∧ ¬ x = y ∧ ¬ pz_ex (fun k => pe.2 (pw_i x) k = y) (pw_i (pe.1 44 (pw_i x))) ∧ pw_i (pe.1 44 (pw_i x)) < 3) → ∀ w1, pz_c sc sq pa ri mp ca dr pe (U + 1) (V + 120) w0 w1 → X w1 3) : wp_X_name w x y K X := by
  unfold wp_X_name jp_X_name_32 jp_X_name_33 jp_X_name_47 jp_X_name_64 jp_X_name_85
  rw [cv_personNumbered h]
  refine ⟨fun a1 => ?_, fun a1 => cu_thr h (by omega) (by omega) (pz_hL I) I.gr.1 (fun w1 h1 => k1 (fun z => a1 z.1) w1 (h1.up (by omega) (by omega)))⟩
  rw [cv_personNumbered h]
  refine ⟨fun a2 => ?_, fun a2 => cu_thr h (by omega) (by omega) (pz_hL I) I.gr.1 (fun w1 h1 => k1 (fun z => a2 z.2) w1 (h1.up (by omega) (by omega)))⟩
  have k2 := k2 ⟨a1, a2⟩
  have k0 := k0 ⟨a1, a2⟩
  obtain ⟨a, ha, rfl⟩ := pz_of a1
  obtain ⟨ed, hd⟩ := pz_kl24 h a ha
  rw [pz_i (by omega), ed, pz_i (by omega)] at k0 k2
  have a20 := a2.1
  have e42 := pz_k42 h _ a2.2
  have ru := pz_kru h
  have rv := pz_krv h
  have hL := pz_hL I
  have hr := I.gr.1
  (try simp (disch := omega) only [pz_ce h, pz_k14 h, pz_k60 h, pz_k23 h, pz_k30 h, pz_k31 h, pz_k34 h, pz_k35 h, pz_kl11 h, pz_k11 h, pz_k15 h, pz_k40 h, pz_k41 h, pz_k42 h, pz_k25 h, pz_km0 h, pz_km1 h, pz_km2 h, pz_kc0 h, pz_kc1 h, pz_kc2 h, pz_kc3 h, pz_kc4 h, pz_kc6 h, pz_kc7 h, pz_kl12 h, pz_k12 h, pz_kd0 h, pz_kd1 h, forall_eq, true_and, and_true, true_imp_iff, forall_const, not_true_eq_false, not_false_eq_true, false_imp_iff, implies_true, eq_self, pz_i, pz_s1, pz_p1, pz_jnt, pz_b0, pz_b1, pz_em, pz_nnt, pz_nm1, pz_10, pz_20, pz_30, Classical.not_not, cv_checkState, cv_checkState0, cv_checkState1, a20, e42, cv_hasNamed h ha, show ((3 : Int32) ≤ nI (pw_ln w 24 a)) = (3 ≤ pw_ln w 24 a) from pz_le (a := 3) (by decide) (by omega)])
  have th : ∀ (z : ¬ (pe.1 42 a = 0 ∧ pe.1 42 (pw_i y) = 0 ∧ ¬ nI a = y ∧ ¬ pz_ex (fun k => pe.2 a k = y) (pw_ln w 24 a) ∧ pw_ln w 24 a < 3)), pw_thr w X 3 := fun z => cu_thr h (by omega) (by omega) (pz_hL I) I.gr.1 (fun w1 h1 => k2 z w1 (h1.up (by omega) (by omega)))
  refine ⟨fun b1 => th fun z => b1 z.1, fun b1 => ⟨fun b2 => th fun z => b2 z.2.1, fun b2 => ⟨fun b3 => th fun z => z.2.2.1 b3, fun b3 => ⟨fun b4 => th fun z => z.2.2.2.1 b4, fun b4 => ⟨fun b5 => th fun z => by have := z.2.2.2.2; omega, fun b5 => ⟨pz_lg (by omega) (by omega) (by omega), ?_⟩⟩⟩⟩⟩⟩
  have k9 := k0 ⟨b1, b2, b3, b4, by omega⟩
  rw [pz_s1] at k9
  have e41 : (pw_la w 24 a y).1 4 a 1 = nI a := pz_k41 h a ha
  rw [e41]
  (try simp (disch := omega) only [forall_eq, true_and, and_true, true_imp_iff, forall_const, not_true_eq_false, not_false_eq_true, false_imp_iff, implies_true, eq_self, pz_i, pz_s1, pz_p1, pz_jnt, pz_b0, pz_b1, pz_em, pz_nnt, pz_nm1, pz_10, pz_20, pz_30, Classical.not_not])
  rw [show pw_ln (pw_la w 24 a y) 24 a = pw_ln w 24 a + 1 from pz_lals]
  exact k9 _ (csha h (p := a) (v := y) (by omega))
theorem pi_name (I : pz_I sc sq pa ri mp ca dr pe) (c1 : pw_jn x 12 ∧ pw_jn y 12) (c2 : pe.1 42 (pw_i x) = 0 ∧ pe.1 42 (pw_i y) = 0 ∧ ¬ x = y ∧ ¬ pz_ex (fun k => pe.2 (pw_i x) k = y) (pw_i (pe.1 44 (pw_i x))) ∧ pw_i (pe.1 44 (pw_i x)) < 3) : pz_I sc sq pa ri mp ca dr (pz_u pe.1 44 (pw_i x) (pe.1 44 (pw_i x) + 1), pz_u pe.2 (pw_i x) (pw_i (pe.1 44 (pw_i x))) y) := by
  refine ⟨I.1, I.2.1, I.2.2.1, I.2.2.2.1, I.2.2.2.2.1, I.2.2.2.2.2.1, I.gd, I.gh.1, fun m hm => ?_⟩
  obtain ⟨d, hd, ed, hh⟩ := I.gh.2 m hm
  have h3 := c2.2.2.2.2
  by_cases q : m = pw_i x
  · rw [q] at ed hh
    rw [ed, pz_i (by omega)] at h3
    refine ⟨d + 1, by omega, ?_, fun k hk => ?_⟩
    · show (pz_u pe.1 44 (pw_i x) (pe.1 44 (pw_i x) + 1)) 44 m = nI (d + 1)
      rw [q, pz_us, ed, pz_s1]
    · show pw_jn ((pz_u pe.2 (pw_i x) (pw_i (pe.1 44 (pw_i x))) y) m k) 12
      rw [q, ed, pz_i (by omega)]
      by_cases z : k = d
      · rw [z, pz_us]; exact c1.2
      · rw [pz_un z]; exact hh k (by omega)
  · refine ⟨d, hd, ?_, fun k hk => ?_⟩
    · show (pz_u pe.1 44 (pw_i x) (pe.1 44 (pw_i x) + 1)) 44 m = nI d
      rw [pz_un q]; exact ed
    · show pw_jn ((pz_u pe.2 (pw_i x) (pw_i (pe.1 44 (pw_i x))) y) m k) 12
      rw [pz_uk q]; exact hh k hk
theorem br_name {G Z : pw_W → Prop} (hR : pz_R i w) (hi : i < 512) (kk : ∀ w2, pz_R (i + 1) w2 → G w2) : wp_L_name w x y (fun w1 r1 => wp_M_name w1 x y (pz_T G Z r1) (fun _ _ => False)) (fun _ _ => False) := by
  obtain ⟨sc, sq, pa, ri, mp, ca, dr, pe, I, hm, hc⟩ := hR
  unfold wp_L_name
  refine cp_name hc I (by omega) (by omega) (fun c1 c2 w1 h1 => ⟨pz_o13 h1, fun w4 e4 => ?_⟩) (fun c1 w1 h1 => Or.inl ⟨rfl, ?_⟩) (fun c1 c2 w1 h1 => Or.inr (⟨rfl, ?_⟩))
  · have h4 : pz_c sc sq pa ri mp ca dr (pz_u pe.1 44 (pw_i x) (pe.1 44 (pw_i x) + 1), pz_u pe.2 (pw_i x) (pw_i (pe.1 44 (pw_i x))) y) (4000 + 200 * i + 1) (200000 + 6000 * i + 120) w w4 := by rw [e4]; exact csout h1
    have hm4 := pz_mid hm h4
    have e13 : w4.1 13 0 0 = pe.1 44 (pw_i x) + 1 := by rw [e4]; exact pz_pss
    exact mp_name hm4 I (fun _ _ w2 h2 => pz_fin0 (pi_name I c1 c2) h4 h2 (by omega) (by omega) e13 kk) (fun d1 _ _ => absurd c1 d1) (fun d1 d2 _ _ => absurd c2 d2)
  · have hm4 := pz_mid hm h1
    exact mp_name hm4 I (fun d1 d2 _ _ => absurd d1 c1) (fun _ w2 h2 => pz_fin1 I h1 h2 (by omega) (by omega) (by decide) kk) (fun d1 d2 _ _ => absurd d1 c1)
  · have hm4 := pz_mid hm h1
    exact mp_name hm4 I (fun d1 d2 _ _ => absurd d2 c2) (fun d1 _ _ => absurd c1 d1) (fun _ _ w2 h2 => pz_fin1 I h1 h2 (by omega) (by omega) (by decide) kk)
end PZOC
