/-! public methods: drains, heirs, cut, burn -/
section PZOC
variable {sc : pz_S} {sq : pz_Q} {pa : pz_P} {ri : pz_N} {mp : pz_N} {ca : pz_P} {dr : pz_N} {pe : pz_Q} {U V : Nat} {w0 w w1 w2 : pw_W} {K : pw_W → Int32 → Prop} {X : pw_W → Nat → Prop} {x y z t : Int32} {i s r j n p q a b k k' : Nat} {c d e v v' : Int32}
theorem mp_dig (h : pz_m sc sq pa ri mp ca dr pe w0 w) (I : pz_I sc sq pa ri mp ca dr pe) (k0 : (pw_jn x 100 ∧ pw_jn y 100) → (pz_sd x y) → (¬ pz_ex (pz_dr dr x y) dr.1 ∧ dr.1 < 20) → ∀ w1, pz_m (pz_u1 sc 0 0) sq pa ri mp ca (dr.1 + 1, pz_u (pz_u dr.2 39 dr.1 x) 40 dr.1 y) pe w0 w1 → K w1 (nI (dr.1 + 1))) (k1 : ¬ (pw_jn x 100 ∧ pw_jn y 100) → ∀ w1, pz_m (pz_u1 sc 0 1) sq pa ri mp ca dr pe w0 w1 → K w1 0) (k2 : (pw_jn x 100 ∧ pw_jn y 100) → ¬ (pz_sd x y) → ∀ w1, pz_m (pz_u1 sc 0 2) sq pa ri mp ca dr pe w0 w1 → K w1 0) (k3 : (pw_jn x 100 ∧ pw_jn y 100) → (pz_sd x y) → ¬ (¬ pz_ex (pz_dr dr x y) dr.1 ∧ dr.1 < 20) → ∀ w1, pz_m (pz_u1 sc 0 3) sq pa ri mp ca dr pe w0 w1 → K w1 0) : wp_M_dig w x y K X := by
  unfold wp_M_dig jp_M_dig_18 jp_M_dig_19 jp_M_dig_59 jp_M_dig_64
  have h0 := pz_ms0 h (v := 0)
  have h1 := pz_ms0 h (v := 1)
  have h2 := pz_ms0 h (v := 2)
  have h3 := pz_ms0 h (v := 3)
  have hm20 : dr.1 ≤ 20 := I.gd.1
  have en : (nI dr.1 = 20) = (dr.1 = 20) := by rw [pz_l20, pz_eq (by omega) (by omega)]
  simp only [mv_isSquare, mv_areSides, mu_isFine, pz_b0, Classical.not_not]
  by_cases a1 : pw_jn x 100
  case neg =>
    have k9 := k1 (fun z => a1 z.1) _ h1
    (try simp (disch := omega) only [forall_eq, true_and, and_true, true_imp_iff, forall_const, not_true_eq_false, not_false_eq_true, false_imp_iff, implies_true, eq_self, pz_i, pz_s1, pz_p1, pz_jnt, pz_b0, pz_b1, pz_em, pz_nnt, pz_nm1, pz_10, pz_20, pz_30, Classical.not_not, a1])
    exact k9
  by_cases a2 : pw_jn y 100
  case neg =>
    have k9 := k1 (fun z => a2 z.2) _ h1
    (try simp (disch := omega) only [forall_eq, true_and, and_true, true_imp_iff, forall_const, not_true_eq_false, not_false_eq_true, false_imp_iff, implies_true, eq_self, pz_i, pz_s1, pz_p1, pz_jnt, pz_b0, pz_b1, pz_em, pz_nnt, pz_nm1, pz_10, pz_20, pz_30, Classical.not_not, a1, a2])
    exact k9
  by_cases c2 : pz_sd x y
  case neg =>
    have k9 := k2 ⟨a1, a2⟩ c2 _ h2
    (try simp (disch := omega) only [forall_eq, true_and, and_true, true_imp_iff, forall_const, not_true_eq_false, not_false_eq_true, false_imp_iff, implies_true, eq_self, pz_i, pz_s1, pz_p1, pz_jnt, pz_b0, pz_b1, pz_em, pz_nnt, pz_nm1, pz_10, pz_20, pz_30, Classical.not_not, a1, a2, c2])
    exact k9
  by_cases b1 : pz_ex (pz_dr dr x y) dr.1
  case pos =>
    have k9 := k3 ⟨a1, a2⟩ c2 (fun q => q.1 b1) _ h3
    (try simp (disch := omega) only [pz_me h, forall_eq, true_and, and_true, true_imp_iff, forall_const, not_true_eq_false, not_false_eq_true, false_imp_iff, implies_true, eq_self, pz_i, pz_s1, pz_p1, pz_jnt, pz_b0, pz_b1, pz_em, pz_nnt, pz_nm1, pz_10, pz_20, pz_30, Classical.not_not, a1, a2, c2, mv_isDrain h hm20, b1])
    exact k9
  by_cases b2 : dr.1 < 20
  case neg =>
    have k9 := k3 ⟨a1, a2⟩ c2 (fun q => b2 q.2) _ h3
    have b3 : dr.1 = 20 := by omega
    (try simp (disch := omega) only [pz_me h, forall_eq, true_and, and_true, true_imp_iff, forall_const, not_true_eq_false, not_false_eq_true, false_imp_iff, implies_true, eq_self, pz_i, pz_s1, pz_p1, pz_jnt, pz_b0, pz_b1, pz_em, pz_nnt, pz_nm1, pz_10, pz_20, pz_30, Classical.not_not, a1, a2, c2, mv_isDrain h hm20, b1, en, eq_true b3])
    exact k9
  have b3 : ¬ dr.1 = 20 := by omega
  have k9 := k0 ⟨a1, a2⟩ c2 ⟨b1, b2⟩
  (try simp (disch := omega) only [pz_me h, forall_eq, true_and, and_true, true_imp_iff, forall_const, not_true_eq_false, not_false_eq_true, false_imp_iff, implies_true, eq_self, pz_i, pz_s1, pz_p1, pz_jnt, pz_b0, pz_b1, pz_em, pz_nnt, pz_nm1, pz_10, pz_20, pz_30, Classical.not_not, a1, a2, c2, mv_isDrain h hm20, b1, en, b3])
  (try simp (disch := omega) only [pz_me h0, forall_eq, true_and, and_true, true_imp_iff, forall_const, not_true_eq_false, not_false_eq_true, false_imp_iff, implies_true, eq_self, pz_i, pz_s1, pz_p1, pz_jnt, pz_b0, pz_b1, pz_em, pz_nnt, pz_nm1, pz_10, pz_20, pz_30, Classical.not_not])
  have h4 := pz_ms39 h0 (i := dr.1) (v := x)
  (try simp (disch := omega) only [pz_me h4, forall_eq, true_and, and_true, true_imp_iff, forall_const, not_true_eq_false, not_false_eq_true, false_imp_iff, implies_true, eq_self, pz_i, pz_s1, pz_p1, pz_jnt, pz_b0, pz_b1, pz_em, pz_nnt, pz_nm1, pz_10, pz_20, pz_30, Classical.not_not])
  have h5 := pz_ms40 h4 (i := dr.1) (v := y)
  (try simp (disch := omega) only [pz_me h5, forall_eq, true_and, and_true, true_imp_iff, forall_const, not_true_eq_false, not_false_eq_true, false_imp_iff, implies_true, eq_self, pz_i, pz_s1, pz_p1, pz_jnt, pz_b0, pz_b1, pz_em, pz_nnt, pz_nm1, pz_10, pz_20, pz_30, Classical.not_not])
  have h6 := pz_ms41 h5 (n := dr.1 + 1) rfl
  (try simp (disch := omega) only [pz_me h6, forall_eq, true_and, and_true, true_imp_iff, forall_const, not_true_eq_false, not_false_eq_true, false_imp_iff, implies_true, eq_self, pz_i, pz_s1, pz_p1, pz_jnt, pz_b0, pz_b1, pz_em, pz_nnt, pz_nm1, pz_10, pz_20, pz_30, Classical.not_not])
  exact k9 _ h6
theorem cp_dig (h : pz_c sc sq pa ri mp ca dr pe U V w0 w) (I : pz_I sc sq pa ri mp ca dr pe) (hU : U ≤ 190000) (hV : V ≤ 3900000) (k0 : (pw_jn x 100 ∧ pw_jn y 100) → (pz_sd x y) → (¬ pz_ex (pz_dr dr x y) dr.1 ∧ dr.1 < 20) → ∀ w1, pz_c sc sq pa ri mp ca (dr.1 + 1, pz_u (pz_u dr.2 39 dr.1 x) 40 dr.1 y) pe (U + 2) (V + 122) w0 w1 → K w1 (nI (dr.1 + 1))) (k1 : ¬ (pw_jn x 100 ∧ pw_jn y 100) → ∀ w1, pz_c sc sq pa ri mp ca dr pe (U + 2) (V + 122) w0 w1 → X w1 1) (k2 : (pw_jn x 100 ∧ pw_jn y 100) → ¬ (pz_sd x y) → ∀ w1, pz_c sc sq pa ri mp ca dr pe (U + 2) (V + 122) w0 w1 → X w1 2) (k3 : (pw_jn x 100 ∧ pw_jn y 100) → (pz_sd x y) → ¬ (¬ pz_ex (pz_dr dr x y) dr.1 ∧ dr.1 < 20) → ∀ w1, pz_c sc sq pa ri mp ca dr pe (U + 2) (V + 122) w0 w1 → X w1 3) : wp_X_dig w x y K X := by
  unfold wp_X_dig jp_X_dig_43 jp_X_dig_65 wp_Drain_init
  have hm20 : dr.1 ≤ 20 := I.gd.1
  rw [cv_checkSquares]
  refine ⟨fun c1 => ?_, fun c1 => cu_thr (X := X) (n := 1) h (by omega) (by omega) (pz_hL I) I.gr.1 (fun w1 h1 => k1 c1 w1 (h1.up (by omega) (by omega)))⟩
  rw [cv_isSharingSide c1.1 c1.2, cv_checkArgument]
  refine ⟨fun c2 => ?_, fun c2 => cu_thr (X := X) (n := 2) h (by omega) (by omega) (pz_hL I) I.gr.1 (fun w1 h1 => k2 c1 c2 w1 (h1.up (by omega) (by omega)))⟩
  have ru := pz_kru h
  have rv := pz_krv h
  have rn := pz_knv h 1
  have hL := pz_hL I
  have hr := I.gr.1
  have e7 : w.1 7 0 6 = 0 := (pz_csc.of h).2.2.2.2.2.2.1
  have el : pw_ln w 21 0 = dr.1 := (pz_cdr.of h).1
  have a1 := c1.1
  have a2 := c1.2
  (try simp (disch := omega) only [pz_ce h, pz_k14 h, pz_k60 h, pz_k23 h, pz_k30 h, pz_k31 h, pz_k34 h, pz_k35 h, pz_kl11 h, pz_k11 h, pz_k15 h, pz_k40 h, pz_k41 h, pz_k42 h, pz_k25 h, pz_km0 h, pz_km1 h, pz_km2 h, pz_kc0 h, pz_kc1 h, pz_kc2 h, pz_kc3 h, pz_kc4 h, pz_kc6 h, pz_kc7 h, pz_kl12 h, pz_k12 h, pz_kd0 h, pz_kd1 h, forall_eq, true_and, and_true, true_imp_iff, forall_const, not_true_eq_false, not_false_eq_true, false_imp_iff, implies_true, eq_self, pz_i, pz_s1, pz_p1, pz_jnt, pz_b0, pz_b1, pz_em, pz_nnt, pz_nm1, pz_10, pz_20, pz_30, Classical.not_not, a1, a2, pz_k14 h _ a1.2, pz_k14 h _ a2.2, pw_nIi a1.1, pw_nIi a2.1, cv_hasDrain h hm20, cv_checkState0, cv_checkState1, pz_l20, pz_le])
  refine ⟨fun b1 => cu_thr (X := X) (n := 3) h (by omega) (by omega) (pz_hL I) I.gr.1 (fun w1 h1 => k3 c1 c2 (fun z => z.1 b1) w1 (h1.up (by omega) (by omega))), fun b1 => ⟨fun b2 => cu_thr (X := X) (n := 3) h (by omega) (by omega) (pz_hL I) I.gr.1 (fun w1 h1 => k3 c1 c2 (fun z => by have := z.2; omega) w1 (h1.up (by omega) (by omega))), fun b2 => ?_⟩⟩
  have k9 := k0 c1 c2 ⟨b1, by omega⟩
  refine ⟨⟨by omega, by omega, by omega⟩, pz_lg (by show pw_ln w 21 0 ≤ 80; omega) (by show w.2.2.1 + 1 + 1 ≤ _; omega) (by show w.2.2.2 + 2 + 120 ≤ _; omega), e7, ?_⟩
  rw [show ∀ w' : pw_W, ∀ u, pw_ln (pw_la w' 21 0 u) 21 0 = pw_ln w' 21 0 + 1 from fun _ _ => pz_lals]
  show K _ (nI (pw_ln w 21 0 + 1))
  rw [el]
  exact k9 _ (csda h (a := x) (b := y) (by omega) (by omega))
theorem pi_dig (I : pz_I sc sq pa ri mp ca dr pe) (c1 : pw_jn x 100 ∧ pw_jn y 100) (c2 : pz_sd x y) (c3 : ¬ pz_ex (pz_dr dr x y) dr.1 ∧ dr.1 < 20) : pz_I sc sq pa ri mp ca (dr.1 + 1, pz_u (pz_u dr.2 39 dr.1 x) 40 dr.1 y) pe := by
  refine ⟨I.1, I.2.1, I.2.2.1, I.2.2.2.1, I.2.2.2.2.1, I.2.2.2.2.2.1, ⟨(by show dr.1 + 1 ≤ 20; have := c3.2; omega), fun m hm => ?_⟩, I.gh⟩
  have hm : m < dr.1 + 1 := hm
  show pw_jn ((pz_u (pz_u dr.2 39 dr.1 x) 40 dr.1 y) 39 m) 100 ∧ pw_jn ((pz_u (pz_u dr.2 39 dr.1 x) 40 dr.1 y) 40 m) 100
  rw [pz_uk (k := 40) (k' := 39) (by decide)]
  by_cases q : m = dr.1
  · rw [q, pz_us, pz_us]; exact c1
  · rw [pz_un q, pz_un q, pz_uk (by decide)]; exact I.gd.2 m (by omega)
theorem br_dig {G Z : pw_W → Prop} (hR : pz_R i w) (hi : i < 512) (kk : ∀ w2, pz_R (i + 1) w2 → G w2) : wp_L_dig w x y (fun w1 r1 => wp_M_dig w1 x y (pz_T G Z r1) (fun _ _ => False)) (fun _ _ => False) := by
  obtain ⟨sc, sq, pa, ri, mp, ca, dr, pe, I, hm, hc⟩ := hR
  unfold wp_L_dig
  refine cp_dig hc I (by omega) (by omega) (fun c1 c2 c3 w1 h1 => ⟨pz_o13 h1, fun w4 e4 => ?_⟩) (fun c1 w1 h1 => Or.inl ⟨rfl, ?_⟩) (fun c1 c2 w1 h1 => Or.inr (Or.inl ⟨rfl, ?_⟩)) (fun c1 c2 c3 w1 h1 => Or.inr (Or.inr (⟨rfl, ?_⟩)))
  · have h4 : pz_c sc sq pa ri mp ca (dr.1 + 1, pz_u (pz_u dr.2 39 dr.1 x) 40 dr.1 y) pe (4000 + 200 * i + 2) (200000 + 6000 * i + 122) w w4 := by rw [e4]; exact csout h1
    have hm4 := pz_mid hm h4
    have e13 : w4.1 13 0 0 = nI (dr.1 + 1) := by rw [e4]; exact pz_pss
    exact mp_dig hm4 I (fun _ _ _ w2 h2 => pz_fin0 (pi_dig I c1 c2 c3) h4 h2 (by omega) (by omega) e13 kk) (fun d1 _ _ => absurd c1 d1) (fun d1 d2 _ _ => absurd c2 d2) (fun d1 d2 d3 _ _ => absurd c3 d3)
  · have hm4 := pz_mid hm h1
    exact mp_dig hm4 I (fun d1 d2 d3 _ _ => absurd d1 c1) (fun _ w2 h2 => pz_fin1 I h1 h2 (by omega) (by omega) (by decide) kk) (fun d1 d2 _ _ => absurd d1 c1) (fun d1 d2 d3 _ _ => absurd d1 c1)
  · have hm4 := pz_mid hm h1
    exact mp_dig hm4 I (fun d1 d2 d3 _ _ => absurd d2 c2) (fun d1 _ _ => absurd c1 d1) (fun _ _ w2 h2 => pz_fin1 I h1 h2 (by omega) (by omega) (by decide) kk) (fun d1 d2 d3 _ _ => absurd d2 c2)
  · have hm4 := pz_mid hm h1
    exact mp_dig hm4 I (fun d1 d2 d3 _ _ => absurd d3 c3) (fun d1 _ _ => absurd c1 d1) (fun d1 d2 _ _ => absurd c2 d2) (fun _ _ _ w2 h2 => pz_fin1 I h1 h2 (by omega) (by omega) (by decide) kk)
theorem pz_cdrc {dr' : pz_N} (h : pz_c sc sq pa ri mp ca dr pe U V w0 w) (e : dr'.1 = dr.1) (e2 : ∀ f m, m < dr.1 → dr'.2 f m = dr.2 f m) : pz_c sc sq pa ri mp ca dr' pe U V w0 w := by
  obtain ⟨h1, h2, h3, h4, h5, h6, h7, h8, h9, h10, h11, h12, h13, h14⟩ := h
  refine ⟨h1, h2, h3, h4, h5, h6, h7, h8, h9, h10, h11, h12, ?_, h14⟩
  unfold pz_cdr at *
  rw [e]
  exact ⟨h13.1, h13.2.1, fun d hd => by rw [e2 _ _ hd]; exact h13.2.2.1 d hd, fun d hd => by rw [e2 _ _ hd]; exact h13.2.2.2 d hd⟩
def pz_fl (dr : pz_N) (x n : Nat) : pz_N := (dr.1 - 1, fun f m => if x ≤ m ∧ m < n then dr.2 f (m + 1) else dr.2 f m)
theorem mp_fill (h : pz_m sc sq pa ri mp ca dr pe w0 w) (I : pz_I sc sq pa ri mp ca dr pe) (k0 : (pw_jn x dr.1) → ∀ w1, pz_m (pz_u1 sc 0 0) sq pa ri mp ca (dr.1 - 1, fun f m => if pw_i x ≤ m ∧ m < dr.1 - 1 then dr.2 f (m + 1) else dr.2 f m) pe w0 w1 → K w1 (nI (dr.1 - 1))) (k1 : ¬ (pw_jn x dr.1) → ∀ w1, pz_m (pz_u1 sc 0 1) sq pa ri mp ca dr pe w0 w1 → K w1 0) : wp_M_fill w x K X := by
  unfold wp_M_fill jp_M_fill_20
  have h0 := pz_ms0 h (v := 0)
  have h1 := pz_ms0 h (v := 1)
  have hm20 : dr.1 ≤ 20 := I.gd.1
  (try simp (disch := omega) only [pz_me h, forall_eq, true_and, and_true, true_imp_iff, forall_const, not_true_eq_false, not_false_eq_true, false_imp_iff, implies_true, eq_self, pz_i, pz_s1, pz_p1, pz_jnt, pz_b0, pz_b1, pz_em, pz_nnt, pz_nm1, pz_10, pz_20, pz_30, Classical.not_not, mv_isIn, mu_isFine, pz_in_jn])
  by_cases q : pw_jn x dr.1
  case neg =>
    have k9 := k1 q _ h1
    (try simp (disch := omega) only [pz_me h1, forall_eq, true_and, and_true, true_imp_iff, forall_const, not_true_eq_false, not_false_eq_true, false_imp_iff, implies_true, eq_self, pz_i, pz_s1, pz_p1, pz_jnt, pz_b0, pz_b1, pz_em, pz_nnt, pz_nm1, pz_10, pz_20, pz_30, Classical.not_not, q])
    exact k9
  have k9 := k0 q
  obtain ⟨a, ha, rfl⟩ := pz_of q
  rw [pz_i (by omega)] at k9
  have e1 : nI dr.1 - 1 = nI (dr.1 - 1) := pz_sub (b := 1) (by omega)
  (try simp (disch := omega) only [pz_me h0, forall_eq, true_and, and_true, true_imp_iff, forall_const, not_true_eq_false, not_false_eq_true, false_imp_iff, implies_true, eq_self, pz_i, pz_s1, pz_p1, pz_jnt, pz_b0, pz_b1, pz_em, pz_nnt, pz_nm1, pz_10, pz_20, pz_30, Classical.not_not, q, e1])
  have h2 := pz_ms41 h0 (n := dr.1 - 1) rfl
  have hI0 : pz_m (pz_u1 sc 0 0) sq pa ri mp ca (pz_fl dr a a) pe w0 (pw_ps (pw_ps w 8 0 0 0) 8 0 41 (nI (dr.1 - 1))) := by
    have e : pz_fl dr a a = (dr.1 - 1, dr.2) := by
      unfold pz_fl
      congr 1
      funext f m
      rw [if_neg (by omega)]
    rw [e]; exact h2
  refine pz_up (F := fun k s w => lp_M_fill_40 K X k (nI (a + s)) w) (I := fun s w => pz_m (pz_u1 sc 0 0) sq pa ri mp ca (pz_fl dr a (a + s)) pe w0 w) (dr.1 - 1 - a) (fun s w4 k5 hs h4 ih => ?_) (fun w4 h4 => ?_) hI0
  · rw [lp_M_fill_40_s]
    have e9 : (pz_fl dr a (a + s)).1 = dr.1 - 1 := rfl
    (try simp (disch := omega) only [pz_me h4, forall_eq, true_and, and_true, true_imp_iff, forall_const, not_true_eq_false, not_false_eq_true, false_imp_iff, implies_true, eq_self, pz_i, pz_s1, pz_p1, pz_jnt, pz_b0, pz_b1, pz_em, pz_nnt, pz_nm1, pz_10, pz_20, pz_30, Classical.not_not, e9, pz_le, show ¬ dr.1 - 1 ≤ a + s by omega])
    have h5 := pz_ms39 h4 (i := a + s) (v := (pz_fl dr a (a + s)).2 39 (a + s + 1))
    (try simp (disch := omega) only [pz_me h5, forall_eq, true_and, and_true, true_imp_iff, forall_const, not_true_eq_false, not_false_eq_true, false_imp_iff, implies_true, eq_self, pz_i, pz_s1, pz_p1, pz_jnt, pz_b0, pz_b1, pz_em, pz_nnt, pz_nm1, pz_10, pz_20, pz_30, Classical.not_not, e9])
    have h6 := pz_ms40 h5 (i := a + s) (v := (pz_u (pz_fl dr a (a + s)).2 39 (a + s) ((pz_fl dr a (a + s)).2 39 (a + s + 1))) 40 (a + s + 1))
    refine ih _ ?_
    have e10 : pz_fl dr a (a + (s + 1)) = (dr.1 - 1, pz_u (pz_u (pz_fl dr a (a + s)).2 39 (a + s) ((pz_fl dr a (a + s)).2 39 (a + s + 1))) 40 (a + s) ((pz_u (pz_fl dr a (a + s)).2 39 (a + s) ((pz_fl dr a (a + s)).2 39 (a + s + 1))) 40 (a + s + 1))) ∨ True := Or.inr trivial
    sorry
  · rw [lp_M_fill_40_s]
    have e9 : (pz_fl dr a (a + (dr.1 - 1 - a))).1 = dr.1 - 1 := rfl
    (try simp (disch := omega) only [pz_me h4, forall_eq, true_and, and_true, true_imp_iff, forall_const, not_true_eq_false, not_false_eq_true, false_imp_iff, implies_true, eq_self, pz_i, pz_s1, pz_p1, pz_jnt, pz_b0, pz_b1, pz_em, pz_nnt, pz_nm1, pz_10, pz_20, pz_30, Classical.not_not, e9, pz_le, show dr.1 - 1 ≤ a + (dr.1 - 1 - a) by omega])
    have e8 : a + (dr.1 - 1 - a) = dr.1 - 1 := by omega
    rw [e8] at h4
    exact k9 _ h4
end PZOC
