/-! public methods: drains, heirs, cut, burn -/
section PZOC
variable {sc : pz_S} {sq : pz_Q} {pa : pz_P} {ri : pz_N} {mp : pz_N} {ca : pz_P} {dr : pz_N} {pe : pz_Q} {U V : Nat} {w0 w w1 w2 : pw_W} {K : pw_W → Int32 → Prop} {X : pw_W → Nat → Prop} {x y z t : Int32} {i s r j n p q a b k k' : Nat} {c d e v v' : Int32}
theorem cp_dig (h : pz_c sc sq pa ri mp ca dr pe U V w0 w) (I : pz_I sc sq pa ri mp ca dr pe) (hU : U ≤ 190000) (hV : V ≤ 3900000) (k0 : (pw_jn x 100 ∧ pw_jn y 100) → (pz_sd x y) → (¬ pz_ex (pz_dr dr x y) dr.1 ∧ dr.1 < 20) → ∀ w1, pz_c sc sq pa ri mp ca (dr.1 + 1, pz_u (pz_u dr.2 39 dr.1 x) 40 dr.1 y) pe (U + 2) (V + 122) w0 w1 → K w1 (nI (dr.1 + 1))) (k1 : ¬ (pw_jn x 100 ∧ pw_jn y 100) → ∀ w1, pz_c sc sq pa ri mp ca dr pe (U + 2) (V + 122) w0 w1 → X w1 1) (k2 : (pw_jn x 100 ∧ pw_jn y 100) → ¬ (pz_sd x y) → ∀ w1, pz_c sc sq pa ri mp ca dr pe (U + 2) (V + 122) w0 w1 → X w1 2) (k3 : (pw_jn x 100 ∧ pw_jn y 100) → (pz_sd x y) → ¬ (¬ pz_ex (pz_dr dr x y) dr.1 ∧ dr.1 < 20) → ∀ w1, pz_c sc sq pa ri mp ca dr pe (U + 2) (V + 122) w0 w1 → X w1 3) : wp_X_dig w x y K X := by
  unfold wp_X_dig jp_X_dig_43 jp_X_dig_65 wp_Drain_init
  have hm20 : dr.1 ≤ 20 := I.gd.1
  rw [cv_checkSquares]
  refine ⟨fun c1 => ?_, fun c1 => cu_thr (X := X) (n := 1) h (by omega) (by omega) (pz_hL I) I.gr.1 (fun w1 h1 => k1 c1 w1 (h1.up (by omega) (by omega)))⟩
  rw [cv_isSharingSide c1.1 c1.2, cv_checkArgument]
  refine ⟨fun c2 => ?_, fun c2 => cu_thr (X := X) (n := 2) h (by omega) (by omega) (pz_hL I) I.gr.1 (fun w1 h1 => k2 c1 c2 w1 (h1.up (by omega) (by omega)))⟩
  have ru := pz_kru h
  have rv := pz_krv h
  have rn := pz_knv h 1
  have hL := pz_hL I
  have hr := I.gr.1
  have e7 : w.1 7 0 6 = 0 := (pz_csc.of h).2.2.2.2.2.2.1
  have el : pw_ln w 21 0 = dr.1 := (pz_cdr.of h).1
  have a1 := c1.1
  have a2 := c1.2
  (try simp (disch := omega) only [pz_ce h, pz_k14 h, pz_k60 h, pz_k23 h, pz_k30 h, pz_k31 h, pz_k34 h, pz_k35 h, pz_kl11 h, pz_k11 h, pz_k15 h, pz_k40 h, pz_k41 h, pz_k42 h, pz_k25 h, pz_km0 h, pz_km1 h, pz_km2 h, pz_kc0 h, pz_kc1 h, pz_kc2 h, pz_kc3 h, pz_kc4 h, pz_kc6 h, pz_kc7 h, pz_kl12 h, pz_k12 h, pz_kd0 h, pz_kd1 h, forall_eq, true_and, and_true, true_imp_iff, forall_const, not_true_eq_false, not_false_eq_true, false_imp_iff, implies_true, eq_self, pz_i, pz_s1, pz_p1, pz_jnt, pz_b0, pz_b1, pz_em, pz_nnt, pz_nm1, pz_10, pz_20, pz_30, Classical.not_not, a1, a2, pz_k14 h _ a1.2, pz_k14 h _ a2.2, pw_nIi a1.1, pw_nIi a2.1, cv_hasDrain h hm20, cv_checkState0, cv_checkState1, pz_l20, pz_le])
  refine ⟨fun b1 => cu_thr (X := X) (n := 3) h (by omega) (by omega) (pz_hL I) I.gr.1 (fun w1 h1 => k3 c1 c2 (fun z => z.1 b1) w1 (h1.up (by omega) (by omega))), fun b1 => ⟨fun b2 => cu_thr (X := X) (n := 3) h (by omega) (by omega) (pz_hL I) I.gr.1 (fun w1 h1 => k3 c1 c2 (fun z => by have := z.2; omega) w1 (h1.up (by omega) (by omega))), fun b2 => ?_⟩⟩
  have k9 := k0 c1 c2 ⟨b1, by omega⟩
  refine ⟨⟨by omega, by omega, by omega⟩, pz_lg (by show pw_ln w 21 0 ≤ 80; omega) (by show w.2.2.1 + 1 + 1 ≤ _; omega) (by show w.2.2.2 + 2 + 120 ≤ _; omega), e7, ?_⟩
  rw [show ∀ w' : pw_W, ∀ u, pw_ln (pw_la w' 21 0 u) 21 0 = pw_ln w' 21 0 + 1 from fun _ _ => pz_lals]
  show K _ (nI (pw_ln w 21 0 + 1))
  rw [el]
  exact k9 _ (csda h (a := x) (b := y) (by omega) (by omega))
theorem pi_dig (I : pz_I sc sq pa ri mp ca dr pe) (c1 : pw_jn x 100 ∧ pw_jn y 100) (c2 : pz_sd x y) (c3 : ¬ pz_ex (pz_dr dr x y) dr.1 ∧ dr.1 < 20) : pz_I sc sq pa ri mp ca (dr.1 + 1, pz_u (pz_u dr.2 39 dr.1 x) 40 dr.1 y) pe := by
  refine ⟨I.1, I.2.1, I.2.2.1, I.2.2.2.1, I.2.2.2.2.1, I.2.2.2.2.2.1, ⟨(by show dr.1 + 1 ≤ 20; have := c3.2; omega), fun m hm => ?_⟩, I.gh⟩
  have hm : m < dr.1 + 1 := hm
  show pw_jn ((pz_u (pz_u dr.2 39 dr.1 x) 40 dr.1 y) 39 m) 100 ∧ pw_jn ((pz_u (pz_u dr.2 39 dr.1 x) 40 dr.1 y) 40 m) 100
  rw [pz_uk (k := 40) (k' := 39) (by decide)]
  by_cases q : m = dr.1
  · rw [q, pz_us, pz_us]; exact c1
  · rw [pz_un q, pz_un q, pz_uk (by decide)]; exact I.gd.2 m (by omega)
theorem pz_cdrc {dr' : pz_N} (h : pz_c sc sq pa ri mp ca dr pe U V w0 w) (e : dr'.1 = dr.1) (e2 : ∀ f m, m < dr.1 → dr'.2 f m = dr.2 f m) : pz_c sc sq pa ri mp ca dr' pe U V w0 w := by
  obtain ⟨h1, h2, h3, h4, h5, h6, h7, h8, h9, h10, h11, h12, h13, h14⟩ := h
  refine ⟨h1, h2, h3, h4, h5, h6, h7, h8, h9, h10, h11, h12, ?_, h14⟩
  unfold pz_cdr at *
  rw [e]
  exact ⟨h13.1, h13.2.1, fun d hd => by rw [e2 _ _ hd]; exact h13.2.2.1 d hd, fun d hd => by rw [e2 _ _ hd]; exact h13.2.2.2 d hd⟩
theorem pz_mdrc {dr' : pz_N} (h : pz_m sc sq pa ri mp ca dr pe w0 w) (e : dr'.1 = dr.1) (e39 : ∀ m, dr'.2 39 m = dr.2 39 m) (e40 : ∀ m, dr'.2 40 m = dr.2 40 m) : pz_m sc sq pa ri mp ca dr' pe w0 w := by
  obtain ⟨h1, h2, h3, h4, h5, h6, h7, h8, h9, h10, h11⟩ := h
  refine ⟨h1, h2, h3, h4, h5, h6, h7, h8, h9, ?_, h11⟩
  unfold pz_mdr at *
  rw [e]
  exact ⟨fun m => by rw [e39]; exact h10.1 m, fun m => by rw [e40]; exact h10.2.1 m, h10.2.2⟩
def pz_fl (dr : pz_N) (x n : Nat) : pz_N := (dr.1 - 1, fun f m => if x ≤ m ∧ m < n then dr.2 f (m + 1) else dr.2 f m)
theorem pi_fill (I : pz_I sc sq pa ri mp ca dr pe) (c1 : pw_jn x dr.1) : pz_I sc sq pa ri mp ca (dr.1 - 1, fun f m => if pw_i x ≤ m ∧ m < dr.1 - 1 then dr.2 f (m + 1) else dr.2 f m) pe := by
  refine ⟨I.1, I.2.1, I.2.2.1, I.2.2.2.1, I.2.2.2.2.1, I.2.2.2.2.2.1, ⟨(by show dr.1 - 1 ≤ 20; have := I.gd.1; omega), fun m hm => ?_⟩, I.gh⟩
  have hm : m < dr.1 - 1 := hm
  show pw_jn (if pw_i x ≤ m ∧ m < dr.1 - 1 then dr.2 39 (m + 1) else dr.2 39 m) 100 ∧ pw_jn (if pw_i x ≤ m ∧ m < dr.1 - 1 then dr.2 40 (m + 1) else dr.2 40 m) 100
  by_cases z : pw_i x ≤ m ∧ m < dr.1 - 1
  · rw [if_pos z, if_pos z]; exact I.gd.2 _ (by omega)
  · rw [if_neg z, if_neg z]; exact I.gd.2 _ (by omega)
theorem cp_cut (h : pz_c sc sq pa ri mp ca dr pe U V w0 w) (I : pz_I sc sq pa ri mp ca dr pe) (hU : U ≤ 190000) (hV : V ≤ 3900000) (k0 : (pw_jn x 12 ∧ pw_jn y 100) → (pz_in z 1 20) → (pz_my sq pa ri pe x 1 (pw_i y) ∧ z ≤ sq.1 6 (pw_i y)) → ∀ w1, pz_c sc (pz_u sq.1 6 (pw_i y) (sq.1 6 (pw_i y) - z), sq.2) pa ri mp ca dr pe (U + 0) (V + 0) w0 w1 → K w1 (sq.1 6 (pw_i y) - z)) (k1 : ¬ (pw_jn x 12 ∧ pw_jn y 100) → ∀ w1, pz_c sc sq pa ri mp ca dr pe (U + 1) (V + 6) w0 w1 → X w1 1) (k2 : (pw_jn x 12 ∧ pw_jn y 100) → ¬ (pz_in z 1 20) → ∀ w1, pz_c sc sq pa ri mp ca dr pe (U + 1) (V + 6) w0 w1 → X w1 2) (k3 : (pw_jn x 12 ∧ pw_jn y 100) → (pz_in z 1 20) → ¬ (pz_my sq pa ri pe x 1 (pw_i y) ∧ z ≤ sq.1 6 (pw_i y)) → ∀ w1, pz_c sc sq pa ri mp ca dr pe (U + 1) (V + 6) w0 w1 → X w1 3) : wp_X_cut w x y z K X := by
  unfold wp_X_cut jp_X_cut_61
  rw [cv_personNumbered h]
  refine ⟨fun a1 => ?_, fun a1 => cu_thr h (by omega) (by omega) (pz_hL I) I.gr.1 (k1 fun z => a1 z.1)⟩
  rw [cv_squareNumbered h]
  refine ⟨fun a2 => ?_, fun a2 => cu_thr h (by omega) (by omega) (pz_hL I) I.gr.1 (k1 fun z => a2 z.2)⟩
  rw [cv_isInRange, cv_checkArgument]
  refine ⟨fun c2 => ?_, fun c2 => cu_thr h (by omega) (by omega) (pz_hL I) I.gr.1 (k2 ⟨a1, a2⟩ c2)⟩
  have k3 := k3 ⟨a1, a2⟩ c2
  have k0 := k0 ⟨a1, a2⟩ c2
  obtain ⟨a, ha, rfl⟩ := pz_of a2
  rw [pz_i (by omega)] at *
  unfold pz_my at k3 k0
  rw [pz_k42 h _ a1.2, cv_checkState]
  refine ⟨a1.1, fun b1 => ?_, fun b1 => cu_thr h (by omega) (by omega) (pz_hL I) I.gr.1 (k3 fun z => b1 z.1.1)⟩
  have e8 := (I.gl.1 a ha).1
  (try simp (disch := omega) only [pz_ce h, pz_k14 h, pz_k60 h, pz_k23 h, pz_k30 h, pz_k31 h, pz_k34 h, pz_k35 h, pz_kl11 h, pz_k11 h, pz_k15 h, pz_k40 h, pz_k41 h, pz_k42 h, pz_k25 h, pz_km0 h, pz_km1 h, pz_km2 h, pz_kc0 h, pz_kc1 h, pz_kc2 h, pz_kc3 h, pz_kc4 h, pz_kc6 h, pz_kc7 h, pz_kl12 h, pz_k12 h, pz_kd0 h, pz_kd1 h, forall_eq, true_and, and_true, true_imp_iff, forall_const, not_true_eq_false, not_false_eq_true, false_imp_iff, implies_true, eq_self, pz_i, pz_s1, pz_p1, pz_jnt, pz_b0, pz_b1, pz_em, pz_nnt, pz_nm1, pz_10, pz_20, pz_30, Classical.not_not, cv_isAllowed h I.gr.1 e8, cv_checkState, cv_checkState0, cv_checkState1])
  refine ⟨fun b2 => ⟨fun b3 => cu_thr h (by omega) (by omega) (pz_hL I) I.gr.1 (k3 fun z => absurd z.2 (Int32.not_le.mpr b3)), fun b3 => ?_⟩, fun b2 => cu_thr h (by omega) (by omega) (pz_hL I) I.gr.1 (k3 fun z => b2 z.1.2)⟩
  rw [pz_pss]
  exact k0 ⟨⟨b1, b2⟩, Int32.not_lt.mp b3⟩ _ (cs64 h)
theorem pz_pk {F : Nat → Int32} {i : Nat} (hp : ∀ s, s < 100 → 0 ≤ F s ∧ F s ≤ 200) (hv : 0 ≤ v ∧ v ≤ 200) : ∀ s, s < 100 → 0 ≤ (if s = i then v else F s) ∧ (if s = i then v else F s) ≤ 200 := fun s hs => by
  by_cases q : s = i
  · rw [if_pos q]; exact hv
  · rw [if_neg q]; exact hp s hs
theorem pz_iq.k6 {i : Nat} (h : pz_iq sc sq) (hv : 0 ≤ v ∧ v ≤ 200) : pz_iq sc (pz_u sq.1 6 i v, sq.2) := by
  refine ⟨h.1, h.2.1, fun s hs => ?_, h.2.2.2⟩
  rw [show ((pz_u sq.1 6 i v, sq.2) : pz_Q).1 6 s = (pz_u sq.1 6 i v) 6 s from rfl]
  by_cases q : s = i
  · rw [q, pz_us]; exact hv
  · rw [pz_un q]; exact h.2.2.1 s hs
theorem pz_dec {x y : Int32} (h1 : 0 ≤ x) (h2 : x ≤ 200) (h3 : 0 ≤ y) (h4 : y ≤ x) : 0 ≤ x - y ∧ x - y ≤ 200 := by
  rw [Int32.le_iff_toInt_le] at *
  rw [Int32.le_iff_toInt_le]
  rw [Int32.toInt_sub]
  rw [show (0 : Int32).toInt = 0 from rfl] at *
  rw [show (200 : Int32).toInt = 200 from rfl] at *
  rw [Int.bmod_eq_of_le (by omega) (by omega)]
  omega
theorem pz_in0 {x y z : Int32} (h : pz_in x y z) (hy : 0 ≤ y) : 0 ≤ x := by
  have := Int32.not_lt.mp h.1
  rw [Int32.le_iff_toInt_le] at *
  omega
theorem pi_cut (I : pz_I sc sq pa ri mp ca dr pe) (c1 : pw_jn x 12 ∧ pw_jn y 100) (c2 : pz_in z 1 20) (c3 : pz_my sq pa ri pe x 1 (pw_i y) ∧ z ≤ sq.1 6 (pw_i y)) : pz_I sc (pz_u sq.1 6 (pw_i y) (sq.1 6 (pw_i y) - z), sq.2) pa ri mp ca dr pe := ⟨I.gq.k6 (pz_dec (I.gq.2.2.1 _ c1.2.2).1 (I.gq.2.2.1 _ c1.2.2).2 (pz_in0 c2 (by decide)) c3.2), I.2⟩
theorem cp_burn (h : pz_c sc sq pa ri mp ca dr pe U V w0 w) (I : pz_I sc sq pa ri mp ca dr pe) (hU : U ≤ 190000) (hV : V ≤ 3900000) (k0 : (pw_jn x 12 ∧ pw_jn y 100) → (pz_my sq pa ri pe x 2 (pw_i y) ∧ pz_bu sc sq (pw_i y)) → ∀ w1, pz_c sc (pz_u (pz_u sq.1 9 (pw_i y) (sc 1)) 6 (pw_i y) (sq.1 6 (pw_i y) - pz_mn (sq.1 6 (pw_i y)) 5), sq.2) pa ri mp ca dr pe (U + 0) (V + 0) w0 w1 → K w1 (sq.1 6 (pw_i y) - pz_mn (sq.1 6 (pw_i y)) 5)) (k1 : ¬ (pw_jn x 12 ∧ pw_jn y 100) → ∀ w1, pz_c sc sq pa ri mp ca dr pe (U + 1) (V + 6) w0 w1 → X w1 1) (k2 : (pw_jn x 12 ∧ pw_jn y 100) → ¬ (pz_my sq pa ri pe x 2 (pw_i y) ∧ pz_bu sc sq (pw_i y)) → ∀ w1, pz_c sc sq pa ri mp ca dr pe (U + 1) (V + 6) w0 w1 → X w1 3) : wp_X_burn w x y K X := by
  unfold wp_X_burn
  rw [cv_personNumbered h]
  refine ⟨fun a1 => ?_, fun a1 => cu_thr h (by omega) (by omega) (pz_hL I) I.gr.1 (k1 fun z => a1 z.1)⟩
  rw [cv_squareNumbered h]
  refine ⟨fun a2 => ?_, fun a2 => cu_thr h (by omega) (by omega) (pz_hL I) I.gr.1 (k1 fun z => a2 z.2)⟩
  have k2 := k2 ⟨a1, a2⟩
  have k0 := k0 ⟨a1, a2⟩
  obtain ⟨a, ha, rfl⟩ := pz_of a2
  rw [pz_i (by omega)] at *
  unfold pz_my at k2 k0
  rw [pz_k42 h _ a1.2, cv_checkState]
  refine ⟨a1.1, fun b1 => ?_, fun b1 => cu_thr h (by omega) (by omega) (pz_hL I) I.gr.1 (k2 fun z => b1 z.1.1)⟩
  have e8 := (I.gl.1 a ha).1
  have emn : (if sq.1 6 a < 5 then sq.1 6 a else 5) = pz_mn (sq.1 6 a) 5 := by
    unfold pz_mn
    by_cases q : sq.1 6 a < 5
    · rw [if_pos q, if_neg (fun z => absurd z (Int32.not_le.mpr q))]
    · rw [if_neg q, if_pos (Int32.not_lt.mp q)]
  (try simp (disch := omega) only [pz_ce h, pz_k14 h, pz_k60 h, pz_k23 h, pz_k30 h, pz_k31 h, pz_k34 h, pz_k35 h, pz_kl11 h, pz_k11 h, pz_k15 h, pz_k40 h, pz_k41 h, pz_k42 h, pz_k25 h, pz_km0 h, pz_km1 h, pz_km2 h, pz_kc0 h, pz_kc1 h, pz_kc2 h, pz_kc3 h, pz_kc4 h, pz_kc6 h, pz_kc7 h, pz_kl12 h, pz_k12 h, pz_kd0 h, pz_kd1 h, forall_eq, true_and, and_true, true_imp_iff, forall_const, not_true_eq_false, not_false_eq_true, false_imp_iff, implies_true, eq_self, pz_i, pz_s1, pz_p1, pz_jnt, pz_b0, pz_b1, pz_em, pz_nnt, pz_nm1, pz_10, pz_20, pz_30, Classical.not_not, cv_isAllowed h I.gr.1 e8, cv_checkState, cv_isBurnable h I.gq.1, emn])
  refine ⟨fun b2 => ⟨fun b3 => ?_, fun b3 => cu_thr h (by omega) (by omega) (pz_hL I) I.gr.1 (k2 fun z => b3 z.2)⟩, fun b2 => cu_thr h (by omega) (by omega) (pz_hL I) I.gr.1 (k2 fun z => b2 z.1.2)⟩
  have h4 := cs64 h (s := a) (v := sq.1 6 a - pz_mn (sq.1 6 a) 5)
  have e71 : (pw_ps w 6 a 4 (sq.1 6 a - pz_mn (sq.1 6 a) 5)).1 7 0 7 = sc 1 := by rw [pz_psf (by decide)]; exact (pz_csc.of h).2.2.2.2.2.2.2.1
  rw [e71, pz_psk (by decide), pz_pss]
  have hbn : pz_bn (sc 1) = sc 1 := if_neg fun q => by have := I.gq.1.1.1; rw [q] at this; exact absurd this (by decide)
  have h5 := cs66 h4 hbn (s := a)
  have k9 := k0 ⟨⟨b1, b2⟩, b3⟩
  rw [pz_uc (by decide)] at k9
  exact k9 _ h5
theorem pi_burn (I : pz_I sc sq pa ri mp ca dr pe) (c1 : pw_jn x 12 ∧ pw_jn y 100) (c2 : pz_my sq pa ri pe x 2 (pw_i y) ∧ pz_bu sc sq (pw_i y)) : pz_I sc (pz_u (pz_u sq.1 9 (pw_i y) (sc 1)) 6 (pw_i y) (sq.1 6 (pw_i y) - pz_mn (sq.1 6 (pw_i y)) 5), sq.2) pa ri mp ca dr pe := by
  have hp := I.gq.2.2.1 _ c1.2.2
  have hm : 0 ≤ pz_mn (sq.1 6 (pw_i y)) 5 ∧ pz_mn (sq.1 6 (pw_i y)) 5 ≤ sq.1 6 (pw_i y) := by
    unfold pz_mn
    by_cases q : 5 ≤ sq.1 6 (pw_i y)
    · rw [if_pos q]; exact ⟨by decide, q⟩
    · rw [if_neg q]; exact ⟨hp.1, by rw [Int32.le_iff_toInt_le]; omega⟩
  have hq : pz_iq sc (pz_u sq.1 9 (pw_i y) (sc 1), sq.2) := by
    refine ⟨⟨I.gq.1.1, fun s hs => ?_⟩, I.gq.2⟩
    rw [show ((pz_u sq.1 9 (pw_i y) (sc 1), sq.2) : pz_Q).1 9 s = (pz_u sq.1 9 (pw_i y) (sc 1)) 9 s from rfl]
    by_cases q : s = pw_i y
    · rw [q, pz_us]; exact Or.inr ⟨I.gq.1.1.1, by rw [Int32.le_iff_toInt_le]; omega⟩
    · rw [pz_un q]; exact I.gq.1.2 s hs
  exact ⟨hq.k6 (pz_dec hp.1 hp.2 hm.1 hm.2), I.2⟩
theorem cp_name (h : pz_c sc sq pa ri mp ca dr pe U V w0 w) (I : pz_I sc sq pa ri mp ca dr pe) (hU : U ≤ 190000) (hV : V ≤ 3900000) (k0 : (pw_jn x 12 ∧ pw_jn y 12) → (pe.1 42 (pw_i x) = 0 ∧ pe.1 42 (pw_i y) = 0 ∧ ¬ x = y ∧ ¬ pz_ex (fun k => pe.2 (pw_i x) k = y) (pw_i (pe.1 44 (pw_i x))) ∧ pw_i (pe.1 44 (pw_i x)) < 3) → ∀ w1, pz_c sc sq pa ri mp ca dr (pz_u pe.1 44 (pw_i x) (pe.1 44 (pw_i x) + 1), pz_u pe.2 (pw_i x) (pw_i (pe.1 44 (pw_i x))) y) (U + 1) (V + 120) w0 w1 → K w1 (pe.1 44 (pw_i x) + 1)) (k1 : ¬ (pw_jn x 12 ∧ pw_jn y 12) → ∀ w1, pz_c sc sq pa ri mp ca dr pe (U + 1) (V + 120) w0 w1 → X w1 1) (k2 : (pw_jn x 12 ∧ pw_jn y 12) → ¬ (pe.1 42 (pw_i x) = 0 ∧ pe.1 42 (pw_i y) = 0 ∧ ¬ x = y ∧ ¬ pz_ex (fun k => pe.2 (pw_i x) k = y) (pw_i (pe.1 44 (pw_i x))) ∧ pw_i (pe.1 44 (pw_i x)) < 3) → ∀ w1, pz_c sc sq pa ri mp ca dr pe (U + 1) (V + 120) w0 w1 → X w1 3) : wp_X_name w x y K X := by
  unfold wp_X_name jp_X_name_32 jp_X_name_33 jp_X_name_47 jp_X_name_64 jp_X_name_85
  rw [cv_personNumbered h]
  refine ⟨fun a1 => ?_, fun a1 => cu_thr h (by omega) (by omega) (pz_hL I) I.gr.1 (fun w1 h1 => k1 (fun z => a1 z.1) w1 (h1.up (by omega) (by omega)))⟩
  rw [cv_personNumbered h]
  refine ⟨fun a2 => ?_, fun a2 => cu_thr h (by omega) (by omega) (pz_hL I) I.gr.1 (fun w1 h1 => k1 (fun z => a2 z.2) w1 (h1.up (by omega) (by omega)))⟩
  have k2 := k2 ⟨a1, a2⟩
  have k0 := k0 ⟨a1, a2⟩
  obtain ⟨a, ha, rfl⟩ := pz_of a1
  obtain ⟨ed, hd⟩ := pz_kl24 h a ha
  rw [pz_i (by omega), ed, pz_i (by omega)] at k0 k2
  have a20 := a2.1
  have e42 := pz_k42 h _ a2.2
  have ru := pz_kru h
  have rv := pz_krv h
  have hL := pz_hL I
  have hr := I.gr.1
  (try simp (disch := omega) only [pz_ce h, pz_k14 h, pz_k60 h, pz_k23 h, pz_k30 h, pz_k31 h, pz_k34 h, pz_k35 h, pz_kl11 h, pz_k11 h, pz_k15 h, pz_k40 h, pz_k41 h, pz_k42 h, pz_k25 h, pz_km0 h, pz_km1 h, pz_km2 h, pz_kc0 h, pz_kc1 h, pz_kc2 h, pz_kc3 h, pz_kc4 h, pz_kc6 h, pz_kc7 h, pz_kl12 h, pz_k12 h, pz_kd0 h, pz_kd1 h, forall_eq, true_and, and_true, true_imp_iff, forall_const, not_true_eq_false, not_false_eq_true, false_imp_iff, implies_true, eq_self, pz_i, pz_s1, pz_p1, pz_jnt, pz_b0, pz_b1, pz_em, pz_nnt, pz_nm1, pz_10, pz_20, pz_30, Classical.not_not, cv_checkState, cv_checkState0, cv_checkState1, a20, e42, cv_hasNamed h ha, show ((3 : Int32) ≤ nI (pw_ln w 24 a)) = (3 ≤ pw_ln w 24 a) from pz_le (a := 3) (by decide) (by omega)])
  have th : ∀ (z : ¬ (pe.1 42 a = 0 ∧ pe.1 42 (pw_i y) = 0 ∧ ¬ nI a = y ∧ ¬ pz_ex (fun k => pe.2 a k = y) (pw_ln w 24 a) ∧ pw_ln w 24 a < 3)), pw_thr w X 3 := fun z => cu_thr h (by omega) (by omega) (pz_hL I) I.gr.1 (fun w1 h1 => k2 z w1 (h1.up (by omega) (by omega)))
  refine ⟨fun b1 => th fun z => b1 z.1, fun b1 => ⟨fun b2 => th fun z => b2 z.2.1, fun b2 => ⟨fun b3 => th fun z => z.2.2.1 b3, fun b3 => ⟨fun b4 => th fun z => z.2.2.2.1 b4, fun b4 => ⟨fun b5 => th fun z => by have := z.2.2.2.2; omega, fun b5 => ⟨pz_lg (by omega) (by omega) (by omega), ?_⟩⟩⟩⟩⟩⟩
  have k9 := k0 ⟨b1, b2, b3, b4, by omega⟩
  rw [pz_s1] at k9
  have e41 : (pw_la w 24 a y).1 4 a 1 = nI a := pz_k41 h a ha
  rw [e41]
  (try simp (disch := omega) only [forall_eq, true_and, and_true, true_imp_iff, forall_const, not_true_eq_false, not_false_eq_true, false_imp_iff, implies_true, eq_self, pz_i, pz_s1, pz_p1, pz_jnt, pz_b0, pz_b1, pz_em, pz_nnt, pz_nm1, pz_10, pz_20, pz_30, Classical.not_not])
  rw [show pw_ln (pw_la w 24 a y) 24 a = pw_ln w 24 a + 1 from pz_lals]
  exact k9 _ (csha h (p := a) (v := y) (by omega))
theorem pi_name (I : pz_I sc sq pa ri mp ca dr pe) (c1 : pw_jn x 12 ∧ pw_jn y 12) (c2 : pe.1 42 (pw_i x) = 0 ∧ pe.1 42 (pw_i y) = 0 ∧ ¬ x = y ∧ ¬ pz_ex (fun k => pe.2 (pw_i x) k = y) (pw_i (pe.1 44 (pw_i x))) ∧ pw_i (pe.1 44 (pw_i x)) < 3) : pz_I sc sq pa ri mp ca dr (pz_u pe.1 44 (pw_i x) (pe.1 44 (pw_i x) + 1), pz_u pe.2 (pw_i x) (pw_i (pe.1 44 (pw_i x))) y) := by
  refine ⟨I.1, I.2.1, I.2.2.1, I.2.2.2.1, I.2.2.2.2.1, I.2.2.2.2.2.1, I.gd, I.gh.1, fun m hm => ?_⟩
  obtain ⟨d, hd, ed, hh⟩ := I.gh.2 m hm
  have h3 := c2.2.2.2.2
  by_cases q : m = pw_i x
  · rw [q] at ed hh
    rw [ed, pz_i (by omega)] at h3
    refine ⟨d + 1, by omega, ?_, fun k hk => ?_⟩
    · show (pz_u pe.1 44 (pw_i x) (pe.1 44 (pw_i x) + 1)) 44 m = nI (d + 1)
      rw [q, pz_us, ed, pz_s1]
    · show pw_jn ((pz_u pe.2 (pw_i x) (pw_i (pe.1 44 (pw_i x))) y) m k) 12
      rw [q, ed, pz_i (by omega)]
      by_cases z : k = d
      · rw [z, pz_us]; exact c1.2
      · rw [pz_un z]; exact hh k (by omega)
  · refine ⟨d, hd, ?_, fun k hk => ?_⟩
    · show (pz_u pe.1 44 (pw_i x) (pe.1 44 (pw_i x) + 1)) 44 m = nI d
      rw [pz_un q]; exact ed
    · show pw_jn ((pz_u pe.2 (pw_i x) (pw_i (pe.1 44 (pw_i x))) y) m k) 12
      rw [pz_uk q]; exact hh k hk
end PZOC
