/-! public methods: rain, use -/
section PZOD
variable {sc : pz_S} {sq : pz_Q} {pa : pz_P} {ri : pz_N} {mp : pz_N} {ca : pz_P} {dr : pz_N} {pe : pz_Q} {U V : Nat} {w0 w w1 w2 : pw_W} {K : pw_W → Int32 → Prop} {X : pw_W → Nat → Prop} {x y z t : Int32} {i s r j n p q a b k k' : Nat} {c d e v v' : Int32}
noncomputable def pz_wr' (sq : pz_Q) (x : Int32) (n : Nat) : pz_Q := (fun k s => if k = 7 then (if s < n then pz_mn (sq.1 7 s + x) 100 else sq.1 7 s) else sq.1 k s, sq.2)
noncomputable def pz_ro' (sq : pz_Q) (x : Int32) (n : Nat) : Int32 := pz_su (fun _ => True) (fun s => (sq.1 7 s + x) - pz_mn (sq.1 7 s + x) 100) n
theorem pz_wr0 : pz_wr' sq x 0 = sq := by
  refine Prod.ext (funext fun k => funext fun s => ?_) rfl
  show (if k = 7 then (if s < 0 then pz_mn (sq.1 7 s + x) 100 else sq.1 7 s) else sq.1 k s) = sq.1 k s
  by_cases e : k = 7
  · rw [if_pos e, if_neg (show ¬ s < 0 by omega), e]
  · rw [if_neg e]
theorem pz_wrS : pz_wr' sq x (n + 1) = (pz_u (pz_wr' sq x n).1 7 n (pz_mn (sq.1 7 n + x) 100), (pz_wr' sq x n).2) := by
  refine Prod.ext (funext fun k => funext fun s => ?_) rfl
  show (if k = 7 then (if s < n + 1 then pz_mn (sq.1 7 s + x) 100 else sq.1 7 s) else sq.1 k s) = if k = 7 ∧ s = n then pz_mn (sq.1 7 n + x) 100 else (if k = 7 then (if s < n then pz_mn (sq.1 7 s + x) 100 else sq.1 7 s) else sq.1 k s)
  by_cases e : k = 7
  · by_cases e2 : s = n
    · rw [if_pos e, if_pos (show k = 7 ∧ s = n from ⟨e, e2⟩), if_pos (show s < n + 1 by omega), e2]
    · rw [if_pos e, if_neg (show ¬ (k = 7 ∧ s = n) from fun q => e2 q.2), if_pos e]
      by_cases e3 : s < n
      · rw [if_pos (show s < n + 1 by omega), if_pos e3]
      · rw [if_neg (show ¬ s < n + 1 by omega), if_neg e3]
  · rw [if_neg e, if_neg (show ¬ (k = 7 ∧ s = n) from fun q => e q.1), if_neg e]
theorem pz_wr7 (hs : s < 100) : (pz_wr' sq x s).1 7 s = sq.1 7 s := by
  show (if 7 = 7 then (if s < s then pz_mn (sq.1 7 s + x) 100 else sq.1 7 s) else sq.1 7 s) = _
  rw [if_pos rfl, if_neg (by omega)]
theorem pz_rn {u x : Int32} (h1 : 0 ≤ u) (h2 : u ≤ 100) (h3 : 1 ≤ x) (h4 : x ≤ 60) : u + (if 100 - u < x then 100 - u else x) = pz_mn (u + x) 100 ∧ x - (if 100 - u < x then 100 - u else x) = (u + x) - pz_mn (u + x) 100 := by
  have e1 : (100 - u).toInt = 100 - u.toInt := by
    rw [Int32.le_iff_toInt_le] at *
    rw [Int32.toInt_sub]
    rw [show (0 : Int32).toInt = 0 from rfl] at *
    rw [show (100 : Int32).toInt = 100 from rfl] at *
    exact Int.bmod_eq_of_le (by omega) (by omega)
  have e2 : (u + x).toInt = u.toInt + x.toInt := by
    rw [Int32.le_iff_toInt_le] at *
    rw [Int32.toInt_add]
    rw [show (0 : Int32).toInt = 0 from rfl] at *
    rw [show (100 : Int32).toInt = 100 from rfl] at *
    rw [show (1 : Int32).toInt = 1 from rfl] at *
    rw [show (60 : Int32).toInt = 60 from rfl] at *
    exact Int.bmod_eq_of_le (by omega) (by omega)
  have e3 : (100 : Int32).toInt = 100 := rfl
  unfold pz_mn
  by_cases q : 100 - u < x
  · rw [if_pos q]
    rw [Int32.lt_iff_toInt_lt, e1] at q
    have q2 : 100 ≤ u + x := by rw [Int32.le_iff_toInt_le, e2, e3]; omega
    rw [if_pos q2]
    exact ⟨by grind, by grind⟩
  · rw [if_neg q]
    rw [Int32.lt_iff_toInt_lt, e1] at q
    by_cases q2 : 100 ≤ u + x
    · rw [if_pos q2]
      have q3 : u + x = 100 := by
        rw [← Int32.toInt_inj, e2, e3]
        rw [Int32.le_iff_toInt_le, e2, e3] at q2
        omega
      rw [q3]
      exact ⟨rfl, by grind⟩
    · rw [if_neg q2]
      exact ⟨rfl, by grind⟩
theorem pz_rI (h : pz_in x 1 60) : 1 ≤ x ∧ x ≤ 60 := ⟨Int32.not_lt.mp h.1, Int32.not_lt.mp h.2⟩
theorem cp_rain (h : pz_c sc sq pa ri mp ca dr pe U V w0 w) (I : pz_I sc sq pa ri mp ca dr pe) (hU : U ≤ 190000) (hV : V ≤ 3900000) (k0 : (pz_in x 1 60) → ∀ w1, pz_c (pz_u1 (pz_u1 sc 3 (sc 3 + 100 * x)) 4 (sc 4 + pz_ro' sq x 100)) (pz_wr' sq x 100) pa ri mp ca dr pe (U + 0) (V + 0) w0 w1 → K w1 (pz_ro' sq x 100)) (k1 : ¬ (pz_in x 1 60) → ∀ w1, pz_c sc sq pa ri mp ca dr pe (U + 1) (V + 6) w0 w1 → X w1 2) : wp_X_rain w x K X := by
  unfold wp_X_rain
  rw [cv_isInRange, cv_checkArgument]
  refine ⟨fun q => ?_, fun q => cu_thr h (by omega) (by omega) (pz_hL I) I.gr.1 (k1 q)⟩
  have k9 := k0 q
  (try simp (disch := omega) only [pz_ce h, pz_k14 h, pz_k60 h, pz_k23 h, pz_k30 h, pz_k31 h, pz_k34 h, pz_k35 h, pz_kl11 h, pz_k11 h, pz_k15 h, pz_k40 h, pz_k41 h, pz_k42 h, pz_k25 h, pz_km0 h, pz_km1 h, pz_km2 h, pz_kc0 h, pz_kc1 h, pz_kc2 h, pz_kc3 h, pz_kc4 h, pz_kc6 h, pz_kc7 h, pz_kl12 h, pz_k12 h, pz_kd0 h, pz_kd1 h, forall_eq, true_and, and_true, true_imp_iff, forall_const, not_true_eq_false, not_false_eq_true, false_imp_iff, implies_true, eq_self, pz_i, pz_s1, pz_p1, pz_jnt, pz_b0, pz_b1, pz_em, pz_nnt, pz_nm1, pz_10, pz_20, pz_30, Classical.not_not])
  refine pz_up (F := fun k s w => lp_X_rain_24 K X k x (pz_ro' sq x s) (nI 100) (nI s) w) (I := fun s w => pz_c sc (pz_wr' sq x s) pa ri mp ca dr pe U V w0 w) 100 (fun s w4 k5 hs h4 ih => ?_) (fun w4 h4 => ?_) (by rw [pz_wr0]; exact h)
  · rw [lp_X_rain_24_s]
    have hw := I.gq.2.1 s hs
    have hr := pz_rn hw.1 hw.2 (pz_rI q).1 (pz_rI q).2
    (try simp (disch := omega) only [pz_ce h4, pz_k14 h4, pz_k60 h4, pz_k23 h4, pz_k30 h4, pz_k31 h4, pz_k34 h4, pz_k35 h4, pz_kl11 h4, pz_k11 h4, pz_k15 h4, pz_k40 h4, pz_k41 h4, pz_k42 h4, pz_k25 h4, pz_km0 h4, pz_km1 h4, pz_km2 h4, pz_kc0 h4, pz_kc1 h4, pz_kc2 h4, pz_kc3 h4, pz_kc4 h4, pz_kc6 h4, pz_kc7 h4, pz_kl12 h4, pz_k12 h4, pz_kd0 h4, pz_kd1 h4, forall_eq, true_and, and_true, true_imp_iff, forall_const, not_true_eq_false, not_false_eq_true, false_imp_iff, implies_true, eq_self, pz_i, pz_s1, pz_p1, pz_jnt, pz_b0, pz_b1, pz_em, pz_nnt, pz_nm1, pz_10, pz_20, pz_30, Classical.not_not, pz_le, show ¬ 100 ≤ s by omega, pz_wr7 hs, hr.1, hr.2])
    have h5 := cs65 h4 (s := s) (v := pz_mn (sq.1 7 s + x) 100)
    rw [← pz_wrS] at h5
    have e2 : pz_ro' sq x (s + 1) = pz_ro' sq x s + (sq.1 7 s + x - pz_mn (sq.1 7 s + x) 100) := by
      unfold pz_ro'; rw [pz_suS, pz_iT]
    rw [← e2]
    exact ih _ h5
  · rw [lp_X_rain_24_s]
    (try simp (disch := omega) only [pz_ce h4, pz_k14 h4, pz_k60 h4, pz_k23 h4, pz_k30 h4, pz_k31 h4, pz_k34 h4, pz_k35 h4, pz_kl11 h4, pz_k11 h4, pz_k15 h4, pz_k40 h4, pz_k41 h4, pz_k42 h4, pz_k25 h4, pz_km0 h4, pz_km1 h4, pz_km2 h4, pz_kc0 h4, pz_kc1 h4, pz_kc2 h4, pz_kc3 h4, pz_kc4 h4, pz_kc6 h4, pz_kc7 h4, pz_kl12 h4, pz_k12 h4, pz_kd0 h4, pz_kd1 h4, forall_eq, true_and, and_true, true_imp_iff, forall_const, not_true_eq_false, not_false_eq_true, false_imp_iff, implies_true, eq_self, pz_i, pz_s1, pz_p1, pz_jnt, pz_b0, pz_b1, pz_em, pz_nnt, pz_nm1, pz_10, pz_20, pz_30, Classical.not_not, pz_le, Nat.le_refl])
    have h5 := cs73 h4 (v := sc 3 + 100 * x)
    rw [show x * 100 = 100 * x from Int32.mul_comm _ _]
    have e : (pw_ps w4 7 0 9 (sc 3 + 100 * x)).1 7 0 10 = sc 4 := by rw [pz_psk (by decide)]; exact (pz_csc.of h4).2.2.2.2.2.2.2.2.2.2.1
    rw [e]
    exact k9 _ (cs74 h5 (v := sc 4 + pz_ro' sq x 100))
theorem pi_rain (I : pz_I sc sq pa ri mp ca dr pe) (c1 : pz_in x 1 60) : pz_I (pz_u1 (pz_u1 sc 3 (sc 3 + 100 * x)) 4 (sc 4 + pz_ro' sq x 100)) (pz_wr' sq x 100) pa ri mp ca dr pe := by
  refine ⟨⟨I.gq.1, fun s hs => ?_, I.gq.2.2⟩, I.2⟩
  show 0 ≤ (if 7 = 7 then (if s < 100 then pz_mn (sq.1 7 s + x) 100 else sq.1 7 s) else sq.1 7 s) ∧ (if 7 = 7 then (if s < 100 then pz_mn (sq.1 7 s + x) 100 else sq.1 7 s) else sq.1 7 s) ≤ 100
  rw [if_pos rfl, if_pos hs]
  have hw := I.gq.2.1 s hs
  have hx := pz_rI c1
  have e2 : (sq.1 7 s + x).toInt = (sq.1 7 s).toInt + x.toInt := by
    rw [Int32.le_iff_toInt_le, Int32.le_iff_toInt_le] at *
    rw [Int32.toInt_add]
    rw [show (0 : Int32).toInt = 0 from rfl, show (100 : Int32).toInt = 100 from rfl] at hw
    rw [show (1 : Int32).toInt = 1 from rfl, show (60 : Int32).toInt = 60 from rfl] at hx
    exact Int.bmod_eq_of_le (by omega) (by omega)
  unfold pz_mn
  by_cases q : 100 ≤ sq.1 7 s + x
  · rw [if_pos q]; decide
  · rw [if_neg q]
    rw [Int32.le_iff_toInt_le] at q
    rw [Int32.le_iff_toInt_le, Int32.le_iff_toInt_le] at hw hx
    rw [Int32.le_iff_toInt_le, Int32.le_iff_toInt_le]
    rw [show (100 : Int32).toInt = 100 from rfl] at q
    rw [show (0 : Int32).toInt = 0 from rfl, show (100 : Int32).toInt = 100 from rfl] at hw
    rw [show (0 : Int32).toInt = 0 from rfl, show (100 : Int32).toInt = 100 from rfl]
    rw [show (1 : Int32).toInt = 1 from rfl, show (60 : Int32).toInt = 60 from rfl] at hx
    omega
noncomputable def pz_us' (sc : pz_S) (sq : pz_Q) (x y z : Int32) (n : Nat) : pz_Q := (fun k s => if k = 10 then pz_ite (s < n ∧ pz_if (nI s) y z) x (sq.1 10 s) else if k = 11 then pz_ite (s < n ∧ pz_if (nI s) y z ∧ ¬ sq.1 10 s = x) (sc 1) (sq.1 11 s) else sq.1 k s, sq.2)
theorem pz_us10 : (pz_us' sc sq x y z n).1 10 s = pz_ite (s < n ∧ pz_if (nI s) y z) x (sq.1 10 s) := rfl
theorem pz_us11 : (pz_us' sc sq x y z n).1 11 s = pz_ite (s < n ∧ pz_if (nI s) y z ∧ ¬ sq.1 10 s = x) (sc 1) (sq.1 11 s) := rfl
theorem pz_us0 : pz_us' sc sq x y z 0 = sq := by
  refine Prod.ext (funext fun k => funext fun s => ?_) rfl
  show (if k = 10 then pz_ite (s < 0 ∧ pz_if (nI s) y z) x (sq.1 10 s) else if k = 11 then pz_ite (s < 0 ∧ pz_if (nI s) y z ∧ ¬ sq.1 10 s = x) (sc 1) (sq.1 11 s) else sq.1 k s) = sq.1 k s
  rw [pz_if' (fun q => absurd q.1 (Nat.not_lt_zero _)), pz_if' (fun q => absurd q.1 (Nat.not_lt_zero _))]
  by_cases e : k = 10
  · rw [if_pos e, e]
  · rw [if_neg e]
    by_cases e2 : k = 11
    · rw [if_pos e2, e2]
    · rw [if_neg e2]
theorem pz_itc {P Q : Prop} {u v : Int32} (h : P ↔ Q) : pz_ite P u v = pz_ite Q u v := by rw [propext h]
theorem pz_usS1 (h : pz_if (nI n) y z) (h2 : ¬ sq.1 10 n = x) : pz_us' sc sq x y z (n + 1) = (pz_u (pz_u (pz_us' sc sq x y z n).1 11 n (sc 1)) 10 n x, (pz_us' sc sq x y z n).2) := by
  refine Prod.ext (funext fun k => funext fun s => ?_) rfl
  show (if k = 10 then pz_ite (s < n + 1 ∧ pz_if (nI s) y z) x (sq.1 10 s) else if k = 11 then pz_ite (s < n + 1 ∧ pz_if (nI s) y z ∧ ¬ sq.1 10 s = x) (sc 1) (sq.1 11 s) else sq.1 k s) = (pz_u (pz_u (pz_us' sc sq x y z n).1 11 n (sc 1)) 10 n x) k s
  by_cases e : k = 10
  · rw [if_pos e, e]
    by_cases e2 : s = n
    · rw [e2, pz_us, pz_it ⟨by omega, h⟩]
    · rw [pz_un e2, pz_un e2, pz_us10]
      exact pz_itc ⟨fun q => ⟨by have := q.1; omega, q.2⟩, fun q => ⟨by have := q.1; omega, q.2⟩⟩
  · rw [if_neg e, pz_uk e]
    by_cases e3 : k = 11
    · rw [if_pos e3, e3]
      by_cases e2 : s = n
      · rw [e2, pz_us, pz_it ⟨by omega, h, h2⟩]
      · rw [pz_un e2, pz_us11]
        exact pz_itc ⟨fun q => ⟨by have := q.1; omega, q.2⟩, fun q => ⟨by have := q.1; omega, q.2⟩⟩
    · rw [if_neg e3, pz_uk e3]
      exact ((if_neg e).trans (if_neg e3)).symm
theorem pz_usS0 (h : ¬ (pz_if (nI n) y z ∧ ¬ sq.1 10 n = x)) : pz_us' sc sq x y z (n + 1) = pz_us' sc sq x y z n := by
  refine Prod.ext (funext fun k => funext fun s => ?_) rfl
  show (if k = 10 then pz_ite (s < n + 1 ∧ pz_if (nI s) y z) x (sq.1 10 s) else if k = 11 then pz_ite (s < n + 1 ∧ pz_if (nI s) y z ∧ ¬ sq.1 10 s = x) (sc 1) (sq.1 11 s) else sq.1 k s) = (if k = 10 then pz_ite (s < n ∧ pz_if (nI s) y z) x (sq.1 10 s) else if k = 11 then pz_ite (s < n ∧ pz_if (nI s) y z ∧ ¬ sq.1 10 s = x) (sc 1) (sq.1 11 s) else sq.1 k s)
  have e11 : (s < n + 1 ∧ pz_if (nI s) y z ∧ ¬ sq.1 10 s = x) ↔ (s < n ∧ pz_if (nI s) y z ∧ ¬ sq.1 10 s = x) := ⟨fun q => ⟨Nat.lt_of_le_of_ne (by omega) (fun e => h (e ▸ q.2)), q.2⟩, fun q => ⟨by omega, q.2⟩⟩
  rw [pz_itc e11]
  by_cases e2 : s = n
  · have : pz_ite (s < n + 1 ∧ pz_if (nI s) y z) x (sq.1 10 s) = pz_ite (s < n ∧ pz_if (nI s) y z) x (sq.1 10 s) := by
      rw [pz_if' (P := s < n ∧ pz_if (nI s) y z) (fun q => by omega)]
      by_cases e3 : pz_if (nI s) y z
      · rw [pz_it ⟨by omega, e3⟩]
        exact (Classical.byContradiction fun q => h ⟨e2 ▸ e3, fun z => q (by rw [e2]; exact z.symm)⟩)
      · rw [pz_if' (fun q => e3 q.2)]
    rw [this]
  · rw [pz_itc (P := s < n + 1 ∧ pz_if (nI s) y z) (Q := s < n ∧ pz_if (nI s) y z) ⟨fun q => ⟨by omega, q.2⟩, fun q => ⟨by omega, q.2⟩⟩]
theorem pz_us10n (hs : s < 100) : (pz_us' sc sq x y z (s + 1)).1 10 s = (pz_us' sc sq x y z 100).1 10 s := by
  rw [pz_us10, pz_us10]
  exact pz_itc ⟨fun q => ⟨hs, q.2⟩, fun q => ⟨by omega, q.2⟩⟩
theorem cp_use (h : pz_c sc sq pa ri mp ca dr pe U V w0 w) (I : pz_I sc sq pa ri mp ca dr pe) (hU : U ≤ 190000) (hV : V ≤ 3900000) (k0 : (pz_as x y z) → (pz_fd y z) → (pe.1 42 (pw_i x) = 0) → ∀ w1, pz_c sc (pz_us' sc sq x y z 100) pa ri mp ca dr pe (U + 0) (V + 0) w0 w1 → K w1 (pz_ct (fun s => (pz_us' sc sq x y z 100).1 10 s = x) 100)) (k1 : ¬ (pz_as x y z) → ∀ w1, pz_c sc sq pa ri mp ca dr pe (U + 1) (V + 6) w0 w1 → X w1 1) (k2 : (pz_as x y z) → ¬ (pz_fd y z) → ∀ w1, pz_c sc sq pa ri mp ca dr pe (U + 1) (V + 6) w0 w1 → X w1 2) (k3 : (pz_as x y z) → (pz_fd y z) → ¬ (pe.1 42 (pw_i x) = 0) → ∀ w1, pz_c sc sq pa ri mp ca dr pe (U + 1) (V + 6) w0 w1 → X w1 3) : wp_X_use w x y z K X := by
  unfold wp_X_use
  rw [cv_personNumbered h]
  refine ⟨fun a1 => ?_, fun a1 => cu_thr h (by omega) (by omega) (pz_hL I) I.gr.1 (k1 fun z => a1 z.1)⟩
  rw [cv_checkSquares]
  refine ⟨fun a2 => ?_, fun a2 => cu_thr h (by omega) (by omega) (pz_hL I) I.gr.1 (k1 fun z => a2 z.2)⟩
  have c1 : pz_as x y z := ⟨a1, a2⟩
  rw [cv_checkField]
  refine ⟨fun c2 => ⟨a1.1, ?_⟩, fun c2 => cu_thr h (by omega) (by omega) (pz_hL I) I.gr.1 (k2 c1 c2)⟩
  rw [pz_k42 h _ a1.2, cv_checkState]
  refine ⟨fun b1 => ?_, fun b1 => cu_thr h (by omega) (by omega) (pz_hL I) I.gr.1 (k3 c1 c2 b1)⟩
  have k9 := k0 c1 c2 b1
  (try simp (disch := omega) only [pz_ce h, pz_k14 h, pz_k60 h, pz_k23 h, pz_k30 h, pz_k31 h, pz_k34 h, pz_k35 h, pz_kl11 h, pz_k11 h, pz_k15 h, pz_k40 h, pz_k41 h, pz_k42 h, pz_k25 h, pz_km0 h, pz_km1 h, pz_km2 h, pz_kc0 h, pz_kc1 h, pz_kc2 h, pz_kc3 h, pz_kc4 h, pz_kc6 h, pz_kc7 h, pz_kl12 h, pz_k12 h, pz_kd0 h, pz_kd1 h, forall_eq, true_and, and_true, true_imp_iff, forall_const, not_true_eq_false, not_false_eq_true, false_imp_iff, implies_true, eq_self, pz_i, pz_s1, pz_p1, pz_jnt, pz_b0, pz_b1, pz_em, pz_nnt, pz_nm1, pz_10, pz_20, pz_30, Classical.not_not])
  refine pz_up (F := fun k s w => lp_X_use_42 K X k y z x (pz_ct (fun s => (pz_us' sc sq x y z 100).1 10 s = x) s) (nI 100) (nI s) w) (I := fun s w => pz_c sc (pz_us' sc sq x y z s) pa ri mp ca dr pe U V w0 w) 100 (fun s w4 k5 hs h4 ih => ?_) (fun w4 h4 => ?_) (by rw [pz_us0]; exact h)
  · rw [lp_X_use_42_s]
    unfold jp_X_use_95
    have ih2 : ∀ w1, pz_c sc (pz_us' sc sq x y z (s + 1)) pa ri mp ca dr pe U V w0 w1 → (0 ≤ nI s ∧ (¬ w1.1 6 s 7 = x → lp_X_use_42 K X k5 y z x (pz_ct (fun s => (pz_us' sc sq x y z 100).1 10 s = x) s) (nI 100) (nI s + 1) w1) ∧ (w1.1 6 s 7 = x → lp_X_use_42 K X k5 y z x (pz_ct (fun s => (pz_us' sc sq x y z 100).1 10 s = x) s + 1) (nI 100) (nI s + 1) w1)) := by
      intro w1 hw
      have ih := ih w1 hw
      rw [pz_ctS] at ih
      (try simp (disch := omega) only [pz_ce hw, pz_k14 hw, pz_k60 hw, pz_k23 hw, pz_k30 hw, pz_k31 hw, pz_k34 hw, pz_k35 hw, pz_kl11 hw, pz_k11 hw, pz_k15 hw, pz_k40 hw, pz_k41 hw, pz_k42 hw, pz_k25 hw, pz_km0 hw, pz_km1 hw, pz_km2 hw, pz_kc0 hw, pz_kc1 hw, pz_kc2 hw, pz_kc3 hw, pz_kc4 hw, pz_kc6 hw, pz_kc7 hw, pz_kl12 hw, pz_k12 hw, pz_kd0 hw, pz_kd1 hw, forall_eq, true_and, and_true, true_imp_iff, forall_const, not_true_eq_false, not_false_eq_true, false_imp_iff, implies_true, eq_self, pz_i, pz_s1, pz_p1, pz_jnt, pz_b0, pz_b1, pz_em, pz_nnt, pz_nm1, pz_10, pz_20, pz_30, Classical.not_not])
      rw [pz_us10n hs]
      refine ⟨fun q => ?_, fun q => ?_⟩
      · rw [pz_bf q, Int32.add_zero] at ih; exact ih
      · rw [pz_bt q] at ih; exact ih
    have e10 : (pz_us' sc sq x y z s).1 10 s = sq.1 10 s := by rw [pz_us10, pz_if' (fun q => by omega)]
    have e14 := pz_k14 h4 s hs
    have e67 : w4.1 6 s 7 = sq.1 10 s := by rw [← e10]; exact (pz_csq.of h4).2.2.2.2.2.2.2.2.1 s
    have e60 := pz_k60 h4 s hs
    have l14 : pw_ln w4 14 0 = 100 := (pz_csq.of h4).1
    refine ⟨fun q => absurd q (by rw [pz_le (by omega) (by omega)]; omega), fun _ => ⟨by rw [l14]; exact pz_jn hs (by omega), fun v ev => ?_⟩⟩
    rw [pz_i (by omega), e14] at ev
    subst ev
    rw [pz_i (show s < 2147483648 by omega)]
    refine ⟨pz_nn (by omega), fun q => ?_, fun q => ?_⟩
    · rw [e67] at q
      exact ih2 w4 (by rw [pz_usS0 fun z => z.2 q]; exact h4)
    · rw [e67] at q
      rw [e60, cv_isInField]
      refine ⟨fun q1 => ih2 w4 (by rw [pz_usS0 fun z => (pz_b0.mp q1) z.1]; exact h4), fun q1 => ?_⟩
      have q1 := Classical.byContradiction fun n => q1 (pz_bf n)
      intro w12 e12 w14 e14
      have e77 : w12.1 7 0 7 = sc 1 := by rw [e12, pz_psf (by decide)]; exact (pz_csc.of h4).2.2.2.2.2.2.2.1
      rw [e77] at e14
      refine ih2 w14 ?_
      rw [e14, e12, pz_usS1 q1 q, pz_uc (by decide)]
      exact cs68 (cs67 h4)
  · rw [lp_X_use_42_s]
    (try simp (disch := omega) only [pz_ce h4, pz_k14 h4, pz_k60 h4, pz_k23 h4, pz_k30 h4, pz_k31 h4, pz_k34 h4, pz_k35 h4, pz_kl11 h4, pz_k11 h4, pz_k15 h4, pz_k40 h4, pz_k41 h4, pz_k42 h4, pz_k25 h4, pz_km0 h4, pz_km1 h4, pz_km2 h4, pz_kc0 h4, pz_kc1 h4, pz_kc2 h4, pz_kc3 h4, pz_kc4 h4, pz_kc6 h4, pz_kc7 h4, pz_kl12 h4, pz_k12 h4, pz_kd0 h4, pz_kd1 h4, forall_eq, true_and, and_true, true_imp_iff, forall_const, not_true_eq_false, not_false_eq_true, false_imp_iff, implies_true, eq_self, pz_i, pz_s1, pz_p1, pz_jnt, pz_b0, pz_b1, pz_em, pz_nnt, pz_nm1, pz_10, pz_20, pz_30, Classical.not_not, pz_le, Nat.le_refl])
    exact k9 _ h4
theorem pi_use (I : pz_I sc sq pa ri mp ca dr pe) (c1 : pz_as x y z) (c2 : pz_fd y z) (c3 : pe.1 42 (pw_i x) = 0) : pz_I sc (pz_us' sc sq x y z 100) pa ri mp ca dr pe := by
  refine ⟨⟨I.gq.1, I.gq.2.1, I.gq.2.2.1, fun s hs => ?_⟩, I.2⟩
  rw [pz_us10]
  by_cases q : s < 100 ∧ pz_if (nI s) y z
  · rw [pz_it q]; exact Or.inr c1.1
  · rw [pz_if' q]; exact I.gq.2.2.2 s hs
end PZOD
