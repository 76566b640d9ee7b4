/-! a day: its parts -/
section PZDY
variable {sc : pz_S} {sq : pz_Q} {pa : pz_P} {ri : pz_N} {mp : pz_N} {ca : pz_P} {dr : pz_N} {pe : pz_Q} {U V : Nat} {w0 w w1 w2 : pw_W} {K : pw_W → Int32 → Prop} {X : pw_W → Nat → Prop} {x y z t : Int32} {i s r j n p q a b k k' m d : Nat} {c : Nat} {e v v' : Int32}
theorem pz_mnlt {x y : Int32} : (if y < x then y else x) = pz_mn x y := by
  unfold pz_mn
  by_cases q : y ≤ x
  · rw [if_pos q]
    by_cases q2 : y < x
    · rw [if_pos q2]
    · rw [if_neg q2, ← Int32.toInt_inj]
      rw [Int32.le_iff_toInt_le] at q
      rw [Int32.lt_iff_toInt_lt] at q2
      omega
  · rw [if_neg q, if_neg (fun z => q (by rw [Int32.le_iff_toInt_le]; rw [Int32.lt_iff_toInt_lt] at z; omega))]
/-- water by a drain -/
noncomputable def pz_dv (a : pz_Q) (f t : Nat) : Int32 := pz_mn (a.1 7 f / 4) (100 - a.1 7 t)
noncomputable def pz_d1 (a : pz_Q) (f t : Nat) : pz_Q := (pz_u (pz_u a.1 7 f (a.1 7 f - pz_dv a f t)) 7 t ((pz_u a.1 7 f (a.1 7 f - pz_dv a f t)) 7 t + pz_dv a f t), a.2)
noncomputable def pz_dq (sq : pz_Q) (dr : pz_N) (n : Nat) : pz_Q := Nat.rec sq (fun d a => pz_d1 a (pw_i (dr.2 39 d)) (pw_i (dr.2 40 d))) n
theorem pz_dqS : pz_dq sq dr (n + 1) = pz_d1 (pz_dq sq dr n) (pw_i (dr.2 39 n)) (pw_i (dr.2 40 n)) := rfl
theorem cu_runDrains (h : pz_c sc sq pa ri mp ca dr pe U V w0 w) (hd : pz_id dr) (k : ∀ w1, pz_c sc (pz_dq sq dr dr.1) pa ri mp ca dr pe U V w0 w1 → K w1 0) : wp_X_runDrains w K X := by
  unfold wp_X_runDrains
  have h20 := hd.1
  refine pz_up (F := fun k s w => lp_X_runDrains_2 K X k (nI s) w) (I := fun s w => pz_c sc (pz_dq sq dr s) pa ri mp ca dr pe U V w0 w) dr.1 (fun s w4 k5 hs h4 ih => ?_) (fun w4 h4 => ?_) h
  · rw [lp_X_runDrains_2_s]
    unfold wp_Drain_run
    obtain ⟨j1, j2⟩ := hd.2 s hs
    have j10 := j1.1
    have j20 := j2.1
    have d0 := pz_kd0 h4 s hs
    have d1 := pz_kd1 h4 s hs
    have g0 := (pz_k21 h4 s hs).1
    (try simp (disch := omega) only [pz_ce h4, pz_k14 h4, pz_k60 h4, pz_k23 h4, pz_k30 h4, pz_k31 h4, pz_k34 h4, pz_k35 h4, pz_kl11 h4, pz_k11 h4, pz_k15 h4, pz_k40 h4, pz_k41 h4, pz_k42 h4, pz_k25 h4, pz_km0 h4, pz_km1 h4, pz_km2 h4, pz_kc0 h4, pz_kc1 h4, pz_kc2 h4, pz_kc3 h4, pz_kc4 h4, pz_kc6 h4, pz_kc7 h4, pz_kl12 h4, pz_k12 h4, pz_kd0 h4, pz_kd1 h4, forall_eq, true_and, and_true, true_imp_iff, forall_const, not_true_eq_false, not_false_eq_true, false_imp_iff, implies_true, eq_self, pz_i, pz_s1, pz_p1, pz_jnt, pz_b0, pz_b1, pz_em, pz_nnt, pz_nm1, pz_10, pz_20, pz_30, Classical.not_not, pz_le, show ¬ dr.1 ≤ s by omega, j10, j20, d0, d1, g0, pz_mnlt])
    have h5 := cs65 h4 (s := pw_i (dr.2 39 s)) (v := (pz_dq sq dr s).1 7 (pw_i (dr.2 39 s)) - pz_dv (pz_dq sq dr s) (pw_i (dr.2 39 s)) (pw_i (dr.2 40 s)))
    unfold pz_dv at h5
    have g1 : ∀ m v, (pw_ps w4 6 m 5 v).1 1 (pw_i (w4.1 21 0 s)) 1 = dr.2 40 s := fun m v => by rw [pz_psf (by decide)]; exact d1
    rw [g1]
    have e5 := (pz_csq.of h5).2.2.2.2.2.2.1 (pw_i (dr.2 40 s))
    rw [e5]
    refine ⟨j20, ih _ ?_⟩
    exact cs65 h5 (s := pw_i (dr.2 40 s)) (v := (pz_u (pz_dq sq dr s).1 7 (pw_i (dr.2 39 s)) ((pz_dq sq dr s).1 7 (pw_i (dr.2 39 s)) - pz_dv (pz_dq sq dr s) (pw_i (dr.2 39 s)) (pw_i (dr.2 40 s)))) 7 (pw_i (dr.2 40 s)) + pz_dv (pz_dq sq dr s) (pw_i (dr.2 39 s)) (pw_i (dr.2 40 s)))
  · rw [lp_X_runDrains_2_s]
    (try simp (disch := omega) only [pz_ce h4, pz_k14 h4, pz_k60 h4, pz_k23 h4, pz_k30 h4, pz_k31 h4, pz_k34 h4, pz_k35 h4, pz_kl11 h4, pz_k11 h4, pz_k15 h4, pz_k40 h4, pz_k41 h4, pz_k42 h4, pz_k25 h4, pz_km0 h4, pz_km1 h4, pz_km2 h4, pz_kc0 h4, pz_kc1 h4, pz_kc2 h4, pz_kc3 h4, pz_kc4 h4, pz_kc6 h4, pz_kc7 h4, pz_kl12 h4, pz_k12 h4, pz_kd0 h4, pz_kd1 h4, forall_eq, true_and, and_true, true_imp_iff, forall_const, not_true_eq_false, not_false_eq_true, false_imp_iff, implies_true, eq_self, pz_i, pz_s1, pz_p1, pz_jnt, pz_b0, pz_b1, pz_em, pz_nnt, pz_nm1, pz_10, pz_20, pz_30, Classical.not_not, pz_le, Nat.le_refl])
    exact k _ h4
/-- bounds of water -/
def pz_iw (sq : pz_Q) : Prop := ∀ s, s < 100 → 0 ≤ sq.1 7 s ∧ sq.1 7 s ≤ 100
theorem pz_d1w (h : pz_iw sq) (hf : n < 100) (ht : m < 100) : pz_iw (pz_d1 sq n m) := by
  have hv : 0 ≤ (pz_dv sq n m).toInt ∧ (pz_dv sq n m).toInt ≤ (sq.1 7 n).toInt ∧ (pz_dv sq n m).toInt ≤ 100 - (sq.1 7 m).toInt := by
    have hn := h n hf
    have hm := h m ht
    rw [Int32.le_iff_toInt_le, Int32.le_iff_toInt_le, show (0 : Int32).toInt = 0 from rfl, show (100 : Int32).toInt = 100 from rfl] at hn hm
    have e1 : (100 - sq.1 7 m).toInt = 100 - (sq.1 7 m).toInt := by
      rw [Int32.toInt_sub, show (100 : Int32).toInt = 100 from rfl]
      exact Int.bmod_eq_of_le (by omega) (by omega)
    have e2 : (sq.1 7 n / 4).toInt = (sq.1 7 n).toInt / 4 := by
      rw [Int32.toInt_div_of_ne_right _ _ (by decide), show (4 : Int32).toInt = 4 from rfl]
      exact Int.tdiv_eq_ediv_of_nonneg hn.1
    unfold pz_dv pz_mn
    by_cases q : 100 - sq.1 7 m ≤ sq.1 7 n / 4
    · rw [if_pos q]
      rw [Int32.le_iff_toInt_le, e1, e2] at q
      rw [e1]; omega
    · rw [if_neg q]
      rw [Int32.le_iff_toInt_le, e1, e2] at q
      rw [e2]; omega
  have hsub : ∀ x : Int32, 0 ≤ x.toInt → x.toInt ≤ 100 → (pz_dv sq n m).toInt ≤ x.toInt → (x - pz_dv sq n m).toInt = x.toInt - (pz_dv sq n m).toInt := fun x _ _ _ => by
    rw [Int32.toInt_sub]; exact Int.bmod_eq_of_le (by omega) (by omega)
  have hadd : ∀ x : Int32, 0 ≤ x.toInt → x.toInt ≤ 100 → (x + pz_dv sq n m).toInt = x.toInt + (pz_dv sq n m).toInt := fun x _ _ => by
    have hm := h m ht
    rw [Int32.le_iff_toInt_le, Int32.le_iff_toInt_le, show (0 : Int32).toInt = 0 from rfl, show (100 : Int32).toInt = 100 from rfl] at hm
    rw [Int32.toInt_add]; exact Int.bmod_eq_of_le (by omega) (by omega)
  have hn := h n hf
  have hm := h m ht
  intro s hs
  have hh := h s hs
  rw [Int32.le_iff_toInt_le, Int32.le_iff_toInt_le, show (0 : Int32).toInt = 0 from rfl, show (100 : Int32).toInt = 100 from rfl] at hn hm hh
  show 0 ≤ (pz_u (pz_u sq.1 7 n (sq.1 7 n - pz_dv sq n m)) 7 m ((pz_u sq.1 7 n (sq.1 7 n - pz_dv sq n m)) 7 m + pz_dv sq n m)) 7 s ∧ (pz_u (pz_u sq.1 7 n (sq.1 7 n - pz_dv sq n m)) 7 m ((pz_u sq.1 7 n (sq.1 7 n - pz_dv sq n m)) 7 m + pz_dv sq n m)) 7 s ≤ 100
  rw [Int32.le_iff_toInt_le, Int32.le_iff_toInt_le, show (0 : Int32).toInt = 0 from rfl, show (100 : Int32).toInt = 100 from rfl]
  by_cases q : s = m
  · rw [q, pz_us]
    by_cases q2 : m = n
    · rw [q2, pz_us]
      rw [q2] at hv hsub hadd
      rw [hadd _ (by rw [hsub _ (by omega) (by omega) (by omega)]; omega) (by rw [hsub _ (by omega) (by omega) (by omega)]; omega), hsub _ (by omega) (by omega) (by omega)]
      omega
    · rw [pz_un q2, hadd _ (by omega) (by omega)]
      omega
  · rw [pz_un q]
    by_cases q2 : s = n
    · rw [q2, pz_us, hsub _ (by omega) (by omega) (by omega)]; omega
    · rw [pz_un q2]; exact hh
theorem pz_dqw (h : pz_iw sq) (hd : pz_id dr) : ∀ {n : Nat}, n ≤ dr.1 → pz_iw (pz_dq sq dr n)
  | 0, _ => h
  | n + 1, hn => pz_d1w (pz_dqw (n := n) h hd (by omega)) (hd.2 n (by omega)).1.2 (hd.2 n (by omega)).2.2
/-- drains change water alone -/
theorem pz_dqk (hk : ¬ k = 7) : ∀ {n : Nat}, (pz_dq sq dr n).1 k s = sq.1 k s
  | 0 => rfl
  | n + 1 => by
    have ih := pz_dqk hk (n := n)
    show (pz_u (pz_u _ 7 _ _) 7 _ _) k s = _
    rw [pz_uk hk, pz_uk hk]; exact ih
theorem pz_dq2 : ∀ {n : Nat}, (pz_dq sq dr n).2 = sq.2
  | 0 => rfl
  | n + 1 => pz_dq2 (n := n)
/-- drying -/
noncomputable def pz_dy (sq : pz_Q) (n : Nat) : pz_Q := (fun k s => if k = 7 then (if s < n then sq.1 7 s - pz_mn (sq.1 7 s) 1 else sq.1 7 s) else sq.1 k s, sq.2)
noncomputable def pz_ds (sq : pz_Q) (n : Nat) : Int32 := pz_su (fun _ => True) (fun s => pz_mn (sq.1 7 s) 1) n
theorem pz_dy0 : pz_dy sq 0 = sq := by
  refine Prod.ext (funext fun k => funext fun s => ?_) rfl
  show (if k = 7 then (if s < 0 then sq.1 7 s - pz_mn (sq.1 7 s) 1 else sq.1 7 s) else sq.1 k s) = sq.1 k s
  by_cases e : k = 7
  · rw [if_pos e, if_neg (show ¬ s < 0 by omega), e]
  · rw [if_neg e]
theorem pz_dyS : pz_dy sq (n + 1) = (pz_u (pz_dy sq n).1 7 n (sq.1 7 n - pz_mn (sq.1 7 n) 1), (pz_dy sq n).2) := by
  refine Prod.ext (funext fun k => funext fun s => ?_) rfl
  show (if k = 7 then (if s < n + 1 then sq.1 7 s - pz_mn (sq.1 7 s) 1 else sq.1 7 s) else sq.1 k s) = if k = 7 ∧ s = n then sq.1 7 n - pz_mn (sq.1 7 n) 1 else (if k = 7 then (if s < n then sq.1 7 s - pz_mn (sq.1 7 s) 1 else sq.1 7 s) else sq.1 k s)
  by_cases e : k = 7
  · by_cases e2 : s = n
    · rw [if_pos e, if_pos (show k = 7 ∧ s = n from ⟨e, e2⟩), if_pos (show s < n + 1 by omega), e2]
    · rw [if_pos e, if_neg (show ¬ (k = 7 ∧ s = n) from fun q => e2 q.2), if_pos e]
      by_cases e3 : s < n
      · rw [if_pos (show s < n + 1 by omega), if_pos e3]
      · rw [if_neg (show ¬ s < n + 1 by omega), if_neg e3]
  · rw [if_neg e, if_neg (show ¬ (k = 7 ∧ s = n) from fun q => e q.1), if_neg e]
theorem pz_dy7 : (pz_dy sq s).1 7 s = sq.1 7 s := by
  show (if 7 = 7 then (if s < s then sq.1 7 s - pz_mn (sq.1 7 s) 1 else sq.1 7 s) else sq.1 7 s) = _
  rw [if_pos rfl, if_neg (by omega)]
theorem pz_dsS : pz_ds sq (n + 1) = pz_ds sq n + pz_mn (sq.1 7 n) 1 := by unfold pz_ds; rw [pz_suS, pz_iT]
theorem pz_u1u {sc : pz_S} {k : Nat} {u v : Int32} : pz_u1 (pz_u1 sc k u) k v = pz_u1 sc k v := funext fun m => by
  unfold pz_u1; by_cases e : m = k
  · rw [if_pos e, if_pos e]
  · rw [if_neg e, if_neg e, if_neg e]
theorem pz_u1e {sc : pz_S} {k : Nat} : pz_u1 sc k (sc k) = sc := funext fun m => by
  unfold pz_u1; by_cases e : m = k
  · rw [if_pos e, e]
  · rw [if_neg e]
theorem pz_mn1 {u : Int32} (h : 0 ≤ u) : pz_mn u 1 = if u ≤ 0 then 0 else 1 := by
  unfold pz_mn
  rw [Int32.le_iff_toInt_le, show (0 : Int32).toInt = 0 from rfl] at h
  by_cases q : u ≤ 0
  · rw [if_pos q]
    rw [Int32.le_iff_toInt_le, show (0 : Int32).toInt = 0 from rfl] at q
    rw [if_neg (fun z => by rw [Int32.le_iff_toInt_le, show (1 : Int32).toInt = 1 from rfl] at z; omega), ← Int32.toInt_inj, show (0 : Int32).toInt = 0 from rfl]; omega
  · rw [if_neg q]
    rw [Int32.le_iff_toInt_le, show (0 : Int32).toInt = 0 from rfl] at q
    rw [if_pos (by rw [Int32.le_iff_toInt_le, show (1 : Int32).toInt = 1 from rfl]; omega)]
theorem cu_drySquares (h : pz_c sc sq pa ri mp ca dr pe U V w0 w) (hw : pz_iw sq) (k : ∀ w1, pz_c (pz_u1 sc 5 (sc 5 + pz_ds sq 100)) (pz_dy sq 100) pa ri mp ca dr pe U V w0 w1 → K w1 0) : wp_X_drySquares w K X := by
  unfold wp_X_drySquares
  (try simp (disch := omega) only [pz_ce h, pz_k14 h, pz_k60 h, pz_k23 h, pz_k30 h, pz_k31 h, pz_k34 h, pz_k35 h, pz_kl11 h, pz_k11 h, pz_k15 h, pz_k40 h, pz_k41 h, pz_k42 h, pz_k25 h, pz_km0 h, pz_km1 h, pz_km2 h, pz_kc0 h, pz_kc1 h, pz_kc2 h, pz_kc3 h, pz_kc4 h, pz_kc6 h, pz_kc7 h, pz_kl12 h, pz_k12 h, pz_kd0 h, pz_kd1 h, forall_eq, true_and, and_true, true_imp_iff, forall_const, not_true_eq_false, not_false_eq_true, false_imp_iff, implies_true, eq_self, pz_i, pz_s1, pz_p1, pz_jnt, pz_b0, pz_b1, pz_em, pz_nnt, pz_nm1, pz_10, pz_20, pz_30, Classical.not_not])
  refine pz_up (F := fun k s w => lp_X_drySquares_10 K X k (nI 100) (nI s) w) (I := fun s w => pz_c (pz_u1 sc 5 (sc 5 + pz_ds sq s)) (pz_dy sq s) pa ri mp ca dr pe U V w0 w) 100 (fun s w4 k5 hs h4 ih => ?_) (fun w4 h4 => ?_) (by rw [pz_dy0, show sc 5 + pz_ds sq 0 = sc 5 from Int32.add_zero _, pz_u1e]; exact h)
  · rw [lp_X_drySquares_10_s]
    have hm := pz_mn1 (hw s hs).1
    (try simp (disch := omega) only [pz_ce h4, pz_k14 h4, pz_k60 h4, pz_k23 h4, pz_k30 h4, pz_k31 h4, pz_k34 h4, pz_k35 h4, pz_kl11 h4, pz_k11 h4, pz_k15 h4, pz_k40 h4, pz_k41 h4, pz_k42 h4, pz_k25 h4, pz_km0 h4, pz_km1 h4, pz_km2 h4, pz_kc0 h4, pz_kc1 h4, pz_kc2 h4, pz_kc3 h4, pz_kc4 h4, pz_kc6 h4, pz_kc7 h4, pz_kl12 h4, pz_k12 h4, pz_kd0 h4, pz_kd1 h4, forall_eq, true_and, and_true, true_imp_iff, forall_const, not_true_eq_false, not_false_eq_true, false_imp_iff, implies_true, eq_self, pz_i, pz_s1, pz_p1, pz_jnt, pz_b0, pz_b1, pz_em, pz_nnt, pz_nm1, pz_10, pz_20, pz_30, Classical.not_not, pz_le, show ¬ 100 ≤ s by omega, pz_dy7])
    have e5 : pz_u1 sc 5 (sc 5 + pz_ds sq s) 5 = sc 5 + pz_ds sq s := rfl
    refine ⟨fun q => ih w4 ?_, fun q => ?_⟩
    · rw [if_pos q] at hm
      rw [pz_dsS, pz_dyS, hm, Int32.add_zero, Int32.sub_zero, show sq.1 7 s = (pz_dy sq s).1 7 s from pz_dy7.symm, pz_ue]
      exact h4
    · rw [if_neg q] at hm
      have h5 := cs65 h4 (s := s) (v := sq.1 7 s - 1)
      have e7 : (pw_ps w4 6 s 5 (sq.1 7 s - 1)).1 7 0 11 = sc 5 + pz_ds sq s := by rw [pz_psf (by decide)]; exact (pz_csc.of h4).2.2.2.2.2.2.2.2.2.2.2.1
      rw [e7]
      have h6 := cs75 h5 (v := sc 5 + pz_ds sq s + 1)
      rw [pz_u1u] at h6
      refine ih _ ?_
      rw [pz_dsS, pz_dyS, hm, ← Int32.add_assoc]
      exact h6
  · rw [lp_X_drySquares_10_s]
    (try simp (disch := omega) only [pz_ce h4, pz_k14 h4, pz_k60 h4, pz_k23 h4, pz_k30 h4, pz_k31 h4, pz_k34 h4, pz_k35 h4, pz_kl11 h4, pz_k11 h4, pz_k15 h4, pz_k40 h4, pz_k41 h4, pz_k42 h4, pz_k25 h4, pz_km0 h4, pz_km1 h4, pz_km2 h4, pz_kc0 h4, pz_kc1 h4, pz_kc2 h4, pz_kc3 h4, pz_kc4 h4, pz_kc6 h4, pz_kc7 h4, pz_kl12 h4, pz_k12 h4, pz_kd0 h4, pz_kd1 h4, forall_eq, true_and, and_true, true_imp_iff, forall_const, not_true_eq_false, not_false_eq_true, false_imp_iff, implies_true, eq_self, pz_i, pz_s1, pz_p1, pz_jnt, pz_b0, pz_b1, pz_em, pz_nnt, pz_nm1, pz_10, pz_20, pz_30, Classical.not_not, pz_le, Nat.le_refl])
    exact k _ h4
theorem pz_dyw (h : pz_iw sq) : pz_iw (pz_dy sq 100) := fun s hs => by
  show 0 ≤ (if 7 = 7 then (if s < 100 then sq.1 7 s - pz_mn (sq.1 7 s) 1 else sq.1 7 s) else sq.1 7 s) ∧ (if 7 = 7 then (if s < 100 then sq.1 7 s - pz_mn (sq.1 7 s) 1 else sq.1 7 s) else sq.1 7 s) ≤ 100
  rw [if_pos rfl, if_pos hs, pz_mn1 (h s hs).1]
  have hh := h s hs
  by_cases q : sq.1 7 s ≤ 0
  · rw [if_pos q, Int32.sub_zero]; exact hh
  · rw [if_neg q]
    rw [Int32.le_iff_toInt_le, show (0 : Int32).toInt = 0 from rfl] at q
    rw [Int32.le_iff_toInt_le, Int32.le_iff_toInt_le, show (0 : Int32).toInt = 0 from rfl, show (100 : Int32).toInt = 100 from rfl] at hh
    rw [Int32.le_iff_toInt_le, Int32.le_iff_toInt_le, show (0 : Int32).toInt = 0 from rfl, show (100 : Int32).toInt = 100 from rfl, Int32.toInt_sub, show (1 : Int32).toInt = 1 from rfl, Int.bmod_eq_of_le (by omega) (by omega)]
    omega
end PZDY
