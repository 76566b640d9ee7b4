/-! a day: sheep, peat, pay; days -/
section PZDZ
variable {sc : pz_S} {sq : pz_Q} {pa : pz_P} {ri : pz_N} {mp : pz_N} {ca : pz_P} {dr : pz_N} {pe : pz_Q} {U V : Nat} {w0 w w1 w2 : pw_W} {K : pw_W → Int32 → Prop} {X : pw_W → Nat → Prop} {x y z t : Int32} {i s r j n p q a b k k' m d : Nat} {c : Nat} {e v v' : Int32}
def pz_eD (sq : pz_Q) (x : Int32) (s : Nat) : Prop := sq.1 8 s = x ∧ ¬ sq.1 6 s ≤ 0
noncomputable def pz_ea (sq : pz_Q) (x : Int32) (n : Nat) : pz_Q := (fun k s => if k = 6 then pz_ite (s < n ∧ pz_eD sq x s ∧ ¬ pz_ex (pz_eD sq x) s) (sq.1 6 s - 1) (sq.1 6 s) else sq.1 k s, sq.2)
theorem pz_ea6 : (pz_ea sq x n).1 6 s = pz_ite (s < n ∧ pz_eD sq x s ∧ ¬ pz_ex (pz_eD sq x) s) (sq.1 6 s - 1) (sq.1 6 s) := rfl
theorem pz_ea0 : pz_ea sq x 0 = sq := by
  refine Prod.ext (funext fun k => funext fun s => ?_) rfl
  show (if k = 6 then pz_ite (s < 0 ∧ pz_eD sq x s ∧ ¬ pz_ex (pz_eD sq x) s) (sq.1 6 s - 1) (sq.1 6 s) else sq.1 k s) = sq.1 k s
  rw [pz_if' (fun q => absurd q.1 (Nat.not_lt_zero _))]
  by_cases e : k = 6
  · rw [if_pos e, e]
  · rw [if_neg e]
theorem pz_eaS0 (h : ¬ (pz_eD sq x n ∧ ¬ pz_ex (pz_eD sq x) n)) : pz_ea sq x (n + 1) = pz_ea sq x n := by
  refine Prod.ext (funext fun k => funext fun s => ?_) rfl
  show (if k = 6 then pz_ite (s < n + 1 ∧ pz_eD sq x s ∧ ¬ pz_ex (pz_eD sq x) s) (sq.1 6 s - 1) (sq.1 6 s) else sq.1 k s) = (if k = 6 then pz_ite (s < n ∧ pz_eD sq x s ∧ ¬ pz_ex (pz_eD sq x) s) (sq.1 6 s - 1) (sq.1 6 s) else sq.1 k s)
  rw [pz_itc (P := s < n + 1 ∧ pz_eD sq x s ∧ ¬ pz_ex (pz_eD sq x) s) (Q := s < n ∧ pz_eD sq x s ∧ ¬ pz_ex (pz_eD sq x) s) ⟨fun q => ⟨Nat.lt_of_le_of_ne (by omega) (fun e => h (e ▸ q.2)), q.2⟩, fun q => ⟨by omega, q.2⟩⟩]
theorem pz_eaS1 (h : pz_eD sq x n) (h2 : ¬ pz_ex (pz_eD sq x) n) : pz_ea sq x (n + 1) = (pz_u (pz_ea sq x n).1 6 n (sq.1 6 n - 1), (pz_ea sq x n).2) := by
  refine Prod.ext (funext fun k => funext fun s => ?_) rfl
  show (if k = 6 then pz_ite (s < n + 1 ∧ pz_eD sq x s ∧ ¬ pz_ex (pz_eD sq x) s) (sq.1 6 s - 1) (sq.1 6 s) else sq.1 k s) = if k = 6 ∧ s = n then sq.1 6 n - 1 else (if k = 6 then pz_ite (s < n ∧ pz_eD sq x s ∧ ¬ pz_ex (pz_eD sq x) s) (sq.1 6 s - 1) (sq.1 6 s) else sq.1 k s)
  by_cases e : k = 6
  · by_cases e2 : s = n
    · rw [if_pos e, if_pos (show k = 6 ∧ s = n from ⟨e, e2⟩), e2, pz_it ⟨by omega, h, h2⟩]
    · rw [if_pos e, if_neg (show ¬ (k = 6 ∧ s = n) from fun q => e2 q.2), if_pos e]
      exact pz_itc ⟨fun q => ⟨by omega, q.2⟩, fun q => ⟨by omega, q.2⟩⟩
  · rw [if_neg e, if_neg (show ¬ (k = 6 ∧ s = n) from fun q => e q.1), if_neg e]
theorem pz_ea_done (h : pz_ex (pz_eD sq x) m) : ∀ {n : Nat}, m ≤ n → pz_ea sq x n = pz_ea sq x m
  | 0, hn => by rw [show m = 0 by omega]
  | n + 1, hn => by
    by_cases e : m = n + 1
    · rw [e]
    · rw [pz_eaS0 (fun q => q.2 (pz_ex_mono h (by omega) (fun _ _ p => p)))]
      exact pz_ea_done h (n := n) (by omega)
theorem cu_tread (h : pz_c sc sq pa ri mp ca dr pe U V w0 w) (k : ∀ w1, pz_c sc (pz_ea sq x 100) pa ri mp ca dr pe U V w0 w1 → K w1 0) : wp_X_treadLowestSquare w x K X := by
  unfold wp_X_treadLowestSquare
  (try simp (disch := omega) only [pz_ce h, pz_k14 h, pz_k60 h, pz_k23 h, pz_k30 h, pz_k31 h, pz_k34 h, pz_k35 h, pz_kl11 h, pz_k11 h, pz_k15 h, pz_k40 h, pz_k41 h, pz_k42 h, pz_k25 h, pz_km0 h, pz_km1 h, pz_km2 h, pz_kc0 h, pz_kc1 h, pz_kc2 h, pz_kc3 h, pz_kc4 h, pz_kc6 h, pz_kc7 h, pz_kl12 h, pz_k12 h, pz_kd0 h, pz_kd1 h, forall_eq, true_and, and_true, true_imp_iff, forall_const, not_true_eq_false, not_false_eq_true, false_imp_iff, implies_true, eq_self, pz_i, pz_s1, pz_p1, pz_jnt, pz_b0, pz_b1, pz_em, pz_nnt, pz_nm1, pz_10, pz_20, pz_30, Classical.not_not])
  refine pz_up (F := fun k s w => lp_X_treadLowestSquare_11 K X k x (nI 100) (nI s) w) (I := fun s w => pz_c sc (pz_ea sq x s) pa ri mp ca dr pe U V w0 w ∧ ¬ pz_ex (pz_eD sq x) s) 100 (fun s w4 k5 hs hh ih => ?_) (fun w4 hh => ?_) ⟨by rw [pz_ea0]; exact h, by rw [pz_ex0]; exact id⟩
  · obtain ⟨h4, hn⟩ := hh
    rw [lp_X_treadLowestSquare_11_s]
    have e8 : (pz_ea sq x s).1 8 s = sq.1 8 s := rfl
    have e6 : (pz_ea sq x s).1 6 s = sq.1 6 s := by rw [pz_ea6, pz_if' (fun q => by omega)]
    (try simp (disch := omega) only [pz_ce h4, pz_k14 h4, pz_k60 h4, pz_k23 h4, pz_k30 h4, pz_k31 h4, pz_k34 h4, pz_k35 h4, pz_kl11 h4, pz_k11 h4, pz_k15 h4, pz_k40 h4, pz_k41 h4, pz_k42 h4, pz_k25 h4, pz_km0 h4, pz_km1 h4, pz_km2 h4, pz_kc0 h4, pz_kc1 h4, pz_kc2 h4, pz_kc3 h4, pz_kc4 h4, pz_kc6 h4, pz_kc7 h4, pz_kl12 h4, pz_k12 h4, pz_kd0 h4, pz_kd1 h4, forall_eq, true_and, and_true, true_imp_iff, forall_const, not_true_eq_false, not_false_eq_true, false_imp_iff, implies_true, eq_self, pz_i, pz_s1, pz_p1, pz_jnt, pz_b0, pz_b1, pz_em, pz_nnt, pz_nm1, pz_10, pz_20, pz_30, Classical.not_not, pz_le, show ¬ 100 ≤ s by omega, e8, e6])
    have no : ¬ pz_eD sq x s → lp_X_treadLowestSquare_11 K X k5 x (nI 100) (nI (s + 1)) w4 := fun q2 => ih w4 ⟨by rw [pz_eaS0 (fun z => q2 z.1)]; exact h4, fun z => by rw [pz_exS] at z; exact z.elim hn q2⟩
    refine ⟨fun q2 => no fun z => q2 z.1, fun q2 => ⟨fun q3 => no fun z => z.2 q3, fun q3 => k _ ?_⟩⟩
    rw [pz_ea_done (m := s + 1) (by rw [pz_exS]; exact Or.inr ⟨q2, q3⟩) (by omega), pz_eaS1 ⟨q2, q3⟩ hn]
    exact cs64 h4
  · rw [lp_X_treadLowestSquare_11_s]
    obtain ⟨h4, hn⟩ := hh
    (try simp (disch := omega) only [pz_ce h4, pz_k14 h4, pz_k60 h4, pz_k23 h4, pz_k30 h4, pz_k31 h4, pz_k34 h4, pz_k35 h4, pz_kl11 h4, pz_k11 h4, pz_k15 h4, pz_k40 h4, pz_k41 h4, pz_k42 h4, pz_k25 h4, pz_km0 h4, pz_km1 h4, pz_km2 h4, pz_kc0 h4, pz_kc1 h4, pz_kc2 h4, pz_kc3 h4, pz_kc4 h4, pz_kc6 h4, pz_kc7 h4, pz_kl12 h4, pz_k12 h4, pz_kd0 h4, pz_kd1 h4, forall_eq, true_and, and_true, true_imp_iff, forall_const, not_true_eq_false, not_false_eq_true, false_imp_iff, implies_true, eq_self, pz_i, pz_s1, pz_p1, pz_jnt, pz_b0, pz_b1, pz_em, pz_nnt, pz_nm1, pz_10, pz_20, pz_30, Classical.not_not, pz_le, Nat.le_refl])
    exact k _ h4
/-- all parcels' sheep -/
def pz_cr (pa : pz_P) (sq : pz_Q) (p : Nat) : Prop := ¬ pz_ss pa p 12 ≤ 2 * pz_ct (fun s => sq.1 8 s = nI p) 100
noncomputable def pz_tr (sq : pz_Q) (pa : pz_P) (n : Nat) : pz_Q := Nat.rec sq (fun p a => @ite pz_Q (pz_cr pa sq p) (Classical.propDecidable _) (pz_ea a (nI p) 100) a) n
theorem pz_trT (h : pz_cr pa sq n) : pz_tr sq pa (n + 1) = pz_ea (pz_tr sq pa n) (nI n) 100 := if_pos h
theorem pz_trF (h : ¬ pz_cr pa sq n) : pz_tr sq pa (n + 1) = pz_tr sq pa n := if_neg h
theorem pz_trk (hk : ¬ k = 6) : ∀ {n : Nat}, (pz_tr sq pa n).1 k s = sq.1 k s
  | 0 => rfl
  | n + 1 => by
    have ih := pz_trk hk (n := n)
    by_cases q : pz_cr pa sq n
    · rw [pz_trT q, show (pz_ea (pz_tr sq pa n) (nI n) 100).1 k s = (pz_tr sq pa n).1 k s from if_neg hk]; exact ih
    · rw [pz_trF q]; exact ih
theorem pz_tr2 : ∀ {n : Nat}, (pz_tr sq pa n).2 = sq.2
  | 0 => rfl
  | n + 1 => by
    have ih := pz_tr2 (n := n)
    by_cases q : pz_cr pa sq n
    · rw [pz_trT q]; exact ih
    · rw [pz_trF q]; exact ih
theorem pz_trc : pz_ct (fun s => (pz_tr sq pa n).1 8 s = x) 100 = pz_ct (fun s => sq.1 8 s = x) 100 := pz_ct_same fun t _ => by rw [pz_trk (k := 8) (by decide)]
theorem cu_treads (h : pz_c sc sq pa ri mp ca dr pe U V w0 w) (hp : pa.1 ≤ 40) (k : ∀ w1, pz_c sc (pz_tr sq pa pa.1) pa ri mp ca dr pe U V w0 w1 → K w1 0) : wp_X_treadCrowdedParcels w K X := by
  unfold wp_X_treadCrowdedParcels
  refine pz_up (F := fun k s w => lp_X_treadCrowdedParcels_2 K X k (nI s) w) (I := fun s w => pz_c sc (pz_tr sq pa s) pa ri mp ca dr pe U V w0 w) pa.1 (fun s w4 k5 hs h4 ih => ?_) (fun w4 h4 => ?_) h
  · rw [lp_X_treadCrowdedParcels_2_s]
    (try simp (disch := omega) only [pz_ce h4, pz_k14 h4, pz_k60 h4, pz_k23 h4, pz_k30 h4, pz_k31 h4, pz_k34 h4, pz_k35 h4, pz_kl11 h4, pz_k11 h4, pz_k15 h4, pz_k40 h4, pz_k41 h4, pz_k42 h4, pz_k25 h4, pz_km0 h4, pz_km1 h4, pz_km2 h4, pz_kc0 h4, pz_kc1 h4, pz_kc2 h4, pz_kc3 h4, pz_kc4 h4, pz_kc6 h4, pz_kc7 h4, pz_kl12 h4, pz_k12 h4, pz_kd0 h4, pz_kd1 h4, forall_eq, true_and, and_true, true_imp_iff, forall_const, not_true_eq_false, not_false_eq_true, false_imp_iff, implies_true, eq_self, pz_i, pz_s1, pz_p1, pz_jnt, pz_b0, pz_b1, pz_em, pz_nnt, pz_nm1, pz_10, pz_20, pz_30, Classical.not_not, pz_le, show ¬ pa.1 ≤ s by omega])
    rw [cv_room h4 (pz_jn hs (by omega)), pz_trc]
    refine ⟨fun q => ih w4 ?_, fun q => cu_tread h4 fun w5 h5 => ih w5 ?_⟩
    · rw [pz_trF (fun z => z q)]; exact h4
    · rw [pz_trT q]; exact h5
  · rw [lp_X_treadCrowdedParcels_2_s]
    (try simp (disch := omega) only [pz_ce h4, pz_k14 h4, pz_k60 h4, pz_k23 h4, pz_k30 h4, pz_k31 h4, pz_k34 h4, pz_k35 h4, pz_kl11 h4, pz_k11 h4, pz_k15 h4, pz_k40 h4, pz_k41 h4, pz_k42 h4, pz_k25 h4, pz_km0 h4, pz_km1 h4, pz_km2 h4, pz_kc0 h4, pz_kc1 h4, pz_kc2 h4, pz_kc3 h4, pz_kc4 h4, pz_kc6 h4, pz_kc7 h4, pz_kl12 h4, pz_k12 h4, pz_kd0 h4, pz_kd1 h4, forall_eq, true_and, and_true, true_imp_iff, forall_const, not_true_eq_false, not_false_eq_true, false_imp_iff, implies_true, eq_self, pz_i, pz_s1, pz_p1, pz_jnt, pz_b0, pz_b1, pz_em, pz_nnt, pz_nm1, pz_10, pz_20, pz_30, Classical.not_not, pz_le, Nat.le_refl])
    exact k _ h4
/-- peat grows -/
def pz_gD (sc : pz_S) (sq : pz_Q) (s : Nat) : Prop := pz_wt sq s ∧ ¬ pz_wb sc sq 360 s ∧ ¬ 200 ≤ sq.1 6 s
noncomputable def pz_gr (sc : pz_S) (sq : pz_Q) (n : Nat) : pz_Q := (fun k s => if k = 6 then (if s < n then sq.1 6 s + pz_b (pz_gD sc sq s) else sq.1 6 s) else sq.1 k s, sq.2)
theorem pz_gr0 : pz_gr sc sq 0 = sq := by
  refine Prod.ext (funext fun k => funext fun s => ?_) rfl
  show (if k = 6 then (if s < 0 then sq.1 6 s + pz_b (pz_gD sc sq s) else sq.1 6 s) else sq.1 k s) = sq.1 k s
  by_cases e : k = 6
  · rw [if_pos e, if_neg (show ¬ s < 0 by omega), e]
  · rw [if_neg e]
theorem pz_grS : pz_gr sc sq (n + 1) = (pz_u (pz_gr sc sq n).1 6 n (sq.1 6 n + pz_b (pz_gD sc sq n)), (pz_gr sc sq n).2) := by
  refine Prod.ext (funext fun k => funext fun s => ?_) rfl
  show (if k = 6 then (if s < n + 1 then sq.1 6 s + pz_b (pz_gD sc sq s) else sq.1 6 s) else sq.1 k s) = if k = 6 ∧ s = n then sq.1 6 n + pz_b (pz_gD sc sq n) else (if k = 6 then (if s < n then sq.1 6 s + pz_b (pz_gD sc sq s) else sq.1 6 s) else sq.1 k s)
  by_cases e : k = 6
  · by_cases e2 : s = n
    · rw [if_pos e, if_pos (show k = 6 ∧ s = n from ⟨e, e2⟩), if_pos (show s < n + 1 by omega), e2]
    · rw [if_pos e, if_neg (show ¬ (k = 6 ∧ s = n) from fun q => e2 q.2), if_pos e]
      by_cases e3 : s < n
      · rw [if_pos (show s < n + 1 by omega), if_pos e3]
      · rw [if_neg (show ¬ s < n + 1 by omega), if_neg e3]
  · rw [if_neg e, if_neg (show ¬ (k = 6 ∧ s = n) from fun q => e q.1), if_neg e]
theorem pz_gr6 : (pz_gr sc sq s).1 6 s = sq.1 6 s := by
  show (if 6 = 6 then (if s < s then sq.1 6 s + pz_b (pz_gD sc sq s) else sq.1 6 s) else sq.1 6 s) = _
  rw [if_pos rfl, if_neg (by omega)]
/-- pay -/
def pz_pD (sq : pz_Q) (pa : pz_P) (pe : pz_Q) (s : Nat) : Prop := ¬ pa.2.1 16 (pw_i (sq.1 8 s)) = -1 ∧ pe.1 42 (pw_i (pa.2.1 16 (pw_i (sq.1 8 s)))) = 0
noncomputable def pz_py (sc : pz_S) (sq : pz_Q) (pa : pz_P) (pe : pz_Q) (n : Nat) : pz_Q := Nat.rec pe (fun s a => @ite pz_Q (pz_pD sq pa pe s) (Classical.propDecidable _) (pz_u a.1 45 (pw_i (pa.2.1 16 (pw_i (sq.1 8 s)))) (a.1 45 (pw_i (pa.2.1 16 (pw_i (sq.1 8 s)))) + (pz_bi sc sq s + pz_ite (pz_wt sq s) 2 0)), a.2) a) n
theorem pz_pyT (h : pz_pD sq pa pe n) : pz_py sc sq pa pe (n + 1) = (pz_u (pz_py sc sq pa pe n).1 45 (pw_i (pa.2.1 16 (pw_i (sq.1 8 n)))) ((pz_py sc sq pa pe n).1 45 (pw_i (pa.2.1 16 (pw_i (sq.1 8 n)))) + (pz_bi sc sq n + pz_ite (pz_wt sq n) 2 0)), (pz_py sc sq pa pe n).2) := if_pos h
theorem pz_pyF (h : ¬ pz_pD sq pa pe n) : pz_py sc sq pa pe (n + 1) = pz_py sc sq pa pe n := if_neg h
theorem pz_pyk (hk : ¬ k = 45) : ∀ {n : Nat}, (pz_py sc sq pa pe n).1 k s = pe.1 k s
  | 0 => rfl
  | n + 1 => by
    have ih := pz_pyk hk (n := n)
    by_cases q : pz_pD sq pa pe n
    · rw [pz_pyT q, show (pz_u (pz_py sc sq pa pe n).1 45 (pw_i (pa.2.1 16 (pw_i (sq.1 8 n)))) ((pz_py sc sq pa pe n).1 45 (pw_i (pa.2.1 16 (pw_i (sq.1 8 n)))) + (pz_bi sc sq n + pz_ite (pz_wt sq n) 2 0)), (pz_py sc sq pa pe n).2).1 k s = (pz_py sc sq pa pe n).1 k s from pz_uk hk]; exact ih
    · rw [pz_pyF q]; exact ih
theorem pz_py2 : ∀ {n : Nat}, (pz_py sc sq pa pe n).2 = pe.2
  | 0 => rfl
  | n + 1 => by
    have ih := pz_py2 (n := n)
    by_cases q : pz_pD sq pa pe n
    · rw [pz_pyT q]; exact ih
    · rw [pz_pyF q]; exact ih
def pz_jo (pa : pz_P) : Prop := ∀ j, j < pa.1 → pa.2.1 16 j = -1 ∨ pw_jn (pa.2.1 16 j) 12
theorem cu_grow (h : pz_c sc sq pa ri mp ca dr pe U V w0 w) (hb : pz_jb sc sq) (hq : ∀ s, s < 100 → 0 ≤ sq.1 6 s ∧ sq.1 6 s ≤ 200) (k : ∀ w1, pz_c sc (pz_gr sc sq 100) pa ri mp ca dr pe U V w0 w1 → K w1 0) : wp_X_growPeat w K X := by
  unfold wp_X_growPeat
  (try simp (disch := omega) only [pz_ce h, pz_k14 h, pz_k60 h, pz_k23 h, pz_k30 h, pz_k31 h, pz_k34 h, pz_k35 h, pz_kl11 h, pz_k11 h, pz_k15 h, pz_k40 h, pz_k41 h, pz_k42 h, pz_k25 h, pz_km0 h, pz_km1 h, pz_km2 h, pz_kc0 h, pz_kc1 h, pz_kc2 h, pz_kc3 h, pz_kc4 h, pz_kc6 h, pz_kc7 h, pz_kl12 h, pz_k12 h, pz_kd0 h, pz_kd1 h, forall_eq, true_and, and_true, true_imp_iff, forall_const, not_true_eq_false, not_false_eq_true, false_imp_iff, implies_true, eq_self, pz_i, pz_s1, pz_p1, pz_jnt, pz_b0, pz_b1, pz_em, pz_nnt, pz_nm1, pz_10, pz_20, pz_30, Classical.not_not])
  refine pz_up (F := fun k s w => lp_X_growPeat_10 K X k (nI 100) (nI s) w) (I := fun s w => pz_c sc (pz_gr sc sq s) pa ri mp ca dr pe U V w0 w) 100 (fun s w4 k5 hs h4 ih => ?_) (fun w4 h4 => ?_) (by rw [pz_gr0]; exact h)
  · rw [lp_X_growPeat_10_s]
    have e7 : pz_wt (pz_gr sc sq s) s = pz_wt sq s := rfl
    have e9 : pz_wb sc (pz_gr sc sq s) 360 s = pz_wb sc sq 360 s := rfl
    have hb4 : pz_jb sc (pz_gr sc sq s) := hb
    (try simp (disch := omega) only [pz_ce h4, pz_k14 h4, pz_k60 h4, pz_k23 h4, pz_k30 h4, pz_k31 h4, pz_k34 h4, pz_k35 h4, pz_kl11 h4, pz_k11 h4, pz_k15 h4, pz_k40 h4, pz_k41 h4, pz_k42 h4, pz_k25 h4, pz_km0 h4, pz_km1 h4, pz_km2 h4, pz_kc0 h4, pz_kc1 h4, pz_kc2 h4, pz_kc3 h4, pz_kc4 h4, pz_kc6 h4, pz_kc7 h4, pz_kl12 h4, pz_k12 h4, pz_kd0 h4, pz_kd1 h4, forall_eq, true_and, and_true, true_imp_iff, forall_const, not_true_eq_false, not_false_eq_true, false_imp_iff, implies_true, eq_self, pz_i, pz_s1, pz_p1, pz_jnt, pz_b0, pz_b1, pz_em, pz_nnt, pz_nm1, pz_10, pz_20, pz_30, Classical.not_not, pz_le, show ¬ 100 ≤ s by omega, cv_isWet h4, cv_isBurntInLast h4 hb4 hs (show (360 : Int32) ≤ 20000 by decide), e7, e9, pz_gr6])
    have same : ¬ pz_gD sc sq s → lp_X_growPeat_10 K X k5 (nI 100) (nI (s + 1)) w4 := fun q => ih w4 (by
      rw [pz_grS, pz_bf q, Int32.add_zero, show sq.1 6 s = (pz_gr sc sq s).1 6 s from pz_gr6.symm, pz_ue]; exact h4)
    refine ⟨fun q => same fun z => q z.1, fun q => ⟨fun q2 => same fun z => z.2.1 q2, fun q2 => ih _ ?_⟩⟩
    have hh := hq s hs
    have ev : (if sq.1 6 s + 1 < 200 then sq.1 6 s + 1 else 200) = sq.1 6 s + pz_b (pz_gD sc sq s) := by
      rw [Int32.le_iff_toInt_le, Int32.le_iff_toInt_le, show (0 : Int32).toInt = 0 from rfl, show (200 : Int32).toInt = 200 from rfl] at hh
      have e1 : (sq.1 6 s + 1).toInt = (sq.1 6 s).toInt + 1 := by
        rw [Int32.toInt_add, show (1 : Int32).toInt = 1 from rfl]; exact Int.bmod_eq_of_le (by omega) (by omega)
      by_cases q3 : 200 ≤ sq.1 6 s
      · rw [pz_bf (fun z => z.2.2 q3), Int32.add_zero]
        rw [Int32.le_iff_toInt_le, show (200 : Int32).toInt = 200 from rfl] at q3
        rw [if_neg (by rw [Int32.lt_iff_toInt_lt, e1, show (200 : Int32).toInt = 200 from rfl]; omega), ← Int32.toInt_inj, show (200 : Int32).toInt = 200 from rfl]; omega
      · rw [pz_bt ⟨q, q2, q3⟩]
        rw [Int32.le_iff_toInt_le, show (200 : Int32).toInt = 200 from rfl] at q3
        by_cases q4 : sq.1 6 s + 1 < 200
        · rw [if_pos q4]
        · rw [if_neg q4]
          rw [Int32.lt_iff_toInt_lt, e1, show (200 : Int32).toInt = 200 from rfl] at q4
          rw [← Int32.toInt_inj, e1, show (200 : Int32).toInt = 200 from rfl]; omega
    rw [ev, pz_grS]
    exact cs64 h4
  · rw [lp_X_growPeat_10_s]
    (try simp (disch := omega) only [pz_ce h4, pz_k14 h4, pz_k60 h4, pz_k23 h4, pz_k30 h4, pz_k31 h4, pz_k34 h4, pz_k35 h4, pz_kl11 h4, pz_k11 h4, pz_k15 h4, pz_k40 h4, pz_k41 h4, pz_k42 h4, pz_k25 h4, pz_km0 h4, pz_km1 h4, pz_km2 h4, pz_kc0 h4, pz_kc1 h4, pz_kc2 h4, pz_kc3 h4, pz_kc4 h4, pz_kc6 h4, pz_kc7 h4, pz_kl12 h4, pz_k12 h4, pz_kd0 h4, pz_kd1 h4, forall_eq, true_and, and_true, true_imp_iff, forall_const, not_true_eq_false, not_false_eq_true, false_imp_iff, implies_true, eq_self, pz_i, pz_s1, pz_p1, pz_jnt, pz_b0, pz_b1, pz_em, pz_nnt, pz_nm1, pz_10, pz_20, pz_30, Classical.not_not, pz_le, Nat.le_refl])
    exact k _ h4
theorem cu_pay (h : pz_c sc sq pa ri mp ca dr pe U V w0 w) (hb : pz_jb sc sq) (h8 : pz_j8 sq pa) (ho : pz_jo pa) (k : ∀ w1, pz_c sc sq pa ri mp ca dr (pz_py sc sq pa pe 100) U V w0 w1 → K w1 0) : wp_X_payPersons w K X := by
  unfold wp_X_payPersons
  (try simp (disch := omega) only [pz_ce h, pz_k14 h, pz_k60 h, pz_k23 h, pz_k30 h, pz_k31 h, pz_k34 h, pz_k35 h, pz_kl11 h, pz_k11 h, pz_k15 h, pz_k40 h, pz_k41 h, pz_k42 h, pz_k25 h, pz_km0 h, pz_km1 h, pz_km2 h, pz_kc0 h, pz_kc1 h, pz_kc2 h, pz_kc3 h, pz_kc4 h, pz_kc6 h, pz_kc7 h, pz_kl12 h, pz_k12 h, pz_kd0 h, pz_kd1 h, forall_eq, true_and, and_true, true_imp_iff, forall_const, not_true_eq_false, not_false_eq_true, false_imp_iff, implies_true, eq_self, pz_i, pz_s1, pz_p1, pz_jnt, pz_b0, pz_b1, pz_em, pz_nnt, pz_nm1, pz_10, pz_20, pz_30, Classical.not_not])
  refine pz_up (F := fun k s w => lp_X_payPersons_10 K X k (nI 100) (nI s) w) (I := fun s w => pz_c sc sq pa ri mp ca dr (pz_py sc sq pa pe s) U V w0 w) 100 (fun s w4 k5 hs h4 ih => ?_) (fun w4 h4 => ?_) h
  · rw [lp_X_payPersons_10_s]
    unfold jp_X_payPersons_68
    have j80 := (h8 s hs).1
    (try simp (disch := omega) only [pz_ce h4, pz_k14 h4, pz_k60 h4, pz_k23 h4, pz_k30 h4, pz_k31 h4, pz_k34 h4, pz_k35 h4, pz_kl11 h4, pz_k11 h4, pz_k15 h4, pz_k40 h4, pz_k41 h4, pz_k42 h4, pz_k25 h4, pz_km0 h4, pz_km1 h4, pz_km2 h4, pz_kc0 h4, pz_kc1 h4, pz_kc2 h4, pz_kc3 h4, pz_kc4 h4, pz_kc6 h4, pz_kc7 h4, pz_kl12 h4, pz_k12 h4, pz_kd0 h4, pz_kd1 h4, forall_eq, true_and, and_true, true_imp_iff, forall_const, not_true_eq_false, not_false_eq_true, false_imp_iff, implies_true, eq_self, pz_i, pz_s1, pz_p1, pz_jnt, pz_b0, pz_b1, pz_em, pz_nnt, pz_nm1, pz_10, pz_20, pz_30, Classical.not_not, pz_le, show ¬ 100 ≤ s by omega, cv_isWet h4, cv_countBirds h4 hb, j80])
    refine ⟨fun q => ih w4 (by rw [pz_pyF (fun z => z.1 q)]; exact h4), fun q => ?_⟩
    have jo := (ho _ (h8 s hs).2).resolve_left q
    have jo0 := jo.1
    rw [pz_k42 h4 _ jo.2, pz_pyk (k := 42) (by decide)]
    (try simp (disch := omega) only [pz_ce h4, pz_k14 h4, pz_k60 h4, pz_k23 h4, pz_k30 h4, pz_k31 h4, pz_k34 h4, pz_k35 h4, pz_kl11 h4, pz_k11 h4, pz_k15 h4, pz_k40 h4, pz_k41 h4, pz_k42 h4, pz_k25 h4, pz_km0 h4, pz_km1 h4, pz_km2 h4, pz_kc0 h4, pz_kc1 h4, pz_kc2 h4, pz_kc3 h4, pz_kc4 h4, pz_kc6 h4, pz_kc7 h4, pz_kl12 h4, pz_k12 h4, pz_kd0 h4, pz_kd1 h4, forall_eq, true_and, and_true, true_imp_iff, forall_const, not_true_eq_false, not_false_eq_true, false_imp_iff, implies_true, eq_self, pz_i, pz_s1, pz_p1, pz_jnt, pz_b0, pz_b1, pz_em, pz_nnt, pz_nm1, pz_10, pz_20, pz_30, Classical.not_not, jo0])
    refine ⟨fun q2 => ih w4 (by rw [pz_pyF (fun z => q2 z.2)]; exact h4), fun q2 => ?_⟩
    refine ⟨fun q3 => ih _ ?_, fun q3 => ih _ ?_⟩
    · rw [pz_pyT ⟨q, q2⟩, pz_if' q3]; exact cs43 h4
    · rw [pz_pyT ⟨q, q2⟩, pz_it q3]; exact cs43 h4
  · rw [lp_X_payPersons_10_s]
    (try simp (disch := omega) only [pz_ce h4, pz_k14 h4, pz_k60 h4, pz_k23 h4, pz_k30 h4, pz_k31 h4, pz_k34 h4, pz_k35 h4, pz_kl11 h4, pz_k11 h4, pz_k15 h4, pz_k40 h4, pz_k41 h4, pz_k42 h4, pz_k25 h4, pz_km0 h4, pz_km1 h4, pz_km2 h4, pz_kc0 h4, pz_kc1 h4, pz_kc2 h4, pz_kc3 h4, pz_kc4 h4, pz_kc6 h4, pz_kc7 h4, pz_kl12 h4, pz_k12 h4, pz_kd0 h4, pz_kd1 h4, forall_eq, true_and, and_true, true_imp_iff, forall_const, not_true_eq_false, not_false_eq_true, false_imp_iff, implies_true, eq_self, pz_i, pz_s1, pz_p1, pz_jnt, pz_b0, pz_b1, pz_em, pz_nnt, pz_nm1, pz_10, pz_20, pz_30, Classical.not_not, pz_le, Nat.le_refl])
    exact k _ h4
end PZDZ
