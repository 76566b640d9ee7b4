/-! what a death ends -/
section PZDE2
variable {sc : pz_S} {sq : pz_Q} {pa : pz_P} {ri : pz_N} {mp : pz_N} {ca : pz_P} {dr : pz_N} {pe : pz_Q} {U V : Nat} {w0 w w1 w2 : pw_W} {K : pw_W → Int32 → Prop} {X : pw_W → Nat → Prop} {x y z t : Int32} {i s r j n p q k k' m c d xi f f0 : Nat} {B P : Nat → Prop} {H v : Nat → Int32} {L : List Nat} {F : pz_F} {a3 e : Int32}
noncomputable def pz_cf (F : pz_F) (f0 : Nat) (P : Nat → Prop) (v : Nat → Int32) (n : Nat) : pz_F := fun f j => pz_ite (f = f0 ∧ j < n ∧ P j) (v j) (F f j)
theorem pz_cf0 : pz_cf F f0 P v 0 = F := funext fun f => funext fun j => pz_if' fun z => by have := z.2.1; omega
theorem pz_cfn (h : n ≤ j) : pz_cf F f0 P v n f j = F f j := pz_if' fun z => by have := z.2.1; omega
theorem pz_cfn' : pz_cf F f0 P v n f n = F f n := pz_cfn (Nat.le_refl _)
theorem pz_cfo (h : ¬ f = f0) : pz_cf F f0 P v n f j = F f j := pz_if' fun z => h z.1
theorem pz_cfS (h1 : P n → e = v n) (h2 : ¬ P n → e = F f0 n) : pz_u (pz_cf F f0 P v n) f0 n e = pz_cf F f0 P v (n + 1) := by
  funext f j
  show (if f = f0 ∧ j = n then e else pz_ite (f = f0 ∧ j < n ∧ P j) (v j) (F f j)) = pz_ite (f = f0 ∧ j < n + 1 ∧ P j) (v j) (F f j)
  by_cases q : f = f0 ∧ j = n
  · rw [if_pos q, q.1, q.2]
    by_cases q2 : P n
    · rw [pz_it ⟨rfl, by omega, q2⟩]; exact h1 q2
    · rw [pz_if' (fun z => q2 z.2.2)]; exact h2 q2
  · rw [if_neg q]
    have e2 : (f = f0 ∧ j < n + 1 ∧ P j) = (f = f0 ∧ j < n ∧ P j) := propext ⟨fun z => ⟨z.1, by
      rcases Nat.lt_succ_iff_lt_or_eq.mp z.2.1 with t | t
      · exact t
      · exact absurd ⟨z.1, t⟩ q, z.2.2⟩, fun z => ⟨z.1, by omega, z.2.2⟩⟩
    rw [e2]
theorem pz_cfF (h : ¬ P n) : pz_cf F f0 P v (n + 1) = pz_cf F f0 P v n := by
  funext f j
  show pz_ite (f = f0 ∧ j < n + 1 ∧ P j) _ _ = pz_ite (f = f0 ∧ j < n ∧ P j) _ _
  have e : (f = f0 ∧ j < n + 1 ∧ P j) = (f = f0 ∧ j < n ∧ P j) := propext ⟨fun z => ⟨z.1, by
    rcases Nat.lt_succ_iff_lt_or_eq.mp z.2.1 with t | t
    · exact t
    · exact absurd (t ▸ z.2.2) h, z.2.2⟩, fun z => ⟨z.1, by omega, z.2.2⟩⟩
  rw [e]
noncomputable def pz_er (ri : pz_N) (x : Int32) (n : Nat) : pz_N := (ri.1, pz_cf ri.2 25 (fun r => ri.2 22 r = x) (fun _ => 1) n)
noncomputable def pz_eu (sq : pz_Q) (x : Int32) (n : Nat) : pz_Q := (pz_cf sq.1 10 (fun s => sq.1 10 s = x) (fun _ => -1) n, sq.2)
noncomputable def pz_es (pa : pz_P) (xi n : Nat) : pz_P := (pa.1, pa.2.1, fun j q => pz_ite (q = xi ∧ j < n) 0 (pa.2.2 j q))
theorem pz_er0 : pz_er ri x 0 = ri := by unfold pz_er; rw [pz_cf0]
theorem pz_eu0 : pz_eu sq x 0 = sq := by unfold pz_eu; rw [pz_cf0]
theorem pz_es0 : pz_es pa xi 0 = pa := by
  unfold pz_es
  exact Prod.ext rfl (Prod.ext rfl (funext fun j => funext fun q => pz_if' fun z => absurd z.2 (Nat.not_lt_zero _)))
theorem pz_esS : ((pz_es pa xi n).1, (pz_es pa xi n).2.1, pz_u (pz_es pa xi n).2.2 n xi 0) = pz_es pa xi (n + 1) := by
  refine Prod.ext rfl (Prod.ext rfl (funext fun j => funext fun q => ?_))
  show (if j = n ∧ q = xi then 0 else pz_ite (q = xi ∧ j < n) 0 (pa.2.2 j q)) = pz_ite (q = xi ∧ j < n + 1) 0 (pa.2.2 j q)
  by_cases q1 : j = n ∧ q = xi
  · rw [if_pos q1, pz_it ⟨q1.2, by omega⟩]
  · rw [if_neg q1]
    by_cases q2 : q = xi ∧ j < n
    · rw [pz_it q2, pz_it ⟨q2.1, by omega⟩]
    · rw [pz_if' q2, pz_if' (fun z => by
        rcases Nat.lt_succ_iff_lt_or_eq.mp z.2 with t | t
        · exact q2 ⟨z.1, t⟩
        · exact q1 ⟨t, z.1⟩)]
/-- cases -/
noncomputable def pz_rc (pa : pz_P) (sq : pz_Q) (ca : pz_P) (x : Int32) (n : Nat) : pz_Q × pz_P := Nat.rec (sq, ca) (fun c a => @ite _ (a.2.2.1 31 c = x ∧ a.2.2.1 32 c = 0) (Classical.propDecidable _) (pz_rq a.1 pa c, pz_rca a.2 c) a) n
theorem pz_rcT (h : (pz_rc pa sq ca x n).2.2.1 31 n = x ∧ (pz_rc pa sq ca x n).2.2.1 32 n = 0) : pz_rc pa sq ca x (n + 1) = (pz_rq (pz_rc pa sq ca x n).1 pa n, pz_rca (pz_rc pa sq ca x n).2 n) := if_pos h
theorem pz_rcF (h : ¬ ((pz_rc pa sq ca x n).2.2.1 31 n = x ∧ (pz_rc pa sq ca x n).2.2.1 32 n = 0)) : pz_rc pa sq ca x (n + 1) = pz_rc pa sq ca x n := if_neg h
theorem pz_rcI (hp : pz_ip pa) (hl : pz_il sq pa ca) (hc : pz_ic ca) (hq : pz_iq sc sq) : ∀ n, n ≤ ca.1 → (pz_rc pa sq ca x n).2.1 = ca.1 ∧ pz_il (pz_rc pa sq ca x n).1 pa (pz_rc pa sq ca x n).2 ∧ pz_ic (pz_rc pa sq ca x n).2 ∧ pz_iq sc (pz_rc pa sq ca x n).1 := by
  intro n
  induction n with
  | zero => intro _; exact ⟨rfl, hl, hc, hq⟩
  | succ n ih =>
    intro hn
    obtain ⟨a1, a2, a3, a4⟩ := ih (by omega)
    by_cases q : (pz_rc pa sq ca x n).2.2.1 31 n = x ∧ (pz_rc pa sq ca x n).2.2.1 32 n = 0
    · rw [pz_rcT q]
      have := hc.1
      exact ⟨a1, pz_ilr a2 hp (by omega), pz_icr a3 (by omega), pz_iqm a4⟩
    · rw [pz_rcF q]; exact ⟨a1, a2, a3, a4⟩
theorem cu_refuseOpen (h : pz_c sc sq pa ri mp ca dr pe U V w0 w) (hp : pz_ip pa) (hl : pz_il sq pa ca) (hc : pz_ic ca) (hq : pz_iq sc sq) (hU : U ≤ 200000) (hV : V ≤ 4000000) (hr : ri.1 ≤ 80)
    (k : ∀ w1, pz_c sc (pz_rc pa sq ca x ca.1).1 pa ri mp (pz_rc pa sq ca x ca.1).2 dr pe U V w0 w1 → K w1 0) : wp_X_refuseOpenCasesOf w x K X := by
  unfold wp_X_refuseOpenCasesOf
  have hi := pz_rcI (x := x) hp hl hc hq
  have hc16 := hc.1
  refine pz_up (F := fun k s w => lp_X_refuseOpenCasesOf_2 K X k x (nI s) w) (I := fun s w => pz_c sc (pz_rc pa sq ca x s).1 pa ri mp (pz_rc pa sq ca x s).2 dr pe U V w0 w) ca.1 (fun s w4 k5 hs h4 ih => ?_) (fun w4 h4 => ?_) h
  · rw [lp_X_refuseOpenCasesOf_2_s]
    obtain ⟨a1, a2, a3', a4⟩ := hi s (by omega)
    have hs' : s < (pz_rc pa sq ca x s).2.1 := by omega
    have hj : pw_jn (nI s) ca.1 := pz_jn (by omega) (by omega)
    have g0 := (pz_k20 h4 s hs').1
    have g1 := pz_kc0 h4 s hs'
    have g2 := pz_kc3 h4 s hs'
    by_cases q1 : (pz_rc pa sq ca x s).2.2.1 31 s = x
    · by_cases q2 : (pz_rc pa sq ca x s).2.2.1 32 s = 0
      · (try simp (disch := omega) only [pz_ce h4, pz_k14 h4, pz_k60 h4, pz_k23 h4, pz_k30 h4, pz_k31 h4, pz_k34 h4, pz_k35 h4, pz_kl11 h4, pz_k11 h4, pz_k15 h4, pz_k40 h4, pz_k41 h4, pz_k42 h4, pz_k25 h4, pz_km0 h4, pz_km1 h4, pz_km2 h4, pz_kc0 h4, pz_kc1 h4, pz_kc2 h4, pz_kc3 h4, pz_kc4 h4, pz_kc6 h4, pz_kc7 h4, pz_kl12 h4, pz_k12 h4, pz_kd0 h4, pz_kd1 h4, forall_eq, true_and, and_true, true_imp_iff, forall_const, not_true_eq_false, not_false_eq_true, false_imp_iff, implies_true, eq_self, pz_i, pz_s1, pz_p1, pz_jnt, pz_b0, pz_b1, pz_em, pz_nnt, pz_nm1, pz_10, pz_20, pz_30, Classical.not_not, a1, pz_le, show ¬ ca.1 ≤ s by omega, hj, g0, g1, g2, q1, q2])
        refine cu_refuses h4 a2 hp (by omega) (by omega) hU hV hr (fun w5 h5 => ih w5 ?_)
        rw [pz_rcT ⟨q1, q2⟩]; exact h5
      · have h6 := ih w4 (by rw [pz_rcF (fun z => q2 z.2)]; exact h4)
        (try simp (disch := omega) only [pz_ce h4, pz_k14 h4, pz_k60 h4, pz_k23 h4, pz_k30 h4, pz_k31 h4, pz_k34 h4, pz_k35 h4, pz_kl11 h4, pz_k11 h4, pz_k15 h4, pz_k40 h4, pz_k41 h4, pz_k42 h4, pz_k25 h4, pz_km0 h4, pz_km1 h4, pz_km2 h4, pz_kc0 h4, pz_kc1 h4, pz_kc2 h4, pz_kc3 h4, pz_kc4 h4, pz_kc6 h4, pz_kc7 h4, pz_kl12 h4, pz_k12 h4, pz_kd0 h4, pz_kd1 h4, forall_eq, true_and, and_true, true_imp_iff, forall_const, not_true_eq_false, not_false_eq_true, false_imp_iff, implies_true, eq_self, pz_i, pz_s1, pz_p1, pz_jnt, pz_b0, pz_b1, pz_em, pz_nnt, pz_nm1, pz_10, pz_20, pz_30, Classical.not_not, a1, pz_le, show ¬ ca.1 ≤ s by omega, hj, g0, g1, g2, q1, q2])
        exact h6
    · have h6 := ih w4 (by rw [pz_rcF (fun z => q1 z.1)]; exact h4)
      (try simp (disch := omega) only [pz_ce h4, pz_k14 h4, pz_k60 h4, pz_k23 h4, pz_k30 h4, pz_k31 h4, pz_k34 h4, pz_k35 h4, pz_kl11 h4, pz_k11 h4, pz_k15 h4, pz_k40 h4, pz_k41 h4, pz_k42 h4, pz_k25 h4, pz_km0 h4, pz_km1 h4, pz_km2 h4, pz_kc0 h4, pz_kc1 h4, pz_kc2 h4, pz_kc3 h4, pz_kc4 h4, pz_kc6 h4, pz_kc7 h4, pz_kl12 h4, pz_k12 h4, pz_kd0 h4, pz_kd1 h4, forall_eq, true_and, and_true, true_imp_iff, forall_const, not_true_eq_false, not_false_eq_true, false_imp_iff, implies_true, eq_self, pz_i, pz_s1, pz_p1, pz_jnt, pz_b0, pz_b1, pz_em, pz_nnt, pz_nm1, pz_10, pz_20, pz_30, Classical.not_not, a1, pz_le, show ¬ ca.1 ≤ s by omega, hj, g0, g1, q1])
      exact h6
  · rw [lp_X_refuseOpenCasesOf_2_s]
    obtain ⟨a1, a2, a3', a4⟩ := hi ca.1 (Nat.le_refl _)
    (try simp (disch := omega) only [pz_ce h4, pz_k14 h4, pz_k60 h4, pz_k23 h4, pz_k30 h4, pz_k31 h4, pz_k34 h4, pz_k35 h4, pz_kl11 h4, pz_k11 h4, pz_k15 h4, pz_k40 h4, pz_k41 h4, pz_k42 h4, pz_k25 h4, pz_km0 h4, pz_km1 h4, pz_km2 h4, pz_kc0 h4, pz_kc1 h4, pz_kc2 h4, pz_kc3 h4, pz_kc4 h4, pz_kc6 h4, pz_kc7 h4, pz_kl12 h4, pz_k12 h4, pz_kd0 h4, pz_kd1 h4, forall_eq, true_and, and_true, true_imp_iff, forall_const, not_true_eq_false, not_false_eq_true, false_imp_iff, implies_true, eq_self, pz_i, pz_s1, pz_p1, pz_jnt, pz_b0, pz_b1, pz_em, pz_nnt, pz_nm1, pz_10, pz_20, pz_30, Classical.not_not, a1, pz_le, Nat.le_refl])
    exact k _ h4
theorem cu_endUses (h : pz_c sc sq pa ri mp ca dr pe U V w0 w) (k : ∀ w1, pz_c sc (pz_eu sq x 100) pa ri mp ca dr pe U V w0 w1 → K w1 0) : wp_X_endUsesOf w x K X := by
  unfold wp_X_endUsesOf
  (try simp (disch := omega) only [pz_ce h, pz_k14 h, pz_k60 h, pz_k23 h, pz_k30 h, pz_k31 h, pz_k34 h, pz_k35 h, pz_kl11 h, pz_k11 h, pz_k15 h, pz_k40 h, pz_k41 h, pz_k42 h, pz_k25 h, pz_km0 h, pz_km1 h, pz_km2 h, pz_kc0 h, pz_kc1 h, pz_kc2 h, pz_kc3 h, pz_kc4 h, pz_kc6 h, pz_kc7 h, pz_kl12 h, pz_k12 h, pz_kd0 h, pz_kd1 h, forall_eq, true_and, and_true, true_imp_iff, forall_const, not_true_eq_false, not_false_eq_true, false_imp_iff, implies_true, eq_self, pz_i, pz_s1, pz_p1, pz_jnt, pz_b0, pz_b1, pz_em, pz_nnt, pz_nm1, pz_10, pz_20, pz_30, Classical.not_not])
  refine pz_up (F := fun k s w => lp_X_endUsesOf_11 K X k x (nI 100) (nI s) w) (I := fun s w => pz_c sc (pz_eu sq x s) pa ri mp ca dr pe U V w0 w) 100 (fun s w4 k5 hs h4 ih => ?_) (fun w4 h4 => ?_) (by rw [pz_eu0]; exact h)
  · rw [lp_X_endUsesOf_11_s]
    have a1 : (pz_eu sq x s).1 10 s = sq.1 10 s := pz_cfn' (F := sq.1) (f0 := 10) (P := fun s => sq.1 10 s = x) (v := fun _ => -1) (n := s) (f := 10)
    have hj : pw_jn (nI s) 100 := pz_jn hs (by omega)
    have e14 := pz_k14 h4 s hs
    by_cases q : sq.1 10 s = x
    · have h6 := ih (pw_ps w4 6 s 7 (-1)) (by
        have h5 := cs67 h4 (s := s) (v := -1)
        rw [show pz_u (pz_eu sq x s).1 10 s (-1) = (pz_eu sq x (s + 1)).1 from pz_cfS (v := fun _ => -1) (fun _ => rfl) (fun z => absurd q z)] at h5
        exact h5)
      (try simp (disch := omega) only [pz_ce h4, pz_k14 h4, pz_k60 h4, pz_k23 h4, pz_k30 h4, pz_k31 h4, pz_k34 h4, pz_k35 h4, pz_kl11 h4, pz_k11 h4, pz_k15 h4, pz_k40 h4, pz_k41 h4, pz_k42 h4, pz_k25 h4, pz_km0 h4, pz_km1 h4, pz_km2 h4, pz_kc0 h4, pz_kc1 h4, pz_kc2 h4, pz_kc3 h4, pz_kc4 h4, pz_kc6 h4, pz_kc7 h4, pz_kl12 h4, pz_k12 h4, pz_kd0 h4, pz_kd1 h4, forall_eq, true_and, and_true, true_imp_iff, forall_const, not_true_eq_false, not_false_eq_true, false_imp_iff, implies_true, eq_self, pz_i, pz_s1, pz_p1, pz_jnt, pz_b0, pz_b1, pz_em, pz_nnt, pz_nm1, pz_10, pz_20, pz_30, Classical.not_not, a1, e14, pz_le, show ¬ 100 ≤ s by omega, hj, q])
      exact h6
    · have h6 := ih w4 (by
        have : pz_eu sq x (s + 1) = pz_eu sq x s := by unfold pz_eu; rw [pz_cfF q]
        rw [this]; exact h4)
      (try simp (disch := omega) only [pz_ce h4, pz_k14 h4, pz_k60 h4, pz_k23 h4, pz_k30 h4, pz_k31 h4, pz_k34 h4, pz_k35 h4, pz_kl11 h4, pz_k11 h4, pz_k15 h4, pz_k40 h4, pz_k41 h4, pz_k42 h4, pz_k25 h4, pz_km0 h4, pz_km1 h4, pz_km2 h4, pz_kc0 h4, pz_kc1 h4, pz_kc2 h4, pz_kc3 h4, pz_kc4 h4, pz_kc6 h4, pz_kc7 h4, pz_kl12 h4, pz_k12 h4, pz_kd0 h4, pz_kd1 h4, forall_eq, true_and, and_true, true_imp_iff, forall_const, not_true_eq_false, not_false_eq_true, false_imp_iff, implies_true, eq_self, pz_i, pz_s1, pz_p1, pz_jnt, pz_b0, pz_b1, pz_em, pz_nnt, pz_nm1, pz_10, pz_20, pz_30, Classical.not_not, a1, e14, pz_le, show ¬ 100 ≤ s by omega, hj, q])
      exact h6
  · rw [lp_X_endUsesOf_11_s]
    (try simp (disch := omega) only [pz_ce h4, pz_k14 h4, pz_k60 h4, pz_k23 h4, pz_k30 h4, pz_k31 h4, pz_k34 h4, pz_k35 h4, pz_kl11 h4, pz_k11 h4, pz_k15 h4, pz_k40 h4, pz_k41 h4, pz_k42 h4, pz_k25 h4, pz_km0 h4, pz_km1 h4, pz_km2 h4, pz_kc0 h4, pz_kc1 h4, pz_kc2 h4, pz_kc3 h4, pz_kc4 h4, pz_kc6 h4, pz_kc7 h4, pz_kl12 h4, pz_k12 h4, pz_kd0 h4, pz_kd1 h4, forall_eq, true_and, and_true, true_imp_iff, forall_const, not_true_eq_false, not_false_eq_true, false_imp_iff, implies_true, eq_self, pz_i, pz_s1, pz_p1, pz_jnt, pz_b0, pz_b1, pz_em, pz_nnt, pz_nm1, pz_10, pz_20, pz_30, Classical.not_not, pz_le, Nat.le_refl])
    exact k _ h4
theorem cu_endRights (h : pz_c sc sq pa ri mp ca dr pe U V w0 w) (hr : ri.1 ≤ 80) (k : ∀ w1, pz_c sc sq pa (pz_er ri x ri.1) mp ca dr pe U V w0 w1 → K w1 0) : wp_X_endRightsOf w x K X := by
  unfold wp_X_endRightsOf
  refine pz_up (F := fun k s w => lp_X_endRightsOf_2 K X k x (nI s) w) (I := fun s w => pz_c sc sq pa (pz_er ri x s) mp ca dr pe U V w0 w) ri.1 (fun s w4 k5 hs h4 ih => ?_) (fun w4 h4 => ?_) (by rw [pz_er0]; exact h)
  · rw [lp_X_endRightsOf_2_s]
    have a0 : (pz_er ri x s).1 = ri.1 := rfl
    have a1 : ∀ f, (pz_er ri x s).2 f s = ri.2 f s := fun f => pz_cfn' (F := ri.2) (f0 := 25) (P := fun r => ri.2 22 r = x) (v := fun _ => 1) (n := s) (f := f)
    have hj : pw_jn (nI s) ri.1 := pz_jn hs (by omega)
    have e25 := pz_k25 h4 s hs
    by_cases q : ri.2 22 s = x
    · have h6 := ih (pw_ps w4 5 s 5 1) (by
        have h5 := cs55 h4 (r := s) (v := 1)
        rw [show pz_u (pz_er ri x s).2 25 s 1 = (pz_er ri x (s + 1)).2 from pz_cfS (v := fun _ => 1) (fun _ => rfl) (fun z => absurd q z)] at h5
        exact h5)
      (try simp (disch := omega) only [pz_ce h4, pz_k14 h4, pz_k60 h4, pz_k23 h4, pz_k30 h4, pz_k31 h4, pz_k34 h4, pz_k35 h4, pz_kl11 h4, pz_k11 h4, pz_k15 h4, pz_k40 h4, pz_k41 h4, pz_k42 h4, pz_k25 h4, pz_km0 h4, pz_km1 h4, pz_km2 h4, pz_kc0 h4, pz_kc1 h4, pz_kc2 h4, pz_kc3 h4, pz_kc4 h4, pz_kc6 h4, pz_kc7 h4, pz_kl12 h4, pz_k12 h4, pz_kd0 h4, pz_kd1 h4, forall_eq, true_and, and_true, true_imp_iff, forall_const, not_true_eq_false, not_false_eq_true, false_imp_iff, implies_true, eq_self, pz_i, pz_s1, pz_p1, pz_jnt, pz_b0, pz_b1, pz_em, pz_nnt, pz_nm1, pz_10, pz_20, pz_30, Classical.not_not, a0, a1, e25, pz_le, show ¬ ri.1 ≤ s by omega, hj, q])
      exact h6
    · have h6 := ih w4 (by
        have : pz_er ri x (s + 1) = pz_er ri x s := by unfold pz_er; rw [pz_cfF q]
        rw [this]; exact h4)
      (try simp (disch := omega) only [pz_ce h4, pz_k14 h4, pz_k60 h4, pz_k23 h4, pz_k30 h4, pz_k31 h4, pz_k34 h4, pz_k35 h4, pz_kl11 h4, pz_k11 h4, pz_k15 h4, pz_k40 h4, pz_k41 h4, pz_k42 h4, pz_k25 h4, pz_km0 h4, pz_km1 h4, pz_km2 h4, pz_kc0 h4, pz_kc1 h4, pz_kc2 h4, pz_kc3 h4, pz_kc4 h4, pz_kc6 h4, pz_kc7 h4, pz_kl12 h4, pz_k12 h4, pz_kd0 h4, pz_kd1 h4, forall_eq, true_and, and_true, true_imp_iff, forall_const, not_true_eq_false, not_false_eq_true, false_imp_iff, implies_true, eq_self, pz_i, pz_s1, pz_p1, pz_jnt, pz_b0, pz_b1, pz_em, pz_nnt, pz_nm1, pz_10, pz_20, pz_30, Classical.not_not, a0, a1, e25, pz_le, show ¬ ri.1 ≤ s by omega, hj, q])
      exact h6
  · rw [lp_X_endRightsOf_2_s]
    have a0 : (pz_er ri x ri.1).1 = ri.1 := rfl
    (try simp (disch := omega) only [pz_ce h4, pz_k14 h4, pz_k60 h4, pz_k23 h4, pz_k30 h4, pz_k31 h4, pz_k34 h4, pz_k35 h4, pz_kl11 h4, pz_k11 h4, pz_k15 h4, pz_k40 h4, pz_k41 h4, pz_k42 h4, pz_k25 h4, pz_km0 h4, pz_km1 h4, pz_km2 h4, pz_kc0 h4, pz_kc1 h4, pz_kc2 h4, pz_kc3 h4, pz_kc4 h4, pz_kc6 h4, pz_kc7 h4, pz_kl12 h4, pz_k12 h4, pz_kd0 h4, pz_kd1 h4, forall_eq, true_and, and_true, true_imp_iff, forall_const, not_true_eq_false, not_false_eq_true, false_imp_iff, implies_true, eq_self, pz_i, pz_s1, pz_p1, pz_jnt, pz_b0, pz_b1, pz_em, pz_nnt, pz_nm1, pz_10, pz_20, pz_30, Classical.not_not, a0, pz_le, Nat.le_refl])
    exact k _ h4
theorem cu_endSheep (h : pz_c sc sq pa ri mp ca dr pe U V w0 w) (hx : xi < 12) (hp : pa.1 ≤ 40) (k : ∀ w1, pz_c sc sq (pz_es pa xi pa.1) ri mp ca dr pe U V w0 w1 → K w1 0) : wp_X_endSheepOf w (nI xi) K X := by
  unfold wp_X_endSheepOf
  refine pz_up (F := fun k s w => lp_X_endSheepOf_2 K X k (nI xi) (nI s) w) (I := fun s w => pz_c sc sq (pz_es pa xi s) ri mp ca dr pe U V w0 w) pa.1 (fun s w4 k5 hs h4 ih => ?_) (fun w4 h4 => ?_) (by rw [pz_es0]; exact h)
  · rw [lp_X_endSheepOf_2_s]
    have a0 : (pz_es pa xi s).1 = pa.1 := rfl
    have hj : pw_jn (nI s) pa.1 := pz_jn hs (by omega)
    have e23 := pz_k23 h4 s hs
    have e40 := pz_k40 h4 xi hx
    (try simp (disch := omega) only [pz_ce h4, pz_k14 h4, pz_k60 h4, pz_k23 h4, pz_k30 h4, pz_k31 h4, pz_k34 h4, pz_k35 h4, pz_kl11 h4, pz_k11 h4, pz_k15 h4, pz_k40 h4, pz_k41 h4, pz_k42 h4, pz_k25 h4, pz_km0 h4, pz_km1 h4, pz_km2 h4, pz_kc0 h4, pz_kc1 h4, pz_kc2 h4, pz_kc3 h4, pz_kc4 h4, pz_kc6 h4, pz_kc7 h4, pz_kl12 h4, pz_k12 h4, pz_kd0 h4, pz_kd1 h4, forall_eq, true_and, and_true, true_imp_iff, forall_const, not_true_eq_false, not_false_eq_true, false_imp_iff, implies_true, eq_self, pz_i, pz_s1, pz_p1, pz_jnt, pz_b0, pz_b1, pz_em, pz_nnt, pz_nm1, pz_10, pz_20, pz_30, Classical.not_not, a0, e23, e40, pz_le, show ¬ pa.1 ≤ s by omega, hj])
    refine cu_setSheep h4 hj hp hx (fun w5 h5 => ih w5 ?_)
    rw [pz_i (by omega), pz_esS] at h5
    exact h5
  · rw [lp_X_endSheepOf_2_s]
    have a0 : (pz_es pa xi pa.1).1 = pa.1 := rfl
    (try simp (disch := omega) only [pz_ce h4, pz_k14 h4, pz_k60 h4, pz_k23 h4, pz_k30 h4, pz_k31 h4, pz_k34 h4, pz_k35 h4, pz_kl11 h4, pz_k11 h4, pz_k15 h4, pz_k40 h4, pz_k41 h4, pz_k42 h4, pz_k25 h4, pz_km0 h4, pz_km1 h4, pz_km2 h4, pz_kc0 h4, pz_kc1 h4, pz_kc2 h4, pz_kc3 h4, pz_kc4 h4, pz_kc6 h4, pz_kc7 h4, pz_kl12 h4, pz_k12 h4, pz_kd0 h4, pz_kd1 h4, forall_eq, true_and, and_true, true_imp_iff, forall_const, not_true_eq_false, not_false_eq_true, false_imp_iff, implies_true, eq_self, pz_i, pz_s1, pz_p1, pz_jnt, pz_b0, pz_b1, pz_em, pz_nnt, pz_nm1, pz_10, pz_20, pz_30, Classical.not_not, a0, pz_le, Nat.le_refl])
    exact k _ h4
end PZDE2
