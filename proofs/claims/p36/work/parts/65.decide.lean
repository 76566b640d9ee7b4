/-! decide -/
section PZDE
variable {sc : pz_S} {sq : pz_Q} {pa : pz_P} {ri : pz_N} {mp : pz_N} {ca : pz_P} {dr : pz_N} {pe : pz_Q} {U V : Nat} {w0 w w1 w2 : pw_W} {K : pw_W → Int32 → Prop} {X : pw_W → Nat → Prop} {x y z t : Int32} {i s r j n p q a b k k' m : Nat} {c : Nat} {e v v' : Int32} {f g o : Nat → Int32}
/-- a square that a case gives back to another parcel -/
def pz_rD (sq : pz_Q) (pa : pz_P) (c s : Nat) : Prop := sq.1 12 s = nI c ∧ ¬ sq.1 8 s = pz_ro pa (sq.1 13 s)
noncomputable def pz_rf (sq : pz_Q) (pa : pz_P) (c s : Nat) : Int32 := pz_ite (sq.1 12 s = nI c) (pz_ro pa (sq.1 13 s)) (sq.1 8 s)
noncomputable def pz_rg (sq : pz_Q) (c s : Nat) : Int32 := pz_ite (sq.1 12 s = nI c) (-1) (sq.1 12 s)
noncomputable def pz_rq (sq : pz_Q) (pa : pz_P) (c : Nat) : pz_Q := pz_mv sq (pz_rf sq pa c) (pz_rg sq c) (sq.1 13) 100
def pz_rca (ca : pz_P) (c : Nat) : pz_P := (ca.1, pz_u (pz_u ca.2.1 32 c 2) 34 c (ca.2.1 33 c), ca.2.2)
theorem pz_ilr (h : pz_il sq pa ca) (hp : pz_ip pa) (hc : c < 16) : pz_il (pz_rq sq pa c) pa (pz_rca ca c) := by
  obtain ⟨h1, h2, h3, h4⟩ := h
  have hne : ¬ nI c = -1 := by rw [pz_nm1 (by omega)]; exact id
  have e12 : ∀ s, s < 100 → (pz_rq sq pa c).1 12 s = pz_rg sq c s := fun s hs => by unfold pz_rq; rw [pz_mv12, if_pos hs]
  have e13 : ∀ s, (pz_rq sq pa c).1 13 s = sq.1 13 s := fun s => by unfold pz_rq; rw [pz_mv13]; split <;> rfl
  refine ⟨fun s hs => ?_, fun s hs => ?_, fun s hs hq => ?_, fun s hs => ?_⟩
  · unfold pz_rq
    rw [pz_mv8, if_pos hs]
    unfold pz_rf
    by_cases q : sq.1 12 s = nI c
    · rw [pz_it q]; exact (hp.2.1.is hp.1.2 _ (h3 s hs (by rw [q]; exact hne)).2).1
    · rw [pz_if' q]; exact h1 s hs
  · rw [e12 s hs]
    unfold pz_rg
    by_cases q : sq.1 12 s = nI c
    · rw [pz_it q]; exact Or.inl rfl
    · rw [pz_if' q]; exact h2 s hs
  · rw [e12 s hs] at hq
    rw [e13]
    unfold pz_rg at hq
    by_cases q : sq.1 12 s = nI c
    · rw [pz_it q] at hq; exact absurd rfl hq
    · rw [pz_if' q] at hq; exact h3 s hs hq
  · obtain ⟨l, a1, a2, a3, a4⟩ := h4 s hs
    rw [e12 s hs]
    unfold pz_rq pz_rg
    rw [pz_mv14]
    by_cases q : sq.1 12 s = nI c
    · rw [pz_it q]
      have b := a4 (by rw [q]; exact hne)
      by_cases q2 : s < 100 ∧ ¬ sq.1 8 s = pz_rf sq pa c s
      · rw [pz_it q2]
        exact ⟨l + 1, by rw [a1, pz_s1], by omega, fun _ => by omega, fun z => absurd rfl z⟩
      · rw [pz_if' q2]
        exact ⟨l, a1, a2, fun _ => by omega, fun z => absurd rfl z⟩
    · rw [pz_if' q, pz_if' (fun z => z.2 (by unfold pz_rf; rw [pz_if' q]))]
      exact ⟨l, a1, a2, a3, a4⟩
theorem pz_icr (h : pz_ic ca) (hc : c < ca.1) : pz_ic (pz_rca ca c) := by
  refine ⟨h.1, h.2.1, h.2.2.1, fun m hm => ?_⟩
  have hm : ca.1 ≤ m := hm
  obtain ⟨a1, a2, a3, a4⟩ := h.2.2.2 m hm
  refine ⟨?_, a2, a3, a4⟩
  show (pz_u (pz_u ca.2.1 32 c 2) 34 c (ca.2.1 33 c)) 32 m = 0
  rw [pz_un (by omega), pz_un (by omega)]; exact a1
theorem pz_rstep (q : sq.1 12 n = nI c) : pz_cm (pz_u (pz_mv sq (pz_rf sq pa c) (pz_rg sq c) (sq.1 13) n).1 12 n (-1), (pz_mv sq (pz_rf sq pa c) (pz_rg sq c) (sq.1 13) n).2) n (pz_ro pa (sq.1 13 n)) = pz_mv sq (pz_rf sq pa c) (pz_rg sq c) (sq.1 13) (n + 1) := by
  have e := pz_mvS (sq := sq) (f := pz_rf sq pa c) (g := pz_rg sq c) (o := sq.1 13) (n := n)
  rw [show pz_rf sq pa c n = pz_ro pa (sq.1 13 n) by unfold pz_rf; rw [pz_it q], show pz_rg sq c n = -1 by unfold pz_rg; rw [pz_it q]] at e
  rw [← e]
  congr 1
  refine Prod.ext ?_ rfl
  show pz_u (pz_mv sq (pz_rf sq pa c) (pz_rg sq c) (sq.1 13) n).1 12 n (-1) = pz_u (pz_u (pz_mv sq (pz_rf sq pa c) (pz_rg sq c) (sq.1 13) n).1 12 n (-1)) 13 n (sq.1 13 n)
  rw [pz_uc (by decide), show sq.1 13 n = (pz_mv sq (pz_rf sq pa c) (pz_rg sq c) (sq.1 13) n).1 13 n by rw [pz_mvx (by omega)], pz_ue]
theorem pz_rskip (q : ¬ sq.1 12 n = nI c) : pz_mv sq (pz_rf sq pa c) (pz_rg sq c) (sq.1 13) (n + 1) = pz_mv sq (pz_rf sq pa c) (pz_rg sq c) (sq.1 13) n :=
  pz_mvS0 (by unfold pz_rg; rw [pz_if' q]) rfl (by unfold pz_rf; rw [pz_if' q])
theorem cu_refuses (h : pz_c sc sq pa ri mp ca dr pe U V w0 w) (hl : pz_il sq pa ca) (hp : pz_ip pa) (hc : c < ca.1) (hc16 : ca.1 ≤ 16) (hU : U ≤ 200000) (hV : V ≤ 4000000) (hr : ri.1 ≤ 80)
    (k : ∀ w1, pz_c sc (pz_rq sq pa c) pa ri mp (pz_rca ca c) dr pe U V w0 w1 → K w1 (pz_ct (pz_rD sq pa c) 100)) : wp_X_refuseCase w (w.1 20 0 c) K X := by
  unfold wp_X_refuseCase
  have hne : ¬ nI c = -1 := by rw [pz_nm1 (by omega)]; exact id
  have g0 := (pz_k20 h c hc).1
  have h1 := cs03 h hc (v := 2) (by decide)
  obtain ⟨cr, ecr⟩ : ∃ cr, cr = w.1 20 0 c := ⟨_, rfl⟩
  have ecr1 : (pw_ps w 0 (pw_i (w.1 20 0 c)) 3 2).1 20 0 c = cr := ecr.symm
  rw [← ecr] at g0 ⊢
  rw [← ecr] at h1 ecr1
  (try simp (disch := omega) only [pz_ce h1, pz_k14 h1, pz_k60 h1, pz_k23 h1, pz_k30 h1, pz_k31 h1, pz_k34 h1, pz_k35 h1, pz_kl11 h1, pz_k11 h1, pz_k15 h1, pz_k40 h1, pz_k41 h1, pz_k42 h1, pz_k25 h1, pz_km0 h1, pz_km1 h1, pz_km2 h1, pz_kc0 h1, pz_kc1 h1, pz_kc2 h1, pz_kc3 h1, pz_kc4 h1, pz_kc6 h1, pz_kc7 h1, pz_kl12 h1, pz_k12 h1, pz_kd0 h1, pz_kd1 h1, forall_eq, true_and, and_true, true_imp_iff, forall_const, not_true_eq_false, not_false_eq_true, false_imp_iff, implies_true, eq_self, pz_i, pz_s1, pz_p1, pz_jnt, pz_b0, pz_b1, pz_em, pz_nnt, pz_nm1, pz_10, pz_20, pz_30, Classical.not_not, g0])
  refine pz_up (F := fun k s w => lp_X_refuseCase_19 K X k cr (pz_ct (pz_rD sq pa c) s) (nI 100) (nI s) w) (I := fun s w => pz_c sc (pz_mv sq (pz_rf sq pa c) (pz_rg sq c) (sq.1 13) s) pa ri mp (ca.1, pz_u ca.2.1 32 c 2, ca.2.2) dr pe U V w0 w ∧ w.1 20 0 c = cr) 100 (fun s w4 k5 hs hh ih => ?_) (fun w4 hh => ?_) ⟨by rw [pz_mv0]; exact h1, ecr1⟩
  · obtain ⟨h4, hcr⟩ := hh
    rw [lp_X_refuseCase_19_s]
    unfold wp_Square_goBack jp_Square_goBack_21
    have e12 : (pz_mv sq (pz_rf sq pa c) (pz_rg sq c) (sq.1 13) s).1 12 s = sq.1 12 s := pz_mvx (by omega)
    have e13 : (pz_mv sq (pz_rf sq pa c) (pz_rg sq c) (sq.1 13) s).1 13 s = sq.1 13 s := pz_mvx (by omega)
    have e14 : (pz_mv sq (pz_rf sq pa c) (pz_rg sq c) (sq.1 13) s).1 14 s = sq.1 14 s := pz_mvx (by omega)
    have e8 : (pz_mv sq (pz_rf sq pa c) (pz_rg sq c) (sq.1 13) s).1 8 s = sq.1 8 s := pz_mvx (by omega)
    have e69 := pz_k69 h4 s hs
    have e610 := pz_k610 h4 s hs
    rw [e12] at e69 e610
    rw [e13] at e610
    have hq12 := hl.2.1 s hs
    have egv : (pz_gv w4 (sq.1 12 s) = cr) = (sq.1 12 s = nI c) := by rw [← hcr]; exact pz_gv2 h4 hq12 hc hc16
    (try simp (disch := omega) only [pz_ce h4, pz_k14 h4, pz_k60 h4, pz_k23 h4, pz_k30 h4, pz_k31 h4, pz_k34 h4, pz_k35 h4, pz_kl11 h4, pz_k11 h4, pz_k15 h4, pz_k40 h4, pz_k41 h4, pz_k42 h4, pz_k25 h4, pz_km0 h4, pz_km1 h4, pz_km2 h4, pz_kc0 h4, pz_kc1 h4, pz_kc2 h4, pz_kc3 h4, pz_kc4 h4, pz_kc6 h4, pz_kc7 h4, pz_kl12 h4, pz_k12 h4, pz_kd0 h4, pz_kd1 h4, forall_eq, true_and, and_true, true_imp_iff, forall_const, not_true_eq_false, not_false_eq_true, false_imp_iff, implies_true, eq_self, pz_i, pz_s1, pz_p1, pz_jnt, pz_b0, pz_b1, pz_em, pz_nnt, pz_nm1, pz_10, pz_20, pz_30, Classical.not_not, pz_le, show ¬ 100 ≤ s by omega, e69, egv])
    refine ⟨fun q => ?_, fun q => ?_⟩
    · have ih := ih w4 ⟨by rw [pz_rskip q]; exact h4, hcr⟩
      rw [pz_ctS, pz_bf (fun z => q z.1), Int32.add_zero] at ih
      exact ih
    · have hn12 : ¬ sq.1 12 s = -1 := by rw [q]; exact hne
      rw [pz_if' hn12] at e610
      have j13 := hl.2.2.1 s hs hn12
      have j130 := j13.1
      have hn13 : ¬ sq.1 13 s = -1 := fun z => by rw [z] at j130; exact absurd j130 (by decide)
      simp only [e610, hn13, false_imp_iff, and_true, not_false_eq_true, true_imp_iff]
      refine ⟨j130, ?_⟩
      rw [cv_current h4 hp.2.1 j13]
      have hro := (hp.2.1.is hp.1.2 _ j13.2).1
      obtain ⟨w5, e5⟩ : ∃ w5, w5 = pw_ps (pw_ps w4 6 s 9 (-1)) 6 s 10 (-1) := ⟨_, rfl⟩
      rw [← e5]
      have h5 : pz_c sc (pz_u (pz_mv sq (pz_rf sq pa c) (pz_rg sq c) (sq.1 13) s).1 12 s (-1), (pz_mv sq (pz_rf sq pa c) (pz_rg sq c) (sq.1 13) s).2) pa ri mp (ca.1, pz_u ca.2.1 32 c 2, ca.2.2) dr pe U V w0 w5 := by
        have h6 := cs69 h4 (s := s) (a := -1) (b := -1) (x := -1) (y := sq.1 13 s) (by unfold pz_gv; rw [pz_it rfl]) (by rw [pz_it rfl]) (fun c' hc' z => by rw [eq_comm, pz_nm1 (by have : c' < ca.1 := hc'; omega)] at z; exact z.elim)
        rw [pz_uc (by decide), show sq.1 13 s = (pz_mv sq (pz_rf sq pa c) (pz_rg sq c) (sq.1 13) s).1 13 s from e13.symm, pz_ue] at h6
        rw [e5]; exact h6
      have hcr5 : w5.1 20 0 c = cr := by rw [e5]; exact hcr
      have e61 : w5.1 6 s 1 = sq.1 8 s := ((pz_csq.of h5).2.2.2.1 s).trans e8
      rw [e61]
      refine ⟨fun q2 => ?_, fun q2 => ?_⟩
      · obtain ⟨l, el, l1, l2⟩ := hl.gb hp.1.2 hs
        have hL5 : pz_L (pz_u (pz_mv sq (pz_rf sq pa c) (pz_rg sq c) (sq.1 13) s).1 12 s (-1), (pz_mv sq (pz_rf sq pa c) (pz_rg sq c) (sq.1 13) s).2) ≤ 12000 := pz_Lb fun s' hs' => by
          show pw_i ((pz_mv sq (pz_rf sq pa c) (pz_rg sq c) (sq.1 13) s).1 14 s') ≤ 120
          obtain ⟨l, el, l1, l2⟩ := hl.gb hp.1.2 hs'
          rw [pz_mv14]
          by_cases q : s' < s ∧ ¬ sq.1 8 s' = pz_rf sq pa c s'
          · rw [pz_it q, el, pz_s1, pz_i (by omega)]; omega
          · rw [pz_if' q, el, pz_i (by omega)]; omega
        refine cu_moveTo2 h5 hp.1.2 hs hro (by show pw_jn ((pz_mv sq (pz_rf sq pa c) (pz_rg sq c) (sq.1 13) s).1 8 s) pa.1; rw [e8]; exact hl.1 s hs) (by show ¬ (pz_mv sq (pz_rf sq pa c) (pz_rg sq c) (sq.1 13) s).1 8 s = _; rw [e8]; exact fun z => q2 z.symm) (e14.trans el) l1 (by omega) hU hV hL5 hr fun w6 h6 e20 => ?_
        rw [pz_rstep q] at h6
        have ih := ih w6 ⟨h6, by rw [e20]; exact hcr5⟩
        rw [pz_ctS, pz_bt ⟨q, fun z => q2 z.symm⟩] at ih
        (try simp (disch := omega) only [forall_eq, true_and, and_true, true_imp_iff, forall_const, not_true_eq_false, not_false_eq_true, false_imp_iff, implies_true, eq_self, pz_i, pz_s1, pz_p1, pz_jnt, pz_b0, pz_b1, pz_em, pz_nnt, pz_nm1, pz_10, pz_20, pz_30, Classical.not_not])
        exact ih
      · have ecm : pz_cm (pz_u (pz_mv sq (pz_rf sq pa c) (pz_rg sq c) (sq.1 13) s).1 12 s (-1), (pz_mv sq (pz_rf sq pa c) (pz_rg sq c) (sq.1 13) s).2) s (pz_ro pa (sq.1 13 s)) = (pz_u (pz_mv sq (pz_rf sq pa c) (pz_rg sq c) (sq.1 13) s).1 12 s (-1), (pz_mv sq (pz_rf sq pa c) (pz_rg sq c) (sq.1 13) s).2) := by
          unfold pz_cm
          exact if_pos (show (pz_mv sq (pz_rf sq pa c) (pz_rg sq c) (sq.1 13) s).1 8 s = pz_ro pa (sq.1 13 s) by rw [e8]; exact q2.symm)
        rw [← ecm, pz_rstep q] at h5
        have ih := ih w5 ⟨h5, hcr5⟩
        rw [pz_ctS, pz_bf (fun z => z.2 q2.symm), Int32.add_zero] at ih
        (try simp (disch := omega) only [forall_eq, true_and, and_true, true_imp_iff, forall_const, not_true_eq_false, not_false_eq_true, false_imp_iff, implies_true, eq_self, pz_i, pz_s1, pz_p1, pz_jnt, pz_b0, pz_b1, pz_em, pz_nnt, pz_nm1, pz_10, pz_20, pz_30, Classical.not_not])
        exact ih
  · obtain ⟨h4, hcr⟩ := hh
    rw [lp_X_refuseCase_19_s]
    (try simp (disch := omega) only [pz_ce h4, pz_k14 h4, pz_k60 h4, pz_k23 h4, pz_k30 h4, pz_k31 h4, pz_k34 h4, pz_k35 h4, pz_kl11 h4, pz_k11 h4, pz_k15 h4, pz_k40 h4, pz_k41 h4, pz_k42 h4, pz_k25 h4, pz_km0 h4, pz_km1 h4, pz_km2 h4, pz_kc0 h4, pz_kc1 h4, pz_kc2 h4, pz_kc3 h4, pz_kc4 h4, pz_kc6 h4, pz_kc7 h4, pz_kl12 h4, pz_k12 h4, pz_kd0 h4, pz_kd1 h4, forall_eq, true_and, and_true, true_imp_iff, forall_const, not_true_eq_false, not_false_eq_true, false_imp_iff, implies_true, eq_self, pz_i, pz_s1, pz_p1, pz_jnt, pz_b0, pz_b1, pz_em, pz_nnt, pz_nm1, pz_10, pz_20, pz_30, Classical.not_not, pz_le, Nat.le_refl])
    refine k _ (cs34 h4 (fun s hs => ?_) ?_)
    · show ¬ (pz_rq sq pa c).1 12 s = nI c
      unfold pz_rq
      rw [pz_mv12, if_pos hs]
      unfold pz_rg
      by_cases q : sq.1 12 s = nI c
      · rw [pz_it q]; exact fun z => hne z.symm
      · rw [pz_if' q]; exact q
    · show ¬ (pz_u ca.2.1 32 c 2) 32 c = 1
      rw [pz_us]; decide
end PZDE
