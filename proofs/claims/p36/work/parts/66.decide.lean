/-! decide: squares that are given -/
section PZDT
variable {sc : pz_S} {sq : pz_Q} {pa : pz_P} {ri : pz_N} {mp : pz_N} {ca : pz_P} {dr : pz_N} {pe : pz_Q} {U V : Nat} {w0 w w1 w2 : pw_W} {K : pw_W → Int32 → Prop} {X : pw_W → Nat → Prop} {x y z t : Int32} {i s r j n p q a b k k' m : Nat} {c : Nat} {e v v' : Int32} {f g o : Nat → Int32}
noncomputable def pz_tf (sq : pz_Q) (pa ca : pz_P) (c s : Nat) : Int32 := pz_ite (pz_gt sq pa ca c s) (nI pa.1) (sq.1 8 s)
noncomputable def pz_tg (sq : pz_Q) (pa ca : pz_P) (c s : Nat) : Int32 := pz_ite (pz_gt sq pa ca c s) (nI c) (sq.1 12 s)
noncomputable def pz_to (sq : pz_Q) (pa ca : pz_P) (c s : Nat) : Int32 := pz_ite (pz_gt sq pa ca c s) (sq.1 8 s) (sq.1 13 s)
noncomputable def pz_tq (sq : pz_Q) (pa ca : pz_P) (c n : Nat) : pz_Q := pz_mv sq (pz_tf sq pa ca c) (pz_tg sq pa ca c) (pz_to sq pa ca c) n
def pz_gca (ca : pz_P) (c : Nat) : pz_P := (ca.1, pz_u (pz_u ca.2.1 32 c 1) 34 c (ca.2.1 33 c), ca.2.2)
theorem pz_tskip (h : ¬ pz_gt sq pa ca c n) : pz_tq sq pa ca c (n + 1) = pz_tq sq pa ca c n :=
  pz_mvS0 (by unfold pz_tg; rw [pz_if' h]) (by unfold pz_to; rw [pz_if' h]) (by unfold pz_tf; rw [pz_if' h])
theorem pz_tnone (h : ¬ pz_ex (pz_gt sq pa ca c) 100) : ∀ n, n ≤ 100 → pz_tq sq pa ca c n = sq := by
  intro n
  induction n with
  | zero => intro _; exact pz_mv0
  | succ n ih => intro hn; rw [pz_tskip (fun q => h ⟨n, by omega, q⟩)]; exact ih (by omega)
theorem pz_tstep (h : pz_gt sq pa ca c n) : pz_cm (pz_u (pz_u (pz_tq sq pa ca c n).1 12 n (nI c)) 13 n (sq.1 8 n), (pz_tq sq pa ca c n).2) n (nI pa.1) = pz_tq sq pa ca c (n + 1) := by
  have e := pz_mvS (sq := sq) (f := pz_tf sq pa ca c) (g := pz_tg sq pa ca c) (o := pz_to sq pa ca c) (n := n)
  rw [show pz_tf sq pa ca c n = nI pa.1 by unfold pz_tf; rw [pz_it h], show pz_tg sq pa ca c n = nI c by unfold pz_tg; rw [pz_it h], show pz_to sq pa ca c n = sq.1 8 n by unfold pz_to; rw [pz_it h]] at e
  exact e
theorem pz_gca34 (hm : ¬ m = c) : (pz_gca ca c).2.1 34 m = ca.2.1 34 m := by
  show (pz_u (pz_u ca.2.1 32 c 1) 34 c (ca.2.1 33 c)) 34 m = _
  rw [pz_un hm, pz_uk (by decide)]
/-- what is given is the same while it is given -/
theorem pz_gtk (h8 : pw_jn (sq.1 8 n) pa.1) (h12 : sq.1 12 n = -1 ∨ pw_jn (sq.1 12 n) ca.1) (hc16 : ca.1 ≤ 16) : pz_gt (pz_tq sq pa ca c n) (pz_mk pa x) (pz_gca ca c) c n = pz_gt sq pa ca c n := by
  have e12 : (pz_tq sq pa ca c n).1 12 n = sq.1 12 n := pz_mvx (by omega)
  have e8 : (pz_tq sq pa ca c n).1 8 n = sq.1 8 n := pz_mvx (by omega)
  have e16 : (pz_mk pa x).2.1 16 (pw_i (sq.1 8 n)) = pa.2.1 16 (pw_i (sq.1 8 n)) := by
    have := h8.2
    unfold pz_mk; dsimp only; rw [pz_un (by omega), pz_un (by omega), pz_un (by omega)]
  unfold pz_gt
  rw [e12, e8, e16]
  have e3 : (sq.1 12 n = -1 ∨ sq.1 12 n = nI c ∨ (pz_gca ca c).2.1 34 (pw_i (sq.1 12 n)) ≤ (pz_gca ca c).2.1 33 c) = (sq.1 12 n = -1 ∨ sq.1 12 n = nI c ∨ ca.2.1 34 (pw_i (sq.1 12 n)) ≤ ca.2.1 33 c) := by
    by_cases q : sq.1 12 n = -1
    · simp [q]
    · by_cases q2 : sq.1 12 n = nI c
      · simp [q2]
      · have := h12.resolve_left q
        rw [pz_gca34 (fun z => q2 (by rw [← z, pw_nIi this.1]))]
        rfl
  rw [e3]
  rfl
theorem pz_gtk0 (h12 : sq.1 12 n = -1 ∨ pw_jn (sq.1 12 n) ca.1) : pz_gt sq pa (pz_gca ca c) c n = pz_gt sq pa ca c n := by
  unfold pz_gt
  have e3 : (sq.1 12 n = -1 ∨ sq.1 12 n = nI c ∨ (pz_gca ca c).2.1 34 (pw_i (sq.1 12 n)) ≤ (pz_gca ca c).2.1 33 c) = (sq.1 12 n = -1 ∨ sq.1 12 n = nI c ∨ ca.2.1 34 (pw_i (sq.1 12 n)) ≤ ca.2.1 33 c) := by
    by_cases q : sq.1 12 n = -1
    · simp [q]
    · by_cases q2 : sq.1 12 n = nI c
      · simp [q2]
      · have := h12.resolve_left q
        rw [pz_gca34 (fun z => q2 (by rw [← z, pw_nIi this.1]))]
        rfl
  rw [e3]
  rfl
theorem pz_tq8 (h : pz_il sq pa ca) (hp : pa.1 < 40) (hs : s < 100) : pw_jn ((pz_tq sq pa ca c n).1 8 s) (pa.1 + 1) := by
  unfold pz_tq
  rw [pz_mv8]
  by_cases q : s < n
  · rw [if_pos q]
    unfold pz_tf
    by_cases q2 : pz_gt sq pa ca c s
    · rw [pz_it q2]; exact pz_jn (by omega) (by omega)
    · rw [pz_if' q2]; exact pz_jw (h.1 s hs) (by omega)
  · rw [if_neg q]; exact pz_jw (h.1 s hs) (by omega)
theorem pz_tq12 (h : pz_il sq pa ca) (hc : c < ca.1) (hc16 : ca.1 ≤ 16) (hs : s < 100) : (pz_tq sq pa ca c n).1 12 s = -1 ∨ pw_jn ((pz_tq sq pa ca c n).1 12 s) ca.1 := by
  unfold pz_tq
  rw [pz_mv12]
  by_cases q : s < n
  · rw [if_pos q]
    unfold pz_tg
    by_cases q2 : pz_gt sq pa ca c s
    · rw [pz_it q2]; exact Or.inr (pz_jn hc (by omega))
    · rw [pz_if' q2]; exact h.2.1 s hs
  · rw [if_neg q]; exact h.2.1 s hs
theorem pz_tqL (h : pz_il sq pa ca) (hp : pa.1 ≤ 40) : pz_L (pz_tq sq pa ca c n) ≤ 12000 := pz_Lb fun s hs => by
  obtain ⟨l, el, l1, l2⟩ := h.gb hp hs
  unfold pz_tq
  rw [pz_mv14]
  by_cases q : s < n ∧ ¬ sq.1 8 s = pz_tf sq pa ca c s
  · rw [pz_it q, el, pz_s1, pz_i (by omega)]; omega
  · rw [pz_if' q, el, pz_i (by omega)]; omega
theorem pz_ilt (h : pz_il sq pa ca) (hp : pz_ip pa) (hp4 : pa.1 < 40) (hc : c < ca.1) (hc16 : ca.1 ≤ 16) : pz_il (pz_tq sq pa ca c 100) (pz_mk pa x) (pz_gca ca c) := by
  have hne : ¬ nI c = -1 := by rw [pz_nm1 (by omega)]; exact id
  refine ⟨fun s hs => pz_tq8 h hp4 hs, fun s hs => pz_tq12 h hc hc16 hs, fun s hs hq => ?_, fun s hs => ?_⟩
  · show pw_jn _ (pa.1 + 1)
    unfold pz_tq at *
    rw [pz_mv12, if_pos hs] at hq
    rw [pz_mv13, if_pos hs]
    unfold pz_to
    unfold pz_tg at hq
    by_cases q2 : pz_gt sq pa ca c s
    · rw [pz_it q2]; exact pz_jw (h.1 s hs) (by omega)
    · rw [pz_if' q2]; rw [pz_if' q2] at hq; exact pz_jw (h.2.2.1 s hs hq) (by omega)
  · obtain ⟨l, a1, a2, a3, a4⟩ := h.2.2.2 s hs
    rw [pz_mg_mk]
    show ∃ l, _ ∧ _ ∧ (_ → l + 1 ≤ 2 * (pa.1 + 1) + _) ∧ (_ → l + 2 ≤ 2 * (pa.1 + 1) + _)
    have hb : l + 1 ≤ 2 * pa.1 + pz_mg pa := by
      by_cases q : sq.1 12 s = -1
      · exact a3 q
      · have := a4 q; omega
    unfold pz_tq
    rw [pz_mv14]
    by_cases q : s < 100 ∧ ¬ sq.1 8 s = pz_tf sq pa ca c s
    · rw [pz_it q]; exact ⟨l + 1, by rw [a1, pz_s1], by omega, fun _ => by omega, fun _ => by omega⟩
    · rw [pz_if' q]; exact ⟨l, a1, a2, fun _ => by omega, fun _ => by omega⟩
noncomputable def pz_dsq (sq : pz_Q) (pa ca : pz_P) (c : Nat) : pz_Q := @ite pz_Q (pz_wi ca c) (Classical.propDecidable _) (pz_tq sq pa ca c 100) (pz_rq sq pa c)
noncomputable def pz_dpa (sq : pz_Q) (pa ca : pz_P) (c : Nat) : pz_P := @ite pz_P (pz_wi ca c ∧ pz_ex (pz_gt sq pa ca c) 100) (Classical.propDecidable _) (pz_mk pa (ca.2.1 31 c)) pa
noncomputable def pz_dca (ca : pz_P) (c : Nat) : pz_P := @ite pz_P (pz_wi ca c) (Classical.propDecidable _) (pz_gca ca c) (pz_rca ca c)
theorem pz_ilc {ca' : pz_P} (h : pz_il sq pa ca) (e : ca'.1 = ca.1) : pz_il sq pa ca' := ⟨h.1, fun s hs => by rw [e]; exact h.2.1 s hs, h.2.2⟩
theorem pz_icg (h : pz_ic ca) (hc : c < ca.1) : pz_ic (pz_gca ca c) := by
  refine ⟨h.1, h.2.1, h.2.2.1, fun m hm => ?_⟩
  have hm : ca.1 ≤ m := hm
  obtain ⟨a1, a2, a3, a4⟩ := h.2.2.2 m hm
  refine ⟨?_, a2, a3, a4⟩
  show (pz_u (pz_u ca.2.1 32 c 1) 34 c (ca.2.1 33 c)) 32 m = 0
  rw [pz_un (by omega), pz_un (by omega)]; exact a1
theorem pz_iqm (h : pz_iq sc sq) : pz_iq sc (pz_mv sq f g o n) := h
theorem pi_decide (I : pz_I sc sq pa ri mp ca dr pe) (c1 : pw_jn x ca.1) (c2 : ca.2.1 32 (pw_i x) = 0 ∧ (pz_wi ca (pw_i x) → pz_ex (pz_gt sq pa ca (pw_i x)) 100 → pa.1 < 40)) : pz_I sc (pz_dsq sq pa ca (pw_i x)) (pz_dpa sq pa ca (pw_i x)) ri mp (pz_dca ca (pw_i x)) dr pe := by
  have hc := c1.2
  have hc16 := I.gc.1
  unfold pz_dsq pz_dpa pz_dca
  by_cases q : pz_wi ca (pw_i x)
  · rw [if_pos q, if_pos q]
    by_cases q2 : pz_ex (pz_gt sq pa ca (pw_i x)) 100
    · rw [if_pos ⟨q, q2⟩]
      exact ⟨pz_iqm I.gq, pz_ilt I.gl I.gp (c2.2 q q2) hc hc16, pz_ip_mk I.gp (c2.2 q q2) (Or.inr (I.gc.2.1 _ hc)), pz_ir_mk I.gr, I.gm, pz_icg I.gc hc, I.gd, I.gh⟩
    · rw [if_neg (fun z => q2 z.2), pz_tnone q2 100 (Nat.le_refl _)]
      exact ⟨I.gq, pz_ilc I.gl rfl, I.gp, I.gr, I.gm, pz_icg I.gc hc, I.gd, I.gh⟩
  · rw [if_neg q, if_neg q, if_neg (fun z => q z.1)]
    exact ⟨pz_iqm I.gq, pz_ilr I.gl I.gp (by omega), I.gp, I.gr, I.gm, pz_icr I.gc hc, I.gd, I.gh⟩
theorem cp_decide (h : pz_c sc sq pa ri mp ca dr pe U V w0 w) (I : pz_I sc sq pa ri mp ca dr pe) (hU : U ≤ 190000) (hV : V ≤ 3900000) (k0 : (pw_jn x ca.1) → (ca.2.1 32 (pw_i x) = 0 ∧ (pz_wi ca (pw_i x) → pz_ex (pz_gt sq pa ca (pw_i x)) 100 → pa.1 < 40)) → ∀ w1, pz_c sc (pz_dsq sq pa ca (pw_i x)) (pz_dpa sq pa ca (pw_i x)) ri mp (pz_dca ca (pw_i x)) dr pe (U + 3) (V + 138) w0 w1 → K w1 (pz_ite (pz_wi ca (pw_i x)) (pz_ct (pz_gt sq pa ca (pw_i x)) 100) (pz_ct (pz_rD sq pa (pw_i x)) 100))) (k1 : ¬ (pw_jn x ca.1) → ∀ w1, pz_c sc sq pa ri mp ca dr pe (U + 3) (V + 138) w0 w1 → X w1 1) (k2 : (pw_jn x ca.1) → ¬ (ca.2.1 32 (pw_i x) = 0 ∧ (pz_wi ca (pw_i x) → pz_ex (pz_gt sq pa ca (pw_i x)) 100 → pa.1 < 40)) → ∀ w1, pz_c sc sq pa ri mp ca dr pe (U + 3) (V + 138) w0 w1 → X w1 3) : wp_X_decide w x K X := by
  unfold wp_X_decide jp_X_decide_18 jp_X_decide_62 jp_X_decide_67
  have hc16 := I.gc.1
  have hp40 := I.gp.1.2
  rw [cv_caseNumbered h I.gc.1]
  refine ⟨fun a1 => ?_, fun a1 => cu_thr h (by omega) (by omega) (pz_hL I) I.gr.1 (fun w1 h1 => k1 a1 w1 (h1.up (by omega) (by omega)))⟩
  have k0 := k0 a1
  have k2 := k2 a1
  obtain ⟨c, hc, rfl⟩ := pz_of a1
  rw [pz_i (by omega)] at *
  have g0 := (pz_k20 h c hc).1
  have h8 := I.gl.1
  have h12 := I.gl.2.1
  have th := fun q => cu_thr (X := X) (n := 3) h (by omega) (by omega) (pz_hL I) I.gr.1 (fun w1 h1 => k2 q w1 (h1.up (by omega) (by omega)))
  have ewi : (ca.2.1 36 c < ca.2.1 35 c) = pz_wi ca c := by unfold pz_wi; rw [Int32.not_le]
  (try simp (disch := omega) only [pz_ce h, pz_k14 h, pz_k60 h, pz_k23 h, pz_k30 h, pz_k31 h, pz_k34 h, pz_k35 h, pz_kl11 h, pz_k11 h, pz_k15 h, pz_k40 h, pz_k41 h, pz_k42 h, pz_k25 h, pz_km0 h, pz_km1 h, pz_km2 h, pz_kc0 h, pz_kc1 h, pz_kc2 h, pz_kc3 h, pz_kc4 h, pz_kc6 h, pz_kc7 h, pz_kl12 h, pz_k12 h, pz_kd0 h, pz_kd1 h, forall_eq, true_and, and_true, true_imp_iff, forall_const, not_true_eq_false, not_false_eq_true, false_imp_iff, implies_true, eq_self, pz_i, pz_s1, pz_p1, pz_jnt, pz_b0, pz_b1, pz_em, pz_nnt, pz_nm1, pz_10, pz_20, pz_30, Classical.not_not, g0, cv_checkState0, cv_checkState1, ewi, cv_countTaken h h8 h12 hp40 hc16 hc, pz_c0e])
  refine ⟨fun b1 => th fun z => b1 z.1, fun b1 => ⟨fun b2 => ?_, fun b2 => ?_⟩⟩
  · have grantit : (pz_ex (pz_gt sq pa ca c) 100 → pa.1 < 40) → (∀ w4, w4 = pw_ps w 0 (pw_i (w.1 20 0 c)) 3 1 → ∀ w6, w6 = pw_ps w4 0 (pw_i (w.1 20 0 c)) 5 (w4.1 0 (pw_i (w.1 20 0 c)) 4) → (pz_ct (pz_gt sq pa ca c) 100 ≤ 0 → K w6 (pz_ct (pz_gt sq pa ca c) 100)) ∧ (¬ pz_ct (pz_gt sq pa ca c) 100 ≤ 0 → wp_X_takeSquares w6 (w.1 20 0 c) (fun w9 r10 => K w9 (pz_ct (pz_gt sq pa ca c) 100)) (fun _ _ => False))) := by
      intro b4 w4 e4 w6 e6
      have k9 := k0 ⟨b1, fun _ z => b4 z⟩
      unfold pz_dsq pz_dpa pz_dca at k9
      rw [if_pos b2, if_pos b2, pz_it b2] at k9
      have e44 : w4.1 0 (pw_i (w.1 20 0 c)) 4 = ca.2.1 33 c := by rw [e4, pz_psk (by decide)]; exact pz_kc4 h c hc
      rw [e44, e4] at e6
      have h6 := cs35 h hc (v := ca.2.1 33 c)
      rw [← e6] at h6
      have h6 : pz_c sc sq pa ri mp (pz_gca ca c) dr pe U V w0 w6 := h6
      have hcr : w6.1 20 0 c = w.1 20 0 c := by rw [e6]; rfl
      rw [pz_c0 (by decide)]
      refine ⟨fun q => ?_, fun q => ?_⟩
      · rw [if_neg (fun z => q z.2), pz_tnone q 100 (Nat.le_refl _)] at k9
        exact k9 _ (h6.up (by omega) (by omega))
      · have q := Classical.not_not.mp q
        have b4 := b4 q
        rw [if_pos ⟨b2, q⟩] at k9
        unfold wp_X_takeSquares
        rw [← hcr] at g0 ⊢
        refine ⟨g0, ?_⟩
        rw [pz_kc0 h6 c hc]
        rw [hcr]
        obtain ⟨cr, ecr⟩ : ∃ cr, cr = w.1 20 0 c := ⟨_, rfl⟩
        rw [← ecr] at hcr ⊢
        refine cu_addParcel2 h6 (fun q hq => I.gp.2.2.2 _ _ (Nat.le_refl _) hq) h8 b4 (by omega) (by omega) (pz_hL I) I.gr.1 fun w7 h7 e20 => ?_
        have hcr7 : w7.1 20 0 c = cr := by rw [e20]; exact hcr
        (try simp (disch := omega) only [pz_ce h7, pz_k14 h7, pz_k60 h7, pz_k23 h7, pz_k30 h7, pz_k31 h7, pz_k34 h7, pz_k35 h7, pz_kl11 h7, pz_k11 h7, pz_k15 h7, pz_k40 h7, pz_k41 h7, pz_k42 h7, pz_k25 h7, pz_km0 h7, pz_km1 h7, pz_km2 h7, pz_kc0 h7, pz_kc1 h7, pz_kc2 h7, pz_kc3 h7, pz_kc4 h7, pz_kc6 h7, pz_kc7 h7, pz_kl12 h7, pz_k12 h7, pz_kd0 h7, pz_kd1 h7, forall_eq, true_and, and_true, true_imp_iff, forall_const, not_true_eq_false, not_false_eq_true, false_imp_iff, implies_true, eq_self, pz_i, pz_s1, pz_p1, pz_jnt, pz_b0, pz_b1, pz_em, pz_nnt, pz_nm1, pz_10, pz_20, pz_30, Classical.not_not])
        refine pz_up (F := fun k s w => lp_X_takeSquares_21 _ _ k cr (nI pa.1) (nI 100) (nI s) w) (I := fun s w => pz_c sc (pz_tq sq pa ca c s) (pz_mk pa (ca.2.1 31 c)) ri mp (pz_gca ca c) dr pe (U + 3) (V + 138) w0 w ∧ w.1 20 0 c = cr) 100 (fun s w8 k5 hs hh ih => ?_) (fun w8 hh => ?_) ⟨by unfold pz_tq; rw [pz_mv0]; exact h7, hcr7⟩
        · obtain ⟨h9, hc9⟩ := hh
          rw [lp_X_takeSquares_21_s]
          have e14 : (pz_tq sq pa ca c s).1 14 s = sq.1 14 s := pz_mvx (by omega)
          have e8 : (pz_tq sq pa ca c s).1 8 s = sq.1 8 s := pz_mvx (by omega)
          have egt := fun K X => cv_isTaken h9 (fun s hs => pz_tq8 I.gl b4 hs) (fun s hs => pz_tq12 I.gl hc hc16 hs) (by show pa.1 + 1 ≤ 40; omega) hc16 hs hc (K := K) (X := X)
          rw [hc9] at egt
          (try simp (disch := omega) only [pz_ce h9, pz_k14 h9, pz_k60 h9, pz_k23 h9, pz_k30 h9, pz_k31 h9, pz_k34 h9, pz_k35 h9, pz_kl11 h9, pz_k11 h9, pz_k15 h9, pz_k40 h9, pz_k41 h9, pz_k42 h9, pz_k25 h9, pz_km0 h9, pz_km1 h9, pz_km2 h9, pz_kc0 h9, pz_kc1 h9, pz_kc2 h9, pz_kc3 h9, pz_kc4 h9, pz_kc6 h9, pz_kc7 h9, pz_kl12 h9, pz_k12 h9, pz_kd0 h9, pz_kd1 h9, forall_eq, true_and, and_true, true_imp_iff, forall_const, not_true_eq_false, not_false_eq_true, false_imp_iff, implies_true, eq_self, pz_i, pz_s1, pz_p1, pz_jnt, pz_b0, pz_b1, pz_em, pz_nnt, pz_nm1, pz_10, pz_20, pz_30, Classical.not_not, pz_le, show ¬ 100 ≤ s by omega, egt, pz_gtk (h8 s hs) (h12 s hs) hc16])
          refine ⟨fun q => ih w8 ⟨by rw [pz_tskip q]; exact h9, hc9⟩, fun q => ?_⟩
          rw [show (pw_ps w8 6 s 9 cr).1 6 s 1 = sq.1 8 s by rw [pz_psk (by decide), (pz_csq.of h9).2.2.2.1 s]; exact e8]
          have hne : ¬ nI c = -1 := by rw [pz_nm1 (by omega)]; exact id
          have h10 := cs69 h9 (s := s) (a := cr) (b := sq.1 8 s) (x := nI c) (y := sq.1 8 s) (by unfold pz_gv; rw [pz_if' hne, pz_i (by omega)]; exact hc9.symm) (by rw [pz_if' hne]) (fun c' hc' z => by
            have hc' : c' < ca.1 := hc'
            have : c = c' := by rw [pz_eq (by omega) (by omega)] at z; exact z
            subst this
            exact pz_kc5 h9 c s hc hs (Or.inl (by show (pz_u (pz_u ca.2.1 32 c 1) 34 c (ca.2.1 33 c)) 32 c = 1; rw [pz_uk (by decide), pz_us])))
          obtain ⟨l, el, l1, l2⟩ := I.gl.gb hp40 hs
          have hL10 : pz_L (pz_u (pz_u (pz_tq sq pa ca c s).1 12 s (nI c)) 13 s (sq.1 8 s), (pz_tq sq pa ca c s).2) ≤ 12000 := by
            rw [show pz_L (pz_u (pz_u (pz_tq sq pa ca c s).1 12 s (nI c)) 13 s (sq.1 8 s), (pz_tq sq pa ca c s).2) = pz_L (pz_tq sq pa ca c s) from pz_Ln_c (fun _ _ => rfl)]
            exact pz_tqL I.gl hp40
          refine cu_moveTo2 h10 (by show pa.1 + 1 ≤ 40; omega) hs (pz_jn (by show pa.1 < pa.1 + 1; omega) (by omega)) (by show pw_jn ((pz_tq sq pa ca c s).1 8 s) (pa.1 + 1); exact pz_tq8 I.gl b4 hs) (by show ¬ (pz_tq sq pa ca c s).1 8 s = _; rw [e8]; intro z; have := (h8 s hs).2; rw [z, pz_i (by omega)] at this; omega) (e14.trans el) l1 (by omega) (by omega) (by omega) hL10 I.gr.1 fun w11 h11 e20 => ih w11 ⟨?_, ?_⟩
          · rw [← pz_tstep q]; exact h11
          · rw [e20]; exact hc9
        · obtain ⟨h9, hc9⟩ := hh
          rw [lp_X_takeSquares_21_s]
          (try simp (disch := omega) only [pz_ce h9, pz_k14 h9, pz_k60 h9, pz_k23 h9, pz_k30 h9, pz_k31 h9, pz_k34 h9, pz_k35 h9, pz_kl11 h9, pz_k11 h9, pz_k15 h9, pz_k40 h9, pz_k41 h9, pz_k42 h9, pz_k25 h9, pz_km0 h9, pz_km1 h9, pz_km2 h9, pz_kc0 h9, pz_kc1 h9, pz_kc2 h9, pz_kc3 h9, pz_kc4 h9, pz_kc6 h9, pz_kc7 h9, pz_kl12 h9, pz_k12 h9, pz_kd0 h9, pz_kd1 h9, forall_eq, true_and, and_true, true_imp_iff, forall_const, not_true_eq_false, not_false_eq_true, false_imp_iff, implies_true, eq_self, pz_i, pz_s1, pz_p1, pz_jnt, pz_b0, pz_b1, pz_em, pz_nnt, pz_nm1, pz_10, pz_20, pz_30, Classical.not_not, pz_le, Nat.le_refl])
          exact k9 _ h9
    refine ⟨fun q => grantit (fun z => absurd z q) _ rfl _ rfl, fun q => ?_⟩
    rw [pz_l40]
    refine ⟨fun q2 => th fun z => ?_, fun q2 => grantit (fun _ => ?_) _ rfl _ rfl⟩
    · rw [pz_le (by omega) (by omega)] at q2
      have := z.2 b2 q
      omega
    · rw [pz_le (by omega) (by omega)] at q2
      omega
  · have k9 := k0 ⟨b1, fun z => absurd z b2⟩
    unfold pz_dsq pz_dpa pz_dca at k9
    rw [if_neg b2, if_neg (fun z => b2 z.1), if_neg b2, pz_if' b2] at k9
    exact cu_refuses h I.gl I.gp hc hc16 (by omega) (by omega) I.gr.1 (fun w1 h1 => k9 w1 (h1.up (by omega) (by omega)))
end PZDT
