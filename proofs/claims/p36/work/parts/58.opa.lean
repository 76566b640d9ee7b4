/-! public methods: evidence, appeal, rights, maps, drains, heirs -/
section PZOA
variable {sc : pz_S} {sq : pz_Q} {pa : pz_P} {ri : pz_N} {mp : pz_N} {ca : pz_P} {dr : pz_N} {pe : pz_Q} {U V : Nat} {w0 w w1 w2 : pw_W} {K : pw_W → Int32 → Prop} {X : pw_W → Nat → Prop} {x y z t : Int32} {i s r j n p q a b k k' : Nat} {c d e v v' : Int32}
theorem pz_uc {F : pz_F} {i i' : Nat} (hk : k ≠ k') : pz_u (pz_u F k i v) k' i' v' = pz_u (pz_u F k' i' v') k i v := funext fun m => funext fun l => by
  unfold pz_u
  by_cases e1 : m = k' ∧ l = i'
  · rw [if_pos e1, if_neg (fun z => hk (z.1.symm.trans e1.1)), if_pos e1]
  · by_cases e2 : m = k ∧ l = i
    · rw [if_neg e1, if_pos e2, if_pos e2]
    · rw [if_neg e1, if_neg e2, if_neg e2, if_neg e1]
theorem pz_ue {F : pz_F} {i : Nat} : pz_u F k i (F k i) = F := funext fun m => funext fun l => by
  unfold pz_u
  by_cases e1 : m = k ∧ l = i
  · rw [if_pos e1, e1.1, e1.2]
  · rw [if_neg e1]
noncomputable def pz_ev (ca : pz_P) (c : Nat) (u y : Int32) : pz_P := (ca.1, pz_u (pz_u ca.2.1 35 c (ca.2.1 35 c + pz_ite (u = 0) 0 y)) 36 c (ca.2.1 36 c + pz_ite (u = 0) y 0), ca.2.2)
theorem cp_evidence (h : pz_c sc sq pa ri mp ca dr pe U V w0 w) (I : pz_I sc sq pa ri mp ca dr pe) (hU : U ≤ 190000) (hV : V ≤ 3900000) (k0 : (pw_jn x ca.1) → (pz_in z 1 9) → (ca.2.1 32 (pw_i x) = 0) → ∀ w1, pz_c sc sq pa ri mp (pz_ev ca (pw_i x) y z) dr pe (U + 0) (V + 0) w0 w1 → K w1 (pz_ite (y = 0) (ca.2.1 36 (pw_i x) + z) (ca.2.1 35 (pw_i x) + z))) (k1 : ¬ (pw_jn x ca.1) → ∀ w1, pz_c sc sq pa ri mp ca dr pe (U + 1) (V + 6) w0 w1 → X w1 1) (k2 : (pw_jn x ca.1) → ¬ (pz_in z 1 9) → ∀ w1, pz_c sc sq pa ri mp ca dr pe (U + 1) (V + 6) w0 w1 → X w1 2) (k3 : (pw_jn x ca.1) → (pz_in z 1 9) → ¬ (ca.2.1 32 (pw_i x) = 0) → ∀ w1, pz_c sc sq pa ri mp ca dr pe (U + 1) (V + 6) w0 w1 → X w1 3) : wp_X_evidence w x y z K X := by
  unfold wp_X_evidence jp_X_evidence_30
  rw [cv_caseNumbered h I.gc.1]
  refine ⟨fun q => ?_, fun q => cu_thr h (by omega) (by omega) (pz_hL I) I.gr.1 (k1 q)⟩
  obtain ⟨a, ha, rfl⟩ := pz_of q
  have hc16 : a < 16 := Nat.lt_of_lt_of_le ha I.gc.1
  rw [pz_i (by omega)] at *
  have g0 := (pz_k20 h a ha).1
  rw [cv_isInRange, cv_checkArgument]
  refine ⟨fun q2 => ⟨g0, ?_⟩, fun q2 => cu_thr h (by omega) (by omega) (pz_hL I) I.gr.1 (k2 q q2)⟩
  (try simp (disch := omega) only [pz_ce h, pz_k14 h, pz_k60 h, pz_k23 h, pz_k30 h, pz_k31 h, pz_k34 h, pz_k35 h, pz_kl11 h, pz_k11 h, pz_k15 h, pz_k40 h, pz_k41 h, pz_k42 h, pz_k25 h, pz_km0 h, pz_km1 h, pz_km2 h, pz_kc0 h, pz_kc1 h, pz_kc2 h, pz_kc3 h, pz_kc4 h, pz_kc6 h, pz_kc7 h, pz_kl12 h, pz_k12 h, pz_kd0 h, pz_kd1 h, forall_eq, true_and, and_true, true_imp_iff, forall_const, not_true_eq_false, not_false_eq_true, false_imp_iff, implies_true, eq_self, pz_i, pz_s1, pz_p1, pz_jnt, pz_b0, pz_b1, pz_em, pz_nnt, pz_nm1, pz_10, pz_20, pz_30, Classical.not_not, cv_checkState0, cv_checkState1])
  refine ⟨fun q3 => cu_thr h (by omega) (by omega) (pz_hL I) I.gr.1 (k3 q q2 q3), fun q3 => ?_⟩
  have k0 := k0 q q2 q3
  unfold pz_ev at k0
  refine ⟨fun e => ⟨g0, ?_⟩, fun e => ⟨g0, ?_⟩⟩
  · rw [pz_it e, pz_it e, pz_it e, Int32.add_zero, pz_ue] at k0
    rw [pz_pss]
    exact k0 _ (cs07 h ha)
  · rw [pz_if' e, pz_if' e, pz_if' e, Int32.add_zero, show ca.2.1 36 a = (pz_u ca.2.1 35 a (ca.2.1 35 a + z)) 36 a from (pz_uk (by decide)).symm, pz_ue] at k0
    rw [pz_pss]
    exact k0 _ (cs06 h ha)
theorem pi_evidence (I : pz_I sc sq pa ri mp ca dr pe) (c1 : pw_jn x ca.1) (c2 : pz_in z 1 9) (c3 : ca.2.1 32 (pw_i x) = 0) : pz_I sc sq pa ri mp (pz_ev ca (pw_i x) y z) dr pe := by
  have q2 := c1.2
  refine ⟨I.1, I.2.1, I.2.2.1, I.2.2.2.1, I.2.2.2.2.1, ⟨I.gc.1, I.gc.2.1, I.gc.2.2.1, fun m hm => ?_⟩, I.gd, I.gh⟩
  have hm : ca.1 ≤ m := hm
  obtain ⟨a, b, c, d⟩ := I.gc.2.2.2 m hm
  refine ⟨a, b, ?_, ?_⟩
  · show (pz_u (pz_u ca.2.1 35 (pw_i x) (ca.2.1 35 (pw_i x) + pz_ite (y = 0) 0 z)) 36 (pw_i x) (ca.2.1 36 (pw_i x) + pz_ite (y = 0) z 0)) 35 m = 0
    rw [pz_uk (by decide), pz_un (by omega)]; exact c
  · show (pz_u (pz_u ca.2.1 35 (pw_i x) (ca.2.1 35 (pw_i x) + pz_ite (y = 0) 0 z)) 36 (pw_i x) (ca.2.1 36 (pw_i x) + pz_ite (y = 0) z 0)) 36 m = 0
    rw [pz_un (by omega), pz_uk (by decide)]; exact d
theorem cp_appeal (h : pz_c sc sq pa ri mp ca dr pe U V w0 w) (I : pz_I sc sq pa ri mp ca dr pe) (hU : U ≤ 190000) (hV : V ≤ 3900000) (k0 : (pw_jn x ca.1) → (¬ ca.2.1 32 (pw_i x) = 0 ∧ ¬ ca.2.1 33 (pw_i x) = 2 ∧ pe.1 42 (pw_i (ca.2.1 31 (pw_i x))) = 0) → ∀ w1, pz_c sc sq pa ri mp (ca.1, pz_u (pz_u ca.2.1 33 (pw_i x) (ca.2.1 33 (pw_i x) + 1)) 32 (pw_i x) 0, ca.2.2) dr pe (U + 0) (V + 0) w0 w1 → K w1 (ca.2.1 33 (pw_i x) + 1)) (k1 : ¬ (pw_jn x ca.1) → ∀ w1, pz_c sc sq pa ri mp ca dr pe (U + 1) (V + 6) w0 w1 → X w1 1) (k2 : (pw_jn x ca.1) → ¬ (¬ ca.2.1 32 (pw_i x) = 0 ∧ ¬ ca.2.1 33 (pw_i x) = 2 ∧ pe.1 42 (pw_i (ca.2.1 31 (pw_i x))) = 0) → ∀ w1, pz_c sc sq pa ri mp ca dr pe (U + 1) (V + 6) w0 w1 → X w1 3) : wp_X_appeal w x K X := by
  unfold wp_X_appeal jp_X_appeal_18 jp_X_appeal_34
  rw [cv_caseNumbered h I.gc.1]
  refine ⟨fun q => ?_, fun q => cu_thr h (by omega) (by omega) (pz_hL I) I.gr.1 (k1 q)⟩
  obtain ⟨a, ha, rfl⟩ := pz_of q
  have hc16 : a < 16 := Nat.lt_of_lt_of_le ha I.gc.1
  rw [pz_i (by omega)] at *
  have g0 := (pz_k20 h a ha).1
  have j31 := I.gc.2.1 a ha
  have j310 := j31.1
  have j312 := j31.2
  (try simp (disch := omega) only [pz_ce h, pz_k14 h, pz_k60 h, pz_k23 h, pz_k30 h, pz_k31 h, pz_k34 h, pz_k35 h, pz_kl11 h, pz_k11 h, pz_k15 h, pz_k40 h, pz_k41 h, pz_k42 h, pz_k25 h, pz_km0 h, pz_km1 h, pz_km2 h, pz_kc0 h, pz_kc1 h, pz_kc2 h, pz_kc3 h, pz_kc4 h, pz_kc6 h, pz_kc7 h, pz_kl12 h, pz_k12 h, pz_kd0 h, pz_kd1 h, forall_eq, true_and, and_true, true_imp_iff, forall_const, not_true_eq_false, not_false_eq_true, false_imp_iff, implies_true, eq_self, pz_i, pz_s1, pz_p1, pz_jnt, pz_b0, pz_b1, pz_em, pz_nnt, pz_nm1, pz_10, pz_20, pz_30, Classical.not_not, cv_checkState0, cv_checkState1, g0, j310])
  simp only [cv_checkState]
  refine ⟨fun q1 => cu_thr h (by omega) (by omega) (pz_hL I) I.gr.1 (k2 q fun z => z.1 q1), fun q1 => ⟨fun q2 => ?_, fun q2 => ⟨fun q3 => ?_, fun q3 => cu_thr h (by omega) (by omega) (pz_hL I) I.gr.1 (k2 q fun z => q3 z.2.2)⟩⟩⟩
  · have e2 : ca.2.1 33 a = 2 := by
      rcases I.gc.2.2.1 a with e | e | e
      · rw [e] at q2; exact absurd q2 (by decide)
      · rw [e] at q2; exact absurd q2 (by decide)
      · exact e
    exact cu_thr h (by omega) (by omega) (pz_hL I) I.gr.1 (k2 q fun z => z.2.1 e2)
  · have e2 : ¬ ca.2.1 33 a = 2 := fun e => q2 (by rw [e]; decide)
    have h1 := cs03 h ha (v := 0) (by decide)
    have e20 : (pw_ps w 0 (pw_i (w.1 20 0 a)) 3 0).1 20 0 a = w.1 20 0 a := rfl
    have e33 : (pw_ps w 0 (pw_i (w.1 20 0 a)) 3 0).1 0 (pw_i (w.1 20 0 a)) 4 = ca.2.1 33 a := by rw [pz_psk (by decide)]; exact pz_kc4 h a ha
    have h2 := cs04 h1 (c := a) ha (v := ca.2.1 33 a + 1)
    rw [e20] at h2
    rw [e33, pz_pss]
    have k0 := k0 q ⟨q1, e2, q3⟩
    rw [pz_uc (by decide)] at k0
    exact k0 _ h2
theorem pi_appeal (I : pz_I sc sq pa ri mp ca dr pe) (c1 : pw_jn x ca.1) (c2 : ¬ ca.2.1 32 (pw_i x) = 0 ∧ ¬ ca.2.1 33 (pw_i x) = 2 ∧ pe.1 42 (pw_i (ca.2.1 31 (pw_i x))) = 0) : pz_I sc sq pa ri mp (ca.1, pz_u (pz_u ca.2.1 33 (pw_i x) (ca.2.1 33 (pw_i x) + 1)) 32 (pw_i x) 0, ca.2.2) dr pe := by
  refine ⟨I.1, I.2.1, I.2.2.1, I.2.2.2.1, I.2.2.2.2.1, ⟨I.gc.1, I.gc.2.1, fun m => ?_, fun m hm => ?_⟩, I.gd, I.gh⟩
  · rw [show ((ca.1, pz_u (pz_u ca.2.1 33 (pw_i x) (ca.2.1 33 (pw_i x) + 1)) 32 (pw_i x) 0, ca.2.2) : pz_P).2.1 33 m = (pz_u ca.2.1 33 (pw_i x) (ca.2.1 33 (pw_i x) + 1)) 33 m from rfl]
    by_cases q : m = pw_i x
    · rw [q, pz_us]
      rcases I.gc.2.2.1 (pw_i x) with e | e | e
      · rw [e]; exact Or.inr (Or.inl rfl)
      · rw [e]; exact Or.inr (Or.inr rfl)
      · exact absurd e c2.2.1
    · rw [pz_un q]; exact I.gc.2.2.1 m
  · have hm : ca.1 ≤ m := hm
    have q2 := c1.2
    obtain ⟨a, b, c, d⟩ := I.gc.2.2.2 m hm
    refine ⟨?_, ?_, c, d⟩
    · show (pz_u (pz_u ca.2.1 33 (pw_i x) (ca.2.1 33 (pw_i x) + 1)) 32 (pw_i x) 0) 32 m = 0
      rw [pz_un (by omega), pz_uk (by decide)]; exact a
    · show (pz_u (pz_u ca.2.1 33 (pw_i x) (ca.2.1 33 (pw_i x) + 1)) 32 (pw_i x) 0) 33 m = 0
      rw [pz_uk (by decide), pz_un (by omega)]; exact b
theorem pz_ir.add (h : pz_ir ri pa) (hn : ri.1 < 80) (hb : pw_jn y pa.1) (hc : pw_jn z 12) (hd : x = 0 → 0 ≤ t) (hu : ¬ pz_ex (pz_hr ri x y z) ri.1) : pz_ir (pz_mr' ri x y z t e) pa := by
  obtain ⟨h1, h2, h3, h4⟩ := h
  have e20 : ∀ m, (pz_mr' ri x y z t e).2 20 m = if m = ri.1 then x else ri.2 20 m := fun m => by
    unfold pz_mr'; dsimp only; rw [pz_uk (by decide), pz_uk (by decide), pz_uk (by decide), pz_uk (by decide), pz_uk (by decide)]
    by_cases q : m = ri.1
    · rw [if_pos q, q, pz_us]
    · rw [if_neg q, pz_un q]
  have e21 : ∀ m, (pz_mr' ri x y z t e).2 21 m = if m = ri.1 then y else ri.2 21 m := fun m => by
    unfold pz_mr'; dsimp only; rw [pz_uk (by decide), pz_uk (by decide), pz_uk (by decide), pz_uk (by decide)]
    by_cases q : m = ri.1
    · rw [if_pos q, q, pz_us]
    · rw [if_neg q, pz_un q, pz_uk (by decide)]
  have e22 : ∀ m, (pz_mr' ri x y z t e).2 22 m = if m = ri.1 then z else ri.2 22 m := fun m => by
    unfold pz_mr'; dsimp only; rw [pz_uk (by decide), pz_uk (by decide), pz_uk (by decide)]
    by_cases q : m = ri.1
    · rw [if_pos q, q, pz_us]
    · rw [if_neg q, pz_un q, pz_uk (by decide), pz_uk (by decide)]
  have e23 : ∀ m, (pz_mr' ri x y z t e).2 23 m = if m = ri.1 then t else ri.2 23 m := fun m => by
    unfold pz_mr'; dsimp only; rw [pz_uk (by decide), pz_uk (by decide)]
    by_cases q : m = ri.1
    · rw [if_pos q, q, pz_us]
    · rw [if_neg q, pz_un q, pz_uk (by decide), pz_uk (by decide), pz_uk (by decide)]
  have e25 : ∀ m, (pz_mr' ri x y z t e).2 25 m = if m = ri.1 then 0 else ri.2 25 m := fun m => by
    unfold pz_mr'; dsimp only
    by_cases q : m = ri.1
    · rw [if_pos q, q, pz_us]
    · rw [if_neg q, pz_un q, pz_uk (by decide), pz_uk (by decide), pz_uk (by decide), pz_uk (by decide), pz_uk (by decide)]
  refine ⟨(by show ri.1 + 1 ≤ 80; omega), fun m hm => ?_, fun m m' hm hm' a1 a2 a3 a4 a5 => ?_, fun m => ?_⟩
  · have hm : m < ri.1 + 1 := hm
    rw [e20, e21, e22, e23]
    by_cases q : m = ri.1
    · rw [if_pos q, if_pos q, if_pos q, if_pos q]; exact ⟨hb, hc, hd⟩
    · rw [if_neg q, if_neg q, if_neg q, if_neg q]; exact h2 m (by omega)
  · have hm : m < ri.1 + 1 := hm
    have hm' : m' < ri.1 + 1 := hm'
    rw [e25] at a1 a2
    rw [e21, e21] at a3
    rw [e20, e20] at a4
    rw [e22, e22] at a5
    by_cases q : m = ri.1
    · by_cases q' : m' = ri.1
      · rw [q, q']
      · rw [if_pos q, if_neg q'] at a3 a4 a5
        rw [if_neg q'] at a2
        exact absurd ⟨m', by omega, ⟨a2, a3.symm⟩, a4.symm, a5.symm⟩ hu
    · by_cases q' : m' = ri.1
      · rw [if_neg q, if_pos q'] at a3 a4 a5
        rw [if_neg q] at a1
        exact absurd ⟨m, by omega, ⟨a1, a3⟩, a4, a5⟩ hu
      · rw [if_neg q, if_neg q'] at a3 a4 a5
        rw [if_neg q] at a1
        rw [if_neg q'] at a2
        exact h3 m m' (by omega) (by omega) a1 a2 a3 a4 a5
  · rw [e25]
    by_cases q : m = ri.1
    · rw [if_pos q]; exact Or.inl rfl
    · rw [if_neg q]; exact h4 m
theorem cp_register (h : pz_c sc sq pa ri mp ca dr pe U V w0 w) (I : pz_I sc sq pa ri mp ca dr pe) (hU : U ≤ 190000) (hV : V ≤ 3900000) (k0 : (pz_in x 0 2 ∧ pw_jn y pa.1 ∧ pw_jn z 12) → (¬ x = 0 ∨ pz_in t 1 99) → (pe.1 42 (pw_i z) = 0 ∧ ¬ pz_ex (pz_hr ri x (pz_ro pa y) z) ri.1 ∧ ri.1 < 80) → ∀ w1, pz_c sc sq pa (pz_mr' ri x (pz_ro pa y) z (pz_ite (x = 0) t 0) (-1)) mp ca dr pe (U + 0) (V + 0) w0 w1 → K w1 (nI ri.1)) (k1 : ¬ (pz_in x 0 2 ∧ pw_jn y pa.1 ∧ pw_jn z 12) → ∀ w1, pz_c sc sq pa ri mp ca dr pe (U + 1) (V + 6) w0 w1 → X w1 1) (k2 : (pz_in x 0 2 ∧ pw_jn y pa.1 ∧ pw_jn z 12) → ¬ (¬ x = 0 ∨ pz_in t 1 99) → ∀ w1, pz_c sc sq pa ri mp ca dr pe (U + 1) (V + 6) w0 w1 → X w1 2) (k3 : (pz_in x 0 2 ∧ pw_jn y pa.1 ∧ pw_jn z 12) → (¬ x = 0 ∨ pz_in t 1 99) → ¬ (pe.1 42 (pw_i z) = 0 ∧ ¬ pz_ex (pz_hr ri x (pz_ro pa y) z) ri.1 ∧ ri.1 < 80) → ∀ w1, pz_c sc sq pa ri mp ca dr pe (U + 1) (V + 6) w0 w1 → X w1 3) : wp_X_register w x y z t K X := by
  unfold wp_X_register jp_X_register_34 jp_X_register_39 jp_X_register_67 jp_X_register_89
  have hr80 := I.gr.1
  have e3 : pz_in x 0 2 = pw_jn x 3 := pz_in_jn (n := 3) (by decide)
  rw [e3] at k0 k1 k2 k3
  rw [pz_l3, cv_checkIndex (by decide)]
  refine ⟨fun a1 => ?_, fun a1 => cu_thr h (by omega) (by omega) (pz_hL I) I.gr.1 (k1 fun z => a1 z.1)⟩
  rw [cv_parcelNumbered h I.gp.2.1 I.gp.1.2]
  refine ⟨fun a2 => ?_, fun a2 => cu_thr h (by omega) (by omega) (pz_hL I) I.gr.1 (k1 fun z => a2 z.2.1)⟩
  rw [cv_personNumbered h]
  refine ⟨fun a3 => ?_, fun a3 => cu_thr h (by omega) (by omega) (pz_hL I) I.gr.1 (k1 fun z => a3 z.2.2)⟩
  have a30 := a3.1
  have main : (¬ x = 0 ∨ pz_in t 1 99) → (0 ≤ z ∧ wp_X_checkState w (w.1 4 (pw_i z) 2) (fun w17 r18 => wp_X_hasRight w17 x (pz_ro pa y) z (fun w19 r20 => (¬ r20 = 0 → jp_X_register_67 K X x t (pz_ro pa y) z 0 w19) ∧ (r20 = 0 → jp_X_register_67 K X x t (pz_ro pa y) z 1 w19)) (fun _ _ => False)) X) := by
    intro c2
    have k0 := k0 ⟨a1, a2, a3⟩ c2
    have k3 := k3 ⟨a1, a2, a3⟩ c2
    rw [pz_k42 h _ a3.2]
    unfold jp_X_register_67 jp_X_register_89
    (try simp (disch := omega) only [pz_ce h, pz_k14 h, pz_k60 h, pz_k23 h, pz_k30 h, pz_k31 h, pz_k34 h, pz_k35 h, pz_kl11 h, pz_k11 h, pz_k15 h, pz_k40 h, pz_k41 h, pz_k42 h, pz_k25 h, pz_km0 h, pz_km1 h, pz_km2 h, pz_kc0 h, pz_kc1 h, pz_kc2 h, pz_kc3 h, pz_kc4 h, pz_kc6 h, pz_kc7 h, pz_kl12 h, pz_k12 h, pz_kd0 h, pz_kd1 h, forall_eq, true_and, and_true, true_imp_iff, forall_const, not_true_eq_false, not_false_eq_true, false_imp_iff, implies_true, eq_self, pz_i, pz_s1, pz_p1, pz_jnt, pz_b0, pz_b1, pz_em, pz_nnt, pz_nm1, pz_10, pz_20, pz_30, Classical.not_not, cv_checkState, cv_hasRight h hr80, cv_checkState0, cv_checkState1, pz_l80, pz_le])
    refine ⟨a30, fun b1 => ⟨fun b2 => cu_thr h (by omega) (by omega) (pz_hL I) I.gr.1 (k3 fun z => z.2.1 b2), fun b2 => ⟨fun b3 => cu_thr h (by omega) (by omega) (pz_hL I) I.gr.1 (k3 fun z => by have := z.2.2; omega), fun b3 => ⟨cu_newRm h (by omega) (by omega) (pz_hL I) I.gr.1, ?_⟩⟩⟩, fun b1 => cu_thr h (by omega) (by omega) (pz_hL I) I.gr.1 (k3 fun z => b1 z.1)⟩
    exact cu_newRight h (d' := pz_ite (x = 0) t 0) (fun e => (pz_it e).symm) (by omega) (by omega) (by omega) (pz_hL I) I.gr.1 (fun w1 h1 => k0 ⟨b1, b2, by omega⟩ w1 h1)
  refine ⟨fun e => ?_, fun e => ?_⟩
  · show wp_X_checkArgument w 1 _ X
    unfold wp_X_checkArgument
    exact ⟨fun _ => main (Or.inl e), fun q => absurd q (by decide)⟩
  · rw [cv_isInRange]
    refine ⟨fun q => ?_, fun q => ?_⟩
    · unfold wp_X_checkArgument
      refine ⟨fun z => absurd rfl z, fun _ => cu_thr h (by omega) (by omega) (pz_hL I) I.gr.1 (k2 ⟨a1, a2, a3⟩ fun z => ?_)⟩
      exact z.elim (fun n => n e) (pz_b0.mp q)
    · have q1 : pz_in t 1 99 := Classical.byContradiction fun n => q (pz_bf n)
      unfold wp_X_checkArgument
      exact ⟨fun _ => main (Or.inr q1), fun q => absurd q (by decide)⟩
theorem pi_register (I : pz_I sc sq pa ri mp ca dr pe) (c1 : pz_in x 0 2 ∧ pw_jn y pa.1 ∧ pw_jn z 12) (c2 : ¬ x = 0 ∨ pz_in t 1 99) (c3 : pe.1 42 (pw_i z) = 0 ∧ ¬ pz_ex (pz_hr ri x (pz_ro pa y) z) ri.1 ∧ ri.1 < 80) : pz_I sc sq pa (pz_mr' ri x (pz_ro pa y) z (pz_ite (x = 0) t 0) (-1)) mp ca dr pe := by
  refine ⟨I.1, I.2.1, I.2.2.1, I.gr.add c3.2.2 (pz_roj I c1.2.1) c1.2.2 (fun e => ?_) c3.2.1, I.2.2.2.2⟩
  rw [pz_it e]
  have := c2.resolve_left (fun n => n e)
  unfold pz_in at this
  have := this.1
  rw [Int32.not_lt, Int32.le_iff_toInt_le] at this
  rw [Int32.le_iff_toInt_le]
  rw [show (1 : Int32).toInt = 1 from rfl] at this
  rw [show (0 : Int32).toInt = 0 from rfl]
  omega
end PZOA
