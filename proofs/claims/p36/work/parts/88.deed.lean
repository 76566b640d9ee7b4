/-! the law's turn: file, evidence, decide, appeal -/
section PDF
variable {sc : pz_S} {sq : pz_Q} {pa : pz_P} {ri mp : pz_N} {ca : pz_P} {dr : pz_N} {pe : pz_Q} {U V U1 V1 : Nat} {w0 w w1 w2 : pw_W} {K : pw_W → Int32 → Prop} {x y z v : Int32} {i k len n m s p r c : Nat} {Ln : Nat} {xs : Nat → Int32} {Q : pw_W → Int32 → Prop} {X : pw_W → Nat → Prop} {K53 : Int32 → Int32 → Int32 → Int32 → Int32 → pw_W → Prop} {a2 a3 a5 a6 a8 a9 s0 : Int32}
theorem dl_file {v198 : Int32} {w200 : pw_W} (h : pz_c sc sq pa ri mp ca dr pe U V w0 w200) (I : pz_I sc sq pa ri mp ca dr pe) (J : pj_J n sc sq pa ri ca pe) (hU : U ≤ 180000) (hV : V ≤ 3800000) (E : pq_E Ln xs Q X K53 a2 a5 a6 s0 (n + 1) (U + 20) (V + 2000) ri.1) (e3 : a3 = nI ca.1)
    (hq : pw_jn v198 12) : wp_L_on w200 4 v198 (a8 &&& 1) 0 99 (fun w232 r233 => (r233 = (-13) → jp_L_law_649 Ln xs Q X K53 a2 a3 a5 a6 s0 r233 w232) ∧ (¬ r233 = (-13) → (¬ r233 = a3 → jp_L_law_653 Ln xs Q X K53 a2 a3 a5 a6 s0 r233 w232) ∧ (r233 = a3 → wp_X_caseAt w232 r233 0 (fun w236 r237 => (¬ r237 = 0 → jp_L_law_653 Ln xs Q X K53 a2 a3 a5 a6 s0 r233 w236) ∧ (r237 = 0 → wp_X_caseAt w236 r233 3 (fun w239 r240 => (¬ r240 = 0 → jp_L_law_653 Ln xs Q X K53 a2 a3 a5 a6 s0 r233 w239) ∧ (r240 = 0 → jp_L_law_649 Ln xs Q X K53 a2 a3 a5 a6 s0 r233 w239)) (fun _ _ => False))) (fun _ _ => False)))) (fun _ _ => False) := by
  have hc16 := I.gc.1
  have h0 : pw_jn 0 100 := pz_jn (a := 0) (by decide) (by decide)
  have h99 : pw_jn 99 100 := pz_jn (a := 99) (by decide) (by decide)
  have hd : pz_fd 0 99 := ⟨by decide, by decide⟩
  have key : ∀ t : Int32, ((a8 &&& 1) = 1 ∧ t = 1) ∨ (¬ (a8 &&& 1) = 1 ∧ t = 0) → wp_L_on w200 4 v198 (a8 &&& 1) 0 99 (fun w232 r233 => (r233 = (-13) → jp_L_law_649 Ln xs Q X K53 a2 a3 a5 a6 s0 r233 w232) ∧ (¬ r233 = (-13) → (¬ r233 = a3 → jp_L_law_653 Ln xs Q X K53 a2 a3 a5 a6 s0 r233 w232) ∧ (r233 = a3 → wp_X_caseAt w232 r233 0 (fun w236 r237 => (¬ r237 = 0 → jp_L_law_653 Ln xs Q X K53 a2 a3 a5 a6 s0 r233 w236) ∧ (r237 = 0 → wp_X_caseAt w236 r233 3 (fun w239 r240 => (¬ r240 = 0 → jp_L_law_653 Ln xs Q X K53 a2 a3 a5 a6 s0 r233 w239) ∧ (r240 = 0 → jp_L_law_649 Ln xs Q X K53 a2 a3 a5 a6 s0 r233 w239)) (fun _ _ => False))) (fun _ _ => False)))) (fun _ _ => False) := by
    intro t ht
    subst e3
    refine oc_file (t := t) h I (by omega) (by omega) ht (fun c1 c2 c3 w2 g2 => ?_) (fun c1 => absurd ⟨hq, h0, h99⟩ c1) (fun c1 c2 => absurd hd c2) (fun c1 c2 c3 w2 g2 => ?_)
    · have I2 := pi_file I c1 c2 c3
      have J2 := pj_file (c := 0) (x := v198) J I c3.2.1
      have hn : ca.1 < 16 := c3.2.2
      have jn : pw_jn (nI ca.1) (ca.1 + 1) := pz_jn (by omega) (by omega)
      have ic : pw_i (nI ca.1) = ca.1 := pz_i (by omega)
      refine ⟨fun q => absurd q (pq_n13 (pz_nn (by omega))), fun _ => ⟨fun q => absurd rfl q, fun _ => ?_⟩⟩
      refine rd_caseAt g2 I2 (by omega) (by omega) ⟨jn, ⟨by decide, by decide⟩⟩ (fun w3 g3 => ?_)
      obtain ⟨k0, -, k3, -⟩ := pj_cv (sq := sq) (ca := (ca.1 + 1, pz_u ca.2.1 31 ca.1 v198, pz_fi ca.2.2 (pz_fD sc sq mp v198 t 0 99) ca.1 100)) (n := ca.1)
      have z0 : (pz_u ca.2.1 31 ca.1 v198) 32 ca.1 = 0 := by
        rw [pz_uk (by decide)]; exact (I.gc.2.2.2 ca.1 (Nat.le_refl _)).1
      have z3 : pz_ct (fun s => sq.1 12 s = nI ca.1) 100 = 0 := by
        rw [pz_c0e (by omega)]
        rintro ⟨s, hs, e⟩
        rcases I.gl.2.1 s hs with h | h
        · rw [h] at e
          have e' := e.symm
          rw [pz_nm1 (by omega)] at e'
          exact e'
        · have := h.2
          rw [e, ic] at this
          omega
      rw [ic, k0]
      refine ⟨fun q => absurd z0 q, fun _ => ?_⟩
      refine rd_caseAt g3 I2 (by omega) (by omega) ⟨jn, ⟨by decide, by decide⟩⟩ (fun w4 g4 => ?_)
      rw [ic, k3]
      refine ⟨fun q => absurd z3 q, fun _ => ?_⟩
      unfold jp_L_law_649 jp_L_law_654
      refine ⟨fun q => absurd q (Int32.not_lt.mpr (pz_nn (by omega))), fun _ => ?_⟩
      unfold jp_L_law_667
      intro v190 e190
      rw [e190, pz_s1]
      exact E.go g4 I2 J2 (by omega) (by omega) (by omega) (Nat.le_refl _) (fun q => absurd rfl q)
    · refine ⟨fun _ => ?_, fun q => absurd rfl q⟩
      unfold jp_L_law_649 jp_L_law_654
      refine ⟨fun _ => ?_, fun q => absurd (by decide) q⟩
      unfold jp_L_law_667
      intro v190 e190
      rw [e190, Int32.add_zero]
      exact E.go g2 I J (by omega) (by omega) (by omega) (Nat.le_refl _) (fun q => absurd rfl q)
  by_cases e : (a8 &&& 1) = 1
  · exact key 1 (Or.inl ⟨e, rfl⟩)
  · exact key 0 (Or.inr ⟨e, rfl⟩)
/-- what the evidence leaves -/
theorem pq_ev {c : Nat} : (pz_ev ca c y z).2.1 32 = ca.2.1 32 ∧ (pz_ev ca c y z).2.1 33 = ca.2.1 33 ∧ (pz_ev ca c y z).2.2 = ca.2.2 ∧ (pz_ev ca c y z).1 = ca.1 := ⟨funext fun _ => rfl, funext fun _ => rfl, rfl, rfl⟩
theorem dl_judge {v223 r226 r228 : Int32} {n1 : Nat} (h : pz_c sc sq pa ri mp ca dr pe U V w0 w) (I : pz_I sc sq pa ri mp ca dr pe) (J : pj_J n1 sc sq pa ri ca pe) (hU : U ≤ 180010) (hV : V ≤ 3801000) (E : pq_E Ln xs Q X K53 a2 a5 a6 s0 n U1 V1 r) (hn1 : n1 ≤ n) (hU1 : U + 10 ≤ U1) (hV1 : V + 1000 ≤ V1) (hr : ri.1 = r)
    (hc : pw_jn v223 ca.1) (e6 : r226 = ca.2.1 32 (pw_i v223)) (e8 : r228 = pz_ct (fun s => sq.1 12 s = nI (pw_i v223)) 100) : jp_L_law_766 Ln xs Q X K53 a2 (nI ca.1) a5 a6 s0 v223 r226 r228 1 w := by
  subst hr
  unfold jp_L_law_766
  have hc16 := I.gc.1
  obtain ⟨d1, d2, d3, d4⟩ := J.2.2.2.2.1 _ hc.2
  obtain ⟨k0, k1, k3, k2⟩ := pj_cv (sq := sq) (ca := ca) (n := pw_i v223)
  have hi := hc.2
  refine ⟨fun ne => ?_, fun e0 => ?_⟩
  · rw [e6] at ne
    refine oc_appeal h I (by omega) (by omega) (fun c1 c2 w2 g2 => ?_) (fun c1 => absurd hc c1) (fun c1 c2 w2 g2 => ?_)
    · have I2 := pi_appeal I c1 c2
      have J2 := pj_appeal (c := pw_i v223) (v := ca.2.1 33 (pw_i v223) + 1) J
      obtain ⟨m0, m1, m3, m2⟩ := pj_cv (sq := sq) (ca := (ca.1, pz_u (pz_u ca.2.1 33 (pw_i v223) (ca.2.1 33 (pw_i v223) + 1)) 32 (pw_i v223) 0, ca.2.2)) (n := pw_i v223)
      have hpos : (0 : Int32) ≤ ca.2.1 33 (pw_i v223) + 1 := by
        rcases I.gc.2.2.1 (pw_i v223) with e | e | e <;> rw [e] <;> decide
      unfold jp_L_law_798
      refine ⟨fun q => absurd q (by decide), fun _ => ⟨fun _ => ?_, fun q => absurd q (by rw [e6]; exact ne)⟩⟩
      refine rd_caseAt g2 I2 (by omega) (by omega) ⟨hc, ⟨by decide, by decide⟩⟩ (fun w3 g3 => ?_)
      rw [m3, e8]
      refine ⟨fun q => absurd rfl q, fun _ => ⟨fun q => absurd q (pq_n13 hpos), fun _ => ?_⟩⟩
      refine rd_caseAt g3 I2 (by omega) (by omega) ⟨hc, ⟨by decide, by decide⟩⟩ (fun w4 g4 => ?_)
      have z0 := m0.trans (pz_us (F := pz_u ca.2.1 33 (pw_i v223) (ca.2.1 33 (pw_i v223) + 1)) (k := 32) (i := pw_i v223) (v := 0))
      have z1 := m1.trans ((pz_uk (F := pz_u ca.2.1 33 (pw_i v223) (ca.2.1 33 (pw_i v223) + 1)) (k := 32) (i := pw_i v223) (v := 0) (k' := 33) (i' := pw_i v223) (by decide)).trans (pz_us (F := ca.2.1) (k := 33) (i := pw_i v223)))
      rw [z0]
      refine ⟨fun q => absurd rfl q, fun _ => ?_⟩
      refine rd_caseAt g4 I2 (by omega) (by omega) ⟨hc, ⟨by decide, by decide⟩⟩ (fun w5 g5 => ?_)
      rw [z1]
      have fin := E.go g5 I2 J2 (by omega) (by omega) (by omega) (Nat.le_refl _) (fun q => absurd rfl q)
      exact ⟨fun q => absurd rfl q, fun _ => fin⟩
    · unfold jp_L_law_798
      refine ⟨fun q => absurd q (by decide), fun _ => ⟨fun _ => ?_, fun q => absurd q (by rw [e6]; exact ne)⟩⟩
      refine rd_caseAt g2 I (by omega) (by omega) ⟨hc, ⟨by decide, by decide⟩⟩ (fun w3 g3 => ?_)
      rw [k3, e8]
      exact ⟨fun q => absurd rfl q, fun _ => ⟨fun _ => E.go g3 I J (by omega) (by omega) (by omega) (Nat.le_refl _) (fun q => absurd rfl q), fun q => absurd rfl q⟩⟩
  · rw [e6] at e0
    refine oc_decide h I (by omega) (by omega) (fun c1 c2 w2 g2 => ?_) (fun c1 => absurd hc c1) (fun c1 c2 w2 g2 => ?_)
    · have I2 := pi_decide I c1 c2
      have J2 := pj_decide (c := pw_i v223) J I hc.2 c2.2
      have hc' : pw_jn v223 (pz_dca ca (pw_i v223)).1 := by
        unfold pz_dca
        split <;> exact hc
      obtain ⟨m0, m1, m3, m2⟩ := pj_cv (sq := pz_dsq sq pa ca (pw_i v223)) (ca := pz_dca ca (pw_i v223)) (n := pw_i v223)
      have l1 : pz_cn (pz_gt sq pa ca (pw_i v223)) 100 ≤ 100 := pz_cn_le
      have l2 : pz_cn (pz_rD sq pa (pw_i v223)) 100 ≤ 100 := pz_cn_le
      have l3 : pz_cn (fun s => sq.1 12 s = nI (pw_i v223)) 100 ≤ 100 := pz_cn_le
      have hpos : (0 : Int32) ≤ pz_ite (pz_wi ca (pw_i v223)) (pz_ct (pz_gt sq pa ca (pw_i v223)) 100) (pz_ct (pz_rD sq pa (pw_i v223)) 100) := by
        by_cases q : pz_wi ca (pw_i v223)
        · rw [pz_it q]; exact pz_nn (by omega)
        · rw [pz_if' q]; exact pz_nn (by omega)
      unfold jp_L_law_798
      refine ⟨fun q => absurd q (by decide), fun _ => ⟨fun q => absurd (e6.trans e0) q, fun _ => ⟨fun _ => ?_, fun q => absurd q (pq_n13 hpos)⟩⟩⟩
      refine rd_caseAt g2 I2 (by omega) (by omega) ⟨hc', ⟨by decide, by decide⟩⟩ (fun w3 g3 => ?_)
      rw [m0]
      by_cases q : pz_wi ca (pw_i v223)
      · have e32 : (pz_dca ca (pw_i v223)).2.1 32 (pw_i v223) = 1 := by
          unfold pz_dca
          rw [if_pos q, pj_gca32, if_pos rfl]
        have e12 : ∀ s, s < 100 → (pz_dsq sq pa ca (pw_i v223)).1 12 s = pz_ite (pz_gt sq pa ca (pw_i v223) s) (nI (pw_i v223)) (sq.1 12 s) := fun s hs => by
          unfold pz_dsq pz_tq
          rw [if_pos q, pz_mv12, if_pos hs]; rfl
        rw [e32]
        refine ⟨fun z => absurd rfl z, fun _ => ?_⟩
        refine rd_caseAt g3 I2 (by omega) (by omega) ⟨hc', ⟨by decide, by decide⟩⟩ (fun w4 g4 => ?_)
        rw [m3, e8]
        have mono : pz_cn (fun s => sq.1 12 s = nI (pw_i v223)) 100 ≤ pz_cn (fun s => (pz_dsq sq pa ca (pw_i v223)).1 12 s = nI (pw_i v223)) 100 := pj_cnP fun s hs z => by
          rw [e12 s hs]
          by_cases g : pz_gt sq pa ca (pw_i v223) s
          · exact pz_it g
          · rw [pz_if' g]; exact z
        refine ⟨fun z => absurd z (by rw [pq_ct, pq_ct, pz_lt (Nat.lt_of_le_of_lt pz_cn_le (by decide)) (Nat.lt_of_le_of_lt pz_cn_le (by decide))]; exact Nat.not_lt.mpr mono), fun _ => ?_⟩
        refine rd_caseAt g4 I2 (by omega) (by omega) ⟨hc', ⟨by decide, by decide⟩⟩ (fun w5 g5 => ?_)
        have e22 : (pz_dca ca (pw_i v223)).2.2 = ca.2.2 := by
          unfold pz_dca
          rw [if_pos q]; rfl
        have mono2 : pz_cn (pz_gt sq pa ca (pw_i v223)) 100 ≤ pz_cn (fun s => ¬ ca.2.2 (pw_i v223) s = 0) 100 := pj_cnP fun s hs z => z.1
        rw [m2, e22, pz_it q]
        refine ⟨fun z => absurd z (by rw [pq_ct, pq_ct, pz_lt (Nat.lt_of_le_of_lt pz_cn_le (by decide)) (Nat.lt_of_le_of_lt pz_cn_le (by decide))]; exact Nat.not_lt.mpr mono2), fun _ => ?_⟩
        have ec : (pz_dca ca (pw_i v223)).1 = ca.1 := by
          unfold pz_dca
          rw [if_pos q]; rfl
        have fin := E.go g5 I2 J2 (by omega) (by omega) (by omega) (Nat.le_refl _) (fun q => absurd rfl q)
        rw [ec] at fin
        exact fin
      · have e32 : (pz_dca ca (pw_i v223)).2.1 32 (pw_i v223) = 2 := by
          unfold pz_dca
          rw [if_neg q, pj_rca32, if_pos rfl]
        have e12 : ∀ s, s < 100 → (pz_dsq sq pa ca (pw_i v223)).1 12 s = pz_ite (sq.1 12 s = nI (pw_i v223)) (-1) (sq.1 12 s) := fun s hs => by
          unfold pz_dsq pz_rq
          rw [if_neg q, pz_mv12, if_pos hs]; rfl
        rw [e32]
        have mono : pz_cn (pz_rD sq pa (pw_i v223)) 100 ≤ pz_cn (fun s => sq.1 12 s = nI (pw_i v223)) 100 := pj_cnP fun s hs z => z.1
        refine ⟨fun _ => ⟨fun z => absurd z (by rw [e8, pz_if' q, pq_ct, pq_ct, pz_lt (Nat.lt_of_le_of_lt pz_cn_le (by decide)) (Nat.lt_of_le_of_lt pz_cn_le (by decide))]; exact Nat.not_lt.mpr mono), fun _ => ?_⟩, fun z => absurd z (by decide)⟩
        refine rd_caseAt g3 I2 (by omega) (by omega) ⟨hc', ⟨by decide, by decide⟩⟩ (fun w4 g4 => ?_)
        rw [m3]
        have e0' : pz_ct (fun s => (pz_dsq sq pa ca (pw_i v223)).1 12 s = nI (pw_i v223)) 100 = 0 := by
          rw [pz_c0e (by omega)]
          rintro ⟨s, hs, z⟩
          rw [e12 s hs] at z
          by_cases g : sq.1 12 s = nI (pw_i v223)
          · rw [pz_it g] at z
            have z' := z.symm
            rw [pz_nm1 (by omega)] at z'
            exact z'
          · rw [pz_if' g] at z
            exact g z
        have ec : (pz_dca ca (pw_i v223)).1 = ca.1 := by
          unfold pz_dca
          rw [if_neg q]; rfl
        have fin := E.go g4 I2 J2 (by omega) (by omega) (by omega) (Nat.le_refl _) (fun q => absurd rfl q)
        rw [ec] at fin
        exact ⟨fun z => absurd e0' z, fun _ => fin⟩
    · unfold jp_L_law_798
      refine ⟨fun q => absurd q (by decide), fun _ => ⟨fun q => absurd (e6.trans e0) q, fun _ => ⟨fun q => absurd rfl q, fun _ => ?_⟩⟩⟩
      refine rd_caseAt g2 I (by omega) (by omega) ⟨hc, ⟨by decide, by decide⟩⟩ (fun w3 g3 => ?_)
      rw [k0]
      exact ⟨fun q => absurd e0 q, fun _ => E.go g3 I J (by omega) (by omega) (by omega) (Nat.le_refl _) (fun q => absurd rfl q)⟩
theorem dl_case {v223 : Int32} {w200 : pw_W} (h : pz_c sc sq pa ri mp ca dr pe U V w0 w200) (I : pz_I sc sq pa ri mp ca dr pe) (J : pj_J n sc sq pa ri ca pe) (hU : U ≤ 180000) (hV : V ≤ 3800000) (E : pq_E Ln xs Q X K53 a2 a5 a6 s0 (n + 1) (U + 20) (V + 2000) ri.1) (e3 : a3 = nI ca.1) (hc : pw_jn v223 ca.1) (h8 : (0 : Int32) ≤ a8 >>> ((9 : Int32) &&& 31)) (hm : ∀ a : Int32, 0 ≤ a → pw_jn (a - a / 9 * 9) 9) (hpn : n ≤ 1000) : wp_X_caseAt w200 v223 0 (fun w225 r226 => wp_X_caseAt w225 v223 3 (fun w227 r228 => wp_L_on w227 5 v223 ((a8 >>> (7 &&& 31)) &&& 1) ((1 : Int32) + ((a8 >>> (9 &&& 31)) - (a8 >>> (9 &&& 31)) / 9 * 9)) 0 (fun w229 r230 => (¬ r230 = (-13) → jp_L_law_748 Ln xs Q X K53 a2 a3 a5 a6 s0 v223 r226 r228 0 w229) ∧ (r230 = (-13) → jp_L_law_748 Ln xs Q X K53 a2 a3 a5 a6 s0 v223 r226 r228 1 w229)) (fun _ _ => False)) (fun _ _ => False)) (fun _ _ => False) := by
  subst e3
  have hc16 := I.gc.1
  obtain ⟨k0, -, k3, -⟩ := pj_cv (sq := sq) (ca := ca) (n := pw_i v223)
  obtain ⟨g, hg, eg⟩ := pz_of (hm _ h8)
  refine rd_caseAt h I (by omega) (by omega) ⟨hc, ⟨by decide, by decide⟩⟩ (fun w1 g1 => ?_)
  refine rd_caseAt g1 I (by omega) (by omega) ⟨hc, ⟨by decide, by decide⟩⟩ (fun w2 g2 => ?_)
  rw [k0, k3]
  have hz : pz_in ((1 : Int32) + ((a8 >>> ((9 : Int32) &&& 31)) - (a8 >>> ((9 : Int32) &&& 31)) / 9 * 9)) 1 9 := by
    rw [eg, pz_l1, pz_add, pz_l9]
    exact ⟨by rw [pz_lt (by omega) (by omega)]; omega, by rw [pz_lt (by omega) (by omega)]; omega⟩
  have key : ∀ t : Int32, (((a8 >>> ((7 : Int32) &&& 31)) &&& 1) = 1 ∧ t = 1) ∨ (¬ ((a8 >>> ((7 : Int32) &&& 31)) &&& 1) = 1 ∧ t = 0) → wp_L_on w2 5 v223 ((a8 >>> ((7 : Int32) &&& 31)) &&& 1) ((1 : Int32) + ((a8 >>> ((9 : Int32) &&& 31)) - (a8 >>> ((9 : Int32) &&& 31)) / 9 * 9)) 0 (fun w229 r230 => (¬ r230 = (-13) → jp_L_law_748 Ln xs Q X K53 a2 (nI ca.1) a5 a6 s0 v223 (ca.2.1 32 (pw_i v223)) (pz_ct (fun s => sq.1 12 s = nI (pw_i v223)) 100) 0 w229) ∧ (r230 = (-13) → jp_L_law_748 Ln xs Q X K53 a2 (nI ca.1) a5 a6 s0 v223 (ca.2.1 32 (pw_i v223)) (pz_ct (fun s => sq.1 12 s = nI (pw_i v223)) 100) 1 w229)) (fun _ _ => False) := by
    intro t ht
    refine oc_evidence (y := t) g2 I (by omega) (by omega) ht (fun c1 c2 c3 w3 g3 => ?_) (fun c1 => absurd hc c1) (fun c1 c2 => absurd hz c2) (fun c1 c2 c3 w3 g3 => ?_)
    · have I2 := pi_evidence (y := t) I c1 c2 c3
      have J2 := pj_evidence (c := pw_i v223) (y := t) J c2
      obtain ⟨u1, u2, u3, u4⟩ := pq_ev (ca := ca) (c := pw_i v223) (y := t) (z := (1 : Int32) + ((a8 >>> ((9 : Int32) &&& 31)) - (a8 >>> ((9 : Int32) &&& 31)) / 9 * 9))
      have hpos : (0 : Int32) ≤ pz_ite (t = 0) (ca.2.1 36 (pw_i v223) + ((1 : Int32) + ((a8 >>> ((9 : Int32) &&& 31)) - (a8 >>> ((9 : Int32) &&& 31)) / 9 * 9))) (ca.2.1 35 (pw_i v223) + ((1 : Int32) + ((a8 >>> ((9 : Int32) &&& 31)) - (a8 >>> ((9 : Int32) &&& 31)) / 9 * 9))) := by
        obtain ⟨b1, b2, q1, q2, q3, q4⟩ := J2.2.2.2.2.2.1 (pw_i v223)
        obtain ⟨f1, f2, p1, p2, p3, p4⟩ := J.2.2.2.2.2.1 (pw_i v223)
        rw [eg, pz_l1, pz_add, p3, p4]
        by_cases e : t = 0
        · rw [pz_it e, pz_add]; exact pz_nn (by have := hpn; omega)
        · rw [pz_if' e, pz_add]; exact pz_nn (by have := hpn; omega)
      refine ⟨fun _ => ?_, fun q => absurd q (pq_n13 hpos)⟩
      unfold jp_L_law_748
      refine ⟨fun _ => ?_, fun q => absurd c3 q⟩
      unfold jp_L_law_758
      refine ⟨fun q => absurd rfl q, fun _ => ?_⟩
      have fin := dl_judge (v223 := v223) (r226 := ca.2.1 32 (pw_i v223)) (r228 := pz_ct (fun s => sq.1 12 s = nI (pw_i v223)) 100) g3 I2 J2 (by omega) (by omega) E (Nat.le_refl _) (by omega) (by omega) rfl hc (by rw [u1]) rfl
      exact fin
    · refine ⟨fun q => absurd rfl q, fun _ => ?_⟩
      unfold jp_L_law_748
      refine ⟨fun q => absurd q c3, fun _ => ?_⟩
      unfold jp_L_law_758
      refine ⟨fun q => absurd rfl q, fun _ => ?_⟩
      exact dl_judge g3 I J (by omega) (by omega) E (Nat.le_succ _) (by omega) (by omega) rfl hc rfl rfl
  by_cases e : ((a8 >>> ((7 : Int32) &&& 31)) &&& 1) = 1
  · exact key 1 (Or.inl ⟨e, rfl⟩)
  · exact key 0 (Or.inr ⟨e, rfl⟩)
end PDF
