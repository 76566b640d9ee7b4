/-! the law's turn: cut, burn, name, die, wind, pass -/
section PDH
variable {sc : pz_S} {sq : pz_Q} {pa : pz_P} {ri mp : pz_N} {ca : pz_P} {dr : pz_N} {pe : pz_Q} {U V U1 V1 : Nat} {w0 w w1 w2 : pw_W} {K : pw_W → Int32 → Prop} {x y z v : Int32} {i k len n m s p r c d T D : Nat} {Ln : Nat} {xs : Nat → Int32} {Q : pw_W → Int32 → Prop} {X : pw_W → Nat → Prop} {K53 : Int32 → Int32 → Int32 → Int32 → Int32 → pw_W → Prop} {a2 a3 a5 a6 a8 a9 a10 a12 a13 a14 a15 s0 : Int32}
theorem pq_sv0 : pz_sqv sc sq s 0 = sq.1 6 s := by
  unfold pz_sqv
  rw [pz_it rfl]
theorem pq_sv2 : pz_sqv sc sq s 2 = pz_bi sc sq s := by
  unfold pz_sqv
  rw [pz_if' (by decide), pz_if' (by decide), pz_it rfl]
theorem pq_w6 (I : pz_I sc sq pa ri mp ca dr pe) (hs : s < 100) : ∃ u, u ≤ 200 ∧ sq.1 6 s = nI u := by
  obtain ⟨h1, h2⟩ := I.gq.2.2.1 s hs
  refine ⟨pw_i (sq.1 6 s), ?_, (pw_nIi h1).symm⟩
  rw [← pw_nIi h1, pz_l200, pz_le (pz_ib _) (by decide)] at h2
  exact h2
theorem dl_cut {v74 : Int32} (h : pz_c sc sq pa ri mp ca dr pe U V w0 w) (I : pz_I sc sq pa ri mp ca dr pe) (J : pj_J n sc sq pa ri ca pe) (hU : U ≤ 180000) (hV : V ≤ 3800000) (E : pq_E Ln xs Q X K53 a2 a5 a6 a9 (n + 1) (U + 20) (V + 2000) ri.1) (e3 : a3 = nI ca.1)
    (hq : pw_jn a10 12) (hf : pw_jn a15 100) (iv : pz_in v74 1 20) : jp_L_law_1395 Ln xs Q X K53 a2 a3 a5 a6 a9 a10 a15 (sq.1 6 (pw_i a15)) 1 v74 11 w := by
  subst e3
  unfold jp_L_law_1395
  refine oc_cut h I (by omega) (by omega) (fun c1 c2 c3 w2 g2 => ?_) (fun c1 => absurd ⟨hq, hf⟩ c1) (fun c1 c2 => absurd iv c2) (fun c1 c2 c3 w2 g2 => ?_)
  · have I2 := pi_cut I c1 c2 c3
    have J2 : pj_J n sc (pz_u sq.1 6 (pw_i a15) (sq.1 6 (pw_i a15) - v74), sq.2) pa ri ca pe := pj_cut J
    have h6 := I.gq.2.2.1 _ hf.2
    have hpos := (pz_dec h6.1 h6.2 (Int32.le_trans (by decide) (Int32.not_lt.mp c2.1)) c3.2).1
    have e6 : pz_sqv sc (pz_u sq.1 6 (pw_i a15) (sq.1 6 (pw_i a15) - v74), sq.2) (pw_i a15) 0 = sq.1 6 (pw_i a15) - v74 := pq_sv0.trans pz_us
    refine ⟨fun _ => ⟨fun q => absurd q (by decide), fun _ => ?_⟩, fun q => absurd q (pq_n13 hpos)⟩
    unfold jp_L_law_1463
    refine ⟨fun q => absurd rfl q, fun _ => ?_⟩
    refine rd_square g2 I2 (by omega) (by omega) ⟨hf, ⟨by decide, by decide⟩⟩ (fun w3 g3 => ?_)
    rw [e6]
    have fin := E.go g3 I2 J2 (by omega) (by omega) (by omega) (Nat.le_refl _) (fun q => absurd rfl q)
    exact ⟨fun q => absurd rfl q, fun _ => ⟨fun _ => fin, fun q => absurd q (by decide)⟩⟩
  · refine ⟨fun q => absurd rfl q, fun _ => ?_⟩
    refine rd_square g2 I (by omega) (by omega) ⟨hf, ⟨by decide, by decide⟩⟩ (fun w3 g3 => ?_)
    rw [pq_sv0]
    have fin := E.go g3 I J (by omega) (by omega) (by omega) (Nat.le_refl _) (fun q => absurd rfl q)
    exact ⟨fun q => absurd rfl q, fun _ => fin⟩
theorem dl_burn {v74 : Int32} (h : pz_c sc sq pa ri mp ca dr pe U V w0 w) (I : pz_I sc sq pa ri mp ca dr pe) (J : pj_J n sc sq pa ri ca pe) (hU : U ≤ 180000) (hV : V ≤ 3800000) (E : pq_E Ln xs Q X K53 a2 a5 a6 a9 (n + 1) (U + 20) (V + 2000) ri.1) (e3 : a3 = nI ca.1)
    (hq : pw_jn a10 12) (hf : pw_jn a15 100) : jp_L_law_1395 Ln xs Q X K53 a2 a3 a5 a6 a9 a10 a15 (sq.1 6 (pw_i a15)) 0 v74 12 w := by
  subst e3
  unfold jp_L_law_1395
  obtain ⟨u, hu, eu⟩ := pq_w6 I hf.2
  refine oc_burn h I (by omega) (by omega) (fun c1 c2 w2 g2 => ?_) (fun c1 => absurd ⟨hq, hf⟩ c1) (fun c1 c2 w2 g2 => ?_)
  · have I2 := pi_burn I c1 c2
    have J2 : pj_J n sc (pz_u (pz_u sq.1 9 (pw_i a15) (sc 1)) 6 (pw_i a15) (sq.1 6 (pw_i a15) - pz_mn (sq.1 6 (pw_i a15)) 5), sq.2) pa ri ca pe := pj_burn J
    have ev : sq.1 6 (pw_i a15) - pz_mn (sq.1 6 (pw_i a15)) 5 = nI (u - min u 5) := by
      rw [eu, pz_l5, pq_mn (by omega) (by omega), pz_sub (Nat.min_le_left _ _)]
    have hpos : (0 : Int32) ≤ sq.1 6 (pw_i a15) - pz_mn (sq.1 6 (pw_i a15)) 5 := by
      rw [ev]; exact pz_nn (by omega)
    have e6 : pz_sqv sc (pz_u (pz_u sq.1 9 (pw_i a15) (sc 1)) 6 (pw_i a15) (sq.1 6 (pw_i a15) - pz_mn (sq.1 6 (pw_i a15)) 5), sq.2) (pw_i a15) 0 = sq.1 6 (pw_i a15) - pz_mn (sq.1 6 (pw_i a15)) 5 := pq_sv0.trans pz_us
    have e2 : pz_sqv sc (pz_u (pz_u sq.1 9 (pw_i a15) (sc 1)) 6 (pw_i a15) (sq.1 6 (pw_i a15) - pz_mn (sq.1 6 (pw_i a15)) 5), sq.2) (pw_i a15) 2 = 0 := by
      rw [pq_sv2]
      unfold pz_bi
      refine pz_if' fun z => z.1 ?_
      show ¬ (360 : Int32) ≤ sc 1 - (pz_u (pz_u sq.1 9 (pw_i a15) (sc 1)) 6 (pw_i a15) (sq.1 6 (pw_i a15) - pz_mn (sq.1 6 (pw_i a15)) 5)) 9 (pw_i a15)
      rw [pz_uk (by decide), pz_us, Int32.sub_self]
      decide
    have last : jp_L_law_1463 Ln xs Q X K53 a2 (nI ca.1) a5 a6 a9 a15 (sq.1 6 (pw_i a15) - pz_mn (sq.1 6 (pw_i a15)) 5) 0 (sq.1 6 (pw_i a15) - pz_mn (sq.1 6 (pw_i a15)) 5) (sq.1 6 (pw_i a15) - pz_mn (sq.1 6 (pw_i a15)) 5) w2 := by
      unfold jp_L_law_1463
      refine ⟨fun q => absurd rfl q, fun _ => ?_⟩
      refine rd_square g2 I2 (by omega) (by omega) ⟨hf, ⟨by decide, by decide⟩⟩ (fun w3 g3 => ?_)
      rw [e6]
      refine ⟨fun q => absurd rfl q, fun _ => ⟨fun q => absurd rfl q, fun _ => ?_⟩⟩
      refine rd_square g3 I2 (by omega) (by omega) ⟨hf, ⟨by decide, by decide⟩⟩ (fun w4 g4 => ?_)
      rw [e2]
      have fin := E.go g4 I2 J2 (by omega) (by omega) (by omega) (Nat.le_refl _) (fun q => absurd rfl q)
      exact ⟨fun q => absurd rfl q, fun _ => fin⟩
    refine ⟨fun _ => ⟨fun _ => ⟨fun q => ?_, fun q => ?_⟩, fun q => absurd rfl q⟩, fun q => absurd q (pq_n13 hpos)⟩
    · have e5 : sq.1 6 (pw_i a15) - 5 = sq.1 6 (pw_i a15) - pz_mn (sq.1 6 (pw_i a15)) 5 := by
        rw [eu, pz_l5, pz_le (by omega) (by omega)] at q
        rw [ev, eu, pz_l5, pz_sub q, Nat.min_eq_right q]
      rw [e5]
      exact last
    · have e5 : (0 : Int32) = sq.1 6 (pw_i a15) - pz_mn (sq.1 6 (pw_i a15)) 5 := by
        rw [eu, pz_l5, pz_le (by omega) (by omega)] at q
        rw [ev, pz_l0, Nat.min_eq_left (by omega), Nat.sub_self]
      have last' := last
      rw [← e5] at last'
      rw [← e5]
      exact last'
  · refine ⟨fun q => absurd rfl q, fun _ => ?_⟩
    refine rd_square g2 I (by omega) (by omega) ⟨hf, ⟨by decide, by decide⟩⟩ (fun w3 g3 => ?_)
    rw [pq_sv0]
    have fin := E.go g3 I J (by omega) (by omega) (by omega) (Nat.le_refl _) (fun q => absurd rfl q)
    exact ⟨fun q => absurd rfl q, fun _ => fin⟩
theorem dl_peat (h : pz_c sc sq pa ri mp ca dr pe U V w0 w) (I : pz_I sc sq pa ri mp ca dr pe) (J : pj_J n sc sq pa ri ca pe) (hU : U ≤ 180000) (hV : V ≤ 3800000) (E : pq_E Ln xs Q X K53 a2 a5 a6 a9 (n + 1) (U + 20) (V + 2000) ri.1) (e3 : a3 = nI ca.1)
    (hy : (0 : Int32) ≤ a8) (hq : pw_jn a10 12) (hf : pw_jn a15 100) : wp_X_square w a15 0 (fun w104 r105 => (¬ ((a8 >>> (3 &&& 31)) &&& 1) = 0 → jp_L_law_1369 Ln xs Q X K53 a2 a3 a5 a6 a8 a9 a10 a15 r105 0 w104) ∧ (((a8 >>> (3 &&& 31)) &&& 1) = 0 → jp_L_law_1369 Ln xs Q X K53 a2 a3 a5 a6 a8 a9 a10 a15 r105 1 w104)) (fun _ _ => False) := by
  have hk : pw_jn ((a8 >>> ((4 : Int32) &&& 31)) - (a8 >>> ((4 : Int32) &&& 31)) / 20 * 20) 20 := pq_r (d := 20) (pq_s hy _ 4 (by decide)) (by decide) (by decide)
  obtain ⟨u, hu, eu⟩ := pz_of hk
  refine rd_square h I (by omega) (by omega) ⟨hf, ⟨by decide, by decide⟩⟩ (fun w1 g1 => ?_)
  rw [pq_sv0]
  refine ⟨fun _ => ?_, fun _ => ?_⟩
  · unfold jp_L_law_1369
    exact fun v74 e74 => ⟨fun _ => dl_burn g1 I J hU hV E e3 hq hf, fun q => absurd rfl q⟩
  · unfold jp_L_law_1369
    refine fun v74 e74 => ⟨fun q => absurd q (by decide), fun _ => dl_cut g1 I J hU hV E e3 hq hf ?_⟩
    rw [e74, eu, pz_l1, pz_add, pz_l20]
    exact ⟨by rw [pz_lt (by omega) (by omega)]; omega, by rw [pz_lt (by omega) (by omega)]; omega⟩
theorem dl_1562 (h : pz_c sc sq pa ri mp ca dr pe U1 V1 w0 w) (I : pz_I sc sq pa ri mp ca dr pe) (J : pj_J n sc sq pa ri ca pe) (E : pq_E Ln xs Q X K53 a2 a5 a6 a9 (n + 1) (U + 20) (V + 2000) r) (hu : U1 ≤ U + 20) (hv : V1 ≤ V + 2000) (hr : ri.1 = r) (hx : x = -13 ∨ ∃ a : Nat, a ≤ 40 ∧ x = nI a) : jp_L_law_1562 Ln xs Q X K53 a2 (nI ca.1) a5 a6 a9 x w := by
  subst hr
  have fin := E.go h I J (by omega) hu hv (Nat.le_refl _) (fun q => absurd rfl q)
  unfold jp_L_law_1562
  rcases hx with rfl | ⟨a, ha, rfl⟩
  · exact ⟨fun _ => fin, fun q => absurd rfl q⟩
  · refine ⟨fun _ => fin, fun _ => ⟨fun q => absurd q (Int32.not_lt.mpr (pz_nn (by omega))), fun _ => ⟨fun q => absurd q (by rw [pz_l40, pz_lt (by omega) (by omega)]; omega), fun _ => fin⟩⟩⟩
theorem dl_name {v1 : Int32} (h : pz_c sc sq pa ri mp ca dr pe U V w0 w) (I : pz_I sc sq pa ri mp ca dr pe) (J : pj_J n sc sq pa ri ca pe) (hU : U ≤ 180000) (hV : V ≤ 3800000) (E : pq_E Ln xs Q X K53 a2 a5 a6 a9 (n + 1) (U + 20) (V + 2000) ri.1) (hq : pw_jn a10 12) (hv1 : pw_jn v1 12) : wp_L_on w 13 a10 v1 0 0 (fun w100 r101 => jp_L_law_1562 Ln xs Q X K53 a2 (nI ca.1) a5 a6 a9 r101 w100) (fun _ _ => False) := by
  refine oc_name h I (by omega) (by omega) (fun c1 c2 w2 g2 => ?_) (fun c1 => absurd ⟨hq, hv1⟩ c1) (fun c1 c2 w2 g2 => ?_)
  · have I2 := pi_name I c1 c2
    have J2 := pj_name (A := pz_u pe.1 44 (pw_i a10) (pe.1 44 (pw_i a10) + 1)) (B := pz_u pe.2 (pw_i a10) (pw_i (pe.1 44 (pw_i a10))) v1) J (fun p => pz_uk (by decide))
    obtain ⟨d, h1, h2, -⟩ := I.gh.2 _ hq.2
    exact dl_1562 g2 I2 J2 E (by omega) (by omega) rfl (Or.inr ⟨d + 1, by omega, by rw [h2, pz_s1]⟩)
  · exact dl_1562 g2 I J E (by omega) (by omega) rfl (Or.inl rfl)
theorem dl_die (h : pz_c sc sq pa ri mp ca dr pe U V w0 w) (I : pz_I sc sq pa ri mp ca dr pe) (J : pj_J n sc sq pa ri ca pe) (hU : U ≤ 180000) (hV : V ≤ 3800000) (E : pq_E Ln xs Q X K53 a2 a5 a6 a9 (n + 1) (U + 20) (V + 2000) ri.1) (hq : pw_jn a10 12) : wp_L_on w 14 a10 0 0 0 (fun w100 r101 => jp_L_law_1562 Ln xs Q X K53 a2 (nI ca.1) a5 a6 a9 r101 w100) (fun _ _ => False) := by
  refine oc_die h I (by omega) (by omega) (fun c1 c2 w2 g2 => ?_) (fun c1 => absurd hq c1) (fun c1 c2 w2 g2 => ?_)
  · have I2 := pi_die I c1 c2
    have J2 := pj_die (x := a10) J I c1
    have hp40 := I.gp.1.2
    have hca : (pz_xrc sq pa ca pe a10).2.1 = ca.1 := (pz_rcI (x := a10) (pz_xip (x := a10) I.gp (pz_xhh I.gh c1).2.2) (pz_xil I.gl) I.gc (pz_xiq I.gq) ca.1 (Nat.le_refl _)).1
    have hn : pz_cn (pz_own pa a10) pa.1 ≤ pa.1 := pz_cn_le
    have hx : ∃ a : Nat, a ≤ 40 ∧ pz_ha (pz_xL pe a10) (pz_own pa a10) pa.1 = nI a := by
      unfold pz_ha
      split
      · exact ⟨0, by omega, rfl⟩
      · exact ⟨_, by omega, rfl⟩
    have fin := dl_1562 g2 I2 J2 E (by omega) (by omega) rfl (Or.inr hx)
    rw [hca] at fin
    exact fin
  · exact dl_1562 g2 I J E (by omega) (by omega) rfl (Or.inl rfl)
theorem dl_wind (h : pz_c sc sq pa ri mp ca dr pe U V w0 w) (I : pz_I sc sq pa ri mp ca dr pe) (J : pj_J n sc sq pa ri ca pe) (hU : U ≤ 180000) (hV : V ≤ 3800000) (E : pq_E Ln xs Q X K53 a2 a5 a6 a9 (n + 1) (U + 20) (V + 2000) ri.1) (e3 : a3 = nI ca.1) (hy : (0 : Int32) ≤ a8) (e9 : a9 = 13) : jp_L_law_1593 Ln xs Q X K53 a2 a3 a5 a6 a8 a9 a10 w := by
  subst e3
  unfold jp_L_law_1593
  have hk : pw_jn ((a8 >>> ((3 : Int32) &&& 31)) - (a8 >>> ((3 : Int32) &&& 31)) / 6 * 6) 6 := pq_r (d := 6) (pq_s hy _ 3 (by decide)) (by decide) (by decide)
  obtain ⟨u, hu, eu⟩ := pz_of hk
  refine ⟨fun q => absurd e9 q, fun _ => ?_⟩
  intro v44 e44
  rw [eu] at e44
  have i9 : pz_in v44 0 9 := by
    rw [e44]
    exact ⟨Int32.not_lt.mpr (pz_nn (by omega)), by rw [pz_l9, pz_lt (by omega) (by omega)]; omega⟩
  have I2 := pi_wind I i9
  have J2 := pj_wind J i9
  have I3 := pi_wind I2 i9
  have J3 := pj_wind J2 i9
  obtain ⟨f1, f2⟩ := J.2.2.2.2.2.2.1
  refine rd_wind h I (by omega) (by omega) i9 (fun w1 g1 => ?_)
  refine ⟨fun q => absurd q (Int32.not_lt.mpr f1), fun _ => ⟨fun q => absurd (Int32.le_trans q f2) (by decide), fun _ => ?_⟩⟩
  refine rd_wind g1 I2 (by omega) (by omega) i9 (fun w2 g2 => ?_)
  have fin := E.go g2 I3 J3 (by omega) (by omega) (by omega) (Nat.le_refl _) (fun q => absurd rfl q)
  have e2 : (pz_u1 sc 2 v44) 2 = v44 := if_pos rfl
  exact ⟨fun q => absurd e2 q, fun _ => fin⟩
theorem pq_dv (hT : T < 30000) : nI T / 360 = nI (T / 360) := by
  rw [show (360 : Int32) = nI 360 from rfl, pk_div (by omega) (by decide) (by decide)]
theorem dl_pass1 {l : Nat} (h : pz_c sc sq pa ri mp ca dr pe U V w0 w) (I : pz_I sc sq pa ri mp ca dr pe) (J : pj_J n sc sq pa ri ca pe) (hU : U ≤ 180000) (hV : V ≤ 3800000) (E : pq_E Ln xs Q X K53 a2 a5 a6 a9 (n + 1) (U + 20) (V + 2000) ri.1) (e3 : a3 = nI ca.1) (hx : 0 ≤ x) (h0 : 0 < l) (hl : l ≤ 200) (hq : pw_jn a10 12) : jp_L_law_1684 Ln xs Q X K53 a2 a3 a5 a6 a9 a10 (sc 1) (pe.1 45 (pw_i a10)) (nI l) x 1 w := by
  subst e3
  unfold jp_L_law_1684
  obtain ⟨u, hu, eu⟩ := pz_of (pq_r (d := l) hx h0 (by omega))
  refine ⟨fun q => absurd q (by rw [pz_l0, pz_eq (by omega) (by omega)]; omega), fun v23 e23 => ?_⟩
  have ev : v23 = nI (1 + u) := by rw [e23, eu, pz_l1, pz_add]
  have i200 : pz_in v23 1 200 := by
    rw [ev, pz_l1, pz_l200]
    exact ⟨by rw [pz_lt (by omega) (by omega)]; omega, by rw [pz_lt (by omega) (by omega)]; omega⟩
  refine oc_pass h I (by omega) (by omega) (fun c1 c2 w2 g2 => ?_) (fun c1 => absurd i200 c1) (fun c1 c2 w2 g2 => ?_)
  · have I2 := pi_pass I c1 c2
    obtain ⟨T, D, eT, eD, hTD, hD⟩ := pz_psT I.gq.1 c1 c2
    have iD : pw_i v23 = D := by rw [eD, pz_i (by omega)]
    rw [iD] at I2 g2 ⊢
    have J2 := pj_pass J I eT hTD
    have e0 : (pz_u1 sc 0 0) 1 = nI T := eT
    have e1 : (pz_ps (pz_u1 sc 0 0) sq pa dr pe D).1 1 = nI (T + D) := pz_ps1 e0
    have es : sc 1 + v23 = nI (T + D) := by rw [eT, eD, pz_add]
    obtain ⟨a, ea, ha⟩ := J.2.2.2.2.2.2.2.1 _ hq.2
    obtain ⟨b, eb, hb, hb2⟩ := pj_ps45 (sc := pz_u1 sc 0 0) (sq := sq) (pa := pa) (dr := dr) ea (n := D)
    have hT1 : pw_i (sc 1) = T := by rw [eT, pz_i (by omega)]
    rw [hT1] at ha
    have hbb : b ≤ 1100 * 20000 := by
      refine Nat.le_trans hb2 ?_
      have h1 : a + 1100 * D ≤ 1100 * T + 1100 * D := Nat.add_le_add_right ha _
      rw [← Nat.mul_add] at h1
      exact Nat.le_trans h1 (Nat.mul_le_mul_left _ hTD)
    rw [e1, es]
    refine ⟨fun _ => ⟨fun q => absurd rfl q, fun _ => ?_⟩, fun q => absurd q (pq_n13 (pz_nn (by omega)))⟩
    refine rd_paid g2 I2 (by omega) (by omega) hq (fun w3 g3 => ?_)
    rw [eb, ea]
    refine ⟨fun q => absurd q (by rw [pz_lt (by omega) (by omega)]; omega), fun _ => ⟨fun _ => ?_, fun q => ?_⟩⟩
    · exact E.go g3 I2 J2 (by omega) (by omega) (by omega) (Nat.le_refl _) (fun q => absurd rfl q)
    · rw [eT, pq_dv (by omega), pq_dv (by omega), pz_lt (by omega) (by omega)] at q
      have en := pj_psn (sq := sq) (pa := pa) (dr := dr) (pe := pe) e0 (n := D) hTD (fun d d1 d2 d3 => q (by omega))
      refine rd_paid g3 I2 (by omega) (by omega) hq (fun w4 g4 => ?_)
      have fin := E.go g4 I2 J2 (by omega) (by omega) (by omega) (Nat.le_refl _) (fun q => absurd rfl q)
      rw [en, ea]
      exact ⟨fun q => absurd rfl q, fun _ => fin⟩
  · have fin := E.go g2 I J (by omega) (by omega) (by omega) (Nat.le_refl _) (fun q => absurd rfl q)
    refine ⟨fun q => absurd rfl q, fun _ => ⟨fun q => absurd (fun z => absurd q (Int32.not_le.mpr z)) c2, fun _ => fin⟩⟩
theorem dl_pass (h : pz_c sc sq pa ri mp ca dr pe U V w0 w) (I : pz_I sc sq pa ri mp ca dr pe) (J : pj_J n sc sq pa ri ca pe) (hU : U ≤ 180000) (hV : V ≤ 3800000) (E : pq_E Ln xs Q X K53 a2 a5 a6 a9 (n + 1) (U + 20) (V + 2000) ri.1) (e3 : a3 = nI ca.1) (hy : (0 : Int32) ≤ a8) (e9 : ¬ a9 = 13) (hq : pw_jn a10 12) : jp_L_law_1593 Ln xs Q X K53 a2 a3 a5 a6 a8 a9 a10 w := by
  unfold jp_L_law_1593
  refine ⟨fun _ => ?_, fun q => absurd q e9⟩
  refine rd_today h (fun w1 g1 => ?_)
  refine rd_paid g1 I (by omega) (by omega) hq (fun w2 g2 => ?_)
  have hx : (0 : Int32) ≤ a8 >>> ((3 : Int32) &&& 31) := pq_s hy _ 3 (by decide)
  exact ⟨fun _ => dl_pass1 (l := 30) g2 I J hU hV E e3 hx (by omega) (by omega) hq, fun _ => dl_pass1 (l := 200) g2 I J hU hV E e3 hx (by omega) (by omega) hq⟩
theorem dl_13 (h : pz_c sc sq pa ri mp ca dr pe U V w0 w) (I : pz_I sc sq pa ri mp ca dr pe) (J : pj_J n sc sq pa ri ca pe) (hU : U ≤ 180000) (hV : V ≤ 3800000) (E : pq_E Ln xs Q X K53 a2 a5 a6 a9 (n + 1) (U + 20) (V + 2000) ri.1) (e3 : a3 = nI ca.1) (hy : (0 : Int32) ≤ a8) (hq : pw_jn a10 12) (e9 : a9 = 13) : (¬ ((a8 >>> (20 &&& 31)) &&& 1) = 0 → jp_L_law_1593 Ln xs Q X K53 a2 a3 a5 a6 a8 a9 a10 w) ∧ (((a8 >>> (20 &&& 31)) &&& 1) = 0 → (¬ ((a8 >>> (21 &&& 31)) &&& 7) = 0 → wp_L_on w 13 a10 ((a8 >>> (3 &&& 31)) - (a8 >>> (3 &&& 31)) / 12 * 12) 0 0 (fun w100 r101 => jp_L_law_1562 Ln xs Q X K53 a2 a3 a5 a6 a9 r101 w100) (fun _ _ => False)) ∧ (((a8 >>> (21 &&& 31)) &&& 7) = 0 → wp_L_on w 14 a10 0 0 0 (fun w102 r103 => jp_L_law_1562 Ln xs Q X K53 a2 a3 a5 a6 a9 r103 w102) (fun _ _ => False))) := by
  refine ⟨fun _ => dl_wind h I J hU hV E e3 hy e9, fun _ => ⟨fun _ => ?_, fun _ => ?_⟩⟩
  · subst e3
    exact dl_name h I J hU hV E hq (pq_r (d := 12) (pq_s hy _ 3 (by decide)) (by decide) (by decide))
  · subst e3
    exact dl_die h I J hU hV E hq
end PDH
