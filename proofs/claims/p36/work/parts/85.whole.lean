/-! isWhole -/
section PIW
variable {sc : pz_S} {sq : pz_Q} {pa : pz_P} {ri mp : pz_N} {ca : pz_P} {dr : pz_N} {pe : pz_Q} {U V : Nat} {w0 w w1 w2 : pw_W} {K : pw_W → Int32 → Prop} {X : pw_W → Nat → Prop} {x y z v : Int32} {i k len n s p : Nat}
theorem pj_df {p : Nat} : pw_df 200 p = 0 := by
  have e : pw_ty 200 p = 0 := rfl
  unfold pw_df
  rw [e]
  exact if_neg (by omega)
theorem pj_root (J : pj_c sq pa) (h : ¬ pz_ct (fun t => sq.1 8 t = nI p) 100 = 0) (hp : p < 40) : pz_ro pa (nI p) = nI p := by
  have h : pz_ex (fun t => sq.1 8 t = nI p) 100 := Classical.byContradiction fun q => h (by
    rw [pz_c0e (by omega)]; exact q)
  obtain ⟨t, ht, e⟩ := h
  have := J t ht
  rw [e] at this
  exact this
theorem pj_last (J : pj_a sq) (hl : pz_il sq pa ca) (hp : pa.1 ≤ 40) (hs : s < 100) : pz_chv sq (nI s) 0 = sq.1 8 s := by
  obtain ⟨l, e, h1, h2⟩ := hl.gb hp hs
  have h := J s hs
  unfold pz_chv
  rw [pz_i (by omega), pz_if' (by rw [e, pz_l0, pz_le (by omega) (by omega)]; omega), ← h, e]
  have e1 : nI l - 1 - 0 = nI (l - 1) := by
    rw [pz_l1, pz_sub (by omega), pz_l0, pz_sub (by omega)]; rfl
  rw [e1, pz_i (by omega), pz_i (by omega)]
theorem pj_ctx {P : Nat → Prop} {n : Nat} (h : P n) : pz_ct P (n + 1) = pz_ct P n + 1 := by
  rw [pz_ctS, pz_bt h]
theorem pj_cty {P : Nat → Prop} {n : Nat} (h : ¬ P n) : pz_ct P (n + 1) = pz_ct P n := by
  rw [pz_ctS, pz_bf h]; exact Int32.add_zero _
set_option maxHeartbeats 4000000 in
theorem wl_isWhole (h : pz_c sc sq pa ri mp ca dr pe U V w0 w) (I : pz_I sc sq pa ri mp ca dr pe) (J : pj_J n sc sq pa ri ca pe) (hU : U ≤ 180000) (hV : V ≤ 3800000) (k : ∀ w1, pz_c sc sq pa ri mp ca dr pe (U + 1) (V + 40) w1 w1 → K w1 1) : wp_L_isWhole w K X := by
  unfold wp_L_isWhole
  refine ⟨pz_c.rm h I (by omega) (by omega), fun w59 e59 v61 e61 => ?_⟩
  rw [show pw_i 40 = 40 from pz_i (n := 40) (by omega)] at e59
  have h1 : pz_c sc sq pa ri mp ca dr pe (U + 1) (V + 40) w59 w59 := by rw [e59]; exact pz_c.nw h
  obtain ⟨b, eb⟩ : ∃ b, b = pw_nv w 200 := ⟨_, rfl⟩
  have hb : b < 2147483648 := by
    have := pz_knv h 200
    have := pz_kru h
    have := pz_hL I
    have := I.gr.1
    omega
  have hln : pw_ln w59 200 b = 40 := by rw [e59, eb]; exact pz_nwls (by decide)
  have hz : ∀ p, w59.1 200 b p = 0 := fun p => by rw [e59, eb]; exact pz_nws.trans pj_df
  rw [← eb] at e61
  subst e61
  have ib : pw_i (nI b) = b := pz_i hb
  have hp40 := I.gp.1.2
  have hUU : U + 1 ≤ 190000 := by omega
  have hVV : V + 40 ≤ 3900000 := by omega
  generalize U + 1 = U1 at h1 hUU k
  generalize V + 40 = V1 at h1 hVV k
  clear e59 eb h hU hV
  refine pz_up (F := fun k s w => lp_L_isWhole_12 K X k (nI b) (pz_su (fun _ => True) (sq.1 7) s) 1 (nI s) w) (I := fun s w => pz_c sc sq pa ri mp ca dr pe U1 V1 w w ∧ pw_ln w 200 b = 40 ∧ ∀ p, p < 40 → w.1 200 b p = pz_ct (fun t => sq.1 8 t = nI p) s) 100 (fun s w4 k5 hs hI ih => ?_) (fun w4 hI => ?_) ⟨h1, hln, fun p _ => hz p⟩
  · obtain ⟨h4, l4, a4⟩ := hI
    rw [lp_L_isWhole_12_s]
    have hjs : pw_jn (nI s) 100 := pz_jn hs (by omega)
    have is : pw_i (nI s) = s := pz_i (by omega)
    have h8 := I.gl.1 s hs
    refine ⟨fun q => absurd q (by rw [pz_l100, pz_le (by omega) (by omega)]; omega), fun _ => ⟨fun q => absurd q (by decide), fun _ => ?_⟩⟩
    refine rd_parcelOf h4 I hUU hVV hjs (fun w5 g5 => ?_)
    rw [is]
    refine ⟨fun q => absurd q (Int32.not_lt.mpr h8.1), fun _ => ?_⟩
    refine rd_parcels g5 (fun w6 g6 => ?_)
    obtain ⟨u, hu, e8⟩ := pz_of h8
    refine ⟨fun q => absurd q (by rw [e8, pz_le (by omega) (by omega)]; omega), fun _ => ?_⟩
    refine rd_chain g6 I hUU hVV ⟨hjs, by decide⟩ (fun w7 g7 => ?_)
    rw [pj_last J.1 I.gl hp40 hs]
    refine ⟨fun q => absurd rfl q, fun _ => ?_⟩
    unfold jp_L_isWhole_62
    refine ⟨fun q => absurd q (by decide), fun _ => ?_⟩
    unfold jp_L_isWhole_74
    have l7 : pw_ln w7 200 b = 40 := (congrFun g7.f2 b).trans l4
    have a7 : ∀ p, w7.1 200 b p = w4.1 200 b p := fun p => congrFun (congrFun g7.f1 b) p
    rw [ib]
    refine ⟨pz_nn hb, by rw [l7]; exact pz_jw h8 hp40, by rw [l7]; exact pz_jw h8 hp40, fun w27 e27 => ?_⟩
    have g27 : pz_c sc sq pa ri mp ca dr pe U1 V1 w27 w27 := by rw [e27]; exact g7.st
    refine rd_square g27 I hUU hVV ⟨hjs, ⟨by decide, by decide⟩⟩ (fun w29 g29 => ?_)
    refine rd_square g29 I hUU hVV ⟨hjs, ⟨by decide, by decide⟩⟩ (fun w31 g31 => ?_)
    rw [is]
    have q1 : pz_sqv sc sq s 1 = sq.1 7 s := by
      unfold pz_sqv
      rw [pz_if' (by decide), pz_it rfl]
    have q0 : pz_sqv sc sq s 0 = sq.1 6 s := by
      unfold pz_sqv
      rw [pz_it rfl]
    have q2 : pz_sqv sc sq s 2 = pz_bi sc sq s := by
      unfold pz_sqv
      rw [pz_if' (by decide), pz_if' (by decide), pz_it rfl]
    rw [q1, q0]
    have f7 := I.gq.2.1 s hs
    have f6 := I.gq.2.2.1 s hs
    obtain ⟨bi, hbi, ebi⟩ := pj_bi (sc := sc) (sq := sq) hs
    refine fun v33 e33 => ⟨fun q => absurd q (by decide), fun _ => ⟨fun q => absurd q (Int32.not_lt.mpr f7.1), fun _ => ⟨fun q => absurd q (Int32.not_lt.mpr f7.2), fun _ => ⟨fun q => absurd q (Int32.not_lt.mpr f6.1), fun _ => ⟨fun q => absurd q (Int32.not_lt.mpr f6.2), fun _ => ?_⟩⟩⟩⟩⟩
    refine rd_square g31 I hUU hVV ⟨hjs, ⟨by decide, by decide⟩⟩ (fun w40 g40 => ?_)
    rw [is, q2, ebi]
    refine ⟨fun q => absurd q (Int32.not_lt.mpr (pz_nn (by omega))), fun _ => ?_⟩
    refine rd_square g40 I hUU hVV ⟨hjs, ⟨by decide, by decide⟩⟩ (fun w43 g43 => ?_)
    rw [is, q2, ebi]
    refine ⟨fun q => absurd q (by rw [pz_l10, pz_le (by omega) (by omega)]; omega), fun _ => ?_⟩
    rw [e33, pz_s1]
    have ih1 := ih w43 ⟨g43.re, ?_, ?_⟩
    · rw [pz_suS, pz_iT] at ih1
      exact ih1
    · have := congrFun g43.f2 b
      refine Eq.trans this ?_
      rw [e27]; exact l7
    · intro p hp
      have e43 : w43.1 200 b p = w27.1 200 b p := congrFun (congrFun g43.f1 b) p
      have e27' : w27.1 200 b p = if p = u then w4.1 200 b u + 1 else w4.1 200 b p := by
        rw [e27, e8, pz_i (by omega)]
        show (if 200 = 200 ∧ b = b ∧ p = u then w7.1 200 b u + 1 else w7.1 200 b p) = _
        rw [a7, a7]
        by_cases e : p = u
        · rw [if_pos ⟨rfl, rfl, e⟩, if_pos e]
        · rw [if_neg (fun z => e z.2.2), if_neg e]
      rw [e43, e27']
      by_cases e : p = u
      · rw [if_pos e, a4 u (by omega), e, pj_ctx (P := fun t => sq.1 8 t = nI u) e8]
      · rw [if_neg e, a4 p hp, pj_cty (P := fun t => sq.1 8 t = nI p) (fun z => e (by rw [e8, pz_eq (by omega) (by omega)] at z; exact z.symm))]
  · obtain ⟨h4, l4, a4⟩ := hI
    rw [lp_L_isWhole_12_s]
    refine ⟨fun _ => ?_, fun q => absurd (by rw [pz_l100]; exact Int32.le_refl _) q⟩
    unfold jp_L_isWhole_165
    refine pz_up (F := fun k p w => lp_L_isWhole_168 K X k (nI b) (pz_su (fun _ => True) (sq.1 7) 100) 1 (nI p) w) (I := fun p w => pz_c sc sq pa ri mp ca dr pe U1 V1 w w ∧ pw_ln w 200 b = 40 ∧ ∀ p, p < 40 → w.1 200 b p = pz_ct (fun t => sq.1 8 t = nI p) 100) pa.1 (fun p w4 k5 hs hI ih => ?_) (fun w4 hI => ?_) ⟨h4, l4, a4⟩
    · obtain ⟨h4, l4, a4⟩ := hI
      rw [lp_L_isWhole_168_s]
      have hjs : pw_jn (nI p) pa.1 := pz_jn hs (by omega)
      have is : pw_i (nI p) = p := pz_i (by omega)
      refine rd_parcels h4 (fun w12 g12 => ?_)
      refine ⟨fun q => absurd q (by rw [pz_le (by omega) (by omega)]; omega), fun _ => ⟨fun q => absurd q (by decide), fun _ => ?_⟩⟩
      refine rd_area g12 I hUU hVV hjs (fun w16 g16 => ?_)
      have l16 : pw_ln w16 200 b = 40 := (congrFun g16.f2 b).trans l4
      have a16 : ∀ p, w16.1 200 b p = w4.1 200 b p := fun p => congrFun (congrFun g16.f1 b) p
      have fin : lp_L_isWhole_168 K X k5 (nI b) (pz_su (fun _ => True) (sq.1 7) 100) 1 (nI p + 1) w16 := by
        rw [pz_s1]
        exact ih w16 ⟨g16.re, l16, fun p hp => (a16 p).trans (a4 p hp)⟩
      rw [ib, is, a16, a4 p (by omega)]
      refine ⟨pz_nn hb, by rw [l16]; exact pz_jw hjs hp40, fun _ => fin, fun q => ⟨by rw [l16]; exact pz_jw hjs hp40, fun q2 => ?_, fun _ => fin⟩⟩
      have er := pj_root J.2.2.1 q2 (by omega)
      rw [er] at q
      exact absurd rfl q
    · obtain ⟨h4, l4, a4⟩ := hI
      rw [lp_L_isWhole_168_s]
      refine rd_parcels h4 (fun w12 g12 => ?_)
      refine ⟨fun _ => ?_, fun q => absurd (Int32.le_refl _) q⟩
      unfold jp_L_isWhole_213
      refine ⟨fun q => absurd q (by decide), fun _ => ?_⟩
      refine rd_water g12 I hUU hVV ⟨by decide, by decide⟩ (fun w2 g2 => ?_)
      have q0 : pz_wav sc sq 0 = pz_su (fun _ => True) (sq.1 7) 100 := by
        unfold pz_wav
        rw [pz_it rfl]
      have q1 : pz_wav sc sq 1 = sc 3 := by
        unfold pz_wav
        rw [pz_if' (by decide), pz_it rfl]
      have q2 : pz_wav sc sq 2 = sc 4 := by
        unfold pz_wav
        rw [pz_if' (by decide), pz_if' (by decide), pz_it rfl]
      have q3 : pz_wav sc sq 3 = sc 5 := by
        unfold pz_wav
        rw [pz_if' (by decide), pz_if' (by decide), pz_if' (by decide)]
      rw [q0]
      refine ⟨fun q => absurd rfl q, fun _ => ?_⟩
      refine rd_water g2 I hUU hVV ⟨by decide, by decide⟩ (fun w5 g5 => ?_)
      refine rd_water g5 I hUU hVV ⟨by decide, by decide⟩ (fun w7 g7 => ?_)
      refine rd_water g7 I hUU hVV ⟨by decide, by decide⟩ (fun w9 g9 => ?_)
      rw [q1, q2, q3]
      have hJ : pz_su (fun _ => True) (sq.1 7) 100 = 4000 + sc 3 - sc 4 - sc 5 := J.2.1
      exact ⟨fun q => absurd hJ q, fun _ => k _ g9.re⟩
end PIW
