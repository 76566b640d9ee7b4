/-! the law's turn: register, graze, rain, dig -/
section PDG
variable {sc : pz_S} {sq : pz_Q} {pa : pz_P} {ri mp : pz_N} {ca : pz_P} {dr : pz_N} {pe : pz_Q} {U V U1 V1 : Nat} {w0 w w1 w2 : pw_W} {K : pw_W → Int32 → Prop} {x y z v : Int32} {i k len n m s p r c d : Nat} {Ln : Nat} {xs : Nat → Int32} {Q : pw_W → Int32 → Prop} {X : pw_W → Nat → Prop} {K53 : Int32 → Int32 → Int32 → Int32 → Int32 → pw_W → Prop} {a2 a3 a5 a6 a8 a9 a10 a12 a13 a14 a15 s0 : Int32}
theorem pq_r (hx : 0 ≤ x) (h0 : 0 < d) (hd : d < 2147483648) : pw_jn (x - x / nI d * nI d) d := by
  rw [← pw_nIi hx, pk_rem (by have := pz_ib x; omega) h0 (by omega)]
  have := Nat.mod_lt (pw_i x) h0
  exact pz_jn this (by omega)
theorem pq_s (hx : 0 ≤ x) (y : Int32) (k : Nat) (hs : (y.toBitVec.smod 32).toNat = k) : 0 ≤ x >>> y := by
  have hb := pz_ib x
  rw [← pw_nIi hx, pk_shrN (by omega) y k hs]
  exact pz_nn (Nat.lt_of_le_of_lt (Nat.div_le_self _ _) hb)
theorem dl_register (h : pz_c sc sq pa ri mp ca dr pe U V w0 w) (I : pz_I sc sq pa ri mp ca dr pe) (J : pj_J n sc sq pa ri ca pe) (hU : U ≤ 180000) (hV : V ≤ 3800000) (E : pq_E Ln xs Q X K53 a2 a5 a6 a9 (n + 1) (U + 20) (V + 2000) ri.1) (e3 : a3 = nI ca.1) (e2 : a2 = nI ri.1) (e9 : a9 = 8)
    (hy : (0 : Int32) ≤ a8) (hp : pw_jn a12 pa.1) (hq : pw_jn a10 12) : wp_L_on w 8 ((a8 >>> (3 &&& 31)) - (a8 >>> (3 &&& 31)) / 3 * 3) a12 a10 ((1 : Int32) + ((a8 >>> (9 &&& 31)) - (a8 >>> (9 &&& 31)) / 99 * 99)) (fun w143 r144 => (r144 = (-13) → jp_L_law_1010 Ln xs Q X K53 a2 a3 a5 a6 a9 w143) ∧ (¬ r144 = (-13) → (r144 < a2 → jp_L_law_1014 Ln xs Q X K53 a2 a3 a5 a6 a9 w143) ∧ (¬ r144 < a2 → wp_X_rightAt w143 r144 2 (fun w147 r148 => (¬ r148 = a10 → jp_L_law_1014 Ln xs Q X K53 a2 a3 a5 a6 a9 w147) ∧ (r148 = a10 → wp_X_rightAt w147 r144 4 (fun w150 r151 => (¬ r151 = (-1) → jp_L_law_1014 Ln xs Q X K53 a2 a3 a5 a6 a9 w150) ∧ (r151 = (-1) → jp_L_law_1010 Ln xs Q X K53 a2 a3 a5 a6 a9 w150)) (fun _ _ => False))) (fun _ _ => False)))) (fun _ _ => False) := by
  subst e3
  have hr80 := I.gr.1
  have hk : pw_jn ((a8 >>> ((3 : Int32) &&& 31)) - (a8 >>> ((3 : Int32) &&& 31)) / 3 * 3) 3 := pq_r (d := 3) (pq_s hy _ 3 (by decide)) (by decide) (by decide)
  have hs : pw_jn ((a8 >>> ((9 : Int32) &&& 31)) - (a8 >>> ((9 : Int32) &&& 31)) / 99 * 99) 99 := pq_r (d := 99) (pq_s hy _ 9 (by decide)) (by decide) (by decide)
  obtain ⟨u, hu, eu⟩ := pz_of hk
  obtain ⟨f, hf, ef⟩ := pz_of hs
  rw [eu, ef]
  have i1 : pz_in (nI u) 0 2 := ⟨Int32.not_lt.mpr (pz_nn (by omega)), by rw [show (2 : Int32) = nI 2 from rfl, pz_lt (by omega) (by omega)]; omega⟩
  have i2 : pz_in ((1 : Int32) + nI f) 1 99 := by
    rw [pz_l1, pz_add, pz_l99]
    exact ⟨by rw [pz_lt (by omega) (by omega)]; omega, by rw [pz_lt (by omega) (by omega)]; omega⟩
  refine oc_register h I (by omega) (by omega) (fun c1 c2 c3 w2 g2 => ?_) (fun c1 => absurd ⟨i1, hp, hq⟩ c1) (fun c1 c2 => absurd (Or.inr i2) c2) (fun c1 c2 c3 w2 g2 => ?_)
  · have I2 := pi_register I c1 c2 c3
    have J2 := pj_register (y := pz_ro pa a12) (z := a10) J c1.1 c2
    have hlt : ri.1 < 80 := c3.2.2
    have jn : pw_jn (nI ri.1) (ri.1 + 1) := pz_jn (by omega) (by omega)
    have ir : pw_i (nI ri.1) = ri.1 := pz_i (by omega)
    have e25 : (pz_mr' ri (nI u) (pz_ro pa a12) a10 (pz_ite (nI u = 0) (1 + nI f) 0) (-1)).2 25 ri.1 = 0 := by
      unfold pz_mr'; dsimp only
      rw [pz_us]
    have e22 : (pz_mr' ri (nI u) (pz_ro pa a12) a10 (pz_ite (nI u = 0) (1 + nI f) 0) (-1)).2 22 ri.1 = a10 := by
      unfold pz_mr'; dsimp only
      rw [pz_uk (by decide), pz_uk (by decide), pz_uk (by decide), pz_us]
    have e24 : (pz_mr' ri (nI u) (pz_ro pa a12) a10 (pz_ite (nI u = 0) (1 + nI f) 0) (-1)).2 24 ri.1 = -1 := by
      unfold pz_mr'; dsimp only
      rw [pz_uk (by decide), pz_us]
    obtain ⟨-, -, v2, -, v4⟩ := pj_rv0 (sq := sq) e25
    refine ⟨fun q => absurd q (pq_n13 (pz_nn (by omega))), fun _ => ⟨fun q => absurd q (by rw [e2]; exact Int32.lt_irrefl), fun _ => ?_⟩⟩
    refine rd_rightAt g2 I2 (by omega) (by omega) ⟨jn, ⟨by decide, by decide⟩⟩ (fun w3 g3 => ?_)
    rw [ir, v2, e22]
    refine ⟨fun q => absurd rfl q, fun _ => ?_⟩
    refine rd_rightAt g3 I2 (by omega) (by omega) ⟨jn, ⟨by decide, by decide⟩⟩ (fun w4 g4 => ?_)
    rw [ir, v4, e24]
    have fin := E.go g4 I2 J2 (by omega) (by omega) (by omega) (Nat.le_succ ri.1) (fun _ => Or.inr e9)
    exact ⟨fun q => absurd rfl q, fun _ => fin⟩
  · exact ⟨fun _ => E.go g2 I J (by omega) (by omega) (by omega) (Nat.le_refl _) (fun q => absurd rfl q), fun q => absurd rfl q⟩
theorem dl_graze (h : pz_c sc sq pa ri mp ca dr pe U V w0 w) (I : pz_I sc sq pa ri mp ca dr pe) (J : pj_J n sc sq pa ri ca pe) (hU : U ≤ 180000) (hV : V ≤ 3800000) (E : pq_E Ln xs Q X K53 a2 a5 a6 a9 (n + 1) (U + 20) (V + 2000) ri.1) (e3 : a3 = nI ca.1)
    (hy : (0 : Int32) ≤ a8) (hp : pw_jn a12 pa.1) (hq : pw_jn a10 12) : wp_X_sheep w a10 a12 (fun w126 r127 => ∀ v128, v128 = ((a8 >>> (3 &&& 31)) - (a8 >>> (3 &&& 31)) / 40 * 40) → wp_L_on w126 9 a10 a12 v128 0 (fun w130 r131 => (¬ r131 = (-13) → (¬ r131 = r127 → jp_L_law_1126 Ln xs Q X K53 a2 a3 a5 a6 a9 w130) ∧ (r131 = r127 → wp_X_sheep w130 a10 a12 (fun w134 r135 => (¬ r135 = v128 → jp_L_law_1126 Ln xs Q X K53 a2 a3 a5 a6 a9 w134) ∧ (r135 = v128 → wp_X_area w134 a12 (fun w137 r138 => (((2 : Int32) * r138) < v128 → jp_L_law_1126 Ln xs Q X K53 a2 a3 a5 a6 a9 w137) ∧ (¬ ((2 : Int32) * r138) < v128 → jp_L_law_1127 Ln xs Q X K53 a2 a3 a5 a6 a9 1 w137)) (fun _ _ => False))) (fun _ _ => False))) ∧ (r131 = (-13) → wp_X_sheep w130 a10 a12 (fun w140 r141 => (¬ r141 = r127 → jp_L_law_1127 Ln xs Q X K53 a2 a3 a5 a6 a9 0 w140) ∧ (r141 = r127 → jp_L_law_1127 Ln xs Q X K53 a2 a3 a5 a6 a9 1 w140)) (fun _ _ => False))) (fun _ _ => False)) (fun _ _ => False) := by
  subst e3
  have hp40 := I.gp.1.2
  have hro := pz_roj I hp
  have hself : pa.2.1 46 (pw_i (pz_ro pa a12)) = pz_ro pa a12 := pj_roro I.gp hp
  obtain ⟨a, ea, ha⟩ := J.2.2.2.2.2.2.2.2 (pw_i (pz_ro pa a12)) (pw_i a10) hro.2 hq.2
  have hcn : pz_cn (fun k => pa.2.1 46 k = nI (pw_i (pz_ro pa a12))) pa.1 ≤ pa.1 := pz_cn_le
  have hpos : (0 : Int32) ≤ pa.2.2 (pw_i (pz_ro pa a12)) (pw_i a10) := by
    rw [ea]; exact pz_nn (by omega)
  have hk : pw_jn ((a8 >>> ((3 : Int32) &&& 31)) - (a8 >>> ((3 : Int32) &&& 31)) / 40 * 40) 40 := pq_r (d := 40) (pq_s hy _ 3 (by decide)) (by decide) (by decide)
  refine rd_sheep h I (by omega) (by omega) ⟨hq, hp⟩ (fun w1 g1 => ?_)
  intro v128 e128
  rw [← e128] at hk
  clear e128
  have i400 : pz_in v128 0 400 := by
    obtain ⟨u, hu, eu⟩ := pz_of hk
    rw [eu]
    exact ⟨Int32.not_lt.mpr (pz_nn (by omega)), by rw [pz_l400, pz_lt (by omega) (by omega)]; omega⟩
  refine oc_graze g1 I (by omega) (by omega) (fun c1 c2 c3 w2 g2 => ?_) (fun c1 => absurd ⟨hq, hp⟩ c1) (fun c1 c2 => absurd i400 c2) (fun c1 c2 c3 w2 g2 => ?_)
  · have I2 := pi_graze I c1 c2 c3
    have J2 := pj_graze (j := pw_i (pz_ro pa a12)) (r := pw_i a10) J c2 (hself.trans (pw_nIi hro.1).symm) hro.2
    have hp' : pw_jn a12 (pa.1, pa.2.1, pz_u pa.2.2 (pw_i (pz_ro pa a12)) (pw_i a10) v128).1 := hp
    refine ⟨fun _ => ⟨fun q => absurd rfl q, fun _ => ?_⟩, fun q => absurd q (pq_n13 hpos)⟩
    refine rd_sheep g2 I2 (by omega) (by omega) ⟨hq, hp'⟩ (fun w3 g3 => ?_)
    have en : (pz_u pa.2.2 (pw_i (pz_ro pa a12)) (pw_i a10) v128) (pw_i (pz_ro pa a12)) (pw_i a10) = v128 := pz_us
    refine ⟨fun q => absurd en q, fun _ => ?_⟩
    refine rd_area g3 I2 (by omega) (by omega) hp' (fun w4 g4 => ?_)
    obtain ⟨b, eb, hb⟩ := pj_su (sq := sq) (x := pz_ro pa a12) (P := fun r => pz_on ri (pz_ro pa a12) r ∧ ri.2 22 r = a10) J.2.2.2.1 I.gr.1 (fun _ z => z.1) (Nat.le_refl ri.1)
    have hc1 : pz_cn (fun s => sq.1 8 s = pz_ro pa a12) 100 ≤ 100 := pz_cn_le
    have hle : v128 ≤ (2 : Int32) * pz_ct (fun s => sq.1 8 s = pz_ro pa a12) 100 := by
      refine Int32.le_trans c3 ?_
      unfold pz_wr
      rw [eb, pq_ct, show (2 : Int32) = nI 2 from rfl, pz_mul, pz_le (by omega) (by omega)]
      omega
    have fin := E.go g4 I2 J2 (by omega) (by omega) (by omega) (Nat.le_refl _) (fun q => absurd rfl q)
    exact ⟨fun q => absurd q (Int32.not_lt.mpr hle), fun _ => fin⟩
  · refine ⟨fun q => absurd rfl q, fun _ => ?_⟩
    refine rd_sheep g2 I (by omega) (by omega) ⟨hq, hp⟩ (fun w3 g3 => ?_)
    exact ⟨fun q => absurd rfl q, fun _ => E.go g3 I J (by omega) (by omega) (by omega) (Nat.le_refl _) (fun q => absurd rfl q)⟩
theorem pq_mn {a b : Nat} (ha : a < 2147483648) (hb : b < 2147483648) : pz_mn (nI a) (nI b) = nI (min a b) := by
  unfold pz_mn
  by_cases q : b ≤ a
  · rw [if_pos (by rw [pz_le hb ha]; exact q), Nat.min_eq_right q]
  · rw [if_neg (by rw [pz_le hb ha]; exact q), Nat.min_eq_left (by omega)]
theorem pq_w7 (I : pz_I sc sq pa ri mp ca dr pe) (hs : s < 100) : ∃ u, u ≤ 100 ∧ sq.1 7 s = nI u := by
  obtain ⟨h1, h2⟩ := I.gq.2.1 s hs
  refine ⟨pw_i (sq.1 7 s), ?_, (pw_nIi h1).symm⟩
  rw [← pw_nIi h1, pz_l100, pz_le (pz_ib _) (by decide)] at h2
  exact h2
theorem pq_ro (I : pz_I sc sq pa ri mp ca dr pe) (hv : v = nI d) (hd : d ≤ 60) : ∀ {n : Nat}, n ≤ 100 → ∃ a : Nat, a ≤ 100 * n ∧ pz_ro' sq v n = nI a
  | 0, _ => ⟨0, Nat.le_refl _, rfl⟩
  | n + 1, hn => by
    obtain ⟨a, h1, h2⟩ := pq_ro I hv hd (n := n) (by omega)
    obtain ⟨u, hu, eu⟩ := pq_w7 I (s := n) (by omega)
    unfold pz_ro' at h2 ⊢
    rw [pz_suS, pz_iT, h2, eu, hv, pz_add, pz_l100, pq_mn (by omega) (by omega), pz_sub (Nat.min_le_left _ _), pz_add]
    exact ⟨_, by omega, rfl⟩
theorem dl_rain (h : pz_c sc sq pa ri mp ca dr pe U V w0 w) (I : pz_I sc sq pa ri mp ca dr pe) (J : pj_J n sc sq pa ri ca pe) (hU : U ≤ 180000) (hV : V ≤ 3800000) (E : pq_E Ln xs Q X K53 a2 a5 a6 a9 (n + 1) (U + 20) (V + 2000) ri.1) (e3 : a3 = nI ca.1)
    (hy : (0 : Int32) ≤ a8) (hf : pw_jn a15 100) : ∀ v108, v108 = ((1 : Int32) + ((a8 >>> (3 &&& 31)) - (a8 >>> (3 &&& 31)) / 60 * 60)) → wp_X_water w 1 (fun w110 r111 => wp_X_water w110 2 (fun w112 r113 => wp_X_rain w112 v108 (fun w114 r115 => (r115 < 0 → jp_L_law_1222 Ln xs Q X K53 a2 a3 a5 a6 a9 w114) ∧ (¬ r115 < 0 → wp_X_water w114 1 (fun w117 r118 => (¬ r118 = (r111 + ((100 : Int32) * v108)) → jp_L_law_1222 Ln xs Q X K53 a2 a3 a5 a6 a9 w117) ∧ (r118 = (r111 + ((100 : Int32) * v108)) → wp_X_water w117 2 (fun w120 r121 => (¬ r121 = (r113 + r115) → jp_L_law_1222 Ln xs Q X K53 a2 a3 a5 a6 a9 w120) ∧ (r121 = (r113 + r115) → wp_X_square w120 a15 1 (fun w123 r124 => (r124 < v108 → jp_L_law_1222 Ln xs Q X K53 a2 a3 a5 a6 a9 w123) ∧ (¬ r124 < v108 → jp_L_law_1223 Ln xs Q X K53 a2 a3 a5 a6 a9 1 w123)) (fun _ _ => False))) (fun _ _ => False))) (fun _ _ => False))) (fun _ _ => False)) (fun _ _ => False)) (fun _ _ => False) := by
  subst e3
  have hk : pw_jn ((a8 >>> ((3 : Int32) &&& 31)) - (a8 >>> ((3 : Int32) &&& 31)) / 60 * 60) 60 := pq_r (d := 60) (pq_s hy _ 3 (by decide)) (by decide) (by decide)
  obtain ⟨u, hu, eu⟩ := pz_of hk
  intro v108 e108
  have ev : v108 = nI (1 + u) := by rw [e108, eu, pz_l1, pz_add]
  clear e108
  have i60 : pz_in v108 1 60 := by
    rw [ev, pz_l1, pz_l60]
    exact ⟨by rw [pz_lt (by omega) (by omega)]; omega, by rw [pz_lt (by omega) (by omega)]; omega⟩
  obtain ⟨a, ha, ea⟩ := pq_ro I ev (by omega) (Nat.le_refl 100)
  have hpos : (0 : Int32) ≤ pz_ro' sq v108 100 := by rw [ea]; exact pz_nn (by omega)
  have I2 := pi_rain I i60
  have J2 := pj_rain (x := v108) J
  have q1 : ∀ (t : pz_S) (b : pz_Q), pz_wav t b 1 = t 3 := fun t b => by
    unfold pz_wav
    rw [pz_if' (by decide), pz_it rfl]
  have q2 : ∀ (t : pz_S) (b : pz_Q), pz_wav t b 2 = t 4 := fun t b => by
    unfold pz_wav
    rw [pz_if' (by decide), pz_if' (by decide), pz_it rfl]
  have f3 : (pz_u1 (pz_u1 sc 3 (sc 3 + 100 * v108)) 4 (sc 4 + pz_ro' sq v108 100)) 3 = sc 3 + 100 * v108 := rfl
  have f4 : (pz_u1 (pz_u1 sc 3 (sc 3 + 100 * v108)) 4 (sc 4 + pz_ro' sq v108 100)) 4 = sc 4 + pz_ro' sq v108 100 := rfl
  refine rd_water h I (by omega) (by omega) ⟨by decide, by decide⟩ (fun w1 g1 => ?_)
  refine rd_water g1 I (by omega) (by omega) ⟨by decide, by decide⟩ (fun w2 g2 => ?_)
  refine rd_rain g2 I (by omega) (by omega) i60 (fun w3 g3 => ?_)
  rw [q1, q2]
  refine ⟨fun q => absurd q (Int32.not_lt.mpr hpos), fun _ => ?_⟩
  refine rd_water g3 I2 (by omega) (by omega) ⟨by decide, by decide⟩ (fun w4 g4 => ?_)
  rw [q1, f3]
  refine ⟨fun q => absurd rfl q, fun _ => ?_⟩
  refine rd_water g4 I2 (by omega) (by omega) ⟨by decide, by decide⟩ (fun w5 g5 => ?_)
  rw [q2, f4]
  refine ⟨fun q => absurd rfl q, fun _ => ?_⟩
  refine rd_square g5 I2 (by omega) (by omega) ⟨hf, ⟨by decide, by decide⟩⟩ (fun w6 g6 => ?_)
  have e7 : pz_sqv (pz_u1 (pz_u1 sc 3 (sc 3 + 100 * v108)) 4 (sc 4 + pz_ro' sq v108 100)) (pz_wr' sq v108 100) (pw_i a15) 1 = pz_mn (sq.1 7 (pw_i a15) + v108) 100 := by
    unfold pz_sqv
    rw [pz_if' (by decide), pz_it rfl]
    exact if_pos hf.2
  obtain ⟨t, ht, et⟩ := pq_w7 I hf.2
  rw [e7, et]
  have fin := E.go g6 I2 J2 (by omega) (by omega) (by omega) (Nat.le_refl _) (fun q => absurd rfl q)
  refine ⟨fun q => absurd q ?_, fun _ => fin⟩
  rw [ev, pz_add, pz_l100, pq_mn (by omega) (by omega), pz_lt (by omega) (by omega)]
  omega
theorem pq_sd1 : ∀ f, f < 99 → f % 10 ≠ 9 → pz_sd (nI f) (nI (f + 1)) := by
  unfold pz_sd
  decide +kernel
theorem pq_sd10 : ∀ f, f < 90 → pz_sd (nI f) (nI (f + 10)) := by
  unfold pz_sd
  decide +kernel
/-- a dig that must not be refused for its squares but where the law knows it -/
theorem dl_dig1 {y1 : Int32} (h : pz_c sc sq pa ri mp ca dr pe U V w0 w) (I : pz_I sc sq pa ri mp ca dr pe) (J : pj_J n sc sq pa ri ca pe) (hU : U ≤ 180000) (hV : V ≤ 3800000) (E : pq_E Ln xs Q X K53 a2 a5 a6 a9 (n + 1) (U + 20) (V + 2000) ri.1) (e3 : a3 = nI ca.1)
    (hf : pw_jn a15 100) (h1 : ¬ pw_jn y1 100 → a14 = 9) (h2 : pw_jn y1 100 → ¬ pz_sd a15 y1 → a13 = 9) : jp_L_law_1261 Ln xs Q X K53 a2 a3 a5 a6 a9 a13 a14 a15 y1 a15 10 w := by
  subst e3
  unfold jp_L_law_1261
  refine oc_dig h I (by omega) (by omega) (fun c1 c2 c3 w2 g2 => ?_) (fun c1 w2 g2 => ?_) (fun c1 c2 w2 g2 => ?_) (fun c1 c2 c3 w2 g2 => ?_)
  · have I2 := pi_dig I c1 c2 c3
    have hlt : dr.1 < 20 := c3.2
    have fin := E.go g2 I2 J (by omega) (by omega) (by omega) (Nat.le_refl _) (fun q => absurd rfl q)
    exact ⟨fun q => absurd q (by rw [pz_l0, pz_le (by omega) (by omega)]; omega), fun _ => ⟨fun _ => fin, fun q => absurd (by rw [pz_l20, pz_le (by omega) (by omega)]; omega) q⟩⟩
  · have fin := E.go g2 I J (by omega) (by omega) (by omega) (Nat.le_refl _) (fun q => absurd rfl q)
    refine ⟨fun _ => ?_, fun q => absurd (by decide) q⟩
    unfold jp_L_law_1280
    refine ⟨fun q => absurd q (by decide), fun _ => ⟨fun _ => ?_, fun q => absurd q (by decide)⟩⟩
    unfold jp_L_law_1301
    exact ⟨fun q => absurd rfl q, fun _ => ⟨fun _ => fin, fun q => absurd (h1 (fun z => c1 ⟨hf, z⟩)) q⟩⟩
  · have fin := E.go g2 I J (by omega) (by omega) (by omega) (Nat.le_refl _) (fun q => absurd rfl q)
    refine ⟨fun _ => ?_, fun q => absurd (by decide) q⟩
    unfold jp_L_law_1280
    exact ⟨fun q => absurd q (by decide), fun _ => ⟨fun q => absurd rfl q, fun _ => ⟨fun _ => fin, fun q => absurd (h2 c1.2 c2) q⟩⟩⟩
  · have fin := E.go g2 I J (by omega) (by omega) (by omega) (Nat.le_refl _) (fun q => absurd rfl q)
    refine ⟨fun _ => ?_, fun q => absurd (by decide) q⟩
    unfold jp_L_law_1280
    exact ⟨fun _ => fin, fun q => absurd rfl q⟩
theorem dl_dig {row col : Nat} (h : pz_c sc sq pa ri mp ca dr pe U V w0 w) (I : pz_I sc sq pa ri mp ca dr pe) (J : pj_J n sc sq pa ri ca pe) (hU : U ≤ 180000) (hV : V ≤ 3800000) (E : pq_E Ln xs Q X K53 a2 a5 a6 a9 (n + 1) (U + 20) (V + 2000) ri.1) (e3 : a3 = nI ca.1)
    (h13 : a13 = nI col) (h14 : a14 = nI row) (h15 : a15 = nI (10 * row + col)) (hr : row < 10) (hc : col < 10) : (¬ ((a8 >>> (3 &&& 31)) &&& 1) = 0 → jp_L_law_1261 Ln xs Q X K53 a2 a3 a5 a6 a9 a13 a14 a15 (a15 + 10) a15 10 w) ∧ (((a8 >>> (3 &&& 31)) &&& 1) = 0 → jp_L_law_1261 Ln xs Q X K53 a2 a3 a5 a6 a9 a13 a14 a15 (a15 + 1) a15 10 w) := by
  have hf : pw_jn a15 100 := by rw [h15]; exact pz_jn (by omega) (by omega)
  refine ⟨fun _ => dl_dig1 h I J hU hV E e3 hf (fun q => ?_) (fun q1 q2 => ?_), fun _ => dl_dig1 h I J hU hV E e3 hf (fun q => ?_) (fun q1 q2 => ?_)⟩
  · rw [h15, pz_l10, pz_add] at q
    rw [h14, pz_l9, pz_eq (by omega) (by omega)]
    exact Classical.byContradiction fun z => q (pz_jn (by omega) (by omega))
  · rw [h15, pz_l10, pz_add] at q1 q2
    have hq := q1.2
    rw [pz_i (by omega)] at hq
    exact absurd (pq_sd10 (10 * row + col) (by omega)) q2
  · rw [h15, pz_s1] at q
    rw [h14, pz_l9, pz_eq (by omega) (by omega)]
    exact Classical.byContradiction fun z => q (pz_jn (by omega) (by omega))
  · rw [h15, pz_s1] at q1 q2
    have hq := q1.2
    rw [pz_i (by omega)] at hq
    rw [h13, pz_l9, pz_eq (by omega) (by omega)]
    exact Classical.byContradiction fun z => q2 (pq_sd1 (10 * row + col) (by omega) (by omega))
end PDG
