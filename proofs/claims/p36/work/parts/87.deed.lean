/-! the law's turn: what stands behind a deed -/
section PDE
variable {sc : pz_S} {sq : pz_Q} {pa : pz_P} {ri mp : pz_N} {ca : pz_P} {dr : pz_N} {pe : pz_Q} {U V U1 V1 : Nat} {w0 w w1 w2 : pw_W} {K : pw_W → Int32 → Prop} {x y z v : Int32} {i k len n m s p r c : Nat} {Ln : Nat} {xs : Nat → Int32} {Q : pw_W → Int32 → Prop} {X : pw_W → Nat → Prop} {K53 : Int32 → Int32 → Int32 → Int32 → Int32 → pw_W → Prop} {a2 a3 a5 a6 a8 a9 s0 : Int32}
/-- the class holds a good state, with so many rights and cases -/
def pq_G (n U V r c : Nat) (w : pw_W) : Prop := ∃ (sc : pz_S) (sq : pz_Q) (pa : pz_P) (ri mp : pz_N) (ca : pz_P) (dr : pz_N) (pe : pz_Q), pz_I sc sq pa ri mp ca dr pe ∧ pj_J n sc sq pa ri ca pe ∧ pz_c sc sq pa ri mp ca dr pe U V w w ∧ ri.1 = r ∧ ca.1 = c
/-- what follows a deed that was as it must be -/
def pq_E (Ln : Nat) (xs : Nat → Int32) (Q : pw_W → Int32 → Prop) (X : pw_W → Nat → Prop) (K53 : Int32 → Int32 → Int32 → Int32 → Int32 → pw_W → Prop) (a2 a5 a6 a9 : Int32) (n U V r : Nat) : Prop := ∀ (z : Int32) (r' c' : Nat) (w' : pw_W), r ≤ r' → (¬ r' = r → a9 < 3 ∨ a9 = 8) → z = nI c' → pq_G n U V r' c' w' → ∃ k, lp_L_law_1781 Ln xs Q X K53 k a2 z 1 a5 a6 a9 w'
theorem pq_E.go {n1 : Nat} (E : pq_E Ln xs Q X K53 a2 a5 a6 a9 n U V r) (h : pz_c sc sq pa ri mp ca dr pe U1 V1 w0 w) (I : pz_I sc sq pa ri mp ca dr pe) (J : pj_J n1 sc sq pa ri ca pe) (hm : n1 ≤ n) (hu : U1 ≤ U) (hv : V1 ≤ V) (hr : r ≤ ri.1) (hc : ¬ ri.1 = r → a9 < 3 ∨ a9 = 8) : ∃ k, lp_L_law_1781 Ln xs Q X K53 k a2 (nI ca.1) 1 a5 a6 a9 w :=
  E _ _ _ w hr hc rfl ⟨sc, sq, pa, ri, mp, ca, dr, pe, I, J.up hm, h.re.up hu hv, rfl, rfl⟩
theorem pq_n13 (h : 0 ≤ x) : ¬ x = -13 := fun e => by rw [e] at h; exact absurd h (by decide)
theorem pq_ct {P : Nat → Prop} : pz_ct P n = nI (pz_cn P n) := rfl
theorem pq_roj (I : pz_I sc sq pa ri mp ca dr pe) (h : pw_jn x pa.1) : ∃ j, j < pa.1 ∧ pz_ro pa x = nI j := pz_of (pz_roj I h)
theorem dl_grant {v198 v203 v209 v213 : Int32} {w200 : pw_W} (h : pz_c sc sq pa ri mp ca dr pe U V w0 w200) (I : pz_I sc sq pa ri mp ca dr pe) (J : pj_J n sc sq pa ri ca pe) (hU : U ≤ 180000) (hV : V ≤ 3800000) (E : pq_E Ln xs Q X K53 a2 a5 a6 s0 (n + 1) (U + 20) (V + 2000) ri.1) (e3 : a3 = nI ca.1) (hs : s0 < 3)
    (hq : pw_jn v198 12) (hp : pw_jn v203 pa.1) (hf : pw_jn v209 100) (ht : pw_jn v213 100) (hd : pz_fd v209 v213) : (fun r201 => wp_X_area w200 v203 (fun w293 r294 => wp_L_on w293 0 v203 v209 v213 v198 (fun w295 r296 => (¬ r296 = (-13) → (¬ r296 = r201 → jp_L_law_314 Ln xs Q X K53 a2 a3 a5 a6 s0 w295) ∧ (r296 = r201 → wp_X_owner w295 r296 (fun w299 r300 => (¬ r300 = v198 → jp_L_law_314 Ln xs Q X K53 a2 a3 a5 a6 s0 w299) ∧ (r300 = v198 → wp_X_area w299 r296 (fun w302 r303 => (r303 ≤ 0 → jp_L_law_314 Ln xs Q X K53 a2 a3 a5 a6 s0 w302) ∧ (¬ r303 ≤ 0 → wp_X_area w302 r296 (fun w305 r306 => wp_X_area w305 v203 (fun w307 r308 => (¬ (r306 + r308) = r294 → jp_L_law_314 Ln xs Q X K53 a2 a3 a5 a6 s0 w307) ∧ ((r306 + r308) = r294 → jp_L_law_315 Ln xs Q X K53 a2 a3 a5 a6 s0 1 w307)) (fun _ _ => False)) (fun _ _ => False))) (fun _ _ => False))) (fun _ _ => False))) ∧ (r296 = (-13) → wp_X_area w295 v203 (fun w310 r311 => (¬ r311 = r294 → jp_L_law_315 Ln xs Q X K53 a2 a3 a5 a6 s0 0 w310) ∧ (r311 = r294 → jp_L_law_315 Ln xs Q X K53 a2 a3 a5 a6 s0 1 w310)) (fun _ _ => False))) (fun _ _ => False)) (fun _ _ => False)) (nI pa.1) := by
  subst e3
  have hp40 := I.gp.1.2
  have hro := pz_roj I hp
  obtain ⟨o, ho, eo⟩ := pz_of hro
  refine rd_area h I (by omega) (by omega) hp (fun w1 g1 => ?_)
  refine oc_grant g1 I (by omega) (by omega) (fun c1 c2 c3 w2 g2 => ?_) (fun c1 => absurd ⟨hp, hf, ht, hq⟩ c1) (fun c1 c2 => absurd hd c2) (fun c1 c2 c3 w2 g2 => ?_)
  · have I2 := pi_grant I c1 c2 c3
    have J2 := pj_grant (x := pz_ro pa v203) (y := v209) (z := v213) (t := v198) J I c3.2.2.1
    have hn : pa.1 < 40 := c3.2.2.1
    have jn : pw_jn (nI pa.1) (pz_mk pa v198).1 := pz_jn (show pa.1 < pa.1 + 1 by omega) (by omega)
    have jp : pw_jn v203 (pz_mk pa v198).1 := pz_jw hp (show pa.1 ≤ pa.1 + 1 by omega)
    have en : pz_ro (pz_mk pa v198) (nI pa.1) = nI pa.1 := pj_mkn hp40
    have ep : pz_ro (pz_mk pa v198) v203 = pz_ro pa v203 := pj_mkr hp
    have f8 : ∀ s, s < 100 → (pz_mv sq (pz_gf sq (pz_ro pa v203) (nI pa.1) v209 v213) (sq.1 12) (sq.1 13) 100).1 8 s = pz_gf sq (pz_ro pa v203) (nI pa.1) v209 v213 s := fun s hs => by rw [pz_mv8, if_pos hs]
    have n8 : ∀ s, s < 100 → ¬ sq.1 8 s = nI pa.1 := fun s hs e => by
      have := (I.gl.1 s hs).2
      rw [e, pz_i (by omega)] at this
      omega
    have fa : pz_cn (fun s => sq.1 8 s = pz_ro pa v203) 100 = pz_cn (fun s => (pz_mv sq (pz_gf sq (pz_ro pa v203) (nI pa.1) v209 v213) (sq.1 12) (sq.1 13) 100).1 8 s = nI pa.1) 100 + pz_cn (fun s => (pz_mv sq (pz_gf sq (pz_ro pa v203) (nI pa.1) v209 v213) (sq.1 12) (sq.1 13) 100).1 8 s = pz_ro pa v203) 100 := by
      have h1 := pj_cn_or (P := fun s => (pz_mv sq (pz_gf sq (pz_ro pa v203) (nI pa.1) v209 v213) (sq.1 12) (sq.1 13) 100).1 8 s = nI pa.1) (Q := fun s => (pz_mv sq (pz_gf sq (pz_ro pa v203) (nI pa.1) v209 v213) (sq.1 12) (sq.1 13) 100).1 8 s = pz_ro pa v203) (n := 100) (fun s _ z1 z2 => by
        rw [z1, eo, pz_eq (by omega) (by omega)] at z2
        omega)
      rw [← h1]
      refine pz_cn_congr fun s hs => ?_
      rw [f8 s hs]
      unfold pz_gf
      by_cases e : sq.1 8 s = pz_ro pa v203 ∧ pz_if (nI s) v209 v213
      · rw [pz_it e]
        exact ⟨fun _ => Or.inl rfl, fun _ => e.1⟩
      · rw [pz_if' e]
        exact ⟨Or.inr, fun z => z.elim (fun z => absurd z (n8 s hs)) id⟩
    have fx : pz_ex (fun s => (pz_mv sq (pz_gf sq (pz_ro pa v203) (nI pa.1) v209 v213) (sq.1 12) (sq.1 13) 100).1 8 s = nI pa.1) 100 := by
      obtain ⟨s, hs, e⟩ := c3.1
      exact ⟨s, hs, (f8 s hs).trans (pz_it e)⟩
    refine ⟨fun _ => ⟨fun q => absurd rfl q, fun _ => ?_⟩, fun q => absurd q (pq_n13 (pz_nn (by omega)))⟩
    refine rd_owner g2 I2 (by omega) (by omega) jn (fun w3 g3 => ?_)
    have eow : (pz_mk pa v198).2.1 16 (pw_i (pz_ro (pz_mk pa v198) (nI pa.1))) = v198 := by
      rw [en, pz_i (by omega)]
      unfold pz_mk; dsimp only
      rw [pz_uk (by decide), pz_uk (by decide), pz_us]
    rw [eow]
    refine ⟨fun q => absurd rfl q, fun _ => ?_⟩
    refine rd_area g3 I2 (by omega) (by omega) jn (fun w4 g4 => ?_)
    rw [en]
    refine ⟨fun q => absurd q (by rw [pz_c0 (by omega)]; exact fun z => z fx), fun _ => ?_⟩
    refine rd_area g4 I2 (by omega) (by omega) jn (fun w5 g5 => ?_)
    refine rd_area g5 I2 (by omega) (by omega) jp (fun w6 g6 => ?_)
    rw [en, ep]
    refine ⟨fun q => absurd ?_ q, fun _ => E.go g6 I2 J2 (by omega) (by omega) (by omega) pz_cp_ge (fun _ => Or.inl hs)⟩
    unfold pz_ct
    rw [pz_add, fa]
  · refine ⟨fun q => absurd rfl q, fun _ => ?_⟩
    refine rd_area g2 I (by omega) (by omega) hp (fun w3 g3 => ?_)
    exact ⟨fun q => absurd rfl q, fun _ => E.go g3 I J (by omega) (by omega) (by omega) (Nat.le_refl _) (fun q => absurd rfl q)⟩
theorem dl_merge {v203 : Int32} {w200 : pw_W} (h : pz_c sc sq pa ri mp ca dr pe U V w0 w200) (I : pz_I sc sq pa ri mp ca dr pe) (J : pj_J n sc sq pa ri ca pe) (hU : U ≤ 180000) (hV : V ≤ 3800000) (E : pq_E Ln xs Q X K53 a2 a5 a6 s0 (n + 1) (U + 20) (V + 2000) ri.1) (e3 : a3 = nI ca.1) (hs : s0 < 3) (h8 : (0 : Int32) ≤ a8 >>> ((20 : Int32) &&& 31))
    (hp : pw_jn v203 pa.1) (hm : ∀ a : Int32, 0 ≤ a → pw_jn (a - a / nI pa.1 * nI pa.1) pa.1) : (fun r201 => ¬ r201 = 0 ∧ ∀ v270, v270 = ((a8 >>> (20 &&& 31)) - (a8 >>> (20 &&& 31)) / r201 * r201) → wp_X_area w200 v203 (fun w272 r273 => wp_X_area w272 v270 (fun w274 r275 => ∀ v276, v276 = (r273 + r275) → wp_L_on w274 1 v203 v270 0 0 (fun w278 r279 => (r279 = (-13) → jp_L_law_415 Ln xs Q X K53 a2 a3 a5 a6 s0 w278) ∧ (¬ r279 = (-13) → (¬ r279 = v276 → jp_L_law_419 Ln xs Q X K53 a2 a3 a5 a6 s0 w278) ∧ (r279 = v276 → wp_X_area w278 v203 (fun w282 r283 => (¬ r283 = v276 → jp_L_law_419 Ln xs Q X K53 a2 a3 a5 a6 s0 w282) ∧ (r283 = v276 → wp_X_area w282 v270 (fun w285 r286 => (¬ r286 = v276 → jp_L_law_419 Ln xs Q X K53 a2 a3 a5 a6 s0 w285) ∧ (r286 = v276 → wp_X_owner w285 v203 (fun w288 r289 => wp_X_owner w288 v270 (fun w290 r291 => (¬ r289 = r291 → jp_L_law_419 Ln xs Q X K53 a2 a3 a5 a6 s0 w290) ∧ (r289 = r291 → jp_L_law_415 Ln xs Q X K53 a2 a3 a5 a6 s0 w290)) (fun _ _ => False)) (fun _ _ => False))) (fun _ _ => False))) (fun _ _ => False)))) (fun _ _ => False)) (fun _ _ => False)) (fun _ _ => False)) (nI pa.1) := by
  subst e3
  have hp40 := I.gp.1.2
  have hp1 := I.gp.1.1
  refine ⟨fun e => by rw [pz_l0, pz_eq (by omega) (by omega)] at e; omega, fun v270 e270 => ?_⟩
  have hy : pw_jn v270 pa.1 := by rw [e270]; exact hm _ h8
  clear e270
  have hX := pz_roj I hp
  have hY := pz_roj I hy
  refine rd_area h I (by omega) (by omega) hp (fun w1 g1 => ?_)
  refine rd_area g1 I (by omega) (by omega) hy (fun w2 g2 => ?_)
  refine fun v276 e276 => ?_
  refine oc_merge g2 I (by omega) (by omega) (fun c1 c2 w3 g3 => ?_) (fun c1 => absurd ⟨hp, hy⟩ c1) (fun c1 c2 w3 g3 => ?_)
  · have I2 := pi_merge I c1 c2
    have ryy : pz_ro pa (pz_ro pa v270) = pz_ro pa v270 := pj_roro I.gp hy
    have J2 := pj_merge (x := pz_ro pa v203) (y := pz_ro pa v270) J I hX hY ryy c2.1
    have e8 : ∀ s, s < 100 → ((pz_mv sq (pz_ef sq (pz_ro pa v203) (pz_ro pa v270)) (sq.1 12) (sq.1 13) 100).1 8 s = pz_ro pa v270 ↔ (sq.1 8 s = pz_ro pa v203 ∨ sq.1 8 s = pz_ro pa v270)) := fun s hs => by
      rw [pz_mv8, if_pos hs]
      unfold pz_ef
      by_cases e : sq.1 8 s = pz_ro pa v203
      · rw [pz_it e]
        exact ⟨fun _ => Or.inl e, fun _ => rfl⟩
      · rw [pz_if' e]
        exact ⟨Or.inr, fun z => z.elim (fun z => absurd z e) id⟩
    have ev : pz_ct (fun s => (pz_mv sq (pz_ef sq (pz_ro pa v203) (pz_ro pa v270)) (sq.1 12) (sq.1 13) 100).1 8 s = pz_ro pa v270) 100 = v276 := by
      rw [e276]
      unfold pz_ct
      rw [pz_add, ← pj_cn_or (fun s _ z1 z2 => c2.1 (z1.symm.trans z2)), pz_cn_congr e8]
    rw [ev]
    have h0 : (0 : Int32) ≤ v276 := by
      rw [← ev]
      exact pz_nn (Nat.lt_of_le_of_lt pz_cn_le (by omega))
    have hpq : pw_jn v203 (pz_mgp pa (pz_ro pa v203) (pz_ro pa v270)).1 := hp
    have hyq : pw_jn v270 (pz_mgp pa (pz_ro pa v203) (pz_ro pa v270)).1 := hy
    have r1 : pz_ro (pz_mgp pa (pz_ro pa v203) (pz_ro pa v270)) v203 = pz_ro pa v270 := by
      show (pz_mgp pa (pz_ro pa v203) (pz_ro pa v270)).2.1 46 (pw_i v203) = _
      rw [pz_mgp46, pz_it rfl]
    have r2 : pz_ro (pz_mgp pa (pz_ro pa v203) (pz_ro pa v270)) v270 = pz_ro pa v270 := by
      show (pz_mgp pa (pz_ro pa v203) (pz_ro pa v270)).2.1 46 (pw_i v270) = _
      rw [pz_mgp46, pz_if' (fun z => c2.1 z.symm)]
    refine ⟨fun q => absurd q (pq_n13 h0), fun _ => ⟨fun q => absurd rfl q, fun _ => ?_⟩⟩
    refine rd_area g3 I2 (by omega) (by omega) hpq (fun w4 g4 => ?_)
    rw [r1, ev]
    refine ⟨fun q => absurd rfl q, fun _ => ?_⟩
    refine rd_area g4 I2 (by omega) (by omega) hyq (fun w5 g5 => ?_)
    rw [r2, ev]
    refine ⟨fun q => absurd rfl q, fun _ => ?_⟩
    refine rd_owner g5 I2 (by omega) (by omega) hpq (fun w6 g6 => ?_)
    refine rd_owner g6 I2 (by omega) (by omega) hyq (fun w7 g7 => ?_)
    rw [r1, r2]
    exact ⟨fun q => absurd rfl q, fun _ => E.go g7 I2 J2 (by omega) (by omega) (by omega) pz_cp_ge (fun _ => Or.inl hs)⟩
  · exact ⟨fun _ => E.go g3 I J (by omega) (by omega) (by omega) (Nat.le_refl _) (fun q => absurd rfl q), fun q => absurd rfl q⟩
theorem pq_if1 (hd : pz_fd y z) : pz_if y y z := ⟨⟨Int32.lt_irrefl, hd.1⟩, ⟨Int32.lt_irrefl, hd.2⟩⟩
theorem pq_if2 (hd : pz_fd y z) : pz_if z y z := ⟨⟨hd.1, Int32.lt_irrefl⟩, ⟨hd.2, Int32.lt_irrefl⟩⟩
theorem dl_survey {v198 v209 v213 : Int32} {w200 : pw_W} (h : pz_c sc sq pa ri mp ca dr pe U V w0 w200) (I : pz_I sc sq pa ri mp ca dr pe) (J : pj_J n sc sq pa ri ca pe) (hU : U ≤ 180000) (hV : V ≤ 3800000) (E : pq_E Ln xs Q X K53 a2 a5 a6 s0 (n + 1) (U + 20) (V + 2000) ri.1) (e3 : a3 = nI ca.1)
    (hq : pw_jn v198 12) (hf : pw_jn v209 100) (ht : pw_jn v213 100) (hd : pz_fd v209 v213) : wp_X_disputed w200 v209 (fun w253 r254 => wp_L_on w253 2 v198 v209 v213 0 (fun w255 r256 => (¬ r256 = (-13) → (r256 ≤ 0 → jp_L_law_515 Ln xs Q X K53 a2 a3 a5 a6 s0 w255) ∧ (¬ r256 ≤ 0 → ((12 : Int32) < r256 → jp_L_law_515 Ln xs Q X K53 a2 a3 a5 a6 s0 w255) ∧ (¬ (12 : Int32) < r256 → wp_X_disputed w255 v209 (fun w260 r261 => (r261 < r254 → jp_L_law_515 Ln xs Q X K53 a2 a3 a5 a6 s0 w260) ∧ (¬ r261 < r254 → wp_X_disputed w260 v209 (fun w263 r264 => (r264 ≤ 0 → jp_L_law_515 Ln xs Q X K53 a2 a3 a5 a6 s0 w263) ∧ (¬ r264 ≤ 0 → jp_L_law_516 Ln xs Q X K53 a2 a3 a5 a6 s0 1 w263)) (fun _ _ => False))) (fun _ _ => False)))) ∧ (r256 = (-13) → wp_X_disputed w255 v209 (fun w266 r267 => (¬ r267 = r254 → jp_L_law_516 Ln xs Q X K53 a2 a3 a5 a6 s0 0 w266) ∧ (r267 = r254 → jp_L_law_516 Ln xs Q X K53 a2 a3 a5 a6 s0 1 w266)) (fun _ _ => False))) (fun _ _ => False)) (fun _ _ => False) := by
  subst e3
  refine rd_disputed h I (by omega) (by omega) hf (fun w1 g1 => ?_)
  refine oc_survey g1 I (by omega) (by omega) (fun c1 c2 c3 w2 g2 => ?_) (fun c1 => absurd ⟨hq, hf, ht⟩ c1) (fun c1 c2 => absurd hd c2) (fun c1 c2 c3 w2 g2 => ?_)
  · have I2 := pi_survey I c1 c2 c3
    have hm := c3.2
    have old : ∀ f m, m < mp.1 → (pz_u (pz_u (pz_u mp.2 27 mp.1 v198) 28 mp.1 v209) 29 mp.1 v213) f m = mp.2 f m := fun f m hm => by
      rw [pz_un (by omega), pz_un (by omega), pz_un (by omega)]
    have mono : pz_cn (fun q => pz_ex (pz_mp mp (nI q) v209) mp.1) 12 ≤ pz_cn (fun q => pz_ex (pz_mp (mp.1 + 1, pz_u (pz_u (pz_u mp.2 27 mp.1 v198) 28 mp.1 v209) 29 mp.1 v213) (nI q) v209) (mp.1 + 1)) 12 := pj_cnP fun q _ z => by
      obtain ⟨m, hm, z1, z2⟩ := z
      refine ⟨m, by omega, ?_, ?_⟩
      · show (pz_u (pz_u (pz_u mp.2 27 mp.1 v198) 28 mp.1 v209) 29 mp.1 v213) 27 m = nI q
        rw [old 27 m hm]; exact z1
      · show pz_if v209 ((pz_u (pz_u (pz_u mp.2 27 mp.1 v198) 28 mp.1 v209) 29 mp.1 v213) 28 m) ((pz_u (pz_u (pz_u mp.2 27 mp.1 v198) 28 mp.1 v209) 29 mp.1 v213) 29 m)
        rw [old 28 m hm, old 29 m hm]; exact z2
    have some1 : pz_ex (fun q => pz_ex (pz_mp (mp.1 + 1, pz_u (pz_u (pz_u mp.2 27 mp.1 v198) 28 mp.1 v209) 29 mp.1 v213) (nI q) v209) (mp.1 + 1)) 12 := by
      refine ⟨pw_i v198, hq.2, mp.1, by omega, ?_, ?_⟩
      · show (pz_u (pz_u (pz_u mp.2 27 mp.1 v198) 28 mp.1 v209) 29 mp.1 v213) 27 mp.1 = nI (pw_i v198)
        rw [pw_nIi hq.1, pz_uk (by decide), pz_uk (by decide), pz_us]
      · show pz_if v209 ((pz_u (pz_u (pz_u mp.2 27 mp.1 v198) 28 mp.1 v209) 29 mp.1 v213) 28 mp.1) ((pz_u (pz_u (pz_u mp.2 27 mp.1 v198) 28 mp.1 v209) 29 mp.1 v213) 29 mp.1)
        rw [pz_uk (by decide), pz_us, pz_us]
        exact pq_if1 hd
    have c12 : pz_cn (fun q => pz_ex (pz_mp (mp.1 + 1, pz_u (pz_u (pz_u mp.2 27 mp.1 v198) 28 mp.1 v209) 29 mp.1 v213) (nI q) v209) (mp.1 + 1)) 12 ≤ 12 := pz_cn_le
    refine ⟨fun _ => ⟨fun q => absurd q (by rw [pz_l0, pz_le (by omega) (by omega)]; omega), fun _ => ⟨fun q => absurd q (by rw [pz_l12, pz_lt (by omega) (by omega)]; omega), fun _ => ?_⟩⟩, fun q => absurd q (pq_n13 (pz_nn (by omega)))⟩
    refine rd_disputed g2 I2 (by omega) (by omega) hf (fun w3 g3 => ?_)
    refine ⟨fun q => absurd q (by rw [pq_ct, pq_ct, pz_lt (Nat.lt_of_le_of_lt pz_cn_le (by decide)) (Nat.lt_of_le_of_lt pz_cn_le (by decide))]; exact Nat.not_lt.mpr mono), fun _ => ?_⟩
    refine rd_disputed g3 I2 (by omega) (by omega) hf (fun w4 g4 => ?_)
    exact ⟨fun q => absurd q (by rw [pz_c0 (by omega)]; exact fun z => z some1), fun _ => E.go g4 I2 J (by omega) (by omega) (by omega) (Nat.le_refl _) (fun q => absurd rfl q)⟩
  · refine ⟨fun q => absurd rfl q, fun _ => ?_⟩
    refine rd_disputed g2 I (by omega) (by omega) hf (fun w3 g3 => ?_)
    exact ⟨fun q => absurd rfl q, fun _ => E.go g3 I J (by omega) (by omega) (by omega) (Nat.le_refl _) (fun q => absurd rfl q)⟩
theorem dl_use {v198 v209 v213 : Int32} {w200 : pw_W} (h : pz_c sc sq pa ri mp ca dr pe U V w0 w200) (I : pz_I sc sq pa ri mp ca dr pe) (J : pj_J n sc sq pa ri ca pe) (hU : U ≤ 180000) (hV : V ≤ 3800000) (E : pq_E Ln xs Q X K53 a2 a5 a6 s0 (n + 1) (U + 20) (V + 2000) ri.1) (e3 : a3 = nI ca.1)
    (hq : pw_jn v198 12) (hf : pw_jn v209 100) (ht : pw_jn v213 100) (hd : pz_fd v209 v213) : wp_L_on w200 3 v198 v209 v213 0 (fun w242 r243 => (r243 = (-13) → jp_L_law_584 Ln xs Q X K53 a2 a3 a5 a6 s0 w242) ∧ (¬ r243 = (-13) → (r243 ≤ 0 → jp_L_law_588 Ln xs Q X K53 a2 a3 a5 a6 s0 w242) ∧ (¬ r243 ≤ 0 → ((100 : Int32) < r243 → jp_L_law_588 Ln xs Q X K53 a2 a3 a5 a6 s0 w242) ∧ (¬ (100 : Int32) < r243 → wp_X_square w242 v209 3 (fun w247 r248 => (¬ r248 = v198 → jp_L_law_588 Ln xs Q X K53 a2 a3 a5 a6 s0 w247) ∧ (r248 = v198 → wp_X_square w247 v213 3 (fun w250 r251 => (¬ r251 = v198 → jp_L_law_588 Ln xs Q X K53 a2 a3 a5 a6 s0 w250) ∧ (r251 = v198 → jp_L_law_584 Ln xs Q X K53 a2 a3 a5 a6 s0 w250)) (fun _ _ => False))) (fun _ _ => False))))) (fun _ _ => False) := by
  subst e3
  refine oc_use h I (by omega) (by omega) (fun c1 c2 c3 w2 g2 => ?_) (fun c1 => absurd ⟨hq, hf, ht⟩ c1) (fun c1 c2 => absurd hd c2) (fun c1 c2 c3 w2 g2 => ?_)
  · have I2 := pi_use I c1 c2 c3
    have J2 : pj_J n sc (pz_us' sc sq v198 v209 v213 100) pa ri ca pe := pj_use J
    have u1 : (pz_us' sc sq v198 v209 v213 100).1 10 (pw_i v209) = v198 := by
      rw [pz_us10, pw_nIi hf.1]
      exact pz_it ⟨hf.2, pq_if1 hd⟩
    have u2 : (pz_us' sc sq v198 v209 v213 100).1 10 (pw_i v213) = v198 := by
      rw [pz_us10, pw_nIi ht.1]
      exact pz_it ⟨ht.2, pq_if2 hd⟩
    have c100 : pz_cn (fun s => (pz_us' sc sq v198 v209 v213 100).1 10 s = v198) 100 ≤ 100 := pz_cn_le
    have sv : ∀ s, pz_sqv sc (pz_us' sc sq v198 v209 v213 100) s 3 = (pz_us' sc sq v198 v209 v213 100).1 10 s := fun s => by
      unfold pz_sqv
      rw [pz_if' (by decide), pz_if' (by decide), pz_if' (by decide)]
    refine ⟨fun q => absurd q (pq_n13 (pz_nn (by omega))), fun _ => ⟨fun q => absurd q (by rw [pz_c0 (by omega)]; exact fun z => z ⟨pw_i v209, hf.2, u1⟩), fun _ => ⟨fun q => absurd q (by rw [pq_ct, pz_l100, pz_lt (by omega) (by omega)]; omega), fun _ => ?_⟩⟩⟩
    refine rd_square g2 I2 (by omega) (by omega) ⟨hf, ⟨by decide, by decide⟩⟩ (fun w3 g3 => ?_)
    rw [sv, u1]
    refine ⟨fun q => absurd rfl q, fun _ => ?_⟩
    refine rd_square g3 I2 (by omega) (by omega) ⟨ht, ⟨by decide, by decide⟩⟩ (fun w4 g4 => ?_)
    rw [sv, u2]
    exact ⟨fun q => absurd rfl q, fun _ => E.go g4 I2 J2 (by omega) (by omega) (by omega) (Nat.le_refl _) (fun q => absurd rfl q)⟩
  · exact ⟨fun _ => E.go g2 I J (by omega) (by omega) (by omega) (Nat.le_refl _) (fun q => absurd rfl q), fun q => absurd rfl q⟩
end PDE
