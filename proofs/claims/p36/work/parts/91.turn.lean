/-! the law's turn: which deed; what follows it; the law -/
section PDT
variable {sc : pz_S} {sq : pz_Q} {pa : pz_P} {ri mp : pz_N} {ca : pz_P} {dr : pz_N} {pe : pz_Q} {U V U1 V1 : Nat} {w0 w w1 w2 : pw_W} {K : pw_W → Int32 → Prop} {x y z v : Int32} {i k len n m s p r c d T D row col : Nat} {Ln : Nat} {xs : Nat → Int32} {Q : pw_W → Int32 → Prop} {X : pw_W → Nat → Prop} {K53 : Int32 → Int32 → Int32 → Int32 → Int32 → pw_W → Prop} {a2 a3 a5 a6 a8 a9 a10 a12 a13 a14 a15 s0 : Int32}
theorem dl_939 (h : pz_c sc sq pa ri mp ca dr pe U V w0 w) (I : pz_I sc sq pa ri mp ca dr pe) (J : pj_J n sc sq pa ri ca pe) (hU : U ≤ 180000) (hV : V ≤ 3800000) (E : pq_E Ln xs Q X K53 a2 a5 a6 a9 (n + 1) (U + 20) (V + 2000) ri.1) (e3 : a3 = nI ca.1) (e2 : a2 = nI ri.1) (hy : (0 : Int32) ≤ a8) (hq : pw_jn a10 12) (hp : pw_jn a12 pa.1)
    (h13 : a13 = nI col) (h14 : a14 = nI row) (h15 : a15 = nI (10 * row + col)) (hr : row < 10) (hc : col < 10) : jp_L_law_939 Ln xs Q X K53 a2 a3 a5 a6 a8 a9 a10 a12 a13 a14 a15 w := by
  have hf : pw_jn a15 100 := by rw [h15]; exact pz_jn (by omega) (by omega)
  unfold jp_L_law_939
  exact ⟨fun _ => ⟨fun _ => ⟨fun _ => ⟨fun _ => ⟨fun _ => ⟨fun e => dl_pass h I J hU hV E e3 hy e hq, fun e => dl_13 h I J hU hV E e3 hy hq e⟩, fun _ => dl_peat h I J hU hV E e3 hy hq hf⟩, fun _ => dl_dig h I J hU hV E e3 h13 h14 h15 hr hc⟩, fun _ => dl_rain h I J hU hV E e3 hy hf⟩, fun _ => dl_graze h I J hU hV E e3 hy hp hq⟩, fun e => dl_register h I J hU hV E e3 e2 e hy hp hq⟩
/-- a field out of its corner and its size -/
theorem pq_fd {a b c e : Nat} (h1 : a + c < 10) (h2 : b + e < 10) : pz_fd (nI (10 * a + b)) (nI (10 * (a + c) + (b + e))) := by
  constructor
  · rw [pz_m10 _ (by omega), pz_m10 _ (by omega), pz_lt (by omega) (by omega)]
    omega
  · rw [pz_d10 _ (by omega), pz_d10 _ (by omega), pz_lt (by omega) (by omega)]
    omega
set_option maxHeartbeats 4000000 in
theorem dl_123 (h : pz_c sc sq pa ri mp ca dr pe U V w0 w) (I : pz_I sc sq pa ri mp ca dr pe) (J : pj_J n sc sq pa ri ca pe) (hU : U ≤ 180000) (hV : V ≤ 3800000) (E : pq_E Ln xs Q X K53 a2 a5 a6 s0 (n + 1) (U + 20) (V + 2000) ri.1) (e3 : a3 = nI ca.1) (e2 : a2 = nI ri.1) (hy : (0 : Int32) ≤ a8) (hn : n ≤ 1000) : jp_L_law_123 Ln xs Q X K53 a2 a3 a5 a6 a8 s0 w := by
  have hp40 := I.gp.1.2
  have hp1 := I.gp.1.1
  have hc16 := I.gc.1
  unfold jp_L_law_123
  intro v198 e198
  have hq : pw_jn v198 12 := by rw [e198]; exact pq_r (d := 12) (pq_s hy _ 1 (by decide)) (by decide) (by decide)
  clear e198
  refine rd_parcels h (fun w200 g => ?_)
  refine ⟨fun q => absurd q (by rw [pz_l0, pz_eq (by omega) (by omega)]; omega), ?_⟩
  intro v203 e203 v205 e205 v207 e207 v209 e209
  have hp : pw_jn v203 pa.1 := by rw [e203]; exact pq_r (d := pa.1) (pq_s hy _ 5 (by decide)) (by omega) (by omega)
  have h205 : pw_jn v205 10 := by rw [e205]; exact pq_r (d := 10) (pq_s hy _ 8 (by decide)) (by decide) (by decide)
  have h207 : pw_jn v207 10 := by rw [e207]; exact pq_r (d := 10) (pq_s hy _ 12 (by decide)) (by decide) (by decide)
  clear e203 e205 e207
  obtain ⟨col, hcol, ecol⟩ := pz_of h205
  obtain ⟨row, hrow, erow⟩ := pz_of h207
  have e9 : v209 = nI (10 * row + col) := by rw [e209, erow, ecol, pz_l10, pz_mul, pz_add]
  have er : (10 : Int32) - v207 = nI (10 - row) := by rw [erow, pz_l10, pz_sub (by omega)]
  have ec : (10 : Int32) - v205 = nI (10 - col) := by rw [ecol, pz_l10, pz_sub (by omega)]
  rw [er, ec]
  refine ⟨fun q => absurd q (by rw [pz_l0, pz_eq (by omega) (by omega)]; omega), fun q => absurd q (by rw [pz_l0, pz_eq (by omega) (by omega)]; omega), ?_⟩
  intro v213 e213
  obtain ⟨t, ht, et⟩ := pz_of (pq_r (d := 10 - row) (pq_s hy ((15 : Int32) &&& 31) 15 (by decide)) (by omega) (by omega))
  obtain ⟨u, hu, eu⟩ := pz_of (pq_r (d := 10 - col) (pq_s hy ((18 : Int32) &&& 31) 18 (by decide)) (by omega) (by omega))
  have e13 : v213 = nI (10 * (row + t) + (col + u)) := by
    rw [e213, et, eu, e9, pz_l10, pz_mul, pz_add, pz_add]
    exact congrArg nI (by omega)
  have hf : pw_jn v209 100 := by rw [e9]; exact pz_jn (by omega) (by omega)
  have hto : pw_jn v213 100 := by rw [e13]; exact pz_jn (by omega) (by omega)
  have hd : pz_fd v209 v213 := by rw [e9, e13]; exact pq_fd (by omega) (by omega)
  clear e213 e209 et eu er ec
  have d939 : jp_L_law_939 Ln xs Q X K53 a2 a3 a5 a6 a8 s0 v198 v203 v205 v207 v209 w200 := dl_939 g I J hU hV E e3 e2 hy hq hp ecol erow e9 hrow hcol
  refine ⟨fun _ => ⟨fun _ => ⟨fun _ => ⟨fun _ => ⟨fun _ => ⟨fun _ => d939, fun _ => ⟨fun _ => d939, fun q => ?_⟩⟩, fun _ => dl_file g I J hU hV E e3 hq⟩, fun _ => dl_use g I J hU hV E e3 hq hf hto hd⟩, fun _ => dl_survey g I J hU hV E e3 hq hf hto hd⟩, fun q => ?_⟩, fun q => ?_⟩
  · have hc0 : 0 < ca.1 := by
      rw [e3, pz_l0, pz_le (by omega) (by omega)] at q
      omega
    refine ⟨fun z => q (by rw [z]; exact Int32.le_refl _), fun v223 e223 => ?_⟩
    refine dl_case g I J hU hV E e3 ?_ (pq_s hy _ 9 (by decide)) (fun a ha => pq_r (d := 9) ha (by decide) (by decide)) hn
    rw [e223, e3]
    exact pq_r (pq_s hy _ 3 (by decide)) hc0 (by omega)
  · exact dl_merge g I J hU hV E e3 (by rw [q]; decide) (pq_s hy _ 20 (by decide)) hp (fun a ha => pq_r ha (by omega) (by omega))
  · exact dl_grant g I J hU hV E e3 (Int32.lt_trans (Int32.not_le.mp q) (by decide)) hq hp hf hto hd
/-! what follows a deed -/
theorem wl_1854 (h : pz_c sc sq pa ri mp ca dr pe U V w w) (I : pz_I sc sq pa ri mp ca dr pe) (J : pj_J n sc sq pa ri ca pe) (hU : U ≤ 180000) (hV : V ≤ 3800000) (k : ∀ w1, pz_c sc sq pa ri mp ca dr pe U V w1 w1 → K53 (nI ri.1) (nI ca.1) 1 a5 (a6 + 1) w1) : jp_L_law_1854 Ln xs Q X K53 (nI ri.1) (nI ca.1) a5 a6 w := by
  unfold jp_L_law_1854
  refine ⟨fun _ => k w h, fun _ => wl_areCases h I J hU hV (fun w1 g1 => ?_)⟩
  exact ⟨fun q => absurd q (by decide), fun _ => k w1 g1⟩
theorem wl_1838 (h : pz_c sc sq pa ri mp ca dr pe U V w w) (I : pz_I sc sq pa ri mp ca dr pe) (J : pj_J n sc sq pa ri ca pe) (hU : U ≤ 179000) (hV : V ≤ 3700000) (k : ∀ w1, pz_c sc sq pa ri mp ca dr pe (U + 1) (V + 40) w1 w1 → K53 (nI ri.1) (nI ca.1) 1 a5 (a6 + 1) w1) : jp_L_law_1838 Ln xs Q X K53 (nI ri.1) (nI ca.1) a5 a6 w := by
  unfold jp_L_law_1838
  refine ⟨fun _ => wl_1854 (h.up (Nat.le_succ U) (Nat.le_add_right V 40)) I J (by omega) (by omega) k, fun _ => wl_areRights h I J (by omega) (by omega) (fun w1 g1 => ?_)⟩
  exact ⟨fun q => absurd q (by decide), fun _ => wl_1854 g1 I J (by omega) (by omega) k⟩
theorem wl_1819 (h : pz_c sc sq pa ri mp ca dr pe U V w w) (I : pz_I sc sq pa ri mp ca dr pe) (J : pj_J n sc sq pa ri ca pe) (hU : U ≤ 178000) (hV : V ≤ 3600000) (k : ∀ w1, pz_c sc sq pa ri mp ca dr pe (U + 1 + 1) (V + 40 + 40) w1 w1 → K53 (nI ri.1) (nI ca.1) 1 a5 (a6 + 1) w1) : jp_L_law_1819 Ln xs Q X K53 (nI ri.1) (nI ca.1) 1 a5 a6 w := by
  unfold jp_L_law_1819
  refine ⟨fun q => absurd q (by decide), fun _ => ⟨fun _ => wl_1838 (h.up (Nat.le_succ U) (Nat.le_add_right V 40)) I J (by omega) (by omega) k, fun _ => wl_isWhole h I J (by omega) (by omega) (fun w1 g1 => ?_)⟩⟩
  exact ⟨fun q => absurd q (by decide), fun _ => wl_1838 g1 I J (by omega) (by omega) k⟩
/-- from the end of a deed to the next turn -/
theorem wl_end {r0 : Nat} (hU : U ≤ 170000) (hV : V ≤ 3500000) (k : ∀ r c w, pq_G n (U + 3) (V + 86) r c w → K53 (nI r) (nI c) 1 a5 (a6 + 1) w) : pq_E Ln xs Q X K53 (nI r0) a5 a6 a9 n U V r0 := by
  intro z r' c' w' hle hcond hz hG
  obtain ⟨sc, sq, pa, ri, mp, ca, dr, pe, I, J, h, er, ec⟩ := hG
  subst er ec hz
  have hr80 := I.gr.1
  have last : ∀ w1, pz_c sc sq pa ri mp ca dr pe (U + 1) (V + 6) w1 w1 → jp_L_law_1819 Ln xs Q X K53 (nI ri.1) (nI ca.1) 1 a5 a6 w1 := fun w1 g1 =>
    wl_1819 g1 I J (by omega) (by omega) (fun w2 g2 => k _ _ w2 ⟨sc, sq, pa, ri, mp, ca, dr, pe, I, J, g2, rfl, rfl⟩)
  by_cases hd : a9 < 3 ∨ a9 = 8
  · obtain ⟨N, hN⟩ : ∃ N, ri.1 = r0 + N := ⟨ri.1 - r0, by omega⟩
    refine pz_up (F := fun k s w => lp_L_law_1781 Ln xs Q X K53 k (nI (r0 + s)) (nI ca.1) 1 a5 a6 a9 w) (I := fun s w => pz_c sc sq pa ri mp ca dr pe U V w w) N (fun s w4 k5 hs h4 ih => ?_) (fun w4 h4 => ?_) h
    · rw [lp_L_law_1781_s]
      have step : jp_L_law_1805 Ln xs Q X K53 (lp_L_law_1781 Ln xs Q X K53 k5) (nI (r0 + s)) (nI ca.1) 1 a5 a6 a9 w4 := by
        unfold jp_L_law_1805
        refine rd_right h4 I J.2.2.2.1 (by omega) (by omega) (fun _ w5 g5 => ?_) (fun q => absurd (pz_jn (by omega) (by omega)) q)
        refine ⟨fun q => absurd q (by decide), fun _ => ?_⟩
        rw [pz_s1]
        exact ih w5 g5.re
      refine ⟨fun q => absurd q (by rw [pz_l80, pz_le (by omega) (by omega)]; omega), fun _ => ⟨fun q => absurd q (by decide), fun _ => ⟨fun _ => step, fun q => ⟨fun q2 => absurd hd (fun z => z.elim q q2), fun _ => step⟩⟩⟩⟩
    · rw [lp_L_law_1781_s, ← hN]
      have l0 := last w4 (h4.up (Nat.le_succ U) (Nat.le_add_right V 6))
      have step : jp_L_law_1805 Ln xs Q X K53 (lp_L_law_1781 Ln xs Q X K53 0) (nI ri.1) (nI ca.1) 1 a5 a6 a9 w4 := by
        unfold jp_L_law_1805
        refine rd_right h4 I J.2.2.2.1 (by omega) (by omega) (fun q => absurd q.2 (by rw [pz_i (by omega)]; omega)) (fun _ w5 g5 => ?_)
        exact ⟨fun _ => last w5 g5.re, fun q => absurd rfl q⟩
      refine ⟨fun _ => l0, fun _ => ⟨fun _ => l0, fun _ => ⟨fun _ => step, fun _ => ⟨fun _ => l0, fun _ => step⟩⟩⟩⟩
  · have e : ri.1 = r0 := Classical.byContradiction fun q => hd (hcond q)
    rw [← e]
    refine ⟨1, ?_⟩
    rw [lp_L_law_1781_s]
    have l0 := last w' (h.up (Nat.le_succ U) (Nat.le_add_right V 6))
    exact ⟨fun _ => l0, fun _ => ⟨fun _ => l0, fun _ => ⟨fun q => absurd (Or.inl q) hd, fun _ => ⟨fun _ => l0, fun q => absurd (Or.inr q) hd⟩⟩⟩⟩
/-- one turn, whatever the script's int -/
theorem wl_97 (hG : pq_G i (4001 + 40 * i) (200040 + 3000 * i) r c w) (hi : i < 210) (k : ∀ r c w, pq_G (i + 1) (4001 + 40 * (i + 1)) (200040 + 3000 * (i + 1)) r c w → K53 (nI r) (nI c) 1 a5 (nI (i + 1)) w) : jp_L_law_97 Ln xs Q X K53 (nI r) (nI c) a5 (nI i) s0 w := by
  obtain ⟨sc, sq, pa, ri, mp, ca, dr, pe, I, J, h, er, ec⟩ := hG
  subst er ec
  unfold jp_L_law_97
  intro v313 e313
  have hy : (0 : Int32) ≤ v313 := by
    rw [e313]
    obtain ⟨j, hj, ej⟩ := pk_andE (s0 >>> ((4 : Int32) &&& 31)) (m := 268435455) 28 (by decide)
    rw [ej]
    exact pz_nn (by omega)
  have E : ∀ a9 : Int32, pq_E Ln xs Q X K53 (nI ri.1) a5 (nI i) a9 (i + 1) (4001 + 40 * i + 20) (200040 + 3000 * i + 2000) ri.1 := fun a9 => wl_end (by omega) (by omega) (fun r c w1 hG => by
    rw [pz_s1]
    obtain ⟨sc, sq, pa, ri, mp, ca, dr, pe, I, J, h, er, ec⟩ := hG
    exact k r c w1 ⟨sc, sq, pa, ri, mp, ca, dr, pe, I, J, h.up (by omega) (by omega), er, ec⟩)
  exact ⟨fun _ => dl_123 h I J (by omega) (by omega) (E _) rfl rfl hy (by omega), fun _ => dl_123 h I J (by omega) (by omega) (E _) rfl rfl hy (by omega)⟩
theorem wl_loop {tn : Nat} (ht : tn ≤ 210) (hL : Ln ≤ 260) (hG : pq_G 0 4001 200040 r c w) : ∃ k, lp_L_law_53 Ln xs (fun _ r => r = 1) X k (nI r) (nI c) 1 (nI tn) 0 w := by
  have key : ∃ k, ∀ r c, pq_G 0 (4001 + 40 * 0) (200040 + 3000 * 0) r c w → lp_L_law_53 Ln xs (fun _ r => r = 1) X k (nI r) (nI c) 1 (nI tn) (nI 0) w := by
    refine pz_up (F := fun k i w => ∀ r c, pq_G i (4001 + 40 * i) (200040 + 3000 * i) r c w → lp_L_law_53 Ln xs (fun _ r => r = 1) X k (nI r) (nI c) 1 (nI tn) (nI i) w) (I := fun _ _ => True) tn (fun i w4 k5 hs _ ih => ?_) (fun w4 _ => ?_) trivial
    · intro r c hG
      rw [lp_L_law_53_s]
      have k : ∀ r c w, pq_G (i + 1) (4001 + 40 * (i + 1)) (200040 + 3000 * (i + 1)) r c w → lp_L_law_53 Ln xs (fun _ r => r = 1) X k5 (nI r) (nI c) 1 (nI tn) (nI (i + 1)) w := fun r c w hG => ih w trivial r c hG
      refine ⟨fun q => absurd q (by rw [pz_le (by omega) (by omega)]; omega), fun _ => ⟨fun q => absurd q (by decide), fun _ => ⟨fun _ => wl_97 hG (by omega) k, fun q => ⟨?_, wl_97 hG (by omega) k⟩⟩⟩⟩
      rw [pz_le (by omega) (by omega)] at q
      exact pz_jn (by omega) (by omega)
    · intro r c hG
      rw [lp_L_law_53_s]
      exact ⟨fun _ => ⟨Or.inr rfl, rfl⟩, fun q => absurd (Int32.le_refl _) q⟩
  obtain ⟨k, hk⟩ := key
  exact ⟨k, hk r c hG⟩
/-! the start -/
theorem pj_su40 : ∀ {n : Nat}, pz_su (fun _ => True) (fun _ => (40 : Int32)) n = nI (40 * n)
  | 0 => rfl
  | n + 1 => by
    rw [pz_suS, pz_iT, pj_su40, pz_l40, pz_add]
    exact congrArg nI (by omega)
theorem pj_J0 : pj_J 0 sc0 sq0 pa0 ri0 ca0 pe0 := by
  refine ⟨fun s hs => ?_, ?_, fun s hs => ?_, fun r hr => absurd hr (Nat.not_lt_zero _), fun c hc => absurd hc (Nat.not_lt_zero _), fun c => ⟨0, 0, Nat.zero_le _, Nat.zero_le _, rfl, rfl⟩, ⟨by decide, by decide⟩, fun p hp => ⟨0, rfl, Nat.zero_le _⟩, fun j q hj hq => ⟨0, rfl, Nat.zero_le _⟩⟩
  · have : sq0.1 8 s = 0 := pz_mqi hs
    rw [this]; rfl
  · have e : pz_su (fun _ => True) (sq0.1 7) 100 = pz_su (fun _ => True) (fun _ => (40 : Int32)) 100 := pz_su_c fun t ht => pz_mqi ht
    unfold pj_b
    rw [e, pj_su40]
    rfl
  · have : sq0.1 8 s = 0 := pz_mqi hs
    rw [this]; rfl
theorem wl_law (hL : Ln ≤ 260) : wp_L_law Ln xs pw_w0 (fun _ r => r = 1) (fun _ _ => False) := by
  unfold wp_L_law
  refine ⟨rfl, by decide +kernel, fun w325 e325 => ?_⟩
  subst e325
  refine wl_cinit (fun wA hE hE0 => ?_)
  obtain ⟨z1, z2, z3, z4, z5⟩ := hE0
  have h0 := pz_c0w hE trivial z3 (by omega) (by omega)
  refine wl_isWhole h0 pz_I0 pj_J0 (by omega) (by omega) (fun w1 g1 => ?_)
  have hG : pq_G 0 4001 200040 0 0 w1 := ⟨_, _, _, _, _, _, _, _, pz_I0, pj_J0, g1, rfl, rfl⟩
  refine ⟨fun _ => ⟨fun _ => ?_, fun q => ?_⟩, fun _ => ?_⟩
  · unfold jp_L_law_48
    exact wl_loop (tn := 210) (r := 0) (c := 0) (by omega) hL hG
  · rw [show (80 : Int32) = nI 80 from rfl, pz_le (by omega) (by omega)] at q
    rw [show (2 : Int32) = nI 2 from rfl, pz_mul]
    unfold jp_L_law_48
    exact wl_loop (tn := 2 * Ln) (r := 0) (c := 0) (by omega) hL hG
  · unfold jp_L_law_48
    exact wl_loop (tn := 130) (r := 0) (c := 0) (by omega) hL hG
end PDT
