/-! merge -/
section PZME
variable {sc : pz_S} {sq : pz_Q} {pa : pz_P} {ri : pz_N} {mp : pz_N} {ca : pz_P} {dr : pz_N} {pe : pz_Q} {U V : Nat} {w0 w w1 w2 : pw_W} {K : pw_W → Int32 → Prop} {X : pw_W → Nat → Prop} {x y z t : Int32} {i s r j n p q a b k k' : Nat} {c d e v v' : Int32} {f g o : Nat → Int32} {R : pz_N} {D : Nat → Prop} {F : pz_F}
noncomputable def pz_ef (sq : pz_Q) (x y : Int32) (s : Nat) : Int32 := pz_ite (sq.1 8 s = x) y (sq.1 8 s)
/-- rights that are ended, up to one -/
noncomputable def pz_en (R : pz_N) (D : Nat → Prop) (n : Nat) : pz_N := (R.1, fun k r => if k = 25 then pz_ite (r < n ∧ D r) 1 (R.2 25 r) else R.2 k r)
noncomputable abbrev pz_enA (R : pz_N) (x : Int32) : pz_N := pz_en R (pz_on R x) R.1
theorem pz_en25 : (pz_en R D n).2 25 r = pz_ite (r < n ∧ D r) 1 (R.2 25 r) := rfl
theorem pz_en0 : pz_en R D 0 = R := Prod.ext rfl (funext fun k => funext fun r => by
  show (if k = 25 then pz_ite (r < 0 ∧ D r) 1 (R.2 25 r) else R.2 k r) = R.2 k r
  by_cases e : k = 25
  · rw [if_pos e, pz_if' (fun q => absurd q.1 (Nat.not_lt_zero _)), e]
  · rw [if_neg e])
theorem pz_enS0 (h : ¬ D n) : pz_en R D (n + 1) = pz_en R D n := Prod.ext rfl (funext fun k => funext fun r => by
  show (if k = 25 then pz_ite (r < n + 1 ∧ D r) 1 (R.2 25 r) else R.2 k r) = (if k = 25 then pz_ite (r < n ∧ D r) 1 (R.2 25 r) else R.2 k r)
  rw [pz_itc (P := r < n + 1 ∧ D r) (Q := r < n ∧ D r) ⟨fun q => ⟨Nat.lt_of_le_of_ne (by omega) (fun e => h (e ▸ q.2)), q.2⟩, fun q => ⟨by omega, q.2⟩⟩])
theorem pz_enS1 (h : D n) : pz_en R D (n + 1) = (R.1, pz_u (pz_en R D n).2 25 n 1) := Prod.ext rfl (funext fun k => funext fun r => by
  show (if k = 25 then pz_ite (r < n + 1 ∧ D r) 1 (R.2 25 r) else R.2 k r) = if k = 25 ∧ r = n then 1 else (if k = 25 then pz_ite (r < n ∧ D r) 1 (R.2 25 r) else R.2 k r)
  by_cases e : k = 25
  · by_cases e2 : r = n
    · rw [if_pos e, if_pos (show k = 25 ∧ r = n from ⟨e, e2⟩), pz_it ⟨by omega, e2 ▸ h⟩]
    · rw [if_pos e, if_neg (show ¬ (k = 25 ∧ r = n) from fun q => e2 q.2), if_pos e]
      exact pz_itc ⟨fun q => ⟨by omega, q.2⟩, fun q => ⟨by omega, q.2⟩⟩
  · rw [if_neg e, if_neg (show ¬ (k = 25 ∧ r = n) from fun q => e q.1), if_neg e])
theorem pz_en_mr (hn : n ≤ R.1) : pz_mr' (pz_en R D n) x y z t v = pz_en (pz_mr' R x y z t v) D n := Prod.ext rfl (funext fun k => funext fun r => by
  show (pz_mr' (pz_en R D n) x y z t v).2 k r = (if k = 25 then pz_ite (r < n ∧ D r) 1 ((pz_mr' R x y z t v).2 25 r) else (pz_mr' R x y z t v).2 k r)
  have e0 : (pz_en R D n).1 = R.1 := rfl
  by_cases e : k = 25
  · rw [if_pos e, e]
    unfold pz_mr'
    dsimp only
    rw [e0]
    by_cases q : r = R.1
    · rw [q, pz_us, pz_us, pz_if' (fun z => by omega)]
    · rw [pz_un q, pz_un q, pz_un q, pz_un q, pz_un q, pz_un q, pz_un q, pz_un q, pz_un q, pz_un q, pz_un q, pz_un q]; rfl
  · rw [if_neg e]
    unfold pz_mr'
    dsimp only
    rw [e0]
    have e2 : ∀ r, (pz_en R D n).2 k r = R.2 k r := fun r => if_neg e
    unfold pz_u
    simp only [e2])
theorem pz_en_same {D' : Nat → Prop} {m : Nat} (h : ∀ r, (r < n ∧ D r) ↔ (r < m ∧ D' r)) : pz_en R D n = pz_en R D' m := Prod.ext rfl (funext fun k => funext fun r => by
  show (if k = 25 then pz_ite (r < n ∧ D r) 1 (R.2 25 r) else R.2 k r) = (if k = 25 then pz_ite (r < m ∧ D' r) 1 (R.2 25 r) else R.2 k r)
  rw [pz_itc (h r)])
/-- sheep of one come to another -/
def pz_sm (F : pz_F) (a b n : Nat) : pz_F := fun p q => if q < n then (if p = b then F b q + F a q else if p = a then 0 else F p q) else F p q
theorem pz_sm0 : pz_sm F a b 0 = F := funext fun _ => funext fun _ => if_neg (Nat.not_lt_zero _)
theorem pz_smx (h : ¬ q < n) : pz_sm F a b n p q = F p q := if_neg h
theorem pz_smS (hab : ¬ a = b) : pz_sm F a b (n + 1) = pz_u (pz_u (pz_sm F a b n) b n (F b n + F a n)) a n 0 := funext fun p => funext fun q => by
  show (if q < n + 1 then (if p = b then F b q + F a q else if p = a then 0 else F p q) else F p q) = _
  by_cases e : q = n
  · rw [e, if_pos (show n < n + 1 by omega)]
    by_cases pa : p = a
    · rw [pa, pz_us, if_neg hab, if_pos rfl]
    · rw [pz_uk pa]
      by_cases pb : p = b
      · rw [pb, pz_us, if_pos rfl]
      · rw [pz_uk pb, if_neg pb, if_neg pa, pz_smx (by omega)]
  · rw [pz_un e, pz_un e]
    show _ = (if q < n then (if p = b then F b q + F a q else if p = a then 0 else F p q) else F p q)
    by_cases q1 : q < n
    · rw [if_pos q1, if_pos (show q < n + 1 by omega)]
    · rw [if_neg q1, if_neg (show ¬ q < n + 1 by omega)]
noncomputable def pz_mgp (pa : pz_P) (x y : Int32) : pz_P := (pa.1, fun k j => if k = 17 then (if j = pw_i x then y else pa.2.1 17 j) else if k = 46 then pz_ite (pa.2.1 46 j = x) y (pa.2.1 46 j) else pa.2.1 k j, pz_sm pa.2.2 (pw_i x) (pw_i y) 12)
theorem pz_mgp17 : (pz_mgp pa x y).2.1 17 j = if j = pw_i x then y else pa.2.1 17 j := rfl
theorem pz_mgp46 : (pz_mgp pa x y).2.1 46 j = pz_ite (pa.2.1 46 j = x) y (pa.2.1 46 j) := rfl
theorem pz_cn_one {P P' : Nat → Prop} {s : Nat} : ∀ {n : Nat}, s < n → (∀ t, t < n → t ≠ s → (P t ↔ P' t)) → ¬ P s → P' s → pz_cn P' n = pz_cn P n + 1
  | 0, h, _, _, _ => by omega
  | n + 1, h, e, h1, h2 => by
    by_cases q : s = n
    · subst q
      rw [pz_cnT h2, pz_cnF h1, pz_cn_congr (fun r hr => (e r (by omega) (by omega)).symm)]
    · have ih := pz_cn_one (n := n) (by omega) (fun t ht hs => e t (by omega) hs) h1 h2
      by_cases b : P n
      · rw [pz_cnT b, pz_cnT ((e n (by omega) (by omega)).mp b), ih]
      · rw [pz_cnF b, pz_cnF (fun z => b ((e n (by omega) (by omega)).mpr z)), ih]
theorem pz_mg_mgp (hx : pw_jn x pa.1) (hr : pa.2.1 17 (pw_i x) = -1) (hy : 0 ≤ y) : pz_mg (pz_mgp pa x y) = pz_mg pa + 1 := by
  refine pz_cn_one (P := fun j => ¬ pa.2.1 17 j = -1) (P' := fun j => ¬ (pz_mgp pa x y).2.1 17 j = -1) hx.2 (fun t _ ht => ?_) (fun q => q hr) ?_
  · rw [pz_mgp17, if_neg ht]
  · rw [pz_mgp17, if_pos rfl]
    intro q; rw [q] at hy; exact absurd hy (by decide)
theorem pz_root.self (h : pz_root pa) (hx : pw_jn x pa.1) (hr : pa.2.1 17 (pw_i x) = -1) : pa.2.1 46 (pw_i x) = x := by
  rcases h.1 _ hx.2 with ⟨_, b⟩ | ⟨a, _⟩
  · rw [b, pw_nIi hx.1]
  · exact absurd hr a
theorem pz_ip_mgp (h : pz_ip pa) (hx : pw_jn x pa.1) (hy : pw_jn y pa.1) (rx : pa.2.1 17 (pw_i x) = -1) (ry : pa.2.1 17 (pw_i y) = -1) (hne : ¬ x = y) : pz_ip (pz_mgp pa x y) := by
  have sx := h.2.1.self hx rx
  have sy := h.2.1.self hy ry
  obtain ⟨h1, ⟨h2, d, h3⟩, h4, h5⟩ := h
  refine ⟨h1, ⟨fun j hj => ?_, fun j => @ite Nat (pa.2.1 46 j = x) (Classical.propDecidable _) (d j + d (pw_i y) + 1) (d j), fun j hj hm => ?_⟩, h4, fun j q hj hq => ?_⟩
  · have hj : j < pa.1 := hj
    rw [pz_mgp17, pz_mgp46]
    by_cases q : j = pw_i x
    · rw [if_pos q]
      refine Or.inr ⟨fun z => ?_, hy, ?_⟩
      · have := hy.1; rw [z] at this; exact absurd this (by decide)
      · rw [pz_mgp46, sy, q, sx, pz_it rfl, pz_if' (fun z => hne z.symm)]
    · rw [if_neg q]
      rcases h2 j hj with ⟨a, b⟩ | ⟨a, b, c⟩
      · refine Or.inl ⟨a, ?_⟩
        rw [pz_if' (fun z => q (by rw [b] at z; rw [← z, pz_i (by omega)])), b]
      · refine Or.inr ⟨a, b, ?_⟩
        rw [pz_mgp46, c]
  · have hj : j < pa.1 := hj
    rw [pz_mgp17] at hm ⊢
    by_cases q : j = pw_i x
    · rw [if_pos q]
      dsimp only
      rw [sy, if_neg (fun z => hne z.symm), q, sx, if_pos rfl]; omega
    · rw [if_neg q] at hm ⊢
      rcases h2 j hj with ⟨a, b⟩ | ⟨a, b, c⟩
      · exact absurd a hm
      · have := h3 j hj hm
        dsimp only
        rw [c]
        by_cases z : pa.2.1 46 (pw_i (pa.2.1 17 j)) = x
        · rw [if_pos z, if_pos z]; omega
        · rw [if_neg z, if_neg z]; exact this
  · have hj : pa.1 ≤ j := hj
    show (if q < 12 then (if j = pw_i y then pa.2.2 (pw_i y) q + pa.2.2 (pw_i x) q else if j = pw_i x then 0 else pa.2.2 j q) else pa.2.2 j q) = 0
    have := hx.2
    have := hy.2
    rw [if_pos hq, if_neg (by omega), if_neg (by omega)]; exact h5 j q hj hq
theorem pz_ir_en (h : pz_ir R pa) : pz_ir (pz_en R D n) pa := by
  obtain ⟨h1, h2, h3, h4⟩ := h
  have z0 : ∀ r, (pz_en R D n).2 25 r = 0 → R.2 25 r = 0 := fun r q => by
    rw [pz_en25] at q
    by_cases e : r < n ∧ D r
    · rw [pz_it e] at q; exact absurd q (by decide)
    · rw [pz_if' e] at q; exact q
  refine ⟨h1, h2, fun r r' hr hr' a1 a2 a3 a4 a5 => h3 r r' hr hr' (z0 r a1) (z0 r' a2) a3 a4 a5, fun r => ?_⟩
  rw [pz_en25]
  by_cases e : r < n ∧ D r
  · rw [pz_it e]; exact Or.inr rfl
  · rw [pz_if' e]; exact h4 r
theorem pz_ror (I : pz_I sc sq pa ri mp ca dr pe) (q : pw_jn x pa.1) : pa.2.1 17 (pw_i (pz_ro pa x)) = -1 := (I.gp.2.1.is I.gp.1.2 _ q.2).2
theorem pz_mpac {pa' : pz_P} (h : pz_m sc sq pa ri mp ca dr pe w0 w) (e : pa'.1 = pa.1) (e16 : ∀ m, pa'.2.1 16 m = pa.2.1 16 m) (e17 : ∀ m, pa'.2.1 17 m = pa.2.1 17 m) (e2 : pa'.2.2 = pa.2.2) : pz_m sc sq pa' ri mp ca dr pe w0 w := by
  obtain ⟨h1, h2, h3, h4, h5, h6, h7⟩ := h
  refine ⟨h1, h2, h3, h4, h5, ?_, h7⟩
  unfold pz_mpa at *
  rw [e, e2]
  exact ⟨fun m => by rw [e16]; exact h6.1 m, fun m => by rw [e17]; exact h6.2.1 m, h6.2.2⟩
theorem pz_cpac {pa' : pz_P} (h : pz_c sc sq pa ri mp ca dr pe U V w0 w) (e : pa'.1 = pa.1) (e16 : ∀ m, pa'.2.1 16 m = pa.2.1 16 m) (e17 : ∀ m, pa'.2.1 17 m = pa.2.1 17 m) (e2 : pa'.2.2 = pa.2.2) : pz_c sc sq pa' ri mp ca dr pe U V w0 w := by
  obtain ⟨h1, h2, h3, h4, h5, h6, h7, h8⟩ := h
  refine ⟨h1, h2, h3, h4, h5, ?_, ?_, h8⟩
  · unfold pz_cpa pz_ss at *
    rw [e, e2]
    obtain ⟨a1, a2, a3, a4, a5, a6, a7, a8, a9⟩ := h6
    exact ⟨a1, a2, a3, a4, a5, a6, fun m => by rw [e16]; exact a7 m, fun m => by rw [e17]; exact a8 m, a9⟩
  · unfold pz_car at *
    rw [e]; exact h7
theorem pi_merge (I : pz_I sc sq pa ri mp ca dr pe) (c1 : pw_jn x pa.1 ∧ pw_jn y pa.1) (c2 : ¬ pz_ro pa x = pz_ro pa y ∧ pa.2.1 16 (pw_i (pz_ro pa x)) = pa.2.1 16 (pw_i (pz_ro pa y)) ∧ ri.1 + pz_cn (pz_br ri (pz_ro pa x) (pz_ro pa y)) ri.1 ≤ 80) : pz_I sc (pz_mv sq (pz_ef sq (pz_ro pa x) (pz_ro pa y)) (sq.1 12) (sq.1 13) 100) (pz_mgp pa (pz_ro pa x) (pz_ro pa y)) (pz_enA (pz_cp ri (pz_bP ri (pz_ro pa x) (pz_ro pa y)) (pz_ro pa y) ri.1) (pz_ro pa x)) mp ca dr pe := by
  obtain ⟨g1, g2, g3⟩ := c2
  have hX := pz_roj I c1.1
  have hY := pz_roj I c1.2
  have rX := pz_ror I c1.1
  have rY := pz_ror I c1.2
  have hmg : pz_mg pa ≤ pa.1 := pz_cn_le
  have h40 := I.gp.1.2
  refine ⟨⟨I.gq.1, I.gq.2.1, I.gq.2.2.1, I.gq.2.2.2⟩, pz_il_mv I.gl (fun s hs => ?_) (Nat.le_refl _) (by rw [pz_mg_mgp hX rX hY.1]; show 2 * pa.1 + pz_mg pa + 1 ≤ 2 * pa.1 + _; omega) (by omega), pz_ip_mgp I.gp hX hY rX rY g1, pz_ir_en (pa := pa) (pz_ir_cp I.gr hY g3 (Nat.le_refl _)), I.gm, I.gc, I.gd, I.gh⟩
  unfold pz_ef
  by_cases q : sq.1 8 s = pz_ro pa x
  · rw [pz_it q]; exact hY
  · rw [pz_if' q]; exact I.gl.1 s hs
theorem cp_merge (h : pz_c sc sq pa ri mp ca dr pe U V w0 w) (I : pz_I sc sq pa ri mp ca dr pe) (hU : U ≤ 190000) (hV : V ≤ 3900000) (k0 : (pw_jn x pa.1 ∧ pw_jn y pa.1) → (¬ pz_ro pa x = pz_ro pa y ∧ pa.2.1 16 (pw_i (pz_ro pa x)) = pa.2.1 16 (pw_i (pz_ro pa y)) ∧ ri.1 + pz_cn (pz_br ri (pz_ro pa x) (pz_ro pa y)) ri.1 ≤ 80) → ∀ w1, pz_c sc (pz_mv sq (pz_ef sq (pz_ro pa x) (pz_ro pa y)) (sq.1 12) (sq.1 13) 100) (pz_mgp pa (pz_ro pa x) (pz_ro pa y)) (pz_enA (pz_cp ri (pz_bP ri (pz_ro pa x) (pz_ro pa y)) (pz_ro pa y) ri.1) (pz_ro pa x)) mp ca dr pe (U + 0) (V + 0) w0 w1 → K w1 (pz_ct (fun s => (pz_mv sq (pz_ef sq (pz_ro pa x) (pz_ro pa y)) (sq.1 12) (sq.1 13) 100).1 8 s = pz_ro pa y) 100)) (k1 : ¬ (pw_jn x pa.1 ∧ pw_jn y pa.1) → ∀ w1, pz_c sc sq pa ri mp ca dr pe (U + 1) (V + 6) w0 w1 → X w1 1) (k2 : (pw_jn x pa.1 ∧ pw_jn y pa.1) → ¬ (¬ pz_ro pa x = pz_ro pa y ∧ pa.2.1 16 (pw_i (pz_ro pa x)) = pa.2.1 16 (pw_i (pz_ro pa y)) ∧ ri.1 + pz_cn (pz_br ri (pz_ro pa x) (pz_ro pa y)) ri.1 ≤ 80) → ∀ w1, pz_c sc sq pa ri mp ca dr pe (U + 1) (V + 6) w0 w1 → X w1 3) : wp_X_merge w x y K X := by
  unfold wp_X_merge jp_X_merge_24 jp_X_merge_44 jp_X_merge_74
  have hr80 := I.gr.1
  have hp40 := I.gp.1.2
  rw [cv_parcelNumbered h I.gp.2.1 I.gp.1.2]
  refine ⟨fun a1 => ?_, fun a1 => cu_thr h (by omega) (by omega) (pz_hL I) I.gr.1 (k1 fun z => a1 z.1)⟩
  rw [cv_parcelNumbered h I.gp.2.1 I.gp.1.2]
  refine ⟨fun a2 => ?_, fun a2 => cu_thr h (by omega) (by omega) (pz_hL I) I.gr.1 (k1 fun z => a2 z.2)⟩
  have c1 := And.intro a1 a2
  have hX := pz_roj I a1
  have hY := pz_roj I a2
  have hX0 := hX.1
  have hY0 := hY.1
  have th := fun q => cu_thr (X := X) (n := 3) h (by omega) (by omega) (pz_hL I) I.gr.1 (k2 c1 q)
  have hcl := pz_cn_le (P := pz_br ri (pz_ro pa x) (pz_ro pa y)) (n := ri.1)
  (try simp (disch := omega) only [pz_ce h, pz_k14 h, pz_k60 h, pz_k23 h, pz_k30 h, pz_k31 h, pz_k34 h, pz_k35 h, pz_kl11 h, pz_k11 h, pz_k15 h, pz_k40 h, pz_k41 h, pz_k42 h, pz_k25 h, pz_km0 h, pz_km1 h, pz_km2 h, pz_kc0 h, pz_kc1 h, pz_kc2 h, pz_kc3 h, pz_kc4 h, pz_kc6 h, pz_kc7 h, pz_kl12 h, pz_k12 h, pz_kd0 h, pz_kd1 h, forall_eq, true_and, and_true, true_imp_iff, forall_const, not_true_eq_false, not_false_eq_true, false_imp_iff, implies_true, eq_self, pz_i, pz_s1, pz_p1, pz_jnt, pz_b0, pz_b1, pz_em, pz_nnt, pz_nm1, pz_10, pz_20, pz_30, Classical.not_not, cv_checkState0, cv_checkState1, hX0, hY0, cv_countRightsToBring h hr80])
  rw [show nI ri.1 + pz_ct (pz_br ri (pz_ro pa x) (pz_ro pa y)) ri.1 = nI (ri.1 + pz_cn (pz_br ri (pz_ro pa x) (pz_ro pa y)) ri.1) from pz_add _ _, pz_l80, pz_lt (by omega) (by omega)]
  refine ⟨fun g1 => th fun z => z.1 g1, fun g1 => ⟨fun g2 => th fun z => g2 z.2.1, fun g2 => ⟨fun g3 => th fun z => by have := z.2.2; omega, fun g3 => ?_⟩⟩⟩
  have g3 : ri.1 + pz_cn (pz_br ri (pz_ro pa x) (pz_ro pa y)) ri.1 ≤ 80 := by omega
  have k9 := k0 c1 ⟨g1, g2, g3⟩
  have hab : ¬ pw_i (pz_ro pa x) = pw_i (pz_ro pa y) := fun q => g1 (pz_ii hX.1 hY.1 q)
  have rX := pz_ror I a1
  obtain ⟨xx, ex⟩ : ∃ xx, xx = pz_ro pa x := ⟨_, rfl⟩
  obtain ⟨yy, ey⟩ : ∃ yy, yy = pz_ro pa y := ⟨_, rfl⟩
  rw [← ex] at hX g1 g3 k9 hab ⊢
  rw [← ey] at hY g1 g3 k9 hab ⊢
  refine cu_bring h (by omega) (by omega) (pz_hL I) g3 fun w1 h1 => ?_
  have hR80 : (pz_cp ri (pz_bP ri xx yy) yy ri.1).1 ≤ 80 := by
    have : (pz_cp ri (pz_bP ri xx yy) yy ri.1).1 ≤ ri.1 + pz_cn (pz_br ri xx yy) ri.1 := pz_cp_cnt fun r _ q => pz_bPbr q
    omega
  obtain ⟨R, eR⟩ : ∃ R, R = pz_cp ri (pz_bP ri xx yy) yy ri.1 := ⟨_, rfl⟩
  rw [← eR] at h1 hR80 k9
  unfold wp_X_endRightsOn
  refine pz_up (F := fun k s w => lp_X_endRightsOn_2 _ _ k xx (nI s) w) (I := fun s w => pz_c sc sq pa (pz_en R (pz_on R xx) s) mp ca dr pe U V w0 w) R.1 (fun s w4 k5 hs h4 ih => ?_) (fun w4 h4 => ?_) (by rw [pz_en0]; exact h1)
  · rw [lp_X_endRightsOn_2_s]
    have e1 : (pz_en R (pz_on R xx) s).1 = R.1 := rfl
    have eon : pz_on (pz_en R (pz_on R xx) s) xx s = pz_on R xx s := by
      show ((pz_en R (pz_on R xx) s).2 25 s = 0 ∧ R.2 21 s = xx) = (R.2 25 s = 0 ∧ R.2 21 s = xx)
      rw [pz_en25, pz_if' (fun q => by omega)]
    (try simp (disch := omega) only [pz_ce h4, pz_k14 h4, pz_k60 h4, pz_k23 h4, pz_k30 h4, pz_k31 h4, pz_k34 h4, pz_k35 h4, pz_kl11 h4, pz_k11 h4, pz_k15 h4, pz_k40 h4, pz_k41 h4, pz_k42 h4, pz_k25 h4, pz_km0 h4, pz_km1 h4, pz_km2 h4, pz_kc0 h4, pz_kc1 h4, pz_kc2 h4, pz_kc3 h4, pz_kc4 h4, pz_kc6 h4, pz_kc7 h4, pz_kl12 h4, pz_k12 h4, pz_kd0 h4, pz_kd1 h4, forall_eq, true_and, and_true, true_imp_iff, forall_const, not_true_eq_false, not_false_eq_true, false_imp_iff, implies_true, eq_self, pz_i, pz_s1, pz_p1, pz_jnt, pz_b0, pz_b1, pz_em, pz_nnt, pz_nm1, pz_10, pz_20, pz_30, Classical.not_not, e1, pz_le, show ¬ R.1 ≤ s by omega, cv_isOn h4, eon])
    refine ⟨fun q => ih w4 (by rw [pz_enS0 q]; exact h4), fun q => ih _ ?_⟩
    rw [pz_enS1 q]
    exact cs55 h4
  rw [lp_X_endRightsOn_2_s]
  have e1 : (pz_en R (pz_on R xx) R.1).1 = R.1 := rfl
  (try simp (disch := omega) only [pz_ce h4, pz_k14 h4, pz_k60 h4, pz_k23 h4, pz_k30 h4, pz_k31 h4, pz_k34 h4, pz_k35 h4, pz_kl11 h4, pz_k11 h4, pz_k15 h4, pz_k40 h4, pz_k41 h4, pz_k42 h4, pz_k25 h4, pz_km0 h4, pz_km1 h4, pz_km2 h4, pz_kc0 h4, pz_kc1 h4, pz_kc2 h4, pz_kc3 h4, pz_kc4 h4, pz_kc6 h4, pz_kc7 h4, pz_kl12 h4, pz_k12 h4, pz_kd0 h4, pz_kd1 h4, forall_eq, true_and, and_true, true_imp_iff, forall_const, not_true_eq_false, not_false_eq_true, false_imp_iff, implies_true, eq_self, pz_i, pz_s1, pz_p1, pz_jnt, pz_b0, pz_b1, pz_em, pz_nnt, pz_nm1, pz_10, pz_20, pz_30, Classical.not_not, e1, pz_le, Nat.le_refl])
  unfold wp_X_bringSheep
  have hXl := hX.2
  have hYl := hY.2
  have hX0 := hX.1
  have hY0 := hY.1
  refine pz_up (F := fun k s w => lp_X_bringSheep_2 _ _ k xx yy (nI s) w) (I := fun s w => pz_c sc sq (pa.1, pa.2.1, pz_sm pa.2.2 (pw_i xx) (pw_i yy) s) (pz_enA R xx) mp ca dr pe U V w0 w) 12 (fun s w5 k5 hs h5 ih => ?_) (fun w5 h5 => ?_) (by rw [pz_sm0]; exact h4)
  · rw [lp_X_bringSheep_2_s]
    (try simp (disch := omega) only [pz_ce h5, pz_k14 h5, pz_k60 h5, pz_k23 h5, pz_k30 h5, pz_k31 h5, pz_k34 h5, pz_k35 h5, pz_kl11 h5, pz_k11 h5, pz_k15 h5, pz_k40 h5, pz_k41 h5, pz_k42 h5, pz_k25 h5, pz_km0 h5, pz_km1 h5, pz_km2 h5, pz_kc0 h5, pz_kc1 h5, pz_kc2 h5, pz_kc3 h5, pz_kc4 h5, pz_kc6 h5, pz_kc7 h5, pz_kl12 h5, pz_k12 h5, pz_kd0 h5, pz_kd1 h5, forall_eq, true_and, and_true, true_imp_iff, forall_const, not_true_eq_false, not_false_eq_true, false_imp_iff, implies_true, eq_self, pz_i, pz_s1, pz_p1, pz_jnt, pz_b0, pz_b1, pz_em, pz_nnt, pz_nm1, pz_10, pz_20, pz_30, Classical.not_not, pz_l12, pz_le, show ¬ 12 ≤ s by omega, hX0, hY0])
    rw [cv_sheepOf h5 hY hp40 hs, cv_sheepOf h5 hX hp40 hs]
    dsimp only
    rw [pz_smx (by omega), pz_smx (by omega)]
    refine cu_setSheep h5 hY hp40 hs fun w6 h6 => ?_
    refine cu_setSheep h6 hX hp40 hs fun w7 h7 => ih w7 ?_
    rw [pz_smS hab]; exact h7
  rw [lp_X_bringSheep_2_s]
  (try simp (disch := omega) only [pz_ce h5, pz_k14 h5, pz_k60 h5, pz_k23 h5, pz_k30 h5, pz_k31 h5, pz_k34 h5, pz_k35 h5, pz_kl11 h5, pz_k11 h5, pz_k15 h5, pz_k40 h5, pz_k41 h5, pz_k42 h5, pz_k25 h5, pz_km0 h5, pz_km1 h5, pz_km2 h5, pz_kc0 h5, pz_kc1 h5, pz_kc2 h5, pz_kc3 h5, pz_kc4 h5, pz_kc6 h5, pz_kc7 h5, pz_kl12 h5, pz_k12 h5, pz_kd0 h5, pz_kd1 h5, forall_eq, true_and, and_true, true_imp_iff, forall_const, not_true_eq_false, not_false_eq_true, false_imp_iff, implies_true, eq_self, pz_i, pz_s1, pz_p1, pz_jnt, pz_b0, pz_b1, pz_em, pz_nnt, pz_nm1, pz_10, pz_20, pz_30, Classical.not_not, pz_l12, pz_le, Nat.le_refl])
  refine pz_up (F := fun k s w => lp_X_merge_109 K X k xx yy (nI 100) (nI s) w) (I := fun s w => pz_c sc (pz_mv sq (pz_ef sq xx yy) (sq.1 12) (sq.1 13) s) (pa.1, pa.2.1, pz_sm pa.2.2 (pw_i xx) (pw_i yy) 12) (pz_enA R xx) mp ca dr pe U V w0 w) 100 (fun s w6 k5 hs h6 ih => ?_) (fun w6 h6 => ?_) (by rw [pz_mv0]; exact h5)
  · rw [lp_X_merge_109_s]
    have e8 : (pz_mv sq (pz_ef sq xx yy) (sq.1 12) (sq.1 13) s).1 8 s = sq.1 8 s := pz_mvx (by omega)
    have e14 : (pz_mv sq (pz_ef sq xx yy) (sq.1 12) (sq.1 13) s).1 14 s = sq.1 14 s := pz_mvx (by omega)
    (try simp (disch := omega) only [pz_ce h6, pz_k14 h6, pz_k60 h6, pz_k23 h6, pz_k30 h6, pz_k31 h6, pz_k34 h6, pz_k35 h6, pz_kl11 h6, pz_k11 h6, pz_k15 h6, pz_k40 h6, pz_k41 h6, pz_k42 h6, pz_k25 h6, pz_km0 h6, pz_km1 h6, pz_km2 h6, pz_kc0 h6, pz_kc1 h6, pz_kc2 h6, pz_kc3 h6, pz_kc4 h6, pz_kc6 h6, pz_kc7 h6, pz_kl12 h6, pz_k12 h6, pz_kd0 h6, pz_kd1 h6, forall_eq, true_and, and_true, true_imp_iff, forall_const, not_true_eq_false, not_false_eq_true, false_imp_iff, implies_true, eq_self, pz_i, pz_s1, pz_p1, pz_jnt, pz_b0, pz_b1, pz_em, pz_nnt, pz_nm1, pz_10, pz_20, pz_30, Classical.not_not, pz_le, show ¬ 100 ≤ s by omega, e8])
    refine ⟨fun q => ih w6 ?_, fun q => ?_⟩
    · rw [pz_mvS0 (f := pz_ef sq xx yy) (g := sq.1 12) (o := sq.1 13) rfl rfl (by unfold pz_ef; rw [pz_if' q])]; exact h6
    · obtain ⟨l, el, l1, l2⟩ := I.gl.gb hp40 hs
      refine cu_moveTo h6 hp40 hs hY (by rw [e8, q]; exact hX) (by rw [e8, q]; exact g1) (e14.trans el) l1 (by omega) (by omega) (by omega) (pz_mvL I) hR80 fun w7 h7 => ih w7 ?_
      have e := pz_mvSc (sq := sq) (f := pz_ef sq xx yy) (g := sq.1 12) (o := sq.1 13) (n := s) rfl rfl
      rw [show pz_ef sq xx yy s = yy by unfold pz_ef; rw [pz_it q]] at e
      rw [← e]; exact h7
  rw [lp_X_merge_109_s]
  (try simp (disch := omega) only [pz_ce h6, pz_k14 h6, pz_k60 h6, pz_k23 h6, pz_k30 h6, pz_k31 h6, pz_k34 h6, pz_k35 h6, pz_kl11 h6, pz_k11 h6, pz_k15 h6, pz_k40 h6, pz_k41 h6, pz_k42 h6, pz_k25 h6, pz_km0 h6, pz_km1 h6, pz_km2 h6, pz_kc0 h6, pz_kc1 h6, pz_kc2 h6, pz_kc3 h6, pz_kc4 h6, pz_kc6 h6, pz_kc7 h6, pz_kl12 h6, pz_k12 h6, pz_kd0 h6, pz_kd1 h6, forall_eq, true_and, and_true, true_imp_iff, forall_const, not_true_eq_false, not_false_eq_true, false_imp_iff, implies_true, eq_self, pz_i, pz_s1, pz_p1, pz_jnt, pz_b0, pz_b1, pz_em, pz_nnt, pz_nm1, pz_10, pz_20, pz_30, Classical.not_not, pz_le, Nat.le_refl, hX0, hY0])
  rw [pz_psk (by decide), pz_k34 h6 _ hYl, pw_nIi hY0]
  refine k9 _ (pz_cpac (cs33 h6 (j := pw_i xx) (v := yy)) rfl (fun j => rfl) (fun j => ?_) rfl)
  show (if j = pw_i xx then yy else pa.2.1 17 j) = (pz_u pa.2.1 17 (pw_i xx) yy) 17 j
  by_cases q : j = pw_i xx
  · rw [if_pos q, q, pz_us]
  · rw [if_neg q, pz_un q]
end PZME
