/-! grant -/
section PZGR
variable {sc : pz_S} {sq : pz_Q} {pa : pz_P} {ri : pz_N} {mp : pz_N} {ca : pz_P} {dr : pz_N} {pe : pz_Q} {U V : Nat} {w0 w w1 w2 : pw_W} {K : pw_W → Int32 → Prop} {X : pw_W → Nat → Prop} {x y z t : Int32} {i s r j n p q a b k k' : Nat} {c d e v v' : Int32} {f g o : Nat → Int32}
noncomputable def pz_gf (sq : pz_Q) (old p y z : Int32) (s : Nat) : Int32 := pz_ite (sq.1 8 s = old ∧ pz_if (nI s) y z) p (sq.1 8 s)
theorem pz_cp_new {P : pz_N → Nat → Prop} {j : Nat} : ∀ {n : Nat}, ri.1 ≤ j → j < (pz_cp ri P y n).1 → ∃ r, r < n ∧ P (pz_cp ri P y r) r ∧ (pz_cp ri P y n).2 20 j = ri.2 20 r ∧ (pz_cp ri P y n).2 22 j = ri.2 22 r ∧ (pz_cp ri P y n).2 21 j = y
  | 0, h1, h2 => by have h2 : j < ri.1 := h2; omega
  | n + 1, h1, h2 => by
    by_cases q : P (pz_cp ri P y n) n
    · rw [pz_cpT q] at h2 ⊢
      have h2 : j < (pz_cp ri P y n).1 + 1 := h2
      by_cases e : j = (pz_cp ri P y n).1
      · refine ⟨n, by omega, q, ?_, ?_, ?_⟩
        · unfold pz_mr'; dsimp only; rw [e, pz_uk (by decide), pz_uk (by decide), pz_uk (by decide), pz_uk (by decide), pz_uk (by decide), pz_us]
        · unfold pz_mr'; dsimp only; rw [e, pz_uk (by decide), pz_uk (by decide), pz_uk (by decide), pz_us]
        · unfold pz_mr'; dsimp only; rw [e, pz_uk (by decide), pz_uk (by decide), pz_uk (by decide), pz_uk (by decide), pz_us]
      · obtain ⟨r, a1, a2, a3, a4, a5⟩ := pz_cp_new (P := P) (n := n) (j := j) h1 (by omega)
        refine ⟨r, by omega, a2, ?_, ?_, ?_⟩
        · rw [pz_mro (by omega)]; exact a3
        · rw [pz_mro (by omega)]; exact a4
        · rw [pz_mro (by omega)]; exact a5
    · rw [pz_cpF q] at h2 ⊢
      obtain ⟨r, a1, a2⟩ := pz_cp_new (P := P) (n := n) (j := j) h1 h2
      exact ⟨r, by omega, a2⟩
/-- into a new parcel all is brought -/
theorem pz_cp_all (hu : pz_un' ri) (hy : ∀ r, r < ri.1 → ¬ ri.2 21 r = y) : ∀ {n : Nat}, n ≤ ri.1 → pz_cp ri (pz_bP ri x y) y n = pz_cp ri (fun _ r => pz_on ri x r) y n
  | 0, _ => rfl
  | n + 1, hn => by
    have ih := pz_cp_all (n := n) hu hy (by omega)
    have key : pz_bP ri x y (pz_cp ri (pz_bP ri x y) y n) n ↔ pz_on ri x n := by
      refine ⟨fun h => h.1, fun h => ⟨h, ?_⟩⟩
      rintro ⟨j, hj, ⟨⟨a1, a2⟩, a3, a4⟩⟩
      by_cases q : j < ri.1
      · rw [pz_cp_old q] at a2; exact hy j q a2
      · obtain ⟨r, b1, b2, b3, b4, -⟩ := pz_cp_new (P := pz_bP ri x y) (n := n) (j := j) (by omega) hj
        have h2 := b2.1
        have := hu r n (by omega) (by omega) h2.1 h.1 (h2.2.trans h.2.symm) (b3.symm.trans a3) (b4.symm.trans a4)
        omega
    by_cases q : pz_on ri x n
    · rw [pz_cpT (key.mpr q), pz_cpT (P := fun _ r => pz_on ri x r) q, ih]
    · rw [pz_cpF (fun h => q (key.mp h)), pz_cpF (P := fun _ r => pz_on ri x r) q, ih]
theorem pz_ir_cp (h : pz_ir ri pa) (hy : pw_jn y pa.1) (hcap : ri.1 + pz_cn (pz_br ri x y) ri.1 ≤ 80) : ∀ {n : Nat}, n ≤ ri.1 → pz_ir (pz_cp ri (pz_bP ri x y) y n) pa
  | 0, _ => h
  | n + 1, hn => by
    have ih := pz_ir_cp (n := n) h hy hcap (by omega)
    by_cases q : pz_bP ri x y (pz_cp ri (pz_bP ri x y) y n) n
    · rw [pz_cpT q]
      have hcs1 : (pz_cp ri (pz_bP ri x y) y (n + 1)).1 ≤ ri.1 + pz_cn (pz_br ri x y) (n + 1) := pz_cp_cnt fun r _ q => pz_bPbr q
      rw [pz_cpT q] at hcs1
      have hcs1 : (pz_cp ri (pz_bP ri x y) y n).1 + 1 ≤ ri.1 + pz_cn (pz_br ri x y) (n + 1) := hcs1
      have hcm1 : pz_cn (pz_br ri x y) (n + 1) ≤ pz_cn (pz_br ri x y) ri.1 := pz_cn_mono (by omega)
      have hj := h.2.1 n (by omega)
      exact pz_ir.add ih (by omega) hy hj.2.1 hj.2.2 q.2
    · rw [pz_cpF q]; exact ih
theorem pz_mg_mk : pz_mg (pz_mk pa x) = pz_mg pa := by
  unfold pz_mg
  show pz_cn (fun j => ¬ (pz_mk pa x).2.1 17 j = -1) (pa.1 + 1) = _
  have e17 : ∀ j, (pz_mk pa x).2.1 17 j = if j = pa.1 then -1 else pa.2.1 17 j := fun j => by
    unfold pz_mk; dsimp only; rw [pz_uk (by decide)]
    by_cases q : j = pa.1
    · rw [q, pz_us, if_pos rfl]
    · rw [pz_un q, pz_uk (by decide), if_neg q]
  rw [pz_cnF (by rw [e17, if_pos rfl]; exact fun q => q rfl)]
  exact pz_cn_congr fun r hr => by rw [e17, if_neg (by omega)]
theorem pz_ip_mk (h : pz_ip pa) (hn : pa.1 < 40) (hx : x = -1 ∨ pw_jn x 12) : pz_ip (pz_mk pa x) := by
  have e16 : ∀ j, (pz_mk pa x).2.1 16 j = if j = pa.1 then x else pa.2.1 16 j := fun j => by
    unfold pz_mk; dsimp only; rw [pz_uk (by decide), pz_uk (by decide)]
    by_cases q : j = pa.1
    · rw [q, pz_us, if_pos rfl]
    · rw [pz_un q, if_neg q]
  have e17 : ∀ j, (pz_mk pa x).2.1 17 j = if j = pa.1 then -1 else pa.2.1 17 j := fun j => by
    unfold pz_mk; dsimp only; rw [pz_uk (by decide)]
    by_cases q : j = pa.1
    · rw [q, pz_us, if_pos rfl]
    · rw [pz_un q, pz_uk (by decide), if_neg q]
  have e46 : ∀ j, (pz_mk pa x).2.1 46 j = if j = pa.1 then nI pa.1 else pa.2.1 46 j := fun j => by
    unfold pz_mk; dsimp only
    by_cases q : j = pa.1
    · rw [q, pz_us, if_pos rfl]
    · rw [pz_un q, pz_uk (by decide), pz_uk (by decide), if_neg q]
  obtain ⟨h1, ⟨h2, d, h3⟩, h4, h5⟩ := h
  refine ⟨⟨by show 1 ≤ pa.1 + 1; omega, by show pa.1 + 1 ≤ 40; omega⟩, ⟨fun j hj => ?_, d, fun j hj hm => ?_⟩, fun j hj => ?_, fun j q hj hq => h5 j q (by have : pa.1 + 1 ≤ j := hj; omega) hq⟩
  · have hj : j < pa.1 + 1 := hj
    rw [e17, e46]
    by_cases q : j = pa.1
    · rw [if_pos q, if_pos q, q]; exact Or.inl ⟨rfl, rfl⟩
    · rw [if_neg q, if_neg q]
      rcases h2 j (by omega) with a | ⟨a, b, c⟩
      · exact Or.inl a
      · refine Or.inr ⟨a, pz_jw b (by show pa.1 ≤ pa.1 + 1; omega), ?_⟩
        rw [e46, if_neg (by have := b.2; omega)]; exact c
  · have hj : j < pa.1 + 1 := hj
    rw [e17] at hm ⊢
    by_cases q : j = pa.1
    · rw [if_pos q] at hm; exact absurd rfl hm
    · rw [if_neg q] at hm ⊢; exact h3 j (by omega) hm
  · have hj : j < pa.1 + 1 := hj
    rw [e16]
    by_cases q : j = pa.1
    · rw [if_pos q]; exact hx
    · rw [if_neg q]; exact h4 j (by omega)
theorem pz_ir_mk (h : pz_ir ri pa) : pz_ir ri (pz_mk pa x) := ⟨h.1, fun r hr => ⟨pz_jw (h.2.1 r hr).1 (by show pa.1 ≤ pa.1 + 1; omega), (h.2.1 r hr).2⟩, h.2.2⟩
/-- what moves keep, when the bound grows by one or nobody's giver is told -/
theorem pz_il_mv {pa' : pz_P} (h : pz_il sq pa ca) (hf : ∀ s, s < 100 → pw_jn (f s) pa'.1) (hp : pa.1 ≤ pa'.1) (hb : 2 * pa.1 + pz_mg pa + 1 ≤ 2 * pa'.1 + pz_mg pa') (hl : 2 * pa.1 + pz_mg pa ≤ 120) : pz_il (pz_mv sq f (sq.1 12) (sq.1 13) 100) pa' ca := by
  obtain ⟨h1, h2, h3, h4⟩ := h
  have e12 : ∀ s, (pz_mv sq f (sq.1 12) (sq.1 13) 100).1 12 s = sq.1 12 s := fun s => by rw [pz_mv12]; split <;> rfl
  have e13 : ∀ s, (pz_mv sq f (sq.1 12) (sq.1 13) 100).1 13 s = sq.1 13 s := fun s => by rw [pz_mv13]; split <;> rfl
  refine ⟨fun s hs => ?_, fun s hs => ?_, fun s hs hq => ?_, fun s hs => ?_⟩
  · rw [pz_mv8, if_pos hs]; exact hf s hs
  · rw [e12]; exact h2 s hs
  · rw [e12] at hq; rw [e13]; exact pz_jw (h3 s hs hq) hp
  · obtain ⟨l, a1, a2, a3, a4⟩ := h4 s hs
    rw [e12, pz_mv14]
    by_cases q : s < 100 ∧ ¬ sq.1 8 s = f s
    · rw [pz_it q]
      refine ⟨l + 1, by rw [a1, pz_s1], by omega, fun z => ?_, fun z => ?_⟩
      · have := a3 z; omega
      · have := a4 z; omega
    · rw [pz_if' q]
      refine ⟨l, a1, a2, fun z => ?_, fun z => ?_⟩
      · have := a3 z; omega
      · have := a4 z; omega
theorem pz_Lb (h : ∀ s, s < 100 → pw_i (sq.1 14 s) ≤ 120) : pz_L sq ≤ 12000 := by
  have H : ∀ n, n ≤ 100 → pz_Ln sq n ≤ 120 * n := by
    intro n
    induction n with
    | zero => intro _; exact Nat.le_refl _
    | succ n ih =>
      intro hn
      show pz_Ln sq n + pw_i (sq.1 14 n) ≤ _
      have := h n (by omega)
      have := ih (by omega)
      omega
  exact H 100 (by omega)
theorem pz_mvL (I : pz_I sc sq pa ri mp ca dr pe) : pz_L (pz_mv sq f g o n) ≤ 12000 := pz_Lb fun s hs => by
  obtain ⟨l, el, l1, l2⟩ := I.gl.gb I.gp.1.2 hs
  rw [pz_mv14]
  by_cases q : s < n ∧ ¬ sq.1 8 s = f s
  · rw [pz_it q, el, pz_s1, pz_i (by omega)]; omega
  · rw [pz_if' q, el, pz_i (by omega)]; omega
theorem pi_grant (I : pz_I sc sq pa ri mp ca dr pe) (c1 : pw_jn x pa.1 ∧ pw_jn y 100 ∧ pw_jn z 100 ∧ pw_jn t 12) (c2 : pz_fd y z) (c3 : pz_cg sq pa ri pe (pz_ro pa x) y z t) : pz_I sc (pz_mv sq (pz_gf sq (pz_ro pa x) (nI pa.1) y z) (sq.1 12) (sq.1 13) 100) (pz_mk pa t) (pz_cp ri (pz_bP ri (pz_ro pa x) (nI pa.1)) (nI pa.1) ri.1) mp ca dr pe := by
  obtain ⟨g1, g2, g3, g4⟩ := c3
  have hro := pz_roj I c1.1
  have hmg : pz_mg pa ≤ pa.1 := pz_cn_le
  have hcn : pz_cn (pz_br ri (pz_ro pa x) (nI pa.1)) ri.1 ≤ pz_cn (pz_on ri (pz_ro pa x)) ri.1 := by
    have H : ∀ n, pz_cn (pz_br ri (pz_ro pa x) (nI pa.1)) n ≤ pz_cn (pz_on ri (pz_ro pa x)) n := by
      intro n
      induction n with
      | zero => exact Nat.le_refl _
      | succ n ih =>
        by_cases q : pz_br ri (pz_ro pa x) (nI pa.1) n
        · rw [pz_cnT q, pz_cnT q.1]; omega
        · rw [pz_cnF q]
          by_cases q2 : pz_on ri (pz_ro pa x) n
          · rw [pz_cnT q2]; omega
          · rw [pz_cnF q2]; exact ih
    exact H _
  refine ⟨⟨I.gq.1, I.gq.2.1, I.gq.2.2.1, I.gq.2.2.2⟩, pz_il_mv I.gl (fun s hs => ?_) (by show pa.1 ≤ pa.1 + 1; omega) (by rw [pz_mg_mk]; show _ ≤ 2 * (pa.1 + 1) + _; omega) (by omega), pz_ip_mk I.gp g3 (Or.inr c1.2.2.2), pz_ir_cp (pz_ir_mk I.gr) (pz_jn (by show pa.1 < pa.1 + 1; omega) (by omega)) (by omega) (Nat.le_refl _), I.gm, I.gc, I.gd, I.gh⟩
  unfold pz_gf
  by_cases q : sq.1 8 s = pz_ro pa x ∧ pz_if (nI s) y z
  · rw [pz_it q]; exact pz_jn (by show pa.1 < pa.1 + 1; omega) (by omega)
  · rw [pz_if' q]; exact pz_jw (I.gl.1 s hs) (by show pa.1 ≤ pa.1 + 1; omega)
theorem cp_grant (h : pz_c sc sq pa ri mp ca dr pe U V w0 w) (I : pz_I sc sq pa ri mp ca dr pe) (hU : U ≤ 190000) (hV : V ≤ 3900000) (k0 : (pw_jn x pa.1 ∧ pw_jn y 100 ∧ pw_jn z 100 ∧ pw_jn t 12) → (pz_fd y z) → (pz_cg sq pa ri pe (pz_ro pa x) y z t) → ∀ w1, pz_c sc (pz_mv sq (pz_gf sq (pz_ro pa x) (nI pa.1) y z) (sq.1 12) (sq.1 13) 100) (pz_mk pa t) (pz_cp ri (pz_bP ri (pz_ro pa x) (nI pa.1)) (nI pa.1) ri.1) mp ca dr pe (U + 3) (V + 138) w0 w1 → K w1 (nI pa.1)) (k1 : ¬ (pw_jn x pa.1 ∧ pw_jn y 100 ∧ pw_jn z 100 ∧ pw_jn t 12) → ∀ w1, pz_c sc sq pa ri mp ca dr pe (U + 3) (V + 138) w0 w1 → X w1 1) (k2 : (pw_jn x pa.1 ∧ pw_jn y 100 ∧ pw_jn z 100 ∧ pw_jn t 12) → ¬ (pz_fd y z) → ∀ w1, pz_c sc sq pa ri mp ca dr pe (U + 3) (V + 138) w0 w1 → X w1 2) (k3 : (pw_jn x pa.1 ∧ pw_jn y 100 ∧ pw_jn z 100 ∧ pw_jn t 12) → (pz_fd y z) → ¬ (pz_cg sq pa ri pe (pz_ro pa x) y z t) → ∀ w1, pz_c sc sq pa ri mp ca dr pe (U + 3) (V + 138) w0 w1 → X w1 3) : wp_X_grant w x y z t K X := by
  unfold wp_X_grant jp_X_grant_63 jp_X_grant_92
  have hr80 := I.gr.1
  have hp40 := I.gp.1.2
  rw [cv_parcelNumbered h I.gp.2.1 I.gp.1.2]
  have th1 : ∀ (q : ¬ (pw_jn x pa.1 ∧ pw_jn y 100 ∧ pw_jn z 100 ∧ pw_jn t 12)), pw_thr w X 1 := fun q => cu_thr h (by omega) (by omega) (pz_hL I) I.gr.1 (fun w1 h1 => k1 q w1 (h1.up (by omega) (by omega)))
  refine ⟨fun a1 => ?_, fun a1 => th1 fun z => a1 z.1⟩
  rw [cv_checkSquares]
  refine ⟨fun a2 => ?_, fun a2 => th1 fun z => a2 ⟨z.2.1, z.2.2.1⟩⟩
  rw [cv_personNumbered h]
  refine ⟨fun a4 => ?_, fun a4 => th1 fun z => a4 z.2.2.2⟩
  have c1 := And.intro a1 (And.intro a2.1 (And.intro a2.2 a4))
  rw [cv_checkField]
  refine ⟨fun c2 => ⟨a4.1, ?_⟩, fun c2 => cu_thr (X := X) (n := 2) h (by omega) (by omega) (pz_hL I) I.gr.1 (fun w1 h1 => k2 c1 c2 w1 (h1.up (by omega) (by omega)))⟩
  have th3 : ∀ (q : ¬ pz_cg sq pa ri pe (pz_ro pa x) y z t), pw_thr w X 3 := fun q => cu_thr h (by omega) (by omega) (pz_hL I) I.gr.1 (fun w1 h1 => k3 c1 c2 q w1 (h1.up (by omega) (by omega)))
  rw [pz_k42 h _ a4.2, cv_checkState]
  refine ⟨fun g2 => ?_, fun g2 => th3 fun z => g2 z.2.1⟩
  rw [cv_hasSquareIn h, cv_checkState]
  refine ⟨fun g1 => ?_, fun g1 => th3 fun z => g1 z.1⟩
  have hc := pz_cn_le (P := pz_on ri (pz_ro pa x)) (n := ri.1)
  (try simp (disch := omega) only [pz_ce h, pz_k14 h, pz_k60 h, pz_k23 h, pz_k30 h, pz_k31 h, pz_k34 h, pz_k35 h, pz_kl11 h, pz_k11 h, pz_k15 h, pz_k40 h, pz_k41 h, pz_k42 h, pz_k25 h, pz_km0 h, pz_km1 h, pz_km2 h, pz_kc0 h, pz_kc1 h, pz_kc2 h, pz_kc3 h, pz_kc4 h, pz_kc6 h, pz_kc7 h, pz_kl12 h, pz_k12 h, pz_kd0 h, pz_kd1 h, forall_eq, true_and, and_true, true_imp_iff, forall_const, not_true_eq_false, not_false_eq_true, false_imp_iff, implies_true, eq_self, pz_i, pz_s1, pz_p1, pz_jnt, pz_b0, pz_b1, pz_em, pz_nnt, pz_nm1, pz_10, pz_20, pz_30, Classical.not_not, cv_checkState0, cv_checkState1, pz_l40, pz_le, cv_countRightsOn h hr80])
  rw [show nI ri.1 + pz_ct (pz_on ri (pz_ro pa x)) ri.1 = nI (ri.1 + pz_cn (pz_on ri (pz_ro pa x)) ri.1) from pz_add _ _, pz_l80, pz_lt (by omega) (by omega)]
  refine ⟨fun g3 => th3 fun z => by have := z.2.2.1; omega, fun g3 => ⟨fun g4 => th3 fun z => by have := z.2.2.2; omega, fun g4 => ?_⟩⟩
  have c3 : pz_cg sq pa ri pe (pz_ro pa x) y z t := ⟨g1, g2, by omega, by omega⟩
  have k9 := k0 c1 c2 c3
  have hnp : ∀ s, s < 100 → ¬ sq.1 8 s = nI pa.1 := fun s hs q => by have := (I.gl.1 s hs).2; rw [q, pz_i (by omega)] at this; omega
  refine cu_addParcel h (fun q hq => I.gp.2.2.2 _ _ (Nat.le_refl _) hq) I.gl.1 (by omega) (by omega) (by omega) (pz_hL I) I.gr.1 fun w1 h1 => ?_
  have hcn : pz_cn (pz_br ri (pz_ro pa x) (nI pa.1)) ri.1 ≤ pz_cn (pz_on ri (pz_ro pa x)) ri.1 := by
    have H : ∀ n, pz_cn (pz_br ri (pz_ro pa x) (nI pa.1)) n ≤ pz_cn (pz_on ri (pz_ro pa x)) n := by
      intro n
      induction n with
      | zero => exact Nat.le_refl _
      | succ n ih =>
        by_cases q : pz_br ri (pz_ro pa x) (nI pa.1) n
        · rw [pz_cnT q, pz_cnT q.1]; omega
        · rw [pz_cnF q]
          by_cases q2 : pz_on ri (pz_ro pa x) n
          · rw [pz_cnT q2]; omega
          · rw [pz_cnF q2]; exact ih
    exact H _
  refine cu_bring h1 (by omega) (by omega) (pz_hL I) (by omega) fun w2 h2 => ?_
  have hr2 : (pz_cp ri (pz_bP ri (pz_ro pa x) (nI pa.1)) (nI pa.1) ri.1).1 ≤ 80 := by
    have : (pz_cp ri (pz_bP ri (pz_ro pa x) (nI pa.1)) (nI pa.1) ri.1).1 ≤ ri.1 + pz_cn (pz_br ri (pz_ro pa x) (nI pa.1)) ri.1 := pz_cp_cnt fun r _ q => pz_bPbr q
    omega
  have hmg : pz_mg pa ≤ pa.1 := pz_cn_le
  (try simp (disch := omega) only [pz_ce h2, pz_k14 h2, pz_k60 h2, pz_k23 h2, pz_k30 h2, pz_k31 h2, pz_k34 h2, pz_k35 h2, pz_kl11 h2, pz_k11 h2, pz_k15 h2, pz_k40 h2, pz_k41 h2, pz_k42 h2, pz_k25 h2, pz_km0 h2, pz_km1 h2, pz_km2 h2, pz_kc0 h2, pz_kc1 h2, pz_kc2 h2, pz_kc3 h2, pz_kc4 h2, pz_kc6 h2, pz_kc7 h2, pz_kl12 h2, pz_k12 h2, pz_kd0 h2, pz_kd1 h2, forall_eq, true_and, and_true, true_imp_iff, forall_const, not_true_eq_false, not_false_eq_true, false_imp_iff, implies_true, eq_self, pz_i, pz_s1, pz_p1, pz_jnt, pz_b0, pz_b1, pz_em, pz_nnt, pz_nm1, pz_10, pz_20, pz_30, Classical.not_not])
  refine pz_up (F := fun k s w => lp_X_grant_125 K X k y z (pz_ro pa x) (nI pa.1) (nI 100) (nI s) w) (I := fun s w => pz_c sc (pz_mv sq (pz_gf sq (pz_ro pa x) (nI pa.1) y z) (sq.1 12) (sq.1 13) s) (pz_mk pa t) (pz_cp ri (pz_bP ri (pz_ro pa x) (nI pa.1)) (nI pa.1) ri.1) mp ca dr pe (U + 3) (V + 138) w0 w) 100 (fun s w4 k5 hs h4 ih => ?_) (fun w4 h4 => ?_) (by rw [pz_mv0]; exact h2)
  · rw [lp_X_grant_125_s]
    have e8 : (pz_mv sq (pz_gf sq (pz_ro pa x) (nI pa.1) y z) (sq.1 12) (sq.1 13) s).1 8 s = sq.1 8 s := pz_mvx (by omega)
    have e14 : (pz_mv sq (pz_gf sq (pz_ro pa x) (nI pa.1) y z) (sq.1 12) (sq.1 13) s).1 14 s = sq.1 14 s := pz_mvx (by omega)
    (try simp (disch := omega) only [pz_ce h4, pz_k14 h4, pz_k60 h4, pz_k23 h4, pz_k30 h4, pz_k31 h4, pz_k34 h4, pz_k35 h4, pz_kl11 h4, pz_k11 h4, pz_k15 h4, pz_k40 h4, pz_k41 h4, pz_k42 h4, pz_k25 h4, pz_km0 h4, pz_km1 h4, pz_km2 h4, pz_kc0 h4, pz_kc1 h4, pz_kc2 h4, pz_kc3 h4, pz_kc4 h4, pz_kc6 h4, pz_kc7 h4, pz_kl12 h4, pz_k12 h4, pz_kd0 h4, pz_kd1 h4, forall_eq, true_and, and_true, true_imp_iff, forall_const, not_true_eq_false, not_false_eq_true, false_imp_iff, implies_true, eq_self, pz_i, pz_s1, pz_p1, pz_jnt, pz_b0, pz_b1, pz_em, pz_nnt, pz_nm1, pz_10, pz_20, pz_30, Classical.not_not, pz_le, show ¬ 100 ≤ s by omega, cv_isInField, e8])
    have no : ¬ (sq.1 8 s = pz_ro pa x ∧ pz_if (nI s) y z) → lp_X_grant_125 K X k5 y z (pz_ro pa x) (nI pa.1) (nI 100) (nI (s + 1)) w4 := fun q => ih w4 (by
      rw [pz_mvS0 (f := pz_gf sq (pz_ro pa x) (nI pa.1) y z) (g := sq.1 12) (o := sq.1 13) rfl rfl (by unfold pz_gf; rw [pz_if' q])]; exact h4)
    refine ⟨fun q => no fun z => q z.1, fun q => ⟨fun q2 => no fun z => q2 z.2, fun q2 => ?_⟩⟩
    obtain ⟨l, el, l1, l2⟩ := I.gl.gb hp40 hs
    have hLs : pz_L (pz_mv sq (pz_gf sq (pz_ro pa x) (nI pa.1) y z) (sq.1 12) (sq.1 13) s) ≤ 12000 := pz_mvL I
    refine cu_moveTo h4 (by show pa.1 + 1 ≤ 40; omega) hs (pz_jn (by show pa.1 < pa.1 + 1; omega) (by omega)) (by rw [e8]; exact pz_jw (I.gl.1 s hs) (by show pa.1 ≤ pa.1 + 1; omega)) (by rw [e8]; exact hnp s hs) (e14.trans el) l1 (by omega) (by omega) (by omega) hLs hr2 fun w5 h5 => ih w5 ?_
    have e := pz_mvSc (sq := sq) (f := pz_gf sq (pz_ro pa x) (nI pa.1) y z) (g := sq.1 12) (o := sq.1 13) (n := s) rfl rfl
    rw [show pz_gf sq (pz_ro pa x) (nI pa.1) y z s = nI pa.1 by unfold pz_gf; rw [pz_it ⟨q, q2⟩]] at e
    rw [← e]; exact h5
  · rw [lp_X_grant_125_s]
    (try simp (disch := omega) only [pz_ce h4, pz_k14 h4, pz_k60 h4, pz_k23 h4, pz_k30 h4, pz_k31 h4, pz_k34 h4, pz_k35 h4, pz_kl11 h4, pz_k11 h4, pz_k15 h4, pz_k40 h4, pz_k41 h4, pz_k42 h4, pz_k25 h4, pz_km0 h4, pz_km1 h4, pz_km2 h4, pz_kc0 h4, pz_kc1 h4, pz_kc2 h4, pz_kc3 h4, pz_kc4 h4, pz_kc6 h4, pz_kc7 h4, pz_kl12 h4, pz_k12 h4, pz_kd0 h4, pz_kd1 h4, forall_eq, true_and, and_true, true_imp_iff, forall_const, not_true_eq_false, not_false_eq_true, false_imp_iff, implies_true, eq_self, pz_i, pz_s1, pz_p1, pz_jnt, pz_b0, pz_b1, pz_em, pz_nnt, pz_nm1, pz_10, pz_20, pz_30, Classical.not_not, pz_le, Nat.le_refl])
    rw [pz_k30 h4 _ (by show pa.1 < pa.1 + 1; omega)]
    exact k9 _ h4
end PZGR
