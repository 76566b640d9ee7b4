/-! what holds besides: grant, merge, decide, die -/
section PJM
variable {sc : pz_S} {sq : pz_Q} {pa : pz_P} {ri mp : pz_N} {ca : pz_P} {dr : pz_N} {pe : pz_Q} {x y z t v : Int32} {n m i k s p q c j : Nat} {P Q : Nat → Prop} {f g o : Nat → Int32}
theorem pj_a_mv (h : pj_a sq) (hb : ∀ s, s < 100 → ∃ l, sq.1 14 s = nI l ∧ 1 ≤ l ∧ l ≤ 119) : pj_a (pz_mv sq f g o 100) := fun s hs => by
  obtain ⟨l, e, h1, h2⟩ := hb s hs
  have h0 := h s hs
  rw [pz_mv8, if_pos hs, pz_mv14]
  show pz_ite (s < 100 ∧ ¬ sq.1 8 s = f s ∧ _ = pw_i (sq.1 14 s)) (f s) (sq.2 s _) = f s
  by_cases d : sq.1 8 s = f s
  · rw [pz_if' (fun z => z.2.1 d), pz_if' (fun z => z.2 d), h0, d]
  · refine pz_it ⟨hs, d, ?_⟩
    rw [pz_it ⟨hs, d⟩, e, pz_s1, pz_i (by omega), pz_i (by omega)]
    omega
theorem pj_mk46 : (pz_mk pa x).2.1 46 j = if j = pa.1 then nI pa.1 else pa.2.1 46 j := by
  unfold pz_mk; dsimp only
  by_cases q : j = pa.1
  · rw [q, pz_us, if_pos rfl]
  · rw [pz_un q, pz_uk (by decide), pz_uk (by decide), if_neg q]
theorem pj_mkr (h : pw_jn z pa.1) : pz_ro (pz_mk pa x) z = pz_ro pa z := by
  show (pz_mk pa x).2.1 46 (pw_i z) = _
  rw [pj_mk46, if_neg (by have := h.2; omega)]
theorem pj_mkn (h : pa.1 ≤ 40) : pz_ro (pz_mk pa x) (nI pa.1) = nI pa.1 := by
  show (pz_mk pa x).2.1 46 (pw_i (nI pa.1)) = _
  rw [pj_mk46, pz_i (by omega), if_pos rfl]
/-- squares that go to a new parcel, or stay -/
theorem pj_c_mk (h : pj_c sq pa) (h8 : pz_j8 sq pa) (hp : pa.1 ≤ 40) (hf : ∀ s, s < 100 → f s = nI pa.1 ∨ f s = sq.1 8 s) : pj_c (pz_mv sq f g o 100) (pz_mk pa x) := fun s hs => by
  rw [pz_mv8, if_pos hs]
  rcases hf s hs with e | e
  · rw [e]; exact pj_mkn hp
  · rw [e, pj_mkr (h8 s hs)]; exact h s hs
theorem pj_h_mk (h : pj_h pa) (hz : ∀ q, q < 12 → pa.2.2 pa.1 q = 0) : pj_h (pz_mk pa x) := fun j q hj hq => by
  have hj : j < pa.1 + 1 := hj
  show ∃ a : Nat, pa.2.2 j q = nI a ∧ _
  by_cases e : j = pa.1
  · refine ⟨0, ?_, Nat.zero_le _⟩
    rw [e, hz q hq]; rfl
  · obtain ⟨a, h1, h2⟩ := h j q (by omega) hq
    refine ⟨a, h1, Nat.le_trans h2 (Nat.mul_le_mul_left _ ?_)⟩
    have e1 : pz_cn (fun k => pa.2.1 46 k = nI j) pa.1 = pz_cn (fun k => (pz_mk pa x).2.1 46 k = nI j) pa.1 := pz_cn_congr fun r hr => by rw [pj_mk46, if_neg (by omega)]
    rw [e1]
    exact pz_cn_mono (Nat.le_succ _)
theorem pj_d_mr {r : Nat} (h : pj_d ri) (hr : r < ri.1) : pj_d (pz_mr' ri (ri.2 20 r) y (ri.2 22 r) (ri.2 23 r) (nI r)) := fun j hj => by
  have hj : j < ri.1 + 1 := hj
  by_cases e : j = ri.1
  · subst e
    obtain ⟨h1, h2, -⟩ := h r hr
    have e20 : (pz_mr' ri (ri.2 20 r) y (ri.2 22 r) (ri.2 23 r) (nI r)).2 20 ri.1 = ri.2 20 r := by
      unfold pz_mr'; dsimp only
      rw [pz_uk (by decide), pz_uk (by decide), pz_uk (by decide), pz_uk (by decide), pz_uk (by decide), pz_us]
    have e22 : (pz_mr' ri (ri.2 20 r) y (ri.2 22 r) (ri.2 23 r) (nI r)).2 22 ri.1 = ri.2 22 r := by
      unfold pz_mr'; dsimp only
      rw [pz_uk (by decide), pz_uk (by decide), pz_uk (by decide), pz_us]
    have e23 : (pz_mr' ri (ri.2 20 r) y (ri.2 22 r) (ri.2 23 r) (nI r)).2 23 ri.1 = ri.2 23 r := by
      unfold pz_mr'; dsimp only
      rw [pz_uk (by decide), pz_uk (by decide), pz_us]
    have e24 : (pz_mr' ri (ri.2 20 r) y (ri.2 22 r) (ri.2 23 r) (nI r)).2 24 ri.1 = nI r := by
      unfold pz_mr'; dsimp only
      rw [pz_uk (by decide), pz_us]
    rw [e20, e22, e23, e24]
    exact ⟨h1, h2, Or.inr ⟨r, hr, rfl, pz_mro hr, pz_mro hr⟩⟩
  · have hj' : j < ri.1 := by omega
    obtain ⟨h1, h2, h3⟩ := h j hj'
    rw [pz_mro hj', pz_mro hj', pz_mro hj', pz_mro hj']
    refine ⟨h1, h2, ?_⟩
    rcases h3 with h3 | ⟨q1, h3, h4, h5, h6⟩
    · exact Or.inl h3
    · exact Or.inr ⟨q1, h3, h4, by rw [pz_mro (by omega)]; exact h5, by rw [pz_mro (by omega)]; exact h6⟩
theorem pj_d_cp {P : pz_N → Nat → Prop} (h : pj_d ri) : ∀ {n : Nat}, n ≤ ri.1 → pj_d (pz_cp ri P y n)
  | 0, _ => h
  | n + 1, hn => by
    have ih := pj_d_cp (P := P) (n := n) h (by omega)
    by_cases q : P (pz_cp ri P y n) n
    · rw [pz_cpT q]
      have hr : n < (pz_cp ri P y n).1 := Nat.lt_of_lt_of_le (by omega) pz_cp_ge
      have := pj_d_mr (y := y) (r := n) ih hr
      rw [pz_cp_old (by omega), pz_cp_old (by omega), pz_cp_old (by omega)] at this
      exact this
    · rw [pz_cpF q]; exact ih
theorem pj_e_mv (h : pj_e sq ca) (hg : ∀ s, s < 100 → g s = sq.1 12 s) : pj_e (pz_mv sq f g o 100) ca := fun c hc => by
  obtain ⟨h1, h2, h3, h4⟩ := h c hc
  refine ⟨h1, h2, fun s hs e => ?_, fun e s hs => ?_⟩
  · rw [pz_mv12, if_pos hs, hg s hs] at e; exact h3 s hs e
  · rw [pz_mv12, if_pos hs, hg s hs]; exact h4 e s hs
theorem pj_grant (J : pj_J n sc sq pa ri ca pe) (I : pz_I sc sq pa ri mp ca dr pe) (hp : pa.1 < 40) : pj_J n sc (pz_mv sq (pz_gf sq x (nI pa.1) y z) (sq.1 12) (sq.1 13) 100) (pz_mk pa t) (pz_cp ri (pz_bP ri x (nI pa.1)) (nI pa.1) ri.1) ca pe := by
  refine ⟨pj_a_mv J.1 (fun s hs => I.gl.gb I.gp.1.2 hs), J.2.1, pj_c_mk J.2.2.1 I.gl.1 I.gp.1.2 (fun s hs => ?_), pj_d_cp J.2.2.2.1 (Nat.le_refl _), pj_e_mv J.2.2.2.2.1 (fun _ _ => rfl), J.2.2.2.2.2.1, J.2.2.2.2.2.2.1, J.2.2.2.2.2.2.2.1, pj_h_mk J.2.2.2.2.2.2.2.2 (fun q hq => I.gp.2.2.2 _ q (Nat.le_refl _) hq)⟩
  unfold pz_gf
  by_cases e : sq.1 8 s = x ∧ pz_if (nI s) y z
  · rw [pz_it e]; exact Or.inl rfl
  · rw [pz_if' e]; exact Or.inr rfl
theorem pj_cn_or : ∀ {n : Nat}, (∀ r, r < n → P r → ¬ Q r) → pz_cn (fun r => P r ∨ Q r) n = pz_cn P n + pz_cn Q n := by
  intro n
  induction n with
  | zero => intro _; rfl
  | succ n ih =>
    intro h
    have ih := ih (fun r hr => h r (by omega))
    by_cases a : P n
    · have b := h n (by omega) a
      rw [pz_cnT (P := fun r => P r ∨ Q r) (Or.inl a), pz_cnT a, pz_cnF b, ih]; omega
    · by_cases b : Q n
      · rw [pz_cnT (P := fun r => P r ∨ Q r) (Or.inr b), pz_cnF a, pz_cnT b, ih]; omega
      · rw [pz_cnF (P := fun r => P r ∨ Q r) (fun z => z.elim a b), pz_cnF a, pz_cnF b, ih]
theorem pj_h_mgp (h : pj_h pa) (hx : pw_jn x pa.1) (hy : pw_jn y pa.1) (hne : ¬ x = y) (hp : pa.1 ≤ 40) : pj_h (pz_mgp pa x y) := fun j q hj hq => by
  obtain ⟨a, ha, rfl⟩ := pz_of hx
  obtain ⟨b, hb, rfl⟩ := pz_of hy
  have hj : j < pa.1 := hj
  have hab : ¬ a = b := fun e => hne (by rw [e])
  have ia := pz_i (n := a) (by omega)
  have ib := pz_i (n := b) (by omega)
  show ∃ u : Nat, pz_sm pa.2.2 (pw_i (nI a)) (pw_i (nI b)) 12 j q = nI u ∧ u ≤ 400 * pz_cn (fun k => pz_ite (pa.2.1 46 k = nI a) (nI b) (pa.2.1 46 k) = nI j) pa.1
  rw [ia, ib]
  show ∃ u : Nat, (if q < 12 then (if j = b then pa.2.2 b q + pa.2.2 a q else if j = a then 0 else pa.2.2 j q) else pa.2.2 j q) = nI u ∧ _
  rw [if_pos hq]
  by_cases e : j = b
  · rw [if_pos e]
    subst e
    obtain ⟨u, h1, h2⟩ := h j q hj hq
    obtain ⟨v, h3, h4⟩ := h a q ha hq
    refine ⟨u + v, by rw [h1, h3, pz_add], ?_⟩
    have e1 : pz_cn (fun k => pz_ite (pa.2.1 46 k = nI a) (nI j) (pa.2.1 46 k) = nI j) pa.1 = pz_cn (fun k => pa.2.1 46 k = nI j ∨ pa.2.1 46 k = nI a) pa.1 := pz_cn_congr fun r hr => by
      by_cases w : pa.2.1 46 r = nI a
      · rw [pz_it w]; exact ⟨fun _ => Or.inr w, fun _ => rfl⟩
      · rw [pz_if' w]; exact ⟨Or.inl, fun z => z.elim id (fun z => absurd z w)⟩
    rw [e1, pj_cn_or (fun r hr z1 z2 => hab (by
      rw [z1, pz_eq (by omega) (by omega)] at z2; exact z2.symm))]
    omega
  · rw [if_neg e]
    by_cases e2 : j = a
    · rw [if_pos e2]
      exact ⟨0, rfl, Nat.zero_le _⟩
    · rw [if_neg e2]
      obtain ⟨u, h1, h2⟩ := h j q hj hq
      refine ⟨u, h1, ?_⟩
      have e1 : pz_cn (fun k => pz_ite (pa.2.1 46 k = nI a) (nI b) (pa.2.1 46 k) = nI j) pa.1 = pz_cn (fun k => pa.2.1 46 k = nI j) pa.1 := pz_cn_congr fun r hr => by
        by_cases w : pa.2.1 46 r = nI a
        · rw [pz_it w, w, pz_eq (by omega) (by omega), pz_eq (by omega) (by omega)]
          exact ⟨fun z => absurd z.symm e, fun z => absurd z.symm e2⟩
        · rw [pz_if' w]
      rw [e1]; exact h2
theorem pj_merge (J : pj_J n sc sq pa ri ca pe) (I : pz_I sc sq pa ri mp ca dr pe) (hx : pw_jn x pa.1) (hy : pw_jn y pa.1) (ry : pz_ro pa y = y) (hne : ¬ x = y) : pj_J n sc (pz_mv sq (pz_ef sq x y) (sq.1 12) (sq.1 13) 100) (pz_mgp pa x y) (pz_enA (pz_cp ri (pz_bP ri x y) y ri.1) x) ca pe := by
  refine ⟨pj_a_mv J.1 (fun s hs => I.gl.gb I.gp.1.2 hs), J.2.1, fun s hs => ?_, pj_d_cp (P := pz_bP ri x y) (y := y) J.2.2.2.1 (Nat.le_refl _), pj_e_mv J.2.2.2.2.1 (fun _ _ => rfl), J.2.2.2.2.2.1, J.2.2.2.2.2.2.1, J.2.2.2.2.2.2.2.1, pj_h_mgp J.2.2.2.2.2.2.2.2 hx hy hne I.gp.1.2⟩
  rw [pz_mv8, if_pos hs]
  unfold pz_ef
  show pz_ite (pa.2.1 46 (pw_i (pz_ite (sq.1 8 s = x) y (sq.1 8 s))) = x) y (pa.2.1 46 (pw_i (pz_ite (sq.1 8 s = x) y (sq.1 8 s)))) = _
  have ry : pa.2.1 46 (pw_i y) = y := ry
  by_cases e : sq.1 8 s = x
  · rw [pz_it e, ry, pz_if' (fun z => hne z.symm)]
  · have h8 : pa.2.1 46 (pw_i (sq.1 8 s)) = sq.1 8 s := J.2.2.1 s hs
    rw [pz_if' e, h8, pz_if' e]
theorem pj_roro (hp : pz_ip pa) (h : pw_jn z pa.1) : pz_ro pa (pz_ro pa z) = pz_ro pa z := by
  have h1 := hp.2.1.is hp.1.2 _ h.2
  exact hp.2.1.self h1.1 h1.2
/-- what a refusal keeps -/
def pj_K (n : Nat) (sc : pz_S) (sq : pz_Q) (pa ca : pz_P) : Prop := pj_a sq ∧ pj_b sc sq ∧ pj_c sq pa ∧ pj_e sq ca ∧ pj_n n ca
theorem pj_J.K (J : pj_J n sc sq pa ri ca pe) : pj_K n sc sq pa ca := ⟨J.1, J.2.1, J.2.2.1, J.2.2.2.2.1, J.2.2.2.2.2.1⟩
theorem pj_rca32 {d : Nat} : (pz_rca ca c).2.1 32 d = if d = c then 2 else ca.2.1 32 d := by
  unfold pz_rca; dsimp only
  rw [pz_uk (by decide)]
  by_cases e : d = c
  · rw [e, pz_us, if_pos rfl]
  · rw [pz_un e, if_neg e]
theorem pj_refuse (J : pj_K n sc sq pa ca) (hl : pz_il sq pa ca) (hp : pz_ip pa) (hic : ca.1 ≤ 16) (hc : c < 16) : pj_K n sc (pz_rq sq pa c) pa (pz_rca ca c) := by
  refine ⟨pj_a_mv J.1 (fun s hs => hl.gb hp.1.2 hs), J.2.1, fun s hs => ?_, fun d hd => ?_, fun d => ?_⟩
  · unfold pz_rq
    rw [pz_mv8, if_pos hs]
    unfold pz_rf
    by_cases e : sq.1 12 s = nI c
    · rw [pz_it e]
      exact pj_roro hp (hl.2.2.1 s hs (by rw [e, pz_nm1 (by omega)]; exact id))
    · rw [pz_if' e]; exact J.2.2.1 s hs
  · obtain ⟨h1, h2, h3, h4⟩ := J.2.2.2.1 d hd
    have hd16 : d < ca.1 := hd
    have e12 : ∀ s, s < 100 → (pz_rq sq pa c).1 12 s = pz_ite (sq.1 12 s = nI c) (-1) (sq.1 12 s) := fun s hs => by
      unfold pz_rq
      rw [pz_mv12, if_pos hs]; rfl
    have key : ∀ s, s < 100 → (pz_rq sq pa c).1 12 s = nI d → sq.1 12 s = nI d ∧ ¬ d = c := fun s hs e => by
      rw [e12 s hs] at e
      by_cases w : sq.1 12 s = nI c
      · rw [pz_it w] at e
        have e' := e.symm
        rw [pz_nm1 (by omega)] at e'
        exact e'.elim
      · rw [pz_if' w] at e
        exact ⟨e, fun z => w (by rw [e, z])⟩
    refine ⟨?_, h2, fun s hs e => h3 s hs (key s hs e).1, fun e s hs z => ?_⟩
    · rw [pj_rca32]
      split
      · exact Or.inr (Or.inr rfl)
      · exact h1
    · obtain ⟨k1, k2⟩ := key s hs z
      rw [pj_rca32, if_neg k2] at e
      exact h4 e s hs k1
  · obtain ⟨a, b, h1, h2, h3, h4⟩ := J.2.2.2.2 d
    refine ⟨a, b, h1, h2, ?_, ?_⟩
    · unfold pz_rca; dsimp only; rw [pz_uk (by decide), pz_uk (by decide)]; exact h3
    · unfold pz_rca; dsimp only; rw [pz_uk (by decide), pz_uk (by decide)]; exact h4
theorem pj_gca32 {d : Nat} : (pz_gca ca c).2.1 32 d = if d = c then 1 else ca.2.1 32 d := by
  unfold pz_gca; dsimp only
  rw [pz_uk (by decide)]
  by_cases e : d = c
  · rw [e, pz_us, if_pos rfl]
  · rw [pz_un e, if_neg e]
theorem pj_n_gca (h : pj_n n ca) : pj_n n (pz_gca ca c) := fun d => by
  obtain ⟨a, b, h1, h2, h3, h4⟩ := h d
  refine ⟨a, b, h1, h2, ?_, ?_⟩
  · unfold pz_gca; dsimp only; rw [pz_uk (by decide), pz_uk (by decide)]; exact h3
  · unfold pz_gca; dsimp only; rw [pz_uk (by decide), pz_uk (by decide)]; exact h4
theorem pj_e_gca0 (h : pj_e sq ca) : pj_e sq (pz_gca ca c) := fun d hd => by
  obtain ⟨h1, h2, h3, h4⟩ := h d hd
  rw [pj_gca32]
  refine ⟨?_, h2, h3, fun e => ?_⟩
  · split
    · exact Or.inr (Or.inl rfl)
    · exact h1
  · by_cases q : d = c
    · rw [if_pos q] at e; exact absurd e (by decide)
    · rw [if_neg q] at e; exact h4 e
theorem pj_e_give (h : pj_e sq ca) (hic : ca.1 ≤ 16) (hc : c < ca.1) : pj_e (pz_tq sq pa ca c 100) (pz_gca ca c) := fun d hd => by
  have hd16 : d < ca.1 := hd
  obtain ⟨h1, h2, h3, h4⟩ := h d hd
  have e12 : ∀ s, s < 100 → (pz_tq sq pa ca c 100).1 12 s = pz_ite (pz_gt sq pa ca c s) (nI c) (sq.1 12 s) := fun s hs => by
    unfold pz_tq
    rw [pz_mv12, if_pos hs]; rfl
  have key : ∀ s, s < 100 → (pz_tq sq pa ca c 100).1 12 s = nI d → (pz_gt sq pa ca c s ∧ d = c) ∨ sq.1 12 s = nI d := fun s hs e => by
    rw [e12 s hs] at e
    by_cases w : pz_gt sq pa ca c s
    · rw [pz_it w, pz_eq (by omega) (by omega)] at e
      exact Or.inl ⟨w, e.symm⟩
    · rw [pz_if' w] at e; exact Or.inr e
  rw [pj_gca32]
  refine ⟨?_, h2, fun s hs e => ?_, fun e s hs z => ?_⟩
  · split
    · exact Or.inr (Or.inl rfl)
    · exact h1
  · rcases key s hs e with ⟨w, rfl⟩ | w
    · exact w.1
    · exact h3 s hs w
  · by_cases q : d = c
    · rw [if_pos q] at e; exact absurd e (by decide)
    · rw [if_neg q] at e
      rcases key s hs z with ⟨w, w2⟩ | w
      · exact q w2
      · exact h4 e s hs w
theorem pj_decide (J : pj_J n sc sq pa ri ca pe) (I : pz_I sc sq pa ri mp ca dr pe) (hc : c < ca.1) (c2 : pz_wi ca c → pz_ex (pz_gt sq pa ca c) 100 → pa.1 < 40) : pj_J n sc (pz_dsq sq pa ca c) (pz_dpa sq pa ca c) ri (pz_dca ca c) pe := by
  have hc16 := I.gc.1
  unfold pz_dsq pz_dpa pz_dca
  by_cases q : pz_wi ca c
  · rw [if_pos q, if_pos q]
    by_cases q2 : pz_ex (pz_gt sq pa ca c) 100
    · rw [if_pos ⟨q, q2⟩]
      refine ⟨pj_a_mv J.1 (fun s hs => I.gl.gb I.gp.1.2 hs), J.2.1, pj_c_mk J.2.2.1 I.gl.1 I.gp.1.2 (fun s hs => ?_), J.2.2.2.1, pj_e_give J.2.2.2.2.1 hc16 hc, pj_n_gca J.2.2.2.2.2.1, J.2.2.2.2.2.2.1, J.2.2.2.2.2.2.2.1, pj_h_mk J.2.2.2.2.2.2.2.2 (fun q hq => I.gp.2.2.2 _ q (Nat.le_refl _) hq)⟩
      unfold pz_tf
      by_cases e : pz_gt sq pa ca c s
      · rw [pz_it e]; exact Or.inl rfl
      · rw [pz_if' e]; exact Or.inr rfl
    · rw [if_neg (fun z => q2 z.2), pz_tnone q2 100 (Nat.le_refl _)]
      exact ⟨J.1, J.2.1, J.2.2.1, J.2.2.2.1, pj_e_gca0 J.2.2.2.2.1, pj_n_gca J.2.2.2.2.2.1, J.2.2.2.2.2.2⟩
  · rw [if_neg q, if_neg q, if_neg (fun z => q z.1)]
    obtain ⟨a1, a2, a3, a4, a5⟩ := pj_refuse (c := c) J.K I.gl I.gp hc16 (by omega)
    exact ⟨a1, a2, a3, J.2.2.2.1, a4, a5, J.2.2.2.2.2.2⟩
theorem pj_rc (J : pj_K n sc sq pa ca) (hp : pz_ip pa) (hl : pz_il sq pa ca) (hc : pz_ic ca) (hq : pz_iq sc sq) : ∀ m, m ≤ ca.1 → pj_K n sc (pz_rc pa sq ca x m).1 pa (pz_rc pa sq ca x m).2 := by
  intro m
  induction m with
  | zero => intro _; exact J
  | succ m ih =>
    intro hm
    have ih := ih (by omega)
    obtain ⟨a1, a2, a3, a4⟩ := pz_rcI (x := x) hp hl hc hq m (by omega)
    by_cases q : (pz_rc pa sq ca x m).2.2.1 31 m = x ∧ (pz_rc pa sq ca x m).2.2.1 32 m = 0
    · rw [pz_rcT q]
      have := hc.1
      exact pj_refuse ih a2 hp (by omega) (by omega)
    · rw [pz_rcF q]; exact ih
theorem pj_d_er (h : pj_d ri) : pj_d (pz_er ri x m) := fun r hr => by
  obtain ⟨h1, h2, h3⟩ := h r hr
  have e : ∀ k j, ¬ k = 25 → (pz_er ri x m).2 k j = ri.2 k j := fun k j hk => by
    show pz_cf ri.2 25 (fun r => ri.2 22 r = x) (fun _ => 1) m k j = _
    exact pz_cfo hk
  rw [e 20 r (by decide), e 23 r (by decide), e 24 r (by decide), e 22 r (by decide)]
  refine ⟨h1, h2, ?_⟩
  rcases h3 with h3 | ⟨q1, h3, h4, h5, h6⟩
  · exact Or.inl h3
  · exact Or.inr ⟨q1, h3, h4, by rw [e 20 q1 (by decide)]; exact h5, by rw [e 22 q1 (by decide)]; exact h6⟩
theorem pj_die (J : pj_J n sc sq pa ri ca pe) (I : pz_I sc sq pa ri mp ca dr pe) (c1 : pw_jn x 12) : pj_J n sc (pz_xrc sq pa ca pe x).1 (pz_xpa pa pe x) (pz_er ri x ri.1) (pz_xrc sq pa ca pe x).2 (pz_xpe pe x) := by
  have hh := pz_xhh I.gh c1
  have hip := pz_xip (x := x) I.gp hh.2.2
  have e8 : ∀ f s, ¬ f = 10 → (pz_eu sq x 100).1 f s = sq.1 f s := fun f s hf => by
    show pz_cf sq.1 10 (fun s => sq.1 10 s = x) (fun _ => -1) 100 f s = _
    exact pz_cfo hf
  have K0 : pj_K n sc (pz_eu sq x 100) (pz_xpa pa pe x) ca := by
    refine ⟨fun s hs => ?_, ?_, fun s hs => ?_, fun c hc => ?_, J.2.2.2.2.2.1⟩
    · rw [e8 8 s (by decide), e8 14 s (by decide)]; exact J.1 s hs
    · unfold pj_b
      rw [show (pz_eu sq x 100).1 7 = sq.1 7 from funext fun s => e8 7 s (by decide)]
      exact J.2.1
    · show (pz_xpa pa pe x).2.1 46 _ = _
      rw [pz_xpa46, e8 8 s (by decide)]; exact J.2.2.1 s hs
    · obtain ⟨h1, h2, h3, h4⟩ := J.2.2.2.2.1 c hc
      exact ⟨h1, h2, fun s hs e => by rw [e8 12 s (by decide)] at e; exact h3 s hs e, fun e s hs => by rw [e8 12 s (by decide)]; exact h4 e s hs⟩
  obtain ⟨a1, a2, a3, a4, a5⟩ := pj_rc (x := x) K0 hip (pz_xil I.gl) I.gc (pz_xiq I.gq) ca.1 (Nat.le_refl _)
  refine ⟨a1, a2, a3, pj_d_er J.2.2.2.1, a4, a5, J.2.2.2.2.2.2.1, J.2.2.2.2.2.2.2.1, fun j q hj hq => ?_⟩
  have e46 : ∀ k, (pz_xpa pa pe x).2.1 46 k = pa.2.1 46 k := fun k => pz_xpa46
  simp only [e46]
  show ∃ u : Nat, pz_ite (q = pw_i x ∧ j < pa.1) 0 (pa.2.2 j q) = nI u ∧ _
  by_cases w : q = pw_i x ∧ j < pa.1
  · rw [pz_it w]; exact ⟨0, rfl, Nat.zero_le _⟩
  · rw [pz_if' w]; exact J.2.2.2.2.2.2.2.2 j q hj hq
end PJM
