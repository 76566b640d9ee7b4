/-! the class's methods that only tell -/
section PZCV
variable {sc : pz_S} {sq : pz_Q} {pa : pz_P} {ri : pz_N} {mp : pz_N} {ca : pz_P} {dr : pz_N} {pe : pz_Q} {U V : Nat} {w0 w : pw_W} {K : pw_W → Int32 → Prop} {X : pw_W → Nat → Prop} {x y z t : Int32} {s r c j n : Nat}
theorem pz_min {P : Nat → Prop} : ∀ {n : Nat}, pz_ex P n → ∃ r, r < n ∧ P r ∧ ∀ s, s < r → ¬ P s
  | 0, h => by rw [pz_ex0] at h; exact h.elim
  | n + 1, h => by
    by_cases q : pz_ex P n
    · obtain ⟨r, a, b, e⟩ := pz_min q
      exact ⟨r, by omega, b, e⟩
    · rw [pz_exS] at h
      exact ⟨n, by omega, h.resolve_left q, fun s hs hp => q ⟨s, hs, hp⟩⟩
theorem pz_upx {F : Nat → Nat → Prop} {P : Nat → Prop} {K : Int32 → Prop} (N : Nat) (h0 : ∀ s, F 0 s = False) (hs : ∀ s k, s < N → ¬ P s → F (k + 1) s = F k (s + 1)) (hp : ∀ s k, s < N → P s → F (k + 1) s = K 1) (he : ∀ k, F (k + 1) N = K 0) : (∃ k, F k 0) = K (pz_b (pz_ex P N)) := by
  by_cases hE : pz_ex P N
  · obtain ⟨r, a, b, e⟩ := pz_min hE
    rw [pz_bt hE]
    exact pz_upe r h0 (fun s k q => Or.inl (hs s k (by omega) (e s q))) (fun k => hp r k a b)
  · rw [pz_bf hE]
    exact pz_upe N h0 (fun s k q => Or.inl (hs s k q fun p => hE ⟨s, q, p⟩)) he
theorem cv_isInRange : wp_X_isInRange w x y z K X = K w (pz_b (pz_in x y z)) := by
  unfold wp_X_isInRange pz_in
  by_cases h1 : x < y <;> by_cases h2 : z < x <;> simp [h1, h2, pz_bT, pz_bF]
theorem cv_isInField : wp_X_isInField w x y z K X = K w (pz_b (pz_if x y z)) := by
  unfold wp_X_isInField pz_if
  simp only [cv_isInRange, pz_b0]
  by_cases h1 : pz_in (x - x / 10 * 10) (y - y / 10 * 10) (z - z / 10 * 10) <;> by_cases h2 : pz_in (x / 10) (y / 10) (z / 10) <;> simp only [h1, h2, pz_bT, pz_bF, true_imp_iff, not_true_eq_false, not_false_eq_true, false_imp_iff, and_true, true_and, and_self, and_false]
theorem pz_jlt (hn : n < 2147483648) : pw_jn x n = (¬ x < 0 ∧ x < nI n) := by
  have e : (nI n).toInt = (n : Int) := Int32.toInt_ofNat_of_lt hn
  have e0 : (0 : Int32).toInt = 0 := rfl
  unfold pw_jn
  rw [Int32.lt_iff_toInt_lt, Int32.lt_iff_toInt_lt, Int32.le_iff_toInt_le, e, e0, show pw_i x = x.toInt.toNat from rfl]
  exact propext ⟨fun h => by omega, fun h => by omega⟩
theorem cv_checkIndex (hn : n < 2147483648) : wp_X_checkIndex w x (nI n) K X = ((pw_jn x n → K w 0) ∧ (¬ pw_jn x n → pw_thr w X 1)) := by
  unfold wp_X_checkIndex jp_X_checkIndex_9
  rw [pz_jlt hn]
  by_cases h1 : x < 0 <;> by_cases h2 : x < nI n <;> simp only [h1, h2, true_imp_iff, not_true_eq_false, not_false_eq_true, false_imp_iff, and_true, true_and, and_self, and_false, false_and]
theorem cv_checkArgument {P : Prop} : wp_X_checkArgument w (pz_b P) K X = ((P → K w 0) ∧ (¬ P → pw_thr w X 2)) := by
  unfold wp_X_checkArgument
  (try simp (disch := omega) only [forall_eq, true_and, and_true, true_imp_iff, forall_const, not_true_eq_false, not_false_eq_true, false_imp_iff, implies_true, eq_self, pz_i, pz_s1, pz_p1, pz_jnt, pz_b0, pz_b1, pz_em, pz_nnt, pz_nm1, pz_10, pz_20, pz_30, Classical.not_not])
theorem cv_checkState {P : Prop} : wp_X_checkState w (pz_b P) K X = ((P → K w 0) ∧ (¬ P → pw_thr w X 3)) := by
  unfold wp_X_checkState
  (try simp (disch := omega) only [forall_eq, true_and, and_true, true_imp_iff, forall_const, not_true_eq_false, not_false_eq_true, false_imp_iff, implies_true, eq_self, pz_i, pz_s1, pz_p1, pz_jnt, pz_b0, pz_b1, pz_em, pz_nnt, pz_nm1, pz_10, pz_20, pz_30, Classical.not_not])
theorem cv_checkState0 : wp_X_checkState w 0 K X = pw_thr w X 3 := by
  unfold wp_X_checkState
  (try simp (disch := omega) only [forall_eq, true_and, and_true, true_imp_iff, forall_const, not_true_eq_false, not_false_eq_true, false_imp_iff, implies_true, eq_self, pz_i, pz_s1, pz_p1, pz_jnt, pz_b0, pz_b1, pz_em, pz_nnt, pz_nm1, pz_10, pz_20, pz_30, Classical.not_not])
theorem cv_checkState1 : wp_X_checkState w 1 K X = K w 0 := by
  unfold wp_X_checkState
  (try simp (disch := omega) only [forall_eq, true_and, and_true, true_imp_iff, forall_const, not_true_eq_false, not_false_eq_true, false_imp_iff, implies_true, eq_self, pz_i, pz_s1, pz_p1, pz_jnt, pz_b0, pz_b1, pz_em, pz_nnt, pz_nm1, pz_10, pz_20, pz_30, Classical.not_not, show ¬ (1 : Int32) = 0 by decide])
theorem cv_checkField : wp_X_checkField w x y K X = ((pz_fd x y → K w 0) ∧ (¬ pz_fd x y → pw_thr w X 2)) := by
  unfold wp_X_checkField jp_X_checkField_26 jp_X_checkField_27 pz_fd wp_X_checkArgument
  by_cases h1 : (y - y / 10 * 10) < (x - x / 10 * 10) <;> by_cases h2 : (y / 10) < (x / 10) <;> simp only [h1, h2, pz_bT, pz_bF, true_imp_iff, not_true_eq_false, not_false_eq_true, false_imp_iff, and_true, true_and, and_self, and_false, show ¬ (1 : Int32) = 0 by decide]
theorem cv_checkSquares : wp_X_checkSquares w x y K X = ((pw_jn x 100 ∧ pw_jn y 100 → K w 0) ∧ (¬ (pw_jn x 100 ∧ pw_jn y 100) → pw_thr w X 1)) := by
  unfold wp_X_checkSquares
  rw [pz_l100]
  simp only [cv_checkIndex (show 100 < 2147483648 by decide)]
  by_cases h1 : pw_jn x 100 <;> by_cases h2 : pw_jn y 100 <;> simp only [h1, h2, true_imp_iff, not_true_eq_false, not_false_eq_true, false_imp_iff, and_true, true_and, and_self, and_false, false_and]
theorem pz_imc {P A B : Prop} (h : P → A = B) : (P → A) = (P → B) := propext ⟨fun q p => (h p) ▸ q p, fun q p => (h p).symm ▸ q p⟩
theorem cv_squareNumbered (h : pz_c sc sq pa ri mp ca dr pe U V w0 w) : wp_X_squareNumbered w x K X = ((pw_jn x 100 → K w x) ∧ (¬ pw_jn x 100 → pw_thr w X 1)) := by
  unfold wp_X_squareNumbered
  rw [pz_l100, cv_checkIndex (by decide)]
  congr 1
  refine pz_imc fun q => ?_
  (try simp (disch := omega) only [pz_ce h, pz_k14 h, pz_k60 h, pz_k23 h, pz_k30 h, pz_k31 h, pz_k34 h, pz_k35 h, pz_kl11 h, pz_k11 h, pz_k15 h, pz_k40 h, pz_k41 h, pz_k42 h, pz_k25 h, pz_km0 h, pz_km1 h, pz_km2 h, pz_kc0 h, pz_kc1 h, pz_kc2 h, pz_kc3 h, pz_kc4 h, pz_kc6 h, pz_kc7 h, pz_kl12 h, pz_k12 h, pz_kd0 h, pz_kd1 h, forall_eq, true_and, and_true, true_imp_iff, forall_const, not_true_eq_false, not_false_eq_true, false_imp_iff, implies_true, eq_self, pz_i, pz_s1, pz_p1, pz_jnt, pz_b0, pz_b1, pz_em, pz_nnt, pz_nm1, pz_10, pz_20, pz_30, Classical.not_not, q])
  rw [pz_k14 h _ q.2, pw_nIi q.1]
theorem cv_personNumbered (h : pz_c sc sq pa ri mp ca dr pe U V w0 w) : wp_X_personNumbered w x K X = ((pw_jn x 12 → K w x) ∧ (¬ pw_jn x 12 → pw_thr w X 1)) := by
  unfold wp_X_personNumbered
  rw [pz_l12, cv_checkIndex (by decide)]
  congr 1
  refine pz_imc fun q => ?_
  (try simp (disch := omega) only [pz_ce h, pz_k14 h, pz_k60 h, pz_k23 h, pz_k30 h, pz_k31 h, pz_k34 h, pz_k35 h, pz_kl11 h, pz_k11 h, pz_k15 h, pz_k40 h, pz_k41 h, pz_k42 h, pz_k25 h, pz_km0 h, pz_km1 h, pz_km2 h, pz_kc0 h, pz_kc1 h, pz_kc2 h, pz_kc3 h, pz_kc4 h, pz_kc6 h, pz_kc7 h, pz_kl12 h, pz_k12 h, pz_kd0 h, pz_kd1 h, forall_eq, true_and, and_true, true_imp_iff, forall_const, not_true_eq_false, not_false_eq_true, false_imp_iff, implies_true, eq_self, pz_i, pz_s1, pz_p1, pz_jnt, pz_b0, pz_b1, pz_em, pz_nnt, pz_nm1, pz_10, pz_20, pz_30, Classical.not_not, q])
  rw [pz_k15 h _ q.2, pw_nIi q.1]
theorem cv_rightNumbered (h : pz_c sc sq pa ri mp ca dr pe U V w0 w) (hn : ri.1 ≤ 80) : wp_X_rightNumbered w x K X = ((pw_jn x ri.1 → K w x) ∧ (¬ pw_jn x ri.1 → pw_thr w X 1)) := by
  unfold wp_X_rightNumbered
  (try simp (disch := omega) only [pz_ce h, pz_k14 h, pz_k60 h, pz_k23 h, pz_k30 h, pz_k31 h, pz_k34 h, pz_k35 h, pz_kl11 h, pz_k11 h, pz_k15 h, pz_k40 h, pz_k41 h, pz_k42 h, pz_k25 h, pz_km0 h, pz_km1 h, pz_km2 h, pz_kc0 h, pz_kc1 h, pz_kc2 h, pz_kc3 h, pz_kc4 h, pz_kc6 h, pz_kc7 h, pz_kl12 h, pz_k12 h, pz_kd0 h, pz_kd1 h, forall_eq, true_and, and_true, true_imp_iff, forall_const, not_true_eq_false, not_false_eq_true, false_imp_iff, implies_true, eq_self, pz_i, pz_s1, pz_p1, pz_jnt, pz_b0, pz_b1, pz_em, pz_nnt, pz_nm1, pz_10, pz_20, pz_30, Classical.not_not])
  rw [cv_checkIndex (by omega)]
  congr 1
  refine pz_imc fun q => ?_
  (try simp (disch := omega) only [pz_ce h, pz_k14 h, pz_k60 h, pz_k23 h, pz_k30 h, pz_k31 h, pz_k34 h, pz_k35 h, pz_kl11 h, pz_k11 h, pz_k15 h, pz_k40 h, pz_k41 h, pz_k42 h, pz_k25 h, pz_km0 h, pz_km1 h, pz_km2 h, pz_kc0 h, pz_kc1 h, pz_kc2 h, pz_kc3 h, pz_kc4 h, pz_kc6 h, pz_kc7 h, pz_kl12 h, pz_k12 h, pz_kd0 h, pz_kd1 h, forall_eq, true_and, and_true, true_imp_iff, forall_const, not_true_eq_false, not_false_eq_true, false_imp_iff, implies_true, eq_self, pz_i, pz_s1, pz_p1, pz_jnt, pz_b0, pz_b1, pz_em, pz_nnt, pz_nm1, pz_10, pz_20, pz_30, Classical.not_not, q])
  rw [pz_k25 h _ q.2, pw_nIi q.1]
theorem cv_caseNumbered (h : pz_c sc sq pa ri mp ca dr pe U V w0 w) (hn : ca.1 ≤ 16) : wp_X_caseNumbered w x K X = ((pw_jn x ca.1 → K w (w.1 20 0 (pw_i x))) ∧ (¬ pw_jn x ca.1 → pw_thr w X 1)) := by
  unfold wp_X_caseNumbered
  (try simp (disch := omega) only [pz_ce h, pz_k14 h, pz_k60 h, pz_k23 h, pz_k30 h, pz_k31 h, pz_k34 h, pz_k35 h, pz_kl11 h, pz_k11 h, pz_k15 h, pz_k40 h, pz_k41 h, pz_k42 h, pz_k25 h, pz_km0 h, pz_km1 h, pz_km2 h, pz_kc0 h, pz_kc1 h, pz_kc2 h, pz_kc3 h, pz_kc4 h, pz_kc6 h, pz_kc7 h, pz_kl12 h, pz_k12 h, pz_kd0 h, pz_kd1 h, forall_eq, true_and, and_true, true_imp_iff, forall_const, not_true_eq_false, not_false_eq_true, false_imp_iff, implies_true, eq_self, pz_i, pz_s1, pz_p1, pz_jnt, pz_b0, pz_b1, pz_em, pz_nnt, pz_nm1, pz_10, pz_20, pz_30, Classical.not_not])
  rw [cv_checkIndex (by omega)]
  congr 1
  refine pz_imc fun q => ?_
  (try simp (disch := omega) only [pz_ce h, pz_k14 h, pz_k60 h, pz_k23 h, pz_k30 h, pz_k31 h, pz_k34 h, pz_k35 h, pz_kl11 h, pz_k11 h, pz_k15 h, pz_k40 h, pz_k41 h, pz_k42 h, pz_k25 h, pz_km0 h, pz_km1 h, pz_km2 h, pz_kc0 h, pz_kc1 h, pz_kc2 h, pz_kc3 h, pz_kc4 h, pz_kc6 h, pz_kc7 h, pz_kl12 h, pz_k12 h, pz_kd0 h, pz_kd1 h, forall_eq, true_and, and_true, true_imp_iff, forall_const, not_true_eq_false, not_false_eq_true, false_imp_iff, implies_true, eq_self, pz_i, pz_s1, pz_p1, pz_jnt, pz_b0, pz_b1, pz_em, pz_nnt, pz_nm1, pz_10, pz_20, pz_30, Classical.not_not, q])
theorem cv_current (h : pz_c sc sq pa ri mp ca dr pe U V w0 w) (hr : pz_root pa) (hx : pw_jn x pa.1) : wp_Parcel_current w x K X = K w (pz_ro pa x) := by
  unfold wp_Parcel_current
  have st : ∀ k x, pw_jn x pa.1 → lp_Parcel_current_2 K X (k + 1) x w = ((pa.2.1 17 (pw_i x) = -1 → K w x) ∧ (¬ pa.2.1 17 (pw_i x) = -1 → lp_Parcel_current_2 K X k (pa.2.1 17 (pw_i x)) w)) := by
    intro k x hx
    have hx0 : 0 ≤ x := hx.1
    rw [lp_Parcel_current_2_s]
    (try simp (disch := omega) only [pz_ce h, pz_k14 h, pz_k60 h, pz_k23 h, pz_k30 h, pz_k31 h, pz_k34 h, pz_k35 h, pz_kl11 h, pz_k11 h, pz_k15 h, pz_k40 h, pz_k41 h, pz_k42 h, pz_k25 h, pz_km0 h, pz_km1 h, pz_km2 h, pz_kc0 h, pz_kc1 h, pz_kc2 h, pz_kc3 h, pz_kc4 h, pz_kc6 h, pz_kc7 h, pz_kl12 h, pz_k12 h, pz_kd0 h, pz_kd1 h, forall_eq, true_and, and_true, true_imp_iff, forall_const, not_true_eq_false, not_false_eq_true, false_imp_iff, implies_true, eq_self, pz_i, pz_s1, pz_p1, pz_jnt, pz_b0, pz_b1, pz_em, pz_nnt, pz_nm1, pz_10, pz_20, pz_30, Classical.not_not, hx0])
  obtain ⟨h1, d, h2⟩ := hr
  have A : ∀ k x, pw_jn x pa.1 → lp_Parcel_current_2 K X k x w → K w (pz_ro pa x) := by
    intro k
    induction k with
    | zero => intro x hx q; exact q.elim
    | succ k ih =>
      intro x hx q
      rw [st k x hx] at q
      rcases h1 _ hx.2 with ⟨a, b⟩ | ⟨a, b, e⟩
      · show K w (pa.2.1 46 (pw_i x))
        rw [b, pw_nIi hx.1]; exact q.1 a
      · have := ih _ b (q.2 a)
        show K w (pa.2.1 46 (pw_i x))
        rw [e]; exact this
  have B : ∀ n x, pw_jn x pa.1 → d (pw_i x) ≤ n → K w (pz_ro pa x) → lp_Parcel_current_2 K X (n + 1) x w := by
    intro n
    induction n with
    | zero =>
      intro x hx hd q
      rw [st _ x hx]
      rcases h1 _ hx.2 with ⟨a, b⟩ | ⟨a, b, e⟩
      · refine ⟨fun _ => ?_, fun z => absurd a z⟩
        have q : K w (pa.2.1 46 (pw_i x)) := q
        rw [b, pw_nIi hx.1] at q; exact q
      · have := h2 _ hx.2 a; omega
    | succ n ih =>
      intro x hx hd q
      rw [st _ x hx]
      have q : K w (pa.2.1 46 (pw_i x)) := q
      rcases h1 _ hx.2 with ⟨a, b⟩ | ⟨a, b, e⟩
      · refine ⟨fun _ => ?_, fun z => absurd a z⟩
        rw [b, pw_nIi hx.1] at q; exact q
      · refine ⟨fun z => absurd z a, fun _ => ?_⟩
        have := h2 _ hx.2 a
        rw [e] at q
        exact ih _ b (by omega) q
  exact propext ⟨fun ⟨k, q⟩ => A k x hx q, fun q => ⟨_, B _ x hx (Nat.le_refl _) q⟩⟩
theorem cv_parcelNumbered (h : pz_c sc sq pa ri mp ca dr pe U V w0 w) (hr : pz_root pa) (hn : pa.1 ≤ 40) : wp_X_parcelNumbered w x K X = ((pw_jn x pa.1 → K w (pz_ro pa x)) ∧ (¬ pw_jn x pa.1 → pw_thr w X 1)) := by
  unfold wp_X_parcelNumbered
  (try simp (disch := omega) only [pz_ce h, pz_k14 h, pz_k60 h, pz_k23 h, pz_k30 h, pz_k31 h, pz_k34 h, pz_k35 h, pz_kl11 h, pz_k11 h, pz_k15 h, pz_k40 h, pz_k41 h, pz_k42 h, pz_k25 h, pz_km0 h, pz_km1 h, pz_km2 h, pz_kc0 h, pz_kc1 h, pz_kc2 h, pz_kc3 h, pz_kc4 h, pz_kc6 h, pz_kc7 h, pz_kl12 h, pz_k12 h, pz_kd0 h, pz_kd1 h, forall_eq, true_and, and_true, true_imp_iff, forall_const, not_true_eq_false, not_false_eq_true, false_imp_iff, implies_true, eq_self, pz_i, pz_s1, pz_p1, pz_jnt, pz_b0, pz_b1, pz_em, pz_nnt, pz_nm1, pz_10, pz_20, pz_30, Classical.not_not])
  rw [cv_checkIndex (by omega)]
  congr 1
  refine pz_imc fun q => ?_
  (try simp (disch := omega) only [pz_ce h, pz_k14 h, pz_k60 h, pz_k23 h, pz_k30 h, pz_k31 h, pz_k34 h, pz_k35 h, pz_kl11 h, pz_k11 h, pz_k15 h, pz_k40 h, pz_k41 h, pz_k42 h, pz_k25 h, pz_km0 h, pz_km1 h, pz_km2 h, pz_kc0 h, pz_kc1 h, pz_kc2 h, pz_kc3 h, pz_kc4 h, pz_kc6 h, pz_kc7 h, pz_kl12 h, pz_k12 h, pz_kd0 h, pz_kd1 h, forall_eq, true_and, and_true, true_imp_iff, forall_const, not_true_eq_false, not_false_eq_true, false_imp_iff, implies_true, eq_self, pz_i, pz_s1, pz_p1, pz_jnt, pz_b0, pz_b1, pz_em, pz_nnt, pz_nm1, pz_10, pz_20, pz_30, Classical.not_not, q])
  rw [pz_k23 h _ q.2, pw_nIi q.1, cv_current h hr q]
  simp only [q.1, true_and]
theorem cv_isOn (h : pz_c sc sq pa ri mp ca dr pe U V w0 w) (hr : r < 80) : wp_Right_isOn w (nI r) x K X = K w (pz_b (pz_on ri x r)) := by
  unfold wp_Right_isOn pz_on
  (try simp (disch := omega) only [pz_ce h, pz_k14 h, pz_k60 h, pz_k23 h, pz_k30 h, pz_k31 h, pz_k34 h, pz_k35 h, pz_kl11 h, pz_k11 h, pz_k15 h, pz_k40 h, pz_k41 h, pz_k42 h, pz_k25 h, pz_km0 h, pz_km1 h, pz_km2 h, pz_kc0 h, pz_kc1 h, pz_kc2 h, pz_kc3 h, pz_kc4 h, pz_kc6 h, pz_kc7 h, pz_kl12 h, pz_k12 h, pz_kd0 h, pz_kd1 h, forall_eq, true_and, and_true, true_imp_iff, forall_const, not_true_eq_false, not_false_eq_true, false_imp_iff, implies_true, eq_self, pz_i, pz_s1, pz_p1, pz_jnt, pz_b0, pz_b1, pz_em, pz_nnt, pz_nm1, pz_10, pz_20, pz_30, Classical.not_not])
  by_cases h1 : ri.2 25 r = 0 <;> by_cases h2 : ri.2 21 r = x <;> simp [h1, h2, pz_bT, pz_bF]
theorem cv_hasRight (h : pz_c sc sq pa ri mp ca dr pe U V w0 w) (hn : ri.1 ≤ 80) : wp_X_hasRight w y x z K X = K w (pz_b (pz_ex (pz_hr ri y x z) ri.1)) := by
  unfold wp_X_hasRight
  refine pz_upx (F := fun k s => lp_X_hasRight_3 K X k y x z (nI s) w) (P := pz_hr ri y x z) (K := K w) ri.1 (fun s => rfl) (fun s k hs hp => ?_) (fun s k hs hp => ?_) (fun k => ?_)
  · rw [lp_X_hasRight_3_s]
    unfold pz_hr at hp
    (try simp (disch := omega) only [pz_ce h, pz_k14 h, pz_k60 h, pz_k23 h, pz_k30 h, pz_k31 h, pz_k34 h, pz_k35 h, pz_kl11 h, pz_k11 h, pz_k15 h, pz_k40 h, pz_k41 h, pz_k42 h, pz_k25 h, pz_km0 h, pz_km1 h, pz_km2 h, pz_kc0 h, pz_kc1 h, pz_kc2 h, pz_kc3 h, pz_kc4 h, pz_kc6 h, pz_kc7 h, pz_kl12 h, pz_k12 h, pz_kd0 h, pz_kd1 h, forall_eq, true_and, and_true, true_imp_iff, forall_const, not_true_eq_false, not_false_eq_true, false_imp_iff, implies_true, eq_self, pz_i, pz_s1, pz_p1, pz_jnt, pz_b0, pz_b1, pz_em, pz_nnt, pz_nm1, pz_10, pz_20, pz_30, Classical.not_not, pz_le, cv_isOn h, show ¬ ri.1 ≤ s by omega])
    by_cases h1 : pz_on ri x s <;> by_cases h2 : ri.2 20 s = y <;> by_cases h3 : ri.2 22 s = z <;> simp_all
  · rw [lp_X_hasRight_3_s]
    unfold pz_hr at hp
    (try simp (disch := omega) only [pz_ce h, pz_k14 h, pz_k60 h, pz_k23 h, pz_k30 h, pz_k31 h, pz_k34 h, pz_k35 h, pz_kl11 h, pz_k11 h, pz_k15 h, pz_k40 h, pz_k41 h, pz_k42 h, pz_k25 h, pz_km0 h, pz_km1 h, pz_km2 h, pz_kc0 h, pz_kc1 h, pz_kc2 h, pz_kc3 h, pz_kc4 h, pz_kc6 h, pz_kc7 h, pz_kl12 h, pz_k12 h, pz_kd0 h, pz_kd1 h, forall_eq, true_and, and_true, true_imp_iff, forall_const, not_true_eq_false, not_false_eq_true, false_imp_iff, implies_true, eq_self, pz_i, pz_s1, pz_p1, pz_jnt, pz_b0, pz_b1, pz_em, pz_nnt, pz_nm1, pz_10, pz_20, pz_30, Classical.not_not, pz_le, cv_isOn h, show ¬ ri.1 ≤ s by omega, hp.1, hp.2.1, hp.2.2])
  · rw [lp_X_hasRight_3_s]
    (try simp (disch := omega) only [pz_ce h, pz_k14 h, pz_k60 h, pz_k23 h, pz_k30 h, pz_k31 h, pz_k34 h, pz_k35 h, pz_kl11 h, pz_k11 h, pz_k15 h, pz_k40 h, pz_k41 h, pz_k42 h, pz_k25 h, pz_km0 h, pz_km1 h, pz_km2 h, pz_kc0 h, pz_kc1 h, pz_kc2 h, pz_kc3 h, pz_kc4 h, pz_kc6 h, pz_kc7 h, pz_kl12 h, pz_k12 h, pz_kd0 h, pz_kd1 h, forall_eq, true_and, and_true, true_imp_iff, forall_const, not_true_eq_false, not_false_eq_true, false_imp_iff, implies_true, eq_self, pz_i, pz_s1, pz_p1, pz_jnt, pz_b0, pz_b1, pz_em, pz_nnt, pz_nm1, pz_10, pz_20, pz_30, Classical.not_not, pz_le, Nat.le_refl])
def pz_br (ri : pz_N) (x y : Int32) (r : Nat) : Prop := pz_on ri x r ∧ ¬ pz_ex (pz_hr ri (ri.2 20 r) y (ri.2 22 r)) ri.1
theorem cv_isToBring (h : pz_c sc sq pa ri mp ca dr pe U V w0 w) (hn : ri.1 ≤ 80) (hr : r < 80) : wp_X_isToBring w (nI r) x y K X = K w (pz_b (pz_br ri x y r)) := by
  unfold wp_X_isToBring pz_br
  (try simp (disch := omega) only [pz_ce h, pz_k14 h, pz_k60 h, pz_k23 h, pz_k30 h, pz_k31 h, pz_k34 h, pz_k35 h, pz_kl11 h, pz_k11 h, pz_k15 h, pz_k40 h, pz_k41 h, pz_k42 h, pz_k25 h, pz_km0 h, pz_km1 h, pz_km2 h, pz_kc0 h, pz_kc1 h, pz_kc2 h, pz_kc3 h, pz_kc4 h, pz_kc6 h, pz_kc7 h, pz_kl12 h, pz_k12 h, pz_kd0 h, pz_kd1 h, forall_eq, true_and, and_true, true_imp_iff, forall_const, not_true_eq_false, not_false_eq_true, false_imp_iff, implies_true, eq_self, pz_i, pz_s1, pz_p1, pz_jnt, pz_b0, pz_b1, pz_em, pz_nnt, pz_nm1, pz_10, pz_20, pz_30, Classical.not_not, cv_isOn h, cv_hasRight h hn])
  by_cases h1 : pz_on ri x r <;> by_cases h2 : pz_ex (pz_hr ri (ri.2 20 r) y (ri.2 22 r)) ri.1 <;> simp [h1, h2, pz_bT, pz_bF]
theorem cv_countRightsOn (h : pz_c sc sq pa ri mp ca dr pe U V w0 w) (hn : ri.1 ≤ 80) : wp_X_countRightsOn w x K X = K w (pz_ct (pz_on ri x) ri.1) := by
  unfold wp_X_countRightsOn
  refine pz_upe (F := fun k s => lp_X_countRightsOn_4 K X k x (pz_ct (pz_on ri x) s) (nI s) w) ri.1 (fun s => rfl) (fun s k hs => Or.inl ?_) (fun k => ?_)
  · rw [lp_X_countRightsOn_4_s]
    (try simp (disch := omega) only [pz_ce h, pz_k14 h, pz_k60 h, pz_k23 h, pz_k30 h, pz_k31 h, pz_k34 h, pz_k35 h, pz_kl11 h, pz_k11 h, pz_k15 h, pz_k40 h, pz_k41 h, pz_k42 h, pz_k25 h, pz_km0 h, pz_km1 h, pz_km2 h, pz_kc0 h, pz_kc1 h, pz_kc2 h, pz_kc3 h, pz_kc4 h, pz_kc6 h, pz_kc7 h, pz_kl12 h, pz_k12 h, pz_kd0 h, pz_kd1 h, forall_eq, true_and, and_true, true_imp_iff, forall_const, not_true_eq_false, not_false_eq_true, false_imp_iff, implies_true, eq_self, pz_i, pz_s1, pz_p1, pz_jnt, pz_b0, pz_b1, pz_em, pz_nnt, pz_nm1, pz_10, pz_20, pz_30, Classical.not_not, pz_le, pz_ctS, cv_isOn h, show ¬ ri.1 ≤ s by omega])
    by_cases hp : pz_on ri x s <;> simp [hp, pz_bT, pz_bF]
  · rw [lp_X_countRightsOn_4_s]
    (try simp (disch := omega) only [pz_ce h, pz_k14 h, pz_k60 h, pz_k23 h, pz_k30 h, pz_k31 h, pz_k34 h, pz_k35 h, pz_kl11 h, pz_k11 h, pz_k15 h, pz_k40 h, pz_k41 h, pz_k42 h, pz_k25 h, pz_km0 h, pz_km1 h, pz_km2 h, pz_kc0 h, pz_kc1 h, pz_kc2 h, pz_kc3 h, pz_kc4 h, pz_kc6 h, pz_kc7 h, pz_kl12 h, pz_k12 h, pz_kd0 h, pz_kd1 h, forall_eq, true_and, and_true, true_imp_iff, forall_const, not_true_eq_false, not_false_eq_true, false_imp_iff, implies_true, eq_self, pz_i, pz_s1, pz_p1, pz_jnt, pz_b0, pz_b1, pz_em, pz_nnt, pz_nm1, pz_10, pz_20, pz_30, Classical.not_not, pz_le, Nat.le_refl])
theorem cv_countRightsToBring (h : pz_c sc sq pa ri mp ca dr pe U V w0 w) (hn : ri.1 ≤ 80) : wp_X_countRightsToBring w x y K X = K w (pz_ct (pz_br ri x y) ri.1) := by
  unfold wp_X_countRightsToBring
  refine pz_upe (F := fun k s => lp_X_countRightsToBring_5 K X k x y (pz_ct (pz_br ri x y) s) (nI s) w) ri.1 (fun s => rfl) (fun s k hs => Or.inl ?_) (fun k => ?_)
  · rw [lp_X_countRightsToBring_5_s]
    (try simp (disch := omega) only [pz_ce h, pz_k14 h, pz_k60 h, pz_k23 h, pz_k30 h, pz_k31 h, pz_k34 h, pz_k35 h, pz_kl11 h, pz_k11 h, pz_k15 h, pz_k40 h, pz_k41 h, pz_k42 h, pz_k25 h, pz_km0 h, pz_km1 h, pz_km2 h, pz_kc0 h, pz_kc1 h, pz_kc2 h, pz_kc3 h, pz_kc4 h, pz_kc6 h, pz_kc7 h, pz_kl12 h, pz_k12 h, pz_kd0 h, pz_kd1 h, forall_eq, true_and, and_true, true_imp_iff, forall_const, not_true_eq_false, not_false_eq_true, false_imp_iff, implies_true, eq_self, pz_i, pz_s1, pz_p1, pz_jnt, pz_b0, pz_b1, pz_em, pz_nnt, pz_nm1, pz_10, pz_20, pz_30, Classical.not_not, pz_le, pz_ctS, cv_isToBring h hn, show ¬ ri.1 ≤ s by omega])
    by_cases hp : pz_br ri x y s <;> simp [hp, pz_bT, pz_bF]
  · rw [lp_X_countRightsToBring_5_s]
    (try simp (disch := omega) only [pz_ce h, pz_k14 h, pz_k60 h, pz_k23 h, pz_k30 h, pz_k31 h, pz_k34 h, pz_k35 h, pz_kl11 h, pz_k11 h, pz_k15 h, pz_k40 h, pz_k41 h, pz_k42 h, pz_k25 h, pz_km0 h, pz_km1 h, pz_km2 h, pz_kc0 h, pz_kc1 h, pz_kc2 h, pz_kc3 h, pz_kc4 h, pz_kc6 h, pz_kc7 h, pz_kl12 h, pz_k12 h, pz_kd0 h, pz_kd1 h, forall_eq, true_and, and_true, true_imp_iff, forall_const, not_true_eq_false, not_false_eq_true, false_imp_iff, implies_true, eq_self, pz_i, pz_s1, pz_p1, pz_jnt, pz_b0, pz_b1, pz_em, pz_nnt, pz_nm1, pz_10, pz_20, pz_30, Classical.not_not, pz_le, Nat.le_refl])
theorem cv_hasSquareIn (h : pz_c sc sq pa ri mp ca dr pe U V w0 w) : wp_X_hasSquareIn w x y z K X = K w (pz_b (pz_ex (fun s => sq.1 8 s = x ∧ pz_if (nI s) y z) 100)) := by
  unfold wp_X_hasSquareIn
  (try simp (disch := omega) only [pz_ce h, pz_k14 h, pz_k60 h, pz_k23 h, pz_k30 h, pz_k31 h, pz_k34 h, pz_k35 h, pz_kl11 h, pz_k11 h, pz_k15 h, pz_k40 h, pz_k41 h, pz_k42 h, pz_k25 h, pz_km0 h, pz_km1 h, pz_km2 h, pz_kc0 h, pz_kc1 h, pz_kc2 h, pz_kc3 h, pz_kc4 h, pz_kc6 h, pz_kc7 h, pz_kl12 h, pz_k12 h, pz_kd0 h, pz_kd1 h, forall_eq, true_and, and_true, true_imp_iff, forall_const, not_true_eq_false, not_false_eq_true, false_imp_iff, implies_true, eq_self, pz_i, pz_s1, pz_p1, pz_jnt, pz_b0, pz_b1, pz_em, pz_nnt, pz_nm1, pz_10, pz_20, pz_30, Classical.not_not])
  refine pz_upx (F := fun k s => lp_X_hasSquareIn_14 K X k x y z (nI 100) (nI s) w) (P := fun s => sq.1 8 s = x ∧ pz_if (nI s) y z) (K := K w) 100 (fun s => rfl) (fun s k hs hp => ?_) (fun s k hs hp => ?_) (fun k => ?_)
  · rw [lp_X_hasSquareIn_14_s]
    (try simp (disch := omega) only [pz_ce h, pz_k14 h, pz_k60 h, pz_k23 h, pz_k30 h, pz_k31 h, pz_k34 h, pz_k35 h, pz_kl11 h, pz_k11 h, pz_k15 h, pz_k40 h, pz_k41 h, pz_k42 h, pz_k25 h, pz_km0 h, pz_km1 h, pz_km2 h, pz_kc0 h, pz_kc1 h, pz_kc2 h, pz_kc3 h, pz_kc4 h, pz_kc6 h, pz_kc7 h, pz_kl12 h, pz_k12 h, pz_kd0 h, pz_kd1 h, forall_eq, true_and, and_true, true_imp_iff, forall_const, not_true_eq_false, not_false_eq_true, false_imp_iff, implies_true, eq_self, pz_i, pz_s1, pz_p1, pz_jnt, pz_b0, pz_b1, pz_em, pz_nnt, pz_nm1, pz_10, pz_20, pz_30, Classical.not_not, pz_le, cv_isInField, show ¬ 100 ≤ s by omega])
    by_cases h1 : sq.1 8 s = x <;> by_cases h2 : pz_if (nI s) y z <;> simp_all
  · rw [lp_X_hasSquareIn_14_s]
    (try simp (disch := omega) only [pz_ce h, pz_k14 h, pz_k60 h, pz_k23 h, pz_k30 h, pz_k31 h, pz_k34 h, pz_k35 h, pz_kl11 h, pz_k11 h, pz_k15 h, pz_k40 h, pz_k41 h, pz_k42 h, pz_k25 h, pz_km0 h, pz_km1 h, pz_km2 h, pz_kc0 h, pz_kc1 h, pz_kc2 h, pz_kc3 h, pz_kc4 h, pz_kc6 h, pz_kc7 h, pz_kl12 h, pz_k12 h, pz_kd0 h, pz_kd1 h, forall_eq, true_and, and_true, true_imp_iff, forall_const, not_true_eq_false, not_false_eq_true, false_imp_iff, implies_true, eq_self, pz_i, pz_s1, pz_p1, pz_jnt, pz_b0, pz_b1, pz_em, pz_nnt, pz_nm1, pz_10, pz_20, pz_30, Classical.not_not, pz_le, cv_isInField, show ¬ 100 ≤ s by omega, hp.1, hp.2])
  · rw [lp_X_hasSquareIn_14_s]
    (try simp (disch := omega) only [pz_ce h, pz_k14 h, pz_k60 h, pz_k23 h, pz_k30 h, pz_k31 h, pz_k34 h, pz_k35 h, pz_kl11 h, pz_k11 h, pz_k15 h, pz_k40 h, pz_k41 h, pz_k42 h, pz_k25 h, pz_km0 h, pz_km1 h, pz_km2 h, pz_kc0 h, pz_kc1 h, pz_kc2 h, pz_kc3 h, pz_kc4 h, pz_kc6 h, pz_kc7 h, pz_kl12 h, pz_k12 h, pz_kd0 h, pz_kd1 h, forall_eq, true_and, and_true, true_imp_iff, forall_const, not_true_eq_false, not_false_eq_true, false_imp_iff, implies_true, eq_self, pz_i, pz_s1, pz_p1, pz_jnt, pz_b0, pz_b1, pz_em, pz_nnt, pz_nm1, pz_10, pz_20, pz_30, Classical.not_not, pz_le, Nat.le_refl])
end PZCV
