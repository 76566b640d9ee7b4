/-! the model's methods that only tell: each is its value -/
section PZV
variable {sc : pz_S} {sq : pz_Q} {pa : pz_P} {ri : pz_N} {mp : pz_N} {ca : pz_P} {dr : pz_N} {pe : pz_Q} {w0 w : pw_W} {K : pw_W → Int32 → Prop} {X : pw_W → Nat → Prop} {x y z : Int32} {s r : Nat}
theorem pz_jnt {a n : Nat} (h : a < n) (ha : a < 2147483648) : pw_jn (nI a) n = True := eq_true (pz_jn h ha)
theorem pz_nnt {a : Nat} (ha : a < 2147483648) : ((0 : Int32) ≤ nI a) = True := eq_true (pz_nn ha)
theorem pz_nm1 {a : Nat} (ha : a < 2147483648) : (nI a = -1) = False := eq_false fun h => absurd (h ▸ pz_nn ha : (0 : Int32) ≤ -1) (by decide)
theorem pz_10 : ((1 : Int32) = 0) = False := by decide
theorem pz_20 : ((2 : Int32) = 0) = False := by decide
theorem pz_30 : ((3 : Int32) = 0) = False := by decide
theorem pz_b1 {P : Prop} : (pz_b P = 1) = P := propext ⟨fun h => Classical.byContradiction fun q => by rw [pz_bf q] at h; exact absurd h (by decide), pz_bt⟩
theorem pz_em {P : Prop} : (¬ P ∨ P) = True := eq_true ((Classical.em P).symm)
theorem pz_bT : pz_b True = 1 := pz_bt trivial
theorem pz_bF : pz_b False = 0 := pz_bf id
/-- a count, and what is so for one below n -/
noncomputable def pz_cn (P : Nat → Prop) (n : Nat) : Nat := Nat.rec 0 (fun n a => a + @ite Nat (P n) (Classical.propDecidable _) 1 0) n
noncomputable def pz_ct (P : Nat → Prop) (n : Nat) : Int32 := nI (pz_cn P n)
theorem pz_cnT {P : Nat → Prop} {n : Nat} (h : P n) : pz_cn P (n + 1) = pz_cn P n + 1 := by
  show pz_cn P n + @ite Nat (P n) (Classical.propDecidable _) 1 0 = _
  rw [if_pos h]
theorem pz_cnF {P : Nat → Prop} {n : Nat} (h : ¬ P n) : pz_cn P (n + 1) = pz_cn P n := by
  show pz_cn P n + @ite Nat (P n) (Classical.propDecidable _) 1 0 = _
  rw [if_neg h]; rfl
theorem pz_ctS {P : Nat → Prop} {n : Nat} : pz_ct P (n + 1) = pz_ct P n + pz_b (P n) := by
  unfold pz_ct
  by_cases h : P n
  · rw [pz_cnT h, pz_bt h, ← pz_s1]
  · rw [pz_cnF h, pz_bf h, Int32.add_zero]
theorem pz_cn_le {P : Nat → Prop} : ∀ {n : Nat}, pz_cn P n ≤ n
  | 0 => Nat.le_refl _
  | n + 1 => by
    have := pz_cn_le (P := P) (n := n)
    by_cases h : P n
    · rw [pz_cnT h]; omega
    · rw [pz_cnF h]; omega
theorem pz_cn_congr {P P' : Nat → Prop} : ∀ {n : Nat}, (∀ r, r < n → (P r ↔ P' r)) → pz_cn P n = pz_cn P' n
  | 0, _ => rfl
  | n + 1, h => by
    have e := pz_cn_congr (n := n) fun r hr => h r (by omega)
    by_cases hp : P n
    · rw [pz_cnT hp, pz_cnT ((h n (by omega)).mp hp), e]
    · rw [pz_cnF hp, pz_cnF (fun q => hp ((h n (by omega)).mpr q)), e]
def pz_ex (P : Nat → Prop) (n : Nat) : Prop := ∃ r, r < n ∧ P r
theorem pz_ex0 {P : Nat → Prop} : pz_ex P 0 = False := eq_false fun ⟨r, h, _⟩ => absurd h (Nat.not_lt_zero r)
theorem pz_exS {P : Nat → Prop} {n : Nat} : pz_ex P (n + 1) = (pz_ex P n ∨ P n) := propext ⟨fun ⟨r, h, p⟩ => by
  by_cases e : r = n
  · subst e; exact Or.inr p
  · exact Or.inl ⟨r, by omega, p⟩, fun h => by
  rcases h with ⟨r, h, p⟩ | p
  · exact ⟨r, by omega, p⟩
  · exact ⟨n, by omega, p⟩⟩
theorem pz_cn0 {P : Nat → Prop} : ∀ {n : Nat}, (pz_cn P n = 0) = ¬ pz_ex P n
  | 0 => by rw [pz_ex0]; exact propext ⟨fun _ h => h, fun _ => rfl⟩
  | n + 1 => by
    rw [pz_exS]
    have e := pz_cn0 (P := P) (n := n)
    by_cases h : P n
    · rw [pz_cnT h]; exact propext ⟨fun q => by omega, fun q => absurd (Or.inr h) q⟩
    · rw [pz_cnF h, e]; exact propext ⟨fun q p => by rcases p with p | p; exact q p; exact h p, fun q p => q (Or.inl p)⟩
theorem pz_upe {F : Nat → Nat → Prop} {K : Prop} (N : Nat) (h0 : ∀ s, F 0 s = False) (hs : ∀ s k, s < N → F (k + 1) s = F k (s + 1) ∨ ∀ k, F (k + 1) s = K) (he : ∀ k, F (k + 1) N = K) : (∃ k, F k 0) = K := by
  have H1 : ∀ n s, s + n = N → F (n + 1) s = K := by
    intro n
    induction n with
    | zero => intro s e; have e : s = N := e; subst e; exact he 0
    | succ n ih =>
      intro s e
      rcases hs s (n + 1) (by omega) with h | h
      · rw [h]; exact ih (s + 1) (by omega)
      · exact h (n + 1)
  have H2 : ∀ k s, s ≤ N → F k s → K := by
    intro k
    induction k with
    | zero => intro s _ h; rw [h0] at h; exact h.elim
    | succ k ih =>
      intro s hl h
      by_cases e : s = N
      · subst e; rw [he] at h; exact h
      · rcases hs s k (by omega) with q | q
        · rw [q] at h; exact ih (s + 1) (by omega) h
        · rw [q] at h; exact h
  exact propext ⟨fun ⟨k, h⟩ => H2 k 0 (Nat.zero_le _) h, fun h => ⟨N + 1, by rw [H1 N 0 (by omega)]; exact h⟩⟩
theorem pz_be0 {P : Nat → Prop} : pz_b (pz_ex P 0) = 0 := by rw [pz_ex0, pz_bF]
theorem pz_upe2 {F : Nat → Nat → Prop} {G : Nat → Prop} {K : Prop} (hG : ∀ k, G k = F k 0) (N : Nat) (h0 : ∀ s, F 0 s = False) (hs : ∀ s k, s < N → F (k + 1) s = F k (s + 1) ∨ ∀ k, F (k + 1) s = K) (he : ∀ k, F (k + 1) N = K) : (∃ k, G k) = K := by
  rw [show G = fun k => F k 0 from funext hG]
  exact pz_upe N h0 hs he
theorem pz_two {A B P : Prop} : ((P → A) ∧ (¬ P → B)) = @ite Prop P (Classical.propDecidable P) A B := by
  by_cases h : P <;> simp [h]
def pz_in (x lo hi : Int32) : Prop := ¬ x < lo ∧ ¬ hi < x
theorem mv_isIn : wp_M_isIn w x y z K X = K w (pz_b (pz_in x y z)) := by
  unfold wp_M_isIn pz_in
  by_cases h1 : x < y <;> by_cases h2 : z < x <;> simp [h1, h2, pz_bT, pz_bF]
theorem pz_in_jn {n : Nat} (hn : n < 2147483648) : pz_in x 0 (nI n - 1) = pw_jn x n := by
  have e : (nI n - 1).toInt = (n : Int) - 1 := by
    rw [Int32.toInt_sub, show (nI n).toInt = (n : Int) from Int32.toInt_ofNat_of_lt hn, show (1 : Int32).toInt = 1 from rfl]
    exact Int.bmod_eq_of_le (by omega) (by omega)
  have e0 : (0 : Int32).toInt = 0 := rfl
  refine propext ⟨fun h => ?_, fun h => ?_⟩
  · obtain ⟨h1, h2⟩ := h
    rw [Int32.lt_iff_toInt_lt] at h1 h2
    refine ⟨by rw [Int32.le_iff_toInt_le]; omega, ?_⟩
    show x.toInt.toNat < n
    omega
  · obtain ⟨h1, h2⟩ := h
    rw [Int32.le_iff_toInt_le] at h1
    have h2 : x.toInt.toNat < n := h2
    unfold pz_in
    rw [Int32.lt_iff_toInt_lt, Int32.lt_iff_toInt_lt]
    omega
theorem mv_isSquare : wp_M_isSquare w x K X = K w (pz_b (pw_jn x 100)) := by
  unfold wp_M_isSquare
  rw [mv_isIn, show pz_in x 0 99 = pw_jn x 100 from pz_in_jn (n := 100) (by decide)]
  exact propext ⟨fun h => h.2, fun h => ⟨pz_b01, h⟩⟩
theorem mv_isPerson : wp_M_isPerson w x K X = K w (pz_b (pw_jn x 12)) := by
  unfold wp_M_isPerson
  rw [mv_isIn, show pz_in x 0 11 = pw_jn x 12 from pz_in_jn (n := 12) (by decide)]
  exact propext ⟨fun h => h.2, fun h => ⟨pz_b01, h⟩⟩
theorem mv_isParcel (h : pz_m sc sq pa ri mp ca dr pe w0 w) (hn : pa.1 ≤ 40) : wp_M_isParcel w x K X = K w (pz_b (pw_jn x pa.1)) := by
  unfold wp_M_isParcel
  (try simp (disch := omega) only [pz_me h, forall_eq, true_and, and_true, true_imp_iff, forall_const, not_true_eq_false, not_false_eq_true, false_imp_iff, implies_true, eq_self, pz_i, pz_s1, pz_p1, pz_jnt, pz_b0, pz_b1, pz_em, pz_nnt, pz_nm1, pz_10, pz_20, pz_30, Classical.not_not, mv_isIn])
  rw [pz_in_jn (by omega)]
theorem mv_isCase (h : pz_m sc sq pa ri mp ca dr pe w0 w) (hn : ca.1 ≤ 16) : wp_M_isCase w x K X = K w (pz_b (pw_jn x ca.1)) := by
  unfold wp_M_isCase
  (try simp (disch := omega) only [pz_me h, forall_eq, true_and, and_true, true_imp_iff, forall_const, not_true_eq_false, not_false_eq_true, false_imp_iff, implies_true, eq_self, pz_i, pz_s1, pz_p1, pz_jnt, pz_b0, pz_b1, pz_em, pz_nnt, pz_nm1, pz_10, pz_20, pz_30, Classical.not_not, mv_isIn])
  rw [pz_in_jn (by omega)]
noncomputable def pz_mn (x y : Int32) : Int32 := @ite _ (y ≤ x) (Classical.propDecidable _) y x
theorem mv_lesser : wp_M_lesser w x y K X = K w (pz_mn x y) := by
  unfold wp_M_lesser pz_mn
  by_cases h1 : y ≤ x <;> simp only [h1, if_true, if_false, true_imp_iff, not_true_eq_false, not_false_eq_true, false_imp_iff, and_true, true_and]
def pz_fd (f t : Int32) : Prop := ¬ (t - t / 10 * 10) < (f - f / 10 * 10) ∧ ¬ (t / 10) < (f / 10)
def pz_if (s f t : Int32) : Prop := pz_in (s - s / 10 * 10) (f - f / 10 * 10) (t - t / 10 * 10) ∧ pz_in (s / 10) (f / 10) (t / 10)
theorem mv_isField : wp_M_isField w x y K X = K w (pz_b (pz_fd x y)) := by
  unfold wp_M_isField pz_fd
  by_cases h1 : (y - y / 10 * 10) < (x - x / 10 * 10) <;> by_cases h2 : (y / 10) < (x / 10) <;> simp only [h1, h2, pz_bT, pz_bF, true_imp_iff, not_true_eq_false, not_false_eq_true, false_imp_iff, and_true, true_and, and_self, and_false]
theorem mv_isInField : wp_M_isInField w x y z K X = K w (pz_b (pz_if x y z)) := by
  unfold wp_M_isInField pz_if
  simp only [mv_isIn, pz_b0]
  by_cases h1 : pz_in (x - x / 10 * 10) (y - y / 10 * 10) (z - z / 10 * 10) <;> by_cases h2 : pz_in (x / 10) (y / 10) (z / 10) <;> simp only [h1, h2, pz_bT, pz_bF, true_imp_iff, not_true_eq_false, not_false_eq_true, false_imp_iff, and_true, true_and, and_self, and_false]
theorem mv_areaOf (h : pz_m sc sq pa ri mp ca dr pe w0 w) : wp_M_areaOf w x K X = K w (pz_ct (fun s => sq.1 8 s = x) 100) := by
  unfold wp_M_areaOf
  refine pz_upe (F := fun k s => lp_M_areaOf_4 K X k x (pz_ct (fun s => sq.1 8 s = x) s) (nI s) w) 100 (fun s => rfl) (fun s k hs => Or.inl ?_) (fun k => ?_)
  · rw [lp_M_areaOf_4_s]
    (try simp (disch := omega) only [pz_me h, forall_eq, true_and, and_true, true_imp_iff, forall_const, not_true_eq_false, not_false_eq_true, false_imp_iff, implies_true, eq_self, pz_i, pz_s1, pz_p1, pz_jnt, pz_b0, pz_b1, pz_em, pz_nnt, pz_nm1, pz_10, pz_20, pz_30, Classical.not_not, pz_l100, pz_le, pz_ctS, show ¬ 100 ≤ s by omega])
    by_cases hp : sq.1 8 s = x <;> simp [hp, pz_bT, pz_bF]
  · rw [lp_M_areaOf_4_s]
    (try simp (disch := omega) only [pz_me h, forall_eq, true_and, and_true, true_imp_iff, forall_const, not_true_eq_false, not_false_eq_true, false_imp_iff, implies_true, eq_self, pz_i, pz_s1, pz_p1, pz_jnt, pz_b0, pz_b1, pz_em, pz_nnt, pz_nm1, pz_10, pz_20, pz_30, Classical.not_not, pz_l100, pz_le, Nat.le_refl])
def pz_on (ri : pz_N) (x : Int32) (r : Nat) : Prop := ri.2 25 r = 0 ∧ ri.2 21 r = x
theorem mv_isOn (h : pz_m sc sq pa ri mp ca dr pe w0 w) (hr : r < 80) : wp_M_isOn w (nI r) x K X = K w (pz_b (pz_on ri x r)) := by
  unfold wp_M_isOn pz_on
  (try simp (disch := omega) only [pz_me h, forall_eq, true_and, and_true, true_imp_iff, forall_const, not_true_eq_false, not_false_eq_true, false_imp_iff, implies_true, eq_self, pz_i, pz_s1, pz_p1, pz_jnt, pz_b0, pz_b1, pz_em, pz_nnt, pz_nm1, pz_10, pz_20, pz_30, Classical.not_not])
  by_cases h1 : ri.2 25 r = 0 <;> by_cases h2 : ri.2 21 r = x <;> simp [h1, h2, pz_bT, pz_bF]
theorem mv_rightsOn (h : pz_m sc sq pa ri mp ca dr pe w0 w) (hn : ri.1 ≤ 80) : wp_M_rightsOn w x K X = K w (pz_ct (pz_on ri x) ri.1) := by
  unfold wp_M_rightsOn
  refine pz_upe (F := fun k s => lp_M_rightsOn_4 K X k x (pz_ct (pz_on ri x) s) (nI s) w) ri.1 (fun s => rfl) (fun s k hs => Or.inl ?_) (fun k => ?_)
  · rw [lp_M_rightsOn_4_s]
    (try simp (disch := omega) only [pz_me h, forall_eq, true_and, and_true, true_imp_iff, forall_const, not_true_eq_false, not_false_eq_true, false_imp_iff, implies_true, eq_self, pz_i, pz_s1, pz_p1, pz_jnt, pz_b0, pz_b1, pz_em, pz_nnt, pz_nm1, pz_10, pz_20, pz_30, Classical.not_not, pz_le, pz_ctS, mv_isOn h, show ¬ ri.1 ≤ s by omega])
    by_cases hp : pz_on ri x s <;> simp [hp, pz_bT, pz_bF]
  · rw [lp_M_rightsOn_4_s]
    (try simp (disch := omega) only [pz_me h, forall_eq, true_and, and_true, true_imp_iff, forall_const, not_true_eq_false, not_false_eq_true, false_imp_iff, implies_true, eq_self, pz_i, pz_s1, pz_p1, pz_jnt, pz_b0, pz_b1, pz_em, pz_nnt, pz_nm1, pz_10, pz_20, pz_30, Classical.not_not, pz_le, Nat.le_refl])
def pz_hr (ri : pz_N) (k x q : Int32) (r : Nat) : Prop := pz_on ri x r ∧ ri.2 20 r = k ∧ ri.2 22 r = q
theorem mv_hasRight (h : pz_m sc sq pa ri mp ca dr pe w0 w) (hn : ri.1 ≤ 80) : wp_M_hasRight w y x z K X = K w (pz_b (pz_ex (pz_hr ri y x z) ri.1)) := by
  unfold wp_M_hasRight
  refine pz_upe2 (F := fun k s => lp_M_hasRight_6 K X k y x z (pz_b (pz_ex (pz_hr ri y x z) s)) (nI s) w) (fun k => congrArg (fun q => lp_M_hasRight_6 K X k y x z q 0 w) pz_be0.symm) ri.1 (fun s => rfl) (fun s k hs => Or.inl ?_) (fun k => ?_)
  · rw [lp_M_hasRight_6_s]
    (try simp (disch := omega) only [pz_me h, forall_eq, true_and, and_true, true_imp_iff, forall_const, not_true_eq_false, not_false_eq_true, false_imp_iff, implies_true, eq_self, pz_i, pz_s1, pz_p1, pz_jnt, pz_b0, pz_b1, pz_em, pz_nnt, pz_nm1, pz_10, pz_20, pz_30, Classical.not_not, pz_le, pz_exS, mv_isOn h, show ¬ ri.1 ≤ s by omega])
    by_cases h0 : pz_ex (pz_hr ri y x z) s
    · simp [h0, pz_bT]
    · unfold pz_hr at *
      by_cases h1 : pz_on ri x s <;> by_cases h2 : ri.2 20 s = y <;> by_cases h3 : ri.2 22 s = z <;> simp [h0, h1, h2, h3, pz_bT, pz_bF]
  · rw [lp_M_hasRight_6_s]
    (try simp (disch := omega) only [pz_me h, forall_eq, true_and, and_true, true_imp_iff, forall_const, not_true_eq_false, not_false_eq_true, false_imp_iff, implies_true, eq_self, pz_i, pz_s1, pz_p1, pz_jnt, pz_b0, pz_b1, pz_em, pz_nnt, pz_nm1, pz_10, pz_20, pz_30, Classical.not_not, pz_le, Nat.le_refl])
end PZV
