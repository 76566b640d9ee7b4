/-! the model's methods that only tell: each is its value -/
section PZV
variable {sc : pz_S} {sq : pz_Q} {pa : pz_P} {ri : pz_N} {mp : pz_N} {ca : pz_P} {dr : pz_N} {pe : pz_Q} {w0 w : pw_W} {K : pw_W → Int32 → Prop} {X : pw_W → Nat → Prop} {x y z : Int32} {s r : Nat}
theorem pz_jnt {a n : Nat} (h : a < n) (ha : a < 2147483648) : pw_jn (nI a) n = True := eq_true (pz_jn h ha)
theorem pz_nnt {a : Nat} (ha : a < 2147483648) : ((0 : Int32) ≤ nI a) = True := eq_true (pz_nn ha)
theorem pz_nm1 {a : Nat} (ha : a < 2147483648) : (nI a = -1) = False := eq_false fun h => absurd (h ▸ pz_nn ha : (0 : Int32) ≤ -1) (by decide)
theorem pz_10 : ((1 : Int32) = 0) = False := by decide
theorem pz_20 : ((2 : Int32) = 0) = False := by decide
theorem pz_30 : ((3 : Int32) = 0) = False := by decide
theorem pz_b1 {P : Prop} : (pz_b P = 1) = P := propext ⟨fun h => Classical.byContradiction fun q => by rw [pz_bf q] at h; exact absurd h (by decide), pz_bt⟩
theorem pz_em {P : Prop} : (¬ P ∨ P) = True := eq_true ((Classical.em P).symm)
theorem pz_bT : pz_b True = 1 := pz_bt trivial
theorem pz_bF : pz_b False = 0 := pz_bf id
/-- a count, and what is so for one below n -/
noncomputable def pz_cn (P : Nat → Prop) (n : Nat) : Nat := Nat.rec 0 (fun n a => a + @ite Nat (P n) (Classical.propDecidable _) 1 0) n
noncomputable def pz_ct (P : Nat → Prop) (n : Nat) : Int32 := nI (pz_cn P n)
theorem pz_cnT {P : Nat → Prop} {n : Nat} (h : P n) : pz_cn P (n + 1) = pz_cn P n + 1 := by
  show pz_cn P n + @ite Nat (P n) (Classical.propDecidable _) 1 0 = _
  rw [if_pos h]
theorem pz_cnF {P : Nat → Prop} {n : Nat} (h : ¬ P n) : pz_cn P (n + 1) = pz_cn P n := by
  show pz_cn P n + @ite Nat (P n) (Classical.propDecidable _) 1 0 = _
  rw [if_neg h]; rfl
theorem pz_ctS {P : Nat → Prop} {n : Nat} : pz_ct P (n + 1) = pz_ct P n + pz_b (P n) := by
  unfold pz_ct
  by_cases h : P n
  · rw [pz_cnT h, pz_bt h, ← pz_s1]
  · rw [pz_cnF h, pz_bf h, Int32.add_zero]
theorem pz_cn_le {P : Nat → Prop} : ∀ {n : Nat}, pz_cn P n ≤ n
  | 0 => Nat.le_refl _
  | n + 1 => by
    have := pz_cn_le (P := P) (n := n)
    by_cases h : P n
    · rw [pz_cnT h]; omega
    · rw [pz_cnF h]; omega
theorem pz_cn_congr {P P' : Nat → Prop} : ∀ {n : Nat}, (∀ r, r < n → (P r ↔ P' r)) → pz_cn P n = pz_cn P' n
  | 0, _ => rfl
  | n + 1, h => by
    have e := pz_cn_congr (n := n) fun r hr => h r (by omega)
    by_cases hp : P n
    · rw [pz_cnT hp, pz_cnT ((h n (by omega)).mp hp), e]
    · rw [pz_cnF hp, pz_cnF (fun q => hp ((h n (by omega)).mpr q)), e]
def pz_ex (P : Nat → Prop) (n : Nat) : Prop := ∃ r, r < n ∧ P r
theorem pz_ex0 {P : Nat → Prop} : pz_ex P 0 = False := eq_false fun ⟨r, h, _⟩ => absurd h (Nat.not_lt_zero r)
theorem pz_exS {P : Nat → Prop} {n : Nat} : pz_ex P (n + 1) = (pz_ex P n ∨ P n) := propext ⟨fun ⟨r, h, p⟩ => by
  by_cases e : r = n
  · subst e; exact Or.inr p
  · exact Or.inl ⟨r, by omega, p⟩, fun h => by
  rcases h with ⟨r, h, p⟩ | p
  · exact ⟨r, by omega, p⟩
  · exact ⟨n, by omega, p⟩⟩
theorem pz_cn0 {P : Nat → Prop} : ∀ {n : Nat}, (pz_cn P n = 0) = ¬ pz_ex P n
  | 0 => by rw [pz_ex0]; exact propext ⟨fun _ h => h, fun _ => rfl⟩
  | n + 1 => by
    rw [pz_exS]
    have e := pz_cn0 (P := P) (n := n)
    by_cases h : P n
    · rw [pz_cnT h]; exact propext ⟨fun q => by omega, fun q => absurd (Or.inr h) q⟩
    · rw [pz_cnF h, e]; exact propext ⟨fun q p => by rcases p with p | p; exact q p; exact h p, fun q p => q (Or.inl p)⟩
theorem pz_upe {F : Nat → Nat → Prop} {K : Prop} (N : Nat) (h0 : ∀ s, F 0 s = False) (hs : ∀ s k, s < N → F (k + 1) s = F k (s + 1) ∨ ∀ k, F (k + 1) s = K) (he : ∀ k, F (k + 1) N = K) : (∃ k, F k 0) = K := by
  have H1 : ∀ n s, s + n = N → F (n + 1) s = K := by
    intro n
    induction n with
    | zero => intro s e; have e : s = N := e; subst e; exact he 0
    | succ n ih =>
      intro s e
      rcases hs s (n + 1) (by omega) with h | h
      · rw [h]; exact ih (s + 1) (by omega)
      · exact h (n + 1)
  have H2 : ∀ k s, s ≤ N → F k s → K := by
    intro k
    induction k with
    | zero => intro s _ h; rw [h0] at h; exact h.elim
    | succ k ih =>
      intro s hl h
      by_cases e : s = N
      · subst e; rw [he] at h; exact h
      · rcases hs s k (by omega) with q | q
        · rw [q] at h; exact ih (s + 1) (by omega) h
        · rw [q] at h; exact h
  exact propext ⟨fun ⟨k, h⟩ => H2 k 0 (Nat.zero_le _) h, fun h => ⟨N + 1, by rw [H1 N 0 (by omega)]; exact h⟩⟩
theorem pz_be0 {P : Nat → Prop} : pz_b (pz_ex P 0) = 0 := by rw [pz_ex0, pz_bF]
theorem pz_upe2 {F : Nat → Nat → Prop} {G : Nat → Prop} {K : Prop} (hG : ∀ k, G k = F k 0) (N : Nat) (h0 : ∀ s, F 0 s = False) (hs : ∀ s k, s < N → F (k + 1) s = F k (s + 1) ∨ ∀ k, F (k + 1) s = K) (he : ∀ k, F (k + 1) N = K) : (∃ k, G k) = K := by
  rw [show G = fun k => F k 0 from funext hG]
  exact pz_upe N h0 hs he
theorem pz_two {A B P : Prop} : ((P → A) ∧ (¬ P → B)) = @ite Prop P (Classical.propDecidable P) A B := by
  by_cases h : P <;> simp [h]
def pz_in (x lo hi : Int32) : Prop := ¬ x < lo ∧ ¬ hi < x
theorem pz_in_jn {n : Nat} (hn : n < 2147483648) : pz_in x 0 (nI n - 1) = pw_jn x n := by
  have e : (nI n - 1).toInt = (n : Int) - 1 := by
    rw [Int32.toInt_sub, show (nI n).toInt = (n : Int) from Int32.toInt_ofNat_of_lt hn, show (1 : Int32).toInt = 1 from rfl]
    exact Int.bmod_eq_of_le (by omega) (by omega)
  have e0 : (0 : Int32).toInt = 0 := rfl
  refine propext ⟨fun h => ?_, fun h => ?_⟩
  · obtain ⟨h1, h2⟩ := h
    rw [Int32.lt_iff_toInt_lt] at h1 h2
    refine ⟨by rw [Int32.le_iff_toInt_le]; omega, ?_⟩
    show x.toInt.toNat < n
    omega
  · obtain ⟨h1, h2⟩ := h
    rw [Int32.le_iff_toInt_le] at h1
    have h2 : x.toInt.toNat < n := h2
    unfold pz_in
    rw [Int32.lt_iff_toInt_lt, Int32.lt_iff_toInt_lt]
    omega
noncomputable def pz_mn (x y : Int32) : Int32 := @ite _ (y ≤ x) (Classical.propDecidable _) y x
def pz_fd (f t : Int32) : Prop := ¬ (t - t / 10 * 10) < (f - f / 10 * 10) ∧ ¬ (t / 10) < (f / 10)
def pz_if (s f t : Int32) : Prop := pz_in (s - s / 10 * 10) (f - f / 10 * 10) (t - t / 10 * 10) ∧ pz_in (s / 10) (f / 10) (t / 10)
def pz_on (ri : pz_N) (x : Int32) (r : Nat) : Prop := ri.2 25 r = 0 ∧ ri.2 21 r = x
def pz_hr (ri : pz_N) (k x q : Int32) (r : Nat) : Prop := pz_on ri x r ∧ ri.2 20 r = k ∧ ri.2 22 r = q
end PZV
