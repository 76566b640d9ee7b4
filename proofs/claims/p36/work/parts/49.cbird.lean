/-! sides, birds, chains -/
section PZB
variable {sc : pz_S} {sq : pz_Q} {pa : pz_P} {ri : pz_N} {mp : pz_N} {ca : pz_P} {dr : pz_N} {pe : pz_Q} {U V : Nat} {w0 w : pw_W} {K : pw_W → Int32 → Prop} {X : pw_W → Nat → Prop} {x y z t v : Int32} {s r c j n p q : Nat}
theorem pz_m10 : ∀ a, a < 100 → nI a - nI a / 10 * 10 = nI (a % 10) := by decide +kernel
theorem pz_d10 : ∀ a, a < 100 → nI a / 10 = nI (a / 10) := by decide +kernel
theorem pz_df : ∀ p, p < 10 → ∀ q, q < 10 → nI p - nI q = nI (p + 9 - q) - 9 := by decide +kernel
theorem pz_sq : ∀ d, d < 19 → ∀ e, e < 19 → (((if (0 : Int32) ≤ nI d - 9 then nI d - 9 else -(nI d - 9)) + (if (0 : Int32) ≤ nI e - 9 then nI e - 9 else -(nI e - 9)) = 1) ↔ ((nI d - 9) * (nI d - 9) + (nI e - 9) * (nI e - 9) = 1)) := by decide +kernel
theorem cv_isSharingSide (hx : pw_jn x 100) (hy : pw_jn y 100) : wp_X_isSharingSide w x y K X = K w (pz_b (pz_sd x y)) := by
  unfold wp_X_isSharingSide pz_sd
  obtain ⟨a, ha, rfl⟩ := pz_of hx
  obtain ⟨b, hb, rfl⟩ := pz_of hy
  simp only [forall_eq]
  rw [pz_m10 a ha, pz_m10 b hb, pz_d10 a ha, pz_d10 b hb, pz_df _ (by omega) _ (by omega), pz_df _ (by omega) _ (by omega)]
  rw [pz_sq (a % 10 + 9 - b % 10) (by omega) (a / 10 + 9 - b / 10) (by omega)]
  by_cases a1 : (nI (a % 10 + 9 - b % 10) - 9) * (nI (a % 10 + 9 - b % 10) - 9) + (nI (a / 10 + 9 - b / 10) - 9) * (nI (a / 10 + 9 - b / 10) - 9) = 1 <;> simp only [a1, pz_bT, pz_bF, true_imp_iff, not_true_eq_false, not_false_eq_true, false_imp_iff, and_true, true_and]
theorem pz_in1 : ∀ a, a < 10 → ∀ b, b < 10 → ((¬ (nI a - nI b) < -1 ∧ ¬ (1 : Int32) < (nI a - nI b)) ↔ (a ≤ b + 1 ∧ b ≤ a + 1)) := by decide +kernel
theorem pz_nrN (hs : s < 100) {t : Nat} (ht : t < 100) : pz_nr s t ↔ (t % 10 ≤ s % 10 + 1 ∧ s % 10 ≤ t % 10 + 1) ∧ (t / 10 ≤ s / 10 + 1 ∧ s / 10 ≤ t / 10 + 1) := by
  unfold pz_nr pz_in
  rw [pz_m10 s hs, pz_m10 t ht, pz_d10 s hs, pz_d10 t ht, pz_in1 _ (by omega) _ (by omega), pz_in1 _ (by omega) _ (by omega)]
theorem pz_ctk {P : Nat → Prop} {a : Nat} : ∀ {b : Nat}, a ≤ b → (∀ t, a ≤ t → t < b → ¬ P t) → pz_ct P b = pz_ct P a
  | 0, h, _ => by have : a = 0 := by omega
                  rw [this]
  | b + 1, h, q => by
    by_cases e : a = b + 1
    · rw [e]
    · rw [pz_ctS, pz_bf (q b (by omega) (by omega)), pz_ctk (b := b) (by omega) (fun t h1 h2 => q t h1 (by omega)), Int32.add_zero]
theorem pz_hi : ∀ i, i < 10 → (if nI i + 1 < 9 then nI i + 1 else 9) = nI (min (i + 1) 9) := by decide +kernel
theorem pz_lo : ∀ i, i < 10 → (if (0 : Int32) < nI i - 1 then nI i - 1 else 0) = nI (i - 1) := by decide +kernel
theorem cv_countWetAround (h : pz_c sc sq pa ri mp ca dr pe U V w0 w) (hs : s < 100) : wp_X_countWetAround w (nI s - nI s / 10 * 10) (nI s / 10) K X = K w (pz_ct (fun t => pz_nr s t ∧ pz_wt sq t) 100) := by
  rw [pz_m10 s hs, pz_d10 s hs]
  obtain ⟨j, hj⟩ : ∃ j, s % 10 = j := ⟨_, rfl⟩
  obtain ⟨i, hi⟩ : ∃ i, s / 10 = i := ⟨_, rfl⟩
  have j10 : j < 10 := by omega
  have i10 : i < 10 := by omega
  have hN : ∀ t, t < 100 → ((pz_nr s t ∧ pz_wt sq t) ↔ ((t % 10 ≤ j + 1 ∧ j ≤ t % 10 + 1) ∧ (t / 10 ≤ i + 1 ∧ i ≤ t / 10 + 1)) ∧ pz_wt sq t) := fun t ht => by rw [pz_nrN hs ht, hj, hi]
  rw [hj, hi]
  obtain ⟨P, hP⟩ : ∃ P : Nat → Prop, P = fun t => pz_nr s t ∧ pz_wt sq t := ⟨_, rfl⟩
  rw [← hP]
  have hN : ∀ t, t < 100 → (P t ↔ ((t % 10 ≤ j + 1 ∧ j ≤ t % 10 + 1) ∧ (t / 10 ≤ i + 1 ∧ i ≤ t / 10 + 1)) ∧ pz_wt sq t) := by rw [hP]; exact hN
  unfold wp_X_countWetAround
  rw [pz_lo i i10]
  simp only [forall_eq]
  have inner : ∀ (r : Nat) (G : Int32 → Int32 → Int32 → Int32 → pw_W → Prop), r < 10 → r ≤ i + 1 → i ≤ r + 1 → (∃ k, lp_X_countWetAround_33 K X G k (nI j) (nI i) (pz_ct P (10 * r)) (nI r) (nI (j - 1)) w) = G (nI j) (nI i) (pz_ct P (10 * (r + 1))) (nI (r + 1)) w := by
    intro r G hr hr1 hr2
    rw [← pz_ctk (P := P) (a := 10 * r) (b := 10 * r + (j - 1)) (by omega) (fun t h1 h2 p => by have := (hN t (by omega)).mp p; omega)]
    have := pz_upe (F := fun k n => lp_X_countWetAround_33 K X G k (nI j) (nI i) (pz_ct P (10 * r + (j - 1) + n)) (nI r) (nI (j - 1 + n)) w) (K := G (nI j) (nI i) (pz_ct P (10 * (r + 1))) (nI (r + 1)) w) (min (j + 1) 9 + 1 - (j - 1)) (fun s => rfl) (fun n k hn => Or.inl ?_) (fun k => ?_)
    · exact this
    · rw [lp_X_countWetAround_33_s]
      rw [pz_hi j j10]
      simp only [show nI r * 10 + nI (j - 1 + n) = nI (10 * r + (j - 1) + n) by rw [pz_l10, pz_mul, pz_add]; congr 1; omega]
      (try simp (disch := omega) only [pz_ce h, pz_k14 h, pz_k60 h, pz_k23 h, pz_k30 h, pz_k31 h, pz_k34 h, pz_k35 h, pz_kl11 h, pz_k11 h, pz_k15 h, pz_k40 h, pz_k41 h, pz_k42 h, pz_k25 h, pz_km0 h, pz_km1 h, pz_km2 h, pz_kc0 h, pz_kc1 h, pz_kc2 h, pz_kc3 h, pz_kc4 h, pz_kc6 h, pz_kc7 h, pz_kl12 h, pz_k12 h, pz_kd0 h, pz_kd1 h, forall_eq, true_and, and_true, true_imp_iff, forall_const, not_true_eq_false, not_false_eq_true, false_imp_iff, implies_true, eq_self, pz_i, pz_s1, pz_p1, pz_jnt, pz_b0, pz_b1, pz_em, pz_nnt, pz_nm1, pz_10, pz_20, pz_30, Classical.not_not, pz_lt, cv_isWet h, show ¬ min (j + 1) 9 < j - 1 + n by omega, show 10 * r + (j - 1) + n < 100 by omega])
      have hq := hN (10 * r + (j - 1) + n) (by omega)
      rw [show j - 1 + (n + 1) = j - 1 + n + 1 by omega, show 10 * r + (j - 1) + (n + 1) = 10 * r + (j - 1) + n + 1 by omega, pz_ctS]
      by_cases a : pz_wt sq (10 * r + (j - 1) + n)
      · rw [pz_bt (hq.mpr ⟨by omega, a⟩)]
        simp [a]
      · rw [pz_bf (fun p => a (hq.mp p).2)]
        simp [a]
    · rw [lp_X_countWetAround_33_s]
      rw [pz_hi j j10]
      (try simp (disch := omega) only [pz_ce h, pz_k14 h, pz_k60 h, pz_k23 h, pz_k30 h, pz_k31 h, pz_k34 h, pz_k35 h, pz_kl11 h, pz_k11 h, pz_k15 h, pz_k40 h, pz_k41 h, pz_k42 h, pz_k25 h, pz_km0 h, pz_km1 h, pz_km2 h, pz_kc0 h, pz_kc1 h, pz_kc2 h, pz_kc3 h, pz_kc4 h, pz_kc6 h, pz_kc7 h, pz_kl12 h, pz_k12 h, pz_kd0 h, pz_kd1 h, forall_eq, true_and, and_true, true_imp_iff, forall_const, not_true_eq_false, not_false_eq_true, false_imp_iff, implies_true, eq_self, pz_i, pz_s1, pz_p1, pz_jnt, pz_b0, pz_b1, pz_em, pz_nnt, pz_nm1, pz_10, pz_20, pz_30, Classical.not_not, pz_lt, show min (j + 1) 9 < j - 1 + (min (j + 1) 9 + 1 - (j - 1)) by omega])
      rw [pz_ctk (P := P) (a := 10 * r + (j - 1) + (min (j + 1) 9 + 1 - (j - 1))) (b := 10 * (r + 1)) (by omega) (fun t h1 h2 p => by have := (hN t (by omega)).mp p; omega)]
  have := pz_upe (F := fun k n => lp_X_countWetAround_11 K X k (nI j) (nI i) (pz_ct P (10 * (i - 1 + n))) (nI (i - 1 + n)) w) (K := K w (pz_ct P 100)) (min (i + 1) 9 + 1 - (i - 1)) (fun s => rfl) (fun n k hn => Or.inl ?_) (fun k => ?_)
  · rw [← this]
    show (∃ k, lp_X_countWetAround_11 K X k (nI j) (nI i) 0 (nI (i - 1)) w) = (∃ k, lp_X_countWetAround_11 K X k (nI j) (nI i) (pz_ct P (10 * (i - 1 + 0))) (nI (i - 1 + 0)) w)
    rw [pz_ctk (P := P) (a := 0) (b := 10 * (i - 1 + 0)) (by omega) (fun t h1 h2 p => by have := (hN t (by omega)).mp p; omega)]
    rfl
  · rw [lp_X_countWetAround_11_s]
    rw [pz_hi i i10, pz_lo j j10]
    (try simp (disch := omega) only [pz_ce h, pz_k14 h, pz_k60 h, pz_k23 h, pz_k30 h, pz_k31 h, pz_k34 h, pz_k35 h, pz_kl11 h, pz_k11 h, pz_k15 h, pz_k40 h, pz_k41 h, pz_k42 h, pz_k25 h, pz_km0 h, pz_km1 h, pz_km2 h, pz_kc0 h, pz_kc1 h, pz_kc2 h, pz_kc3 h, pz_kc4 h, pz_kc6 h, pz_kc7 h, pz_kl12 h, pz_k12 h, pz_kd0 h, pz_kd1 h, forall_eq, true_and, and_true, true_imp_iff, forall_const, not_true_eq_false, not_false_eq_true, false_imp_iff, implies_true, eq_self, pz_i, pz_s1, pz_p1, pz_jnt, pz_b0, pz_b1, pz_em, pz_nnt, pz_nm1, pz_10, pz_20, pz_30, Classical.not_not, pz_lt, show ¬ min (i + 1) 9 < i - 1 + n by omega])
    exact inner (i - 1 + n) _ (by omega) (by omega) (by omega)
  · rw [lp_X_countWetAround_11_s]
    rw [pz_hi i i10]
    (try simp (disch := omega) only [pz_ce h, pz_k14 h, pz_k60 h, pz_k23 h, pz_k30 h, pz_k31 h, pz_k34 h, pz_k35 h, pz_kl11 h, pz_k11 h, pz_k15 h, pz_k40 h, pz_k41 h, pz_k42 h, pz_k25 h, pz_km0 h, pz_km1 h, pz_km2 h, pz_kc0 h, pz_kc1 h, pz_kc2 h, pz_kc3 h, pz_kc4 h, pz_kc6 h, pz_kc7 h, pz_kl12 h, pz_k12 h, pz_kd0 h, pz_kd1 h, forall_eq, true_and, and_true, true_imp_iff, forall_const, not_true_eq_false, not_false_eq_true, false_imp_iff, implies_true, eq_self, pz_i, pz_s1, pz_p1, pz_jnt, pz_b0, pz_b1, pz_em, pz_nnt, pz_nm1, pz_10, pz_20, pz_30, Classical.not_not, pz_lt, show min (i + 1) 9 < i - 1 + (min (i + 1) 9 + 1 - (i - 1)) by omega])
    rw [pz_ctk (P := P) (a := 10 * (i - 1 + (min (i + 1) 9 + 1 - (i - 1)))) (b := 100) (by omega) (fun t h1 h2 p => by have := (hN t (by omega)).mp p; omega)]
theorem cv_countBirds (h : pz_c sc sq pa ri mp ca dr pe U V w0 w) (hb : pz_jb sc sq) (hs : s < 100) : wp_X_countBirds w (nI s) K X = K w (pz_bi sc sq s) := by
  unfold wp_X_countBirds pz_bi
  (try simp (disch := omega) only [pz_ce h, pz_k14 h, pz_k60 h, pz_k23 h, pz_k30 h, pz_k31 h, pz_k34 h, pz_k35 h, pz_kl11 h, pz_k11 h, pz_k15 h, pz_k40 h, pz_k41 h, pz_k42 h, pz_k25 h, pz_km0 h, pz_km1 h, pz_km2 h, pz_kc0 h, pz_kc1 h, pz_kc2 h, pz_kc3 h, pz_kc4 h, pz_kc6 h, pz_kc7 h, pz_kl12 h, pz_k12 h, pz_kd0 h, pz_kd1 h, forall_eq, true_and, and_true, true_imp_iff, forall_const, not_true_eq_false, not_false_eq_true, false_imp_iff, implies_true, eq_self, pz_i, pz_s1, pz_p1, pz_jnt, pz_b0, pz_b1, pz_em, pz_nnt, pz_nm1, pz_10, pz_20, pz_30, Classical.not_not, cv_isBurntInLast h hb hs (show (360 : Int32) ≤ 20000 by decide), cv_countWetAround h])
  by_cases a1 : pz_wb sc sq 360 s <;> by_cases a2 : 10 ≤ sq.1 6 s <;> simp only [a1, a2, pz_iT, pz_iF, true_imp_iff, not_true_eq_false, not_false_eq_true, false_imp_iff, and_true, true_and, and_self, and_false, false_and]
end PZB
