/-! more of the model's methods that only tell -/
section PZX
variable {sc : pz_S} {sq : pz_Q} {pa : pz_P} {ri : pz_N} {mp : pz_N} {ca : pz_P} {dr : pz_N} {pe : pz_Q} {w0 w : pw_W} {K : pw_W → Int32 → Prop} {X : pw_W → Nat → Prop} {x y z t : Int32} {s r c : Nat}
noncomputable def pz_ite (P : Prop) (a b : Int32) : Int32 := @ite Int32 P (Classical.propDecidable P) a b
theorem pz_it {P : Prop} {a b : Int32} (h : P) : pz_ite P a b = a := if_pos h
theorem pz_if' {P : Prop} {a b : Int32} (h : ¬ P) : pz_ite P a b = b := if_neg h
theorem pz_iT {a b : Int32} : pz_ite True a b = a := if_pos trivial
theorem pz_iF {a b : Int32} : pz_ite False a b = b := if_neg id
/-- what a count that isn't a number of things sums up -/
noncomputable def pz_su (P : Nat → Prop) (v : Nat → Int32) (n : Nat) : Int32 := Nat.rec 0 (fun k a => pz_ite (P k) (a + v k) a) n
theorem pz_suS {P : Nat → Prop} {v : Nat → Int32} {n : Nat} : pz_su P v (n + 1) = pz_ite (P n) (pz_su P v n + v n) (pz_su P v n) := rfl
noncomputable def pz_sb (P : Nat → Prop) (v : Nat → Int32) (b : Int32) (n : Nat) : Int32 := Nat.rec b (fun k a => pz_ite (P k) (a - v k) a) n
theorem pz_sbS {P : Nat → Prop} {v : Nat → Int32} {b : Int32} {n : Nat} : pz_sb P v b (n + 1) = pz_ite (P n) (pz_sb P v b n - v n) (pz_sb P v b n) := rfl
/-- the root of a parcel, and that there is a way to it -/
def pz_root (pa : pz_P) : Prop := (∀ j, j < pa.1 → (pa.2.1 17 j = -1 ∧ pa.2.1 46 j = nI j) ∨ (¬ pa.2.1 17 j = -1 ∧ pw_jn (pa.2.1 17 j) pa.1 ∧ pa.2.1 46 j = pa.2.1 46 (pw_i (pa.2.1 17 j)))) ∧
  ∃ d : Nat → Nat, ∀ j, j < pa.1 → ¬ pa.2.1 17 j = -1 → d (pw_i (pa.2.1 17 j)) < d j
abbrev pz_ro (pa : pz_P) (x : Int32) : Int32 := pa.2.1 46 (pw_i x)
theorem pz_root.ok (h : pz_root pa) : ∀ j, j < pa.1 → pw_jn (pa.2.1 46 j) pa.1 ∧ pa.2.1 17 (pw_i (pa.2.1 46 j)) = -1 ∧ pa.1 < 2147483648 → True := fun _ _ _ => trivial
theorem pz_root.is (h : pz_root pa) (hn : pa.1 ≤ 40) : ∀ j, j < pa.1 → pw_jn (pa.2.1 46 j) pa.1 ∧ pa.2.1 17 (pw_i (pa.2.1 46 j)) = -1 := by
  obtain ⟨h1, d, h2⟩ := h
  have H : ∀ n j, j < pa.1 → d j ≤ n → pw_jn (pa.2.1 46 j) pa.1 ∧ pa.2.1 17 (pw_i (pa.2.1 46 j)) = -1 := by
    intro n
    induction n with
    | zero =>
      intro j hj hd
      rcases h1 j hj with ⟨a, b⟩ | ⟨a, b, e⟩
      · rw [b, pz_i (by omega)]; exact ⟨pz_jn hj (by omega), a⟩
      · have := h2 j hj a; omega
    | succ n ih =>
      intro j hj hd
      rcases h1 j hj with ⟨a, b⟩ | ⟨a, b, e⟩
      · rw [b, pz_i (by omega)]; exact ⟨pz_jn hj (by omega), a⟩
      · have := h2 j hj a
        rw [e]
        exact ih _ b.2 (by omega)
  exact fun j hj => H (d j) j hj (Nat.le_refl _)
theorem mv_now (h : pz_m sc sq pa ri mp ca dr pe w0 w) (hr : pz_root pa) (hn : pa.1 ≤ 40) (hx : pw_jn x pa.1) : wp_M_now w x K X = K w (pz_ro pa x) := by
  unfold wp_M_now
  have st : ∀ k x, pw_jn x pa.1 → lp_M_now_2 K X (k + 1) x w = ((pa.2.1 17 (pw_i x) = -1 → K w x) ∧ (¬ pa.2.1 17 (pw_i x) = -1 → lp_M_now_2 K X k (pa.2.1 17 (pw_i x)) w)) := by
    intro k x hx
    have hx40 : pw_jn x 40 := ⟨hx.1, by have := hx.2; omega⟩
    rw [lp_M_now_2_s]
    (try simp (disch := omega) only [pz_me h, forall_eq, true_and, and_true, true_imp_iff, forall_const, not_true_eq_false, not_false_eq_true, false_imp_iff, implies_true, eq_self, pz_i, pz_s1, pz_p1, pz_jnt, pz_b0, pz_b1, pz_em, pz_nnt, pz_nm1, pz_10, pz_20, pz_30, Classical.not_not, hx40])
  obtain ⟨h1, d, h2⟩ := hr
  have A : ∀ k x, pw_jn x pa.1 → lp_M_now_2 K X k x w → K w (pz_ro pa x) := by
    intro k
    induction k with
    | zero => intro x hx q; exact q.elim
    | succ k ih =>
      intro x hx q
      rw [st k x hx] at q
      rcases h1 _ hx.2 with ⟨a, b⟩ | ⟨a, b, e⟩
      · show K w (pa.2.1 46 (pw_i x))
        rw [b, pw_nIi hx.1]; exact q.1 a
      · have := ih _ b (q.2 a)
        show K w (pa.2.1 46 (pw_i x))
        rw [e]; exact this
  have B : ∀ n x, pw_jn x pa.1 → d (pw_i x) ≤ n → K w (pz_ro pa x) → lp_M_now_2 K X (n + 1) x w := by
    intro n
    induction n with
    | zero =>
      intro x hx hd q
      rw [st _ x hx]
      rcases h1 _ hx.2 with ⟨a, b⟩ | ⟨a, b, e⟩
      · refine ⟨fun _ => ?_, fun z => absurd a z⟩
        have q : K w (pa.2.1 46 (pw_i x)) := q
        rw [b, pw_nIi hx.1] at q; exact q
      · have := h2 _ hx.2 a; omega
    | succ n ih =>
      intro x hx hd q
      rw [st _ x hx]
      have q : K w (pa.2.1 46 (pw_i x)) := q
      rcases h1 _ hx.2 with ⟨a, b⟩ | ⟨a, b, e⟩
      · refine ⟨fun _ => ?_, fun z => absurd a z⟩
        rw [b, pw_nIi hx.1] at q; exact q
      · refine ⟨fun z => absurd z a, fun _ => ?_⟩
        have := h2 _ hx.2 a
        rw [e] at q
        exact ih _ b (by omega) q
  exact propext ⟨fun ⟨k, q⟩ => A k x hx q, fun q => ⟨_, B _ x hx (Nat.le_refl _) q⟩⟩
/-- what a right is worth -/
noncomputable def pz_lf (ri : pz_N) (sq : pz_Q) (x : Int32) (n : Nat) : Int32 := pz_sb (fun k => pz_on ri x k ∧ ri.2 20 k = 0) (ri.2 23) (2 * pz_ct (fun s => sq.1 8 s = x) 100) n
noncomputable def pz_wo (ri : pz_N) (sq : pz_Q) (r : Nat) : Int32 := pz_ite (ri.2 20 r = 0 ∧ 0 ≤ pz_lf ri sq (ri.2 21 r) r) (pz_mn (ri.2 23 r) (pz_lf ri sq (ri.2 21 r) r)) 0
theorem mv_worth (h : pz_m sc sq pa ri mp ca dr pe w0 w) (hr : r < 80) : wp_M_worth w (nI r) K X = K w (pz_wo ri sq r) := by
  unfold wp_M_worth
  (try simp (disch := omega) only [pz_me h, forall_eq, true_and, and_true, true_imp_iff, forall_const, not_true_eq_false, not_false_eq_true, false_imp_iff, implies_true, eq_self, pz_i, pz_s1, pz_p1, pz_jnt, pz_b0, pz_b1, pz_em, pz_nnt, pz_nm1, pz_10, pz_20, pz_30, Classical.not_not, mv_areaOf h])
  refine pz_upe (F := fun k s => lp_M_worth_15 K X k (nI r) (pz_lf ri sq (ri.2 21 r) s) (nI s) w) r (fun s => rfl) (fun s k hs => Or.inl ?_) (fun k => ?_)
  · rw [lp_M_worth_15_s]
    unfold pz_lf
    (try simp (disch := omega) only [pz_me h, forall_eq, true_and, and_true, true_imp_iff, forall_const, not_true_eq_false, not_false_eq_true, false_imp_iff, implies_true, eq_self, pz_i, pz_s1, pz_p1, pz_jnt, pz_b0, pz_b1, pz_em, pz_nnt, pz_nm1, pz_10, pz_20, pz_30, Classical.not_not, pz_le, pz_sbS, mv_isOn h, show ¬ r ≤ s by omega])
    by_cases h1 : pz_on ri (ri.2 21 r) s <;> by_cases h2 : ri.2 20 s = 0 <;> simp [h1, h2, pz_iT, pz_iF]
  · rw [lp_M_worth_15_s]
    unfold pz_wo
    (try simp (disch := omega) only [pz_me h, forall_eq, true_and, and_true, true_imp_iff, forall_const, not_true_eq_false, not_false_eq_true, false_imp_iff, implies_true, eq_self, pz_i, pz_s1, pz_p1, pz_jnt, pz_b0, pz_b1, pz_em, pz_nnt, pz_nm1, pz_10, pz_20, pz_30, Classical.not_not, pz_le, Nat.le_refl, mv_lesser])
    by_cases h1 : ri.2 20 r = 0 <;> by_cases h2 : 0 ≤ pz_lf ri sq (ri.2 21 r) r <;> simp only [h1, h2, pz_iT, pz_iF, true_imp_iff, not_true_eq_false, not_false_eq_true, false_imp_iff, and_true, true_and, and_self, and_false, false_and]
noncomputable def pz_wr (ri : pz_N) (sq : pz_Q) (q x : Int32) : Int32 := pz_su (fun r => pz_on ri x r ∧ ri.2 22 r = q) (pz_wo ri sq) ri.1
theorem mv_worthOf (h : pz_m sc sq pa ri mp ca dr pe w0 w) (hn : ri.1 ≤ 80) : wp_M_worthOf w y x K X = K w (pz_wr ri sq y x) := by
  unfold wp_M_worthOf pz_wr
  refine pz_upe (F := fun k s => lp_M_worthOf_5 K X k y x (pz_su (fun r => pz_on ri x r ∧ ri.2 22 r = y) (pz_wo ri sq) s) (nI s) w) ri.1 (fun s => rfl) (fun s k hs => Or.inl ?_) (fun k => ?_)
  · rw [lp_M_worthOf_5_s]
    (try simp (disch := omega) only [pz_me h, forall_eq, true_and, and_true, true_imp_iff, forall_const, not_true_eq_false, not_false_eq_true, false_imp_iff, implies_true, eq_self, pz_i, pz_s1, pz_p1, pz_jnt, pz_b0, pz_b1, pz_em, pz_nnt, pz_nm1, pz_10, pz_20, pz_30, Classical.not_not, pz_le, pz_suS, mv_isOn h, mv_worth h, show ¬ ri.1 ≤ s by omega])
    by_cases h1 : pz_on ri x s <;> by_cases h2 : ri.2 22 s = y <;> simp [h1, h2, pz_iT, pz_iF]
  · rw [lp_M_worthOf_5_s]
    (try simp (disch := omega) only [pz_me h, forall_eq, true_and, and_true, true_imp_iff, forall_const, not_true_eq_false, not_false_eq_true, false_imp_iff, implies_true, eq_self, pz_i, pz_s1, pz_p1, pz_jnt, pz_b0, pz_b1, pz_em, pz_nnt, pz_nm1, pz_10, pz_20, pz_30, Classical.not_not, pz_le, Nat.le_refl])
theorem mv_inField (h : pz_m sc sq pa ri mp ca dr pe w0 w) : wp_M_inField w x y z K X = K w (pz_ct (fun s => sq.1 8 s = x ∧ pz_if (nI s) y z) 100) := by
  unfold wp_M_inField
  refine pz_upe (F := fun k s => lp_M_inField_6 K X k x y z (pz_ct (fun s => sq.1 8 s = x ∧ pz_if (nI s) y z) s) (nI s) w) 100 (fun s => rfl) (fun s k hs => Or.inl ?_) (fun k => ?_)
  · rw [lp_M_inField_6_s]
    (try simp (disch := omega) only [pz_me h, forall_eq, true_and, and_true, true_imp_iff, forall_const, not_true_eq_false, not_false_eq_true, false_imp_iff, implies_true, eq_self, pz_i, pz_s1, pz_p1, pz_jnt, pz_b0, pz_b1, pz_em, pz_nnt, pz_nm1, pz_10, pz_20, pz_30, Classical.not_not, pz_l100, pz_le, pz_ctS, mv_isInField, show ¬ 100 ≤ s by omega])
    by_cases h1 : sq.1 8 s = x <;> by_cases h2 : pz_if (nI s) y z <;> simp [h1, h2, pz_bT, pz_bF]
  · rw [lp_M_inField_6_s]
    (try simp (disch := omega) only [pz_me h, forall_eq, true_and, and_true, true_imp_iff, forall_const, not_true_eq_false, not_false_eq_true, false_imp_iff, implies_true, eq_self, pz_i, pz_s1, pz_p1, pz_jnt, pz_b0, pz_b1, pz_em, pz_nnt, pz_nm1, pz_10, pz_20, pz_30, Classical.not_not, pz_l100, pz_le, Nat.le_refl])
def pz_cg (sq : pz_Q) (pa : pz_P) (ri : pz_N) (pe : pz_Q) (x y z t : Int32) : Prop := pz_ex (fun s => sq.1 8 s = x ∧ pz_if (nI s) y z) 100 ∧ pe.1 42 (pw_i t) = 0 ∧ pa.1 < 40 ∧ ri.1 + pz_cn (pz_on ri x) ri.1 ≤ 80
theorem pz_c0 {P : Nat → Prop} {n : Nat} (hn : n < 2147483648) : (pz_ct P n ≤ 0) = ¬ pz_ex P n := by
  rw [show (pz_ct P n ≤ 0) = (nI (pz_cn P n) ≤ nI 0) from rfl, pz_le (by have := pz_cn_le (P := P) (n := n); omega) (by decide), ← pz_cn0]
  exact propext ⟨fun h => Nat.le_zero.mp h, fun h => by omega⟩
theorem pz_c0e {P : Nat → Prop} {n : Nat} (hn : n < 2147483648) : (pz_ct P n = 0) = ¬ pz_ex P n := by
  rw [show (pz_ct P n = 0) = (nI (pz_cn P n) = nI 0) from rfl, pz_eq (by have := pz_cn_le (P := P) (n := n); omega) (by decide), ← pz_cn0]
theorem mv_canGrant (h : pz_m sc sq pa ri mp ca dr pe w0 w) (hn : ri.1 ≤ 80) (hp : pa.1 ≤ 40) (ht : pw_jn t 12) : wp_M_canGrant w x y z t K X = K w (pz_b (pz_cg sq pa ri pe x y z t)) := by
  unfold wp_M_canGrant pz_cg
  have hc := pz_cn_le (P := pz_on ri x) (n := ri.1)
  (try simp (disch := omega) only [pz_me h, forall_eq, true_and, and_true, true_imp_iff, forall_const, not_true_eq_false, not_false_eq_true, false_imp_iff, implies_true, eq_self, pz_i, pz_s1, pz_p1, pz_jnt, pz_b0, pz_b1, pz_em, pz_nnt, pz_nm1, pz_10, pz_20, pz_30, Classical.not_not, mv_inField h, mv_rightsOn h hn, pz_c0, ht, pz_l40, pz_l80, pz_le])
  rw [show nI ri.1 + pz_ct (pz_on ri x) ri.1 = nI (ri.1 + pz_cn (pz_on ri x) ri.1) from pz_add _ _, pz_lt (by omega) (by omega)]
  simp only [← Nat.not_le]
  by_cases h1 : pz_ex (fun s => sq.1 8 s = x ∧ pz_if (nI s) y z) 100 <;> by_cases h2 : pe.1 42 (pw_i t) = 0 <;> by_cases h3 : 40 ≤ pa.1 <;> by_cases h4 : ri.1 + pz_cn (pz_on ri x) ri.1 ≤ 80 <;> simp only [h1, h2, h3, h4, pz_bT, pz_bF, true_imp_iff, not_true_eq_false, not_false_eq_true, false_imp_iff, and_true, true_and, and_self, and_false, false_and]
theorem mv_missing (h : pz_m sc sq pa ri mp ca dr pe w0 w) (hn : ri.1 ≤ 80) : wp_M_missing w x y K X = K w (pz_ct (fun r => pz_on ri x r ∧ ¬ pz_ex (pz_hr ri (ri.2 20 r) y (ri.2 22 r)) ri.1) ri.1) := by
  unfold wp_M_missing
  refine pz_upe (F := fun k s => lp_M_missing_5 K X k x y (pz_ct (fun r => pz_on ri x r ∧ ¬ pz_ex (pz_hr ri (ri.2 20 r) y (ri.2 22 r)) ri.1) s) (nI s) w) ri.1 (fun s => rfl) (fun s k hs => Or.inl ?_) (fun k => ?_)
  · rw [lp_M_missing_5_s]
    (try simp (disch := omega) only [pz_me h, forall_eq, true_and, and_true, true_imp_iff, forall_const, not_true_eq_false, not_false_eq_true, false_imp_iff, implies_true, eq_self, pz_i, pz_s1, pz_p1, pz_jnt, pz_b0, pz_b1, pz_em, pz_nnt, pz_nm1, pz_10, pz_20, pz_30, Classical.not_not, pz_le, pz_ctS, mv_isOn h, mv_hasRight h hn, show ¬ ri.1 ≤ s by omega])
    by_cases h1 : pz_on ri x s <;> by_cases h2 : pz_ex (pz_hr ri (ri.2 20 s) y (ri.2 22 s)) ri.1 <;> simp [h1, h2, pz_bT, pz_bF]
  · rw [lp_M_missing_5_s]
    (try simp (disch := omega) only [pz_me h, forall_eq, true_and, and_true, true_imp_iff, forall_const, not_true_eq_false, not_false_eq_true, false_imp_iff, implies_true, eq_self, pz_i, pz_s1, pz_p1, pz_jnt, pz_b0, pz_b1, pz_em, pz_nnt, pz_nm1, pz_10, pz_20, pz_30, Classical.not_not, pz_le, Nat.le_refl])
def pz_as (x y z : Int32) : Prop := pw_jn x 12 ∧ pw_jn y 100 ∧ pw_jn z 100
theorem mv_areSquares : wp_M_areSquares w x y z K X = K w (pz_b (pz_as x y z)) := by
  unfold wp_M_areSquares pz_as
  simp only [mv_isPerson, mv_isSquare, pz_b0, Classical.not_not]
  by_cases h1 : pw_jn x 12 <;> by_cases h2 : pw_jn y 100 <;> by_cases h3 : pw_jn z 100 <;> simp [h1, h2, h3, pz_bT, pz_bF]
def pz_mp (mp : pz_N) (q s : Int32) (m : Nat) : Prop := mp.2 27 m = q ∧ pz_if s (mp.2 28 m) (mp.2 29 m)
theorem mv_isMapped (h : pz_m sc sq pa ri mp ca dr pe w0 w) (hn : mp.1 ≤ 12) : wp_M_isMapped w x y K X = K w (pz_b (pz_ex (pz_mp mp x y) mp.1)) := by
  unfold wp_M_isMapped
  refine pz_upe2 (F := fun k s => lp_M_isMapped_5 K X k x y (pz_b (pz_ex (pz_mp mp x y) s)) (nI s) w) (fun k => congrArg (fun q => lp_M_isMapped_5 K X k x y q 0 w) pz_be0.symm) mp.1 (fun s => rfl) (fun s k hs => Or.inl ?_) (fun k => ?_)
  · rw [lp_M_isMapped_5_s]
    (try simp (disch := omega) only [pz_me h, forall_eq, true_and, and_true, true_imp_iff, forall_const, not_true_eq_false, not_false_eq_true, false_imp_iff, implies_true, eq_self, pz_i, pz_s1, pz_p1, pz_jnt, pz_b0, pz_b1, pz_em, pz_nnt, pz_nm1, pz_10, pz_20, pz_30, Classical.not_not, pz_le, pz_exS, mv_isInField, show ¬ mp.1 ≤ s by omega])
    by_cases h0 : pz_ex (pz_mp mp x y) s
    · simp [h0, pz_bT]
    · unfold pz_mp at *
      by_cases h1 : mp.2 27 s = x <;> by_cases h2 : pz_if y (mp.2 28 s) (mp.2 29 s) <;> simp [h0, h1, h2, pz_bT, pz_bF]
  · rw [lp_M_isMapped_5_s]
    (try simp (disch := omega) only [pz_me h, forall_eq, true_and, and_true, true_imp_iff, forall_const, not_true_eq_false, not_false_eq_true, false_imp_iff, implies_true, eq_self, pz_i, pz_s1, pz_p1, pz_jnt, pz_b0, pz_b1, pz_em, pz_nnt, pz_nm1, pz_10, pz_20, pz_30, Classical.not_not, pz_le, Nat.le_refl])
def pz_cl (sc : pz_S) (sq : pz_Q) (mp : pz_N) (q u : Int32) (s : Nat) : Prop := (u = 0 ∧ pz_ex (pz_mp mp q (nI s)) mp.1) ∨ (¬ u = 0 ∧ sq.1 10 s = q ∧ ¬ sc 1 - sq.1 11 s < 720)
theorem mv_isClaimed (h : pz_m sc sq pa ri mp ca dr pe w0 w) (hn : mp.1 ≤ 12) (hs : s < 100) : wp_M_isClaimed w x y (nI s) K X = K w (pz_b (pz_cl sc sq mp x y s)) := by
  unfold wp_M_isClaimed pz_cl
  (try simp (disch := omega) only [pz_me h, forall_eq, true_and, and_true, true_imp_iff, forall_const, not_true_eq_false, not_false_eq_true, false_imp_iff, implies_true, eq_self, pz_i, pz_s1, pz_p1, pz_jnt, pz_b0, pz_b1, pz_em, pz_nnt, pz_nm1, pz_10, pz_20, pz_30, Classical.not_not, mv_isMapped h hn])
  by_cases h1 : y = 0 <;> by_cases h2 : pz_ex (pz_mp mp x (nI s)) mp.1 <;> by_cases h3 : sq.1 10 s = x <;> by_cases h4 : sc 1 - sq.1 11 s < 720 <;> simp only [h1, h2, h3, h4, pz_bT, pz_bF, true_imp_iff, not_true_eq_false, not_false_eq_true, false_imp_iff, and_true, true_and, and_self, and_false, false_and, or_true, true_or, or_false, false_or, or_self]
end PZX
