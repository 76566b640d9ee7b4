/-! the last of the model's methods that only tell -/
section PZY
variable {sc : pz_S} {sq : pz_Q} {pa : pz_P} {ri : pz_N} {mp : pz_N} {ca : pz_P} {dr : pz_N} {pe : pz_Q} {w0 w : pw_W} {K : pw_W → Int32 → Prop} {X : pw_W → Nat → Prop} {x y z t : Int32} {s r c d : Nat}
theorem pz_x12 {a b : Nat} : (12 : Int32) * nI a + nI b = nI (12 * a + b) := by rw [pz_l12, pz_mul, pz_add]
theorem pz_x100 {a b : Nat} : (100 : Int32) * nI a + nI b = nI (100 * a + b) := by rw [pz_l100, pz_mul, pz_add]
theorem pz_x3 {a b : Nat} : (3 : Int32) * nI a + nI b = nI (3 * a + b) := by rw [pz_l3, pz_mul, pz_add]
theorem pz_x250 {a b : Nat} : (250 : Int32) * nI a + nI b = nI (250 * a + b) := by rw [pz_l250, pz_mul, pz_add]
theorem mv_claimed (h : pz_m sc sq pa ri mp ca dr pe w0 w) (hn : mp.1 ≤ 12) : wp_M_claimed w x y z t K X = K w (pz_ct (fun s => pz_if (nI s) z t ∧ pz_cl sc sq mp x y s) 100) := by
  unfold wp_M_claimed
  refine pz_upe (F := fun k s => lp_M_claimed_6 K X k x y z t (pz_ct (fun s => pz_if (nI s) z t ∧ pz_cl sc sq mp x y s) s) (nI s) w) 100 (fun s => rfl) (fun s k hs => Or.inl ?_) (fun k => ?_)
  · rw [lp_M_claimed_6_s]
    (try simp (disch := omega) only [pz_me h, forall_eq, true_and, and_true, true_imp_iff, forall_const, not_true_eq_false, not_false_eq_true, false_imp_iff, implies_true, eq_self, pz_i, pz_s1, pz_p1, pz_jnt, pz_b0, pz_b1, pz_em, pz_nnt, pz_nm1, pz_10, pz_20, pz_30, Classical.not_not, pz_l100, pz_le, pz_ctS, mv_isInField, mv_isClaimed h hn, show ¬ 100 ≤ s by omega])
    by_cases h1 : pz_if (nI s) z t <;> by_cases h2 : pz_cl sc sq mp x y s <;> simp [h1, h2, pz_bT, pz_bF]
  · rw [lp_M_claimed_6_s]
    (try simp (disch := omega) only [pz_me h, forall_eq, true_and, and_true, true_imp_iff, forall_const, not_true_eq_false, not_false_eq_true, false_imp_iff, implies_true, eq_self, pz_i, pz_s1, pz_p1, pz_jnt, pz_b0, pz_b1, pz_em, pz_nnt, pz_nm1, pz_10, pz_20, pz_30, Classical.not_not, pz_l100, pz_le, Nat.le_refl])
def pz_gt (sq : pz_Q) (pa ca : pz_P) (c s : Nat) : Prop := ¬ ca.2.2 c s = 0 ∧ ¬ pa.2.1 16 (pw_i (sq.1 8 s)) = ca.2.1 31 c ∧ (sq.1 12 s = -1 ∨ sq.1 12 s = nI c ∨ ca.2.1 34 (pw_i (sq.1 12 s)) ≤ ca.2.1 33 c)
def pz_j8 (sq : pz_Q) (pa : pz_P) : Prop := ∀ s, s < 100 → pw_jn (sq.1 8 s) pa.1
def pz_j12 (sq : pz_Q) (ca : pz_P) : Prop := ∀ s, s < 100 → sq.1 12 s = -1 ∨ pw_jn (sq.1 12 s) ca.1
theorem pz_jw {x : Int32} {a b : Nat} (h : pw_jn x a) (hl : a ≤ b) : pw_jn x b := ⟨h.1, Nat.lt_of_lt_of_le h.2 hl⟩
theorem mv_gets (h : pz_m sc sq pa ri mp ca dr pe w0 w) (h8 : pz_j8 sq pa) (h12 : pz_j12 sq ca) (hp : pa.1 ≤ 40) (hc : ca.1 ≤ 16) (hs : s < 100) (hcc : c < ca.1) : wp_M_gets w (nI c) (nI s) K X = K w (pz_b (pz_gt sq pa ca c s)) := by
  unfold wp_M_gets pz_gt jp_M_gets_44 jp_M_gets_45
  have e8 : pw_jn (sq.1 8 s) 40 := pz_jw (h8 s hs) hp
  (try simp (disch := omega) only [pz_me h, forall_eq, true_and, and_true, true_imp_iff, forall_const, not_true_eq_false, not_false_eq_true, false_imp_iff, implies_true, eq_self, pz_i, pz_s1, pz_p1, pz_jnt, pz_b0, pz_b1, pz_em, pz_nnt, pz_nm1, pz_10, pz_20, pz_30, Classical.not_not, pz_x100, e8])
  rw [pz_md37 h c s (by omega) hs]
  by_cases a0 : sq.1 12 s = -1
  · by_cases a1 : ca.2.2 c s = 0 <;> by_cases a2 : pa.2.1 16 (pw_i (sq.1 8 s)) = ca.2.1 31 c <;> simp [a0, a1, a2, pz_bT, pz_bF]
  · have e12 : pw_jn (sq.1 12 s) 16 := pz_jw ((h12 s hs).resolve_left a0) hc
    have hm : ¬ nI c = -1 := by rw [pz_nm1 (by omega)]; exact id
    by_cases a3 : sq.1 12 s = nI c <;> by_cases a4 : ca.2.1 34 (pw_i (sq.1 12 s)) ≤ ca.2.1 33 c <;> by_cases a1 : ca.2.2 c s = 0 <;> by_cases a2 : pa.2.1 16 (pw_i (sq.1 8 s)) = ca.2.1 31 c <;> simp only [a0, a1, a2, a3, a4, hm, e12, pz_bT, pz_bF, true_imp_iff, not_true_eq_false, not_false_eq_true, false_imp_iff, and_true, true_and, and_self, and_false, false_and, or_true, true_or, or_false, false_or, or_self, eq_self, forall_const, implies_true, show ¬ (1 : Int32) = 0 by decide]
theorem mv_gotten (h : pz_m sc sq pa ri mp ca dr pe w0 w) (h8 : pz_j8 sq pa) (h12 : pz_j12 sq ca) (hp : pa.1 ≤ 40) (hc : ca.1 ≤ 16) (hcc : c < ca.1) : wp_M_gotten w (nI c) K X = K w (pz_ct (pz_gt sq pa ca c) 100) := by
  unfold wp_M_gotten
  refine pz_upe (F := fun k s => lp_M_gotten_4 K X k (nI c) (pz_ct (pz_gt sq pa ca c) s) (nI s) w) 100 (fun s => rfl) (fun s k hs => Or.inl ?_) (fun k => ?_)
  · rw [lp_M_gotten_4_s]
    (try simp (disch := omega) only [pz_me h, forall_eq, true_and, and_true, true_imp_iff, forall_const, not_true_eq_false, not_false_eq_true, false_imp_iff, implies_true, eq_self, pz_i, pz_s1, pz_p1, pz_jnt, pz_b0, pz_b1, pz_em, pz_nnt, pz_nm1, pz_10, pz_20, pz_30, Classical.not_not, pz_l100, pz_le, pz_ctS, mv_gets h h8 h12 hp hc hs hcc, show ¬ 100 ≤ s by omega])
    by_cases h1 : pz_gt sq pa ca c s <;> simp [h1, pz_bT, pz_bF]
  · rw [lp_M_gotten_4_s]
    (try simp (disch := omega) only [pz_me h, forall_eq, true_and, and_true, true_imp_iff, forall_const, not_true_eq_false, not_false_eq_true, false_imp_iff, implies_true, eq_self, pz_i, pz_s1, pz_p1, pz_jnt, pz_b0, pz_b1, pz_em, pz_nnt, pz_nm1, pz_10, pz_20, pz_30, Classical.not_not, pz_l100, pz_le, Nat.le_refl])
def pz_wi (ca : pz_P) (c : Nat) : Prop := ¬ ca.2.1 35 c ≤ ca.2.1 36 c
theorem mv_wins (h : pz_m sc sq pa ri mp ca dr pe w0 w) (hc : c < 16) : wp_M_wins w (nI c) K X = K w (pz_b (pz_wi ca c)) := by
  unfold wp_M_wins pz_wi
  (try simp (disch := omega) only [pz_me h, forall_eq, true_and, and_true, true_imp_iff, forall_const, not_true_eq_false, not_false_eq_true, false_imp_iff, implies_true, eq_self, pz_i, pz_s1, pz_p1, pz_jnt, pz_b0, pz_b1, pz_em, pz_nnt, pz_nm1, pz_10, pz_20, pz_30, Classical.not_not])
  by_cases a1 : ca.2.1 35 c ≤ ca.2.1 36 c <;> simp only [a1, pz_bT, pz_bF, true_imp_iff, not_true_eq_false, not_false_eq_true, false_imp_iff, and_true, true_and]
def pz_sd (x y : Int32) : Prop := ((x - x / 10 * 10) - (y - y / 10 * 10)) * ((x - x / 10 * 10) - (y - y / 10 * 10)) + ((x / 10) - (y / 10)) * ((x / 10) - (y / 10)) = 1
theorem mv_areSides : wp_M_areSides w x y K X = K w (pz_b (pz_sd x y)) := by
  unfold wp_M_areSides pz_sd
  simp only [forall_eq]
  by_cases a1 : ((x - x / 10 * 10) - (y - y / 10 * 10)) * ((x - x / 10 * 10) - (y - y / 10 * 10)) + ((x / 10) - (y / 10)) * ((x / 10) - (y / 10)) = 1 <;> simp only [a1, pz_bT, pz_bF, true_imp_iff, not_true_eq_false, not_false_eq_true, false_imp_iff, and_true, true_and]
def pz_dr (dr : pz_N) (x y : Int32) (d : Nat) : Prop := dr.2 39 d = x ∧ dr.2 40 d = y
theorem mv_isDrain (h : pz_m sc sq pa ri mp ca dr pe w0 w) (hn : dr.1 ≤ 20) : wp_M_isDrain w x y K X = K w (pz_b (pz_ex (pz_dr dr x y) dr.1)) := by
  unfold wp_M_isDrain
  refine pz_upe2 (F := fun k s => lp_M_isDrain_5 K X k x y (pz_b (pz_ex (pz_dr dr x y) s)) (nI s) w) (fun k => congrArg (fun q => lp_M_isDrain_5 K X k x y q 0 w) pz_be0.symm) dr.1 (fun s => rfl) (fun s k hs => Or.inl ?_) (fun k => ?_)
  · rw [lp_M_isDrain_5_s]
    (try simp (disch := omega) only [pz_me h, forall_eq, true_and, and_true, true_imp_iff, forall_const, not_true_eq_false, not_false_eq_true, false_imp_iff, implies_true, eq_self, pz_i, pz_s1, pz_p1, pz_jnt, pz_b0, pz_b1, pz_em, pz_nnt, pz_nm1, pz_10, pz_20, pz_30, Classical.not_not, pz_le, pz_exS, show ¬ dr.1 ≤ s by omega])
    by_cases h0 : pz_ex (pz_dr dr x y) s
    · simp [h0, pz_bT]
    · unfold pz_dr at *
      by_cases h1 : dr.2 39 s = x <;> by_cases h2 : dr.2 40 s = y <;> simp [h0, h1, h2, pz_bT, pz_bF]
  · rw [lp_M_isDrain_5_s]
    (try simp (disch := omega) only [pz_me h, forall_eq, true_and, and_true, true_imp_iff, forall_const, not_true_eq_false, not_false_eq_true, false_imp_iff, implies_true, eq_self, pz_i, pz_s1, pz_p1, pz_jnt, pz_b0, pz_b1, pz_em, pz_nnt, pz_nm1, pz_10, pz_20, pz_30, Classical.not_not, pz_le, Nat.le_refl])
def pz_my (sq : pz_Q) (pa : pz_P) (ri : pz_N) (pe : pz_Q) (q k : Int32) (s : Nat) : Prop := pe.1 42 (pw_i q) = 0 ∧ (pa.2.1 16 (pw_i (sq.1 8 s)) = q ∨ pz_ex (pz_hr ri k (sq.1 8 s) q) ri.1)
theorem mv_may (h : pz_m sc sq pa ri mp ca dr pe w0 w) (h8 : pz_j8 sq pa) (hp : pa.1 ≤ 40) (hr : ri.1 ≤ 80) (hx : pw_jn x 12) (hs : s < 100) : wp_M_may w x (nI s) y K X = K w (pz_b (pz_my sq pa ri pe x y s)) := by
  unfold wp_M_may pz_my
  have e8 : pw_jn (sq.1 8 s) 40 := pz_jw (h8 s hs) hp
  (try simp (disch := omega) only [pz_me h, forall_eq, true_and, and_true, true_imp_iff, forall_const, not_true_eq_false, not_false_eq_true, false_imp_iff, implies_true, eq_self, pz_i, pz_s1, pz_p1, pz_jnt, pz_b0, pz_b1, pz_em, pz_nnt, pz_nm1, pz_10, pz_20, pz_30, Classical.not_not, hx, e8, mv_hasRight h hr])
  by_cases a1 : pe.1 42 (pw_i x) = 0 <;> by_cases a2 : pa.2.1 16 (pw_i (sq.1 8 s)) = x <;> by_cases a3 : pz_ex (pz_hr ri y (sq.1 8 s) x) ri.1 <;> simp [a1, a2, a3, pz_bT, pz_bF]
def pz_wb (sc : pz_S) (sq : pz_Q) (x : Int32) (s : Nat) : Prop := ¬ x ≤ sc 1 - sq.1 9 s
theorem mv_wasBurnt (h : pz_m sc sq pa ri mp ca dr pe w0 w) (hs : s < 100) : wp_M_wasBurnt w (nI s) x K X = K w (pz_b (pz_wb sc sq x s)) := by
  unfold wp_M_wasBurnt pz_wb
  (try simp (disch := omega) only [pz_me h, forall_eq, true_and, and_true, true_imp_iff, forall_const, not_true_eq_false, not_false_eq_true, false_imp_iff, implies_true, eq_self, pz_i, pz_s1, pz_p1, pz_jnt, pz_b0, pz_b1, pz_em, pz_nnt, pz_nm1, pz_10, pz_20, pz_30, Classical.not_not])
  by_cases a1 : x ≤ sc 1 - sq.1 9 s <;> simp only [a1, pz_bT, pz_bF, true_imp_iff, not_true_eq_false, not_false_eq_true, false_imp_iff, and_true, true_and]
def pz_bu (sc : pz_S) (sq : pz_Q) (s : Nat) : Prop := ¬ 3 < sc 2 ∧ ¬ 30 < sq.1 7 s ∧ pz_in (sc 1 - sc 1 / 360 * 360) 60 150 ∧ ¬ pz_wb sc sq 1080 s
theorem mv_burns (h : pz_m sc sq pa ri mp ca dr pe w0 w) (hs : s < 100) : wp_M_burns w (nI s) K X = K w (pz_b (pz_bu sc sq s)) := by
  unfold wp_M_burns pz_bu
  (try simp (disch := omega) only [pz_me h, forall_eq, true_and, and_true, true_imp_iff, forall_const, not_true_eq_false, not_false_eq_true, false_imp_iff, implies_true, eq_self, pz_i, pz_s1, pz_p1, pz_jnt, pz_b0, pz_b1, pz_em, pz_nnt, pz_nm1, pz_10, pz_20, pz_30, Classical.not_not, mv_isIn, mv_wasBurnt h hs])
  by_cases a1 : 3 < sc 2 <;> by_cases a2 : 30 < sq.1 7 s <;> by_cases a3 : pz_in (sc 1 - sc 1 / 360 * 360) 60 150 <;> by_cases a4 : pz_wb sc sq 1080 s <;> simp only [a1, a2, a3, a4, pz_bT, pz_bF, true_imp_iff, not_true_eq_false, not_false_eq_true, false_imp_iff, and_true, true_and, and_self, and_false, false_and]
def pz_wt (sq : pz_Q) (s : Nat) : Prop := ¬ sq.1 7 s < 60
theorem mv_isWet (h : pz_m sc sq pa ri mp ca dr pe w0 w) (hs : s < 100) : wp_M_isWet w (nI s) K X = K w (pz_b (pz_wt sq s)) := by
  unfold wp_M_isWet pz_wt
  (try simp (disch := omega) only [pz_me h, forall_eq, true_and, and_true, true_imp_iff, forall_const, not_true_eq_false, not_false_eq_true, false_imp_iff, implies_true, eq_self, pz_i, pz_s1, pz_p1, pz_jnt, pz_b0, pz_b1, pz_em, pz_nnt, pz_nm1, pz_10, pz_20, pz_30, Classical.not_not])
  by_cases a1 : sq.1 7 s < 60 <;> simp only [a1, pz_bT, pz_bF, true_imp_iff, not_true_eq_false, not_false_eq_true, false_imp_iff, and_true, true_and]
def pz_nr (s t : Nat) : Prop := pz_in ((nI t - nI t / 10 * 10) - (nI s - nI s / 10 * 10)) (-1) 1 ∧ pz_in ((nI t / 10) - (nI s / 10)) (-1) 1
noncomputable def pz_bi (sc : pz_S) (sq : pz_Q) (s : Nat) : Int32 := pz_ite (¬ pz_wb sc sq 360 s ∧ 10 ≤ sq.1 6 s) (pz_ct (fun t => pz_nr s t ∧ pz_wt sq t) 100) 0
theorem mv_birds (h : pz_m sc sq pa ri mp ca dr pe w0 w) (hs : s < 100) : wp_M_birds w (nI s) K X = K w (pz_bi sc sq s) := by
  unfold wp_M_birds pz_bi
  (try simp (disch := omega) only [pz_me h, forall_eq, true_and, and_true, true_imp_iff, forall_const, not_true_eq_false, not_false_eq_true, false_imp_iff, implies_true, eq_self, pz_i, pz_s1, pz_p1, pz_jnt, pz_b0, pz_b1, pz_em, pz_nnt, pz_nm1, pz_10, pz_20, pz_30, Classical.not_not, mv_wasBurnt h hs])
  have e : (∃ k, lp_M_birds_28 K X k (nI s) 0 0 w) = K w (pz_ct (fun t => pz_nr s t ∧ pz_wt sq t) 100) := by
    refine pz_upe (F := fun k t => lp_M_birds_28 K X k (nI s) (pz_ct (fun t => pz_nr s t ∧ pz_wt sq t) t) (nI t) w) 100 (fun s => rfl) (fun t k ht => Or.inl ?_) (fun k => ?_)
    · rw [lp_M_birds_28_s]
      unfold pz_nr jp_M_birds_72 jp_M_birds_73
      (try simp (disch := omega) only [pz_me h, forall_eq, true_and, and_true, true_imp_iff, forall_const, not_true_eq_false, not_false_eq_true, false_imp_iff, implies_true, eq_self, pz_i, pz_s1, pz_p1, pz_jnt, pz_b0, pz_b1, pz_em, pz_nnt, pz_nm1, pz_10, pz_20, pz_30, Classical.not_not, pz_l100, pz_le, pz_ctS, mv_isIn, mv_isWet h ht, show ¬ 100 ≤ t by omega])
      by_cases a1 : pz_in ((nI t - nI t / 10 * 10) - (nI s - nI s / 10 * 10)) (-1) 1 <;> by_cases a2 : pz_in ((nI t / 10) - (nI s / 10)) (-1) 1 <;> by_cases a3 : pz_wt sq t <;> simp [a1, a2, a3, pz_bT, pz_bF]
    · rw [lp_M_birds_28_s]
      (try simp (disch := omega) only [pz_me h, forall_eq, true_and, and_true, true_imp_iff, forall_const, not_true_eq_false, not_false_eq_true, false_imp_iff, implies_true, eq_self, pz_i, pz_s1, pz_p1, pz_jnt, pz_b0, pz_b1, pz_em, pz_nnt, pz_nm1, pz_10, pz_20, pz_30, Classical.not_not, pz_l100, pz_le, Nat.le_refl])
  rw [e]
  by_cases a1 : pz_wb sc sq 360 s <;> by_cases a2 : 10 ≤ sq.1 6 s <;> simp only [a1, a2, pz_iT, pz_iF, true_imp_iff, not_true_eq_false, not_false_eq_true, false_imp_iff, and_true, true_and, and_self, and_false, false_and]
noncomputable def pz_ss (pa : pz_P) (p n : Nat) : Int32 := pz_su (fun _ => True) (pa.2.2 p) n
theorem mv_sheepOn (h : pz_m sc sq pa ri mp ca dr pe w0 w) (hp : c < 40) : wp_M_sheepOn w (nI c) K X = K w (pz_ss pa c 12) := by
  unfold wp_M_sheepOn pz_ss
  refine pz_upe (F := fun k s => lp_M_sheepOn_4 K X k (nI c) (pz_su (fun _ => True) (pa.2.2 c) s) (nI s) w) 12 (fun s => rfl) (fun s k hs => Or.inl ?_) (fun k => ?_)
  · rw [lp_M_sheepOn_4_s]
    (try simp (disch := omega) only [pz_me h, forall_eq, true_and, and_true, true_imp_iff, forall_const, not_true_eq_false, not_false_eq_true, false_imp_iff, implies_true, eq_self, pz_i, pz_s1, pz_p1, pz_jnt, pz_b0, pz_b1, pz_em, pz_nnt, pz_nm1, pz_10, pz_20, pz_30, Classical.not_not, pz_l12, pz_le, pz_suS, pz_iT, show ¬ 12 ≤ s by omega])
    rw [← pz_l12, pz_x12]
    (try simp (disch := omega) only [pz_me h, forall_eq, true_and, and_true, true_imp_iff, forall_const, not_true_eq_false, not_false_eq_true, false_imp_iff, implies_true, eq_self, pz_i, pz_s1, pz_p1, pz_jnt, pz_b0, pz_b1, pz_em, pz_nnt, pz_nm1, pz_10, pz_20, pz_30, Classical.not_not])
    rw [pz_md19 h c s hp hs]
  · rw [lp_M_sheepOn_4_s]
    (try simp (disch := omega) only [pz_me h, forall_eq, true_and, and_true, true_imp_iff, forall_const, not_true_eq_false, not_false_eq_true, false_imp_iff, implies_true, eq_self, pz_i, pz_s1, pz_p1, pz_jnt, pz_b0, pz_b1, pz_em, pz_nnt, pz_nm1, pz_10, pz_20, pz_30, Classical.not_not, pz_l12, pz_le, Nat.le_refl])
theorem mv_isHeir (h : pz_m sc sq pa ri mp ca dr pe w0 w) (hc : c < 12) (hd : d ≤ 3) (e : pe.1 44 c = nI d) : wp_M_isHeir w (nI c) y K X = K w (pz_b (pz_ex (fun k => pe.2 c k = y) d)) := by
  unfold wp_M_isHeir
  refine pz_upe2 (F := fun k s => lp_M_isHeir_5 K X k (nI c) y (pz_b (pz_ex (fun k => pe.2 c k = y) s)) (nI s) w) (fun k => congrArg (fun q => lp_M_isHeir_5 K X k (nI c) y q 0 w) pz_be0.symm) d (fun s => rfl) (fun s k hs => Or.inl ?_) (fun k => ?_)
  · rw [lp_M_isHeir_5_s]
    (try simp (disch := omega) only [pz_me h, forall_eq, true_and, and_true, true_imp_iff, forall_const, not_true_eq_false, not_false_eq_true, false_imp_iff, implies_true, eq_self, pz_i, pz_s1, pz_p1, pz_jnt, pz_b0, pz_b1, pz_em, pz_nnt, pz_nm1, pz_10, pz_20, pz_30, Classical.not_not, e, pz_le, pz_exS, pz_x3, show ¬ d ≤ s by omega])
    rw [pz_md43 h c s hc (by omega)]
    by_cases h0 : pz_ex (fun k => pe.2 c k = y) s <;> by_cases h1 : pe.2 c s = y <;> simp [h0, h1, pz_bT, pz_bF]
  · rw [lp_M_isHeir_5_s]
    (try simp (disch := omega) only [pz_me h, forall_eq, true_and, and_true, true_imp_iff, forall_const, not_true_eq_false, not_false_eq_true, false_imp_iff, implies_true, eq_self, pz_i, pz_s1, pz_p1, pz_jnt, pz_b0, pz_b1, pz_em, pz_nnt, pz_nm1, pz_10, pz_20, pz_30, Classical.not_not, e, pz_le, Nat.le_refl])
theorem mv_countOf0 (h : pz_m sc sq pa ri mp ca dr pe w0 w) (hc : c < 16) : wp_M_countOf w (nI c) 0 K X = K w (pz_ct (fun s => ¬ ca.2.2 c s = 0) 100) := by
  unfold wp_M_countOf
  refine pz_upe (F := fun k s => lp_M_countOf_5 K X k (nI c) 0 (pz_ct (fun s => ¬ ca.2.2 c s = 0) s) (nI s) w) 100 (fun s => rfl) (fun s k hs => Or.inl ?_) (fun k => ?_)
  · rw [lp_M_countOf_5_s]
    (try simp (disch := omega) only [pz_me h, forall_eq, true_and, and_true, true_imp_iff, forall_const, not_true_eq_false, not_false_eq_true, false_imp_iff, implies_true, eq_self, pz_i, pz_s1, pz_p1, pz_jnt, pz_b0, pz_b1, pz_em, pz_nnt, pz_nm1, pz_10, pz_20, pz_30, Classical.not_not, pz_x100, pz_ctS])
    rw [pz_l100]
    (try simp (disch := omega) only [pz_me h, forall_eq, true_and, and_true, true_imp_iff, forall_const, not_true_eq_false, not_false_eq_true, false_imp_iff, implies_true, eq_self, pz_i, pz_s1, pz_p1, pz_jnt, pz_b0, pz_b1, pz_em, pz_nnt, pz_nm1, pz_10, pz_20, pz_30, Classical.not_not, pz_le, show ¬ 100 ≤ s by omega])
    rw [pz_md37 h c s hc hs]
    by_cases h1 : ca.2.2 c s = 0 <;> simp [h1, pz_bT, pz_bF]
  · rw [lp_M_countOf_5_s]
    (try simp (disch := omega) only [pz_me h, forall_eq, true_and, and_true, true_imp_iff, forall_const, not_true_eq_false, not_false_eq_true, false_imp_iff, implies_true, eq_self, pz_i, pz_s1, pz_p1, pz_jnt, pz_b0, pz_b1, pz_em, pz_nnt, pz_nm1, pz_10, pz_20, pz_30, Classical.not_not, pz_l100, pz_le, Nat.le_refl])
theorem mv_countOf1 (h : pz_m sc sq pa ri mp ca dr pe w0 w) : wp_M_countOf w x 1 K X = K w (pz_ct (fun s => sq.1 12 s = x) 100) := by
  unfold wp_M_countOf
  refine pz_upe (F := fun k s => lp_M_countOf_5 K X k x 1 (pz_ct (fun s => sq.1 12 s = x) s) (nI s) w) 100 (fun s => rfl) (fun s k hs => Or.inl ?_) (fun k => ?_)
  · rw [lp_M_countOf_5_s]
    (try simp (disch := omega) only [pz_me h, forall_eq, true_and, and_true, true_imp_iff, forall_const, not_true_eq_false, not_false_eq_true, false_imp_iff, implies_true, eq_self, pz_i, pz_s1, pz_p1, pz_jnt, pz_b0, pz_b1, pz_em, pz_nnt, pz_nm1, pz_10, pz_20, pz_30, Classical.not_not, pz_l100, pz_ctS, pz_le, show ¬ 100 ≤ s by omega, show ¬ (1 : Int32) = 0 by decide])
    by_cases h1 : sq.1 12 s = x <;> simp [h1, pz_bT, pz_bF]
  · rw [lp_M_countOf_5_s]
    (try simp (disch := omega) only [pz_me h, forall_eq, true_and, and_true, true_imp_iff, forall_const, not_true_eq_false, not_false_eq_true, false_imp_iff, implies_true, eq_self, pz_i, pz_s1, pz_p1, pz_jnt, pz_b0, pz_b1, pz_em, pz_nnt, pz_nm1, pz_10, pz_20, pz_30, Classical.not_not, pz_l100, pz_le, Nat.le_refl])
end PZY
