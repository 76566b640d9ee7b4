/-! the maps of the dead -/
section PZDM
variable {sc : pz_S} {sq : pz_Q} {pa : pz_P} {ri : pz_N} {mp : pz_N} {ca : pz_P} {dr : pz_N} {pe : pz_Q} {U V : Nat} {w0 w w1 w2 : pw_W} {K : pw_W → Int32 → Prop} {X : pw_W → Nat → Prop} {x y z t : Int32} {i s r j n p q k k' m c d xi f f0 : Nat} {B P : Nat → Prop} {H v : Nat → Int32} {L : List Nat} {F : pz_F} {a3 e : Int32}
def pz_kp (mp : pz_N) (x : Int32) (m : Nat) : Prop := ¬ mp.2 27 m = x
def pz_mg' (F : pz_F) (L : List Nat) : pz_F := fun f m => if m < L.length then F f (L.getD m 0) else F f m
noncomputable def pz_mf (mp : pz_N) (x : Int32) : pz_N := ((pz_lv (pz_kp mp x) mp.1).length, pz_mg' mp.2 (pz_lv (pz_kp mp x) mp.1))
theorem pz_cmpc {mp' : pz_N} (h : pz_c sc sq pa ri mp ca dr pe U V w0 w) (e : mp'.1 = mp.1) (e2 : ∀ f m, m < mp.1 → mp'.2 f m = mp.2 f m) : pz_c sc sq pa ri mp' ca dr pe U V w0 w := by
  obtain ⟨h1, h2, h3, h4, h5, h6, h7, h8, h9, h10, h11⟩ := h
  refine ⟨h1, h2, h3, h4, h5, h6, h7, h8, h9, ?_, h11⟩
  unfold pz_cmp at *
  rw [e]
  exact ⟨h10.1, h10.2.1, fun m hm => by rw [e2 _ _ hm]; exact h10.2.2.1 m hm, fun m hm => by rw [e2 _ _ hm]; exact h10.2.2.2.1 m hm, fun m hm => by rw [e2 _ _ hm]; exact h10.2.2.2.2 m hm⟩
theorem pz_mmpc {mp' : pz_N} (h : pz_m sc sq pa ri mp ca dr pe w0 w) (e : mp'.1 = mp.1) (e27 : ∀ m, mp'.2 27 m = mp.2 27 m) (e28 : ∀ m, mp'.2 28 m = mp.2 28 m) (e29 : ∀ m, mp'.2 29 m = mp.2 29 m) : pz_m sc sq pa ri mp' ca dr pe w0 w := by
  obtain ⟨h1, h2, h3, h4, h5, h6, h7, h8, h9, h10, h11⟩ := h
  refine ⟨h1, h2, h3, h4, h5, h6, h7, ?_, h9, h10, h11⟩
  unfold pz_mmp at *
  rw [e]
  exact ⟨fun m => by rw [e27]; exact h8.1 m, fun m => by rw [e28]; exact h8.2.1 m, fun m => by rw [e29]; exact h8.2.2.1 m, h8.2.2.2⟩
theorem pz_mgA : pz_mg' F (L ++ [n]) f m = if m = L.length then F f n else pz_mg' F L f m := by
  unfold pz_mg'
  rw [List.length_append, List.length_singleton]
  by_cases q : m = L.length
  · rw [if_pos q, if_pos (by omega), q]
    congr 1
    simp
  · rw [if_neg q]
    by_cases q2 : m < L.length
    · rw [if_pos q2, if_pos (by omega), List.getD_eq_getElem?_getD, List.getD_eq_getElem?_getD, List.getElem?_append_left q2]
    · rw [if_neg q2, if_neg (by omega)]
theorem pz_mgn (h : L.length ≤ m) : pz_mg' F L f m = F f m := if_neg (by omega)
/-- from the end -/
noncomputable def pz_gl (B : Nat → Prop) (n s : Nat) : List Nat := Nat.rec [] (fun s a => if pz_bb (B (n - s - 1)) = true then (n - s - 1) :: a else a) s
theorem pz_glT (h : B (n - s - 1)) : pz_gl B n (s + 1) = (n - s - 1) :: pz_gl B n s := if_pos (pz_bbT h)
theorem pz_glF (h : ¬ B (n - s - 1)) : pz_gl B n (s + 1) = pz_gl B n s := if_neg (by rw [pz_bbF h]; decide)
theorem pz_gle : ∀ s, s ≤ n → pz_lv B (n - s) ++ pz_gl B n s = pz_lv B n := by
  intro s
  induction s with
  | zero => intro _; exact List.append_nil _
  | succ s ih =>
    intro hs
    rw [← ih (by omega)]
    by_cases q : B (n - s - 1)
    · rw [pz_glT q, show n - s = (n - s - 1) + 1 by omega, pz_lvT q, List.append_assoc]; rfl
    · rw [pz_glF q, show n - s = (n - s - 1) + 1 by omega, pz_lvF q]; rfl
noncomputable def pz_mb (mp : pz_N) (x : Int32) (s : Nat) : pz_N := (mp.1 - s + (pz_gl (pz_kp mp x) mp.1 s).length, fun f m => if m < mp.1 - s then mp.2 f m else mp.2 f ((pz_gl (pz_kp mp x) mp.1 s).getD (m - (mp.1 - s)) 0))
theorem pz_mbT (hs : s < mp.1) (h : pz_kp mp x (mp.1 - s - 1)) : ∀ f m, (pz_mb mp x (s + 1)).2 f m = (pz_mb mp x s).2 f m := fun f m => by
  unfold pz_mb
  dsimp only
  rw [pz_glT h]
  by_cases q : m < mp.1 - (s + 1)
  · rw [if_pos q, if_pos (by omega)]
  · rw [if_neg q]
    by_cases q2 : m < mp.1 - s
    · rw [if_pos q2, show m - (mp.1 - (s + 1)) = 0 by omega, List.getD_cons_zero]
      rw [show mp.1 - s - 1 = m by omega]
    · rw [if_neg q2, show m - (mp.1 - (s + 1)) = (m - (mp.1 - s)) + 1 by omega, List.getD_cons_succ]
theorem pz_mbT1 (hs : s < mp.1) (h : pz_kp mp x (mp.1 - s - 1)) : (pz_mb mp x (s + 1)).1 = (pz_mb mp x s).1 := by
  unfold pz_mb
  dsimp only
  rw [pz_glT h, List.length_cons]; omega
theorem pz_mbF (hs : s < mp.1) (h : ¬ pz_kp mp x (mp.1 - s - 1)) : (((pz_mb mp x s).1 - 1, fun f m => if mp.1 - s - 1 ≤ m then (pz_mb mp x s).2 f (m + 1) else (pz_mb mp x s).2 f m) : pz_N) = pz_mb mp x (s + 1) := by
  refine Prod.ext ?_ (funext fun f => funext fun m => ?_)
  · unfold pz_mb; dsimp only; rw [pz_glF h]; omega
  · unfold pz_mb; dsimp only; rw [pz_glF h]
    by_cases q : mp.1 - s - 1 ≤ m
    · rw [if_pos q, if_neg (by omega), if_neg (by omega), show m + 1 - (mp.1 - s) = m - (mp.1 - (s + 1)) by omega]
    · rw [if_neg q, if_pos (by omega), if_pos (by omega)]
theorem pz_mb0 : ∀ f m, m < mp.1 → (pz_mb mp x 0).2 f m = mp.2 f m := fun f m hm => if_pos (by omega)
theorem cu_endMaps (h : pz_c sc sq pa ri mp ca dr pe U V w0 w) (hm : mp.1 ≤ 12) (k : ∀ w1, pz_c sc sq pa ri (pz_mf mp x) ca dr pe U V w0 w1 → K w1 0) : wp_X_endMapsOf w x K X := by
  unfold wp_X_endMapsOf
  (try simp (disch := omega) only [pz_ce h, pz_k14 h, pz_k60 h, pz_k23 h, pz_k30 h, pz_k31 h, pz_k34 h, pz_k35 h, pz_kl11 h, pz_k11 h, pz_k15 h, pz_k40 h, pz_k41 h, pz_k42 h, pz_k25 h, pz_km0 h, pz_km1 h, pz_km2 h, pz_kc0 h, pz_kc1 h, pz_kc2 h, pz_kc3 h, pz_kc4 h, pz_kc6 h, pz_kc7 h, pz_kl12 h, pz_k12 h, pz_kd0 h, pz_kd1 h, forall_eq, true_and, and_true, true_imp_iff, forall_const, not_true_eq_false, not_false_eq_true, false_imp_iff, implies_true, eq_self, pz_i, pz_s1, pz_p1, pz_jnt, pz_b0, pz_b1, pz_em, pz_nnt, pz_nm1, pz_10, pz_20, pz_30, Classical.not_not])
  refine pz_up (F := fun k s w => lp_X_endMapsOf_12 K X k x (nI (mp.1 - s) - 1) w) (I := fun s w => pz_c sc sq pa ri (pz_mb mp x s) ca dr pe U V w0 w) mp.1 (fun s w4 k5 hs h4 ih => ?_) (fun w4 h4 => ?_) (pz_cmpc h (by show mp.1 - 0 + 0 = mp.1; omega) pz_mb0)
  · rw [lp_X_endMapsOf_12_s]
    have e1 : nI (mp.1 - s) - 1 = nI (mp.1 - s - 1) := pz_sub (b := 1) (by omega)
    have e2 : nI (mp.1 - s - 1) + -1 = nI (mp.1 - (s + 1)) - 1 := by
      rw [Int32.sub_eq_add_neg, show mp.1 - (s + 1) = mp.1 - s - 1 by omega]
    have hn : ¬ nI (mp.1 - s - 1) < 0 := by rw [Int32.not_lt]; exact pz_nn (by omega)
    obtain ⟨i, ei⟩ : ∃ i, i = mp.1 - s - 1 := ⟨_, rfl⟩
    have hb : i < (pz_mb mp x s).1 := by show i < mp.1 - s + _; omega
    have a1 : (pz_mb mp x s).2 27 i = mp.2 27 i := if_pos (by omega)
    have hj : pw_jn (nI i) (pz_mb mp x s).1 := pz_jn hb (by omega)
    have g0 := (pz_k22 h4 i hb).1
    have g1 := (pz_km0 h4 i hb).trans a1
    rw [e1]
    rw [← ei] at e2 hn ⊢
    by_cases q : mp.2 27 i = x
    · have hk : ¬ pz_kp mp x (mp.1 - s - 1) := fun z => z (by rw [← ei]; exact q)
      have h6 := ih (pw_lr w4 22 0 i) (by rw [← pz_mbF hs hk, ← ei]; exact csmr h4)
      (try simp (disch := omega) only [pz_ce h4, pz_k14 h4, pz_k60 h4, pz_k23 h4, pz_k30 h4, pz_k31 h4, pz_k34 h4, pz_k35 h4, pz_kl11 h4, pz_k11 h4, pz_k15 h4, pz_k40 h4, pz_k41 h4, pz_k42 h4, pz_k25 h4, pz_km0 h4, pz_km1 h4, pz_km2 h4, pz_kc0 h4, pz_kc1 h4, pz_kc2 h4, pz_kc3 h4, pz_kc4 h4, pz_kc6 h4, pz_kc7 h4, pz_kl12 h4, pz_k12 h4, pz_kd0 h4, pz_kd1 h4, forall_eq, true_and, and_true, true_imp_iff, forall_const, not_true_eq_false, not_false_eq_true, false_imp_iff, implies_true, eq_self, pz_i, pz_s1, pz_p1, pz_jnt, pz_b0, pz_b1, pz_em, pz_nnt, pz_nm1, pz_10, pz_20, pz_30, Classical.not_not, hn, hj, g0, g1, a1, q, e2])
      exact h6
    · have hk : pz_kp mp x (mp.1 - s - 1) := fun z => q (by rw [ei]; exact z)
      have h6 := ih w4 (pz_cmpc h4 (pz_mbT1 hs hk) (fun f m _ => pz_mbT hs hk f m))
      (try simp (disch := omega) only [pz_ce h4, pz_k14 h4, pz_k60 h4, pz_k23 h4, pz_k30 h4, pz_k31 h4, pz_k34 h4, pz_k35 h4, pz_kl11 h4, pz_k11 h4, pz_k15 h4, pz_k40 h4, pz_k41 h4, pz_k42 h4, pz_k25 h4, pz_km0 h4, pz_km1 h4, pz_km2 h4, pz_kc0 h4, pz_kc1 h4, pz_kc2 h4, pz_kc3 h4, pz_kc4 h4, pz_kc6 h4, pz_kc7 h4, pz_kl12 h4, pz_k12 h4, pz_kd0 h4, pz_kd1 h4, forall_eq, true_and, and_true, true_imp_iff, forall_const, not_true_eq_false, not_false_eq_true, false_imp_iff, implies_true, eq_self, pz_i, pz_s1, pz_p1, pz_jnt, pz_b0, pz_b1, pz_em, pz_nnt, pz_nm1, pz_10, pz_20, pz_30, Classical.not_not, hn, hj, g0, g1, a1, q, e2])
      exact h6
  · rw [lp_X_endMapsOf_12_s]
    have e0 : nI (mp.1 - mp.1) - 1 < 0 := by rw [Nat.sub_self]; decide
    (try simp (disch := omega) only [pz_ce h4, pz_k14 h4, pz_k60 h4, pz_k23 h4, pz_k30 h4, pz_k31 h4, pz_k34 h4, pz_k35 h4, pz_kl11 h4, pz_k11 h4, pz_k15 h4, pz_k40 h4, pz_k41 h4, pz_k42 h4, pz_k25 h4, pz_km0 h4, pz_km1 h4, pz_km2 h4, pz_kc0 h4, pz_kc1 h4, pz_kc2 h4, pz_kc3 h4, pz_kc4 h4, pz_kc6 h4, pz_kc7 h4, pz_kl12 h4, pz_k12 h4, pz_kd0 h4, pz_kd1 h4, forall_eq, true_and, and_true, true_imp_iff, forall_const, not_true_eq_false, not_false_eq_true, false_imp_iff, implies_true, eq_self, pz_i, pz_s1, pz_p1, pz_jnt, pz_b0, pz_b1, pz_em, pz_nnt, pz_nm1, pz_10, pz_20, pz_30, Classical.not_not, e0])
    have eg : pz_gl (pz_kp mp x) mp.1 mp.1 = pz_lv (pz_kp mp x) mp.1 := by
      have := pz_gle (B := pz_kp mp x) (n := mp.1) mp.1 (Nat.le_refl _)
      rw [Nat.sub_self] at this
      exact this
    refine k _ (pz_cmpc h4 ?_ (fun f m hm2 => ?_))
    · show _ = mp.1 - mp.1 + (pz_gl (pz_kp mp x) mp.1 mp.1).length
      rw [eg, Nat.sub_self, Nat.zero_add]; rfl
    · have hm3 : m < mp.1 - mp.1 + (pz_gl (pz_kp mp x) mp.1 mp.1).length := hm2
      rw [eg] at hm3
      show pz_mg' mp.2 (pz_lv (pz_kp mp x) mp.1) f m = if m < mp.1 - mp.1 then mp.2 f m else mp.2 f ((pz_gl (pz_kp mp x) mp.1 mp.1).getD (m - (mp.1 - mp.1)) 0)
      rw [eg, if_neg (by omega)]
      unfold pz_mg'
      rw [if_pos (by omega), Nat.sub_self, Nat.sub_zero]
end PZDM
