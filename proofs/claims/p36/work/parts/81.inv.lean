/-! what holds besides between calls: chains, water, roots, rights, cases, evidence, wind, payments, sheep -/
section PJI
variable {sc : pz_S} {sq : pz_Q} {pa : pz_P} {ri mp : pz_N} {ca : pz_P} {dr : pz_N} {pe : pz_Q} {x y z t v : Int32} {n m i k s p q : Nat} {P : Nat → Prop} {f g o : Nat → Int32}
def pj_a (sq : pz_Q) : Prop := ∀ s, s < 100 → sq.2 s (pw_i (sq.1 14 s) - 1) = sq.1 8 s
def pj_b (sc : pz_S) (sq : pz_Q) : Prop := pz_su (fun _ => True) (sq.1 7) 100 = 4000 + sc 3 - sc 4 - sc 5
def pj_c (sq : pz_Q) (pa : pz_P) : Prop := ∀ s, s < 100 → pz_ro pa (sq.1 8 s) = sq.1 8 s
def pj_d (ri : pz_N) : Prop := ∀ r, r < ri.1 → (ri.2 20 r = 0 ∨ ri.2 20 r = 1 ∨ ri.2 20 r = 2) ∧ (0 ≤ ri.2 23 r ∧ ri.2 23 r ≤ 99) ∧ (ri.2 24 r = -1 ∨ ∃ q, q < r ∧ ri.2 24 r = nI q ∧ ri.2 20 q = ri.2 20 r ∧ ri.2 22 q = ri.2 22 r)
def pj_e (sq : pz_Q) (ca : pz_P) : Prop := ∀ c, c < ca.1 → (ca.2.1 32 c = 0 ∨ ca.2.1 32 c = 1 ∨ ca.2.1 32 c = 2) ∧ pz_ex (fun s => ¬ ca.2.2 c s = 0) 100 ∧ (∀ s, s < 100 → sq.1 12 s = nI c → ¬ ca.2.2 c s = 0) ∧ (ca.2.1 32 c = 2 → ∀ s, s < 100 → ¬ sq.1 12 s = nI c)
def pj_n (n : Nat) (ca : pz_P) : Prop := ∀ c, ∃ a b : Nat, a ≤ 9 * n ∧ b ≤ 9 * n ∧ ca.2.1 35 c = nI a ∧ ca.2.1 36 c = nI b
def pj_f (sc : pz_S) : Prop := 0 ≤ sc 2 ∧ sc 2 ≤ 9
def pj_g (sc : pz_S) (pe : pz_Q) : Prop := ∀ p, p < 12 → ∃ a : Nat, pe.1 45 p = nI a ∧ a ≤ 1100 * pw_i (sc 1)
def pj_h (pa : pz_P) : Prop := ∀ j q, j < pa.1 → q < 12 → ∃ a : Nat, pa.2.2 j q = nI a ∧ a ≤ 400 * pz_cn (fun k => pa.2.1 46 k = nI j) pa.1
def pj_J (n : Nat) (sc : pz_S) (sq : pz_Q) (pa : pz_P) (ri : pz_N) (ca : pz_P) (pe : pz_Q) : Prop := pj_a sq ∧ pj_b sc sq ∧ pj_c sq pa ∧ pj_d ri ∧ pj_e sq ca ∧ pj_n n ca ∧ pj_f sc ∧ pj_g sc pe ∧ pj_h pa
theorem pj_n.up (h : pj_n n ca) (hm : n ≤ m) : pj_n m ca := fun c => by
  obtain ⟨a, b, h1, h2, h3⟩ := h c
  exact ⟨a, b, by omega, by omega, h3⟩
theorem pj_J.up (h : pj_J n sc sq pa ri ca pe) (hm : n ≤ m) : pj_J m sc sq pa ri ca pe := ⟨h.1, h.2.1, h.2.2.1, h.2.2.2.1, h.2.2.2.2.1, h.2.2.2.2.2.1.up hm, h.2.2.2.2.2.2⟩
/-! the easy calls -/
theorem pj_wind (J : pj_J n sc sq pa ri ca pe) (c1 : pz_in x 0 9) : pj_J n (pz_u1 sc 2 x) sq pa ri ca pe :=
  ⟨J.1, J.2.1, J.2.2.1, J.2.2.2.1, J.2.2.2.2.1, J.2.2.2.2.2.1, ⟨Int32.not_lt.mp c1.1, Int32.not_lt.mp c1.2⟩, J.2.2.2.2.2.2.2.1, J.2.2.2.2.2.2.2.2⟩
theorem pj_cut (J : pj_J n sc sq pa ri ca pe) : pj_J n sc (pz_u sq.1 6 i v, sq.2) pa ri ca pe := J
theorem pj_burn (J : pj_J n sc sq pa ri ca pe) : pj_J n sc (pz_u (pz_u sq.1 9 i x) 6 i v, sq.2) pa ri ca pe := J
theorem pj_use (J : pj_J n sc sq pa ri ca pe) : pj_J n sc (pz_us' sc sq x y z m) pa ri ca pe := J
theorem pj_name {A B : pz_F} (J : pj_J n sc sq pa ri ca pe) (h : ∀ p, A 45 p = pe.1 45 p) : pj_J n sc sq pa ri ca (A, B) :=
  ⟨J.1, J.2.1, J.2.2.1, J.2.2.2.1, J.2.2.2.2.1, J.2.2.2.2.2.1, J.2.2.2.2.2.2.1, fun p hp => by
    obtain ⟨a, h1, h2⟩ := J.2.2.2.2.2.2.2.1 p hp
    exact ⟨a, (h p).trans h1, h2⟩, J.2.2.2.2.2.2.2.2⟩
theorem pj_evidence {c : Nat} (J : pj_J n sc sq pa ri ca pe) (c2 : pz_in z 1 9) : pj_J (n + 1) sc sq pa ri (pz_ev ca c y z) pe := by
  refine ⟨J.1, J.2.1, J.2.2.1, J.2.2.2.1, J.2.2.2.2.1, fun d => ?_, J.2.2.2.2.2.2.1, J.2.2.2.2.2.2.2.1, J.2.2.2.2.2.2.2.2⟩
  obtain ⟨a, b, h1, h2, h3, h4⟩ := J.2.2.2.2.2.1 d
  have z1 : (1 : Int32) ≤ z := Int32.not_lt.mp c2.1
  have z2 : z ≤ 9 := Int32.not_lt.mp c2.2
  obtain ⟨u, hu, rfl⟩ : ∃ u, u ≤ 9 ∧ z = nI u := by
    have z0 : (0 : Int32) ≤ z := Int32.le_trans (by decide) z1
    refine ⟨pw_i z, ?_, (pw_nIi z0).symm⟩
    rw [← pw_nIi z0, pz_l9, pz_le (pz_ib z) (by decide)] at z2
    exact z2
  unfold pz_ev
  dsimp only
  by_cases q : d = c
  · subst q
    rw [pz_uk (by decide), pz_us, pz_us, h3, h4]
    by_cases e : y = 0
    · rw [pz_it e, pz_it e]
      exact ⟨a, b + u, by omega, by omega, by rw [show nI a + 0 = nI (a + 0) from pz_add a 0]; rfl, by rw [pz_add]⟩
    · rw [pz_if' e, pz_if' e]
      exact ⟨a + u, b, by omega, by omega, by rw [pz_add], by rw [show nI b + 0 = nI (b + 0) from pz_add b 0]; rfl⟩
  · rw [pz_uk (by decide), pz_un q, pz_un q, pz_uk (by decide)]
    exact ⟨a, b, by omega, by omega, h3, h4⟩
theorem pj_appeal {c : Nat} (J : pj_J n sc sq pa ri ca pe) : pj_J n sc sq pa ri (ca.1, pz_u (pz_u ca.2.1 33 c v) 32 c 0, ca.2.2) pe := by
  refine ⟨J.1, J.2.1, J.2.2.1, J.2.2.2.1, fun d hd => ?_, J.2.2.2.2.2.1, J.2.2.2.2.2.2.1, J.2.2.2.2.2.2.2.1, J.2.2.2.2.2.2.2.2⟩
  obtain ⟨h1, h2, h3, h4⟩ := J.2.2.2.2.1 d hd
  dsimp only
  by_cases q : d = c
  · subst q
    rw [pz_us]
    exact ⟨Or.inl rfl, h2, h3, fun e => absurd e (by decide)⟩
  · rw [pz_un q, pz_uk (by decide)]
    exact ⟨h1, h2, h3, h4⟩
theorem pj_register (J : pj_J n sc sq pa ri ca pe) (c1 : pz_in x 0 2) (c2 : ¬ x = 0 ∨ pz_in t 1 99) : pj_J n sc sq pa (pz_mr' ri x y z (pz_ite (x = 0) t 0) (-1)) ca pe := by
  refine ⟨J.1, J.2.1, J.2.2.1, fun r hr => ?_, J.2.2.2.2.1, J.2.2.2.2.2.1, J.2.2.2.2.2.2.1, J.2.2.2.2.2.2.2.1, J.2.2.2.2.2.2.2.2⟩
  have hr : r < ri.1 + 1 := hr
  by_cases q : r = ri.1
  · subst q
    have e20 : (pz_mr' ri x y z (pz_ite (x = 0) t 0) (-1)).2 20 ri.1 = x := by
      unfold pz_mr'; dsimp only
      rw [pz_uk (by decide), pz_uk (by decide), pz_uk (by decide), pz_uk (by decide), pz_uk (by decide), pz_us]
    have e23 : (pz_mr' ri x y z (pz_ite (x = 0) t 0) (-1)).2 23 ri.1 = pz_ite (x = 0) t 0 := by
      unfold pz_mr'; dsimp only
      rw [pz_uk (by decide), pz_uk (by decide), pz_us]
    have e24 : (pz_mr' ri x y z (pz_ite (x = 0) t 0) (-1)).2 24 ri.1 = -1 := by
      unfold pz_mr'; dsimp only
      rw [pz_uk (by decide), pz_us]
    rw [e20, e23, e24]
    refine ⟨?_, ?_, Or.inl rfl⟩
    · have z1 : (0 : Int32) ≤ x := Int32.not_lt.mp c1.1
      have z2 : x ≤ 2 := Int32.not_lt.mp c1.2
      rw [← pw_nIi z1] at z2 ⊢
      rw [show (2 : Int32) = nI 2 from rfl, pz_le (pz_ib x) (by decide)] at z2
      have : pw_i x = 0 ∨ pw_i x = 1 ∨ pw_i x = 2 := by omega
      rcases this with e | e | e <;> rw [e]
      · exact Or.inl rfl
      · exact Or.inr (Or.inl rfl)
      · exact Or.inr (Or.inr rfl)
    · by_cases e : x = 0
      · rw [pz_it e]
        rcases c2 with c2 | c2
        · exact absurd e c2
        · exact ⟨Int32.le_trans (by decide) (Int32.not_lt.mp c2.1), Int32.not_lt.mp c2.2⟩
      · rw [pz_if' e]; exact ⟨by decide, by decide⟩
  · have hr' : r < ri.1 := by omega
    obtain ⟨h1, h2, h3⟩ := J.2.2.2.1 r hr'
    rw [pz_mro hr', pz_mro hr', pz_mro hr', pz_mro hr']
    refine ⟨h1, h2, ?_⟩
    rcases h3 with h3 | ⟨q1, h3, h4, h5, h6⟩
    · exact Or.inl h3
    · exact Or.inr ⟨q1, h3, h4, by rw [pz_mro (by omega)]; exact h5, by rw [pz_mro (by omega)]; exact h6⟩
theorem pj_file {c : Nat} {D : Nat → Prop} (J : pj_J n sc sq pa ri ca pe) (I : pz_I sc sq pa ri mp ca dr pe) (hD : pz_ex D 100) : pj_J n sc sq pa ri (ca.1 + 1, pz_u ca.2.1 31 ca.1 x, pz_fi ca.2.2 D ca.1 100) pe := by
  refine ⟨J.1, J.2.1, J.2.2.1, J.2.2.2.1, fun d hd => ?_, J.2.2.2.2.2.1, J.2.2.2.2.2.2.1, J.2.2.2.2.2.2.2.1, J.2.2.2.2.2.2.2.2⟩
  have hd : d < ca.1 + 1 := hd
  have g12 : ∀ s, s < 100 → ¬ sq.1 12 s = nI ca.1 := fun s hs e => by
    have hc := I.gc.1
    rcases I.gl.2.1 s hs with h | h
    · rw [e] at h; exact absurd h (by rw [pz_nm1 (by omega)]; exact id)
    · rw [e] at h
      have := h.2
      rw [pz_i (by omega)] at this
      omega
  dsimp only
  rw [pz_uk (by decide)]
  by_cases q : d = ca.1
  · subst q
    have h0 := (I.gc.2.2.2 ca.1 (Nat.le_refl _)).1
    rw [h0]
    refine ⟨Or.inl rfl, ?_, fun s hs e => absurd e (g12 s hs), fun e => absurd e (by decide)⟩
    obtain ⟨r, hr, hDr⟩ := hD
    refine ⟨r, hr, ?_⟩
    show ¬ (if ca.1 = ca.1 ∧ r < 100 then pz_b (D r) else _) = 0
    rw [if_pos ⟨rfl, hr⟩, pz_bt hDr]; decide
  · obtain ⟨h1, h2, h3, h4⟩ := J.2.2.2.2.1 d (by omega)
    have ef : ∀ s, pz_fi ca.2.2 D ca.1 100 d s = ca.2.2 d s := fun s => if_neg (fun z => q z.1)
    refine ⟨h1, ?_, fun s hs e => by rw [ef]; exact h3 s hs e, h4⟩
    obtain ⟨r, hr, h⟩ := h2
    exact ⟨r, hr, by show ¬ pz_fi ca.2.2 D ca.1 100 d r = 0; rw [ef]; exact h⟩
theorem pj_graze {j r : Nat} (J : pj_J n sc sq pa ri ca pe) (hv : pz_in v 0 400) (hj : pa.2.1 46 j = nI j) (hjp : j < pa.1) : pj_J n sc sq (pa.1, pa.2.1, pz_u pa.2.2 j r v) ri ca pe := by
  refine ⟨J.1, J.2.1, J.2.2.1, J.2.2.2.1, J.2.2.2.2.1, J.2.2.2.2.2.1, J.2.2.2.2.2.2.1, J.2.2.2.2.2.2.2.1, fun k q hk hq => ?_⟩
  dsimp only at hk ⊢
  by_cases e : k = j ∧ q = r
  · obtain ⟨rfl, rfl⟩ := e
    rw [pz_us]
    have z1 : (0 : Int32) ≤ v := Int32.not_lt.mp hv.1
    have z2 : v ≤ 400 := Int32.not_lt.mp hv.2
    refine ⟨pw_i v, (pw_nIi z1).symm, ?_⟩
    rw [← pw_nIi z1, pz_l400, pz_le (pz_ib v) (by decide)] at z2
    have h1 : pz_cn (fun m => pa.2.1 46 m = nI k) (k + 1) ≤ pz_cn (fun m => pa.2.1 46 m = nI k) pa.1 := pz_cn_mono (by omega)
    rw [pz_cnT hj] at h1
    omega
  · rw [show pz_u pa.2.2 j r v k q = pa.2.2 k q from if_neg e]
    exact J.2.2.2.2.2.2.2.2 k q hk hq
theorem pj_rn {F : Nat → Int32} : ∀ {n : Nat}, pz_su (fun _ => True) (fun s => pz_mn (F s + x) 100) n + pz_su (fun _ => True) (fun s => (F s + x) - pz_mn (F s + x) 100) n = pz_su (fun _ => True) F n + nI n * x
  | 0 => by
    show (0 : Int32) + 0 = 0 + nI 0 * x
    rw [← pz_l0]; grind
  | n + 1 => by
    have ih := pj_rn (F := F) (n := n)
    rw [pz_suS, pz_suS, pz_suS, pz_iT, pz_iT, pz_iT, ← pz_s1]
    grind
theorem pj_rain (J : pj_J n sc sq pa ri ca pe) : pj_J n (pz_u1 (pz_u1 sc 3 (sc 3 + 100 * x)) 4 (sc 4 + pz_ro' sq x 100)) (pz_wr' sq x 100) pa ri ca pe := by
  refine ⟨J.1, ?_, J.2.2.1, J.2.2.2.1, J.2.2.2.2.1, J.2.2.2.2.2.1, J.2.2.2.2.2.2.1, J.2.2.2.2.2.2.2.1, J.2.2.2.2.2.2.2.2⟩
  have h := J.2.1
  have k := pj_rn (x := x) (F := sq.1 7) (n := 100)
  unfold pj_b at h ⊢
  have e7 : pz_su (fun _ => True) ((pz_wr' sq x 100).1 7) 100 = pz_su (fun _ => True) (fun s => pz_mn (sq.1 7 s + x) 100) 100 := pz_su_c fun s hs => if_pos hs
  have e3 : (pz_u1 (pz_u1 sc 3 (sc 3 + 100 * x)) 4 (sc 4 + pz_ro' sq x 100)) 3 = sc 3 + 100 * x := rfl
  have e4 : (pz_u1 (pz_u1 sc 3 (sc 3 + 100 * x)) 4 (sc 4 + pz_ro' sq x 100)) 4 = sc 4 + pz_ro' sq x 100 := rfl
  have e5 : (pz_u1 (pz_u1 sc 3 (sc 3 + 100 * x)) 4 (sc 4 + pz_ro' sq x 100)) 5 = sc 5 := rfl
  rw [e7, e3, e4, e5]
  unfold pz_ro'
  rw [← pz_l100] at k
  generalize pz_su (fun _ => True) (fun s => pz_mn (sq.1 7 s + x) 100) 100 = A at k ⊢
  generalize pz_su (fun _ => True) (fun s => (sq.1 7 s + x) - pz_mn (sq.1 7 s + x) 100) 100 = B at k ⊢
  rw [h] at k
  grind
end PJI
