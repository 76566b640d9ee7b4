/-! what rights are worth together; areRights -/
section PIR
variable {sc : pz_S} {sq : pz_Q} {pa : pz_P} {ri mp : pz_N} {ca : pz_P} {dr : pz_N} {pe : pz_Q} {U V : Nat} {w0 w w1 w2 : pw_W} {K : pw_W → Int32 → Prop} {X : pw_W → Nat → Prop} {x y z v : Int32} {i k len n s p r m : Nat}
/-- the shares of the rights of GRAZE on a parcel, with lesser numbers than n -/
noncomputable def pj_S (ri : pz_N) (x : Int32) (n : Nat) : Nat := Nat.rec 0 (fun k a => a + @ite Nat (pz_on ri x k ∧ ri.2 20 k = 0) (Classical.propDecidable _) (pw_i (ri.2 23 k)) 0) n
theorem pj_ST (h : pz_on ri x n ∧ ri.2 20 n = 0) : pj_S ri x (n + 1) = pj_S ri x n + pw_i (ri.2 23 n) := by
  show pj_S ri x n + @ite Nat (pz_on ri x n ∧ ri.2 20 n = 0) (Classical.propDecidable _) (pw_i (ri.2 23 n)) 0 = _
  rw [if_pos h]
theorem pj_SF (h : ¬ (pz_on ri x n ∧ ri.2 20 n = 0)) : pj_S ri x (n + 1) = pj_S ri x n := by
  show pj_S ri x n + @ite Nat (pz_on ri x n ∧ ri.2 20 n = 0) (Classical.propDecidable _) (pw_i (ri.2 23 n)) 0 = _
  rw [if_neg h]
  rfl
theorem pj_sh (J : pj_d ri) (h : r < ri.1) : pw_i (ri.2 23 r) ≤ 99 ∧ ri.2 23 r = nI (pw_i (ri.2 23 r)) := by
  obtain ⟨h1, h2⟩ := (J r h).2.1
  refine ⟨?_, (pw_nIi h1).symm⟩
  rw [← pw_nIi h1, pz_l99, pz_le (pz_ib _) (by decide)] at h2
  exact h2
theorem pj_Sle (J : pj_d ri) : ∀ {n : Nat}, n ≤ ri.1 → pj_S ri x n ≤ 99 * n
  | 0, _ => Nat.le_refl _
  | n + 1, hn => by
    have ih := pj_Sle J (n := n) (by omega)
    have h1 := (pj_sh J (r := n) (by omega)).1
    by_cases e : pz_on ri x n ∧ ri.2 20 n = 0
    · rw [pj_ST e]; omega
    · rw [pj_SF e]; omega
theorem pj_lf (J : pj_d ri) : ∀ {n : Nat}, n ≤ ri.1 → pz_lf ri sq x n = nI (2 * pz_cn (fun s => sq.1 8 s = x) 100) - nI (pj_S ri x n)
  | 0, _ => by
    show 2 * pz_ct (fun s => sq.1 8 s = x) 100 = _ - nI 0
    unfold pz_ct
    rw [show (2 : Int32) = nI 2 from rfl, pz_mul, ← pz_l0]
    exact (Int32.sub_zero _).symm
  | n + 1, hn => by
    have ih := pj_lf J (n := n) (by omega)
    have h1 := (pj_sh J (r := n) (by omega)).2
    unfold pz_lf at ih ⊢
    rw [pz_sbS]
    by_cases e : pz_on ri x n ∧ ri.2 20 n = 0
    · rw [pz_it e, pj_ST e, ih, ← pz_add, h1]
      generalize nI (2 * pz_cn (fun s => sq.1 8 s = x) 100) = A
      generalize nI (pj_S ri x n) = B
      rw [← h1]
      grind
    · rw [pz_if' e, pj_SF e, ih]
theorem pj_wo (J : pj_d ri) (hr : ri.1 ≤ 80) (h : r < ri.1) (e21 : ri.2 21 r = x) (e20 : ri.2 20 r = 0) : pz_wo ri sq r = nI (min (pw_i (ri.2 23 r)) (2 * pz_cn (fun s => sq.1 8 s = x) 100 - pj_S ri x r)) := by
  have hl := pj_lf (sq := sq) (x := x) J (n := r) (by omega)
  have hS := pj_Sle (x := x) J (n := r) (by omega)
  obtain ⟨h1, h2⟩ := pj_sh J h
  have hc : pz_cn (fun s => sq.1 8 s = x) 100 ≤ 100 := pz_cn_le
  unfold pz_wo
  rw [e21, hl]
  generalize pz_cn (fun s => sq.1 8 s = x) 100 = c at hc ⊢
  generalize pj_S ri x r = S at hS ⊢
  by_cases q : S ≤ 2 * c
  · rw [pz_sub q, pz_it ⟨e20, pz_nn (by omega)⟩, h2]
    unfold pz_mn
    rw [pz_i (by omega)]
    by_cases q2 : 2 * c - S ≤ pw_i (ri.2 23 r)
    · rw [if_pos (by rw [pz_le (by omega) (by omega)]; exact q2), Nat.min_eq_right q2]
    · rw [if_neg (by rw [pz_le (by omega) (by omega)]; exact q2), Nat.min_eq_left (by omega)]
  · rw [pz_if' (fun z => absurd z.2 (Int32.not_le.mpr (pk_sneg (by omega) (by omega)))), show 2 * c - S = 0 by omega, Nat.min_zero]
    rfl
theorem pj_wo0 (e20 : ¬ ri.2 20 r = 0) : pz_wo ri sq r = 0 := by
  unfold pz_wo
  exact pz_if' fun z => e20 z.1
/-- some of the rights on a parcel are worth no more together than its room -/
theorem pj_su {P : Nat → Prop} (J : pj_d ri) (hr : ri.1 ≤ 80) (hP : ∀ k, P k → pz_on ri x k) : ∀ {n : Nat}, n ≤ ri.1 → ∃ a : Nat, pz_su P (pz_wo ri sq) n = nI a ∧ a ≤ min (pj_S ri x n) (2 * pz_cn (fun s => sq.1 8 s = x) 100)
  | 0, _ => ⟨0, rfl, Nat.zero_le _⟩
  | n + 1, hn => by
    obtain ⟨a, h1, h2⟩ := pj_su J hr hP (n := n) (by omega)
    rw [pz_suS]
    by_cases e : P n
    · rw [pz_it e, h1]
      have ho := hP n e
      by_cases e20 : ri.2 20 n = 0
      · rw [pj_wo J hr (by omega) ho.2 e20, pz_add, pj_ST ⟨ho, e20⟩]
        exact ⟨_, rfl, by omega⟩
      · rw [pj_wo0 e20, pj_SF (fun z => e20 z.2), pz_l0, pz_add]
        exact ⟨_, rfl, h2⟩
    · rw [pz_if' e, h1]
      refine ⟨a, rfl, ?_⟩
      by_cases e2 : pz_on ri x n ∧ ri.2 20 n = 0
      · rw [pj_ST e2]; omega
      · rw [pj_SF e2]; exact h2
theorem pj_area (J : pj_c sq pa) (hp : p < 40) : pz_cn (fun s => sq.1 8 s = nI p) 100 ≤ pz_cn (fun s => sq.1 8 s = pz_ro pa (nI p)) 100 := by
  by_cases q : pz_ct (fun t => sq.1 8 t = nI p) 100 = 0
  · rw [pz_c0e (by omega), ← pz_cn0] at q
    rw [q]; exact Nat.zero_le _
  · rw [pj_root J q hp]; exact Nat.le_refl _
theorem pj_rv0 (h : ri.2 25 r = 0) : pz_rav sq ri r 0 = ri.2 20 r ∧ pz_rav sq ri r 1 = ri.2 21 r ∧ pz_rav sq ri r 2 = ri.2 22 r ∧ pz_rav sq ri r 3 = pz_wo ri sq r ∧ pz_rav sq ri r 4 = ri.2 24 r := by
  unfold pz_rav
  rw [pz_it h, pz_it h, pz_it h, pz_it h, pz_it h]
  exact ⟨pz_it rfl, by rw [pz_if' (by decide), pz_it rfl], by rw [pz_if' (by decide), pz_if' (by decide), pz_it rfl], by rw [pz_if' (by decide), pz_if' (by decide), pz_if' (by decide), pz_it rfl], by rw [pz_if' (by decide), pz_if' (by decide), pz_if' (by decide), pz_if' (by decide)]⟩
theorem pj_rve (h : ¬ ri.2 25 r = 0) : pz_rav sq ri r y = -1 := by
  unfold pz_rav
  exact pz_if' h
theorem pj_kd (h : x = 0 ∨ x = 1 ∨ x = 2) : ¬ x < 0 ∧ ¬ (3 : Int32) ≤ x := by
  rcases h with rfl | rfl | rfl <;> exact ⟨by decide, by decide⟩
set_option maxHeartbeats 4000000 in
theorem wl_areRights (h : pz_c sc sq pa ri mp ca dr pe U V w0 w) (I : pz_I sc sq pa ri mp ca dr pe) (J : pj_J n sc sq pa ri ca pe) (hU : U ≤ 180000) (hV : V ≤ 3800000) (k : ∀ w1, pz_c sc sq pa ri mp ca dr pe (U + 1) (V + 40) w1 w1 → K w1 1) : wp_L_areRights w (nI ri.1) K X := by
  unfold wp_L_areRights
  refine ⟨pz_c.rm h I (by omega) (by omega), fun w59 e59 v61 e61 => ?_⟩
  rw [show pw_i 40 = 40 from pz_i (n := 40) (by omega)] at e59
  have h1 : pz_c sc sq pa ri mp ca dr pe (U + 1) (V + 40) w59 w59 := by rw [e59]; exact pz_c.nw h
  obtain ⟨b, eb⟩ : ∃ b, b = pw_nv w 200 := ⟨_, rfl⟩
  have hb : b < 2147483648 := by
    have := pz_knv h 200
    have := pz_kru h
    have := pz_hL I
    have := I.gr.1
    omega
  have hln : pw_ln w59 200 b = 40 := by rw [e59, eb]; exact pz_nwls (by decide)
  have hz : ∀ p, w59.1 200 b p = 0 := fun p => by rw [e59, eb]; exact pz_nws.trans pj_df
  rw [← eb] at e61
  subst e61
  have ib : pw_i (nI b) = b := pz_i hb
  have hp40 := I.gp.1.2
  have hr80 := I.gr.1
  have hUU : U + 1 ≤ 190000 := by omega
  have hVV : V + 40 ≤ 3900000 := by omega
  generalize U + 1 = U1 at h1 hUU k
  generalize V + 40 = V1 at h1 hVV k
  clear e59 eb h hU hV
  refine pz_up (F := fun k s w => lp_L_areRights_10 K X k (nI ri.1) (nI b) 1 (nI s) w) (I := fun s w => pz_c sc sq pa ri mp ca dr pe U1 V1 w w ∧ pw_ln w 200 b = 40 ∧ ∀ p, p < 40 → w.1 200 b p = pz_su (pz_on ri (nI p)) (pz_wo ri sq) s) ri.1 (fun s w4 k5 hs hI ih => ?_) (fun w4 hI => ?_) ⟨h1, hln, fun p _ => hz p⟩
  · obtain ⟨h4, l4, a4⟩ := hI
    rw [lp_L_areRights_10_s]
    have hjs : pw_jn (nI s) ri.1 := pz_jn hs (by omega)
    have is : pw_i (nI s) = s := pz_i (by omega)
    refine ⟨fun q => absurd q (by rw [pz_le (by omega) (by omega)]; omega), fun _ => ⟨fun q => absurd q (by decide), fun _ => ?_⟩⟩
    refine rd_rightAt h4 I hUU hVV ⟨hjs, ⟨by decide, by decide⟩⟩ (fun w5 g5 => ?_)
    rw [is]
    by_cases e25 : ri.2 25 s = 0
    · obtain ⟨v0, v1, v2, v3, v4⟩ := pj_rv0 (sq := sq) e25
      obtain ⟨d1, d2, d3⟩ := J.2.2.2.1 s hs
      obtain ⟨j1, j2, -⟩ := I.gr.2.1 s hs
      obtain ⟨p, hp, e21⟩ := pz_of j1
      rw [v0]
      refine ⟨fun q => absurd q (pj_kd d1).1, fun _ => ?_⟩
      refine rd_rightAt g5 I hUU hVV ⟨hjs, ⟨by decide, by decide⟩⟩ (fun w6 g6 => ?_)
      refine rd_rightAt g6 I hUU hVV ⟨hjs, ⟨by decide, by decide⟩⟩ (fun w7 g7 => ?_)
      rw [is, v1, v4, ib]
      have l7 : pw_ln w7 200 b = 40 := (congrFun g7.f2 b).trans l4
      have a7 : ∀ p, w7.1 200 b p = w4.1 200 b p := fun p => congrFun (congrFun g7.f1 b) p
      refine ⟨pz_nn hb, by rw [l7]; exact pz_jw j1 hp40, ?_⟩
      refine rd_rightAt g7 I hUU hVV ⟨hjs, ⟨by decide, by decide⟩⟩ (fun w8 g8 => ?_)
      have l8 : pw_ln w8 200 b = 40 := (congrFun g8.f2 b).trans l4
      have a8 : ∀ p, w8.1 200 b p = w4.1 200 b p := fun p => congrFun (congrFun g8.f1 b) p
      rw [is, v3]
      refine ⟨by rw [l8]; exact pz_jw j1 hp40, fun w35 e35 => ⟨fun q => absurd q (pj_kd d1).2, fun _ => ?_⟩⟩
      have g35 : pz_c sc sq pa ri mp ca dr pe U1 V1 w35 w35 := by rw [e35]; exact g8.st
      have l35 : pw_ln w35 200 b = 40 := by rw [e35]; exact l8
      have ip : pw_i (nI p) = p := pz_i (by omega)
      have a35 : ∀ m, m < 40 → w35.1 200 b m = pz_su (pz_on ri (nI m)) (pz_wo ri sq) (s + 1) := fun m hm => by
        rw [e35, e21, ip, a7]
        show (if 200 = 200 ∧ b = b ∧ m = p then w4.1 200 b p + pz_wo ri sq s else w8.1 200 b m) = _
        rw [a8, pz_suS]
        by_cases e : m = p
        · rw [if_pos ⟨rfl, rfl, e⟩, a4 p (by omega), e, pz_it ⟨e25, e21⟩]
        · rw [if_neg (fun z => e z.2.2), a4 m hm, pz_if' (fun z => e (by
            have := z.2
            rw [e21, pz_eq (by omega) (by omega)] at this
            exact this.symm))]
      have hw : ∃ c : Nat, c < 1000 ∧ pz_wo ri sq s = nI c := by
        by_cases e20 : ri.2 20 s = 0
        · have h99 := (pj_sh J.2.2.2.1 hs).1
          exact ⟨_, by omega, pj_wo J.2.2.2.1 hr80 hs rfl e20⟩
        · exact ⟨0, by omega, pj_wo0 e20⟩
      obtain ⟨cw, hcw, ecw⟩ := hw
      have fin : ∀ w9, pz_c sc sq pa ri mp ca dr pe U1 V1 w35 w9 → lp_L_areRights_10 K X k5 (nI ri.1) (nI b) 1 (nI s + 1) w9 := fun w9 g9 => by
        rw [pz_s1]
        exact ih w9 ⟨g9.re, (congrFun g9.f2 b).trans l35, fun m hm => (congrFun (congrFun g9.f1 b) m).trans (a35 m hm)⟩
      have fin97 : ∀ w9, pz_c sc sq pa ri mp ca dr pe U1 V1 w35 w9 → jp_L_areRights_97 K X (lp_L_areRights_10 K X k5) (nI ri.1) (nI b) (nI s) (ri.2 20 s) (ri.2 21 s) (ri.2 24 s) w9 := fun w9 g9 => by
        unfold jp_L_areRights_97
        have l9 : pw_ln w9 200 b = 40 := (congrFun g9.f2 b).trans l35
        have a9 : ∀ m, m < 40 → w9.1 200 b m = pz_su (pz_on ri (nI m)) (pz_wo ri sq) (s + 1) := fun m hm => (congrFun (congrFun g9.f1 b) m).trans (a35 m hm)
        rw [ib, e21]
        refine ⟨pz_nn hb, by rw [l9, ← e21]; exact pz_jw j1 hp40, ?_⟩
        refine rd_area g9 I hUU hVV (by rw [← e21]; exact j1) (fun w3 g3 => ?_)
        rw [ip, a9 p (by omega)]
        obtain ⟨u, eu, hu⟩ := pj_su (sq := sq) (x := nI p) (P := pz_on ri (nI p)) J.2.2.2.1 hr80 (fun _ z => z) (n := s + 1) hs
        have hA := pj_area (p := p) J.2.2.1 (by omega)
        have hc1 : pz_cn (fun s => sq.1 8 s = pz_ro pa (nI p)) 100 ≤ 100 := pz_cn_le
        rw [eu]
        refine ⟨fun q => absurd q ?_, fun _ => ⟨fun q => absurd q ?_, fun _ => ⟨fun _ => fin w3 g3, fun q => ?_⟩⟩⟩
        · unfold pz_ct
          rw [show (2 : Int32) = nI 2 from rfl, pz_mul, pz_lt (by omega) (by omega)]
          omega
        · rcases d3 with d3 | ⟨q1, d3, d4, -, -⟩
          · rw [d3]
            exact Int32.not_le.mpr (Int32.lt_of_lt_of_le (by decide) (pz_nn (a := s) (by omega)))
          · rw [d4, pz_le (by omega) (by omega)]; omega
        · rcases d3 with d3 | ⟨q1, d3, d4, d5, d6⟩
          · rw [d3] at q; exact absurd (by decide) q
          · have hj1 : pw_jn (nI q1) ri.1 := pz_jn (by omega) (by omega)
            have iq1 : pw_i (nI q1) = q1 := pz_i (by omega)
            rw [d4]
            refine rd_rightAt g3 I hUU hVV ⟨hj1, ⟨by decide, by decide⟩⟩ (fun w10 g10 => ?_)
            rw [iq1]
            by_cases f25 : ri.2 25 q1 = 0
            · obtain ⟨u0, -, u2, -, -⟩ := pj_rv0 (sq := sq) f25
              rw [u0]
              refine ⟨fun _ => fin w10 g10, fun _ => ?_⟩
              refine rd_rightAt g10 I hUU hVV ⟨hj1, ⟨by decide, by decide⟩⟩ (fun w11 g11 => ?_)
              rw [iq1, u0]
              refine ⟨fun z => absurd d5 z, fun _ => ?_⟩
              refine rd_rightAt g11 I hUU hVV ⟨hj1, ⟨by decide, by decide⟩⟩ (fun w12 g12 => ?_)
              refine rd_rightAt g12 I hUU hVV ⟨hjs, ⟨by decide, by decide⟩⟩ (fun w13 g13 => ?_)
              rw [iq1, is, u2, v2]
              exact ⟨fun z => absurd d6 z, fun _ => fin w13 g13⟩
            · rw [pj_rve f25]
              exact ⟨fun _ => fin w10 g10, fun z => absurd (by decide) z⟩
      refine rd_rightAt g35 I hUU hVV ⟨hjs, ⟨by decide, by decide⟩⟩ (fun w9 g9 => ?_)
      rw [is, v3, ecw]
      refine ⟨fun q => absurd q (Int32.not_lt.mpr (pz_nn (by omega))), fun _ => ⟨fun _ => fin97 w9 g9, fun q => ?_⟩⟩
      refine rd_rightAt g9 I hUU hVV ⟨hjs, ⟨by decide, by decide⟩⟩ (fun w10 g10 => ?_)
      rw [is, v3, pj_wo0 q]
      exact ⟨fun z => absurd rfl z, fun _ => fin97 w10 g10⟩
    · rw [pj_rve e25]
      refine ⟨fun _ => ?_, fun q => absurd (by decide) q⟩
      rw [pz_s1]
      refine ih w5 ⟨g5.re, (congrFun g5.f2 b).trans l4, fun m hm => ?_⟩
      rw [pz_suS, pz_if' (fun z => e25 z.1)]
      exact (congrFun (congrFun g5.f1 b) m).trans (a4 m hm)
  · obtain ⟨h4, l4, a4⟩ := hI
    rw [lp_L_areRights_10_s]
    exact ⟨fun _ => ⟨Or.inr rfl, k w4 h4⟩, fun q => absurd (Int32.le_refl _) q⟩
/-! areCases -/
theorem pj_gv (hc : ca.1 ≤ 16) : ∀ {n : Nat}, n ≤ ca.1 → pz_cn (fun s => pz_ex (fun d => sq.1 12 s = nI d) (n + 1)) 100 = pz_cn (fun s => pz_ex (fun d => sq.1 12 s = nI d) n) 100 + pz_cn (fun s => sq.1 12 s = nI n) 100 := by
  intro n hn
  have e : pz_cn (fun s => pz_ex (fun d => sq.1 12 s = nI d) (n + 1)) 100 = pz_cn (fun s => pz_ex (fun d => sq.1 12 s = nI d) n ∨ sq.1 12 s = nI n) 100 := pz_cn_congr fun r _ => by rw [pz_exS]
  rw [e]
  exact pj_cn_or fun r _ z1 z2 => by
    obtain ⟨d, hd, z⟩ := z1
    rw [z, pz_eq (by omega) (by omega)] at z2
    omega
theorem pj_cv : pz_cav sq ca n 0 = ca.2.1 32 n ∧ pz_cav sq ca n 1 = ca.2.1 33 n ∧ pz_cav sq ca n 3 = pz_ct (fun s => sq.1 12 s = nI n) 100 ∧ pz_cav sq ca n 2 = pz_ct (fun s => ¬ ca.2.2 n s = 0) 100 := by
  unfold pz_cav
  exact ⟨pz_it rfl, by rw [pz_if' (by decide), pz_it rfl], by rw [pz_if' (by decide), pz_if' (by decide), pz_it rfl], by rw [pz_if' (by decide), pz_if' (by decide), pz_if' (by decide)]⟩
theorem pj_cnP {P Q : Nat → Prop} : ∀ {n : Nat}, (∀ r, r < n → P r → Q r) → pz_cn P n ≤ pz_cn Q n
  | 0, _ => Nat.le_refl _
  | n + 1, h => by
    have ih := pj_cnP (n := n) (fun r hr => h r (by omega))
    by_cases e : P n
    · rw [pz_cnT e, pz_cnT (h n (by omega) e)]; omega
    · rw [pz_cnF e]
      exact Nat.le_trans ih (pz_cn_mono (Nat.le_succ _))
set_option maxHeartbeats 4000000 in
theorem wl_areCases (h : pz_c sc sq pa ri mp ca dr pe U V w w) (I : pz_I sc sq pa ri mp ca dr pe) (J : pj_J n sc sq pa ri ca pe) (hUU : U ≤ 180000) (hVV : V ≤ 3800000) (k : ∀ w1, pz_c sc sq pa ri mp ca dr pe U V w1 w1 → K w1 1) : wp_L_areCases w (nI ca.1) K X := by
  unfold wp_L_areCases
  have hU : U ≤ 190000 := by omega
  have hV : V ≤ 3900000 := by omega
  have hc16 := I.gc.1
  have e0 : pz_cn (fun t => pz_ex (fun d => sq.1 12 t = nI d) 0) 100 = 0 := by
    rw [pz_cn0]
    rintro ⟨t, ht, z⟩
    rw [pz_ex0] at z
    exact z
  suffices z : ∃ k, lp_L_areCases_7 K X k (nI ca.1) (nI (pz_cn (fun t => pz_ex (fun d => sq.1 12 t = nI d) 0) 100)) 1 (nI 0) w by
    rw [e0] at z
    exact z
  refine pz_up (F := fun k s w => lp_L_areCases_7 K X k (nI ca.1) (nI (pz_cn (fun t => pz_ex (fun d => sq.1 12 t = nI d) s) 100)) 1 (nI s) w) (I := fun s w => pz_c sc sq pa ri mp ca dr pe U V w w) ca.1 (fun s w4 k5 hs h4 ih => ?_) (fun w4 h4 => ?_) h
  · rw [lp_L_areCases_7_s]
    have hjs : pw_jn (nI s) ca.1 := pz_jn hs (by omega)
    have is : pw_i (nI s) = s := pz_i (by omega)
    obtain ⟨v0, v1, v3, v2⟩ := pj_cv (sq := sq) (ca := ca) (n := s)
    obtain ⟨d1, d2, d3, d4⟩ := J.2.2.2.2.1 s hs
    have c3 : pz_cn (fun t => sq.1 12 t = nI s) 100 ≤ 100 := pz_cn_le
    have c2 : pz_cn (fun t => ¬ ca.2.2 s t = 0) 100 ≤ 100 := pz_cn_le
    have c32 : pz_cn (fun t => sq.1 12 t = nI s) 100 ≤ pz_cn (fun t => ¬ ca.2.2 s t = 0) 100 := pj_cnP d3
    refine ⟨fun q => absurd q (by rw [pz_le (by omega) (by omega)]; omega), fun _ => ⟨fun q => absurd q (by decide), fun _ => ?_⟩⟩
    refine rd_caseAt h4 I hU hV ⟨hjs, ⟨by decide, by decide⟩⟩ (fun w5 g5 => ?_)
    refine rd_caseAt g5 I hU hV ⟨hjs, ⟨by decide, by decide⟩⟩ (fun w6 g6 => ?_)
    refine rd_caseAt g6 I hU hV ⟨hjs, ⟨by decide, by decide⟩⟩ (fun w7 g7 => ?_)
    rw [is, v0, v1, v3]
    have hk := pj_kd d1
    have hk3 := pj_kd (I.gc.2.2.1 s)
    refine fun v11 e11 => ⟨fun q => absurd q hk.1, fun _ => ⟨fun q => absurd q hk.2, fun _ => ⟨fun q => absurd q hk3.1, fun _ => ⟨fun q => absurd q hk3.2, fun _ => ?_⟩⟩⟩⟩
    have ev : v11 = nI (pz_cn (fun t => pz_ex (fun d => sq.1 12 t = nI d) (s + 1)) 100) := by
      rw [e11, pj_gv hc16 (by omega)]
      unfold pz_ct
      rw [pz_add]
    have fin : ∀ w9, pz_c sc sq pa ri mp ca dr pe U V w4 w9 → lp_L_areCases_7 K X k5 (nI ca.1) v11 1 (nI s + 1) w9 := fun w9 g9 => by
      rw [ev, pz_s1]
      exact ih w9 g9.re
    refine rd_caseAt g7 I hU hV ⟨hjs, ⟨by decide, by decide⟩⟩ (fun w8 g8 => ?_)
    rw [is, v2]
    refine ⟨fun q => absurd q (by rw [pz_c0 (by omega)]; exact fun z => z d2), fun _ => ?_⟩
    refine rd_caseAt g8 I hU hV ⟨hjs, ⟨by decide, by decide⟩⟩ (fun w9 g9 => ?_)
    rw [is, v3]
    refine ⟨fun q => absurd q (Int32.not_lt.mpr (pz_nn (by omega))), fun _ => ?_⟩
    refine rd_caseAt g9 I hU hV ⟨hjs, ⟨by decide, by decide⟩⟩ (fun w10 g10 => ?_)
    refine rd_caseAt g10 I hU hV ⟨hjs, ⟨by decide, by decide⟩⟩ (fun w11 g11 => ?_)
    rw [is, v2, v3]
    refine ⟨fun q => absurd q (by unfold pz_ct; rw [pz_lt (by omega) (by omega)]; omega), fun _ => ⟨fun _ => fin w11 g11, fun q => ?_⟩⟩
    refine rd_caseAt g11 I hU hV ⟨hjs, ⟨by decide, by decide⟩⟩ (fun w12 g12 => ?_)
    rw [is, v3]
    refine ⟨fun z => absurd (by rw [pz_c0e (by omega)]; rintro ⟨t, ht, e⟩; exact d4 q t ht e) z, fun _ => fin w12 g12⟩
  · rw [lp_L_areCases_7_s]
    have hc : pz_cn (fun t => pz_ex (fun d => sq.1 12 t = nI d) ca.1) 100 ≤ 100 := pz_cn_le
    refine ⟨fun _ => ?_, fun q => absurd (Int32.le_refl _) q⟩
    unfold jp_L_areCases_132
    exact ⟨fun q => absurd q (by decide), fun _ => ⟨fun q => absurd q (by rw [pz_l100, pz_lt (by omega) (by omega)]; omega), fun _ => k w4 h4⟩⟩
end PIR
