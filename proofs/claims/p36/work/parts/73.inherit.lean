/-! what falls to the heirs -/
section PZDN
variable {sc : pz_S} {sq : pz_Q} {pa : pz_P} {ri : pz_N} {mp : pz_N} {ca : pz_P} {dr : pz_N} {pe : pz_Q} {U V : Nat} {w0 w w1 w2 : pw_W} {K : pw_W → Int32 → Prop} {X : pw_W → Nat → Prop} {x y z v : Int32} {i s r j n p q k k' m c d xi f : Nat} {B P : Nat → Prop} {H : Nat → Int32} {L : List Nat}
def pz_own (pa : pz_P) (x : Int32) (j : Nat) : Prop := pa.2.1 16 j = x ∧ pa.2.1 17 j = -1
noncomputable def pz_pck (L : List Nat) (H : Nat → Int32) (c : Nat) : Int32 := if L.length = 0 then -1 else H (L.getD (c % L.length) 0)
noncomputable def pz_hd (pa : pz_P) (x : Int32) (L : List Nat) (H : Nat → Int32) (n : Nat) : pz_P := (pa.1, fun f j => pz_ite (f = 16 ∧ j < n ∧ pz_own pa x j) (pz_pck L H (pz_cn (pz_own pa x) j)) (pa.2.1 f j), pa.2.2)
noncomputable def pz_ha (L : List Nat) (P : Nat → Prop) (n : Nat) : Int32 := if L.length = 0 then 0 else pz_ct P n
theorem pz_hd1 : (pz_hd pa x L H n).1 = pa.1 := rfl
theorem pz_hdn (h : n ≤ j) : (pz_hd pa x L H n).2.1 f j = pa.2.1 f j := pz_if' fun z => by have := z.2.1; omega
theorem pz_hdn' : (pz_hd pa x L H n).2.1 f n = pa.2.1 f n := pz_hdn (Nat.le_refl _)
theorem pz_hdo (h : ¬ f = 16) : (pz_hd pa x L H n).2.1 f j = pa.2.1 f j := pz_if' fun z => h z.1
theorem pz_hd0 : pz_hd pa x L H 0 = pa := by
  unfold pz_hd
  refine Prod.ext rfl (Prod.ext (funext fun f => funext fun j => pz_if' fun z => by have := z.2.1; omega) rfl)
theorem pz_hdF (h : ¬ pz_own pa x n) : pz_hd pa x L H (n + 1) = pz_hd pa x L H n := by
  refine Prod.ext rfl (Prod.ext (funext fun f => funext fun j => ?_) rfl)
  show pz_ite (f = 16 ∧ j < n + 1 ∧ pz_own pa x j) _ _ = pz_ite (f = 16 ∧ j < n ∧ pz_own pa x j) _ _
  have e : (f = 16 ∧ j < n + 1 ∧ pz_own pa x j) = (f = 16 ∧ j < n ∧ pz_own pa x j) := propext ⟨fun z => ⟨z.1, by
    rcases Nat.lt_succ_iff_lt_or_eq.mp z.2.1 with t | t
    · exact t
    · exact absurd (t ▸ z.2.2) h, z.2.2⟩, fun z => ⟨z.1, by omega, z.2.2⟩⟩
  rw [e]
theorem pz_hdT (h : pz_own pa x n) : pz_hd pa x L H (n + 1) = ((pz_hd pa x L H n).1, pz_u (pz_hd pa x L H n).2.1 16 n (pz_pck L H (pz_cn (pz_own pa x) n)), (pz_hd pa x L H n).2.2) := by
  refine Prod.ext rfl (Prod.ext (funext fun f => funext fun j => ?_) rfl)
  show pz_ite (f = 16 ∧ j < n + 1 ∧ pz_own pa x j) _ _ = if f = 16 ∧ j = n then _ else pz_ite (f = 16 ∧ j < n ∧ pz_own pa x j) _ _
  by_cases e : f = 16 ∧ j = n
  · rw [if_pos e, e.2, pz_it ⟨e.1, by omega, h⟩]
  · rw [if_neg e]
    have e2 : (f = 16 ∧ j < n + 1 ∧ pz_own pa x j) = (f = 16 ∧ j < n ∧ pz_own pa x j) := propext ⟨fun z => ⟨z.1, by
      rcases Nat.lt_succ_iff_lt_or_eq.mp z.2.1 with t | t
      · exact t
      · exact absurd ⟨z.1, t⟩ e, z.2.2⟩, fun z => ⟨z.1, by omega, z.2.2⟩⟩
    rw [e2]
theorem pz_haF (h : ¬ P n) : pz_ha L P (n + 1) = pz_ha L P n := by
  unfold pz_ha; split
  · rfl
  · unfold pz_ct; rw [pz_cnF h]
theorem pz_haT (h : P n) (hl : ¬ L.length = 0) : pz_ha L P n + 1 = pz_ha L P (n + 1) := by
  unfold pz_ha; rw [if_neg hl, if_neg hl]; unfold pz_ct; rw [pz_cnT h, pz_s1]
theorem pz_ha0 (hl : L.length = 0) : pz_ha L P n = 0 := if_pos hl
theorem pz_haz : pz_ha L P 0 = 0 := by unfold pz_ha; split <;> rfl
theorem pz_tnz : pz_tn L (pz_cn P 0) = 0 := if_pos (Or.inr rfl)
theorem cu_livingHeirs (h : pz_c sc sq pa ri mp ca dr pe U V w0 w) (hx : xi < 12) (hd : pe.1 44 xi = nI d) (hd3 : d < 4) (hh : ∀ k, k < d → pw_jn (pe.2 xi k) 12) (hU : U ≤ 195000) (hV : V ≤ 3990000) (hL : pz_L sq ≤ 12000) (hr : ri.1 ≤ 80)
    (k : ∀ w1 n, pz_c sc sq pa ri mp ca dr pe (U + 4) (V + 363) w0 w1 → n < 2147483648 → pw_ln w1 24 n = (pz_lv (pz_al pe xi) d).length → (∀ m, m < (pz_lv (pz_al pe xi) d).length → w1.1 24 n m = pe.2 xi ((pz_lv (pz_al pe xi) d).getD m 0)) → K w1 (nI n)) : wp_Person_livingHeirs w (nI xi) K X := by
  unfold wp_Person_livingHeirs
  have ru := pz_kru h
  have rv := pz_krv h
  have rn := pz_knv h 24
  have rn12 := pz_kn24 h
  have h0 := cshn h
  refine ⟨⟨by omega, by omega, by omega⟩, fun w14 e14 v16 e16 => ?_⟩
  subst e14
  subst e16
  obtain ⟨n, en⟩ : ∃ n, n = pw_nv w 24 := ⟨_, rfl⟩
  have l0 : pw_ln (pw_nl w 24) 24 n = 0 := by rw [en]; exact if_pos ⟨Or.inl rfl, rfl⟩
  have n0 : n < pw_nv (pw_nl w 24) 24 := by rw [en]; show _ < pw_nv w 24 + 1; omega
  rw [← en]
  have ed : ∀ {w4 U V}, pz_c sc sq pa ri mp ca dr pe U V w0 w4 → pw_ln w4 24 xi = d := fun {w4 U V} h4 => by
    have := (pz_kl24 h4 xi hx)
    have e := this.1
    rw [hd, pz_eq (by omega) (by omega)] at e
    exact e.symm
  refine pz_up (F := fun k s w => lp_Person_livingHeirs_10 K X k (nI xi) (nI n) (nI s) w) (I := fun s w => pz_c sc sq pa ri mp ca dr pe (U + 1 + (pz_lv (pz_al pe xi) s).length) (V + 3 + 120 * (pz_lv (pz_al pe xi) s).length) w0 w ∧ pw_ln w 24 n = (pz_lv (pz_al pe xi) s).length ∧ n < pw_nv w 24 ∧ ∀ m, m < (pz_lv (pz_al pe xi) s).length → w.1 24 n m = pe.2 xi ((pz_lv (pz_al pe xi) s).getD m 0)) d (fun s w4 k5 hs hI ih => ?_) (fun w4 hI => ?_) ⟨h0, l0, n0, fun m hm => absurd hm (Nat.not_lt_zero _)⟩
  · obtain ⟨h4, l4, n4, e4⟩ := hI
    rw [lp_Person_livingHeirs_10_s]
    have g1 := ed h4
    have le := pz_lvle (B := pz_al pe xi) (s := s)
    have ru4 := pz_kru h4
    have rv4 := pz_krv h4
    have rn4 := pz_knv h4 24
    have hj := hh s hs
    have e24 : w4.1 24 xi s = pe.2 xi s := pz_k24 h4 xi s hx (by omega)
    have e42 := pz_k42 h4 _ hj.2
    have e41 := pz_k41 h4 xi hx
    by_cases q : pz_al pe xi s
    · have q' : pe.1 42 (pw_i (pe.2 xi s)) = 0 := q
      have e42 : w4.1 4 (pw_i (pe.2 xi s)) 2 = 1 := by rw [e42]; exact pz_bt q
      (try simp (disch := omega) only [pz_ce h4, pz_k14 h4, pz_k60 h4, pz_k23 h4, pz_k30 h4, pz_k31 h4, pz_k34 h4, pz_k35 h4, pz_kl11 h4, pz_k11 h4, pz_k15 h4, pz_k40 h4, pz_k41 h4, pz_k42 h4, pz_k25 h4, pz_km0 h4, pz_km1 h4, pz_km2 h4, pz_kc0 h4, pz_kc1 h4, pz_kc2 h4, pz_kc3 h4, pz_kc4 h4, pz_kc6 h4, pz_kc7 h4, pz_kl12 h4, pz_k12 h4, pz_kd0 h4, pz_kd1 h4, forall_eq, true_and, and_true, true_imp_iff, forall_const, not_true_eq_false, not_false_eq_true, false_imp_iff, implies_true, eq_self, pz_i, pz_s1, pz_p1, pz_jnt, pz_b0, pz_b1, pz_em, pz_nnt, pz_nm1, pz_10, pz_20, pz_30, Classical.not_not, g1, e41, e24, hj, hj.1, e42, pz_le, show ¬ d ≤ s by omega])
      refine ⟨pz_lg (by omega) (by omega) (by omega), ?_⟩
      have h5 := csho h4 (i := n) (v := pe.2 xi s) (by omega) (by omega)
      have e1 : (pz_lv (pz_al pe xi) (s + 1)).length = (pz_lv (pz_al pe xi) s).length + 1 := by rw [pz_lvT q, List.length_append]; rfl
      refine ih _ ⟨h5.up (by omega) (by omega), by rw [pz_lals, l4, e1], by rw [pz_lav (by decide)]; exact n4, fun m hm => ?_⟩
      rw [e1] at hm
      by_cases e : m = (pz_lv (pz_al pe xi) s).length
      · rw [e, ← l4, pz_las, l4, pz_lvT q]
        congr 1
        simp
      · rw [pz_lao (fun z => e (by rw [z.2, l4])), e4 m (by omega), pz_lvT q]
        congr 1
        rw [List.getD_eq_getElem?_getD, List.getD_eq_getElem?_getD, List.getElem?_append_left (by omega)]
    · have e42 : w4.1 4 (pw_i (pe.2 xi s)) 2 = 0 := by rw [e42]; exact pz_bf q
      (try simp (disch := omega) only [pz_ce h4, pz_k14 h4, pz_k60 h4, pz_k23 h4, pz_k30 h4, pz_k31 h4, pz_k34 h4, pz_k35 h4, pz_kl11 h4, pz_k11 h4, pz_k15 h4, pz_k40 h4, pz_k41 h4, pz_k42 h4, pz_k25 h4, pz_km0 h4, pz_km1 h4, pz_km2 h4, pz_kc0 h4, pz_kc1 h4, pz_kc2 h4, pz_kc3 h4, pz_kc4 h4, pz_kc6 h4, pz_kc7 h4, pz_kl12 h4, pz_k12 h4, pz_kd0 h4, pz_kd1 h4, forall_eq, true_and, and_true, true_imp_iff, forall_const, not_true_eq_false, not_false_eq_true, false_imp_iff, implies_true, eq_self, pz_i, pz_s1, pz_p1, pz_jnt, pz_b0, pz_b1, pz_em, pz_nnt, pz_nm1, pz_10, pz_20, pz_30, Classical.not_not, g1, e41, e24, hj, hj.1, e42, pz_le, show ¬ d ≤ s by omega])
      refine ih _ ?_
      rw [pz_lvF q]
      exact ⟨h4, l4, n4, e4⟩
  · obtain ⟨h4, l4, n4, e4⟩ := hI
    rw [lp_Person_livingHeirs_10_s]
    have g1 := ed h4
    have le := pz_lvle (B := pz_al pe xi) (s := d)
    have e41 := pz_k41 h4 xi hx
    (try simp (disch := omega) only [pz_ce h4, pz_k14 h4, pz_k60 h4, pz_k23 h4, pz_k30 h4, pz_k31 h4, pz_k34 h4, pz_k35 h4, pz_kl11 h4, pz_k11 h4, pz_k15 h4, pz_k40 h4, pz_k41 h4, pz_k42 h4, pz_k25 h4, pz_km0 h4, pz_km1 h4, pz_km2 h4, pz_kc0 h4, pz_kc1 h4, pz_kc2 h4, pz_kc3 h4, pz_kc4 h4, pz_kc6 h4, pz_kc7 h4, pz_kl12 h4, pz_k12 h4, pz_kd0 h4, pz_kd1 h4, forall_eq, true_and, and_true, true_imp_iff, forall_const, not_true_eq_false, not_false_eq_true, false_imp_iff, implies_true, eq_self, pz_i, pz_s1, pz_p1, pz_jnt, pz_b0, pz_b1, pz_em, pz_nnt, pz_nm1, pz_10, pz_20, pz_30, Classical.not_not, g1, e41, pz_le, Nat.le_refl])
    exact k _ _ (h4.up (by omega) (by omega)) (by omega) l4 e4
theorem cu_handDown (h : pz_c sc sq pa ri mp ca dr pe U V w0 w) (hp : pa.1 ≤ 40) (hx : xi < 12) (hd : pe.1 44 xi = nI d) (hd3 : d < 4) (hh : ∀ k, k < d → pw_jn (pe.2 xi k) 12) (hU : U ≤ 195000) (hV : V ≤ 3990000) (hL : pz_L sq ≤ 12000) (hr : ri.1 ≤ 80)
    (k : ∀ w1, pz_c sc sq (pz_hd pa (nI xi) (pz_lv (pz_al pe xi) d) (pe.2 xi) pa.1) ri mp ca dr pe (U + 4) (V + 363) w0 w1 → K w1 (pz_ha (pz_lv (pz_al pe xi) d) (pz_own pa (nI xi)) pa.1)) : wp_X_handDownParcels w (nI xi) K X := by
  unfold wp_X_handDownParcels
  refine ⟨pz_nn (by omega), cu_livingHeirs h hx hd hd3 hh hU hV hL hr (fun w5 n h5 hn l5 e5 => ?_)⟩
  obtain ⟨L, eL⟩ : ∃ L, L = pz_lv (pz_al pe xi) d := ⟨_, rfl⟩
  have hl3 : L.length ≤ 3 := by rw [eL]; have := pz_lvle (B := pz_al pe xi) (s := d); omega
  rw [← eL] at k l5 e5
  suffices h9 : ∃ k, lp_X_handDownParcels_10 K X k (nI xi) (nI n) (pz_ha L (pz_own pa (nI xi)) 0) (nI 0) w5 by
    rw [pz_haz] at h9; exact h9
  refine pz_up (F := fun k s w => lp_X_handDownParcels_10 K X k (nI xi) (nI n) (pz_ha L (pz_own pa (nI xi)) s) (nI s) w) (I := fun s w => pz_c sc sq (pz_hd pa (nI xi) L (pe.2 xi) s) ri mp ca dr pe (U + 4) (V + 363) w0 w ∧ pw_ln w 24 n = L.length ∧ ∀ m, m < L.length → w.1 24 n m = pe.2 xi (L.getD m 0)) pa.1 (fun s w4 k5 hs hI ih => ?_) (fun w4 hI => ?_) ⟨by rw [pz_hd0]; exact h5, l5, e5⟩
  · obtain ⟨h4, l4, e4⟩ := hI
    rw [lp_X_handDownParcels_10_s]
    have a1 : (pz_hd pa (nI xi) L (pe.2 xi) s).1 = pa.1 := rfl
    have a2 : ∀ f, (pz_hd pa (nI xi) L (pe.2 xi) s).2.1 f s = pa.2.1 f s := fun f => pz_hdn'
    have e23 := pz_k23 h4 s hs
    have hj : pw_jn (nI s) pa.1 := pz_jn hs (by omega)
    by_cases q : pz_own pa (nI xi) s
    · have q1 := q.1
      have q2 := q.2
      have key : ∀ v u, v = pz_pck L (pe.2 xi) (pz_cn (pz_own pa (nI xi)) s) → u = pz_ha L (pz_own pa (nI xi)) (s + 1) → lp_X_handDownParcels_10 K X k5 (nI xi) (nI n) u (nI (s + 1)) (pw_ps w4 3 s 2 v) := fun v u ev eu => by
        rw [eu]
        refine ih _ ⟨?_, l4, fun m hm => by rw [pz_psf (by decide)]; exact e4 m hm⟩
        rw [pz_hdT q, ← ev]; exact cs32 h4
      have hi : pw_i (nI n) = n := pz_i hn
      by_cases q3 : L.length = 0
      · (try simp (disch := omega) only [pz_ce h4, pz_k14 h4, pz_k60 h4, pz_k23 h4, pz_k30 h4, pz_k31 h4, pz_k34 h4, pz_k35 h4, pz_kl11 h4, pz_k11 h4, pz_k15 h4, pz_k40 h4, pz_k41 h4, pz_k42 h4, pz_k25 h4, pz_km0 h4, pz_km1 h4, pz_km2 h4, pz_kc0 h4, pz_kc1 h4, pz_kc2 h4, pz_kc3 h4, pz_kc4 h4, pz_kc6 h4, pz_kc7 h4, pz_kl12 h4, pz_k12 h4, pz_kd0 h4, pz_kd1 h4, forall_eq, true_and, and_true, true_imp_iff, forall_const, not_true_eq_false, not_false_eq_true, false_imp_iff, implies_true, eq_self, pz_i, pz_s1, pz_p1, pz_jnt, pz_b0, pz_b1, pz_em, pz_nnt, pz_nm1, pz_10, pz_20, pz_30, Classical.not_not, a1, a2, pz_le, show ¬ pa.1 ≤ s by omega, e23, hj, q1, q2, hi, l4, q3, if_true, pz_ha0 q3])
        exact key (-1) 0 (if_pos q3).symm (pz_ha0 q3).symm
      · have e7 : pz_ha L (pz_own pa (nI xi)) s = nI (pz_cn (pz_own pa (nI xi)) s) := if_neg q3
        have c40 : pz_cn (pz_own pa (nI xi)) s ≤ s := pz_cn_le
        have em := pz_md3 (pz_cn (pz_own pa (nI xi)) s) (by omega) L.length (by omega) q3
        have hm := Nat.mod_lt (pz_cn (pz_own pa (nI xi)) s) (Nat.pos_of_ne_zero q3)
        have hn0 : ¬ nI L.length = 0 := by rw [show (0 : Int32) = nI 0 from rfl, pz_eq (by omega) (by omega)]; exact q3
        have e8 := e4 _ hm
        have hjm : pw_jn (nI (pz_cn (pz_own pa (nI xi)) s % L.length)) L.length := pz_jn hm (by omega)
        have him : pw_i (nI (pz_cn (pz_own pa (nI xi)) s % L.length)) = pz_cn (pz_own pa (nI xi)) s % L.length := pz_i (by omega)
        have h6 := key (pe.2 xi (L.getD (pz_cn (pz_own pa (nI xi)) s % L.length) 0)) (nI (pz_cn (pz_own pa (nI xi)) s) + 1) (by unfold pz_pck; rw [if_neg q3]) (by rw [← e7]; exact pz_haT q q3)
        rw [e7]
        (try simp (disch := omega) only [pz_ce h4, pz_k14 h4, pz_k60 h4, pz_k23 h4, pz_k30 h4, pz_k31 h4, pz_k34 h4, pz_k35 h4, pz_kl11 h4, pz_k11 h4, pz_k15 h4, pz_k40 h4, pz_k41 h4, pz_k42 h4, pz_k25 h4, pz_km0 h4, pz_km1 h4, pz_km2 h4, pz_kc0 h4, pz_kc1 h4, pz_kc2 h4, pz_kc3 h4, pz_kc4 h4, pz_kc6 h4, pz_kc7 h4, pz_kl12 h4, pz_k12 h4, pz_kd0 h4, pz_kd1 h4, forall_eq, true_and, and_true, true_imp_iff, forall_const, not_true_eq_false, not_false_eq_true, false_imp_iff, implies_true, eq_self, pz_i, pz_s1, pz_p1, pz_jnt, pz_b0, pz_b1, pz_em, pz_nnt, pz_nm1, pz_10, pz_20, pz_30, Classical.not_not, a1, a2, pz_le, show ¬ pa.1 ≤ s by omega, e23, hj, q1, q2, hi, l4, q3, if_false, em, hn0, hjm, him, e8])
        rw [pz_s1] at h6
        exact h6
    · have h6 := ih w4 (by rw [pz_hdF q]; exact ⟨h4, l4, e4⟩)
      rw [pz_haF q] at h6
      by_cases q1 : pa.2.1 16 s = nI xi
      · have q2 : ¬ pa.2.1 17 s = -1 := fun z => q ⟨q1, z⟩
        (try simp (disch := omega) only [pz_ce h4, pz_k14 h4, pz_k60 h4, pz_k23 h4, pz_k30 h4, pz_k31 h4, pz_k34 h4, pz_k35 h4, pz_kl11 h4, pz_k11 h4, pz_k15 h4, pz_k40 h4, pz_k41 h4, pz_k42 h4, pz_k25 h4, pz_km0 h4, pz_km1 h4, pz_km2 h4, pz_kc0 h4, pz_kc1 h4, pz_kc2 h4, pz_kc3 h4, pz_kc4 h4, pz_kc6 h4, pz_kc7 h4, pz_kl12 h4, pz_k12 h4, pz_kd0 h4, pz_kd1 h4, forall_eq, true_and, and_true, true_imp_iff, forall_const, not_true_eq_false, not_false_eq_true, false_imp_iff, implies_true, eq_self, pz_i, pz_s1, pz_p1, pz_jnt, pz_b0, pz_b1, pz_em, pz_nnt, pz_nm1, pz_10, pz_20, pz_30, Classical.not_not, a1, a2, pz_le, show ¬ pa.1 ≤ s by omega, e23, hj, q1, q2])
        exact h6
      · (try simp (disch := omega) only [pz_ce h4, pz_k14 h4, pz_k60 h4, pz_k23 h4, pz_k30 h4, pz_k31 h4, pz_k34 h4, pz_k35 h4, pz_kl11 h4, pz_k11 h4, pz_k15 h4, pz_k40 h4, pz_k41 h4, pz_k42 h4, pz_k25 h4, pz_km0 h4, pz_km1 h4, pz_km2 h4, pz_kc0 h4, pz_kc1 h4, pz_kc2 h4, pz_kc3 h4, pz_kc4 h4, pz_kc6 h4, pz_kc7 h4, pz_kl12 h4, pz_k12 h4, pz_kd0 h4, pz_kd1 h4, forall_eq, true_and, and_true, true_imp_iff, forall_const, not_true_eq_false, not_false_eq_true, false_imp_iff, implies_true, eq_self, pz_i, pz_s1, pz_p1, pz_jnt, pz_b0, pz_b1, pz_em, pz_nnt, pz_nm1, pz_10, pz_20, pz_30, Classical.not_not, a1, a2, pz_le, show ¬ pa.1 ≤ s by omega, e23, hj, q1])
        exact h6
  · obtain ⟨h4, l4, e4⟩ := hI
    rw [lp_X_handDownParcels_10_s]
    have a1 : (pz_hd pa (nI xi) L (pe.2 xi) pa.1).1 = pa.1 := rfl
    (try simp (disch := omega) only [pz_ce h4, pz_k14 h4, pz_k60 h4, pz_k23 h4, pz_k30 h4, pz_k31 h4, pz_k34 h4, pz_k35 h4, pz_kl11 h4, pz_k11 h4, pz_k15 h4, pz_k40 h4, pz_k41 h4, pz_k42 h4, pz_k25 h4, pz_km0 h4, pz_km1 h4, pz_km2 h4, pz_kc0 h4, pz_kc1 h4, pz_kc2 h4, pz_kc3 h4, pz_kc4 h4, pz_kc6 h4, pz_kc7 h4, pz_kl12 h4, pz_k12 h4, pz_kd0 h4, pz_kd1 h4, forall_eq, true_and, and_true, true_imp_iff, forall_const, not_true_eq_false, not_false_eq_true, false_imp_iff, implies_true, eq_self, pz_i, pz_s1, pz_p1, pz_jnt, pz_b0, pz_b1, pz_em, pz_nnt, pz_nm1, pz_10, pz_20, pz_30, Classical.not_not, a1, pz_le, Nat.le_refl])
    exact k _ h4
end PZDN
