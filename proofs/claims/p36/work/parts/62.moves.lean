/-! moves of squares, copies of rights -/
section PZMV
variable {sc : pz_S} {sq : pz_Q} {pa : pz_P} {ri : pz_N} {mp : pz_N} {ca : pz_P} {dr : pz_N} {pe : pz_Q} {U V : Nat} {w0 w w1 w2 : pw_W} {K : pw_W → Int32 → Prop} {X : pw_W → Nat → Prop} {x y z t : Int32} {i s r j n p q a b k k' : Nat} {c d e v v' : Int32} {f g o : Nat → Int32}
noncomputable def pz_mv (sq : pz_Q) (f g o : Nat → Int32) (n : Nat) : pz_Q := (fun k s => if k = 8 then (if s < n then f s else sq.1 8 s) else if k = 12 then (if s < n then g s else sq.1 12 s) else if k = 13 then (if s < n then o s else sq.1 13 s) else if k = 14 then pz_ite (s < n ∧ ¬ sq.1 8 s = f s) (sq.1 14 s + 1) (sq.1 14 s) else sq.1 k s,
  fun s j => pz_ite (s < n ∧ ¬ sq.1 8 s = f s ∧ j = pw_i (sq.1 14 s)) (f s) (sq.2 s j))
theorem pz_mv8 : (pz_mv sq f g o n).1 8 s = if s < n then f s else sq.1 8 s := rfl
theorem pz_mv12 : (pz_mv sq f g o n).1 12 s = if s < n then g s else sq.1 12 s := rfl
theorem pz_mv13 : (pz_mv sq f g o n).1 13 s = if s < n then o s else sq.1 13 s := rfl
theorem pz_mv14 : (pz_mv sq f g o n).1 14 s = pz_ite (s < n ∧ ¬ sq.1 8 s = f s) (sq.1 14 s + 1) (sq.1 14 s) := rfl
theorem pz_mvx (hs : ¬ s < n) : (pz_mv sq f g o n).1 k s = sq.1 k s := by
  show (if k = 8 then (if s < n then f s else sq.1 8 s) else if k = 12 then (if s < n then g s else sq.1 12 s) else if k = 13 then (if s < n then o s else sq.1 13 s) else if k = 14 then pz_ite (s < n ∧ ¬ sq.1 8 s = f s) (sq.1 14 s + 1) (sq.1 14 s) else sq.1 k s) = _
  rw [pz_if' (fun q => hs q.1), if_neg hs, if_neg hs, if_neg hs]
  by_cases e : k = 8
  · rw [if_pos e, e]
  rw [if_neg e]
  by_cases e : k = 12
  · rw [if_pos e, e]
  rw [if_neg e]
  by_cases e : k = 13
  · rw [if_pos e, e]
  rw [if_neg e]
  by_cases e : k = 14
  · rw [if_pos e, e]
  rw [if_neg e]
theorem pz_mv2x (hs : ¬ s < n) : (pz_mv sq f g o n).2 s = sq.2 s := funext fun j => pz_if' fun q => hs q.1
theorem pz_mv0 : pz_mv sq f g o 0 = sq := Prod.ext (funext fun _ => funext fun _ => pz_mvx (Nat.not_lt_zero _)) (funext fun _ => pz_mv2x (Nat.not_lt_zero _))
theorem pz_mvlt (h : ¬ s = n) : (pz_mv sq f g o (n + 1)).1 k s = (pz_mv sq f g o n).1 k s := by
  show (if k = 8 then (if s < n + 1 then f s else sq.1 8 s) else if k = 12 then (if s < n + 1 then g s else sq.1 12 s) else if k = 13 then (if s < n + 1 then o s else sq.1 13 s) else if k = 14 then pz_ite (s < n + 1 ∧ ¬ sq.1 8 s = f s) (sq.1 14 s + 1) (sq.1 14 s) else sq.1 k s) = (if k = 8 then (if s < n then f s else sq.1 8 s) else if k = 12 then (if s < n then g s else sq.1 12 s) else if k = 13 then (if s < n then o s else sq.1 13 s) else if k = 14 then pz_ite (s < n ∧ ¬ sq.1 8 s = f s) (sq.1 14 s + 1) (sq.1 14 s) else sq.1 k s)
  by_cases q : s < n
  · have q1 : s < n + 1 := by omega
    simp only [q, q1, if_true]
  · have q1 : ¬ s < n + 1 := by omega
    simp only [q, q1, if_false]
theorem pz_mv2lt (h : ¬ s = n) : (pz_mv sq f g o (n + 1)).2 s = (pz_mv sq f g o n).2 s := funext fun j => by
  show pz_ite (s < n + 1 ∧ ¬ sq.1 8 s = f s ∧ j = pw_i (sq.1 14 s)) (f s) (sq.2 s j) = pz_ite (s < n ∧ ¬ sq.1 8 s = f s ∧ j = pw_i (sq.1 14 s)) (f s) (sq.2 s j)
  exact pz_itc ⟨fun q => ⟨by omega, q.2⟩, fun q => ⟨by omega, q.2⟩⟩
theorem pz_mvS : pz_cm ((pz_u (pz_u (pz_mv sq f g o n).1 12 n (g n)) 13 n (o n)), (pz_mv sq f g o n).2) n (f n) = pz_mv sq f g o (n + 1) := by
  have e8 : (pz_u (pz_u (pz_mv sq f g o n).1 12 n (g n)) 13 n (o n)) 8 n = sq.1 8 n := by
    rw [pz_uk (by decide), pz_uk (by decide), pz_mvx (by omega)]
  have e14 : (pz_u (pz_u (pz_mv sq f g o n).1 12 n (g n)) 13 n (o n)) 14 n = sq.1 14 n := by
    rw [pz_uk (by decide), pz_uk (by decide), pz_mvx (by omega)]
  have own : ∀ k, (pz_mv sq f g o (n + 1)).1 k n = if k = 8 then f n else if k = 12 then g n else if k = 13 then o n else if k = 14 then pz_ite (¬ sq.1 8 n = f n) (sq.1 14 n + 1) (sq.1 14 n) else sq.1 k n := fun k => by
    show (if k = 8 then (if n < n + 1 then f n else sq.1 8 n) else if k = 12 then (if n < n + 1 then g n else sq.1 12 n) else if k = 13 then (if n < n + 1 then o n else sq.1 13 n) else if k = 14 then pz_ite (n < n + 1 ∧ ¬ sq.1 8 n = f n) (sq.1 14 n + 1) (sq.1 14 n) else sq.1 k n) = _
    rw [if_pos (show n < n + 1 by omega), if_pos (show n < n + 1 by omega), if_pos (show n < n + 1 by omega), pz_itc (P := n < n + 1 ∧ ¬ sq.1 8 n = f n) (Q := ¬ sq.1 8 n = f n) ⟨fun q => q.2, fun q => ⟨by omega, q⟩⟩]
  have own2 : ∀ j, (pz_mv sq f g o (n + 1)).2 n j = pz_ite (¬ sq.1 8 n = f n ∧ j = pw_i (sq.1 14 n)) (f n) (sq.2 n j) := fun j => by
    exact pz_itc ⟨fun q => q.2, fun q => ⟨by omega, q⟩⟩
  unfold pz_cm
  dsimp only
  by_cases hf : sq.1 8 n = f n
  · rw [if_pos (e8.trans hf)]
    refine Prod.ext (funext fun k => funext fun s => ?_) (funext fun s => funext fun j => ?_)
    · show (pz_u (pz_u (pz_mv sq f g o n).1 12 n (g n)) 13 n (o n)) k s = _
      by_cases e : s = n
      · rw [e, own, pz_if' (fun q => q hf)]
        by_cases k13 : k = 13
        · rw [k13, pz_us]; rfl
        rw [pz_uk k13]
        by_cases k12 : k = 12
        · rw [k12, pz_us]; rfl
        rw [pz_uk k12, pz_mvx (by omega), if_neg k12, if_neg k13]
        by_cases k8 : k = 8
        · rw [if_pos k8, k8, hf]
        rw [if_neg k8]
        by_cases k14 : k = 14
        · rw [if_pos k14, k14]
        rw [if_neg k14]
      · rw [pz_un e, pz_un e, pz_mvlt e]
    · show (pz_mv sq f g o n).2 s j = _
      by_cases e : s = n
      · rw [e, own2, pz_if' (fun q => q.1 hf), pz_mv2x (by omega)]
      · rw [pz_mv2lt e]
  · rw [if_neg (fun q => hf (e8.symm.trans q)), e14]
    refine Prod.ext (funext fun k => funext fun s => ?_) (funext fun s => funext fun j => ?_)
    · show (pz_u (pz_u (pz_u (pz_u (pz_mv sq f g o n).1 12 n (g n)) 13 n (o n)) 8 n (f n)) 14 n (sq.1 14 n + 1)) k s = _
      by_cases e : s = n
      · rw [e, own, pz_it hf]
        by_cases k14 : k = 14
        · rw [k14, pz_us]; rfl
        rw [pz_uk k14]
        by_cases k8 : k = 8
        · rw [k8, pz_us]; rfl
        rw [pz_uk k8]
        by_cases k13 : k = 13
        · rw [k13, pz_us]; rfl
        rw [pz_uk k13]
        by_cases k12 : k = 12
        · rw [k12, pz_us]; rfl
        rw [pz_uk k12, pz_mvx (by omega), if_neg k12, if_neg k13, if_neg k8, if_neg k14]
      · rw [pz_un e, pz_un e, pz_un e, pz_un e, pz_mvlt e]
    · show (pz_u (pz_mv sq f g o n).2 n (pw_i (sq.1 14 n)) (f n)) s j = _
      by_cases e : s = n
      · rw [e, own2]
        by_cases ej : j = pw_i (sq.1 14 n)
        · rw [ej, pz_us, pz_it ⟨hf, rfl⟩]
        · rw [pz_un ej, pz_if' (fun q => ej q.2), pz_mv2x (by omega)]
      · rw [pz_uk e, pz_mv2lt e]
theorem pz_mvSc (hg : g n = sq.1 12 n) (ho : o n = sq.1 13 n) : pz_cm (pz_mv sq f g o n) n (f n) = pz_mv sq f g o (n + 1) := by
  rw [← pz_mvS]
  congr 1
  refine Prod.ext ?_ rfl
  show _ = pz_u (pz_u (pz_mv sq f g o n).1 12 n (g n)) 13 n (o n)
  rw [show g n = (pz_mv sq f g o n).1 12 n by rw [pz_mvx (by omega), hg], pz_ue, show o n = (pz_mv sq f g o n).1 13 n by rw [pz_mvx (by omega), ho], pz_ue]
theorem pz_mvS0 (hg : g n = sq.1 12 n) (ho : o n = sq.1 13 n) (hf : sq.1 8 n = f n) : pz_mv sq f g o (n + 1) = pz_mv sq f g o n := by
  rw [← pz_mvSc hg ho]
  unfold pz_cm
  rw [if_pos (by rw [pz_mvx (by omega), hf])]
/-- copies of rights, by number -/
noncomputable def pz_cp (ri : pz_N) (P : pz_N → Nat → Prop) (p : Int32) (n : Nat) : pz_N := Nat.rec ri (fun r a => @ite pz_N (P a r) (Classical.propDecidable _) (pz_mr' a (ri.2 20 r) p (ri.2 22 r) (ri.2 23 r) (nI r)) a) n
variable {P : pz_N → Nat → Prop}
theorem pz_cpT (h : P (pz_cp ri P x n) n) : pz_cp ri P x (n + 1) = pz_mr' (pz_cp ri P x n) (ri.2 20 n) x (ri.2 22 n) (ri.2 23 n) (nI n) := if_pos h
theorem pz_cpF (h : ¬ P (pz_cp ri P x n) n) : pz_cp ri P x (n + 1) = pz_cp ri P x n := if_neg h
theorem pz_mro {ri : pz_N} (h : r < ri.1) : (pz_mr' ri x y z t v).2 k r = ri.2 k r := by
  unfold pz_mr'
  dsimp only
  have : ¬ r = ri.1 := by omega
  rw [pz_un this, pz_un this, pz_un this, pz_un this, pz_un this, pz_un this]
theorem pz_cp_ge : ∀ {n : Nat}, ri.1 ≤ (pz_cp ri P x n).1
  | 0 => Nat.le_refl _
  | n + 1 => by
    have := pz_cp_ge (n := n)
    by_cases q : P (pz_cp ri P x n) n
    · rw [pz_cpT q]; show _ ≤ (pz_cp ri P x n).1 + 1; omega
    · rw [pz_cpF q]; exact this
theorem pz_cp_old {r k : Nat} (h : r < ri.1) : ∀ {n : Nat}, (pz_cp ri P x n).2 k r = ri.2 k r
  | 0 => rfl
  | n + 1 => by
    have := pz_cp_old h (n := n) (k := k)
    by_cases q : P (pz_cp ri P x n) n
    · rw [pz_cpT q, pz_mro (Nat.lt_of_lt_of_le h pz_cp_ge)]; exact this
    · rw [pz_cpF q]; exact this
theorem pz_cp_cnt {B : Nat → Prop} : ∀ {n : Nat}, (∀ r, r < n → P (pz_cp ri P x r) r → B r) → (pz_cp ri P x n).1 ≤ ri.1 + pz_cn B n
  | 0, _ => Nat.le_refl _
  | n + 1, h => by
    have ih := pz_cp_cnt (n := n) (fun r hr => h r (by omega))
    by_cases q : P (pz_cp ri P x n) n
    · rw [pz_cpT q, pz_cnT (h n (by omega) q)]
      show (pz_cp ri P x n).1 + 1 ≤ _
      omega
    · rw [pz_cpF q]
      have : pz_cn B n ≤ pz_cn B (n + 1) := by
        by_cases b : B n
        · rw [pz_cnT b]; omega
        · rw [pz_cnF b]; omega
      omega
theorem pz_cn_mono {B : Nat → Prop} {m : Nat} : ∀ {n : Nat}, m ≤ n → pz_cn B m ≤ pz_cn B n
  | 0, h => Nat.le_of_eq (by rw [show m = 0 by omega])
  | n + 1, h => by
    by_cases e : m = n + 1
    · exact Nat.le_of_eq (by rw [e])
    · have := pz_cn_mono (B := B) (m := m) (n := n) (by omega)
      by_cases b : B n
      · rw [pz_cnT b]; omega
      · rw [pz_cnF b]; exact this
/-- what the class brings: what is on x and what the other has not -/
def pz_bP (ri : pz_N) (x y : Int32) (a : pz_N) (r : Nat) : Prop := pz_on ri x r ∧ ¬ pz_ex (pz_hr a (ri.2 20 r) y (ri.2 22 r)) a.1
theorem pz_ex_mono {P Q : Nat → Prop} {m n : Nat} (h : pz_ex P m) (hl : m ≤ n) (hq : ∀ r, r < m → P r → Q r) : pz_ex Q n := by
  obtain ⟨r, h1, h2⟩ := h
  exact ⟨r, by omega, hq r h1 h2⟩
theorem pz_bPbr (h : pz_bP ri x y (pz_cp ri P z n) r) : pz_br ri x y r := by
  refine ⟨h.1, fun q => h.2 (pz_ex_mono q pz_cp_ge fun r' hr' hp => ?_)⟩
  obtain ⟨⟨a1, a2⟩, a3, a4⟩ := hp
  exact ⟨⟨by rw [pz_cp_old hr']; exact a1, by rw [pz_cp_old hr']; exact a2⟩, by rw [pz_cp_old hr']; exact a3, by rw [pz_cp_old hr']; exact a4⟩
theorem cu_bring (h : pz_c sc sq pa ri mp ca dr pe U V w0 w) (hU : U ≤ 200000) (hV : V ≤ 4000000) (hL : pz_L sq ≤ 12000) (hcap : ri.1 + pz_cn (pz_br ri x y) ri.1 ≤ 80)
    (k : ∀ w1, pz_c sc sq pa (pz_cp ri (pz_bP ri x y) y ri.1) mp ca dr pe U V w0 w1 → K w1 0) : wp_X_bringRights w x y K X := by
  unfold wp_X_bringRights
  (try simp (disch := omega) only [pz_ce h, pz_k14 h, pz_k60 h, pz_k23 h, pz_k30 h, pz_k31 h, pz_k34 h, pz_k35 h, pz_kl11 h, pz_k11 h, pz_k15 h, pz_k40 h, pz_k41 h, pz_k42 h, pz_k25 h, pz_km0 h, pz_km1 h, pz_km2 h, pz_kc0 h, pz_kc1 h, pz_kc2 h, pz_kc3 h, pz_kc4 h, pz_kc6 h, pz_kc7 h, pz_kl12 h, pz_k12 h, pz_kd0 h, pz_kd1 h, forall_eq, true_and, and_true, true_imp_iff, forall_const, not_true_eq_false, not_false_eq_true, false_imp_iff, implies_true, eq_self, pz_i, pz_s1, pz_p1, pz_jnt, pz_b0, pz_b1, pz_em, pz_nnt, pz_nm1, pz_10, pz_20, pz_30, Classical.not_not])
  refine pz_up (F := fun k s w => lp_X_bringRights_13 K X k x y (nI ri.1) (nI s) w) (I := fun s w => pz_c sc sq pa (pz_cp ri (pz_bP ri x y) y s) mp ca dr pe U V w0 w) ri.1 (fun s w4 k5 hs h4 ih => ?_) (fun w4 h4 => ?_) h
  · rw [lp_X_bringRights_13_s]
    have hcs : (pz_cp ri (pz_bP ri x y) y s).1 ≤ ri.1 + pz_cn (pz_br ri x y) s := pz_cp_cnt fun r _ q => pz_bPbr q
    have hcm : pz_cn (pz_br ri x y) s ≤ pz_cn (pz_br ri x y) ri.1 := pz_cn_mono (by omega)
    have hge : ri.1 ≤ (pz_cp ri (pz_bP ri x y) y s).1 := pz_cp_ge
    have h80 : (pz_cp ri (pz_bP ri x y) y s).1 ≤ 80 := by omega
    have e25 := pz_k25 h4 s (by omega)
    have el : pw_ln w4 25 0 = (pz_cp ri (pz_bP ri x y) y s).1 := (pz_cri.of h4).1
    have e5 : pw_nv w4 5 = (pz_cp ri (pz_bP ri x y) y s).1 := (pz_cri.of h4).2.1
    have e7 : w4.1 7 0 5 = 0 := (pz_csc.of h4).2.2.2.2.2.1
    have ebr : pz_br (pz_cp ri (pz_bP ri x y) y s) x y s = pz_bP ri x y (pz_cp ri (pz_bP ri x y) y s) s := by
      unfold pz_br pz_bP pz_on
      rw [pz_cp_old hs, pz_cp_old hs, pz_cp_old hs, pz_cp_old hs]
    refine ⟨fun q => absurd q (by rw [pz_le (by omega) (by omega)]; omega), fun _ => ⟨e7, by rw [el]; exact pz_jn (by omega) (by omega), fun v ev => ?_⟩⟩
    rw [pz_i (by omega), e25] at ev
    subst ev
    rw [cv_isToBring h4 h80 (by omega), ebr]
    refine ⟨fun q => ?_, fun q => ?_⟩
    · rw [pz_s1]
      exact ih w4 (by rw [pz_cpF (pz_b0.mp q)]; exact h4)
    · have q1 : pz_bP ri x y (pz_cp ri (pz_bP ri x y) y s) s := Classical.byContradiction fun n => q (pz_bf n)
      have hcs1 : (pz_cp ri (pz_bP ri x y) y s).1 + 1 ≤ ri.1 + pz_cn (pz_br ri x y) (s + 1) := by rw [pz_cnT (pz_bPbr q1)]; omega
      have hcm1 : pz_cn (pz_br ri x y) (s + 1) ≤ pz_cn (pz_br ri x y) ri.1 := pz_cn_mono (by omega)
      refine ⟨cu_newRm h4 hU hV hL h80, fun w10 e10 => ⟨pz_nn (by omega), ?_⟩⟩
      have g : ∀ k, w10.1 5 s k = w4.1 5 s k := fun k => by rw [e10, pz_nwi (by omega)]
      have eR := pz_cri.of h4
      have k53 := eR.2.2.2.2.2.2.1 s (by omega)
      rw [pz_cp_old hs, pz_cp_old hs] at k53
      rw [pz_i (by omega), g, g, g, e10, e5, eR.2.2.2.1 s, eR.2.2.2.2.2.1 s, pz_cp_old hs, pz_cp_old hs]
      refine cu_newRight h4 (d' := ri.2 23 s) (fun z => ?_) (by omega) hU hV hL h80 (fun w1 h1 => ?_)
      · exact k53 z
      · rw [pz_s1]
        exact ih w1 (by rw [pz_cpT q1]; exact h1)
  · rw [lp_X_bringRights_13_s]
    exact ⟨fun _ => k _ h4, fun q => absurd (by rw [pz_le (by omega) (by omega)]; exact Nat.le_refl _) q⟩
end PZMV
