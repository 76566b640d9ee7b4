/-! heirs, and what falls to them -/
section PZDH
variable {sc : pz_S} {sq : pz_Q} {pa : pz_P} {ri : pz_N} {mp : pz_N} {ca : pz_P} {dr : pz_N} {pe : pz_Q} {U V : Nat} {w0 w w1 w2 : pw_W} {K : pw_W → Int32 → Prop} {X : pw_W → Nat → Prop} {x y z v : Int32} {i s r j n p q k k' m c d xi : Nat} {B P : Nat → Prop} {H : Nat → Int32} {L : List Nat}
noncomputable def pz_bb (P : Prop) : Bool := @decide P (Classical.propDecidable P)
theorem pz_bbT {P : Prop} (h : P) : pz_bb P = true := by unfold pz_bb; exact @decide_eq_true P (Classical.propDecidable P) h
theorem pz_bbF {P : Prop} (h : ¬ P) : pz_bb P = false := by unfold pz_bb; exact @decide_eq_false P (Classical.propDecidable P) h
noncomputable def pz_lv (B : Nat → Prop) (s : Nat) : List Nat := (List.range s).filter (fun k => pz_bb (B k))
theorem pz_lvT (h : B s) : pz_lv B (s + 1) = pz_lv B s ++ [s] := by
  unfold pz_lv; rw [List.range_succ, List.filter_append]; simp [pz_bbT h]
theorem pz_lvF (h : ¬ B s) : pz_lv B (s + 1) = pz_lv B s := by
  unfold pz_lv; rw [List.range_succ, List.filter_append]; simp [pz_bbF h]
theorem pz_lvle : (pz_lv B s).length ≤ s := by
  have := List.length_filter_le (fun k => pz_bb (B k)) (List.range s)
  rw [List.length_range] at this
  exact this
theorem pz_lvm (h : m < (pz_lv B s).length) : (pz_lv B s).getD m 0 < s := by
  rw [List.getD_eq_getElem?_getD, List.getElem?_eq_getElem h, Option.getD_some]
  have h2 := List.getElem_mem h
  unfold pz_lv at h2
  exact List.mem_range.mp (List.mem_filter.mp h2).1
def pz_b3 (b0 b1 b2 : Bool) (k : Nat) : Bool := if k = 0 then b0 else if k = 1 then b1 else b2
def pz_ld (b0 b1 b2 : Bool) (d : Nat) : List Nat := (List.range d).filter (pz_b3 b0 b1 b2)
def pz_nx (b0 b1 b2 : Bool) (d t : Nat) : Nat := if 0 < d ∧ pz_b3 b0 b1 b2 (t % d) = true then t % d else if 1 < d ∧ pz_b3 b0 b1 b2 ((t + 1) % d) = true then (t + 1) % d else if 2 < d ∧ pz_b3 b0 b1 b2 ((t + 2) % d) = true then (t + 2) % d else 3
theorem pz_nxc : ∀ b0 b1 b2 : Bool, ∀ d, d < 4 → ∀ m, m < (pz_ld b0 b1 b2 d).length → pz_nx b0 b1 b2 d 0 = (pz_ld b0 b1 b2 d).getD 0 0 ∧ pz_nx b0 b1 b2 d ((pz_ld b0 b1 b2 d).getD m 0 + 1) = (pz_ld b0 b1 b2 d).getD ((m + 1) % (pz_ld b0 b1 b2 d).length) 0 := by decide
theorem pz_nxn : ∀ b0 b1 b2 : Bool, ∀ d, d < 4 → (pz_ld b0 b1 b2 d).length = 0 → pz_nx b0 b1 b2 d 0 = 3 := by decide
theorem pz_b3k (h : k < 3) : pz_b3 (pz_bb (B 0)) (pz_bb (B 1)) (pz_bb (B 2)) k = pz_bb (B k) := by
  match k, h with
  | 0, _ => rfl
  | 1, _ => rfl
  | 2, _ => rfl
theorem pz_ldL (h : d < 4) : pz_ld (pz_bb (B 0)) (pz_bb (B 1)) (pz_bb (B 2)) d = pz_lv B d := by
  unfold pz_ld pz_lv
  exact List.filter_congr (fun k hk => pz_b3k (by have := List.mem_range.mp hk; omega))
theorem pz_md3 : ∀ c, c < 41 → ∀ d, d < 4 → d ≠ 0 → nI c - nI c / nI d * nI d = nI (c % d) := by decide
def pz_tn (L : List Nat) (c : Nat) : Nat := if L.length = 0 ∨ c = 0 then 0 else L.getD ((c - 1) % L.length) 0 + 1
theorem pz_nxL (h : d < 4) : pz_nx (pz_bb (B 0)) (pz_bb (B 1)) (pz_bb (B 2)) d (pz_tn (pz_lv B d) c) = if (pz_lv B d).length = 0 then 3 else (pz_lv B d).getD (c % (pz_lv B d).length) 0 := by
  by_cases q : (pz_lv B d).length = 0
  · rw [if_pos q]
    unfold pz_tn
    rw [if_pos (Or.inl q)]
    exact pz_nxn _ _ _ d h (by rw [pz_ldL h]; exact q)
  · rw [if_neg q]
    unfold pz_tn
    have hc := fun m hm => pz_nxc (pz_bb (B 0)) (pz_bb (B 1)) (pz_bb (B 2)) d h m hm
    rw [pz_ldL h] at hc
    by_cases q2 : c = 0
    · rw [if_pos (Or.inr q2), q2, Nat.zero_mod]
      exact (hc 0 (by omega)).1
    · rw [if_neg (by omega), (hc _ (Nat.mod_lt _ (by omega))).2]
      congr 1
      rw [Nat.mod_add_mod, show c - 1 + 1 = c by omega]
theorem pz_tn3 (h : d < 4) : pz_tn (pz_lv B d) c ≤ 3 := by
  unfold pz_tn
  split
  · omega
  · rename_i q
    have := pz_lvm (B := B) (s := d) (m := (c - 1) % (pz_lv B d).length) (Nat.mod_lt _ (by omega))
    omega
/-- person xi's heirs that live -/
def pz_al (pe : pz_Q) (xi k : Nat) : Prop := pe.1 42 (pw_i (pe.2 xi k)) = 0
theorem mv_nextHeir (h : pz_m sc sq pa ri mp ca dr pe w0 w) (hx : xi < 12) (hd : pe.1 44 xi = nI d) (hd3 : d < 4) (hh : ∀ k, k < d → pw_jn (pe.2 xi k) 12) (hc : c ≤ 3) : wp_M_nextHeir w (nI xi) (nI c) K X = K w (if pz_nx (pz_bb (pz_al pe xi 0)) (pz_bb (pz_al pe xi 1)) (pz_bb (pz_al pe xi 2)) d c = 3 then -1 else nI (pz_nx (pz_bb (pz_al pe xi 0)) (pz_bb (pz_al pe xi 1)) (pz_bb (pz_al pe xi 2)) d c)) := by
  unfold wp_M_nextHeir
  have f0 : ∀ s, lp_M_nextHeir_2 K X 0 (nI xi) (nI c) (nI s) w = False := fun s => rfl
  have fe : ∀ k, lp_M_nextHeir_2 K X (k + 1) (nI xi) (nI c) (nI d) w = K w (-1) := fun k => by
    rw [lp_M_nextHeir_2_s]
    (try simp (disch := omega) only [pz_me h, forall_eq, true_and, and_true, true_imp_iff, forall_const, not_true_eq_false, not_false_eq_true, false_imp_iff, implies_true, eq_self, pz_i, pz_s1, pz_p1, pz_jnt, pz_b0, pz_b1, pz_em, pz_nnt, pz_nm1, pz_10, pz_20, pz_30, Classical.not_not, hd, pz_le, Nat.le_refl])
  have fs : ∀ s k, s < d → lp_M_nextHeir_2 K X (k + 1) (nI xi) (nI c) (nI s) w = ((¬ pz_al pe xi ((c + s) % d) → lp_M_nextHeir_2 K X k (nI xi) (nI c) (nI (s + 1)) w) ∧ (pz_al pe xi ((c + s) % d) → K w (nI ((c + s) % d)))) := fun s k hs => by
    have hm : (c + s) % d < d := Nat.mod_lt _ (by omega)
    have hj := hh _ hm
    have hn0 : ¬ nI d = 0 := by rw [show (0 : Int32) = nI 0 from rfl, pz_eq (by omega) (by omega)]; omega
    have e43 := pz_md43 h xi ((c + s) % d) hx (by omega)
    have em : nI c + nI s - (nI c + nI s) / nI d * nI d = nI ((c + s) % d) := by rw [pz_add]; exact pz_md3 (c + s) (by omega) d (by omega) (by omega)
    have e3 : nI 3 * nI xi + nI ((c + s) % d) = nI (3 * xi + (c + s) % d) := by rw [pz_mul, pz_add]
    rw [lp_M_nextHeir_2_s]
    (try simp (disch := omega) only [pz_me h, forall_eq, true_and, and_true, true_imp_iff, forall_const, not_true_eq_false, not_false_eq_true, false_imp_iff, implies_true, eq_self, pz_i, pz_s1, pz_p1, pz_jnt, pz_b0, pz_b1, pz_em, pz_nnt, pz_nm1, pz_10, pz_20, pz_30, Classical.not_not, hd, pz_le, show ¬ d ≤ s by omega, hn0, em, pz_l3, e3, e43, hj, pz_al])
  by_cases q0 : 0 < d ∧ pz_al pe xi ((c + 0) % d)
  · have en : pz_nx (pz_bb (pz_al pe xi 0)) (pz_bb (pz_al pe xi 1)) (pz_bb (pz_al pe xi 2)) d c = c % d := by
      unfold pz_nx
      rw [if_pos ⟨q0.1, by rw [pz_b3k (by have := Nat.mod_lt c q0.1; omega)]; exact pz_bbT q0.2⟩]
    have hm := Nat.mod_lt c q0.1
    rw [en, if_neg (by omega)]
    refine pz_upe (F := fun k s => lp_M_nextHeir_2 K X k (nI xi) (nI c) (nI s) w) 0 f0 (fun s k hs => absurd hs (Nat.not_lt_zero _)) (fun k => ?_)
    show lp_M_nextHeir_2 K X (k + 1) (nI xi) (nI c) (nI 0) w = _
    rw [fs 0 k q0.1]
    exact propext ⟨fun z => z.2 q0.2, fun z => ⟨fun z2 => absurd q0.2 z2, fun _ => z⟩⟩
  · have a0 : ¬ (0 < d ∧ pz_b3 (pz_bb (pz_al pe xi 0)) (pz_bb (pz_al pe xi 1)) (pz_bb (pz_al pe xi 2)) (c % d) = true) := fun z => q0 ⟨z.1, by
      have hm := Nat.mod_lt c z.1
      have z2 := z.2
      rw [pz_b3k (by omega)] at z2
      by_cases t : pz_al pe xi (c % d)
      · exact t
      · rw [pz_bbF t] at z2; exact absurd z2 (by decide)⟩
    by_cases q1 : 1 < d ∧ pz_al pe xi ((c + 1) % d)
    · have en : pz_nx (pz_bb (pz_al pe xi 0)) (pz_bb (pz_al pe xi 1)) (pz_bb (pz_al pe xi 2)) d c = (c + 1) % d := by
        unfold pz_nx
        rw [if_neg a0, if_pos ⟨q1.1, by rw [pz_b3k (by have := Nat.mod_lt (c + 1) (y := d) (by omega); omega)]; exact pz_bbT q1.2⟩]
      have hm := Nat.mod_lt (c + 1) (y := d) (by omega)
      rw [en, if_neg (by omega)]
      refine pz_upe (F := fun k s => lp_M_nextHeir_2 K X k (nI xi) (nI c) (nI s) w) 1 f0 (fun s k hs => Or.inl ?_) (fun k => ?_)
      · show lp_M_nextHeir_2 K X (k + 1) (nI xi) (nI c) (nI s) w = lp_M_nextHeir_2 K X k (nI xi) (nI c) (nI (s + 1)) w
        have e0 : s = 0 := by omega
        rw [e0, fs 0 k (by omega)]
        exact propext ⟨fun z => z.1 fun t => q0 ⟨by omega, t⟩, fun z => ⟨fun _ => z, fun t => absurd ⟨by omega, t⟩ q0⟩⟩
      · show lp_M_nextHeir_2 K X (k + 1) (nI xi) (nI c) (nI 1) w = _
        rw [fs 1 k q1.1]
        exact propext ⟨fun z => z.2 q1.2, fun z => ⟨fun z2 => absurd q1.2 z2, fun _ => z⟩⟩
    · have a1 : ¬ (1 < d ∧ pz_b3 (pz_bb (pz_al pe xi 0)) (pz_bb (pz_al pe xi 1)) (pz_bb (pz_al pe xi 2)) ((c + 1) % d) = true) := fun z => q1 ⟨z.1, by
        have hm := Nat.mod_lt (c + 1) (y := d) (by omega)
        have z2 := z.2
        rw [pz_b3k (by omega)] at z2
        by_cases t : pz_al pe xi ((c + 1) % d)
        · exact t
        · rw [pz_bbF t] at z2; exact absurd z2 (by decide)⟩
      have st : ∀ s k, s < d → s < 2 → lp_M_nextHeir_2 K X (k + 1) (nI xi) (nI c) (nI s) w = lp_M_nextHeir_2 K X k (nI xi) (nI c) (nI (s + 1)) w := fun s k hs h2 => by
        rw [fs s k hs]
        have : ¬ pz_al pe xi ((c + s) % d) := by
          rcases (by omega : s = 0 ∨ s = 1) with e | e
          · rw [e] at hs ⊢; exact fun t => q0 ⟨hs, t⟩
          · rw [e] at hs ⊢; exact fun t => q1 ⟨hs, t⟩
        exact propext ⟨fun z => z.1 this, fun z => ⟨fun _ => z, fun t => absurd t this⟩⟩
      by_cases q2 : 2 < d ∧ pz_al pe xi ((c + 2) % d)
      · have en : pz_nx (pz_bb (pz_al pe xi 0)) (pz_bb (pz_al pe xi 1)) (pz_bb (pz_al pe xi 2)) d c = (c + 2) % d := by
          unfold pz_nx
          rw [if_neg a0, if_neg a1, if_pos ⟨q2.1, by rw [pz_b3k (by have := Nat.mod_lt (c + 2) (y := d) (by omega); omega)]; exact pz_bbT q2.2⟩]
        have hm := Nat.mod_lt (c + 2) (y := d) (by omega)
        rw [en, if_neg (by omega)]
        refine pz_upe (F := fun k s => lp_M_nextHeir_2 K X k (nI xi) (nI c) (nI s) w) 2 f0 (fun s k hs => Or.inl (st s k (by omega) hs)) (fun k => ?_)
        show lp_M_nextHeir_2 K X (k + 1) (nI xi) (nI c) (nI 2) w = _
        rw [fs 2 k q2.1]
        exact propext ⟨fun z => z.2 q2.2, fun z => ⟨fun z2 => absurd q2.2 z2, fun _ => z⟩⟩
      · have a2 : ¬ (2 < d ∧ pz_b3 (pz_bb (pz_al pe xi 0)) (pz_bb (pz_al pe xi 1)) (pz_bb (pz_al pe xi 2)) ((c + 2) % d) = true) := fun z => q2 ⟨z.1, by
          have hm := Nat.mod_lt (c + 2) (y := d) (by omega)
          have z2 := z.2
          rw [pz_b3k (by omega)] at z2
          by_cases t : pz_al pe xi ((c + 2) % d)
          · exact t
          · rw [pz_bbF t] at z2; exact absurd z2 (by decide)⟩
        have en : pz_nx (pz_bb (pz_al pe xi 0)) (pz_bb (pz_al pe xi 1)) (pz_bb (pz_al pe xi 2)) d c = 3 := by
          unfold pz_nx
          rw [if_neg a0, if_neg a1, if_neg a2]
        rw [en, if_pos rfl]
        refine pz_upe (F := fun k s => lp_M_nextHeir_2 K X k (nI xi) (nI c) (nI s) w) d f0 (fun s k hs => Or.inl ?_) fe
        show lp_M_nextHeir_2 K X (k + 1) (nI xi) (nI c) (nI s) w = lp_M_nextHeir_2 K X k (nI xi) (nI c) (nI (s + 1)) w
        by_cases h2 : s < 2
        · exact st s k hs h2
        · rw [fs s k hs]
          have : ¬ pz_al pe xi ((c + s) % d) := by
            have e : s = 2 := by omega
            rw [e] at hs ⊢; exact fun t => q2 ⟨hs, t⟩
          exact propext ⟨fun z => z.1 this, fun z => ⟨fun _ => z, fun t => absurd t this⟩⟩
end PZDH
