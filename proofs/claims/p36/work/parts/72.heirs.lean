/-! heirs, and what falls to them -/
section PZDH
variable {sc : pz_S} {sq : pz_Q} {pa : pz_P} {ri : pz_N} {mp : pz_N} {ca : pz_P} {dr : pz_N} {pe : pz_Q} {U V : Nat} {w0 w w1 w2 : pw_W} {K : pw_W → Int32 → Prop} {X : pw_W → Nat → Prop} {x y z v : Int32} {i s r j n p q k k' m c d xi : Nat} {B P : Nat → Prop} {H : Nat → Int32} {L : List Nat}
noncomputable def pz_bb (P : Prop) : Bool := @decide P (Classical.propDecidable P)
theorem pz_bbT {P : Prop} (h : P) : pz_bb P = true := by unfold pz_bb; exact @decide_eq_true P (Classical.propDecidable P) h
theorem pz_bbF {P : Prop} (h : ¬ P) : pz_bb P = false := by unfold pz_bb; exact @decide_eq_false P (Classical.propDecidable P) h
noncomputable def pz_lv (B : Nat → Prop) (s : Nat) : List Nat := (List.range s).filter (fun k => pz_bb (B k))
theorem pz_lvT (h : B s) : pz_lv B (s + 1) = pz_lv B s ++ [s] := by
  unfold pz_lv; rw [List.range_succ, List.filter_append]; simp [pz_bbT h]
theorem pz_lvF (h : ¬ B s) : pz_lv B (s + 1) = pz_lv B s := by
  unfold pz_lv; rw [List.range_succ, List.filter_append]; simp [pz_bbF h]
theorem pz_lvle : (pz_lv B s).length ≤ s := by
  have := List.length_filter_le (fun k => pz_bb (B k)) (List.range s)
  rw [List.length_range] at this
  exact this
theorem pz_lvm (h : m < (pz_lv B s).length) : (pz_lv B s).getD m 0 < s := by
  rw [List.getD_eq_getElem?_getD, List.getElem?_eq_getElem h, Option.getD_some]
  have h2 := List.getElem_mem h
  unfold pz_lv at h2
  exact List.mem_range.mp (List.mem_filter.mp h2).1
def pz_b3 (b0 b1 b2 : Bool) (k : Nat) : Bool := if k = 0 then b0 else if k = 1 then b1 else b2
def pz_ld (b0 b1 b2 : Bool) (d : Nat) : List Nat := (List.range d).filter (pz_b3 b0 b1 b2)
def pz_nx (b0 b1 b2 : Bool) (d t : Nat) : Nat := if 0 < d ∧ pz_b3 b0 b1 b2 (t % d) = true then t % d else if 1 < d ∧ pz_b3 b0 b1 b2 ((t + 1) % d) = true then (t + 1) % d else if 2 < d ∧ pz_b3 b0 b1 b2 ((t + 2) % d) = true then (t + 2) % d else 3
theorem pz_nxc : ∀ b0 b1 b2 : Bool, ∀ d, d < 4 → ∀ m, m < (pz_ld b0 b1 b2 d).length → pz_nx b0 b1 b2 d 0 = (pz_ld b0 b1 b2 d).getD 0 0 ∧ pz_nx b0 b1 b2 d ((pz_ld b0 b1 b2 d).getD m 0 + 1) = (pz_ld b0 b1 b2 d).getD ((m + 1) % (pz_ld b0 b1 b2 d).length) 0 := by decide
theorem pz_nxn : ∀ b0 b1 b2 : Bool, ∀ d, d < 4 → (pz_ld b0 b1 b2 d).length = 0 → pz_nx b0 b1 b2 d 0 = 3 := by decide
theorem pz_b3k (h : k < 3) : pz_b3 (pz_bb (B 0)) (pz_bb (B 1)) (pz_bb (B 2)) k = pz_bb (B k) := by
  match k, h with
  | 0, _ => rfl
  | 1, _ => rfl
  | 2, _ => rfl
theorem pz_ldL (h : d < 4) : pz_ld (pz_bb (B 0)) (pz_bb (B 1)) (pz_bb (B 2)) d = pz_lv B d := by
  unfold pz_ld pz_lv
  exact List.filter_congr (fun k hk => pz_b3k (by have := List.mem_range.mp hk; omega))
theorem pz_md3 : ∀ c, c < 41 → ∀ d, d < 4 → d ≠ 0 → nI c - nI c / nI d * nI d = nI (c % d) := by decide
def pz_tn (L : List Nat) (c : Nat) : Nat := if L.length = 0 ∨ c = 0 then 0 else L.getD ((c - 1) % L.length) 0 + 1
theorem pz_nxL (h : d < 4) : pz_nx (pz_bb (B 0)) (pz_bb (B 1)) (pz_bb (B 2)) d (pz_tn (pz_lv B d) c) = if (pz_lv B d).length = 0 then 3 else (pz_lv B d).getD (c % (pz_lv B d).length) 0 := by
  by_cases q : (pz_lv B d).length = 0
  · rw [if_pos q]
    unfold pz_tn
    rw [if_pos (Or.inl q)]
    exact pz_nxn _ _ _ d h (by rw [pz_ldL h]; exact q)
  · rw [if_neg q]
    unfold pz_tn
    have hc := fun m hm => pz_nxc (pz_bb (B 0)) (pz_bb (B 1)) (pz_bb (B 2)) d h m hm
    rw [pz_ldL h] at hc
    by_cases q2 : c = 0
    · rw [if_pos (Or.inr q2), q2, Nat.zero_mod]
      exact (hc 0 (by omega)).1
    · rw [if_neg (by omega), (hc _ (Nat.mod_lt _ (by omega))).2]
      congr 1
      rw [Nat.mod_add_mod, show c - 1 + 1 = c by omega]
theorem pz_tn3 (h : d < 4) : pz_tn (pz_lv B d) c ≤ 3 := by
  unfold pz_tn
  split
  · omega
  · rename_i q
    have := pz_lvm (B := B) (s := d) (m := (c - 1) % (pz_lv B d).length) (Nat.mod_lt _ (by omega))
    omega
/-- person xi's heirs that live -/
def pz_al (pe : pz_Q) (xi k : Nat) : Prop := pe.1 42 (pw_i (pe.2 xi k)) = 0
end PZDH
