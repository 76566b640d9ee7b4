/-! more of the model's methods that only tell -/
section PZX
variable {sc : pz_S} {sq : pz_Q} {pa : pz_P} {ri : pz_N} {mp : pz_N} {ca : pz_P} {dr : pz_N} {pe : pz_Q} {w0 w : pw_W} {K : pw_W → Int32 → Prop} {X : pw_W → Nat → Prop} {x y z t : Int32} {s r c : Nat}
noncomputable def pz_ite (P : Prop) (a b : Int32) : Int32 := @ite Int32 P (Classical.propDecidable P) a b
theorem pz_it {P : Prop} {a b : Int32} (h : P) : pz_ite P a b = a := if_pos h
theorem pz_if' {P : Prop} {a b : Int32} (h : ¬ P) : pz_ite P a b = b := if_neg h
theorem pz_iT {a b : Int32} : pz_ite True a b = a := if_pos trivial
theorem pz_iF {a b : Int32} : pz_ite False a b = b := if_neg id
/-- what a count that isn't a number of things sums up -/
noncomputable def pz_su (P : Nat → Prop) (v : Nat → Int32) (n : Nat) : Int32 := Nat.rec 0 (fun k a => pz_ite (P k) (a + v k) a) n
theorem pz_suS {P : Nat → Prop} {v : Nat → Int32} {n : Nat} : pz_su P v (n + 1) = pz_ite (P n) (pz_su P v n + v n) (pz_su P v n) := rfl
noncomputable def pz_sb (P : Nat → Prop) (v : Nat → Int32) (b : Int32) (n : Nat) : Int32 := Nat.rec b (fun k a => pz_ite (P k) (a - v k) a) n
theorem pz_sbS {P : Nat → Prop} {v : Nat → Int32} {b : Int32} {n : Nat} : pz_sb P v b (n + 1) = pz_ite (P n) (pz_sb P v b n - v n) (pz_sb P v b n) := rfl
/-- the root of a parcel, and that there is a way to it -/
def pz_root (pa : pz_P) : Prop := (∀ j, j < pa.1 → (pa.2.1 17 j = -1 ∧ pa.2.1 46 j = nI j) ∨ (¬ pa.2.1 17 j = -1 ∧ pw_jn (pa.2.1 17 j) pa.1 ∧ pa.2.1 46 j = pa.2.1 46 (pw_i (pa.2.1 17 j)))) ∧
  ∃ d : Nat → Nat, ∀ j, j < pa.1 → ¬ pa.2.1 17 j = -1 → d (pw_i (pa.2.1 17 j)) < d j
abbrev pz_ro (pa : pz_P) (x : Int32) : Int32 := pa.2.1 46 (pw_i x)
theorem pz_root.ok (h : pz_root pa) : ∀ j, j < pa.1 → pw_jn (pa.2.1 46 j) pa.1 ∧ pa.2.1 17 (pw_i (pa.2.1 46 j)) = -1 ∧ pa.1 < 2147483648 → True := fun _ _ _ => trivial
theorem pz_root.is (h : pz_root pa) (hn : pa.1 ≤ 40) : ∀ j, j < pa.1 → pw_jn (pa.2.1 46 j) pa.1 ∧ pa.2.1 17 (pw_i (pa.2.1 46 j)) = -1 := by
  obtain ⟨h1, d, h2⟩ := h
  have H : ∀ n j, j < pa.1 → d j ≤ n → pw_jn (pa.2.1 46 j) pa.1 ∧ pa.2.1 17 (pw_i (pa.2.1 46 j)) = -1 := by
    intro n
    induction n with
    | zero =>
      intro j hj hd
      rcases h1 j hj with ⟨a, b⟩ | ⟨a, b, e⟩
      · rw [b, pz_i (by omega)]; exact ⟨pz_jn hj (by omega), a⟩
      · have := h2 j hj a; omega
    | succ n ih =>
      intro j hj hd
      rcases h1 j hj with ⟨a, b⟩ | ⟨a, b, e⟩
      · rw [b, pz_i (by omega)]; exact ⟨pz_jn hj (by omega), a⟩
      · have := h2 j hj a
        rw [e]
        exact ih _ b.2 (by omega)
  exact fun j hj => H (d j) j hj (Nat.le_refl _)
/-- what a right is worth -/
noncomputable def pz_lf (ri : pz_N) (sq : pz_Q) (x : Int32) (n : Nat) : Int32 := pz_sb (fun k => pz_on ri x k ∧ ri.2 20 k = 0) (ri.2 23) (2 * pz_ct (fun s => sq.1 8 s = x) 100) n
noncomputable def pz_wo (ri : pz_N) (sq : pz_Q) (r : Nat) : Int32 := pz_ite (ri.2 20 r = 0 ∧ 0 ≤ pz_lf ri sq (ri.2 21 r) r) (pz_mn (ri.2 23 r) (pz_lf ri sq (ri.2 21 r) r)) 0
noncomputable def pz_wr (ri : pz_N) (sq : pz_Q) (q x : Int32) : Int32 := pz_su (fun r => pz_on ri x r ∧ ri.2 22 r = q) (pz_wo ri sq) ri.1
def pz_cg (sq : pz_Q) (pa : pz_P) (ri : pz_N) (pe : pz_Q) (x y z t : Int32) : Prop := pz_ex (fun s => sq.1 8 s = x ∧ pz_if (nI s) y z) 100 ∧ pe.1 42 (pw_i t) = 0 ∧ pa.1 < 40 ∧ ri.1 + pz_cn (pz_on ri x) ri.1 ≤ 80
theorem pz_c0 {P : Nat → Prop} {n : Nat} (hn : n < 2147483648) : (pz_ct P n ≤ 0) = ¬ pz_ex P n := by
  rw [show (pz_ct P n ≤ 0) = (nI (pz_cn P n) ≤ nI 0) from rfl, pz_le (by have := pz_cn_le (P := P) (n := n); omega) (by decide), ← pz_cn0]
  exact propext ⟨fun h => Nat.le_zero.mp h, fun h => by omega⟩
theorem pz_c0e {P : Nat → Prop} {n : Nat} (hn : n < 2147483648) : (pz_ct P n = 0) = ¬ pz_ex P n := by
  rw [show (pz_ct P n = 0) = (nI (pz_cn P n) = nI 0) from rfl, pz_eq (by have := pz_cn_le (P := P) (n := n); omega) (by decide), ← pz_cn0]
def pz_as (x y z : Int32) : Prop := pw_jn x 12 ∧ pw_jn y 100 ∧ pw_jn z 100
def pz_mp (mp : pz_N) (q s : Int32) (m : Nat) : Prop := mp.2 27 m = q ∧ pz_if s (mp.2 28 m) (mp.2 29 m)
def pz_cl (sc : pz_S) (sq : pz_Q) (mp : pz_N) (q u : Int32) (s : Nat) : Prop := (u = 0 ∧ pz_ex (pz_mp mp q (nI s)) mp.1) ∨ (¬ u = 0 ∧ sq.1 10 s = q ∧ ¬ sc 1 - sq.1 11 s < 720)
end PZX
