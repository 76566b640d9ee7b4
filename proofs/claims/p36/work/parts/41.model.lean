/-! the pure state, by components; the model holds it -/
abbrev pz_F : Type := Nat → Nat → Int32
/-- scalars: 0 thrown, 1 today, 2 wind, 3 rained, 4 ran, 5 dried -/
abbrev pz_S : Type := Nat → Int32
/-- fields 6..14 by square, and the chain; also: 42 44 45 by person, and the heirs -/
abbrev pz_Q : Type := pz_F × pz_F
/-- a count, fields and rows: parcels 16 17 and their root 46, sheep; cases 31..36, what they cover -/
abbrev pz_P : Type := Nat × pz_F × pz_F
/-- a count and fields: rights 20..25, maps 27..29, drains 39 40 -/
abbrev pz_N : Type := Nat × pz_F
def pz_u (F : pz_F) (k i : Nat) (v : Int32) : pz_F := fun a b => if a = k ∧ b = i then v else F a b
def pz_u1 (F : pz_S) (k : Nat) (v : Int32) : pz_S := fun a => if a = k then v else F a
noncomputable def pz_b (P : Prop) : Int32 := @ite Int32 P (Classical.propDecidable P) 1 0
theorem pz_bt {P : Prop} (h : P) : pz_b P = 1 := if_pos h
theorem pz_bf {P : Prop} (h : ¬ P) : pz_b P = 0 := if_neg h
theorem pz_b0 {P : Prop} : pz_b P = 0 ↔ ¬ P := ⟨fun h hp => by rw [pz_bt hp] at h; exact absurd h (by decide), pz_bf⟩
theorem pz_b01 {P : Prop} : pz_b P = 0 ∨ pz_b P = 1 := by
  by_cases h : P
  · exact Or.inr (pz_bt h)
  · exact Or.inl (pz_bf h)
theorem pz_kt {P : Prop} {K : Int32 → Prop} (k : K (pz_b P)) (h : P) : K 1 := by rw [pz_bt h] at k; exact k
theorem pz_kf {P : Prop} {K : Int32 → Prop} (k : K (pz_b P)) (h : ¬ P) : K 0 := by rw [pz_bf h] at k; exact k
theorem pz_i {n : Nat} (h : n < 2147483648) : pw_i (nI n) = n := by
  show (Int32.ofNat n).toNatClampNeg = n
  exact Int32.toNatClampNeg_ofNat_of_lt h
theorem pz_le {a b : Nat} (ha : a < 2147483648) (hb : b < 2147483648) : (nI a ≤ nI b) = (a ≤ b) := propext (Int32.ofNat_le_iff_le ha hb)
theorem pz_lt {a b : Nat} (ha : a < 2147483648) (hb : b < 2147483648) : (nI a < nI b) = (a < b) := propext (Int32.ofNat_lt_iff_lt ha hb)
theorem pz_eq {a b : Nat} (ha : a < 2147483648) (hb : b < 2147483648) : (nI a = nI b) = (a = b) := propext ⟨fun h => by rw [← pz_i ha, h, pz_i hb], fun h => by rw [h]⟩
theorem pz_add (a b : Nat) : nI a + nI b = nI (a + b) := (Int32.ofNat_add a b).symm
theorem pz_mul (a b : Nat) : nI a * nI b = nI (a * b) := (Int32.ofNat_mul a b).symm
theorem pz_s1 (a : Nat) : nI a + 1 = nI (a + 1) := pz_add a 1
theorem pz_p1 (a : Nat) : nI (a + 1) - 1 = nI a := by
  rw [← pz_s1]; exact Int32.add_sub_cancel _ _
theorem pz_nn {a : Nat} (ha : a < 2147483648) : (0 : Int32) ≤ nI a := by
  show nI 0 ≤ nI a
  rw [pz_le (by decide) ha]; exact Nat.zero_le _
theorem pz_jn {a n : Nat} (h : a < n) (ha : a < 2147483648) : pw_jn (nI a) n := ⟨pz_nn ha, by rw [pz_i ha]; exact h⟩
theorem pz_of {x : Int32} {n : Nat} (h : pw_jn x n) : ∃ a, a < n ∧ x = nI a := ⟨pw_i x, h.2, (pw_nIi h.1).symm⟩
theorem pz_ib (x : Int32) : pw_i x < 2147483648 := by
  show x.toInt.toNat < 2147483648
  have := Int32.toInt_lt x
  omega

theorem pz_l0 : (0 : Int32) = nI 0 := rfl
theorem pz_l1 : (1 : Int32) = nI 1 := rfl
theorem pz_l3 : (3 : Int32) = nI 3 := rfl
theorem pz_l5 : (5 : Int32) = nI 5 := rfl
theorem pz_l9 : (9 : Int32) = nI 9 := rfl
theorem pz_l10 : (10 : Int32) = nI 10 := rfl
theorem pz_l11 : (11 : Int32) = nI 11 := rfl
theorem pz_l12 : (12 : Int32) = nI 12 := rfl
theorem pz_l20 : (20 : Int32) = nI 20 := rfl
theorem pz_l40 : (40 : Int32) = nI 40 := rfl
theorem pz_l60 : (60 : Int32) = nI 60 := rfl
theorem pz_l80 : (80 : Int32) = nI 80 := rfl
theorem pz_l99 : (99 : Int32) = nI 99 := rfl
theorem pz_l100 : (100 : Int32) = nI 100 := rfl
theorem pz_l200 : (200 : Int32) = nI 200 := rfl
theorem pz_l249 : (249 : Int32) = nI 249 := rfl
theorem pz_l250 : (250 : Int32) = nI 250 := rfl
theorem pz_l400 : (400 : Int32) = nI 400 := rfl
theorem pz_up {F : Nat → Nat → pw_W → Prop} {I : Nat → pw_W → Prop} (N : Nat) (hs : ∀ s w k, s < N → I s w → (∀ w1, I (s + 1) w1 → F k (s + 1) w1) → F (k + 1) s w) (he : ∀ w, I N w → F 1 N w) {w : pw_W} (h : I 0 w) : ∃ k, F k 0 w := by
  have H : ∀ n s, s + n = N → ∀ w, I s w → F (n + 1) s w := by
    intro n
    induction n with
    | zero => intro s e w hi; have e : s = N := e; subst e; exact he w hi
    | succ n ih => intro s e w hi; exact hs s w (n + 1) (by omega) hi fun w1 h1 => ih (s + 1) (by omega) w1 h1
  exact ⟨N + 1, H N 0 (by omega) w h⟩
def pz_msc (sc : pz_S) (w : pw_W) : Prop := w.1 8 0 0 = sc 0 ∧ w.1 8 0 1 = sc 1 ∧ w.1 8 0 2 = sc 2 ∧ w.1 8 0 3 = sc 3 ∧ w.1 8 0 4 = sc 4 ∧ w.1 8 0 5 = sc 5
def pz_msq (sq : pz_Q) (w : pw_W) : Prop := (∀ i, w.1 206 0 i = sq.1 6 i) ∧ (∀ i, w.1 207 0 i = sq.1 7 i) ∧ (∀ i, w.1 208 0 i = sq.1 8 i) ∧ (∀ i, w.1 209 0 i = sq.1 9 i) ∧ (∀ i, w.1 210 0 i = sq.1 10 i) ∧ (∀ i, w.1 211 0 i = sq.1 11 i) ∧ (∀ i, w.1 212 0 i = sq.1 12 i) ∧ (∀ i, w.1 213 0 i = sq.1 13 i) ∧ (∀ i, w.1 214 0 i = sq.1 14 i) ∧ (∀ s j, s < 100 → j < 250 → w.1 215 0 (250 * s + j) = sq.2 s j)
def pz_mpa (pa : pz_P) (w : pw_W) : Prop := (∀ i, w.1 216 0 i = pa.2.1 16 i) ∧ (∀ i, w.1 217 0 i = pa.2.1 17 i) ∧ (∀ s j, s < 40 → j < 12 → w.1 219 0 (12 * s + j) = pa.2.2 s j) ∧ w.1 8 0 18 = nI pa.1
def pz_mri (ri : pz_N) (w : pw_W) : Prop := (∀ i, w.1 220 0 i = ri.2 20 i) ∧ (∀ i, w.1 221 0 i = ri.2 21 i) ∧ (∀ i, w.1 222 0 i = ri.2 22 i) ∧ (∀ i, w.1 223 0 i = ri.2 23 i) ∧ (∀ i, w.1 224 0 i = ri.2 24 i) ∧ (∀ i, w.1 225 0 i = ri.2 25 i) ∧ w.1 8 0 26 = nI ri.1
def pz_mmp (mp : pz_N) (w : pw_W) : Prop := (∀ i, w.1 227 0 i = mp.2 27 i) ∧ (∀ i, w.1 228 0 i = mp.2 28 i) ∧ (∀ i, w.1 229 0 i = mp.2 29 i) ∧ w.1 8 0 30 = nI mp.1
def pz_mca (ca : pz_P) (w : pw_W) : Prop := (∀ i, w.1 231 0 i = ca.2.1 31 i) ∧ (∀ i, w.1 232 0 i = ca.2.1 32 i) ∧ (∀ i, w.1 233 0 i = ca.2.1 33 i) ∧ (∀ i, w.1 234 0 i = ca.2.1 34 i) ∧ (∀ i, w.1 235 0 i = ca.2.1 35 i) ∧ (∀ i, w.1 236 0 i = ca.2.1 36 i) ∧ (∀ s j, s < 16 → j < 100 → w.1 237 0 (100 * s + j) = ca.2.2 s j) ∧ w.1 8 0 38 = nI ca.1
def pz_mdr (dr : pz_N) (w : pw_W) : Prop := (∀ i, w.1 239 0 i = dr.2 39 i) ∧ (∀ i, w.1 240 0 i = dr.2 40 i) ∧ w.1 8 0 41 = nI dr.1
def pz_mpe (pe : pz_Q) (w : pw_W) : Prop := (∀ i, w.1 242 0 i = pe.1 42 i) ∧ (∀ i, w.1 244 0 i = pe.1 44 i) ∧ (∀ i, w.1 245 0 i = pe.1 45 i) ∧ (∀ s j, s < 12 → j < 3 → w.1 243 0 (3 * s + j) = pe.2 s j)
def pz_ml (w : pw_W) : Prop := pw_ln w 206 0 = 100 ∧ pw_ln w 207 0 = 100 ∧ pw_ln w 208 0 = 100 ∧ pw_ln w 209 0 = 100 ∧ pw_ln w 210 0 = 100 ∧ pw_ln w 211 0 = 100 ∧ pw_ln w 212 0 = 100 ∧ pw_ln w 213 0 = 100 ∧ pw_ln w 214 0 = 100 ∧ pw_ln w 215 0 = 25000 ∧ pw_ln w 216 0 = 40 ∧ pw_ln w 217 0 = 40 ∧ pw_ln w 219 0 = 480 ∧ pw_ln w 220 0 = 80 ∧ pw_ln w 221 0 = 80 ∧ pw_ln w 222 0 = 80 ∧ pw_ln w 223 0 = 80 ∧ pw_ln w 224 0 = 80 ∧ pw_ln w 225 0 = 80 ∧ pw_ln w 227 0 = 12 ∧ pw_ln w 228 0 = 12 ∧ pw_ln w 229 0 = 12 ∧ pw_ln w 231 0 = 16 ∧ pw_ln w 232 0 = 16 ∧ pw_ln w 233 0 = 16 ∧ pw_ln w 234 0 = 16 ∧ pw_ln w 235 0 = 16 ∧ pw_ln w 236 0 = 16 ∧ pw_ln w 237 0 = 1600 ∧ pw_ln w 239 0 = 20 ∧ pw_ln w 240 0 = 20 ∧ pw_ln w 242 0 = 12 ∧ pw_ln w 243 0 = 36 ∧ pw_ln w 244 0 = 12 ∧ pw_ln w 245 0 = 12
def pz_mr (w : pw_W) : Prop := w.1 8 0 6 = 0 ∧ w.1 8 0 7 = 0 ∧ w.1 8 0 8 = 0 ∧ w.1 8 0 9 = 0 ∧ w.1 8 0 10 = 0 ∧ w.1 8 0 11 = 0 ∧ w.1 8 0 12 = 0 ∧ w.1 8 0 13 = 0 ∧ w.1 8 0 14 = 0 ∧ w.1 8 0 15 = 0 ∧ w.1 8 0 16 = 0 ∧ w.1 8 0 17 = 0 ∧ w.1 8 0 19 = 0 ∧ w.1 8 0 20 = 0 ∧ w.1 8 0 21 = 0 ∧ w.1 8 0 22 = 0 ∧ w.1 8 0 23 = 0 ∧ w.1 8 0 24 = 0 ∧ w.1 8 0 25 = 0 ∧ w.1 8 0 27 = 0 ∧ w.1 8 0 28 = 0 ∧ w.1 8 0 29 = 0 ∧ w.1 8 0 31 = 0 ∧ w.1 8 0 32 = 0 ∧ w.1 8 0 33 = 0 ∧ w.1 8 0 34 = 0 ∧ w.1 8 0 35 = 0 ∧ w.1 8 0 36 = 0 ∧ w.1 8 0 37 = 0 ∧ w.1 8 0 39 = 0 ∧ w.1 8 0 40 = 0 ∧ w.1 8 0 42 = 0 ∧ w.1 8 0 43 = 0 ∧ w.1 8 0 44 = 0 ∧ w.1 8 0 45 = 0
/-- the model holds the state; what isn't the model's is as in w0 -/
def pz_m (sc : pz_S) (sq : pz_Q) (pa : pz_P) (ri : pz_N) (mp : pz_N) (ca : pz_P) (dr : pz_N) (pe : pz_Q) (w0 w : pw_W) : Prop := ((∀ f, f < 200 → f ≠ 8 → w.1 f = w0.1 f) ∧ w.2 = w0.2) ∧ pz_ml w ∧ pz_mr w ∧ pz_msc sc w ∧ pz_msq sq w ∧ pz_mpa pa w ∧ pz_mri ri w ∧ pz_mmp mp w ∧ pz_mca ca w ∧ pz_mdr dr w ∧ pz_mpe pe w
section PZM
variable {sc : pz_S} {sq : pz_Q} {pa : pz_P} {ri : pz_N} {mp : pz_N} {ca : pz_P} {dr : pz_N} {pe : pz_Q} {w0 w : pw_W}
theorem pz_me (h : pz_m sc sq pa ri mp ca dr pe w0 w) : pw_ln w 206 0 = 100 ∧ pw_ln w 207 0 = 100 ∧ pw_ln w 208 0 = 100 ∧ pw_ln w 209 0 = 100 ∧ pw_ln w 210 0 = 100 ∧ pw_ln w 211 0 = 100 ∧ pw_ln w 212 0 = 100 ∧ pw_ln w 213 0 = 100 ∧ pw_ln w 214 0 = 100 ∧ pw_ln w 215 0 = 25000 ∧ pw_ln w 216 0 = 40 ∧ pw_ln w 217 0 = 40 ∧ pw_ln w 219 0 = 480 ∧ pw_ln w 220 0 = 80 ∧ pw_ln w 221 0 = 80 ∧ pw_ln w 222 0 = 80 ∧ pw_ln w 223 0 = 80 ∧ pw_ln w 224 0 = 80 ∧ pw_ln w 225 0 = 80 ∧ pw_ln w 227 0 = 12 ∧ pw_ln w 228 0 = 12 ∧ pw_ln w 229 0 = 12 ∧ pw_ln w 231 0 = 16 ∧ pw_ln w 232 0 = 16 ∧ pw_ln w 233 0 = 16 ∧ pw_ln w 234 0 = 16 ∧ pw_ln w 235 0 = 16 ∧ pw_ln w 236 0 = 16 ∧ pw_ln w 237 0 = 1600 ∧ pw_ln w 239 0 = 20 ∧ pw_ln w 240 0 = 20 ∧ pw_ln w 242 0 = 12 ∧ pw_ln w 243 0 = 36 ∧ pw_ln w 244 0 = 12 ∧ pw_ln w 245 0 = 12 ∧ w.1 8 0 6 = 0 ∧ w.1 8 0 7 = 0 ∧ w.1 8 0 8 = 0 ∧ w.1 8 0 9 = 0 ∧ w.1 8 0 10 = 0 ∧ w.1 8 0 11 = 0 ∧ w.1 8 0 12 = 0 ∧ w.1 8 0 13 = 0 ∧ w.1 8 0 14 = 0 ∧ w.1 8 0 15 = 0 ∧ w.1 8 0 16 = 0 ∧ w.1 8 0 17 = 0 ∧ w.1 8 0 19 = 0 ∧ w.1 8 0 20 = 0 ∧ w.1 8 0 21 = 0 ∧ w.1 8 0 22 = 0 ∧ w.1 8 0 23 = 0 ∧ w.1 8 0 24 = 0 ∧ w.1 8 0 25 = 0 ∧ w.1 8 0 27 = 0 ∧ w.1 8 0 28 = 0 ∧ w.1 8 0 29 = 0 ∧ w.1 8 0 31 = 0 ∧ w.1 8 0 32 = 0 ∧ w.1 8 0 33 = 0 ∧ w.1 8 0 34 = 0 ∧ w.1 8 0 35 = 0 ∧ w.1 8 0 36 = 0 ∧ w.1 8 0 37 = 0 ∧ w.1 8 0 39 = 0 ∧ w.1 8 0 40 = 0 ∧ w.1 8 0 42 = 0 ∧ w.1 8 0 43 = 0 ∧ w.1 8 0 44 = 0 ∧ w.1 8 0 45 = 0 ∧ w.1 8 0 0 = sc 0 ∧ w.1 8 0 1 = sc 1 ∧ w.1 8 0 2 = sc 2 ∧ w.1 8 0 3 = sc 3 ∧ w.1 8 0 4 = sc 4 ∧ w.1 8 0 5 = sc 5 ∧ (∀ i, w.1 206 0 i = sq.1 6 i) ∧ (∀ i, w.1 207 0 i = sq.1 7 i) ∧ (∀ i, w.1 208 0 i = sq.1 8 i) ∧ (∀ i, w.1 209 0 i = sq.1 9 i) ∧ (∀ i, w.1 210 0 i = sq.1 10 i) ∧ (∀ i, w.1 211 0 i = sq.1 11 i) ∧ (∀ i, w.1 212 0 i = sq.1 12 i) ∧ (∀ i, w.1 213 0 i = sq.1 13 i) ∧ (∀ i, w.1 214 0 i = sq.1 14 i) ∧ (∀ i, w.1 216 0 i = pa.2.1 16 i) ∧ (∀ i, w.1 217 0 i = pa.2.1 17 i) ∧ w.1 8 0 18 = nI pa.1 ∧ (∀ i, w.1 220 0 i = ri.2 20 i) ∧ (∀ i, w.1 221 0 i = ri.2 21 i) ∧ (∀ i, w.1 222 0 i = ri.2 22 i) ∧ (∀ i, w.1 223 0 i = ri.2 23 i) ∧ (∀ i, w.1 224 0 i = ri.2 24 i) ∧ (∀ i, w.1 225 0 i = ri.2 25 i) ∧ w.1 8 0 26 = nI ri.1 ∧ (∀ i, w.1 227 0 i = mp.2 27 i) ∧ (∀ i, w.1 228 0 i = mp.2 28 i) ∧ (∀ i, w.1 229 0 i = mp.2 29 i) ∧ w.1 8 0 30 = nI mp.1 ∧ (∀ i, w.1 231 0 i = ca.2.1 31 i) ∧ (∀ i, w.1 232 0 i = ca.2.1 32 i) ∧ (∀ i, w.1 233 0 i = ca.2.1 33 i) ∧ (∀ i, w.1 234 0 i = ca.2.1 34 i) ∧ (∀ i, w.1 235 0 i = ca.2.1 35 i) ∧ (∀ i, w.1 236 0 i = ca.2.1 36 i) ∧ w.1 8 0 38 = nI ca.1 ∧ (∀ i, w.1 239 0 i = dr.2 39 i) ∧ (∀ i, w.1 240 0 i = dr.2 40 i) ∧ w.1 8 0 41 = nI dr.1 ∧ (∀ i, w.1 242 0 i = pe.1 42 i) ∧ (∀ i, w.1 244 0 i = pe.1 44 i) ∧ (∀ i, w.1 245 0 i = pe.1 45 i) :=
  ⟨h.2.1.1, h.2.1.2.1, h.2.1.2.2.1, h.2.1.2.2.2.1, h.2.1.2.2.2.2.1, h.2.1.2.2.2.2.2.1, h.2.1.2.2.2.2.2.2.1, h.2.1.2.2.2.2.2.2.2.1, h.2.1.2.2.2.2.2.2.2.2.1, h.2.1.2.2.2.2.2.2.2.2.2.1, h.2.1.2.2.2.2.2.2.2.2.2.2.1, h.2.1.2.2.2.2.2.2.2.2.2.2.2.1, h.2.1.2.2.2.2.2.2.2.2.2.2.2.2.1, h.2.1.2.2.2.2.2.2.2.2.2.2.2.2.2.1, h.2.1.2.2.2.2.2.2.2.2.2.2.2.2.2.2.1, h.2.1.2.2.2.2.2.2.2.2.2.2.2.2.2.2.2.1, h.2.1.2.2.2.2.2.2.2.2.2.2.2.2.2.2.2.2.1, h.2.1.2.2.2.2.2.2.2.2.2.2.2.2.2.2.2.2.2.1, h.2.1.2.2.2.2.2.2.2.2.2.2.2.2.2.2.2.2.2.2.1, h.2.1.2.2.2.2.2.2.2.2.2.2.2.2.2.2.2.2.2.2.2.1, h.2.1.2.2.2.2.2.2.2.2.2.2.2.2.2.2.2.2.2.2.2.2.1, h.2.1.2.2.2.2.2.2.2.2.2.2.2.2.2.2.2.2.2.2.2.2.2.1, h.2.1.2.2.2.2.2.2.2.2.2.2.2.2.2.2.2.2.2.2.2.2.2.2.1, h.2.1.2.2.2.2.2.2.2.2.2.2.2.2.2.2.2.2.2.2.2.2.2.2.2.1, h.2.1.2.2.2.2.2.2.2.2.2.2.2.2.2.2.2.2.2.2.2.2.2.2.2.2.1, h.2.1.2.2.2.2.2.2.2.2.2.2.2.2.2.2.2.2.2.2.2.2.2.2.2.2.2.1, h.2.1.2.2.2.2.2.2.2.2.2.2.2.2.2.2.2.2.2.2.2.2.2.2.2.2.2.2.1, h.2.1.2.2.2.2.2.2.2.2.2.2.2.2.2.2.2.2.2.2.2.2.2.2.2.2.2.2.2.1, h.2.1.2.2.2.2.2.2.2.2.2.2.2.2.2.2.2.2.2.2.2.2.2.2.2.2.2.2.2.2.1, h.2.1.2.2.2.2.2.2.2.2.2.2.2.2.2.2.2.2.2.2.2.2.2.2.2.2.2.2.2.2.2.1, h.2.1.2.2.2.2.2.2.2.2.2.2.2.2.2.2.2.2.2.2.2.2.2.2.2.2.2.2.2.2.2.2.1, h.2.1.2.2.2.2.2.2.2.2.2.2.2.2.2.2.2.2.2.2.2.2.2.2.2.2.2.2.2.2.2.2.2.1, h.2.1.2.2.2.2.2.2.2.2.2.2.2.2.2.2.2.2.2.2.2.2.2.2.2.2.2.2.2.2.2.2.2.2.1, h.2.1.2.2.2.2.2.2.2.2.2.2.2.2.2.2.2.2.2.2.2.2.2.2.2.2.2.2.2.2.2.2.2.2.2.1, h.2.1.2.2.2.2.2.2.2.2.2.2.2.2.2.2.2.2.2.2.2.2.2.2.2.2.2.2.2.2.2.2.2.2.2.2, h.2.2.1.1, h.2.2.1.2.1, h.2.2.1.2.2.1, h.2.2.1.2.2.2.1, h.2.2.1.2.2.2.2.1, h.2.2.1.2.2.2.2.2.1, h.2.2.1.2.2.2.2.2.2.1, h.2.2.1.2.2.2.2.2.2.2.1, h.2.2.1.2.2.2.2.2.2.2.2.1, h.2.2.1.2.2.2.2.2.2.2.2.2.1, h.2.2.1.2.2.2.2.2.2.2.2.2.2.1, h.2.2.1.2.2.2.2.2.2.2.2.2.2.2.1, h.2.2.1.2.2.2.2.2.2.2.2.2.2.2.2.1, h.2.2.1.2.2.2.2.2.2.2.2.2.2.2.2.2.1, h.2.2.1.2.2.2.2.2.2.2.2.2.2.2.2.2.2.1, h.2.2.1.2.2.2.2.2.2.2.2.2.2.2.2.2.2.2.1, h.2.2.1.2.2.2.2.2.2.2.2.2.2.2.2.2.2.2.2.1, h.2.2.1.2.2.2.2.2.2.2.2.2.2.2.2.2.2.2.2.2.1, h.2.2.1.2.2.2.2.2.2.2.2.2.2.2.2.2.2.2.2.2.2.1, h.2.2.1.2.2.2.2.2.2.2.2.2.2.2.2.2.2.2.2.2.2.2.1, h.2.2.1.2.2.2.2.2.2.2.2.2.2.2.2.2.2.2.2.2.2.2.2.1, h.2.2.1.2.2.2.2.2.2.2.2.2.2.2.2.2.2.2.2.2.2.2.2.2.1, h.2.2.1.2.2.2.2.2.2.2.2.2.2.2.2.2.2.2.2.2.2.2.2.2.2.1, h.2.2.1.2.2.2.2.2.2.2.2.2.2.2.2.2.2.2.2.2.2.2.2.2.2.2.1, h.2.2.1.2.2.2.2.2.2.2.2.2.2.2.2.2.2.2.2.2.2.2.2.2.2.2.2.1, h.2.2.1.2.2.2.2.2.2.2.2.2.2.2.2.2.2.2.2.2.2.2.2.2.2.2.2.2.1, h.2.2.1.2.2.2.2.2.2.2.2.2.2.2.2.2.2.2.2.2.2.2.2.2.2.2.2.2.2.1, h.2.2.1.2.2.2.2.2.2.2.2.2.2.2.2.2.2.2.2.2.2.2.2.2.2.2.2.2.2.2.1, h.2.2.1.2.2.2.2.2.2.2.2.2.2.2.2.2.2.2.2.2.2.2.2.2.2.2.2.2.2.2.2.1, h.2.2.1.2.2.2.2.2.2.2.2.2.2.2.2.2.2.2.2.2.2.2.2.2.2.2.2.2.2.2.2.2.1, h.2.2.1.2.2.2.2.2.2.2.2.2.2.2.2.2.2.2.2.2.2.2.2.2.2.2.2.2.2.2.2.2.2.1, h.2.2.1.2.2.2.2.2.2.2.2.2.2.2.2.2.2.2.2.2.2.2.2.2.2.2.2.2.2.2.2.2.2.2.1, h.2.2.1.2.2.2.2.2.2.2.2.2.2.2.2.2.2.2.2.2.2.2.2.2.2.2.2.2.2.2.2.2.2.2.2.1, h.2.2.1.2.2.2.2.2.2.2.2.2.2.2.2.2.2.2.2.2.2.2.2.2.2.2.2.2.2.2.2.2.2.2.2.2.1, h.2.2.1.2.2.2.2.2.2.2.2.2.2.2.2.2.2.2.2.2.2.2.2.2.2.2.2.2.2.2.2.2.2.2.2.2.2, h.2.2.2.1.1, h.2.2.2.1.2.1, h.2.2.2.1.2.2.1, h.2.2.2.1.2.2.2.1, h.2.2.2.1.2.2.2.2.1, h.2.2.2.1.2.2.2.2.2, h.2.2.2.2.1.1, h.2.2.2.2.1.2.1, h.2.2.2.2.1.2.2.1, h.2.2.2.2.1.2.2.2.1, h.2.2.2.2.1.2.2.2.2.1, h.2.2.2.2.1.2.2.2.2.2.1, h.2.2.2.2.1.2.2.2.2.2.2.1, h.2.2.2.2.1.2.2.2.2.2.2.2.1, h.2.2.2.2.1.2.2.2.2.2.2.2.2.1, h.2.2.2.2.2.1.1, h.2.2.2.2.2.1.2.1, h.2.2.2.2.2.1.2.2.2, h.2.2.2.2.2.2.1.1, h.2.2.2.2.2.2.1.2.1, h.2.2.2.2.2.2.1.2.2.1, h.2.2.2.2.2.2.1.2.2.2.1, h.2.2.2.2.2.2.1.2.2.2.2.1, h.2.2.2.2.2.2.1.2.2.2.2.2.1, h.2.2.2.2.2.2.1.2.2.2.2.2.2, h.2.2.2.2.2.2.2.1.1, h.2.2.2.2.2.2.2.1.2.1, h.2.2.2.2.2.2.2.1.2.2.1, h.2.2.2.2.2.2.2.1.2.2.2, h.2.2.2.2.2.2.2.2.1.1, h.2.2.2.2.2.2.2.2.1.2.1, h.2.2.2.2.2.2.2.2.1.2.2.1, h.2.2.2.2.2.2.2.2.1.2.2.2.1, h.2.2.2.2.2.2.2.2.1.2.2.2.2.1, h.2.2.2.2.2.2.2.2.1.2.2.2.2.2.1, h.2.2.2.2.2.2.2.2.1.2.2.2.2.2.2.2, h.2.2.2.2.2.2.2.2.2.1.1, h.2.2.2.2.2.2.2.2.2.1.2.1, h.2.2.2.2.2.2.2.2.2.1.2.2, h.2.2.2.2.2.2.2.2.2.2.1, h.2.2.2.2.2.2.2.2.2.2.2.1, h.2.2.2.2.2.2.2.2.2.2.2.2.1⟩
theorem pz_md15 (h : pz_m sc sq pa ri mp ca dr pe w0 w) : (∀ s j, s < 100 → j < 250 → w.1 215 0 (250 * s + j) = sq.2 s j) := h.2.2.2.2.1.2.2.2.2.2.2.2.2.2
theorem pz_md19 (h : pz_m sc sq pa ri mp ca dr pe w0 w) : (∀ s j, s < 40 → j < 12 → w.1 219 0 (12 * s + j) = pa.2.2 s j) := h.2.2.2.2.2.1.2.2.1
theorem pz_md37 (h : pz_m sc sq pa ri mp ca dr pe w0 w) : (∀ s j, s < 16 → j < 100 → w.1 237 0 (100 * s + j) = ca.2.2 s j) := h.2.2.2.2.2.2.2.2.1.2.2.2.2.2.2.1
theorem pz_md43 (h : pz_m sc sq pa ri mp ca dr pe w0 w) : (∀ s j, s < 12 → j < 3 → w.1 243 0 (3 * s + j) = pe.2 s j) := h.2.2.2.2.2.2.2.2.2.2.2.2.2
theorem pz_ms0 (h : pz_m sc sq pa ri mp ca dr pe w0 w) {v : Int32} : pz_m (pz_u1 sc 0 v) sq pa ri mp ca dr pe w0 (pw_ps w 8 0 0 v) := by
  refine ⟨⟨fun f h1 h2 => (funext fun b => funext fun d => if_neg (fun q => absurd q.1 (by omega)) : (pw_ps w 8 _ _ _).1 f = w.1 f).trans (h.1.1 f h1 h2), h.1.2⟩, h.2.1, h.2.2.1, ?_, h.2.2.2.2.1, h.2.2.2.2.2.1, h.2.2.2.2.2.2.1, h.2.2.2.2.2.2.2.1, h.2.2.2.2.2.2.2.2.1, h.2.2.2.2.2.2.2.2.2.1, h.2.2.2.2.2.2.2.2.2.2⟩
  exact ⟨rfl, h.2.2.2.1.2.1, h.2.2.2.1.2.2.1, h.2.2.2.1.2.2.2.1, h.2.2.2.1.2.2.2.2.1, h.2.2.2.1.2.2.2.2.2⟩
theorem pz_ms1 (h : pz_m sc sq pa ri mp ca dr pe w0 w) {v : Int32} : pz_m (pz_u1 sc 1 v) sq pa ri mp ca dr pe w0 (pw_ps w 8 0 1 v) := by
  refine ⟨⟨fun f h1 h2 => (funext fun b => funext fun d => if_neg (fun q => absurd q.1 (by omega)) : (pw_ps w 8 _ _ _).1 f = w.1 f).trans (h.1.1 f h1 h2), h.1.2⟩, h.2.1, h.2.2.1, ?_, h.2.2.2.2.1, h.2.2.2.2.2.1, h.2.2.2.2.2.2.1, h.2.2.2.2.2.2.2.1, h.2.2.2.2.2.2.2.2.1, h.2.2.2.2.2.2.2.2.2.1, h.2.2.2.2.2.2.2.2.2.2⟩
  exact ⟨h.2.2.2.1.1, rfl, h.2.2.2.1.2.2.1, h.2.2.2.1.2.2.2.1, h.2.2.2.1.2.2.2.2.1, h.2.2.2.1.2.2.2.2.2⟩
theorem pz_ms2 (h : pz_m sc sq pa ri mp ca dr pe w0 w) {v : Int32} : pz_m (pz_u1 sc 2 v) sq pa ri mp ca dr pe w0 (pw_ps w 8 0 2 v) := by
  refine ⟨⟨fun f h1 h2 => (funext fun b => funext fun d => if_neg (fun q => absurd q.1 (by omega)) : (pw_ps w 8 _ _ _).1 f = w.1 f).trans (h.1.1 f h1 h2), h.1.2⟩, h.2.1, h.2.2.1, ?_, h.2.2.2.2.1, h.2.2.2.2.2.1, h.2.2.2.2.2.2.1, h.2.2.2.2.2.2.2.1, h.2.2.2.2.2.2.2.2.1, h.2.2.2.2.2.2.2.2.2.1, h.2.2.2.2.2.2.2.2.2.2⟩
  exact ⟨h.2.2.2.1.1, h.2.2.2.1.2.1, rfl, h.2.2.2.1.2.2.2.1, h.2.2.2.1.2.2.2.2.1, h.2.2.2.1.2.2.2.2.2⟩
theorem pz_ms3 (h : pz_m sc sq pa ri mp ca dr pe w0 w) {v : Int32} : pz_m (pz_u1 sc 3 v) sq pa ri mp ca dr pe w0 (pw_ps w 8 0 3 v) := by
  refine ⟨⟨fun f h1 h2 => (funext fun b => funext fun d => if_neg (fun q => absurd q.1 (by omega)) : (pw_ps w 8 _ _ _).1 f = w.1 f).trans (h.1.1 f h1 h2), h.1.2⟩, h.2.1, h.2.2.1, ?_, h.2.2.2.2.1, h.2.2.2.2.2.1, h.2.2.2.2.2.2.1, h.2.2.2.2.2.2.2.1, h.2.2.2.2.2.2.2.2.1, h.2.2.2.2.2.2.2.2.2.1, h.2.2.2.2.2.2.2.2.2.2⟩
  exact ⟨h.2.2.2.1.1, h.2.2.2.1.2.1, h.2.2.2.1.2.2.1, rfl, h.2.2.2.1.2.2.2.2.1, h.2.2.2.1.2.2.2.2.2⟩
theorem pz_ms4 (h : pz_m sc sq pa ri mp ca dr pe w0 w) {v : Int32} : pz_m (pz_u1 sc 4 v) sq pa ri mp ca dr pe w0 (pw_ps w 8 0 4 v) := by
  refine ⟨⟨fun f h1 h2 => (funext fun b => funext fun d => if_neg (fun q => absurd q.1 (by omega)) : (pw_ps w 8 _ _ _).1 f = w.1 f).trans (h.1.1 f h1 h2), h.1.2⟩, h.2.1, h.2.2.1, ?_, h.2.2.2.2.1, h.2.2.2.2.2.1, h.2.2.2.2.2.2.1, h.2.2.2.2.2.2.2.1, h.2.2.2.2.2.2.2.2.1, h.2.2.2.2.2.2.2.2.2.1, h.2.2.2.2.2.2.2.2.2.2⟩
  exact ⟨h.2.2.2.1.1, h.2.2.2.1.2.1, h.2.2.2.1.2.2.1, h.2.2.2.1.2.2.2.1, rfl, h.2.2.2.1.2.2.2.2.2⟩
theorem pz_ms5 (h : pz_m sc sq pa ri mp ca dr pe w0 w) {v : Int32} : pz_m (pz_u1 sc 5 v) sq pa ri mp ca dr pe w0 (pw_ps w 8 0 5 v) := by
  refine ⟨⟨fun f h1 h2 => (funext fun b => funext fun d => if_neg (fun q => absurd q.1 (by omega)) : (pw_ps w 8 _ _ _).1 f = w.1 f).trans (h.1.1 f h1 h2), h.1.2⟩, h.2.1, h.2.2.1, ?_, h.2.2.2.2.1, h.2.2.2.2.2.1, h.2.2.2.2.2.2.1, h.2.2.2.2.2.2.2.1, h.2.2.2.2.2.2.2.2.1, h.2.2.2.2.2.2.2.2.2.1, h.2.2.2.2.2.2.2.2.2.2⟩
  exact ⟨h.2.2.2.1.1, h.2.2.2.1.2.1, h.2.2.2.1.2.2.1, h.2.2.2.1.2.2.2.1, h.2.2.2.1.2.2.2.2.1, rfl⟩
theorem pz_ms6 (h : pz_m sc sq pa ri mp ca dr pe w0 w) {i : Nat} {v : Int32} : pz_m sc (pz_u sq.1 6 i v, sq.2) pa ri mp ca dr pe w0 (pw_ps w 206 0 i v) := by
  refine ⟨⟨fun f h1 h2 => (funext fun b => funext fun d => if_neg (fun q => absurd q.1 (by omega)) : (pw_ps w 206 _ _ _).1 f = w.1 f).trans (h.1.1 f h1 h2), h.1.2⟩, h.2.1, h.2.2.1, h.2.2.2.1, ?_, h.2.2.2.2.2.1, h.2.2.2.2.2.2.1, h.2.2.2.2.2.2.2.1, h.2.2.2.2.2.2.2.2.1, h.2.2.2.2.2.2.2.2.2.1, h.2.2.2.2.2.2.2.2.2.2⟩
  exact ⟨fun j => by
    show (if 206 = 206 ∧ 0 = 0 ∧ j = i then v else w.1 206 0 j) = (if 6 = 6 ∧ j = i then v else _)
    by_cases hj : j = i
    · rw [if_pos ⟨rfl, rfl, hj⟩, if_pos ⟨rfl, hj⟩]
    · rw [if_neg (fun q => hj q.2.2), if_neg (fun q => hj q.2)]; exact h.2.2.2.2.1.1 j, h.2.2.2.2.1.2.1, h.2.2.2.2.1.2.2.1, h.2.2.2.2.1.2.2.2.1, h.2.2.2.2.1.2.2.2.2.1, h.2.2.2.2.1.2.2.2.2.2.1, h.2.2.2.2.1.2.2.2.2.2.2.1, h.2.2.2.2.1.2.2.2.2.2.2.2.1, h.2.2.2.2.1.2.2.2.2.2.2.2.2.1, h.2.2.2.2.1.2.2.2.2.2.2.2.2.2⟩
theorem pz_ms7 (h : pz_m sc sq pa ri mp ca dr pe w0 w) {i : Nat} {v : Int32} : pz_m sc (pz_u sq.1 7 i v, sq.2) pa ri mp ca dr pe w0 (pw_ps w 207 0 i v) := by
  refine ⟨⟨fun f h1 h2 => (funext fun b => funext fun d => if_neg (fun q => absurd q.1 (by omega)) : (pw_ps w 207 _ _ _).1 f = w.1 f).trans (h.1.1 f h1 h2), h.1.2⟩, h.2.1, h.2.2.1, h.2.2.2.1, ?_, h.2.2.2.2.2.1, h.2.2.2.2.2.2.1, h.2.2.2.2.2.2.2.1, h.2.2.2.2.2.2.2.2.1, h.2.2.2.2.2.2.2.2.2.1, h.2.2.2.2.2.2.2.2.2.2⟩
  exact ⟨h.2.2.2.2.1.1, fun j => by
    show (if 207 = 207 ∧ 0 = 0 ∧ j = i then v else w.1 207 0 j) = (if 7 = 7 ∧ j = i then v else _)
    by_cases hj : j = i
    · rw [if_pos ⟨rfl, rfl, hj⟩, if_pos ⟨rfl, hj⟩]
    · rw [if_neg (fun q => hj q.2.2), if_neg (fun q => hj q.2)]; exact h.2.2.2.2.1.2.1 j, h.2.2.2.2.1.2.2.1, h.2.2.2.2.1.2.2.2.1, h.2.2.2.2.1.2.2.2.2.1, h.2.2.2.2.1.2.2.2.2.2.1, h.2.2.2.2.1.2.2.2.2.2.2.1, h.2.2.2.2.1.2.2.2.2.2.2.2.1, h.2.2.2.2.1.2.2.2.2.2.2.2.2.1, h.2.2.2.2.1.2.2.2.2.2.2.2.2.2⟩
theorem pz_ms8 (h : pz_m sc sq pa ri mp ca dr pe w0 w) {i : Nat} {v : Int32} : pz_m sc (pz_u sq.1 8 i v, sq.2) pa ri mp ca dr pe w0 (pw_ps w 208 0 i v) := by
  refine ⟨⟨fun f h1 h2 => (funext fun b => funext fun d => if_neg (fun q => absurd q.1 (by omega)) : (pw_ps w 208 _ _ _).1 f = w.1 f).trans (h.1.1 f h1 h2), h.1.2⟩, h.2.1, h.2.2.1, h.2.2.2.1, ?_, h.2.2.2.2.2.1, h.2.2.2.2.2.2.1, h.2.2.2.2.2.2.2.1, h.2.2.2.2.2.2.2.2.1, h.2.2.2.2.2.2.2.2.2.1, h.2.2.2.2.2.2.2.2.2.2⟩
  exact ⟨h.2.2.2.2.1.1, h.2.2.2.2.1.2.1, fun j => by
    show (if 208 = 208 ∧ 0 = 0 ∧ j = i then v else w.1 208 0 j) = (if 8 = 8 ∧ j = i then v else _)
    by_cases hj : j = i
    · rw [if_pos ⟨rfl, rfl, hj⟩, if_pos ⟨rfl, hj⟩]
    · rw [if_neg (fun q => hj q.2.2), if_neg (fun q => hj q.2)]; exact h.2.2.2.2.1.2.2.1 j, h.2.2.2.2.1.2.2.2.1, h.2.2.2.2.1.2.2.2.2.1, h.2.2.2.2.1.2.2.2.2.2.1, h.2.2.2.2.1.2.2.2.2.2.2.1, h.2.2.2.2.1.2.2.2.2.2.2.2.1, h.2.2.2.2.1.2.2.2.2.2.2.2.2.1, h.2.2.2.2.1.2.2.2.2.2.2.2.2.2⟩
theorem pz_ms9 (h : pz_m sc sq pa ri mp ca dr pe w0 w) {i : Nat} {v : Int32} : pz_m sc (pz_u sq.1 9 i v, sq.2) pa ri mp ca dr pe w0 (pw_ps w 209 0 i v) := by
  refine ⟨⟨fun f h1 h2 => (funext fun b => funext fun d => if_neg (fun q => absurd q.1 (by omega)) : (pw_ps w 209 _ _ _).1 f = w.1 f).trans (h.1.1 f h1 h2), h.1.2⟩, h.2.1, h.2.2.1, h.2.2.2.1, ?_, h.2.2.2.2.2.1, h.2.2.2.2.2.2.1, h.2.2.2.2.2.2.2.1, h.2.2.2.2.2.2.2.2.1, h.2.2.2.2.2.2.2.2.2.1, h.2.2.2.2.2.2.2.2.2.2⟩
  exact ⟨h.2.2.2.2.1.1, h.2.2.2.2.1.2.1, h.2.2.2.2.1.2.2.1, fun j => by
    show (if 209 = 209 ∧ 0 = 0 ∧ j = i then v else w.1 209 0 j) = (if 9 = 9 ∧ j = i then v else _)
    by_cases hj : j = i
    · rw [if_pos ⟨rfl, rfl, hj⟩, if_pos ⟨rfl, hj⟩]
    · rw [if_neg (fun q => hj q.2.2), if_neg (fun q => hj q.2)]; exact h.2.2.2.2.1.2.2.2.1 j, h.2.2.2.2.1.2.2.2.2.1, h.2.2.2.2.1.2.2.2.2.2.1, h.2.2.2.2.1.2.2.2.2.2.2.1, h.2.2.2.2.1.2.2.2.2.2.2.2.1, h.2.2.2.2.1.2.2.2.2.2.2.2.2.1, h.2.2.2.2.1.2.2.2.2.2.2.2.2.2⟩
theorem pz_ms10 (h : pz_m sc sq pa ri mp ca dr pe w0 w) {i : Nat} {v : Int32} : pz_m sc (pz_u sq.1 10 i v, sq.2) pa ri mp ca dr pe w0 (pw_ps w 210 0 i v) := by
  refine ⟨⟨fun f h1 h2 => (funext fun b => funext fun d => if_neg (fun q => absurd q.1 (by omega)) : (pw_ps w 210 _ _ _).1 f = w.1 f).trans (h.1.1 f h1 h2), h.1.2⟩, h.2.1, h.2.2.1, h.2.2.2.1, ?_, h.2.2.2.2.2.1, h.2.2.2.2.2.2.1, h.2.2.2.2.2.2.2.1, h.2.2.2.2.2.2.2.2.1, h.2.2.2.2.2.2.2.2.2.1, h.2.2.2.2.2.2.2.2.2.2⟩
  exact ⟨h.2.2.2.2.1.1, h.2.2.2.2.1.2.1, h.2.2.2.2.1.2.2.1, h.2.2.2.2.1.2.2.2.1, fun j => by
    show (if 210 = 210 ∧ 0 = 0 ∧ j = i then v else w.1 210 0 j) = (if 10 = 10 ∧ j = i then v else _)
    by_cases hj : j = i
    · rw [if_pos ⟨rfl, rfl, hj⟩, if_pos ⟨rfl, hj⟩]
    · rw [if_neg (fun q => hj q.2.2), if_neg (fun q => hj q.2)]; exact h.2.2.2.2.1.2.2.2.2.1 j, h.2.2.2.2.1.2.2.2.2.2.1, h.2.2.2.2.1.2.2.2.2.2.2.1, h.2.2.2.2.1.2.2.2.2.2.2.2.1, h.2.2.2.2.1.2.2.2.2.2.2.2.2.1, h.2.2.2.2.1.2.2.2.2.2.2.2.2.2⟩
theorem pz_ms11 (h : pz_m sc sq pa ri mp ca dr pe w0 w) {i : Nat} {v : Int32} : pz_m sc (pz_u sq.1 11 i v, sq.2) pa ri mp ca dr pe w0 (pw_ps w 211 0 i v) := by
  refine ⟨⟨fun f h1 h2 => (funext fun b => funext fun d => if_neg (fun q => absurd q.1 (by omega)) : (pw_ps w 211 _ _ _).1 f = w.1 f).trans (h.1.1 f h1 h2), h.1.2⟩, h.2.1, h.2.2.1, h.2.2.2.1, ?_, h.2.2.2.2.2.1, h.2.2.2.2.2.2.1, h.2.2.2.2.2.2.2.1, h.2.2.2.2.2.2.2.2.1, h.2.2.2.2.2.2.2.2.2.1, h.2.2.2.2.2.2.2.2.2.2⟩
  exact ⟨h.2.2.2.2.1.1, h.2.2.2.2.1.2.1, h.2.2.2.2.1.2.2.1, h.2.2.2.2.1.2.2.2.1, h.2.2.2.2.1.2.2.2.2.1, fun j => by
    show (if 211 = 211 ∧ 0 = 0 ∧ j = i then v else w.1 211 0 j) = (if 11 = 11 ∧ j = i then v else _)
    by_cases hj : j = i
    · rw [if_pos ⟨rfl, rfl, hj⟩, if_pos ⟨rfl, hj⟩]
    · rw [if_neg (fun q => hj q.2.2), if_neg (fun q => hj q.2)]; exact h.2.2.2.2.1.2.2.2.2.2.1 j, h.2.2.2.2.1.2.2.2.2.2.2.1, h.2.2.2.2.1.2.2.2.2.2.2.2.1, h.2.2.2.2.1.2.2.2.2.2.2.2.2.1, h.2.2.2.2.1.2.2.2.2.2.2.2.2.2⟩
theorem pz_ms12 (h : pz_m sc sq pa ri mp ca dr pe w0 w) {i : Nat} {v : Int32} : pz_m sc (pz_u sq.1 12 i v, sq.2) pa ri mp ca dr pe w0 (pw_ps w 212 0 i v) := by
  refine ⟨⟨fun f h1 h2 => (funext fun b => funext fun d => if_neg (fun q => absurd q.1 (by omega)) : (pw_ps w 212 _ _ _).1 f = w.1 f).trans (h.1.1 f h1 h2), h.1.2⟩, h.2.1, h.2.2.1, h.2.2.2.1, ?_, h.2.2.2.2.2.1, h.2.2.2.2.2.2.1, h.2.2.2.2.2.2.2.1, h.2.2.2.2.2.2.2.2.1, h.2.2.2.2.2.2.2.2.2.1, h.2.2.2.2.2.2.2.2.2.2⟩
  exact ⟨h.2.2.2.2.1.1, h.2.2.2.2.1.2.1, h.2.2.2.2.1.2.2.1, h.2.2.2.2.1.2.2.2.1, h.2.2.2.2.1.2.2.2.2.1, h.2.2.2.2.1.2.2.2.2.2.1, fun j => by
    show (if 212 = 212 ∧ 0 = 0 ∧ j = i then v else w.1 212 0 j) = (if 12 = 12 ∧ j = i then v else _)
    by_cases hj : j = i
    · rw [if_pos ⟨rfl, rfl, hj⟩, if_pos ⟨rfl, hj⟩]
    · rw [if_neg (fun q => hj q.2.2), if_neg (fun q => hj q.2)]; exact h.2.2.2.2.1.2.2.2.2.2.2.1 j, h.2.2.2.2.1.2.2.2.2.2.2.2.1, h.2.2.2.2.1.2.2.2.2.2.2.2.2.1, h.2.2.2.2.1.2.2.2.2.2.2.2.2.2⟩
theorem pz_ms13 (h : pz_m sc sq pa ri mp ca dr pe w0 w) {i : Nat} {v : Int32} : pz_m sc (pz_u sq.1 13 i v, sq.2) pa ri mp ca dr pe w0 (pw_ps w 213 0 i v) := by
  refine ⟨⟨fun f h1 h2 => (funext fun b => funext fun d => if_neg (fun q => absurd q.1 (by omega)) : (pw_ps w 213 _ _ _).1 f = w.1 f).trans (h.1.1 f h1 h2), h.1.2⟩, h.2.1, h.2.2.1, h.2.2.2.1, ?_, h.2.2.2.2.2.1, h.2.2.2.2.2.2.1, h.2.2.2.2.2.2.2.1, h.2.2.2.2.2.2.2.2.1, h.2.2.2.2.2.2.2.2.2.1, h.2.2.2.2.2.2.2.2.2.2⟩
  exact ⟨h.2.2.2.2.1.1, h.2.2.2.2.1.2.1, h.2.2.2.2.1.2.2.1, h.2.2.2.2.1.2.2.2.1, h.2.2.2.2.1.2.2.2.2.1, h.2.2.2.2.1.2.2.2.2.2.1, h.2.2.2.2.1.2.2.2.2.2.2.1, fun j => by
    show (if 213 = 213 ∧ 0 = 0 ∧ j = i then v else w.1 213 0 j) = (if 13 = 13 ∧ j = i then v else _)
    by_cases hj : j = i
    · rw [if_pos ⟨rfl, rfl, hj⟩, if_pos ⟨rfl, hj⟩]
    · rw [if_neg (fun q => hj q.2.2), if_neg (fun q => hj q.2)]; exact h.2.2.2.2.1.2.2.2.2.2.2.2.1 j, h.2.2.2.2.1.2.2.2.2.2.2.2.2.1, h.2.2.2.2.1.2.2.2.2.2.2.2.2.2⟩
theorem pz_ms14 (h : pz_m sc sq pa ri mp ca dr pe w0 w) {i : Nat} {v : Int32} : pz_m sc (pz_u sq.1 14 i v, sq.2) pa ri mp ca dr pe w0 (pw_ps w 214 0 i v) := by
  refine ⟨⟨fun f h1 h2 => (funext fun b => funext fun d => if_neg (fun q => absurd q.1 (by omega)) : (pw_ps w 214 _ _ _).1 f = w.1 f).trans (h.1.1 f h1 h2), h.1.2⟩, h.2.1, h.2.2.1, h.2.2.2.1, ?_, h.2.2.2.2.2.1, h.2.2.2.2.2.2.1, h.2.2.2.2.2.2.2.1, h.2.2.2.2.2.2.2.2.1, h.2.2.2.2.2.2.2.2.2.1, h.2.2.2.2.2.2.2.2.2.2⟩
  exact ⟨h.2.2.2.2.1.1, h.2.2.2.2.1.2.1, h.2.2.2.2.1.2.2.1, h.2.2.2.2.1.2.2.2.1, h.2.2.2.2.1.2.2.2.2.1, h.2.2.2.2.1.2.2.2.2.2.1, h.2.2.2.2.1.2.2.2.2.2.2.1, h.2.2.2.2.1.2.2.2.2.2.2.2.1, fun j => by
    show (if 214 = 214 ∧ 0 = 0 ∧ j = i then v else w.1 214 0 j) = (if 14 = 14 ∧ j = i then v else _)
    by_cases hj : j = i
    · rw [if_pos ⟨rfl, rfl, hj⟩, if_pos ⟨rfl, hj⟩]
    · rw [if_neg (fun q => hj q.2.2), if_neg (fun q => hj q.2)]; exact h.2.2.2.2.1.2.2.2.2.2.2.2.2.1 j, h.2.2.2.2.1.2.2.2.2.2.2.2.2.2⟩
theorem pz_ms15 (h : pz_m sc sq pa ri mp ca dr pe w0 w) {s j m : Nat} {v : Int32} (hs : s < 100) (hj : j < 250) (e : m = 250 * s + j) : pz_m sc (sq.1, pz_u sq.2 s j v) pa ri mp ca dr pe w0 (pw_ps w 215 0 m v) := by
  refine ⟨⟨fun f h1 h2 => (funext fun b => funext fun d => if_neg (fun q => absurd q.1 (by omega)) : (pw_ps w 215 _ _ _).1 f = w.1 f).trans (h.1.1 f h1 h2), h.1.2⟩, h.2.1, h.2.2.1, h.2.2.2.1, ?_, h.2.2.2.2.2.1, h.2.2.2.2.2.2.1, h.2.2.2.2.2.2.2.1, h.2.2.2.2.2.2.2.2.1, h.2.2.2.2.2.2.2.2.2.1, h.2.2.2.2.2.2.2.2.2.2⟩
  exact ⟨h.2.2.2.2.1.1, h.2.2.2.2.1.2.1, h.2.2.2.2.1.2.2.1, h.2.2.2.2.1.2.2.2.1, h.2.2.2.2.1.2.2.2.2.1, h.2.2.2.2.1.2.2.2.2.2.1, h.2.2.2.2.1.2.2.2.2.2.2.1, h.2.2.2.2.1.2.2.2.2.2.2.2.1, h.2.2.2.2.1.2.2.2.2.2.2.2.2.1, fun s1 j1 a1 b1 => by
    show (if 215 = 215 ∧ 0 = 0 ∧ 250 * s1 + j1 = m then v else w.1 215 0 (250 * s1 + j1)) = (if s1 = s ∧ j1 = j then v else _)
    by_cases hq : s1 = s ∧ j1 = j
    · rw [if_pos ⟨rfl, rfl, by rw [e, hq.1, hq.2]⟩, if_pos hq]
    · rw [if_neg (fun q => hq (by have := q.2.2; omega)), if_neg hq]; exact h.2.2.2.2.1.2.2.2.2.2.2.2.2.2 s1 j1 a1 b1⟩
theorem pz_ms16 (h : pz_m sc sq pa ri mp ca dr pe w0 w) {i : Nat} {v : Int32} : pz_m sc sq (pa.1, pz_u pa.2.1 16 i v, pa.2.2) ri mp ca dr pe w0 (pw_ps w 216 0 i v) := by
  refine ⟨⟨fun f h1 h2 => (funext fun b => funext fun d => if_neg (fun q => absurd q.1 (by omega)) : (pw_ps w 216 _ _ _).1 f = w.1 f).trans (h.1.1 f h1 h2), h.1.2⟩, h.2.1, h.2.2.1, h.2.2.2.1, h.2.2.2.2.1, ?_, h.2.2.2.2.2.2.1, h.2.2.2.2.2.2.2.1, h.2.2.2.2.2.2.2.2.1, h.2.2.2.2.2.2.2.2.2.1, h.2.2.2.2.2.2.2.2.2.2⟩
  exact ⟨fun j => by
    show (if 216 = 216 ∧ 0 = 0 ∧ j = i then v else w.1 216 0 j) = (if 16 = 16 ∧ j = i then v else _)
    by_cases hj : j = i
    · rw [if_pos ⟨rfl, rfl, hj⟩, if_pos ⟨rfl, hj⟩]
    · rw [if_neg (fun q => hj q.2.2), if_neg (fun q => hj q.2)]; exact h.2.2.2.2.2.1.1 j, h.2.2.2.2.2.1.2.1, h.2.2.2.2.2.1.2.2.1, h.2.2.2.2.2.1.2.2.2⟩
theorem pz_ms17 (h : pz_m sc sq pa ri mp ca dr pe w0 w) {i : Nat} {v : Int32} : pz_m sc sq (pa.1, pz_u pa.2.1 17 i v, pa.2.2) ri mp ca dr pe w0 (pw_ps w 217 0 i v) := by
  refine ⟨⟨fun f h1 h2 => (funext fun b => funext fun d => if_neg (fun q => absurd q.1 (by omega)) : (pw_ps w 217 _ _ _).1 f = w.1 f).trans (h.1.1 f h1 h2), h.1.2⟩, h.2.1, h.2.2.1, h.2.2.2.1, h.2.2.2.2.1, ?_, h.2.2.2.2.2.2.1, h.2.2.2.2.2.2.2.1, h.2.2.2.2.2.2.2.2.1, h.2.2.2.2.2.2.2.2.2.1, h.2.2.2.2.2.2.2.2.2.2⟩
  exact ⟨h.2.2.2.2.2.1.1, fun j => by
    show (if 217 = 217 ∧ 0 = 0 ∧ j = i then v else w.1 217 0 j) = (if 17 = 17 ∧ j = i then v else _)
    by_cases hj : j = i
    · rw [if_pos ⟨rfl, rfl, hj⟩, if_pos ⟨rfl, hj⟩]
    · rw [if_neg (fun q => hj q.2.2), if_neg (fun q => hj q.2)]; exact h.2.2.2.2.2.1.2.1 j, h.2.2.2.2.2.1.2.2.1, h.2.2.2.2.2.1.2.2.2⟩
theorem pz_ms19 (h : pz_m sc sq pa ri mp ca dr pe w0 w) {s j m : Nat} {v : Int32} (hs : s < 40) (hj : j < 12) (e : m = 12 * s + j) : pz_m sc sq (pa.1, pa.2.1, pz_u pa.2.2 s j v) ri mp ca dr pe w0 (pw_ps w 219 0 m v) := by
  refine ⟨⟨fun f h1 h2 => (funext fun b => funext fun d => if_neg (fun q => absurd q.1 (by omega)) : (pw_ps w 219 _ _ _).1 f = w.1 f).trans (h.1.1 f h1 h2), h.1.2⟩, h.2.1, h.2.2.1, h.2.2.2.1, h.2.2.2.2.1, ?_, h.2.2.2.2.2.2.1, h.2.2.2.2.2.2.2.1, h.2.2.2.2.2.2.2.2.1, h.2.2.2.2.2.2.2.2.2.1, h.2.2.2.2.2.2.2.2.2.2⟩
  exact ⟨h.2.2.2.2.2.1.1, h.2.2.2.2.2.1.2.1, fun s1 j1 a1 b1 => by
    show (if 219 = 219 ∧ 0 = 0 ∧ 12 * s1 + j1 = m then v else w.1 219 0 (12 * s1 + j1)) = (if s1 = s ∧ j1 = j then v else _)
    by_cases hq : s1 = s ∧ j1 = j
    · rw [if_pos ⟨rfl, rfl, by rw [e, hq.1, hq.2]⟩, if_pos hq]
    · rw [if_neg (fun q => hq (by have := q.2.2; omega)), if_neg hq]; exact h.2.2.2.2.2.1.2.2.1 s1 j1 a1 b1, h.2.2.2.2.2.1.2.2.2⟩
theorem pz_ms18 (h : pz_m sc sq pa ri mp ca dr pe w0 w) {n : Nat} {v : Int32} (e : v = nI n) : pz_m sc sq (n, pa.2) ri mp ca dr pe w0 (pw_ps w 8 0 18 v) := by
  refine ⟨⟨fun f h1 h2 => (funext fun b => funext fun d => if_neg (fun q => absurd q.1 (by omega)) : (pw_ps w 8 _ _ _).1 f = w.1 f).trans (h.1.1 f h1 h2), h.1.2⟩, h.2.1, h.2.2.1, h.2.2.2.1, h.2.2.2.2.1, ?_, h.2.2.2.2.2.2.1, h.2.2.2.2.2.2.2.1, h.2.2.2.2.2.2.2.2.1, h.2.2.2.2.2.2.2.2.2.1, h.2.2.2.2.2.2.2.2.2.2⟩
  exact ⟨h.2.2.2.2.2.1.1, h.2.2.2.2.2.1.2.1, h.2.2.2.2.2.1.2.2.1, e⟩
theorem pz_ms20 (h : pz_m sc sq pa ri mp ca dr pe w0 w) {i : Nat} {v : Int32} : pz_m sc sq pa (ri.1, pz_u ri.2 20 i v) mp ca dr pe w0 (pw_ps w 220 0 i v) := by
  refine ⟨⟨fun f h1 h2 => (funext fun b => funext fun d => if_neg (fun q => absurd q.1 (by omega)) : (pw_ps w 220 _ _ _).1 f = w.1 f).trans (h.1.1 f h1 h2), h.1.2⟩, h.2.1, h.2.2.1, h.2.2.2.1, h.2.2.2.2.1, h.2.2.2.2.2.1, ?_, h.2.2.2.2.2.2.2.1, h.2.2.2.2.2.2.2.2.1, h.2.2.2.2.2.2.2.2.2.1, h.2.2.2.2.2.2.2.2.2.2⟩
  exact ⟨fun j => by
    show (if 220 = 220 ∧ 0 = 0 ∧ j = i then v else w.1 220 0 j) = (if 20 = 20 ∧ j = i then v else _)
    by_cases hj : j = i
    · rw [if_pos ⟨rfl, rfl, hj⟩, if_pos ⟨rfl, hj⟩]
    · rw [if_neg (fun q => hj q.2.2), if_neg (fun q => hj q.2)]; exact h.2.2.2.2.2.2.1.1 j, h.2.2.2.2.2.2.1.2.1, h.2.2.2.2.2.2.1.2.2.1, h.2.2.2.2.2.2.1.2.2.2.1, h.2.2.2.2.2.2.1.2.2.2.2.1, h.2.2.2.2.2.2.1.2.2.2.2.2.1, h.2.2.2.2.2.2.1.2.2.2.2.2.2⟩
theorem pz_ms21 (h : pz_m sc sq pa ri mp ca dr pe w0 w) {i : Nat} {v : Int32} : pz_m sc sq pa (ri.1, pz_u ri.2 21 i v) mp ca dr pe w0 (pw_ps w 221 0 i v) := by
  refine ⟨⟨fun f h1 h2 => (funext fun b => funext fun d => if_neg (fun q => absurd q.1 (by omega)) : (pw_ps w 221 _ _ _).1 f = w.1 f).trans (h.1.1 f h1 h2), h.1.2⟩, h.2.1, h.2.2.1, h.2.2.2.1, h.2.2.2.2.1, h.2.2.2.2.2.1, ?_, h.2.2.2.2.2.2.2.1, h.2.2.2.2.2.2.2.2.1, h.2.2.2.2.2.2.2.2.2.1, h.2.2.2.2.2.2.2.2.2.2⟩
  exact ⟨h.2.2.2.2.2.2.1.1, fun j => by
    show (if 221 = 221 ∧ 0 = 0 ∧ j = i then v else w.1 221 0 j) = (if 21 = 21 ∧ j = i then v else _)
    by_cases hj : j = i
    · rw [if_pos ⟨rfl, rfl, hj⟩, if_pos ⟨rfl, hj⟩]
    · rw [if_neg (fun q => hj q.2.2), if_neg (fun q => hj q.2)]; exact h.2.2.2.2.2.2.1.2.1 j, h.2.2.2.2.2.2.1.2.2.1, h.2.2.2.2.2.2.1.2.2.2.1, h.2.2.2.2.2.2.1.2.2.2.2.1, h.2.2.2.2.2.2.1.2.2.2.2.2.1, h.2.2.2.2.2.2.1.2.2.2.2.2.2⟩
theorem pz_ms22 (h : pz_m sc sq pa ri mp ca dr pe w0 w) {i : Nat} {v : Int32} : pz_m sc sq pa (ri.1, pz_u ri.2 22 i v) mp ca dr pe w0 (pw_ps w 222 0 i v) := by
  refine ⟨⟨fun f h1 h2 => (funext fun b => funext fun d => if_neg (fun q => absurd q.1 (by omega)) : (pw_ps w 222 _ _ _).1 f = w.1 f).trans (h.1.1 f h1 h2), h.1.2⟩, h.2.1, h.2.2.1, h.2.2.2.1, h.2.2.2.2.1, h.2.2.2.2.2.1, ?_, h.2.2.2.2.2.2.2.1, h.2.2.2.2.2.2.2.2.1, h.2.2.2.2.2.2.2.2.2.1, h.2.2.2.2.2.2.2.2.2.2⟩
  exact ⟨h.2.2.2.2.2.2.1.1, h.2.2.2.2.2.2.1.2.1, fun j => by
    show (if 222 = 222 ∧ 0 = 0 ∧ j = i then v else w.1 222 0 j) = (if 22 = 22 ∧ j = i then v else _)
    by_cases hj : j = i
    · rw [if_pos ⟨rfl, rfl, hj⟩, if_pos ⟨rfl, hj⟩]
    · rw [if_neg (fun q => hj q.2.2), if_neg (fun q => hj q.2)]; exact h.2.2.2.2.2.2.1.2.2.1 j, h.2.2.2.2.2.2.1.2.2.2.1, h.2.2.2.2.2.2.1.2.2.2.2.1, h.2.2.2.2.2.2.1.2.2.2.2.2.1, h.2.2.2.2.2.2.1.2.2.2.2.2.2⟩
theorem pz_ms23 (h : pz_m sc sq pa ri mp ca dr pe w0 w) {i : Nat} {v : Int32} : pz_m sc sq pa (ri.1, pz_u ri.2 23 i v) mp ca dr pe w0 (pw_ps w 223 0 i v) := by
  refine ⟨⟨fun f h1 h2 => (funext fun b => funext fun d => if_neg (fun q => absurd q.1 (by omega)) : (pw_ps w 223 _ _ _).1 f = w.1 f).trans (h.1.1 f h1 h2), h.1.2⟩, h.2.1, h.2.2.1, h.2.2.2.1, h.2.2.2.2.1, h.2.2.2.2.2.1, ?_, h.2.2.2.2.2.2.2.1, h.2.2.2.2.2.2.2.2.1, h.2.2.2.2.2.2.2.2.2.1, h.2.2.2.2.2.2.2.2.2.2⟩
  exact ⟨h.2.2.2.2.2.2.1.1, h.2.2.2.2.2.2.1.2.1, h.2.2.2.2.2.2.1.2.2.1, fun j => by
    show (if 223 = 223 ∧ 0 = 0 ∧ j = i then v else w.1 223 0 j) = (if 23 = 23 ∧ j = i then v else _)
    by_cases hj : j = i
    · rw [if_pos ⟨rfl, rfl, hj⟩, if_pos ⟨rfl, hj⟩]
    · rw [if_neg (fun q => hj q.2.2), if_neg (fun q => hj q.2)]; exact h.2.2.2.2.2.2.1.2.2.2.1 j, h.2.2.2.2.2.2.1.2.2.2.2.1, h.2.2.2.2.2.2.1.2.2.2.2.2.1, h.2.2.2.2.2.2.1.2.2.2.2.2.2⟩
theorem pz_ms24 (h : pz_m sc sq pa ri mp ca dr pe w0 w) {i : Nat} {v : Int32} : pz_m sc sq pa (ri.1, pz_u ri.2 24 i v) mp ca dr pe w0 (pw_ps w 224 0 i v) := by
  refine ⟨⟨fun f h1 h2 => (funext fun b => funext fun d => if_neg (fun q => absurd q.1 (by omega)) : (pw_ps w 224 _ _ _).1 f = w.1 f).trans (h.1.1 f h1 h2), h.1.2⟩, h.2.1, h.2.2.1, h.2.2.2.1, h.2.2.2.2.1, h.2.2.2.2.2.1, ?_, h.2.2.2.2.2.2.2.1, h.2.2.2.2.2.2.2.2.1, h.2.2.2.2.2.2.2.2.2.1, h.2.2.2.2.2.2.2.2.2.2⟩
  exact ⟨h.2.2.2.2.2.2.1.1, h.2.2.2.2.2.2.1.2.1, h.2.2.2.2.2.2.1.2.2.1, h.2.2.2.2.2.2.1.2.2.2.1, fun j => by
    show (if 224 = 224 ∧ 0 = 0 ∧ j = i then v else w.1 224 0 j) = (if 24 = 24 ∧ j = i then v else _)
    by_cases hj : j = i
    · rw [if_pos ⟨rfl, rfl, hj⟩, if_pos ⟨rfl, hj⟩]
    · rw [if_neg (fun q => hj q.2.2), if_neg (fun q => hj q.2)]; exact h.2.2.2.2.2.2.1.2.2.2.2.1 j, h.2.2.2.2.2.2.1.2.2.2.2.2.1, h.2.2.2.2.2.2.1.2.2.2.2.2.2⟩
theorem pz_ms25 (h : pz_m sc sq pa ri mp ca dr pe w0 w) {i : Nat} {v : Int32} : pz_m sc sq pa (ri.1, pz_u ri.2 25 i v) mp ca dr pe w0 (pw_ps w 225 0 i v) := by
  refine ⟨⟨fun f h1 h2 => (funext fun b => funext fun d => if_neg (fun q => absurd q.1 (by omega)) : (pw_ps w 225 _ _ _).1 f = w.1 f).trans (h.1.1 f h1 h2), h.1.2⟩, h.2.1, h.2.2.1, h.2.2.2.1, h.2.2.2.2.1, h.2.2.2.2.2.1, ?_, h.2.2.2.2.2.2.2.1, h.2.2.2.2.2.2.2.2.1, h.2.2.2.2.2.2.2.2.2.1, h.2.2.2.2.2.2.2.2.2.2⟩
  exact ⟨h.2.2.2.2.2.2.1.1, h.2.2.2.2.2.2.1.2.1, h.2.2.2.2.2.2.1.2.2.1, h.2.2.2.2.2.2.1.2.2.2.1, h.2.2.2.2.2.2.1.2.2.2.2.1, fun j => by
    show (if 225 = 225 ∧ 0 = 0 ∧ j = i then v else w.1 225 0 j) = (if 25 = 25 ∧ j = i then v else _)
    by_cases hj : j = i
    · rw [if_pos ⟨rfl, rfl, hj⟩, if_pos ⟨rfl, hj⟩]
    · rw [if_neg (fun q => hj q.2.2), if_neg (fun q => hj q.2)]; exact h.2.2.2.2.2.2.1.2.2.2.2.2.1 j, h.2.2.2.2.2.2.1.2.2.2.2.2.2⟩
theorem pz_ms26 (h : pz_m sc sq pa ri mp ca dr pe w0 w) {n : Nat} {v : Int32} (e : v = nI n) : pz_m sc sq pa (n, ri.2) mp ca dr pe w0 (pw_ps w 8 0 26 v) := by
  refine ⟨⟨fun f h1 h2 => (funext fun b => funext fun d => if_neg (fun q => absurd q.1 (by omega)) : (pw_ps w 8 _ _ _).1 f = w.1 f).trans (h.1.1 f h1 h2), h.1.2⟩, h.2.1, h.2.2.1, h.2.2.2.1, h.2.2.2.2.1, h.2.2.2.2.2.1, ?_, h.2.2.2.2.2.2.2.1, h.2.2.2.2.2.2.2.2.1, h.2.2.2.2.2.2.2.2.2.1, h.2.2.2.2.2.2.2.2.2.2⟩
  exact ⟨h.2.2.2.2.2.2.1.1, h.2.2.2.2.2.2.1.2.1, h.2.2.2.2.2.2.1.2.2.1, h.2.2.2.2.2.2.1.2.2.2.1, h.2.2.2.2.2.2.1.2.2.2.2.1, h.2.2.2.2.2.2.1.2.2.2.2.2.1, e⟩
theorem pz_ms27 (h : pz_m sc sq pa ri mp ca dr pe w0 w) {i : Nat} {v : Int32} : pz_m sc sq pa ri (mp.1, pz_u mp.2 27 i v) ca dr pe w0 (pw_ps w 227 0 i v) := by
  refine ⟨⟨fun f h1 h2 => (funext fun b => funext fun d => if_neg (fun q => absurd q.1 (by omega)) : (pw_ps w 227 _ _ _).1 f = w.1 f).trans (h.1.1 f h1 h2), h.1.2⟩, h.2.1, h.2.2.1, h.2.2.2.1, h.2.2.2.2.1, h.2.2.2.2.2.1, h.2.2.2.2.2.2.1, ?_, h.2.2.2.2.2.2.2.2.1, h.2.2.2.2.2.2.2.2.2.1, h.2.2.2.2.2.2.2.2.2.2⟩
  exact ⟨fun j => by
    show (if 227 = 227 ∧ 0 = 0 ∧ j = i then v else w.1 227 0 j) = (if 27 = 27 ∧ j = i then v else _)
    by_cases hj : j = i
    · rw [if_pos ⟨rfl, rfl, hj⟩, if_pos ⟨rfl, hj⟩]
    · rw [if_neg (fun q => hj q.2.2), if_neg (fun q => hj q.2)]; exact h.2.2.2.2.2.2.2.1.1 j, h.2.2.2.2.2.2.2.1.2.1, h.2.2.2.2.2.2.2.1.2.2.1, h.2.2.2.2.2.2.2.1.2.2.2⟩
theorem pz_ms28 (h : pz_m sc sq pa ri mp ca dr pe w0 w) {i : Nat} {v : Int32} : pz_m sc sq pa ri (mp.1, pz_u mp.2 28 i v) ca dr pe w0 (pw_ps w 228 0 i v) := by
  refine ⟨⟨fun f h1 h2 => (funext fun b => funext fun d => if_neg (fun q => absurd q.1 (by omega)) : (pw_ps w 228 _ _ _).1 f = w.1 f).trans (h.1.1 f h1 h2), h.1.2⟩, h.2.1, h.2.2.1, h.2.2.2.1, h.2.2.2.2.1, h.2.2.2.2.2.1, h.2.2.2.2.2.2.1, ?_, h.2.2.2.2.2.2.2.2.1, h.2.2.2.2.2.2.2.2.2.1, h.2.2.2.2.2.2.2.2.2.2⟩
  exact ⟨h.2.2.2.2.2.2.2.1.1, fun j => by
    show (if 228 = 228 ∧ 0 = 0 ∧ j = i then v else w.1 228 0 j) = (if 28 = 28 ∧ j = i then v else _)
    by_cases hj : j = i
    · rw [if_pos ⟨rfl, rfl, hj⟩, if_pos ⟨rfl, hj⟩]
    · rw [if_neg (fun q => hj q.2.2), if_neg (fun q => hj q.2)]; exact h.2.2.2.2.2.2.2.1.2.1 j, h.2.2.2.2.2.2.2.1.2.2.1, h.2.2.2.2.2.2.2.1.2.2.2⟩
theorem pz_ms29 (h : pz_m sc sq pa ri mp ca dr pe w0 w) {i : Nat} {v : Int32} : pz_m sc sq pa ri (mp.1, pz_u mp.2 29 i v) ca dr pe w0 (pw_ps w 229 0 i v) := by
  refine ⟨⟨fun f h1 h2 => (funext fun b => funext fun d => if_neg (fun q => absurd q.1 (by omega)) : (pw_ps w 229 _ _ _).1 f = w.1 f).trans (h.1.1 f h1 h2), h.1.2⟩, h.2.1, h.2.2.1, h.2.2.2.1, h.2.2.2.2.1, h.2.2.2.2.2.1, h.2.2.2.2.2.2.1, ?_, h.2.2.2.2.2.2.2.2.1, h.2.2.2.2.2.2.2.2.2.1, h.2.2.2.2.2.2.2.2.2.2⟩
  exact ⟨h.2.2.2.2.2.2.2.1.1, h.2.2.2.2.2.2.2.1.2.1, fun j => by
    show (if 229 = 229 ∧ 0 = 0 ∧ j = i then v else w.1 229 0 j) = (if 29 = 29 ∧ j = i then v else _)
    by_cases hj : j = i
    · rw [if_pos ⟨rfl, rfl, hj⟩, if_pos ⟨rfl, hj⟩]
    · rw [if_neg (fun q => hj q.2.2), if_neg (fun q => hj q.2)]; exact h.2.2.2.2.2.2.2.1.2.2.1 j, h.2.2.2.2.2.2.2.1.2.2.2⟩
theorem pz_ms30 (h : pz_m sc sq pa ri mp ca dr pe w0 w) {n : Nat} {v : Int32} (e : v = nI n) : pz_m sc sq pa ri (n, mp.2) ca dr pe w0 (pw_ps w 8 0 30 v) := by
  refine ⟨⟨fun f h1 h2 => (funext fun b => funext fun d => if_neg (fun q => absurd q.1 (by omega)) : (pw_ps w 8 _ _ _).1 f = w.1 f).trans (h.1.1 f h1 h2), h.1.2⟩, h.2.1, h.2.2.1, h.2.2.2.1, h.2.2.2.2.1, h.2.2.2.2.2.1, h.2.2.2.2.2.2.1, ?_, h.2.2.2.2.2.2.2.2.1, h.2.2.2.2.2.2.2.2.2.1, h.2.2.2.2.2.2.2.2.2.2⟩
  exact ⟨h.2.2.2.2.2.2.2.1.1, h.2.2.2.2.2.2.2.1.2.1, h.2.2.2.2.2.2.2.1.2.2.1, e⟩
theorem pz_ms31 (h : pz_m sc sq pa ri mp ca dr pe w0 w) {i : Nat} {v : Int32} : pz_m sc sq pa ri mp (ca.1, pz_u ca.2.1 31 i v, ca.2.2) dr pe w0 (pw_ps w 231 0 i v) := by
  refine ⟨⟨fun f h1 h2 => (funext fun b => funext fun d => if_neg (fun q => absurd q.1 (by omega)) : (pw_ps w 231 _ _ _).1 f = w.1 f).trans (h.1.1 f h1 h2), h.1.2⟩, h.2.1, h.2.2.1, h.2.2.2.1, h.2.2.2.2.1, h.2.2.2.2.2.1, h.2.2.2.2.2.2.1, h.2.2.2.2.2.2.2.1, ?_, h.2.2.2.2.2.2.2.2.2.1, h.2.2.2.2.2.2.2.2.2.2⟩
  exact ⟨fun j => by
    show (if 231 = 231 ∧ 0 = 0 ∧ j = i then v else w.1 231 0 j) = (if 31 = 31 ∧ j = i then v else _)
    by_cases hj : j = i
    · rw [if_pos ⟨rfl, rfl, hj⟩, if_pos ⟨rfl, hj⟩]
    · rw [if_neg (fun q => hj q.2.2), if_neg (fun q => hj q.2)]; exact h.2.2.2.2.2.2.2.2.1.1 j, h.2.2.2.2.2.2.2.2.1.2.1, h.2.2.2.2.2.2.2.2.1.2.2.1, h.2.2.2.2.2.2.2.2.1.2.2.2.1, h.2.2.2.2.2.2.2.2.1.2.2.2.2.1, h.2.2.2.2.2.2.2.2.1.2.2.2.2.2.1, h.2.2.2.2.2.2.2.2.1.2.2.2.2.2.2.1, h.2.2.2.2.2.2.2.2.1.2.2.2.2.2.2.2⟩
theorem pz_ms32 (h : pz_m sc sq pa ri mp ca dr pe w0 w) {i : Nat} {v : Int32} : pz_m sc sq pa ri mp (ca.1, pz_u ca.2.1 32 i v, ca.2.2) dr pe w0 (pw_ps w 232 0 i v) := by
  refine ⟨⟨fun f h1 h2 => (funext fun b => funext fun d => if_neg (fun q => absurd q.1 (by omega)) : (pw_ps w 232 _ _ _).1 f = w.1 f).trans (h.1.1 f h1 h2), h.1.2⟩, h.2.1, h.2.2.1, h.2.2.2.1, h.2.2.2.2.1, h.2.2.2.2.2.1, h.2.2.2.2.2.2.1, h.2.2.2.2.2.2.2.1, ?_, h.2.2.2.2.2.2.2.2.2.1, h.2.2.2.2.2.2.2.2.2.2⟩
  exact ⟨h.2.2.2.2.2.2.2.2.1.1, fun j => by
    show (if 232 = 232 ∧ 0 = 0 ∧ j = i then v else w.1 232 0 j) = (if 32 = 32 ∧ j = i then v else _)
    by_cases hj : j = i
    · rw [if_pos ⟨rfl, rfl, hj⟩, if_pos ⟨rfl, hj⟩]
    · rw [if_neg (fun q => hj q.2.2), if_neg (fun q => hj q.2)]; exact h.2.2.2.2.2.2.2.2.1.2.1 j, h.2.2.2.2.2.2.2.2.1.2.2.1, h.2.2.2.2.2.2.2.2.1.2.2.2.1, h.2.2.2.2.2.2.2.2.1.2.2.2.2.1, h.2.2.2.2.2.2.2.2.1.2.2.2.2.2.1, h.2.2.2.2.2.2.2.2.1.2.2.2.2.2.2.1, h.2.2.2.2.2.2.2.2.1.2.2.2.2.2.2.2⟩
theorem pz_ms33 (h : pz_m sc sq pa ri mp ca dr pe w0 w) {i : Nat} {v : Int32} : pz_m sc sq pa ri mp (ca.1, pz_u ca.2.1 33 i v, ca.2.2) dr pe w0 (pw_ps w 233 0 i v) := by
  refine ⟨⟨fun f h1 h2 => (funext fun b => funext fun d => if_neg (fun q => absurd q.1 (by omega)) : (pw_ps w 233 _ _ _).1 f = w.1 f).trans (h.1.1 f h1 h2), h.1.2⟩, h.2.1, h.2.2.1, h.2.2.2.1, h.2.2.2.2.1, h.2.2.2.2.2.1, h.2.2.2.2.2.2.1, h.2.2.2.2.2.2.2.1, ?_, h.2.2.2.2.2.2.2.2.2.1, h.2.2.2.2.2.2.2.2.2.2⟩
  exact ⟨h.2.2.2.2.2.2.2.2.1.1, h.2.2.2.2.2.2.2.2.1.2.1, fun j => by
    show (if 233 = 233 ∧ 0 = 0 ∧ j = i then v else w.1 233 0 j) = (if 33 = 33 ∧ j = i then v else _)
    by_cases hj : j = i
    · rw [if_pos ⟨rfl, rfl, hj⟩, if_pos ⟨rfl, hj⟩]
    · rw [if_neg (fun q => hj q.2.2), if_neg (fun q => hj q.2)]; exact h.2.2.2.2.2.2.2.2.1.2.2.1 j, h.2.2.2.2.2.2.2.2.1.2.2.2.1, h.2.2.2.2.2.2.2.2.1.2.2.2.2.1, h.2.2.2.2.2.2.2.2.1.2.2.2.2.2.1, h.2.2.2.2.2.2.2.2.1.2.2.2.2.2.2.1, h.2.2.2.2.2.2.2.2.1.2.2.2.2.2.2.2⟩
theorem pz_ms34 (h : pz_m sc sq pa ri mp ca dr pe w0 w) {i : Nat} {v : Int32} : pz_m sc sq pa ri mp (ca.1, pz_u ca.2.1 34 i v, ca.2.2) dr pe w0 (pw_ps w 234 0 i v) := by
  refine ⟨⟨fun f h1 h2 => (funext fun b => funext fun d => if_neg (fun q => absurd q.1 (by omega)) : (pw_ps w 234 _ _ _).1 f = w.1 f).trans (h.1.1 f h1 h2), h.1.2⟩, h.2.1, h.2.2.1, h.2.2.2.1, h.2.2.2.2.1, h.2.2.2.2.2.1, h.2.2.2.2.2.2.1, h.2.2.2.2.2.2.2.1, ?_, h.2.2.2.2.2.2.2.2.2.1, h.2.2.2.2.2.2.2.2.2.2⟩
  exact ⟨h.2.2.2.2.2.2.2.2.1.1, h.2.2.2.2.2.2.2.2.1.2.1, h.2.2.2.2.2.2.2.2.1.2.2.1, fun j => by
    show (if 234 = 234 ∧ 0 = 0 ∧ j = i then v else w.1 234 0 j) = (if 34 = 34 ∧ j = i then v else _)
    by_cases hj : j = i
    · rw [if_pos ⟨rfl, rfl, hj⟩, if_pos ⟨rfl, hj⟩]
    · rw [if_neg (fun q => hj q.2.2), if_neg (fun q => hj q.2)]; exact h.2.2.2.2.2.2.2.2.1.2.2.2.1 j, h.2.2.2.2.2.2.2.2.1.2.2.2.2.1, h.2.2.2.2.2.2.2.2.1.2.2.2.2.2.1, h.2.2.2.2.2.2.2.2.1.2.2.2.2.2.2.1, h.2.2.2.2.2.2.2.2.1.2.2.2.2.2.2.2⟩
theorem pz_ms35 (h : pz_m sc sq pa ri mp ca dr pe w0 w) {i : Nat} {v : Int32} : pz_m sc sq pa ri mp (ca.1, pz_u ca.2.1 35 i v, ca.2.2) dr pe w0 (pw_ps w 235 0 i v) := by
  refine ⟨⟨fun f h1 h2 => (funext fun b => funext fun d => if_neg (fun q => absurd q.1 (by omega)) : (pw_ps w 235 _ _ _).1 f = w.1 f).trans (h.1.1 f h1 h2), h.1.2⟩, h.2.1, h.2.2.1, h.2.2.2.1, h.2.2.2.2.1, h.2.2.2.2.2.1, h.2.2.2.2.2.2.1, h.2.2.2.2.2.2.2.1, ?_, h.2.2.2.2.2.2.2.2.2.1, h.2.2.2.2.2.2.2.2.2.2⟩
  exact ⟨h.2.2.2.2.2.2.2.2.1.1, h.2.2.2.2.2.2.2.2.1.2.1, h.2.2.2.2.2.2.2.2.1.2.2.1, h.2.2.2.2.2.2.2.2.1.2.2.2.1, fun j => by
    show (if 235 = 235 ∧ 0 = 0 ∧ j = i then v else w.1 235 0 j) = (if 35 = 35 ∧ j = i then v else _)
    by_cases hj : j = i
    · rw [if_pos ⟨rfl, rfl, hj⟩, if_pos ⟨rfl, hj⟩]
    · rw [if_neg (fun q => hj q.2.2), if_neg (fun q => hj q.2)]; exact h.2.2.2.2.2.2.2.2.1.2.2.2.2.1 j, h.2.2.2.2.2.2.2.2.1.2.2.2.2.2.1, h.2.2.2.2.2.2.2.2.1.2.2.2.2.2.2.1, h.2.2.2.2.2.2.2.2.1.2.2.2.2.2.2.2⟩
theorem pz_ms36 (h : pz_m sc sq pa ri mp ca dr pe w0 w) {i : Nat} {v : Int32} : pz_m sc sq pa ri mp (ca.1, pz_u ca.2.1 36 i v, ca.2.2) dr pe w0 (pw_ps w 236 0 i v) := by
  refine ⟨⟨fun f h1 h2 => (funext fun b => funext fun d => if_neg (fun q => absurd q.1 (by omega)) : (pw_ps w 236 _ _ _).1 f = w.1 f).trans (h.1.1 f h1 h2), h.1.2⟩, h.2.1, h.2.2.1, h.2.2.2.1, h.2.2.2.2.1, h.2.2.2.2.2.1, h.2.2.2.2.2.2.1, h.2.2.2.2.2.2.2.1, ?_, h.2.2.2.2.2.2.2.2.2.1, h.2.2.2.2.2.2.2.2.2.2⟩
  exact ⟨h.2.2.2.2.2.2.2.2.1.1, h.2.2.2.2.2.2.2.2.1.2.1, h.2.2.2.2.2.2.2.2.1.2.2.1, h.2.2.2.2.2.2.2.2.1.2.2.2.1, h.2.2.2.2.2.2.2.2.1.2.2.2.2.1, fun j => by
    show (if 236 = 236 ∧ 0 = 0 ∧ j = i then v else w.1 236 0 j) = (if 36 = 36 ∧ j = i then v else _)
    by_cases hj : j = i
    · rw [if_pos ⟨rfl, rfl, hj⟩, if_pos ⟨rfl, hj⟩]
    · rw [if_neg (fun q => hj q.2.2), if_neg (fun q => hj q.2)]; exact h.2.2.2.2.2.2.2.2.1.2.2.2.2.2.1 j, h.2.2.2.2.2.2.2.2.1.2.2.2.2.2.2.1, h.2.2.2.2.2.2.2.2.1.2.2.2.2.2.2.2⟩
theorem pz_ms37 (h : pz_m sc sq pa ri mp ca dr pe w0 w) {s j m : Nat} {v : Int32} (hs : s < 16) (hj : j < 100) (e : m = 100 * s + j) : pz_m sc sq pa ri mp (ca.1, ca.2.1, pz_u ca.2.2 s j v) dr pe w0 (pw_ps w 237 0 m v) := by
  refine ⟨⟨fun f h1 h2 => (funext fun b => funext fun d => if_neg (fun q => absurd q.1 (by omega)) : (pw_ps w 237 _ _ _).1 f = w.1 f).trans (h.1.1 f h1 h2), h.1.2⟩, h.2.1, h.2.2.1, h.2.2.2.1, h.2.2.2.2.1, h.2.2.2.2.2.1, h.2.2.2.2.2.2.1, h.2.2.2.2.2.2.2.1, ?_, h.2.2.2.2.2.2.2.2.2.1, h.2.2.2.2.2.2.2.2.2.2⟩
  exact ⟨h.2.2.2.2.2.2.2.2.1.1, h.2.2.2.2.2.2.2.2.1.2.1, h.2.2.2.2.2.2.2.2.1.2.2.1, h.2.2.2.2.2.2.2.2.1.2.2.2.1, h.2.2.2.2.2.2.2.2.1.2.2.2.2.1, h.2.2.2.2.2.2.2.2.1.2.2.2.2.2.1, fun s1 j1 a1 b1 => by
    show (if 237 = 237 ∧ 0 = 0 ∧ 100 * s1 + j1 = m then v else w.1 237 0 (100 * s1 + j1)) = (if s1 = s ∧ j1 = j then v else _)
    by_cases hq : s1 = s ∧ j1 = j
    · rw [if_pos ⟨rfl, rfl, by rw [e, hq.1, hq.2]⟩, if_pos hq]
    · rw [if_neg (fun q => hq (by have := q.2.2; omega)), if_neg hq]; exact h.2.2.2.2.2.2.2.2.1.2.2.2.2.2.2.1 s1 j1 a1 b1, h.2.2.2.2.2.2.2.2.1.2.2.2.2.2.2.2⟩
theorem pz_ms38 (h : pz_m sc sq pa ri mp ca dr pe w0 w) {n : Nat} {v : Int32} (e : v = nI n) : pz_m sc sq pa ri mp (n, ca.2) dr pe w0 (pw_ps w 8 0 38 v) := by
  refine ⟨⟨fun f h1 h2 => (funext fun b => funext fun d => if_neg (fun q => absurd q.1 (by omega)) : (pw_ps w 8 _ _ _).1 f = w.1 f).trans (h.1.1 f h1 h2), h.1.2⟩, h.2.1, h.2.2.1, h.2.2.2.1, h.2.2.2.2.1, h.2.2.2.2.2.1, h.2.2.2.2.2.2.1, h.2.2.2.2.2.2.2.1, ?_, h.2.2.2.2.2.2.2.2.2.1, h.2.2.2.2.2.2.2.2.2.2⟩
  exact ⟨h.2.2.2.2.2.2.2.2.1.1, h.2.2.2.2.2.2.2.2.1.2.1, h.2.2.2.2.2.2.2.2.1.2.2.1, h.2.2.2.2.2.2.2.2.1.2.2.2.1, h.2.2.2.2.2.2.2.2.1.2.2.2.2.1, h.2.2.2.2.2.2.2.2.1.2.2.2.2.2.1, h.2.2.2.2.2.2.2.2.1.2.2.2.2.2.2.1, e⟩
theorem pz_ms39 (h : pz_m sc sq pa ri mp ca dr pe w0 w) {i : Nat} {v : Int32} : pz_m sc sq pa ri mp ca (dr.1, pz_u dr.2 39 i v) pe w0 (pw_ps w 239 0 i v) := by
  refine ⟨⟨fun f h1 h2 => (funext fun b => funext fun d => if_neg (fun q => absurd q.1 (by omega)) : (pw_ps w 239 _ _ _).1 f = w.1 f).trans (h.1.1 f h1 h2), h.1.2⟩, h.2.1, h.2.2.1, h.2.2.2.1, h.2.2.2.2.1, h.2.2.2.2.2.1, h.2.2.2.2.2.2.1, h.2.2.2.2.2.2.2.1, h.2.2.2.2.2.2.2.2.1, ?_, h.2.2.2.2.2.2.2.2.2.2⟩
  exact ⟨fun j => by
    show (if 239 = 239 ∧ 0 = 0 ∧ j = i then v else w.1 239 0 j) = (if 39 = 39 ∧ j = i then v else _)
    by_cases hj : j = i
    · rw [if_pos ⟨rfl, rfl, hj⟩, if_pos ⟨rfl, hj⟩]
    · rw [if_neg (fun q => hj q.2.2), if_neg (fun q => hj q.2)]; exact h.2.2.2.2.2.2.2.2.2.1.1 j, h.2.2.2.2.2.2.2.2.2.1.2.1, h.2.2.2.2.2.2.2.2.2.1.2.2⟩
theorem pz_ms40 (h : pz_m sc sq pa ri mp ca dr pe w0 w) {i : Nat} {v : Int32} : pz_m sc sq pa ri mp ca (dr.1, pz_u dr.2 40 i v) pe w0 (pw_ps w 240 0 i v) := by
  refine ⟨⟨fun f h1 h2 => (funext fun b => funext fun d => if_neg (fun q => absurd q.1 (by omega)) : (pw_ps w 240 _ _ _).1 f = w.1 f).trans (h.1.1 f h1 h2), h.1.2⟩, h.2.1, h.2.2.1, h.2.2.2.1, h.2.2.2.2.1, h.2.2.2.2.2.1, h.2.2.2.2.2.2.1, h.2.2.2.2.2.2.2.1, h.2.2.2.2.2.2.2.2.1, ?_, h.2.2.2.2.2.2.2.2.2.2⟩
  exact ⟨h.2.2.2.2.2.2.2.2.2.1.1, fun j => by
    show (if 240 = 240 ∧ 0 = 0 ∧ j = i then v else w.1 240 0 j) = (if 40 = 40 ∧ j = i then v else _)
    by_cases hj : j = i
    · rw [if_pos ⟨rfl, rfl, hj⟩, if_pos ⟨rfl, hj⟩]
    · rw [if_neg (fun q => hj q.2.2), if_neg (fun q => hj q.2)]; exact h.2.2.2.2.2.2.2.2.2.1.2.1 j, h.2.2.2.2.2.2.2.2.2.1.2.2⟩
theorem pz_ms41 (h : pz_m sc sq pa ri mp ca dr pe w0 w) {n : Nat} {v : Int32} (e : v = nI n) : pz_m sc sq pa ri mp ca (n, dr.2) pe w0 (pw_ps w 8 0 41 v) := by
  refine ⟨⟨fun f h1 h2 => (funext fun b => funext fun d => if_neg (fun q => absurd q.1 (by omega)) : (pw_ps w 8 _ _ _).1 f = w.1 f).trans (h.1.1 f h1 h2), h.1.2⟩, h.2.1, h.2.2.1, h.2.2.2.1, h.2.2.2.2.1, h.2.2.2.2.2.1, h.2.2.2.2.2.2.1, h.2.2.2.2.2.2.2.1, h.2.2.2.2.2.2.2.2.1, ?_, h.2.2.2.2.2.2.2.2.2.2⟩
  exact ⟨h.2.2.2.2.2.2.2.2.2.1.1, h.2.2.2.2.2.2.2.2.2.1.2.1, e⟩
theorem pz_ms42 (h : pz_m sc sq pa ri mp ca dr pe w0 w) {i : Nat} {v : Int32} : pz_m sc sq pa ri mp ca dr (pz_u pe.1 42 i v, pe.2) w0 (pw_ps w 242 0 i v) := by
  refine ⟨⟨fun f h1 h2 => (funext fun b => funext fun d => if_neg (fun q => absurd q.1 (by omega)) : (pw_ps w 242 _ _ _).1 f = w.1 f).trans (h.1.1 f h1 h2), h.1.2⟩, h.2.1, h.2.2.1, h.2.2.2.1, h.2.2.2.2.1, h.2.2.2.2.2.1, h.2.2.2.2.2.2.1, h.2.2.2.2.2.2.2.1, h.2.2.2.2.2.2.2.2.1, h.2.2.2.2.2.2.2.2.2.1, ?_⟩
  exact ⟨fun j => by
    show (if 242 = 242 ∧ 0 = 0 ∧ j = i then v else w.1 242 0 j) = (if 42 = 42 ∧ j = i then v else _)
    by_cases hj : j = i
    · rw [if_pos ⟨rfl, rfl, hj⟩, if_pos ⟨rfl, hj⟩]
    · rw [if_neg (fun q => hj q.2.2), if_neg (fun q => hj q.2)]; exact h.2.2.2.2.2.2.2.2.2.2.1 j, h.2.2.2.2.2.2.2.2.2.2.2.1, h.2.2.2.2.2.2.2.2.2.2.2.2.1, h.2.2.2.2.2.2.2.2.2.2.2.2.2⟩
theorem pz_ms44 (h : pz_m sc sq pa ri mp ca dr pe w0 w) {i : Nat} {v : Int32} : pz_m sc sq pa ri mp ca dr (pz_u pe.1 44 i v, pe.2) w0 (pw_ps w 244 0 i v) := by
  refine ⟨⟨fun f h1 h2 => (funext fun b => funext fun d => if_neg (fun q => absurd q.1 (by omega)) : (pw_ps w 244 _ _ _).1 f = w.1 f).trans (h.1.1 f h1 h2), h.1.2⟩, h.2.1, h.2.2.1, h.2.2.2.1, h.2.2.2.2.1, h.2.2.2.2.2.1, h.2.2.2.2.2.2.1, h.2.2.2.2.2.2.2.1, h.2.2.2.2.2.2.2.2.1, h.2.2.2.2.2.2.2.2.2.1, ?_⟩
  exact ⟨h.2.2.2.2.2.2.2.2.2.2.1, fun j => by
    show (if 244 = 244 ∧ 0 = 0 ∧ j = i then v else w.1 244 0 j) = (if 44 = 44 ∧ j = i then v else _)
    by_cases hj : j = i
    · rw [if_pos ⟨rfl, rfl, hj⟩, if_pos ⟨rfl, hj⟩]
    · rw [if_neg (fun q => hj q.2.2), if_neg (fun q => hj q.2)]; exact h.2.2.2.2.2.2.2.2.2.2.2.1 j, h.2.2.2.2.2.2.2.2.2.2.2.2.1, h.2.2.2.2.2.2.2.2.2.2.2.2.2⟩
theorem pz_ms45 (h : pz_m sc sq pa ri mp ca dr pe w0 w) {i : Nat} {v : Int32} : pz_m sc sq pa ri mp ca dr (pz_u pe.1 45 i v, pe.2) w0 (pw_ps w 245 0 i v) := by
  refine ⟨⟨fun f h1 h2 => (funext fun b => funext fun d => if_neg (fun q => absurd q.1 (by omega)) : (pw_ps w 245 _ _ _).1 f = w.1 f).trans (h.1.1 f h1 h2), h.1.2⟩, h.2.1, h.2.2.1, h.2.2.2.1, h.2.2.2.2.1, h.2.2.2.2.2.1, h.2.2.2.2.2.2.1, h.2.2.2.2.2.2.2.1, h.2.2.2.2.2.2.2.2.1, h.2.2.2.2.2.2.2.2.2.1, ?_⟩
  exact ⟨h.2.2.2.2.2.2.2.2.2.2.1, h.2.2.2.2.2.2.2.2.2.2.2.1, fun j => by
    show (if 245 = 245 ∧ 0 = 0 ∧ j = i then v else w.1 245 0 j) = (if 45 = 45 ∧ j = i then v else _)
    by_cases hj : j = i
    · rw [if_pos ⟨rfl, rfl, hj⟩, if_pos ⟨rfl, hj⟩]
    · rw [if_neg (fun q => hj q.2.2), if_neg (fun q => hj q.2)]; exact h.2.2.2.2.2.2.2.2.2.2.2.2.1 j, h.2.2.2.2.2.2.2.2.2.2.2.2.2⟩
theorem pz_ms43 (h : pz_m sc sq pa ri mp ca dr pe w0 w) {s j m : Nat} {v : Int32} (hs : s < 12) (hj : j < 3) (e : m = 3 * s + j) : pz_m sc sq pa ri mp ca dr (pe.1, pz_u pe.2 s j v) w0 (pw_ps w 243 0 m v) := by
  refine ⟨⟨fun f h1 h2 => (funext fun b => funext fun d => if_neg (fun q => absurd q.1 (by omega)) : (pw_ps w 243 _ _ _).1 f = w.1 f).trans (h.1.1 f h1 h2), h.1.2⟩, h.2.1, h.2.2.1, h.2.2.2.1, h.2.2.2.2.1, h.2.2.2.2.2.1, h.2.2.2.2.2.2.1, h.2.2.2.2.2.2.2.1, h.2.2.2.2.2.2.2.2.1, h.2.2.2.2.2.2.2.2.2.1, ?_⟩
  exact ⟨h.2.2.2.2.2.2.2.2.2.2.1, h.2.2.2.2.2.2.2.2.2.2.2.1, h.2.2.2.2.2.2.2.2.2.2.2.2.1, fun s1 j1 a1 b1 => by
    show (if 243 = 243 ∧ 0 = 0 ∧ 3 * s1 + j1 = m then v else w.1 243 0 (3 * s1 + j1)) = (if s1 = s ∧ j1 = j then v else _)
    by_cases hq : s1 = s ∧ j1 = j
    · rw [if_pos ⟨rfl, rfl, by rw [e, hq.1, hq.2]⟩, if_pos hq]
    · rw [if_neg (fun q => hq (by have := q.2.2; omega)), if_neg hq]; exact h.2.2.2.2.2.2.2.2.2.2.2.2.2 s1 j1 a1 b1⟩
end PZM
