/-! the last of the model's methods that only tell -/
section PZY
variable {sc : pz_S} {sq : pz_Q} {pa : pz_P} {ri : pz_N} {mp : pz_N} {ca : pz_P} {dr : pz_N} {pe : pz_Q} {w0 w : pw_W} {K : pw_W → Int32 → Prop} {X : pw_W → Nat → Prop} {x y z t : Int32} {s r c d : Nat}
theorem pz_x12 {a b : Nat} : (12 : Int32) * nI a + nI b = nI (12 * a + b) := by rw [pz_l12, pz_mul, pz_add]
theorem pz_x100 {a b : Nat} : (100 : Int32) * nI a + nI b = nI (100 * a + b) := by rw [pz_l100, pz_mul, pz_add]
theorem pz_x3 {a b : Nat} : (3 : Int32) * nI a + nI b = nI (3 * a + b) := by rw [pz_l3, pz_mul, pz_add]
theorem pz_x250 {a b : Nat} : (250 : Int32) * nI a + nI b = nI (250 * a + b) := by rw [pz_l250, pz_mul, pz_add]
def pz_gt (sq : pz_Q) (pa ca : pz_P) (c s : Nat) : Prop := ¬ ca.2.2 c s = 0 ∧ ¬ pa.2.1 16 (pw_i (sq.1 8 s)) = ca.2.1 31 c ∧ (sq.1 12 s = -1 ∨ sq.1 12 s = nI c ∨ ca.2.1 34 (pw_i (sq.1 12 s)) ≤ ca.2.1 33 c)
def pz_j8 (sq : pz_Q) (pa : pz_P) : Prop := ∀ s, s < 100 → pw_jn (sq.1 8 s) pa.1
def pz_j12 (sq : pz_Q) (ca : pz_P) : Prop := ∀ s, s < 100 → sq.1 12 s = -1 ∨ pw_jn (sq.1 12 s) ca.1
theorem pz_jw {x : Int32} {a b : Nat} (h : pw_jn x a) (hl : a ≤ b) : pw_jn x b := ⟨h.1, Nat.lt_of_lt_of_le h.2 hl⟩
def pz_wi (ca : pz_P) (c : Nat) : Prop := ¬ ca.2.1 35 c ≤ ca.2.1 36 c
def pz_sd (x y : Int32) : Prop := ((x - x / 10 * 10) - (y - y / 10 * 10)) * ((x - x / 10 * 10) - (y - y / 10 * 10)) + ((x / 10) - (y / 10)) * ((x / 10) - (y / 10)) = 1
def pz_dr (dr : pz_N) (x y : Int32) (d : Nat) : Prop := dr.2 39 d = x ∧ dr.2 40 d = y
def pz_my (sq : pz_Q) (pa : pz_P) (ri : pz_N) (pe : pz_Q) (q k : Int32) (s : Nat) : Prop := pe.1 42 (pw_i q) = 0 ∧ (pa.2.1 16 (pw_i (sq.1 8 s)) = q ∨ pz_ex (pz_hr ri k (sq.1 8 s) q) ri.1)
def pz_wb (sc : pz_S) (sq : pz_Q) (x : Int32) (s : Nat) : Prop := ¬ x ≤ sc 1 - sq.1 9 s
def pz_bu (sc : pz_S) (sq : pz_Q) (s : Nat) : Prop := ¬ 3 < sc 2 ∧ ¬ 30 < sq.1 7 s ∧ pz_in (sc 1 - sc 1 / 360 * 360) 60 150 ∧ ¬ pz_wb sc sq 1080 s
def pz_wt (sq : pz_Q) (s : Nat) : Prop := ¬ sq.1 7 s < 60
def pz_nr (s t : Nat) : Prop := pz_in ((nI t - nI t / 10 * 10) - (nI s - nI s / 10 * 10)) (-1) 1 ∧ pz_in ((nI t / 10) - (nI s / 10)) (-1) 1
noncomputable def pz_bi (sc : pz_S) (sq : pz_Q) (s : Nat) : Int32 := pz_ite (¬ pz_wb sc sq 360 s ∧ 10 ≤ sq.1 6 s) (pz_ct (fun t => pz_nr s t ∧ pz_wt sq t) 100) 0
noncomputable def pz_ss (pa : pz_P) (p n : Nat) : Int32 := pz_su (fun _ => True) (pa.2.2 p) n
end PZY
