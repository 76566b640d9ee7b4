/-! what holds of the state between calls; the end of a call -/
section PZI
variable {sc : pz_S} {sq : pz_Q} {pa : pz_P} {ri : pz_N} {mp : pz_N} {ca : pz_P} {dr : pz_N} {pe : pz_Q} {U V : Nat} {w0 w w1 w2 : pw_W} {K : pw_W → Int32 → Prop} {X : pw_W → Nat → Prop} {x y z t v cd b : Int32} {i s r c j n p q : Nat}
def pz_iq (sc : pz_S) (sq : pz_Q) : Prop := pz_jb sc sq ∧ (∀ s, s < 100 → 0 ≤ sq.1 7 s ∧ sq.1 7 s ≤ 100) ∧ (∀ s, s < 100 → 0 ≤ sq.1 6 s ∧ sq.1 6 s ≤ 200) ∧ (∀ s, s < 100 → sq.1 10 s = -1 ∨ pw_jn (sq.1 10 s) 12)
/-- how many parcels were merged -/
noncomputable def pz_mg (pa : pz_P) : Nat := pz_cn (fun j => ¬ pa.2.1 17 j = -1) pa.1
def pz_il (sq : pz_Q) (pa ca : pz_P) : Prop := pz_j8 sq pa ∧ pz_j12 sq ca ∧ (∀ s, s < 100 → ¬ sq.1 12 s = -1 → pw_jn (sq.1 13 s) pa.1) ∧
  ∀ s, s < 100 → ∃ l, sq.1 14 s = nI l ∧ 1 ≤ l ∧ (sq.1 12 s = -1 → l + 1 ≤ 2 * pa.1 + pz_mg pa) ∧ (¬ sq.1 12 s = -1 → l + 2 ≤ 2 * pa.1 + pz_mg pa)
def pz_ip (pa : pz_P) : Prop := (1 ≤ pa.1 ∧ pa.1 ≤ 40) ∧ pz_root pa ∧ (∀ j, j < pa.1 → pa.2.1 16 j = -1 ∨ pw_jn (pa.2.1 16 j) 12) ∧ (∀ j q, pa.1 ≤ j → q < 12 → pa.2.2 j q = 0)
def pz_un' (ri : pz_N) : Prop := ∀ r r', r < ri.1 → r' < ri.1 → ri.2 25 r = 0 → ri.2 25 r' = 0 → ri.2 21 r = ri.2 21 r' → ri.2 20 r = ri.2 20 r' → ri.2 22 r = ri.2 22 r' → r = r'
def pz_ir (ri : pz_N) (pa : pz_P) : Prop := ri.1 ≤ 80 ∧ pz_js ri pa ∧ pz_un' ri ∧ ∀ r, ri.2 25 r = 0 ∨ ri.2 25 r = 1
def pz_im (mp : pz_N) : Prop := mp.1 ≤ 12
def pz_ic (ca : pz_P) : Prop := ca.1 ≤ 16 ∧ (∀ c, c < ca.1 → pw_jn (ca.2.1 31 c) 12) ∧ (∀ c, ca.2.1 33 c = 0 ∨ ca.2.1 33 c = 1 ∨ ca.2.1 33 c = 2) ∧ ∀ c, ca.1 ≤ c → ca.2.1 32 c = 0 ∧ ca.2.1 33 c = 0 ∧ ca.2.1 35 c = 0 ∧ ca.2.1 36 c = 0
def pz_id (dr : pz_N) : Prop := dr.1 ≤ 20 ∧ ∀ d, d < dr.1 → pw_jn (dr.2 39 d) 100 ∧ pw_jn (dr.2 40 d) 100
def pz_ih (pe : pz_Q) : Prop := (∀ p, pe.1 42 p = 0 ∨ pe.1 42 p = 1) ∧ ∀ p, p < 12 → ∃ d, d ≤ 3 ∧ pe.1 44 p = nI d ∧ ∀ k, k < d → pw_jn (pe.2 p k) 12
def pz_I (sc : pz_S) (sq : pz_Q) (pa : pz_P) (ri mp : pz_N) (ca : pz_P) (dr : pz_N) (pe : pz_Q) : Prop := pz_iq sc sq ∧ pz_il sq pa ca ∧ pz_ip pa ∧ pz_ir ri pa ∧ pz_im mp ∧ pz_ic ca ∧ pz_id dr ∧ pz_ih pe
theorem pz_I.gq (h : pz_I sc sq pa ri mp ca dr pe) : pz_iq sc sq := h.1
theorem pz_I.gl (h : pz_I sc sq pa ri mp ca dr pe) : pz_il sq pa ca := h.2.1
theorem pz_I.gp (h : pz_I sc sq pa ri mp ca dr pe) : pz_ip pa := h.2.2.1
theorem pz_I.gr (h : pz_I sc sq pa ri mp ca dr pe) : pz_ir ri pa := h.2.2.2.1
theorem pz_I.gm (h : pz_I sc sq pa ri mp ca dr pe) : pz_im mp := h.2.2.2.2.1
theorem pz_I.gc (h : pz_I sc sq pa ri mp ca dr pe) : pz_ic ca := h.2.2.2.2.2.1
theorem pz_I.gd (h : pz_I sc sq pa ri mp ca dr pe) : pz_id dr := h.2.2.2.2.2.2.1
theorem pz_I.gh (h : pz_I sc sq pa ri mp ca dr pe) : pz_ih pe := h.2.2.2.2.2.2.2
theorem pz_il.gb (h : pz_il sq pa ca) (hp : pa.1 ≤ 40) (hs : s < 100) : ∃ l, sq.1 14 s = nI l ∧ 1 ≤ l ∧ l ≤ 119 := by
  obtain ⟨l, e, h1, h2, h3⟩ := h.2.2.2 s hs
  have hm : pz_mg pa ≤ pa.1 := pz_cn_le
  refine ⟨l, e, h1, ?_⟩
  by_cases q : sq.1 12 s = -1
  · have := h2 q; omega
  · have := h3 q; omega
theorem pz_il.L (h : pz_il sq pa ca) (hp : pa.1 ≤ 40) : pz_L sq ≤ 12000 := by
  have H : ∀ n, n ≤ 100 → pz_Ln sq n ≤ 119 * n := by
    intro n
    induction n with
    | zero => intro _; exact Nat.le_refl _
    | succ n ih =>
      intro hn
      show pz_Ln sq n + pw_i (sq.1 14 n) ≤ _
      obtain ⟨l, e, h1, h2⟩ := h.gb hp (s := n) (by omega)
      rw [e, pz_i (by omega)]
      have := ih (by omega)
      omega
  have := H 100 (by omega)
  show pz_Ln sq 100 ≤ _
  omega
theorem pz_m.shift (h : pz_m sc sq pa ri mp ca dr pe w w) (hf : ∀ f, f = 8 ∨ (200 ≤ f ∧ f < 300) → w1.1 f = w.1 f ∧ w1.2.1 f = w.2.1 f) : pz_m sc sq pa ri mp ca dr pe w1 w1 := by
  have e8 := (hf 8 (Or.inl rfl)).1
  have ef : ∀ k, k < 100 → w1.1 (200 + k) = w.1 (200 + k) := fun k hk => (hf _ (Or.inr ⟨by omega, by omega⟩)).1
  have el : ∀ k, k < 100 → w1.2.1 (200 + k) = w.2.1 (200 + k) := fun k hk => (hf _ (Or.inr ⟨by omega, by omega⟩)).2
  unfold pz_m pz_ml pz_mr pz_msc pz_msq pz_mpa pz_mri pz_mmp pz_mca pz_mdr pz_mpe pw_ln at *
  simp only [e8, ef 6 (by omega), ef 7 (by omega), ef 8 (by omega), ef 9 (by omega), ef 10 (by omega), ef 11 (by omega), ef 12 (by omega), ef 13 (by omega), ef 14 (by omega), ef 15 (by omega), ef 16 (by omega), ef 17 (by omega), ef 19 (by omega), ef 20 (by omega), ef 21 (by omega), ef 22 (by omega), ef 23 (by omega), ef 24 (by omega), ef 25 (by omega), ef 27 (by omega), ef 28 (by omega), ef 29 (by omega), ef 31 (by omega), ef 32 (by omega), ef 33 (by omega), ef 34 (by omega), ef 35 (by omega), ef 36 (by omega), ef 37 (by omega), ef 39 (by omega), ef 40 (by omega), ef 42 (by omega), ef 43 (by omega), ef 44 (by omega), ef 45 (by omega),
    el 6 (by omega), el 7 (by omega), el 8 (by omega), el 9 (by omega), el 10 (by omega), el 11 (by omega), el 12 (by omega), el 13 (by omega), el 14 (by omega), el 15 (by omega), el 16 (by omega), el 17 (by omega), el 19 (by omega), el 20 (by omega), el 21 (by omega), el 22 (by omega), el 23 (by omega), el 24 (by omega), el 25 (by omega), el 27 (by omega), el 28 (by omega), el 29 (by omega), el 31 (by omega), el 32 (by omega), el 33 (by omega), el 34 (by omega), el 35 (by omega), el 36 (by omega), el 37 (by omega), el 39 (by omega), el 40 (by omega), el 42 (by omega), el 43 (by omega), el 44 (by omega), el 45 (by omega)] at *
  exact ⟨⟨fun _ _ _ => trivial, trivial⟩, h.2⟩
theorem pz_c.shift (h : pz_c sc sq pa ri mp ca dr pe U V w w1) (hf : ∀ f, f < 200 → f ≠ 8 → w2.1 f = w1.1 f) (h2 : w2.2 = w1.2) : pz_c sc sq pa ri mp ca dr pe U V w2 w2 := by
  obtain ⟨a, b⟩ := w2
  have h2 : b = w1.2 := h2
  subst h2
  have h1 := h.2
  refine ⟨fun _ _ => ⟨rfl, rfl⟩, ?_⟩
  unfold pz_csc pz_csq pz_cgv pz_cch pz_cpa pz_car pz_cpe pz_cri pz_cmp pz_cca pz_cst pz_cdr pz_crm pz_gv pw_ln pw_nv at *
  dsimp only at *
  simp only [hf 7 (by omega) (by omega), hf 6 (by omega) (by omega), hf 14 (by omega) (by omega), hf 20 (by omega) (by omega), hf 10 (by omega) (by omega), hf 3 (by omega) (by omega), hf 11 (by omega) (by omega), hf 23 (by omega) (by omega), hf 4 (by omega) (by omega), hf 15 (by omega) (by omega), hf 24 (by omega) (by omega), hf 5 (by omega) (by omega), hf 25 (by omega) (by omega), hf 2 (by omega) (by omega), hf 22 (by omega) (by omega), hf 0 (by omega) (by omega), hf 12 (by omega) (by omega), hf 1 (by omega) (by omega), hf 21 (by omega) (by omega)]
  exact h1
end PZI
