/-! the class holds the state -/
def pz_bn (x : Int32) : Int32 := if x = -50000 then -1 else x
/-- a case told by its number, as a reference -/
noncomputable def pz_gv (w : pw_W) (x : Int32) : Int32 := pz_ite (x = -1) (-1) (w.1 20 0 (pw_i x))
/-- how long all chains are together -/
def pz_Ln (sq : pz_Q) (n : Nat) : Nat := Nat.rec 0 (fun s a => a + pw_i (sq.1 14 s)) n
abbrev pz_L (sq : pz_Q) : Nat := pz_Ln sq 100
def pz_csc (sc : pz_S) (w : pw_W) : Prop := w.1 7 0 0 = 0 ∧ w.1 7 0 1 = 0 ∧ w.1 7 0 2 = 0 ∧ w.1 7 0 3 = 0 ∧ w.1 7 0 4 = 0 ∧ w.1 7 0 5 = 0 ∧ w.1 7 0 6 = 0 ∧ w.1 7 0 7 = sc 1 ∧ w.1 7 0 8 = sc 2 ∧ w.1 7 0 9 = sc 3 ∧ w.1 7 0 10 = sc 4 ∧ w.1 7 0 11 = sc 5 ∧ True
def pz_csq (sq : pz_Q) (w : pw_W) : Prop := pw_ln w 14 0 = 100 ∧ (∀ s, s < 100 → w.1 14 0 s = nI s) ∧ (∀ s, s < 100 → w.1 6 s 0 = nI s) ∧ (∀ s, w.1 6 s 1 = sq.1 8 s) ∧ (∀ s, w.1 6 s 3 = sq.1 14 s) ∧ (∀ s, w.1 6 s 4 = sq.1 6 s) ∧ (∀ s, w.1 6 s 5 = sq.1 7 s) ∧ (∀ s, w.1 6 s 6 = pz_bn (sq.1 9 s)) ∧ (∀ s, w.1 6 s 7 = sq.1 10 s) ∧ (∀ s, w.1 6 s 8 = sq.1 11 s)
def pz_cgv (sq : pz_Q) (w : pw_W) : Prop := (∀ s, s < 100 → w.1 6 s 9 = pz_gv w (sq.1 12 s)) ∧ (∀ s, s < 100 → w.1 6 s 10 = pz_ite (sq.1 12 s = -1) (-1) (sq.1 13 s))
def pz_cch (sq : pz_Q) (w : pw_W) : Prop := (∀ s, s < 100 → pw_jn (w.1 6 s 2) (pw_nv w 10)) ∧ (∀ s t, s < 100 → t < 100 → w.1 6 s 2 = w.1 6 t 2 → s = t) ∧ (∀ s, s < 100 → pw_i (sq.1 14 s) ≤ pw_ln w 10 (pw_i (w.1 6 s 2)) ∧ 0 < pw_ln w 10 (pw_i (w.1 6 s 2)) ∧ pw_ln w 10 (pw_i (w.1 6 s 2)) ≤ 1000) ∧ (∀ s j, s < 100 → j < pw_i (sq.1 14 s) → w.1 10 (pw_i (w.1 6 s 2)) j = sq.2 s j)
def pz_cpa (pa : pz_P) (w : pw_W) : Prop := pw_ln w 23 0 = pa.1 ∧ pw_nv w 3 = pa.1 ∧ pw_nv w 11 = pa.1 ∧ (∀ j, j < pa.1 → w.1 23 0 j = nI j) ∧ (∀ j, j < pa.1 → w.1 3 j 0 = nI j) ∧ (∀ j, j < pa.1 → w.1 3 j 1 = nI j) ∧ (∀ j, w.1 3 j 2 = pa.2.1 16 j) ∧ (∀ j, w.1 3 j 3 = pa.2.1 17 j) ∧ (∀ j, j < pa.1 → w.1 3 j 5 = pz_ss pa j 12) ∧ (∀ j, j < pa.1 → pw_ln w 11 j = 12) ∧ (∀ j q, j < pa.1 → q < 12 → w.1 11 j q = pa.2.2 j q)
def pz_car (pa : pz_P) (sq : pz_Q) (w : pw_W) : Prop := (∀ j, j < pa.1 → w.1 3 j 4 = pz_ct (fun s => sq.1 8 s = nI j) 100)
def pz_cpe (pe : pz_Q) (w : pw_W) : Prop := pw_ln w 15 0 = 12 ∧ (∀ p, p < 12 → w.1 15 0 p = nI p) ∧ (∀ p, p < 12 → w.1 4 p 0 = nI p) ∧ (∀ p, p < 12 → w.1 4 p 1 = nI p) ∧ (∀ p, p < 12 → w.1 4 p 2 = pz_b (pe.1 42 p = 0)) ∧ (∀ p, w.1 4 p 3 = pe.1 45 p) ∧ (∀ p, p < 12 → pe.1 44 p = nI (pw_ln w 24 p) ∧ pw_ln w 24 p ≤ 3) ∧ (∀ p j, p < 12 → j < pw_ln w 24 p → w.1 24 p j = pe.2 p j) ∧ 12 ≤ pw_nv w 24
def pz_cri (ri : pz_N) (w : pw_W) : Prop := pw_ln w 25 0 = ri.1 ∧ pw_nv w 5 = ri.1 ∧ (∀ r, r < ri.1 → w.1 25 0 r = nI r) ∧ (∀ r, w.1 5 r 0 = ri.2 20 r) ∧ (∀ r, w.1 5 r 1 = ri.2 21 r) ∧ (∀ r, w.1 5 r 2 = ri.2 22 r) ∧ (∀ r, r < ri.1 → ri.2 20 r = 0 → w.1 5 r 3 = ri.2 23 r) ∧ (∀ r, w.1 5 r 4 = ri.2 24 r) ∧ (∀ r, w.1 5 r 5 = ri.2 25 r)
def pz_cmp (mp : pz_N) (w : pw_W) : Prop := pw_ln w 22 0 = mp.1 ∧ (∀ m, m < mp.1 → pw_jn (w.1 22 0 m) (pw_nv w 2)) ∧ (∀ m, m < mp.1 → w.1 2 (pw_i (w.1 22 0 m)) 0 = mp.2 27 m) ∧ (∀ m, m < mp.1 → w.1 2 (pw_i (w.1 22 0 m)) 1 = mp.2 28 m) ∧ (∀ m, m < mp.1 → w.1 2 (pw_i (w.1 22 0 m)) 2 = mp.2 29 m)
def pz_cca (ca : pz_P) (w : pw_W) : Prop := pw_ln w 20 0 = ca.1 ∧ pw_nv w 12 = pw_nv w 0 ∧ (∀ c, c < ca.1 → pw_jn (w.1 20 0 c) (pw_nv w 0)) ∧ (∀ c d, c < ca.1 → d < ca.1 → w.1 20 0 c = w.1 20 0 d → c = d) ∧ (∀ c, c < ca.1 → w.1 0 (pw_i (w.1 20 0 c)) 0 = ca.2.1 31 c) ∧ (∀ c, c < ca.1 → w.1 0 (pw_i (w.1 20 0 c)) 1 = w.1 20 0 c) ∧ (∀ c, c < ca.1 → w.1 0 (pw_i (w.1 20 0 c)) 2 = pz_ct (fun s => ¬ ca.2.2 c s = 0) 100) ∧ (∀ c, c < ca.1 → w.1 0 (pw_i (w.1 20 0 c)) 3 = ca.2.1 32 c) ∧ (∀ c, c < ca.1 → w.1 0 (pw_i (w.1 20 0 c)) 4 = ca.2.1 33 c) ∧ (∀ c, c < ca.1 → w.1 0 (pw_i (w.1 20 0 c)) 6 = ca.2.1 35 c) ∧ (∀ c, c < ca.1 → w.1 0 (pw_i (w.1 20 0 c)) 7 = ca.2.1 36 c) ∧ (∀ c, c < ca.1 → pw_ln w 12 (pw_i (w.1 20 0 c)) = 100) ∧ (∀ c s, c < ca.1 → s < 100 → w.1 12 (pw_i (w.1 20 0 c)) s = ca.2.2 c s)
def pz_cst (ca : pz_P) (sq : pz_Q) (w : pw_W) : Prop := (∀ c s, c < ca.1 → s < 100 → (ca.2.1 32 c = 1 ∨ sq.1 12 s = nI c) → w.1 0 (pw_i (w.1 20 0 c)) 5 = ca.2.1 34 c)
def pz_cdr (dr : pz_N) (w : pw_W) : Prop := pw_ln w 21 0 = dr.1 ∧ (∀ d, d < dr.1 → pw_jn (w.1 21 0 d) (pw_nv w 1)) ∧ (∀ d, d < dr.1 → w.1 1 (pw_i (w.1 21 0 d)) 0 = dr.2 39 d) ∧ (∀ d, d < dr.1 → w.1 1 (pw_i (w.1 21 0 d)) 1 = dr.2 40 d)
def pz_crm (U : Nat) (V : Nat) (sq : pz_Q) (ri : pz_N) (w : pw_W) : Prop := (∀ f, pw_nv w f ≤ w.2.2.1) ∧ w.2.2.1 ≤ U + pz_L sq + 2 * ri.1 ∧ w.2.2.2 ≤ V + 240 * pz_L sq + 130 * ri.1
/-- the class holds the state, with so many cells and slots used; what isn't the class's is as in w0 -/
def pz_c (sc : pz_S) (sq : pz_Q) (pa : pz_P) (ri : pz_N) (mp : pz_N) (ca : pz_P) (dr : pz_N) (pe : pz_Q) (U V : Nat) (w0 w : pw_W) : Prop := (∀ f, f = 8 ∨ (200 ≤ f ∧ f < 300) → w.1 f = w0.1 f ∧ w.2.1 f = w0.2.1 f) ∧ pz_csc sc w ∧ pz_csq sq w ∧ pz_cgv sq w ∧ pz_cch sq w ∧ pz_cpa pa w ∧ pz_car pa sq w ∧ pz_cpe pe w ∧ pz_cri ri w ∧ pz_cmp mp w ∧ pz_cca ca w ∧ pz_cst ca sq w ∧ pz_cdr dr w ∧ pz_crm U V sq ri w
section PZC
variable {sc : pz_S} {sq : pz_Q} {pa : pz_P} {ri : pz_N} {mp : pz_N} {ca : pz_P} {dr : pz_N} {pe : pz_Q} {U V : Nat} {w0 w : pw_W}
theorem pz_csc.of (h : pz_c sc sq pa ri mp ca dr pe U V w0 w) : pz_csc sc w := h.2.1
theorem pz_csq.of (h : pz_c sc sq pa ri mp ca dr pe U V w0 w) : pz_csq sq w := h.2.2.1
theorem pz_k14 (h : pz_c sc sq pa ri mp ca dr pe U V w0 w) : (∀ s, s < 100 → w.1 14 0 s = nI s) := h.2.2.1.2.1
theorem pz_k60 (h : pz_c sc sq pa ri mp ca dr pe U V w0 w) : (∀ s, s < 100 → w.1 6 s 0 = nI s) := h.2.2.1.2.2.1
theorem pz_cgv.of (h : pz_c sc sq pa ri mp ca dr pe U V w0 w) : pz_cgv sq w := h.2.2.2.1
theorem pz_k69 (h : pz_c sc sq pa ri mp ca dr pe U V w0 w) : (∀ s, s < 100 → w.1 6 s 9 = pz_gv w (sq.1 12 s)) := h.2.2.2.1.1
theorem pz_k610 (h : pz_c sc sq pa ri mp ca dr pe U V w0 w) : (∀ s, s < 100 → w.1 6 s 10 = pz_ite (sq.1 12 s = -1) (-1) (sq.1 13 s)) := h.2.2.2.1.2
theorem pz_cch.of (h : pz_c sc sq pa ri mp ca dr pe U V w0 w) : pz_cch sq w := h.2.2.2.2.1
theorem pz_k62 (h : pz_c sc sq pa ri mp ca dr pe U V w0 w) : (∀ s, s < 100 → pw_jn (w.1 6 s 2) (pw_nv w 10)) := h.2.2.2.2.1.1
theorem pz_k62i (h : pz_c sc sq pa ri mp ca dr pe U V w0 w) : (∀ s t, s < 100 → t < 100 → w.1 6 s 2 = w.1 6 t 2 → s = t) := h.2.2.2.2.1.2.1
theorem pz_kl10 (h : pz_c sc sq pa ri mp ca dr pe U V w0 w) : (∀ s, s < 100 → pw_i (sq.1 14 s) ≤ pw_ln w 10 (pw_i (w.1 6 s 2)) ∧ 0 < pw_ln w 10 (pw_i (w.1 6 s 2)) ∧ pw_ln w 10 (pw_i (w.1 6 s 2)) ≤ 1000) := h.2.2.2.2.1.2.2.1
theorem pz_k10 (h : pz_c sc sq pa ri mp ca dr pe U V w0 w) : (∀ s j, s < 100 → j < pw_i (sq.1 14 s) → w.1 10 (pw_i (w.1 6 s 2)) j = sq.2 s j) := h.2.2.2.2.1.2.2.2
theorem pz_cpa.of (h : pz_c sc sq pa ri mp ca dr pe U V w0 w) : pz_cpa pa w := h.2.2.2.2.2.1
theorem pz_k23 (h : pz_c sc sq pa ri mp ca dr pe U V w0 w) : (∀ j, j < pa.1 → w.1 23 0 j = nI j) := h.2.2.2.2.2.1.2.2.2.1
theorem pz_k30 (h : pz_c sc sq pa ri mp ca dr pe U V w0 w) : (∀ j, j < pa.1 → w.1 3 j 0 = nI j) := h.2.2.2.2.2.1.2.2.2.2.1
theorem pz_k31 (h : pz_c sc sq pa ri mp ca dr pe U V w0 w) : (∀ j, j < pa.1 → w.1 3 j 1 = nI j) := h.2.2.2.2.2.1.2.2.2.2.2.1
theorem pz_k35 (h : pz_c sc sq pa ri mp ca dr pe U V w0 w) : (∀ j, j < pa.1 → w.1 3 j 5 = pz_ss pa j 12) := h.2.2.2.2.2.1.2.2.2.2.2.2.2.2.1
theorem pz_kl11 (h : pz_c sc sq pa ri mp ca dr pe U V w0 w) : (∀ j, j < pa.1 → pw_ln w 11 j = 12) := h.2.2.2.2.2.1.2.2.2.2.2.2.2.2.2.1
theorem pz_k11 (h : pz_c sc sq pa ri mp ca dr pe U V w0 w) : (∀ j q, j < pa.1 → q < 12 → w.1 11 j q = pa.2.2 j q) := h.2.2.2.2.2.1.2.2.2.2.2.2.2.2.2.2
theorem pz_car.of (h : pz_c sc sq pa ri mp ca dr pe U V w0 w) : pz_car pa sq w := h.2.2.2.2.2.2.1
theorem pz_k34 (h : pz_c sc sq pa ri mp ca dr pe U V w0 w) : (∀ j, j < pa.1 → w.1 3 j 4 = pz_ct (fun s => sq.1 8 s = nI j) 100) := h.2.2.2.2.2.2.1
theorem pz_cpe.of (h : pz_c sc sq pa ri mp ca dr pe U V w0 w) : pz_cpe pe w := h.2.2.2.2.2.2.2.1
theorem pz_k15 (h : pz_c sc sq pa ri mp ca dr pe U V w0 w) : (∀ p, p < 12 → w.1 15 0 p = nI p) := h.2.2.2.2.2.2.2.1.2.1
theorem pz_k40 (h : pz_c sc sq pa ri mp ca dr pe U V w0 w) : (∀ p, p < 12 → w.1 4 p 0 = nI p) := h.2.2.2.2.2.2.2.1.2.2.1
theorem pz_k41 (h : pz_c sc sq pa ri mp ca dr pe U V w0 w) : (∀ p, p < 12 → w.1 4 p 1 = nI p) := h.2.2.2.2.2.2.2.1.2.2.2.1
theorem pz_k42 (h : pz_c sc sq pa ri mp ca dr pe U V w0 w) : (∀ p, p < 12 → w.1 4 p 2 = pz_b (pe.1 42 p = 0)) := h.2.2.2.2.2.2.2.1.2.2.2.2.1
theorem pz_kl24 (h : pz_c sc sq pa ri mp ca dr pe U V w0 w) : (∀ p, p < 12 → pe.1 44 p = nI (pw_ln w 24 p) ∧ pw_ln w 24 p ≤ 3) := h.2.2.2.2.2.2.2.1.2.2.2.2.2.2.1
theorem pz_k24 (h : pz_c sc sq pa ri mp ca dr pe U V w0 w) : (∀ p j, p < 12 → j < pw_ln w 24 p → w.1 24 p j = pe.2 p j) := h.2.2.2.2.2.2.2.1.2.2.2.2.2.2.2.1
theorem pz_kn24 (h : pz_c sc sq pa ri mp ca dr pe U V w0 w) : 12 ≤ pw_nv w 24 := h.2.2.2.2.2.2.2.1.2.2.2.2.2.2.2.2
theorem pz_cri.of (h : pz_c sc sq pa ri mp ca dr pe U V w0 w) : pz_cri ri w := h.2.2.2.2.2.2.2.2.1
theorem pz_k25 (h : pz_c sc sq pa ri mp ca dr pe U V w0 w) : (∀ r, r < ri.1 → w.1 25 0 r = nI r) := h.2.2.2.2.2.2.2.2.1.2.2.1
theorem pz_k53 (h : pz_c sc sq pa ri mp ca dr pe U V w0 w) : (∀ r, r < ri.1 → ri.2 20 r = 0 → w.1 5 r 3 = ri.2 23 r) := h.2.2.2.2.2.2.2.2.1.2.2.2.2.2.2.1
theorem pz_cmp.of (h : pz_c sc sq pa ri mp ca dr pe U V w0 w) : pz_cmp mp w := h.2.2.2.2.2.2.2.2.2.1
theorem pz_k22 (h : pz_c sc sq pa ri mp ca dr pe U V w0 w) : (∀ m, m < mp.1 → pw_jn (w.1 22 0 m) (pw_nv w 2)) := h.2.2.2.2.2.2.2.2.2.1.2.1
theorem pz_km0 (h : pz_c sc sq pa ri mp ca dr pe U V w0 w) : (∀ m, m < mp.1 → w.1 2 (pw_i (w.1 22 0 m)) 0 = mp.2 27 m) := h.2.2.2.2.2.2.2.2.2.1.2.2.1
theorem pz_km1 (h : pz_c sc sq pa ri mp ca dr pe U V w0 w) : (∀ m, m < mp.1 → w.1 2 (pw_i (w.1 22 0 m)) 1 = mp.2 28 m) := h.2.2.2.2.2.2.2.2.2.1.2.2.2.1
theorem pz_km2 (h : pz_c sc sq pa ri mp ca dr pe U V w0 w) : (∀ m, m < mp.1 → w.1 2 (pw_i (w.1 22 0 m)) 2 = mp.2 29 m) := h.2.2.2.2.2.2.2.2.2.1.2.2.2.2
theorem pz_cca.of (h : pz_c sc sq pa ri mp ca dr pe U V w0 w) : pz_cca ca w := h.2.2.2.2.2.2.2.2.2.2.1
theorem pz_k20 (h : pz_c sc sq pa ri mp ca dr pe U V w0 w) : (∀ c, c < ca.1 → pw_jn (w.1 20 0 c) (pw_nv w 0)) := h.2.2.2.2.2.2.2.2.2.2.1.2.2.1
theorem pz_k20i (h : pz_c sc sq pa ri mp ca dr pe U V w0 w) : (∀ c d, c < ca.1 → d < ca.1 → w.1 20 0 c = w.1 20 0 d → c = d) := h.2.2.2.2.2.2.2.2.2.2.1.2.2.2.1
theorem pz_kc0 (h : pz_c sc sq pa ri mp ca dr pe U V w0 w) : (∀ c, c < ca.1 → w.1 0 (pw_i (w.1 20 0 c)) 0 = ca.2.1 31 c) := h.2.2.2.2.2.2.2.2.2.2.1.2.2.2.2.1
theorem pz_kc1 (h : pz_c sc sq pa ri mp ca dr pe U V w0 w) : (∀ c, c < ca.1 → w.1 0 (pw_i (w.1 20 0 c)) 1 = w.1 20 0 c) := h.2.2.2.2.2.2.2.2.2.2.1.2.2.2.2.2.1
theorem pz_kc2 (h : pz_c sc sq pa ri mp ca dr pe U V w0 w) : (∀ c, c < ca.1 → w.1 0 (pw_i (w.1 20 0 c)) 2 = pz_ct (fun s => ¬ ca.2.2 c s = 0) 100) := h.2.2.2.2.2.2.2.2.2.2.1.2.2.2.2.2.2.1
theorem pz_kc3 (h : pz_c sc sq pa ri mp ca dr pe U V w0 w) : (∀ c, c < ca.1 → w.1 0 (pw_i (w.1 20 0 c)) 3 = ca.2.1 32 c) := h.2.2.2.2.2.2.2.2.2.2.1.2.2.2.2.2.2.2.1
theorem pz_kc4 (h : pz_c sc sq pa ri mp ca dr pe U V w0 w) : (∀ c, c < ca.1 → w.1 0 (pw_i (w.1 20 0 c)) 4 = ca.2.1 33 c) := h.2.2.2.2.2.2.2.2.2.2.1.2.2.2.2.2.2.2.2.1
theorem pz_kc6 (h : pz_c sc sq pa ri mp ca dr pe U V w0 w) : (∀ c, c < ca.1 → w.1 0 (pw_i (w.1 20 0 c)) 6 = ca.2.1 35 c) := h.2.2.2.2.2.2.2.2.2.2.1.2.2.2.2.2.2.2.2.2.1
theorem pz_kc7 (h : pz_c sc sq pa ri mp ca dr pe U V w0 w) : (∀ c, c < ca.1 → w.1 0 (pw_i (w.1 20 0 c)) 7 = ca.2.1 36 c) := h.2.2.2.2.2.2.2.2.2.2.1.2.2.2.2.2.2.2.2.2.2.1
theorem pz_kl12 (h : pz_c sc sq pa ri mp ca dr pe U V w0 w) : (∀ c, c < ca.1 → pw_ln w 12 (pw_i (w.1 20 0 c)) = 100) := h.2.2.2.2.2.2.2.2.2.2.1.2.2.2.2.2.2.2.2.2.2.2.1
theorem pz_k12 (h : pz_c sc sq pa ri mp ca dr pe U V w0 w) : (∀ c s, c < ca.1 → s < 100 → w.1 12 (pw_i (w.1 20 0 c)) s = ca.2.2 c s) := h.2.2.2.2.2.2.2.2.2.2.1.2.2.2.2.2.2.2.2.2.2.2.2
theorem pz_cst.of (h : pz_c sc sq pa ri mp ca dr pe U V w0 w) : pz_cst ca sq w := h.2.2.2.2.2.2.2.2.2.2.2.1
theorem pz_kc5 (h : pz_c sc sq pa ri mp ca dr pe U V w0 w) : (∀ c s, c < ca.1 → s < 100 → (ca.2.1 32 c = 1 ∨ sq.1 12 s = nI c) → w.1 0 (pw_i (w.1 20 0 c)) 5 = ca.2.1 34 c) := h.2.2.2.2.2.2.2.2.2.2.2.1
theorem pz_cdr.of (h : pz_c sc sq pa ri mp ca dr pe U V w0 w) : pz_cdr dr w := h.2.2.2.2.2.2.2.2.2.2.2.2.1
theorem pz_k21 (h : pz_c sc sq pa ri mp ca dr pe U V w0 w) : (∀ d, d < dr.1 → pw_jn (w.1 21 0 d) (pw_nv w 1)) := h.2.2.2.2.2.2.2.2.2.2.2.2.1.2.1
theorem pz_kd0 (h : pz_c sc sq pa ri mp ca dr pe U V w0 w) : (∀ d, d < dr.1 → w.1 1 (pw_i (w.1 21 0 d)) 0 = dr.2 39 d) := h.2.2.2.2.2.2.2.2.2.2.2.2.1.2.2.1
theorem pz_kd1 (h : pz_c sc sq pa ri mp ca dr pe U V w0 w) : (∀ d, d < dr.1 → w.1 1 (pw_i (w.1 21 0 d)) 1 = dr.2 40 d) := h.2.2.2.2.2.2.2.2.2.2.2.2.1.2.2.2
theorem pz_crm.of (h : pz_c sc sq pa ri mp ca dr pe U V w0 w) : pz_crm U V sq ri w := h.2.2.2.2.2.2.2.2.2.2.2.2.2
theorem pz_knv (h : pz_c sc sq pa ri mp ca dr pe U V w0 w) : (∀ f, pw_nv w f ≤ w.2.2.1) := h.2.2.2.2.2.2.2.2.2.2.2.2.2.1
theorem pz_kru (h : pz_c sc sq pa ri mp ca dr pe U V w0 w) : w.2.2.1 ≤ U + pz_L sq + 2 * ri.1 := h.2.2.2.2.2.2.2.2.2.2.2.2.2.2.1
theorem pz_krv (h : pz_c sc sq pa ri mp ca dr pe U V w0 w) : w.2.2.2 ≤ V + 240 * pz_L sq + 130 * ri.1 := h.2.2.2.2.2.2.2.2.2.2.2.2.2.2.2
theorem pz_ce (h : pz_c sc sq pa ri mp ca dr pe U V w0 w) : w.1 7 0 0 = 0 ∧ w.1 7 0 1 = 0 ∧ w.1 7 0 2 = 0 ∧ w.1 7 0 3 = 0 ∧ w.1 7 0 4 = 0 ∧ w.1 7 0 5 = 0 ∧ w.1 7 0 6 = 0 ∧ w.1 7 0 7 = sc 1 ∧ w.1 7 0 8 = sc 2 ∧ w.1 7 0 9 = sc 3 ∧ w.1 7 0 10 = sc 4 ∧ w.1 7 0 11 = sc 5 ∧ True ∧ pw_ln w 14 0 = 100 ∧ (∀ s, w.1 6 s 1 = sq.1 8 s) ∧ (∀ s, w.1 6 s 3 = sq.1 14 s) ∧ (∀ s, w.1 6 s 4 = sq.1 6 s) ∧ (∀ s, w.1 6 s 5 = sq.1 7 s) ∧ (∀ s, w.1 6 s 6 = pz_bn (sq.1 9 s)) ∧ (∀ s, w.1 6 s 7 = sq.1 10 s) ∧ (∀ s, w.1 6 s 8 = sq.1 11 s) ∧ pw_ln w 23 0 = pa.1 ∧ pw_nv w 3 = pa.1 ∧ pw_nv w 11 = pa.1 ∧ (∀ j, w.1 3 j 2 = pa.2.1 16 j) ∧ (∀ j, w.1 3 j 3 = pa.2.1 17 j) ∧ pw_ln w 15 0 = 12 ∧ (∀ p, w.1 4 p 3 = pe.1 45 p) ∧ pw_ln w 25 0 = ri.1 ∧ pw_nv w 5 = ri.1 ∧ (∀ r, w.1 5 r 0 = ri.2 20 r) ∧ (∀ r, w.1 5 r 1 = ri.2 21 r) ∧ (∀ r, w.1 5 r 2 = ri.2 22 r) ∧ (∀ r, w.1 5 r 4 = ri.2 24 r) ∧ (∀ r, w.1 5 r 5 = ri.2 25 r) ∧ pw_ln w 22 0 = mp.1 ∧ pw_ln w 20 0 = ca.1 ∧ pw_nv w 12 = pw_nv w 0 ∧ pw_ln w 21 0 = dr.1 :=
  ⟨h.2.1.1, h.2.1.2.1, h.2.1.2.2.1, h.2.1.2.2.2.1, h.2.1.2.2.2.2.1, h.2.1.2.2.2.2.2.1, h.2.1.2.2.2.2.2.2.1, h.2.1.2.2.2.2.2.2.2.1, h.2.1.2.2.2.2.2.2.2.2.1, h.2.1.2.2.2.2.2.2.2.2.2.1, h.2.1.2.2.2.2.2.2.2.2.2.2.1, h.2.1.2.2.2.2.2.2.2.2.2.2.2.1, h.2.1.2.2.2.2.2.2.2.2.2.2.2.2, h.2.2.1.1, h.2.2.1.2.2.2.1, h.2.2.1.2.2.2.2.1, h.2.2.1.2.2.2.2.2.1, h.2.2.1.2.2.2.2.2.2.1, h.2.2.1.2.2.2.2.2.2.2.1, h.2.2.1.2.2.2.2.2.2.2.2.1, h.2.2.1.2.2.2.2.2.2.2.2.2, h.2.2.2.2.2.1.1, h.2.2.2.2.2.1.2.1, h.2.2.2.2.2.1.2.2.1, h.2.2.2.2.2.1.2.2.2.2.2.2.1, h.2.2.2.2.2.1.2.2.2.2.2.2.2.1, h.2.2.2.2.2.2.2.1.1, h.2.2.2.2.2.2.2.1.2.2.2.2.2.1, h.2.2.2.2.2.2.2.2.1.1, h.2.2.2.2.2.2.2.2.1.2.1, h.2.2.2.2.2.2.2.2.1.2.2.2.1, h.2.2.2.2.2.2.2.2.1.2.2.2.2.1, h.2.2.2.2.2.2.2.2.1.2.2.2.2.2.1, h.2.2.2.2.2.2.2.2.1.2.2.2.2.2.2.2.1, h.2.2.2.2.2.2.2.2.1.2.2.2.2.2.2.2.2, h.2.2.2.2.2.2.2.2.2.1.1, h.2.2.2.2.2.2.2.2.2.2.1.1, h.2.2.2.2.2.2.2.2.2.2.1.2.1, h.2.2.2.2.2.2.2.2.2.2.2.2.1.1⟩
end PZC
