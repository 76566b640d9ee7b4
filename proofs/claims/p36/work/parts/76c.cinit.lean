/-! the class as it begins: the straight line -/
section PZCJ
variable {w w1 w2 wB : pw_W} {K : pw_W → Int32 → Prop} {X : pw_W → Nat → Prop} {f g i k l n s : Nat} {v : Int32}
def cw1 : pw_W := pw_ps (pw_nw (pw_nw pw_w0 7 0 12) 14 100 100) 7 0 0 0
def cw2 : pw_W := pw_ps (pw_nw cw1 15 12 12) 7 0 1 0
def cw3 : pw_W := pw_ps (pw_nl cw2 23) 7 0 2 0
def cw4 : pw_W := pw_ps (pw_nl cw3 22) 7 0 3 0
def cw5 : pw_W := pw_ps (pw_nl cw4 20) 7 0 4 0
def cw6 : pw_W := pw_ps (pw_nl cw5 25) 7 0 5 0
def cw7 : pw_W := pw_ps (pw_nl cw6 21) 7 0 6 0
def cw8 : pw_W := pw_nw cw7 3 0 6
def cw9 : pw_W := pw_ps (pw_ps (pw_ps (pw_nw cw8 11 12 12) 3 0 1 0) 3 0 0 0) 3 0 2 (-1)
def cw10 : pw_W := pw_la cw9 23 0 0
theorem pz_nlF' (h : g ≠ f) (h2 : g ≠ f + 300) : (pw_nl w f).1 g = w.1 g := funext fun b => funext fun c => by
  show (if (g = f ∨ g = f + 300) ∧ b = w.2.1 1000 f then _ else _) = _
  rw [if_neg (fun z => by rcases z.1 with t | t; exact h t; exact h2 t)]
theorem pz_nlN' (h : g ≠ f) : (pw_nl w f).2.1 1000 g = w.2.1 1000 g := if_neg h
theorem pz_laF' (h : g ≠ f) (h2 : g ≠ f + 300) : (pw_la w f i v).1 g = w.1 g := funext fun b => funext fun c => pz_laf h h2
theorem pz_laN' (h : 1000 ≠ f) (h2 : 1000 ≠ f + 300) : (pw_la w f i v).2.1 1000 g = w.2.1 1000 g := by
  show (if 1000 = f ∧ g = i then _ else if 1000 = f + 300 ∧ g = i ∧ _ then _ else w.2.1 1000 g) = _
  rw [if_neg (fun z => h z.1), if_neg (fun z => h2 z.1)]
theorem cw7F (h1 : g ≠ 7) (h2 : g ≠ 14) (h3 : g ≠ 15) (h4 : g ≠ 20) (h5 : g ≠ 21) (h6 : g ≠ 22) (h7 : g ≠ 23) (h8 : g ≠ 25) (h9 : g < 300) : cw7.1 g = fun _ _ => 0 := by
  unfold cw7 cw6 cw5 cw4 cw3 cw2 cw1
  rw [pz_psF h1, pz_nlF' h5 (by omega), pz_psF h1, pz_nlF' h8 (by omega), pz_psF h1, pz_nlF' h4 (by omega), pz_psF h1, pz_nlF' h6 (by omega), pz_psF h1, pz_nlF' h7 (by omega), pz_psF h1, pz_nwF h3, pz_psF h1, pz_nwF h2, pz_nwF h1]
  rfl
theorem cw10F (h1 : g ≠ 7) (h2 : g ≠ 14) (h3 : g ≠ 15) (h4 : g ≠ 20) (h5 : g ≠ 21) (h6 : g ≠ 22) (h7 : g ≠ 23) (h8 : g ≠ 25) (h9 : g < 300) (h10 : g ≠ 3) (h11 : g ≠ 11) : cw10.1 g = fun _ _ => 0 := by
  unfold cw10 cw9 cw8
  rw [pz_laF' h7 (by omega), pz_psF h10, pz_psF h10, pz_psF h10, pz_nwF h11, pz_nwF h10, cw7F h1 h2 h3 h4 h5 h6 h7 h8 h9]
theorem cw10N (h1 : g ≠ 7) (h2 : g ≠ 14) (h3 : g ≠ 15) (h4 : g ≠ 20) (h5 : g ≠ 21) (h6 : g ≠ 22) (h7 : g ≠ 23) (h8 : g ≠ 25) (h10 : g ≠ 3) (h11 : g ≠ 11) : cw10.2.1 1000 g = 0 := by
  unfold cw10 cw9 cw8 cw7 cw6 cw5 cw4 cw3 cw2 cw1
  rw [pz_laN' (by decide) (by decide)]
  show (pw_nw (pw_nw (pw_nl (pw_nl (pw_nl (pw_nl (pw_nl (pw_nw (pw_nw (pw_nw pw_w0 7 0 12) 14 100 100) 15 12 12) 23) 22) 20) 25) 21) 3 0 6) 11 12 12).2.1 1000 g = 0
  rw [pz_nwN h11, pz_nwN h10, pz_nlN' h5, pz_nlN' h8, pz_nlN' h4, pz_nlN' h6, pz_nlN' h7, pz_nwN h3, pz_nwN h2, pz_nwN h1]
  rfl
theorem cw10V : ∀ f, pw_nv cw10 f ≤ cw10.2.2.1 := by
  have h0 : pz_nvl pw_w0 := fun f => Nat.le_refl 0
  have h1 : pz_nvl cw1 := (h0.nw (f := 7) (len := 0) (n := 12)).nw (f := 14) (len := 100) (n := 100)
  have h2 : pz_nvl cw2 := h1.nw (f := 15) (len := 12) (n := 12)
  have h3 : pz_nvl cw3 := h2.nl (f := 23)
  have h4 : pz_nvl cw4 := h3.nl (f := 22)
  have h5 : pz_nvl cw5 := h4.nl (f := 20)
  have h6 : pz_nvl cw6 := h5.nl (f := 25)
  have h7 : pz_nvl cw7 := h6.nl (f := 21)
  have h9 : pz_nvl cw9 := (h7.nw (f := 3) (len := 0) (n := 6)).nw (f := 11) (len := 12) (n := 12)
  exact h9.la (f := 23) (by decide)
theorem cw10_7 : ∀ k, k < 12 → cw10.1 7 0 k = 0 := by decide +kernel
theorem cw10_l : pw_ln cw10 14 0 = 100 ∧ pw_ln cw10 15 0 = 12 ∧ pw_ln cw10 23 0 = 1 ∧ pw_ln cw10 22 0 = 0 ∧ pw_ln cw10 20 0 = 0 ∧ pw_ln cw10 25 0 = 0 ∧ pw_ln cw10 21 0 = 0 ∧ pw_ln cw10 11 0 = 12 := by decide +kernel
theorem cw10_n : cw10.2.1 1000 3 = 1 ∧ cw10.2.1 1000 11 = 1 := by decide +kernel
theorem cw10_3 : cw10.1 23 0 0 = 0 ∧ cw10.1 3 0 0 = 0 ∧ cw10.1 3 0 1 = 0 ∧ cw10.1 3 0 2 = -1 ∧ cw10.1 3 0 3 = -1 ∧ cw10.1 3 0 5 = 0 := by decide +kernel
theorem cw7_n : pw_nv cw7 3 = 0 ∧ pw_nv cw8 11 = 0 := by decide +kernel
theorem cw10_3o (h : ¬ i = 0) : cw10.1 3 i k = 0 := by
  unfold cw10 cw9 cw8
  rw [pz_laF' (by decide) (by decide), pz_psi h, pz_psi h, pz_psi h, pz_nwF (by decide), pz_nwi (by rw [cw7_n.1]; exact h), cw7F (by decide) (by decide) (by decide) (by decide) (by decide) (by decide) (by decide) (by decide) (by decide)]
theorem cw10_11 : cw10.1 11 0 k = 0 := by
  unfold cw10 cw9
  rw [pz_laF' (by decide) (by decide), pz_psF (by decide), pz_psF (by decide), pz_psF (by decide)]
  have := pz_nws (w := cw8) (f := 11) (len := 12) (n := 12) (k' := k)
  rw [cw7_n.2] at this
  exact this
theorem cw10_u : cw10.2.2.1 = 11 ∧ cw10.2.2.2 = 167 := by decide +kernel
/-- what the class's memory is at first -/
def pz_E (w : pw_W) : Prop := (∀ k, k < 12 → w.1 7 0 k = 0) ∧
  (pw_ln w 14 0 = 100 ∧ pw_ln w 15 0 = 12 ∧ pw_ln w 23 0 = 1 ∧ pw_ln w 22 0 = 0 ∧ pw_ln w 20 0 = 0 ∧ pw_ln w 25 0 = 0 ∧ pw_ln w 21 0 = 0 ∧ pw_ln w 11 0 = 12) ∧
  (pw_nv w 10 = 100 ∧ pw_nv w 24 = 12 ∧ pw_nv w 3 = 1 ∧ pw_nv w 11 = 1 ∧ pw_nv w 5 = 0 ∧ pw_nv w 12 = pw_nv w 0) ∧
  (∀ s, s < 100 → w.1 14 0 s = nI s) ∧ (∀ t k, w.1 6 t k = if t < 100 then pz_sv t k else 0) ∧ (∀ t, t < 100 → pw_ln w 10 t = 4 ∧ w.1 10 t 0 = 0) ∧
  (w.1 23 0 0 = 0 ∧ w.1 3 0 0 = 0 ∧ w.1 3 0 1 = 0 ∧ w.1 3 0 2 = -1 ∧ w.1 3 0 3 = -1 ∧ w.1 3 0 4 = 100 ∧ w.1 3 0 5 = 0) ∧ (∀ j k, ¬ j = 0 → w.1 3 j k = 0) ∧ (∀ q, w.1 11 0 q = 0) ∧
  (∀ p, p < 12 → w.1 15 0 p = nI p) ∧ (∀ p k, w.1 4 p k = if p < 12 then pz_pv p k else 0) ∧ (∀ p, p < 12 → pw_ln w 24 p = 0) ∧ (∀ r k, w.1 5 r k = 0)
/-- what is nobody's yet -/
def pz_E0 (w : pw_W) : Prop := (∀ g, g = 8 ∨ (200 ≤ g ∧ g < 300) → w.1 g = (fun _ _ => 0) ∧ w.2.1 1000 g = 0) ∧ w.2.1 1000 13 = 0 ∧ (∀ f, pw_nv w f ≤ w.2.2.1) ∧ w.2.2.1 ≤ 300 ∧ w.2.2.2 ≤ 3000
theorem wl_cinit (k : ∀ w, pz_E w → pz_E0 w → K w 0) : wp_X_init (pw_nw pw_w0 7 0 12) K X := by
  unfold wp_X_init wp_Parcel_init
  refine ⟨by decide +kernel, by decide +kernel, fun w27 e27 w29 e29 => ?_⟩
  obtain rfl : w29 = cw1 := by rw [e29, e27]; rfl
  refine ⟨by decide +kernel, by decide +kernel, fun w33 e33 w35 e35 => ?_⟩
  obtain rfl : w35 = cw2 := by rw [e35, e33]; rfl
  refine ⟨by decide +kernel, by decide +kernel, fun w39 e39 w41 e41 => ?_⟩
  obtain rfl : w41 = cw3 := by rw [e41, e39]; rfl
  refine ⟨by decide +kernel, by decide +kernel, fun w45 e45 w47 e47 => ?_⟩
  obtain rfl : w47 = cw4 := by rw [e47, e45]; rfl
  refine ⟨by decide +kernel, by decide +kernel, fun w51 e51 w53 e53 => ?_⟩
  obtain rfl : w53 = cw5 := by rw [e53, e51]; rfl
  refine ⟨by decide +kernel, by decide +kernel, fun w57 e57 w59 e59 => ?_⟩
  obtain rfl : w59 = cw6 := by rw [e59, e57]; rfl
  refine ⟨by decide +kernel, by decide +kernel, fun w63 e63 w65 e65 => ?_⟩
  obtain rfl : w65 = cw7 := by rw [e65, e63]; rfl
  rw [cw7_n.1]
  refine ⟨by decide +kernel, fun w68 e68 => ?_⟩
  obtain rfl : w68 = cw8 := e68
  refine ⟨by decide +kernel, by decide +kernel, fun w3 e3 w5 e5 w7 e7 w9 e9 v72 ev => ?_⟩
  obtain rfl : w9 = cw9 := by rw [e9, e7, e5, e3, cw7_n.2]; rfl
  subst ev
  refine ⟨by decide +kernel, by unfold pw_lg; decide +kernel, fun w77 e77 => ?_⟩
  obtain rfl : w77 = cw10 := e77
  have u := cw10_u
  have zr : ∀ g, (g = 6 ∨ g = 10 ∨ g = 4 ∨ g = 24 ∨ g = 5 ∨ g = 8 ∨ 200 ≤ g ∧ g < 300) → cw10.1 g = fun _ _ => 0 := fun g hg => cw10F (by omega) (by omega) (by omega) (by omega) (by omega) (by omega) (by omega) (by omega) (by omega) (by omega) (by omega)
  have nr : ∀ g, (g = 6 ∨ g = 10 ∨ g = 4 ∨ g = 24 ∨ g = 5 ∨ g = 8 ∨ g = 0 ∨ g = 12 ∨ g = 13 ∨ 200 ≤ g ∧ g < 300) → cw10.2.1 1000 g = 0 := fun g hg => cw10N (by omega) (by omega) (by omega) (by omega) (by omega) (by omega) (by omega) (by omega) (by omega) (by omega)
  refine wl_100 ⟨fun _ _ _ _ _ => ⟨rfl, rfl⟩, fun _ _ _ => rfl, nr 6 (by omega), nr 10 (by omega), cw10_l.1, fun p hp => absurd hp (Nat.not_lt_zero _), fun p k => by rw [zr 6 (by omega), if_neg (Nat.not_lt_zero _)], fun p hp => absurd hp (Nat.not_lt_zero _), cw10V, rfl, rfl⟩ (by omega) (by omega) (cw10_7 0 (by decide)) cw10_3.2.1 (fun wb hb => ?_)
  obtain ⟨b1, b2, b3, b4, b5, b6, b7, b8, b9, b10, b11⟩ := hb
  have cF : ∀ g, g ≠ 3 → (pw_ps wb 3 0 4 100).1 g = wb.1 g := fun g h => pz_psF h
  refine wl_135 ⟨fun _ _ _ _ _ _ => ⟨rfl, rfl⟩, fun _ _ _ => rfl, (b2 4 (by decide) (by decide)).trans (nr 4 (by omega)), (b2 24 (by decide) (by decide)).trans (nr 24 (by omega)), ?_, fun p hp => absurd hp (Nat.not_lt_zero _), fun p k => by rw [cF 4 (by decide), (b1 4 (by decide) (by decide) (by decide) (by decide)).1, zr 4 (by omega), if_neg (Nat.not_lt_zero _)], fun p hp => absurd hp (Nat.not_lt_zero _), b9, rfl, rfl⟩ (by show wb.2.2.1 ≤ _; omega) (by show wb.2.2.2 ≤ _; omega) (by rw [cF 7 (by decide), (b1 7 (by decide) (by decide) (by decide) (by decide)).1]; exact cw10_7 1 (by decide)) (fun wd hd => ?_)
  · show wb.2.1 15 0 = 12
    rw [(b1 15 (by decide) (by decide) (by decide) (by decide)).2]; exact cw10_l.2.1
  obtain ⟨d1, d2, d3, d4, d5, d6, d7, d8, d9, d10, d11⟩ := hd
  have fF : ∀ g, g ≠ 4 → g ≠ 24 → g ≠ 324 → g ≠ 15 → g ≠ 1000 → g ≠ 3 → wd.1 g = wb.1 g := fun g g1 g2 g3 g4 g5 g6 => (d1 g g1 g2 g3 g4 g5).1.trans (cF g g6)
  have fL : ∀ g, g ≠ 4 → g ≠ 24 → g ≠ 324 → g ≠ 15 → g ≠ 1000 → wd.2.1 g = wb.2.1 g := fun g g1 g2 g3 g4 g5 => (d1 g g1 g2 g3 g4 g5).2
  have fN : ∀ g, g ≠ 4 → g ≠ 24 → wd.2.1 1000 g = wb.2.1 1000 g := fun g g1 g2 => d2 g g1 g2
  have gF : ∀ g, g ≠ 4 → g ≠ 24 → g ≠ 324 → g ≠ 15 → g ≠ 1000 → g ≠ 3 → g ≠ 6 → g ≠ 10 → g ≠ 14 → wd.1 g = cw10.1 g := fun g g1 g2 g3 g4 g5 g6 g7 g8 g9 => (fF g g1 g2 g3 g4 g5 g6).trans (b1 g g7 g8 g9 g5).1
  have gL : ∀ g, g ≠ 4 → g ≠ 24 → g ≠ 324 → g ≠ 15 → g ≠ 1000 → g ≠ 6 → g ≠ 10 → g ≠ 14 → wd.2.1 g = cw10.2.1 g := fun g g1 g2 g3 g4 g5 g7 g8 g9 => (fL g g1 g2 g3 g4 g5).trans (b1 g g7 g8 g9 g5).2
  have gN : ∀ g, g ≠ 4 → g ≠ 24 → g ≠ 6 → g ≠ 10 → wd.2.1 1000 g = cw10.2.1 1000 g := fun g g1 g2 g7 g8 => (fN g g1 g2).trans (b2 g g7 g8)
  have g3 : wd.1 3 = (pw_ps wb 3 0 4 100).1 3 := (d1 3 (by decide) (by decide) (by decide) (by decide) (by decide)).1
  have b3' : wb.1 3 = cw10.1 3 := (b1 3 (by decide) (by decide) (by decide) (by decide)).1
  have h3 : ∀ i k, ¬ k = 4 → wd.1 3 i k = cw10.1 3 i k := fun i k hk => by rw [g3, pz_psk hk, b3']
  have L := cw10_l
  refine k _ ⟨fun k hk => ?_, ⟨?_, d5, ?_, ?_, ?_, ?_, ?_, ?_⟩, ⟨?_, d4, ?_, ?_, ?_, ?_⟩, fun s hs => ?_, fun t k => ?_, fun t ht => ⟨?_, ?_⟩, ⟨?_, ?_, ?_, ?_, ?_, ?_, ?_⟩, fun j k hj => ?_, fun q => ?_, d6, d7, d8, fun r k => ?_⟩ ⟨fun g hg => ⟨?_, ?_⟩, ?_, d9, ?_, ?_⟩
  · rw [gF 7 (by decide) (by decide) (by decide) (by decide) (by decide) (by decide) (by decide) (by decide) (by decide)]; exact cw10_7 k hk
  · show wd.2.1 14 0 = 100
    rw [fL 14 (by decide) (by decide) (by decide) (by decide) (by decide)]; exact b5
  · show wd.2.1 23 0 = 1
    rw [gL 23 (by decide) (by decide) (by decide) (by decide) (by decide) (by decide) (by decide) (by decide)]; exact L.2.2.1
  · show wd.2.1 22 0 = 0
    rw [gL 22 (by decide) (by decide) (by decide) (by decide) (by decide) (by decide) (by decide) (by decide)]; exact L.2.2.2.1
  · show wd.2.1 20 0 = 0
    rw [gL 20 (by decide) (by decide) (by decide) (by decide) (by decide) (by decide) (by decide) (by decide)]; exact L.2.2.2.2.1
  · show wd.2.1 25 0 = 0
    rw [gL 25 (by decide) (by decide) (by decide) (by decide) (by decide) (by decide) (by decide) (by decide)]; exact L.2.2.2.2.2.1
  · show wd.2.1 21 0 = 0
    rw [gL 21 (by decide) (by decide) (by decide) (by decide) (by decide) (by decide) (by decide) (by decide)]; exact L.2.2.2.2.2.2.1
  · show wd.2.1 11 0 = 12
    rw [gL 11 (by decide) (by decide) (by decide) (by decide) (by decide) (by decide) (by decide) (by decide)]; exact L.2.2.2.2.2.2.2
  · exact (fN 10 (by decide) (by decide)).trans b4
  · exact (gN 3 (by decide) (by decide) (by decide) (by decide)).trans cw10_n.1
  · exact (gN 11 (by decide) (by decide) (by decide) (by decide)).trans cw10_n.2
  · exact (gN 5 (by decide) (by decide) (by decide) (by decide)).trans (nr 5 (by omega))
  · exact ((gN 12 (by decide) (by decide) (by decide) (by decide)).trans (nr 12 (by omega))).trans ((gN 0 (by decide) (by decide) (by decide) (by decide)).trans (nr 0 (by omega))).symm
  · rw [fF 14 (by decide) (by decide) (by decide) (by decide) (by decide) (by decide)]; exact b6 s hs
  · rw [fF 6 (by decide) (by decide) (by decide) (by decide) (by decide) (by decide)]; exact b7 t k
  · show wd.2.1 10 t = 4
    rw [fL 10 (by decide) (by decide) (by decide) (by decide) (by decide)]; exact (b8 t ht).1
  · rw [fF 10 (by decide) (by decide) (by decide) (by decide) (by decide) (by decide)]; exact (b8 t ht).2
  · rw [gF 23 (by decide) (by decide) (by decide) (by decide) (by decide) (by decide) (by decide) (by decide) (by decide)]; exact cw10_3.1
  · rw [h3 0 0 (by decide)]; exact cw10_3.2.1
  · rw [h3 0 1 (by decide)]; exact cw10_3.2.2.1
  · rw [h3 0 2 (by decide)]; exact cw10_3.2.2.2.1
  · rw [h3 0 3 (by decide)]; exact cw10_3.2.2.2.2.1
  · rw [g3]; exact pz_pss
  · rw [h3 0 5 (by decide)]; exact cw10_3.2.2.2.2.2
  · rw [g3, pz_psi hj, b3']; exact cw10_3o hj
  · rw [gF 11 (by decide) (by decide) (by decide) (by decide) (by decide) (by decide) (by decide) (by decide) (by decide)]; exact cw10_11
  · rw [gF 5 (by decide) (by decide) (by decide) (by decide) (by decide) (by decide) (by decide) (by decide) (by decide), zr 5 (by omega)]
  · rw [gF g (by omega) (by omega) (by omega) (by omega) (by omega) (by omega) (by omega) (by omega) (by omega), zr g (by omega)]
  · rw [gN g (by omega) (by omega) (by omega) (by omega), nr g (by omega)]
  · rw [gN 13 (by decide) (by decide) (by decide) (by decide), nr 13 (by omega)]
  · have : wd.2.2.1 = wb.2.2.1 + 2 * 12 := d10
    omega
  · have : wd.2.2.2 = wb.2.2.2 + 7 * 12 := d11
    omega
end PZCJ
