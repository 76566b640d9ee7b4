/-! the class as it begins -/
def pw_w0 : pw_W := (fun _ _ _ => 0, fun _ _ => 0, 0, 0)
section PZCI
variable {w w1 w2 wB : pw_W} {K : pw_W → Int32 → Prop} {X : pw_W → Nat → Prop} {f g i k l n s : Nat} {v : Int32}
def pz_sv (t k : Nat) : Int32 := if k = 0 then nI t else if k = 1 then 0 else if k = 2 then nI t else if k = 3 then 1 else if k = 4 then 50 else if k = 5 then 40 else if k = 6 then -1 else pw_df 6 k
def pz_pv (p k : Nat) : Int32 := if k = 0 then nI p else if k = 1 then nI p else if k = 2 then 1 else pw_df 4 k
theorem pz_psF (h : g ≠ f) : (pw_ps w f i k v).1 g = w.1 g := funext fun _ => funext fun _ => pz_psf h
theorem pz_nwF (h : g ≠ f) : (pw_nw w f l n).1 g = w.1 g := funext fun _ => funext fun _ => pz_nwf h
theorem pz_nwL (h : g ≠ f) (h2 : g ≠ 1000) : (pw_nw w f l n).2.1 g = w.2.1 g := funext fun b => by
  show (if g = 1000 then _ else if g = f ∧ b = w.2.1 1000 f then l else w.2.1 g b) = _
  rw [if_neg h2, if_neg (fun z => h z.1)]
theorem pz_nwN (h : g ≠ f) : (pw_nw w f l n).2.1 1000 g = w.2.1 1000 g := if_neg h
theorem pz_nlF (h : g ≠ 24) (h2 : g ≠ 324) : (pw_nl w 24).1 g = w.1 g := funext fun b => funext fun c => by
  show (if (g = 24 ∨ g = 24 + 300) ∧ b = w.2.1 1000 24 then _ else _) = _
  rw [if_neg (fun z => by rcases z.1 with t | t; exact h t; exact h2 t)]
theorem pz_nlL (h : g ≠ 24) (h2 : g ≠ 324) (h3 : g ≠ 1000) : (pw_nl w 24).2.1 g = w.2.1 g := funext fun b => by
  show (if g = 1000 then _ else if (g = 24 ∨ g = 24 + 300) ∧ b = w.2.1 1000 24 then 0 else w.2.1 g b) = _
  rw [if_neg h3, if_neg (fun z => by rcases z.1 with t | t; exact h t; exact h2 t)]
theorem pz_nlN (h : g ≠ 24) : (pw_nl w 24).2.1 1000 g = w.2.1 1000 g := if_neg h
/-- 12 persons -/
def pz_i2 (wB : pw_W) (s : Nat) (w : pw_W) : Prop := (∀ g, g ≠ 4 → g ≠ 24 → g ≠ 324 → g ≠ 15 → g ≠ 1000 → w.1 g = wB.1 g ∧ w.2.1 g = wB.2.1 g) ∧ (∀ g, g ≠ 4 → g ≠ 24 → w.2.1 1000 g = wB.2.1 1000 g) ∧
  pw_nv w 4 = s ∧ pw_nv w 24 = s ∧ pw_ln w 15 0 = 12 ∧ (∀ p, p < s → w.1 15 0 p = nI p) ∧ (∀ p k, w.1 4 p k = if p < s then pz_pv p k else 0) ∧ (∀ p, p < s → pw_ln w 24 p = 0) ∧ (∀ f, pw_nv w f ≤ w.2.2.1) ∧ w.2.2.1 = wB.2.2.1 + 2 * s ∧ w.2.2.2 = wB.2.2.2 + 7 * s
theorem wl_135 (hB : pz_i2 wB 0 wB) (hu : wB.2.2.1 ≤ 1000) (hv : wB.2.2.2 ≤ 10000) (h7 : wB.1 7 0 1 = 0) (k : ∀ w, pz_i2 wB 12 w → K w 0) : ∃ k, lp_X_init_135 K X k 0 wB := by
  refine pz_up (F := fun k s w => lp_X_init_135 K X k (nI s) w) (I := fun s w => pz_i2 wB s w) 12 (fun s w4 k5 hs h4 ih => ?_) (fun w4 h4 => ?_) hB
  · rw [lp_X_init_135_s]
    obtain ⟨a1, a2, a3, a4, a5, a6, a7, a8, a9, a10, a11⟩ := h4
    have e7 : w4.1 7 0 1 = 0 := by rw [(a1 7 (by decide) (by decide) (by decide) (by decide) (by decide)).1]; exact h7
    have hi : pw_i (nI s) = s := pz_i (by omega)
    unfold wp_Person_init
    simp only [forall_eq, a3, show (12 : Int32) = nI 12 from rfl, pz_le (a := 12) (b := s) (by decide) (by omega), hi]
    refine ⟨fun q => absurd q (by omega), fun _ => ⟨e7, ⟨by omega, by omega, by rw [a3]; omega⟩, pz_nn (by omega), ⟨by show w4.2.2.1 + 1 + 1 ≤ _; omega, by show w4.2.2.2 + 4 + 3 ≤ _; omega, by show w4.2.1 1000 24 < _; have : w4.2.1 1000 24 = s := a4; omega⟩, ?_, ?_⟩⟩
    · show pw_jn (nI s) (pw_ln (pw_nl (pw_nw w4 4 0 4) 24) 15 0)
      have : pw_ln (pw_nl (pw_nw w4 4 0 4) 24) 15 0 = 12 := by
        unfold pw_ln
        rw [pz_nlL (by decide) (by decide) (by decide), pz_nwL (by decide) (by decide)]; exact a5
      rw [this]; exact pz_jn hs (by omega)
    rw [pz_s1]
    have e24 : pw_nv (pw_nw w4 4 0 4) 24 = s := (pz_nwN (g := 24) (by decide)).trans a4
    rw [e24]
    refine ih _ ⟨fun g g1 g2 g3 g4 g5 => ⟨?_, ?_⟩, fun g g1 g2 => ?_, ?_, ?_, ?_, fun p hp => ?_, fun p k => ?_, fun p hp => ?_, fun f => ?_, ?_, ?_⟩
    · rw [pz_psF g4, pz_psF g1, pz_psF g1, pz_psF g1, pz_nlF g2 g3, pz_nwF g1]; exact (a1 g g1 g2 g3 g4 g5).1
    · show (pw_nl (pw_nw w4 4 0 4) 24).2.1 g = _
      rw [pz_nlL g2 g3 g5, pz_nwL g1 g5]; exact (a1 g g1 g2 g3 g4 g5).2
    · show (pw_nl (pw_nw w4 4 0 4) 24).2.1 1000 g = _
      rw [pz_nlN g2, pz_nwN g1]; exact a2 g g1 g2
    · show (pw_nl (pw_nw w4 4 0 4) 24).2.1 1000 4 = _
      rw [pz_nlN (by decide)]
      show w4.2.1 1000 4 + 1 = s + 1
      have : w4.2.1 1000 4 = s := a3
      omega
    · show (pw_nw w4 4 0 4).2.1 1000 24 + 1 = s + 1
      have : (pw_nw w4 4 0 4).2.1 1000 24 = s := e24
      omega
    · show (pw_nl (pw_nw w4 4 0 4) 24).2.1 15 0 = 12
      rw [pz_nlL (by decide) (by decide) (by decide), pz_nwL (by decide) (by decide)]; exact a5
    · by_cases q : p = s
      · rw [q, pz_pss]
      · rw [pz_psk q, pz_psF (by decide), pz_psF (by decide), pz_psF (by decide), pz_nlF (by decide) (by decide), pz_nwF (by decide)]; exact a6 p (by omega)
    · rw [pz_psF (by decide)]
      by_cases q : p = s
      · rw [q, if_pos (Nat.lt_succ_self _)]
        unfold pz_pv
        by_cases k0 : k = 0
        · rw [k0, pz_pss]; rfl
        by_cases k1 : k = 1
        · rw [k1, pz_psk (by decide), pz_psk (by decide), pz_pss]; rfl
        by_cases k2 : k = 2
        · rw [k2, pz_psk (by decide), pz_pss]; rfl
        rw [pz_psk k0, pz_psk k2, pz_psk k1, pz_nlF (by decide) (by decide), if_neg k0, if_neg k1, if_neg k2]
        have := pz_nws (w := w4) (f := 4) (len := 0) (n := 4) (k' := k)
        rw [a3] at this; exact this
      · rw [pz_psi q, pz_psi q, pz_psi q, pz_nlF (by decide) (by decide), pz_nwi (by rw [a3]; exact q), a7]
        by_cases q2 : p < s
        · rw [if_pos q2, if_pos (by omega)]
        · rw [if_neg q2, if_neg (by omega)]
    · show pw_ln (pw_nl (pw_nw w4 4 0 4) 24) 24 p = 0
      by_cases q : p = s
      · rw [q]
        have hz : pw_ln (pw_nl (pw_nw w4 4 0 4) 24) 24 (pw_nv (pw_nw w4 4 0 4) 24) = 0 := if_pos ⟨Or.inl rfl, rfl⟩
        rw [e24] at hz; exact hz
      · rw [pz_nll (by rw [e24]; exact q)]
        show (pw_nw w4 4 0 4).2.1 24 p = 0
        rw [pz_nwL (by decide) (by decide)]; exact a8 p (by omega)
    · show (pw_nl (pw_nw w4 4 0 4) 24).2.1 1000 f ≤ w4.2.2.1 + 1 + 1
      have := a9 f
      have e : w4.2.1 1000 f ≤ w4.2.2.1 := this
      by_cases q : f = 24
      · rw [q]; show (pw_nw w4 4 0 4).2.1 1000 24 + 1 ≤ _
        have : (pw_nw w4 4 0 4).2.1 1000 24 = s := e24
        omega
      · rw [pz_nlN q]
        by_cases q2 : f = 4
        · rw [q2]; show w4.2.1 1000 4 + 1 ≤ _; have : w4.2.1 1000 4 = s := a3; omega
        · rw [pz_nwN q2]; omega
    · show w4.2.2.1 + 1 + 1 = _; omega
    · show w4.2.2.2 + 4 + 3 = _; omega
  · rw [lp_X_init_135_s]
    have hk := k _ h4
    simp only [show (12 : Int32) = nI 12 from rfl, pz_le (a := 12) (b := 12) (by decide) (by decide)]
    exact ⟨fun _ => hk, fun q => absurd (Nat.le_refl 12) q⟩
/-- 100 squares -/
def pz_i1 (wB : pw_W) (s : Nat) (w : pw_W) : Prop := (∀ g, g ≠ 6 → g ≠ 10 → g ≠ 14 → g ≠ 1000 → w.1 g = wB.1 g ∧ w.2.1 g = wB.2.1 g) ∧ (∀ g, g ≠ 6 → g ≠ 10 → w.2.1 1000 g = wB.2.1 1000 g) ∧
  pw_nv w 6 = s ∧ pw_nv w 10 = s ∧ pw_ln w 14 0 = 100 ∧ (∀ p, p < s → w.1 14 0 p = nI p) ∧ (∀ p k, w.1 6 p k = if p < s then pz_sv p k else 0) ∧ (∀ p, p < s → pw_ln w 10 p = 4 ∧ w.1 10 p 0 = 0) ∧ (∀ f, pw_nv w f ≤ w.2.2.1) ∧ w.2.2.1 = wB.2.2.1 + 2 * s ∧ w.2.2.2 = wB.2.2.2 + 15 * s
theorem wl_100 (hB : pz_i1 wB 0 wB) (hu : wB.2.2.1 ≤ 1000) (hv : wB.2.2.2 ≤ 10000) (h7 : wB.1 7 0 0 = 0) (h3 : wB.1 3 0 0 = 0) (k : ∀ w, pz_i1 wB 100 w → ∃ k, lp_X_init_135 K X k 0 (pw_ps w 3 0 4 100)) : ∃ k, lp_X_init_100 K X k 0 0 wB := by
  refine pz_up (F := fun k s w => lp_X_init_100 K X k 0 (nI s) w) (I := fun s w => pz_i1 wB s w) 100 (fun s w4 k5 hs h4 ih => ?_) (fun w4 h4 => ?_) hB
  · rw [lp_X_init_100_s]
    obtain ⟨a1, a2, a3, a4, a5, a6, a7, a8, a9, a10, a11⟩ := h4
    have e7 : w4.1 7 0 0 = 0 := by rw [(a1 7 (by decide) (by decide) (by decide) (by decide)).1]; exact h7
    have e3 : w4.1 3 0 0 = 0 := by rw [(a1 3 (by decide) (by decide) (by decide) (by decide)).1]; exact h3
    have hi : pw_i (nI s) = s := pz_i (by omega)
    have e10 : pw_nv (pw_nw w4 6 0 11) 10 = s := (pz_nwN (g := 10) (by decide)).trans a4
    unfold wp_Square_init
    simp only [forall_eq, a3, show (100 : Int32) = nI 100 from rfl, pz_le (a := 100) (b := s) (by decide) (by omega), hi, show pw_i (4 : Int32) = 4 from rfl, show pw_i (0 : Int32) = 0 from rfl, e10]
    obtain ⟨wN, eN⟩ : ∃ wN, wN = pw_nw (pw_nw w4 6 0 11) 10 4 4 := ⟨_, rfl⟩
    have n6 : ∀ p k, wN.1 6 p k = if p = s then pw_df 6 k else w4.1 6 p k := fun p k => by
      rw [eN, pz_nwF (by decide)]
      by_cases q : p = s
      · rw [if_pos q, q]; have := pz_nws (w := w4) (f := 6) (len := 0) (n := 11) (k' := k); rw [a3] at this; exact this
      · rw [if_neg q, pz_nwi (by rw [a3]; exact q)]
    have nF : ∀ g, g ≠ 6 → g ≠ 10 → wN.1 g = w4.1 g := fun g g1 g2 => by rw [eN, pz_nwF g2, pz_nwF g1]
    have nL : ∀ g, g ≠ 6 → g ≠ 10 → g ≠ 1000 → wN.2.1 g = w4.2.1 g := fun g g1 g2 g3 => by rw [eN, pz_nwL g2 g3, pz_nwL g1 g3]
    have nN : ∀ g, g ≠ 6 → g ≠ 10 → wN.2.1 1000 g = w4.2.1 1000 g := fun g g1 g2 => by rw [eN, pz_nwN g2, pz_nwN g1]
    have nN6 : wN.2.1 1000 6 = s + 1 := by
      rw [eN, pz_nwN (by decide)]; show w4.2.1 1000 6 + 1 = s + 1; have : w4.2.1 1000 6 = s := a3; omega
    have nN10 : wN.2.1 1000 10 = s + 1 := by
      rw [eN]; show (pw_nw w4 6 0 11).2.1 1000 10 + 1 = s + 1; have : (pw_nw w4 6 0 11).2.1 1000 10 = s := e10; omega
    have n10 : ∀ p, pw_ln wN 10 p = if p = s then 4 else pw_ln w4 10 p := fun p => by
      rw [eN]
      by_cases q : p = s
      · rw [if_pos q, q]; have := pz_nwls (w := pw_nw w4 6 0 11) (f := 10) (len := 4) (n := 4) (by decide); rw [e10] at this; exact this
      · rw [if_neg q, pz_nwl (by decide) (Or.inr (by rw [e10]; exact q))]
        show (pw_nw w4 6 0 11).2.1 10 p = _
        rw [pz_nwL (by decide) (by decide)]; rfl
    have nv10 : ∀ p, ¬ p = s → wN.1 10 p 0 = w4.1 10 p 0 := fun p q => by rw [eN, pz_nwi (by rw [e10]; exact q), pz_nwF (by decide)]
    have nu : wN.2.2.1 = w4.2.2.1 + 1 + 1 := by rw [eN]; rfl
    have nw2 : wN.2.2.2 = w4.2.2.2 + 11 + 4 := by rw [eN]; rfl
    rw [← eN]
    clear eN
    obtain ⟨wP, eP⟩ : ∃ wP, wP = pw_ps (pw_ps (pw_ps (pw_ps (pw_ps (pw_ps (pw_ps wN 6 s 2 (nI s)) 6 s 3 1) 6 s 4 50) 6 s 5 40) 6 s 6 (-1)) 6 s 0 (nI s)) 6 s 1 0 := ⟨_, rfl⟩
    have pF : ∀ g, g ≠ 6 → wP.1 g = wN.1 g := fun g g1 => by rw [eP, pz_psF g1, pz_psF g1, pz_psF g1, pz_psF g1, pz_psF g1, pz_psF g1, pz_psF g1]
    have p2 : wP.2 = wN.2 := by rw [eP]; rfl
    have p62 : wP.1 6 s 2 = nI s := by rw [eP, pz_psk (by decide), pz_psk (by decide), pz_psk (by decide), pz_psk (by decide), pz_psk (by decide), pz_psk (by decide), pz_pss]
    have p6 : ∀ p k, wP.1 6 p k = if p < s + 1 then pz_sv p k else 0 := fun p k => by
      rw [eP]
      by_cases q : p = s
      · rw [q, if_pos (Nat.lt_succ_self _)]
        unfold pz_sv
        by_cases k1 : k = 1
        · rw [k1, pz_pss]; rfl
        rw [pz_psk k1]
        by_cases k0 : k = 0
        · rw [k0, pz_pss]; rfl
        rw [pz_psk k0, if_neg k0, if_neg k1]
        by_cases k6 : k = 6
        · rw [k6, pz_pss]; rfl
        rw [pz_psk k6]
        by_cases k5 : k = 5
        · rw [k5, pz_pss]; rfl
        rw [pz_psk k5]
        by_cases k4 : k = 4
        · rw [k4, pz_pss]; rfl
        rw [pz_psk k4]
        by_cases k3 : k = 3
        · rw [k3, pz_pss]; rfl
        rw [pz_psk k3]
        by_cases k2 : k = 2
        · rw [k2, pz_pss]; rfl
        rw [pz_psk k2, if_neg k2, if_neg k3, if_neg k4, if_neg k5, if_neg k6, n6, if_pos rfl]
      · rw [pz_psi q, pz_psi q, pz_psi q, pz_psi q, pz_psi q, pz_psi q, pz_psi q, n6, if_neg q, a7]
        by_cases q2 : p < s
        · rw [if_pos q2, if_pos (by omega)]
        · rw [if_neg q2, if_neg (by omega)]
    rw [← eP]
    clear eP
    have pl10 : pw_ln wP 10 s = 4 := by show wP.2.1 10 s = 4; rw [p2]; exact (n10 s).trans (if_pos rfl)
    rw [p62, hi, pl10]
    refine ⟨fun q => absurd q (by omega), fun _ => ⟨e7, ⟨by omega, by omega, by rw [a3]; omega⟩, pz_nn (by omega), ⟨by show w4.2.2.1 + 1 + 1 ≤ _; omega, by show w4.2.2.2 + 11 + 4 ≤ _; omega, by omega⟩, Int32.le_refl _, pz_nn (by omega), pz_jn (a := 0) (by decide) (by decide), ?_, ?_⟩⟩
    · show pw_jn (nI s) (wP.2.1 14 0)
      rw [p2, nL 14 (by decide) (by decide) (by decide)]
      have : w4.2.1 14 0 = 100 := a5
      rw [this]; exact pz_jn hs (by omega)
    rw [pz_s1]
    refine ih _ ⟨fun g g1 g2 g3 g4 => ⟨?_, ?_⟩, fun g g1 g2 => ?_, ?_, ?_, ?_, fun p hp => ?_, fun p k => ?_, fun p hp => ⟨?_, ?_⟩, fun f => ?_, ?_, ?_⟩
    · rw [pz_psF g3, pz_psF g2, pF g g1, nF g g1 g2]; exact (a1 g g1 g2 g3 g4).1
    · show wP.2.1 g = _
      rw [p2, nL g g1 g2 g4]; exact (a1 g g1 g2 g3 g4).2
    · show wP.2.1 1000 g = _
      rw [p2, nN g g1 g2]; exact a2 g g1 g2
    · show wP.2.1 1000 6 = _
      rw [p2]; exact nN6
    · show wP.2.1 1000 10 = _
      rw [p2]; exact nN10
    · show wP.2.1 14 0 = _
      rw [p2, nL 14 (by decide) (by decide) (by decide)]; exact a5
    · by_cases q : p = s
      · rw [q, pz_pss]
      · rw [pz_psk q, pz_psF (by decide), pF 14 (by decide), nF 14 (by decide) (by decide)]; exact a6 p (by omega)
    · rw [pz_psF (by decide), pz_psF (by decide)]; exact p6 p k
    · show wP.2.1 10 p = 4
      rw [p2]
      have := n10 p
      by_cases q : p = s
      · rw [if_pos q] at this; exact this
      · rw [if_neg q] at this; exact this.trans (a8 p (by omega)).1
    · rw [pz_psF (by decide)]
      by_cases q : p = s
      · rw [q, pz_pss, pF 3 (by decide), nF 3 (by decide) (by decide)]; exact e3
      · rw [pz_psi q, pF 10 (by decide), nv10 p q]; exact (a8 p (by omega)).2
    · show wP.2.1 1000 f ≤ wP.2.2.1
      rw [p2, nu]
      have e : w4.2.1 1000 f ≤ w4.2.2.1 := a9 f
      have b6 : w4.2.1 1000 6 ≤ w4.2.2.1 := a9 6
      have b10 : w4.2.1 1000 10 ≤ w4.2.2.1 := a9 10
      have c6 : w4.2.1 1000 6 = s := a3
      by_cases q : f = 6
      · rw [q, nN6]; omega
      · by_cases q2 : f = 10
        · rw [q2, nN10]; omega
        · rw [nN f q q2]; omega
    · show wP.2.2.1 = _
      rw [p2, nu]; omega
    · show wP.2.2.2 = _
      rw [p2, nw2]; omega
  · rw [lp_X_init_100_s]
    have hk := k _ h4
    simp only [show (100 : Int32) = nI 100 from rfl, pz_le (a := 100) (b := 100) (by decide) (by decide), forall_eq]
    exact ⟨fun _ => ⟨Int32.le_refl _, hk⟩, fun q => absurd (Nat.le_refl 100) q⟩
end PZCI
