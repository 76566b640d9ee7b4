/-! the class: moves and makings -/
section PZTM
variable {sc : pz_S} {sq : pz_Q} {pa : pz_P} {ri : pz_N} {mp : pz_N} {ca : pz_P} {dr : pz_N} {pe : pz_Q} {U V : Nat} {w0 w : pw_W} {K : pw_W → Int32 → Prop} {X : pw_W → Nat → Prop} {x y z t v a b c d e : Int32} {s r j n p q i k f u l : Nat}
theorem cu_moveTo (h : pz_c sc sq pa ri mp ca dr pe U V w0 w) (h40 : pa.1 ≤ 40) (hs : s < 100) (hx : pw_jn x pa.1) (h8 : pw_jn (sq.1 8 s) pa.1) (hne : ¬ sq.1 8 s = x) (e : sq.1 14 s = nI l) (hl : 1 ≤ l) (hl2 : l ≤ 120) (hU : U ≤ 200000) (hV : V ≤ 4000000) (hL : pz_L sq ≤ 12000) (hr : ri.1 ≤ 80)
    (k : ∀ w1, pz_c sc (pz_cm sq s x) pa ri mp ca dr pe U V w0 w1 → K w1 0) : wp_Square_moveTo w (nI s) x K X := by
  unfold wp_Square_moveTo
  have h80 := h8.1
  have hx0 := hx.1
  have hn : ¬ pw_i (sq.1 8 s) = pw_i x := fun q => hne (pz_ii h8.1 hx.1 q)
  simp (disch := omega) only [pz_ce h, pz_i, pz_nnt, h80, hx0, true_and]
  intro w11 e11 w14 e14 w16 e16
  have ex : w11.1 3 (pw_i x) 4 = w.1 3 (pw_i x) 4 := by rw [e11]; exact pz_psi (fun z => hn z.symm)
  rw [ex] at e14
  have h16 : pz_c sc (pz_u sq.1 8 s x, sq.2) pa ri mp ca dr pe U V w0 w16 := by
    rw [e16, e14, e11]; exact cs61 h40 h hs hx h8 hne rfl rfl
  clear ex e11 e14 e16
  have ecm : pz_cm sq s x = (pz_u (pz_u sq.1 8 s x) 14 s (nI (l + 1)), pz_u sq.2 s l x) := by
    unfold pz_cm; rw [if_neg hne, e, pz_s1, pz_i (by omega)]
  rw [ecm] at k
  have fin : ∀ w2 U' V', U' ≤ U + 1 → V' ≤ V + 240 → pz_c sc (pz_u sq.1 8 s x, sq.2) pa ri mp ca dr pe U' V' w0 w2 → l < pw_ln w2 10 (pw_i (w2.1 6 s 2)) → jp_Square_moveTo_57 K X (nI s) x w2 := by
    intro w2 U' V' hU' hV' h2 hlen
    unfold jp_Square_moveTo_57
    have e3 : w2.1 6 s 3 = nI l := (pz_ce h2).2.2.2.2.2.2.2.2.2.2.2.2.2.2.2.1 s |>.trans e
    simp (disch := omega) only [pz_i, pz_nnt, hx0, true_and, (pz_k62 h2 s hs).1, e3, pz_jnt]
    intro w5 e5 w7 e7
    rw [pz_k30 h2 _ hx.2, pw_nIi hx.1] at e5
    have e53 : w5.1 6 s 3 = nI l := by rw [e5, pz_psf (by decide)]; exact e3
    rw [e53, pz_s1, e5] at e7
    rw [e7]
    exact k _ (cs10p h2 hU' hV' hs e (by omega) hlen)
  have hlL := pz_kl10 h16 s hs
  have e3 : w16.1 6 s 3 = nI l := (pz_ce h16).2.2.2.2.2.2.2.2.2.2.2.2.2.2.2.1 s |>.trans e
  have hil : pw_i ((pz_u sq.1 8 s x, sq.2).1 14 s) = l := by
    show pw_i ((pz_u sq.1 8 s x) 14 s) = l
    rw [pz_uk (by decide), e, pz_i (by omega)]
  rw [hil] at hlL
  simp (disch := omega) only [(pz_k62 h16 s hs).1, e3, pz_lt, true_and, show (2 : Int32) * nI l = nI (2 * l) from pz_mul 2 l, pz_nnt, pz_i]
  refine ⟨fun q => fin _ U V (by omega) (by omega) h16 q, fun q => ?_⟩
  have ru := pz_kru h16
  have rv := pz_krv h16
  have rn := pz_knv h16 10
  have rL : pz_L (pz_u sq.1 8 s x, sq.2) = pz_L sq := pz_Ln_c (fun t _ => rfl)
  rw [rL] at ru rv
  refine ⟨by omega, ⟨by omega, by omega⟩, ⟨by omega, by omega, by omega⟩, fun w24 e24 w26 e26 => ?_⟩
  rw [e24] at e26
  have h26 := cs10c h16 (n := 2 * l) hs (by omega) (by rw [hil]; omega) (by omega) (by omega)
  rw [← e26] at h26
  refine fin _ _ _ (by omega) (by omega) h26 ?_
  rw [e26, pz_fcy6, if_pos ⟨rfl, rfl⟩, pz_i (by omega), pz_fcyl, if_pos rfl]
  omega
theorem cu_moveTo2 (h : pz_c sc sq pa ri mp ca dr pe U V w0 w) (h40 : pa.1 ≤ 40) (hs : s < 100) (hx : pw_jn x pa.1) (h8 : pw_jn (sq.1 8 s) pa.1) (hne : ¬ sq.1 8 s = x) (e : sq.1 14 s = nI l) (hl : 1 ≤ l) (hl2 : l ≤ 120) (hU : U ≤ 200000) (hV : V ≤ 4000000) (hL : pz_L sq ≤ 12000) (hr : ri.1 ≤ 80)
    (k : ∀ w1, pz_c sc (pz_cm sq s x) pa ri mp ca dr pe U V w0 w1 → w1.1 20 = w.1 20 → K w1 0) : wp_Square_moveTo w (nI s) x K X := by
  unfold wp_Square_moveTo
  have h80 := h8.1
  have hx0 := hx.1
  have hn : ¬ pw_i (sq.1 8 s) = pw_i x := fun q => hne (pz_ii h8.1 hx.1 q)
  simp (disch := omega) only [pz_ce h, pz_i, pz_nnt, h80, hx0, true_and]
  intro w11 e11 w14 e14 w16 e16
  have ex : w11.1 3 (pw_i x) 4 = w.1 3 (pw_i x) 4 := by rw [e11]; exact pz_psi (fun z => hn z.symm)
  rw [ex] at e14
  have h16 : pz_c sc (pz_u sq.1 8 s x, sq.2) pa ri mp ca dr pe U V w0 w16 := by
    rw [e16, e14, e11]; exact cs61 h40 h hs hx h8 hne rfl rfl
  have w16e : w16.1 20 = w.1 20 := by rw [e16, e14, e11]; rfl
  clear ex e11 e14 e16
  have ecm : pz_cm sq s x = (pz_u (pz_u sq.1 8 s x) 14 s (nI (l + 1)), pz_u sq.2 s l x) := by
    unfold pz_cm; rw [if_neg hne, e, pz_s1, pz_i (by omega)]
  rw [ecm] at k
  have fin : ∀ w2 U' V', U' ≤ U + 1 → V' ≤ V + 240 → pz_c sc (pz_u sq.1 8 s x, sq.2) pa ri mp ca dr pe U' V' w0 w2 → w2.1 20 = w.1 20 → l < pw_ln w2 10 (pw_i (w2.1 6 s 2)) → jp_Square_moveTo_57 K X (nI s) x w2 := by
    intro w2 U' V' hU' hV' h2 w2e hlen
    unfold jp_Square_moveTo_57
    have e3 : w2.1 6 s 3 = nI l := (pz_ce h2).2.2.2.2.2.2.2.2.2.2.2.2.2.2.2.1 s |>.trans e
    simp (disch := omega) only [pz_i, pz_nnt, hx0, true_and, (pz_k62 h2 s hs).1, e3, pz_jnt]
    intro w5 e5 w7 e7
    rw [pz_k30 h2 _ hx.2, pw_nIi hx.1] at e5
    have e53 : w5.1 6 s 3 = nI l := by rw [e5, pz_psf (by decide)]; exact e3
    rw [e53, pz_s1, e5] at e7
    rw [e7]
    exact k _ (cs10p h2 hU' hV' hs e (by omega) hlen) w2e
  have hlL := pz_kl10 h16 s hs
  have e3 : w16.1 6 s 3 = nI l := (pz_ce h16).2.2.2.2.2.2.2.2.2.2.2.2.2.2.2.1 s |>.trans e
  have hil : pw_i ((pz_u sq.1 8 s x, sq.2).1 14 s) = l := by
    show pw_i ((pz_u sq.1 8 s x) 14 s) = l
    rw [pz_uk (by decide), e, pz_i (by omega)]
  rw [hil] at hlL
  simp (disch := omega) only [(pz_k62 h16 s hs).1, e3, pz_lt, true_and, show (2 : Int32) * nI l = nI (2 * l) from pz_mul 2 l, pz_nnt, pz_i]
  refine ⟨fun q => fin _ U V (by omega) (by omega) h16 w16e q, fun q => ?_⟩
  have ru := pz_kru h16
  have rv := pz_krv h16
  have rn := pz_knv h16 10
  have rL : pz_L (pz_u sq.1 8 s x, sq.2) = pz_L sq := pz_Ln_c (fun t _ => rfl)
  rw [rL] at ru rv
  refine ⟨by omega, ⟨by omega, by omega⟩, ⟨by omega, by omega, by omega⟩, fun w24 e24 w26 e26 => ?_⟩
  rw [e24] at e26
  have h26 := cs10c h16 (n := 2 * l) hs (by omega) (by rw [hil]; omega) (by omega) (by omega)
  rw [← e26] at h26
  refine fin _ _ _ (by omega) (by omega) h26 (by rw [e26]; exact w16e) ?_
  rw [e26, pz_fcy6, if_pos ⟨rfl, rfl⟩, pz_i (by omega), pz_fcyl, if_pos rfl]
  omega
theorem pz_wap3 (e3 : pw_nv w 3 = pa.1) : (pw_la (pw_ps (pw_ps (pw_ps (pw_nw (pw_nw w 3 0 6) 11 12 12) 3 pa.1 1 (nI pa.1)) 3 pa.1 0 (nI pa.1)) 3 pa.1 2 x) 23 0 (nI pa.1)).1 3 j k = if j = pa.1 then (if k = 2 then x else if k = 0 then nI pa.1 else if k = 1 then nI pa.1 else pw_df 3 k) else w.1 3 j k := by
  show (if 3 = 3 ∧ j = pa.1 ∧ k = 2 then x else if 3 = 3 ∧ j = pa.1 ∧ k = 0 then nI pa.1 else if 3 = 3 ∧ j = pa.1 ∧ k = 1 then nI pa.1 else if 3 = 3 ∧ j = pw_nv w 3 then pw_df 3 k else w.1 3 j k) = _
  by_cases q : j = pa.1
  · rw [if_pos q]
    by_cases q1 : k = 2
    · rw [if_pos ⟨rfl, q, q1⟩, if_pos q1]
    · rw [if_neg (fun z => q1 z.2.2), if_neg q1]
      by_cases q2 : k = 0
      · rw [if_pos ⟨rfl, q, q2⟩, if_pos q2]
      · rw [if_neg (fun z => q2 z.2.2), if_neg q2]
        by_cases q3 : k = 1
        · rw [if_pos ⟨rfl, q, q3⟩, if_pos q3]
        · rw [if_neg (fun z => q3 z.2.2), if_neg q3]; exact if_pos ⟨rfl, q.trans e3.symm⟩
  · rw [if_neg (fun z => q z.2.1), if_neg (fun z => q z.2.1), if_neg (fun z => q z.2.1), if_neg q]; exact if_neg (fun z => q (z.2.trans e3))
theorem pz_wap11 (e3 : pw_nv w 11 = pa.1) : (pw_la (pw_ps (pw_ps (pw_ps (pw_nw (pw_nw w 3 0 6) 11 12 12) 3 pa.1 1 (nI pa.1)) 3 pa.1 0 (nI pa.1)) 3 pa.1 2 x) 23 0 (nI pa.1)).1 11 j k = if j = pa.1 then 0 else w.1 11 j k := by
  show (if 11 = 11 ∧ j = pw_nv w 11 then pw_df 11 k else w.1 11 j k) = _
  by_cases q : j = pa.1
  · rw [if_pos q]; exact (if_pos ⟨rfl, q.trans e3.symm⟩).trans rfl
  · rw [if_neg q]; exact if_neg (fun z => q (z.2.trans e3))
theorem pz_wapl (e3 : pw_nv w 11 = pa.1) : pw_ln (pw_la (pw_ps (pw_ps (pw_ps (pw_nw (pw_nw w 3 0 6) 11 12 12) 3 pa.1 1 (nI pa.1)) 3 pa.1 0 (nI pa.1)) 3 pa.1 2 x) 23 0 (nI pa.1)) 11 j = if j = pa.1 then 12 else pw_ln w 11 j := by
  show (if 11 = 11 ∧ j = pw_nv w 11 then 12 else w.2.1 11 j) = _
  by_cases q : j = pa.1
  · rw [if_pos q]; exact if_pos ⟨rfl, q.trans e3.symm⟩
  · rw [if_neg q]; exact if_neg (fun z => q (z.2.trans e3))
theorem pz_wap23 (e3 : pw_ln w 23 0 = pa.1) : (pw_la (pw_ps (pw_ps (pw_ps (pw_nw (pw_nw w 3 0 6) 11 12 12) 3 pa.1 1 (nI pa.1)) 3 pa.1 0 (nI pa.1)) 3 pa.1 2 x) 23 0 (nI pa.1)).1 23 0 j = if j = pa.1 then nI pa.1 else w.1 23 0 j := by
  show (if 23 = 23 ∧ 0 = 0 ∧ j = pw_ln w 23 0 then nI pa.1 else w.1 23 0 j) = _
  by_cases q : j = pa.1
  · rw [if_pos q]; exact if_pos ⟨rfl, rfl, q.trans e3.symm⟩
  · rw [if_neg q]; exact if_neg (fun z => q (z.2.2.trans e3))
theorem pz_ss0 {g : Nat → Int32} : ∀ {n : Nat}, (∀ q, q < n → g q = 0) → pz_su (fun _ => True) g n = 0
  | 0, _ => rfl
  | n + 1, h => by rw [pz_suS, pz_iT, pz_ss0 (n := n) (fun q hq => h q (by omega)), h n (by omega)]; rfl
theorem csap (h : pz_c sc sq pa ri mp ca dr pe U V w0 w) (hz : ∀ q, q < 12 → pa.2.2 pa.1 q = 0) (h8 : pz_j8 sq pa) (h40 : pa.1 < 40) : pz_c sc sq (pz_mk pa x) ri mp ca dr pe (U + 3) (V + 138) w0 (pw_la (pw_ps (pw_ps (pw_ps (pw_nw (pw_nw w 3 0 6) 11 12 12) 3 pa.1 1 (nI pa.1)) 3 pa.1 0 (nI pa.1)) 3 pa.1 2 x) 23 0 (nI pa.1)) := by
  have e3 : pw_nv w 3 = pa.1 := h.2.2.2.2.2.1.2.1
  have e11 : pw_nv w 11 = pa.1 := h.2.2.2.2.2.1.2.2.1
  have el : pw_ln w 23 0 = pa.1 := h.2.2.2.2.2.1.1
  exact ⟨pz_fr.la (pz_fr.ps (pz_fr.ps (pz_fr.ps (pz_fr.nw (pz_fr.nw h.1 (by omega)) (by omega)) (by omega)) (by omega)) (by omega)) (by omega), h.2.1,
    h.2.2.1,
    h.2.2.2.1,
    h.2.2.2.2.1,
    ⟨(show pw_ln w 23 0 + 1 = pa.1 + 1 by rw [el]), (show pw_nv w 3 + 1 = pa.1 + 1 by rw [e3]), (show pw_nv w 11 + 1 = pa.1 + 1 by rw [e11]), (fun m hm => by
      rw [pz_wap23 el]
      by_cases q : m = pa.1
      · rw [if_pos q, q]
      · rw [if_neg q]; exact h.2.2.2.2.2.1.2.2.2.1 m (by have : m < pa.1 + 1 := hm; omega)), (fun m hm => by
      rw [pz_wap3 e3]
      by_cases q : m = pa.1
      · rw [if_pos q, q]; rfl
      · rw [if_neg q]; exact h.2.2.2.2.2.1.2.2.2.2.1 m (by have : m < pa.1 + 1 := hm; omega)), (fun m hm => by
      rw [pz_wap3 e3]
      by_cases q : m = pa.1
      · rw [if_pos q, q]; rfl
      · rw [if_neg q]; exact h.2.2.2.2.2.1.2.2.2.2.2.1 m (by have : m < pa.1 + 1 := hm; omega)), (fun m => by
      show _ = (pz_u (pz_u (pz_u pa.2.1 16 pa.1 x) 17 pa.1 (-1)) 46 pa.1 (nI pa.1)) 16 m
      rw [pz_wap3 e3, pz_uk (by decide), pz_uk (by decide)]
      by_cases q : m = pa.1
      · rw [if_pos q, q, pz_us]; rfl
      · rw [if_neg q, pz_un q]; exact h.2.2.2.2.2.1.2.2.2.2.2.2.1 m), (fun m => by
      show _ = (pz_u (pz_u (pz_u pa.2.1 16 pa.1 x) 17 pa.1 (-1)) 46 pa.1 (nI pa.1)) 17 m
      rw [pz_wap3 e3, pz_uk (by decide)]
      by_cases q : m = pa.1
      · rw [if_pos q, q, pz_us]; rfl
      · rw [if_neg q, pz_un q, pz_uk (by decide)]; exact h.2.2.2.2.2.1.2.2.2.2.2.2.2.1 m), (fun m hm => by
      show _ = pz_su (fun _ => True) (pa.2.2 m) 12
      rw [pz_wap3 e3]
      by_cases q : m = pa.1
      · rw [if_pos q, q, pz_ss0 hz]; rfl
      · rw [if_neg q]; exact h.2.2.2.2.2.1.2.2.2.2.2.2.2.2.1 m (by have : m < pa.1 + 1 := hm; omega)), (fun m hm => by
      rw [pz_wapl e11]
      by_cases q : m = pa.1
      · rw [if_pos q]
      · rw [if_neg q]; exact h.2.2.2.2.2.1.2.2.2.2.2.2.2.2.2.1 m (by have : m < pa.1 + 1 := hm; omega)), (fun m g hm hg => by
      show _ = pa.2.2 m g
      rw [pz_wap11 e11]
      by_cases q : m = pa.1
      · rw [if_pos q, q, hz g hg]
      · rw [if_neg q]; exact h.2.2.2.2.2.1.2.2.2.2.2.2.2.2.2.2 m g (by have : m < pa.1 + 1 := hm; omega) hg)⟩,
    fun m hm => by
      rw [pz_wap3 e3]
      by_cases q : m = pa.1
      · rw [if_pos q, show pz_ct (fun s => sq.1 8 s = nI m) 100 = 0 by
          rw [pz_c0e (by decide)]
          rintro ⟨t, ht, z⟩
          have := (h8 t ht).2
          rw [z, pz_i (by omega)] at this
          omega]
        rfl
      · rw [if_neg q]; exact h.2.2.2.2.2.2.1 m (by have : m < pa.1 + 1 := hm; omega),
    h.2.2.2.2.2.2.2.1,
    h.2.2.2.2.2.2.2.2.1,
    h.2.2.2.2.2.2.2.2.2.1,
    h.2.2.2.2.2.2.2.2.2.2.1,
    h.2.2.2.2.2.2.2.2.2.2.2.1,
    h.2.2.2.2.2.2.2.2.2.2.2.2.1,
    by
      have hl : pw_ln w 23 0 ≤ 80 := by omega
      refine ⟨pz_nvl.la (pz_nvl.nw (pz_nvl.nw h.2.2.2.2.2.2.2.2.2.2.2.2.2.1)) (by decide), ?_, ?_⟩
      · have := h.2.2.2.2.2.2.2.2.2.2.2.2.2.2.1
        have := (pz_lau (w := pw_ps (pw_ps (pw_ps (pw_nw (pw_nw w 3 0 6) 11 12 12) 3 pa.1 1 (nI pa.1)) 3 pa.1 0 (nI pa.1)) 3 pa.1 2 x) (f := 23) (i := 0) (x := nI pa.1)).2
        have e : (pw_ps (pw_ps (pw_ps (pw_nw (pw_nw w 3 0 6) 11 12 12) 3 pa.1 1 (nI pa.1)) 3 pa.1 0 (nI pa.1)) 3 pa.1 2 x).2.2.1 = w.2.2.1 + 1 + 1 := rfl
        omega
      · have := h.2.2.2.2.2.2.2.2.2.2.2.2.2.2.2
        have := (pz_lavv (w := pw_ps (pw_ps (pw_ps (pw_nw (pw_nw w 3 0 6) 11 12 12) 3 pa.1 1 (nI pa.1)) 3 pa.1 0 (nI pa.1)) 3 pa.1 2 x) (f := 23) (i := 0) (x := nI pa.1)) hl
        have e : (pw_ps (pw_ps (pw_ps (pw_nw (pw_nw w 3 0 6) 11 12 12) 3 pa.1 1 (nI pa.1)) 3 pa.1 0 (nI pa.1)) 3 pa.1 2 x).2.2.2 = w.2.2.2 + 6 + 12 := rfl
        omega⟩
theorem cu_addParcel (h : pz_c sc sq pa ri mp ca dr pe U V w0 w) (hz : ∀ q, q < 12 → pa.2.2 pa.1 q = 0) (h8 : pz_j8 sq pa) (h40 : pa.1 < 40) (hU : U ≤ 200000) (hV : V ≤ 4000000) (hL : pz_L sq ≤ 12000) (hr : ri.1 ≤ 80)
    (k : ∀ w1, pz_c sc sq (pz_mk pa x) ri mp ca dr pe (U + 3) (V + 138) w0 w1 → K w1 (nI pa.1)) : wp_X_addParcel w x K X := by
  unfold wp_X_addParcel wp_Parcel_init
  have ru := pz_kru h
  have rv := pz_krv h
  have rn := pz_knv h
  have r3 := rn 3
  have r11 := rn 11
  have e3 : pw_nv w 3 = pa.1 := h.2.2.2.2.2.1.2.1
  have e11 : pw_nv w 11 = pa.1 := h.2.2.2.2.2.1.2.2.1
  have el : pw_ln w 23 0 = pa.1 := h.2.2.2.2.2.1.1
  have e7 : w.1 7 0 2 = 0 := h.2.1.2.2.1
  rw [e3, pz_l12]
  simp (disch := omega) only [pz_i, pz_nnt, true_and]
  refine ⟨⟨by omega, by omega, by omega⟩, fun w2 e2 => ⟨by rw [e2]; exact e7, ⟨by rw [e2]; show w.2.2.1 + 1 + 1 ≤ _; omega, by rw [e2]; show w.2.2.2 + 6 + 12 ≤ _; omega, by rw [e2]; show pw_nv w 11 < _; omega⟩, fun w3 e3' w5 e5 w7 e7' w9 e9 v ev => ?_⟩⟩
  have e9' : w9 = pw_ps (pw_ps (pw_ps (pw_nw (pw_nw w 3 0 6) 11 12 12) 3 pa.1 1 (nI pa.1)) 3 pa.1 0 (nI pa.1)) 3 pa.1 2 x := by
    rw [e9, e7', e5, e3', e2]
    show pw_ps (pw_ps (pw_ps _ 3 pa.1 1 (nI (pw_nv w 11))) 3 pa.1 0 (nI (pw_ln w 23 0))) 3 pa.1 2 x = _
    rw [e11, el]
  have l9 : pw_ln w9 23 0 = pa.1 := by rw [e9']; exact el
  refine ⟨by rw [e9']; exact e7, pz_lg (by omega) (by rw [e9']; show w.2.2.1 + 1 + 1 + 1 ≤ _; omega) (by rw [e9']; show w.2.2.2 + 6 + 12 + 120 ≤ _; omega), fun w12 e12 => ?_⟩
  rw [e12, ev, e9']
  exact k _ (csap h hz h8 h40)
theorem cu_addParcel2 (h : pz_c sc sq pa ri mp ca dr pe U V w0 w) (hz : ∀ q, q < 12 → pa.2.2 pa.1 q = 0) (h8 : pz_j8 sq pa) (h40 : pa.1 < 40) (hU : U ≤ 200000) (hV : V ≤ 4000000) (hL : pz_L sq ≤ 12000) (hr : ri.1 ≤ 80)
    (k : ∀ w1, pz_c sc sq (pz_mk pa x) ri mp ca dr pe (U + 3) (V + 138) w0 w1 → w1.1 20 = w.1 20 → K w1 (nI pa.1)) : wp_X_addParcel w x K X := by
  unfold wp_X_addParcel wp_Parcel_init
  have ru := pz_kru h
  have rv := pz_krv h
  have rn := pz_knv h
  have r3 := rn 3
  have r11 := rn 11
  have e3 : pw_nv w 3 = pa.1 := h.2.2.2.2.2.1.2.1
  have e11 : pw_nv w 11 = pa.1 := h.2.2.2.2.2.1.2.2.1
  have el : pw_ln w 23 0 = pa.1 := h.2.2.2.2.2.1.1
  have e7 : w.1 7 0 2 = 0 := h.2.1.2.2.1
  rw [e3, pz_l12]
  simp (disch := omega) only [pz_i, pz_nnt, true_and]
  refine ⟨⟨by omega, by omega, by omega⟩, fun w2 e2 => ⟨by rw [e2]; exact e7, ⟨by rw [e2]; show w.2.2.1 + 1 + 1 ≤ _; omega, by rw [e2]; show w.2.2.2 + 6 + 12 ≤ _; omega, by rw [e2]; show pw_nv w 11 < _; omega⟩, fun w3 e3' w5 e5 w7 e7' w9 e9 v ev => ?_⟩⟩
  have e9' : w9 = pw_ps (pw_ps (pw_ps (pw_nw (pw_nw w 3 0 6) 11 12 12) 3 pa.1 1 (nI pa.1)) 3 pa.1 0 (nI pa.1)) 3 pa.1 2 x := by
    rw [e9, e7', e5, e3', e2]
    show pw_ps (pw_ps (pw_ps _ 3 pa.1 1 (nI (pw_nv w 11))) 3 pa.1 0 (nI (pw_ln w 23 0))) 3 pa.1 2 x = _
    rw [e11, el]
  have l9 : pw_ln w9 23 0 = pa.1 := by rw [e9']; exact el
  refine ⟨by rw [e9']; exact e7, pz_lg (by omega) (by rw [e9']; show w.2.2.1 + 1 + 1 + 1 ≤ _; omega) (by rw [e9']; show w.2.2.2 + 6 + 12 + 120 ≤ _; omega), fun w12 e12 => ?_⟩
  rw [e12, ev, e9']
  exact k _ (csap h hz h8 h40) rfl
end PZTM
