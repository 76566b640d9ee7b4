/-! the class: sheep, rights, maps, drains, heirs -/
section PZTN
variable {sc : pz_S} {sq : pz_Q} {pa : pz_P} {ri : pz_N} {mp : pz_N} {ca : pz_P} {dr : pz_N} {pe : pz_Q} {U V : Nat} {w0 w : pw_W} {K : pw_W → Int32 → Prop} {X Y : pw_W → Nat → Prop} {x y z t v a b c d e d' : Int32} {s r j n p q i k f u l m : Nat}
theorem pz_su_c {P : Nat → Prop} {g g' : Nat → Int32} : ∀ {n : Nat}, (∀ t, t < n → g' t = g t) → pz_su P g' n = pz_su P g n
  | 0, _ => rfl
  | n + 1, e => by rw [pz_suS, pz_suS, pz_su_c (n := n) (fun t ht => e t (by omega)), e n (by omega)]
theorem pz_su_one {g g' : Nat → Int32} {q : Nat} : ∀ {n : Nat}, q < n → (∀ t, t < n → t ≠ q → g' t = g t) → pz_su (fun _ => True) g' n = pz_su (fun _ => True) g n + (g' q - g q)
  | 0, h, _ => by omega
  | n + 1, h, e => by
    rw [pz_suS, pz_suS, pz_iT, pz_iT]
    by_cases z : q = n
    · subst z
      have : pz_su (fun _ => True) g' q = pz_su (fun _ => True) g q := pz_su_c (fun t ht => e t (by omega) (by omega))
      rw [this]; grind
    · rw [pz_su_one (n := n) (by omega) (fun t ht hs => e t (by omega) hs), e n (by omega) (by omega)]; grind
theorem cssh (h : pz_c sc sq pa ri mp ca dr pe U V w0 w) (hj : j < pa.1) (hq : q < 12) : pz_c sc sq (pa.1, pa.2.1, pz_u pa.2.2 j q v) ri mp ca dr pe U V w0 (pw_ps (pw_ps w 3 j 5 (pz_ss pa j 12 + (v - pa.2.2 j q))) 11 j q v) := by
  exact ⟨pz_fr.ps (pz_fr.ps h.1 (by omega)) (by omega), h.2.1,
    h.2.2.1,
    h.2.2.2.1,
    h.2.2.2.2.1,
    ⟨h.2.2.2.2.2.1.1, h.2.2.2.2.2.1.2.1, h.2.2.2.2.2.1.2.2.1, h.2.2.2.2.2.1.2.2.2.1, (fun b0 b1 => by rw [pz_psf (f := 11) (by decide), pz_psk (by decide)]; exact h.2.2.2.2.2.1.2.2.2.2.1 b0 b1), (fun b0 b1 => by rw [pz_psf (f := 11) (by decide), pz_psk (by decide)]; exact h.2.2.2.2.2.1.2.2.2.2.2.1 b0 b1), (fun b0 => by rw [pz_psf (f := 11) (by decide), pz_psk (by decide)]; exact h.2.2.2.2.2.1.2.2.2.2.2.2.1 b0), (fun b0 => by rw [pz_psf (f := 11) (by decide), pz_psk (by decide)]; exact h.2.2.2.2.2.1.2.2.2.2.2.2.2.1 b0), (fun m hm => by
      rw [pz_psf (f := 11) (by decide)]
      show _ = pz_su (fun _ => True) ((pz_u pa.2.2 j q v) m) 12
      by_cases z : m = j
      · rw [z, pz_pss, pz_su_one (g := pa.2.2 j) hq (fun t _ ht => pz_un ht), pz_us]; rfl
      · rw [pz_psi z, show (pz_u pa.2.2 j q v) m = pa.2.2 m from funext fun t => pz_uk z]; exact h.2.2.2.2.2.1.2.2.2.2.2.2.2.2.1 m hm), h.2.2.2.2.2.1.2.2.2.2.2.2.2.2.2.1, (fun m g hm hg => by
      show _ = (pz_u pa.2.2 j q v) m g
      by_cases z : m = j
      · by_cases z2 : g = q
        · rw [z, z2, pz_pss, pz_us]
        · rw [pz_psk z2, pz_un z2, pz_psf (by decide)]; exact h.2.2.2.2.2.1.2.2.2.2.2.2.2.2.2.2 m g hm hg
      · rw [pz_psi z, pz_uk z, pz_psf (by decide)]; exact h.2.2.2.2.2.1.2.2.2.2.2.2.2.2.2.2 m g hm hg)⟩,
    fun b0 b1 => by rw [pz_psf (f := 11) (by decide), pz_psk (by decide)]; exact h.2.2.2.2.2.2.1 b0 b1,
    h.2.2.2.2.2.2.2.1,
    h.2.2.2.2.2.2.2.2.1,
    h.2.2.2.2.2.2.2.2.2.1,
    h.2.2.2.2.2.2.2.2.2.2.1,
    h.2.2.2.2.2.2.2.2.2.2.2.1,
    h.2.2.2.2.2.2.2.2.2.2.2.2.1,
    h.2.2.2.2.2.2.2.2.2.2.2.2.2⟩
theorem cu_setSheep (h : pz_c sc sq pa ri mp ca dr pe U V w0 w) (hx : pw_jn x pa.1) (hn : pa.1 ≤ 40) (hq : q < 12) (k : ∀ w1, pz_c sc sq (pa.1, pa.2.1, pz_u pa.2.2 (pw_i x) q v) ri mp ca dr pe U V w0 w1 → K w1 0) : wp_Parcel_setSheep w x (nI q) v K X := by
  unfold wp_Parcel_setSheep
  have hx0 : 0 ≤ x := hx.1
  have hx2 := hx.2
  have e : pz_in (nI q) 0 11 := by rw [show pz_in (nI q) 0 11 = pw_jn (nI q) 12 from pz_in_jn (n := 12) (by decide)]; exact pz_jn hq (by omega)
  have l11 : pw_ln w 11 (pw_i x) = 12 := pz_kl11 h _ hx2
  have e31 := pz_k31 h _ hx2
  rw [cv_isInRange]
  refine ⟨fun z => absurd e (pz_b0.mp z), fun _ => ⟨hx0, ?_⟩⟩
  simp (disch := omega) only [e31, pz_i, pz_nnt, true_and, l11, pz_jnt, pz_k11 h _ _ hx2 hq, pz_k35 h _ hx2]
  intro w7 e7
  have e731 : w7.1 3 (pw_i x) 1 = nI (pw_i x) := by rw [e7, pz_psk (by decide)]; exact e31
  have l711 : pw_ln w7 11 (pw_i x) = 12 := by rw [e7]; exact l11
  simp (disch := omega) only [e731, pz_i, pz_nnt, true_and, l711, pz_jnt]
  intro w11 e11
  rw [e11, e7]
  exact k _ (cssh h hx2 hq)
theorem pz_wri5 (e3 : pw_nv w 5 = ri.1) : (pw_la (pw_ps (pw_ps (pw_ps (pw_ps (pw_ps (pw_nw w 5 0 6) 5 ri.1 0 a) 5 ri.1 1 b) 5 ri.1 2 c) 5 ri.1 3 d) 5 ri.1 4 e) 25 0 (nI ri.1)).1 5 j k = if j = ri.1 then (if k = 4 then e else if k = 3 then d else if k = 2 then c else if k = 1 then b else if k = 0 then a else pw_df 5 k) else w.1 5 j k := by
  show (if 5 = 5 ∧ j = ri.1 ∧ k = 4 then e else if 5 = 5 ∧ j = ri.1 ∧ k = 3 then d else if 5 = 5 ∧ j = ri.1 ∧ k = 2 then c else if 5 = 5 ∧ j = ri.1 ∧ k = 1 then b else if 5 = 5 ∧ j = ri.1 ∧ k = 0 then a else if 5 = 5 ∧ j = pw_nv w 5 then pw_df 5 k else w.1 5 j k) = _
  by_cases q : j = ri.1
  · rw [if_pos q]
    by_cases q4 : k = 4
    · rw [if_pos ⟨rfl, q, q4⟩, if_pos q4]
    rw [if_neg (fun z => q4 z.2.2), if_neg q4]
    by_cases q3 : k = 3
    · rw [if_pos ⟨rfl, q, q3⟩, if_pos q3]
    rw [if_neg (fun z => q3 z.2.2), if_neg q3]
    by_cases q2 : k = 2
    · rw [if_pos ⟨rfl, q, q2⟩, if_pos q2]
    rw [if_neg (fun z => q2 z.2.2), if_neg q2]
    by_cases q1 : k = 1
    · rw [if_pos ⟨rfl, q, q1⟩, if_pos q1]
    rw [if_neg (fun z => q1 z.2.2), if_neg q1]
    by_cases q0 : k = 0
    · rw [if_pos ⟨rfl, q, q0⟩, if_pos q0]
    rw [if_neg (fun z => q0 z.2.2), if_neg q0]
    exact if_pos ⟨rfl, q.trans e3.symm⟩
  · rw [if_neg (fun z => q z.2.1), if_neg (fun z => q z.2.1), if_neg (fun z => q z.2.1), if_neg (fun z => q z.2.1), if_neg (fun z => q z.2.1), if_neg q]; exact if_neg (fun z => q (z.2.trans e3))
theorem pz_wri25 (e3 : pw_ln w 25 0 = ri.1) : (pw_la (pw_ps (pw_ps (pw_ps (pw_ps (pw_ps (pw_nw w 5 0 6) 5 ri.1 0 a) 5 ri.1 1 b) 5 ri.1 2 c) 5 ri.1 3 d) 5 ri.1 4 e) 25 0 (nI ri.1)).1 25 0 j = if j = ri.1 then nI ri.1 else w.1 25 0 j := by
  show (if 25 = 25 ∧ 0 = 0 ∧ j = pw_ln w 25 0 then nI ri.1 else w.1 25 0 j) = _
  by_cases q : j = ri.1
  · rw [if_pos q]; exact if_pos ⟨rfl, rfl, q.trans e3.symm⟩
  · rw [if_neg q]; exact if_neg (fun z => q (z.2.2.trans e3))
theorem csri (h : pz_c sc sq pa ri mp ca dr pe U V w0 w) (hd : a = 0 → d = d') (hr : ri.1 < 80) : pz_c sc sq pa (pz_mr' ri a b c d' e) mp ca dr pe U V w0 (pw_la (pw_ps (pw_ps (pw_ps (pw_ps (pw_ps (pw_nw w 5 0 6) 5 ri.1 0 a) 5 ri.1 1 b) 5 ri.1 2 c) 5 ri.1 3 d) 5 ri.1 4 e) 25 0 (nI ri.1)) := by
  have e3 : pw_nv w 5 = ri.1 := h.2.2.2.2.2.2.2.2.1.2.1
  have el : pw_ln w 25 0 = ri.1 := h.2.2.2.2.2.2.2.2.1.1
  exact ⟨pz_fr.la (pz_fr.ps (pz_fr.ps (pz_fr.ps (pz_fr.ps (pz_fr.ps (pz_fr.nw h.1 (by omega)) (by omega)) (by omega)) (by omega)) (by omega)) (by omega)) (by omega), h.2.1,
    h.2.2.1,
    h.2.2.2.1,
    h.2.2.2.2.1,
    h.2.2.2.2.2.1,
    h.2.2.2.2.2.2.1,
    h.2.2.2.2.2.2.2.1,
    ⟨(show pw_ln w 25 0 + 1 = ri.1 + 1 by rw [el]), (show pw_nv w 5 + 1 = ri.1 + 1 by rw [e3]), (fun m hm => by
      rw [pz_wri25 el]
      by_cases q : m = ri.1
      · rw [if_pos q, q]
      · rw [if_neg q]; exact h.2.2.2.2.2.2.2.2.1.2.2.1 m (by have : m < ri.1 + 1 := hm; omega)), (fun m => by
      show _ = (pz_mr' ri a b c d' e).2 20 m
      unfold pz_mr'
      dsimp only
      rw [pz_wri5 e3]
      rw [pz_uk (by decide), pz_uk (by decide), pz_uk (by decide), pz_uk (by decide), pz_uk (by decide)]
      by_cases q : m = ri.1
      · rw [if_pos q, q, pz_us]; rfl
      · rw [if_neg q, pz_un q]; exact h.2.2.2.2.2.2.2.2.1.2.2.2.1 m), (fun m => by
      show _ = (pz_mr' ri a b c d' e).2 21 m
      unfold pz_mr'
      dsimp only
      rw [pz_wri5 e3]
      rw [pz_uk (by decide), pz_uk (by decide), pz_uk (by decide), pz_uk (by decide)]
      by_cases q : m = ri.1
      · rw [if_pos q, q, pz_us]; rfl
      · rw [if_neg q, pz_un q, pz_uk (by decide)]; exact h.2.2.2.2.2.2.2.2.1.2.2.2.2.1 m), (fun m => by
      show _ = (pz_mr' ri a b c d' e).2 22 m
      unfold pz_mr'
      dsimp only
      rw [pz_wri5 e3]
      rw [pz_uk (by decide), pz_uk (by decide), pz_uk (by decide)]
      by_cases q : m = ri.1
      · rw [if_pos q, q, pz_us]; rfl
      · rw [if_neg q, pz_un q, pz_uk (by decide), pz_uk (by decide)]; exact h.2.2.2.2.2.2.2.2.1.2.2.2.2.2.1 m), (fun m hm hk => by
      have hk : (pz_mr' ri a b c d' e).2 20 m = 0 := hk
      unfold pz_mr' at hk
      show _ = (pz_mr' ri a b c d' e).2 23 m
      unfold pz_mr'
      dsimp only at hk ⊢
      rw [pz_wri5 e3]
      rw [pz_uk (by decide), pz_uk (by decide), pz_uk (by decide), pz_uk (by decide), pz_uk (by decide)] at hk
      rw [pz_uk (by decide), pz_uk (by decide)]
      by_cases q : m = ri.1
      · rw [q, pz_us] at hk
        rw [if_pos q, q, pz_us]; exact hd hk
      · rw [pz_un q] at hk
        rw [if_neg q, pz_un q, pz_uk (by decide), pz_uk (by decide), pz_uk (by decide)]; exact h.2.2.2.2.2.2.2.2.1.2.2.2.2.2.2.1 m (by have : m < ri.1 + 1 := hm; omega) hk), (fun m => by
      show _ = (pz_mr' ri a b c d' e).2 24 m
      unfold pz_mr'
      dsimp only
      rw [pz_wri5 e3]
      rw [pz_uk (by decide)]
      by_cases q : m = ri.1
      · rw [if_pos q, q, pz_us]; rfl
      · rw [if_neg q, pz_un q, pz_uk (by decide), pz_uk (by decide), pz_uk (by decide), pz_uk (by decide)]; exact h.2.2.2.2.2.2.2.2.1.2.2.2.2.2.2.2.1 m), (fun m => by
      show _ = (pz_mr' ri a b c d' e).2 25 m
      unfold pz_mr'
      dsimp only
      rw [pz_wri5 e3]
      by_cases q : m = ri.1
      · rw [if_pos q, q, pz_us]; rfl
      · rw [if_neg q, pz_un q, pz_uk (by decide), pz_uk (by decide), pz_uk (by decide), pz_uk (by decide), pz_uk (by decide)]; exact h.2.2.2.2.2.2.2.2.1.2.2.2.2.2.2.2.2 m)⟩,
    h.2.2.2.2.2.2.2.2.2.1,
    h.2.2.2.2.2.2.2.2.2.2.1,
    h.2.2.2.2.2.2.2.2.2.2.2.1,
    h.2.2.2.2.2.2.2.2.2.2.2.2.1,
    by
      have hl : pw_ln w 25 0 ≤ 80 := by omega
      refine ⟨pz_nvl.la (pz_nvl.nw h.2.2.2.2.2.2.2.2.2.2.2.2.2.1) (by decide), ?_, ?_⟩
      · have := h.2.2.2.2.2.2.2.2.2.2.2.2.2.2.1
        have := (pz_lau (w := pw_ps (pw_ps (pw_ps (pw_ps (pw_ps (pw_nw w 5 0 6) 5 ri.1 0 a) 5 ri.1 1 b) 5 ri.1 2 c) 5 ri.1 3 d) 5 ri.1 4 e) (f := 25) (i := 0) (x := nI ri.1)).2
        have ee : (pw_ps (pw_ps (pw_ps (pw_ps (pw_ps (pw_nw w 5 0 6) 5 ri.1 0 a) 5 ri.1 1 b) 5 ri.1 2 c) 5 ri.1 3 d) 5 ri.1 4 e).2.2.1 = w.2.2.1 + 1 := rfl
        have e' : (pz_mr' ri a b c d' e).1 = ri.1 + 1 := rfl
        omega
      · have := h.2.2.2.2.2.2.2.2.2.2.2.2.2.2.2
        have := (pz_lavv (w := pw_ps (pw_ps (pw_ps (pw_ps (pw_ps (pw_nw w 5 0 6) 5 ri.1 0 a) 5 ri.1 1 b) 5 ri.1 2 c) 5 ri.1 3 d) 5 ri.1 4 e) (f := 25) (i := 0) (x := nI ri.1)) hl
        have ee : (pw_ps (pw_ps (pw_ps (pw_ps (pw_ps (pw_nw w 5 0 6) 5 ri.1 0 a) 5 ri.1 1 b) 5 ri.1 2 c) 5 ri.1 3 d) 5 ri.1 4 e).2.2.2 = w.2.2.2 + 6 := rfl
        have e' : (pz_mr' ri a b c d' e).1 = ri.1 + 1 := rfl
        omega⟩
theorem cu_newRight (h : pz_c sc sq pa ri mp ca dr pe U V w0 w) (hd : a = 0 → d = d') (hr1 : ri.1 < 80) (hU : U ≤ 200000) (hV : V ≤ 4000000) (hL : pz_L sq ≤ 12000) (hr : ri.1 ≤ 80) (k : ∀ w1, pz_c sc sq pa (pz_mr' ri a b c d' e) mp ca dr pe U V w0 w1 → K w1 (nI ri.1)) :
    wp_Right_init (pw_nw w 5 0 6) (nI ri.1) a b c d e (fun w1 _ => wp_X_addRight w1 (nI ri.1) K X) Y := by
  unfold wp_Right_init wp_X_addRight
  have ru := pz_kru h
  have rv := pz_krv h
  have e7 : w.1 7 0 5 = 0 := h.2.1.2.2.2.2.2.1
  have el : pw_ln w 25 0 = ri.1 := h.2.2.2.2.2.2.2.2.1.1
  simp (disch := omega) only [pz_i, pz_nnt, true_and, forall_eq]
  refine ⟨e7, pz_lg (by show pw_ln w 25 0 ≤ 80; omega) (by show w.2.2.1 + 1 + 1 ≤ _; omega) (by show w.2.2.2 + 6 + 120 ≤ _; omega), e7, ?_⟩
  rw [show ∀ w' : pw_W, pw_ln (pw_la w' 25 0 (nI ri.1)) 25 0 = pw_ln w' 25 0 + 1 from fun _ => pz_lals]
  show K _ (nI (pw_ln w 25 0 + 1) - 1)
  rw [el, pz_p1]
  exact k _ (csri h hd hr1)
theorem cu_newRm (h : pz_c sc sq pa ri mp ca dr pe U V w0 w) (hU : U ≤ 200000) (hV : V ≤ 4000000) (hL : pz_L sq ≤ 12000) (hr : ri.1 ≤ 80) : pw_rm w 5 6 := by
  have ru := pz_kru h
  have rv := pz_krv h
  have rn := pz_knv h 5
  exact ⟨by omega, by omega, by omega⟩
theorem pz_mal : (pw_la (pw_ps (pw_ps (pw_ps (pw_nw w 2 0 3) 2 (pw_nv w 2) 0 a) 2 (pw_nv w 2) 1 b) 2 (pw_nv w 2) 2 c) 22 0 (nI (pw_nv w 2))).1 22 0 j = if j = pw_ln w 22 0 then nI (pw_nv w 2) else w.1 22 0 j := by
  by_cases q : j = pw_ln w 22 0
  · rw [if_pos q, q]; exact pz_las
  · rw [if_neg q]; exact pz_lao (fun z => q z.2)
theorem pz_mao (hj : j ≠ pw_nv w 2) : (pw_la (pw_ps (pw_ps (pw_ps (pw_nw w 2 0 3) 2 (pw_nv w 2) 0 a) 2 (pw_nv w 2) 1 b) 2 (pw_nv w 2) 2 c) 22 0 (nI (pw_nv w 2))).1 2 j k = w.1 2 j k := by
  rw [pz_laf (by decide) (by decide), pz_psi hj, pz_psi hj, pz_psi hj, pz_nwi hj]
theorem csma (h : pz_c sc sq pa ri mp ca dr pe U V w0 w) (hn : mp.1 ≤ 80) (hb : pw_nv w 2 < 2147483648) : pz_c sc sq pa ri (mp.1 + 1, pz_u (pz_u (pz_u mp.2 27 mp.1 a) 28 mp.1 b) 29 mp.1 c) ca dr pe (U + 2) (V + 123) w0 (pw_la (pw_ps (pw_ps (pw_ps (pw_nw w 2 0 3) 2 (pw_nv w 2) 0 a) 2 (pw_nv w 2) 1 b) 2 (pw_nv w 2) 2 c) 22 0 (nI (pw_nv w 2))) := by
  have el : pw_ln w 22 0 = mp.1 := h.2.2.2.2.2.2.2.2.2.1.1
  exact ⟨pz_fr.la (pz_fr.ps (pz_fr.ps (pz_fr.ps (pz_fr.nw h.1 (by omega)) (by omega)) (by omega)) (by omega)) (by omega), h.2.1,
    h.2.2.1,
    h.2.2.2.1,
    h.2.2.2.2.1,
    h.2.2.2.2.2.1,
    h.2.2.2.2.2.2.1,
    h.2.2.2.2.2.2.2.1,
    h.2.2.2.2.2.2.2.2.1,
    ⟨(show pw_ln w 22 0 + 1 = mp.1 + 1 by rw [el]), (fun m hm => by
      rw [pz_mal]
      have hv : pw_nv (pw_la (pw_ps (pw_ps (pw_ps (pw_nw w 2 0 3) 2 (pw_nv w 2) 0 a) 2 (pw_nv w 2) 1 b) 2 (pw_nv w 2) 2 c) 22 0 (nI (pw_nv w 2))) 2 = pw_nv w 2 + 1 := rfl
      by_cases q : m = mp.1
      · rw [if_pos (q.trans el.symm), hv]; exact pz_jn (by omega) hb
      · rw [if_neg (fun z => q (z.trans el)), hv]; exact pz_jw (h.2.2.2.2.2.2.2.2.2.1.2.1 m (by have : m < mp.1 + 1 := hm; omega)) (by omega)), (fun m hm => by
      show _ = ((mp.1 + 1, pz_u (pz_u (pz_u mp.2 27 mp.1 a) 28 mp.1 b) 29 mp.1 c)).2 27 m
      dsimp only
      rw [pz_mal]
      rw [pz_uk (by decide), pz_uk (by decide)]
      by_cases q : m = mp.1
      · rw [if_pos (q.trans el.symm), pz_i hb, pz_laf (by decide) (by decide), pz_psk (by decide), pz_psk (by decide), pz_pss, q, pz_us]
      · have hm' : m < mp.1 := by have : m < mp.1 + 1 := hm; omega
        rw [if_neg (fun z => q (z.trans el)), pz_un q, pz_mao (by have := (h.2.2.2.2.2.2.2.2.2.1.2.1 m hm').2; omega)]; exact h.2.2.2.2.2.2.2.2.2.1.2.2.1 m hm'), (fun m hm => by
      show _ = ((mp.1 + 1, pz_u (pz_u (pz_u mp.2 27 mp.1 a) 28 mp.1 b) 29 mp.1 c)).2 28 m
      dsimp only
      rw [pz_mal]
      rw [pz_uk (by decide)]
      by_cases q : m = mp.1
      · rw [if_pos (q.trans el.symm), pz_i hb, pz_laf (by decide) (by decide), pz_psk (by decide), pz_pss, q, pz_us]
      · have hm' : m < mp.1 := by have : m < mp.1 + 1 := hm; omega
        rw [if_neg (fun z => q (z.trans el)), pz_un q, pz_uk (by decide), pz_mao (by have := (h.2.2.2.2.2.2.2.2.2.1.2.1 m hm').2; omega)]; exact h.2.2.2.2.2.2.2.2.2.1.2.2.2.1 m hm'), (fun m hm => by
      show _ = ((mp.1 + 1, pz_u (pz_u (pz_u mp.2 27 mp.1 a) 28 mp.1 b) 29 mp.1 c)).2 29 m
      dsimp only
      rw [pz_mal]
      by_cases q : m = mp.1
      · rw [if_pos (q.trans el.symm), pz_i hb, pz_laf (by decide) (by decide), pz_pss, q, pz_us]
      · have hm' : m < mp.1 := by have : m < mp.1 + 1 := hm; omega
        rw [if_neg (fun z => q (z.trans el)), pz_un q, pz_uk (by decide), pz_uk (by decide), pz_mao (by have := (h.2.2.2.2.2.2.2.2.2.1.2.1 m hm').2; omega)]; exact h.2.2.2.2.2.2.2.2.2.1.2.2.2.2 m hm')⟩,
    h.2.2.2.2.2.2.2.2.2.2.1,
    h.2.2.2.2.2.2.2.2.2.2.2.1,
    h.2.2.2.2.2.2.2.2.2.2.2.2.1,
    by
      have hl : pw_ln w 22 0 ≤ 80 := by omega
      refine ⟨pz_nvl.la (pz_nvl.nw h.2.2.2.2.2.2.2.2.2.2.2.2.2.1) (by decide), ?_, ?_⟩
      · have := h.2.2.2.2.2.2.2.2.2.2.2.2.2.2.1
        have := (pz_lau (w := pw_ps (pw_ps (pw_ps (pw_nw w 2 0 3) 2 (pw_nv w 2) 0 a) 2 (pw_nv w 2) 1 b) 2 (pw_nv w 2) 2 c) (f := 22) (i := 0) (x := nI (pw_nv w 2))).2
        have e : (pw_ps (pw_ps (pw_ps (pw_nw w 2 0 3) 2 (pw_nv w 2) 0 a) 2 (pw_nv w 2) 1 b) 2 (pw_nv w 2) 2 c).2.2.1 = w.2.2.1 + 1 := rfl
        omega
      · have := h.2.2.2.2.2.2.2.2.2.2.2.2.2.2.2
        have := (pz_lavv (w := pw_ps (pw_ps (pw_ps (pw_nw w 2 0 3) 2 (pw_nv w 2) 0 a) 2 (pw_nv w 2) 1 b) 2 (pw_nv w 2) 2 c) (f := 22) (i := 0) (x := nI (pw_nv w 2))) hl
        have e : (pw_ps (pw_ps (pw_ps (pw_nw w 2 0 3) 2 (pw_nv w 2) 0 a) 2 (pw_nv w 2) 1 b) 2 (pw_nv w 2) 2 c).2.2.2 = w.2.2.2 + 3 := rfl
        omega⟩
theorem pz_dal : (pw_la (pw_ps (pw_ps (pw_nw w 1 0 2) 1 (pw_nv w 1) 0 a) 1 (pw_nv w 1) 1 b) 21 0 (nI (pw_nv w 1))).1 21 0 j = if j = pw_ln w 21 0 then nI (pw_nv w 1) else w.1 21 0 j := by
  by_cases q : j = pw_ln w 21 0
  · rw [if_pos q, q]; exact pz_las
  · rw [if_neg q]; exact pz_lao (fun z => q z.2)
theorem pz_dao (hj : j ≠ pw_nv w 1) : (pw_la (pw_ps (pw_ps (pw_nw w 1 0 2) 1 (pw_nv w 1) 0 a) 1 (pw_nv w 1) 1 b) 21 0 (nI (pw_nv w 1))).1 1 j k = w.1 1 j k := by
  rw [pz_laf (by decide) (by decide), pz_psi hj, pz_psi hj, pz_nwi hj]
theorem csda (h : pz_c sc sq pa ri mp ca dr pe U V w0 w) (hn : dr.1 ≤ 80) (hb : pw_nv w 1 < 2147483648) : pz_c sc sq pa ri mp ca (dr.1 + 1, pz_u (pz_u dr.2 39 dr.1 a) 40 dr.1 b) pe (U + 2) (V + 122) w0 (pw_la (pw_ps (pw_ps (pw_nw w 1 0 2) 1 (pw_nv w 1) 0 a) 1 (pw_nv w 1) 1 b) 21 0 (nI (pw_nv w 1))) := by
  have el : pw_ln w 21 0 = dr.1 := h.2.2.2.2.2.2.2.2.2.2.2.2.1.1
  exact ⟨pz_fr.la (pz_fr.ps (pz_fr.ps (pz_fr.nw h.1 (by omega)) (by omega)) (by omega)) (by omega), h.2.1,
    h.2.2.1,
    h.2.2.2.1,
    h.2.2.2.2.1,
    h.2.2.2.2.2.1,
    h.2.2.2.2.2.2.1,
    h.2.2.2.2.2.2.2.1,
    h.2.2.2.2.2.2.2.2.1,
    h.2.2.2.2.2.2.2.2.2.1,
    h.2.2.2.2.2.2.2.2.2.2.1,
    h.2.2.2.2.2.2.2.2.2.2.2.1,
    ⟨(show pw_ln w 21 0 + 1 = dr.1 + 1 by rw [el]), (fun m hm => by
      rw [pz_dal]
      have hv : pw_nv (pw_la (pw_ps (pw_ps (pw_nw w 1 0 2) 1 (pw_nv w 1) 0 a) 1 (pw_nv w 1) 1 b) 21 0 (nI (pw_nv w 1))) 1 = pw_nv w 1 + 1 := rfl
      by_cases q : m = dr.1
      · rw [if_pos (q.trans el.symm), hv]; exact pz_jn (by omega) hb
      · rw [if_neg (fun z => q (z.trans el)), hv]; exact pz_jw (h.2.2.2.2.2.2.2.2.2.2.2.2.1.2.1 m (by have : m < dr.1 + 1 := hm; omega)) (by omega)), (fun m hm => by
      show _ = ((dr.1 + 1, pz_u (pz_u dr.2 39 dr.1 a) 40 dr.1 b)).2 39 m
      dsimp only
      rw [pz_dal]
      rw [pz_uk (by decide)]
      by_cases q : m = dr.1
      · rw [if_pos (q.trans el.symm), pz_i hb, pz_laf (by decide) (by decide), pz_psk (by decide), pz_pss, q, pz_us]
      · have hm' : m < dr.1 := by have : m < dr.1 + 1 := hm; omega
        rw [if_neg (fun z => q (z.trans el)), pz_un q, pz_dao (by have := (h.2.2.2.2.2.2.2.2.2.2.2.2.1.2.1 m hm').2; omega)]; exact h.2.2.2.2.2.2.2.2.2.2.2.2.1.2.2.1 m hm'), (fun m hm => by
      show _ = ((dr.1 + 1, pz_u (pz_u dr.2 39 dr.1 a) 40 dr.1 b)).2 40 m
      dsimp only
      rw [pz_dal]
      by_cases q : m = dr.1
      · rw [if_pos (q.trans el.symm), pz_i hb, pz_laf (by decide) (by decide), pz_pss, q, pz_us]
      · have hm' : m < dr.1 := by have : m < dr.1 + 1 := hm; omega
        rw [if_neg (fun z => q (z.trans el)), pz_un q, pz_uk (by decide), pz_dao (by have := (h.2.2.2.2.2.2.2.2.2.2.2.2.1.2.1 m hm').2; omega)]; exact h.2.2.2.2.2.2.2.2.2.2.2.2.1.2.2.2 m hm')⟩,
    by
      have hl : pw_ln w 21 0 ≤ 80 := by omega
      refine ⟨pz_nvl.la (pz_nvl.nw h.2.2.2.2.2.2.2.2.2.2.2.2.2.1) (by decide), ?_, ?_⟩
      · have := h.2.2.2.2.2.2.2.2.2.2.2.2.2.2.1
        have := (pz_lau (w := pw_ps (pw_ps (pw_nw w 1 0 2) 1 (pw_nv w 1) 0 a) 1 (pw_nv w 1) 1 b) (f := 21) (i := 0) (x := nI (pw_nv w 1))).2
        have e : (pw_ps (pw_ps (pw_nw w 1 0 2) 1 (pw_nv w 1) 0 a) 1 (pw_nv w 1) 1 b).2.2.1 = w.2.2.1 + 1 := rfl
        omega
      · have := h.2.2.2.2.2.2.2.2.2.2.2.2.2.2.2
        have := (pz_lavv (w := pw_ps (pw_ps (pw_nw w 1 0 2) 1 (pw_nv w 1) 0 a) 1 (pw_nv w 1) 1 b) (f := 21) (i := 0) (x := nI (pw_nv w 1))) hl
        have e : (pw_ps (pw_ps (pw_nw w 1 0 2) 1 (pw_nv w 1) 0 a) 1 (pw_nv w 1) 1 b).2.2.2 = w.2.2.2 + 2 := rfl
        omega⟩
theorem pz_mrl : (pw_lr w 22 0 i).1 22 0 j = if i ≤ j then w.1 22 0 (j + 1) else w.1 22 0 j := by
  show (if 22 = 22 ∧ 0 = 0 ∧ i ≤ j then w.1 22 0 (j + 1) else if 22 = 22 + 300 ∧ 0 = 0 ∧ j = 0 then w.1 22 0 j + 1 else w.1 22 0 j) = _
  by_cases q : i ≤ j
  · rw [if_pos q, if_pos ⟨rfl, rfl, q⟩]
  · rw [if_neg q, if_neg (fun z => q z.2.2), if_neg (by omega)]
theorem csmr (h : pz_c sc sq pa ri mp ca dr pe U V w0 w)  : pz_c sc sq pa ri (mp.1 - 1, fun f m => if i ≤ m then mp.2 f (m + 1) else mp.2 f m) ca dr pe U V w0 (pw_lr w 22 0 i) := by
  have el : pw_ln w 22 0 = mp.1 := h.2.2.2.2.2.2.2.2.2.1.1
  exact ⟨pz_fr.lr h.1 (by omega), h.2.1,
    h.2.2.1,
    h.2.2.2.1,
    h.2.2.2.2.1,
    h.2.2.2.2.2.1,
    h.2.2.2.2.2.2.1,
    h.2.2.2.2.2.2.2.1,
    h.2.2.2.2.2.2.2.2.1,
    ⟨(show pw_ln w 22 0 - 1 = mp.1 - 1 by rw [el]), (fun m hm => by
      have hm : m < mp.1 - 1 := hm
      show pw_jn _ (pw_nv w 2)
      rw [pz_mrl]
      by_cases q : i ≤ m
      · rw [if_pos q]; exact h.2.2.2.2.2.2.2.2.2.1.2.1 _ (by omega)
      · rw [if_neg q]; exact h.2.2.2.2.2.2.2.2.2.1.2.1 _ (by omega)), (fun m hm => by
      have hm : m < mp.1 - 1 := hm
      show w.1 2 (pw_i ((pw_lr w 22 0 i).1 22 0 m)) 0 = if i ≤ m then mp.2 27 (m + 1) else mp.2 27 m
      rw [pz_mrl]
      by_cases q : i ≤ m
      · rw [if_pos q, if_pos q]; exact h.2.2.2.2.2.2.2.2.2.1.2.2.1 _ (by omega)
      · rw [if_neg q, if_neg q]; exact h.2.2.2.2.2.2.2.2.2.1.2.2.1 _ (by omega)), (fun m hm => by
      have hm : m < mp.1 - 1 := hm
      show w.1 2 (pw_i ((pw_lr w 22 0 i).1 22 0 m)) 1 = if i ≤ m then mp.2 28 (m + 1) else mp.2 28 m
      rw [pz_mrl]
      by_cases q : i ≤ m
      · rw [if_pos q, if_pos q]; exact h.2.2.2.2.2.2.2.2.2.1.2.2.2.1 _ (by omega)
      · rw [if_neg q, if_neg q]; exact h.2.2.2.2.2.2.2.2.2.1.2.2.2.1 _ (by omega)), (fun m hm => by
      have hm : m < mp.1 - 1 := hm
      show w.1 2 (pw_i ((pw_lr w 22 0 i).1 22 0 m)) 2 = if i ≤ m then mp.2 29 (m + 1) else mp.2 29 m
      rw [pz_mrl]
      by_cases q : i ≤ m
      · rw [if_pos q, if_pos q]; exact h.2.2.2.2.2.2.2.2.2.1.2.2.2.2 _ (by omega)
      · rw [if_neg q, if_neg q]; exact h.2.2.2.2.2.2.2.2.2.1.2.2.2.2 _ (by omega))⟩,
    h.2.2.2.2.2.2.2.2.2.2.1,
    h.2.2.2.2.2.2.2.2.2.2.2.1,
    h.2.2.2.2.2.2.2.2.2.2.2.2.1,
    ⟨fun f => (show pw_nv w f ≤ w.2.2.1 from h.2.2.2.2.2.2.2.2.2.2.2.2.2.1 f), h.2.2.2.2.2.2.2.2.2.2.2.2.2.2⟩⟩
theorem pz_ddl : (pw_lr w 21 0 i).1 21 0 j = if i ≤ j then w.1 21 0 (j + 1) else w.1 21 0 j := by
  show (if 21 = 21 ∧ 0 = 0 ∧ i ≤ j then w.1 21 0 (j + 1) else if 21 = 21 + 300 ∧ 0 = 0 ∧ j = 0 then w.1 21 0 j + 1 else w.1 21 0 j) = _
  by_cases q : i ≤ j
  · rw [if_pos q, if_pos ⟨rfl, rfl, q⟩]
  · rw [if_neg q, if_neg (fun z => q z.2.2), if_neg (by omega)]
theorem csdd (h : pz_c sc sq pa ri mp ca dr pe U V w0 w)  : pz_c sc sq pa ri mp ca (dr.1 - 1, fun f m => if i ≤ m then dr.2 f (m + 1) else dr.2 f m) pe U V w0 (pw_lr w 21 0 i) := by
  have el : pw_ln w 21 0 = dr.1 := h.2.2.2.2.2.2.2.2.2.2.2.2.1.1
  exact ⟨pz_fr.lr h.1 (by omega), h.2.1,
    h.2.2.1,
    h.2.2.2.1,
    h.2.2.2.2.1,
    h.2.2.2.2.2.1,
    h.2.2.2.2.2.2.1,
    h.2.2.2.2.2.2.2.1,
    h.2.2.2.2.2.2.2.2.1,
    h.2.2.2.2.2.2.2.2.2.1,
    h.2.2.2.2.2.2.2.2.2.2.1,
    h.2.2.2.2.2.2.2.2.2.2.2.1,
    ⟨(show pw_ln w 21 0 - 1 = dr.1 - 1 by rw [el]), (fun m hm => by
      have hm : m < dr.1 - 1 := hm
      show pw_jn _ (pw_nv w 1)
      rw [pz_ddl]
      by_cases q : i ≤ m
      · rw [if_pos q]; exact h.2.2.2.2.2.2.2.2.2.2.2.2.1.2.1 _ (by omega)
      · rw [if_neg q]; exact h.2.2.2.2.2.2.2.2.2.2.2.2.1.2.1 _ (by omega)), (fun m hm => by
      have hm : m < dr.1 - 1 := hm
      show w.1 1 (pw_i ((pw_lr w 21 0 i).1 21 0 m)) 0 = if i ≤ m then dr.2 39 (m + 1) else dr.2 39 m
      rw [pz_ddl]
      by_cases q : i ≤ m
      · rw [if_pos q, if_pos q]; exact h.2.2.2.2.2.2.2.2.2.2.2.2.1.2.2.1 _ (by omega)
      · rw [if_neg q, if_neg q]; exact h.2.2.2.2.2.2.2.2.2.2.2.2.1.2.2.1 _ (by omega)), (fun m hm => by
      have hm : m < dr.1 - 1 := hm
      show w.1 1 (pw_i ((pw_lr w 21 0 i).1 21 0 m)) 1 = if i ≤ m then dr.2 40 (m + 1) else dr.2 40 m
      rw [pz_ddl]
      by_cases q : i ≤ m
      · rw [if_pos q, if_pos q]; exact h.2.2.2.2.2.2.2.2.2.2.2.2.1.2.2.2 _ (by omega)
      · rw [if_neg q, if_neg q]; exact h.2.2.2.2.2.2.2.2.2.2.2.2.1.2.2.2 _ (by omega))⟩,
    ⟨fun f => (show pw_nv w f ≤ w.2.2.1 from h.2.2.2.2.2.2.2.2.2.2.2.2.2.1 f), h.2.2.2.2.2.2.2.2.2.2.2.2.2.2⟩⟩
theorem csha (h : pz_c sc sq pa ri mp ca dr pe U V w0 w) (hl : pw_ln w 24 p + 1 ≤ 3) : pz_c sc sq pa ri mp ca dr (pz_u pe.1 44 p (nI (pw_ln w 24 p + 1)), pz_u pe.2 p (pw_ln w 24 p) v) (U + 1) (V + 120) w0 (pw_la w 24 p v) := by
  exact ⟨pz_fr.la h.1 (by omega), h.2.1,
    h.2.2.1,
    h.2.2.2.1,
    h.2.2.2.2.1,
    h.2.2.2.2.2.1,
    h.2.2.2.2.2.2.1,
    ⟨h.2.2.2.2.2.2.2.1.1, h.2.2.2.2.2.2.2.1.2.1, h.2.2.2.2.2.2.2.1.2.2.1, h.2.2.2.2.2.2.2.1.2.2.2.1, h.2.2.2.2.2.2.2.1.2.2.2.2.1, h.2.2.2.2.2.2.2.1.2.2.2.2.2.1, (fun m hm => by
      show (pz_u pe.1 44 p (nI (pw_ln w 24 p + 1))) 44 m = nI (pw_ln (pw_la w 24 p v) 24 m) ∧ pw_ln (pw_la w 24 p v) 24 m ≤ 3
      by_cases z : m = p
      · rw [z, pz_us, pz_lals]; exact ⟨rfl, hl⟩
      · rw [pz_un z, pz_lalo (fun q => z q.2) (by decide)]; exact h.2.2.2.2.2.2.2.1.2.2.2.2.2.2.1 m hm), (fun m g hm hg => by
      show (pw_la w 24 p v).1 24 m g = (pz_u pe.2 p (pw_ln w 24 p) v) m g
      by_cases z : m = p
      · rw [z, pz_lals] at hg
        by_cases z2 : g = pw_ln w 24 p
        · rw [z, z2, pz_las, pz_us]
        · rw [pz_lao (fun q => z2 q.2), pz_un z2]; exact h.2.2.2.2.2.2.2.1.2.2.2.2.2.2.2.1 m g hm (by rw [z]; omega)
      · rw [pz_lalo (fun q => z q.2) (by decide)] at hg
        rw [pz_lao (fun q => z q.1), pz_uk z]; exact h.2.2.2.2.2.2.2.1.2.2.2.2.2.2.2.1 m g hm hg), h.2.2.2.2.2.2.2.1.2.2.2.2.2.2.2.2⟩,
    h.2.2.2.2.2.2.2.2.1,
    h.2.2.2.2.2.2.2.2.2.1,
    h.2.2.2.2.2.2.2.2.2.2.1,
    h.2.2.2.2.2.2.2.2.2.2.2.1,
    h.2.2.2.2.2.2.2.2.2.2.2.2.1,
    by
      refine ⟨pz_nvl.la h.2.2.2.2.2.2.2.2.2.2.2.2.2.1 (by decide), ?_, ?_⟩
      · have := h.2.2.2.2.2.2.2.2.2.2.2.2.2.2.1
        have := (pz_lau (w := w) (f := 24) (i := p) (x := v)).2
        omega
      · have := h.2.2.2.2.2.2.2.2.2.2.2.2.2.2.2
        have := (pz_lavv (w := w) (f := 24) (i := p) (x := v)) (by omega)
        omega⟩
theorem pz_nll (hm : m ≠ pw_nv w 24) : pw_ln (pw_nl w 24) 24 m = pw_ln w 24 m := by
  show (if (24 = 24 ∨ 24 = 24 + 300) ∧ m = w.2.1 1000 24 then 0 else w.2.1 24 m) = _
  exact if_neg (fun z => hm z.2)
theorem pz_nlo (hm : m ≠ pw_nv w 24) : (pw_nl w 24).1 24 m k = w.1 24 m k := if_neg (fun z => hm z.2)
theorem cshn (h : pz_c sc sq pa ri mp ca dr pe U V w0 w)  : pz_c sc sq pa ri mp ca dr pe (U + 1) (V + 3) w0 (pw_nl w 24) := by
  exact ⟨pz_fr.nl h.1 (by omega), h.2.1,
    h.2.2.1,
    h.2.2.2.1,
    h.2.2.2.2.1,
    h.2.2.2.2.2.1,
    h.2.2.2.2.2.2.1,
    ⟨h.2.2.2.2.2.2.2.1.1, h.2.2.2.2.2.2.2.1.2.1, h.2.2.2.2.2.2.2.1.2.2.1, h.2.2.2.2.2.2.2.1.2.2.2.1, h.2.2.2.2.2.2.2.1.2.2.2.2.1, h.2.2.2.2.2.2.2.1.2.2.2.2.2.1, (fun m hm => by
      rw [show pw_ln (pw_nl w 24) 24 m = pw_ln w 24 m from pz_nll (by have := h.2.2.2.2.2.2.2.1.2.2.2.2.2.2.2.2; omega)]; exact h.2.2.2.2.2.2.2.1.2.2.2.2.2.2.1 m hm), (fun m g hm hg => by
      rw [show pw_ln (pw_nl w 24) 24 m = pw_ln w 24 m from pz_nll (by have := h.2.2.2.2.2.2.2.1.2.2.2.2.2.2.2.2; omega)] at hg
      rw [pz_nlo (by have := h.2.2.2.2.2.2.2.1.2.2.2.2.2.2.2.2; omega)]; exact h.2.2.2.2.2.2.2.1.2.2.2.2.2.2.2.1 m g hm hg), (show 12 ≤ pw_nv w 24 + 1 by have := h.2.2.2.2.2.2.2.1.2.2.2.2.2.2.2.2; omega)⟩,
    h.2.2.2.2.2.2.2.2.1,
    h.2.2.2.2.2.2.2.2.2.1,
    h.2.2.2.2.2.2.2.2.2.2.1,
    h.2.2.2.2.2.2.2.2.2.2.2.1,
    h.2.2.2.2.2.2.2.2.2.2.2.2.1,
    ⟨pz_nvl.nl h.2.2.2.2.2.2.2.2.2.2.2.2.2.1, by have := h.2.2.2.2.2.2.2.2.2.2.2.2.2.2.1; show w.2.2.1 + 1 ≤ _; omega, by have := h.2.2.2.2.2.2.2.2.2.2.2.2.2.2.2; show w.2.2.2 + 3 ≤ _; omega⟩⟩
theorem csho (h : pz_c sc sq pa ri mp ca dr pe U V w0 w) (hi : 12 ≤ i) (hl : pw_ln w 24 i ≤ 80) : pz_c sc sq pa ri mp ca dr pe (U + 1) (V + 120) w0 (pw_la w 24 i v) := by
  exact ⟨pz_fr.la h.1 (by omega), h.2.1,
    h.2.2.1,
    h.2.2.2.1,
    h.2.2.2.2.1,
    h.2.2.2.2.2.1,
    h.2.2.2.2.2.2.1,
    ⟨h.2.2.2.2.2.2.2.1.1, h.2.2.2.2.2.2.2.1.2.1, h.2.2.2.2.2.2.2.1.2.2.1, h.2.2.2.2.2.2.2.1.2.2.2.1, h.2.2.2.2.2.2.2.1.2.2.2.2.1, h.2.2.2.2.2.2.2.1.2.2.2.2.2.1, (fun m hm => by rw [pz_lalo (fun q => by omega) (by decide)]; exact h.2.2.2.2.2.2.2.1.2.2.2.2.2.2.1 m hm), (fun m g hm hg => by rw [pz_lalo (fun q => by omega) (by decide)] at hg; rw [pz_lao (fun q => by omega)]; exact h.2.2.2.2.2.2.2.1.2.2.2.2.2.2.2.1 m g hm hg), h.2.2.2.2.2.2.2.1.2.2.2.2.2.2.2.2⟩,
    h.2.2.2.2.2.2.2.2.1,
    h.2.2.2.2.2.2.2.2.2.1,
    h.2.2.2.2.2.2.2.2.2.2.1,
    h.2.2.2.2.2.2.2.2.2.2.2.1,
    h.2.2.2.2.2.2.2.2.2.2.2.2.1,
    by
      refine ⟨pz_nvl.la h.2.2.2.2.2.2.2.2.2.2.2.2.2.1 (by decide), ?_, ?_⟩
      · have := h.2.2.2.2.2.2.2.2.2.2.2.2.2.2.1
        have := (pz_lau (w := w) (f := 24) (i := i) (x := v)).2
        omega
      · have := h.2.2.2.2.2.2.2.2.2.2.2.2.2.2.2
        have := (pz_lavv (w := w) (f := 24) (i := i) (x := v)) hl
        omega⟩
end PZTN
