/-! what the class tells, where it may be asked; the law's own arrays -/
section PRD
variable {sc : pz_S} {sq : pz_Q} {pa : pz_P} {ri mp : pz_N} {ca : pz_P} {dr : pz_N} {pe : pz_Q} {U V : Nat} {w0 w w1 w2 : pw_W} {K : pw_W → Int32 → Prop} {X : pw_W → Nat → Prop} {x y z v : Int32} {i k len n : Nat}
theorem rd_parcelOf (h : pz_c sc sq pa ri mp ca dr pe U V w0 w) (I : pz_I sc sq pa ri mp ca dr pe) (hU : U ≤ 190000) (hV : V ≤ 3900000) (c1 : pw_jn x 100) (k : ∀ w1, pz_c sc sq pa ri mp ca dr pe U V w0 w1 → K w1 (sq.1 8 (pw_i x))) : wp_X_parcelOf w x K X :=
  cp_parcelOf h I hU hV (fun _ w1 h1 => k w1 h1) (fun c => absurd c1 c)
theorem rd_chain (h : pz_c sc sq pa ri mp ca dr pe U V w0 w) (I : pz_I sc sq pa ri mp ca dr pe) (hU : U ≤ 190000) (hV : V ≤ 3900000) (c1 : pw_jn x 100 ∧ 0 ≤ y) (k : ∀ w1, pz_c sc sq pa ri mp ca dr pe U V w0 w1 → K w1 (pz_chv sq x y)) : wp_X_chain w x y K X :=
  cp_chain h I hU hV (fun _ w1 h1 => k w1 h1) (fun c => absurd c1 c)
theorem rd_area (h : pz_c sc sq pa ri mp ca dr pe U V w0 w) (I : pz_I sc sq pa ri mp ca dr pe) (hU : U ≤ 190000) (hV : V ≤ 3900000) (c1 : pw_jn x pa.1) (k : ∀ w1, pz_c sc sq pa ri mp ca dr pe U V w0 w1 → K w1 (pz_ct (fun s => sq.1 8 s = pz_ro pa x) 100)) : wp_X_area w x K X :=
  cp_area h I hU hV (fun _ w1 h1 => k w1 h1) (fun c => absurd c1 c)
theorem rd_owner (h : pz_c sc sq pa ri mp ca dr pe U V w0 w) (I : pz_I sc sq pa ri mp ca dr pe) (hU : U ≤ 190000) (hV : V ≤ 3900000) (c1 : pw_jn x pa.1) (k : ∀ w1, pz_c sc sq pa ri mp ca dr pe U V w0 w1 → K w1 (pa.2.1 16 (pw_i (pz_ro pa x)))) : wp_X_owner w x K X :=
  cp_owner h I hU hV (fun _ w1 h1 => k w1 h1) (fun c => absurd c1 c)
theorem rd_disputed (h : pz_c sc sq pa ri mp ca dr pe U V w0 w) (I : pz_I sc sq pa ri mp ca dr pe) (hU : U ≤ 190000) (hV : V ≤ 3900000) (c1 : pw_jn x 100) (k : ∀ w1, pz_c sc sq pa ri mp ca dr pe U V w0 w1 → K w1 (pz_ct (fun q => pz_ex (pz_mp mp (nI q) x) mp.1) 12)) : wp_X_disputed w x K X :=
  cp_disputed h I hU hV (fun _ w1 h1 => k w1 h1) (fun c => absurd c1 c)
theorem rd_caseAt (h : pz_c sc sq pa ri mp ca dr pe U V w0 w) (I : pz_I sc sq pa ri mp ca dr pe) (hU : U ≤ 190000) (hV : V ≤ 3900000) (c1 : pw_jn x ca.1 ∧ pz_in y 0 3) (k : ∀ w1, pz_c sc sq pa ri mp ca dr pe U V w0 w1 → K w1 (pz_cav sq ca (pw_i x) y)) : wp_X_caseAt w x y K X :=
  cp_caseAt h I hU hV (fun _ w1 h1 => k w1 h1) (fun c => absurd c1 c)
theorem rd_rightAt (h : pz_c sc sq pa ri mp ca dr pe U V w0 w) (I : pz_I sc sq pa ri mp ca dr pe) (hU : U ≤ 190000) (hV : V ≤ 3900000) (c1 : pw_jn x ri.1 ∧ pz_in y 0 4) (k : ∀ w1, pz_c sc sq pa ri mp ca dr pe U V w0 w1 → K w1 (pz_rav sq ri (pw_i x) y)) : wp_X_rightAt w x y K X :=
  cp_rightAt h I hU hV (fun _ w1 h1 => k w1 h1) (fun c => absurd c1 c)
theorem rd_square (h : pz_c sc sq pa ri mp ca dr pe U V w0 w) (I : pz_I sc sq pa ri mp ca dr pe) (hU : U ≤ 190000) (hV : V ≤ 3900000) (c1 : pw_jn x 100 ∧ pz_in y 0 3) (k : ∀ w1, pz_c sc sq pa ri mp ca dr pe U V w0 w1 → K w1 (pz_sqv sc sq (pw_i x) y)) : wp_X_square w x y K X :=
  cp_square h I hU hV (fun _ w1 h1 => k w1 h1) (fun c => absurd c1 c)
theorem rd_water (h : pz_c sc sq pa ri mp ca dr pe U V w0 w) (I : pz_I sc sq pa ri mp ca dr pe) (hU : U ≤ 190000) (hV : V ≤ 3900000) (c1 : pz_in x 0 3) (k : ∀ w1, pz_c sc sq pa ri mp ca dr pe U V w0 w1 → K w1 (pz_wav sc sq x)) : wp_X_water w x K X :=
  cp_water h I hU hV (fun _ w1 h1 => k w1 h1) (fun c => absurd c1 c)
theorem rd_paid (h : pz_c sc sq pa ri mp ca dr pe U V w0 w) (I : pz_I sc sq pa ri mp ca dr pe) (hU : U ≤ 190000) (hV : V ≤ 3900000) (c1 : pw_jn x 12) (k : ∀ w1, pz_c sc sq pa ri mp ca dr pe U V w0 w1 → K w1 (pe.1 45 (pw_i x))) : wp_X_paid w x K X :=
  cp_paid h I hU hV (fun _ w1 h1 => k w1 h1) (fun c => absurd c1 c)
theorem rd_sheep (h : pz_c sc sq pa ri mp ca dr pe U V w0 w) (I : pz_I sc sq pa ri mp ca dr pe) (hU : U ≤ 190000) (hV : V ≤ 3900000) (c1 : pw_jn x 12 ∧ pw_jn y pa.1) (k : ∀ w1, pz_c sc sq pa ri mp ca dr pe U V w0 w1 → K w1 (pa.2.2 (pw_i (pz_ro pa y)) (pw_i x))) : wp_X_sheep w x y K X :=
  cp_sheep h I hU hV (fun _ w1 h1 => k w1 h1) (fun c => absurd c1 c)
theorem rd_wind (h : pz_c sc sq pa ri mp ca dr pe U V w0 w) (I : pz_I sc sq pa ri mp ca dr pe) (hU : U ≤ 190000) (hV : V ≤ 3900000) (c1 : pz_in x 0 9) (k : ∀ w1, pz_c (pz_u1 sc 2 x) sq pa ri mp ca dr pe U V w0 w1 → K w1 (sc 2)) : wp_X_wind w x K X :=
  cp_wind h I hU hV (fun _ w1 h1 => k w1 h1) (fun c => absurd c1 c)
theorem rd_rain (h : pz_c sc sq pa ri mp ca dr pe U V w0 w) (I : pz_I sc sq pa ri mp ca dr pe) (hU : U ≤ 190000) (hV : V ≤ 3900000) (c1 : pz_in x 1 60) (k : ∀ w1, pz_c (pz_u1 (pz_u1 sc 3 (sc 3 + 100 * x)) 4 (sc 4 + pz_ro' sq x 100)) (pz_wr' sq x 100) pa ri mp ca dr pe U V w0 w1 → K w1 (pz_ro' sq x 100)) : wp_X_rain w x K X :=
  cp_rain h I hU hV (fun _ w1 h1 => k w1 h1) (fun c => absurd c1 c)
theorem rd_parcels (h : pz_c sc sq pa ri mp ca dr pe U V w0 w) (k : ∀ w1, pz_c sc sq pa ri mp ca dr pe U V w0 w1 → K w1 (nI pa.1)) : wp_X_parcels w K X := by
  unfold wp_X_parcels
  have e1 : w.1 7 0 2 = 0 := (pz_csc.of h).2.2.1
  have e2 : pw_ln w 23 0 = pa.1 := (pz_cpa.of h).1
  have k1 := k w h
  rw [← e2] at k1
  exact ⟨e1, k1⟩
theorem rd_today (h : pz_c sc sq pa ri mp ca dr pe U V w0 w) (k : ∀ w1, pz_c sc sq pa ri mp ca dr pe U V w0 w1 → K w1 (sc 1)) : wp_X_today w K X := by
  unfold wp_X_today
  have e1 : w.1 7 0 7 = sc 1 := (pz_csc.of h).2.2.2.2.2.2.2.1
  have k1 := k w h
  rw [← e1] at k1
  exact k1
theorem pz_c.re (h : pz_c sc sq pa ri mp ca dr pe U V w0 w) : pz_c sc sq pa ri mp ca dr pe U V w w := ⟨fun _ _ => ⟨rfl, rfl⟩, h.2⟩
theorem pz_c.st (h : pz_c sc sq pa ri mp ca dr pe U V w0 w) : pz_c sc sq pa ri mp ca dr pe U V (pw_ps w 200 i k v) (pw_ps w 200 i k v) :=
  pz_c.shift h (fun f h1 _ => funext fun b => funext fun c => if_neg fun q => absurd q.1 (by omega)) rfl
set_option maxHeartbeats 4000000 in
theorem pz_c.nw (h : pz_c sc sq pa ri mp ca dr pe U V w0 w) : pz_c sc sq pa ri mp ca dr pe (U + 1) (V + n) (pw_nw w 200 len n) (pw_nw w 200 len n) := by
  have e : ∀ f, f < 200 → (pw_nw w 200 len n).1 f = w.1 f := fun f hf => funext fun _ => funext fun _ => pz_nwf (by omega)
  have l : ∀ f, f < 200 → (pw_nw w 200 len n).2.1 f = w.2.1 f := fun f hf => funext fun b => by
    show (if f = 1000 then _ else if f = 200 ∧ b = w.2.1 1000 200 then len else w.2.1 f b) = w.2.1 f b
    rw [if_neg (by omega), if_neg (by omega)]
  have nn : ∀ f, f < 200 → (pw_nw w 200 len n).2.1 1000 f = w.2.1 1000 f := fun f hf => by
    show pw_nv (pw_nw w 200 len n) f = pw_nv w f
    rw [pz_nwv, if_neg (by omega)]
  have hnv : pz_nvl (pw_nw w 200 len n) := pz_nvl.nw (pz_knv h)
  have hu := pz_kru h
  have hv := pz_krv h
  have h1 : pz_csc sc w ∧ pz_csq sq w ∧ pz_cgv sq w ∧ pz_cch sq w ∧ pz_cpa pa w ∧ pz_car pa sq w ∧ pz_cpe pe w ∧ pz_cri ri w ∧ pz_cmp mp w ∧ pz_cca ca w ∧ pz_cst ca sq w ∧ pz_cdr dr w := ⟨pz_csc.of h, pz_csq.of h, pz_cgv.of h, pz_cch.of h, pz_cpa.of h, pz_car.of h, pz_cpe.of h, pz_cri.of h, pz_cmp.of h, pz_cca.of h, pz_cst.of h, pz_cdr.of h⟩
  have h2 : pz_csc sc (pw_nw w 200 len n) ∧ pz_csq sq (pw_nw w 200 len n) ∧ pz_cgv sq (pw_nw w 200 len n) ∧ pz_cch sq (pw_nw w 200 len n) ∧ pz_cpa pa (pw_nw w 200 len n) ∧ pz_car pa sq (pw_nw w 200 len n) ∧ pz_cpe pe (pw_nw w 200 len n) ∧ pz_cri ri (pw_nw w 200 len n) ∧ pz_cmp mp (pw_nw w 200 len n) ∧ pz_cca ca (pw_nw w 200 len n) ∧ pz_cst ca sq (pw_nw w 200 len n) ∧ pz_cdr dr (pw_nw w 200 len n) := by
    generalize pw_nw w 200 len n = w9 at e l nn ⊢
    clear hnv hu hv h
    unfold pz_csc pz_csq pz_cgv pz_cch pz_cpa pz_car pz_cpe pz_cri pz_cmp pz_cca pz_cst pz_cdr pz_gv pw_ln pw_nv at *
    simp only [e 7 (by omega), e 6 (by omega), e 14 (by omega), e 20 (by omega), e 10 (by omega), e 3 (by omega), e 11 (by omega), e 23 (by omega), e 4 (by omega), e 15 (by omega), e 24 (by omega), e 5 (by omega), e 25 (by omega), e 2 (by omega), e 22 (by omega), e 0 (by omega), e 12 (by omega), e 1 (by omega), e 21 (by omega), l 14 (by omega), l 10 (by omega), l 23 (by omega), l 11 (by omega), l 15 (by omega), l 24 (by omega), l 25 (by omega), l 22 (by omega), l 20 (by omega), l 12 (by omega), l 21 (by omega), l 13 (by omega), nn 10 (by omega), nn 3 (by omega), nn 11 (by omega), nn 24 (by omega), nn 5 (by omega), nn 2 (by omega), nn 12 (by omega), nn 0 (by omega), nn 1 (by omega)]
    exact h1
  obtain ⟨b1, b2, b3, b4, b5, b6, b7, b8, b9, b10, b11, b12⟩ := h2
  refine ⟨fun _ _ => ⟨rfl, rfl⟩, b1, b2, b3, b4, b5, b6, b7, b8, b9, b10, b11, b12, hnv, ?_, ?_⟩
  · show w.2.2.1 + 1 ≤ _
    omega
  · show w.2.2.2 + n ≤ _
    omega
theorem pz_c.rm (h : pz_c sc sq pa ri mp ca dr pe U V w0 w) (I : pz_I sc sq pa ri mp ca dr pe) (hU : U ≤ 190000) (hV : V ≤ 3900000) : pw_rm w 200 (pw_i 40) := by
  have hu := pz_kru h
  have hv := pz_krv h
  have hn := pz_knv h 200
  have hL := pz_hL I
  have hr := I.gr.1
  have e40 : pw_i 40 = 40 := pz_i (n := 40) (by omega)
  rw [e40]
  exact ⟨by omega, by omega, by omega⟩
theorem pz_c.f1 (h : pz_c sc sq pa ri mp ca dr pe U V w0 w) : w.1 200 = w0.1 200 := (h.1 200 (Or.inr ⟨by omega, by omega⟩)).1
theorem pz_c.f2 (h : pz_c sc sq pa ri mp ca dr pe U V w0 w) : w.2.1 200 = w0.2.1 200 := (h.1 200 (Or.inr ⟨by omega, by omega⟩)).2
theorem rd_right (h : pz_c sc sq pa ri mp ca dr pe U V w0 w) (I : pz_I sc sq pa ri mp ca dr pe) (J : pj_d ri) (hU : U ≤ 190000) (hV : V ≤ 3900000) (k1 : pw_jn x ri.1 → ∀ w1, pz_c sc sq pa ri mp ca dr pe U V w0 w1 → K w1 1) (k0 : ¬ pw_jn x ri.1 → ∀ w1, pz_c sc sq pa ri mp ca dr pe (U + 1) (V + 6) w0 w1 → K w1 0) : wp_L_right w x K X := by
  unfold wp_L_right
  refine cp_rightAt h I hU hV (fun c w1 h1 => ?_) (fun c w1 h1 => ⟨rfl, k0 (fun z => c ⟨z, ⟨by decide, by decide⟩⟩) w1 h1⟩)
  have e : ¬ pz_rav sq ri (pw_i x) 0 < -1 := by
    unfold pz_rav
    by_cases q : ri.2 25 (pw_i x) = 0
    · rw [pz_it q, pz_it rfl]
      rcases (J _ c.1.2).1 with e | e | e <;> rw [e] <;> decide
    · rw [pz_if' q]; decide
  exact ⟨fun q => absurd q e, fun _ => k1 c.1 w1 h1⟩
end PRD
