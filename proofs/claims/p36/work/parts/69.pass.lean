/-! pass -/
section PZPA
variable {sc : pz_S} {sq : pz_Q} {pa : pz_P} {ri : pz_N} {mp : pz_N} {ca : pz_P} {dr : pz_N} {pe : pz_Q} {U V : Nat} {w0 w w1 w2 : pw_W} {K : pw_W → Int32 → Prop} {X : pw_W → Nat → Prop} {x y z t : Int32} {i s r j n p q a b k k' m d T : Nat} {c : Nat} {e v v' : Int32}
noncomputable def pz_yD (sc : pz_S) : Prop := pz_in (sc 1 - sc 1 / 360 * 360) 120 239
noncomputable def pz_dB (sc : pz_S) (sq : pz_Q) (dr : pz_N) : pz_S := @ite pz_S (pz_yD (pz_u1 sc 1 (sc 1 + 1))) (Classical.propDecidable _) (pz_u1 (pz_u1 sc 1 (sc 1 + 1)) 5 ((pz_u1 sc 1 (sc 1 + 1)) 5 + pz_ds (pz_dq sq dr dr.1) 100)) (pz_u1 sc 1 (sc 1 + 1))
noncomputable def pz_dBq (sc : pz_S) (sq : pz_Q) (dr : pz_N) : pz_Q := @ite pz_Q (pz_yD (pz_u1 sc 1 (sc 1 + 1))) (Classical.propDecidable _) (pz_dy (pz_dq sq dr dr.1) 100) (pz_dq sq dr dr.1)
def pz_yY (sc : pz_S) : Prop := sc 1 - sc 1 / 360 * 360 = 0
noncomputable def pz_dCq (sc : pz_S) (sq : pz_Q) (pa : pz_P) (dr : pz_N) : pz_Q := pz_tr (pz_dBq sc sq dr) pa pa.1
noncomputable def pz_dD (sc : pz_S) (sq : pz_Q) (pa : pz_P) (dr : pz_N) : pz_Q := @ite pz_Q (pz_yY (pz_dB sc sq dr)) (Classical.propDecidable _) (pz_gr (pz_dB sc sq dr) (pz_dCq sc sq pa dr) 100) (pz_dCq sc sq pa dr)
noncomputable def pz_dE (sc : pz_S) (sq : pz_Q) (pa : pz_P) (dr : pz_N) (pe : pz_Q) : pz_Q := @ite pz_Q (pz_yY (pz_dB sc sq dr)) (Classical.propDecidable _) (pz_py (pz_dB sc sq dr) (pz_gr (pz_dB sc sq dr) (pz_dCq sc sq pa dr) 100) pa pe 100) pe
noncomputable def pz_ps (sc : pz_S) (sq : pz_Q) (pa : pz_P) (dr : pz_N) (pe : pz_Q) (n : Nat) : pz_S × pz_Q × pz_Q := Nat.rec (sc, sq, pe) (fun _ a => (pz_dB a.1 a.2.1 dr, pz_dD a.1 a.2.1 pa dr, pz_dE a.1 a.2.1 pa dr a.2.2)) n
theorem pz_dB1 : pz_dB sc sq dr 1 = sc 1 + 1 := by
  unfold pz_dB; split <;> rfl
theorem pz_dB0 : pz_dB sc sq dr 0 = sc 0 := by
  unfold pz_dB; split <;> rfl
theorem pz_ps0 : ∀ {n : Nat}, (pz_ps sc sq pa dr pe n).1 0 = sc 0
  | 0 => rfl
  | n + 1 => pz_dB0.trans (pz_ps0 (n := n))
theorem pz_ps1 (e : sc 1 = nI T) : ∀ {n : Nat}, (pz_ps sc sq pa dr pe n).1 1 = nI (T + n)
  | 0 => e
  | n + 1 => by
    have ih := pz_ps1 e (n := n)
    show pz_dB (pz_ps sc sq pa dr pe n).1 _ dr 1 = _
    rw [pz_dB1, ih, pz_s1]; rfl
/-- squares: what a day leaves as it was -/
theorem pz_dCk (hk : ¬ k = 6) (hk7 : ¬ k = 7) : (pz_dCq sc sq pa dr).1 k s = sq.1 k s := by
  unfold pz_dCq
  rw [pz_trk hk]
  unfold pz_dBq
  by_cases q : pz_yD (pz_u1 sc 1 (sc 1 + 1))
  · rw [if_pos q, show (pz_dy (pz_dq sq dr dr.1) 100).1 k s = (pz_dq sq dr dr.1).1 k s from if_neg hk7, pz_dqk hk7]
  · rw [if_neg q, pz_dqk hk7]
theorem pz_dDk (hk : ¬ k = 6) (hk7 : ¬ k = 7) : (pz_dD sc sq pa dr).1 k s = sq.1 k s := by
  unfold pz_dD
  by_cases q : pz_yY (pz_dB sc sq dr)
  · rw [if_pos q, show (pz_gr (pz_dB sc sq dr) (pz_dCq sc sq pa dr) 100).1 k s = (pz_dCq sc sq pa dr).1 k s from if_neg hk, pz_dCk hk hk7]
  · rw [if_neg q, pz_dCk hk hk7]
theorem pz_dBw (h : pz_iw sq) (hd : pz_id dr) : pz_iw (pz_dBq sc sq dr) := by
  unfold pz_dBq
  have h1 := pz_dqw h hd (Nat.le_refl dr.1)
  by_cases q : pz_yD (pz_u1 sc 1 (sc 1 + 1))
  · rw [if_pos q]; exact pz_dyw h1
  · rw [if_neg q]; exact h1
/-- bounds of peat -/
def pz_ik (sq : pz_Q) : Prop := ∀ s, s < 100 → 0 ≤ sq.1 6 s ∧ sq.1 6 s ≤ 200
theorem pz_eak (h : pz_ik sq) : pz_ik (pz_ea sq x n) := fun s hs => by
  have hh := h s hs
  rw [pz_ea6]
  by_cases q : s < n ∧ pz_eD sq x s ∧ ¬ pz_ex (pz_eD sq x) s
  · rw [pz_it q]
    have := q.2.1.2
    exact pz_dec hh.1 hh.2 (by decide) (by rw [Int32.le_iff_toInt_le, show (0 : Int32).toInt = 0 from rfl] at this; rw [Int32.le_iff_toInt_le, show (1 : Int32).toInt = 1 from rfl]; omega)
  · rw [pz_if' q]; exact hh
theorem pz_trk6 (h : pz_ik sq) : ∀ {n : Nat}, pz_ik (pz_tr sq pa n)
  | 0 => h
  | n + 1 => by
    have ih := pz_trk6 h (n := n)
    by_cases q : pz_cr pa sq n
    · rw [pz_trT q]; exact pz_eak ih
    · rw [pz_trF q]; exact ih
theorem pz_dBk (h : pz_ik sq) : pz_ik (pz_dBq sc sq dr) := fun s hs => by
  have e : (pz_dBq sc sq dr).1 6 s = sq.1 6 s := by
    unfold pz_dBq
    by_cases q : pz_yD (pz_u1 sc 1 (sc 1 + 1))
    · rw [if_pos q, show (pz_dy (pz_dq sq dr dr.1) 100).1 6 s = (pz_dq sq dr dr.1).1 6 s from rfl, pz_dqk (by decide)]
    · rw [if_neg q, pz_dqk (by decide)]
  rw [e]; exact h s hs
theorem pz_grk (h : pz_ik sq) : pz_ik (pz_gr sc sq 100) := fun s hs => by
  have hh := h s hs
  show 0 ≤ (if 6 = 6 then (if s < 100 then sq.1 6 s + pz_b (pz_gD sc sq s) else sq.1 6 s) else sq.1 6 s) ∧ (if 6 = 6 then (if s < 100 then sq.1 6 s + pz_b (pz_gD sc sq s) else sq.1 6 s) else sq.1 6 s) ≤ 200
  rw [if_pos rfl, if_pos hs]
  by_cases q : pz_gD sc sq s
  · rw [pz_bt q]
    have := q.2.2
    rw [Int32.le_iff_toInt_le, show (200 : Int32).toInt = 200 from rfl] at this
    rw [Int32.le_iff_toInt_le, Int32.le_iff_toInt_le, show (0 : Int32).toInt = 0 from rfl, show (200 : Int32).toInt = 200 from rfl] at hh
    rw [Int32.le_iff_toInt_le, Int32.le_iff_toInt_le, show (0 : Int32).toInt = 0 from rfl, show (200 : Int32).toInt = 200 from rfl, Int32.toInt_add, show (1 : Int32).toInt = 1 from rfl, Int.bmod_eq_of_le (by omega) (by omega)]
    omega
  · rw [pz_bf q, Int32.add_zero]; exact hh
theorem pz_iqday (h : pz_iq sc sq) (hd : pz_id dr) (hT : sc 1 + 1 ≤ 20000) : pz_jb (pz_dB sc sq dr) (pz_dCq sc sq pa dr) ∧ pz_ik (pz_dCq sc sq pa dr) ∧ pz_iq (pz_dB sc sq dr) (pz_dD sc sq pa dr) := by
  have h1 : 0 ≤ sc 1 + 1 ∧ sc 1 ≤ sc 1 + 1 := by
    have := h.1.1
    rw [Int32.le_iff_toInt_le, Int32.le_iff_toInt_le, show (0 : Int32).toInt = 0 from rfl, show (20000 : Int32).toInt = 20000 from rfl] at this
    rw [Int32.le_iff_toInt_le, Int32.le_iff_toInt_le, show (0 : Int32).toInt = 0 from rfl, Int32.toInt_add, show (1 : Int32).toInt = 1 from rfl, Int.bmod_eq_of_le (by omega) (by omega)]
    omega
  have jb : ∀ sq' : pz_Q, (∀ s, s < 100 → sq'.1 9 s = sq.1 9 s) → pz_jb (pz_dB sc sq dr) sq' := fun sq' e => by
    unfold pz_jb
    rw [pz_dB1]
    refine ⟨⟨h1.1, hT⟩, fun s hs => ?_⟩
    rw [e s hs]
    rcases h.1.2 s hs with a | ⟨a, b⟩
    · exact Or.inl a
    · exact Or.inr ⟨a, Int32.le_trans b h1.2⟩
  have kk : pz_ik (pz_dCq sc sq pa dr) := pz_trk6 (pz_dBk h.2.2.1)
  refine ⟨jb _ (fun s _ => pz_dCk (by decide) (by decide)), kk, jb _ (fun s _ => pz_dDk (by decide) (by decide)), fun s hs => ?_, ?_, fun s hs => by rw [pz_dDk (by decide) (by decide)]; exact h.2.2.2 s hs⟩
  · have e : (pz_dD sc sq pa dr).1 7 s = (pz_dBq sc sq dr).1 7 s := by
      unfold pz_dD
      by_cases q : pz_yY (pz_dB sc sq dr)
      · rw [if_pos q, show (pz_gr (pz_dB sc sq dr) (pz_dCq sc sq pa dr) 100).1 7 s = (pz_dCq sc sq pa dr).1 7 s from rfl]
        unfold pz_dCq; rw [pz_trk (by decide)]
      · rw [if_neg q]
        unfold pz_dCq; rw [pz_trk (by decide)]
    rw [e]
    exact pz_dBw h.2.1 hd s hs
  · unfold pz_dD
    by_cases q : pz_yY (pz_dB sc sq dr)
    · rw [if_pos q]; exact pz_grk kk
    · rw [if_neg q]; exact kk
theorem pz_inYD : pz_yD sc = (¬ (sc 1 - sc 1 / 360 * 360) < 120 ∧ ¬ 240 ≤ (sc 1 - sc 1 / 360 * 360)) := by
  unfold pz_yD pz_in
  rw [Int32.lt_iff_toInt_lt, Int32.lt_iff_toInt_lt, Int32.le_iff_toInt_le, show (239 : Int32).toInt = 239 from rfl, show (240 : Int32).toInt = 240 from rfl]
  exact propext ⟨fun h => ⟨h.1, by have := h.2; omega⟩, fun h => ⟨h.1, by have := h.2; omega⟩⟩
theorem cu_day (h : pz_c sc sq pa ri mp ca dr pe U V w0 w) (hq : pz_iq sc sq) (hT : sc 1 + 1 ≤ 20000) (hd : pz_id dr) (h8 : pz_j8 sq pa) (hp : pa.1 ≤ 40) (ho : pz_jo pa) (k : ∀ w1, pz_c (pz_dB sc sq dr) (pz_dD sc sq pa dr) pa ri mp ca dr (pz_dE sc sq pa dr pe) U V w0 w1 → K w1 0) : wp_X_passOneDay w K X := by
  unfold wp_X_passOneDay jp_X_passOneDay_40
  obtain ⟨jb, kk, -⟩ := pz_iqday (pa := pa) hq hd hT
  have hc8 : pz_j8 (pz_dCq sc sq pa dr) pa := fun s hs => by rw [pz_dCk (by decide) (by decide)]; exact h8 s hs
  intro w8 e8 v10 e10
  have e7 : w.1 7 0 7 = sc 1 := (pz_csc.of h).2.2.2.2.2.2.2.1
  rw [e7] at e8
  have h1 := cs71 h (v := sc 1 + 1)
  rw [← e8] at h1
  have e78 : w8.1 7 0 7 = sc 1 + 1 := (pz_csc.of h1).2.2.2.2.2.2.2.1
  rw [e78] at e10
  have fin : ∀ w4, pz_c (pz_dB sc sq dr) (pz_dBq sc sq dr) pa ri mp ca dr pe U V w0 w4 → wp_X_treadCrowdedParcels w4 (fun w1 r2 => (¬ v10 = 0 → K w1 0) ∧ (v10 = 0 → wp_X_growPeat w1 (fun w4 r5 => wp_X_payPersons w4 (fun w6 r7 => K w6 0) (fun _ _ => False)) (fun _ _ => False))) (fun _ _ => False) := by
    intro w4 h4
    refine cu_treads h4 hp fun w5 h5 => ?_
    have ey : (v10 = 0) = pz_yY (pz_dB sc sq dr) := by unfold pz_yY; rw [pz_dB1, e10]
    rw [ey]
    unfold pz_dD pz_dE at k
    refine ⟨fun q => ?_, fun q => ?_⟩
    · rw [if_neg q, if_neg q] at k; exact k _ h5
    · rw [if_pos q, if_pos q] at k
      refine cu_grow h5 jb kk fun w6 h6 => ?_
      exact cu_pay h6 jb hc8 ho k
  refine cu_runDrains h1 hd fun w3 h3 => ?_
  have eD : pz_yD (pz_u1 sc 1 (sc 1 + 1)) = (¬ v10 < 120 ∧ ¬ 240 ≤ v10) := by rw [pz_inYD, e10]; rfl
  unfold pz_dB pz_dBq at fin
  refine ⟨fun q => ?_, fun q => ⟨fun q2 => ?_, fun q2 => ?_⟩⟩
  · rw [if_neg (by rw [eD]; exact fun z => z.1 q), if_neg (by rw [eD]; exact fun z => z.1 q)] at fin
    exact fin _ h3
  · rw [if_neg (by rw [eD]; exact fun z => z.2 q2), if_neg (by rw [eD]; exact fun z => z.2 q2)] at fin
    exact fin _ h3
  · rw [if_pos (by rw [eD]; exact ⟨q, q2⟩), if_pos (by rw [eD]; exact ⟨q, q2⟩)] at fin
    exact cu_drySquares h3 (pz_dqw hq.2.1 hd (Nat.le_refl _)) fin
end PZPA
