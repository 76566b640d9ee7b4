/-! the law -/
section PZLAW
variable {w : pw_W} {X : pw_W → Nat → Prop} {i Ln : Nat} {xs : Nat → Int32}
theorem pz_R.next (h : pz_R i w) : pz_R (i + 1) w := by
  obtain ⟨sc, sq, pa, ri, mp, ca, dr, pe, I, hm, hc⟩ := h
  exact ⟨sc, sq, pa, ri, mp, ca, dr, pe, I, hm, hc.up (by omega) (by omega)⟩
theorem pz_lw5 : ∀ L, L < 5 → nI L - 5 < nI 0 := by decide
theorem wl_loop (hL : Ln ≤ 2560) (hR : pz_R 0 w) : ∃ k, lp_L_law_23 Ln xs (fun _ r => r = 1) X k 0 w := by
  refine pz_up (F := fun k s w => lp_L_law_23 Ln xs (fun _ r => r = 1) X k (nI (5 * s)) w) (I := fun s w => pz_R s w) (Ln / 5) (fun i w4 k5 hs hR ih => ?_) (fun w4 hR => ?_) hR
  · rw [lp_L_law_23_s]
    have hi : i < 512 := by omega
    have e5 : nI (5 * i) + 5 = nI (5 * (i + 1)) := (pz_add (5 * i) 5).trans (by rw [show 5 * i + 5 = 5 * (i + 1) by omega])
    have es : nI Ln - 5 = nI (Ln - 5) := pz_sub (b := 5) (by omega)
    have hn : ¬ nI Ln - 5 < nI (5 * i) := by rw [es, pz_lt (by omega) (by omega)]; omega
    have kk : ∀ w2, pz_R (i + 1) w2 → lp_L_law_23 Ln xs (fun _ r => r = 1) X k5 (nI (5 * i) + 5) w2 := fun w2 h2 => by rw [e5]; exact ih w2 h2
    have j0 : pw_jn (nI (5 * i)) Ln := pz_jn (by omega) (by omega)
    have j1 : pw_jn (nI (5 * i) + 1) Ln := by rw [show nI (5 * i) + 1 = nI (5 * i + 1) from pz_add (5 * i) 1]; exact pz_jn (by omega) (by omega)
    have j2 : pw_jn (nI (5 * i) + 2) Ln := by rw [show nI (5 * i) + 2 = nI (5 * i + 2) from pz_add (5 * i) 2]; exact pz_jn (by omega) (by omega)
    have j3 : pw_jn (nI (5 * i) + 3) Ln := by rw [show nI (5 * i) + 3 = nI (5 * i + 3) from pz_add (5 * i) 3]; exact pz_jn (by omega) (by omega)
    have j4 : pw_jn (nI (5 * i) + 4) Ln := by rw [show nI (5 * i) + 4 = nI (5 * i + 4) from pz_add (5 * i) 4]; exact pz_jn (by omega) (by omega)
    clear es e5
    refine ⟨fun q => absurd q hn, fun _ => ⟨j0, fun v39 _ => ⟨fun _ => kk _ (pz_R.next hR), fun _ => ?_, fun _ => ?_, fun _ => ?_, fun _ => ?_, fun _ => ?_, fun _ => ?_, fun _ => ?_, fun _ => ?_, fun _ => ?_, fun _ => ?_, fun _ => ?_, fun _ => ?_, fun _ => ?_, fun _ => ?_, fun _ => ?_, fun _ => ?_, fun _ => ?_, fun _ => ?_, fun _ => ?_, fun _ => ?_, fun _ => ?_, fun _ => ?_, fun _ => ?_, fun _ => ?_, fun _ => ?_, fun _ => ?_, fun _ => ?_, fun _ => ?_, fun _ => ?_, fun _ => ?_, fun _ => ?_, fun _ => ?_, fun _ => ?_⟩⟩⟩
    · simp only [j1, j2, j3, j4, true_and]
      exact br_grant hR hi kk
    · simp only [j1, j2, true_and]
      exact br_merge hR hi kk
    · simp only [j1, j2, j3, true_and]
      exact br_survey hR hi kk
    · simp only [j1, j2, j3, true_and]
      exact br_use hR hi kk
    · refine ⟨j1, j2, fun q => ?_, fun q => ?_⟩
      · unfold jp_L_law_525 jp_L_law_564
        simp only [j1, j2, j3, j4, q, true_and, not_true_eq_false, false_implies, and_true, true_implies]
        exact br_file hR hi kk
      · unfold jp_L_law_525 jp_L_law_564
        simp only [j1, j2, j3, j4, q, true_and, not_false_eq_true, false_implies, and_true, true_implies]
        exact br_file hR hi kk
    · refine ⟨j1, j2, fun q => ?_, fun q => ?_⟩
      · unfold jp_L_law_633 jp_L_law_666
        simp only [j1, j2, j3, j4, q, true_and, not_true_eq_false, false_implies, and_true, true_implies]
        exact br_evidence hR hi kk
      · unfold jp_L_law_633 jp_L_law_666
        simp only [j1, j2, j3, j4, q, true_and, not_false_eq_true, false_implies, and_true, true_implies]
        exact br_evidence hR hi kk
    · simp only [j1, true_and]
      exact br_decide hR hi kk
    · simp only [j1, true_and]
      exact br_appeal hR hi kk
    · simp only [j1, j2, j3, j4, true_and]
      exact br_register hR hi kk
    · simp only [j1, true_and]
      unfold jp_L_law_966
      exact br_release hR hi kk
    · simp only [j1, j2, j3, true_and]
      exact br_graze hR hi kk
    · simp only [j1, true_and]
      exact br_rain hR hi kk
    · simp only [j1, j2, true_and]
      exact br_dig hR hi kk
    · simp only [j1, true_and]
      exact br_fill hR hi kk
    · simp only [j1, j2, j3, true_and]
      exact br_cut hR hi kk
    · simp only [j1, true_and]
      exact br_wind hR hi kk
    · simp only [j1, j2, true_and]
      exact br_burn hR hi kk
    · simp only [j1, true_and]
      exact br_pass hR hi kk
    · simp only [j1, j2, true_and]
      exact br_name hR hi kk
    · simp only [j1, true_and]
      exact br_die hR hi kk
    · exact br_today hR kk
    · exact br_parcels hR kk
    · simp only [j1, true_and]
      exact br_parcelOf hR hi kk
    · simp only [j1, j2, true_and]
      exact br_chain hR hi kk
    · simp only [j1, true_and]
      exact br_area hR hi kk
    · simp only [j1, true_and]
      exact br_owner hR hi kk
    · simp only [j1, true_and]
      exact br_disputed hR hi kk
    · simp only [j1, j2, true_and]
      exact br_caseAt hR hi kk
    · simp only [j1, j2, true_and]
      exact br_rightAt hR hi kk
    · simp only [j1, j2, true_and]
      exact br_square hR hi kk
    · simp only [j1, true_and]
      exact br_water hR hi kk
    · simp only [j1, true_and]
      exact br_paid hR hi kk
    · simp only [j1, j2, true_and]
      exact br_sheep hR hi kk
  · rw [lp_L_law_23_s]
    have hn : nI Ln - 5 < nI (5 * (Ln / 5)) := by
      by_cases q : Ln < 5
      · rw [Nat.div_eq_of_lt q]; exact pz_lw5 Ln q
      · rw [show nI Ln - 5 = nI (Ln - 5) from pz_sub (b := 5) (by omega), pz_lt (by omega) (by omega)]; omega
    exact ⟨fun _ => rfl, fun q => absurd hn q⟩
end PZLAW
