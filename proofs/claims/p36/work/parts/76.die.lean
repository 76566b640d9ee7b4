/-! die -/
section PZDX
variable {sc : pz_S} {sq : pz_Q} {pa : pz_P} {ri : pz_N} {mp : pz_N} {ca : pz_P} {dr : pz_N} {pe : pz_Q} {U V : Nat} {w0 w w1 w2 : pw_W} {K : pw_W → Int32 → Prop} {X : pw_W → Nat → Prop} {x y z t : Int32} {i s r j n p q k k' m c d xi f f0 : Nat} {B P : Nat → Prop} {H v : Nat → Int32} {L : List Nat}
def pz_xpe (pe : pz_Q) (x : Int32) : pz_Q := (pz_u pe.1 42 (pw_i x) 1, pe.2)
noncomputable def pz_xL (pe : pz_Q) (x : Int32) : List Nat := pz_lv (pz_al (pz_xpe pe x) (pw_i x)) (pw_i (pe.1 44 (pw_i x)))
noncomputable def pz_xpa (pa : pz_P) (pe : pz_Q) (x : Int32) : pz_P := pz_es (pz_hd pa x (pz_xL pe x) (pe.2 (pw_i x)) pa.1) (pw_i x) pa.1
noncomputable def pz_xrc (sq : pz_Q) (pa ca : pz_P) (pe : pz_Q) (x : Int32) : pz_Q × pz_P := pz_rc (pz_xpa pa pe x) (pz_eu sq x 100) ca x ca.1
theorem pz_xpa17 : (pz_xpa pa pe x).2.1 17 j = pa.2.1 17 j := pz_hdo (by decide)
theorem pz_xpa46 : (pz_xpa pa pe x).2.1 46 j = pa.2.1 46 j := pz_hdo (by decide)
theorem pz_xip (h : pz_ip pa) (hh : ∀ k, k < pw_i (pe.1 44 (pw_i x)) → pw_jn (pe.2 (pw_i x) k) 12) : pz_ip (pz_xpa pa pe x) := by
  refine ⟨h.1, ⟨fun j hj => ?_, ?_⟩, fun j hj => ?_, fun j q hj hq => ?_⟩
  · rw [pz_xpa17, pz_xpa46, pz_xpa46]; exact h.2.1.1 j hj
  · obtain ⟨d, hd⟩ := h.2.1.2
    exact ⟨d, fun j hj => by rw [pz_xpa17]; exact hd j hj⟩
  · have hj : j < pa.1 := hj
    show pz_ite _ _ _ = -1 ∨ pw_jn (pz_ite _ _ _) 12
    by_cases q : (16 : Nat) = 16 ∧ j < pa.1 ∧ pz_own pa x j
    · rw [pz_it q]
      unfold pz_pck
      by_cases q2 : (pz_xL pe x).length = 0
      · rw [if_pos q2]; exact Or.inl rfl
      · rw [if_neg q2]
        exact Or.inr (hh _ (pz_lvm (Nat.mod_lt _ (by omega))))
    · rw [pz_if' q]; exact h.2.2.1 j hj
  · have hj : pa.1 ≤ j := hj
    show pz_ite _ _ _ = 0
    rw [pz_if' (fun z => by have := z.2; omega)]
    exact h.2.2.2 j q hj hq
theorem pz_xil (h : pz_il sq pa ca) : pz_il (pz_eu sq x 100) (pz_xpa pa pe x) ca := by
  have e : ∀ f s, ¬ f = 10 → (pz_eu sq x 100).1 f s = sq.1 f s := fun f s hf => pz_cfo (F := sq.1) (f0 := 10) (P := fun s => sq.1 10 s = x) (v := fun _ => -1) (n := 100) hf
  have eg : pz_mg (pz_xpa pa pe x) = pz_mg pa := pz_cn_congr fun j _ => by rw [pz_xpa17]
  refine ⟨fun s hs => ?_, fun s hs => ?_, fun s hs => ?_, fun s hs => ?_⟩
  · rw [e 8 s (by decide)]; exact h.1 s hs
  · rw [e 12 s (by decide)]; exact h.2.1 s hs
  · rw [e 12 s (by decide), e 13 s (by decide)]; exact h.2.2.1 s hs
  · rw [e 12 s (by decide), e 14 s (by decide), eg]; exact h.2.2.2 s hs
theorem pz_xiq (h : pz_iq sc sq) : pz_iq sc (pz_eu sq x 100) := by
  have e : ∀ f s, ¬ f = 10 → (pz_eu sq x 100).1 f s = sq.1 f s := fun f s hf => pz_cfo (F := sq.1) (f0 := 10) (P := fun s => sq.1 10 s = x) (v := fun _ => -1) (n := 100) hf
  refine ⟨⟨h.1.1, fun s hs => ?_⟩, fun s hs => ?_, fun s hs => ?_, fun s hs => ?_⟩
  · rw [e 9 s (by decide)]; exact h.1.2 s hs
  · rw [e 7 s (by decide)]; exact h.2.1 s hs
  · rw [e 6 s (by decide)]; exact h.2.2.1 s hs
  · show pz_ite _ _ _ = -1 ∨ pw_jn (pz_ite _ _ _) 12
    by_cases q : (10 : Nat) = 10 ∧ s < 100 ∧ sq.1 10 s = x
    · rw [pz_it q]; exact Or.inl rfl
    · rw [pz_if' q]; exact h.2.2.2 s hs
theorem pz_xir (h : pz_ir ri pa) : pz_ir (pz_er ri x ri.1) (pz_xpa pa pe x) := by
  have e : ∀ f s, ¬ f = 25 → (pz_er ri x ri.1).2 f s = ri.2 f s := fun f s hf => pz_cfo (F := ri.2) (f0 := 25) (P := fun r => ri.2 22 r = x) (v := fun _ => 1) (n := ri.1) hf
  have e25 : ∀ r, (pz_er ri x ri.1).2 25 r = 0 → ri.2 25 r = 0 := fun r hr => by
    have hr : pz_ite (25 = 25 ∧ r < ri.1 ∧ ri.2 22 r = x) 1 (ri.2 25 r) = 0 := hr
    by_cases q : (25 : Nat) = 25 ∧ r < ri.1 ∧ ri.2 22 r = x
    · rw [pz_it q] at hr; exact absurd hr (by decide)
    · rw [pz_if' q] at hr; exact hr
  refine ⟨h.1, fun r hr => ?_, fun r r' hr hr' a1 a2 a3 a4 a5 => ?_, fun r => ?_⟩
  · rw [e 21 r (by decide), e 22 r (by decide), e 20 r (by decide), e 23 r (by decide)]; exact h.2.1 r hr
  · rw [e 21 r (by decide), e 21 r' (by decide)] at a3
    rw [e 20 r (by decide), e 20 r' (by decide)] at a4
    rw [e 22 r (by decide), e 22 r' (by decide)] at a5
    exact h.2.2.1 r r' hr hr' (e25 r a1) (e25 r' a2) a3 a4 a5
  · show pz_ite _ _ _ = 0 ∨ pz_ite _ _ _ = 1
    by_cases q : (25 : Nat) = 25 ∧ r < ri.1 ∧ ri.2 22 r = x
    · rw [pz_it q]; exact Or.inr rfl
    · rw [pz_if' q]; exact h.2.2.2 r
theorem pz_xih (h : pz_ih pe) : pz_ih (pz_xpe pe x) := by
  refine ⟨fun p => ?_, fun p hp => ?_⟩
  · show (pz_u pe.1 42 (pw_i x) 1) 42 p = 0 ∨ (pz_u pe.1 42 (pw_i x) 1) 42 p = 1
    by_cases q : p = pw_i x
    · rw [q, pz_us]; exact Or.inr rfl
    · rw [pz_un q]; exact h.1 p
  · obtain ⟨d, hd, e, hk⟩ := h.2 p hp
    exact ⟨d, hd, Eq.trans (show pz_u pe.1 42 (pw_i x) 1 44 p = pe.1 44 p from pz_uk (k := 42) (k' := 44) (by decide)) e, hk⟩
theorem pz_xhh (h : pz_ih pe) (c1 : pw_jn x 12) : pe.1 44 (pw_i x) = nI (pw_i (pe.1 44 (pw_i x))) ∧ pw_i (pe.1 44 (pw_i x)) < 4 ∧ ∀ k, k < pw_i (pe.1 44 (pw_i x)) → pw_jn (pe.2 (pw_i x) k) 12 := by
  obtain ⟨d, hd, e, hk⟩ := h.2 (pw_i x) c1.2
  rw [e, pz_i (by omega)]
  exact ⟨rfl, by omega, hk⟩
theorem pi_die (I : pz_I sc sq pa ri mp ca dr pe) (c1 : pw_jn x 12) (c2 : pe.1 42 (pw_i x) = 0) : pz_I sc (pz_xrc sq pa ca pe x).1 (pz_xpa pa pe x) (pz_er ri x ri.1) (pz_mf mp x) (pz_xrc sq pa ca pe x).2 dr (pz_xpe pe x) := by
  have hh := pz_xhh I.gh c1
  have hip := pz_xip (x := x) I.gp hh.2.2
  have hr := pz_rcI (x := x) hip (pz_xil I.gl) I.gc (pz_xiq I.gq) ca.1 (Nat.le_refl _)
  exact ⟨hr.2.2.2, hr.2.1, hip, pz_xir I.gr, Nat.le_trans pz_lvle I.gm, hr.2.2.1, I.gd, pz_xih I.gh⟩
theorem cp_die (h : pz_c sc sq pa ri mp ca dr pe U V w0 w) (I : pz_I sc sq pa ri mp ca dr pe) (hU : U ≤ 190000) (hV : V ≤ 3900000) (k0 : (pw_jn x 12) → (pe.1 42 (pw_i x) = 0) → ∀ w1, pz_c sc (pz_xrc sq pa ca pe x).1 (pz_xpa pa pe x) (pz_er ri x ri.1) (pz_mf mp x) (pz_xrc sq pa ca pe x).2 dr (pz_xpe pe x) (U + 4) (V + 363) w0 w1 → K w1 (pz_ha (pz_xL pe x) (pz_own pa x) pa.1)) (k1 : ¬ (pw_jn x 12) → ∀ w1, pz_c sc sq pa ri mp ca dr pe (U + 4) (V + 363) w0 w1 → X w1 1) (k2 : (pw_jn x 12) → ¬ (pe.1 42 (pw_i x) = 0) → ∀ w1, pz_c sc sq pa ri mp ca dr pe (U + 4) (V + 363) w0 w1 → X w1 3) : wp_X_die w x K X := by
  unfold wp_X_die
  rw [cv_personNumbered h]
  refine ⟨fun a1 => ?_, fun a1 => cu_thr h (by omega) (by omega) (pz_hL I) I.gr.1 (fun w1 h1 => k1 a1 w1 (h1.up (by omega) (by omega)))⟩
  have k0 := k0 a1
  have k2 := k2 a1
  have hh := pz_xhh I.gh a1
  have hip := pz_xip (x := x) I.gp hh.2.2
  have hL := pz_hL I
  have hr := I.gr.1
  refine ⟨a1.1, ?_⟩
  rw [pz_k42 h _ a1.2, cv_checkState]
  refine ⟨fun b1 => ?_, fun b1 => cu_thr h (by omega) (by omega) (pz_hL I) I.gr.1 (fun w1 h1 => k2 b1 w1 (h1.up (by omega) (by omega)))⟩
  have k0 := k0 b1
  (try simp (disch := omega) only [forall_eq, true_and, and_true, true_imp_iff, forall_const, not_true_eq_false, not_false_eq_true, false_imp_iff, implies_true, eq_self, pz_i, pz_s1, pz_p1, pz_jnt, pz_b0, pz_b1, pz_em, pz_nnt, pz_nm1, pz_10, pz_20, pz_30, Classical.not_not])
  obtain ⟨a, ha, rfl⟩ := pz_of a1
  have ei : pw_i (nI a) = a := pz_i (by omega)
  have h3 := cs42 h (p := a) (a := 0) (v := 1) (pz_bf (by decide)).symm
  unfold pz_xrc pz_xpa pz_xL pz_xpe at k0
  unfold pz_xpa pz_xL pz_xpe at hip
  rw [ei] at hh k0 hip ⊢
  have hxil := pz_xil (x := nI a) (pe := pe) I.gl
  unfold pz_xpa pz_xL pz_xpe at hxil
  rw [ei] at hxil
  have e44 : (pz_u pe.1 42 a 1) 44 a = nI (pw_i (pe.1 44 a)) := Eq.trans (pz_uk (k := 42) (k' := 44) (by decide)) hh.1
  refine cu_handDown h3 I.gp.1.2 ha e44 hh.2.1 hh.2.2 (by omega) (by omega) hL hr (fun w4 h4 => ?_)
  exact cu_endRights h4 hr (fun w5 h5 => cu_endSheep h5 ha I.gp.1.2 (fun w6 h6 => cu_endMaps h6 I.gm (fun w7 h7 => cu_endUses h7 (fun w8 h8 => cu_refuseOpen h8 hip hxil I.gc (pz_xiq I.gq) (by omega) (by omega) hr (fun w9 h9 => k0 _ h9)))))
end PZDX
