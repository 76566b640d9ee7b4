theorem wca_int : Cond.arrayClass .int ∈ pw_g := pw_wd pw_tb1 94 (by decide +kernel) (by decide +kernel)
section PL
variable {l : Launch} {g : pw_G}
set_option maxHeartbeats 2000000 in
theorem jc_ci {aB n N : Nat} {f : Nat → Int32} (hne : N ≠ n) (hN : N < 100000) (hn : n < 100000) (hBA : g.2.2.2.1 ≤ aB) :
    Met l yj_ci (Cond.code yj_ci bj_ci 3 (some (.array .int)) :: pw_g) { frames := 1, cells := 1, slots := N, locals := 60 }
    (va_Pc [.ref aB, .int (nI N)] (fun U => va_P g.1 pw_cl [(aB, .inl (g.2.1 0, (n, .inl f)))] U.heap ∧ pw_K g U U.heap ∧ g.2.2.2.1 ≤ U.heap.size))
    (fun _ st o t => ∃ aN : Nat, o = .returned (some (.ref aN)) ∧ st.heap.size ≤ aN ∧ t.heap[aN]? = some (vp_cell (g.2.1 0) (N, .inl (fun k => if k < N ∧ k < n then f k else 0))) ∧ ∀ q : Nat, q < st.heap.size → t.heap[q]? = st.heap[q]?) 1 N (pw_A g) := by
  refine Met.ofW (cc := bj_ci) (maxL := 3) (ret := some (.array .int)) (by decide +kernel) rfl ?_
  intro p e s m args below meth c s₁ B hml hv
  obtain ⟨rfl, hP, hK, hb0⟩ := hv
  have hx := B.exec
  have hb := B.bytes
  have hr := B.returns
  have hlocks := B.notSynchronized
  have hts : ∀ w ∈ pw_g, w.before ([.ref aB, .int (nI N)]).toArray s = true := fun w hw => atoms_spec (ws := Cond.code yj_ci bj_ci 3 (some (.array .int)) :: pw_g) B.pre w (List.mem_cons_of_mem _ hw)
  have hown : s.vm.findClass "java/util/Arrays" = some m.cls := findClass_of_methodNamed B.named
  rw [lg_entry_eq]
  have hl := lv_entry ([.ref aB, .int (nI N)]) (n := 3) (Nat.le_of_ble_eq_true rfl)
  generalize (lg_sl ([.ref aB, .int (nI N)]) ++ List.replicate (3 - (lg_sl ([.ref aB, .int (nI N)])).length) Slot.unset).toArray = ls at hl ⊢
  have hl : lv_has ls 3 [(0, .ref aB), (1, .int (nI N))] := hl
  have haB : aB < s.heap.size := (Array.getElem?_eq_some_iff.mp (show s.heap[aB]? = some _ from hP 0 _ rfl)).1
  have hS : va_S (fun q => s.heap.size ≤ q ∨ q = aB) s.heap s.heap [] := va_S.rf
  have hD : va_D (fun q => s.heap.size ≤ q ∨ q = aB) [(aB, .inl (g.2.1 0, (n, .inl f)))] := ⟨fun i j p q h1 h2 _ => by
      have a1 : i < 1 := (List.getElem?_eq_some_iff.mp h1).1
      have a2 : j < 1 := (List.getElem?_eq_some_iff.mp h2).1
      omega, fun k q h => by
      have a1 : k < 1 := (List.getElem?_eq_some_iff.mp h).1
      rw [show k = 0 by omega] at h
      cases h
      exact Or.inr rfl⟩
  have en : (Int32.ofNat n) = nI n := rfl
  refine lv_iload_n hx hb dj_ci_0 rfl (lv_at hl 1 rfl) ?_
  refine lv_aload_n hx hb dj_ci_1 rfl (lv_at hl 0 rfl) ?_
  refine va_alen hx hb hK.1 hP 0 0 rfl rfl rfl dj_ci_2 ?_
  refine lv_icmp_ne (tgt := 14) hx hb dj_ci_3 (by decide) (fun _ => ?_) (fun q => absurd (fun e : N = n => hne e) (fun h => by
    have h1 := congrArg Int32.toNatClampNeg (show nI N = nI n from q)
    rw [nI_clamp (by omega), nI_clamp (by omega)] at h1
    exact h h1))
  refine lv_iload_n hx hb dj_ci_14 rfl (lv_at hl 1 rfl) ?_
  refine va_newa (atype := .int) (N' := N) (a0 := (N, .inl fun _ => 0)) hx hb (hts _ wca_int) rfl hK.1 hP hD hS (fun q h => Or.inl h) (fun cA => rfl) (nI_pos (by omega)) (nI_clamp (by omega)) (by show N * 4 ≤ _; omega) (Nat.le_refl _) (by show 0 + N ≤ N; omega) dj_ci_15 (fun aN cA H1 hK1 hP1 hD1 hS1 => ?_)
  have hcA : cA = g.2.1 0 := Option.some.inj (((hK1.2 6 (cA, .int) rfl).2 : s.vm.findClass _ = some cA).symm.trans (pw_Q_ra hK.1 (k := 0) (ty := .int) rfl))
  subst hcA
  have hneA : aN ≠ aB := fun e => by
    have := hD1.1 1 0 _ _ rfl rfl e
    omega
  have hfr : s.heap.size ≤ aN := by
    rcases hD1.2 1 _ rfl with h | h
    · exact h
    · exact absurd h hneA
  refine lv_astore_n (lv' := [(2, .ref aN), (0, .ref aB), (1, .int (nI N))]) hx hb dj_ci_17 rfl hl (by decide) rfl (fun ls hl => ?_)
  refine lv_aload_n hx hb dj_ci_18 rfl (lv_at hl 1 rfl) ?_
  refine lv_iconst (v := 0) hx hb dj_ci_19 (by decide) ?_
  refine lv_aload_n hx hb dj_ci_20 rfl (lv_at hl 0 rfl) ?_
  refine lv_iconst (v := 0) hx hb dj_ci_21 (by decide) ?_
  refine lv_aload_n hx hb dj_ci_22 rfl (lv_at hl 1 rfl) ?_
  refine va_alen hx hb hK.1 hP1 0 0 rfl rfl rfl dj_ci_23 ?_
  refine lv_iload_n hx hb dj_ci_24 rfl (lv_at hl 2 rfl) ?_
  refine va_mmin hx hb (by rw [hml]; exact hl.1.symm) hown (hts _ wm_min_304) (hts _ wms_min) (hts _ wn_math) (hts _ wmc_min) (Nat.le_refl 1) (Nat.le_of_ble_eq_true rfl) (by show 0 + 1 ≤ 1; omega) (by show 0 + N ≤ N; omega) dj_ci_25 ?_
  have hmin : (if nI N < Int32.ofNat n then nI N else Int32.ofNat n) = nI (if N < n then N else n) := by
    rw [en]
    by_cases c : N < n
    · rw [if_pos (show nI N < nI n from nI_lt c (by omega)), if_pos c]
    · rw [if_neg (show ¬ nI N < nI n from nI_nlt (by omega) (by omega)), if_neg c]
  rw [hmin]
  have hM : (if N < n then N else n) ≤ N ∧ (if N < n then N else n) ≤ n ∧ ∀ k, k < (if N < n then N else n) ↔ k < N ∧ k < n := by
    by_cases c : N < n
    · rw [if_pos c]; exact ⟨Nat.le_refl _, by omega, fun k => by omega⟩
    · rw [if_neg c]; exact ⟨by omega, Nat.le_refl _, fun k => by omega⟩
  generalize (if N < n then N else n) = M at hM ⊢
  have e0 : (0 : Int32).toNatClampNeg = 0 := rfl
  have ec : (nI M).toNatClampNeg = M := nI_clamp (by omega)
  refine va_copyi (ty := .int) hx hb (by rw [hml]; exact hl.1.symm) hown (hts _ wac_l) (hts _ wac_n) (hts _ wac_s) (hts _ wn_sys) hK.1 hP1 hD1 hS1 0 1 0 0 rfl rfl rfl rfl rfl (by decide) (by decide) (nI_pos (by omega)) (by rw [e0, ec]; omega) (by rw [e0, ec]; omega) (fun i hi => rfl) (Nat.le_refl 1) (by show _ ≤ 60; decide) dj_ci_28 (fun H2 locs2 hP2 hD2 hS2 => ?_)
  refine lv_aload_n hx hb dj_ci_31 rfl (lv_at hl 0 rfl) ?_
  have hfree : ∀ q ∈ locs2, pw_A g q.base := fun q h => by
    rcases hS2.2.2 q h with h | h
    · exact Nat.le_trans hb0 h
    · rw [h]; exact hBA
  have hfe : va_cpy f (fun _ => 0) (0 : Int32).toNatClampNeg (0 : Int32).toNatClampNeg (nI M).toNatClampNeg = fun k => if k < N ∧ k < n then f k else 0 := by
    funext j
    rw [e0, ec]
    unfold va_cpy
    by_cases hj2 : j < M
    · rw [if_pos ⟨Nat.zero_le _, by omega⟩, if_pos ((hM.2.2 j).mp hj2), Nat.zero_add, Nat.sub_zero]
    · rw [if_neg (by omega), if_neg (fun h => hj2 ((hM.2.2 j).mpr h))]
  have hcell : H2[aN]? = some (vp_cell (g.2.1 0) (N, .inl (fun k => if k < N ∧ k < n then f k else 0))) := by
    have h1 : H2[aN]? = some (vp_cell _ _) := hP2 1 _ rfl
    rw [hfe] at h1
    exact h1
  have hold : ∀ q : Nat, q < s.heap.size → H2[q]? = s.heap[q]? := fun q hq => by
    by_cases hqB : q = aB
    · subst hqB
      have h1 : H2[q]? = some _ := hP2 0 _ rfl
      have h2 : s.heap[q]? = some _ := hP 0 _ rfl
      rw [h1, ← h2]
    · exact hS2.2.1 q hq (fun z => z.elim (fun z => absurd hq (Nat.not_lt.mpr z)) hqB)
  refine W.widen (k := 1) (n := N) (by omega) (by omega) ?_
  exact W.aret hx hb hr (Or.inr ⟨_, rfl⟩) (Or.inr ⟨_, rfl⟩) (fun t ht _ => ⟨aN, rfl, hfr, by rw [ht]; exact hcell, by rw [ht]; exact hold⟩) hfree dj_ci_32 hlocks
end PL
