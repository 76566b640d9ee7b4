section PST
theorem pw_arrayOf {args : Array Value} {s : State} {t : Term} {ty : FieldType} (h : (Cond.arrayOf t ty).before args s = true) : ∃ (a : Addr) (cell : Cell), t.eval args s none [] s = some (.ref a) ∧ s.heap[a]? = some cell ∧ s.isArrayOf cell ty ∧ cell.vm ≠ .unknown := by
  have h0 := h
  simp only [Cond.before, Cond.holds, Cond.value] at h
  cases ht : t.eval args s none [] s with
  | none => rw [ht] at h; simp at h
  | some v =>
    cases v with
    | ref a =>
      cases hc : s.heap[a]? with
      | none => rw [ht] at h; simp [hc] at h
      | some cell =>
        obtain ⟨h1, h2⟩ := Cond.arrayOf_spec h0 ht hc
        exact ⟨a, cell, rfl, hc, h1, h2⟩
    | _ => rw [ht] at h; simp at h
theorem pw_len0 {args : Array Value} {s : State} {t : Term} {a : Addr} {cell : Cell} (h : (Cond.eq (.length t) (.int 0)).before args s = true) (ht : t.eval args s none [] s = some (.ref a)) (hc : s.heap[a]? = some cell) : cell.slots.size = 0 := by
  simp only [Cond.before, Cond.holds, Cond.value] at h
  cases hv : (Term.length t).eval args s none [] s with
  | none => rw [hv] at h; simp at h
  | some v =>
    obtain ⟨a', c', h1, h2, h3⟩ := Term.length_spec hv
    rw [ht] at h1
    cases h1
    have h4 := (State.arrayAt?_spec h2).1
    rw [hc] at h4
    cases h4
    have hsm : cell.slots.size < 2147483648 := by
      by_cases q : cell.slots.size < 2147483648
      · exact q
      · exfalso
        simp [Term.eval, ht, h2, q] at hv
    subst h3
    rw [hv] at h
    simp [Term.eval] at h
    have h5 : (Int32.ofNat cell.slots.size).toInt = cell.slots.size := Int32.toInt_ofNat_of_lt hsm
    have h6 : Int32.ofNat cell.slots.size = 0 := h
    rw [h6] at h5
    simpa using h5.symm
theorem pw_ac {args : Array Value} {s : State} {ty : FieldType} (h : (Cond.arrayClass ty).before args s = true) (hty : ∀ C, ty ≠ .object C) : ∃ cA : ClassId, ArrOfT s cA ty ∧ va_RA s cA ty := by
  obtain ⟨c, k, comp, h1, h2, h3⟩ := Cond.arrayClass_spec h
  refine ⟨c, fun n z => ⟨(fun q h => by cases h), k, h2, comp, h3⟩, ?_⟩
  unfold va_RA
  cases ty <;> first | exact h1 | exact absurd rfl (hty _)
theorem pw_ao {args : Array Value} {s : State} {C : String} (h : (Cond.arrayOver (.object C)).before args s = true) : ∃ cA : ClassId, ArrOfT s cA (.object C) ∧ va_RA s cA (.object C) := by
  obtain ⟨comp, c, k, h1, h2, h3, h4, h5⟩ := Cond.arrayOver_spec h
  exact ⟨c, fun n z => ⟨(fun q h => by cases h), k, h3, comp, h4⟩, k, comp, h3, h4, h1, h5⟩
set_option maxHeartbeats 4000000 in
theorem pw_start {p : Program} {e : Env} {s : State} {m : MethodId} {below : List Frame} {meth : Method} {c : Code} (l : Launch) (hflags : l.flags = flags0) {b L : Nat} {xs : Nat → Int32} (hL : L ≤ 260) (C0 : lw_At p s m meth c b L xs)
    (hpure : wp_L_law L xs pw_w0 (fun _ r => r = 1) (fun _ _ => False)) : W p l e room_1 s m #[Value.ref b] below meth c s.heap [] 0 0 (lw_Z below #[Value.ref b] s) (entryFrame m ([Value.ref b] : List Value).toArray 22) := by
  obtain ⟨hx, hb, hr, hml, hown, hts, hX, hbl, hlocks, hgv⟩ := id C0
  have hl0 : l.stackTraces = false := by
    unfold Launch.stackTraces
    rw [hflags]
    decide +kernel
  obtain ⟨scr, s1, s2, s3, s4, s5⟩ := hX
  have hA : ∀ a : Nat, a < s.heap.size → ¬ s.heap.size ≤ a := fun a h => Nat.not_le.mpr h
  have hn := flat_of_before _ hgv
  obtain ⟨eA, eC, ea1, ea2, ea3, ea4⟩ := pw_arrayOf (hn (.arrayOf (.static "java/util/ArrayList" "DEFAULTCAPACITY_EMPTY_ELEMENTDATA" "[Ljava/lang/Object;") (.object "java/lang/Object")) (by decide +kernel))
  have eS : eC.slots.size = 0 := pw_len0 (hn (.eq (.length (.static "java/util/ArrayList" "DEFAULTCAPACITY_EMPTY_ELEMENTDATA" "[Ljava/lang/Object;")) (.int 0)) (by decide +kernel)) ea1 ea2
  obtain ⟨c0, i0, k0⟩ := u_known (C := pw_R0) (T := pw_T0) (N := 8) (n := 8) hts pw_i0 (hts (.instantiable pw_R0 8) (by decide +kernel))
  obtain ⟨c1, i1, k1⟩ := u_known (C := pw_R1) (T := pw_T1) (N := 2) (n := 2) hts pw_i1 (hts (.instantiable pw_R1 2) (by decide +kernel))
  obtain ⟨c2, i2, k2⟩ := u_known (C := pw_R2) (T := pw_T2) (N := 3) (n := 3) hts pw_i2 (hts (.instantiable pw_R2 3) (by decide +kernel))
  obtain ⟨c3, i3, k3⟩ := u_known (C := pw_R3) (T := pw_T3) (N := 6) (n := 6) hts pw_i3 (hts (.instantiable pw_R3 6) (by decide +kernel))
  obtain ⟨c4, i4, k4⟩ := u_known (C := pw_R4) (T := pw_T4) (N := 4) (n := 4) hts pw_i4 (hts (.instantiable pw_R4 4) (by decide +kernel))
  obtain ⟨c5, i5, k5⟩ := u_known (C := pw_R5) (T := pw_T5) (N := 6) (n := 6) hts pw_i5 (hts (.instantiable pw_R5 6) (by decide +kernel))
  obtain ⟨c6, i6, k6⟩ := u_known (C := pw_R6) (T := pw_T6) (N := 11) (n := 11) hts pw_i6 (hts (.instantiable pw_R6 11) (by decide +kernel))
  obtain ⟨c7, i7, k7⟩ := u_known (C := pw_R7) (T := pw_T7) (N := 12) (n := 12) hts pw_i7 (hts (.instantiable pw_R7 12) (by decide +kernel))
  obtain ⟨c8, i8, k8⟩ := u_known (C := pw_R8) (T := pw_T8) (N := 2) (n := 2) hts pw_i8 (hts (.instantiable pw_R8 2) (by decide +kernel))
  obtain ⟨c9, i9, k9⟩ := u_known (C := pw_R9) (T := pw_T9) (N := 3) (n := 3) hts pw_i9 (hts (.instantiable pw_R9 3) (by decide +kernel))
  obtain ⟨a0, x0⟩ := pw_ac (hts (.arrayClass .int) (by decide +kernel)) (by simp)
  obtain ⟨a1, x1⟩ := pw_ac (hts (.arrayClass .boolean) (by decide +kernel)) (by simp)
  obtain ⟨a2, x2⟩ := pw_ac (hts (.arrayClass .int) (by decide +kernel)) (by simp)
  obtain ⟨a3, x3⟩ := pw_ao (hts (.arrayOver (.object "Peatland$Square")) (by decide +kernel))
  obtain ⟨a4, x4⟩ := pw_ao (hts (.arrayOver (.object "Peatland$Person")) (by decide +kernel))
  obtain ⟨a5, x5⟩ := pw_ao (hts (.arrayOver (.object "java/lang/Object")) (by decide +kernel))
  obtain ⟨dC, edC⟩ : ∃ f : Nat → ClassId, f = fun k => [c0, c1, c2, c3, c4, c5, c6, c7, c8, c9].getD k 0 := ⟨_, rfl⟩
  obtain ⟨dI, edI⟩ : ∃ f : Nat → Nat → Nat, f = fun k => [i0, i1, i2, i3, i4, i5, i6, i7, i8, i9].getD k i0 := ⟨_, rfl⟩
  obtain ⟨cA, ecA⟩ : ∃ f : Nat → ClassId, f = fun k => [a0, a1, a2, a3, a4, a5].getD k 0 := ⟨_, rfl⟩
  obtain ⟨g, eg⟩ : ∃ g : pw_G, g = ((dC, dI), cA, eA, s.heap.size, b, scr) := ⟨_, rfl⟩
  have hKc : va_K g.1 pw_cl (pw_tys g) s := by
    subst eg
    refine ⟨fun k q hq => ?_, fun k q hq => ?_⟩
    · have hk : k < 10 := (List.getElem?_eq_some_iff.mp hq).1
      have : k = 0 ∨ k = 1 ∨ k = 2 ∨ k = 3 ∨ k = 4 ∨ k = 5 ∨ k = 6 ∨ k = 7 ∨ k = 8 ∨ k = 9 := by omega
      rcases this with rfl | rfl | rfl | rfl | rfl | rfl | rfl | rfl | rfl | rfl <;> (cases hq; subst edC edI; assumption)
    · have hk : k < 6 := (List.getElem?_eq_some_iff.mp hq).1
      have : k = 0 ∨ k = 1 ∨ k = 2 ∨ k = 3 ∨ k = 4 ∨ k = 5 := by omega
      rcases this with rfl | rfl | rfl | rfl | rfl | rfl <;> (cases hq; subst ecA; assumption)
  have hZ : ∀ (C n d : String), (Cond.laysStatic C n d) ∈ lw_tbl → Cond.initialized C ∈ lw_tbl → (Cond.isRef (.static C n d)).before #[Value.ref b] s = true → vx_Zq C n d (pw_A g) s s.heap := fun C n d h1 h2 h3 =>
    vx_Zqof (hts _ h1) (hts _ h2) h3 (by rw [eg]; exact hA)
  have hstr : ∀ q ∈ pw_strs, ∃ sa, vk_R q.1 q.2.1 q.2.2 sa s := by
    intro q hq
    have h1 : (Cond.stringRef q.1 q.2.1 q.2.2).before #[Value.ref b] s = true := hts _ (by revert q; decide +kernel)
    have h2 : (Cond.exactly (.string q.1 q.2.1) "java/lang/String").before #[Value.ref b] s = true := hn _ (by clear h1; revert q; decide +kernel)
    obtain ⟨a, _, _, _, h3, -⟩ := Cond.exactly_spec h2
    exact ⟨a, vk_R.of h1 h3⟩
  have hK : pw_K g s s.heap := by
    refine ⟨hKc, hZ _ _ _ (by decide +kernel) (by decide +kernel) (hn _ (by decide +kernel)), hZ _ _ _ (by decide +kernel) (by decide +kernel) (hn _ (by decide +kernel)), ?_, ?_, ⟨va_AO.of (hts (.arrayOver (.object "Peatland$Square")) (by decide +kernel)), va_AO.of (hts (.arrayOver (.object "Peatland$Person")) (by decide +kernel)), va_AO.of (hts (.arrayOver (.object "java/lang/Object")) (by decide +kernel))⟩, hstr, ?_, ?_, ?_, ?_, va_Mi.of (hn (.isRef (.mirror "[Ljava/lang/Object;")) (by decide +kernel))⟩
    · subst eg
      exact va_Zof (hts _ (by decide +kernel)) (hts _ (by decide +kernel)) ea1 hA
    · subst eg
      exact ⟨eC, ea2, ea3, ea4, hA _ (Array.getElem?_eq_some_iff.mp ea2).1, eS⟩
    · subst eg
      exact ⟨s2, s3⟩
    · intro q hq
      exact va_Nc.of (hn (Cond.not (.castable (pw_en q.1) (pw_en q.2))) (by revert q; decide +kernel))
    · intro w hw
      exact va_Nw.of (pw_hw_on w hw) (hts w (by revert w; decide +kernel))
    · intro q hq
      exact va_Fw.of (hts (.declares ⟨"java/util/List", q.1, q.2⟩) (by revert q; decide +kernel)) (hts (.interfaceMethod "java/util/List" "java/util/List" q.1 q.2) (by revert q; decide +kernel)) (hts (.publicMethod ⟨"java/util/ArrayList", q.1, q.2⟩) (by revert q; decide +kernel)) (hts (.unhidden "java/util/ArrayList" q.1 q.2) (by revert q; decide +kernel)) (hts (.castable "java/util/ArrayList" "java/util/List") (by decide +kernel))
  have hsc : pw_sc g L xs := by subst eg; exact ⟨s4, s5⟩
  have hV := vw_L_law (l := l) (g := g) hl0 hsc hpure
  have hF : pw_F l g cx_L_law p room_1 s m #[Value.ref b] meth c pw_w0 := by
    refine ⟨⟨hx, hb, hml, hr, hown⟩, fun w hw => hts w (List.mem_filter.mp hw).1, ⟨hlocks, Or.inl ⟨rfl, rfl⟩⟩, ⟨rfl, rfl, rfl, rfl⟩, hK, hl0, by subst eg; rfl, ?_⟩
    subst eg
    show pw_sum s.heap.size s.heap = 0
    unfold pw_sum
    rw [List.drop_of_length_le (by simp)]; rfl
  rw [lg_entry_eq]
  have hP : pw_P g (fun _ _ => b) pw_w0 s.heap := by
    subst eg
    refine ⟨fun f i hv => ?_, fun f i f' i' hv => ?_, fun f i k _ hi => absurd hi (Nat.not_lt_zero _), fun f i _ _ hi => absurd hi (Nat.not_lt_zero _), ⟨rfl, s1, hbl⟩, rfl, hF.2.2.2.2.2.2.2, fun _ _ => rfl⟩
    · unfold pw_v at hv
      split at hv
      · exact absurd hv.1 (Nat.not_lt_zero _)
      · exact absurd hv (Nat.not_lt_zero _)
    · unfold pw_v at hv
      split at hv
      · exact absurd hv.1 (Nat.not_lt_zero _)
      · exact absurd hv (Nat.not_lt_zero _)
  have hLe := pw_L_entry (cx := cx_L_law) (ad := fun _ _ => b) (As := [(3000, 0)]) (by decide) (by simp)
  have hk := hV p e room_1 s m #[Value.ref b] below meth c s.heap [] _ (fun _ _ => b) pw_w0 (fun _ _ => b) hF hP pw_x.rf hLe (fun q hq => by
    have : q = (3000, 0) ∨ q = (1, 0) := by
      simp at hq
      rcases hq with h | h
      · exact Or.inl h
      · exact Or.inr h
    rcases this with rfl | rfl
    · exact Or.inl ⟨rfl, rfl⟩
    · trivial) (fun q hq => by cases hq) va_S.rf (by decide)
  refine pw_imp ?_ hk
  rintro t ⟨o, b1, b2, b3⟩
  rcases b3 with ⟨⟨w', ad', r, rfl, -, hr1, -⟩, L9, ⟨-, f2, f3⟩, f4⟩ | ⟨q, -, E, ce, L9, ⟨w', ad', k, -, hf, -⟩, -⟩
  · have hr2 : r = 1 := hr1
    subst hr2
    refine ⟨_, b1, b2, rfl, ⟨_, rfl⟩, f2, ?_⟩
    obtain ⟨z1, z2, z3, z4, z5, z6⟩ := f3
    refine ⟨z1, z2, z3, z4, z5, fun a c ha => ?_⟩
    obtain ⟨c', y1, y2, y3, y4⟩ := z6 a c ha
    refine ⟨c', y1, y2, y3, fun i _ => y4 i fun hm => ?_⟩
    have h1 := f4 _ hm
    subst eg
    exact absurd (Array.getElem?_eq_some_iff.mp ha).1 (Nat.not_lt.mpr h1)
  · exact hf.elim
end PST
