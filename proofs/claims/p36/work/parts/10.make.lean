section PVM
variable {l : Launch} {g : pw_G} {cx : pw_C} {Q : pw_W → Int32 → Prop} {X : pw_W → Nat → Prop} {pc n : Nat} {L st : List (Nat × Int32)} {w : pw_W} {x y j : Int32} {t : Nat}
theorem pw_new_ok {w : pw_W} {f len n : Nat} (hf : pw_fo f) (hm : pw_nv w f < 1048576) : pw_ok (pw_nw w f len n) (f + 2, nI (pw_nv w f)) ∧ 0 ≤ nI (pw_nv w f) ∧ pw_i (nI (pw_nv w f)) = pw_nv w f := by
  have h1 : pw_i (nI (pw_nv w f)) = pw_nv w f := nI_clamp (by omega)
  have h2 : 0 ≤ nI (pw_nv w f) := nI_pos' (by omega)
  refine ⟨Or.inr (Or.inr ⟨h2, ?_, hf⟩), h2, h1⟩
  show pw_i (nI (pw_nv w f)) < _
  rw [h1]
  show pw_nv w f < (if (1000 : Nat) = 1000 then (if f = f then w.2.1 1000 f + 1 else w.2.1 1000 f) else (if 1000 = f ∧ f = w.2.1 1000 f then len else w.2.1 1000 f))
  rw [if_pos rfl, if_pos rfl]
  exact Nat.lt_succ_self _
theorem pw_fsd {ad : Nat → Nat → Nat} {w : pw_W} {f len n : Nat} : pw_fs ad (pw_nw w f len n) f (pw_nv w f) = (List.range (pw_nf f)).map fun k => pw_ph ad (pw_ty f k, pw_df f k) := by
  unfold pw_fs
  refine List.map_congr_left fun k _ => ?_
  show pw_ph ad (pw_ty f k, if f = f ∧ pw_nv w f = w.2.1 1000 f then pw_df f k else _) = _
  rw [if_pos ⟨rfl, rfl⟩]
theorem pv_new {f index : Nat} {C : String} {T : u_T} {N : Nat} {ty : Nat → FieldType} (hcf : pw_CF f C T N ty) (hdf : ∀ ad k, k < N → defaultValue (ty k) = pw_ph ad (pw_ty f k, pw_df f k)) (hl : Cond.classLink (pw_own cx) index C ∈ pw_g) (hi1 : Cond.instantiable C N ∈ pw_g) (hi2 : Cond.initialized C ∈ pw_g) (hd : decode (pw_cc cx) pc = .ok (.new index, 3)) (hr : pw_rm w f N) (hn : pc + 3 = n)
    (k : pw_V l g cx Q X n L ((f + 2, nI (pw_nv w f)) :: st) (pw_nw w f 0 N)) : pw_V l g cx Q X pc L st w := by
  subst hn
  intro p e R s m args below meth c H locs ls ad0 w0 ad hF hP hX hL hoL hoS hS hu
  obtain ⟨hc, hin, hty, hnm, hN, hf⟩ := id hcf
  have hKn := hF.2.2.2.2.1.1.1 f _ hc
  obtain ⟨r1, r2, r3⟩ := hr
  have hRc := hF.2.2.2.1.2.2.1
  have hRs := hF.2.2.2.1.2.2.2
  refine W.newc hF.1.1 hF.1.2.1 hF.1.2.2.2.2 (hF.2.1 _ hl) (hF.2.1 _ hi1) (hF.2.1 _ hi2) rfl hd (by rw [hRc]; omega) (by rw [hRs]; omega) fun cC kC g1 g2 g3 g4 => ?_
  have hcC : cC = g.1.1 f := Option.some.inj (g1.symm.trans hKn.2.1)
  subst hcC
  generalize hH1 : H.push ({ cls := g.1.1 f, slots := kC.instanceTypes.map defaultValue, vm := .none } : Cell) = H1
  have hfn : pw_fn f := by unfold pw_fn; omega
  have hPX := hP.al (len := 0) hfn hH1.symm (n := N) (by simpa using g4) (by
    rw [pw_e_obj hf]
    refine ⟨_, hc, ?_⟩
    have e1 : H1[H.size]? = some (blank (g.1.1 f) kC) := by rw [← hH1, Array.getElem?_push_size]; rfl
    refine (u_born ty hF.2.1 hin hKn g2 e1 hty).to fun k hk => ?_
    rw [pw_fsd, hdf (fun a b => if a = f ∧ b = pw_nv w f then H.size else ad a b) k hk]
    show _ = List.getD _ k Value.null
    rw [List.getD_eq_getElem?_getD, List.getElem?_map, List.getElem?_range (by rw [← hN]; exact hk)]
    rfl)
  obtain ⟨hP', hX'⟩ := hPX
  have hno := pw_new_ok (w := w) (f := f) (len := 0) (n := N) (Or.inl (by omega)) r3
  have hk := k p e R s m args below meth c H1 locs ls ad0 w0 _ hF hP' (hX.trans hX') ⟨hL.1, hL.2.1, hL.2.2.1, fun k q hq h1 => by rw [pw_ph.x hX' (hoL q (List.mem_of_getElem? hq))]; exact hL.2.2.2 k q hq h1⟩ (fun q h => (hoL q h).x hX') (pw_oc hno.1 (fun q h => (hoS q h).x hX')) (by
      refine ⟨Nat.le_trans hS.1 (by rw [← hH1, Array.size_push]; omega), fun q h1 h2 => ?_, hS.2.2⟩
      rw [← hH1, Array.getElem?_push, if_neg (Nat.ne_of_lt (Nat.lt_of_lt_of_le h1 hS.1))]
      exact hS.2.1 q h1 h2) (by
      show _ ≤ w.2.2.1 + 1 ∧ _ ≤ w.2.2.2 + N ∧ w.2.2.1 + 1 ≤ _ ∧ w.2.2.2 + N ≤ _
      omega)
  rw [List.map_cons, pw_ph_ref hno.2.1, hno.2.2, pw_phs.x hX' hoS] at hk
  rw [show (if f = f ∧ pw_nv w f = pw_nv w f then H.size else ad f (pw_nv w f)) = H.size from if_pos ⟨rfl, rfl⟩] at hk
  have e1 : (pw_nw w f 0 N).2.2.1 - w0.2.2.1 = w.2.2.1 - w0.2.2.1 + 1 := by show w.2.2.1 + 1 - _ = _; omega
  have e2 : (pw_nw w f 0 N).2.2.2 - w0.2.2.2 = w.2.2.2 - w0.2.2.2 + N := by show w.2.2.2 + N - _ = _; omega
  rw [e1, e2] at hk
  exact hk
theorem pw_Q_ra {g : pw_G} {U : State} (hK : va_K g.1 pw_cl (pw_tys g) U) {k : Nat} {ty : FieldType} (h : (pw_tys g)[k]? = some (g.2.1 k, ty)) : U.vm.findClass ("[" ++ ty.toString) = some (g.2.1 k) := by
  have h1 := (hK.2 k _ h).2
  cases ty <;> first | exact h1 | (obtain ⟨kA, comp, -, -, -, h4⟩ := h1; exact h4)
/-- the walk goes on behind a cell that was made -/
theorem pw_made {f len N : Nat} {H1 H : Heap} {cell : Cell} {n' : Nat} {p : Program} {e : Env} {R : Room} {s : State} {m : MethodId} {args : Array Value} {below : List Frame} {meth : Method} {c : Code} {locs : List Loc} {ls : Array Slot} {ad0 : Nat → Nat → Nat} {w0 : pw_W} {ad : Nat → Nat → Nat}
    (hF : pw_F l g cx p R s m args meth c w0) (hP : pw_P g ad w H) (hX : pw_x ad0 w0 ad w) (hL : pw_L cx ad ls L) (hoL : ∀ q ∈ L, pw_ok w q) (hoS : ∀ q ∈ st, pw_ok w q) (hS : va_S (pw_A g) s.heap H locs) (hu : w0.2.2.1 ≤ w.2.2.1 ∧ w0.2.2.2 ≤ w.2.2.2 ∧ w.2.2.1 ≤ 600104 ∧ w.2.2.2 ≤ 7301313)
    (hf : pw_fn f) (hfo : pw_fo f) (hr : pw_rm w f N) (hH1 : H.push cell = H1) (hsz : cell.slots.size = N)
    (hc : va_at g.1 pw_cl (H.size, pw_e g (fun a b => if a = f ∧ b = pw_nv w f then H.size else ad a b) (pw_nw w f len N) f (pw_nv w f)) H1)
    (k : pw_V l g cx Q X n' L ((f + 2, nI (pw_nv w f)) :: st) (pw_nw w f len N)) :
    W p l e R s m args below meth c H1 locs (w.2.2.1 - w0.2.2.1 + 1) (w.2.2.2 - w0.2.2.2 + N) (vx_MQ below (pw_Qc g (pw_rt cx) ad0 w0 Q) (pw_XC g ad0 w0 X) args s R.cells R.slots (pw_A g)) (F0 m n' ls (.ref H.size :: st.map (pw_ph ad))) := by
  obtain ⟨r1, r2, r3⟩ := hr
  obtain ⟨hP', hX'⟩ := hP.al (len := len) hf hH1.symm hsz hc
  have hno := pw_new_ok (w := w) (f := f) (len := len) (n := N) hfo r3
  have hk := k p e R s m args below meth c H1 locs ls ad0 w0 _ hF hP' (hX.trans hX') ⟨hL.1, hL.2.1, hL.2.2.1, fun k q hq h1 => by rw [pw_ph.x hX' (hoL q (List.mem_of_getElem? hq))]; exact hL.2.2.2 k q hq h1⟩ (fun q h => (hoL q h).x hX') (pw_oc hno.1 (fun q h => (hoS q h).x hX')) (by
      refine ⟨Nat.le_trans hS.1 (by rw [← hH1, Array.size_push]; omega), fun q h1 h2 => ?_, hS.2.2⟩
      rw [← hH1, Array.getElem?_push, if_neg (Nat.ne_of_lt (Nat.lt_of_lt_of_le h1 hS.1))]
      exact hS.2.1 q h1 h2) (by
      show _ ≤ w.2.2.1 + 1 ∧ _ ≤ w.2.2.2 + N ∧ w.2.2.1 + 1 ≤ _ ∧ w.2.2.2 + N ≤ _
      omega)
  rw [List.map_cons, pw_ph_ref hno.2.1, hno.2.2, pw_phs.x hX' hoS] at hk
  rw [show (if f = f ∧ pw_nv w f = pw_nv w f then H.size else ad f (pw_nv w f)) = H.size from if_pos ⟨rfl, rfl⟩] at hk
  have e1 : (pw_nw w f len N).2.2.1 - w0.2.2.1 = w.2.2.1 - w0.2.2.1 + 1 := by show w.2.2.1 + 1 - _ = _; omega
  have e2 : (pw_nw w f len N).2.2.2 - w0.2.2.2 = w.2.2.2 - w0.2.2.2 + N := by show w.2.2.2 + N - _ = _; omega
  rw [e1, e2] at hk
  exact hk
theorem pw_nw_s {w : pw_W} {f len n : Nat} : (pw_nw w f len n).1 f (pw_nv w f) = fun k => pw_df f k := funext fun k => if_pos ⟨rfl, rfl⟩
theorem pw_nw_n {w : pw_W} {f len n : Nat} (h : f ≠ 1000) : pw_ln (pw_nw w f len n) f (pw_nv w f) = len := by
  show (if f = 1000 then _ else if f = f ∧ pw_nv w f = pw_nv w f then len else _) = _
  rw [if_neg h, if_pos ⟨rfl, rfl⟩]
theorem pv_newarr {f : Nat} {atype : ArrayType} (hf : pw_ar f) (hf2 : f ≠ 1000) (hk : pw_ak f = 0 ∨ pw_ak f = 1 ∨ pw_ak f = 2) (ht : (pw_tys g)[pw_ak f]? = some (g.2.1 (pw_ak f), newarray.typeOf atype)) (hdf : ∀ k, pw_df f k = 0) (hdv : ∀ v : Nat → Int32, (∀ k, v k = 0) → ∀ cA N ad w i, pw_pa ad w f i = pw_pa ad w f i → w.1 f i = v → vp_cell cA (N, pw_pa ad w f i) = arrV cA N (fun _ => defaultValue (newarray.typeOf atype)))
    (hw : Cond.arrayClass (newarray.typeOf atype) ∈ pw_g) (hd : decode (pw_cc cx) pc = .ok (.newarray atype, 2)) (h0 : 0 ≤ x) (hb : pw_i x * componentBytes (newarray.typeOf atype) ≤ 536870912) (hr : pw_rm w f (pw_i x)) (hn : pc + 2 = n)
    (k : pw_V l g cx Q X n L ((f + 2, nI (pw_nv w f)) :: st) (pw_nw w f (pw_i x) (pw_i x))) : pw_V l g cx Q X pc L ((0, x) :: st) w := by
  subst hn
  intro p e R s m args below meth c H locs ls ad0 w0 ad hF hP hX hL hoL hoS hS hu
  have hRc := hF.2.2.2.1.2.2.1
  have hRs := hF.2.2.2.1.2.2.2
  obtain ⟨r1, r2, r3⟩ := id hr
  refine W.newa hF.1.1 hF.1.2.1 (hF.2.1 _ hw) rfl hd (show _ = .int x :: st.map (pw_ph ad) from rfl) (Int32.not_lt.mpr h0) hb (by rw [hRc]; omega) (by rw [hRs]; show _ + pw_i x ≤ _; omega) fun cA kA comp g1 g2 g3 => ?_
  have hcA : cA = g.2.1 (pw_ak f) := Option.some.inj (g1.symm.trans (pw_Q_ra hF.2.2.2.2.1.1 ht))
  subst hcA
  refine pw_made (f := f) (len := pw_i x) (N := pw_i x) hF hP hX hL hoL (pw_ot hoS) hS hu (by obtain ⟨q1, q2, q3, q4⟩ := hf; unfold pw_fn; omega) (by obtain ⟨q1, q2, q3, q4⟩ := hf; unfold pw_fo; omega) hr rfl (by simp) ?_ k
  rw [pw_e_arr hf, pw_nw_n hf2]
  show (H.push _)[H.size]? = some (vp_cell _ _)
  rw [hdv (fun k => pw_df f k) hdf _ _ _ _ _ rfl pw_nw_s, ← arrV_new, Array.getElem?_push_size]
theorem pv_anew {f F index : Nat} {C : String} (hf : pw_ar f) (hf2 : f ≠ 1000) (hk : pw_ak f = 3 ∨ pw_ak f = 4) (ht : (pw_tys g)[pw_ak f]? = some (g.2.1 (pw_ak f), .object C)) (hF : ∀ k, pw_ty f k = F + 2)
    (hl : Cond.classLink (pw_own cx) index C ∈ pw_g) (hC : C = "Peatland$Square" ∨ C = "Peatland$Person") (hd : decode (pw_cc cx) pc = .ok (.anewarray index, 3)) (h0 : 0 ≤ x) (hb : pw_i x * 4 ≤ 536870912) (hr : pw_rm w f (pw_i x)) (hn : pc + 3 = n)
    (k : pw_V l g cx Q X n L ((f + 2, nI (pw_nv w f)) :: st) (pw_nw w f (pw_i x) (pw_i x))) : pw_V l g cx Q X pc L ((0, x) :: st) w := by
  subst hn
  intro p e R s m args below meth c H locs ls ad0 w0 ad hFr hP hX hL hoL hoS hS hu
  have hRc := hFr.2.2.2.1.2.2.1
  have hRs := hFr.2.2.2.1.2.2.2
  obtain ⟨r1, r2, r3⟩ := id hr
  have hAO : va_AO C s := by
    rcases hC with rfl | rfl
    · exact hFr.2.2.2.2.1.2.2.2.2.2.1.1
    · exact hFr.2.2.2.2.1.2.2.2.2.2.1.2.1
  refine W.anew hFr.1.1 hFr.1.2.1 hFr.1.2.2.2.2 (hFr.2.1 _ hl) (va_AO.use hAO) rfl hd (show _ = .int x :: st.map (pw_ph ad) from rfl) (Int32.not_lt.mpr h0) hb (by rw [hRc]; omega) (by rw [hRs]; show _ + pw_i x ≤ _; omega) fun cA kA comp g1 g2 g3 g4 => ?_
  have hcA : cA = g.2.1 (pw_ak f) := Option.some.inj (g1.symm.trans (pw_Q_ra hFr.2.2.2.2.1.1 ht))
  subst hcA
  refine pw_made (f := f) (len := pw_i x) (N := pw_i x) hFr hP hX hL hoL (pw_ot hoS) hS hu (by obtain ⟨q1, q2, q3, q4⟩ := hf; unfold pw_fn; omega) (by obtain ⟨q1, q2, q3, q4⟩ := hf; unfold pw_fo; omega) hr rfl (by simp) ?_ k
  rw [pw_e_arr hf, pw_nw_n hf2, pw_pa_q hk (hF 0), pw_nw_s]
  show (H.push _)[H.size]? = some (vp_cell _ _)
  rw [vp_cell_q]
  rw [show (fun j => va_rf (pw_rf (fun a b => if a = f ∧ b = pw_nv w f then H.size else ad a b) F (pw_df f j))) = fun _ => Value.null from funext fun j => by
    unfold pw_df; rw [hF, if_pos (by omega)]; rfl]
  rw [← arrV_new, Array.getElem?_push_size]
theorem pv_cast {F index : Nat} {C : String} {T : u_T} {N : Nat} {ty : Nat → FieldType} (hcf : pw_CF F C T N ty) (hl : Cond.classLink (pw_own cx) index C ∈ pw_g) (hd : decode (pw_cc cx) pc = .ok (.checkcast index, 3)) (hn : pc + 3 = n) (k : pw_V l g cx Q X n L ((F + 2, x) :: st) w) : pw_V l g cx Q X pc L ((F + 2, x) :: st) w := by
  subst hn
  intro p e R s m args below meth c H locs ls ad0 w0 ad hF hP hX hL hoL hoS hS hu
  have hk := k p e R s m args below meth c H locs ls ad0 w0 ad hF hP hX hL hoL hoS hS hu
  rw [List.map_cons] at hk ⊢
  by_cases hx : x < 0
  · have h1 : pw_ph ad (F + 2, x) = .null := by show va_rf (pw_rf ad F x) = _; unfold pw_rf; rw [if_pos hx]; rfl
    rw [h1] at hk ⊢
    exact lv_castN hF.1.1 hF.1.2.1 hd hk
  · have h0 : 0 ≤ x := Int32.not_lt.mp hx
    rw [pw_ph_ref h0] at hk ⊢
    obtain ⟨hc, -, -, -, -, hF9⟩ := hcf
    have hv := pw_at (Or.inl (by omega)) (hoS _ List.mem_cons_self) h0 (by omega)
    have ha := (hP.1 _ _ hv.2).1
    rw [pw_e_obj hF9] at ha
    obtain ⟨r', hr', cellV, g1, g2, g3, -⟩ := ha
    have hcls := (hF.2.2.2.2.1.1.1 F _ hc).2
    exact va_castS hF.1.1 hF.1.2.1 hF.1.2.2.2.2 (hF.2.1 _ hl) hcls ⟨cellV, g1, by rw [g3]; rfl, by rw [g2]; exact hcls.1⟩ hd hk
/-- what a return hands over -/
theorem pw_hq {p : Program} {R : Room} {s : State} {m : MethodId} {args : Array Value} {meth : Method} {c : Code} {H : Heap} {locs : List Loc} {ad0 : Nat → Nat → Nat} {w0 : pw_W} {ad : Nat → Nat → Nat} (hP : pw_P g ad w H) (hX : pw_x ad0 w0 ad w) (hS : va_S (pw_A g) s.heap H locs) (hu : w0.2.2.1 ≤ w.2.2.1 ∧ w0.2.2.2 ≤ w.2.2.2 ∧ w.2.2.1 ≤ 600104 ∧ w.2.2.2 ≤ 7301313) {rt : Nat} (hok : pw_ok w (rt, x)) (hQ : Q w x) {v : Option Value} (hv : v = if rt = 1 then none else some (pw_ph ad (rt, x))) :
    ∀ t : State, t.heap = H → s.WarmedH t.vm → pw_Qc g rt ad0 w0 Q args s (.returned v) t := fun t ht _ =>
  ⟨w, ad, x, by rw [hv], hok, hQ, by rw [ht]; exact hP, hX, hS.F ht, hu⟩
theorem pv_iret (hr : pw_ret cx = some .int) (ht : pw_rt cx = 0) (hd : decode (pw_cc cx) pc = .ok (.ireturn, 1)) (k : Q w x) : pw_V l g cx Q X pc L [(0, x)] w := by
  intro p e R s m args below meth c H locs ls ad0 w0 ad hF hP hX hL hoL hoS hS hu
  refine vx_ret (W.widen (k := R.cells) (n := R.slots) (by rw [hF.2.2.2.1.2.2.1]; omega) (by rw [hF.2.2.2.1.2.2.2]; omega) ?_)
  exact W.iret hF.1.1 hF.1.2.1 (hF.1.2.2.2.1.trans hr) (pw_hq (p := p) (R := R) (m := m) (meth := meth) (c := c) hP hX hS hu (by rw [ht]; trivial) k (by rw [ht]; rfl)) hS.2.2 hd hF.2.2.1.1
theorem pv_zret (hr : pw_ret cx = some .boolean) (ht : pw_rt cx = 0) (hd : decode (pw_cc cx) pc = .ok (.ireturn, 1)) (hz : x = 0 ∨ x = 1) (k : Q w x) : pw_V l g cx Q X pc L [(0, x)] w := by
  intro p e R s m args below meth c H locs ls ad0 w0 ad hF hP hX hL hoL hoS hS hu
  refine vx_ret (W.widen (k := R.cells) (n := R.slots) (by rw [hF.2.2.2.1.2.2.1]; omega) (by rw [hF.2.2.2.1.2.2.2]; omega) ?_)
  exact W.zret hF.1.1 hF.1.2.1 (hF.1.2.2.2.1.trans hr) (pw_nz hz) (pw_hq (p := p) (R := R) (m := m) (meth := meth) (c := c) hP hX hS hu (by rw [ht]; trivial) k (by rw [ht]; rfl)) hS.2.2 hd hF.2.2.1.1
theorem pv_vret (hr : pw_ret cx = none) (ht : pw_rt cx = 1) (hd : decode (pw_cc cx) pc = .ok (.return_, 1)) (k : Q w 0) : pw_V l g cx Q X pc L [] w := by
  intro p e R s m args below meth c H locs ls ad0 w0 ad hF hP hX hL hoL hoS hS hu
  refine vx_ret (W.widen (k := R.cells) (n := R.slots) (by rw [hF.2.2.2.1.2.2.1]; omega) (by rw [hF.2.2.2.1.2.2.2]; omega) ?_)
  exact W.vret hF.1.1 hF.1.2.1 (hF.1.2.2.2.1.trans hr) (pw_hq (p := p) (R := R) (m := m) (meth := meth) (c := c) hP hX hS hu (x := 0) (by rw [ht]; trivial) k (by rw [ht]; rfl)) hS.2.2 hd hF.2.2.1.1
theorem pv_aret {F : Nat} {rt : FieldType} (hr : pw_ret cx = some rt) (hrt : (∃ n, rt = .object n) ∨ ∃ t, rt = .array t) (ht : pw_rt cx = F + 2) (hd : decode (pw_cc cx) pc = .ok (.areturn, 1)) (k : Q w x) : pw_V l g cx Q X pc L [(F + 2, x)] w := by
  intro p e R s m args below meth c H locs ls ad0 w0 ad hF hP hX hL hoL hoS hS hu
  refine vx_ret (W.widen (k := R.cells) (n := R.slots) (by rw [hF.2.2.2.1.2.2.1]; omega) (by rw [hF.2.2.2.1.2.2.2]; omega) ?_)
  exact W.aret hF.1.1 hF.1.2.1 (hF.1.2.2.2.1.trans hr) hrt (pw_cases ad F x) (pw_hq (p := p) (R := R) (m := m) (meth := meth) (c := c) hP hX hS hu (by rw [ht]; exact hoS _ List.mem_cons_self) k (by rw [ht, if_neg (by omega)])) hS.2.2 hd hF.2.2.1.1
end PVM
