/-! the heap's rows -/
theorem pw_sum_same {b : Nat} {H H' : Heap} (h : ∀ q : Nat, (H'[q]?).map (·.slots.size) = (H[q]?).map (·.slots.size)) : pw_sum b H' = pw_sum b H := by
  have e : H'.toList.map (·.slots.size) = H.toList.map (·.slots.size) := by
    apply List.ext_getElem?
    intro i
    rw [List.getElem?_map, List.getElem?_map, Array.getElem?_toList, Array.getElem?_toList]
    exact h i
  unfold pw_sum
  rw [List.map_drop, List.map_drop, e]
theorem pw_sum_push {b : Nat} {H : Heap} {c : Cell} (h : b ≤ H.size) : pw_sum b (H.push c) = pw_sum b H + c.slots.size := by
  unfold pw_sum
  rw [Array.toList_push, List.drop_append_of_le_length (by simpa using h), List.map_append, List.sum_append]
  simp
theorem pw_v_eq {w w' : pw_W} (h : w'.2 = w.2) (f i : Nat) : pw_v w' f i = pw_v w f i := by
  unfold pw_v pw_nv pw_cp; rw [h]
theorem pw_nv_eq {w w' : pw_W} (h : w'.2 = w.2) (f : Nat) : pw_nv w' f = pw_nv w f := by
  unfold pw_nv; rw [h]
theorem pw_ln_eq {w w' : pw_W} (h : w'.2 = w.2) (f i : Nat) : pw_ln w' f i = pw_ln w f i := by
  unfold pw_ln; rw [h]
theorem pw_cp_eq {w w' : pw_W} (h : w'.2 = w.2) (f i : Nat) : pw_cp w' f i = pw_cp w f i := by
  unfold pw_cp; rw [h]
theorem pw_ok_eq {w w' : pw_W} (h : w'.2 = w.2) (q : Nat × Int32) : pw_ok w' q = pw_ok w q := by
  obtain ⟨t, x⟩ := q
  match t with
  | 0 => rfl
  | 1 => rfl
  | F + 2 =>
    show (_ ∨ _ ∨ (_ ∧ _ < pw_nv w' F ∧ _)) = (_ ∨ _ ∨ (_ ∧ _ < pw_nv w F ∧ _))
    rw [pw_nv_eq h]
theorem pw_ok_ps {w : pw_W} {f i k : Nat} {y : Int32} {q : Nat × Int32} (h : pw_ok w q) : pw_ok (pw_ps w f i k y) q := by
  rw [pw_ok_eq (w := w) (w' := pw_ps w f i k y) rfl]; exact h
theorem pw_P.upd {g : pw_G} {ad : Nat → Nat → Nat} {w w' : pw_W} {H H' : Heap} {f i : Nat} (hP : pw_P g ad w H) (hv : pw_v w f i) (hN : w'.2 = w.2)
    (he : ∀ f' i', pw_v w f' i' → ¬ (f' = f ∧ i' = i) → pw_e g ad w' f' i' = pw_e g ad w f' i')
    (hc : va_at g.1 pw_cl (ad f i, pw_e g ad w' f i) H')
    (ht : ∀ f i k, pw_fo f → i < pw_nv w f → k < pw_len w f i → pw_ok w (pw_ty f k, w'.1 f i k))
    (hsz : H'.size = H.size) (ho : ∀ q : Nat, q ≠ ad f i → H'[q]? = H[q]?) (hs : (H'[ad f i]?).map (·.slots.size) = (H[ad f i]?).map (·.slots.size)) : pw_P g ad w' H' := by
  obtain ⟨h1, h2, h3, h4, h5, h6, h7, h8⟩ := hP
  refine ⟨fun f' i' hv' => ?_, fun f1 i1 f2 i2 a b => h2 f1 i1 f2 i2 (by rwa [pw_v_eq hN] at a) (by rwa [pw_v_eq hN] at b), ?_, ?_, ⟨h5.1, ?_, h5.2.2⟩, by rw [hsz, h6, hN], ?_, fun a ha => by rw [pw_nv_eq hN]; exact h8 a ha⟩
  · rw [pw_v_eq hN] at hv'
    by_cases hq : f' = f ∧ i' = i
    · rw [hq.1, hq.2]
      exact ⟨hc, (h1 f i hv).2⟩
    · rw [he f' i' hv' hq]
      refine ⟨?_, (h1 f' i' hv').2⟩
      have hne : ad f' i' ≠ ad f i := fun e => hq (h2 _ _ _ _ hv' hv e)
      have ha := (h1 f' i' hv').1
      have hk := ho _ hne
      unfold va_at at ha ⊢
      split at ha
      · rw [hk]; exact ha
      · obtain ⟨r, e1, e2⟩ := ha
        exact ⟨r, e1, e2.kept hk⟩
  · intro f i k hf hi hk
    rw [pw_nv_eq hN] at hi
    rw [pw_ok_eq hN]
    refine ht f i k hf hi ?_
    unfold pw_len at hk ⊢
    rwa [pw_ln_eq hN] at hk
  · intro f i a b c
    rw [pw_nv_eq hN] at c
    rw [pw_ln_eq hN, pw_cp_eq hN]
    exact h4 f i a b c
  · rw [ho _ (fun e => by have := (h1 f i hv).2; rw [← e] at this; exact absurd h5.2.2 (by omega))]
    exact h5.2.1
  · rw [hN, ← h7]
    refine pw_sum_same fun q => ?_
    by_cases hq : q = ad f i
    · rw [hq]; exact hs
    · rw [ho q hq]
/-- what a family is that lies in cells of its own -/
abbrev pw_fc (f : Nat) : Prop := (f < 20 ∨ 40 ≤ f) ∧ (f < 320 ∨ 330 ≤ f)
theorem pw_e_ps {g : pw_G} {ad : Nat → Nat → Nat} {w : pw_W} {f i k : Nat} {x : Int32} (hf : pw_fc f) {f' i' : Nat} (hq : ¬ (f' = f ∧ i' = i)) : pw_e g ad (pw_ps w f i k x) f' i' = pw_e g ad w f' i' := by
  have h1 : ∀ j, (pw_ps w f i k x).1 f' i' j = w.1 f' i' j := fun j => if_neg (fun h => hq ⟨h.1, h.2.1⟩)
  have h1' : (pw_ps w f i k x).1 f' i' = w.1 f' i' := funext h1
  unfold pw_e
  by_cases c1 : f' < 9
  · rw [if_pos c1, if_pos c1]
    unfold pw_fs
    rw [h1']
  rw [if_neg c1, if_neg c1]
  by_cases c2 : 20 ≤ f' ∧ f' < 30
  · rw [if_pos c2, if_pos c2]
    have h2 : (pw_ps w f i k x).1 (f' + 300) i' 0 = w.1 (f' + 300) i' 0 := if_neg (fun h => by obtain ⟨a, b⟩ := hf; have := h.1; omega)
    rw [h2]; rfl
  rw [if_neg c2, if_neg c2]
  by_cases c3 : 30 ≤ f' ∧ f' < 40
  · rw [if_pos c3, if_pos c3]
    have h2 : (pw_ps w f i k x).1 (f' - 10) i' = w.1 (f' - 10) i' := funext fun j => if_neg (fun h => by obtain ⟨a, b⟩ := hf; have := h.1; omega)
    rw [h2]; rfl
  rw [if_neg c3, if_neg c3]
  unfold pw_pa
  rw [h1']; rfl
theorem pw_t_ps {w : pw_W} {f i k : Nat} {x : Int32} (hx : pw_ok w (pw_ty f k, x)) (h : ∀ f i k, pw_fo f → i < pw_nv w f → k < pw_len w f i → pw_ok w (pw_ty f k, w.1 f i k)) :
    ∀ f' i' k', pw_fo f' → i' < pw_nv w f' → k' < pw_len w f' i' → pw_ok w (pw_ty f' k', (pw_ps w f i k x).1 f' i' k') := by
  intro f' i' k' a b c
  show pw_ok w (pw_ty f' k', if f' = f ∧ i' = i ∧ k' = k then x else w.1 f' i' k')
  by_cases hq : f' = f ∧ i' = i ∧ k' = k
  · rw [if_pos hq, hq.1, hq.2.2]; exact hx
  · rw [if_neg hq]; exact h f' i' k' a b c
theorem pw_fs_get {ad : Nat → Nat → Nat} {w : pw_W} {f i k : Nat} (hk : k < pw_nf f) : (pw_fs ad w f i)[k]? = some (pw_ph ad (pw_ty f k, w.1 f i k)) := by
  unfold pw_fs
  rw [List.getElem?_map, List.getElem?_range hk]; rfl
theorem pw_fs_ps {ad : Nat → Nat → Nat} {w : pw_W} {f i k : Nat} {x : Int32} (hk : k < pw_nf f) : pw_fs ad (pw_ps w f i k x) f i = (pw_fs ad w f i).set k (pw_ph ad (pw_ty f k, x)) := by
  apply List.ext_getElem?
  intro j
  by_cases hj : j < pw_nf f
  · rw [pw_fs_get hj]
    show some (pw_ph ad (pw_ty f j, if f = f ∧ i = i ∧ j = k then x else w.1 f i j)) = _
    by_cases hjk : j = k
    · subst hjk
      rw [if_pos ⟨rfl, rfl, rfl⟩, List.getElem?_set_self (by unfold pw_fs; simpa using hk)]
    · rw [if_neg (fun h => hjk h.2.2), List.getElem?_set_ne (Ne.symm hjk), pw_fs_get hj]
  · have h1 : (pw_fs ad (pw_ps w f i k x) f i).length = pw_nf f := by unfold pw_fs; simp
    have h2 : ((pw_fs ad w f i).set k (pw_ph ad (pw_ty f k, x))).length = pw_nf f := by rw [List.length_set]; unfold pw_fs; simp
    rw [List.getElem?_eq_none (by omega), List.getElem?_eq_none (by omega)]
/-- what is known of a class -/
def pw_CF (f : Nat) (C : String) (T : u_T) (N : Nat) (ty : Nat → FieldType) : Prop :=
  pw_cl[f]? = some (C, T, N) ∧ (∀ w ∈ u_ws C T N, w ∈ pw_g) ∧ (∀ k, k < N → parseFieldDescriptor (T k).2.2.1 = some (ty k)) ∧ (∀ a, a < N → ∀ b, b < N → a ≠ b → (T a).2.1 ≠ (T b).2.1) ∧ N = pw_nf f ∧ f < 9
theorem pw_in {ws : List Cond} (h : ∀ w ∈ ws, w ∈ lw_tbl) (hg : ws.all goodWord = true) : ∀ w ∈ ws, w ∈ pw_g := fun w hw => List.mem_filter.mpr ⟨h w hw, List.all_eq_true.mp hg w hw⟩
theorem pw_cf0 : pw_CF 0 pw_R0 pw_T0 8 pw_t0 := ⟨rfl, pw_in pw_i0 (by decide +kernel), pw_o0, pw_n0, rfl, by decide⟩
theorem pw_cf1 : pw_CF 1 pw_R1 pw_T1 2 pw_t1 := ⟨rfl, pw_in pw_i1 (by decide +kernel), pw_o1, pw_n1, rfl, by decide⟩
theorem pw_cf2 : pw_CF 2 pw_R2 pw_T2 3 pw_t2 := ⟨rfl, pw_in pw_i2 (by decide +kernel), pw_o2, pw_n2, rfl, by decide⟩
theorem pw_cf3 : pw_CF 3 pw_R3 pw_T3 6 pw_t3 := ⟨rfl, pw_in pw_i3 (by decide +kernel), pw_o3, pw_n3, rfl, by decide⟩
theorem pw_cf4 : pw_CF 4 pw_R4 pw_T4 4 pw_t4 := ⟨rfl, pw_in pw_i4 (by decide +kernel), pw_o4, pw_n4, rfl, by decide⟩
theorem pw_cf5 : pw_CF 5 pw_R5 pw_T5 6 pw_t5 := ⟨rfl, pw_in pw_i5 (by decide +kernel), pw_o5, pw_n5, rfl, by decide⟩
theorem pw_cf6 : pw_CF 6 pw_R6 pw_T6 11 pw_t6 := ⟨rfl, pw_in pw_i6 (by decide +kernel), pw_o6, pw_n6, rfl, by decide⟩
theorem pw_cf7 : pw_CF 7 pw_R7 pw_T7 12 pw_t7 := ⟨rfl, pw_in pw_i7 (by decide +kernel), pw_o7, pw_n7, rfl, by decide⟩
theorem pw_cf8 : pw_CF 8 pw_R8 pw_T8 2 pw_t8 := ⟨rfl, pw_in pw_i8 (by decide +kernel), pw_o8, pw_n8, rfl, by decide⟩
section PVH
variable {l : Launch} {g : pw_G} {cx : pw_C} {Q : pw_W → Int32 → Prop} {X : pw_W → Nat → Prop} {pc n : Nat} {L st : List (Nat × Int32)} {w : pw_W} {x y : Int32} {t : Nat}
theorem pw_at {w : pw_W} {f : Nat} {x : Int32} (hf : pw_fo f) (h : pw_ok w (f + 2, x)) (h0 : 0 ≤ x) (h8 : f ≠ 2998) : pw_i x < pw_nv w f ∧ pw_v w f (pw_i x) := by
  have h1 : pw_i x < pw_nv w f := by
    rcases h with h1 | h1 | h1
    · exact absurd h1.1 h8
    · rw [show x = -1 from h1] at h0; exact absurd h0 (by decide)
    · exact h1.2.1
  refine ⟨h1, ?_⟩
  unfold pw_v
  rw [if_neg (by rcases hf with h | h <;> omega)]
  exact h1
theorem pw_ph_ref {ad : Nat → Nat → Nat} {f : Nat} {x : Int32} (h0 : 0 ≤ x) : pw_ph ad (f + 2, x) = .ref (ad f (pw_i x)) := by
  show va_rf (pw_rf ad f x) = _
  unfold pw_rf
  rw [if_neg (Int32.not_lt.mpr h0)]; rfl
theorem pw_e_obj {g : pw_G} {ad : Nat → Nat → Nat} {w : pw_W} {f i : Nat} (hf : f < 9) : pw_e g ad w f i = .inr (f, pw_fs ad w f i) := by unfold pw_e; rw [if_pos hf]
theorem pv_get {f k index : Nat} {C : String} {T : u_T} {N : Nat} {ty : Nat → FieldType} (hcf : pw_CF f C T N ty) (hk : k < N) (hl : Cond.fieldLink (pw_own cx) index (T k).1 (T k).2.1 (T k).2.2.1 ∈ pw_g) (hd : decode (pw_cc cx) pc = .ok (.getfield index, 3)) (hx : 0 ≤ x) (hn : pc + 3 = n)
    (k1 : pw_ok w (pw_ty f k, w.1 f (pw_i x) k) → pw_V l g cx Q X n L ((pw_ty f k, w.1 f (pw_i x) k) :: st) w) : pw_V l g cx Q X pc L ((f + 2, x) :: st) w := by
  subst hn
  intro p e R s m args below meth c H locs ls ad0 w0 ad hF hP hX hL hoL hoS hS hu
  obtain ⟨hc, hin, hty, hnm, hN, hf⟩ := hcf
  subst hN
  have hv := pw_at (Or.inl (by omega)) (hoS _ List.mem_cons_self) hx (by omega)
  have ha := (hP.1 _ _ hv.2).1
  rw [pw_e_obj hf] at ha
  rw [List.map_cons, pw_ph_ref hx]
  have hok : pw_ok w (pw_ty f k, w.1 f (pw_i x) k) := hP.2.2.1 f (pw_i x) k (Or.inl (by omega)) hv.1 (by unfold pw_len; rw [if_pos hf]; exact hk)
  exact va_get (ws := [(ad f (pw_i x), .inr (f, pw_fs ad w f (pw_i x)))]) hF.1.1 hF.1.2.1 hF.2.1 hin hF.1.2.2.2.2 hF.2.2.2.2.1.1 (fun k q hq => by
      have hz : k < 1 := (List.getElem?_eq_some_iff.mp hq).1
      rw [show k = 0 by omega] at hq
      cases hq
      exact ha) 0 rfl hc k hk (hF.2.1 _ hl) (fun _ h => h) (pw_fs_get hk) hd (k1 hok p e R s m args below meth c H locs ls ad0 w0 ad hF hP hX hL hoL (pw_oc hok (pw_ot hoS)) hS hu)
theorem pw_putP {g : pw_G} {ad : Nat → Nat → Nat} {w : pw_W} {H H' : Heap} {f i k : Nat} {y : Int32} {s : State} {args : Array Value} {own : String} {C : String} {T : u_T} {N : Nat} {ty : Nat → FieldType} {cell : Cell} (hcf : pw_CF f C T N ty) (hts : ∀ w ∈ pw_g, w.before args s = true) (hK : va_K g.1 pw_cl (pw_tys g) s)
    (hP : pw_P g ad w H) (hv : pw_v w f i) (hk : k < N) (hok : pw_ok w (pw_ty f k, y))
    (q1 : H[ad f i]? = some cell) (q2 : cell.cls = g.1.1 f) (q3 : cell.vm = .none) (q4 : ∀ j, j < N → cell.slots[g.1.2 f j]? = some (vp_V (pw_fs ad w f i) j))
    (e1 : H'[ad f i]? = some (cell.setSlot (g.1.2 f k) (pw_ph ad (pw_ty f k, y)))) (e2 : H'.size = H.size) (e3 : ∀ q : Nat, q ≠ ad f i → H'[q]? = H[q]?) : pw_P g ad (pw_ps w f i k y) H' := by
  obtain ⟨hc, hin, hty, hnm, hN, hf⟩ := hcf
  subst hN
  have hap := va_apart (own := own) hts hin ty hty hnm hK hc
  refine hP.upd hv rfl (fun f' i' _ hq => pw_e_ps ⟨Or.inl (by omega), Or.inl (by omega)⟩ hq) ?_ (pw_t_ps hok hP.2.2.1) e2 e3 ?_
  · rw [pw_e_obj hf, pw_fs_ps hk]
    exact ⟨_, hc, t_OB.to (V := updV (vp_V (pw_fs ad w f i)) k (pw_ph ad (pw_ty f k, y))) ⟨_, e1, q2, q3, t_set q4 hap hk _⟩ (fun j _ => vp_updV_set (by unfold pw_fs; simpa using hk) _ j)⟩
  · rw [e1, q1]
    show some (cell.setSlot _ _).slots.size = some cell.slots.size
    congr 1
    simp [Cell.setSlot]
theorem pv_put {f k index : Nat} {C : String} {T : u_T} {N : Nat} {ty : Nat → FieldType} (hcf : pw_CF f C T N ty) (hk : k < N) (hl : Cond.fieldLink (pw_own cx) index (T k).1 (T k).2.1 (T k).2.2.1 ∈ pw_g) (hfin : (T k).2.2.2 = false) (hd : decode (pw_cc cx) pc = .ok (.putfield index, 3)) (hx : 0 ≤ x)
    (hnar : ∀ ad, narrow (ty k) (pw_ph ad (pw_ty f k, y)) = pw_ph ad (pw_ty f k, y) ∧ fits (ty k) (pw_ph ad (pw_ty f k, y)) = true) (hn : pc + 3 = n)
    (k1 : pw_V l g cx Q X n L st (pw_ps w f (pw_i x) k y)) : pw_V l g cx Q X pc L ((pw_ty f k, y) :: (f + 2, x) :: st) w := by
  subst hn
  intro p e R s m args below meth c H locs ls ad0 w0 ad hF hP hX hL hoL hoS hS hu
  obtain ⟨hc, hin, hty, hnm, hN, hf⟩ := id hcf
  have hv := pw_at (Or.inl (by omega)) (hoS _ (List.mem_cons_of_mem _ List.mem_cons_self)) hx (by omega)
  have ha := (hP.1 _ _ hv.2).1
  rw [pw_e_obj hf] at ha
  rw [List.map_cons, List.map_cons, pw_ph_ref hx]
  have hb0 := (hP.1 _ _ hv.2).2
  have hK := hF.2.2.2.2.1.1
  obtain ⟨r, h1, cell, q1, q2, q3, q4⟩ := ha
  have hr : r = (C, T, N) := Option.some.inj (h1.symm.trans hc)
  subst hr
  obtain ⟨hS0, hfc, kC, hkC, hkind⟩ := hK.1 f _ hc
  obtain ⟨cf, kf, fi, fd, hi, hsl⟩ := hS0 k hk
  have hlay := hF.2.1 _ (hin _ (u_in_lay hk))
  unfold u_lay at hlay
  rw [if_neg (by rw [hfin]; decide)] at hlay
  have hst := (u_facts hfc hkC (u_lays hF.2.1 hin hk) hi).1
  have h6 := u_store hfc hkC hkind hlay hi (hty k hk) (hnar ad).1 (hnar ad).2
  refine W.putK hF.1.1 hF.1.2.1 (f := fd) ⟨hF.1.2.2.2.2, hF.2.1 _ hl, ⟨_, _, _, hi⟩, hst⟩ (by rw [q2]; exact h6) q1 q3 (by rw [hsl]; exact k2_hasslot (q4 k hk)) rfl rfl hd fun H' e1 e2 e3 => ?_
  rw [hsl] at e1 ⊢
  have hP' := pw_putP (own := pw_own cx) hcf hF.2.1 hK hP hv.2 hk (hoS _ List.mem_cons_self) q1 q2 q3 q4 e1 e2 e3
  have hok' : ∀ q, pw_ok w q → pw_ok (pw_ps w f (pw_i x) k y) q := fun q h => pw_ok_ps h
  exact k1 p e R s m args below meth c H' _ ls ad0 w0 ad hF hP' (hX.trans ⟨fun _ => Nat.le_refl _, fun _ _ _ _ => rfl, rfl⟩) hL (fun q h => hok' q (hoL q h)) (fun q h => hok' q (pw_ot (pw_ot hoS) q h)) (hS.put e2 e3 hb0) hu
theorem pv_putF {f k index : Nat} {C : String} {T : u_T} {N : Nat} {ty : Nat → FieldType} (hcf : pw_CF f C T N ty) (hk : k < N) (hl : Cond.fieldLink (pw_own cx) index (T k).1 (T k).2.1 (T k).2.2.1 ∈ pw_g) (hfin : (T k).2.2.2 = true) (hin2 : pw_nm cx = "<init>") (hdecl : (T k).1 = pw_own cx) (hd : decode (pw_cc cx) pc = .ok (.putfield index, 3)) (hx : 0 ≤ x)
    (hnar : ∀ ad, narrow (ty k) (pw_ph ad (pw_ty f k, y)) = pw_ph ad (pw_ty f k, y) ∧ fits (ty k) (pw_ph ad (pw_ty f k, y)) = true) (hn : pc + 3 = n)
    (k1 : pw_V l g cx Q X n L st (pw_ps w f (pw_i x) k y)) : pw_V l g cx Q X pc L ((pw_ty f k, y) :: (f + 2, x) :: st) w := by
  subst hn
  intro p e R s m args below meth c H locs ls ad0 w0 ad hF hP hX hL hoL hoS hS hu
  obtain ⟨hc, hin, hty, hnm, hN, hf⟩ := id hcf
  have hv := pw_at (Or.inl (by omega)) (hoS _ (List.mem_cons_of_mem _ List.mem_cons_self)) hx (by omega)
  have ha := (hP.1 _ _ hv.2).1
  rw [pw_e_obj hf] at ha
  rw [List.map_cons, List.map_cons, pw_ph_ref hx]
  have hb0 := (hP.1 _ _ hv.2).2
  have hK := hF.2.2.2.2.1.1
  obtain ⟨r, h1, cell, q1, q2, q3, q4⟩ := ha
  have hr : r = (C, T, N) := Option.some.inj (h1.symm.trans hc)
  subst hr
  obtain ⟨hS0, hfc, kC, hkC, hkind⟩ := hK.1 f _ hc
  obtain ⟨cf, kf, fi, fd, hi, hsl⟩ := hS0 k hk
  have hlay := hF.2.1 _ (hin _ (u_in_lay hk))
  unfold u_lay at hlay
  rw [if_pos hfin] at hlay
  have hst := (u_facts hfc hkC (u_lays hF.2.1 hin hk) hi).1
  have hcf1 : m.cls = cf := by
    obtain ⟨_, _, c', _, _, _, -, -, hf', -, -, -, hown2, -⟩ := Cond.laysFinal_spec hlay
    have e1 : c' = cf := by have := hi.symm.trans hf'; simp at this; exact this.1.symm
    rw [hdecl] at hown2
    rw [← e1]; exact Option.some.inj (hF.1.2.2.2.2.symm.trans hown2)
  have h6 := u_fits hfc hkC hkind (Or.inr hlay) hi (hty k hk) (hnar ad).1 (hnar ad).2
  refine W.putFinK hF.1.1 hF.1.2.1 hF.1.2.2.2.2 (hF.2.1 _ hl) hi hst hcf1 (hF.2.2.1.2.elim (fun h => absurd (h.2.symm.trans hin2) (by decide)) (fun h => h.2.trans hin2)) (by rw [q2]; exact h6) q1 q3 (by rw [hsl]; exact k2_hasslot (q4 k hk)) rfl rfl hd fun H' e1 e2 e3 => ?_
  rw [hsl] at e1 ⊢
  have hP' := pw_putP (own := pw_own cx) hcf hF.2.1 hK hP hv.2 hk (hoS _ List.mem_cons_self) q1 q2 q3 q4 e1 e2 e3
  have hok' : ∀ q, pw_ok w q → pw_ok (pw_ps w f (pw_i x) k y) q := fun q h => pw_ok_ps h
  exact k1 p e R s m args below meth c H' _ ls ad0 w0 ad hF hP' (hX.trans ⟨fun _ => Nat.le_refl _, fun _ _ _ _ => rfl, rfl⟩) hL (fun q h => hok' q (hoL q h)) (fun q h => hok' q (pw_ot (pw_ot hoS) q h)) (hS.put e2 e3 hb0) hu
end PVH
