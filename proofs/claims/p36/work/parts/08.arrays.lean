section PVA
variable {l : Launch} {g : pw_G} {cx : pw_C} {Q : pw_W → Int32 → Prop} {X : pw_W → Nat → Prop} {pc n : Nat} {L st : List (Nat × Int32)} {w : pw_W} {x y j : Int32} {t : Nat}
/-- a family of arrays -/
abbrev pw_ar (f : Nat) : Prop := 9 ≤ f ∧ (f < 20 ∨ 40 ≤ f) ∧ (f < 320 ∨ 330 ≤ f) ∧ f ≠ 2998
/-- a place of an array of n -/
def pw_jn (j : Int32) (n : Nat) : Prop := 0 ≤ j ∧ pw_i j < n
theorem pw_jn.vp {j : Int32} {n : Nat} (h : pw_jn j n) : vp_in j n := fun q => q.elim (fun q => absurd q (Int32.not_lt.mpr h.1)) (fun q => absurd h.2 (Nat.not_lt.mpr q))
theorem pw_e_arr {g : pw_G} {ad : Nat → Nat → Nat} {w : pw_W} {f i : Nat} (hf : pw_ar f) : pw_e g ad w f i = .inl (g.2.1 (pw_ak f), (pw_ln w f i, pw_pa ad w f i)) := by
  obtain ⟨h1, h2, h3, h4⟩ := hf
  unfold pw_e
  rw [if_neg (by omega), if_neg (by omega), if_neg (by omega)]
theorem pw_arv {g : pw_G} {ad : Nat → Nat → Nat} {w : pw_W} {H : Heap} {f : Nat} {x : Int32} (hf : pw_ar f) (hP : pw_P g ad w H) (hok : pw_ok w (f + 2, x)) (hx : 0 ≤ x) :
    pw_i x < pw_nv w f ∧ pw_v w f (pw_i x) ∧ H[ad f (pw_i x)]? = some (vp_cell (g.2.1 (pw_ak f)) (pw_ln w f (pw_i x), pw_pa ad w f (pw_i x))) ∧ pw_A g (ad f (pw_i x)) := by
  have h := pw_at (by obtain ⟨h1, h2, h3, h4⟩ := hf; unfold pw_fo; omega) hok hx hf.2.2.2
  have ha := hP.1 _ _ h.2
  rw [pw_e_arr hf] at ha
  exact ⟨h.1, h.2, ha.1, ha.2⟩
/-- the class of an array's cell -/
theorem pw_Kt {g : pw_G} {U : State} (hK : va_K g.1 pw_cl (pw_tys g) U) (k : Nat) {ty : FieldType} (h : (pw_tys g)[k]? = some (g.2.1 k, ty)) : ArrOfT U (g.2.1 k) ty ∧ va_RA U (g.2.1 k) ty := hK.2 k _ h
theorem pv_alen {f : Nat} (hf : pw_ar f) (ht : ∃ ty, (pw_tys g)[pw_ak f]? = some (g.2.1 (pw_ak f), ty)) (hd : decode (pw_cc cx) pc = .ok (.arraylength, 1)) (hx : 0 ≤ x) (hn : pc + 1 = n)
    (k : pw_V l g cx Q X n L ((0, Int32.ofNat (pw_ln w f (pw_i x))) :: st) w) : pw_V l g cx Q X pc L ((f + 2, x) :: st) w := by
  subst hn
  intro p e R s m args below meth c H locs ls ad0 w0 ad hF hP hX hL hoL hoS hS hu
  obtain ⟨h1, h2, h3, h4⟩ := pw_arv hf hP (hoS _ List.mem_cons_self) hx
  rw [List.map_cons, pw_ph_ref hx]
  obtain ⟨ty, hty⟩ := ht
  exact va_alen (ws := [(ad f (pw_i x), .inl (g.2.1 (pw_ak f), (pw_ln w f (pw_i x), pw_pa ad w f (pw_i x))))]) hF.1.1 hF.1.2.1 hF.2.2.2.2.1.1 (fun k q hq => by
      have hz : k < 1 := (List.getElem?_eq_some_iff.mp hq).1
      rw [show k = 0 by omega] at hq
      cases hq
      exact h3) 0 (pw_ak f) rfl hty rfl hd (k p e R s m args below meth c H locs ls ad0 w0 ad hF hP hX hL hoL (pw_oc trivial (pw_ot hoS)) hS hu)
theorem pw_pa_i {ad : Nat → Nat → Nat} {w : pw_W} {f i : Nat} (h : pw_ak f = 0 ∨ pw_ak f = 1) : pw_pa ad w f i = .inl (w.1 f i) := by
  unfold pw_pa
  rcases h with h | h <;> rw [h] <;> rfl
theorem pw_pa_l {ad : Nat → Nat → Nat} {w : pw_W} {f i : Nat} (h : pw_ak f = 2) : pw_pa ad w f i = .inr (.inl fun j => (w.1 f i j).toInt64) := by
  unfold pw_pa; rw [h]; rfl
theorem pw_pa_q {ad : Nat → Nat → Nat} {w : pw_W} {f i F : Nat} (h : pw_ak f = 3 ∨ pw_ak f = 4) (hF : pw_ty f 0 = F + 2) : pw_pa ad w f i = .inr (.inr (.inr (.inr fun j => pw_rf ad F (w.1 f i j)))) := by
  unfold pw_pa
  rw [hF]
  rcases h with h | h <;> rw [h] <;> rfl
theorem pv_iald {f : Nat} (hf : pw_ar f) (hk : pw_ak f = 0) (hd : decode (pw_cc cx) pc = .ok (.iaload, 1)) (hx : 0 ≤ x) (hj : pw_jn j (pw_ln w f (pw_i x))) (hn : pc + 1 = n)
    (k : pw_V l g cx Q X n L ((0, w.1 f (pw_i x) (pw_i j)) :: st) w) : pw_V l g cx Q X pc L ((0, j) :: (f + 2, x) :: st) w := by
  subst hn
  intro p e R s m args below meth c H locs ls ad0 w0 ad hF hP hX hL hoL hoS hS hu
  obtain ⟨h1, h2, h3, h4⟩ := pw_arv hf hP (hoS _ (List.mem_cons_of_mem _ List.mem_cons_self)) hx
  rw [List.map_cons, List.map_cons, pw_ph_ref hx]
  rw [pw_pa_i (Or.inl hk), hk] at h3
  exact va_iald (ws := [(ad f (pw_i x), .inl (g.2.1 0, (pw_ln w f (pw_i x), .inl (w.1 f (pw_i x)))))]) hF.1.1 hF.1.2.1 hF.2.2.2.2.1.1 (fun k q hq => by
      have hz : k < 1 := (List.getElem?_eq_some_iff.mp hq).1
      rw [show k = 0 by omega] at hq
      cases hq
      exact h3) 0 0 rfl rfl hj.vp hd (k p e R s m args below meth c H locs ls ad0 w0 ad hF hP hX hL hoL (pw_oc trivial (pw_ot (pw_ot hoS))) hS hu)
theorem pv_zald {f : Nat} (hf : pw_ar f) (hk : pw_ak f = 1) (hd : decode (pw_cc cx) pc = .ok (.baload, 1)) (hx : 0 ≤ x) (hj : pw_jn j (pw_ln w f (pw_i x))) (hn : pc + 1 = n)
    (k : pw_V l g cx Q X n L ((0, w.1 f (pw_i x) (pw_i j)) :: st) w) : pw_V l g cx Q X pc L ((0, j) :: (f + 2, x) :: st) w := by
  subst hn
  intro p e R s m args below meth c H locs ls ad0 w0 ad hF hP hX hL hoL hoS hS hu
  obtain ⟨h1, h2, h3, h4⟩ := pw_arv hf hP (hoS _ (List.mem_cons_of_mem _ List.mem_cons_self)) hx
  rw [List.map_cons, List.map_cons, pw_ph_ref hx]
  rw [pw_pa_i (Or.inr hk), hk] at h3
  exact va_zald (ws := [(ad f (pw_i x), .inl (g.2.1 1, (pw_ln w f (pw_i x), .inl (w.1 f (pw_i x)))))]) hF.1.1 hF.1.2.1 hF.2.2.2.2.1.1 (fun k q hq => by
      have hz : k < 1 := (List.getElem?_eq_some_iff.mp hq).1
      rw [show k = 0 by omega] at hq
      cases hq
      exact h3) 0 1 rfl rfl hj.vp hd (k p e R s m args below meth c H locs ls ad0 w0 ad hF hP hX hL hoL (pw_oc trivial (pw_ot (pw_ot hoS))) hS hu)
theorem pv_aald {f F : Nat} (hf : pw_ar f) {C : String} (hk : (pw_ak f = 3 ∧ C = "Peatland$Square") ∨ (pw_ak f = 4 ∧ C = "Peatland$Person")) (ht : ∀ j, pw_ty f j = F + 2) (hd : decode (pw_cc cx) pc = .ok (.aaload, 1)) (hx : 0 ≤ x) (hj : pw_jn j (pw_ln w f (pw_i x))) (hn : pc + 1 = n)
    (k : pw_ok w (F + 2, w.1 f (pw_i x) (pw_i j)) → pw_V l g cx Q X n L ((F + 2, w.1 f (pw_i x) (pw_i j)) :: st) w) : pw_V l g cx Q X pc L ((0, j) :: (f + 2, x) :: st) w := by
  subst hn
  intro p e R s m args below meth c H locs ls ad0 w0 ad hF hP hX hL hoL hoS hS hu
  obtain ⟨h1, h2, h3, h4⟩ := pw_arv hf hP (hoS _ (List.mem_cons_of_mem _ List.mem_cons_self)) hx
  rw [List.map_cons, List.map_cons, pw_ph_ref hx]
  rw [pw_pa_q (hk.imp (fun h => h.1) (fun h => h.1)) (ht 0)] at h3
  have hok : pw_ok w (F + 2, w.1 f (pw_i x) (pw_i j)) := by
    rw [← ht (pw_i j)]
    obtain ⟨q1, q2, q3, q4⟩ := hf
    exact hP.2.2.1 f (pw_i x) (pw_i j) (by unfold pw_fo; omega) h1 (by unfold pw_len; rw [if_neg (by omega)]; exact hj.2)
  exact va_aldq (ws := [(ad f (pw_i x), .inl (g.2.1 (pw_ak f), (pw_ln w f (pw_i x), .inr (.inr (.inr (.inr fun j => pw_rf ad F (w.1 f (pw_i x) j)))))))]) hF.1.1 hF.1.2.1 hF.2.2.2.2.1.1 (fun k q hq => by
      have hz : k < 1 := (List.getElem?_eq_some_iff.mp hq).1
      rw [show k = 0 by omega] at hq
      cases hq
      exact h3) 0 (pw_ak f) rfl (C := C) (by rcases hk with ⟨h, rfl⟩ | ⟨h, rfl⟩ <;> rw [h] <;> rfl) hj.vp hd (k hok p e R s m args below meth c H locs ls ad0 w0 ad hF hP hX hL hoL (pw_oc hok (pw_ot (pw_ot hoS))) hS hu)
theorem pw_cell_sz (cA : ClassId) (n : Nat) (p : (Nat → Int32) ⊕ (Nat → Int64) ⊕ (Nat → UInt32) ⊕ (Nat → UInt64) ⊕ (Nat → Option Nat)) : (vp_cell cA (n, p)).slots.size = n := by
  rcases p with f | f | f | f | f
  · rw [vp_cell_i, arrV_size]
  · rw [vp_cell_l, arrV_size]
  · rw [vp_cell_f, arrV_size]
  · rw [vp_cell_d, arrV_size]
  · rw [vp_cell_q, arrV_size]
/-- the world behind a store into an array -/
theorem pw_P.ast {g : pw_G} {ad : Nat → Nat → Nat} {w : pw_W} {H H1 : Heap} {f i k : Nat} {y : Int32} (hf : pw_ar f) (hP : pw_P g ad w H) (hv : pw_v w f i) (hok : pw_ok w (pw_ty f k, y))
    (h3 : H[ad f i]? = some (vp_cell (g.2.1 (pw_ak f)) (pw_ln w f i, pw_pa ad w f i))) (e1 : H1[ad f i]? = some (vp_cell (g.2.1 (pw_ak f)) (pw_ln w f i, pw_pa ad (pw_ps w f i k y) f i))) (e2 : H1.size = H.size) (e3 : ∀ q : Nat, q ≠ ad f i → H1[q]? = H[q]?) : pw_P g ad (pw_ps w f i k y) H1 := by
  refine hP.upd hv rfl (fun f' i' _ hq => pw_e_ps ?_ hq) ?_ (pw_t_ps hok hP.2.2.1) e2 e3 ?_
  · obtain ⟨q1, q2, q3, q4⟩ := hf; unfold pw_fc; omega
  · rw [pw_e_arr hf]
    exact e1
  · rw [e1, h3]
    exact congrArg some ((pw_cell_sz _ _ _).trans (pw_cell_sz _ _ _).symm)
theorem pw_fun_ps {w : pw_W} {f i k : Nat} {y : Int32} : (pw_ps w f i k y).1 f i = fun j => if j = k then y else w.1 f i j := by
  funext j
  show (if f = f ∧ i = i ∧ j = k then y else w.1 f i j) = _
  by_cases h : j = k
  · rw [if_pos ⟨rfl, rfl, h⟩, if_pos h]
  · rw [if_neg (fun q => h q.2.2), if_neg h]
theorem pv_iast {f : Nat} (hf : pw_ar f) (hk : pw_ak f = 0) (ht : ∀ j, pw_ty f j = 0) (hd : decode (pw_cc cx) pc = .ok (.iastore, 1)) (hx : 0 ≤ x) (hj : pw_jn j (pw_ln w f (pw_i x))) (hn : pc + 1 = n)
    (k1 : pw_V l g cx Q X n L st (pw_ps w f (pw_i x) (pw_i j) y)) : pw_V l g cx Q X pc L ((0, y) :: (0, j) :: (f + 2, x) :: st) w := by
  subst hn
  intro p e R s m args below meth c H locs ls ad0 w0 ad hF hP hX hL hoL hoS hS hu
  obtain ⟨h1, h2, h3, h4⟩ := pw_arv hf hP (hoS _ (List.mem_cons_of_mem _ (List.mem_cons_of_mem _ List.mem_cons_self))) hx
  rw [List.map_cons, List.map_cons, List.map_cons, pw_ph_ref hx]
  have h3' := h3
  rw [pw_pa_i (Or.inl hk), hk, vp_cell_i] at h3'
  refine W.iast hF.1.1 hF.1.2.1 h3' ((pw_Kt hF.2.2.2.2.1.1 0 rfl).1 _ (fun j => .int (w.1 f (pw_i x) j))) (fun q => by cases q) (by rw [arrV_size]; exact hj.vp) rfl rfl hd fun H1 e1 e2 e3 => ?_
  have hP' := hP.ast (k := pw_i j) (y := y) hf h2 (by rw [ht]; trivial) h3 (by
    rw [e1, arrV_store, pw_pa_i (Or.inl hk), hk, vp_cell_i, pw_fun_ps]
    congr 2
    funext q
    show (if q = pw_i j then _ else _) = Value.int (if q = pw_i j then y else _)
    by_cases hq : q = pw_i j
    · rw [if_pos hq, if_pos hq]
    · rw [if_neg hq, if_neg hq]) e2 e3
  exact k1 p e R s m args below meth c H1 _ ls ad0 w0 ad hF hP' (hX.trans ⟨fun _ => Nat.le_refl _, fun _ _ _ _ => rfl, rfl⟩) hL (fun q h => pw_ok_ps (hoL q h)) (fun q h => pw_ok_ps (pw_ot (pw_ot (pw_ot hoS)) q h)) (hS.put e2 e3 h4) hu
theorem pw_nz {y : Int32} (h : y = 0 ∨ y = 1) : narrow .boolean (.int y) = .int y := by rcases h with rfl | rfl <;> rfl
theorem pv_zast {f : Nat} (hf : pw_ar f) (hk : pw_ak f = 1) (ht : ∀ j, pw_ty f j = 0) (hd : decode (pw_cc cx) pc = .ok (.bastore, 1)) (hx : 0 ≤ x) (hj : pw_jn j (pw_ln w f (pw_i x))) (hy : y = 0 ∨ y = 1) (hn : pc + 1 = n)
    (k1 : pw_V l g cx Q X n L st (pw_ps w f (pw_i x) (pw_i j) y)) : pw_V l g cx Q X pc L ((0, y) :: (0, j) :: (f + 2, x) :: st) w := by
  subst hn
  intro p e R s m args below meth c H locs ls ad0 w0 ad hF hP hX hL hoL hoS hS hu
  obtain ⟨h1, h2, h3, h4⟩ := pw_arv hf hP (hoS _ (List.mem_cons_of_mem _ (List.mem_cons_of_mem _ List.mem_cons_self))) hx
  rw [List.map_cons, List.map_cons, List.map_cons, pw_ph_ref hx]
  have h3' := h3
  rw [pw_pa_i (Or.inr hk), hk, vp_cell_i] at h3'
  refine W.zast hF.1.1 hF.1.2.1 h3' ((pw_Kt hF.2.2.2.2.1.1 1 rfl).1 _ (fun j => .int (w.1 f (pw_i x) j))) (fun q => by cases q) (by rw [arrV_size]; exact hj.vp) rfl rfl hd fun H1 e1 e2 e3 => ?_
  rw [pw_nz hy] at e1
  have hP' := hP.ast (k := pw_i j) (y := y) hf h2 (by rw [ht]; trivial) h3 (by
    rw [e1, arrV_store, pw_pa_i (Or.inr hk), hk, vp_cell_i, pw_fun_ps]
    congr 2
    funext q
    show (if q = pw_i j then _ else _) = Value.int (if q = pw_i j then y else _)
    by_cases hq : q = pw_i j
    · rw [if_pos hq, if_pos hq]
    · rw [if_neg hq, if_neg hq]) e2 e3
  exact k1 p e R s m args below meth c H1 _ ls ad0 w0 ad hF hP' (hX.trans ⟨fun _ => Nat.le_refl _, fun _ _ _ _ => rfl, rfl⟩) hL (fun q h => pw_ok_ps (hoL q h)) (fun q h => pw_ok_ps (pw_ot (pw_ot (pw_ot hoS)) q h)) (hS.put e2 e3 h4) hu
theorem pv_aast {f F : Nat} (hf : pw_ar f) {C : String} {T : u_T} {N : Nat} {ty : Nat → FieldType} (hk : pw_ak f = 3 ∨ pw_ak f = 4) (hcf : pw_CF F C T N ty) (ht1 : (pw_tys g)[pw_ak f]? = some (g.2.1 (pw_ak f), .object C)) (ht : ∀ j, pw_ty f j = F + 2) (hd : decode (pw_cc cx) pc = .ok (.aastore, 1)) (hx : 0 ≤ x) (hj : pw_jn j (pw_ln w f (pw_i x))) (hy : 0 ≤ y) (hn : pc + 1 = n)
    (k1 : pw_V l g cx Q X n L st (pw_ps w f (pw_i x) (pw_i j) y)) : pw_V l g cx Q X pc L ((F + 2, y) :: (0, j) :: (f + 2, x) :: st) w := by
  subst hn
  intro p e R s m args below meth c H locs ls ad0 w0 ad hF hP hX hL hoL hoS hS hu
  obtain ⟨h1, h2, h3, h4⟩ := pw_arv hf hP (hoS _ (List.mem_cons_of_mem _ (List.mem_cons_of_mem _ List.mem_cons_self))) hx
  obtain ⟨hc, -, -, -, -, hF9⟩ := hcf
  have hvy := pw_at (Or.inl (by omega)) (hoS _ List.mem_cons_self) hy (by omega)
  have hay := (hP.1 _ _ hvy.2).1
  rw [pw_e_obj hF9] at hay
  obtain ⟨r', hr', cellV, g1, g2, g3, -⟩ := hay
  rw [List.map_cons, List.map_cons, List.map_cons, pw_ph_ref hx, pw_ph_ref hy]
  have h3' := h3
  rw [pw_pa_q hk (ht 0), vp_cell_q] at h3'
  have hcls := (hF.2.2.2.2.1.1.1 F _ hc).2
  obtain ⟨kA, comp, k1', k2, k3, -⟩ := (pw_Kt hF.2.2.2.2.1.1 (pw_ak f) ht1).2
  have hcomp : comp = g.1.1 F := Option.some.inj (k3.symm.trans hcls.1)
  subst hcomp
  obtain ⟨kC, hkC, -⟩ := hcls.2
  refine W.aast hF.1.1 hF.1.2.1 h3' (fun q h => by cases h) (fun h => by cases h) k1' k2 rfl hkC ⟨Int32.not_lt.mpr hj.1, by rw [arrV_size]; exact hj.2⟩ g1 (fun q h => by rw [g3] at h; cases h) (by rw [g2]; exact hkC) (by rw [g2]; exact va_assign hcls) rfl rfl hd fun H1 e1 e2 e3 => ?_
  have hP' := hP.ast (k := pw_i j) (y := y) hf h2 (by rw [ht]; exact hoS _ List.mem_cons_self) h3 (by
    rw [e1, arrV_store, pw_pa_q hk (ht 0), vp_cell_q, pw_fun_ps]
    congr 2
    funext q
    show (if q = pw_i j then _ else _) = va_rf (pw_rf ad F (if q = pw_i j then y else _))
    by_cases hq : q = pw_i j
    · rw [if_pos hq, if_pos hq]
      unfold pw_rf
      rw [if_neg (Int32.not_lt.mpr hy)]; rfl
    · rw [if_neg hq, if_neg hq]) e2 e3
  exact k1 p e R s m args below meth c H1 _ ls ad0 w0 ad hF hP' (hX.trans ⟨fun _ => Nat.le_refl _, fun _ _ _ _ => rfl, rfl⟩) hL (fun q h => pw_ok_ps (hoL q h)) (fun q h => pw_ok_ps (pw_ot (pw_ot (pw_ot hoS)) q h)) (hS.put e2 e3 h4) hu
end PVA
