section PVK
theorem pw_hp0 {P : ExceptionTableEntry → Prop} : ∀ z ∈ ([] : List ExceptionTableEntry), P z := fun z h => by cases h
theorem pw_hp1 {P : ExceptionTableEntry → Prop} {a : ExceptionTableEntry} (h : P a) : ∀ z ∈ [a], P z := fun z hz => by
  rcases List.mem_cons.mp hz with rfl | hz
  · exact h
  · cases hz
theorem pw_hp2 {P : ExceptionTableEntry → Prop} {a b : ExceptionTableEntry} (h : P a) (h2 : P b) : ∀ z ∈ [a, b], P z := fun z hz => by
  rcases List.mem_cons.mp hz with rfl | hz
  · exact h
  · exact pw_hp1 h2 z hz
variable {l : Launch} {g : pw_G} {cx : pw_C} {Q : pw_W → Int32 → Prop} {X : pw_W → Nat → Prop} {pc n : Nat} {L st : List (Nat × Int32)} {w : pw_W} {x y j : Int32}
theorem pw_nq {F : Nat} {ty : FieldType} {y : Int32} (h : (∃ n, ty = .object n) ∨ ∃ t, ty = .array t) : ∀ ad, narrow ty (pw_ph ad (F + 2, y)) = pw_ph ad (F + 2, y) ∧ fits ty (pw_ph ad (F + 2, y)) = true := by
  intro ad
  rcases h with ⟨n, rfl⟩ | ⟨t, rfl⟩ <;> rcases pw_cases ad F y with h | ⟨a, h⟩ <;> rw [h] <;> exact ⟨rfl, rfl⟩
theorem pw_fz {y : Int32} (h : y = 0 ∨ y = 1) : fits .boolean (.int y) = true := by rcases h with rfl | rfl <;> rfl
theorem pv_iast1 {f : Nat} (hf : pw_ar f) (hk : pw_ak f = 0) (ht : ∀ j, pw_ty f j = 0) (hd : decode (pw_cc cx) pc = .ok (.iastore, 1)) (hx : 0 ≤ x) (hj : pw_jn j (pw_ln w f (pw_i x))) (hn : pc + 1 = n)
    (kk : ∀ w1, w1 = pw_ps w f (pw_i x) (pw_i j) y → pw_V l g cx Q X n L st w1) : pw_V l g cx Q X pc L ((0, y) :: (0, j) :: (f + 2, x) :: st) w := pv_iast hf hk ht hd hx hj hn (kk _ rfl)
theorem pv_zast1 {f : Nat} (hf : pw_ar f) (hk : pw_ak f = 1) (ht : ∀ j, pw_ty f j = 0) (hd : decode (pw_cc cx) pc = .ok (.bastore, 1)) (hx : 0 ≤ x) (hj : pw_jn j (pw_ln w f (pw_i x))) (hy : y = 0 ∨ y = 1) (hn : pc + 1 = n)
    (kk : ∀ w1, w1 = pw_ps w f (pw_i x) (pw_i j) y → pw_V l g cx Q X n L st w1) : pw_V l g cx Q X pc L ((0, y) :: (0, j) :: (f + 2, x) :: st) w := pv_zast hf hk ht hd hx hj hy hn (kk _ rfl)
theorem pv_aast1 {f F : Nat} (hf : pw_ar f) {C : String} {T : u_T} {N : Nat} {ty : Nat → FieldType} (hk : pw_ak f = 3 ∨ pw_ak f = 4) (hcf : pw_CF F C T N ty) (ht1 : (pw_tys g)[pw_ak f]? = some (g.2.1 (pw_ak f), .object C)) (ht : ∀ j, pw_ty f j = F + 2) (hd : decode (pw_cc cx) pc = .ok (.aastore, 1)) (hx : 0 ≤ x) (hj : pw_jn j (pw_ln w f (pw_i x))) (hy : 0 ≤ y) (hn : pc + 1 = n)
    (kk : ∀ w1, w1 = pw_ps w f (pw_i x) (pw_i j) y → pw_V l g cx Q X n L st w1) : pw_V l g cx Q X pc L ((F + 2, y) :: (0, j) :: (f + 2, x) :: st) w := pv_aast hf hk hcf ht1 ht hd hx hj hy hn (kk _ rfl)
theorem pv_nwa_int {f : Nat} (hf : pw_ar f) (hf2 : f ≠ 1000) (hk : pw_ak f = 0) (hdf : ∀ k, pw_df f k = 0) (hw : Cond.arrayClass .int ∈ pw_g) (hd : decode (pw_cc cx) pc = .ok (.newarray .int, 2)) (h0 : 0 ≤ x) (hb : pw_i x ≤ 60000) (hr : pw_rm w f (pw_i x)) (hn : pc + 2 = n)
    (kk : ∀ w1, w1 = pw_nw w f (pw_i x) (pw_i x) → pw_V l g cx Q X n L ((f + 2, nI (pw_nv w f)) :: st) w1) : pw_V l g cx Q X pc L ((0, x) :: st) w :=
  pv_newarr (atype := .int) hf hf2 (Or.inl hk) (by rw [hk]; rfl) hdf (fun v hv cA N ad w i _ h => by rw [pw_pa_i (Or.inl hk), vp_cell_i, h]; exact congrArg (arrV cA N) (funext fun k => by rw [hv]; rfl)) hw hd h0 (by show pw_i x * 4 ≤ _; omega) hr hn (kk _ rfl)
theorem pv_nwa_boolean {f : Nat} (hf : pw_ar f) (hf2 : f ≠ 1000) (hk : pw_ak f = 1) (hdf : ∀ k, pw_df f k = 0) (hw : Cond.arrayClass .boolean ∈ pw_g) (hd : decode (pw_cc cx) pc = .ok (.newarray .boolean, 2)) (h0 : 0 ≤ x) (hb : pw_i x ≤ 60000) (hr : pw_rm w f (pw_i x)) (hn : pc + 2 = n)
    (kk : ∀ w1, w1 = pw_nw w f (pw_i x) (pw_i x) → pw_V l g cx Q X n L ((f + 2, nI (pw_nv w f)) :: st) w1) : pw_V l g cx Q X pc L ((0, x) :: st) w :=
  pv_newarr (atype := .boolean) hf hf2 (Or.inr (Or.inl hk)) (by rw [hk]; rfl) hdf (fun v hv cA N ad w i _ h => by rw [pw_pa_i (Or.inr hk), vp_cell_i, h]; exact congrArg (arrV cA N) (funext fun k => by rw [hv]; rfl)) hw hd h0 (by show pw_i x * 1 ≤ _; omega) hr hn (kk _ rfl)
theorem pv_nwa0_int {f : Nat} (g0 : pw_nv w f = 0) (hf : pw_ar f) (hf2 : f ≠ 1000) (hk : pw_ak f = 0) (hdf : ∀ k, pw_df f k = 0) (hw : Cond.arrayClass .int ∈ pw_g) (hd : decode (pw_cc cx) pc = .ok (.newarray .int, 2)) (h0 : 0 ≤ x) (hb : pw_i x ≤ 60000) (hr : pw_rm w f (pw_i x)) (hn : pc + 2 = n)
    (kk : ∀ w1, w1 = pw_nw w f (pw_i x) (pw_i x) → pw_V l g cx Q X n L ((f + 2, 0) :: st) w1) : pw_V l g cx Q X pc L ((0, x) :: st) w :=
  pv_nwa_int hf hf2 hk hdf hw hd h0 hb hr hn (fun w1 e => by rw [g0]; exact kk w1 e)
theorem pv_nwa0_boolean {f : Nat} (g0 : pw_nv w f = 0) (hf : pw_ar f) (hf2 : f ≠ 1000) (hk : pw_ak f = 1) (hdf : ∀ k, pw_df f k = 0) (hw : Cond.arrayClass .boolean ∈ pw_g) (hd : decode (pw_cc cx) pc = .ok (.newarray .boolean, 2)) (h0 : 0 ≤ x) (hb : pw_i x ≤ 60000) (hr : pw_rm w f (pw_i x)) (hn : pc + 2 = n)
    (kk : ∀ w1, w1 = pw_nw w f (pw_i x) (pw_i x) → pw_V l g cx Q X n L ((f + 2, 0) :: st) w1) : pw_V l g cx Q X pc L ((0, x) :: st) w :=
  pv_nwa_boolean hf hf2 hk hdf hw hd h0 hb hr hn (fun w1 e => by rw [g0]; exact kk w1 e)
theorem pv_anw0 {f F index : Nat} {C : String} (g0 : pw_nv w f = 0) (hf : pw_ar f) (hf2 : f ≠ 1000) (hk : pw_ak f = 3 ∨ pw_ak f = 4) (ht : (pw_tys g)[pw_ak f]? = some (g.2.1 (pw_ak f), .object C)) (hF : ∀ k, pw_ty f k = F + 2)
    (hl : Cond.classLink (pw_own cx) index C ∈ pw_g) (hC : C = "Peatland$Square" ∨ C = "Peatland$Person") (hd : decode (pw_cc cx) pc = .ok (.anewarray index, 3)) (h0 : 0 ≤ x) (hb : pw_i x ≤ 60000) (hr : pw_rm w f (pw_i x)) (hn : pc + 3 = n)
    (kk : ∀ w1, w1 = pw_nw w f (pw_i x) (pw_i x) → pw_V l g cx Q X n L ((f + 2, 0) :: st) w1) : pw_V l g cx Q X pc L ((0, x) :: st) w :=
  pv_anew hf hf2 hk ht hF hl hC hd h0 (by omega) hr hn (by rw [g0]; exact kk _ rfl)
theorem pv_lnew0 {f ik ic : Nat} (g0 : pw_nv w f = 0) (hf : pw_lf f) (hl : Cond.classLink (pw_own cx) ik "java/util/ArrayList" ∈ pw_g) (hm : Cond.methodLink (pw_own cx) ic ⟨"java/util/ArrayList", "<init>", "()V"⟩ ∈ pw_g) (hR : 4 ≤ pw_fr cx ∧ 80 ≤ pw_lo cx) (hlw : pw_lw st = true) (hl7 : st.length ≤ 7)
    (d0 : decode (pw_cc cx) pc = .ok (.new ik, 3)) (d3 : decode (pw_cc cx) (pc + 3) = .ok (.dup, 1)) (d4 : decode (pw_cc cx) (pc + 4) = .ok (.invokespecial ic, 3)) (hr : pw_rm w f 3) (hn : pc + 7 = n)
    (kk : ∀ w1, w1 = pw_nl w f → pw_V l g cx Q X n L ((f + 2, 0) :: st) w1) : pw_V l g cx Q X pc L st w :=
  pv_lnew hf hl hm hR hlw hl7 d0 d3 d4 hr hn (fun w1 e => by rw [g0]; exact kk w1 e)
/-- the script -/
def pw_sc (g : pw_G) (Ln : Nat) (xs : Nat → Int32) : Prop := g.2.2.2.2.2.slots.size = Ln ∧ ∀ j, j < Ln → g.2.2.2.2.2.slots[j]? = some (.int (xs j))
theorem pv_slen {Ln : Nat} {xs : Nat → Int32} (hsc : pw_sc g Ln xs) (hd : decode (pw_cc cx) pc = .ok (.arraylength, 1)) (hn : pc + 1 = n) (k : pw_V l g cx Q X n L ((0, nI Ln) :: st) w) : pw_V l g cx Q X pc L ((3000, 0) :: st) w := by
  subst hn
  intro p e R s m args below meth c H locs ls ad0 w0 ad hF hP hX hL hoL hoS hS hu
  have hk := k p e R s m args below meth c H locs ls ad0 w0 ad hF hP hX hL hoL (pw_oc trivial (pw_ot hoS)) hS hu
  rw [List.map_cons, pw_ph_ref (f := 2998) (by decide)]
  rw [show ad 2998 (pw_i 0) = g.2.2.2.2.1 from hP.2.2.2.2.1.1]
  exact W.alen (n := nI Ln) hF.1.1 hF.1.2.1 hP.2.2.2.2.1.2.1 hF.2.2.2.2.1.2.2.2.2.2.2.2.1.1 (by rw [hsc.1]; rfl) rfl rfl hd hk
theorem pv_sld {Ln : Nat} {xs : Nat → Int32} (hsc : pw_sc g Ln xs) (hd : decode (pw_cc cx) pc = .ok (.iaload, 1)) (hj : pw_jn j Ln) (hn : pc + 1 = n) (k : pw_V l g cx Q X n L ((0, xs (pw_i j)) :: st) w) : pw_V l g cx Q X pc L ((0, j) :: (3000, 0) :: st) w := by
  subst hn
  intro p e R s m args below meth c H locs ls ad0 w0 ad hF hP hX hL hoL hoS hS hu
  have hk := k p e R s m args below meth c H locs ls ad0 w0 ad hF hP hX hL hoL (pw_oc trivial (pw_ot (pw_ot hoS))) hS hu
  rw [List.map_cons, List.map_cons, pw_ph_ref (f := 2998) (by decide)]
  rw [show ad 2998 (pw_i 0) = g.2.2.2.2.1 from hP.2.2.2.2.1.1]
  exact W.iald (v := .int (xs (pw_i j))) hF.1.1 hF.1.2.1 hP.2.2.2.2.1.2.1 hF.2.2.2.2.1.2.2.2.2.2.2.2.1.1 hF.2.2.2.2.1.2.2.2.2.2.2.2.1.2 (by rw [hsc.1]; exact hj.vp) (hsc.2 _ hj.2) rfl rfl hd hk
end PVK
