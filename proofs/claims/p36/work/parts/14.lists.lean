/-! Math; lists by what they hold -/
section PVS
variable {l : Launch} {g : pw_G} {cx : pw_C} {Q : pw_W → Int32 → Prop} {X : pw_W → Nat → Prop} {pc n : Nat} {L st : List (Nat × Int32)} {w : pw_W} {x y j : Int32} {t : Nat}
def pw_mw (index : Nat) (cx : pw_C) (y : MethodName) (cc : ByteArray) (k : Nat) : Prop := Cond.methodLink (pw_own cx) index y ∈ pw_g ∧ Cond.static y ∈ pw_g ∧ Cond.initialized "java/lang/Math" ∈ pw_g ∧ Cond.code y cc k (some .int) ∈ pw_g ∧ 1 ≤ pw_fr cx ∧ 21 ≤ pw_lo cx
theorem pv_mmin {index : Nat} (hw : pw_mw index cx Lib.Math.min.name Lib.Math.min.code 2) (hlw : pw_lw st = true) (hd : decode (pw_cc cx) pc = .ok (.invokestatic index, 3)) (hn : pc + 3 = n) (k : pw_V l g cx Q X n L ((0, if y < x then y else x) :: st) w) : pw_V l g cx Q X pc L ((0, y) :: (0, x) :: st) w := by
  subst hn
  intro p e R s m args below meth c H locs ls ad0 w0 ad hF hP hX hL hoL hoS hS hu
  obtain ⟨h1, h2, h3, h4, h5, h6⟩ := hw
  have hk := k p e R s m args below meth c H locs ls ad0 w0 ad hF hP hX hL hoL (pw_oc trivial (pw_ot (pw_ot hoS))) hS hu
  have hcat := pw_lw_le (ad := ad) hlw
  exact va_mmin hF.1.1 hF.1.2.1 (by rw [hF.1.2.2.1]; exact hL.1.symm) hF.1.2.2.2.2 (hF.2.1 _ h1) (hF.2.1 _ h2) (hF.2.1 _ h3) (hF.2.1 _ h4) (by rw [hF.2.2.2.1.1]; exact h5) (by rw [hF.2.2.2.1.2.1]; omega) (by rw [hF.2.2.2.1.2.2.1]; omega) (by rw [hF.2.2.2.1.2.2.2]; omega) hd hk
theorem pv_mmax {index : Nat} (hw : pw_mw index cx Lib.Math.max.name Lib.Math.max.code 2) (hlw : pw_lw st = true) (hd : decode (pw_cc cx) pc = .ok (.invokestatic index, 3)) (hn : pc + 3 = n) (k : pw_V l g cx Q X n L ((0, if x < y then y else x) :: st) w) : pw_V l g cx Q X pc L ((0, y) :: (0, x) :: st) w := by
  subst hn
  intro p e R s m args below meth c H locs ls ad0 w0 ad hF hP hX hL hoL hoS hS hu
  obtain ⟨h1, h2, h3, h4, h5, h6⟩ := hw
  have hk := k p e R s m args below meth c H locs ls ad0 w0 ad hF hP hX hL hoL (pw_oc trivial (pw_ot (pw_ot hoS))) hS hu
  have hcat := pw_lw_le (ad := ad) hlw
  exact va_mmax hF.1.1 hF.1.2.1 (by rw [hF.1.2.2.1]; exact hL.1.symm) hF.1.2.2.2.2 (hF.2.1 _ h1) (hF.2.1 _ h2) (hF.2.1 _ h3) (hF.2.1 _ h4) (by rw [hF.2.2.2.1.1]; exact h5) (by rw [hF.2.2.2.1.2.1]; omega) (by rw [hF.2.2.2.1.2.2.1]; omega) (by rw [hF.2.2.2.1.2.2.2]; omega) hd hk
theorem pv_mabs {index : Nat} (hw : pw_mw index cx Lib.Math.abs.name Lib.Math.abs.code 1) (hlw : pw_lw st = true) (hd : decode (pw_cc cx) pc = .ok (.invokestatic index, 3)) (hn : pc + 3 = n) (k : pw_V l g cx Q X n L ((0, if 0 ≤ x then x else -x) :: st) w) : pw_V l g cx Q X pc L ((0, x) :: st) w := by
  subst hn
  intro p e R s m args below meth c H locs ls ad0 w0 ad hF hP hX hL hoL hoS hS hu
  obtain ⟨h1, h2, h3, h4, h5, h6⟩ := hw
  have hk := k p e R s m args below meth c H locs ls ad0 w0 ad hF hP hX hL hoL (pw_oc trivial (pw_ot hoS)) hS hu
  have hcat := pw_lw_le (ad := ad) hlw
  exact va_mabs hF.1.1 hF.1.2.1 (by rw [hF.1.2.2.1]; exact hL.1.symm) hF.1.2.2.2.2 (hF.2.1 _ h1) (hF.2.1 _ h2) (hF.2.1 _ h3) (hF.2.1 _ h4) (by rw [hF.2.2.2.1.1]; exact h5) (by rw [hF.2.2.2.1.2.1]; omega) (by rw [hF.2.2.2.1.2.2.1]; omega) (by rw [hF.2.2.2.1.2.2.2]; omega) hd hk
/-- the capacity behind a growth -/
def pw_gc (c : Nat) : Nat := if c = 0 then 10 else c + (if 1 < c / 2 then c / 2 else 1)
/-- a new list -/
def pw_nl (w : pw_W) (f : Nat) : pw_W :=
  (fun a b c => if (a = f ∨ a = f + 300) ∧ b = w.2.1 1000 f then (if a = f then pw_df f c else 0) else w.1 a b c, fun a b => if a = 1000 then (if b = f then w.2.1 1000 f + 1 else w.2.1 1000 b) else if (a = f ∨ a = f + 300) ∧ b = w.2.1 1000 f then 0 else w.2.1 a b, w.2.2.1 + 1, w.2.2.2 + 3)
/-- a list with one more at its end -/
def pw_la (w : pw_W) (f i : Nat) (y : Int32) : pw_W :=
  (fun a b c => if a = f ∧ b = i ∧ c = pw_ln w f i then y else if a = f + 300 ∧ b = i ∧ c = 0 then w.1 a b c + 1 else w.1 a b c,
    fun a b => if a = f ∧ b = i then pw_ln w f i + 1 else if a = f + 300 ∧ b = i ∧ pw_ln w f i = pw_cp w f i then pw_gc (pw_cp w f i) else w.2.1 a b,
    if pw_ln w f i = pw_cp w f i then w.2.2.1 + 1 else w.2.2.1, if pw_ln w f i = pw_cp w f i then w.2.2.2 + pw_gc (pw_cp w f i) else w.2.2.2)
/-- there is room for one more at the end of a list -/
def pw_lg (w : pw_W) (f i : Nat) : Prop := pw_ln w f i = pw_cp w f i → w.2.2.1 + 1 ≤ 600104 ∧ w.2.2.2 + pw_gc (pw_cp w f i) ≤ 7301313 ∧ pw_gc (pw_cp w f i) < 1048576
/-- a list without the one at j -/
def pw_lr (w : pw_W) (f i j : Nat) : pw_W :=
  (fun a b c => if a = f ∧ b = i ∧ j ≤ c then w.1 a b (c + 1) else if a = f + 300 ∧ b = i ∧ c = 0 then w.1 a b c + 1 else w.1 a b c,
    fun a b => if a = f ∧ b = i then pw_ln w f i - 1 else w.2.1 a b, w.2.2)
/-- a copy of an array of ints, of length n -/
def pw_cy (w : pw_W) (f i n : Nat) : pw_W :=
  (fun a b c => if a = f ∧ b = w.2.1 1000 f then (if c < n ∧ c < pw_ln w f i then w.1 f i c else 0) else w.1 a b c, (pw_nw w f n n).2)
abbrev pw_lf (f : Nat) : Prop := 20 ≤ f ∧ f < 26
theorem pj_after5 {p : Program} {e : Env} {R : Room} {s : State} {m : MethodId} {args : Array Value} {below : List Frame} {meth : Method} {c : Code} {H : Heap} {locs : List Loc} {cells slots mc ms : Nat} {Q : State → Prop} {ls : Array Slot} {st0 rest : List Value} {Qa : State → Outcome → State → Prop} {free : Addr → Prop}
    (hr : va_Run5 p l e R s m args below meth c H locs cells slots mc ms (F0 m pc ls st0) rest Qa free) (kk : ∀ (v : Option Value) (st₀ t T1 : State) (L : List Loc), st₀.heap = H → T1.heap = t.heap → s.vm.Alike t.vm → (∀ q ∈ L, free q.base) → Qa st₀ (.returned v) t → Stand p l e R s m args below meth c T1 (locs ++ L) (cells + mc) (slots + ms) → ∃ t2, Steps p.tables e below (T1.setTop (F0 m (pc + 5) ls (v.toList ++ rest))) t2 ∧ Q t2) :
    W p l e R s m args below meth c H locs cells slots Q (F0 m pc ls st0) := by
  intro T hT X
  obtain ⟨v, st₀, t, T', L, h0, X', hL, e1, e2, hq, st⟩ := hr T hT X
  obtain ⟨t2, a1, b1⟩ := kk v st₀ t T' L h0 e1 (by rw [← e2]; exact X'.warmed.alike) hL hq X'
  exact ⟨t2, st t2 a1, b1⟩
/-- a list's own cell -/
theorem pw_lat {g : pw_G} {ad : Nat → Nat → Nat} {w : pw_W} {H : Heap} {f : Nat} {x : Int32} (hf : pw_lf f) (hP : pw_P g ad w H) (hok : pw_ok w (f + 2, x)) (hx : 0 ≤ x) :
    pw_i x < pw_nv w f ∧ pw_v w f (pw_i x) ∧ va_at g.1 pw_cl (ad f (pw_i x), .inr (9, [.int (w.1 (f + 300) (pw_i x) 0), .ref (if pw_cp w f (pw_i x) = 0 then g.2.2.1 else ad (f + 10) (pw_i x)), .int (nI (pw_ln w f (pw_i x)))])) H := by
  obtain ⟨f1, f2⟩ := hf
  have h := pw_at (by unfold pw_fo; omega) hok hx (by omega)
  have ha := (hP.1 _ _ h.2).1
  unfold pw_e at ha
  rw [if_neg (by omega), if_pos ⟨f1, by omega⟩] at ha
  exact ⟨h.1, h.2, ha⟩
/-- its array -/
theorem pw_bat {g : pw_G} {ad : Nat → Nat → Nat} {w : pw_W} {H : Heap} {f i : Nat} (hf : pw_lf f) (hP : pw_P g ad w H) (hi : i < pw_nv w f) (hc : 0 < pw_cp w f i) :
    pw_v w (f + 10) i ∧ H[ad (f + 10) i]? = some (vp_cell (g.2.1 5) (pw_cp w f i, .inr (.inr (.inr (.inr fun j => if j < pw_ln w f i then pw_rf ad (f - 20) (w.1 f i j) else none))))) := by
  obtain ⟨f1, f2⟩ := hf
  have hv : pw_v w (f + 10) i := by
    unfold pw_v
    rw [if_pos (by omega), show f + 10 - 10 = f by omega]
    exact ⟨hi, hc⟩
  have ha := (hP.1 _ _ hv).1
  unfold pw_e at ha
  rw [if_neg (by omega), if_neg (by omega), if_pos (by omega), show f + 10 - 10 = f by omega, show f + 10 - 30 = f - 20 by omega] at ha
  exact ⟨hv, ha⟩
theorem pw_P1 {D : va_G} {cl : List vw_C} {q : Nat × va_E} {H : Heap} (h : va_at D cl q H) : va_P D cl [q] H := fun k r hr => by
  have hz : k < 1 := (List.getElem?_eq_some_iff.mp hr).1
  rw [show k = 0 by omega] at hr
  cases hr
  exact h
theorem pw_P2 {D : va_G} {cl : List vw_C} {q q2 : Nat × va_E} {H : Heap} (h : va_at D cl q H) (h2 : va_at D cl q2 H) : va_P D cl [q, q2] H := fun k r hr => by
  have hz : k < 2 := (List.getElem?_eq_some_iff.mp hr).1
  have : k = 0 ∨ k = 1 := by omega
  rcases this with rfl | rfl <;> cases hr
  · exact h
  · exact h2
/-- a list's method that only reads, called by its interface -/
theorem pv_lro {f index count : Nat} {nm desc : String} {bytes : ByteArray} {maxL fr lo : Nat} {ret : Option FieldType} {As st1 : List (Nat × Int32)} {q : Nat × Int32} {v : (Nat → Nat → Nat) → Value} {ws : (Nat → Nat → Nat) → va_W} (hf : pw_lf f)
    (hM : ∀ ad, Met l ⟨"java/util/ArrayList", nm, desc⟩ (Cond.code ⟨"java/util/ArrayList", nm, desc⟩ bytes maxL ret :: pw_g) { frames := fr, cells := 0, slots := 0, locals := lo } (pj_Pc g (.ref (ad f (pw_i x)) :: As.map (pw_ph ad)) (ws ad)) (fun _ st o t => o = .returned (some (pw_ph ad q)) ∧ t.heap = st.heap) 0 0 (fun _ => False))
    (hws : ∀ ad H, pw_P g ad w H → pw_i x < pw_nv w f → va_P g.1 pw_cl (ws ad) H)
    (hfw : (nm, desc) ∈ pw_fw) (hsel : Cond.selects "java/util/ArrayList" ⟨"java/util/List", nm, desc⟩ ⟨"java/util/ArrayList", nm, desc⟩ ∈ pw_g) (hin : Cond.instanceMethod ⟨"java/util/ArrayList", nm, desc⟩ ∈ pw_g) (hcd : Cond.code ⟨"java/util/ArrayList", nm, desc⟩ bytes maxL ret ∈ pw_g) (hpd : (parseMethodDescriptor desc).map (fun d => d.parameters.length) = some As.length)
    (hm : Cond.methodLink (pw_own cx) index ⟨"java/util/List", nm, desc⟩ ∈ pw_g) (hR : fr + 1 ≤ pw_fr cx ∧ 8 + (maxL + 11) + lo ≤ pw_lo cx) (hlw : pw_lw st = true) (hd : decode (pw_cc cx) pc = .ok (.invokeinterface index count, 5)) (hx : 0 ≤ x) (hst : st1 = As.reverse ++ (f + 2, x) :: st) (hq : pw_P g = pw_P g → ∀ ad H, pw_P g ad w H → pw_i x < pw_nv w f → pw_ok w q) (hn : pc + 5 = n)
    (k : pw_ok w q → pw_V l g cx Q X n L (q :: st) w) : pw_V l g cx Q X pc L st1 w := by
  subst hn; subst hst
  intro p e R s m args below meth c H locs ls ad0 w0 ad hF hP hX hL hoL hoS hS hu
  obtain ⟨hoA, hoT0⟩ := pw_app_ok hoS
  have hoT := pw_ot hoT0
  obtain ⟨v1, v2, v3⟩ := pw_lat hf hP (hoT0 _ List.mem_cons_self) hx
  have hok := hq rfl ad H hP v1
  have hK := hF.2.2.2.2.1
  have hk := k hok p e R s m args below meth c H locs ls ad0 w0 ad hF hP hX hL hoL (pw_oc hok hoT) hS hu
  have hat : ClassAt s "java/util/ArrayList" (g.1.1 9) := (hK.1.1 9 (pw_R9, pw_T9, 3) rfl).2
  rw [List.map_append, List.map_reverse, List.map_cons, pw_ph_ref hx]
  refine pj_after5 (va_runF (x := ⟨"java/util/List", nm, desc⟩) (y := ⟨"java/util/ArrayList", nm, desc⟩) (bytes := bytes) (maxL := maxL) (ret := ret) (As := As.map (pw_ph ad)) (rest := st.map (pw_ph ad)) (Ts := pw_g) (own := pw_own cx) (index := index) (count := count) (C := "java/util/ArrayList") hat ⟨hF.1.1, hF.1.2.1, hF.1.2.2.1, hF.1.2.2.2.2, hF.2.1⟩ (hM ad) ?_ ⟨pj_blind, va_recv hK.1 (pw_P1 v3) (ci := 9) (q0 := 0) rfl rfl, fun U hU hW => ⟨rfl, by rw [hU]; exact hws ad H hP v1, ?_⟩⟩ rfl (by rw [List.length_map]) hL.1 rfl ?_ hd ⟨by rw [hF.2.2.2.1.2.2.1]; omega, by rw [hF.2.2.2.1.2.2.2]; omega⟩) ?_
  · exact va_cwF As.length hF.2.1 (pw_gi (pw_mc hm (pw_mc hsel (pw_mc hin (pw_mc wn_al (pw_mc hcd (fun w h => h))))))) rfl rfl rfl (hK.2.2.2.2.2.2.2.2.2.2.1 (nm, desc) hfw) ⟨show "java/util/List" ≠ _ by decide, show "java/util/List" ≠ _ by decide, hpd⟩ ⟨by rw [hF.2.2.2.1.1]; exact hR.1, by rw [hF.2.2.2.1.2.1]; exact hR.2⟩
  · rw [hU]
    exact pw_K.go hW hK (fun a h1 h2 => hS.2.1 a h1 h2)
  · have := pw_lw_le (ad := ad) hlw
    show 2 * 0 + _ ≤ 8
    omega
  · rintro v st₀ t T1 L9 hh hT1 hA hL9 ⟨hv, ht⟩ X1
    cases hv
    rw [show L9 = [] from List.eq_nil_iff_forall_not_mem.mpr fun q hq => hL9 q hq, List.append_nil] at X1
    exact hk T1 (by rw [hT1, ht, hh]) X1
theorem pv_lsize {f index count : Nat} (hf : pw_lf f) (hm : Cond.methodLink (pw_own cx) index ⟨"java/util/List", "size", "()I"⟩ ∈ pw_g) (hR : 1 ≤ pw_fr cx ∧ 20 ≤ pw_lo cx) (hlw : pw_lw st = true) (hd : decode (pw_cc cx) pc = .ok (.invokeinterface index count, 5)) (hx : 0 ≤ x) (hn : pc + 5 = n)
    (k : pw_V l g cx Q X n L ((0, nI (pw_ln w f (pw_i x))) :: st) w) : pw_V l g cx Q X pc L ((f + 2, x) :: st) w :=
  pv_lro (As := []) (q := (0, nI (pw_ln w f (pw_i x)))) (v := fun _ => .null) hf (fun ad => jc_size (aL := ad f (pw_i x)) (aB := if pw_cp w f (pw_i x) = 0 then g.2.2.1 else ad (f + 10) (pw_i x)) (cap := 0) (mc := w.1 (f + 300) (pw_i x) 0) (f := fun _ => none) (ws := [(ad f (pw_i x), .inr (9, [.int (w.1 (f + 300) (pw_i x) 0), .ref (if pw_cp w f (pw_i x) = 0 then g.2.2.1 else ad (f + 10) (pw_i x)), .int (nI (pw_ln w f (pw_i x)))]))]) rfl) (fun ad H hP h => pw_P1 (by
    have ha := (hP.1 f (pw_i x) (by unfold pw_v; rw [if_neg (by obtain ⟨a, b⟩ := hf; omega)]; exact h)).1
    unfold pw_e at ha
    rw [if_neg (by obtain ⟨a, b⟩ := hf; omega), if_pos (by obtain ⟨a, b⟩ := hf; omega)] at ha
    exact ha)) (by decide) wx_size wi_size wc_size (by decide +kernel) hm ⟨hR.1, hR.2⟩ hlw hd hx rfl (fun _ _ _ _ _ => trivial) hn (fun _ => k)
theorem pv_lempty {f index count : Nat} (hf : pw_lf f) (hm : Cond.methodLink (pw_own cx) index ⟨"java/util/List", "isEmpty", "()Z"⟩ ∈ pw_g) (hR : 1 ≤ pw_fr cx ∧ 20 ≤ pw_lo cx) (hlw : pw_lw st = true) (hd : decode (pw_cc cx) pc = .ok (.invokeinterface index count, 5)) (hx : 0 ≤ x) (hn : pc + 5 = n)
    (k : pw_V l g cx Q X n L ((0, if pw_ln w f (pw_i x) = 0 then 1 else 0) :: st) w) : pw_V l g cx Q X pc L ((f + 2, x) :: st) w := by
  have key : pw_V l g cx Q X n L ((0, if nI (pw_ln w f (pw_i x)) = 0 then 1 else 0) :: st) w → pw_V l g cx Q X pc L ((f + 2, x) :: st) w := fun k =>
    pv_lro (As := []) (q := (0, if nI (pw_ln w f (pw_i x)) = 0 then 1 else 0)) (v := fun _ => .null) hf (fun ad => jc_emp (aL := ad f (pw_i x)) (aB := if pw_cp w f (pw_i x) = 0 then g.2.2.1 else ad (f + 10) (pw_i x)) (cap := 0) (mc := w.1 (f + 300) (pw_i x) 0) (f := fun _ => none) (ws := [(ad f (pw_i x), .inr (9, [.int (w.1 (f + 300) (pw_i x) 0), .ref (if pw_cp w f (pw_i x) = 0 then g.2.2.1 else ad (f + 10) (pw_i x)), .int (nI (pw_ln w f (pw_i x)))]))]) rfl) (fun ad H hP h => pw_P1 (by
    have ha := (hP.1 f (pw_i x) (by unfold pw_v; rw [if_neg (by obtain ⟨a, b⟩ := hf; omega)]; exact h)).1
    unfold pw_e at ha
    rw [if_neg (by obtain ⟨a, b⟩ := hf; omega), if_pos (by obtain ⟨a, b⟩ := hf; omega)] at ha
    exact ha)) (by decide) wx_emp wi_emp wc_emp (by decide +kernel) hm ⟨hR.1, hR.2⟩ hlw hd hx rfl (fun _ _ _ _ _ => trivial) hn (fun _ => k)
  intro p e R s m args below meth c H locs ls ad0 w0 ad hF hP hX hL hoL hoS hS hu
  have hlt : pw_ln w f (pw_i x) < 1048576 := by
    have h1 := (pw_lat hf hP (hoS _ List.mem_cons_self) hx).1
    have h2 := hP.2.2.2.1 f (pw_i x) hf.1 (by have := hf.2; omega) h1
    omega
  have e0 : (if nI (pw_ln w f (pw_i x)) = 0 then (1 : Int32) else 0) = (if pw_ln w f (pw_i x) = 0 then 1 else 0) := by
    by_cases h : pw_ln w f (pw_i x) = 0
    · rw [h]; rfl
    · rw [if_neg h, if_neg (nI_ne0 (by omega) (by omega))]
  rw [← e0] at k
  exact key k p e R s m args below meth c H locs ls ad0 w0 ad hF hP hX hL hoL hoS hS hu
theorem pv_lget {f F index count : Nat} (hf : pw_lf f) (hF : f = F + 20) (hm : Cond.methodLink (pw_own cx) index ⟨"java/util/List", "get", "(I)Ljava/lang/Object;"⟩ ∈ pw_g) (hR : 3 ≤ pw_fr cx ∧ 64 ≤ pw_lo cx) (hlw : pw_lw st = true) (hd : decode (pw_cc cx) pc = .ok (.invokeinterface index count, 5)) (hx : 0 ≤ x) (hj : pw_jn j (pw_ln w f (pw_i x))) (hn : pc + 5 = n)
    (k : pw_ok w (F + 2, w.1 f (pw_i x) (pw_i j)) → pw_V l g cx Q X n L ((F + 2, w.1 f (pw_i x) (pw_i j)) :: st) w) : pw_V l g cx Q X pc L ((0, j) :: (f + 2, x) :: st) w := by
  intro p e R s m args below meth c H locs ls ad0 w0 ad hF0 hP hX hL hoL hoS hS hu
  have v1 := (pw_lat hf hP (hoS _ (List.mem_cons_of_mem _ List.mem_cons_self)) hx).1
  have h2 := hP.2.2.2.1 f (pw_i x) hf.1 (by have := hf.2; omega) v1
  have hcap : 0 < pw_cp w f (pw_i x) := by have := hj.2; omega
  have hjc : pw_jn j (pw_cp w f (pw_i x)) := ⟨hj.1, by have := hj.2; omega⟩
  have hjl : j < nI (pw_ln w f (pw_i x)) := by
    rw [Int32.lt_iff_toInt_lt, nI_toInt (by omega)]
    have h3 : 0 ≤ j.toInt := Int32.le_iff_toInt_le.mp hj.1
    have h4 : j.toInt.toNat < _ := hj.2
    omega
  refine pv_lro (As := [(0, j)]) (q := (F + 2, w.1 f (pw_i x) (pw_i j))) (v := fun _ => .null) (ws := fun ad => pj_ws g (ad f (pw_i x)) (ad (f + 10) (pw_i x)) (pw_cp w f (pw_i x)) (w.1 (f + 300) (pw_i x) 0) (nI (pw_ln w f (pw_i x))) (fun j => if j < pw_ln w f (pw_i x) then pw_rf ad (f - 20) (w.1 f (pw_i x) j) else none)) hf (fun ad => ?_) (fun ad H hP h => ?_) (by decide) wx_get wi_get wc_get (show _ = some 1 by decide +kernel) hm (fr := 2) (lo := 43) ⟨hR.1, hR.2⟩ hlw hd hx rfl (fun _ ad H hP h => ?_) hn k p e R s m args below meth c H locs ls ad0 w0 ad hF0 hP hX hL hoL hoS hS hu
  · have hM := jc_get (l := l) (g := g) (aL := ad f (pw_i x)) (aB := ad (f + 10) (pw_i x)) (cap := pw_cp w f (pw_i x)) (mc := w.1 (f + 300) (pw_i x) 0) (n := nI (pw_ln w f (pw_i x))) (f := fun j => if j < pw_ln w f (pw_i x) then pw_rf ad (f - 20) (w.1 f (pw_i x) j) else none) hj.1 hjl hjc
    rw [show (if pw_i j < pw_ln w f (pw_i x) then pw_rf ad (f - 20) (w.1 f (pw_i x) (pw_i j)) else none) = pw_rf ad F (w.1 f (pw_i x) (pw_i j)) by rw [if_pos hj.2, hF, Nat.add_sub_cancel]] at hM
    exact hM
  · have ha := (hP.1 f (pw_i x) (by unfold pw_v; rw [if_neg (by have := hf.2; omega)]; exact h)).1
    unfold pw_e at ha
    rw [if_neg (by have := hf.1; omega), if_pos ⟨hf.1, by have := hf.2; omega⟩, if_neg (by omega)] at ha
    exact pw_P2 ha (pw_bat hf hP h hcap).2
  · have h3 := hP.2.2.1 f (pw_i x) (pw_i j) (by have := hf.2; omega) h (by unfold pw_len; rw [if_neg (by have := hf.1; omega)]; exact hj.2)
    rw [pw_ty_l hf.1 (by have := hf.2; omega), show f - 20 + 2 = F + 2 by omega] at h3
    exact h3
/-- the world behind a change of one list -/
theorem pw_P.ls {g : pw_G} {ad ad' : Nat → Nat → Nat} {w w' : pw_W} {H H1 : Heap} {f i : Nat} (hf : pw_lf f) (hP : pw_P g ad w H) (hi : i < pw_nv w f) (hnv : ∀ a, pw_nv w' a = pw_nv w a)
    (hs : ∀ a b c, ¬ (a = f ∧ b = i) → ¬ (a = f + 300 ∧ b = i ∧ c = 0) → w'.1 a b c = w.1 a b c) (hn : ∀ a b, ¬ (a = f ∧ b = i) → ¬ (a = f + 300 ∧ b = i) → w'.2.1 a b = w.2.1 a b) (had : ∀ a b, ¬ (a = f + 10 ∧ b = i) → ad' a b = ad a b)
    (hH : ∀ q : Nat, q < H.size → q ≠ ad f i → (0 < pw_cp w f i → q ≠ ad (f + 10) i) → H1[q]? = H[q]?) (hgr : H.size ≤ H1.size) (hLc : va_at g.1 pw_cl (ad f i, pw_e g ad' w' f i) H1)
    (hBc : 0 < pw_cp w' f i → va_at g.1 pw_cl (ad' (f + 10) i, pw_e g ad' w' (f + 10) i) H1 ∧ g.2.2.2.1 ≤ ad' (f + 10) i ∧ ((ad' (f + 10) i = ad (f + 10) i ∧ 0 < pw_cp w f i) ∨ H.size ≤ ad' (f + 10) i))
    (hty : ∀ k, k < pw_ln w' f i → pw_ok w' (f - 20 + 2, w'.1 f i k)) (hcap : pw_ln w' f i ≤ pw_cp w' f i ∧ pw_cp w' f i < 1048576) (hsz : H1.size = g.2.2.2.1 + w'.2.2.1) (hsum : pw_sum g.2.2.2.1 H1 = w'.2.2.2) : pw_P g ad' w' H1 ∧ pw_x ad w ad' w' := by
  obtain ⟨f1, f2⟩ := hf
  obtain ⟨h1, h2, h3, h4, h5, h6, h7, h8⟩ := id hP
  have h8f := h8 (f + 300) (by omega)
  have h8t := h8 1000 (Or.inl rfl)
  have hX : pw_x ad w ad' w' := ⟨fun a => by rw [hnv]; omega, fun a b ha hb => had a b (by unfold pw_fo at ha; omega), had 2998 0 (by omega)⟩
  have hvL : pw_v w f i := by unfold pw_v; rw [if_neg (by omega)]; exact hi
  have hcp : ∀ a b, 20 ≤ a → a < 30 → ¬ (a = f ∧ b = i) → pw_cp w' a b = pw_cp w a b := fun a b c d q => hn (a + 300) b (by omega) (by omega)
  have hvw : ∀ a b, pw_v w' a b → ¬ (a = f + 10 ∧ b = i) → pw_v w a b := fun a b h q => by
    unfold pw_v at h ⊢
    by_cases c : 30 ≤ a ∧ a < 40
    · rw [if_pos c] at h ⊢
      rw [hnv, hcp _ _ (by omega) (by omega) (by omega)] at h
      exact h
    · rw [if_neg c] at h ⊢
      rwa [hnv] at h
  have hvB : pw_v w' (f + 10) i → 0 < pw_cp w' f i := fun h => by
    unfold pw_v at h
    rw [if_pos (by omega), show f + 10 - 10 = f by omega] at h
    exact h.2
  have hvB0 : 0 < pw_cp w f i → pw_v w (f + 10) i := fun h => by
    unfold pw_v
    rw [if_pos (by omega), show f + 10 - 10 = f by omega]
    exact ⟨hi, h⟩
  have hlt : ∀ a b, pw_v w a b → ad a b < H.size := fun a b h => va_at.lt (h1 a b h).1
  have hadL : ad' f i = ad f i := had f i (by omega)
  refine ⟨⟨fun a b hv => ?_, fun a b a' b' hv hv' he => ?_, fun a b k ha hb hk => ?_, fun a b ha hb hib => ?_, ⟨by rw [had 2998 0 (by omega)]; exact h5.1, ?_, h5.2.2⟩, hsz, hsum, fun a ha => by rw [hnv]; exact h8 a ha⟩, hX⟩
  · by_cases qL : a = f ∧ b = i
    · rw [qL.1, qL.2, hadL]
      exact ⟨hLc, (h1 f i hvL).2⟩
    · by_cases qB : a = f + 10 ∧ b = i
      · rw [qB.1, qB.2] at hv ⊢
        obtain ⟨z1, z2, -⟩ := hBc (hvB hv)
        exact ⟨z1, z2⟩
      · have hv0 := hvw a b hv qB
        have hb := h1 a b hv0
        refine ⟨pw_at_al hX hv0 h3 (had a b qB) (fun z1 z2 z3 => had _ _ (by omega)) (fun k => hs a b k qL (by
          intro q
          have hb0 : b < pw_nv w a := by unfold pw_v at hv0; rwa [if_neg (by omega)] at hv0
          rw [q.1] at hb0
          omega)) (fun z1 z2 => hs _ _ _ (by omega) (by omega)) (fun z1 z2 k => hs _ _ _ (by omega) (by omega)) ?_ (fun z1 z2 => hcp a b z1 z2 qL) (fun z1 z2 => ⟨hn _ _ (by omega) (by omega), hcp _ _ (by omega) (by omega) (by omega)⟩) (hH _ (hlt a b hv0) (fun e => ?_) (fun hc e => ?_)) hb.1, by rw [had a b qB]; exact hb.2⟩
        · refine hn a b qL (fun q => ?_)
          have hb0 : b < pw_nv w a := by unfold pw_v at hv0; rwa [if_neg (by omega)] at hv0
          rw [q.1] at hb0
          omega
        · exact qL (h2 _ _ _ _ hv0 hvL e)
        · exact qB (h2 _ _ _ _ hv0 (hvB0 hc) e)
  · have key : ∀ a b, pw_v w' a b → ad' a b = ad' (f + 10) i → a = f + 10 ∧ b = i ∨ pw_v w' (f + 10) i → a = f + 10 ∧ b = i := fun a b hv he hor => by
      by_cases q : a = f + 10 ∧ b = i
      · exact q
      · have hvb : pw_v w' (f + 10) i := hor.elim (fun z => absurd z q) id
        obtain ⟨-, -, z3⟩ := hBc (hvB hvb)
        rw [had a b q] at he
        have hv0 := hvw a b hv q
        rcases z3 with ⟨z3, z4⟩ | z3
        · rw [z3] at he
          exact h2 _ _ _ _ hv0 (hvB0 z4) he
        · have := hlt a b hv0
          omega
    by_cases q : a = f + 10 ∧ b = i
    · have e1 : ad' a' b' = ad' (f + 10) i := by rw [← he, q.1, q.2]
      have q2 := key a' b' hv' e1 (Or.inr (by rw [q.1, q.2] at hv; exact hv))
      exact ⟨q.1.trans q2.1.symm, q.2.trans q2.2.symm⟩
    · by_cases q2 : a' = f + 10 ∧ b' = i
      · have e1 : ad' a b = ad' (f + 10) i := by rw [he, q2.1, q2.2]
        exact absurd (key a b hv e1 (Or.inr (by rw [q2.1, q2.2] at hv'; exact hv'))) q
      · rw [had a b q, had a' b' q2] at he
        exact h2 _ _ _ _ (hvw a b hv q) (hvw a' b' hv' q2) he
  · by_cases q : a = f ∧ b = i
    · rw [q.1, q.2] at hk ⊢
      unfold pw_len at hk
      rw [if_neg (by omega)] at hk
      rw [pw_ty_l f1 (by omega)]
      exact hty k hk
    · rw [hnv] at hb
      by_cases q3 : a = f + 300 ∧ b = i
      · rw [q3.1] at hb; omega
      · rw [hs a b k q (fun z => q3 ⟨z.1, z.2.1⟩)]
        refine (h3 a b k ha hb ?_).x hX
        unfold pw_len at hk ⊢
        by_cases c : a < 9
        · rw [if_pos c] at hk ⊢; exact hk
        · rw [if_neg c] at hk ⊢
          have e : pw_ln w' a b = pw_ln w a b := hn a b q q3
          rw [e] at hk; exact hk
  · by_cases q : a = f ∧ b = i
    · rw [q.1, q.2]; exact hcap
    · rw [hnv] at hib
      rw [hcp a b ha hb q]
      have e : pw_ln w' a b = pw_ln w a b := hn a b q (by omega)
      rw [e]
      exact h4 a b ha hb hib
  · have hb := h5.2.2
    rw [hH _ (by rw [h6]; omega) (fun e => ?_) (fun hc e => ?_)]
    · exact h5.2.1
    · have := (h1 f i hvL).2
      omega
    · have := (h1 _ _ (hvB0 hc)).2
      omega
/-- what a contract's end says of the sizes -/
def pj_Sz (H H1 : Heap) (mc ms : Nat) : Prop := H.size ≤ H1.size ∧ H1.size ≤ H.size + mc ∧ ((H1.toList.drop H.size).map (·.slots.size)).sum ≤ ms ∧ ∀ (a : Nat) (c : Cell), H[a]? = some c → ∃ c' : Cell, H1[a]? = some c' ∧ c'.slots.size = c.slots.size
theorem pj_sz {y : MethodName} {ws : List Cond} {rm : Room} {Pc : Array Value → State → Prop} {Qc : Array Value → State → Outcome → State → Prop} {mc ms : Nat} {free : Addr → Prop} (h : Met l y ws rm Pc Qc mc ms free) : Met l y ws rm Pc (fun a st o t => Qc a st o t ∧ pj_Sz st.heap t.heap mc ms) mc ms free := by
  intro p e h1 h2 h3 s m args below h4 h5 h6 h7
  obtain ⟨n, o, a1, a2, a3, hq, L, hfe, hl⟩ := h p e h1 h2 h3 s m args below h4 h5 h6 h7
  refine ⟨n, o, a1, a2, a3, ⟨hq, ?_⟩, L, hfe, hl⟩
  obtain ⟨-, -, -, b2, b3, -, b5, b6⟩ := hfe
  exact ⟨b2, b3, b5, fun a c hc => by
    obtain ⟨c', e1, -, e2, -⟩ := b6 a c hc
    exact ⟨c', e1, e2⟩⟩
theorem pj_sz0 {b : Nat} {H H1 : Heap} (h : pj_Sz H H1 0 0) (hb : b ≤ H.size) : H1.size = H.size ∧ pw_sum b H1 = pw_sum b H := by
  obtain ⟨h1, h2, h3, h4⟩ := h
  have h9 := pw_sum_sub (b := b) (s := H) (T := H1) (n := 0) hb h4
  exact ⟨by omega, by omega⟩
theorem pj_sz1 {b N aN : Nat} {H H1 : Heap} {cell : Cell} (h : pj_Sz H H1 1 N) (hb : b ≤ H.size) (ha : H.size ≤ aN) (hc : H1[aN]? = some cell) (hn : cell.slots.size = N) : aN = H.size ∧ H1.size = H.size + 1 ∧ pw_sum b H1 = pw_sum b H + N := by
  obtain ⟨h1, h2, h3, h4⟩ := h
  have h9 := pw_sum_sub (b := b) (s := H) (T := H1) (n := 0) hb h4
  have hlt := (Array.getElem?_eq_some_iff.mp hc).1
  have e : aN = H.size := by omega
  subst e
  refine ⟨rfl, by omega, ?_⟩
  have e2 : H1.toList.drop H.size = [cell] := by
    apply List.ext_getElem?
    intro i
    rw [List.getElem?_drop, Array.getElem?_toList]
    match i with
    | 0 => exact hc
    | i + 1 =>
      rw [Array.getElem?_eq_none (by omega)]
      rfl
  rw [h9, e2]
  show _ + (cell.slots.size + 0) = _
  omega
theorem pj_runL {p : Program} {e : Env} {R : Room} {s : State} {m : MethodId} {args : Array Value} {below : List Frame} {meth : Method} {c : Code} {H : Heap} {locs : List Loc} {cells slots : Nat} {ls : Array Slot} {w0 : pw_W} {index count : Nat} {nm desc : String} {bytes : ByteArray} {maxL fr lo mc ms : Nat} {ret : Option FieldType} {As rest : List Value} {Pc : Array Value → State → Prop} {Qc : Array Value → State → Outcome → State → Prop} {aL : Nat} {fs : List Value}
    (hF : pw_F l g cx p R s m args meth c w0) (hls : ls.size = pw_nL cx) (hM : Met l ⟨"java/util/ArrayList", nm, desc⟩ (Cond.code ⟨"java/util/ArrayList", nm, desc⟩ bytes maxL ret :: pw_g) { frames := fr, cells := mc, slots := ms, locals := lo } Pc Qc mc ms (pw_A g))
    (hbl : FrameBlind Pc) (hPc : ∀ U : State, U.heap = H → s.WarmedH U.vm → Pc (Value.ref aL :: As).toArray U) (hat0 : va_at g.1 pw_cl (aL, .inr (9, fs)) H)
    (hfw : (nm, desc) ∈ pw_fw) (hsel : Cond.selects "java/util/ArrayList" ⟨"java/util/List", nm, desc⟩ ⟨"java/util/ArrayList", nm, desc⟩ ∈ pw_g) (hin : Cond.instanceMethod ⟨"java/util/ArrayList", nm, desc⟩ ∈ pw_g) (hcd : Cond.code ⟨"java/util/ArrayList", nm, desc⟩ bytes maxL ret ∈ pw_g) (hpd : (parseMethodDescriptor desc).map (fun d => d.parameters.length) = some As.length)
    (hm : Cond.methodLink (pw_own cx) index ⟨"java/util/List", nm, desc⟩ ∈ pw_g) (hR : fr + 1 ≤ pw_fr cx ∧ 8 + (maxL + 11) + lo ≤ pw_lo cx) (hcat : (rest.map fun v => v.category).sum ≤ 8) (hd : decode (pw_cc cx) pc = .ok (.invokeinterface index count, 5)) (hrm : cells + mc ≤ R.cells ∧ slots + ms ≤ R.slots) :
    va_Run5 p l e R s m args below meth c H locs cells slots mc ms (F0 m pc ls (As.reverse ++ .ref aL :: rest)) rest (Qc (Value.ref aL :: As).toArray) (pw_A g) := by
  have hK := hF.2.2.2.2.1
  have hat : ClassAt s "java/util/ArrayList" (g.1.1 9) := (hK.1.1 9 (pw_R9, pw_T9, 3) rfl).2
  refine va_runF (x := ⟨"java/util/List", nm, desc⟩) (y := ⟨"java/util/ArrayList", nm, desc⟩) (bytes := bytes) (maxL := maxL) (ret := ret) (Ts := pw_g) (own := pw_own cx) (index := index) (count := count) (C := "java/util/ArrayList") (n := As.length) hat ⟨hF.1.1, hF.1.2.1, hF.1.2.2.1, hF.1.2.2.2.2, hF.2.1⟩ hM ?_ ⟨hbl, va_recv hK.1 (pw_P1 hat0) (ci := 9) (q0 := 0) rfl rfl, hPc⟩ rfl rfl hls rfl ?_ hd hrm
  · exact va_cwF As.length hF.2.1 (pw_gi (pw_mc hm (pw_mc hsel (pw_mc hin (pw_mc wn_al (pw_mc hcd (fun w h => h))))))) rfl rfl rfl (hK.2.2.2.2.2.2.2.2.2.2.1 (nm, desc) hfw) ⟨show "java/util/List" ≠ _ by decide, show "java/util/List" ≠ _ by decide, hpd⟩ ⟨by rw [hF.2.2.2.1.1]; exact hR.1, by rw [hF.2.2.2.1.2.1]; exact hR.2⟩
  · show 2 * 0 + _ ≤ 8
    omega
theorem pj_endL {p : Program} {e : Env} {R : Room} {s T1 : State} {m : MethodId} {args : Array Value} {below : List Frame} {meth : Method} {c : Code} {H : Heap} {locs L9 : List Loc} {cells slots : Nat} {ls : Array Slot} {w0 w1 : pw_W} {ad0 ad ad1 : Nat → Nat → Nat} {q : Nat × Int32}
    (hF : pw_F l g cx p R s m args meth c w0) (hX : pw_x ad0 w0 ad w) (hL : pw_L cx ad ls L) (hoL : ∀ q ∈ L, pw_ok w q) (hoS : ∀ q ∈ st, pw_ok w q) (hS : va_S (pw_A g) s.heap H locs) (hu : w0.2.2.1 ≤ w.2.2.1 ∧ w0.2.2.2 ≤ w.2.2.2 ∧ w.2.2.1 ≤ 600104 ∧ w.2.2.2 ≤ 7301313)
    (hP1 : pw_P g ad1 w1 T1.heap) (hx1 : pw_x ad w ad1 w1) (hsz : H.size ≤ T1.heap.size) (hkeep : ∀ q : Nat, q < H.size → ¬ pw_A g q → T1.heap[q]? = H[q]?) (hL9 : ∀ q ∈ L9, pw_A g q.base) (hok : pw_ok w1 q) (hu1 : w.2.2.1 ≤ w1.2.2.1 ∧ w.2.2.2 ≤ w1.2.2.2 ∧ w1.2.2.1 ≤ 600104 ∧ w1.2.2.2 ≤ 7301313)
    (k : pw_V l g cx Q X n L (q :: st) w1) (X1 : Stand p l e R s m args below meth c T1 (locs ++ L9) cells slots) :
    ∃ t2, Steps p.tables e below (T1.setTop (F0 m n ls (pw_ph ad1 q :: st.map (pw_ph ad)))) t2 ∧ vx_MQ below (pw_Qc g (pw_rt cx) ad0 w0 Q) (pw_XC g ad0 w0 X) args s R.cells R.slots (pw_A g) t2 := by
  have hsz0 := hF.2.2.2.2.2.2.1
  have hsm0 := hF.2.2.2.2.2.2.2
  have k3 : va_S (pw_A g) s.heap T1.heap (locs ++ L9) := ⟨Nat.le_trans hS.1 hsz, fun q h1 h2 => by rw [hkeep q (Nat.lt_of_lt_of_le h1 hS.1) h2]; exact hS.2.1 q h1 h2, fun q h => (List.mem_append.mp h).elim (hS.2.2 q) (hL9 q)⟩
  have hk := k p e R s m args below meth c T1.heap (locs ++ L9) ls ad0 w0 ad1 hF hP1 (hX.trans hx1) ⟨hL.1, hL.2.1, hL.2.2.1, fun k q hq h1 => by rw [pw_ph.x hx1 (hoL q (List.mem_of_getElem? hq))]; exact hL.2.2.2 k q hq h1⟩ (fun q h => (hoL q h).x hx1) (pw_oc hok (fun q h => (hoS q h).x hx1)) k3 ⟨by omega, by omega, hu1.2.2.1, hu1.2.2.2⟩
  obtain ⟨t2, a1, b1⟩ := hk T1 rfl (pw_tight X1 hsz0 hsm0 hP1.2.2.2.2.2.1 hP1.2.2.2.2.2.2.1)
  rw [List.map_cons, pw_phs.x hx1 hoS] at a1
  exact ⟨t2, a1, b1⟩
/-- an object of the world, as its class -/
theorem pw_obj {ad : Nat → Nat → Nat} {s : State} {H : Heap} {F : Nat} {qc : vw_C} (hF : F < 9) (hc : pw_cl[F]? = some qc) (hK : va_K g.1 pw_cl (pw_tys g) s) (hP : pw_P g ad w H) (hok : pw_ok w (F + 2, y)) (hy : 0 ≤ y) : pw_v w F (pw_i y) ∧ pj_ob qc.1 (ad F (pw_i y)) s H := by
  have h := pw_at (by unfold pw_fo; omega) hok hy (by omega)
  have ha := (hP.1 _ _ h.2).1
  unfold pw_e at ha
  rw [if_pos hF] at ha
  exact ⟨h.2, va_recv hK (pw_P1 ha) (ci := F) (q0 := 0) hc rfl⟩
theorem pw_el {ad : Nat → Nat → Nat} {s : State} {H : Heap} {f i cap : Nat} {qc : vw_C} (hf : pw_lf f) (hi : i < pw_nv w f) (hc : pw_cl[f - 20]? = some qc) (hK : va_K g.1 pw_cl (pw_tys g) s) (hP : pw_P g ad w H) : pj_el qc.1 (fun j => if j < pw_ln w f i then pw_rf ad (f - 20) (w.1 f i j) else none) cap s H ∧ ∀ j, j < cap → (fun j => if j < pw_ln w f i then pw_rf ad (f - 20) (w.1 f i j) else none) j ≠ some (ad f i) := by
  have hvL : pw_v w f i := by unfold pw_v; rw [if_neg (by have := hf.2; omega)]; exact hi
  have key : ∀ j a, (if j < pw_ln w f i then pw_rf ad (f - 20) (w.1 f i j) else none) = some a → pj_ob qc.1 a s H ∧ a ≠ ad f i := fun j a h => by
    by_cases c : j < pw_ln w f i
    · rw [if_pos c] at h
      unfold pw_rf at h
      by_cases c2 : w.1 f i j < 0
      · rw [if_pos c2] at h; cases h
      · rw [if_neg c2] at h
        have e : ad (f - 20) (pw_i (w.1 f i j)) = a := Option.some.inj h
        have h3 := hP.2.2.1 f i j (by have := hf.2; omega) hi (by unfold pw_len; rw [if_neg (by have := hf.1; omega)]; exact c)
        rw [pw_ty_l hf.1 (by have := hf.2; omega)] at h3
        obtain ⟨o1, o2⟩ := pw_obj (by have := hf.2; omega) hc hK hP h3 (Int32.not_lt.mp c2)
        rw [e] at o2
        refine ⟨o2, fun e2 => ?_⟩
        rw [e2] at e
        have := (hP.2.1 _ _ _ _ o1 hvL e).1
        have := hf.1
        omega
    · rw [if_neg c] at h; cases h
  exact ⟨fun j _ a h => (key j a h).1, fun j _ h => (key j _ h).2 rfl⟩
theorem pw_lcl {f : Nat} (hf : pw_lf f) : ∃ qc : vw_C, pw_cl[f - 20]? = some qc ∧ Cond.castable qc.1 "java/lang/Object" ∈ pw_hw := by
  obtain ⟨h1, h2⟩ := hf
  have : f = 20 ∨ f = 21 ∨ f = 22 ∨ f = 23 ∨ f = 24 ∨ f = 25 := by omega
  rcases this with rfl | rfl | rfl | rfl | rfl | rfl <;> exact ⟨_, rfl, by decide +kernel⟩
theorem pw_la_up {ad ad' : Nat → Nat → Nat} {f i : Nat} {fo : Nat → Option Nat} {n : Nat} (hy : 0 ≤ y) (hln : n = pw_ln w f i) (had : ∀ b, ad' (f - 20) b = ad (f - 20) b) (hfo : ∀ j, fo j = if j < pw_ln w f i then pw_rf ad (f - 20) (w.1 f i j) else none) : va_up fo n (some (ad (f - 20) (pw_i y))) = fun j => if j < pw_ln (pw_la w f i y) f i then pw_rf ad' (f - 20) ((pw_la w f i y).1 f i j) else none := by
  subst hln
  have e1 : pw_ln (pw_la w f i y) f i = pw_ln w f i + 1 := if_pos ⟨rfl, rfl⟩
  have hrf : ∀ x, pw_rf ad' (f - 20) x = pw_rf ad (f - 20) x := fun x => by unfold pw_rf; rw [had]
  funext j
  rw [e1, hrf]
  unfold va_up
  by_cases c : j = pw_ln w f i
  · have e2 : (pw_la w f i y).1 f i j = y := if_pos ⟨rfl, rfl, c⟩
    rw [if_pos c, if_pos (by omega), e2]
    unfold pw_rf
    rw [if_neg (Int32.not_lt.mpr hy)]
  · have e2 : (pw_la w f i y).1 f i j = w.1 f i j := by
      unfold pw_la
      show (if _ then _ else if _ then _ else _) = _
      rw [if_neg (fun h => c h.2.2), if_neg (by omega)]
    rw [if_neg c, hfo, e2]
    by_cases c2 : j < pw_ln w f i
    · rw [if_pos c2, if_pos (by omega)]
    · rw [if_neg c2, if_neg (by omega)]
theorem wx_add : Cond.selects "java/util/ArrayList" ⟨"java/util/List", "add", "(Ljava/lang/Object;)Z"⟩ yj_add ∈ pw_g := pw_wd pw_tb1 100 (by decide +kernel) (by decide +kernel)
set_option maxHeartbeats 1000000 in
theorem pv_ladd {f F index count : Nat} (hf : pw_lf f) (hF : f = F + 20) (hm : Cond.methodLink (pw_own cx) index ⟨"java/util/List", "add", "(Ljava/lang/Object;)Z"⟩ ∈ pw_g) (hR : 7 ≤ pw_fr cx ∧ 191 ≤ pw_lo cx) (hlw : pw_lw st = true) (hd : decode (pw_cc cx) pc = .ok (.invokeinterface index count, 5)) (hx : 0 ≤ x) (hy : 0 ≤ y) (hg : pw_lg w f (pw_i x)) (hn : pc + 5 = n)
    (kk : ∀ w1, w1 = pw_la w f (pw_i x) y → pw_V l g cx Q X n L ((0, 1) :: st) w1) : pw_V l g cx Q X pc L ((F + 2, y) :: (f + 2, x) :: st) w := by
  subst hn
  intro p e R s m args below meth c H locs ls ad0 w0 ad hF0 hP hX hL hoL hoS hS hu
  have hK := hF0.2.2.2.2.1
  have ok1 := hoS _ List.mem_cons_self
  have hoT := pw_ot (pw_ot hoS)
  obtain ⟨v1, v2, v3⟩ := pw_lat hf hP (hoS _ (List.mem_cons_of_mem _ List.mem_cons_self)) hx
  obtain ⟨qc, hqc, hcast⟩ := pw_lcl hf
  have hfF : f - 20 = F := by omega
  have hqc2 := hqc
  rw [hfF] at hqc2
  obtain ⟨ov, ob⟩ := pw_obj (by have := hf.2; omega) hqc2 hK.1 hP ok1 hy
  obtain ⟨hel, hfL⟩ := pw_el (cap := pw_cp w f (pw_i x)) hf v1 hqc hK.1 hP
  have hb : g.2.2.2.1 ≤ H.size := by rw [hP.2.2.2.2.2.1]; omega
  have hBL := (hP.1 _ _ v2).2
  have hvL : ad F (pw_i y) ≠ ad f (pw_i x) := fun e => by have := (hP.2.1 _ _ _ _ ov v2 e).1; omega
  have h4 := hP.2.2.2.1 f (pw_i x) hf.1 (by have := hf.2; omega) v1
  have hcat := pw_lw_le (ad := ad) hlw
  have hRc := hF0.2.2.2.1.2.2.1
  have hRs := hF0.2.2.2.1.2.2.2
  have f1 := hf.1
  have f2 := hf.2
  have hBA : 0 < pw_cp w f (pw_i x) → g.2.2.2.1 ≤ ad (f + 10) (pw_i x) ∧ ad f (pw_i x) ≠ ad (f + 10) (pw_i x) := fun h => by
    have hv := (pw_bat hf hP v1 h).1
    exact ⟨(hP.1 _ _ hv).2, fun e => by have := (hP.2.1 _ _ _ _ v2 hv e).1; omega⟩
  have hnv : ∀ a, pw_nv (pw_la w f (pw_i x) y) a = pw_nv w a := fun a => by
    unfold pw_nv pw_la
    show (if _ then _ else if _ then _ else _) = _
    rw [if_neg (by omega), if_neg (by omega)]
  have hs : ∀ a b c, ¬ (a = f ∧ b = pw_i x) → ¬ (a = f + 300 ∧ b = pw_i x ∧ c = 0) → (pw_la w f (pw_i x) y).1 a b c = w.1 a b c := fun a b c h h2 => by
    unfold pw_la
    show (if _ then _ else if _ then _ else _) = _
    rw [if_neg (fun z => h ⟨z.1, z.2.1⟩), if_neg h2]
  have hnn : ∀ a b, ¬ (a = f ∧ b = pw_i x) → ¬ (a = f + 300 ∧ b = pw_i x) → (pw_la w f (pw_i x) y).2.1 a b = w.2.1 a b := fun a b h h2 => by
    unfold pw_la
    show (if _ then _ else if _ then _ else _) = _
    rw [if_neg h, if_neg (fun z => h2 ⟨z.1, z.2.1⟩)]
  have eln : pw_ln (pw_la w f (pw_i x) y) f (pw_i x) = pw_ln w f (pw_i x) + 1 := if_pos ⟨rfl, rfl⟩
  have ecp : pw_cp (pw_la w f (pw_i x) y) f (pw_i x) = if pw_ln w f (pw_i x) = pw_cp w f (pw_i x) then pw_gc (pw_cp w f (pw_i x)) else pw_cp w f (pw_i x) := by
    unfold pw_la
    show (if _ then _ else if _ then _ else _) = _
    rw [if_neg (by omega)]
    by_cases c : pw_ln w f (pw_i x) = pw_cp w f (pw_i x)
    · rw [if_pos ⟨rfl, rfl, c⟩, if_pos c]
    · rw [if_neg (fun z => c z.2.2), if_neg c]
      rfl
  have emc : (pw_la w f (pw_i x) y).1 (f + 300) (pw_i x) 0 = w.1 (f + 300) (pw_i x) 0 + 1 := by
    unfold pw_la
    show (if _ then _ else if _ then _ else _) = _
    rw [if_neg (by omega), if_pos ⟨rfl, rfl, rfl⟩]
  have hx1 : ∀ ad' : Nat → Nat → Nat, (∀ a b, ¬ (a = f + 10 ∧ b = pw_i x) → ad' a b = ad a b) → pw_x ad w ad' (pw_la w f (pw_i x) y) := fun ad' h => ⟨fun a => by rw [hnv]; omega, fun a b ha hb => h a b (by unfold pw_fo at ha; omega), h 2998 0 (by omega)⟩
  have fin : ∀ (ad' : Nat → Nat → Nat) (T1 : State) (L9 : List Loc) (k1 k2 : Nat), (∀ a b, ¬ (a = f + 10 ∧ b = pw_i x) → ad' a b = ad a b) → H.size ≤ T1.heap.size → (∀ q : Nat, q < H.size → q ≠ ad f (pw_i x) → (0 < pw_cp w f (pw_i x) → q ≠ ad (f + 10) (pw_i x)) → T1.heap[q]? = H[q]?) →
      0 < pw_cp (pw_la w f (pw_i x) y) f (pw_i x) → pw_ln w f (pw_i x) + 1 ≤ pw_cp (pw_la w f (pw_i x) y) f (pw_i x) ∧ pw_cp (pw_la w f (pw_i x) y) f (pw_i x) < 1048576 →
      va_at g.1 pw_cl (ad f (pw_i x), .inr (9, [.int (w.1 (f + 300) (pw_i x) 0 + 1), .ref (ad' (f + 10) (pw_i x)), .int (nI (pw_ln w f (pw_i x) + 1))])) T1.heap →
      T1.heap[ad' (f + 10) (pw_i x)]? = some (vp_cell (g.2.1 5) (pw_cp (pw_la w f (pw_i x) y) f (pw_i x), .inr (.inr (.inr (.inr fun j => if j < pw_ln (pw_la w f (pw_i x) y) f (pw_i x) then pw_rf ad' (f - 20) ((pw_la w f (pw_i x) y).1 f (pw_i x) j) else none))))) →
      g.2.2.2.1 ≤ ad' (f + 10) (pw_i x) → ((ad' (f + 10) (pw_i x) = ad (f + 10) (pw_i x) ∧ 0 < pw_cp w f (pw_i x)) ∨ H.size ≤ ad' (f + 10) (pw_i x)) →
      T1.heap.size = g.2.2.2.1 + (pw_la w f (pw_i x) y).2.2.1 → pw_sum g.2.2.2.1 T1.heap = (pw_la w f (pw_i x) y).2.2.2 → (∀ q ∈ L9, pw_A g q.base) → (w.2.2.1 ≤ (pw_la w f (pw_i x) y).2.2.1 ∧ w.2.2.2 ≤ (pw_la w f (pw_i x) y).2.2.2 ∧ (pw_la w f (pw_i x) y).2.2.1 ≤ 600104 ∧ (pw_la w f (pw_i x) y).2.2.2 ≤ 7301313) →
      Stand p l e R s m args below meth c T1 (locs ++ L9) k1 k2 → ∃ t2, Steps p.tables e below (T1.setTop (F0 m (pc + 5) ls (.int 1 :: st.map (pw_ph ad)))) t2 ∧ vx_MQ below (pw_Qc g (pw_rt cx) ad0 w0 Q) (pw_XC g ad0 w0 X) args s R.cells R.slots (pw_A g) t2 := by
    intro ad' T1 L9 k1 k2 had z1 z2 z3 z4 z5 z6 z7 z8 z9 z10 z11 z12 X1
    obtain ⟨hP1, hX1⟩ := pw_P.ls (ad' := ad') (w' := pw_la w f (pw_i x) y) hf hP v1 hnv hs hnn had z2 z1 (by
        unfold pw_e
        rw [if_neg (by omega), if_pos ⟨f1, by omega⟩, emc, eln, if_neg (by omega)]
        exact z5) (fun _ => ⟨by
        unfold pw_e
        rw [if_neg (by omega), if_neg (by omega), if_pos (by omega), show f + 10 - 10 = f by omega, show f + 10 - 30 = f - 20 by omega]
        exact z6, z7, z8⟩) (fun k hk => by
        rw [eln] at hk
        by_cases c : k = pw_ln w f (pw_i x)
        · have e2 : (pw_la w f (pw_i x) y).1 f (pw_i x) k = y := if_pos ⟨rfl, rfl, c⟩
          rw [e2, hfF]
          exact ok1.x (hx1 ad' had)
        · have e2 : (pw_la w f (pw_i x) y).1 f (pw_i x) k = w.1 f (pw_i x) k := by
            unfold pw_la
            show (if _ then _ else if _ then _ else _) = _
            rw [if_neg (fun h => c h.2.2), if_neg (by omega)]
          rw [e2]
          have h3 := hP.2.2.1 f (pw_i x) k (by omega) v1 (by unfold pw_len; rw [if_neg (by omega)]; omega)
          rw [pw_ty_l f1 (by omega)] at h3
          exact h3.x (hx1 ad' had)) (by rw [eln]; exact z4) z9 z10
    exact pj_endL (q := (0, 1)) hF0 hX hL hoL hoT hS hu hP1 hX1 z1 (fun q h1 h2 => z2 q h1 (fun e => h2 (by rw [e]; exact hBL)) (fun h e => h2 (by rw [e]; exact (hBA h).1))) z11 trivial z12 (kk _ rfl) X1
  have hup : ∀ (ad' : Nat → Nat → Nat) (fo : Nat → Option Nat) (n : Nat), (∀ a b, ¬ (a = f + 10 ∧ b = pw_i x) → ad' a b = ad a b) → n = pw_ln w f (pw_i x) → (∀ j, fo j = if j < pw_ln w f (pw_i x) then pw_rf ad (f - 20) (w.1 f (pw_i x) j) else none) → va_up fo n (some (ad F (pw_i y))) = fun j => if j < pw_ln (pw_la w f (pw_i x) y) f (pw_i x) then pw_rf ad' (f - 20) ((pw_la w f (pw_i x) y).1 f (pw_i x) j) else none := fun ad' fo n h h2 h3 => by
    rw [← hfF]
    exact pw_la_up hy h2 (fun b => h _ _ (by omega)) h3
  rw [List.map_cons, List.map_cons, pw_ph_ref hy, pw_ph_ref hx]
  rcases Nat.lt_or_ge (pw_ln w f (pw_i x)) (pw_cp w f (pw_i x)) with hlt | hge
  · have hc0 : 0 < pw_cp w f (pw_i x) := by omega
    rw [if_neg (by omega)] at v3
    have hbat := (pw_bat hf hP v1 hc0).2
    have ecp2 : pw_cp (pw_la w f (pw_i x) y) f (pw_i x) = pw_cp w f (pw_i x) := by rw [ecp, if_neg (by omega)]
    have eu : (pw_la w f (pw_i x) y).2.2.1 = w.2.2.1 := if_neg (by omega)
    have ev : (pw_la w f (pw_i x) y).2.2.2 = w.2.2.2 := if_neg (by omega)
    refine pj_after5 (pj_runL (As := [.ref (ad F (pw_i y))]) hF0 hL.1 (pj_sz (jc_add_r (mc := w.1 (f + 300) (pw_i x) 0) hcast hlt h4.2 hBL (hBA hc0).1 (hBA hc0).2 hvL hfL)) (fun a U gf mk h => ⟨h.1, h.2.1.calling, h.2.2⟩) (fun U hU hW => ⟨rfl, ⟨by rw [hU]; exact pw_P2 v3 hbat, by rw [hU]; exact pw_K.go hW hK (fun a h1 h2 => hS.2.1 a h1 h2), by rw [hU]; exact hel.go hW.alike, by rw [hU]; exact hb⟩, by
      rw [hU]
      obtain ⟨cV, o1, o2, o3⟩ := ob
      exact ⟨cV, o1, o2, by rw [hW.alike.findClass]; exact o3⟩⟩) v3 (by decide) wx_add wi_add wc_add (show _ = some 1 by decide +kernel) hm (fr := 1) (lo := 23) ⟨by omega, by omega⟩ hcat hd ⟨by omega, by omega⟩) ?_
    rintro v9 st₀ t T1 L9 hh hT1 hA hL9 ⟨⟨hv, p2, p3, p4⟩, psz⟩ X1
    cases hv
    rw [hh] at p4 psz
    rw [← hT1] at p2 p3 p4 psz
    obtain ⟨s1, s2⟩ := pj_sz0 psz hb
    refine fin ad T1 L9 _ _ (fun _ _ _ => rfl) (by omega) (fun q h1 h2 h3 => p4 q h1 h2 (h3 hc0)) (by omega) ⟨by omega, by omega⟩ p3 ?_ (hBA hc0).1 (Or.inl ⟨rfl, hc0⟩) (by rw [s1, eu]; exact hP.2.2.2.2.2.1) (by rw [s2, ev]; exact hP.2.2.2.2.2.2.1) hL9 ⟨by omega, by omega, by omega, by omega⟩ X1
    rw [p2, ecp2, hup ad _ _ (fun _ _ _ => rfl) rfl (fun _ => rfl)]
  · have hfull : pw_ln w f (pw_i x) = pw_cp w f (pw_i x) := by omega
    obtain ⟨r1, r2, r3⟩ := hg hfull
    have ecp2 : pw_cp (pw_la w f (pw_i x) y) f (pw_i x) = pw_gc (pw_cp w f (pw_i x)) := by rw [ecp, if_pos hfull]
    have eu : (pw_la w f (pw_i x) y).2.2.1 = w.2.2.1 + 1 := if_pos hfull
    have ev : (pw_la w f (pw_i x) y).2.2.2 = w.2.2.2 + pw_gc (pw_cp w f (pw_i x)) := if_pos hfull
    rcases Nat.eq_zero_or_pos (pw_cp w f (pw_i x)) with hc0 | hc0
    · have egc : pw_gc (pw_cp w f (pw_i x)) = 10 := by unfold pw_gc; rw [if_pos hc0]
      rw [if_pos hc0, hfull, hc0] at v3
      refine pj_after5 (pj_runL (As := [.ref (ad F (pw_i y))]) hF0 hL.1 (pj_sz (jc_add_e (mc := w.1 (f + 300) (pw_i x) 0) hcast hBL hvL)) (fun a U gf mk h => ⟨h.1, h.2.1.calling, h.2.2⟩) (fun U hU hW => ⟨rfl, ⟨by rw [hU]; exact v3, by rw [hU]; exact pw_K.go hW hK (fun a h1 h2 => hS.2.1 a h1 h2), by rw [hU]; exact hb⟩, by
        rw [hU]
        obtain ⟨cV, o1, o2, o3⟩ := ob
        exact ⟨cV, o1, o2, by rw [hW.alike.findClass]; exact o3⟩⟩) v3 (by decide) wx_add wi_add wc_add (show _ = some 1 by decide +kernel) hm (fr := 6) (lo := 170) ⟨by omega, by omega⟩ hcat hd ⟨by omega, by omega⟩) ?_
      rintro v9 st₀ t T1 L9 hh hT1 hA hL9 ⟨⟨aN, hv, p1, p2, p3, p4⟩, psz⟩ X1
      cases hv
      rw [hh] at p1 p4 psz
      rw [← hT1] at p2 p3 p4 psz
      obtain ⟨s0, s1, s2⟩ := pj_sz1 psz hb p1 p2 (by rw [vp_cell_q, arrV_size])
      obtain ⟨ad', hadn, ea⟩ : ∃ ad' : Nat → Nat → Nat, (∀ a b, ¬ (a = f + 10 ∧ b = pw_i x) → ad' a b = ad a b) ∧ ad' (f + 10) (pw_i x) = aN := ⟨fun a b => if a = f + 10 ∧ b = pw_i x then aN else ad a b, fun _ _ h => if_neg h, if_pos ⟨rfl, rfl⟩⟩
      refine fin ad' T1 L9 _ _ hadn (by omega) (fun q h1 h2 h3 => p4 q h1 h2) (by omega) ⟨by omega, by omega⟩ (by rw [ea, hfull, hc0]; exact p3) ?_ (by rw [ea]; omega) (Or.inr (by rw [ea]; omega)) (by rw [s1, eu, hP.2.2.2.2.2.1]; omega) (by rw [s2, ev, hP.2.2.2.2.2.2.1, egc]) hL9 ⟨by omega, by omega, by omega, by omega⟩ X1
      rw [ea, p2, ecp2, egc, hup ad' _ _ hadn (by omega) (fun j => by rw [if_neg (by omega)])]
    · have egc : pw_gc (pw_cp w f (pw_i x)) = pj_N (pw_cp w f (pw_i x)) := by unfold pw_gc; rw [if_neg (by omega)]
      rw [if_neg (by omega), hfull] at v3
      have hbat := (pw_bat hf hP v1 hc0).2
      have hNg := pj_Nge (pw_cp w f (pw_i x))
      refine pj_after5 (pj_runL (As := [.ref (ad F (pw_i y))]) hF0 hL.1 (pj_sz (jc_add_f (mc := w.1 (f + 300) (pw_i x) 0) hcast hc0 h4.2 hBL (hBA hc0).1 (hBA hc0).2 hvL hfL)) (fun a U gf mk h => ⟨h.1, h.2.1.calling, h.2.2⟩) (fun U hU hW => ⟨rfl, ⟨by rw [hU]; exact pw_P2 v3 hbat, by rw [hU]; exact pw_K.go hW hK (fun a h1 h2 => hS.2.1 a h1 h2), by rw [hU]; exact hel.go hW.alike, by rw [hU]; exact hb⟩, by
        rw [hU]
        obtain ⟨cV, o1, o2, o3⟩ := ob
        exact ⟨cV, o1, o2, by rw [hW.alike.findClass]; exact o3⟩⟩) v3 (by decide) wx_add wi_add wc_add (show _ = some 1 by decide +kernel) hm (fr := 6) (lo := 170) ⟨by omega, by omega⟩ hcat hd ⟨by omega, by omega⟩) ?_
      rintro v9 st₀ t T1 L9 hh hT1 hA hL9 ⟨⟨aN, hv, p1, p2, p3, p4⟩, psz⟩ X1
      cases hv
      rw [hh] at p1 p4 psz
      rw [← hT1] at p2 p3 p4 psz
      obtain ⟨s0, s1, s2⟩ := pj_sz1 psz hb p1 p2 (by rw [vp_cell_q, arrV_size])
      obtain ⟨ad', hadn, ea⟩ : ∃ ad' : Nat → Nat → Nat, (∀ a b, ¬ (a = f + 10 ∧ b = pw_i x) → ad' a b = ad a b) ∧ ad' (f + 10) (pw_i x) = aN := ⟨fun a b => if a = f + 10 ∧ b = pw_i x then aN else ad a b, fun _ _ h => if_neg h, if_pos ⟨rfl, rfl⟩⟩
      refine fin ad' T1 L9 _ _ hadn (by omega) (fun q h1 h2 h3 => p4 q h1 h2) (by omega) ⟨by omega, by omega⟩ (by rw [ea, hfull]; exact p3) ?_ (by rw [ea]; omega) (Or.inr (by rw [ea]; omega)) (by rw [s1, eu, hP.2.2.2.2.2.1]; omega) (by rw [s2, ev, hP.2.2.2.2.2.2.1, egc]) hL9 ⟨by omega, by omega, by omega, by omega⟩ X1
      rw [ea, p2, ecp2, egc, hup ad' _ _ hadn hfull.symm (fun j => by
        unfold pj_gr
        rw [hfull]
        by_cases c : j < pw_cp w f (pw_i x)
        · rw [if_pos c]
        · rw [if_neg c, if_neg c])]
theorem pw_nIi {j : Int32} (h : 0 ≤ j) : nI (pw_i j) = j := by
  apply Int32.toInt_inj.mp
  have h1 : 0 ≤ j.toInt := Int32.le_iff_toInt_le.mp h
  have h2 : j.toInt < 2147483648 := by have := j.toInt_lt; omega
  have h3 : pw_i j = j.toInt.toNat := rfl
  rw [nI_toInt (by omega), h3]
  omega
set_option maxHeartbeats 1000000 in
theorem pv_lrem {f F index count : Nat} (hf : pw_lf f) (hF : f = F + 20) (hm : Cond.methodLink (pw_own cx) index ⟨"java/util/List", "remove", "(I)Ljava/lang/Object;"⟩ ∈ pw_g) (hR : 3 ≤ pw_fr cx ∧ 106 ≤ pw_lo cx) (hlw : pw_lw st = true) (hd : decode (pw_cc cx) pc = .ok (.invokeinterface index count, 5)) (hx : 0 ≤ x) (hj : pw_jn j (pw_ln w f (pw_i x))) (hn : pc + 5 = n)
    (kk : ∀ w1, w1 = pw_lr w f (pw_i x) (pw_i j) → pw_V l g cx Q X n L ((F + 2, w.1 f (pw_i x) (pw_i j)) :: st) w1) : pw_V l g cx Q X pc L ((0, j) :: (f + 2, x) :: st) w := by
  subst hn
  intro p e R s m args below meth c H locs ls ad0 w0 ad hF0 hP hX hL hoL hoS hS hu
  have hK := hF0.2.2.2.2.1
  have hoT := pw_ot (pw_ot hoS)
  obtain ⟨v1, v2, v3⟩ := pw_lat hf hP (hoS _ (List.mem_cons_of_mem _ List.mem_cons_self)) hx
  obtain ⟨qc, hqc, hcast⟩ := pw_lcl hf
  have hfF : f - 20 = F := by omega
  obtain ⟨hel, hfL⟩ := pw_el (cap := pw_cp w f (pw_i x)) hf v1 hqc hK.1 hP
  have hb : g.2.2.2.1 ≤ H.size := by rw [hP.2.2.2.2.2.1]; omega
  have hBL := (hP.1 _ _ v2).2
  have h4 := hP.2.2.2.1 f (pw_i x) hf.1 (by have := hf.2; omega) v1
  have hcat := pw_lw_le (ad := ad) hlw
  have hRc := hF0.2.2.2.1.2.2.1
  have hRs := hF0.2.2.2.1.2.2.2
  have f1 := hf.1
  have f2 := hf.2
  have hjl := hj.2
  have hc0 : 0 < pw_cp w f (pw_i x) := by omega
  have hbat := pw_bat hf hP v1 hc0
  have hBA := (hP.1 _ _ hbat.1).2
  have hne : ad f (pw_i x) ≠ ad (f + 10) (pw_i x) := fun e => by have := (hP.2.1 _ _ _ _ v2 hbat.1 e).1; omega
  have hnv : ∀ a, pw_nv (pw_lr w f (pw_i x) (pw_i j)) a = pw_nv w a := fun a => if_neg (by omega)
  have hs : ∀ a b c, ¬ (a = f ∧ b = pw_i x) → ¬ (a = f + 300 ∧ b = pw_i x ∧ c = 0) → (pw_lr w f (pw_i x) (pw_i j)).1 a b c = w.1 a b c := fun a b c h h2 => by
    unfold pw_lr
    show (if _ then _ else if _ then _ else _) = _
    rw [if_neg (fun z => h ⟨z.1, z.2.1⟩), if_neg h2]
  have hnn : ∀ a b, ¬ (a = f ∧ b = pw_i x) → ¬ (a = f + 300 ∧ b = pw_i x) → (pw_lr w f (pw_i x) (pw_i j)).2.1 a b = w.2.1 a b := fun a b h h2 => if_neg h
  have eln : pw_ln (pw_lr w f (pw_i x) (pw_i j)) f (pw_i x) = pw_ln w f (pw_i x) - 1 := if_pos ⟨rfl, rfl⟩
  have ecp : pw_cp (pw_lr w f (pw_i x) (pw_i j)) f (pw_i x) = pw_cp w f (pw_i x) := if_neg (by omega)
  have emc : (pw_lr w f (pw_i x) (pw_i j)).1 (f + 300) (pw_i x) 0 = w.1 (f + 300) (pw_i x) 0 + 1 := by
    unfold pw_lr
    show (if _ then _ else if _ then _ else _) = _
    rw [if_neg (by omega), if_pos ⟨rfl, rfl, rfl⟩]
  have eS : ∀ k, (pw_lr w f (pw_i x) (pw_i j)).1 f (pw_i x) k = if pw_i j ≤ k then w.1 f (pw_i x) (k + 1) else w.1 f (pw_i x) k := fun k => by
    unfold pw_lr
    show (if _ then _ else if _ then _ else _) = _
    by_cases c : pw_i j ≤ k
    · rw [if_pos ⟨rfl, rfl, c⟩, if_pos c]
    · rw [if_neg (fun z => c z.2.2), if_neg (by omega), if_neg c]
  have hok : ∀ k, k < pw_ln w f (pw_i x) → pw_ok w (F + 2, w.1 f (pw_i x) k) := fun k hk => by
    have h3 := hP.2.2.1 f (pw_i x) k (by omega) v1 (by unfold pw_len; rw [if_neg (by omega)]; exact hk)
    rw [pw_ty_l f1 (by omega), hfF] at h3
    exact h3
  have hx1 : pw_x ad w ad (pw_lr w f (pw_i x) (pw_i j)) := ⟨fun a => by rw [hnv]; omega, fun _ _ _ _ => rfl, rfl⟩
  have hrm : pj_rm (fun j => if j < pw_ln w f (pw_i x) then pw_rf ad (f - 20) (w.1 f (pw_i x) j) else none) (pw_ln w f (pw_i x)) (pw_i j) = fun k => if k < pw_ln (pw_lr w f (pw_i x) (pw_i j)) f (pw_i x) then pw_rf ad (f - 20) ((pw_lr w f (pw_i x) (pw_i j)).1 f (pw_i x) k) else none := by
    funext k
    rw [eln, eS]
    show (if k = pw_ln w f (pw_i x) - 1 then none else if pw_i j ≤ k ∧ k < pw_ln w f (pw_i x) - 1 then (if k + 1 < pw_ln w f (pw_i x) then pw_rf ad (f - 20) (w.1 f (pw_i x) (k + 1)) else none) else (if k < pw_ln w f (pw_i x) then pw_rf ad (f - 20) (w.1 f (pw_i x) k) else none)) = _
    by_cases c : k = pw_ln w f (pw_i x) - 1
    · rw [if_pos c, if_neg (by omega)]
    · rw [if_neg c]
      by_cases c2 : k < pw_ln w f (pw_i x) - 1
      · rw [if_pos c2]
        by_cases c3 : pw_i j ≤ k
        · rw [if_pos ⟨c3, c2⟩, if_pos (by omega), if_pos c3]
        · rw [if_neg (fun z => c3 z.1), if_pos (by omega), if_neg c3]
      · rw [if_neg c2, if_neg (fun z => c2 z.2), if_neg (by omega)]
  rw [List.map_cons, List.map_cons, pw_ph_ref hx, show pw_ph ad (0, j) = .int (nI (pw_i j)) by rw [pw_nIi hj.1]; rfl]
  rw [if_neg (by omega)] at v3
  refine pj_after5 (pj_runL (As := [.int (nI (pw_i j))]) hF0 hL.1 (pj_sz (jc_rem (mc := w.1 (f + 300) (pw_i x) 0) hcast hjl h4.1 h4.2 hBL hBA hne hfL)) (fun a U gf mk h => ⟨h.1, h.2.calling⟩) (fun U hU hW => ⟨rfl, by rw [hU]; exact pw_P2 v3 hbat.2, by rw [hU]; exact pw_K.go hW hK (fun a h1 h2 => hS.2.1 a h1 h2), by rw [hU]; exact hel.go hW.alike, by rw [hU]; exact hb⟩) v3 (by decide) wx_rem wi_rem wc_rem (show _ = some 1 by decide +kernel) hm (fr := 2) (lo := 83) ⟨by omega, by omega⟩ hcat hd ⟨by omega, by omega⟩) ?_
  rintro v9 st₀ t T1 L9 hh hT1 hA hL9 ⟨⟨hv, p2, p3, p4⟩, psz⟩ X1
  cases hv
  rw [hh] at p4 psz
  rw [← hT1] at p2 p3 p4 psz
  obtain ⟨s1, s2⟩ := pj_sz0 psz hb
  obtain ⟨hP1, hX1⟩ := pw_P.ls (ad' := ad) (w' := pw_lr w f (pw_i x) (pw_i j)) (H1 := T1.heap) hf hP v1 hnv hs hnn (fun _ _ _ => rfl) (fun q h1 h2 h3 => p4 q h1 h2 (h3 hc0)) (by omega) (by
      unfold pw_e
      rw [if_neg (by omega), if_pos ⟨f1, by omega⟩, emc, eln, ecp, if_neg (by omega)]
      exact p3) (fun _ => ⟨by
      unfold pw_e
      rw [if_neg (by omega), if_neg (by omega), if_pos (by omega), show f + 10 - 10 = f by omega, show f + 10 - 30 = f - 20 by omega, ecp, ← hrm]
      exact p2, hBA, Or.inl ⟨rfl, hc0⟩⟩) (fun k hk => by
      rw [eln] at hk
      rw [eS, hfF]
      by_cases c : pw_i j ≤ k
      · rw [if_pos c]; exact (hok _ (by omega)).x hx1
      · rw [if_neg c]; exact (hok _ (by omega)).x hx1) (by rw [eln, ecp]; omega) (by rw [s1]; exact hP.2.2.2.2.2.1) (by rw [s2]; exact hP.2.2.2.2.2.2.1)
  have hq := pj_endL (q := (F + 2, w.1 f (pw_i x) (pw_i j))) hF0 hX hL hoL hoT hS hu hP1 hX1 (by omega) (fun q h1 h2 => p4 q h1 (fun e => h2 (by rw [e]; exact hBL)) (fun e => h2 (by rw [e]; exact hBA))) hL9 ((hok _ hjl).x hx1) ⟨Nat.le_refl _, Nat.le_refl _, hu.2.2.1, hu.2.2.2⟩ (kk _ rfl) X1
  rw [if_pos hjl, hfF]
  exact hq
theorem pw_e_cg {ad : Nat → Nat → Nat} {w w' : pw_W} {f i : Nat} (hf : pw_fc f) (hN : w'.2 = w.2) (hS : ∀ a b, ¬ (a = f ∧ b = i) → w'.1 a b = w.1 a b) {f' i' : Nat} (hq : ¬ (f' = f ∧ i' = i)) : pw_e g ad w' f' i' = pw_e g ad w f' i' := by
  obtain ⟨S, r⟩ := w
  obtain ⟨S', r'⟩ := w'
  cases hN
  have h1' : S' f' i' = S f' i' := hS f' i' hq
  unfold pw_e
  by_cases c1 : f' < 9
  · rw [if_pos c1, if_pos c1]
    unfold pw_fs
    show _ = Sum.inr (f', (List.range (pw_nf f')).map fun k => pw_ph ad (pw_ty f' k, S f' i' k))
    rw [← h1']
  rw [if_neg c1, if_neg c1]
  by_cases c2 : 20 ≤ f' ∧ f' < 30
  · rw [if_pos c2, if_pos c2]
    have h2 : S' (f' + 300) i' = S (f' + 300) i' := hS _ _ (fun h => by obtain ⟨a, b⟩ := hf; have := h.1; omega)
    show Sum.inr (9, [Value.int (S' (f' + 300) i' 0), _, _]) = Sum.inr (9, [Value.int (S (f' + 300) i' 0), _, _])
    rw [h2]; rfl
  rw [if_neg c2, if_neg c2]
  by_cases c3 : 30 ≤ f' ∧ f' < 40
  · rw [if_pos c3, if_pos c3]
    have h2 : S' (f' - 10) i' = S (f' - 10) i' := hS _ _ (fun h => by obtain ⟨a, b⟩ := hf; have := h.1; omega)
    show Sum.inl (_, (_, Sum.inr (Sum.inr (Sum.inr (Sum.inr fun j => if j < _ then pw_rf ad (f' - 30) (S' (f' - 10) i' j) else none))))) = _
    rw [h2]; rfl
  rw [if_neg c3, if_neg c3]
  unfold pw_pa
  show Sum.inl (_, (_, match pw_ak f' with
    | 0 => Sum.inl (S' f' i')
    | 1 => Sum.inl (S' f' i')
    | 2 => Sum.inr (Sum.inl fun j => (S' f' i' j).toInt64)
    | _ => Sum.inr (Sum.inr (Sum.inr (Sum.inr fun j => pw_rf ad (pw_ty f' 0 - 2) (S' f' i' j)))))) = _
  rw [h1']; rfl
set_option maxHeartbeats 1000000 in
theorem pv_acopy {index : Nat} (hm : Cond.methodLink (pw_own cx) index ⟨"java/util/Arrays", "copyOf", "([II)[I"⟩ ∈ pw_g) (hR : 2 ≤ pw_fr cx ∧ 82 ≤ pw_lo cx) (hlw : pw_lw st = true) (hd : decode (pw_cc cx) pc = .ok (.invokestatic index, 3)) (hx : 0 ≤ x) (hj : 0 ≤ j) (hne : pw_i j ≠ pw_ln w 10 (pw_i x)) (hb : pw_i j < 100000 ∧ pw_ln w 10 (pw_i x) < 100000) (hr : pw_rm w 10 (pw_i j)) (hn : pc + 3 = n)
    (kk : ∀ w1, w1 = pw_cy w 10 (pw_i x) (pw_i j) → pw_V l g cx Q X n L ((12, nI (pw_nv w 10)) :: st) w1) : pw_V l g cx Q X pc L ((0, j) :: (12, x) :: st) w := by
  subst hn
  intro p e R s m args below meth c H locs ls ad0 w0 ad hF0 hP hX hL hoL hoS hS hu
  have hK := hF0.2.2.2.2.1
  have hoT := pw_ot (pw_ot hoS)
  have hRc := hF0.2.2.2.1.2.2.1
  have hRs := hF0.2.2.2.1.2.2.2
  obtain ⟨r1, r2, r3⟩ := id hr
  have har : pw_ar 10 := by unfold pw_ar; omega
  obtain ⟨v1, v2⟩ := pw_at (f := 10) (by unfold pw_fo; omega) (hoS _ (List.mem_cons_of_mem _ List.mem_cons_self)) hx (by decide)
  have hb0 : g.2.2.2.1 ≤ H.size := by rw [hP.2.2.2.2.2.1]; omega
  obtain ⟨v3, hBA⟩ := hP.1 _ _ v2
  rw [pw_e_arr har] at v3
  have hcat := pw_lw_le (ad := ad) hlw
  rw [List.map_cons, List.map_cons, show pw_ph ad (12, x) = .ref (ad 10 (pw_i x)) from pw_ph_ref (f := 10) hx, show pw_ph ad (0, j) = .int (nI (pw_i j)) by rw [pw_nIi hj]; rfl]
  have hM := pj_sz (jc_ci (l := l) (g := g) (aB := ad 10 (pw_i x)) (N := pw_i j) (n := pw_ln w 10 (pw_i x)) (f := w.1 10 (pw_i x)) hne hb.1 hb.2 hBA)
  have hcw := va_cwS (R := R) (rm := { frames := 1, cells := 1, slots := pw_i j, locals := 60 }) (mc := 1) (ms := pw_i j) 2 hF0.2.1 (pw_gi (pw_mc hm (pw_mc ws_ci (pw_mc wn_arr (pw_mc wc_ci (fun w h => h)))))) rfl rfl rfl (by decide +kernel) ⟨by rw [hF0.2.2.2.1.1]; exact hR.1, by rw [hF0.2.2.2.1.2.1]; show 8 + (3 + 11) + 60 ≤ _; omega⟩
  have hrun := va_runS (p := p) (e := e) (below := below) (meth := meth) (H := H) (locs := locs) (cells := w.2.2.1 - w0.2.2.1) (slots := w.2.2.2 - w0.2.2.2) (As := [.ref (ad 10 (pw_i x)), .int (nI (pw_i j))]) (rest := st.map (pw_ph ad)) (Ts := pw_g) (own := pw_own cx) (index := index) (g := F0 m pc ls (.int (nI (pw_i j)) :: .ref (ad 10 (pw_i x)) :: st.map (pw_ph ad))) ⟨hF0.1.1, hF0.1.2.1, hF0.1.2.2.1, hF0.1.2.2.2.2, hF0.2.1⟩ hM hcw ⟨fun a U gf mk h => ⟨h.1, h.2.1, pw_K.go (State.WarmedH.refl U) h.2.2.1 (fun _ _ _ => rfl), h.2.2.2⟩, fun U hU hW => ⟨rfl, by rw [hU]; exact pw_P1 v3, by rw [hU]; exact pw_K.go hW hK (fun a h1 h2 => hS.2.1 a h1 h2), by rw [hU]; exact hb0⟩⟩ rfl rfl hL.1 rfl (by show 2 * 0 + _ ≤ 8; omega) hd ⟨by rw [hRc]; omega, by rw [hRs]; show _ + pw_i j ≤ _; omega⟩
  refine pj_after hrun ?_
  rintro v9 st₀ t L9 hh hA hL9 ⟨⟨aN, hv, p1, p2, p3⟩, psz⟩
  cases hv
  rw [hh] at p1 p3 psz
  obtain ⟨s0, s1, s2⟩ := pj_sz1 psz hb0 p1 p2 (by rw [show ∀ f : Nat → Int32, vp_cell (g.2.1 0) (pw_i j, .inl f) = arrV (g.2.1 0) (pw_i j) (fun k => .int (f k)) from fun _ => rfl, arrV_size])
  subst s0
  obtain ⟨hP0, hX0⟩ := hP.al (f := 10) (len := pw_i j) (n := pw_i j) (cell := vp_cell (g.2.1 0) (pw_i j, .inl (fun k => pw_df 10 k))) (H1 := H.push (vp_cell (g.2.1 0) (pw_i j, .inl (fun k => pw_df 10 k)))) (by unfold pw_fn; omega) rfl (by rw [show ∀ f : Nat → Int32, vp_cell (g.2.1 0) (pw_i j, .inl f) = arrV (g.2.1 0) (pw_i j) (fun k => .int (f k)) from fun _ => rfl, arrV_size]) (by
    rw [pw_e_arr har, pw_nw_n (by decide)]
    show (H.push _)[H.size]? = some (vp_cell (g.2.1 0) (pw_i j, .inl ((pw_nw w 10 (pw_i j) (pw_i j)).1 10 (pw_nv w 10))))
    rw [pw_nw_s, Array.getElem?_push_size])
  obtain ⟨ad1, hP0, hX0, hnew⟩ : ∃ ad1 : Nat → Nat → Nat, pw_P g ad1 (pw_nw w 10 (pw_i j) (pw_i j)) (H.push (vp_cell (g.2.1 0) (pw_i j, .inl (fun k => pw_df 10 k)))) ∧ pw_x ad w ad1 (pw_nw w 10 (pw_i j) (pw_i j)) ∧ ad1 10 (pw_nv w 10) = H.size := ⟨_, hP0, hX0, if_pos ⟨rfl, rfl⟩⟩
  have hnv : pw_nv (pw_nw w 10 (pw_i j) (pw_i j)) 10 = pw_nv w 10 + 1 := rfl
  have hP1 : pw_P g ad1 (pw_cy w 10 (pw_i x) (pw_i j)) t.heap := by
    refine hP0.upd (f := 10) (i := pw_nv w 10) (by unfold pw_v; rw [if_neg (by omega), hnv]; omega) rfl (fun f' i' _ hq => pw_e_cg (w := pw_nw w 10 (pw_i j) (pw_i j)) (w' := pw_cy w 10 (pw_i x) (pw_i j)) (f := 10) (i := pw_nv w 10) (by unfold pw_fc; omega) rfl (fun a b h => by
        funext c
        show (if a = 10 ∧ b = pw_nv w 10 then _ else w.1 a b c) = (if a = 10 ∧ b = pw_nv w 10 then _ else w.1 a b c)
        rw [if_neg h, if_neg h]) hq) ?_ (fun f' i' k h1 h2 h3 => ?_) (by rw [s1, Array.size_push]) (fun q hq => ?_) ?_
    · rw [hnew, pw_e_arr har]
      show t.heap[H.size]? = some (vp_cell (g.2.1 0) (pw_ln (pw_cy w 10 (pw_i x) (pw_i j)) 10 (pw_nv w 10), .inl ((pw_cy w 10 (pw_i x) (pw_i j)).1 10 (pw_nv w 10))))
      rw [show pw_ln (pw_cy w 10 (pw_i x) (pw_i j)) 10 (pw_nv w 10) = pw_i j from pw_nw_n (w := w) (f := 10) (len := pw_i j) (n := pw_i j) (by decide), p2]
      congr 4
      funext k
      exact (if_pos ⟨rfl, rfl⟩).symm
    · by_cases q : f' = 10 ∧ i' = pw_nv w 10
      · rw [q.1]
        exact trivial
      · have h4 := hP0.2.2.1 f' i' k h1 h2 h3
        have e : (pw_cy w 10 (pw_i x) (pw_i j)).1 f' i' k = (pw_nw w 10 (pw_i j) (pw_i j)).1 f' i' k := by
          show (if f' = 10 ∧ i' = pw_nv w 10 then _ else w.1 f' i' k) = (if f' = 10 ∧ i' = pw_nv w 10 then _ else w.1 f' i' k)
          rw [if_neg q, if_neg q]
        rw [e]; exact h4
    · rw [hnew] at hq
      by_cases h : q < H.size
      · rw [p3 q h, Array.getElem?_push, if_neg (by omega)]
      · rw [Array.getElem?_eq_none (by omega), Array.getElem?_eq_none (by rw [Array.size_push]; omega)]
    · rw [hnew, p2, Array.getElem?_push_size]
      show some (arrV _ _ _).slots.size = some (arrV _ _ _).slots.size
      rw [arrV_size, arrV_size]
  have hno := pw_new_ok (w := w) (f := 10) (len := pw_i j) (n := pw_i j) (by unfold pw_fo; omega) r3
  have hph : pw_ph ad1 (12, nI (pw_nv w 10)) = .ref H.size := by
    rw [show (12, nI (pw_nv w 10)) = (10 + 2, nI (pw_nv w 10)) from rfl, pw_ph_ref hno.2.1, hno.2.2]
    exact congrArg Value.ref hnew
  intro T hT XT
  rw [← hT] at hP1 p3 s1
  have hq := pj_endL (q := (12, nI (pw_nv w 10))) (w1 := pw_cy w 10 (pw_i x) (pw_i j)) hF0 hX hL hoL hoT hS hu hP1 ⟨hX0.1, hX0.2.1, hX0.2.2⟩ (by omega) (fun q h1 _ => p3 q h1) hL9 hno.1 ⟨by show _ ≤ w.2.2.1 + 1; omega, by show _ ≤ w.2.2.2 + pw_i j; omega, r1, r2⟩ (kk _ rfl) XT
  rw [hph] at hq
  exact hq
/-- the world with one more list -/
theorem pw_P.nl {ad : Nat → Nat → Nat} {H H1 : Heap} {f : Nat} (hf : pw_lf f) (hP : pw_P g ad w H) (hsz : H1.size = H.size + 1) (hH : ∀ q : Nat, q < H.size → H1[q]? = H[q]?) (hsum : pw_sum g.2.2.2.1 H1 = pw_sum g.2.2.2.1 H + 3)
    (hc : va_at g.1 pw_cl (H.size, .inr (9, [.int 0, .ref g.2.2.1, .int 0])) H1) :
    pw_P g (fun a b => if a = f ∧ b = pw_nv w f then H.size else ad a b) (pw_nl w f) H1 ∧ pw_x ad w (fun a b => if a = f ∧ b = pw_nv w f then H.size else ad a b) (pw_nl w f) := by
  obtain ⟨f1, f2⟩ := hf
  obtain ⟨h1, h2, h3, h4, h5, h6, h7, h8a⟩ := id hP
  have h8 := h8a 1000 (Or.inl rfl)
  have h8f := h8a (f + 300) (Or.inr ⟨by omega, by omega⟩)
  have hnv : ∀ a, pw_nv (pw_nl w f) a = if a = f then pw_nv w f + 1 else pw_nv w a := fun a => by
    show (if (1000 : Nat) = 1000 then (if a = f then w.2.1 1000 f + 1 else w.2.1 1000 a) else (if (1000 = f ∨ 1000 = f + 300) ∧ a = w.2.1 1000 f then 0 else w.2.1 1000 a)) = _
    rw [if_pos rfl]; rfl
  have hN : ∀ a b, a ≠ 1000 → ¬ ((a = f ∨ a = f + 300) ∧ b = pw_nv w f) → (pw_nl w f).2.1 a b = w.2.1 a b := fun a b h q => by
    show (if a = 1000 then _ else if (a = f ∨ a = f + 300) ∧ b = pw_nv w f then _ else _) = _
    rw [if_neg h, if_neg q]
  have hS : ∀ a b c, ¬ ((a = f ∨ a = f + 300) ∧ b = pw_nv w f) → (pw_nl w f).1 a b c = w.1 a b c := fun a b c q => if_neg q
  have eln : pw_ln (pw_nl w f) f (pw_nv w f) = 0 := by
    show (if f = 1000 then _ else if (f = f ∨ f = f + 300) ∧ pw_nv w f = pw_nv w f then 0 else _) = _
    rw [if_neg (by omega), if_pos ⟨Or.inl rfl, rfl⟩]
  have ecp : pw_cp (pw_nl w f) f (pw_nv w f) = 0 := by
    show (if f + 300 = 1000 then _ else if (f + 300 = f ∨ f + 300 = f + 300) ∧ pw_nv w f = pw_nv w f then 0 else _) = _
    rw [if_neg (by omega), if_pos ⟨Or.inr rfl, rfl⟩]
  have emc : (pw_nl w f).1 (f + 300) (pw_nv w f) 0 = 0 := by
    show (if (f + 300 = f ∨ f + 300 = f + 300) ∧ pw_nv w f = pw_nv w f then (if f + 300 = f then _ else 0) else _) = _
    rw [if_pos ⟨Or.inr rfl, rfl⟩, if_neg (by omega)]
  have hcp : ∀ a b, 20 ≤ a → a < 30 → ¬ (a = f ∧ b = pw_nv w f) → pw_cp (pw_nl w f) a b = pw_cp w a b := fun a b h h' q => hN _ _ (by omega) (by omega)
  have hX : pw_x ad w (fun a b => if a = f ∧ b = pw_nv w f then H.size else ad a b) (pw_nl w f) := by
    refine ⟨fun a => ?_, fun a b _ hb => ?_, ?_⟩
    · rw [hnv]
      by_cases q : a = f
      · rw [if_pos q, q]; omega
      · rw [if_neg q]; omega
    · show (if a = f ∧ b = pw_nv w f then H.size else ad a b) = ad a b
      rw [if_neg (by rintro ⟨rfl, rfl⟩; omega)]
    · show (if 2998 = f ∧ _ then H.size else ad 2998 0) = _
      rw [if_neg (by omega)]
  have hvw : ∀ a b, pw_v (pw_nl w f) a b → ¬ (a = f ∧ b = pw_nv w f) → pw_v w a b := fun a b h q => by
    unfold pw_v at h ⊢
    by_cases c : 30 ≤ a ∧ a < 40
    · rw [if_pos c] at h ⊢
      have hq : ¬ (a - 10 = f ∧ b = pw_nv w f) := fun z => by
        rw [z.1, z.2, ecp] at h
        omega
      rw [hnv, hcp _ _ (by omega) (by omega) hq] at h
      refine ⟨?_, h.2⟩
      by_cases c2 : a - 10 = f
      · rw [if_pos c2] at h
        have : b ≠ pw_nv w f := fun z => hq ⟨c2, z⟩
        rw [c2]; omega
      · rw [if_neg c2] at h; exact h.1
    · rw [if_neg c] at h ⊢
      rw [hnv] at h
      by_cases c2 : a = f
      · rw [if_pos c2] at h
        have : b ≠ pw_nv w f := fun z => q ⟨c2, z⟩
        rw [c2]; omega
      · rw [if_neg c2] at h; exact h
  have hlt : ∀ a b, pw_v w a b → ad a b < H.size := fun a b h => va_at.lt (h1 a b h).1
  have hno : ∀ a b, pw_v w a b → ¬ (a = f ∧ b = pw_nv w f) → a ≠ 1000 ∧ ¬ ((a = f ∨ a = f + 300) ∧ b = pw_nv w f) := fun a b hv q => by
    unfold pw_v at hv
    refine ⟨fun z => ?_, fun z => ?_⟩
    · rw [if_neg (by omega), z] at hv; omega
    · rcases z with ⟨z1 | z1, z2⟩
      · exact q ⟨z1, z2⟩
      · rw [if_neg (by omega), z1] at hv; omega
  refine ⟨⟨fun a b hv => ?_, fun a b a' b' hv hv' he => ?_, fun a b k ha hb hk => ?_, fun a b ha hb hi => ?_, ⟨?_, ?_, h5.2.2⟩, ?_, ?_⟩, hX⟩
  · by_cases q : a = f ∧ b = pw_nv w f
    · rw [q.1, q.2]
      show va_at _ _ ((if f = f ∧ pw_nv w f = pw_nv w f then H.size else ad f (pw_nv w f)), _) H1 ∧ _ ≤ (if f = f ∧ pw_nv w f = pw_nv w f then H.size else ad f (pw_nv w f))
      rw [if_pos ⟨rfl, rfl⟩]
      refine ⟨?_, by rw [h6]; omega⟩
      unfold pw_e
      rw [if_neg (by omega), if_pos ⟨f1, by omega⟩, emc, ecp, eln, if_pos rfl]
      exact hc
    · have hv0 := hvw a b hv q
      have hb := h1 a b hv0
      obtain ⟨n1, n2⟩ := hno a b hv0 q
      have h30 : 30 ≤ a → a < 40 → ¬ (a - 10 = f ∧ b = pw_nv w f) := fun z1 z2 z => by
        unfold pw_v at hv0
        rw [if_pos ⟨z1, z2⟩, z.1, z.2] at hv0
        omega
      refine ⟨pw_at_al hX hv0 h3 (if_neg q) (fun z1 z2 z3 => if_neg (by omega)) (fun k => hS _ _ _ n2) (fun z1 z2 => hS _ _ _ (by omega)) (fun z1 z2 k => hS _ _ _ (by have := h30 z1 z2; omega)) (hN _ _ n1 n2) (fun z1 z2 => hcp _ _ z1 z2 q) (fun z1 z2 => ⟨hN _ _ (by omega) (by have := h30 z1 z2; omega), hcp _ _ (by omega) (by omega) (h30 z1 z2)⟩) (hH _ (hlt a b hv0)) hb.1, ?_⟩
      show _ ≤ (if a = f ∧ b = pw_nv w f then H.size else ad a b)
      rw [if_neg q]; exact hb.2
  · have hb : ∀ a b, (if a = f ∧ b = pw_nv w f then H.size else ad a b) = H.size → pw_v (pw_nl w f) a b → a = f ∧ b = pw_nv w f := fun a b z hv => by
      by_cases q : a = f ∧ b = pw_nv w f
      · exact q
      · rw [if_neg q] at z
        exact absurd (hlt a b (hvw a b hv q)) (by omega)
    have he : (if a = f ∧ b = pw_nv w f then H.size else ad a b) = (if a' = f ∧ b' = pw_nv w f then H.size else ad a' b') := he
    by_cases q : a = f ∧ b = pw_nv w f
    · rw [if_pos q] at he
      have q' := hb a' b' he.symm hv'
      exact ⟨q.1.trans q'.1.symm, q.2.trans q'.2.symm⟩
    · by_cases q' : a' = f ∧ b' = pw_nv w f
      · rw [if_pos q'] at he
        exact absurd (hb a b he hv) q
      · rw [if_neg q, if_neg q'] at he
        exact h2 a b a' b' (hvw a b hv q) (hvw a' b' hv' q') he
  · by_cases q : a = f ∧ b = pw_nv w f
    · unfold pw_len at hk
      rw [q.1, q.2, if_neg (by omega), eln] at hk
      omega
    · have hb0 : b < pw_nv w a := by
        rw [hnv] at hb
        by_cases c2 : a = f
        · rw [if_pos c2] at hb
          have : b ≠ pw_nv w f := fun z => q ⟨c2, z⟩
          rw [c2]; omega
        · rw [if_neg c2] at hb; exact hb
      have hn1 : a ≠ 1000 := fun z => by rw [z] at hb0; omega
      have hn2 : ¬ ((a = f ∨ a = f + 300) ∧ b = pw_nv w f) := by
        rintro ⟨z1 | z1, z2⟩
        · exact q ⟨z1, z2⟩
        · rw [z1] at hb0; omega
      rw [hS _ _ _ hn2]
      refine pw_ok.x hX (h3 a b k ha hb0 ?_)
      unfold pw_len at hk ⊢
      by_cases c : a < 9
      · rw [if_pos c] at hk ⊢; exact hk
      · rw [if_neg c] at hk ⊢
        have e : pw_ln (pw_nl w f) a b = pw_ln w a b := hN _ _ hn1 hn2
        rw [e] at hk; exact hk
  · by_cases q : a = f ∧ b = pw_nv w f
    · rw [q.1, q.2, eln, ecp]; omega
    · rw [hcp a b ha hb q]
      have e : pw_ln (pw_nl w f) a b = pw_ln w a b := hN _ _ (by omega) (by omega)
      rw [e]
      refine h4 a b ha hb ?_
      rw [hnv] at hi
      by_cases c2 : a = f
      · rw [if_pos c2] at hi
        have : b ≠ pw_nv w f := fun z => q ⟨c2, z⟩
        rw [c2]; omega
      · rw [if_neg c2] at hi; exact hi
  · show (if 2998 = f ∧ _ then H.size else ad 2998 0) = _
    rw [if_neg (by omega)]; exact h5.1
  · rw [hH _ (by rw [h6]; have := h5.2.2; omega)]; exact h5.2.1
  · rw [hsz, h6]; show _ = _ + (w.2.2.1 + 1); omega
  · refine ⟨by rw [hsum, h7]; rfl, ?_⟩
    intro a ha
    rw [hnv, if_neg (by omega)]; exact h8a a ha
theorem wins_al : Cond.instantiable "java/util/ArrayList" 3 ∈ pw_g := pw_wd pw_tb1 37 (by decide +kernel) (by decide +kernel)
set_option maxHeartbeats 1000000 in
theorem pv_lnew {f ik ic : Nat} (hf : pw_lf f) (hl : Cond.classLink (pw_own cx) ik "java/util/ArrayList" ∈ pw_g) (hm : Cond.methodLink (pw_own cx) ic ⟨"java/util/ArrayList", "<init>", "()V"⟩ ∈ pw_g) (hR : 4 ≤ pw_fr cx ∧ 80 ≤ pw_lo cx) (hlw : pw_lw st = true) (hl7 : st.length ≤ 7)
    (d0 : decode (pw_cc cx) pc = .ok (.new ik, 3)) (d3 : decode (pw_cc cx) (pc + 3) = .ok (.dup, 1)) (d4 : decode (pw_cc cx) (pc + 4) = .ok (.invokespecial ic, 3)) (hr : pw_rm w f 3) (hn : pc + 7 = n)
    (kk : ∀ w1, w1 = pw_nl w f → pw_V l g cx Q X n L ((f + 2, nI (pw_nv w f)) :: st) w1) : pw_V l g cx Q X pc L st w := by
  subst hn
  intro p e R s m args below meth c H locs ls ad0 w0 ad hF hP hX hL hoL hoS hS hu
  have hK := hF.2.2.2.2.1
  have hKn := hK.1.1 9 _ (show pw_cl[9]? = some (pw_R9, pw_T9, 3) from rfl)
  obtain ⟨r1, r2, r3⟩ := id hr
  have hRc := hF.2.2.2.1.2.2.1
  have hRs := hF.2.2.2.1.2.2.2
  have hb0 : g.2.2.2.1 ≤ H.size := by rw [hP.2.2.2.2.2.1]; omega
  have hsum0 : (((st.map (pw_ph ad)).map fun v => v.category).sum) ≤ 7 := by
    have h1 := hlw
    unfold pw_lw at h1
    rw [Bool.and_eq_true] at h1
    rw [pw_lw_sum ad st h1.1]; exact hl7
  refine W.newc hF.1.1 hF.1.2.1 hF.1.2.2.2.2 (hF.2.1 _ hl) (hF.2.1 _ wins_al) (hF.2.1 _ wn_al) rfl d0 (by rw [hRc]; omega) (by rw [hRs]; omega) fun cC kC g1 g2 g3 g4 => ?_
  have hcC : cC = g.1.1 9 := Option.some.inj (g1.symm.trans hKn.2.1)
  subst hcC
  generalize hH0 : H.push ({ cls := g.1.1 9, slots := kC.instanceTypes.map defaultValue, vm := .none } : Cell) = H0
  have e1 : H0[H.size]? = some (blank (g.1.1 9) kC) := by rw [← hH0, Array.getElem?_push_size]; rfl
  have hs0 : H0.size = H.size + 1 := by rw [← hH0, Array.size_push]
  have hq0 : ∀ q : Nat, q < H.size → H0[q]? = H[q]? := fun q hq => by rw [← hH0, Array.getElem?_push, if_neg (Nat.ne_of_lt hq)]
  have hsm0 : pw_sum g.2.2.2.1 H0 = pw_sum g.2.2.2.1 H + 3 := by rw [← hH0, pw_sum_push hb0]; exact congrArg _ (by simpa using g4)
  have hcell : va_at g.1 pw_cl (H.size, .inr (9, [.int 0, .null, .int 0])) H0 := by
    refine ⟨_, rfl, ?_⟩
    refine (u_born pw_t9 hF.2.1 pw_i9g hKn g2 e1 pw_o9).to fun k hk => ?_
    have hk : k < 3 := hk
    have : k = 0 ∨ k = 1 ∨ k = 2 := by omega
    rcases this with rfl | rfl | rfl <;> rfl
  refine lv_dup hF.1.1 hF.1.2.1 d3 rfl ?_
  have hS0 : va_S (pw_A g) s.heap H0 locs := ⟨Nat.le_trans hS.1 (by omega), fun q h1 h2 => by rw [hq0 q (Nat.lt_of_lt_of_le h1 hS.1)]; exact hS.2.1 q h1 h2, hS.2.2⟩
  have hM := pj_sz (jc_ini (l := l) (g := g) (aL := H.size))
  have hcw := cwI (R := R) (rm := { frames := 3, cells := 0, slots := 0, locals := 60 }) (mc := 0) (ms := 0) 0 hF.2.1 (pw_gi (pw_mc wc_ini (fun w h => h))) rfl rfl rfl (hF.2.1 _ wn_al) (hF.2.1 _ hm) (hF.2.1 _ wi_ini) rfl (by decide +kernel) ⟨by rw [hF.2.2.2.1.1]; exact hR.1, by rw [hF.2.2.2.1.2.1]; show 8 + (1 + 11) + 60 ≤ _; omega⟩
  have hrun := va_runI (p := p) (e := e) (below := below) (meth := meth) (H := H0) (locs := locs) (cells := w.2.2.1 - w0.2.2.1 + 1) (slots := w.2.2.2 - w0.2.2.2 + 3) (b := H.size) (As := []) (rest := .ref H.size :: st.map (pw_ph ad)) (Ts := pw_g) (own := pw_own cx) (index := ic) (g := F0 m (pc + 4) ls (.ref H.size :: .ref H.size :: st.map (pw_ph ad))) ⟨hF.1.1, hF.1.2.1, hF.1.2.2.1, hF.1.2.2.2.2, hF.2.1⟩ hM hcw ⟨fun a U gf mk h => ⟨h.1, h.2.calling⟩, fun U hU hW => ⟨rfl, by rw [hU]; exact hcell, by rw [hU]; exact pw_K.go hW hK (fun a h1 h2 => hS0.2.1 a h1 h2), hb0⟩⟩ rfl rfl hL.1 rfl (by rw [List.map_cons, List.sum_cons]; show 2 * 0 + (1 + _) ≤ 8; omega) d4 ⟨by rw [hRc]; omega, by rw [hRs]; omega⟩
  refine pj_after hrun ?_
  rintro v9 st₀ t L9 hh hA hL9 ⟨⟨hv, p1, p2, p3⟩, psz⟩
  cases hv
  rw [hh] at p2 p3 psz
  obtain ⟨s1, s2⟩ := pj_sz0 (b := g.2.2.2.1) psz (by omega)
  intro T hT XT
  rw [← hT] at p1 p3 s1 s2
  obtain ⟨hP1, hX1⟩ := hP.nl (H1 := T.heap) hf (by omega) (fun q hq => by rw [p3 q (by omega)]; exact hq0 q hq) (by rw [s2, hsm0]) p1
  have hno : pw_ok (pw_nl w f) (f + 2, nI (pw_nv w f)) ∧ 0 ≤ nI (pw_nv w f) ∧ pw_i (nI (pw_nv w f)) = pw_nv w f := by
    have h1 : pw_i (nI (pw_nv w f)) = pw_nv w f := nI_clamp (by omega)
    have h2 : 0 ≤ nI (pw_nv w f) := nI_pos' (by omega)
    refine ⟨Or.inr (Or.inr ⟨h2, ?_, by have := hf.2; unfold pw_fo; omega⟩), h2, h1⟩
    rw [h1]
    show w.2.1 1000 f < (if (1000 : Nat) = 1000 then (if f = f then w.2.1 1000 f + 1 else w.2.1 1000 f) else (if (1000 = f ∨ 1000 = f + 300) ∧ f = w.2.1 1000 f then 0 else w.2.1 1000 f))
    rw [if_pos rfl, if_pos rfl]
    exact Nat.lt_succ_self _
  have hq := pj_endL (q := (f + 2, nI (pw_nv w f))) (n := pc + 7) hF hX hL hoL hoS hS hu hP1 hX1 (by omega) (fun q h1 h2 => by rw [p3 q (by omega)]; exact hq0 q h1) hL9 hno.1 ⟨by show _ ≤ w.2.2.1 + 1; omega, by show _ ≤ w.2.2.2 + 3; omega, r1, r2⟩ (kk _ rfl) XT
  rw [pw_ph_ref hno.2.1, hno.2.2, if_pos ⟨rfl, rfl⟩] at hq
  exact hq
theorem pv_unset {i : Nat} {L1 : List (Nat × Int32)} (hl : L.set i (1, 0) = L1) (k : pw_V l g cx Q X pc L1 st w) : pw_V l g cx Q X pc L st w := by
  subst hl
  intro p e R s m args below meth c H locs ls ad0 w0 ad hF hP hX hL hoL hoS hS hu
  refine k p e R s m args below meth c H locs ls ad0 w0 ad hF hP hX ⟨hL.1, hL.2.1, by rw [List.length_set]; exact hL.2.2.1, fun r q hq h1 => ?_⟩ (pw_oL trivial hoL) hoS hS hu
  by_cases hk : r = i
  · subst hk
    by_cases hlt : r < L.length
    · rw [List.getElem?_set_self hlt] at hq
      cases hq
      exact absurd rfl h1
    · rw [List.getElem?_eq_none (by rw [List.length_set]; omega)] at hq
      cases hq
  · rw [List.getElem?_set_ne (Ne.symm hk)] at hq
    exact hL.2.2.2 r q hq h1
theorem pv_nm (k : ∀ v, v = x → pw_V l g cx Q X pc L ((t, v) :: st) w) : pw_V l g cx Q X pc L ((t, x) :: st) w := k x rfl
/-- a switch's value, in range -/
theorem pw_sw {N : Nat} {x : Int32} (h : ¬ (x.toInt < 0 ∨ (N : Int) - 1 < x.toInt)) : ∃ c : Nat, c < N ∧ x = nI c := by
  have h1 : 0 ≤ x.toInt := by omega
  refine ⟨x.toInt.toNat, by omega, ?_⟩
  apply Int32.toInt_inj.mp
  have h2 : x.toInt < 2147483648 := by have := x.toInt_lt; omega
  rw [nI_toInt (by omega)]
  omega
end PVS
