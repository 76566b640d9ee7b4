section PVD
variable {l : Launch} {g : pw_G} {cx : pw_C} {Q : pw_W → Int32 → Prop} {X : pw_W → Nat → Prop} {pc n : Nat} {L st : List (Nat × Int32)} {w : pw_W} {x y j : Int32} {t : Nat}
theorem pw_gi {ws : List Cond} (h : ∀ w ∈ ws, w ∈ pw_g) : GoodIn pw_g ws := fun w hw => ⟨h w hw, good_of_word (List.mem_filter.mp (h w hw)).2⟩
theorem pw_mc {a : Cond} {ws : List Cond} (h1 : a ∈ pw_g) (h : ∀ w ∈ ws, w ∈ pw_g) : ∀ w ∈ a :: ws, w ∈ pw_g := fun w hw => by
  rcases List.mem_cons.mp hw with rfl | hw
  · exact h1
  · exact h w hw
/-- a stack of single words, not high -/
def pw_lw (st : List (Nat × Int32)) : Bool := (st.all fun q => q.1 != 1) && decide (st.length ≤ 8)
theorem pw_lw_sum (ad : Nat → Nat → Nat) : ∀ (st : List (Nat × Int32)), (st.all fun q => q.1 != 1) = true → (((st.map (pw_ph ad)).map fun v => v.category).sum) = st.length
  | [], _ => rfl
  | (t, x) :: st, h => by
    rw [List.all_cons, Bool.and_eq_true] at h
    have h1 : t ≠ 1 := by have := h.1; simpa using this
    rw [List.map_cons, List.map_cons, List.sum_cons, pw_cat1 h1, pw_lw_sum ad st h.2, List.length_cons]
    omega
theorem pw_lw_le {ad : Nat → Nat → Nat} {st : List (Nat × Int32)} (h : pw_lw st = true) : (((st.map (pw_ph ad)).map fun v => v.category).sum) ≤ 8 := by
  unfold pw_lw at h
  rw [Bool.and_eq_true] at h
  rw [pw_lw_sum ad st h.1]
  exact of_decide_eq_true h.2
def pw_rs (rt : Nat) (r : Int32) (st : List (Nat × Int32)) : List (Nat × Int32) := match rt with
  | 1 => st
  | t => (t, r) :: st
theorem pw_rs_v {ad : Nat → Nat → Nat} {rt : Nat} {r : Int32} {st : List (Nat × Int32)} : (if rt = 1 then none else some (pw_ph ad (rt, r))).toList ++ st.map (pw_ph ad) = (pw_rs rt r st).map (pw_ph ad) := by
  by_cases h : rt = 1
  · subst h; rfl
  · rw [if_neg h]
    unfold pw_rs
    match rt, h with
    | 0, _ => rfl
    | F + 2, _ => rfl
theorem pw_rs_ok {w : pw_W} {rt : Nat} {r : Int32} {st : List (Nat × Int32)} (h : pw_ok w (rt, r)) (hs : ∀ q ∈ st, pw_ok w q) : ∀ q ∈ pw_rs rt r st, pw_ok w q := by
  unfold pw_rs
  match rt, h with
  | 0, h => exact pw_oc h hs
  | 1, _ => exact hs
  | F + 2, h => exact pw_oc h hs
theorem pw_after {mc ms : Nat} {rt : Nat} {Q1 : pw_W → Int32 → Prop} {X1 : pw_W → Nat → Prop} {p : Program} {e : Env} {R : Room} {s : State} {m : MethodId} {args a : Array Value} {below : List Frame} {meth : Method} {c : Code} {H : Heap} {locs : List Loc} {ls : Array Slot} {ad0 : Nat → Nat → Nat} {w0 : pw_W} {ad : Nat → Nat → Nat} {st0 : List Value}
    (hF : pw_F l g cx p R s m args meth c w0) (hP : pw_P g ad w H) (hX : pw_x ad0 w0 ad w) (hL : pw_L cx ad ls L) (hoL : ∀ q ∈ L, pw_ok w q) (hoS : ∀ q ∈ st, pw_ok w q) (hS : va_S (pw_A g) s.heap H locs) (hu : w0.2.2.1 ≤ w.2.2.1 ∧ w0.2.2.2 ≤ w.2.2.2 ∧ w.2.2.1 ≤ 600104 ∧ w.2.2.2 ≤ 7301313)
    (hr : vx_Run p l e R s m args below meth c H locs (w.2.2.1 - w0.2.2.1) (w.2.2.2 - w0.2.2.2) mc ms (F0 m pc ls st0) (st.map (pw_ph ad)) (pw_Qc g rt ad w Q1 a) (pw_XC g ad w X1) (pw_A g))
    (kk : ∀ w1 r, Q1 w1 r → pw_ok w1 (rt, r) → pw_V l g cx Q X (pc + 3) L (pw_rs rt r st) w1) (kx : ∀ w1 k, X1 w1 k → pw_VX l g cx Q X pc L st w1 k) :
    W p l e R s m args below meth c H locs (w.2.2.1 - w0.2.2.1) (w.2.2.2 - w0.2.2.2) (vx_MQ below (pw_Qc g (pw_rt cx) ad0 w0 Q) (pw_XC g ad0 w0 X) args s R.cells R.slots (pw_A g)) (F0 m pc ls st0) := by
  intro T hT XT
  have hsz0 := hF.2.2.2.2.2.2.1
  have hsm0 := hF.2.2.2.2.2.2.2
  rcases hr T hT XT with ⟨v, st₀, t, T', L', h0, X', hL', e1, e2, ⟨w1, ad1, r, hv, hok, hQ1, hP1, hX1, hF1, hu1⟩, st1⟩ | ⟨q, st₀, t, T', L', E, ce, h0, X', hL', e1, e2, ⟨w1, ad1, k, rfl, hQ1, hP1, hX1, hF1, hu1⟩, hce, hcv, hcl, st1⟩
  · obtain ⟨k1, k2, k3⟩ := vx_keep h0 e1 hS (fun q _ h => h) (fun q h => h) hL' hF1
    rw [← e1] at hP1
    have hv := (Outcome.returned.inj hv)
    have hk := kk w1 r hQ1 hok p e R s m args below meth c T'.heap (locs ++ L') ls ad0 w0 ad1 hF hP1 (hX.trans hX1) ⟨hL.1, hL.2.1, hL.2.2.1, fun k q hq h1 => by rw [pw_ph.x hX1 (hoL q (List.mem_of_getElem? hq))]; exact hL.2.2.2 k q hq h1⟩ (fun q h => (hoL q h).x hX1) (pw_rs_ok hok (fun q h => (hoS q h).x hX1)) k3 ⟨by omega, by omega, hu1.2.2.1, hu1.2.2.2⟩
    obtain ⟨t2, a1, b1⟩ := hk T' rfl (pw_tight X' hsz0 hsm0 hP1.2.2.2.2.2.1 hP1.2.2.2.2.2.2.1)
    refine ⟨t2, st1 t2 ?_, b1⟩
    rw [← pw_rs_v, pw_phs.x hX1 hoS, ← hv] at a1
    exact a1
  · obtain ⟨k1, k2, k3⟩ := vx_keep h0 e1 hS (fun q _ h => h) (fun q h => h) hL' hF1
    rw [← e1] at hP1 hce
    have hk := kx w1 k hQ1 p e R s m args below meth c T'.heap (locs ++ L') ls ad0 w0 ad1 q ce hF hP1 (hX.trans hX1) ⟨hL.1, hL.2.1, hL.2.2.1, fun k q hq h1 => by rw [pw_ph.x hX1 (hoL q (List.mem_of_getElem? hq))]; exact hL.2.2.2 k q hq h1⟩ (fun q h => (hoL q h).x hX1) (fun q h => (hoS q h).x hX1) k3 ⟨by omega, by omega, hu1.2.2.1, hu1.2.2.2⟩ hce hcv hcl
    obtain ⟨t2, a1, b1⟩ := hk T' rfl (pw_tight X' hsz0 hsm0 hP1.2.2.2.2.2.1 hP1.2.2.2.2.2.2.1)
    rw [pw_phs.x hX1 hoS] at a1
    exact ⟨t2, st1.trans a1, b1⟩
theorem pw_pre {p : Program} {R : Room} {s : State} {m : MethodId} {args : Array Value} {meth : Method} {c : Code} {H : Heap} {locs : List Loc} {w0 : pw_W} {ad : Nat → Nat → Nat} {As : List (Nat × Int32)}
    (hF : pw_F l g cx p R s m args meth c w0) (hP : pw_P g ad w H) (hoA : ∀ q ∈ As, pw_ok w q) (hS : va_S (pw_A g) s.heap H locs) (hu : w.2.2.1 ≤ 600104 ∧ w.2.2.2 ≤ 7301313) : ∀ U : State, U.heap = H → s.WarmedH U.vm → pw_Pc g ad As w (As.map (pw_ph ad)).toArray U := fun U hU hW => by
  refine ⟨rfl, by rw [hU]; exact hP, ?_, hoA, hu⟩
  rw [hU]
  exact pw_K.go hW hF.2.2.2.2.1 (fun a h1 h2 => hS.2.1 a h1 h2)
theorem pw_app_ok {w : pw_W} {a b : List (Nat × Int32)} (h : ∀ q ∈ a ++ b, pw_ok w q) : (∀ q ∈ a, pw_ok w q) ∧ ∀ q ∈ b, pw_ok w q := ⟨fun q h1 => h q (List.mem_append_left _ h1), fun q h1 => h q (List.mem_append_right _ h1)⟩
def pw_yo (y : MethodName) (k : Nat) : Prop := (y.cls ≠ "java/lang/invoke/MethodHandle" ∧ y.cls ≠ "java/lang/invoke/VarHandle") ∧ (parseMethodDescriptor y.desc).map (fun d => d.parameters.length) = some k
theorem pv_callS (As st : List (Nat × Int32)) {y : MethodName} {cy : pw_C} {index : Nat} {Q1 : pw_W → Int32 → Prop} {X1 : pw_W → Nat → Prop} {st0 : List (Nat × Int32)} (hM : pw_Con l g y cy As w Q1 X1) (hl : Cond.methodLink (pw_own cx) index y ∈ pw_g) (h1 : Cond.static y ∈ pw_g) (hi : Cond.initialized y.cls ∈ pw_g) (hc : Cond.code y (pw_cc cy) (pw_nL cy) (pw_ret cy) ∈ pw_g) (hy : pw_yo y As.length)
    (hR : pw_fr cy + 1 ≤ pw_fr cx ∧ 8 + (pw_nL cy + 11) + pw_lo cy ≤ pw_lo cx) (hlw : pw_lw st = true) (hs : st0 = As.reverse ++ st) (hd : decode (pw_cc cx) pc = .ok (.invokestatic index, 3)) (hn : pc + 3 = n)
    (kk : ∀ w1 r, Q1 w1 r → pw_ok w1 (pw_rt cy, r) → pw_V l g cx Q X n L (pw_rs (pw_rt cy) r st) w1) (kx : ∀ w1 k, X1 w1 k → pw_VX l g cx Q X pc L st w1 k) : pw_V l g cx Q X pc L st0 w := by
  subst hn; subst hs
  intro p e R s m args below meth c H locs ls ad0 w0 ad hF hP hX hL hoL hoS hS hu
  have hRc := hF.2.2.2.1.2.2.1
  have hRs := hF.2.2.2.1.2.2.2
  obtain ⟨hoA, hoT⟩ := pw_app_ok hoS
  refine pw_after (st := st) (rt := pw_rt cy) hF hP hX hL hoL hoT hS hu (vx_runS (bytes := pw_cc cy) (maxL := pw_nL cy) (ret := pw_ret cy) (As := As.map (pw_ph ad)) (rest := st.map (pw_ph ad)) (Ts := pw_g) (own := pw_own cx) (index := index) ⟨hF.1.1, hF.1.2.1, hF.1.2.2.1, hF.1.2.2.2.2, hF.2.1⟩ (hM ad) ?_ ⟨pw_Pc.blind, pw_pre hF hP (fun q h => hoA q (List.mem_reverse.mpr h)) hS hu.2.2⟩ rfl (by rw [List.length_map]) (hL.1) (by rw [List.map_append, List.map_reverse]) ?_ hd ⟨by rw [hRc]; omega, by rw [hRs]; omega⟩) kk kx
  · exact va_cwS As.length hF.2.1 (pw_gi (pw_mc hl (pw_mc h1 (pw_mc hi (pw_mc hc (fun w h => h)))))) rfl rfl rfl ⟨hy.1.1, hy.1.2, hy.2⟩ ⟨by rw [hF.2.2.2.1.1]; exact hR.1, by rw [hF.2.2.2.1.2.1]; exact hR.2⟩
  · have := pw_lw_le (ad := ad) hlw
    show 2 * 0 + _ ≤ 8
    omega
theorem pv_callN (As st : List (Nat × Int32)) {y : MethodName} {cy : pw_C} {index : Nat} {Q1 : pw_W → Int32 → Prop} {X1 : pw_W → Nat → Prop} {host : String} {st0 : List (Nat × Int32)} (hM : pw_Con l g y cy As w Q1 X1) (hl : Cond.methodLinkNest (pw_own cx) index y host ∈ pw_hw) (h1 : Cond.static y ∈ pw_g) (hi : Cond.initialized y.cls ∈ pw_g) (hc : Cond.code y (pw_cc cy) (pw_nL cy) (pw_ret cy) ∈ pw_g) (hy : pw_yo y As.length)
    (hR : pw_fr cy + 1 ≤ pw_fr cx ∧ 8 + (pw_nL cy + 11) + pw_lo cy ≤ pw_lo cx) (hlw : pw_lw st = true) (hs : st0 = As.reverse ++ st) (hd : decode (pw_cc cx) pc = .ok (.invokestatic index, 3)) (hn : pc + 3 = n)
    (kk : ∀ w1 r, Q1 w1 r → pw_ok w1 (pw_rt cy, r) → pw_V l g cx Q X n L (pw_rs (pw_rt cy) r st) w1) (kx : ∀ w1 k, X1 w1 k → pw_VX l g cx Q X pc L st w1 k) : pw_V l g cx Q X pc L st0 w := by
  subst hn; subst hs
  intro p e R s m args below meth c H locs ls ad0 w0 ad hF hP hX hL hoL hoS hS hu
  have hRc := hF.2.2.2.1.2.2.1
  have hRs := hF.2.2.2.1.2.2.2
  obtain ⟨hoA, hoT⟩ := pw_app_ok hoS
  refine pw_after (st := st) (rt := pw_rt cy) hF hP hX hL hoL hoT hS hu (vx_runSN (bytes := pw_cc cy) (maxL := pw_nL cy) (ret := pw_ret cy) (As := As.map (pw_ph ad)) (rest := st.map (pw_ph ad)) (Ts := pw_g) (own := pw_own cx) (index := index) (host := host) ⟨hF.1.1, hF.1.2.1, hF.1.2.2.1, hF.1.2.2.2.2, hF.2.1⟩ (hM ad) ?_ ⟨pw_Pc.blind, pw_pre hF hP (fun q h => hoA q (List.mem_reverse.mpr h)) hS hu.2.2⟩ rfl (by rw [List.length_map]) (hL.1) (by rw [List.map_append, List.map_reverse]) ?_ hd ⟨by rw [hRc]; omega, by rw [hRs]; omega⟩) kk kx
  · refine ⟨va_cnB As.length hF.2.1 (pw_gi (pw_mc hc (fun w h => h))) rfl rfl rfl (hF.2.2.2.2.1.2.2.2.2.2.2.2.2.2.1 _ hl) (hF.2.1 _ hi) ⟨hy.1.1, hy.1.2, hy.2⟩ ⟨by rw [hF.2.2.2.1.1]; exact hR.1, by rw [hF.2.2.2.1.2.1]; exact hR.2⟩, hF.2.1 _ h1, trivial⟩
  · have := pw_lw_le (ad := ad) hlw
    show 2 * 0 + _ ≤ 8
    omega
theorem pv_callV (As st : List (Nat × Int32)) {y : MethodName} {cy : pw_C} {index : Nat} {Q1 : pw_W → Int32 → Prop} {X1 : pw_W → Nat → Prop} {f : Nat} {C : String} {T : u_T} {N : Nat} {ty : Nat → FieldType} {st0 : List (Nat × Int32)} (hM : pw_Con l g y cy ((f + 2, x) :: As) w Q1 X1) (hcf : pw_CF f C T N ty) (hcls : y.cls = C) (hl : Cond.methodLink (pw_own cx) index y ∈ pw_g) (h1 : Cond.instanceMethod y ∈ pw_g) (h2 : Cond.selects C y y ∈ pw_g) (hi : Cond.initialized C ∈ pw_g) (hc : Cond.code y (pw_cc cy) (pw_nL cy) (pw_ret cy) ∈ pw_g) (hy : pw_yo y As.length)
    (hR : pw_fr cy + 1 ≤ pw_fr cx ∧ 8 + (pw_nL cy + 11) + pw_lo cy ≤ pw_lo cx) (hlw : pw_lw st = true) (hs : st0 = As.reverse ++ (f + 2, x) :: st) (h0 : 0 ≤ x) (hd : decode (pw_cc cx) pc = .ok (.invokevirtual index, 3)) (hn : pc + 3 = n)
    (kk : ∀ w1 r, Q1 w1 r → pw_ok w1 (pw_rt cy, r) → pw_V l g cx Q X n L (pw_rs (pw_rt cy) r st) w1) (kx : ∀ w1 k, X1 w1 k → pw_VX l g cx Q X pc L st w1 k) : pw_V l g cx Q X pc L st0 w := by
  subst hn; subst hs
  intro p e R s m args below meth c H locs ls ad0 w0 ad hF hP hX hL hoL hoS hS hu
  have hRc := hF.2.2.2.1.2.2.1
  have hRs := hF.2.2.2.1.2.2.2
  obtain ⟨hoA, hoT0⟩ := pw_app_ok hoS
  have hoT := pw_ot hoT0
  obtain ⟨hcC, -, -, -, -, hF9⟩ := hcf
  have hv := pw_at (Or.inl (by omega)) (hoT0 _ List.mem_cons_self) h0 (by omega)
  have ha := (hP.1 _ _ hv.2).1
  rw [pw_e_obj hF9] at ha
  obtain ⟨r', hr', cellV, g1, g2, g3, -⟩ := ha
  have hclsC := (hF.2.2.2.2.1.1.1 f _ hcC).2
  have hpre := pw_pre hF hP (As := (f + 2, x) :: As) (pw_oc (hoT0 _ List.mem_cons_self) (fun q h => hoA q (List.mem_reverse.mpr h))) hS hu.2.2
  rw [List.map_cons, pw_ph_ref h0] at hpre
  refine pw_after (st := st) (rt := pw_rt cy) hF hP hX hL hoL hoT hS hu (vx_runV (bytes := pw_cc cy) (maxL := pw_nL cy) (ret := pw_ret cy) (As := As.map (pw_ph ad)) (rest := st.map (pw_ph ad)) (Ts := pw_g) (own := pw_own cx) (index := index) (C := C) ⟨hF.1.1, hF.1.2.1, hF.1.2.2.1, hF.1.2.2.2.2, hF.2.1⟩ (hM ad) ?_ ⟨pw_Pc.blind, ⟨cellV, g1, by rw [g3]; rfl, by rw [g2]; exact hclsC.1⟩, hpre⟩ rfl (by rw [List.length_map]) (hL.1) (by rw [List.map_append, List.map_reverse, List.map_cons, pw_ph_ref h0]) ?_ hd ⟨by rw [hRc]; omega, by rw [hRs]; omega⟩) kk kx
  · exact cwV As.length hF.2.1 (pw_gi (pw_mc hl (pw_mc h1 (pw_mc h2 (pw_mc hi (pw_mc hc (fun w h => h))))))) rfl rfl rfl ⟨hcls, hy.1.1, hy.1.2, hy.2⟩ ⟨by rw [hF.2.2.2.1.1]; exact hR.1, by rw [hF.2.2.2.1.2.1]; exact hR.2⟩
  · have := pw_lw_le (ad := ad) hlw
    show 2 * 0 + _ ≤ 8
    omega
theorem pv_callI (As st : List (Nat × Int32)) {y : MethodName} {cy : pw_C} {index : Nat} {Q1 : pw_W → Int32 → Prop} {X1 : pw_W → Nat → Prop} {f : Nat} {st0 : List (Nat × Int32)} (hM : pw_Con l g y cy ((f + 2, x) :: As) w Q1 X1) (hret : pw_ret cy = none) (hnm : y.name = "<init>") (hl : Cond.methodLink (pw_own cx) index y ∈ pw_g) (h1 : Cond.instanceMethod y ∈ pw_g) (hi : Cond.initialized y.cls ∈ pw_g) (hc : Cond.code y (pw_cc cy) (pw_nL cy) (pw_ret cy) ∈ pw_g) (hy : pw_yo y As.length)
    (hR : pw_fr cy + 1 ≤ pw_fr cx ∧ 8 + (pw_nL cy + 11) + pw_lo cy ≤ pw_lo cx) (hlw : pw_lw st = true) (hs : st0 = As.reverse ++ (f + 2, x) :: st) (h0 : 0 ≤ x) (hd : decode (pw_cc cx) pc = .ok (.invokespecial index, 3)) (hn : pc + 3 = n)
    (kk : ∀ w1 r, Q1 w1 r → pw_ok w1 (pw_rt cy, r) → pw_V l g cx Q X n L (pw_rs (pw_rt cy) r st) w1) (kx : ∀ w1 k, X1 w1 k → pw_VX l g cx Q X pc L st w1 k) : pw_V l g cx Q X pc L st0 w := by
  subst hn; subst hs
  intro p e R s m args below meth c H locs ls ad0 w0 ad hF hP hX hL hoL hoS hS hu
  have hRc := hF.2.2.2.1.2.2.1
  have hRs := hF.2.2.2.1.2.2.2
  obtain ⟨hoA, hoT0⟩ := pw_app_ok hoS
  have hoT := pw_ot hoT0
  have hpre := pw_pre hF hP (As := (f + 2, x) :: As) (pw_oc (hoT0 _ List.mem_cons_self) (fun q h => hoA q (List.mem_reverse.mpr h))) hS hu.2.2
  rw [List.map_cons, pw_ph_ref h0] at hpre
  have hM1 := hM ad
  rw [hret] at hM1 hc
  refine pw_after (st := st) (rt := pw_rt cy) hF hP hX hL hoL hoT hS hu (vx_runI (bytes := pw_cc cy) (maxL := pw_nL cy) (As := As.map (pw_ph ad)) (rest := st.map (pw_ph ad)) (Ts := pw_g) (own := pw_own cx) (index := index) ⟨hF.1.1, hF.1.2.1, hF.1.2.2.1, hF.1.2.2.2.2, hF.2.1⟩ hM1 ?_ ⟨pw_Pc.blind, hpre⟩ rfl (by rw [List.length_map]) (hL.1) (by rw [List.map_append, List.map_reverse, List.map_cons, pw_ph_ref h0]) ?_ hd ⟨by rw [hRc]; omega, by rw [hRs]; omega⟩) kk kx
  · exact cwI As.length hF.2.1 (pw_gi (pw_mc hc (fun w h => h))) rfl rfl rfl (hF.2.1 _ hi) (hF.2.1 _ hl) (hF.2.1 _ h1) hnm ⟨hy.1.1, hy.1.2, hy.2⟩ ⟨by rw [hF.2.2.2.1.1]; exact hR.1, by rw [hF.2.2.2.1.2.1]; exact hR.2⟩
  · have := pw_lw_le (ad := ad) hlw
    show 2 * 0 + _ ≤ 8
    omega
theorem pv_objInit {f index : Nat} (hl : Cond.methodLink (pw_own cx) index Lib.objectInit ∈ pw_g) (h1 : Cond.instanceMethod Lib.objectInit ∈ pw_g) (hc : Cond.code Lib.objectInit ⟨#[0xb1]⟩ 1 none ∈ pw_g) (hR : 1 ≤ pw_fr cx ∧ 20 ≤ pw_lo cx) (hlw : pw_lw st = true) (h0 : 0 ≤ x) (hd : decode (pw_cc cx) pc = .ok (.invokespecial index, 3)) (hn : pc + 3 = n)
    (k : pw_V l g cx Q X n L st w) : pw_V l g cx Q X pc L ((f + 2, x) :: st) w := by
  subst hn
  intro p e R s m args below meth c H locs ls ad0 w0 ad hF hP hX hL hoL hoS hS hu
  have hk := k p e R s m args below meth c H locs ls ad0 w0 ad hF hP hX hL hoL (pw_ot hoS) hS hu
  rw [List.map_cons, pw_ph_ref h0]
  refine W.objInit hF.1.1 hF.1.2.1 hF.1.2.2.2.2 (hF.2.1 _ hl) (hF.2.1 _ h1) (hF.2.1 _ hc) rfl (by rw [hF.1.2.2.1]; exact hL.1) rfl hd (by rw [hF.2.2.2.1.1]; exact hR.1) ?_ hk
  have := pw_lw_le (ad := ad) hlw
  rw [hF.2.2.2.1.2.1]
  show 2 * 0 + _ + 12 ≤ _
  omega
theorem pv_callSH (As st : List (Nat × Int32)) {y : MethodName} {cy : pw_C} {index : Nat} {Q1 : pw_W → Int32 → Prop} {X1 : pw_W → Nat → Prop} {st0 : List (Nat × Int32)} (hM : pw_ConH l g y cy As w Q1 X1) (hl : Cond.methodLink (pw_own cx) index y ∈ pw_g) (h1 : Cond.static y ∈ pw_g) (hi : Cond.initialized y.cls ∈ pw_g) (hc : Cond.codeWith y (pw_cc cy) (pw_nL cy) (pw_ret cy) (pw_hh cy) ∈ pw_g) (hy : pw_yo y As.length)
    (hR : pw_fr cy + 1 ≤ pw_fr cx ∧ 8 + (pw_nL cy + 11) + pw_lo cy ≤ pw_lo cx) (hlw : pw_lw st = true) (hs : st0 = As.reverse ++ st) (hd : decode (pw_cc cx) pc = .ok (.invokestatic index, 3)) (hn : pc + 3 = n)
    (kk : ∀ w1 r, Q1 w1 r → pw_ok w1 (pw_rt cy, r) → pw_V l g cx Q X n L (pw_rs (pw_rt cy) r st) w1) (kx : ∀ w1 k, X1 w1 k → pw_VX l g cx Q X pc L st w1 k) : pw_V l g cx Q X pc L st0 w := by
  subst hn; subst hs
  intro p e R s m args below meth c H locs ls ad0 w0 ad hF hP hX hL hoL hoS hS hu
  have hRc := hF.2.2.2.1.2.2.1
  have hRs := hF.2.2.2.1.2.2.2
  obtain ⟨hoA, hoT⟩ := pw_app_ok hoS
  refine pw_after (st := st) (rt := pw_rt cy) hF hP hX hL hoL hoT hS hu (vx_runSX (bytes := pw_cc cy) (maxL := pw_nL cy) (ret := pw_ret cy) (As := As.map (pw_ph ad)) (rest := st.map (pw_ph ad)) (Ts := pw_g) (own := pw_own cx) (index := index) (hh := pw_hh cy) ⟨hF.1.1, hF.1.2.1, hF.1.2.2.1, hF.1.2.2.2.2, hF.2.1⟩ (hM ad) ?_ ⟨pw_Pc.blind, pw_pre hF hP (fun q h => hoA q (List.mem_reverse.mpr h)) hS hu.2.2⟩ rfl (by rw [List.length_map]) (hL.1) (by rw [List.map_append, List.map_reverse]) ?_ hd ⟨by rw [hRc]; omega, by rw [hRs]; omega⟩) kk kx
  · exact vx_cwSW As.length hF.2.1 (pw_gi (pw_mc hl (pw_mc h1 (pw_mc hi (pw_mc hc (fun w h => h)))))) rfl rfl rfl ⟨hy.1.1, hy.1.2, hy.2⟩ ⟨by rw [hF.2.2.2.1.1]; exact hR.1, by rw [hF.2.2.2.1.2.1]; exact hR.2⟩
  · have := pw_lw_le (ad := ad) hlw
    show 2 * 0 + _ ≤ 8
    omega
theorem pw_tab {cx : pw_C} {a : Prop} {T : List ExceptionTableEntry} (h : (pw_hh cx = [(0, 0, 0, 0)] ∧ pw_nm cx = "law") ∨ (T = tableOf (pw_hh cx) ∧ a)) (hh : pw_hh cx = []) : T = [] := by
  rcases h with h | h
  · rw [hh] at h; exact absurd h.1 (by simp)
  · rw [h.1, hh]; rfl
/-- no handler here: it goes on -/
theorem pvx_out {k : Nat} (hh : pw_hh cx = []) (hX1 : X w k) : pw_VX l g cx Q X pc L st w k := by
  intro p e R s m args below meth c H locs ls ad0 w0 ad q9 ce hF hP hX hL hoL hoS hS hu hce hcv hcl
  refine vx_out (mc := R.cells) (ms := R.slots) (fun x hx => ?_) hF.2.2.1.1 hce hcv hcl (fun t ht _ => ⟨w, ad, k, rfl, hX1, by rw [ht]; exact hP, hX, hS.F ht, hu⟩) hS.2.2 (by rw [hF.2.2.2.1.2.2.1]; omega) (by rw [hF.2.2.2.1.2.2.2]; omega)
  rw [pw_tab hF.2.2.1.2 hh] at hx
  cases hx
end PVD
