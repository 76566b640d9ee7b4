section PVT
variable {l : Launch} {g : pw_G} {cx : pw_C} {Q : pw_W → Int32 → Prop} {X : pw_W → Nat → Prop} {pc n : Nat} {L st : List (Nat × Int32)} {w : pw_W} {x y j : Int32} {t : Nat}
/-- what is asked of a throw: room for what is thrown, and X of the world with that much more used -/
def pw_thr (w : pw_W) (X : pw_W → Nat → Prop) (k : Nat) : Prop := w.2.2.1 + 1 ≤ 600104 ∧ w.2.2.2 + 6 ≤ 7301313 ∧ ∀ u v, w.2.2.1 ≤ u → u ≤ w.2.2.1 + 1 → w.2.2.2 ≤ v → v ≤ w.2.2.2 + 6 → X (w.1, w.2.1, u, v) k
theorem pw_imp {p : Program} {l : Launch} {e : Env} {R : Room} {s : State} {m : MethodId} {args : Array Value} {below : List Frame} {meth : Method} {c : Code} {H : Heap} {locs : List Loc} {cells slots : Nat} {Q1 Q2 : State → Prop} {gf : JFrame} (h : ∀ t, Q1 t → Q2 t) (k : W p l e R s m args below meth c H locs cells slots Q1 gf) : W p l e R s m args below meth c H locs cells slots Q2 gf := fun T hT XT => by
  obtain ⟨t, a, b⟩ := k T hT XT
  exact ⟨t, a, h t b⟩
theorem pw_P.more {ad : Nat → Nat → Nat} {w : pw_W} {H H1 : Heap} (hP : pw_P g ad w H) (hH : ∀ q : Nat, q < H.size → H1[q]? = H[q]?) (hs : H.size ≤ H1.size) {u v : Nat} (hu : H1.size = g.2.2.2.1 + u) (hv : pw_sum g.2.2.2.1 H1 = v) : pw_P g ad (w.1, w.2.1, u, v) H1 := by
  obtain ⟨h1, h2, h3, h4, h5, h6, h7, h8⟩ := hP
  refine ⟨fun f i hv => ?_, h2, fun f i k a b c => ?_, h4, ⟨h5.1, by rw [hH _ (by rw [h6]; have := h5.2.2; omega)]; exact h5.2.1, h5.2.2⟩, hu, hv, h8⟩
  · have hb := h1 f i hv
    refine ⟨?_, hb.2⟩
    have hlt := va_at.lt hb.1
    have hk := hH _ hlt
    have ha := hb.1
    show va_at g.1 pw_cl (ad f i, pw_e g ad w f i) H1
    unfold va_at at ha ⊢
    split at ha
    · rw [hk]; exact ha
    · obtain ⟨r, e1, e2⟩ := ha
      exact ⟨r, e1, e2.kept hk⟩
  · exact h3 f i k a b c
theorem pw_sum_sub {b : Nat} {s T : Heap} {n : Nat} (hb : b ≤ s.size) (h6 : ∀ (a : Nat) (c : Cell), s[a]? = some c → ∃ c' : Cell, T[a]? = some c' ∧ c'.slots.size = c.slots.size) : pw_sum b T = pw_sum b s + ((T.toList.drop s.size).map (·.slots.size)).sum := by
  unfold pw_sum
  have e : (T.toList.map (·.slots.size)).take s.size = s.toList.map (·.slots.size) := by
    apply List.ext_getElem?
    intro i
    by_cases hi : i < s.size
    · rw [List.getElem?_take_of_lt hi, List.getElem?_map, List.getElem?_map, Array.getElem?_toList, Array.getElem?_toList]
      obtain ⟨c', e1, e2⟩ := h6 i s[i] (Array.getElem?_eq_getElem hi)
      rw [e1, Array.getElem?_eq_getElem hi]
      exact congrArg some e2
    · rw [List.getElem?_eq_none (by rw [List.length_take]; omega), List.getElem?_eq_none (by simpa using hi)]
  rw [List.map_drop, List.map_drop, List.map_drop, ← e, List.drop_take]
  generalize T.toList.map (·.slots.size) = B at *
  have e3 : (((B.drop b).take (s.size - b)) ++ ((B.drop b).drop (s.size - b))).sum = (B.drop b).sum := by rw [List.take_append_drop]
  rw [List.sum_append, List.drop_drop, show b + (s.size - b) = s.size by omega] at e3
  omega
theorem pw_hw_on : ∀ w ∈ pw_hw, w.onTables = true := by decide +kernel
def pw_exn : List String := ["java/lang/RuntimeException", "java/lang/Exception"]
theorem pv_throw {k ik is ic : Nat} {text : String} (hl0 : l.stackTraces = false) (hk : Cond.classLink (pw_own cx) ik (pw_en k) ∈ pw_g) (hini : Cond.initialized (pw_en k) ∈ pw_g) (hfit : Bundle.fit (pw_en k) = true) (hstr : (pw_own cx, is, text) ∈ pw_strs) (hat : ∀ w ∈ vx_atS (pw_own cx) ic (pw_en k) pw_exn, w ∈ pw_g ∨ w ∈ pw_hw) (hgood : ∀ w ∈ Cond.classLink (pw_own cx) ik (pw_en k) :: Cond.initialized (pw_en k) :: vx_atS (pw_own cx) ic (pw_en k) pw_exn, vx_ot w = true)
    (hh : pw_hh cx = []) (d0 : decode (pw_cc cx) pc = .ok (.new ik, 3)) (d3 : decode (pw_cc cx) (pc + 3) = .ok (.dup, 1)) (d4 : decode (pw_cc cx) (pc + 4) = .ok (.ldc_w is, 3)) (d7 : decode (pw_cc cx) (pc + 7) = .ok (.invokespecial ic, 3)) (d10 : decode (pw_cc cx) (pc + 10) = .ok (.athrow, 1))
    (hR : 5 < pw_fr cx ∧ 90 ≤ pw_lo cx) (hlw : pw_lw st = true) (h : pw_thr w X k) : pw_V l g cx Q X pc L st w := by
  intro p e R s m args below meth c H locs ls ad0 w0 ad hF hP hX hL hoL hoS hS hu
  obtain ⟨r1, r2, r3⟩ := h
  have hRc := hF.2.2.2.1.2.2.1
  have hRs := hF.2.2.2.1.2.2.2
  have hK := hF.2.2.2.2.1
  obtain ⟨sa, hsa⟩ := hK.2.2.2.2.2.2.1 _ hstr
  have key := vx_throwSW (Qc := pw_Qc g (pw_rt cx) ad0 w0 Q) (XC := fun E st1 t => E = pw_en k ∧ H.size ≤ t.heap.size ∧ ∀ q : Nat, q < H.size → t.heap[q]? = H[q]?) (free := pw_A g) (below := below) (locs := locs) (ls := ls) (rest := st.map (pw_ph ad)) (cells := w.2.2.1 - w0.2.2.1) (slots := w.2.2.2 - w0.2.2.2) (mc := w.2.2.1 - w0.2.2.1 + 1) (ms := w.2.2.2 - w0.2.2.2 + 6) (l := l) (p := p) (e := e) (R := R) (s := s) (m := m) (args := args) (meth := meth) (c := c) (H := H) (own := pw_own cx) (cls := pw_en k) (text := text) (names := pw_exn) (ik := ik) (is := is) (ic := ic) (sa := sa) (A := pw_A g)
    hF.1.1 hF.1.2.1 hl0 hF.1.2.2.2.2 hfit (by decide +kernel) (hF.2.1 _ hk) (hF.2.1 _ hini) hsa (fun w hw => (hat w hw).elim (fun h => hF.2.1 _ h) (fun h => va_Nw.use (pw_hw_on _ h) (hF.2.2.2.2.1.2.2.2.2.2.2.2.2.2.1 _ h))) hgood hK.2.1 hK.2.2.1 hS (by rw [hF.1.2.2.1]; exact hL.1) d0 d3 d4 d7 d10
    (fun x hx => by rw [pw_tab hF.2.2.1.2 hh] at hx; cases hx) (by rw [hF.2.2.2.1.1]; exact hR.1) (by
      have := pw_lw_le (ad := ad) hlw
      rw [hF.2.2.2.1.2.1]
      show _ + (13 * (2 + 1) + 43) ≤ _
      omega) (by rw [hRc]; omega) (by rw [hRs]; omega) hF.2.2.1.1 (fun t _ h2 h3 => ⟨rfl, h2, h3⟩) hS.2.2 (Nat.le_refl _) (Nat.le_refl _)
  refine pw_imp ?_ key
  rintro t ⟨o, b1, b2, b3⟩
  refine ⟨o, b1, b2, ?_⟩
  rcases b3 with ⟨b3, L9, b4, b5⟩ | ⟨q, rfl, E, ce, L9, ⟨rfl, x2, x3⟩, hce, hcv, hcl, hW, hsame, hfree⟩
  · left
    obtain ⟨b6, b7, b8⟩ := b4
    refine ⟨b3, L9, ⟨b6, b7, ?_⟩, b5⟩
    exact b8.mono (by rw [hRc]; omega) (by rw [hRs]; omega)
  · right
    obtain ⟨s1, s2, s3, s4, s5, s6⟩ := id hsame
    have hts : ({ t with vm := s.vm } : State).heap = t.heap := rfl
    rw [hts] at s2 s3 s4 s5 s6
    have hsz0 := hF.2.2.2.2.2.2.1
    have hsm0 := hF.2.2.2.2.2.2.2
    have hsum := pw_sum_sub (b := g.2.2.2.1) (s := s.heap) (T := t.heap) (n := 0) (by omega) (fun a c1 ha => by
      obtain ⟨c', e1, -, e2, -⟩ := s6 a c1 ha
      exact ⟨c', e1, e2⟩)
    have hsz := hP.2.2.2.2.2.1
    have hsumH : w.2.2.2 ≤ pw_sum g.2.2.2.1 t.heap := by
      have h9 := pw_sum_sub (b := g.2.2.2.1) (s := H) (T := t.heap) (n := 0) (by omega) (fun a c1 ha => ⟨c1, by rw [x3 a (Array.getElem?_eq_some_iff.mp ha).1]; exact ha, rfl⟩)
      rw [hP.2.2.2.2.2.2.1] at h9
      omega
    have hu1 : t.heap.size = g.2.2.2.1 + (t.heap.size - g.2.2.2.1) := by omega
    refine ⟨q, rfl, pw_en k, ce, L9, ⟨(w.1, w.2.1, t.heap.size - g.2.2.2.1, pw_sum g.2.2.2.1 t.heap), ad, k, rfl, r3 _ _ (by omega) (by omega) hsumH (by omega), hP.more x3 x2 hu1 rfl, hX.trans ⟨fun _ => Nat.le_refl _, fun _ _ _ _ => rfl, rfl⟩, ⟨by omega, fun a h1 h2 => ?_⟩, ?_⟩, hce, hcv, hcl, hW, hsame.mono (by rw [hRc]; omega) (by rw [hRs]; omega), hfree⟩
    · rw [x3 a (Nat.lt_of_lt_of_le h1 hS.1)]
      exact hS.2.1 a h1 h2
    · show _ ≤ t.heap.size - g.2.2.2.1 ∧ _ ≤ pw_sum g.2.2.2.1 t.heap ∧ t.heap.size - g.2.2.2.1 ≤ _ ∧ pw_sum g.2.2.2.1 t.heap ≤ _
      omega
theorem pw_split {cx : pw_C} {a : Prop} {T pre suf : List ExceptionTableEntry} {xe : ExceptionTableEntry} (h : (pw_hh cx = [(0, 0, 0, 0)] ∧ pw_nm cx = "law") ∨ (T = tableOf (pw_hh cx) ∧ a)) (hs : tableOf (pw_hh cx) = pre ++ xe :: suf) (h0 : xe.catchType ≠ 0) : T = pre ++ xe :: suf := by
  rcases h with h | h
  · rw [h.1] at hs
    cases pre with
    | nil =>
      have e : (⟨0, 0, 0, 0⟩ : ExceptionTableEntry) = xe := (List.cons.inj hs).1
      rw [← e] at h0; exact absurd rfl h0
    | cons z pre =>
      have e := (List.cons.inj hs).2
      have e2 := congrArg List.length e
      simp at e2
  · rw [h.1, hs]
/-- caught: the entries ahead of it don't take it; the handler's first instruction puts the exception away -/
theorem pvx_catch {k i jf n : Nat} (pre : List ExceptionTableEntry) (xe : ExceptionTableEntry) (suf : List ExceptionTableEntry) {L1 : List (Nat × Int32)} (hsplit : tableOf (pw_hh cx) = pre ++ xe :: suf)
    (hpass : ∀ z ∈ pre, z.catchType ≠ 0 ∧ ∃ k2, Cond.classLink (pw_own cx) z.catchType (pw_en k2) ∈ pw_g ∧ (k, k2) ∈ [(1, 2), (1, 3), (2, 1), (2, 3), (3, 1), (3, 2)]) (hx : covers xe pc = true) (h0 : xe.catchType ≠ 0)
    (hl : Cond.classLink (pw_own cx) xe.catchType (pw_en k) ∈ pw_g) (hcast : Cond.castable (pw_en k) (pw_en k) ∈ pw_hw) (hpc : xe.handlerPc = i) (hd : decode (pw_cc cx) i = .ok (.astore jf, 2)) (hlt : jf < pw_nL cx) (hL1 : L.set jf (1, 0) = L1) (hn : i + 2 = n)
    (kk : pw_V l g cx Q X n L1 [] w) : pw_VX l g cx Q X pc L st w k := by
  subst hn; subst hL1; subst hpc
  intro p e R s m args below meth c H locs ls ad0 w0 ad q9 ce hF hP hX hL hoL hoS hS hu hce hcv hcl
  refine vx_catch hF.1.2.2.2.2 pre xe suf (pw_split hF.2.2.1.2 hsplit h0) (fun z hz => Or.inr ?_) hx h0 (hF.2.1 _ hl) (va_Nw.use rfl (hF.2.2.2.2.1.2.2.2.2.2.2.2.2.2.1 _ hcast)) hce hcv hcl ?_
  · obtain ⟨z1, k2, z2, z3⟩ := hpass z hz
    exact ⟨z1, pw_en k2, hF.2.1 _ z2, hF.2.2.2.2.1.2.2.2.2.2.2.2.2.1 (k, k2) z3⟩
  · exact lv_astore hF.1.1 hF.1.2.1 hd hL.has hlt rfl (fun ls' hls => kk p e R s m args below meth c H locs ls' ad0 w0 ad hF hP hX (hL.set hlt (fun h => absurd rfl h) hls) (pw_oL trivial hoL) (fun q h => by cases h) hS hu)
theorem pvx_catch_n {k i n : Nat} {jf : Fin 4} (pre : List ExceptionTableEntry) (xe : ExceptionTableEntry) (suf : List ExceptionTableEntry) {L1 : List (Nat × Int32)} (hsplit : tableOf (pw_hh cx) = pre ++ xe :: suf)
    (hpass : ∀ z ∈ pre, z.catchType ≠ 0 ∧ ∃ k2, Cond.classLink (pw_own cx) z.catchType (pw_en k2) ∈ pw_g ∧ (k, k2) ∈ [(1, 2), (1, 3), (2, 1), (2, 3), (3, 1), (3, 2)]) (hx : covers xe pc = true) (h0 : xe.catchType ≠ 0)
    (hl : Cond.classLink (pw_own cx) xe.catchType (pw_en k) ∈ pw_g) (hcast : Cond.castable (pw_en k) (pw_en k) ∈ pw_hw) (hpc : xe.handlerPc = i) (hd : decode (pw_cc cx) i = .ok (.astore_n jf, 1)) (hlt : (jf : Nat) < pw_nL cx) (hL1 : L.set (jf : Nat) (1, 0) = L1) (hn : i + 1 = n)
    (kk : pw_V l g cx Q X n L1 [] w) : pw_VX l g cx Q X pc L st w k := by
  subst hn; subst hL1; subst hpc
  intro p e R s m args below meth c H locs ls ad0 w0 ad q9 ce hF hP hX hL hoL hoS hS hu hce hcv hcl
  refine vx_catch hF.1.2.2.2.2 pre xe suf (pw_split hF.2.2.1.2 hsplit h0) (fun z hz => Or.inr ?_) hx h0 (hF.2.1 _ hl) (va_Nw.use rfl (hF.2.2.2.2.1.2.2.2.2.2.2.2.2.2.1 _ hcast)) hce hcv hcl ?_
  · obtain ⟨z1, k2, z2, z3⟩ := hpass z hz
    exact ⟨z1, pw_en k2, hF.2.1 _ z2, hF.2.2.2.2.1.2.2.2.2.2.2.2.2.1 (k, k2) z3⟩
  · exact lv_astore_n hF.1.1 hF.1.2.1 hd rfl hL.has hlt rfl (fun ls' hls => kk p e R s m args below meth c H locs ls' ad0 w0 ad hF hP hX (hL.set hlt (fun h => absurd rfl h) hls) (pw_oL trivial hoL) (fun q h => by cases h) hS hu)
end PVT
