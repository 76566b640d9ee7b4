/-! contracts, calls, exceptions -/
def pw_VX (l : Launch) (g : pw_G) (cx : pw_C) (Q : pw_W → Int32 → Prop) (X : pw_W → Nat → Prop) (pc : Nat) (L st : List (Nat × Int32)) (w : pw_W) (k : Nat) : Prop :=
  ∀ (p : Program) (e : Env) (R : Room) (s : State) (m : MethodId) (args : Array Value) (below : List Frame) (meth : Method) (c : Code) (H : Heap) (locs : List Loc) (ls : Array Slot) (ad0 : Nat → Nat → Nat) (w0 : pw_W) (ad : Nat → Nat → Nat) (q9 : Addr) (ce : Cell),
    pw_F l g cx p R s m args meth c w0 → pw_P g ad w H → pw_x ad0 w0 ad w → pw_L cx ad ls L → (∀ q ∈ L, pw_ok w q) → (∀ q ∈ st, pw_ok w q) → va_S (pw_A g) s.heap H locs → (w0.2.2.1 ≤ w.2.2.1 ∧ w0.2.2.2 ≤ w.2.2.2 ∧ w.2.2.1 ≤ 600104 ∧ w.2.2.2 ≤ 7301313) →
    H[q9]? = some ce → ce.vm = .none → s.vm.findClass (pw_en k) = some ce.cls →
    vx_W p l e R s m args below meth c H locs (w.2.2.1 - w0.2.2.1) (w.2.2.2 - w0.2.2.2) (vx_MQ below (pw_Qc g (pw_rt cx) ad0 w0 Q) (pw_XC g ad0 w0 X) args s R.cells R.slots (pw_A g)) (F0 m pc ls (st.map (pw_ph ad))) q9
def pw_Pc (g : pw_G) (ad : Nat → Nat → Nat) (As : List (Nat × Int32)) (w : pw_W) : Array Value → State → Prop := fun v U =>
  v = (As.map (pw_ph ad)).toArray ∧ pw_P g ad w U.heap ∧ pw_K g U U.heap ∧ (∀ q ∈ As, pw_ok w q) ∧ w.2.2.1 ≤ 600104 ∧ w.2.2.2 ≤ 7301313
theorem pw_Pc.blind {g : pw_G} {ad : Nat → Nat → Nat} {As : List (Nat × Int32)} {w : pw_W} : FrameBlind (pw_Pc g ad As w) := by
  intro a U gf mk ⟨h1, h2, h3, h4⟩
  have hW : U.WarmedH (U.calling gf mk a).vm := State.WarmedH.refl U
  exact ⟨h1, h2, pw_K.go hW h3 (fun _ _ _ => rfl), h4⟩
def pw_rm0 (cx : pw_C) (w : pw_W) : Room := { frames := pw_fr cx, cells := 600104 - w.2.2.1, slots := 7301313 - w.2.2.2, locals := pw_lo cx }
/-- the contract: called with As in the world w, y comes to Q or to X -/
def pw_Con (l : Launch) (g : pw_G) (y : MethodName) (cx : pw_C) (As : List (Nat × Int32)) (w : pw_W) (Q : pw_W → Int32 → Prop) (X : pw_W → Nat → Prop) : Prop :=
  ∀ ad, vx_Met l y (Cond.code y (pw_cc cx) (pw_nL cx) (pw_ret cx) :: pw_g) (pw_rm0 cx w) (pw_Pc g ad As w) (pw_Qc g (pw_rt cx) ad w Q) (pw_XC g ad w X) (600104 - w.2.2.1) (7301313 - w.2.2.2) (pw_A g)
def pw_ConH (l : Launch) (g : pw_G) (y : MethodName) (cx : pw_C) (As : List (Nat × Int32)) (w : pw_W) (Q : pw_W → Int32 → Prop) (X : pw_W → Nat → Prop) : Prop :=
  ∀ ad, vx_Met l y (Cond.codeWith y (pw_cc cx) (pw_nL cx) (pw_ret cx) (pw_hh cx) :: pw_g) (pw_rm0 cx w) (pw_Pc g ad As w) (pw_Qc g (pw_rt cx) ad w Q) (pw_XC g ad w X) (600104 - w.2.2.1) (7301313 - w.2.2.2) (pw_A g)
section PVC
variable {l : Launch} {g : pw_G} {cx : pw_C} {Q : pw_W → Int32 → Prop} {X : pw_W → Nat → Prop} {pc n : Nat} {L st : List (Nat × Int32)} {w : pw_W} {x y j : Int32} {t : Nat}
theorem pw_args_at : ∀ (vs : List Value) (i : Nat), (∀ v ∈ vs, v.category = 1) → ∀ (k : Nat) (v : Value), vs[k]? = some v → (i + k, v) ∈ lv_args i vs
  | [], _, _, k, v, h => by simp at h
  | v0 :: vs, i, hc, 0, v, h => by
    have e : v0 = v := by simpa using h
    subst e
    exact List.mem_cons_self
  | v0 :: vs, i, hc, k + 1, v, h => by
    have h1 := hc v0 List.mem_cons_self
    have e := pw_args_at vs (i + 1) (fun v hv => hc v (List.mem_cons_of_mem _ hv)) k v (by simpa using h)
    unfold lv_args
    rw [if_neg (by rw [h1]; decide)]
    refine List.mem_cons_of_mem _ ?_
    rwa [show i + 1 + k = i + (k + 1) by omega] at e
theorem pw_sl_len : ∀ (vs : List Value), (∀ v ∈ vs, v.category = 1) → (lg_sl vs).length = vs.length
  | [], _ => rfl
  | v :: vs, hc => by
    have h1 := hc v List.mem_cons_self
    have e := pw_sl_len vs (fun v hv => hc v (List.mem_cons_of_mem _ hv))
    have e2 : lg_sl (v :: vs) = Slot.val v :: lg_sl vs := by unfold lg_sl; rw [List.flatMap_cons, if_neg (by rw [h1]; decide)]; rfl
    rw [e2, List.length_cons, List.length_cons, e]
/-- the locals at the entry -/
theorem pw_L_entry {ad : Nat → Nat → Nat} {As : List (Nat × Int32)} (hlen : As.length ≤ pw_nL cx) (htag : ∀ q ∈ As, q.1 ≠ 1) :
    pw_L cx ad ((lg_sl (As.map (pw_ph ad)) ++ List.replicate (pw_nL cx - (lg_sl (As.map (pw_ph ad))).length) Slot.unset).toArray) (As ++ List.replicate (pw_nL cx - As.length) (1, 0)) := by
  have hc : ∀ v ∈ As.map (pw_ph ad), v.category = 1 := fun v hv => by
    obtain ⟨q, hq, rfl⟩ := List.mem_map.mp hv
    exact pw_cat1 (x := q.2) (htag q hq)
  have hsl := pw_sl_len _ hc
  rw [List.length_map] at hsl
  obtain ⟨h1, h2, h3⟩ := lv_entry (As.map (pw_ph ad)) (n := pw_nL cx) (by rw [hsl]; exact hlen)
  refine ⟨h1, h2, by rw [List.length_append, List.length_replicate]; omega, fun k q hq hq1 => ?_⟩
  by_cases hk : k < As.length
  · rw [List.getElem?_append_left hk] at hq
    have hm := pw_args_at (As.map (pw_ph ad)) 0 hc k (pw_ph ad q) (by rw [List.getElem?_map, hq]; rfl)
    rw [Nat.zero_add] at hm
    exact h3 _ hm
  · rw [List.getElem?_append_right (by omega)] at hq
    have := List.eq_of_mem_replicate (List.mem_of_getElem? hq)
    rw [this] at hq1
    exact absurd rfl hq1
theorem pw_con {y : MethodName} {As : List (Nat × Int32)} (hy : plainName y.cls = true) (hyc : y.cls = pw_own cx) (hnm : y.name = pw_nm cx) (hl : l.stackTraces = false) (hh : pw_hh cx = []) (hlen : As.length ≤ pw_nL cx) (htag : ∀ q ∈ As, q.1 ≠ 1)
    (k : pw_V l g cx Q X 0 (As ++ List.replicate (pw_nL cx - As.length) (1, 0)) [] w) : pw_Con l g y cx As w Q X := by
  intro ad
  refine vx_ofW (cc := pw_cc cx) (maxL := pw_nL cx) (ret := pw_ret cx) hy rfl ?_
  intro p e s m args below meth c s₁ B hml hno hPc
  obtain ⟨rfl, hP, hK, hok, hu1, hu2⟩ := hPc
  rw [lg_entry_eq]
  have hts : ∀ w ∈ pw_g, w.before (As.map (pw_ph ad)).toArray s = true := fun w' hw' => atoms_spec (ws := Cond.code y (pw_cc cx) (pw_nL cx) (pw_ret cx) :: pw_g) B.pre w' (List.mem_cons_of_mem _ hw')
  have hF : pw_F l g cx p (pw_rm0 cx w) s m (As.map (pw_ph ad)).toArray meth c w := by
    refine ⟨⟨B.exec, B.bytes, hml, B.returns, ?_⟩, hts, ⟨B.notSynchronized, Or.inr ⟨?_, ?_⟩⟩, ⟨rfl, rfl, rfl, rfl⟩, hK, hl, hP.2.2.2.2.2.1, hP.2.2.2.2.2.2.1⟩
    · rw [← hyc]; exact findClass_of_methodNamed B.named
    · rw [hh]
      show _ = []
      exact List.eq_nil_iff_forall_not_mem.mpr hno
    · rw [← hnm]; exact (name_of_methodNamed B.named B.method).1
  have h := k p e (pw_rm0 cx w) s m (As.map (pw_ph ad)).toArray below meth c s.heap [] _ ad w ad hF hP pw_x.rf (pw_L_entry (cx := cx) (ad := ad) hlen htag) (fun q hq => by
    rcases List.mem_append.mp hq with h | h
    · exact hok q h
    · rw [List.eq_of_mem_replicate h]; trivial) (fun q hq => by cases hq) va_S.rf ⟨Nat.le_refl _, Nat.le_refl _, hu1, hu2⟩
  rw [Nat.sub_self, Nat.sub_self] at h
  exact h
theorem pw_conH {y : MethodName} {As : List (Nat × Int32)} (hy : plainName y.cls = true) (hyc : y.cls = pw_own cx) (hnm : y.name = pw_nm cx) (hl : l.stackTraces = false) (hlen : As.length ≤ pw_nL cx) (htag : ∀ q ∈ As, q.1 ≠ 1)
    (k : pw_V l g cx Q X 0 (As ++ List.replicate (pw_nL cx - As.length) (1, 0)) [] w) : pw_ConH l g y cx As w Q X := by
  intro ad
  refine vx_ofWH (cc := pw_cc cx) (maxL := pw_nL cx) (ret := pw_ret cx) (hh := pw_hh cx) hy rfl ?_
  intro p e s m args below meth c s₁ B hml hPc
  obtain ⟨rfl, hP, hK, hok, hu1, hu2⟩ := hPc
  rw [lg_entry_eq]
  have hts0 := atoms_spec (ws := Cond.codeWith y (pw_cc cx) (pw_nL cx) (pw_ret cx) (pw_hh cx) :: pw_g) B.pre
  have hts : ∀ w ∈ pw_g, w.before (As.map (pw_ph ad)).toArray s = true := fun w' hw' => hts0 w' (List.mem_cons_of_mem _ hw')
  have hF : pw_F l g cx p (pw_rm0 cx w) s m (As.map (pw_ph ad)).toArray meth c w := by
    refine ⟨⟨B.exec, B.bytes, hml, B.returns, ?_⟩, hts, ⟨B.notSynchronized, Or.inr ⟨vx_table (x := y) B (hts0 _ List.mem_cons_self), ?_⟩⟩, ⟨rfl, rfl, rfl, rfl⟩, hK, hl, hP.2.2.2.2.2.1, hP.2.2.2.2.2.2.1⟩
    · rw [← hyc]; exact findClass_of_methodNamed B.named
    · rw [← hnm]; exact (name_of_methodNamed B.named B.method).1
  have h := k p e (pw_rm0 cx w) s m (As.map (pw_ph ad)).toArray below meth c s.heap [] _ ad w ad hF hP pw_x.rf (pw_L_entry (cx := cx) (ad := ad) hlen htag) (fun q hq => by
    rcases List.mem_append.mp hq with h | h
    · exact hok q h
    · rw [List.eq_of_mem_replicate h]; trivial) (fun q hq => by cases hq) va_S.rf ⟨Nat.le_refl _, Nat.le_refl _, hu1, hu2⟩
  rw [Nat.sub_self, Nat.sub_self] at h
  exact h
/-- the counts as they are, not as they were allowed -/
theorem pw_tight {p : Program} {e : Env} {R : Room} {s : State} {m : MethodId} {args : Array Value} {below : List Frame} {meth : Method} {c : Code} {T : State} {locs : List Loc} {k n b u v u0 v0 : Nat}
    (X : Stand p l e R s m args below meth c T locs k n) (hs : s.heap.size = b + u0) (hs2 : pw_sum b s.heap = v0) (ht : T.heap.size = b + u) (ht2 : pw_sum b T.heap = v) : Stand p l e R s m args below meth c T locs (u - u0) (v - v0) := by
  have hsame := X.same
  refine { X with same := ?_ }
  obtain ⟨h1, h2, h3, h4, h5, h6⟩ := hsame
  have hT : (T.setVm s.vm).heap = T.heap := rfl
  rw [hT] at h2 h3 h4 h5 h6
  have hsum : ((T.heap.toList.drop s.heap.size).map (·.slots.size)).sum + v0 = v := by
    rw [← hs2, ← ht2]
    unfold pw_sum
    have e : (T.heap.toList.map (·.slots.size)).take s.heap.size = s.heap.toList.map (·.slots.size) := by
      apply List.ext_getElem?
      intro i
      by_cases hi : i < s.heap.size
      · rw [List.getElem?_take_of_lt hi, List.getElem?_map, List.getElem?_map, Array.getElem?_toList, Array.getElem?_toList]
        obtain ⟨c', e1, -, e2, -⟩ := h6 i s.heap[i] (Array.getElem?_eq_getElem hi)
        rw [e1, Array.getElem?_eq_getElem hi]
        exact congrArg some e2
      · rw [List.getElem?_eq_none (by rw [List.length_take]; omega), List.getElem?_eq_none (by simpa using hi)]
    rw [List.map_drop, List.map_drop, List.map_drop, ← e, List.drop_take]
    generalize T.heap.toList.map (·.slots.size) = B at *
    have e3 : (((B.drop b).take (s.heap.size - b)) ++ ((B.drop b).drop (s.heap.size - b))).sum = (B.drop b).sum := by rw [List.take_append_drop]
    rw [List.sum_append, List.drop_drop, show b + (s.heap.size - b) = s.heap.size by omega] at e3
    omega
  refine ⟨h1, h2, ?_, h4, ?_, h6⟩
  · rw [hT]; omega
  · rw [hT]; omega
end PVC
