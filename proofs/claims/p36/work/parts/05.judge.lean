/-! the judgement: from here the method comes to an end with Q (its answer) or X (the kind of what it throws) -/
def pw_g : List Cond := lw_tbl.filter goodWord
/-- own name, code, locals, return type, the answer's tag (1: none), frames, words, handlers, name -/
abbrev pw_C : Type := String × ByteArray × Nat × Option FieldType × Nat × Nat × Nat × List (Nat × Nat × Nat × Nat) × String
abbrev pw_own (cx : pw_C) : String := cx.1
abbrev pw_cc (cx : pw_C) : ByteArray := cx.2.1
abbrev pw_nL (cx : pw_C) : Nat := cx.2.2.1
abbrev pw_ret (cx : pw_C) : Option FieldType := cx.2.2.2.1
abbrev pw_rt (cx : pw_C) : Nat := cx.2.2.2.2.1
abbrev pw_fr (cx : pw_C) : Nat := cx.2.2.2.2.2.1
abbrev pw_lo (cx : pw_C) : Nat := cx.2.2.2.2.2.2.1
abbrev pw_hh (cx : pw_C) : List (Nat × Nat × Nat × Nat) := cx.2.2.2.2.2.2.2.1
abbrev pw_nm (cx : pw_C) : String := cx.2.2.2.2.2.2.2.2
abbrev pw_A (g : pw_G) : Nat → Prop := fun q => g.2.2.2.1 ≤ q
def pw_tys (g : pw_G) : List (ClassId × FieldType) := [(g.2.1 0, .int), (g.2.1 1, .boolean), (g.2.1 2, .int), (g.2.1 3, .object "Peatland$Square"), (g.2.1 4, .object "Peatland$Person"), (g.2.1 5, .object "java/lang/Object")]
/-- the class of the kind of exception -/
def pw_en (k : Nat) : String := match k with
  | 1 => "java/lang/IndexOutOfBoundsException"
  | 2 => "java/lang/IllegalArgumentException"
  | _ => "java/lang/IllegalStateException"
def pw_strs : List (String × Nat × String) := [("Peatland", 370, "there is none of that number"), ("Peatland", 374, "an argument is out of range"), ("Peatland", 379, "this cannot be done now"), ("Peatland", 322, "back is below 0"), ("Peatland", 340, "no such thing is told of a case"), ("Peatland", 357, "no such thing is told of a square"), ("Peatland", 365, "no such thing is told of water")]
/-- words that move with the tables, but aren't 'good' -/
def pw_hw : List Cond := [.methodLinkNest "Peatland$Parcel" 30 ⟨"Peatland", "isInRange", "(III)Z"⟩ "Peatland", .methodLinkNest "Peatland$Case" 23 ⟨"Peatland", "isInRange", "(III)Z"⟩ "Peatland", .methodLinkNest "Peatland$Square" 62 ⟨"Peatland", "isInRange", "(III)Z"⟩ "Peatland", .castable (pw_en 1) (pw_en 1), .castable (pw_en 2) (pw_en 2), .castable (pw_en 3) (pw_en 3), .declares ⟨"java/lang/RuntimeException", "<init>", "(Ljava/lang/String;)V"⟩, .declares ⟨"java/lang/Exception", "<init>", "(Ljava/lang/String;)V"⟩, .declares ⟨"java/lang/Throwable", "<init>", "(Ljava/lang/String;)V"⟩, .castable "Peatland$Case" "java/lang/Object", .castable "Peatland$Drain" "java/lang/Object", .castable "Peatland$FieldMap" "java/lang/Object", .castable "Peatland$Parcel" "java/lang/Object", .castable "Peatland$Person" "java/lang/Object", .castable "Peatland$Right" "java/lang/Object", .declares ⟨"java/lang/Object", "getClass", "()Ljava/lang/Class;"⟩]
/-- the methods of lists that are called by their interface -/
def pw_fw : List (String × String) := [("add", "(Ljava/lang/Object;)Z"), ("size", "()I"), ("get", "(I)Ljava/lang/Object;"), ("remove", "(I)Ljava/lang/Object;"), ("isEmpty", "()Z")]
/-- what the tables and the statics say, at the state U, of the heap H -/
def pw_K (g : pw_G) (U : State) (H : Heap) : Prop :=
  va_K g.1 pw_cl (pw_tys g) U ∧
  vx_Zq Bundle.tN "UNASSIGNED_STACK" Bundle.steD (pw_A g) U H ∧ vx_Zq Bundle.tN "SUPPRESSED_SENTINEL" Bundle.listD (pw_A g) U H ∧
  va_Z "java/util/ArrayList" "DEFAULTCAPACITY_EMPTY_ELEMENTDATA" "[Ljava/lang/Object;" (.ref g.2.2.1) (pw_A g) U H ∧
  (∃ cell : Cell, H[g.2.2.1]? = some cell ∧ U.isArrayOf cell (.object "java/lang/Object") ∧ cell.vm ≠ .unknown ∧ ¬ pw_A g g.2.2.1 ∧ cell.slots.size = 0) ∧
  (va_AO "Peatland$Square" U ∧ va_AO "Peatland$Person" U ∧ va_AO "java/lang/Object" U) ∧
  (∀ q ∈ pw_strs, ∃ sa, vk_R q.1 q.2.1 q.2.2 sa U) ∧
  (U.isArrayOf g.2.2.2.2.2 .int ∧ g.2.2.2.2.2.vm ≠ .unknown) ∧
  (∀ q ∈ [(1, 2), (1, 3), (2, 1), (2, 3), (3, 1), (3, 2)], va_Nc (pw_en q.1) (pw_en q.2) U) ∧
  (∀ w ∈ pw_hw, va_Nw w U) ∧ (∀ q ∈ pw_fw, va_Fw "java/util/ArrayList" ⟨"java/util/List", q.1, q.2⟩ ⟨"java/util/ArrayList", q.1, q.2⟩ U) ∧ (∃ mi, va_Mi "[Ljava/lang/Object;" mi U)
theorem pw_K.go {g : pw_G} {s U : State} {H0 H1 : Heap} (hW : s.WarmedH U.vm) (h : pw_K g s H0) (hq : ∀ a : Nat, a < H0.size → ¬ pw_A g a → H1[a]? = H0[a]?) : pw_K g U H1 := by
  obtain ⟨h1, h2, h3, h4, ⟨cell, h5, h6, h7, h8, h8'⟩, ⟨h9, h10, h11⟩, h12, ⟨h13, h14⟩, h15, h16, h17, mi, h18⟩ := h
  have hA := hW.alike
  refine ⟨h1.moved hA, (h2.moved hA).kept hq, (h3.moved hA).kept hq, (h4.moved hA).kept hq, ⟨cell, ?_, State.isArrayOf_alike hA h6, h7, h8, h8'⟩, ⟨h9.moved hA, h10.moved hA, h11.moved hA⟩, ?_, ⟨State.isArrayOf_alike hA h13, h14⟩, fun q hm => (h15 q hm).moved hA, fun w hw => ?_, fun q hm => (h17 q hm).moved ⟨by simp, by simp⟩ hA, mi, h18.moved hA⟩
  · rw [hq _ (Array.getElem?_eq_some_iff.mp h5).1 h8]; exact h5
  · intro q hm
    obtain ⟨sa, h⟩ := h12 q hm
    exact ⟨sa, h.warm hW⟩
  · have h := h16 w hw
    simp only [pw_hw, List.mem_cons, List.not_mem_nil, or_false] at hw
    rcases hw with rfl | rfl | rfl | rfl | rfl | rfl | rfl | rfl | rfl | rfl | rfl | rfl | rfl | rfl | rfl | rfl
    · exact va_Nw.warmM hW h
    · exact va_Nw.warmM hW h
    · exact va_Nw.warmM hW h
    · exact va_Nw.warmC hW h
    · exact va_Nw.warmC hW h
    · exact va_Nw.warmC hW h
    · exact va_Nw.warmD hW h
    · exact va_Nw.warmD hW h
    · exact va_Nw.warmD hW h
    · exact va_Nw.warmC hW h
    · exact va_Nw.warmC hW h
    · exact va_Nw.warmC hW h
    · exact va_Nw.warmC hW h
    · exact va_Nw.warmC hW h
    · exact va_Nw.warmC hW h
    · exact va_Nw.warmD hW h
/-- the frame's own facts -/
def pw_F (l : Launch) (g : pw_G) (cx : pw_C) (p : Program) (R : Room) (s : State) (m : MethodId) (args : Array Value) (meth : Method) (c : Code) (w0 : pw_W) : Prop :=
  (p.tables.exec = Jvm.exec ∧ c.code = pw_cc cx ∧ c.maxLocals = pw_nL cx ∧ meth.sig.returnType = pw_ret cx ∧ s.vm.findClass (pw_own cx) = some m.cls) ∧
  (∀ w ∈ pw_g, w.before args s = true) ∧ (meth.locks = false ∧ ((pw_hh cx = [(0, 0, 0, 0)] ∧ pw_nm cx = "law") ∨ (c.exceptionTable.toList = tableOf (pw_hh cx) ∧ meth.name = pw_nm cx))) ∧
  (R.frames = pw_fr cx ∧ R.locals = pw_lo cx ∧ R.cells = 600104 - w0.2.2.1 ∧ R.slots = 7301313 - w0.2.2.2) ∧
  pw_K g s s.heap ∧ l.stackTraces = false ∧ s.heap.size = g.2.2.2.1 + w0.2.2.1 ∧ pw_sum g.2.2.2.1 s.heap = w0.2.2.2
def pw_L (cx : pw_C) (ad : Nat → Nat → Nat) (ls : Array Slot) (L : List (Nat × Int32)) : Prop :=
  ls.size = pw_nL cx ∧ lv_wf ls ∧ L.length = pw_nL cx ∧ ∀ (k : Nat) (q : Nat × Int32), L[k]? = some q → q.1 ≠ 1 → ls[k]? = some (.val (pw_ph ad q))
def pw_Qc (g : pw_G) (rt : Nat) (ad0 : Nat → Nat → Nat) (w0 : pw_W) (Q : pw_W → Int32 → Prop) : Array Value → State → Outcome → State → Prop := fun _ st o t =>
  ∃ (w' : pw_W) (ad' : Nat → Nat → Nat) (r : Int32), o = .returned (if rt = 1 then none else some (pw_ph ad' (rt, r))) ∧ pw_ok w' (rt, r) ∧ Q w' r ∧ pw_P g ad' w' t.heap ∧ pw_x ad0 w0 ad' w' ∧ va_F (pw_A g) st t ∧ (w0.2.2.1 ≤ w'.2.2.1 ∧ w0.2.2.2 ≤ w'.2.2.2 ∧ w'.2.2.1 ≤ 600104 ∧ w'.2.2.2 ≤ 7301313)
def pw_XC (g : pw_G) (ad0 : Nat → Nat → Nat) (w0 : pw_W) (X : pw_W → Nat → Prop) : String → State → State → Prop := fun E st t =>
  ∃ (w' : pw_W) (ad' : Nat → Nat → Nat) (k : Nat), E = pw_en k ∧ X w' k ∧ pw_P g ad' w' t.heap ∧ pw_x ad0 w0 ad' w' ∧ va_F (pw_A g) st t ∧ (w0.2.2.1 ≤ w'.2.2.1 ∧ w0.2.2.2 ≤ w'.2.2.2 ∧ w'.2.2.1 ≤ 600104 ∧ w'.2.2.2 ≤ 7301313)
def pw_V (l : Launch) (g : pw_G) (cx : pw_C) (Q : pw_W → Int32 → Prop) (X : pw_W → Nat → Prop) (pc : Nat) (L st : List (Nat × Int32)) (w : pw_W) : Prop :=
  ∀ (p : Program) (e : Env) (R : Room) (s : State) (m : MethodId) (args : Array Value) (below : List Frame) (meth : Method) (c : Code) (H : Heap) (locs : List Loc) (ls : Array Slot) (ad0 : Nat → Nat → Nat) (w0 : pw_W) (ad : Nat → Nat → Nat),
    pw_F l g cx p R s m args meth c w0 → pw_P g ad w H → pw_x ad0 w0 ad w → pw_L cx ad ls L → (∀ q ∈ L, pw_ok w q) → (∀ q ∈ st, pw_ok w q) → va_S (pw_A g) s.heap H locs → (w0.2.2.1 ≤ w.2.2.1 ∧ w0.2.2.2 ≤ w.2.2.2 ∧ w.2.2.1 ≤ 600104 ∧ w.2.2.2 ≤ 7301313) →
    W p l e R s m args below meth c H locs (w.2.2.1 - w0.2.2.1) (w.2.2.2 - w0.2.2.2) (vx_MQ below (pw_Qc g (pw_rt cx) ad0 w0 Q) (pw_XC g ad0 w0 X) args s R.cells R.slots (pw_A g)) (F0 m pc ls (st.map (pw_ph ad)))
section PV
variable {l : Launch} {g : pw_G} {cx : pw_C} {Q : pw_W → Int32 → Prop} {X : pw_W → Nat → Prop} {pc n : Nat} {L st : List (Nat × Int32)} {w : pw_W} {x y : Int32} {t : Nat}
theorem pw_oc {w : pw_W} {q : Nat × Int32} {st : List (Nat × Int32)} (h : pw_ok w q) (hs : ∀ q ∈ st, pw_ok w q) : ∀ a ∈ q :: st, pw_ok w a := fun a ha => by
  rcases List.mem_cons.mp ha with rfl | ha
  · exact h
  · exact hs a ha
theorem pw_ot {w : pw_W} {q : Nat × Int32} {st : List (Nat × Int32)} (hs : ∀ a ∈ q :: st, pw_ok w a) : ∀ q ∈ st, pw_ok w q := fun a ha => hs a (List.mem_cons_of_mem _ ha)
theorem pw_cat1 {ad : Nat → Nat → Nat} {t : Nat} {x : Int32} (ht : t ≠ 1) : (pw_ph ad (t, x)).category = 1 := by
  match t, ht with
  | 0, _ => rfl
  | F + 2, _ =>
    show (va_rf (pw_rf ad F x)).category = 1
    cases pw_rf ad F x <;> rfl
theorem pv_iconst {i : Int} {v : Int32} (hd : decode (pw_cc cx) pc = .ok (.iconst i, 1)) (hv : Int32.ofInt i = v) (hn : pc + 1 = n) (k : pw_V l g cx Q X n L ((0, v) :: st) w) : pw_V l g cx Q X pc L st w := by
  subst hn
  intro p e R s m args below meth c H locs ls ad0 w0 ad hF hP hX hL hoL hoS hS hu
  exact lv_iconst hF.1.1 hF.1.2.1 hd hv (k p e R s m args below meth c H locs ls ad0 w0 ad hF hP hX hL hoL (pw_oc trivial hoS) hS hu)
theorem pv_bipush {i : Int} {v : Int32} (hd : decode (pw_cc cx) pc = .ok (.bipush i, 2)) (hv : (Int8.ofInt i).toInt32 = v) (hn : pc + 2 = n) (k : pw_V l g cx Q X n L ((0, v) :: st) w) : pw_V l g cx Q X pc L st w := by
  subst hn
  intro p e R s m args below meth c H locs ls ad0 w0 ad hF hP hX hL hoL hoS hS hu
  exact lv_bipush hF.1.1 hF.1.2.1 hd hv (k p e R s m args below meth c H locs ls ad0 w0 ad hF hP hX hL hoL (pw_oc trivial hoS) hS hu)
theorem pv_sipush {i : Int} {v : Int32} (hd : decode (pw_cc cx) pc = .ok (.sipush i, 3)) (hv : (Int16.ofInt i).toInt32 = v) (hn : pc + 3 = n) (k : pw_V l g cx Q X n L ((0, v) :: st) w) : pw_V l g cx Q X pc L st w := by
  subst hn
  intro p e R s m args below meth c H locs ls ad0 w0 ad hF hP hX hL hoL hoS hS hu
  exact lv_sipush hF.1.1 hF.1.2.1 hd hv (k p e R s m args below meth c H locs ls ad0 w0 ad hF hP hX hL hoL (pw_oc trivial hoS) hS hu)
theorem pv_ldc {index : Nat} {v : Int32} (hd : decode (pw_cc cx) pc = .ok (.ldc index, 2)) (hw : Jvm.Cond.constant (pw_own cx) index v ∈ pw_g) (hn : pc + 2 = n) (k : pw_V l g cx Q X n L ((0, v) :: st) w) : pw_V l g cx Q X pc L st w := by
  subst hn
  intro p e R s m args below meth c H locs ls ad0 w0 ad hF hP hX hL hoL hoS hS hu
  exact lv_ldc hF.1.1 hF.1.2.1 hF.1.2.2.2.2 (hF.2.1 _ hw) hd (k p e R s m args below meth c H locs ls ad0 w0 ad hF hP hX hL hoL (pw_oc trivial hoS) hS hu)
theorem pv_iload_n {j : Fin 4} {i : Nat} (hd : decode (pw_cc cx) pc = .ok (.iload_n j, 1)) (hi : (j : Nat) = i) (hl : L[i]? = some (0, x)) (hn : pc + 1 = n) (k : pw_V l g cx Q X n L ((0, x) :: st) w) : pw_V l g cx Q X pc L st w := by
  subst hn
  intro p e R s m args below meth c H locs ls ad0 w0 ad hF hP hX hL hoL hoS hS hu
  exact lv_iload_n hF.1.1 hF.1.2.1 hd hi (hL.2.2.2 i _ hl (by show ¬ (0 = 1); decide)) (k p e R s m args below meth c H locs ls ad0 w0 ad hF hP hX hL hoL (pw_oc trivial hoS) hS hu)
theorem pv_iload {i : Nat} (hd : decode (pw_cc cx) pc = .ok (.iload i, 2)) (hl : L[i]? = some (0, x)) (hn : pc + 2 = n) (k : pw_V l g cx Q X n L ((0, x) :: st) w) : pw_V l g cx Q X pc L st w := by
  subst hn
  intro p e R s m args below meth c H locs ls ad0 w0 ad hF hP hX hL hoL hoS hS hu
  exact lv_iload hF.1.1 hF.1.2.1 hd (hL.2.2.2 i _ hl (by show ¬ (0 = 1); decide)) (k p e R s m args below meth c H locs ls ad0 w0 ad hF hP hX hL hoL (pw_oc trivial hoS) hS hu)
/-- a reference on the stack is an address or null -/
theorem pw_cases (ad : Nat → Nat → Nat) (F : Nat) (x : Int32) : pw_ph ad (F + 2, x) = .null ∨ ∃ a, pw_ph ad (F + 2, x) = .ref a := by
  show va_rf (pw_rf ad F x) = .null ∨ ∃ a, va_rf (pw_rf ad F x) = .ref a
  cases pw_rf ad F x with
  | none => exact Or.inl rfl
  | some a => exact Or.inr ⟨a, rfl⟩
theorem pv_aload_n {j : Fin 4} {i F : Nat} (hd : decode (pw_cc cx) pc = .ok (.aload_n j, 1)) (hi : (j : Nat) = i) (hl : L[i]? = some (F + 2, x)) (hn : pc + 1 = n) (k : pw_V l g cx Q X n L ((F + 2, x) :: st) w) : pw_V l g cx Q X pc L st w := by
  subst hn
  intro p e R s m args below meth c H locs ls ad0 w0 ad hF hP hX hL hoL hoS hS hu
  have h1 := hL.2.2.2 i _ hl (by show ¬ (F + 2 = 1); omega)
  have k1 := k p e R s m args below meth c H locs ls ad0 w0 ad hF hP hX hL hoL (pw_oc (hoL _ (List.mem_of_getElem? hl)) hoS) hS hu
  rw [List.map_cons] at k1
  rcases pw_cases ad F x with h | ⟨a, h⟩
  · rw [h] at h1 k1
    exact lv_aload_nN hF.1.1 hF.1.2.1 hd hi h1 k1
  · rw [h] at h1 k1
    exact lv_aload_n hF.1.1 hF.1.2.1 hd hi h1 k1
theorem pv_aload {i F : Nat} (hd : decode (pw_cc cx) pc = .ok (.aload i, 2)) (hl : L[i]? = some (F + 2, x)) (hn : pc + 2 = n) (k : pw_V l g cx Q X n L ((F + 2, x) :: st) w) : pw_V l g cx Q X pc L st w := by
  subst hn
  intro p e R s m args below meth c H locs ls ad0 w0 ad hF hP hX hL hoL hoS hS hu
  have h1 := hL.2.2.2 i _ hl (by show ¬ (F + 2 = 1); omega)
  have k1 := k p e R s m args below meth c H locs ls ad0 w0 ad hF hP hX hL hoL (pw_oc (hoL _ (List.mem_of_getElem? hl)) hoS) hS hu
  rw [List.map_cons] at k1
  rcases pw_cases ad F x with h | ⟨a, h⟩
  · rw [h] at h1 k1
    exact lv_aloadN hF.1.1 hF.1.2.1 hd h1 k1
  · rw [h] at h1 k1
    exact lv_aload hF.1.1 hF.1.2.1 hd h1 k1
/-- the listed locals, by number -/
def pw_as : List (Nat × Int32) → Nat → (Nat → Nat → Nat) → List (Nat × Value)
  | [], _, _ => []
  | q :: L, k, ad => if q.1 = 1 then pw_as L (k + 1) ad else (k, pw_ph ad q) :: pw_as L (k + 1) ad
theorem pw_as_mem : ∀ (L : List (Nat × Int32)) (k : Nat) (ad : Nat → Nat → Nat) (r : Nat × Value), r ∈ pw_as L k ad → ∃ (j : Nat) (q : Nat × Int32), r = (k + j, pw_ph ad q) ∧ L[j]? = some q ∧ q.1 ≠ 1
  | [], _, _, r, h => by cases h
  | q :: L, k, ad, r, h => by
    unfold pw_as at h
    by_cases h1 : q.1 = 1
    · rw [if_pos h1] at h
      obtain ⟨j, q', e1, e2, e3⟩ := pw_as_mem L (k + 1) ad r h
      exact ⟨j + 1, q', by rw [e1]; congr 1; omega, by simpa using e2, e3⟩
    · rw [if_neg h1] at h
      rcases List.mem_cons.mp h with rfl | h
      · exact ⟨0, q, rfl, rfl, h1⟩
      · obtain ⟨j, q', e1, e2, e3⟩ := pw_as_mem L (k + 1) ad r h
        exact ⟨j + 1, q', by rw [e1]; congr 1; omega, by simpa using e2, e3⟩
theorem pw_as_of : ∀ (L : List (Nat × Int32)) (k : Nat) (ad : Nat → Nat → Nat) (j : Nat) (q : Nat × Int32), L[j]? = some q → q.1 ≠ 1 → (k + j, pw_ph ad q) ∈ pw_as L k ad
  | [], _, _, j, q, h, _ => by simp at h
  | q0 :: L, k, ad, 0, q, h, h1 => by
    have e : q0 = q := by simpa using h
    subst e
    unfold pw_as
    rw [if_neg h1]
    exact List.mem_cons_self
  | q0 :: L, k, ad, j + 1, q, h, h1 => by
    have e := pw_as_of L (k + 1) ad j q (by simpa using h) h1
    rw [show k + 1 + j = k + (j + 1) by omega] at e
    unfold pw_as
    by_cases h2 : q0.1 = 1
    · rw [if_pos h2]; exact e
    · rw [if_neg h2]; exact List.mem_cons_of_mem _ e
theorem pw_L.has {cx : pw_C} {ad : Nat → Nat → Nat} {ls : Array Slot} {L : List (Nat × Int32)} (h : pw_L cx ad ls L) : lv_has ls (pw_nL cx) (pw_as L 0 ad) :=
  ⟨h.1, h.2.1, fun r hr => by
    obtain ⟨j, q, rfl, e2, e3⟩ := pw_as_mem L 0 ad r hr
    rw [Nat.zero_add]
    exact h.2.2.2 j q e2 e3⟩
/-- a new value in a place of the locals -/
theorem pw_L.set {cx : pw_C} {ad : Nat → Nat → Nat} {ls ls' : Array Slot} {L : List (Nat × Int32)} {i : Nat} {q : Nat × Int32} {v : Value} (h : pw_L cx ad ls L) (hi : i < pw_nL cx) (hv : q.1 ≠ 1 → v = pw_ph ad q)
    (h' : lv_has ls' (pw_nL cx) ((i, v) :: (pw_as L 0 ad).filter (fun q => !(q.1 == i) && !(q.1 + 1 == i && q.2.category == 2)))) : pw_L cx ad ls' (L.set i q) := by
  refine ⟨h'.1, h'.2.1, by rw [List.length_set]; exact h.2.2.1, fun k r hr h1 => ?_⟩
  by_cases hk : k = i
  · subst hk
    have hlt : k < L.length := by rw [h.2.2.1]; exact hi
    rw [List.getElem?_set_self hlt] at hr
    have e : q = r := Option.some.inj hr
    subst e
    rw [← hv h1]
    exact h'.2.2 (k, v) List.mem_cons_self
  · rw [List.getElem?_set_ne (Ne.symm hk)] at hr
    refine h'.2.2 (k, pw_ph ad r) (List.mem_cons_of_mem _ (List.mem_filter.mpr ⟨?_, ?_⟩))
    · have e := pw_as_of L 0 ad k r hr h1
      rwa [Nat.zero_add] at e
    · obtain ⟨t, z⟩ := r
      have hc : (pw_ph ad (t, z)).category = 1 := pw_cat1 h1
      simp [hk, hc]
theorem pw_oL {w : pw_W} {L : List (Nat × Int32)} {i : Nat} {q : Nat × Int32} (h : pw_ok w q) (hs : ∀ q ∈ L, pw_ok w q) : ∀ a ∈ L.set i q, pw_ok w a := fun a ha => by
  rcases List.mem_or_eq_of_mem_set ha with h1 | rfl
  · exact hs a h1
  · exact h
theorem pv_istore_n {j : Fin 4} {i : Nat} {L' : List (Nat × Int32)} (hd : decode (pw_cc cx) pc = .ok (.istore_n j, 1)) (hi : (j : Nat) = i) (hlt : i < pw_nL cx) (hl : L.set i (0, x) = L') (hn : pc + 1 = n) (k : pw_V l g cx Q X n L' st w) : pw_V l g cx Q X pc L ((0, x) :: st) w := by
  subst hn; subst hl
  intro p e R s m args below meth c H locs ls ad0 w0 ad hF hP hX hL hoL hoS hS hu
  exact lv_istore_n hF.1.1 hF.1.2.1 hd hi hL.has hlt rfl (fun ls' hls => k p e R s m args below meth c H locs ls' ad0 w0 ad hF hP hX (hL.set hlt (fun _ => rfl) hls) (pw_oL trivial hoL) (pw_ot hoS) hS hu)
theorem pv_istore {i : Nat} {L' : List (Nat × Int32)} (hd : decode (pw_cc cx) pc = .ok (.istore i, 2)) (hlt : i < pw_nL cx) (hl : L.set i (0, x) = L') (hn : pc + 2 = n) (k : pw_V l g cx Q X n L' st w) : pw_V l g cx Q X pc L ((0, x) :: st) w := by
  subst hn; subst hl
  intro p e R s m args below meth c H locs ls ad0 w0 ad hF hP hX hL hoL hoS hS hu
  exact lv_istore hF.1.1 hF.1.2.1 hd hL.has hlt rfl (fun ls' hls => k p e R s m args below meth c H locs ls' ad0 w0 ad hF hP hX (hL.set hlt (fun _ => rfl) hls) (pw_oL trivial hoL) (pw_ot hoS) hS hu)
theorem pv_astore_n {j : Fin 4} {i F : Nat} {L' : List (Nat × Int32)} (hd : decode (pw_cc cx) pc = .ok (.astore_n j, 1)) (hi : (j : Nat) = i) (hlt : i < pw_nL cx) (hl : L.set i (F + 2, x) = L') (hn : pc + 1 = n) (k : pw_V l g cx Q X n L' st w) : pw_V l g cx Q X pc L ((F + 2, x) :: st) w := by
  subst hn; subst hl
  intro p e R s m args below meth c H locs ls ad0 w0 ad hF hP hX hL hoL hoS hS hu
  rw [List.map_cons]
  rcases pw_cases ad F x with h | ⟨a, h⟩
  · rw [h]
    exact lv_astore_nN hF.1.1 hF.1.2.1 hd hi hL.has hlt rfl (fun ls' hls => k p e R s m args below meth c H locs ls' ad0 w0 ad hF hP hX (hL.set hlt (fun _ => h.symm) hls) (pw_oL (hoS _ List.mem_cons_self) hoL) (pw_ot hoS) hS hu)
  · rw [h]
    exact lv_astore_n hF.1.1 hF.1.2.1 hd hi hL.has hlt rfl (fun ls' hls => k p e R s m args below meth c H locs ls' ad0 w0 ad hF hP hX (hL.set hlt (fun _ => h.symm) hls) (pw_oL (hoS _ List.mem_cons_self) hoL) (pw_ot hoS) hS hu)
theorem pv_astore {i F : Nat} {L' : List (Nat × Int32)} (hd : decode (pw_cc cx) pc = .ok (.astore i, 2)) (hlt : i < pw_nL cx) (hl : L.set i (F + 2, x) = L') (hn : pc + 2 = n) (k : pw_V l g cx Q X n L' st w) : pw_V l g cx Q X pc L ((F + 2, x) :: st) w := by
  subst hn; subst hl
  intro p e R s m args below meth c H locs ls ad0 w0 ad hF hP hX hL hoL hoS hS hu
  rw [List.map_cons]
  rcases pw_cases ad F x with h | ⟨a, h⟩
  · rw [h]
    exact lv_astoreN hF.1.1 hF.1.2.1 hd hL.has hlt rfl (fun ls' hls => k p e R s m args below meth c H locs ls' ad0 w0 ad hF hP hX (hL.set hlt (fun _ => h.symm) hls) (pw_oL (hoS _ List.mem_cons_self) hoL) (pw_ot hoS) hS hu)
  · rw [h]
    exact lv_astore hF.1.1 hF.1.2.1 hd hL.has hlt rfl (fun ls' hls => k p e R s m args below meth c H locs ls' ad0 w0 ad hF hP hX (hL.set hlt (fun _ => h.symm) hls) (pw_oL (hoS _ List.mem_cons_self) hoL) (pw_ot hoS) hS hu)
end PV
