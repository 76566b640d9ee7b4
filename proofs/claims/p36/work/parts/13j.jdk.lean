theorem pw_wd {c : Cond} {tb : List Cond} (ht : ∀ w ∈ tb, w ∈ tables_1) (i : Nat) (h : tb[i]? = some c) (hg : goodWord c = true) : c ∈ pw_g := List.mem_filter.mpr ⟨List.mem_append_right _ (ht _ (List.mem_of_getElem? h)), hg⟩
theorem pw_wp {q : MethodName × Nat} (i : Nat) (h : lw_privs[i]? = some q) (hg : goodWord (Cond.selects q.1.cls q.1 q.1) = true) : Cond.selects q.1.cls q.1 q.1 ∈ pw_g := List.mem_filter.mpr ⟨List.mem_append_left _ (List.mem_map.mpr ⟨q, List.mem_of_getElem? h, rfl⟩), hg⟩
theorem pw_tb1 : ∀ w ∈ tables_1_1, w ∈ tables_1 := fun w h => by unfold tables_1; simp [h]
theorem pw_tb2 : ∀ w ∈ tables_1_2, w ∈ tables_1 := fun w h => by unfold tables_1; simp [h]
theorem pw_tb3 : ∀ w ∈ tables_1_3, w ∈ tables_1 := fun w h => by unfold tables_1; simp [h]
theorem pw_tb4 : ∀ w ∈ tables_1_4, w ∈ tables_1 := fun w h => by unfold tables_1; simp [h]
theorem pw_tb5 : ∀ w ∈ tables_1_5, w ∈ tables_1 := fun w h => by unfold tables_1; simp [h]
def yj_pci : MethodName := ⟨"jdk/internal/util/Preconditions", "checkIndex", "(IILjava/util/function/BiFunction;)I"⟩
abbrev bj_pci : ByteArray := prog_33_method_11_code
theorem dj_pci_0 : decode bj_pci 0 = .ok (.iload_n 0, 1) := by decide +kernel
theorem dj_pci_1 : decode bj_pci 1 = .ok (.ifCond .lt 8, 3) := by decide +kernel
theorem dj_pci_4 : decode bj_pci 4 = .ok (.iload_n 0, 1) := by decide +kernel
theorem dj_pci_5 : decode bj_pci 5 = .ok (.iload_n 1, 1) := by decide +kernel
theorem dj_pci_6 : decode bj_pci 6 = .ok (.if_icmp .lt 10, 3) := by decide +kernel
theorem dj_pci_9 : decode bj_pci 9 = .ok (.aload_n 2, 1) := by decide +kernel
theorem dj_pci_10 : decode bj_pci 10 = .ok (.iload_n 0, 1) := by decide +kernel
theorem dj_pci_11 : decode bj_pci 11 = .ok (.iload_n 1, 1) := by decide +kernel
theorem dj_pci_12 : decode bj_pci 12 = .ok (.invokestatic 95, 3) := by decide +kernel
theorem dj_pci_15 : decode bj_pci 15 = .ok (.athrow, 1) := by decide +kernel
theorem dj_pci_16 : decode bj_pci 16 = .ok (.iload_n 0, 1) := by decide +kernel
theorem dj_pci_17 : decode bj_pci 17 = .ok (.ireturn, 1) := by decide +kernel
def yj_oci : MethodName := ⟨"java/util/Objects", "checkIndex", "(II)I"⟩
abbrev bj_oci : ByteArray := prog_29_method_17_code
theorem dj_oci_0 : decode bj_oci 0 = .ok (.iload_n 0, 1) := by decide +kernel
theorem dj_oci_1 : decode bj_oci 1 = .ok (.iload_n 1, 1) := by decide +kernel
theorem dj_oci_2 : decode bj_oci 2 = .ok (.aconst_null, 1) := by decide +kernel
theorem dj_oci_3 : decode bj_oci 3 = .ok (.invokestatic 105, 3) := by decide +kernel
theorem dj_oci_6 : decode bj_oci 6 = .ok (.ireturn, 1) := by decide +kernel
def yj_eld : MethodName := ⟨"java/util/ArrayList", "elementData", "(I)Ljava/lang/Object;"⟩
abbrev bj_eld : ByteArray := prog_25_method_18_code
theorem dj_eld_0 : decode bj_eld 0 = .ok (.aload_n 0, 1) := by decide +kernel
theorem dj_eld_1 : decode bj_eld 1 = .ok (.getfield 9, 3) := by decide +kernel
theorem dj_eld_4 : decode bj_eld 4 = .ok (.iload_n 1, 1) := by decide +kernel
theorem dj_eld_5 : decode bj_eld 5 = .ok (.aaload, 1) := by decide +kernel
theorem dj_eld_6 : decode bj_eld 6 = .ok (.areturn, 1) := by decide +kernel
def yj_get : MethodName := ⟨"java/util/ArrayList", "get", "(I)Ljava/lang/Object;"⟩
abbrev bj_get : ByteArray := prog_25_method_20_code
theorem dj_get_0 : decode bj_get 0 = .ok (.iload_n 1, 1) := by decide +kernel
theorem dj_get_1 : decode bj_get 1 = .ok (.aload_n 0, 1) := by decide +kernel
theorem dj_get_2 : decode bj_get 2 = .ok (.getfield 48, 3) := by decide +kernel
theorem dj_get_5 : decode bj_get 5 = .ok (.invokestatic 118, 3) := by decide +kernel
theorem dj_get_8 : decode bj_get 8 = .ok (.pop, 1) := by decide +kernel
theorem dj_get_9 : decode bj_get 9 = .ok (.aload_n 0, 1) := by decide +kernel
theorem dj_get_10 : decode bj_get 10 = .ok (.iload_n 1, 1) := by decide +kernel
theorem dj_get_11 : decode bj_get 11 = .ok (.invokevirtual 123, 3) := by decide +kernel
theorem dj_get_14 : decode bj_get 14 = .ok (.areturn, 1) := by decide +kernel
def yj_size : MethodName := ⟨"java/util/ArrayList", "size", "()I"⟩
abbrev bj_size : ByteArray := prog_25_method_8_code
theorem dj_size_0 : decode bj_size 0 = .ok (.aload_n 0, 1) := by decide +kernel
theorem dj_size_1 : decode bj_size 1 = .ok (.getfield 48, 3) := by decide +kernel
theorem dj_size_4 : decode bj_size 4 = .ok (.ireturn, 1) := by decide +kernel
def yj_emp : MethodName := ⟨"java/util/ArrayList", "isEmpty", "()Z"⟩
abbrev bj_emp : ByteArray := prog_25_method_9_code
theorem dj_emp_0 : decode bj_emp 0 = .ok (.aload_n 0, 1) := by decide +kernel
theorem dj_emp_1 : decode bj_emp 1 = .ok (.getfield 48, 3) := by decide +kernel
theorem dj_emp_4 : decode bj_emp 4 = .ok (.ifCond .ne 7, 3) := by decide +kernel
theorem dj_emp_7 : decode bj_emp 7 = .ok (.iconst 1, 1) := by decide +kernel
theorem dj_emp_8 : decode bj_emp 8 = .ok (.goto 4, 3) := by decide +kernel
theorem dj_emp_11 : decode bj_emp 11 = .ok (.iconst 0, 1) := by decide +kernel
theorem dj_emp_12 : decode bj_emp 12 = .ok (.ireturn, 1) := by decide +kernel
theorem wc_pci : Cond.code yj_pci bj_pci 3 (some .int) ∈ pw_g := pw_wd pw_tb2 168 (by decide +kernel) (by decide +kernel)
theorem wc_oci : Cond.code yj_oci bj_oci 2 (some .int) ∈ pw_g := pw_wd pw_tb2 165 (by decide +kernel) (by decide +kernel)
theorem wc_eld : Cond.code yj_eld bj_eld 2 (some (.object "java/lang/Object")) ∈ pw_g := pw_wd pw_tb2 172 (by decide +kernel) (by decide +kernel)
theorem wc_get : Cond.code yj_get bj_get 2 (some (.object "java/lang/Object")) ∈ pw_g := pw_wd pw_tb2 162 (by decide +kernel) (by decide +kernel)
theorem wc_size : Cond.code yj_size bj_size 1 (some .int) ∈ pw_g := pw_wd pw_tb2 126 (by decide +kernel) (by decide +kernel)
theorem wc_emp : Cond.code yj_emp bj_emp 1 (some .boolean) ∈ pw_g := pw_wd pw_tb4 134 (by decide +kernel) (by decide +kernel)
theorem wl_pci_105 : Cond.methodLink "java/util/Objects" 105 yj_pci ∈ pw_g := pw_wd pw_tb2 166 (by decide +kernel) (by decide +kernel)
theorem ws_pci : Cond.static yj_pci ∈ pw_g := pw_wd pw_tb2 167 (by decide +kernel) (by decide +kernel)
theorem wn_pre : Cond.initialized "jdk/internal/util/Preconditions" ∈ pw_g := pw_wd pw_tb1 17 (by decide +kernel) (by decide +kernel)
theorem wl_oci_118 : Cond.methodLink "java/util/ArrayList" 118 yj_oci ∈ pw_g := pw_wd pw_tb2 163 (by decide +kernel) (by decide +kernel)
theorem ws_oci : Cond.static yj_oci ∈ pw_g := pw_wd pw_tb2 164 (by decide +kernel) (by decide +kernel)
theorem wn_obj : Cond.initialized "java/util/Objects" ∈ pw_g := pw_wd pw_tb1 16 (by decide +kernel) (by decide +kernel)
theorem wl_eld_123 : Cond.methodLink "java/util/ArrayList" 123 yj_eld ∈ pw_g := pw_wd pw_tb2 169 (by decide +kernel) (by decide +kernel)
theorem wi_eld : Cond.instanceMethod yj_eld ∈ pw_g := pw_wd pw_tb2 170 (by decide +kernel) (by decide +kernel)
theorem wv_eld : Cond.selects "java/util/ArrayList" yj_eld yj_eld ∈ pw_g := pw_wd pw_tb2 171 (by decide +kernel) (by decide +kernel)
theorem wn_al : Cond.initialized "java/util/ArrayList" ∈ pw_g := pw_wd pw_tb1 4 (by decide +kernel) (by decide +kernel)
theorem wf_48 : Cond.fieldLink "java/util/ArrayList" 48 "java/util/ArrayList" "size" "I" ∈ pw_g := pw_wd pw_tb1 51 (by decide +kernel) (by decide +kernel)
theorem wf_9 : Cond.fieldLink "java/util/ArrayList" 9 "java/util/ArrayList" "elementData" "[Ljava/lang/Object;" ∈ pw_g := pw_wd pw_tb1 50 (by decide +kernel) (by decide +kernel)
theorem pw_i9g : ∀ w ∈ u_ws pw_R9 pw_T9 3, w ∈ pw_g := pw_in pw_i9 (by decide +kernel)
section PJ
variable {l : Launch} {g : pw_G}
/-- a call has come back: what its end says, over the heap as it is then -/
theorem pj_after {p : Program} {e : Env} {R : Room} {s : State} {m : MethodId} {args : Array Value} {below : List Frame} {meth : Method} {c : Code} {H : Heap} {locs : List Loc} {cells slots mc ms pc : Nat} {Q : State → Prop} {ls : Array Slot} {st0 rest : List Value} {Qa : State → Outcome → State → Prop} {free : Addr → Prop}
    (hr : va_Run p l e R s m args below meth c H locs cells slots mc ms (F0 m pc ls st0) rest Qa free) (kk : ∀ (v : Option Value) (st₀ t : State) (L : List Loc), st₀.heap = H → s.vm.Alike t.vm → (∀ q ∈ L, free q.base) → Qa st₀ (.returned v) t → W p l e R s m args below meth c t.heap (locs ++ L) (cells + mc) (slots + ms) Q (F0 m (pc + 3) ls (v.toList ++ rest))) :
    W p l e R s m args below meth c H locs cells slots Q (F0 m pc ls st0) := by
  intro T hT X
  obtain ⟨v, st₀, t, T', L, h0, X', hL, e1, e2, hq, st⟩ := hr T hT X
  obtain ⟨t2, a1, b1⟩ := kk v st₀ t L h0 (by rw [← e2]; exact X'.warmed.alike) hL hq T' e1 X'
  exact ⟨t2, st t2 a1, b1⟩
theorem pj_kgo {g : pw_G} {s U : State} {H0 H1 : Heap} (hW : s.WarmedH U.vm) (h : pw_K g s H0) (e : H1 = H0) : pw_K g U H1 := by
  subst e
  exact pw_K.go hW h (fun _ _ _ => rfl)
set_option maxHeartbeats 1000000 in
theorem jc_pci {i n : Int32} (h0 : 0 ≤ i) (h1 : i < n) : Met l yj_pci (Cond.code yj_pci bj_pci 3 (some .int) :: pw_g) { frames := 0, cells := 0, slots := 0, locals := 0 } (va_Pc [.int i, .int n, .null] (fun _ => True)) (vp_Si (fun r => r = i)) 0 0 (fun _ => False) := by
  refine Met.ofW (cc := bj_pci) (maxL := 3) (ret := some .int) (by decide +kernel) rfl ?_
  intro p e s m args below meth c s₁ B hml hv
  obtain ⟨rfl, -⟩ := hv
  have hx := B.exec
  have hb := B.bytes
  have hr := B.returns
  have hlocks := B.notSynchronized
  have hts : ∀ w ∈ pw_g, w.before ([.int i, .int n, .null]).toArray s = true := fun w hw => atoms_spec (ws := Cond.code yj_pci bj_pci 3 (some .int) :: pw_g) B.pre w (List.mem_cons_of_mem _ hw)
  have hown : s.vm.findClass "jdk/internal/util/Preconditions" = some m.cls := findClass_of_methodNamed B.named
  rw [lg_entry_eq]
  have hl := lv_entry ([.int i, .int n, .null]) (n := 3) (Nat.le_of_ble_eq_true rfl)
  generalize (lg_sl ([.int i, .int n, .null]) ++ List.replicate (3 - (lg_sl ([.int i, .int n, .null])).length) Slot.unset).toArray = ls at hl ⊢
  have hl : lv_has ls 3 [(0, .int i), (1, .int n), (2, .null)] := hl
  refine lv_iload_n hx hb dj_pci_0 rfl (lv_at hl 0 rfl) ?_
  refine lv_if_lt (tgt := 9) hx hb dj_pci_1 (by decide) (fun q => absurd q (Int32.not_lt.mpr h0)) (fun _ => ?_)
  refine lv_iload_n hx hb dj_pci_4 rfl (lv_at hl 0 rfl) ?_
  refine lv_iload_n hx hb dj_pci_5 rfl (lv_at hl 1 rfl) ?_
  refine lv_icmp_lt (tgt := 16) hx hb dj_pci_6 (by decide) (fun _ => ?_) (fun q => absurd h1 q)
  refine lv_iload_n hx hb dj_pci_16 rfl (lv_at hl 0 rfl) ?_
  exact W.iret hx hb hr (fun t ht _ => ⟨i, rfl, rfl, ht⟩) (fun q h => by cases h) dj_pci_17 hlocks
set_option maxHeartbeats 1000000 in
theorem jc_oci {i n : Int32} (h0 : 0 ≤ i) (h1 : i < n) : Met l yj_oci (Cond.code yj_oci bj_oci 2 (some .int) :: pw_g) { frames := 1, cells := 0, slots := 0, locals := 22 } (va_Pc [.int i, .int n] (fun _ => True)) (vp_Si (fun r => r = i)) 0 0 (fun _ => False) := by
  refine Met.ofW (cc := bj_oci) (maxL := 2) (ret := some .int) (by decide +kernel) rfl ?_
  intro p e s m args below meth c s₁ B hml hv
  obtain ⟨rfl, -⟩ := hv
  have hx := B.exec
  have hb := B.bytes
  have hr := B.returns
  have hlocks := B.notSynchronized
  have hts : ∀ w ∈ pw_g, w.before ([.int i, .int n]).toArray s = true := fun w hw => atoms_spec (ws := Cond.code yj_oci bj_oci 2 (some .int) :: pw_g) B.pre w (List.mem_cons_of_mem _ hw)
  have hown : s.vm.findClass "java/util/Objects" = some m.cls := findClass_of_methodNamed B.named
  rw [lg_entry_eq]
  have hl := lv_entry ([.int i, .int n]) (n := 2) (Nat.le_of_ble_eq_true rfl)
  generalize (lg_sl ([.int i, .int n]) ++ List.replicate (2 - (lg_sl ([.int i, .int n])).length) Slot.unset).toArray = ls at hl ⊢
  have hl : lv_has ls 2 [(0, .int i), (1, .int n)] := hl
  refine lv_iload_n hx hb dj_oci_0 rfl (lv_at hl 0 rfl) ?_
  refine lv_iload_n hx hb dj_oci_1 rfl (lv_at hl 1 rfl) ?_
  refine lv_null hx hb dj_oci_2 ?_
  refine pj_after (va_runS (As := [.int i, .int n, .null]) (rest := []) (Ts := pw_g) (own := "java/util/Objects") (index := 105) ⟨hx, hb, hml, hown, hts⟩ (jc_pci h0 h1) (va_cwS 3 hts (pw_gi (pw_mc wl_pci_105 (pw_mc ws_pci (pw_mc wn_pre (pw_mc wc_pci (fun w h => h)))))) rfl rfl rfl (by decide +kernel) (by decide)) ⟨fun a U gf mk h => h, fun U hU hW => ⟨rfl, trivial⟩⟩ rfl rfl hl.1 rfl (Nat.le_of_ble_eq_true rfl) dj_oci_3 ⟨Nat.zero_le _, Nat.zero_le _⟩) ?_
  rintro v st₀ t L hh hA hL ⟨r, hv, rfl, ht⟩
  cases hv
  rw [ht, hh, show L = [] from List.eq_nil_iff_forall_not_mem.mpr fun q hq => hL q hq]
  exact W.iret hx hb hr (fun t ht _ => ⟨_, rfl, rfl, ht⟩) (fun q h => by cases h) dj_oci_6 hlocks
/-- a list's own cell and its array -/
abbrev pj_ws (g : pw_G) (aL aB cap : Nat) (mc n : Int32) (f : Nat → Option Nat) : va_W := [(aL, .inr (9, [.int mc, .ref aB, .int n])), (aB, .inl (g.2.1 5, (cap, .inr (.inr (.inr (.inr f))))))]
abbrev pj_Pc (g : pw_G) (As : List Value) (ws : va_W) : Array Value → State → Prop := va_Pc As (fun U => va_P g.1 pw_cl ws U.heap ∧ pw_K g U U.heap)
theorem pj_blind {g : pw_G} {As : List Value} {ws : va_W} : FrameBlind (pj_Pc g As ws) := fun a U gf mk h => ⟨h.1, h.2.1, pw_K.go (State.WarmedH.refl U) h.2.2 (fun _ _ _ => rfl)⟩
set_option maxHeartbeats 1000000 in
theorem jc_eld {aL aB cap : Nat} {mc n i : Int32} {f : Nat → Option Nat} (hi : pw_jn i cap) : Met l yj_eld (Cond.code yj_eld bj_eld 2 (some (.object "java/lang/Object")) :: pw_g) { frames := 0, cells := 0, slots := 0, locals := 0 } (pj_Pc g [.ref aL, .int i] (pj_ws g aL aB cap mc n f)) (fun _ st o t => o = .returned (some (va_rf (f (pw_i i)))) ∧ t.heap = st.heap) 0 0 (fun _ => False) := by
  refine Met.ofW (cc := bj_eld) (maxL := 2) (ret := some (.object "java/lang/Object")) (by decide +kernel) rfl ?_
  intro p e s m args below meth c s₁ B hml hv
  obtain ⟨rfl, hP, hK⟩ := hv
  have hx := B.exec
  have hb := B.bytes
  have hr := B.returns
  have hlocks := B.notSynchronized
  have hts : ∀ w ∈ pw_g, w.before ([.ref aL, .int i]).toArray s = true := fun w hw => atoms_spec (ws := Cond.code yj_eld bj_eld 2 (some (.object "java/lang/Object")) :: pw_g) B.pre w (List.mem_cons_of_mem _ hw)
  have hown : s.vm.findClass "java/util/ArrayList" = some m.cls := findClass_of_methodNamed B.named
  rw [lg_entry_eq]
  have hl := lv_entry ([.ref aL, .int i]) (n := 2) (Nat.le_of_ble_eq_true rfl)
  generalize (lg_sl ([.ref aL, .int i]) ++ List.replicate (2 - (lg_sl ([.ref aL, .int i])).length) Slot.unset).toArray = ls at hl ⊢
  have hl : lv_has ls 2 [(0, .ref aL), (1, .int i)] := hl
  refine lv_aload_n hx hb dj_eld_0 rfl (lv_at hl 0 rfl) ?_
  refine va_get hx hb hts pw_i9g hown hK.1 hP 0 rfl rfl 1 (by decide) (hts _ wf_9) (fun _ h => h) (v := .ref aB) rfl dj_eld_1 ?_
  refine lv_iload_n hx hb dj_eld_4 rfl (lv_at hl 1 rfl) ?_
  refine va_aldq hx hb hK.1 hP 1 5 rfl (C := "java/lang/Object") rfl hi.vp dj_eld_5 ?_
  refine W.aret hx hb hr (Or.inl ⟨_, rfl⟩) ?_ (fun t ht _ => ⟨rfl, ht⟩) (fun q h => by cases h) dj_eld_6 hlocks
  show va_rf (f (pw_i i)) = .null ∨ ∃ a, va_rf (f (pw_i i)) = .ref a
  cases f (pw_i i) with
  | none => exact Or.inl rfl
  | some a => exact Or.inr ⟨a, rfl⟩
set_option maxHeartbeats 1000000 in
theorem jc_size {aL aB cap : Nat} {mc n : Int32} {f : Nat → Option Nat} {ws : va_W} (hws : ws[0]? = some (aL, .inr (9, [.int mc, .ref aB, .int n]))) : Met l yj_size (Cond.code yj_size bj_size 1 (some .int) :: pw_g) { frames := 0, cells := 0, slots := 0, locals := 0 } (pj_Pc g [.ref aL] ws) (fun _ st o t => o = .returned (some (.int n)) ∧ t.heap = st.heap) 0 0 (fun _ => False) := by
  refine Met.ofW (cc := bj_size) (maxL := 1) (ret := some .int) (by decide +kernel) rfl ?_
  intro p e s m args below meth c s₁ B hml hv
  obtain ⟨rfl, hP, hK⟩ := hv
  have hx := B.exec
  have hb := B.bytes
  have hr := B.returns
  have hlocks := B.notSynchronized
  have hts : ∀ w ∈ pw_g, w.before ([.ref aL]).toArray s = true := fun w hw => atoms_spec (ws := Cond.code yj_size bj_size 1 (some .int) :: pw_g) B.pre w (List.mem_cons_of_mem _ hw)
  have hown : s.vm.findClass "java/util/ArrayList" = some m.cls := findClass_of_methodNamed B.named
  rw [lg_entry_eq]
  have hl := lv_entry ([.ref aL]) (n := 1) (Nat.le_of_ble_eq_true rfl)
  generalize (lg_sl ([.ref aL]) ++ List.replicate (1 - (lg_sl ([.ref aL])).length) Slot.unset).toArray = ls at hl ⊢
  have hl : lv_has ls 1 [(0, .ref aL)] := hl
  refine lv_aload_n hx hb dj_size_0 rfl (lv_at hl 0 rfl) ?_
  refine va_get hx hb hts pw_i9g hown hK.1 hP 0 hws rfl 2 (by decide) (hts _ wf_48) (fun _ h => h) (v := .int n) rfl dj_size_1 ?_
  exact W.iret hx hb hr (fun t ht _ => ⟨rfl, ht⟩) (fun q h => by cases h) dj_size_4 hlocks
set_option maxHeartbeats 1000000 in
theorem jc_emp {aL aB cap : Nat} {mc n : Int32} {f : Nat → Option Nat} {ws : va_W} (hws : ws[0]? = some (aL, .inr (9, [.int mc, .ref aB, .int n]))) : Met l yj_emp (Cond.code yj_emp bj_emp 1 (some .boolean) :: pw_g) { frames := 0, cells := 0, slots := 0, locals := 0 } (pj_Pc g [.ref aL] ws) (fun _ st o t => o = .returned (some (.int (if n = 0 then 1 else 0))) ∧ t.heap = st.heap) 0 0 (fun _ => False) := by
  refine Met.ofW (cc := bj_emp) (maxL := 1) (ret := some .boolean) (by decide +kernel) rfl ?_
  intro p e s m args below meth c s₁ B hml hv
  obtain ⟨rfl, hP, hK⟩ := hv
  have hx := B.exec
  have hb := B.bytes
  have hr := B.returns
  have hlocks := B.notSynchronized
  have hts : ∀ w ∈ pw_g, w.before ([.ref aL]).toArray s = true := fun w hw => atoms_spec (ws := Cond.code yj_emp bj_emp 1 (some .boolean) :: pw_g) B.pre w (List.mem_cons_of_mem _ hw)
  have hown : s.vm.findClass "java/util/ArrayList" = some m.cls := findClass_of_methodNamed B.named
  rw [lg_entry_eq]
  have hl := lv_entry ([.ref aL]) (n := 1) (Nat.le_of_ble_eq_true rfl)
  generalize (lg_sl ([.ref aL]) ++ List.replicate (1 - (lg_sl ([.ref aL])).length) Slot.unset).toArray = ls at hl ⊢
  have hl : lv_has ls 1 [(0, .ref aL)] := hl
  refine lv_aload_n hx hb dj_emp_0 rfl (lv_at hl 0 rfl) ?_
  refine va_get hx hb hts pw_i9g hown hK.1 hP 0 hws rfl 2 (by decide) (hts _ wf_48) (fun _ h => h) (v := .int n) rfl dj_emp_1 ?_
  refine lv_if_ne (tgt := 11) hx hb dj_emp_4 (by decide) (fun q => ?_) (fun q => ?_)
  · refine lv_iconst (v := 0) hx hb dj_emp_11 (by decide) ?_
    exact W.zret hx hb hr rfl (fun t ht _ => ⟨by rw [if_neg q], ht⟩) (fun q h => by cases h) dj_emp_12 hlocks
  · refine lv_iconst (v := 1) hx hb dj_emp_7 (by decide) ?_
    refine lv_goto (tgt := 12) hx hb dj_emp_8 (by decide) ?_
    exact W.zret hx hb hr rfl (fun t ht _ => ⟨by rw [if_pos q], ht⟩) (fun q h => by cases h) dj_emp_12 hlocks
set_option maxHeartbeats 1000000 in
theorem jc_get {aL aB cap : Nat} {mc n i : Int32} {f : Nat → Option Nat} (h0 : 0 ≤ i) (h1 : i < n) (hi : pw_jn i cap) : Met l yj_get (Cond.code yj_get bj_get 2 (some (.object "java/lang/Object")) :: pw_g) { frames := 2, cells := 0, slots := 0, locals := 43 } (pj_Pc g [.ref aL, .int i] (pj_ws g aL aB cap mc n f)) (fun _ st o t => o = .returned (some (va_rf (f (pw_i i)))) ∧ t.heap = st.heap) 0 0 (fun _ => False) := by
  refine Met.ofW (cc := bj_get) (maxL := 2) (ret := some (.object "java/lang/Object")) (by decide +kernel) rfl ?_
  intro p e s m args below meth c s₁ B hml hv
  obtain ⟨rfl, hP, hK⟩ := hv
  have hx := B.exec
  have hb := B.bytes
  have hr := B.returns
  have hlocks := B.notSynchronized
  have hts : ∀ w ∈ pw_g, w.before ([.ref aL, .int i]).toArray s = true := fun w hw => atoms_spec (ws := Cond.code yj_get bj_get 2 (some (.object "java/lang/Object")) :: pw_g) B.pre w (List.mem_cons_of_mem _ hw)
  have hown : s.vm.findClass "java/util/ArrayList" = some m.cls := findClass_of_methodNamed B.named
  rw [lg_entry_eq]
  have hl := lv_entry ([.ref aL, .int i]) (n := 2) (Nat.le_of_ble_eq_true rfl)
  generalize (lg_sl ([.ref aL, .int i]) ++ List.replicate (2 - (lg_sl ([.ref aL, .int i])).length) Slot.unset).toArray = ls at hl ⊢
  have hl : lv_has ls 2 [(0, .ref aL), (1, .int i)] := hl
  refine lv_iload_n hx hb dj_get_0 rfl (lv_at hl 1 rfl) ?_
  refine lv_aload_n hx hb dj_get_1 rfl (lv_at hl 0 rfl) ?_
  refine va_get hx hb hts pw_i9g hown hK.1 hP 0 rfl rfl 2 (by decide) (hts _ wf_48) (fun _ h => h) (v := .int n) rfl dj_get_2 ?_
  refine pj_after (va_runS (As := [.int i, .int n]) (rest := []) (Ts := pw_g) (own := "java/util/ArrayList") (index := 118) ⟨hx, hb, hml, hown, hts⟩ (jc_oci h0 h1) (va_cwS 2 hts (pw_gi (pw_mc wl_oci_118 (pw_mc ws_oci (pw_mc wn_obj (pw_mc wc_oci (fun w h => h)))))) rfl rfl rfl (by decide +kernel) (by decide)) ⟨fun a U gf mk h => h, fun U hU hW => ⟨rfl, trivial⟩⟩ rfl rfl hl.1 rfl (Nat.le_of_ble_eq_true rfl) dj_get_5 ⟨Nat.zero_le _, Nat.zero_le _⟩) ?_
  rintro v st₀ t L hh hA hL ⟨r, hv, rfl, ht⟩
  cases hv
  rw [ht, hh, show L = [] from List.eq_nil_iff_forall_not_mem.mpr fun q hq => hL q hq]
  refine lv_pop hx hb dj_get_8 rfl ?_
  refine lv_aload_n hx hb dj_get_9 rfl (lv_at hl 0 rfl) ?_
  refine lv_iload_n hx hb dj_get_10 rfl (lv_at hl 1 rfl) ?_
  refine pj_after (va_runV (As := [.int _]) (rest := []) (Ts := pw_g) (own := "java/util/ArrayList") (index := 123) (C := "java/util/ArrayList") ⟨hx, hb, hml, hown, hts⟩ (jc_eld (l := l) (g := g) (aL := aL) (aB := aB) (cap := cap) (mc := mc) (n := n) (f := f) hi) (cwV 1 hts (pw_gi (pw_mc wl_eld_123 (pw_mc wi_eld (pw_mc wv_eld (pw_mc wn_al (pw_mc wc_eld (fun w h => h))))))) rfl rfl rfl (by decide +kernel) (by decide)) ⟨pj_blind, va_recv hK.1 hP (ci := 9) (q0 := 0) rfl rfl, fun U hU hW => ⟨rfl, by rw [hU]; exact hP, pj_kgo hW hK hU⟩⟩ rfl rfl hl.1 rfl (Nat.le_of_ble_eq_true rfl) dj_get_11 ⟨Nat.zero_le _, Nat.zero_le _⟩) ?_
  rintro v st₀ t L hh hA hL ⟨hv, ht⟩
  cases hv
  rw [ht, hh, show L = [] from List.eq_nil_iff_forall_not_mem.mpr fun q hq => hL q hq]
  refine W.aret hx hb hr (Or.inl ⟨_, rfl⟩) ?_ (fun t ht _ => ⟨rfl, ht⟩) (fun q h => by cases h) dj_get_14 hlocks
  cases f (pw_i _) with
  | none => exact Or.inl rfl
  | some a => exact Or.inr ⟨a, rfl⟩
theorem wx_size : Cond.selects "java/util/ArrayList" ⟨"java/util/List", "size", "()I"⟩ yj_size ∈ pw_g := pw_wd pw_tb2 122 (by decide +kernel) (by decide +kernel)
theorem wi_size : Cond.instanceMethod yj_size ∈ pw_g := pw_wd pw_tb2 124 (by decide +kernel) (by decide +kernel)
theorem wx_emp : Cond.selects "java/util/ArrayList" ⟨"java/util/List", "isEmpty", "()Z"⟩ yj_emp ∈ pw_g := pw_wd pw_tb4 130 (by decide +kernel) (by decide +kernel)
theorem wi_emp : Cond.instanceMethod yj_emp ∈ pw_g := pw_wd pw_tb4 132 (by decide +kernel) (by decide +kernel)
theorem wx_get : Cond.selects "java/util/ArrayList" ⟨"java/util/List", "get", "(I)Ljava/lang/Object;"⟩ yj_get ∈ pw_g := pw_wd pw_tb2 158 (by decide +kernel) (by decide +kernel)
theorem wi_get : Cond.instanceMethod yj_get ∈ pw_g := pw_wd pw_tb2 160 (by decide +kernel) (by decide +kernel)
def yj_nl : MethodName := ⟨"jdk/internal/util/ArraysSupport", "newLength", "(III)I"⟩
abbrev bj_nl : ByteArray := prog_32_method_27_code
theorem dj_nl_0 : decode bj_nl 0 = .ok (.iload_n 0, 1) := by decide +kernel
theorem dj_nl_1 : decode bj_nl 1 = .ok (.iload_n 1, 1) := by decide +kernel
theorem dj_nl_2 : decode bj_nl 2 = .ok (.iload_n 2, 1) := by decide +kernel
theorem dj_nl_3 : decode bj_nl 3 = .ok (.invokestatic 194, 3) := by decide +kernel
theorem dj_nl_6 : decode bj_nl 6 = .ok (.iadd, 1) := by decide +kernel
theorem dj_nl_7 : decode bj_nl 7 = .ok (.istore_n 3, 1) := by decide +kernel
theorem dj_nl_8 : decode bj_nl 8 = .ok (.iconst 0, 1) := by decide +kernel
theorem dj_nl_9 : decode bj_nl 9 = .ok (.iload_n 3, 1) := by decide +kernel
theorem dj_nl_10 : decode bj_nl 10 = .ok (.if_icmp .ge 11, 3) := by decide +kernel
theorem dj_nl_13 : decode bj_nl 13 = .ok (.iload_n 3, 1) := by decide +kernel
theorem dj_nl_14 : decode bj_nl 14 = .ok (.ldc 200, 2) := by decide +kernel
theorem dj_nl_16 : decode bj_nl 16 = .ok (.if_icmp .gt 5, 3) := by decide +kernel
theorem dj_nl_19 : decode bj_nl 19 = .ok (.iload_n 3, 1) := by decide +kernel
theorem dj_nl_20 : decode bj_nl 20 = .ok (.ireturn, 1) := by decide +kernel
theorem dj_nl_21 : decode bj_nl 21 = .ok (.iload_n 0, 1) := by decide +kernel
theorem dj_nl_22 : decode bj_nl 22 = .ok (.iload_n 1, 1) := by decide +kernel
theorem dj_nl_23 : decode bj_nl 23 = .ok (.invokestatic 201, 3) := by decide +kernel
theorem dj_nl_26 : decode bj_nl 26 = .ok (.ireturn, 1) := by decide +kernel
def yj_c3 : MethodName := ⟨"java/util/Arrays", "copyOf", "([Ljava/lang/Object;ILjava/lang/Class;)[Ljava/lang/Object;"⟩
abbrev bj_c3 : ByteArray := prog_26_method_120_code
theorem dj_c3_0 : decode bj_c3 0 = .ok (.aload_n 2, 1) := by decide +kernel
theorem dj_c3_1 : decode bj_c3 1 = .ok (.ldc 110, 2) := by decide +kernel
theorem dj_c3_3 : decode bj_c3 3 = .ok (.if_acmp .ne 10, 3) := by decide +kernel
theorem dj_c3_6 : decode bj_c3 6 = .ok (.iload_n 1, 1) := by decide +kernel
theorem dj_c3_7 : decode bj_c3 7 = .ok (.anewarray 2, 3) := by decide +kernel
theorem dj_c3_10 : decode bj_c3 10 = .ok (.goto 14, 3) := by decide +kernel
theorem dj_c3_13 : decode bj_c3 13 = .ok (.aload_n 2, 1) := by decide +kernel
theorem dj_c3_14 : decode bj_c3 14 = .ok (.invokevirtual 90, 3) := by decide +kernel
theorem dj_c3_17 : decode bj_c3 17 = .ok (.iload_n 1, 1) := by decide +kernel
theorem dj_c3_18 : decode bj_c3 18 = .ok (.invokestatic 95, 3) := by decide +kernel
theorem dj_c3_21 : decode bj_c3 21 = .ok (.checkcast 110, 3) := by decide +kernel
theorem dj_c3_24 : decode bj_c3 24 = .ok (.astore_n 3, 1) := by decide +kernel
theorem dj_c3_25 : decode bj_c3 25 = .ok (.aload_n 0, 1) := by decide +kernel
theorem dj_c3_26 : decode bj_c3 26 = .ok (.iconst 0, 1) := by decide +kernel
theorem dj_c3_27 : decode bj_c3 27 = .ok (.aload_n 3, 1) := by decide +kernel
theorem dj_c3_28 : decode bj_c3 28 = .ok (.iconst 0, 1) := by decide +kernel
theorem dj_c3_29 : decode bj_c3 29 = .ok (.aload_n 0, 1) := by decide +kernel
theorem dj_c3_30 : decode bj_c3 30 = .ok (.arraylength, 1) := by decide +kernel
theorem dj_c3_31 : decode bj_c3 31 = .ok (.iload_n 1, 1) := by decide +kernel
theorem dj_c3_32 : decode bj_c3 32 = .ok (.invokestatic 304, 3) := by decide +kernel
theorem dj_c3_35 : decode bj_c3 35 = .ok (.invokestatic 150, 3) := by decide +kernel
theorem dj_c3_38 : decode bj_c3 38 = .ok (.aload_n 3, 1) := by decide +kernel
theorem dj_c3_39 : decode bj_c3 39 = .ok (.areturn, 1) := by decide +kernel
def yj_c2 : MethodName := ⟨"java/util/Arrays", "copyOf", "([Ljava/lang/Object;I)[Ljava/lang/Object;"⟩
abbrev bj_c2 : ByteArray := prog_26_method_119_code
theorem dj_c2_0 : decode bj_c2 0 = .ok (.aload_n 0, 1) := by decide +kernel
theorem dj_c2_1 : decode bj_c2 1 = .ok (.iload_n 1, 1) := by decide +kernel
theorem dj_c2_2 : decode bj_c2 2 = .ok (.aload_n 0, 1) := by decide +kernel
theorem dj_c2_3 : decode bj_c2 3 = .ok (.invokevirtual 86, 3) := by decide +kernel
theorem dj_c2_6 : decode bj_c2 6 = .ok (.invokestatic 300, 3) := by decide +kernel
theorem dj_c2_9 : decode bj_c2 9 = .ok (.areturn, 1) := by decide +kernel
theorem wc_nl : Cond.code yj_nl bj_nl 4 (some .int) ∈ pw_g := pw_wd pw_tb1 119 (by decide +kernel) (by decide +kernel)
theorem wc_c3 : Cond.code yj_c3 bj_c3 4 (some (.array (.object "java/lang/Object"))) ∈ pw_g := pw_wd pw_tb1 148 (by decide +kernel) (by decide +kernel)
theorem wc_c2 : Cond.code yj_c2 bj_c2 2 (some (.array (.object "java/lang/Object"))) ∈ pw_g := pw_wd pw_tb1 129 (by decide +kernel) (by decide +kernel)
theorem wm_max_194 : Cond.methodLink "jdk/internal/util/ArraysSupport" 194 Lib.Math.max.name ∈ pw_g := pw_wd pw_tb1 120 (by decide +kernel) (by decide +kernel)
theorem wm_min_304 : Cond.methodLink "java/util/Arrays" 304 Lib.Math.min.name ∈ pw_g := pw_wd pw_tb1 152 (by decide +kernel) (by decide +kernel)
theorem wms_max : Cond.static Lib.Math.max.name ∈ pw_g := pw_wd pw_tb1 121 (by decide +kernel) (by decide +kernel)
theorem wmc_max : Cond.code Lib.Math.max.name Lib.Math.max.code 2 (some .int) ∈ pw_g := pw_wd pw_tb1 122 (by decide +kernel) (by decide +kernel)
theorem wms_min : Cond.static Lib.Math.min.name ∈ pw_g := pw_wd pw_tb1 153 (by decide +kernel) (by decide +kernel)
theorem wmc_min : Cond.code Lib.Math.min.name Lib.Math.min.code 2 (some .int) ∈ pw_g := pw_wd pw_tb1 154 (by decide +kernel) (by decide +kernel)
theorem wn_math : Cond.initialized "java/lang/Math" ∈ pw_g := pw_wd pw_tb1 7 (by decide +kernel) (by decide +kernel)
theorem wn_sys : Cond.initialized "java/lang/System" ∈ pw_g := pw_wd pw_tb1 9 (by decide +kernel) (by decide +kernel)
theorem wn_arr : Cond.initialized "java/util/Arrays" ∈ pw_g := pw_wd pw_tb1 8 (by decide +kernel) (by decide +kernel)
theorem wn_sup : Cond.initialized "jdk/internal/util/ArraysSupport" ∈ pw_g := pw_wd pw_tb1 6 (by decide +kernel) (by decide +kernel)
theorem wk_200 : Jvm.Cond.constant "jdk/internal/util/ArraysSupport" 200 2147483639 ∈ pw_g := pw_wd pw_tb1 123 (by decide +kernel) (by decide +kernel)
theorem wcl_110 : Cond.classLink "java/util/Arrays" 110 "[Ljava/lang/Object;" ∈ pw_g := pw_wd pw_tb1 149 (by decide +kernel) (by decide +kernel)
theorem wcl_2 : Cond.classLink "java/util/Arrays" 2 "java/lang/Object" ∈ pw_g := pw_wd pw_tb1 151 (by decide +kernel) (by decide +kernel)
theorem wac_l : Cond.methodLink "java/util/Arrays" 150 arraycopyName ∈ pw_g := pw_wd pw_tb1 155 (by decide +kernel) (by decide +kernel)
theorem wac_n : Cond.native arraycopyName ∈ pw_g := pw_wd pw_tb1 157 (by decide +kernel) (by decide +kernel)
theorem wac_s : Cond.static arraycopyName ∈ pw_g := pw_wd pw_tb1 156 (by decide +kernel) (by decide +kernel)
theorem wgc_l : Cond.methodLink "java/util/Arrays" 86 ⟨"java/lang/Object", "getClass", "()Ljava/lang/Class;"⟩ ∈ pw_g := pw_wd pw_tb1 130 (by decide +kernel) (by decide +kernel)
theorem wgc_v : Cond.selects "[Ljava/lang/Object;" ⟨"java/lang/Object", "getClass", "()Ljava/lang/Class;"⟩ ⟨"java/lang/Object", "getClass", "()Ljava/lang/Class;"⟩ ∈ pw_g := pw_wd pw_tb5 11 (by decide +kernel) (by decide +kernel)
theorem wgc_i : Cond.instanceMethod ⟨"java/lang/Object", "getClass", "()Ljava/lang/Class;"⟩ ∈ pw_g := pw_wd pw_tb1 131 (by decide +kernel) (by decide +kernel)
theorem wgc_n : Cond.native ⟨"java/lang/Object", "getClass", "()Ljava/lang/Class;"⟩ ∈ pw_g := pw_wd pw_tb1 145 (by decide +kernel) (by decide +kernel)
theorem wl_c3_300 : Cond.methodLink "java/util/Arrays" 300 yj_c3 ∈ pw_g := pw_wd pw_tb1 146 (by decide +kernel) (by decide +kernel)
theorem ws_c3 : Cond.static yj_c3 ∈ pw_g := pw_wd pw_tb1 147 (by decide +kernel) (by decide +kernel)
theorem ws_c2 : Cond.static yj_c2 ∈ pw_g := pw_wd pw_tb1 128 (by decide +kernel) (by decide +kernel)
theorem ws_nl : Cond.static yj_nl ∈ pw_g := pw_wd pw_tb1 118 (by decide +kernel) (by decide +kernel)
set_option maxHeartbeats 1000000 in
theorem jc_nl {a b c0 r : Int32} (hr0 : a + (if b < c0 then c0 else b) = r) (h1 : 0 < r) (h2 : r ≤ 2147483639) : Met l yj_nl (Cond.code yj_nl bj_nl 4 (some .int) :: pw_g) { frames := 1, cells := 0, slots := 0, locals := 20 } (va_Pc [.int a, .int b, .int c0] (fun _ => True)) (vp_Si (fun x => x = r)) 0 0 (fun _ => False) := by
  refine Met.ofW (cc := bj_nl) (maxL := 4) (ret := some .int) (by decide +kernel) rfl ?_
  intro p e s m args below meth c s₁ B hml hv
  obtain ⟨rfl, -⟩ := hv
  have hx := B.exec
  have hb := B.bytes
  have hr := B.returns
  have hlocks := B.notSynchronized
  have hts : ∀ w ∈ pw_g, w.before ([.int a, .int b, .int c0]).toArray s = true := fun w hw => atoms_spec (ws := Cond.code yj_nl bj_nl 4 (some .int) :: pw_g) B.pre w (List.mem_cons_of_mem _ hw)
  have hown : s.vm.findClass "jdk/internal/util/ArraysSupport" = some m.cls := findClass_of_methodNamed B.named
  rw [lg_entry_eq]
  have hl := lv_entry ([.int a, .int b, .int c0]) (n := 4) (Nat.le_of_ble_eq_true rfl)
  generalize (lg_sl ([.int a, .int b, .int c0]) ++ List.replicate (4 - (lg_sl ([.int a, .int b, .int c0])).length) Slot.unset).toArray = ls at hl ⊢
  have hl : lv_has ls 4 [(0, .int a), (1, .int b), (2, .int c0)] := hl
  refine lv_iload_n hx hb dj_nl_0 rfl (lv_at hl 0 rfl) ?_
  refine lv_iload_n hx hb dj_nl_1 rfl (lv_at hl 1 rfl) ?_
  refine lv_iload_n hx hb dj_nl_2 rfl (lv_at hl 2 rfl) ?_
  refine va_mmax hx hb (by rw [hml]; exact hl.1.symm) hown (hts _ wm_max_194) (hts _ wms_max) (hts _ wn_math) (hts _ wmc_max) (by decide) (Nat.le_of_ble_eq_true rfl) (Nat.zero_le _) (Nat.zero_le _) dj_nl_3 ?_
  refine lv_iadd hx hb dj_nl_6 ?_
  rw [hr0]
  refine lv_istore_n (lv' := [(3, .int r), (0, .int a), (1, .int b), (2, .int c0)]) hx hb dj_nl_7 rfl hl (by decide) rfl (fun ls hl => ?_)
  refine lv_iconst (v := 0) hx hb dj_nl_8 (by decide) ?_
  refine lv_iload_n hx hb dj_nl_9 rfl (lv_at hl 0 rfl) ?_
  refine lv_icmp_ge (tgt := 21) hx hb dj_nl_10 (by decide) (fun q => absurd h1 (Int32.not_lt.mpr q)) (fun _ => ?_)
  refine lv_iload_n hx hb dj_nl_13 rfl (lv_at hl 0 rfl) ?_
  refine lv_ldc hx hb hown (hts _ wk_200) dj_nl_14 ?_
  refine lv_icmp_gt (tgt := 21) hx hb dj_nl_16 (by decide) (fun q => absurd q (Int32.not_lt.mpr h2)) (fun _ => ?_)
  refine lv_iload_n hx hb dj_nl_19 rfl (lv_at hl 0 rfl) ?_
  exact W.iret hx hb hr (fun t ht _ => ⟨r, rfl, rfl, ht⟩) (fun q h => by cases h) dj_nl_20 hlocks
/-- what an array holds are objects of the class C -/
abbrev pj_el (C : String) (f : Nat → Option Nat) (cap : Nat) (U : State) (H : Heap) : Prop := ∀ i : Nat, i < cap → ∀ y : Nat, f i = some y → ∃ cellV : Cell, H[y]? = some cellV ∧ cellV.vm.isStatics = false ∧ U.vm.findClass C = some cellV.cls
theorem pj_el.go {C : String} {f : Nat → Option Nat} {cap : Nat} {s U : State} {H : Heap} (hA : s.vm.Alike U.vm) (h : pj_el C f cap s H) : pj_el C f cap U H := fun i hi y hy => by
  obtain ⟨c, h1, h2, h3⟩ := h i hi y hy
  exact ⟨c, h1, h2, by rw [hA.findClass]; exact h3⟩
/-- a larger array with the same at its beginning -/
abbrev pj_gr (f : Nat → Option Nat) (cap : Nat) : Nat → Option Nat := fun j => if j < cap then f j else none
theorem pj_castO {g : pw_G} {s : State} {H : Heap} {C : String} (hK : pw_K g s H) (hC : Cond.castable C "java/lang/Object" ∈ pw_hw) {comp c0 : ClassId} (h1 : s.vm.findClass "java/lang/Object" = some comp) (h2 : s.vm.findClass C = some c0) : s.vm.assignable c0 comp = true := by
  have h := hK.2.2.2.2.2.2.2.2.2.1 _ hC
  obtain ⟨a, b, f1, f2, f3⟩ := Cond.castable_spec (va_Nw.use (A := #[]) rfl h)
  cases f1.symm.trans h2
  cases f2.symm.trans h1
  exact f3
set_option maxHeartbeats 2000000 in
theorem jc_c3 {aB cap N mi : Nat} {f : Nat → Option Nat} {C : String} (hC : Cond.castable C "java/lang/Object" ∈ pw_hw) (hge : cap ≤ N) (hN : N < 2097152) (hBA : g.2.2.2.1 ≤ aB) :
    Met l yj_c3 (Cond.code yj_c3 bj_c3 4 (some (.array (.object "java/lang/Object"))) :: pw_g) { frames := 1, cells := 1, slots := N, locals := 60 }
    (va_Pc [.ref aB, .int (nI N), .ref mi] (fun U => va_P g.1 pw_cl [(aB, .inl (g.2.1 5, (cap, .inr (.inr (.inr (.inr f))))))] U.heap ∧ pw_K g U U.heap ∧ va_Mi "[Ljava/lang/Object;" mi U ∧ pj_el C f cap U U.heap ∧ g.2.2.2.1 ≤ U.heap.size))
    (fun _ st o t => ∃ aN : Nat, o = .returned (some (.ref aN)) ∧ st.heap.size ≤ aN ∧ t.heap[aN]? = some (vp_cell (g.2.1 5) (N, .inr (.inr (.inr (.inr (pj_gr f cap)))))) ∧ ∀ q : Nat, q < st.heap.size → t.heap[q]? = st.heap[q]?) 1 N (pw_A g) := by
  refine Met.ofW (cc := bj_c3) (maxL := 4) (ret := some (.array (.object "java/lang/Object"))) (by decide +kernel) rfl ?_
  intro p e s m args below meth c s₁ B hml hv
  obtain ⟨rfl, hP, hK, hM, hel, hb0⟩ := hv
  have hx := B.exec
  have hb := B.bytes
  have hr := B.returns
  have hlocks := B.notSynchronized
  have hts : ∀ w ∈ pw_g, w.before ([.ref aB, .int (nI N), .ref mi]).toArray s = true := fun w hw => atoms_spec (ws := Cond.code yj_c3 bj_c3 4 (some (.array (.object "java/lang/Object"))) :: pw_g) B.pre w (List.mem_cons_of_mem _ hw)
  have hown : s.vm.findClass "java/util/Arrays" = some m.cls := findClass_of_methodNamed B.named
  rw [lg_entry_eq]
  have hl := lv_entry ([.ref aB, .int (nI N), .ref mi]) (n := 4) (Nat.le_of_ble_eq_true rfl)
  generalize (lg_sl ([.ref aB, .int (nI N), .ref mi]) ++ List.replicate (4 - (lg_sl ([.ref aB, .int (nI N), .ref mi])).length) Slot.unset).toArray = ls at hl ⊢
  have hl : lv_has ls 4 [(0, .ref aB), (1, .int (nI N)), (2, .ref mi)] := hl
  have haB : aB < s.heap.size := (Array.getElem?_eq_some_iff.mp (show s.heap[aB]? = some _ from hP 0 _ rfl)).1
  have hS : va_S (fun q => s.heap.size ≤ q ∨ q = aB) s.heap s.heap [] := va_S.rf
  have hD : va_D (fun q => s.heap.size ≤ q ∨ q = aB) [(aB, .inl (g.2.1 5, (cap, .inr (.inr (.inr (.inr f))))))] := ⟨fun i j p q h1 h2 _ => by
      have a1 : i < 1 := (List.getElem?_eq_some_iff.mp h1).1
      have a2 : j < 1 := (List.getElem?_eq_some_iff.mp h2).1
      omega, fun k q h => by
      have a1 : k < 1 := (List.getElem?_eq_some_iff.mp h).1
      rw [show k = 0 by omega] at h
      cases h
      exact Or.inr rfl⟩
  refine lv_aload_n hx hb dj_c3_0 rfl (lv_at hl 2 rfl) ?_
  refine va_ldcM hx hb hown (hts _ wcl_110) hM dj_c3_1 ?_
  refine lv_acmp_ne (rx := some mi) (ry := some mi) (tgt := 13) hx hb dj_c3_3 (by decide) (fun q => absurd rfl q) (fun _ => ?_)
  refine lv_iload_n hx hb dj_c3_6 rfl (lv_at hl 1 rfl) ?_
  refine va_newq (C := "java/lang/Object") (N' := N) hx hb hown (hts _ wcl_2) hK.2.2.2.2.2.1.2.2 hK.1 hP hD hS (fun q h => Or.inl h) (nI_pos (by omega)) (nI_clamp (by omega)) (by omega) (Nat.le_refl _) (by show 0 + N ≤ N; omega) dj_c3_7 (fun aN cA H1 hK1 hP1 hD1 hS1 => ?_)
  have hcA : cA = g.2.1 5 := by
    have h1 := (hK1.2 6 (cA, .object "java/lang/Object") rfl).2
    obtain ⟨kA, comp, -, -, -, h4⟩ := h1
    exact Option.some.inj (h4.symm.trans (pw_Q_ra hK.1 (k := 5) (ty := .object "java/lang/Object") rfl))
  subst hcA
  have hne : aN ≠ aB := fun e => by
    have := hD1.1 1 0 _ _ rfl rfl e
    omega
  have hfr : s.heap.size ≤ aN := by
    rcases hD1.2 1 _ rfl with h | h
    · exact h
    · exact absurd h hne
  refine lv_goto (tgt := 24) hx hb dj_c3_10 (by decide) ?_
  refine lv_astore_n (lv' := [(3, .ref aN), (0, .ref aB), (1, .int (nI N)), (2, .ref mi)]) hx hb dj_c3_24 rfl hl (by decide) rfl (fun ls hl => ?_)
  refine lv_aload_n hx hb dj_c3_25 rfl (lv_at hl 1 rfl) ?_
  refine lv_iconst (v := 0) hx hb dj_c3_26 (by decide) ?_
  refine lv_aload_n hx hb dj_c3_27 rfl (lv_at hl 0 rfl) ?_
  refine lv_iconst (v := 0) hx hb dj_c3_28 (by decide) ?_
  refine lv_aload_n hx hb dj_c3_29 rfl (lv_at hl 1 rfl) ?_
  refine va_alen hx hb hK.1 hP1 0 5 rfl rfl rfl dj_c3_30 ?_
  refine lv_iload_n hx hb dj_c3_31 rfl (lv_at hl 2 rfl) ?_
  refine va_mmin hx hb (by rw [hml]; exact hl.1.symm) hown (hts _ wm_min_304) (hts _ wms_min) (hts _ wn_math) (hts _ wmc_min) (Nat.le_refl 1) (Nat.le_of_ble_eq_true rfl) (by show 0 + 1 ≤ 1; omega) (by show 0 + N ≤ N; omega) dj_c3_32 ?_
  have hmin : (if nI N < Int32.ofNat cap then nI N else Int32.ofNat cap) = nI cap := if_neg (nI_nlt hge (by omega))
  rw [hmin]
  have e0 : (0 : Int32).toNatClampNeg = 0 := rfl
  have ec : (nI cap).toNatClampNeg = cap := nI_clamp (by omega)
  refine va_copyq (E0 := "java/lang/Object") (E1 := "java/lang/Object") (C := C) hx hb (by rw [hml]; exact hl.1.symm) hown (hts _ wac_l) (hts _ wac_n) (hts _ wac_s) (hts _ wn_sys) hK.1 hP1 hD1 hS1 0 1 5 5 rfl rfl rfl rfl (by decide) (by decide) (nI_pos (by omega)) (by rw [e0, ec]; omega) (by rw [e0, ec]; omega) (fun i hi y hy => by
      rw [ec] at hi
      rw [e0, Nat.zero_add] at hy
      obtain ⟨cV, g1, g2, g3⟩ := hel i hi y hy
      refine ⟨cV, ?_, g2, g3⟩
      have hy1 : y < s.heap.size := (Array.getElem?_eq_some_iff.mp g1).1
      by_cases hyB : y = aB
      · subst hyB
        have h1 : H1[y]? = some _ := hP1 0 _ rfl
        have h2 : s.heap[y]? = some _ := hP 0 _ rfl
        rw [h1, ← h2]; exact g1
      · rw [hS1.2.1 y hy1 (fun q => q.elim (fun q => absurd hy1 (Nat.not_lt.mpr q)) hyB)]; exact g1) (fun comp c1 h1 h2 => pj_castO hK hC h1 h2) (Nat.le_refl 1) (by show _ ≤ 60; decide) dj_c3_35 (fun H2 locs2 hP2 hD2 hS2 => ?_)
  refine lv_aload_n hx hb dj_c3_38 rfl (lv_at hl 0 rfl) ?_
  have hfree : ∀ q ∈ locs2, pw_A g q.base := fun q h => by
    rcases hS2.2.2 q h with h | h
    · exact Nat.le_trans hb0 h
    · rw [h]; exact hBA
  have hcell : H2[aN]? = some (vp_cell (g.2.1 5) (N, .inr (.inr (.inr (.inr (pj_gr f cap)))))) := by
    have h1 : H2[aN]? = some (vp_cell _ _) := hP2 1 _ rfl
    rw [h1, vp_cell_q, vp_cell_q]
    congr 1
    refine pw_arrV_congr fun j hj => ?_
    rw [e0, ec]
    unfold va_cpy pj_gr
    by_cases hj2 : j < cap
    · rw [if_pos ⟨Nat.zero_le _, by omega⟩, if_pos hj2, Nat.zero_add, Nat.sub_zero]
    · rw [if_neg (by omega), if_neg hj2]
  have hold : ∀ q : Nat, q < s.heap.size → H2[q]? = s.heap[q]? := fun q hq => by
    by_cases hqB : q = aB
    · subst hqB
      have h1 : H2[q]? = some _ := hP2 0 _ rfl
      have h2 : s.heap[q]? = some _ := hP 0 _ rfl
      rw [h1, ← h2]
    · exact hS2.2.1 q hq (fun z => z.elim (fun z => absurd hq (Nat.not_lt.mpr z)) hqB)
  refine W.widen (k := 1) (n := N) (by omega) (by omega) ?_
  exact W.aret hx hb hr (Or.inr ⟨_, rfl⟩) (Or.inr ⟨_, rfl⟩) (fun t ht _ => ⟨aN, rfl, hfr, by rw [ht]; exact hcell, by rw [ht]; exact hold⟩) hfree dj_c3_39 hlocks
def yj_gi : MethodName := ⟨"java/util/ArrayList", "grow", "(I)[Ljava/lang/Object;"⟩
abbrev bj_gi : ByteArray := prog_25_method_6_code
theorem dj_gi_0 : decode bj_gi 0 = .ok (.aload_n 0, 1) := by decide +kernel
theorem dj_gi_1 : decode bj_gi 1 = .ok (.getfield 9, 3) := by decide +kernel
theorem dj_gi_4 : decode bj_gi 4 = .ok (.arraylength, 1) := by decide +kernel
theorem dj_gi_5 : decode bj_gi 5 = .ok (.istore_n 2, 1) := by decide +kernel
theorem dj_gi_6 : decode bj_gi 6 = .ok (.iload_n 2, 1) := by decide +kernel
theorem dj_gi_7 : decode bj_gi 7 = .ok (.ifCond .gt 13, 3) := by decide +kernel
theorem dj_gi_10 : decode bj_gi 10 = .ok (.aload_n 0, 1) := by decide +kernel
theorem dj_gi_11 : decode bj_gi 11 = .ok (.getfield 9, 3) := by decide +kernel
theorem dj_gi_14 : decode bj_gi 14 = .ok (.getstatic 39, 3) := by decide +kernel
theorem dj_gi_17 : decode bj_gi 17 = .ok (.if_acmp .eq 28, 3) := by decide +kernel
theorem dj_gi_20 : decode bj_gi 20 = .ok (.iload_n 2, 1) := by decide +kernel
theorem dj_gi_21 : decode bj_gi 21 = .ok (.iload_n 1, 1) := by decide +kernel
theorem dj_gi_22 : decode bj_gi 22 = .ok (.iload_n 2, 1) := by decide +kernel
theorem dj_gi_23 : decode bj_gi 23 = .ok (.isub, 1) := by decide +kernel
theorem dj_gi_24 : decode bj_gi 24 = .ok (.iload_n 2, 1) := by decide +kernel
theorem dj_gi_25 : decode bj_gi 25 = .ok (.iconst 1, 1) := by decide +kernel
theorem dj_gi_26 : decode bj_gi 26 = .ok (.ishr, 1) := by decide +kernel
theorem dj_gi_27 : decode bj_gi 27 = .ok (.invokestatic 73, 3) := by decide +kernel
theorem dj_gi_30 : decode bj_gi 30 = .ok (.istore_n 3, 1) := by decide +kernel
theorem dj_gi_31 : decode bj_gi 31 = .ok (.aload_n 0, 1) := by decide +kernel
theorem dj_gi_32 : decode bj_gi 32 = .ok (.aload_n 0, 1) := by decide +kernel
theorem dj_gi_33 : decode bj_gi 33 = .ok (.getfield 9, 3) := by decide +kernel
theorem dj_gi_36 : decode bj_gi 36 = .ok (.iload_n 3, 1) := by decide +kernel
theorem dj_gi_37 : decode bj_gi 37 = .ok (.invokestatic 66, 3) := by decide +kernel
theorem dj_gi_40 : decode bj_gi 40 = .ok (.dup_x1, 1) := by decide +kernel
theorem dj_gi_41 : decode bj_gi 41 = .ok (.putfield 9, 3) := by decide +kernel
theorem dj_gi_44 : decode bj_gi 44 = .ok (.areturn, 1) := by decide +kernel
theorem dj_gi_45 : decode bj_gi 45 = .ok (.aload_n 0, 1) := by decide +kernel
theorem dj_gi_46 : decode bj_gi 46 = .ok (.bipush 10, 2) := by decide +kernel
theorem dj_gi_48 : decode bj_gi 48 = .ok (.iload_n 1, 1) := by decide +kernel
theorem dj_gi_49 : decode bj_gi 49 = .ok (.invokestatic 79, 3) := by decide +kernel
theorem dj_gi_52 : decode bj_gi 52 = .ok (.anewarray 7, 3) := by decide +kernel
theorem dj_gi_55 : decode bj_gi 55 = .ok (.dup_x1, 1) := by decide +kernel
theorem dj_gi_56 : decode bj_gi 56 = .ok (.putfield 9, 3) := by decide +kernel
theorem dj_gi_59 : decode bj_gi 59 = .ok (.areturn, 1) := by decide +kernel
def yj_g0 : MethodName := ⟨"java/util/ArrayList", "grow", "()[Ljava/lang/Object;"⟩
abbrev bj_g0 : ByteArray := prog_25_method_7_code
theorem dj_g0_0 : decode bj_g0 0 = .ok (.aload_n 0, 1) := by decide +kernel
theorem dj_g0_1 : decode bj_g0 1 = .ok (.aload_n 0, 1) := by decide +kernel
theorem dj_g0_2 : decode bj_g0 2 = .ok (.getfield 48, 3) := by decide +kernel
theorem dj_g0_5 : decode bj_g0 5 = .ok (.iconst 1, 1) := by decide +kernel
theorem dj_g0_6 : decode bj_g0 6 = .ok (.iadd, 1) := by decide +kernel
theorem dj_g0_7 : decode bj_g0 7 = .ok (.invokevirtual 69, 3) := by decide +kernel
theorem dj_g0_10 : decode bj_g0 10 = .ok (.areturn, 1) := by decide +kernel
def yj_a3 : MethodName := ⟨"java/util/ArrayList", "add", "(Ljava/lang/Object;[Ljava/lang/Object;I)V"⟩
abbrev bj_a3 : ByteArray := prog_25_method_24_code
theorem dj_a3_0 : decode bj_a3 0 = .ok (.iload_n 3, 1) := by decide +kernel
theorem dj_a3_1 : decode bj_a3 1 = .ok (.aload_n 2, 1) := by decide +kernel
theorem dj_a3_2 : decode bj_a3 2 = .ok (.arraylength, 1) := by decide +kernel
theorem dj_a3_3 : decode bj_a3 3 = .ok (.if_icmp .ne 8, 3) := by decide +kernel
theorem dj_a3_6 : decode bj_a3 6 = .ok (.aload_n 0, 1) := by decide +kernel
theorem dj_a3_7 : decode bj_a3 7 = .ok (.invokevirtual 129, 3) := by decide +kernel
theorem dj_a3_10 : decode bj_a3 10 = .ok (.astore_n 2, 1) := by decide +kernel
theorem dj_a3_11 : decode bj_a3 11 = .ok (.aload_n 2, 1) := by decide +kernel
theorem dj_a3_12 : decode bj_a3 12 = .ok (.iload_n 3, 1) := by decide +kernel
theorem dj_a3_13 : decode bj_a3 13 = .ok (.aload_n 1, 1) := by decide +kernel
theorem dj_a3_14 : decode bj_a3 14 = .ok (.aastore, 1) := by decide +kernel
theorem dj_a3_15 : decode bj_a3 15 = .ok (.aload_n 0, 1) := by decide +kernel
theorem dj_a3_16 : decode bj_a3 16 = .ok (.iload_n 3, 1) := by decide +kernel
theorem dj_a3_17 : decode bj_a3 17 = .ok (.iconst 1, 1) := by decide +kernel
theorem dj_a3_18 : decode bj_a3 18 = .ok (.iadd, 1) := by decide +kernel
theorem dj_a3_19 : decode bj_a3 19 = .ok (.putfield 48, 3) := by decide +kernel
theorem dj_a3_22 : decode bj_a3 22 = .ok (.return_, 1) := by decide +kernel
def yj_add : MethodName := ⟨"java/util/ArrayList", "add", "(Ljava/lang/Object;)Z"⟩
abbrev bj_add : ByteArray := prog_25_method_25_code
theorem dj_add_0 : decode bj_add 0 = .ok (.aload_n 0, 1) := by decide +kernel
theorem dj_add_1 : decode bj_add 1 = .ok (.dup, 1) := by decide +kernel
theorem dj_add_2 : decode bj_add 2 = .ok (.getfield 63, 3) := by decide +kernel
theorem dj_add_5 : decode bj_add 5 = .ok (.iconst 1, 1) := by decide +kernel
theorem dj_add_6 : decode bj_add 6 = .ok (.iadd, 1) := by decide +kernel
theorem dj_add_7 : decode bj_add 7 = .ok (.putfield 63, 3) := by decide +kernel
theorem dj_add_10 : decode bj_add 10 = .ok (.aload_n 0, 1) := by decide +kernel
theorem dj_add_11 : decode bj_add 11 = .ok (.aload_n 1, 1) := by decide +kernel
theorem dj_add_12 : decode bj_add 12 = .ok (.aload_n 0, 1) := by decide +kernel
theorem dj_add_13 : decode bj_add 13 = .ok (.getfield 9, 3) := by decide +kernel
theorem dj_add_16 : decode bj_add 16 = .ok (.aload_n 0, 1) := by decide +kernel
theorem dj_add_17 : decode bj_add 17 = .ok (.getfield 48, 3) := by decide +kernel
theorem dj_add_20 : decode bj_add 20 = .ok (.invokevirtual 131, 3) := by decide +kernel
theorem dj_add_23 : decode bj_add 23 = .ok (.iconst 1, 1) := by decide +kernel
theorem dj_add_24 : decode bj_add 24 = .ok (.ireturn, 1) := by decide +kernel
theorem wc_gi : Cond.code yj_gi bj_gi 4 (some (.array (.object "java/lang/Object"))) ∈ pw_g := pw_wd pw_tb1 116 (by decide +kernel) (by decide +kernel)
theorem wc_g0 : Cond.code yj_g0 bj_g0 1 (some (.array (.object "java/lang/Object"))) ∈ pw_g := pw_wd pw_tb1 112 (by decide +kernel) (by decide +kernel)
theorem wc_a3 : Cond.code yj_a3 bj_a3 4 (none) ∈ pw_g := pw_wd pw_tb1 108 (by decide +kernel) (by decide +kernel)
theorem wc_add : Cond.code yj_add bj_add 2 (some .boolean) ∈ pw_g := pw_wd pw_tb1 104 (by decide +kernel) (by decide +kernel)
theorem wl_nl_73 : Cond.methodLink "java/util/ArrayList" 73 yj_nl ∈ pw_g := pw_wd pw_tb1 117 (by decide +kernel) (by decide +kernel)
theorem wl_c2_66 : Cond.methodLink "java/util/ArrayList" 66 yj_c2 ∈ pw_g := pw_wd pw_tb1 127 (by decide +kernel) (by decide +kernel)
theorem wl_gi_69 : Cond.methodLink "java/util/ArrayList" 69 yj_gi ∈ pw_g := pw_wd pw_tb1 113 (by decide +kernel) (by decide +kernel)
theorem wl_g0_129 : Cond.methodLink "java/util/ArrayList" 129 yj_g0 ∈ pw_g := pw_wd pw_tb1 109 (by decide +kernel) (by decide +kernel)
theorem wl_a3_131 : Cond.methodLink "java/util/ArrayList" 131 yj_a3 ∈ pw_g := pw_wd pw_tb1 105 (by decide +kernel) (by decide +kernel)
theorem wi_gi : Cond.instanceMethod yj_gi ∈ pw_g := pw_wd pw_tb1 115 (by decide +kernel) (by decide +kernel)
theorem wi_g0 : Cond.instanceMethod yj_g0 ∈ pw_g := pw_wd pw_tb1 111 (by decide +kernel) (by decide +kernel)
theorem wi_a3 : Cond.instanceMethod yj_a3 ∈ pw_g := pw_wd pw_tb1 107 (by decide +kernel) (by decide +kernel)
theorem wi_add : Cond.instanceMethod yj_add ∈ pw_g := pw_wd pw_tb1 102 (by decide +kernel) (by decide +kernel)
theorem wv_gi : Cond.selects "java/util/ArrayList" yj_gi yj_gi ∈ pw_g := pw_wp 2 (q := (yj_gi, 3)) (by decide +kernel) (by decide +kernel)
theorem wv_g0 : Cond.selects "java/util/ArrayList" yj_g0 yj_g0 ∈ pw_g := pw_wp 1 (q := (yj_g0, 3)) (by decide +kernel) (by decide +kernel)
theorem wv_a3 : Cond.selects "java/util/ArrayList" yj_a3 yj_a3 ∈ pw_g := pw_wp 0 (q := (yj_a3, 3)) (by decide +kernel) (by decide +kernel)
theorem wf_63 : Cond.fieldLink "java/util/ArrayList" 63 "java/util/ArrayList" "modCount" "I" ∈ pw_g := pw_wd pw_tb1 53 (by decide +kernel) (by decide +kernel)
theorem wm_max_79 : Cond.methodLink "java/util/ArrayList" 79 Lib.Math.max.name ∈ pw_g := pw_wd pw_tb1 158 (by decide +kernel) (by decide +kernel)
theorem wcl_7 : Cond.classLink "java/util/ArrayList" 7 "java/lang/Object" ∈ pw_g := pw_wd pw_tb1 159 (by decide +kernel) (by decide +kernel)
theorem wf_39 : Cond.fieldLink "java/util/ArrayList" 39 "java/util/ArrayList" "DEFAULTCAPACITY_EMPTY_ELEMENTDATA" "[Ljava/lang/Object;" ∈ pw_g := pw_wd pw_tb1 48 (by decide +kernel) (by decide +kernel)
/-- a field of a list's own cell, stored: all else is as it was -/
theorem pj_put {p : Program} {e : Env} {R : Room} {s : State} {m : MethodId} {args : Array Value} {below : List Frame} {meth : Method} {c : Code} {H : Heap} {locs : List Loc} {cells slots pc : Nat} {Q : State → Prop} {ls : Array Slot} {rest : List Value} {cc : ByteArray} {index a : Nat} {v : Value} {fs : List Value}
    (hx : p.tables.exec = Jvm.exec) (hb : c.code = cc) (hts : ∀ w ∈ pw_g, w.before args s = true) (hown : s.vm.findClass "java/util/ArrayList" = some m.cls) (hK : va_K g.1 pw_cl (pw_tys g) s) (hP : va_at g.1 pw_cl (a, .inr (9, fs)) H) (k : Nat) (hk : k < 3) (ref : String) (hl : Cond.fieldLink "java/util/ArrayList" index ref (pw_T9 k).2.1 (pw_T9 k).2.2.1 ∈ pw_g)
    (hsame : ∀ x, s.fieldFound? (pw_T9 k).1 (pw_T9 k).2.1 (pw_T9 k).2.2.1 = some x → s.fieldFound? ref (pw_T9 k).2.1 (pw_T9 k).2.2.1 = some x) (hn : narrow (pw_t9 k) v = v) (hfit : fits (pw_t9 k) v = true) (hlen : k < fs.length) (hdg : decode cc pc = .ok (.putfield index, 3))
    (kk : ∀ (H1 : Heap) (l0 : Loc), l0.base = a → va_at g.1 pw_cl (a, .inr (9, fs.set k v)) H1 → H1.size = H.size → (∀ q : Nat, q ≠ a → H1[q]? = H[q]?) → W p l e R s m args below meth c H1 (locs ++ [l0]) cells slots Q (F0 m (pc + 3) ls rest)) : W p l e R s m args below meth c H locs cells slots Q (F0 m pc ls (v :: .ref a :: rest)) := by
  have hap := va_apart (own := "java/util/ArrayList") hts pw_i9g pw_t9 pw_o9 pw_n9 hK (ci := 9) rfl
  obtain ⟨r, h1, cell, q1, q2, q3, q4⟩ := hP
  have hr : r = (pw_R9, pw_T9, 3) := Option.some.inj (h1.symm.trans rfl)
  subst hr
  obtain ⟨hS, hfc, kC, hkC, hkind⟩ := hK.1 9 _ rfl
  obtain ⟨cf, kf, fi, f, hi, hsl⟩ := hS k hk
  have hlay := hts _ (pw_i9g _ (u_in_lay hk))
  unfold u_lay at hlay
  rw [if_neg (by have : k = 0 ∨ k = 1 ∨ k = 2 := by omega
                 rcases this with rfl | rfl | rfl <;> decide)] at hlay
  have hst := (u_facts hfc hkC (u_lays hts pw_i9g hk) hi).1
  have h6 := u_store hfc hkC hkind hlay hi (pw_o9 k hk) hn hfit
  refine W.putK hx hb (f := f) ⟨hown, hts _ hl, ⟨_, _, _, hsame _ hi⟩, hst⟩ (by rw [q2]; exact h6) q1 q3 (by rw [hsl]; exact k2_hasslot (q4 k hk)) rfl rfl hdg fun H' e1 e2 e3 => ?_
  rw [hsl] at e1 ⊢
  exact kk H' _ rfl ⟨_, rfl, t_OB.to (V := updV (vp_V fs) k v) ⟨_, e1, q2, q3, t_set q4 hap hk v⟩ (fun j _ => vp_updV_set hlen v j)⟩ e2 e3
theorem pj_kept {D : va_G} {cl : List vw_C} {q : Nat × va_E} {H H1 : Heap} (h : va_at D cl q H) (hk : H1[q.1]? = H[q.1]?) : va_at D cl q H1 := by
  unfold va_at at h ⊢
  split at h
  · rw [hk]; exact h
  · obtain ⟨r, e1, e2⟩ := h
    exact ⟨r, e1, e2.kept hk⟩
theorem pj_one {D : va_G} {cl : List vw_C} {q : Nat × va_E} {H : Heap} (h : va_at D cl q H) : va_P D cl [q] H := fun k r hr => by
  have hz : k < 1 := (List.getElem?_eq_some_iff.mp hr).1
  rw [show k = 0 by omega] at hr
  cases hr
  exact h
theorem pj_lt {D : va_G} {cl : List vw_C} {q : Nat × va_E} {H : Heap} (h : va_at D cl q H) : q.1 < H.size := va_at.lt h
/-- one more at the end of a full array -/
abbrev pj_N (cap : Nat) : Nat := cap + (if 1 < cap / 2 then cap / 2 else 1)
theorem pj_Nge (cap : Nat) : cap < pj_N cap ∧ pj_N cap ≤ 2 * cap + 1 := by
  unfold pj_N
  split <;> omega
theorem pj_len {cap : Nat} (h : cap < 1048576) : nI cap + (if (nI (cap + 1) - nI cap) < (nI cap >>> ((1 : Int32) &&& 31)) then (nI cap >>> ((1 : Int32) &&& 31)) else (nI (cap + 1) - nI cap)) = nI (pj_N cap) := by
  have es : nI cap >>> ((1 : Int32) &&& 31) = nI (cap / 2) := by
    have k := pk_shrN (n := cap) (by omega) ((1 : Int32) &&& 31) 1 (by decide)
    rw [Nat.pow_one] at k
    exact k
  have ed : nI (cap + 1) - nI cap = nI 1 := by
    have k := pk_sub (a := cap + 1) (b := cap) (by omega)
    rw [Nat.add_sub_cancel_left] at k
    exact k
  rw [es, ed]
  unfold pj_N
  by_cases c : 1 < cap / 2
  · rw [if_pos (nI_lt c (by omega)), if_pos c, nI_add]
  · rw [if_neg (nI_nlt (by omega) (by decide)), if_neg c, nI_add]
set_option maxHeartbeats 2000000 in
theorem jc_c2 {aB cap N : Nat} {f : Nat → Option Nat} {C : String} (hC : Cond.castable C "java/lang/Object" ∈ pw_hw) (hge : cap ≤ N) (hN : N < 2097152) (hBA : g.2.2.2.1 ≤ aB) :
    Met l yj_c2 (Cond.code yj_c2 bj_c2 2 (some (.array (.object "java/lang/Object"))) :: pw_g) { frames := 2, cells := 1, slots := N, locals := 83 }
    (va_Pc [.ref aB, .int (nI N)] (fun U => va_P g.1 pw_cl [(aB, .inl (g.2.1 5, (cap, .inr (.inr (.inr (.inr f))))))] U.heap ∧ pw_K g U U.heap ∧ pj_el C f cap U U.heap ∧ g.2.2.2.1 ≤ U.heap.size))
    (fun _ st o t => ∃ aN : Nat, o = .returned (some (.ref aN)) ∧ st.heap.size ≤ aN ∧ t.heap[aN]? = some (vp_cell (g.2.1 5) (N, .inr (.inr (.inr (.inr (pj_gr f cap)))))) ∧ ∀ q : Nat, q < st.heap.size → t.heap[q]? = st.heap[q]?) 1 N (pw_A g) := by
  refine Met.ofW (cc := bj_c2) (maxL := 2) (ret := some (.array (.object "java/lang/Object"))) (by decide +kernel) rfl ?_
  intro p e s m args below meth c s₁ B hml hv
  obtain ⟨rfl, hP, hK, hel, hb0⟩ := hv
  have hx := B.exec
  have hb := B.bytes
  have hr := B.returns
  have hlocks := B.notSynchronized
  have hts : ∀ w ∈ pw_g, w.before ([.ref aB, .int (nI N)]).toArray s = true := fun w hw => atoms_spec (ws := Cond.code yj_c2 bj_c2 2 (some (.array (.object "java/lang/Object"))) :: pw_g) B.pre w (List.mem_cons_of_mem _ hw)
  have hown : s.vm.findClass "java/util/Arrays" = some m.cls := findClass_of_methodNamed B.named
  rw [lg_entry_eq]
  have hl := lv_entry ([.ref aB, .int (nI N)]) (n := 2) (Nat.le_of_ble_eq_true rfl)
  generalize (lg_sl ([.ref aB, .int (nI N)]) ++ List.replicate (2 - (lg_sl ([.ref aB, .int (nI N)])).length) Slot.unset).toArray = ls at hl ⊢
  have hl : lv_has ls 2 [(0, .ref aB), (1, .int (nI N))] := hl
  obtain ⟨mi, hM⟩ := hK.2.2.2.2.2.2.2.2.2.2.2
  refine lv_aload_n hx hb dj_c2_0 rfl (lv_at hl 0 rfl) ?_
  refine lv_iload_n hx hb dj_c2_1 rfl (lv_at hl 1 rfl) ?_
  refine lv_aload_n hx hb dj_c2_2 rfl (lv_at hl 0 rfl) ?_
  refine va_getC (C := "[Ljava/lang/Object;") (mi := mi) hx hb (by rw [hml]; exact hl.1.symm) hown (hts _ wgc_l) (va_Nw.use rfl (hK.2.2.2.2.2.2.2.2.2.1 _ (by decide +kernel))) (hts _ wgc_v) (hts _ wgc_i) (hts _ wgc_n) hM ⟨_, hP 0 _ rfl, rfl, pw_Q_ra hK.1 (k := 5) (ty := .object "java/lang/Object") rfl⟩ (by show 1 ≤ 2; decide) (Nat.le_of_ble_eq_true rfl) dj_c2_3 ?_
  refine pj_after (va_runS (As := [.ref aB, .int (nI N), .ref mi]) (rest := []) (Ts := pw_g) (own := "java/util/Arrays") (index := 300) ⟨hx, hb, hml, hown, hts⟩ (jc_c3 (mi := mi) hC hge hN hBA) (va_cwS 3 hts (pw_gi (pw_mc wl_c3_300 (pw_mc ws_c3 (pw_mc wn_arr (pw_mc wc_c3 (fun w h => h)))))) rfl rfl rfl (by decide +kernel) ⟨Nat.le_refl 2, Nat.le_refl 83⟩) ⟨fun a U gf mk h => ⟨h.1, h.2.1, pw_K.go (State.WarmedH.refl U) h.2.2.1 (fun _ _ _ => rfl), h.2.2.2.1, h.2.2.2.2.1, h.2.2.2.2.2⟩, fun U hU hW => ⟨rfl, by rw [hU]; exact hP, pj_kgo hW hK hU, hM.moved hW.alike, by rw [hU]; exact hel.go hW.alike, by rw [hU]; exact hb0⟩⟩ rfl rfl hl.1 rfl (Nat.le_of_ble_eq_true rfl) dj_c2_6 ⟨by show 0 + 1 ≤ 1; omega, by show 0 + N ≤ N; omega⟩) ?_
  rintro v st₀ t L hh hA hL ⟨aN, hv, p1, p2, p3⟩
  cases hv
  rw [hh] at p1 p3
  refine W.widen (k := 1) (n := N) (by omega) (by omega) ?_
  exact W.aret hx hb hr (Or.inr ⟨_, rfl⟩) (Or.inr ⟨_, rfl⟩) (fun t' ht _ => ⟨aN, rfl, p1, by rw [ht]; exact p2, by rw [ht]; exact p3⟩) hL dj_c2_9 hlocks
/-- what a growth leaves behind -/
def pj_GP (g : pw_G) (aL N : Nat) (mc n : Int32) (f : Nat → Option Nat) (st : State) (o : Outcome) (t : State) : Prop :=
  ∃ aN : Nat, o = .returned (some (.ref aN)) ∧ st.heap.size ≤ aN ∧ t.heap[aN]? = some (vp_cell (g.2.1 5) (N, .inr (.inr (.inr (.inr f))))) ∧ va_at g.1 pw_cl (aL, .inr (9, [.int mc, .ref aN, .int n])) t.heap ∧ ∀ q : Nat, q < st.heap.size → q ≠ aL → t.heap[q]? = st.heap[q]?
abbrev pj_PF (g : pw_G) (aL aB cap : Nat) (mc n : Int32) (f : Nat → Option Nat) (C : String) (U : State) : Prop := va_P g.1 pw_cl (pj_ws g aL aB cap mc n f) U.heap ∧ pw_K g U U.heap ∧ pj_el C f cap U U.heap ∧ g.2.2.2.1 ≤ U.heap.size
abbrev pj_PE (g : pw_G) (aL : Nat) (mc : Int32) (U : State) : Prop := va_at g.1 pw_cl (aL, .inr (9, [.int mc, .ref g.2.2.1, .int 0])) U.heap ∧ pw_K g U U.heap ∧ g.2.2.2.1 ≤ U.heap.size
theorem pj_PF.calling {g : pw_G} {aL aB cap : Nat} {mc n : Int32} {f : Nat → Option Nat} {C : String} {U : State} {gf : JFrame} {mk : MethodId} {a : Array Value} (h : pj_PF g aL aB cap mc n f C U) : pj_PF g aL aB cap mc n f C (U.calling gf mk a) := ⟨h.1, pw_K.go (State.WarmedH.refl U) h.2.1 (fun _ _ _ => rfl), h.2.2.1, h.2.2.2⟩
theorem pj_PE.calling {g : pw_G} {aL : Nat} {mc : Int32} {U : State} {gf : JFrame} {mk : MethodId} {a : Array Value} (h : pj_PE g aL mc U) : pj_PE g aL mc (U.calling gf mk a) := ⟨h.1, pw_K.go (State.WarmedH.refl U) h.2.1 (fun _ _ _ => rfl), h.2.2⟩
theorem pj_PF.go {g : pw_G} {aL aB cap : Nat} {mc n : Int32} {f : Nat → Option Nat} {C : String} {s U : State} (hW : s.WarmedH U.vm) (e : U.heap = s.heap) (h : pj_PF g aL aB cap mc n f C s) : pj_PF g aL aB cap mc n f C U := ⟨by rw [e]; exact h.1, pj_kgo hW h.2.1 e, by rw [e]; exact pj_el.go hW.alike h.2.2.1, by rw [e]; exact h.2.2.2⟩
theorem pj_PE.go {g : pw_G} {aL : Nat} {mc : Int32} {s U : State} (hW : s.WarmedH U.vm) (e : U.heap = s.heap) (h : pj_PE g aL mc s) : pj_PE g aL mc U := ⟨by rw [e]; exact h.1, pj_kgo hW h.2.1 e, by rw [e]; exact h.2.2⟩
set_option maxHeartbeats 2000000 in
theorem jc_gi_f {aL aB cap : Nat} {mc : Int32} {f : Nat → Option Nat} {C : String} (hC : Cond.castable C "java/lang/Object" ∈ pw_hw) (hc0 : 0 < cap) (hcap : cap < 1048576) (hBL : g.2.2.2.1 ≤ aL) (hBA : g.2.2.2.1 ≤ aB) (hne : aL ≠ aB) :
    Met l yj_gi (Cond.code yj_gi bj_gi 4 (some (.array (.object "java/lang/Object"))) :: pw_g) { frames := 3, cells := 1, slots := pj_N cap, locals := 104 } (va_Pc [.ref aL, .int (nI (cap + 1))] (pj_PF g aL aB cap mc (nI cap) f C)) (fun _ => pj_GP g aL (pj_N cap) mc (nI cap) (pj_gr f cap)) 1 (pj_N cap) (pw_A g) := by
  refine Met.ofW (cc := bj_gi) (maxL := 4) (ret := some (.array (.object "java/lang/Object"))) (by decide +kernel) rfl ?_
  intro p e s m args below meth c s₁ B hml hv
  obtain ⟨rfl, hPF⟩ := hv
  have hx := B.exec
  have hb := B.bytes
  have hr := B.returns
  have hlocks := B.notSynchronized
  have hts : ∀ w ∈ pw_g, w.before ([.ref aL, .int (nI (cap + 1))]).toArray s = true := fun w hw => atoms_spec (ws := Cond.code yj_gi bj_gi 4 (some (.array (.object "java/lang/Object"))) :: pw_g) B.pre w (List.mem_cons_of_mem _ hw)
  have hown : s.vm.findClass "java/util/ArrayList" = some m.cls := findClass_of_methodNamed B.named
  rw [lg_entry_eq]
  have hl := lv_entry ([.ref aL, .int (nI (cap + 1))]) (n := 4) (Nat.le_of_ble_eq_true rfl)
  generalize (lg_sl ([.ref aL, .int (nI (cap + 1))]) ++ List.replicate (4 - (lg_sl ([.ref aL, .int (nI (cap + 1))])).length) Slot.unset).toArray = ls at hl ⊢
  have hl : lv_has ls 4 [(0, .ref aL), (1, .int (nI (cap + 1)))] := hl
  obtain ⟨hP, hK, hel, hb0⟩ := id hPF
  obtain ⟨hN1, hN2⟩ := pj_Nge cap
  have hpos : 0 < nI cap := by
    have := nI_lt hc0 (show cap < 2 ^ 31 by omega)
    rwa [nI_0] at this
  refine lv_aload_n hx hb dj_gi_0 rfl (lv_at hl 0 rfl) ?_
  refine va_get hx hb hts pw_i9g hown hK.1 hP 0 rfl rfl 1 (by decide) (hts _ wf_9) (fun _ h => h) (v := .ref aB) rfl dj_gi_1 ?_
  refine va_alen hx hb hK.1 hP 1 5 rfl rfl (v := nI cap) rfl dj_gi_4 ?_
  refine lv_istore_n (lv' := [(2, .int (nI cap)), (0, .ref aL), (1, .int (nI (cap + 1)))]) hx hb dj_gi_5 rfl hl (by decide) rfl (fun ls hl => ?_)
  refine lv_iload_n hx hb dj_gi_6 rfl (lv_at hl 0 rfl) ?_
  refine lv_if_gt (tgt := 20) hx hb dj_gi_7 (by decide) (fun _ => ?_) (fun q => absurd hpos q)
  refine lv_iload_n hx hb dj_gi_20 rfl (lv_at hl 0 rfl) ?_
  refine lv_iload_n hx hb dj_gi_21 rfl (lv_at hl 2 rfl) ?_
  refine lv_iload_n hx hb dj_gi_22 rfl (lv_at hl 0 rfl) ?_
  refine lv_isub hx hb dj_gi_23 ?_
  refine lv_iload_n hx hb dj_gi_24 rfl (lv_at hl 0 rfl) ?_
  refine lv_iconst (v := 1) hx hb dj_gi_25 (by decide) ?_
  refine lv_ishr hx hb dj_gi_26 ?_
  refine pj_after (va_runS (As := [.int (nI cap), .int (nI (cap + 1) - nI cap), .int (nI cap >>> ((1 : Int32) &&& 31))]) (rest := []) (Ts := pw_g) (own := "java/util/ArrayList") (index := 73) ⟨hx, hb, hml, hown, hts⟩ (jc_nl (pj_len hcap) (by have := nI_lt (a := 0) (b := pj_N cap) (by omega) (by omega); rwa [nI_0] at this) (nI_le (b := 2147483639) (by omega) (by decide))) (va_cwS 3 hts (pw_gi (pw_mc wl_nl_73 (pw_mc ws_nl (pw_mc wn_sup (pw_mc wc_nl (fun w h => h)))))) rfl rfl rfl (by decide +kernel) ⟨by show 2 ≤ 3; decide, by show 43 ≤ 104; decide⟩) ⟨fun a U gf mk h => h, fun U hU hW => ⟨rfl, trivial⟩⟩ rfl rfl hl.1 rfl (Nat.le_of_ble_eq_true rfl) dj_gi_27 ⟨Nat.zero_le _, Nat.zero_le _⟩) ?_
  rintro v st₀ t L hh hA hL ⟨r, hv, rfl, ht⟩
  cases hv
  rw [ht, hh, show L = [] from List.eq_nil_iff_forall_not_mem.mpr fun q hq => hL q hq]
  refine lv_istore_n (lv' := [(3, .int (nI (pj_N cap))), (2, .int (nI cap)), (0, .ref aL), (1, .int (nI (cap + 1)))]) hx hb dj_gi_30 rfl hl (by decide) rfl (fun ls hl => ?_)
  refine lv_aload_n hx hb dj_gi_31 rfl (lv_at hl 2 rfl) ?_
  refine lv_aload_n hx hb dj_gi_32 rfl (lv_at hl 2 rfl) ?_
  refine va_get hx hb hts pw_i9g hown hK.1 hP 0 rfl rfl 1 (by decide) (hts _ wf_9) (fun _ h => h) (v := .ref aB) rfl dj_gi_33 ?_
  refine lv_iload_n hx hb dj_gi_36 rfl (lv_at hl 0 rfl) ?_
  refine pj_after (va_runS (As := [.ref aB, .int (nI (pj_N cap))]) (rest := [.ref aL]) (Ts := pw_g) (own := "java/util/ArrayList") (index := 66) ⟨hx, hb, hml, hown, hts⟩ (jc_c2 hC (Nat.le_of_lt hN1) (by omega) hBA) (va_cwS 2 hts (pw_gi (pw_mc wl_c2_66 (pw_mc ws_c2 (pw_mc wn_arr (pw_mc wc_c2 (fun w h => h)))))) rfl rfl rfl (by decide +kernel) ⟨Nat.le_refl 3, Nat.le_refl 104⟩) ⟨fun a U gf mk h => ⟨h.1, h.2.1, pw_K.go (State.WarmedH.refl U) h.2.2.1 (fun _ _ _ => rfl), h.2.2.2⟩, fun U hU hW => ⟨rfl, by rw [hU]; exact pj_one (hP 1 _ rfl), pj_kgo hW hK hU, by rw [hU]; exact hel.go hW.alike, by rw [hU]; exact hb0⟩⟩ rfl rfl hl.1 rfl (Nat.le_of_ble_eq_true rfl) dj_gi_37 ⟨by show 0 + 0 + 1 ≤ 1; omega, by show 0 + 0 + pj_N cap ≤ pj_N cap; omega⟩) ?_
  rintro v st₀ t L hh hA hL ⟨aN, hv, p1, p2, p3⟩
  cases hv
  rw [hh] at p1 p3
  have hLt : aL < s.heap.size := pj_lt (hP 0 _ rfl)
  refine lv_dup_x1 hx hb dj_gi_40 rfl rfl ?_
  refine pj_put hx hb hts hown hK.1 (pj_kept (hP 0 _ rfl) (p3 aL hLt)) 1 (by decide) "java/util/ArrayList" wf_9 (fun _ h => h) rfl rfl (by show 1 < 3; decide) dj_gi_41 (fun H1 l0 q1 q2 q3 q4 => ?_)
  refine W.widen (k := 1) (n := pj_N cap) (by omega) (by omega) ?_
  exact W.aret hx hb hr (Or.inr ⟨_, rfl⟩) (Or.inr ⟨_, rfl⟩) (fun t' ht _ => ⟨aN, rfl, p1, by rw [ht, q4 aN (by omega)]; exact p2, by rw [ht]; exact q2, fun q h1 h2 => by rw [ht, q4 q h2]; exact p3 q h1⟩) (fun q h => by
    rcases List.mem_append.mp h with h | h
    · exact hL q (by simpa using h)
    · rw [List.mem_singleton] at h
      rw [h, q1]; exact hBL) dj_gi_44 hlocks
set_option maxHeartbeats 2000000 in
theorem jc_gi_e {aL : Nat} {mc : Int32} (hBL : g.2.2.2.1 ≤ aL) :
    Met l yj_gi (Cond.code yj_gi bj_gi 4 (some (.array (.object "java/lang/Object"))) :: pw_g) { frames := 3, cells := 1, slots := 10, locals := 104 } (va_Pc [.ref aL, .int 1] (pj_PE g aL mc)) (fun _ => pj_GP g aL 10 mc 0 (fun _ => none)) 1 10 (pw_A g) := by
  refine Met.ofW (cc := bj_gi) (maxL := 4) (ret := some (.array (.object "java/lang/Object"))) (by decide +kernel) rfl ?_
  intro p e s m args below meth c s₁ B hml hv
  obtain ⟨rfl, hPE⟩ := hv
  have hx := B.exec
  have hb := B.bytes
  have hr := B.returns
  have hlocks := B.notSynchronized
  have hts : ∀ w ∈ pw_g, w.before ([.ref aL, .int 1]).toArray s = true := fun w hw => atoms_spec (ws := Cond.code yj_gi bj_gi 4 (some (.array (.object "java/lang/Object"))) :: pw_g) B.pre w (List.mem_cons_of_mem _ hw)
  have hown : s.vm.findClass "java/util/ArrayList" = some m.cls := findClass_of_methodNamed B.named
  rw [lg_entry_eq]
  have hl := lv_entry ([.ref aL, .int 1]) (n := 4) (Nat.le_of_ble_eq_true rfl)
  generalize (lg_sl ([.ref aL, .int 1]) ++ List.replicate (4 - (lg_sl ([.ref aL, .int 1])).length) Slot.unset).toArray = ls at hl ⊢
  have hl : lv_has ls 4 [(0, .ref aL), (1, .int 1)] := hl
  obtain ⟨hP0, hK, hb0⟩ := id hPE
  have hP := pj_one hP0
  obtain ⟨eC, z1, z2, z3, z4, z5⟩ := hK.2.2.2.2.1
  have hS : va_S (pw_A g) s.heap s.heap [] := va_S.rf
  refine lv_aload_n hx hb dj_gi_0 rfl (lv_at hl 0 rfl) ?_
  refine va_get hx hb hts pw_i9g hown hK.1 hP 0 rfl rfl 1 (by decide) (hts _ wf_9) (fun _ h => h) (v := .ref g.2.2.1) rfl dj_gi_1 ?_
  refine W.alen (n := 0) hx hb z1 z2 (by rw [z5]; rfl) rfl rfl dj_gi_4 ?_
  show W _ _ _ _ _ _ _ _ _ _ _ _ _ _ _ (F0 m 5 ls [.int 0])
  refine lv_istore_n (lv' := [(2, .int 0), (0, .ref aL), (1, .int 1)]) hx hb dj_gi_5 rfl hl (by decide) rfl (fun ls hl => ?_)
  refine lv_iload_n hx hb dj_gi_6 rfl (lv_at hl 0 rfl) ?_
  refine lv_if_gt (tgt := 20) hx hb dj_gi_7 (by decide) (fun q => absurd q (by decide)) (fun _ => ?_)
  refine lv_aload_n hx hb dj_gi_10 rfl (lv_at hl 1 rfl) ?_
  refine va_get hx hb hts pw_i9g hown hK.1 hP 0 rfl rfl 1 (by decide) (hts _ wf_9) (fun _ h => h) (v := .ref g.2.2.1) rfl dj_gi_11 ?_
  refine va_gets hx hb hK.2.2.2.1 hS hown (hts _ wf_39) (fun _ h => h) dj_gi_14 ?_
  refine lv_acmp_eq (rx := some g.2.2.1) (ry := some g.2.2.1) (tgt := 45) hx hb dj_gi_17 (by decide) (fun _ => ?_) (fun q => absurd rfl q)
  refine lv_aload_n hx hb dj_gi_45 rfl (lv_at hl 1 rfl) ?_
  refine lv_bipush (v := 10) hx hb dj_gi_46 (by decide) ?_
  refine lv_iload_n hx hb dj_gi_48 rfl (lv_at hl 2 rfl) ?_
  refine va_mmax hx hb (by rw [hml]; exact hl.1.symm) hown (hts _ wm_max_79) (hts _ wms_max) (hts _ wn_math) (hts _ wmc_max) (by show 1 ≤ 3; decide) (Nat.le_of_ble_eq_true rfl) (Nat.zero_le _) (Nat.zero_le _) dj_gi_49 ?_
  rw [show (if (10 : Int32) < 1 then (1 : Int32) else 10) = 10 from by decide]
  refine W.anew (n := 10) (rest := [Value.ref aL]) hx hb hown (hts _ wcl_7) (va_AO.use hK.2.2.2.2.2.1.2.2) rfl dj_gi_52 rfl (by decide) (by decide) (by show 0 + 1 ≤ 1; decide) (by show 0 + (10 : Int32).toNatClampNeg ≤ 10; decide) fun cA kA comp f1 f2 f3 f4 => ?_
  have hcA : cA = g.2.1 5 := Option.some.inj (f1.symm.trans (pw_Q_ra hK.1 (k := 5) (ty := .object "java/lang/Object") rfl))
  subst hcA
  generalize hH1 : s.heap.push ({ cls := g.2.1 5, slots := Array.replicate (10 : Int32).toNatClampNeg .null, vm := .none } : Cell) = H1
  have e1 : H1[s.heap.size]? = some (vp_cell (g.2.1 5) (10, .inr (.inr (.inr (.inr (fun _ => none)))))) := by
    rw [← hH1, Array.getElem?_push_size, vp_cell_q]
    exact congrArg some (arrV_new _ _ _)
  have o1 : ∀ q : Nat, q < s.heap.size → H1[q]? = s.heap[q]? := fun q hq => by rw [← hH1, Array.getElem?_push, if_neg (Nat.ne_of_lt hq)]
  have hLt : aL < s.heap.size := pj_lt hP0
  refine lv_dup_x1 hx hb dj_gi_55 rfl rfl ?_
  refine pj_put hx hb hts hown hK.1 (pj_kept hP0 (o1 aL hLt)) 1 (by decide) "java/util/ArrayList" wf_9 (fun _ h => h) rfl rfl (by show 1 < 3; decide) dj_gi_56 (fun H2 l0 q1 q2 q3 q4 => ?_)
  refine W.widen (k := 1) (n := 10) (by omega) (by show 0 + (10 : Int32).toNatClampNeg ≤ 10; decide) ?_
  exact W.aret hx hb hr (Or.inr ⟨_, rfl⟩) (Or.inr ⟨_, rfl⟩) (fun t' ht _ => ⟨s.heap.size, rfl, Nat.le_refl _, by rw [ht, q4 _ (by omega)]; exact e1, by rw [ht]; exact q2, fun q h1 h2 => by rw [ht, q4 q h2]; exact o1 q h1⟩) (fun q h => by
    rw [List.nil_append, List.mem_singleton] at h
    rw [h, q1]; exact hBL) dj_gi_59 hlocks
abbrev pj_ob (C : String) (v : Nat) (U : State) (H : Heap) : Prop := ∃ cellV : Cell, H[v]? = some cellV ∧ cellV.vm.isStatics = false ∧ U.vm.findClass C = some cellV.cls
theorem pj_ast {p : Program} {e : Env} {R : Room} {s : State} {m : MethodId} {args : Array Value} {below : List Frame} {meth : Method} {c : Code} {H H0 : Heap} {locs : List Loc} {cells slots pc : Nat} {Q : State → Prop} {ls : Array Slot} {rest : List Value} {cc : ByteArray} {a v n : Nat} {i : Int32} {f : Nat → Option Nat} {C : String}
    (hx : p.tables.exec = Jvm.exec) (hb : c.code = cc) (hK : pw_K g s H0) (hC : Cond.castable C "java/lang/Object" ∈ pw_hw) (hcell : H[a]? = some (vp_cell (g.2.1 5) (n, .inr (.inr (.inr (.inr f)))))) (hv : pj_ob C v s H) (hi : pw_jn i n) (hdg : decode cc pc = .ok (.aastore, 1))
    (kk : ∀ (H1 : Heap) (l0 : Loc), l0.base = a → H1[a]? = some (vp_cell (g.2.1 5) (n, .inr (.inr (.inr (.inr (va_up f (pw_i i) (some v))))))) → H1.size = H.size → (∀ q : Nat, q ≠ a → H1[q]? = H[q]?) → W p l e R s m args below meth c H1 (locs ++ [l0]) cells slots Q (F0 m (pc + 1) ls rest)) : W p l e R s m args below meth c H locs cells slots Q (F0 m pc ls (.ref v :: .int i :: .ref a :: rest)) := by
  obtain ⟨cV, g1, g2, g3⟩ := hv
  obtain ⟨kA, comp, k1, k2, k3, -⟩ := (pw_Kt hK.1 5 rfl).2
  obtain ⟨kC, hkC, -⟩ := Vm.findClass_spec k3
  obtain ⟨kV, hkV, -⟩ := Vm.findClass_spec g3
  have hcell' := hcell
  rw [vp_cell_q] at hcell'
  refine W.aast hx hb hcell' (fun q h => by cases h) (fun h => by cases h) k1 k2 rfl hkC ⟨Int32.not_lt.mpr hi.1, by rw [arrV_size]; exact hi.2⟩ g1 (fun q h => by rw [h] at g2; cases g2) hkV (pj_castO hK hC k3 g3) rfl rfl hdg fun H1 e1 e2 e3 => ?_
  refine kk H1 _ rfl ?_ e2 e3
  rw [e1, arrV_store, vp_cell_q]
  congr 2
  funext q
  show (if q = pw_i i then _ else _) = va_rf (if q = pw_i i then some v else f q)
  by_cases hq : q = pw_i i
  · rw [if_pos hq, if_pos hq]; rfl
  · rw [if_neg hq, if_neg hq]
set_option maxHeartbeats 2000000 in
theorem jc_g0_f {aL aB cap : Nat} {mc : Int32} {f : Nat → Option Nat} {C : String} (hC : Cond.castable C "java/lang/Object" ∈ pw_hw) (hc0 : 0 < cap) (hcap : cap < 1048576) (hBL : g.2.2.2.1 ≤ aL) (hBA : g.2.2.2.1 ≤ aB) (hne : aL ≠ aB) :
    Met l yj_g0 (Cond.code yj_g0 bj_g0 1 (some (.array (.object "java/lang/Object"))) :: pw_g) { frames := 4, cells := 1, slots := (pj_N cap), locals := 127 } (va_Pc [.ref aL] (pj_PF g aL aB cap mc (nI cap) f C)) (fun _ => pj_GP g aL (pj_N cap) mc (nI cap) (pj_gr f cap)) 1 (pj_N cap) (pw_A g) := by
  refine Met.ofW (cc := bj_g0) (maxL := 1) (ret := some (.array (.object "java/lang/Object"))) (by decide +kernel) rfl ?_
  intro p e s m args below meth c s₁ B hml hv
  obtain ⟨rfl, hPF⟩ := hv
  have hx := B.exec
  have hb := B.bytes
  have hr := B.returns
  have hlocks := B.notSynchronized
  have hts : ∀ w ∈ pw_g, w.before ([.ref aL]).toArray s = true := fun w hw => atoms_spec (ws := Cond.code yj_g0 bj_g0 1 (some (.array (.object "java/lang/Object"))) :: pw_g) B.pre w (List.mem_cons_of_mem _ hw)
  have hown : s.vm.findClass "java/util/ArrayList" = some m.cls := findClass_of_methodNamed B.named
  rw [lg_entry_eq]
  have hl := lv_entry ([.ref aL]) (n := 1) (Nat.le_of_ble_eq_true rfl)
  generalize (lg_sl ([.ref aL]) ++ List.replicate (1 - (lg_sl ([.ref aL])).length) Slot.unset).toArray = ls at hl ⊢
  have hl : lv_has ls 1 [(0, .ref aL)] := hl
  obtain ⟨hP, hK, hel, hb0⟩ := id hPF
  refine lv_aload_n hx hb dj_g0_0 rfl (lv_at hl 0 rfl) ?_
  refine lv_aload_n hx hb dj_g0_1 rfl (lv_at hl 0 rfl) ?_
  refine va_get hx hb hts pw_i9g hown hK.1 hP 0 rfl rfl 2 (by decide) (hts _ wf_48) (fun _ h => h) (v := .int (nI cap)) rfl dj_g0_2 ?_
  refine lv_iconst (v := 1) hx hb dj_g0_5 (by decide) ?_
  refine lv_iadd hx hb dj_g0_6 ?_
  rw [show (nI cap) + 1 = nI (cap + 1) from nI_1 cap]
  refine pj_after (va_runV (As := [.int (nI (cap + 1))]) (rest := []) (Ts := pw_g) (own := "java/util/ArrayList") (index := 69) (C := "java/util/ArrayList") ⟨hx, hb, hml, hown, hts⟩ (jc_gi_f hC hc0 hcap hBL hBA hne) (cwV 1 hts (pw_gi (pw_mc wl_gi_69 (pw_mc wi_gi (pw_mc wv_gi (pw_mc wn_al (pw_mc wc_gi (fun w h => h))))))) rfl rfl rfl (by decide +kernel) ⟨Nat.le_refl 4, Nat.le_refl 127⟩) ⟨fun a U gf mk h => ⟨h.1, h.2.calling⟩, va_recv hK.1 hP (ci := 9) (q0 := 0) rfl rfl, fun U hU hW => ⟨rfl, hPF.go hW hU⟩⟩ rfl rfl hl.1 rfl (Nat.le_of_ble_eq_true rfl) dj_g0_7 ⟨Nat.le_of_eq (Nat.zero_add _), Nat.le_of_eq (Nat.zero_add _)⟩) ?_
  rintro v st₀ t L hh hA hL ⟨aN, hv, p1, p2, p3, p4⟩
  cases hv
  rw [hh] at p1 p4
  refine W.widen (k := 1) (n := (pj_N cap)) (by omega) (by omega) ?_
  exact W.aret hx hb hr (Or.inr ⟨_, rfl⟩) (Or.inr ⟨_, rfl⟩) (fun t' ht _ => ⟨aN, rfl, p1, by rw [ht]; exact p2, by rw [ht]; exact p3, by rw [ht]; exact p4⟩) hL dj_g0_10 hlocks
set_option maxHeartbeats 2000000 in
theorem jc_g0_e {aL : Nat} {mc : Int32} (hBL : g.2.2.2.1 ≤ aL) :
    Met l yj_g0 (Cond.code yj_g0 bj_g0 1 (some (.array (.object "java/lang/Object"))) :: pw_g) { frames := 4, cells := 1, slots := 10, locals := 127 } (va_Pc [.ref aL] (pj_PE g aL mc)) (fun _ => pj_GP g aL 10 mc 0 (fun _ => none)) 1 10 (pw_A g) := by
  refine Met.ofW (cc := bj_g0) (maxL := 1) (ret := some (.array (.object "java/lang/Object"))) (by decide +kernel) rfl ?_
  intro p e s m args below meth c s₁ B hml hv
  obtain ⟨rfl, hPF⟩ := hv
  have hx := B.exec
  have hb := B.bytes
  have hr := B.returns
  have hlocks := B.notSynchronized
  have hts : ∀ w ∈ pw_g, w.before ([.ref aL]).toArray s = true := fun w hw => atoms_spec (ws := Cond.code yj_g0 bj_g0 1 (some (.array (.object "java/lang/Object"))) :: pw_g) B.pre w (List.mem_cons_of_mem _ hw)
  have hown : s.vm.findClass "java/util/ArrayList" = some m.cls := findClass_of_methodNamed B.named
  rw [lg_entry_eq]
  have hl := lv_entry ([.ref aL]) (n := 1) (Nat.le_of_ble_eq_true rfl)
  generalize (lg_sl ([.ref aL]) ++ List.replicate (1 - (lg_sl ([.ref aL])).length) Slot.unset).toArray = ls at hl ⊢
  have hl : lv_has ls 1 [(0, .ref aL)] := hl
  obtain ⟨hP0, hK, hb0⟩ := id hPF
  have hP := pj_one hP0
  refine lv_aload_n hx hb dj_g0_0 rfl (lv_at hl 0 rfl) ?_
  refine lv_aload_n hx hb dj_g0_1 rfl (lv_at hl 0 rfl) ?_
  refine va_get hx hb hts pw_i9g hown hK.1 hP 0 rfl rfl 2 (by decide) (hts _ wf_48) (fun _ h => h) (v := .int 0) rfl dj_g0_2 ?_
  refine lv_iconst (v := 1) hx hb dj_g0_5 (by decide) ?_
  refine lv_iadd hx hb dj_g0_6 ?_
  rw [show 0 + 1 = 1 from by decide]
  refine pj_after (va_runV (As := [.int (1)]) (rest := []) (Ts := pw_g) (own := "java/util/ArrayList") (index := 69) (C := "java/util/ArrayList") ⟨hx, hb, hml, hown, hts⟩ (jc_gi_e hBL) (cwV 1 hts (pw_gi (pw_mc wl_gi_69 (pw_mc wi_gi (pw_mc wv_gi (pw_mc wn_al (pw_mc wc_gi (fun w h => h))))))) rfl rfl rfl (by decide +kernel) ⟨Nat.le_refl 4, Nat.le_refl 127⟩) ⟨fun a U gf mk h => ⟨h.1, h.2.calling⟩, va_recv hK.1 hP (ci := 9) (q0 := 0) rfl rfl, fun U hU hW => ⟨rfl, hPF.go hW hU⟩⟩ rfl rfl hl.1 rfl (Nat.le_of_ble_eq_true rfl) dj_g0_7 ⟨Nat.le_of_eq (Nat.zero_add _), Nat.le_of_eq (Nat.zero_add _)⟩) ?_
  rintro v st₀ t L hh hA hL ⟨aN, hv, p1, p2, p3, p4⟩
  cases hv
  rw [hh] at p1 p4
  refine W.widen (k := 1) (n := 10) (by omega) (by omega) ?_
  exact W.aret hx hb hr (Or.inr ⟨_, rfl⟩) (Or.inr ⟨_, rfl⟩) (fun t' ht _ => ⟨aN, rfl, p1, by rw [ht]; exact p2, by rw [ht]; exact p3, by rw [ht]; exact p4⟩) hL dj_g0_10 hlocks
set_option maxHeartbeats 2000000 in
theorem jc_a3_r {aL aB cap n v : Nat} {mc : Int32} {f : Nat → Option Nat} {C : String} (hC : Cond.castable C "java/lang/Object" ∈ pw_hw) (hn : n < cap) (hcap : cap < 1048576) (hBL : g.2.2.2.1 ≤ aL) (hBA : g.2.2.2.1 ≤ aB) (hne : aL ≠ aB) :
    Met l yj_a3 (Cond.code yj_a3 bj_a3 4 none :: pw_g) { frames := 0, cells := 0, slots := 0, locals := 0 } (va_Pc [.ref aL, .ref v, .ref aB, .int (nI n)] (fun U => pj_PF g aL aB cap mc (nI n) f C U ∧ pj_ob C v U U.heap))
    (fun _ st o t => o = .returned none ∧ t.heap[aB]? = some (vp_cell (g.2.1 5) (cap, .inr (.inr (.inr (.inr (va_up f n (some v))))))) ∧ va_at g.1 pw_cl (aL, .inr (9, [.int mc, .ref aB, .int (nI (n + 1))])) t.heap ∧ ∀ q : Nat, q < st.heap.size → q ≠ aL → q ≠ aB → t.heap[q]? = st.heap[q]?) 0 0 (pw_A g) := by
  refine Met.ofW (cc := bj_a3) (maxL := 4) (ret := none) (by decide +kernel) rfl ?_
  intro p e s m args below meth c s₁ B hml hv
  obtain ⟨rfl, hPF, hob⟩ := hv
  have hx := B.exec
  have hb := B.bytes
  have hr := B.returns
  have hlocks := B.notSynchronized
  have hts : ∀ w ∈ pw_g, w.before ([.ref aL, .ref v, .ref aB, .int (nI n)]).toArray s = true := fun w hw => atoms_spec (ws := Cond.code yj_a3 bj_a3 4 (none) :: pw_g) B.pre w (List.mem_cons_of_mem _ hw)
  have hown : s.vm.findClass "java/util/ArrayList" = some m.cls := findClass_of_methodNamed B.named
  rw [lg_entry_eq]
  have hl := lv_entry ([.ref aL, .ref v, .ref aB, .int (nI n)]) (n := 4) (Nat.le_of_ble_eq_true rfl)
  generalize (lg_sl ([.ref aL, .ref v, .ref aB, .int (nI n)]) ++ List.replicate (4 - (lg_sl ([.ref aL, .ref v, .ref aB, .int (nI n)])).length) Slot.unset).toArray = ls at hl ⊢
  have hl : lv_has ls 4 [(0, .ref aL), (1, .ref v), (2, .ref aB), (3, .int (nI n))] := hl
  obtain ⟨hP, hK, hel, hb0⟩ := id hPF
  have ei : pw_i (nI n) = n := nI_clamp (by omega)
  refine lv_iload_n hx hb dj_a3_0 rfl (lv_at hl 3 rfl) ?_
  refine lv_aload_n hx hb dj_a3_1 rfl (lv_at hl 2 rfl) ?_
  refine va_alen hx hb hK.1 hP 1 5 rfl rfl (v := nI cap) rfl dj_a3_2 ?_
  refine lv_icmp_ne (tgt := 11) hx hb dj_a3_3 (by decide) (fun _ => ?_) (fun q => absurd ((nI_eq (by omega) (by omega)).mp q) (by omega))
  refine lv_aload_n hx hb dj_a3_11 rfl (lv_at hl 2 rfl) ?_
  refine lv_iload_n hx hb dj_a3_12 rfl (lv_at hl 3 rfl) ?_
  refine lv_aload_n hx hb dj_a3_13 rfl (lv_at hl 1 rfl) ?_
  refine pj_ast hx hb hK hC (hP 1 _ rfl) hob ⟨nI_pos' (by omega), by rw [ei]; exact hn⟩ dj_a3_14 (fun H1 l1 r1 r2 r3 r4 => ?_)
  rw [ei] at r2
  refine lv_aload_n hx hb dj_a3_15 rfl (lv_at hl 0 rfl) ?_
  refine lv_iload_n hx hb dj_a3_16 rfl (lv_at hl 3 rfl) ?_
  refine lv_iconst (v := 1) hx hb dj_a3_17 (by decide) ?_
  refine lv_iadd hx hb dj_a3_18 ?_
  rw [nI_1]
  refine pj_put hx hb hts hown hK.1 (pj_kept (hP 0 _ rfl) (r4 aL hne)) 2 (by decide) "java/util/ArrayList" wf_48 (fun _ h => h) rfl rfl (by show 2 < 3; decide) dj_a3_19 (fun H2 l0 q1 q2 q3 q4 => ?_)
  exact W.vret hx hb hr (fun t' ht _ => ⟨rfl, by rw [ht, q4 aB (Ne.symm hne)]; exact r2, by rw [ht]; exact q2, fun q h1 h2 h3 => by rw [ht, q4 q h2, r4 q h3]⟩) (fun q h => by
    rcases List.mem_append.mp h with h | h
    · rw [List.nil_append, List.mem_singleton] at h
      rw [h, r1]; exact hBA
    · rw [List.mem_singleton] at h
      rw [h, q1]; exact hBL) dj_a3_22 hlocks
set_option maxHeartbeats 2000000 in
theorem jc_a3_f {aL aB cap v : Nat} {mc : Int32} {f : Nat → Option Nat} {C : String} (hC : Cond.castable C "java/lang/Object" ∈ pw_hw) (hc0 : 0 < cap) (hcap : cap < 1048576) (hBL : g.2.2.2.1 ≤ aL) (hBA : g.2.2.2.1 ≤ aB) (hne : aL ≠ aB) (hvL : v ≠ aL) :
    Met l yj_a3 (Cond.code yj_a3 bj_a3 4 none :: pw_g) { frames := 5, cells := 1, slots := (pj_N cap), locals := 147 } (va_Pc [.ref aL, .ref v, .ref aB, .int (nI cap)] (fun U => pj_PF g aL aB cap mc (nI cap) f C U ∧ pj_ob C v U U.heap))
    (fun _ st o t => ∃ aN : Nat, o = .returned none ∧ st.heap.size ≤ aN ∧ t.heap[aN]? = some (vp_cell (g.2.1 5) ((pj_N cap), .inr (.inr (.inr (.inr (va_up (pj_gr f cap) cap (some v))))))) ∧ va_at g.1 pw_cl (aL, .inr (9, [.int mc, .ref aN, .int (nI (cap + 1))])) t.heap ∧ ∀ q : Nat, q < st.heap.size → q ≠ aL → t.heap[q]? = st.heap[q]?) 1 (pj_N cap) (pw_A g) := by
  refine Met.ofW (cc := bj_a3) (maxL := 4) (ret := none) (by decide +kernel) rfl ?_
  intro p e s m args below meth c s₁ B hml hv
  obtain ⟨rfl, hPF, hob⟩ := hv
  have hx := B.exec
  have hb := B.bytes
  have hr := B.returns
  have hlocks := B.notSynchronized
  have hts : ∀ w ∈ pw_g, w.before ([.ref aL, .ref v, .ref aB, .int (nI cap)]).toArray s = true := fun w hw => atoms_spec (ws := Cond.code yj_a3 bj_a3 4 (none) :: pw_g) B.pre w (List.mem_cons_of_mem _ hw)
  have hown : s.vm.findClass "java/util/ArrayList" = some m.cls := findClass_of_methodNamed B.named
  rw [lg_entry_eq]
  have hl := lv_entry ([.ref aL, .ref v, .ref aB, .int (nI cap)]) (n := 4) (Nat.le_of_ble_eq_true rfl)
  generalize (lg_sl ([.ref aL, .ref v, .ref aB, .int (nI cap)]) ++ List.replicate (4 - (lg_sl ([.ref aL, .ref v, .ref aB, .int (nI cap)])).length) Slot.unset).toArray = ls at hl ⊢
  have hl : lv_has ls 4 [(0, .ref aL), (1, .ref v), (2, .ref aB), (3, .int (nI cap))] := hl
  obtain ⟨hP, hK, hel, hb0⟩ := id hPF
  refine lv_iload_n hx hb dj_a3_0 rfl (lv_at hl 3 rfl) ?_
  refine lv_aload_n hx hb dj_a3_1 rfl (lv_at hl 2 rfl) ?_
  refine va_alen hx hb hK.1 hP 1 5 rfl rfl (v := nI cap) rfl dj_a3_2 ?_
  refine lv_icmp_ne (tgt := 11) hx hb dj_a3_3 (by decide) (fun q => absurd rfl q) (fun _ => ?_)
  refine lv_aload_n hx hb dj_a3_6 rfl (lv_at hl 0 rfl) ?_
  refine pj_after (va_runV (As := []) (rest := []) (Ts := pw_g) (own := "java/util/ArrayList") (index := 129) (C := "java/util/ArrayList") ⟨hx, hb, hml, hown, hts⟩ (jc_g0_f hC hc0 hcap hBL hBA hne) (cwV 0 hts (pw_gi (pw_mc wl_g0_129 (pw_mc wi_g0 (pw_mc wv_g0 (pw_mc wn_al (pw_mc wc_g0 (fun w h => h))))))) rfl rfl rfl (by decide +kernel) ⟨Nat.le_refl 5, Nat.le_refl 147⟩) ⟨fun a U gf mk h => ⟨h.1, h.2.calling⟩, va_recv hK.1 hP (ci := 9) (q0 := 0) rfl rfl, fun U hU hW => ⟨rfl, hPF.go hW hU⟩⟩ rfl rfl hl.1 rfl (Nat.le_of_ble_eq_true rfl) dj_a3_7 ⟨Nat.le_of_eq (Nat.zero_add _), Nat.le_of_eq (Nat.zero_add _)⟩) ?_
  rintro v9 st₀ t L hh hA hL ⟨aN, hv, p1, p2, p3, p4⟩
  cases hv
  rw [hh] at p1 p4
  have ei : pw_i (nI cap) = cap := nI_clamp (by omega)
  obtain ⟨cV, o1, o2, o3⟩ := hob
  have hob1 : pj_ob C v s t.heap := ⟨cV, by rw [p4 v (Array.getElem?_eq_some_iff.mp o1).1 hvL]; exact o1, o2, o3⟩
  have haLN : aL ≠ aN := fun z => by
    have := pj_lt (hP 0 _ rfl)
    have h2 : aL < s.heap.size := this
    omega
  refine lv_astore_n (lv' := [(2, .ref aN), (0, .ref aL), (1, .ref v), (3, .int (nI cap))]) hx hb dj_a3_10 rfl hl (by decide) rfl (fun ls hl => ?_)
  refine lv_aload_n hx hb dj_a3_11 rfl (lv_at hl 0 rfl) ?_
  refine lv_iload_n hx hb dj_a3_12 rfl (lv_at hl 3 rfl) ?_
  refine lv_aload_n hx hb dj_a3_13 rfl (lv_at hl 2 rfl) ?_
  refine pj_ast (i := nI cap) hx hb hK hC p2 hob1 ⟨nI_pos' (by omega), by rw [ei]; exact (pj_Nge cap).1⟩ dj_a3_14 (fun H1 l1 r1 r2 r3 r4 => ?_)
  rw [ei] at r2
  refine lv_aload_n hx hb dj_a3_15 rfl (lv_at hl 1 rfl) ?_
  refine lv_iload_n hx hb dj_a3_16 rfl (lv_at hl 3 rfl) ?_
  refine lv_iconst (v := 1) hx hb dj_a3_17 (by decide) ?_
  refine lv_iadd hx hb dj_a3_18 ?_
  rw [show (nI cap) + 1 = nI (cap + 1) from nI_1 cap]
  refine pj_put hx hb hts hown hK.1 (pj_kept p3 (r4 aL haLN)) 2 (by decide) "java/util/ArrayList" wf_48 (fun _ h => h) rfl rfl (by show 2 < 3; decide) dj_a3_19 (fun H2 l0 q1 q2 q3 q4 => ?_)
  refine W.widen (k := 1) (n := (pj_N cap)) (by omega) (by omega) ?_
  exact W.vret hx hb hr (fun t' ht _ => ⟨aN, rfl, p1, by rw [ht, q4 aN (Ne.symm haLN)]; exact r2, by rw [ht]; exact q2, fun q h1 h2 => by rw [ht, q4 q h2, r4 q (by omega)]; exact p4 q h1 h2⟩) (fun q h => by
    rcases List.mem_append.mp h with h | h
    · rcases List.mem_append.mp h with h | h
      · exact hL q (by simpa using h)
      · rw [List.mem_singleton] at h
        rw [h, r1]; exact Nat.le_trans hb0 p1
    · rw [List.mem_singleton] at h
      rw [h, q1]; exact hBL) dj_a3_22 hlocks
set_option maxHeartbeats 2000000 in
theorem jc_a3_e {aL v : Nat} {mc : Int32} {C : String} (hC : Cond.castable C "java/lang/Object" ∈ pw_hw) (hBL : g.2.2.2.1 ≤ aL) (hvL : v ≠ aL) :
    Met l yj_a3 (Cond.code yj_a3 bj_a3 4 none :: pw_g) { frames := 5, cells := 1, slots := 10, locals := 147 } (va_Pc [.ref aL, .ref v, .ref g.2.2.1, .int 0] (fun U => pj_PE g aL mc U ∧ pj_ob C v U U.heap))
    (fun _ st o t => ∃ aN : Nat, o = .returned none ∧ st.heap.size ≤ aN ∧ t.heap[aN]? = some (vp_cell (g.2.1 5) (10, .inr (.inr (.inr (.inr (va_up (fun _ => none) 0 (some v))))))) ∧ va_at g.1 pw_cl (aL, .inr (9, [.int mc, .ref aN, .int (nI (0 + 1))])) t.heap ∧ ∀ q : Nat, q < st.heap.size → q ≠ aL → t.heap[q]? = st.heap[q]?) 1 10 (pw_A g) := by
  refine Met.ofW (cc := bj_a3) (maxL := 4) (ret := none) (by decide +kernel) rfl ?_
  intro p e s m args below meth c s₁ B hml hv
  obtain ⟨rfl, hPF, hob⟩ := hv
  have hx := B.exec
  have hb := B.bytes
  have hr := B.returns
  have hlocks := B.notSynchronized
  have hts : ∀ w ∈ pw_g, w.before ([.ref aL, .ref v, .ref g.2.2.1, .int 0]).toArray s = true := fun w hw => atoms_spec (ws := Cond.code yj_a3 bj_a3 4 (none) :: pw_g) B.pre w (List.mem_cons_of_mem _ hw)
  have hown : s.vm.findClass "java/util/ArrayList" = some m.cls := findClass_of_methodNamed B.named
  rw [lg_entry_eq]
  have hl := lv_entry ([.ref aL, .ref v, .ref g.2.2.1, .int 0]) (n := 4) (Nat.le_of_ble_eq_true rfl)
  generalize (lg_sl ([.ref aL, .ref v, .ref g.2.2.1, .int 0]) ++ List.replicate (4 - (lg_sl ([.ref aL, .ref v, .ref g.2.2.1, .int 0])).length) Slot.unset).toArray = ls at hl ⊢
  have hl : lv_has ls 4 [(0, .ref aL), (1, .ref v), (2, .ref g.2.2.1), (3, .int 0)] := hl
  obtain ⟨hP0, hK, hb0⟩ := id hPF
  have hP := pj_one hP0
  obtain ⟨eC, z1, z2, z3, z4, z5⟩ := hK.2.2.2.2.1
  refine lv_iload_n hx hb dj_a3_0 rfl (lv_at hl 3 rfl) ?_
  refine lv_aload_n hx hb dj_a3_1 rfl (lv_at hl 2 rfl) ?_
  refine W.alen (n := 0) hx hb z1 z2 (by rw [z5]; rfl) rfl rfl dj_a3_2 ?_
  show W _ _ _ _ _ _ _ _ _ _ _ _ _ _ _ (F0 m 3 ls [.int 0, .int 0])
  refine lv_icmp_ne (tgt := 11) hx hb dj_a3_3 (by decide) (fun q => absurd rfl q) (fun _ => ?_)
  refine lv_aload_n hx hb dj_a3_6 rfl (lv_at hl 0 rfl) ?_
  refine pj_after (va_runV (As := []) (rest := []) (Ts := pw_g) (own := "java/util/ArrayList") (index := 129) (C := "java/util/ArrayList") ⟨hx, hb, hml, hown, hts⟩ (jc_g0_e hBL) (cwV 0 hts (pw_gi (pw_mc wl_g0_129 (pw_mc wi_g0 (pw_mc wv_g0 (pw_mc wn_al (pw_mc wc_g0 (fun w h => h))))))) rfl rfl rfl (by decide +kernel) ⟨Nat.le_refl 5, Nat.le_refl 147⟩) ⟨fun a U gf mk h => ⟨h.1, h.2.calling⟩, va_recv hK.1 hP (ci := 9) (q0 := 0) rfl rfl, fun U hU hW => ⟨rfl, hPF.go hW hU⟩⟩ rfl rfl hl.1 rfl (Nat.le_of_ble_eq_true rfl) dj_a3_7 ⟨Nat.le_of_eq (Nat.zero_add _), Nat.le_of_eq (Nat.zero_add _)⟩) ?_
  rintro v9 st₀ t L hh hA hL ⟨aN, hv, p1, p2, p3, p4⟩
  cases hv
  rw [hh] at p1 p4
  have ei : pw_i (nI 0) = 0 := nI_clamp (by omega)
  obtain ⟨cV, o1, o2, o3⟩ := hob
  have hob1 : pj_ob C v s t.heap := ⟨cV, by rw [p4 v (Array.getElem?_eq_some_iff.mp o1).1 hvL]; exact o1, o2, o3⟩
  have haLN : aL ≠ aN := fun z => by
    have := pj_lt (hP 0 _ rfl)
    have h2 : aL < s.heap.size := this
    omega
  refine lv_astore_n (lv' := [(2, .ref aN), (0, .ref aL), (1, .ref v), (3, .int 0)]) hx hb dj_a3_10 rfl hl (by decide) rfl (fun ls hl => ?_)
  refine lv_aload_n hx hb dj_a3_11 rfl (lv_at hl 0 rfl) ?_
  refine lv_iload_n hx hb dj_a3_12 rfl (lv_at hl 3 rfl) ?_
  refine lv_aload_n hx hb dj_a3_13 rfl (lv_at hl 2 rfl) ?_
  refine pj_ast (i := nI 0) hx hb hK hC p2 hob1 ⟨nI_pos' (by omega), by rw [ei]; decide⟩ dj_a3_14 (fun H1 l1 r1 r2 r3 r4 => ?_)
  rw [ei] at r2
  refine lv_aload_n hx hb dj_a3_15 rfl (lv_at hl 1 rfl) ?_
  refine lv_iload_n hx hb dj_a3_16 rfl (lv_at hl 3 rfl) ?_
  refine lv_iconst (v := 1) hx hb dj_a3_17 (by decide) ?_
  refine lv_iadd hx hb dj_a3_18 ?_
  rw [show 0 + 1 = nI (0 + 1) from by decide]
  refine pj_put hx hb hts hown hK.1 (pj_kept p3 (r4 aL haLN)) 2 (by decide) "java/util/ArrayList" wf_48 (fun _ h => h) rfl rfl (by show 2 < 3; decide) dj_a3_19 (fun H2 l0 q1 q2 q3 q4 => ?_)
  refine W.widen (k := 1) (n := 10) (by omega) (by omega) ?_
  exact W.vret hx hb hr (fun t' ht _ => ⟨aN, rfl, p1, by rw [ht, q4 aN (Ne.symm haLN)]; exact r2, by rw [ht]; exact q2, fun q h1 h2 => by rw [ht, q4 q h2, r4 q (by omega)]; exact p4 q h1 h2⟩) (fun q h => by
    rcases List.mem_append.mp h with h | h
    · rcases List.mem_append.mp h with h | h
      · exact hL q (by simpa using h)
      · rw [List.mem_singleton] at h
        rw [h, r1]; exact Nat.le_trans hb0 p1
    · rw [List.mem_singleton] at h
      rw [h, q1]; exact hBL) dj_a3_22 hlocks
theorem wsf : Cond.sameField "java/util/ArrayList" "java/util/AbstractList" "modCount" "I" ∈ pw_g := pw_wd pw_tb1 54 (by decide +kernel) (by decide +kernel)
theorem pj_el.put {C : String} {f : Nat → Option Nat} {cap aL : Nat} {s : State} {H H1 : Heap} (h : pj_el C f cap s H) (hq : ∀ q : Nat, q ≠ aL → H1[q]? = H[q]?) (hf : ∀ i, i < cap → f i ≠ some aL) : pj_el C f cap s H1 := fun i hi y hy => by
  obtain ⟨cV, h1, h2, h3⟩ := h i hi y hy
  exact ⟨cV, by rw [hq y (fun e => hf i hi (by rw [hy, e]))]; exact h1, h2, h3⟩
theorem pw_P2j {D : va_G} {cl : List vw_C} {q q2 : Nat × va_E} {H : Heap} (h : va_at D cl q H) (h2 : va_at D cl q2 H) : va_P D cl [q, q2] H := fun k r hr => by
  have hz : k < 2 := (List.getElem?_eq_some_iff.mp hr).1
  have : k = 0 ∨ k = 1 := by omega
  rcases this with rfl | rfl <;> cases hr
  · exact h
  · exact h2
set_option maxHeartbeats 2000000 in
theorem jc_add_r {aL aB cap n v : Nat} {mc : Int32} {f : Nat → Option Nat} {C : String} (hC : Cond.castable C "java/lang/Object" ∈ pw_hw) (hn : n < cap) (hcap : cap < 1048576) (hBL : g.2.2.2.1 ≤ aL) (hBA : g.2.2.2.1 ≤ aB) (hne : aL ≠ aB) (hvL : v ≠ aL) (hfL : ∀ i, i < cap → f i ≠ some aL) :
    Met l yj_add (Cond.code yj_add bj_add 2 (some .boolean) :: pw_g) { frames := 1, cells := 0, slots := 0, locals := 23 } (va_Pc [.ref aL, .ref v] (fun U => pj_PF g aL aB cap mc (nI n) f C U ∧ pj_ob C v U U.heap))
    (fun _ st o t => o = .returned (some (.int 1)) ∧ t.heap[aB]? = some (vp_cell (g.2.1 5) (cap, .inr (.inr (.inr (.inr (va_up f n (some v))))))) ∧ va_at g.1 pw_cl (aL, .inr (9, [.int (mc + 1), .ref aB, .int (nI (n + 1))])) t.heap ∧ ∀ q : Nat, q < st.heap.size → q ≠ aL → q ≠ aB → t.heap[q]? = st.heap[q]?) 0 0 (pw_A g) := by
  refine Met.ofW (cc := bj_add) (maxL := 2) (ret := some .boolean) (by decide +kernel) rfl ?_
  intro p e s m args below meth c s₁ B hml hv
  obtain ⟨rfl, hPF, hob⟩ := hv
  have hx := B.exec
  have hb := B.bytes
  have hr := B.returns
  have hlocks := B.notSynchronized
  have hts : ∀ w ∈ pw_g, w.before ([.ref aL, .ref v]).toArray s = true := fun w hw => atoms_spec (ws := Cond.code yj_add bj_add 2 (some .boolean) :: pw_g) B.pre w (List.mem_cons_of_mem _ hw)
  have hown : s.vm.findClass "java/util/ArrayList" = some m.cls := findClass_of_methodNamed B.named
  rw [lg_entry_eq]
  have hl := lv_entry ([.ref aL, .ref v]) (n := 2) (Nat.le_of_ble_eq_true rfl)
  generalize (lg_sl ([.ref aL, .ref v]) ++ List.replicate (2 - (lg_sl ([.ref aL, .ref v])).length) Slot.unset).toArray = ls at hl ⊢
  have hl : lv_has ls 2 [(0, .ref aL), (1, .ref v)] := hl
  obtain ⟨hP, hK, hel, hb0⟩ := id hPF
  refine lv_aload_n hx hb dj_add_0 rfl (lv_at hl 0 rfl) ?_
  refine lv_dup hx hb dj_add_1 rfl ?_
  refine va_get hx hb hts pw_i9g hown hK.1 hP 0 rfl rfl 0 (by decide) (hts _ wf_63) (u_same (hts _ wsf)) (v := .int mc) rfl dj_add_2 ?_
  refine lv_iconst (v := 1) hx hb dj_add_5 (by decide) ?_
  refine lv_iadd hx hb dj_add_6 ?_
  refine pj_put hx hb hts hown hK.1 (hP 0 _ rfl) 0 (by decide) "java/util/ArrayList" wf_63 (u_same (hts _ wsf)) rfl rfl (by show 0 < 3; decide) dj_add_7 (fun H1 l0 q1 q2 q3 q4 => ?_)
  refine lv_aload_n hx hb dj_add_10 rfl (lv_at hl 0 rfl) ?_
  refine lv_aload_n hx hb dj_add_11 rfl (lv_at hl 1 rfl) ?_
  refine lv_aload_n hx hb dj_add_12 rfl (lv_at hl 0 rfl) ?_
  refine va_get hx hb hts pw_i9g hown hK.1 (pj_one q2) 0 rfl rfl 1 (by decide) (hts _ wf_9) (fun _ h => h) (v := .ref aB) rfl dj_add_13 ?_
  refine lv_aload_n hx hb dj_add_16 rfl (lv_at hl 0 rfl) ?_
  refine va_get hx hb hts pw_i9g hown hK.1 (pj_one q2) 0 rfl rfl 2 (by decide) (hts _ wf_48) (fun _ h => h) (v := .int (nI n)) rfl dj_add_17 ?_
  have hob1 : ∀ U : State, U.heap = H1 → s.WarmedH U.vm → pj_ob C v U U.heap := fun U hU hW => by
    obtain ⟨cV, o1, o2, o3⟩ := hob
    exact ⟨cV, by rw [hU, q4 v hvL]; exact o1, o2, by rw [hW.alike.findClass]; exact o3⟩
  refine pj_after (va_runV (As := [.ref v, .ref aB, .int (nI n)]) (rest := []) (Ts := pw_g) (own := "java/util/ArrayList") (index := 131) (C := "java/util/ArrayList") ⟨hx, hb, hml, hown, hts⟩ (jc_a3_r hC hn hcap hBL hBA hne) (cwV 3 hts (pw_gi (pw_mc wl_a3_131 (pw_mc wi_a3 (pw_mc wv_a3 (pw_mc wn_al (pw_mc wc_a3 (fun w h => h))))))) rfl rfl rfl (by decide +kernel) ⟨Nat.le_refl 1, Nat.le_refl 23⟩) ⟨fun a U gf mk h => ⟨h.1, h.2.1.calling, h.2.2⟩, va_recv hK.1 (pj_one q2) (ci := 9) (q0 := 0) rfl rfl, fun U hU hW => ⟨rfl, ⟨⟨by rw [hU]; exact pw_P2j q2 (pj_kept (hP 1 _ rfl) (q4 aB (Ne.symm hne))), by rw [hU]; exact pw_K.go hW hK (fun a h1 h2 => q4 a (fun e => h2 (by rw [e]; exact hBL))), by rw [hU]; exact (hel.put q4 hfL).go hW.alike, by rw [hU, q3]; exact hb0⟩, hob1 U hU hW⟩⟩⟩ rfl rfl hl.1 rfl (Nat.le_of_ble_eq_true rfl) dj_add_20 ⟨Nat.le_of_eq (Nat.zero_add _), Nat.le_of_eq (Nat.zero_add _)⟩) ?_
  rintro v9 st₀ t L hh hA hL ⟨hv, p2, p3, p4⟩
  cases hv
  have hfree : ∀ q ∈ ([] ++ [l0]) ++ L, pw_A g q.base := fun q h => by
    rcases List.mem_append.mp h with h | h
    · rw [List.nil_append, List.mem_singleton] at h
      rw [h, q1]; exact hBL
    · exact hL q h
  rw [hh, q3] at p4
  refine lv_iconst (v := 1) hx hb dj_add_23 (by decide) ?_
  exact W.zret hx hb hr rfl (fun t' ht _ => ⟨rfl, by rw [ht]; exact p2, by rw [ht]; exact p3, fun q h1 h2 h3 => by rw [ht, p4 q h1 h2 h3, q4 q h2]⟩) hfree dj_add_24 hlocks
set_option maxHeartbeats 2000000 in
theorem jc_add_f {aL aB cap v : Nat} {mc : Int32} {f : Nat → Option Nat} {C : String} (hC : Cond.castable C "java/lang/Object" ∈ pw_hw) (hc0 : 0 < cap) (hcap : cap < 1048576) (hBL : g.2.2.2.1 ≤ aL) (hBA : g.2.2.2.1 ≤ aB) (hne : aL ≠ aB) (hvL : v ≠ aL) (hfL : ∀ i, i < cap → f i ≠ some aL) :
    Met l yj_add (Cond.code yj_add bj_add 2 (some .boolean) :: pw_g) { frames := 6, cells := 1, slots := (pj_N cap), locals := 170 } (va_Pc [.ref aL, .ref v] (fun U => pj_PF g aL aB cap mc (nI cap) f C U ∧ pj_ob C v U U.heap))
    (fun _ st o t => ∃ aN : Nat, o = .returned (some (.int 1)) ∧ st.heap.size ≤ aN ∧ t.heap[aN]? = some (vp_cell (g.2.1 5) (pj_N cap, .inr (.inr (.inr (.inr (va_up (pj_gr f cap) cap (some v))))))) ∧ va_at g.1 pw_cl (aL, .inr (9, [.int (mc + 1), .ref aN, .int (nI (cap + 1))])) t.heap ∧ ∀ q : Nat, q < st.heap.size → q ≠ aL → t.heap[q]? = st.heap[q]?) 1 (pj_N cap) (pw_A g) := by
  refine Met.ofW (cc := bj_add) (maxL := 2) (ret := some .boolean) (by decide +kernel) rfl ?_
  intro p e s m args below meth c s₁ B hml hv
  obtain ⟨rfl, hPF, hob⟩ := hv
  have hx := B.exec
  have hb := B.bytes
  have hr := B.returns
  have hlocks := B.notSynchronized
  have hts : ∀ w ∈ pw_g, w.before ([.ref aL, .ref v]).toArray s = true := fun w hw => atoms_spec (ws := Cond.code yj_add bj_add 2 (some .boolean) :: pw_g) B.pre w (List.mem_cons_of_mem _ hw)
  have hown : s.vm.findClass "java/util/ArrayList" = some m.cls := findClass_of_methodNamed B.named
  rw [lg_entry_eq]
  have hl := lv_entry ([.ref aL, .ref v]) (n := 2) (Nat.le_of_ble_eq_true rfl)
  generalize (lg_sl ([.ref aL, .ref v]) ++ List.replicate (2 - (lg_sl ([.ref aL, .ref v])).length) Slot.unset).toArray = ls at hl ⊢
  have hl : lv_has ls 2 [(0, .ref aL), (1, .ref v)] := hl
  obtain ⟨hP, hK, hel, hb0⟩ := id hPF
  refine lv_aload_n hx hb dj_add_0 rfl (lv_at hl 0 rfl) ?_
  refine lv_dup hx hb dj_add_1 rfl ?_
  refine va_get hx hb hts pw_i9g hown hK.1 hP 0 rfl rfl 0 (by decide) (hts _ wf_63) (u_same (hts _ wsf)) (v := .int mc) rfl dj_add_2 ?_
  refine lv_iconst (v := 1) hx hb dj_add_5 (by decide) ?_
  refine lv_iadd hx hb dj_add_6 ?_
  refine pj_put hx hb hts hown hK.1 (hP 0 _ rfl) 0 (by decide) "java/util/ArrayList" wf_63 (u_same (hts _ wsf)) rfl rfl (by show 0 < 3; decide) dj_add_7 (fun H1 l0 q1 q2 q3 q4 => ?_)
  refine lv_aload_n hx hb dj_add_10 rfl (lv_at hl 0 rfl) ?_
  refine lv_aload_n hx hb dj_add_11 rfl (lv_at hl 1 rfl) ?_
  refine lv_aload_n hx hb dj_add_12 rfl (lv_at hl 0 rfl) ?_
  refine va_get hx hb hts pw_i9g hown hK.1 (pj_one q2) 0 rfl rfl 1 (by decide) (hts _ wf_9) (fun _ h => h) (v := .ref aB) rfl dj_add_13 ?_
  refine lv_aload_n hx hb dj_add_16 rfl (lv_at hl 0 rfl) ?_
  refine va_get hx hb hts pw_i9g hown hK.1 (pj_one q2) 0 rfl rfl 2 (by decide) (hts _ wf_48) (fun _ h => h) (v := .int (nI cap)) rfl dj_add_17 ?_
  have hob1 : ∀ U : State, U.heap = H1 → s.WarmedH U.vm → pj_ob C v U U.heap := fun U hU hW => by
    obtain ⟨cV, o1, o2, o3⟩ := hob
    exact ⟨cV, by rw [hU, q4 v hvL]; exact o1, o2, by rw [hW.alike.findClass]; exact o3⟩
  refine pj_after (va_runV (As := [.ref v, .ref aB, .int (nI cap)]) (rest := []) (Ts := pw_g) (own := "java/util/ArrayList") (index := 131) (C := "java/util/ArrayList") ⟨hx, hb, hml, hown, hts⟩ (jc_a3_f hC hc0 hcap hBL hBA hne hvL) (cwV 3 hts (pw_gi (pw_mc wl_a3_131 (pw_mc wi_a3 (pw_mc wv_a3 (pw_mc wn_al (pw_mc wc_a3 (fun w h => h))))))) rfl rfl rfl (by decide +kernel) ⟨Nat.le_refl 6, Nat.le_refl 170⟩) ⟨fun a U gf mk h => ⟨h.1, h.2.1.calling, h.2.2⟩, va_recv hK.1 (pj_one q2) (ci := 9) (q0 := 0) rfl rfl, fun U hU hW => ⟨rfl, ⟨⟨by rw [hU]; exact pw_P2j q2 (pj_kept (hP 1 _ rfl) (q4 aB (Ne.symm hne))), by rw [hU]; exact pw_K.go hW hK (fun a h1 h2 => q4 a (fun e => h2 (by rw [e]; exact hBL))), by rw [hU]; exact (hel.put q4 hfL).go hW.alike, by rw [hU, q3]; exact hb0⟩, hob1 U hU hW⟩⟩⟩ rfl rfl hl.1 rfl (Nat.le_of_ble_eq_true rfl) dj_add_20 ⟨Nat.le_of_eq (Nat.zero_add _), Nat.le_of_eq (Nat.zero_add _)⟩) ?_
  rintro v9 st₀ t L hh hA hL ⟨aN, hv, p1, p2, p3, p4⟩
  cases hv
  have hfree : ∀ q ∈ ([] ++ [l0]) ++ L, pw_A g q.base := fun q h => by
    rcases List.mem_append.mp h with h | h
    · rw [List.nil_append, List.mem_singleton] at h
      rw [h, q1]; exact hBL
    · exact hL q h
  rw [hh, q3] at p1 p4
  refine lv_iconst (v := 1) hx hb dj_add_23 (by decide) ?_
  refine W.widen (k := 1) (n := (pj_N cap)) (by omega) (by omega) ?_
  exact W.zret hx hb hr rfl (fun t' ht _ => ⟨aN, rfl, p1, by rw [ht]; exact p2, by rw [ht]; exact p3, fun q h1 h2 => by rw [ht, p4 q h1 h2, q4 q h2]⟩) hfree dj_add_24 hlocks
set_option maxHeartbeats 2000000 in
theorem jc_add_e {aL v : Nat} {mc : Int32} {C : String} (hC : Cond.castable C "java/lang/Object" ∈ pw_hw) (hBL : g.2.2.2.1 ≤ aL) (hvL : v ≠ aL) :
    Met l yj_add (Cond.code yj_add bj_add 2 (some .boolean) :: pw_g) { frames := 6, cells := 1, slots := 10, locals := 170 } (va_Pc [.ref aL, .ref v] (fun U => pj_PE g aL mc U ∧ pj_ob C v U U.heap))
    (fun _ st o t => ∃ aN : Nat, o = .returned (some (.int 1)) ∧ st.heap.size ≤ aN ∧ t.heap[aN]? = some (vp_cell (g.2.1 5) (10, .inr (.inr (.inr (.inr (va_up (fun _ => none) 0 (some v))))))) ∧ va_at g.1 pw_cl (aL, .inr (9, [.int (mc + 1), .ref aN, .int (nI (0 + 1))])) t.heap ∧ ∀ q : Nat, q < st.heap.size → q ≠ aL → t.heap[q]? = st.heap[q]?) 1 10 (pw_A g) := by
  refine Met.ofW (cc := bj_add) (maxL := 2) (ret := some .boolean) (by decide +kernel) rfl ?_
  intro p e s m args below meth c s₁ B hml hv
  obtain ⟨rfl, hPF, hob⟩ := hv
  have hx := B.exec
  have hb := B.bytes
  have hr := B.returns
  have hlocks := B.notSynchronized
  have hts : ∀ w ∈ pw_g, w.before ([.ref aL, .ref v]).toArray s = true := fun w hw => atoms_spec (ws := Cond.code yj_add bj_add 2 (some .boolean) :: pw_g) B.pre w (List.mem_cons_of_mem _ hw)
  have hown : s.vm.findClass "java/util/ArrayList" = some m.cls := findClass_of_methodNamed B.named
  rw [lg_entry_eq]
  have hl := lv_entry ([.ref aL, .ref v]) (n := 2) (Nat.le_of_ble_eq_true rfl)
  generalize (lg_sl ([.ref aL, .ref v]) ++ List.replicate (2 - (lg_sl ([.ref aL, .ref v])).length) Slot.unset).toArray = ls at hl ⊢
  have hl : lv_has ls 2 [(0, .ref aL), (1, .ref v)] := hl
  obtain ⟨hP0, hK, hb0⟩ := id hPF
  have hP := pj_one hP0
  refine lv_aload_n hx hb dj_add_0 rfl (lv_at hl 0 rfl) ?_
  refine lv_dup hx hb dj_add_1 rfl ?_
  refine va_get hx hb hts pw_i9g hown hK.1 hP 0 rfl rfl 0 (by decide) (hts _ wf_63) (u_same (hts _ wsf)) (v := .int mc) rfl dj_add_2 ?_
  refine lv_iconst (v := 1) hx hb dj_add_5 (by decide) ?_
  refine lv_iadd hx hb dj_add_6 ?_
  refine pj_put hx hb hts hown hK.1 (hP 0 _ rfl) 0 (by decide) "java/util/ArrayList" wf_63 (u_same (hts _ wsf)) rfl rfl (by show 0 < 3; decide) dj_add_7 (fun H1 l0 q1 q2 q3 q4 => ?_)
  refine lv_aload_n hx hb dj_add_10 rfl (lv_at hl 0 rfl) ?_
  refine lv_aload_n hx hb dj_add_11 rfl (lv_at hl 1 rfl) ?_
  refine lv_aload_n hx hb dj_add_12 rfl (lv_at hl 0 rfl) ?_
  refine va_get hx hb hts pw_i9g hown hK.1 (pj_one q2) 0 rfl rfl 1 (by decide) (hts _ wf_9) (fun _ h => h) (v := .ref g.2.2.1) rfl dj_add_13 ?_
  refine lv_aload_n hx hb dj_add_16 rfl (lv_at hl 0 rfl) ?_
  refine va_get hx hb hts pw_i9g hown hK.1 (pj_one q2) 0 rfl rfl 2 (by decide) (hts _ wf_48) (fun _ h => h) (v := .int 0) rfl dj_add_17 ?_
  have hob1 : ∀ U : State, U.heap = H1 → s.WarmedH U.vm → pj_ob C v U U.heap := fun U hU hW => by
    obtain ⟨cV, o1, o2, o3⟩ := hob
    exact ⟨cV, by rw [hU, q4 v hvL]; exact o1, o2, by rw [hW.alike.findClass]; exact o3⟩
  refine pj_after (va_runV (As := [.ref v, .ref g.2.2.1, .int 0]) (rest := []) (Ts := pw_g) (own := "java/util/ArrayList") (index := 131) (C := "java/util/ArrayList") ⟨hx, hb, hml, hown, hts⟩ (jc_a3_e (C := C) hC hBL hvL) (cwV 3 hts (pw_gi (pw_mc wl_a3_131 (pw_mc wi_a3 (pw_mc wv_a3 (pw_mc wn_al (pw_mc wc_a3 (fun w h => h))))))) rfl rfl rfl (by decide +kernel) ⟨Nat.le_refl 6, Nat.le_refl 170⟩) ⟨fun a U gf mk h => ⟨h.1, h.2.1.calling, h.2.2⟩, va_recv hK.1 (pj_one q2) (ci := 9) (q0 := 0) rfl rfl, fun U hU hW => ⟨rfl, ⟨⟨by rw [hU]; exact q2, by rw [hU]; exact pw_K.go hW hK (fun a h1 h2 => q4 a (fun e => h2 (by rw [e]; exact hBL))), by rw [hU, q3]; exact hb0⟩, hob1 U hU hW⟩⟩⟩ rfl rfl hl.1 rfl (Nat.le_of_ble_eq_true rfl) dj_add_20 ⟨Nat.le_of_eq (Nat.zero_add _), Nat.le_of_eq (Nat.zero_add _)⟩) ?_
  rintro v9 st₀ t L hh hA hL ⟨aN, hv, p1, p2, p3, p4⟩
  cases hv
  have hfree : ∀ q ∈ ([] ++ [l0]) ++ L, pw_A g q.base := fun q h => by
    rcases List.mem_append.mp h with h | h
    · rw [List.nil_append, List.mem_singleton] at h
      rw [h, q1]; exact hBL
    · exact hL q h
  rw [hh, q3] at p1 p4
  refine lv_iconst (v := 1) hx hb dj_add_23 (by decide) ?_
  refine W.widen (k := 1) (n := 10) (by omega) (by omega) ?_
  exact W.zret hx hb hr rfl (fun t' ht _ => ⟨aN, rfl, p1, by rw [ht]; exact p2, by rw [ht]; exact p3, fun q h1 h2 => by rw [ht, p4 q h1 h2, q4 q h2]⟩) hfree dj_add_24 hlocks
end PJ
