theorem pw_wd {c : Cond} {tb : List Cond} (ht : ∀ w ∈ tb, w ∈ tables_1) (i : Nat) (h : tb[i]? = some c) (hg : goodWord c = true) : c ∈ pw_g := List.mem_filter.mpr ⟨List.mem_append_right _ (ht _ (List.mem_of_getElem? h)), hg⟩
theorem pw_wp {q : MethodName × Nat} (i : Nat) (h : lw_privs[i]? = some q) (hg : goodWord (Cond.selects q.1.cls q.1 q.1) = true) : Cond.selects q.1.cls q.1 q.1 ∈ pw_g := List.mem_filter.mpr ⟨List.mem_append_left _ (List.mem_map.mpr ⟨q, List.mem_of_getElem? h, rfl⟩), hg⟩
theorem pw_tb1 : ∀ w ∈ tables_1_1, w ∈ tables_1 := fun w h => by unfold tables_1; simp [h]
theorem pw_tb2 : ∀ w ∈ tables_1_2, w ∈ tables_1 := fun w h => by unfold tables_1; simp [h]
theorem pw_tb3 : ∀ w ∈ tables_1_3, w ∈ tables_1 := fun w h => by unfold tables_1; simp [h]
theorem pw_tb4 : ∀ w ∈ tables_1_4, w ∈ tables_1 := fun w h => by unfold tables_1; simp [h]
theorem pw_tb5 : ∀ w ∈ tables_1_5, w ∈ tables_1 := fun w h => by unfold tables_1; simp [h]
theorem pw_tb6 : ∀ w ∈ tables_1_6, w ∈ tables_1 := fun w h => by unfold tables_1; simp [h]
theorem pw_tb7 : ∀ w ∈ tables_1_7, w ∈ tables_1 := fun w h => by unfold tables_1; simp [h]
def yj_pci : MethodName := ⟨"jdk/internal/util/Preconditions", "checkIndex", "(IILjava/util/function/BiFunction;)I"⟩
abbrev bj_pci : ByteArray := prog_33_method_11_code
theorem dj_pci_0 : decode bj_pci 0 = .ok (.iload_n 0, 1) := by decide +kernel
theorem dj_pci_1 : decode bj_pci 1 = .ok (.ifCond .lt 8, 3) := by decide +kernel
theorem dj_pci_4 : decode bj_pci 4 = .ok (.iload_n 0, 1) := by decide +kernel
theorem dj_pci_5 : decode bj_pci 5 = .ok (.iload_n 1, 1) := by decide +kernel
theorem dj_pci_6 : decode bj_pci 6 = .ok (.if_icmp .lt 10, 3) := by decide +kernel
theorem dj_pci_9 : decode bj_pci 9 = .ok (.aload_n 2, 1) := by decide +kernel
theorem dj_pci_10 : decode bj_pci 10 = .ok (.iload_n 0, 1) := by decide +kernel
theorem dj_pci_11 : decode bj_pci 11 = .ok (.iload_n 1, 1) := by decide +kernel
theorem dj_pci_12 : decode bj_pci 12 = .ok (.invokestatic 95, 3) := by decide +kernel
theorem dj_pci_15 : decode bj_pci 15 = .ok (.athrow, 1) := by decide +kernel
theorem dj_pci_16 : decode bj_pci 16 = .ok (.iload_n 0, 1) := by decide +kernel
theorem dj_pci_17 : decode bj_pci 17 = .ok (.ireturn, 1) := by decide +kernel
def yj_oci : MethodName := ⟨"java/util/Objects", "checkIndex", "(II)I"⟩
abbrev bj_oci : ByteArray := prog_29_method_17_code
theorem dj_oci_0 : decode bj_oci 0 = .ok (.iload_n 0, 1) := by decide +kernel
theorem dj_oci_1 : decode bj_oci 1 = .ok (.iload_n 1, 1) := by decide +kernel
theorem dj_oci_2 : decode bj_oci 2 = .ok (.aconst_null, 1) := by decide +kernel
theorem dj_oci_3 : decode bj_oci 3 = .ok (.invokestatic 105, 3) := by decide +kernel
theorem dj_oci_6 : decode bj_oci 6 = .ok (.ireturn, 1) := by decide +kernel
def yj_eld : MethodName := ⟨"java/util/ArrayList", "elementData", "(I)Ljava/lang/Object;"⟩
abbrev bj_eld : ByteArray := prog_25_method_18_code
theorem dj_eld_0 : decode bj_eld 0 = .ok (.aload_n 0, 1) := by decide +kernel
theorem dj_eld_1 : decode bj_eld 1 = .ok (.getfield 9, 3) := by decide +kernel
theorem dj_eld_4 : decode bj_eld 4 = .ok (.iload_n 1, 1) := by decide +kernel
theorem dj_eld_5 : decode bj_eld 5 = .ok (.aaload, 1) := by decide +kernel
theorem dj_eld_6 : decode bj_eld 6 = .ok (.areturn, 1) := by decide +kernel
def yj_get : MethodName := ⟨"java/util/ArrayList", "get", "(I)Ljava/lang/Object;"⟩
abbrev bj_get : ByteArray := prog_25_method_20_code
theorem dj_get_0 : decode bj_get 0 = .ok (.iload_n 1, 1) := by decide +kernel
theorem dj_get_1 : decode bj_get 1 = .ok (.aload_n 0, 1) := by decide +kernel
theorem dj_get_2 : decode bj_get 2 = .ok (.getfield 48, 3) := by decide +kernel
theorem dj_get_5 : decode bj_get 5 = .ok (.invokestatic 118, 3) := by decide +kernel
theorem dj_get_8 : decode bj_get 8 = .ok (.pop, 1) := by decide +kernel
theorem dj_get_9 : decode bj_get 9 = .ok (.aload_n 0, 1) := by decide +kernel
theorem dj_get_10 : decode bj_get 10 = .ok (.iload_n 1, 1) := by decide +kernel
theorem dj_get_11 : decode bj_get 11 = .ok (.invokevirtual 123, 3) := by decide +kernel
theorem dj_get_14 : decode bj_get 14 = .ok (.areturn, 1) := by decide +kernel
def yj_size : MethodName := ⟨"java/util/ArrayList", "size", "()I"⟩
abbrev bj_size : ByteArray := prog_25_method_8_code
theorem dj_size_0 : decode bj_size 0 = .ok (.aload_n 0, 1) := by decide +kernel
theorem dj_size_1 : decode bj_size 1 = .ok (.getfield 48, 3) := by decide +kernel
theorem dj_size_4 : decode bj_size 4 = .ok (.ireturn, 1) := by decide +kernel
def yj_emp : MethodName := ⟨"java/util/ArrayList", "isEmpty", "()Z"⟩
abbrev bj_emp : ByteArray := prog_25_method_9_code
theorem dj_emp_0 : decode bj_emp 0 = .ok (.aload_n 0, 1) := by decide +kernel
theorem dj_emp_1 : decode bj_emp 1 = .ok (.getfield 48, 3) := by decide +kernel
theorem dj_emp_4 : decode bj_emp 4 = .ok (.ifCond .ne 7, 3) := by decide +kernel
theorem dj_emp_7 : decode bj_emp 7 = .ok (.iconst 1, 1) := by decide +kernel
theorem dj_emp_8 : decode bj_emp 8 = .ok (.goto 4, 3) := by decide +kernel
theorem dj_emp_11 : decode bj_emp 11 = .ok (.iconst 0, 1) := by decide +kernel
theorem dj_emp_12 : decode bj_emp 12 = .ok (.ireturn, 1) := by decide +kernel
theorem wc_pci : Cond.code yj_pci bj_pci 3 (some .int) ∈ pw_g := pw_wd pw_tb2 145 (by decide +kernel) (by decide +kernel)
theorem wc_oci : Cond.code yj_oci bj_oci 2 (some .int) ∈ pw_g := pw_wd pw_tb2 142 (by decide +kernel) (by decide +kernel)
theorem wc_eld : Cond.code yj_eld bj_eld 2 (some (.object "java/lang/Object")) ∈ pw_g := pw_wd pw_tb2 149 (by decide +kernel) (by decide +kernel)
theorem wc_get : Cond.code yj_get bj_get 2 (some (.object "java/lang/Object")) ∈ pw_g := pw_wd pw_tb2 139 (by decide +kernel) (by decide +kernel)
theorem wc_size : Cond.code yj_size bj_size 1 (some .int) ∈ pw_g := pw_wd pw_tb2 45 (by decide +kernel) (by decide +kernel)
theorem wc_emp : Cond.code yj_emp bj_emp 1 (some .boolean) ∈ pw_g := pw_wd pw_tb4 199 (by decide +kernel) (by decide +kernel)
theorem wl_pci_105 : Cond.methodLink "java/util/Objects" 105 yj_pci ∈ pw_g := pw_wd pw_tb2 143 (by decide +kernel) (by decide +kernel)
theorem ws_pci : Cond.static yj_pci ∈ pw_g := pw_wd pw_tb2 144 (by decide +kernel) (by decide +kernel)
theorem wn_pre : Cond.initialized "jdk/internal/util/Preconditions" ∈ pw_g := pw_wd pw_tb1 18 (by decide +kernel) (by decide +kernel)
theorem wl_oci_118 : Cond.methodLink "java/util/ArrayList" 118 yj_oci ∈ pw_g := pw_wd pw_tb2 140 (by decide +kernel) (by decide +kernel)
theorem ws_oci : Cond.static yj_oci ∈ pw_g := pw_wd pw_tb2 141 (by decide +kernel) (by decide +kernel)
theorem wn_obj : Cond.initialized "java/util/Objects" ∈ pw_g := pw_wd pw_tb1 17 (by decide +kernel) (by decide +kernel)
theorem wl_eld_123 : Cond.methodLink "java/util/ArrayList" 123 yj_eld ∈ pw_g := pw_wd pw_tb2 146 (by decide +kernel) (by decide +kernel)
theorem wi_eld : Cond.instanceMethod yj_eld ∈ pw_g := pw_wd pw_tb2 147 (by decide +kernel) (by decide +kernel)
theorem wv_eld : Cond.selects "java/util/ArrayList" yj_eld yj_eld ∈ pw_g := pw_wd pw_tb2 148 (by decide +kernel) (by decide +kernel)
theorem wn_al : Cond.initialized "java/util/ArrayList" ∈ pw_g := pw_wd pw_tb1 4 (by decide +kernel) (by decide +kernel)
theorem wf_48 : Cond.fieldLink "java/util/ArrayList" 48 "java/util/ArrayList" "size" "I" ∈ pw_g := pw_wd pw_tb1 52 (by decide +kernel) (by decide +kernel)
theorem wf_9 : Cond.fieldLink "java/util/ArrayList" 9 "java/util/ArrayList" "elementData" "[Ljava/lang/Object;" ∈ pw_g := pw_wd pw_tb1 51 (by decide +kernel) (by decide +kernel)
theorem pw_i9g : ∀ w ∈ u_ws pw_R9 pw_T9 3, w ∈ pw_g := pw_in pw_i9 (by decide +kernel)
section PJ
variable {l : Launch} {g : pw_G}
/-- a call has come back: what its end says, over the heap as it is then -/
theorem pj_after {p : Program} {e : Env} {R : Room} {s : State} {m : MethodId} {args : Array Value} {below : List Frame} {meth : Method} {c : Code} {H : Heap} {locs : List Loc} {cells slots mc ms pc : Nat} {Q : State → Prop} {ls : Array Slot} {st0 rest : List Value} {Qa : State → Outcome → State → Prop} {free : Addr → Prop}
    (hr : va_Run p l e R s m args below meth c H locs cells slots mc ms (F0 m pc ls st0) rest Qa free) (kk : ∀ (v : Option Value) (st₀ t : State) (L : List Loc), st₀.heap = H → s.vm.Alike t.vm → (∀ q ∈ L, free q.base) → Qa st₀ (.returned v) t → W p l e R s m args below meth c t.heap (locs ++ L) (cells + mc) (slots + ms) Q (F0 m (pc + 3) ls (v.toList ++ rest))) :
    W p l e R s m args below meth c H locs cells slots Q (F0 m pc ls st0) := by
  intro T hT X
  obtain ⟨v, st₀, t, T', L, h0, X', hL, e1, e2, hq, st⟩ := hr T hT X
  obtain ⟨t2, a1, b1⟩ := kk v st₀ t L h0 (by rw [← e2]; exact X'.warmed.alike) hL hq T' e1 X'
  exact ⟨t2, st t2 a1, b1⟩
theorem pj_kgo {g : pw_G} {s U : State} {H0 H1 : Heap} (hW : s.WarmedH U.vm) (h : pw_K g s H0) (e : H1 = H0) : pw_K g U H1 := by
  subst e
  exact pw_K.go hW h (fun _ _ _ => rfl)
set_option maxHeartbeats 1000000 in
theorem jc_pci {i n : Int32} (h0 : 0 ≤ i) (h1 : i < n) : Met l yj_pci (Cond.code yj_pci bj_pci 3 (some .int) :: pw_g) { frames := 0, cells := 0, slots := 0, locals := 0 } (va_Pc [.int i, .int n, .null] (fun _ => True)) (vp_Si (fun r => r = i)) 0 0 (fun _ => False) := by
  refine Met.ofW (cc := bj_pci) (maxL := 3) (ret := some .int) (by decide +kernel) rfl ?_
  intro p e s m args below meth c s₁ B hml hv
  obtain ⟨rfl, -⟩ := hv
  have hx := B.exec
  have hb := B.bytes
  have hr := B.returns
  have hlocks := B.notSynchronized
  have hts : ∀ w ∈ pw_g, w.before ([.int i, .int n, .null]).toArray s = true := fun w hw => atoms_spec (ws := Cond.code yj_pci bj_pci 3 (some .int) :: pw_g) B.pre w (List.mem_cons_of_mem _ hw)
  have hown : s.vm.findClass "jdk/internal/util/Preconditions" = some m.cls := findClass_of_methodNamed B.named
  rw [lg_entry_eq]
  have hl := lv_entry ([.int i, .int n, .null]) (n := 3) (Nat.le_of_ble_eq_true rfl)
  generalize (lg_sl ([.int i, .int n, .null]) ++ List.replicate (3 - (lg_sl ([.int i, .int n, .null])).length) Slot.unset).toArray = ls at hl ⊢
  have hl : lv_has ls 3 [(0, .int i), (1, .int n), (2, .null)] := hl
  refine lv_iload_n hx hb dj_pci_0 rfl (lv_at hl 0 rfl) ?_
  refine lv_if_lt (tgt := 9) hx hb dj_pci_1 (by decide) (fun q => absurd q (Int32.not_lt.mpr h0)) (fun _ => ?_)
  refine lv_iload_n hx hb dj_pci_4 rfl (lv_at hl 0 rfl) ?_
  refine lv_iload_n hx hb dj_pci_5 rfl (lv_at hl 1 rfl) ?_
  refine lv_icmp_lt (tgt := 16) hx hb dj_pci_6 (by decide) (fun _ => ?_) (fun q => absurd h1 q)
  refine lv_iload_n hx hb dj_pci_16 rfl (lv_at hl 0 rfl) ?_
  exact W.iret hx hb hr (fun t ht _ => ⟨i, rfl, rfl, ht⟩) (fun q h => by cases h) dj_pci_17 hlocks
set_option maxHeartbeats 1000000 in
theorem jc_oci {i n : Int32} (h0 : 0 ≤ i) (h1 : i < n) : Met l yj_oci (Cond.code yj_oci bj_oci 2 (some .int) :: pw_g) { frames := 1, cells := 0, slots := 0, locals := 22 } (va_Pc [.int i, .int n] (fun _ => True)) (vp_Si (fun r => r = i)) 0 0 (fun _ => False) := by
  refine Met.ofW (cc := bj_oci) (maxL := 2) (ret := some .int) (by decide +kernel) rfl ?_
  intro p e s m args below meth c s₁ B hml hv
  obtain ⟨rfl, -⟩ := hv
  have hx := B.exec
  have hb := B.bytes
  have hr := B.returns
  have hlocks := B.notSynchronized
  have hts : ∀ w ∈ pw_g, w.before ([.int i, .int n]).toArray s = true := fun w hw => atoms_spec (ws := Cond.code yj_oci bj_oci 2 (some .int) :: pw_g) B.pre w (List.mem_cons_of_mem _ hw)
  have hown : s.vm.findClass "java/util/Objects" = some m.cls := findClass_of_methodNamed B.named
  rw [lg_entry_eq]
  have hl := lv_entry ([.int i, .int n]) (n := 2) (Nat.le_of_ble_eq_true rfl)
  generalize (lg_sl ([.int i, .int n]) ++ List.replicate (2 - (lg_sl ([.int i, .int n])).length) Slot.unset).toArray = ls at hl ⊢
  have hl : lv_has ls 2 [(0, .int i), (1, .int n)] := hl
  refine lv_iload_n hx hb dj_oci_0 rfl (lv_at hl 0 rfl) ?_
  refine lv_iload_n hx hb dj_oci_1 rfl (lv_at hl 1 rfl) ?_
  refine lv_null hx hb dj_oci_2 ?_
  refine pj_after (va_runS (As := [.int i, .int n, .null]) (rest := []) (Ts := pw_g) (own := "java/util/Objects") (index := 105) ⟨hx, hb, hml, hown, hts⟩ (jc_pci h0 h1) (va_cwS 3 hts (pw_gi (pw_mc wl_pci_105 (pw_mc ws_pci (pw_mc wn_pre (pw_mc wc_pci (fun w h => h)))))) rfl rfl rfl (by decide +kernel) (by decide)) ⟨fun a U gf mk h => h, fun U hU hW => ⟨rfl, trivial⟩⟩ rfl rfl hl.1 rfl (Nat.le_of_ble_eq_true rfl) dj_oci_3 ⟨Nat.zero_le _, Nat.zero_le _⟩) ?_
  rintro v st₀ t L hh hA hL ⟨r, hv, rfl, ht⟩
  cases hv
  rw [ht, hh, show L = [] from List.eq_nil_iff_forall_not_mem.mpr fun q hq => hL q hq]
  exact W.iret hx hb hr (fun t ht _ => ⟨_, rfl, rfl, ht⟩) (fun q h => by cases h) dj_oci_6 hlocks
/-- a list's own cell and its array -/
abbrev pj_ws (g : pw_G) (aL aB cap : Nat) (mc n : Int32) (f : Nat → Option Nat) : va_W := [(aL, .inr (9, [.int mc, .ref aB, .int n])), (aB, .inl (g.2.1 5, (cap, .inr (.inr (.inr (.inr f))))))]
abbrev pj_Pc (g : pw_G) (As : List Value) (ws : va_W) : Array Value → State → Prop := va_Pc As (fun U => va_P g.1 pw_cl ws U.heap ∧ pw_K g U U.heap)
theorem pj_blind {g : pw_G} {As : List Value} {ws : va_W} : FrameBlind (pj_Pc g As ws) := fun a U gf mk h => ⟨h.1, h.2.1, pw_K.go (State.WarmedH.refl U) h.2.2 (fun _ _ _ => rfl)⟩
set_option maxHeartbeats 1000000 in
theorem jc_eld {aL aB cap : Nat} {mc n i : Int32} {f : Nat → Option Nat} (hi : pw_jn i cap) : Met l yj_eld (Cond.code yj_eld bj_eld 2 (some (.object "java/lang/Object")) :: pw_g) { frames := 0, cells := 0, slots := 0, locals := 0 } (pj_Pc g [.ref aL, .int i] (pj_ws g aL aB cap mc n f)) (fun _ st o t => o = .returned (some (va_rf (f (pw_i i)))) ∧ t.heap = st.heap) 0 0 (fun _ => False) := by
  refine Met.ofW (cc := bj_eld) (maxL := 2) (ret := some (.object "java/lang/Object")) (by decide +kernel) rfl ?_
  intro p e s m args below meth c s₁ B hml hv
  obtain ⟨rfl, hP, hK⟩ := hv
  have hx := B.exec
  have hb := B.bytes
  have hr := B.returns
  have hlocks := B.notSynchronized
  have hts : ∀ w ∈ pw_g, w.before ([.ref aL, .int i]).toArray s = true := fun w hw => atoms_spec (ws := Cond.code yj_eld bj_eld 2 (some (.object "java/lang/Object")) :: pw_g) B.pre w (List.mem_cons_of_mem _ hw)
  have hown : s.vm.findClass "java/util/ArrayList" = some m.cls := findClass_of_methodNamed B.named
  rw [lg_entry_eq]
  have hl := lv_entry ([.ref aL, .int i]) (n := 2) (Nat.le_of_ble_eq_true rfl)
  generalize (lg_sl ([.ref aL, .int i]) ++ List.replicate (2 - (lg_sl ([.ref aL, .int i])).length) Slot.unset).toArray = ls at hl ⊢
  have hl : lv_has ls 2 [(0, .ref aL), (1, .int i)] := hl
  refine lv_aload_n hx hb dj_eld_0 rfl (lv_at hl 0 rfl) ?_
  refine va_get hx hb hts pw_i9g hown hK.1 hP 0 rfl rfl 1 (by decide) (hts _ wf_9) (fun _ h => h) (v := .ref aB) rfl dj_eld_1 ?_
  refine lv_iload_n hx hb dj_eld_4 rfl (lv_at hl 1 rfl) ?_
  refine va_aldq hx hb hK.1 hP 1 5 rfl (C := "java/lang/Object") rfl hi.vp dj_eld_5 ?_
  refine W.aret hx hb hr (Or.inl ⟨_, rfl⟩) ?_ (fun t ht _ => ⟨rfl, ht⟩) (fun q h => by cases h) dj_eld_6 hlocks
  show va_rf (f (pw_i i)) = .null ∨ ∃ a, va_rf (f (pw_i i)) = .ref a
  cases f (pw_i i) with
  | none => exact Or.inl rfl
  | some a => exact Or.inr ⟨a, rfl⟩
set_option maxHeartbeats 1000000 in
theorem jc_size {aL aB cap : Nat} {mc n : Int32} {f : Nat → Option Nat} {ws : va_W} (hws : ws[0]? = some (aL, .inr (9, [.int mc, .ref aB, .int n]))) : Met l yj_size (Cond.code yj_size bj_size 1 (some .int) :: pw_g) { frames := 0, cells := 0, slots := 0, locals := 0 } (pj_Pc g [.ref aL] ws) (fun _ st o t => o = .returned (some (.int n)) ∧ t.heap = st.heap) 0 0 (fun _ => False) := by
  refine Met.ofW (cc := bj_size) (maxL := 1) (ret := some .int) (by decide +kernel) rfl ?_
  intro p e s m args below meth c s₁ B hml hv
  obtain ⟨rfl, hP, hK⟩ := hv
  have hx := B.exec
  have hb := B.bytes
  have hr := B.returns
  have hlocks := B.notSynchronized
  have hts : ∀ w ∈ pw_g, w.before ([.ref aL]).toArray s = true := fun w hw => atoms_spec (ws := Cond.code yj_size bj_size 1 (some .int) :: pw_g) B.pre w (List.mem_cons_of_mem _ hw)
  have hown : s.vm.findClass "java/util/ArrayList" = some m.cls := findClass_of_methodNamed B.named
  rw [lg_entry_eq]
  have hl := lv_entry ([.ref aL]) (n := 1) (Nat.le_of_ble_eq_true rfl)
  generalize (lg_sl ([.ref aL]) ++ List.replicate (1 - (lg_sl ([.ref aL])).length) Slot.unset).toArray = ls at hl ⊢
  have hl : lv_has ls 1 [(0, .ref aL)] := hl
  refine lv_aload_n hx hb dj_size_0 rfl (lv_at hl 0 rfl) ?_
  refine va_get hx hb hts pw_i9g hown hK.1 hP 0 hws rfl 2 (by decide) (hts _ wf_48) (fun _ h => h) (v := .int n) rfl dj_size_1 ?_
  exact W.iret hx hb hr (fun t ht _ => ⟨rfl, ht⟩) (fun q h => by cases h) dj_size_4 hlocks
set_option maxHeartbeats 1000000 in
theorem jc_emp {aL aB cap : Nat} {mc n : Int32} {f : Nat → Option Nat} {ws : va_W} (hws : ws[0]? = some (aL, .inr (9, [.int mc, .ref aB, .int n]))) : Met l yj_emp (Cond.code yj_emp bj_emp 1 (some .boolean) :: pw_g) { frames := 0, cells := 0, slots := 0, locals := 0 } (pj_Pc g [.ref aL] ws) (fun _ st o t => o = .returned (some (.int (if n = 0 then 1 else 0))) ∧ t.heap = st.heap) 0 0 (fun _ => False) := by
  refine Met.ofW (cc := bj_emp) (maxL := 1) (ret := some .boolean) (by decide +kernel) rfl ?_
  intro p e s m args below meth c s₁ B hml hv
  obtain ⟨rfl, hP, hK⟩ := hv
  have hx := B.exec
  have hb := B.bytes
  have hr := B.returns
  have hlocks := B.notSynchronized
  have hts : ∀ w ∈ pw_g, w.before ([.ref aL]).toArray s = true := fun w hw => atoms_spec (ws := Cond.code yj_emp bj_emp 1 (some .boolean) :: pw_g) B.pre w (List.mem_cons_of_mem _ hw)
  have hown : s.vm.findClass "java/util/ArrayList" = some m.cls := findClass_of_methodNamed B.named
  rw [lg_entry_eq]
  have hl := lv_entry ([.ref aL]) (n := 1) (Nat.le_of_ble_eq_true rfl)
  generalize (lg_sl ([.ref aL]) ++ List.replicate (1 - (lg_sl ([.ref aL])).length) Slot.unset).toArray = ls at hl ⊢
  have hl : lv_has ls 1 [(0, .ref aL)] := hl
  refine lv_aload_n hx hb dj_emp_0 rfl (lv_at hl 0 rfl) ?_
  refine va_get hx hb hts pw_i9g hown hK.1 hP 0 hws rfl 2 (by decide) (hts _ wf_48) (fun _ h => h) (v := .int n) rfl dj_emp_1 ?_
  refine lv_if_ne (tgt := 11) hx hb dj_emp_4 (by decide) (fun q => ?_) (fun q => ?_)
  · refine lv_iconst (v := 0) hx hb dj_emp_11 (by decide) ?_
    exact W.zret hx hb hr rfl (fun t ht _ => ⟨by rw [if_neg q], ht⟩) (fun q h => by cases h) dj_emp_12 hlocks
  · refine lv_iconst (v := 1) hx hb dj_emp_7 (by decide) ?_
    refine lv_goto (tgt := 12) hx hb dj_emp_8 (by decide) ?_
    exact W.zret hx hb hr rfl (fun t ht _ => ⟨by rw [if_pos q], ht⟩) (fun q h => by cases h) dj_emp_12 hlocks
set_option maxHeartbeats 1000000 in
theorem jc_get {aL aB cap : Nat} {mc n i : Int32} {f : Nat → Option Nat} (h0 : 0 ≤ i) (h1 : i < n) (hi : pw_jn i cap) : Met l yj_get (Cond.code yj_get bj_get 2 (some (.object "java/lang/Object")) :: pw_g) { frames := 2, cells := 0, slots := 0, locals := 43 } (pj_Pc g [.ref aL, .int i] (pj_ws g aL aB cap mc n f)) (fun _ st o t => o = .returned (some (va_rf (f (pw_i i)))) ∧ t.heap = st.heap) 0 0 (fun _ => False) := by
  refine Met.ofW (cc := bj_get) (maxL := 2) (ret := some (.object "java/lang/Object")) (by decide +kernel) rfl ?_
  intro p e s m args below meth c s₁ B hml hv
  obtain ⟨rfl, hP, hK⟩ := hv
  have hx := B.exec
  have hb := B.bytes
  have hr := B.returns
  have hlocks := B.notSynchronized
  have hts : ∀ w ∈ pw_g, w.before ([.ref aL, .int i]).toArray s = true := fun w hw => atoms_spec (ws := Cond.code yj_get bj_get 2 (some (.object "java/lang/Object")) :: pw_g) B.pre w (List.mem_cons_of_mem _ hw)
  have hown : s.vm.findClass "java/util/ArrayList" = some m.cls := findClass_of_methodNamed B.named
  rw [lg_entry_eq]
  have hl := lv_entry ([.ref aL, .int i]) (n := 2) (Nat.le_of_ble_eq_true rfl)
  generalize (lg_sl ([.ref aL, .int i]) ++ List.replicate (2 - (lg_sl ([.ref aL, .int i])).length) Slot.unset).toArray = ls at hl ⊢
  have hl : lv_has ls 2 [(0, .ref aL), (1, .int i)] := hl
  refine lv_iload_n hx hb dj_get_0 rfl (lv_at hl 1 rfl) ?_
  refine lv_aload_n hx hb dj_get_1 rfl (lv_at hl 0 rfl) ?_
  refine va_get hx hb hts pw_i9g hown hK.1 hP 0 rfl rfl 2 (by decide) (hts _ wf_48) (fun _ h => h) (v := .int n) rfl dj_get_2 ?_
  refine pj_after (va_runS (As := [.int i, .int n]) (rest := []) (Ts := pw_g) (own := "java/util/ArrayList") (index := 118) ⟨hx, hb, hml, hown, hts⟩ (jc_oci h0 h1) (va_cwS 2 hts (pw_gi (pw_mc wl_oci_118 (pw_mc ws_oci (pw_mc wn_obj (pw_mc wc_oci (fun w h => h)))))) rfl rfl rfl (by decide +kernel) (by decide)) ⟨fun a U gf mk h => h, fun U hU hW => ⟨rfl, trivial⟩⟩ rfl rfl hl.1 rfl (Nat.le_of_ble_eq_true rfl) dj_get_5 ⟨Nat.zero_le _, Nat.zero_le _⟩) ?_
  rintro v st₀ t L hh hA hL ⟨r, hv, rfl, ht⟩
  cases hv
  rw [ht, hh, show L = [] from List.eq_nil_iff_forall_not_mem.mpr fun q hq => hL q hq]
  refine lv_pop hx hb dj_get_8 rfl ?_
  refine lv_aload_n hx hb dj_get_9 rfl (lv_at hl 0 rfl) ?_
  refine lv_iload_n hx hb dj_get_10 rfl (lv_at hl 1 rfl) ?_
  refine pj_after (va_runV (As := [.int _]) (rest := []) (Ts := pw_g) (own := "java/util/ArrayList") (index := 123) (C := "java/util/ArrayList") ⟨hx, hb, hml, hown, hts⟩ (jc_eld (l := l) (g := g) (aL := aL) (aB := aB) (cap := cap) (mc := mc) (n := n) (f := f) hi) (cwV 1 hts (pw_gi (pw_mc wl_eld_123 (pw_mc wi_eld (pw_mc wv_eld (pw_mc wn_al (pw_mc wc_eld (fun w h => h))))))) rfl rfl rfl (by decide +kernel) (by decide)) ⟨pj_blind, va_recv hK.1 hP (ci := 9) (q0 := 0) rfl rfl, fun U hU hW => ⟨rfl, by rw [hU]; exact hP, pj_kgo hW hK hU⟩⟩ rfl rfl hl.1 rfl (Nat.le_of_ble_eq_true rfl) dj_get_11 ⟨Nat.zero_le _, Nat.zero_le _⟩) ?_
  rintro v st₀ t L hh hA hL ⟨hv, ht⟩
  cases hv
  rw [ht, hh, show L = [] from List.eq_nil_iff_forall_not_mem.mpr fun q hq => hL q hq]
  refine W.aret hx hb hr (Or.inl ⟨_, rfl⟩) ?_ (fun t ht _ => ⟨rfl, ht⟩) (fun q h => by cases h) dj_get_14 hlocks
  cases f (pw_i _) with
  | none => exact Or.inl rfl
  | some a => exact Or.inr ⟨a, rfl⟩
theorem wx_size : Cond.selects "java/util/ArrayList" ⟨"java/util/List", "size", "()I"⟩ yj_size ∈ pw_g := pw_wd pw_tb2 41 (by decide +kernel) (by decide +kernel)
theorem wi_size : Cond.instanceMethod yj_size ∈ pw_g := pw_wd pw_tb2 43 (by decide +kernel) (by decide +kernel)
theorem wx_emp : Cond.selects "java/util/ArrayList" ⟨"java/util/List", "isEmpty", "()Z"⟩ yj_emp ∈ pw_g := pw_wd pw_tb4 195 (by decide +kernel) (by decide +kernel)
theorem wi_emp : Cond.instanceMethod yj_emp ∈ pw_g := pw_wd pw_tb4 197 (by decide +kernel) (by decide +kernel)
theorem wx_get : Cond.selects "java/util/ArrayList" ⟨"java/util/List", "get", "(I)Ljava/lang/Object;"⟩ yj_get ∈ pw_g := pw_wd pw_tb2 135 (by decide +kernel) (by decide +kernel)
theorem wi_get : Cond.instanceMethod yj_get ∈ pw_g := pw_wd pw_tb2 137 (by decide +kernel) (by decide +kernel)
end PJ
