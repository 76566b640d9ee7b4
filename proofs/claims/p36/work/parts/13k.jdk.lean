def yj_rem : MethodName := ⟨"java/util/ArrayList", "remove", "(I)Ljava/lang/Object;"⟩
abbrev bj_rem : ByteArray := prog_25_method_29_code
theorem dj_rem_0 : decode bj_rem 0 = .ok (.iload_n 1, 1) := by decide +kernel
theorem dj_rem_1 : decode bj_rem 1 = .ok (.aload_n 0, 1) := by decide +kernel
theorem dj_rem_2 : decode bj_rem 2 = .ok (.getfield 48, 3) := by decide +kernel
theorem dj_rem_5 : decode bj_rem 5 = .ok (.invokestatic 118, 3) := by decide +kernel
theorem dj_rem_8 : decode bj_rem 8 = .ok (.pop, 1) := by decide +kernel
theorem dj_rem_9 : decode bj_rem 9 = .ok (.aload_n 0, 1) := by decide +kernel
theorem dj_rem_10 : decode bj_rem 10 = .ok (.getfield 9, 3) := by decide +kernel
theorem dj_rem_13 : decode bj_rem 13 = .ok (.astore_n 2, 1) := by decide +kernel
theorem dj_rem_14 : decode bj_rem 14 = .ok (.aload_n 2, 1) := by decide +kernel
theorem dj_rem_15 : decode bj_rem 15 = .ok (.iload_n 1, 1) := by decide +kernel
theorem dj_rem_16 : decode bj_rem 16 = .ok (.aaload, 1) := by decide +kernel
theorem dj_rem_17 : decode bj_rem 17 = .ok (.astore_n 3, 1) := by decide +kernel
theorem dj_rem_18 : decode bj_rem 18 = .ok (.aload_n 0, 1) := by decide +kernel
theorem dj_rem_19 : decode bj_rem 19 = .ok (.aload_n 2, 1) := by decide +kernel
theorem dj_rem_20 : decode bj_rem 20 = .ok (.iload_n 1, 1) := by decide +kernel
theorem dj_rem_21 : decode bj_rem 21 = .ok (.invokevirtual 144, 3) := by decide +kernel
theorem dj_rem_24 : decode bj_rem 24 = .ok (.aload_n 3, 1) := by decide +kernel
theorem dj_rem_25 : decode bj_rem 25 = .ok (.areturn, 1) := by decide +kernel
def yj_frm : MethodName := ⟨"java/util/ArrayList", "fastRemove", "([Ljava/lang/Object;I)V"⟩
abbrev bj_frm : ByteArray := prog_25_method_39_code
theorem dj_frm_0 : decode bj_frm 0 = .ok (.aload_n 0, 1) := by decide +kernel
theorem dj_frm_1 : decode bj_frm 1 = .ok (.dup, 1) := by decide +kernel
theorem dj_frm_2 : decode bj_frm 2 = .ok (.getfield 63, 3) := by decide +kernel
theorem dj_frm_5 : decode bj_frm 5 = .ok (.iconst 1, 1) := by decide +kernel
theorem dj_frm_6 : decode bj_frm 6 = .ok (.iadd, 1) := by decide +kernel
theorem dj_frm_7 : decode bj_frm 7 = .ok (.putfield 63, 3) := by decide +kernel
theorem dj_frm_10 : decode bj_frm 10 = .ok (.aload_n 0, 1) := by decide +kernel
theorem dj_frm_11 : decode bj_frm 11 = .ok (.getfield 48, 3) := by decide +kernel
theorem dj_frm_14 : decode bj_frm 14 = .ok (.iconst 1, 1) := by decide +kernel
theorem dj_frm_15 : decode bj_frm 15 = .ok (.isub, 1) := by decide +kernel
theorem dj_frm_16 : decode bj_frm 16 = .ok (.dup, 1) := by decide +kernel
theorem dj_frm_17 : decode bj_frm 17 = .ok (.istore_n 3, 1) := by decide +kernel
theorem dj_frm_18 : decode bj_frm 18 = .ok (.iload_n 2, 1) := by decide +kernel
theorem dj_frm_19 : decode bj_frm 19 = .ok (.if_icmp .le 15, 3) := by decide +kernel
theorem dj_frm_22 : decode bj_frm 22 = .ok (.aload_n 1, 1) := by decide +kernel
theorem dj_frm_23 : decode bj_frm 23 = .ok (.iload_n 2, 1) := by decide +kernel
theorem dj_frm_24 : decode bj_frm 24 = .ok (.iconst 1, 1) := by decide +kernel
theorem dj_frm_25 : decode bj_frm 25 = .ok (.iadd, 1) := by decide +kernel
theorem dj_frm_26 : decode bj_frm 26 = .ok (.aload_n 1, 1) := by decide +kernel
theorem dj_frm_27 : decode bj_frm 27 = .ok (.iload_n 2, 1) := by decide +kernel
theorem dj_frm_28 : decode bj_frm 28 = .ok (.iload_n 3, 1) := by decide +kernel
theorem dj_frm_29 : decode bj_frm 29 = .ok (.iload_n 2, 1) := by decide +kernel
theorem dj_frm_30 : decode bj_frm 30 = .ok (.isub, 1) := by decide +kernel
theorem dj_frm_31 : decode bj_frm 31 = .ok (.invokestatic 112, 3) := by decide +kernel
theorem dj_frm_34 : decode bj_frm 34 = .ok (.aload_n 1, 1) := by decide +kernel
theorem dj_frm_35 : decode bj_frm 35 = .ok (.aload_n 0, 1) := by decide +kernel
theorem dj_frm_36 : decode bj_frm 36 = .ok (.iload_n 3, 1) := by decide +kernel
theorem dj_frm_37 : decode bj_frm 37 = .ok (.dup_x1, 1) := by decide +kernel
theorem dj_frm_38 : decode bj_frm 38 = .ok (.putfield 48, 3) := by decide +kernel
theorem dj_frm_41 : decode bj_frm 41 = .ok (.aconst_null, 1) := by decide +kernel
theorem dj_frm_42 : decode bj_frm 42 = .ok (.aastore, 1) := by decide +kernel
theorem dj_frm_43 : decode bj_frm 43 = .ok (.return_, 1) := by decide +kernel
def yj_ci : MethodName := ⟨"java/util/Arrays", "copyOf", "([II)[I"⟩
abbrev bj_ci : ByteArray := prog_26_method_123_code
theorem dj_ci_0 : decode bj_ci 0 = .ok (.iload_n 1, 1) := by decide +kernel
theorem dj_ci_1 : decode bj_ci 1 = .ok (.aload_n 0, 1) := by decide +kernel
theorem dj_ci_2 : decode bj_ci 2 = .ok (.arraylength, 1) := by decide +kernel
theorem dj_ci_3 : decode bj_ci 3 = .ok (.if_icmp .ne 11, 3) := by decide +kernel
theorem dj_ci_6 : decode bj_ci 6 = .ok (.aload_n 0, 1) := by decide +kernel
theorem dj_ci_7 : decode bj_ci 7 = .ok (.invokevirtual 316, 3) := by decide +kernel
theorem dj_ci_10 : decode bj_ci 10 = .ok (.checkcast 317, 3) := by decide +kernel
theorem dj_ci_13 : decode bj_ci 13 = .ok (.areturn, 1) := by decide +kernel
theorem dj_ci_14 : decode bj_ci 14 = .ok (.iload_n 1, 1) := by decide +kernel
theorem dj_ci_15 : decode bj_ci 15 = .ok (.newarray .int, 2) := by decide +kernel
theorem dj_ci_17 : decode bj_ci 17 = .ok (.astore_n 2, 1) := by decide +kernel
theorem dj_ci_18 : decode bj_ci 18 = .ok (.aload_n 0, 1) := by decide +kernel
theorem dj_ci_19 : decode bj_ci 19 = .ok (.iconst 0, 1) := by decide +kernel
theorem dj_ci_20 : decode bj_ci 20 = .ok (.aload_n 2, 1) := by decide +kernel
theorem dj_ci_21 : decode bj_ci 21 = .ok (.iconst 0, 1) := by decide +kernel
theorem dj_ci_22 : decode bj_ci 22 = .ok (.aload_n 0, 1) := by decide +kernel
theorem dj_ci_23 : decode bj_ci 23 = .ok (.arraylength, 1) := by decide +kernel
theorem dj_ci_24 : decode bj_ci 24 = .ok (.iload_n 1, 1) := by decide +kernel
theorem dj_ci_25 : decode bj_ci 25 = .ok (.invokestatic 304, 3) := by decide +kernel
theorem dj_ci_28 : decode bj_ci 28 = .ok (.invokestatic 150, 3) := by decide +kernel
theorem dj_ci_31 : decode bj_ci 31 = .ok (.aload_n 2, 1) := by decide +kernel
theorem dj_ci_32 : decode bj_ci 32 = .ok (.areturn, 1) := by decide +kernel
def yj_ini : MethodName := ⟨"java/util/ArrayList", "<init>", "()V"⟩
abbrev bj_ini : ByteArray := prog_25_method_2_code
theorem dj_ini_0 : decode bj_ini 0 = .ok (.aload_n 0, 1) := by decide +kernel
theorem dj_ini_1 : decode bj_ini 1 = .ok (.invokespecial 1, 3) := by decide +kernel
theorem dj_ini_4 : decode bj_ini 4 = .ok (.aload_n 0, 1) := by decide +kernel
theorem dj_ini_5 : decode bj_ini 5 = .ok (.getstatic 39, 3) := by decide +kernel
theorem dj_ini_8 : decode bj_ini 8 = .ok (.putfield 9, 3) := by decide +kernel
theorem dj_ini_11 : decode bj_ini 11 = .ok (.return_, 1) := by decide +kernel
def yj_aini : MethodName := ⟨"java/util/AbstractList", "<init>", "()V"⟩
abbrev bj_aini : ByteArray := prog_24_method_1_code
theorem dj_aini_0 : decode bj_aini 0 = .ok (.aload_n 0, 1) := by decide +kernel
theorem dj_aini_1 : decode bj_aini 1 = .ok (.invokespecial 1, 3) := by decide +kernel
theorem dj_aini_4 : decode bj_aini 4 = .ok (.aload_n 0, 1) := by decide +kernel
theorem dj_aini_5 : decode bj_aini 5 = .ok (.iconst 0, 1) := by decide +kernel
theorem dj_aini_6 : decode bj_aini 6 = .ok (.putfield 7, 3) := by decide +kernel
theorem dj_aini_9 : decode bj_aini 9 = .ok (.return_, 1) := by decide +kernel
theorem wc_rem : Cond.code yj_rem bj_rem 4 (some (.object "java/lang/Object")) ∈ pw_g := pw_wd pw_tb4 155 (by decide +kernel) (by decide +kernel)
theorem wc_frm : Cond.code yj_frm bj_frm 4 (none) ∈ pw_g := pw_wd pw_tb4 159 (by decide +kernel) (by decide +kernel)
theorem wc_ci : Cond.code yj_ci bj_ci 3 (some (.array .int)) ∈ pw_g := pw_wd pw_tb3 145 (by decide +kernel) (by decide +kernel)
theorem wx_rem : Cond.selects "java/util/ArrayList" ⟨"java/util/List", "remove", "(I)Ljava/lang/Object;"⟩ yj_rem ∈ pw_g := pw_wd pw_tb4 151 (by decide +kernel) (by decide +kernel)
theorem wi_rem : Cond.instanceMethod yj_rem ∈ pw_g := pw_wd pw_tb4 153 (by decide +kernel) (by decide +kernel)
theorem wi_frm : Cond.instanceMethod yj_frm ∈ pw_g := pw_wd pw_tb4 158 (by decide +kernel) (by decide +kernel)
theorem ws_ci : Cond.static yj_ci ∈ pw_g := pw_wd pw_tb3 144 (by decide +kernel) (by decide +kernel)
theorem wl_frm_144 : Cond.methodLink "java/util/ArrayList" 144 yj_frm ∈ pw_g := pw_wd pw_tb4 156 (by decide +kernel) (by decide +kernel)
theorem wv_frm : Cond.selects "java/util/ArrayList" yj_frm yj_frm ∈ pw_g := pw_wp 37 (q := (yj_frm, 3)) (by decide +kernel) (by decide +kernel)
theorem wac_l2 : Cond.methodLink "java/util/ArrayList" 112 arraycopyName ∈ pw_g := pw_wd pw_tb4 160 (by decide +kernel) (by decide +kernel)
section PK
variable {l : Launch} {g : pw_G}
/-- without the one at i -/
abbrev pj_rm (f : Nat → Option Nat) (n i : Nat) : Nat → Option Nat := va_up (fun j => if i ≤ j ∧ j < n - 1 then f (j + 1) else f j) (n - 1) none
abbrev pj_RP (g : pw_G) (aL aB cap : Nat) (mc : Int32) (f : Nat → Option Nat) (n i : Nat) (st t : State) : Prop := t.heap[aB]? = some (vp_cell (g.2.1 5) (cap, .inr (.inr (.inr (.inr (pj_rm f n i)))))) ∧ va_at g.1 pw_cl (aL, .inr (9, [.int (mc + 1), .ref aB, .int (nI (n - 1))])) t.heap ∧ ∀ q : Nat, q < st.heap.size → q ≠ aL → q ≠ aB → t.heap[q]? = st.heap[q]?
set_option maxHeartbeats 2000000 in
theorem jc_frm {aL aB cap n i : Nat} {mc : Int32} {f : Nat → Option Nat} {C : String} (hC : Cond.castable C "java/lang/Object" ∈ pw_hw) (hi : i < n) (hn : n ≤ cap) (hcap : cap < 1048576) (hBL : g.2.2.2.1 ≤ aL) (hBA : g.2.2.2.1 ≤ aB) (hne : aL ≠ aB) (hfL : ∀ i, i < cap → f i ≠ some aL) :
    Met l yj_frm (Cond.code yj_frm bj_frm 4 none :: pw_g) { frames := 1, cells := 0, slots := 0, locals := 60 } (va_Pc [.ref aL, .ref aB, .int (nI i)] (pj_PF g aL aB cap mc (nI n) f C))
    (fun _ st o t => o = .returned none ∧ pj_RP g aL aB cap mc f n i st t) 0 0 (pw_A g) := by
  refine Met.ofW (cc := bj_frm) (maxL := 4) (ret := none) (by decide +kernel) rfl ?_
  intro p e s m args below meth c s₁ B hml hv
  obtain ⟨rfl, hPF⟩ := hv
  have hx := B.exec
  have hb := B.bytes
  have hr := B.returns
  have hlocks := B.notSynchronized
  have hts : ∀ w ∈ pw_g, w.before ([.ref aL, .ref aB, .int (nI i)]).toArray s = true := fun w hw => atoms_spec (ws := Cond.code yj_frm bj_frm 4 (none) :: pw_g) B.pre w (List.mem_cons_of_mem _ hw)
  have hown : s.vm.findClass "java/util/ArrayList" = some m.cls := findClass_of_methodNamed B.named
  rw [lg_entry_eq]
  have hl := lv_entry ([.ref aL, .ref aB, .int (nI i)]) (n := 4) (Nat.le_of_ble_eq_true rfl)
  generalize (lg_sl ([.ref aL, .ref aB, .int (nI i)]) ++ List.replicate (4 - (lg_sl ([.ref aL, .ref aB, .int (nI i)])).length) Slot.unset).toArray = ls at hl ⊢
  have hl : lv_has ls 4 [(0, .ref aL), (1, .ref aB), (2, .int (nI i))] := hl
  obtain ⟨hP, hK, hel, hb0⟩ := id hPF
  have tail : ∀ (H2 : Heap) (locs2 : List Loc) (f2 : Nat → Option Nat) (ls : Array Slot), lv_has ls 4 [(3, .int (nI (n - 1))), (0, .ref aL), (1, .ref aB), (2, .int (nI i))] → va_up f2 (n - 1) none = pj_rm f n i → va_P g.1 pw_cl (pj_ws g aL aB cap (mc + 1) (nI n) f2) H2 → va_S (fun q => q = aB ∨ q = aL) s.heap H2 locs2 → W p l e { frames := 1, cells := 0, slots := 0, locals := 60 } s m ([.ref aL, .ref aB, .int (nI i)]).toArray below meth c H2 locs2 0 0 (MQ below (fun _ st o t => o = .returned none ∧ pj_RP g aL aB cap mc f n i st t) ([.ref aL, .ref aB, .int (nI i)]).toArray s 0 0 (pw_A g)) (F0 m 34 ls []) := by
    intro H2 locs2 f2 ls hl hf2 hP2 hS2
    refine lv_aload_n hx hb dj_frm_34 rfl (lv_at hl 2 rfl) ?_
    refine lv_aload_n hx hb dj_frm_35 rfl (lv_at hl 1 rfl) ?_
    refine lv_iload_n hx hb dj_frm_36 rfl (lv_at hl 0 rfl) ?_
    refine lv_dup_x1 hx hb dj_frm_37 rfl rfl ?_
    refine pj_put hx hb hts hown hK.1 (hP2 0 _ rfl) 2 (by decide) "java/util/ArrayList" wf_48 (fun _ h => h) rfl rfl (by show 2 < 3; decide) dj_frm_38 (fun H3 l0 q1 q2 q3 q4 => ?_)
    have hP3 : va_P g.1 pw_cl (pj_ws g aL aB cap (mc + 1) (nI (n - 1)) f2) H3 := pw_P2j q2 (pj_kept (hP2 1 _ rfl) (q4 aB (Ne.symm hne)))
    have hS3 : va_S (fun q => q = aB ∨ q = aL) s.heap H3 (locs2 ++ [l0]) := ⟨by rw [q3]; exact hS2.1, fun q h1 h2 => by rw [q4 q (fun e => h2 (Or.inr e))]; exact hS2.2.1 q h1 h2, fun q h => (List.mem_append.mp h).elim (hS2.2.2 q) (fun h => by rw [List.mem_singleton] at h; rw [h]; exact Or.inr q1)⟩
    have hD3 : va_D (fun q => q = aB ∨ q = aL) (pj_ws g aL aB cap (mc + 1) (nI (n - 1)) f2) := ⟨fun i j a b h1 h2 h3 => by
      have a1 : i < 2 := (List.getElem?_eq_some_iff.mp h1).1
      have a2 : j < 2 := (List.getElem?_eq_some_iff.mp h2).1
      have c1 : i = 0 ∨ i = 1 := by omega
      have c2 : j = 0 ∨ j = 1 := by omega
      rcases c1 with rfl | rfl <;> rcases c2 with rfl | rfl <;> cases h1 <;> cases h2
      · rfl
      · exact absurd h3 hne
      · exact absurd h3.symm hne
      · rfl, fun k q h => by
      have a1 : k < 2 := (List.getElem?_eq_some_iff.mp h).1
      have c1 : k = 0 ∨ k = 1 := by omega
      rcases c1 with rfl | rfl <;> cases h
      · exact Or.inr rfl
      · exact Or.inl rfl⟩
    refine lv_null hx hb dj_frm_41 ?_
    have ei : pw_i (nI (n - 1)) = n - 1 := nI_clamp (by omega)
    refine va_astqN hx hb hK.1 hP3 hD3 hS3 1 5 (C := "java/lang/Object") rfl rfl (pw_jn.vp ⟨nI_pos' (by omega), by rw [ei]; omega⟩) dj_frm_42 (fun H4 locs4 hP4 hD4 hS4 => ?_)
    have hB4 : H4[aB]? = some (vp_cell (g.2.1 5) (cap, .inr (.inr (.inr (.inr (va_up f2 (nI (n - 1)).toNatClampNeg none)))))) := hP4 1 _ rfl
    have hL4 : va_at g.1 pw_cl (aL, .inr (9, [.int (mc + 1), .ref aB, .int (nI (n - 1))])) H4 := hP4 0 _ rfl
    rw [show (nI (n - 1)).toNatClampNeg = n - 1 from ei, hf2] at hB4
    exact W.vret hx hb hr (fun t' ht _ => ⟨rfl, by rw [ht]; exact hB4, by rw [ht]; exact hL4, fun q h1 h2 h3 => by rw [ht]; exact hS4.2.1 q h1 (fun z => z.elim h3 h2)⟩) (fun q h => (hS4.2.2 q h).elim (fun z => by rw [z]; exact hBA) (fun z => by rw [z]; exact hBL)) dj_frm_43 hlocks
  refine lv_aload_n hx hb dj_frm_0 rfl (lv_at hl 0 rfl) ?_
  refine lv_dup hx hb dj_frm_1 rfl ?_
  refine va_get hx hb hts pw_i9g hown hK.1 hP 0 rfl rfl 0 (by decide) (hts _ wf_63) (u_same (hts _ wsf)) (v := .int mc) rfl dj_frm_2 ?_
  refine lv_iconst (v := 1) hx hb dj_frm_5 (by decide) ?_
  refine lv_iadd hx hb dj_frm_6 ?_
  refine pj_put hx hb hts hown hK.1 (hP 0 _ rfl) 0 (by decide) "java/util/ArrayList" wf_63 (u_same (hts _ wsf)) rfl rfl (by show 0 < 3; decide) dj_frm_7 (fun H1 l0 q1 q2 q3 q4 => ?_)
  have hP1 : va_P g.1 pw_cl (pj_ws g aL aB cap (mc + 1) (nI n) f) H1 := pw_P2j q2 (pj_kept (hP 1 _ rfl) (q4 aB (Ne.symm hne)))
  have hS1 : va_S (fun q => q = aB ∨ q = aL) s.heap H1 ([] ++ [l0]) := ⟨by rw [q3]; exact Nat.le_refl _, fun q h1 h2 => q4 q (fun e => h2 (Or.inr e)), fun q h => by rw [List.nil_append, List.mem_singleton] at h; rw [h]; exact Or.inr q1⟩
  refine lv_aload_n hx hb dj_frm_10 rfl (lv_at hl 0 rfl) ?_
  refine va_get hx hb hts pw_i9g hown hK.1 hP1 0 rfl rfl 2 (by decide) (hts _ wf_48) (fun _ h => h) (v := .int (nI n)) rfl dj_frm_11 ?_
  refine lv_iconst (v := 1) hx hb dj_frm_14 (by decide) ?_
  refine lv_isub hx hb dj_frm_15 ?_
  rw [show nI n - 1 = nI (n - 1) from pk_sub (a := n) (b := 1) (by omega)]
  refine lv_dup hx hb dj_frm_16 rfl ?_
  refine lv_istore_n (lv' := [(3, .int (nI (n - 1))), (0, .ref aL), (1, .ref aB), (2, .int (nI i))]) hx hb dj_frm_17 rfl hl (by decide) rfl (fun ls hl => ?_)
  refine lv_iload_n hx hb dj_frm_18 rfl (lv_at hl 3 rfl) ?_
  refine lv_icmp_le (tgt := 34) hx hb dj_frm_19 (by decide) (fun q => ?_) (fun q => ?_)
  · have hq := (nI_leI (by omega) (by omega)).mp q
    refine tail H1 _ f ls hl ?_ hP1 hS1
    funext j
    show (if j = n - 1 then none else f j) = (if j = n - 1 then none else if i ≤ j ∧ j < n - 1 then f (j + 1) else f j)
    by_cases c : j = n - 1
    · rw [if_pos c, if_pos c]
    · rw [if_neg c, if_neg c, if_neg (by omega)]
  · have hq : ¬ n - 1 ≤ i := fun h => q ((nI_leI (by omega) (by omega)).mpr h)
    refine lv_aload_n hx hb dj_frm_22 rfl (lv_at hl 2 rfl) ?_
    refine lv_iload_n hx hb dj_frm_23 rfl (lv_at hl 3 rfl) ?_
    refine lv_iconst (v := 1) hx hb dj_frm_24 (by decide) ?_
    refine lv_iadd hx hb dj_frm_25 ?_
    refine lv_aload_n hx hb dj_frm_26 rfl (lv_at hl 2 rfl) ?_
    refine lv_iload_n hx hb dj_frm_27 rfl (lv_at hl 3 rfl) ?_
    refine lv_iload_n hx hb dj_frm_28 rfl (lv_at hl 0 rfl) ?_
    refine lv_iload_n hx hb dj_frm_29 rfl (lv_at hl 3 rfl) ?_
    refine lv_isub hx hb dj_frm_30 ?_
    rw [show nI i + 1 = nI (i + 1) from nI_1 i, show nI (n - 1) - nI i = nI (n - 1 - i) from pk_sub (by omega)]
    have e1 : (nI (i + 1)).toNatClampNeg = i + 1 := nI_clamp (by omega)
    have e2 : (nI i).toNatClampNeg = i := nI_clamp (by omega)
    have e3 : (nI (n - 1 - i)).toNatClampNeg = n - 1 - i := nI_clamp (by omega)
    have hD1 : va_D (fun q => q = aB ∨ q = aL) (pj_ws g aL aB cap (mc + 1) (nI n) f) := ⟨fun i j a b h1 h2 h3 => by
      have a1 : i < 2 := (List.getElem?_eq_some_iff.mp h1).1
      have a2 : j < 2 := (List.getElem?_eq_some_iff.mp h2).1
      have c1 : i = 0 ∨ i = 1 := by omega
      have c2 : j = 0 ∨ j = 1 := by omega
      rcases c1 with rfl | rfl <;> rcases c2 with rfl | rfl <;> cases h1 <;> cases h2
      · rfl
      · exact absurd h3 hne
      · exact absurd h3.symm hne
      · rfl, fun k q h => by
      have a1 : k < 2 := (List.getElem?_eq_some_iff.mp h).1
      have c1 : k = 0 ∨ k = 1 := by omega
      rcases c1 with rfl | rfl <;> cases h
      · exact Or.inr rfl
      · exact Or.inl rfl⟩
    refine va_copyq (E0 := "java/lang/Object") (E1 := "java/lang/Object") (C := C) hx hb (by rw [hml]; exact hl.1.symm) hown (hts _ wac_l2) (hts _ wac_n) (hts _ wac_s) (hts _ wn_sys) hK.1 hP1 hD1 hS1 1 1 5 5 rfl rfl rfl rfl (nI_pos (by omega)) (nI_pos (by omega)) (nI_pos (by omega)) (by rw [e1, e3]; omega) (by rw [e2, e3]; omega) (fun k hk y hy => by
        rw [e3] at hk
        rw [e1] at hy
        obtain ⟨cV, g1, g2, g3⟩ := hel (i + 1 + k) (by omega) y hy
        exact ⟨cV, by rw [q4 y (fun e => hfL (i + 1 + k) (by omega) (by rw [hy, e]))]; exact g1, g2, g3⟩) (fun comp c1 h1 h2 => pj_castO hK hC h1 h2) (Nat.le_refl 1) (by show _ ≤ 60; decide) dj_frm_31 (fun H2 locs2 hP2 hD2 hS2 => ?_)
    refine tail H2 locs2 _ ls hl ?_ hP2 hS2
    rw [e1, e2, e3]
    funext j
    show (if j = n - 1 then none else va_cpy f f (i + 1) i (n - 1 - i) j) = (if j = n - 1 then none else if i ≤ j ∧ j < n - 1 then f (j + 1) else f j)
    unfold va_cpy
    by_cases c : j = n - 1
    · rw [if_pos c, if_pos c]
    · rw [if_neg c, if_neg c]
      by_cases c2 : i ≤ j ∧ j < n - 1
      · rw [if_pos c2, if_pos (by omega), show i + 1 + (j - i) = j + 1 by omega]
      · rw [if_neg c2, if_neg (by omega)]
set_option maxHeartbeats 2000000 in
theorem jc_rem {aL aB cap n i : Nat} {mc : Int32} {f : Nat → Option Nat} {C : String} (hC : Cond.castable C "java/lang/Object" ∈ pw_hw) (hi : i < n) (hn : n ≤ cap) (hcap : cap < 1048576) (hBL : g.2.2.2.1 ≤ aL) (hBA : g.2.2.2.1 ≤ aB) (hne : aL ≠ aB) (hfL : ∀ i, i < cap → f i ≠ some aL) :
    Met l yj_rem (Cond.code yj_rem bj_rem 4 (some (.object "java/lang/Object")) :: pw_g) { frames := 2, cells := 0, slots := 0, locals := 83 } (va_Pc [.ref aL, .int (nI i)] (pj_PF g aL aB cap mc (nI n) f C))
    (fun _ st o t => o = .returned (some (va_rf (f i))) ∧ pj_RP g aL aB cap mc f n i st t) 0 0 (pw_A g) := by
  refine Met.ofW (cc := bj_rem) (maxL := 4) (ret := some (.object "java/lang/Object")) (by decide +kernel) rfl ?_
  intro p e s m args below meth c s₁ B hml hv
  obtain ⟨rfl, hPF⟩ := hv
  have hx := B.exec
  have hb := B.bytes
  have hr := B.returns
  have hlocks := B.notSynchronized
  have hts : ∀ w ∈ pw_g, w.before ([.ref aL, .int (nI i)]).toArray s = true := fun w hw => atoms_spec (ws := Cond.code yj_rem bj_rem 4 (some (.object "java/lang/Object")) :: pw_g) B.pre w (List.mem_cons_of_mem _ hw)
  have hown : s.vm.findClass "java/util/ArrayList" = some m.cls := findClass_of_methodNamed B.named
  rw [lg_entry_eq]
  have hl := lv_entry ([.ref aL, .int (nI i)]) (n := 4) (Nat.le_of_ble_eq_true rfl)
  generalize (lg_sl ([.ref aL, .int (nI i)]) ++ List.replicate (4 - (lg_sl ([.ref aL, .int (nI i)])).length) Slot.unset).toArray = ls at hl ⊢
  have hl : lv_has ls 4 [(0, .ref aL), (1, .int (nI i))] := hl
  obtain ⟨hP, hK, hel, hb0⟩ := id hPF
  refine lv_iload_n hx hb dj_rem_0 rfl (lv_at hl 1 rfl) ?_
  refine lv_aload_n hx hb dj_rem_1 rfl (lv_at hl 0 rfl) ?_
  refine va_get hx hb hts pw_i9g hown hK.1 hP 0 rfl rfl 2 (by decide) (hts _ wf_48) (fun _ h => h) (v := .int (nI n)) rfl dj_rem_2 ?_
  refine pj_after (va_runS (As := [.int (nI i), .int (nI n)]) (rest := []) (Ts := pw_g) (own := "java/util/ArrayList") (index := 118) ⟨hx, hb, hml, hown, hts⟩ (jc_oci (nI_pos' (by omega)) (nI_lt hi (by omega))) (va_cwS 2 hts (pw_gi (pw_mc wl_oci_118 (pw_mc ws_oci (pw_mc wn_obj (pw_mc wc_oci (fun w h => h)))))) rfl rfl rfl (by decide +kernel) ⟨by show 2 ≤ 2; decide, by show 43 ≤ 83; decide⟩) ⟨fun a U gf mk h => h, fun U hU hW => ⟨rfl, trivial⟩⟩ rfl rfl hl.1 rfl (Nat.le_of_ble_eq_true rfl) dj_rem_5 ⟨Nat.zero_le _, Nat.zero_le _⟩) ?_
  rintro v st₀ t L hh hA hL ⟨r, hv, rfl, ht⟩
  cases hv
  rw [ht, hh, show L = [] from List.eq_nil_iff_forall_not_mem.mpr fun q hq => hL q hq]
  have ei : pw_i (nI i) = i := nI_clamp (by omega)
  refine lv_pop hx hb dj_rem_8 rfl ?_
  refine lv_aload_n hx hb dj_rem_9 rfl (lv_at hl 0 rfl) ?_
  refine va_get hx hb hts pw_i9g hown hK.1 hP 0 rfl rfl 1 (by decide) (hts _ wf_9) (fun _ h => h) (v := .ref aB) rfl dj_rem_10 ?_
  refine lv_astore_n (lv' := [(2, .ref aB), (0, .ref aL), (1, .int (nI i))]) hx hb dj_rem_13 rfl hl (by decide) rfl (fun ls hl => ?_)
  refine lv_aload_n hx hb dj_rem_14 rfl (lv_at hl 0 rfl) ?_
  refine lv_iload_n hx hb dj_rem_15 rfl (lv_at hl 2 rfl) ?_
  refine va_aldq hx hb hK.1 hP 1 5 rfl (C := "java/lang/Object") rfl (pw_jn.vp ⟨nI_pos' (by omega), by rw [ei]; omega⟩) dj_rem_16 ?_
  rw [show (nI i).toNatClampNeg = i from ei]
  have key : ∀ ls : Array Slot, lv_has ls 4 [(3, va_rf (f i)), (2, .ref aB), (0, .ref aL), (1, .int (nI i))] → W p l e { frames := 2, cells := 0, slots := 0, locals := 83 } s m ([.ref aL, .int (nI i)]).toArray below meth c s.heap ([] ++ []) (0 + 0) (0 + 0) (MQ below (fun _ st o t => o = .returned (some (va_rf (f i))) ∧ pj_RP g aL aB cap mc f n i st t) ([.ref aL, .int (nI i)]).toArray s 0 0 (pw_A g)) (F0 m 18 ls []) := by
    intro ls hl
    refine lv_aload_n hx hb dj_rem_18 rfl (lv_at hl 2 rfl) ?_
    refine lv_aload_n hx hb dj_rem_19 rfl (lv_at hl 1 rfl) ?_
    refine lv_iload_n hx hb dj_rem_20 rfl (lv_at hl 3 rfl) ?_
    refine pj_after (va_runV (As := [.ref aB, .int (nI i)]) (rest := []) (Ts := pw_g) (own := "java/util/ArrayList") (index := 144) (C := "java/util/ArrayList") ⟨hx, hb, hml, hown, hts⟩ (jc_frm (mc := mc) hC hi hn hcap hBL hBA hne hfL) (cwV 2 hts (pw_gi (pw_mc wl_frm_144 (pw_mc wi_frm (pw_mc wv_frm (pw_mc wn_al (pw_mc wc_frm (fun w h => h))))))) rfl rfl rfl (by decide +kernel) ⟨Nat.le_refl 2, Nat.le_refl 83⟩) ⟨fun a U gf mk h => ⟨h.1, h.2.calling⟩, va_recv hK.1 hP (ci := 9) (q0 := 0) rfl rfl, fun U hU hW => ⟨rfl, hPF.go hW hU⟩⟩ rfl rfl hl.1 rfl (Nat.le_of_ble_eq_true rfl) dj_rem_21 ⟨Nat.le_of_eq (Nat.zero_add _), Nat.le_of_eq (Nat.zero_add _)⟩) ?_
    rintro v9 st₀ t L hh hA hL ⟨hv, p2, p3, p4⟩
    cases hv
    rw [hh] at p4
    have hfin : ∀ v, (v = .null ∨ ∃ a, v = .ref a) → v = va_rf (f i) → W p l e { frames := 2, cells := 0, slots := 0, locals := 83 } s m ([.ref aL, .int (nI i)]).toArray below meth c t.heap ([] ++ [] ++ L) (0 + 0 + 0) (0 + 0 + 0) (MQ below (fun _ st o t => o = .returned (some (va_rf (f i))) ∧ pj_RP g aL aB cap mc f n i st t) ([.ref aL, .int (nI i)]).toArray s 0 0 (pw_A g)) (F0 m 25 ls [v]) := fun v h1 h2 =>
      W.aret hx hb hr (Or.inl ⟨_, rfl⟩) h1 (fun t' ht _ => ⟨by rw [h2], by rw [ht]; exact p2, by rw [ht]; exact p3, fun q h1 h2 h3 => by rw [ht]; exact p4 q h1 h2 h3⟩) (fun q h => hL q (by simpa using h)) dj_rem_25 hlocks
    have h3 := lv_at hl 0 rfl
    obtain e | ⟨a, e⟩ : va_rf (f i) = .null ∨ ∃ a, va_rf (f i) = .ref a := by
      cases f i with
      | none => exact Or.inl rfl
      | some a => exact Or.inr ⟨a, rfl⟩
    · rw [e] at h3 hfin ⊢
      exact lv_aload_nN hx hb dj_rem_24 rfl h3 (hfin _ (Or.inl rfl) rfl)
    · rw [e] at h3 hfin ⊢
      exact lv_aload_n hx hb dj_rem_24 rfl h3 (hfin _ (Or.inr ⟨_, rfl⟩) rfl)
  obtain e | ⟨a, e⟩ : va_rf (f i) = .null ∨ ∃ a, va_rf (f i) = .ref a := by
    cases f i with
    | none => exact Or.inl rfl
    | some a => exact Or.inr ⟨a, rfl⟩
  · rw [e] at key ⊢
    exact lv_astore_nN (lv' := [(3, .null), (2, .ref aB), (0, .ref aL), (1, .int (nI i))]) hx hb dj_rem_17 rfl hl (by decide) rfl (fun ls hl => key ls hl)
  · rw [e] at key ⊢
    exact lv_astore_n (lv' := [(3, .ref a), (2, .ref aB), (0, .ref aL), (1, .int (nI i))]) hx hb dj_rem_17 rfl hl (by decide) rfl (fun ls hl => key ls hl)

end PK
