def yj_cini : MethodName := ⟨"java/util/AbstractCollection", "<init>", "()V"⟩
abbrev bj_cini : ByteArray := prog_23_method_1_code
theorem dj_cini_0 : decode bj_cini 0 = .ok (.aload_n 0, 1) := by decide +kernel
theorem dj_cini_1 : decode bj_cini 1 = .ok (.invokespecial 1, 3) := by decide +kernel
theorem dj_cini_4 : decode bj_cini 4 = .ok (.return_, 1) := by decide +kernel
theorem wc_ini : Cond.code yj_ini bj_ini 1 (none) ∈ pw_g := pw_wd pw_tb1 40 (by decide +kernel) (by decide +kernel)
theorem wc_aini : Cond.code yj_aini bj_aini 1 (none) ∈ pw_g := pw_wd pw_tb1 43 (by decide +kernel) (by decide +kernel)
theorem wc_cini : Cond.code yj_cini bj_cini 1 (none) ∈ pw_g := pw_wd pw_tb1 46 (by decide +kernel) (by decide +kernel)
theorem wi_ini : Cond.instanceMethod yj_ini ∈ pw_g := pw_wd pw_tb1 39 (by decide +kernel) (by decide +kernel)
theorem wi_aini : Cond.instanceMethod yj_aini ∈ pw_g := pw_wd pw_tb1 42 (by decide +kernel) (by decide +kernel)
theorem wi_cini : Cond.instanceMethod yj_cini ∈ pw_g := pw_wd pw_tb1 45 (by decide +kernel) (by decide +kernel)
theorem wl_aini_1 : Cond.methodLink "java/util/ArrayList" 1 yj_aini ∈ pw_g := pw_wd pw_tb1 41 (by decide +kernel) (by decide +kernel)
theorem wl_cini_1 : Cond.methodLink "java/util/AbstractList" 1 yj_cini ∈ pw_g := pw_wd pw_tb1 44 (by decide +kernel) (by decide +kernel)
theorem wn_acl : Cond.initialized "java/util/AbstractCollection" ∈ pw_g := pw_wd pw_tb1 2 (by decide +kernel) (by decide +kernel)
theorem wn_abl : Cond.initialized "java/util/AbstractList" ∈ pw_g := pw_wd pw_tb1 3 (by decide +kernel) (by decide +kernel)
theorem woi_l : Cond.methodLink "java/util/AbstractCollection" 1 Lib.objectInit ∈ pw_g := pw_wd pw_tb1 47 (by decide +kernel) (by decide +kernel)
theorem woi_i : Cond.instanceMethod Lib.objectInit ∈ pw_g := pw_wd pw_tb1 30 (by decide +kernel) (by decide +kernel)
theorem woi_c : Cond.code Lib.objectInit ⟨#[0xb1]⟩ 1 none ∈ pw_g := pw_wd pw_tb1 31 (by decide +kernel) (by decide +kernel)
theorem wf_7 : Cond.fieldLink "java/util/AbstractList" 7 "java/util/AbstractList" "modCount" "I" ∈ pw_g := pw_wd pw_tb1 52 (by decide +kernel) (by decide +kernel)
section PM
variable {l : Launch} {g : pw_G}
theorem pj_putO {p : Program} {e : Env} {R : Room} {s : State} {m : MethodId} {args : Array Value} {below : List Frame} {meth : Method} {c : Code} {H : Heap} {locs : List Loc} {cells slots pc : Nat} {Q : State → Prop} {ls : Array Slot} {rest : List Value} {cc : ByteArray} {index a : Nat} {v : Value} {fs : List Value} {own : String}
    (hx : p.tables.exec = Jvm.exec) (hb : c.code = cc) (hts : ∀ w ∈ pw_g, w.before args s = true) (hown : s.vm.findClass own = some m.cls) (hK : va_K g.1 pw_cl (pw_tys g) s) (hP : va_at g.1 pw_cl (a, .inr (9, fs)) H) (k : Nat) (hk : k < 3) (ref : String) (hl : Cond.fieldLink own index ref (pw_T9 k).2.1 (pw_T9 k).2.2.1 ∈ pw_g)
    (hsame : ∀ x, s.fieldFound? (pw_T9 k).1 (pw_T9 k).2.1 (pw_T9 k).2.2.1 = some x → s.fieldFound? ref (pw_T9 k).2.1 (pw_T9 k).2.2.1 = some x) (hn : narrow (pw_t9 k) v = v) (hfit : fits (pw_t9 k) v = true) (hlen : k < fs.length) (hdg : decode cc pc = .ok (.putfield index, 3))
    (kk : ∀ (H1 : Heap) (l0 : Loc), l0.base = a → va_at g.1 pw_cl (a, .inr (9, fs.set k v)) H1 → H1.size = H.size → (∀ q : Nat, q ≠ a → H1[q]? = H[q]?) → W p l e R s m args below meth c H1 (locs ++ [l0]) cells slots Q (F0 m (pc + 3) ls rest)) : W p l e R s m args below meth c H locs cells slots Q (F0 m pc ls (v :: .ref a :: rest)) := by
  have hap := va_apart (own := "java/util/ArrayList") hts pw_i9g pw_t9 pw_o9 pw_n9 hK (ci := 9) rfl
  obtain ⟨r, h1, cell, q1, q2, q3, q4⟩ := hP
  have hr : r = (pw_R9, pw_T9, 3) := Option.some.inj (h1.symm.trans rfl)
  subst hr
  obtain ⟨hS, hfc, kC, hkC, hkind⟩ := hK.1 9 _ rfl
  obtain ⟨cf, kf, fi, f, hi, hsl⟩ := hS k hk
  have hlay := hts _ (pw_i9g _ (u_in_lay hk))
  unfold u_lay at hlay
  rw [if_neg (by have : k = 0 ∨ k = 1 ∨ k = 2 := by omega
                 rcases this with rfl | rfl | rfl <;> decide)] at hlay
  have hst := (u_facts hfc hkC (u_lays hts pw_i9g hk) hi).1
  have h6 := u_store hfc hkC hkind hlay hi (pw_o9 k hk) hn hfit
  refine W.putK hx hb (f := f) ⟨hown, hts _ hl, ⟨_, _, _, hsame _ hi⟩, hst⟩ (by rw [q2]; exact h6) q1 q3 (by rw [hsl]; exact k2_hasslot (q4 k hk)) rfl rfl hdg fun H' e1 e2 e3 => ?_
  rw [hsl] at e1 ⊢
  exact kk H' _ rfl ⟨_, rfl, t_OB.to (V := updV (vp_V fs) k v) ⟨_, e1, q2, q3, t_set q4 hap hk v⟩ (fun j _ => vp_updV_set hlen v j)⟩ e2 e3
set_option maxHeartbeats 1000000 in
theorem jc_cini {aL : Nat} : Met l yj_cini (Cond.code yj_cini bj_cini 1 none :: pw_g) { frames := 1, cells := 0, slots := 0, locals := 20 } (va_Pc [.ref aL] (fun _ => True)) (fun _ st o t => o = .returned none ∧ t.heap = st.heap) 0 0 (pw_A g) := by
  refine Met.ofW (cc := bj_cini) (maxL := 1) (ret := none) (by decide +kernel) rfl ?_
  intro p e s m args below meth c s₁ B hml hv
  obtain ⟨rfl, -⟩ := hv
  have hx := B.exec
  have hb := B.bytes
  have hr := B.returns
  have hlocks := B.notSynchronized
  have hts : ∀ w ∈ pw_g, w.before ([.ref aL]).toArray s = true := fun w hw => atoms_spec (ws := Cond.code yj_cini bj_cini 1 (none) :: pw_g) B.pre w (List.mem_cons_of_mem _ hw)
  have hown : s.vm.findClass "java/util/AbstractCollection" = some m.cls := findClass_of_methodNamed B.named
  rw [lg_entry_eq]
  have hl := lv_entry ([.ref aL]) (n := 1) (Nat.le_of_ble_eq_true rfl)
  generalize (lg_sl ([.ref aL]) ++ List.replicate (1 - (lg_sl ([.ref aL])).length) Slot.unset).toArray = ls at hl ⊢
  have hl : lv_has ls 1 [(0, .ref aL)] := hl
  refine lv_aload_n hx hb dj_cini_0 rfl (lv_at hl 0 rfl) ?_
  refine W.objInit hx hb hown (hts _ woi_l) (hts _ woi_i) (hts _ woi_c) rfl (by rw [hml]; exact hl.1) rfl dj_cini_1 (by show 1 ≤ 1; decide) (by show 2 * 0 + 0 + 12 ≤ 20; decide) ?_
  exact W.vret hx hb hr (fun t' ht _ => ⟨rfl, ht⟩) (fun q h => by cases h) dj_cini_4 hlocks
/-- a list's cell as it is made -/
abbrev pj_NP (g : pw_G) (aL : Nat) (x : Int32) (U : State) : Prop := va_at g.1 pw_cl (aL, .inr (9, [.int x, .null, .int 0])) U.heap ∧ pw_K g U U.heap ∧ g.2.2.2.1 ≤ aL
theorem pj_NP.calling {aL : Nat} {x : Int32} {U : State} {gf : JFrame} {mk : MethodId} {a : Array Value} (h : pj_NP g aL x U) : pj_NP g aL x (U.calling gf mk a) := ⟨h.1, pw_K.go (State.WarmedH.refl U) h.2.1 (fun _ _ _ => rfl), h.2.2⟩
set_option maxHeartbeats 1000000 in
theorem jc_aini {aL : Nat} : Met l yj_aini (Cond.code yj_aini bj_aini 1 none :: pw_g) { frames := 2, cells := 0, slots := 0, locals := 40 } (va_Pc [.ref aL] (pj_NP g aL 0)) (fun _ st o t => o = .returned none ∧ va_at g.1 pw_cl (aL, .inr (9, [.int 0, .null, .int 0])) t.heap ∧ t.heap.size = st.heap.size ∧ ∀ q : Nat, q ≠ aL → t.heap[q]? = st.heap[q]?) 0 0 (pw_A g) := by
  refine Met.ofW (cc := bj_aini) (maxL := 1) (ret := none) (by decide +kernel) rfl ?_
  intro p e s m args below meth c s₁ B hml hv
  obtain ⟨rfl, hP, hK, hbL⟩ := hv
  have hx := B.exec
  have hb := B.bytes
  have hr := B.returns
  have hlocks := B.notSynchronized
  have hts : ∀ w ∈ pw_g, w.before ([.ref aL]).toArray s = true := fun w hw => atoms_spec (ws := Cond.code yj_aini bj_aini 1 (none) :: pw_g) B.pre w (List.mem_cons_of_mem _ hw)
  have hown : s.vm.findClass "java/util/AbstractList" = some m.cls := findClass_of_methodNamed B.named
  rw [lg_entry_eq]
  have hl := lv_entry ([.ref aL]) (n := 1) (Nat.le_of_ble_eq_true rfl)
  generalize (lg_sl ([.ref aL]) ++ List.replicate (1 - (lg_sl ([.ref aL])).length) Slot.unset).toArray = ls at hl ⊢
  have hl : lv_has ls 1 [(0, .ref aL)] := hl
  refine lv_aload_n hx hb dj_aini_0 rfl (lv_at hl 0 rfl) ?_
  refine pj_after (va_runI (As := []) (rest := []) (Ts := pw_g) (own := "java/util/AbstractList") (index := 1) ⟨hx, hb, hml, hown, hts⟩ (jc_cini (g := g) (aL := aL)) (cwI 0 hts (pw_gi (pw_mc wc_cini (fun w h => h))) rfl rfl rfl (hts _ wn_acl) (hts _ wl_cini_1) (hts _ wi_cini) rfl (by decide +kernel) ⟨Nat.le_refl 2, Nat.le_refl 40⟩) ⟨fun a U gf mk h => h, fun U hU hW => ⟨rfl, trivial⟩⟩ rfl rfl hl.1 rfl (Nat.le_of_ble_eq_true rfl) dj_aini_1 ⟨Nat.le_of_eq (Nat.zero_add _), Nat.le_of_eq (Nat.zero_add _)⟩) ?_
  rintro v9 st₀ t L hh hA hL ⟨hv, ht⟩
  cases hv
  rw [hh] at ht
  rw [ht]
  refine lv_aload_n hx hb dj_aini_4 rfl (lv_at hl 0 rfl) ?_
  refine lv_iconst (v := 0) hx hb dj_aini_5 (by decide) ?_
  refine pj_putO hx hb hts hown hK.1 hP 0 (by decide) "java/util/AbstractList" wf_7 (fun _ h => h) rfl rfl (by show 0 < 3; decide) dj_aini_6 (fun H1 l0 q1 q2 q3 q4 => ?_)
  exact W.vret hx hb hr (fun t' ht' _ => ⟨rfl, by rw [ht']; exact q2, by rw [ht']; exact q3, fun q h => by rw [ht']; exact q4 q h⟩) (fun q h => by
    rcases List.mem_append.mp h with h | h
    · exact hL q (by simpa using h)
    · rw [List.mem_singleton] at h
      rw [h, q1]; exact hbL) dj_aini_9 hlocks
set_option maxHeartbeats 1000000 in
theorem jc_ini {aL : Nat} : Met l yj_ini (Cond.code yj_ini bj_ini 1 none :: pw_g) { frames := 3, cells := 0, slots := 0, locals := 60 } (va_Pc [.ref aL] (pj_NP g aL 0)) (fun _ st o t => o = .returned none ∧ va_at g.1 pw_cl (aL, .inr (9, [.int 0, .ref g.2.2.1, .int 0])) t.heap ∧ t.heap.size = st.heap.size ∧ ∀ q : Nat, q ≠ aL → t.heap[q]? = st.heap[q]?) 0 0 (pw_A g) := by
  refine Met.ofW (cc := bj_ini) (maxL := 1) (ret := none) (by decide +kernel) rfl ?_
  intro p e s m args below meth c s₁ B hml hv
  obtain ⟨rfl, hNP⟩ := hv
  have hx := B.exec
  have hb := B.bytes
  have hr := B.returns
  have hlocks := B.notSynchronized
  have hts : ∀ w ∈ pw_g, w.before ([.ref aL]).toArray s = true := fun w hw => atoms_spec (ws := Cond.code yj_ini bj_ini 1 (none) :: pw_g) B.pre w (List.mem_cons_of_mem _ hw)
  have hown : s.vm.findClass "java/util/ArrayList" = some m.cls := findClass_of_methodNamed B.named
  rw [lg_entry_eq]
  have hl := lv_entry ([.ref aL]) (n := 1) (Nat.le_of_ble_eq_true rfl)
  generalize (lg_sl ([.ref aL]) ++ List.replicate (1 - (lg_sl ([.ref aL])).length) Slot.unset).toArray = ls at hl ⊢
  have hl : lv_has ls 1 [(0, .ref aL)] := hl
  obtain ⟨hP, hK, hbL⟩ := id hNP
  refine lv_aload_n hx hb dj_ini_0 rfl (lv_at hl 0 rfl) ?_
  refine pj_after (va_runI (As := []) (rest := []) (Ts := pw_g) (own := "java/util/ArrayList") (index := 1) ⟨hx, hb, hml, hown, hts⟩ (jc_aini (g := g) (aL := aL)) (cwI 0 hts (pw_gi (pw_mc wc_aini (fun w h => h))) rfl rfl rfl (hts _ wn_abl) (hts _ wl_aini_1) (hts _ wi_aini) rfl (by decide +kernel) ⟨Nat.le_refl 3, Nat.le_refl 60⟩) ⟨fun a U gf mk h => ⟨h.1, h.2.calling⟩, fun U hU hW => ⟨rfl, by rw [hU]; exact hP, pj_kgo hW hK hU, hbL⟩⟩ rfl rfl hl.1 rfl (Nat.le_of_ble_eq_true rfl) dj_ini_1 ⟨Nat.le_of_eq (Nat.zero_add _), Nat.le_of_eq (Nat.zero_add _)⟩) ?_
  rintro v9 st₀ t L hh hA hL ⟨hv, p1, p2, p3⟩
  cases hv
  rw [hh] at p2 p3
  have hS : va_S (pw_A g) s.heap t.heap ([] ++ L) := ⟨Nat.le_of_eq p2.symm, fun q h1 h2 => p3 q (fun e => h2 (by rw [e]; exact hbL)), fun q h => hL q (by simpa using h)⟩
  refine lv_aload_n hx hb dj_ini_4 rfl (lv_at hl 0 rfl) ?_
  refine va_gets hx hb hK.2.2.2.1 hS hown (hts _ wf_39) (fun _ h => h) dj_ini_5 ?_
  refine pj_putO hx hb hts hown hK.1 p1 1 (by decide) "java/util/ArrayList" wf_9 (fun _ h => h) rfl rfl (by show 1 < 3; decide) dj_ini_8 (fun H1 l0 q1 q2 q3 q4 => ?_)
  exact W.vret hx hb hr (fun t' ht' _ => ⟨rfl, by rw [ht']; exact q2, by rw [ht', q3, p2], fun q h => by rw [ht', q4 q h, p3 q h]⟩) (fun q h => by
    rcases List.mem_append.mp h with h | h
    · exact hL q (by simpa using h)
    · rw [List.mem_singleton] at h
      rw [h, q1]; exact hbL) dj_ini_11 hlocks
end PM
