/-! the class's greater steps -/
section PZT
variable {sc : pz_S} {sq : pz_Q} {pa : pz_P} {ri : pz_N} {mp : pz_N} {ca : pz_P} {dr : pz_N} {pe : pz_Q} {U V : Nat} {w0 w : pw_W} {K : pw_W → Int32 → Prop} {X : pw_W → Nat → Prop} {x y z t v a b d : Int32} {s r c j n p q i k f u l : Nat}
theorem pz_ct_one {P P' : Nat → Prop} {s : Nat} : ∀ {n : Nat}, s < n → (∀ t, t < n → t ≠ s → (P t ↔ P' t)) → pz_ct P' n + pz_b (P s) = pz_ct P n + pz_b (P' s)
  | 0, h, _ => by omega
  | n + 1, h, e => by
    rw [pz_ctS, pz_ctS]
    by_cases q : s = n
    · subst q
      have : pz_ct P' s = pz_ct P s := by unfold pz_ct; rw [pz_cn_congr (fun r hr => (e r (by omega) (by omega)).symm)]
      rw [this, Int32.add_assoc, Int32.add_assoc, Int32.add_comm (pz_b (P' s))]
    · have ih := pz_ct_one (n := n) (by omega) (fun t ht hs => e t (by omega) hs)
      have hb : pz_b (P n) = pz_b (P' n) := by
        by_cases hp : P n
        · rw [pz_bt hp, pz_bt ((e n (by omega) (by omega)).mp hp)]
        · rw [pz_bf hp, pz_bf (fun z => hp ((e n (by omega) (by omega)).mpr z))]
      rw [Int32.add_assoc, Int32.add_comm (pz_b (P' n)), ← Int32.add_assoc, ih, Int32.add_assoc, Int32.add_comm (pz_b (P' s)), ← Int32.add_assoc, hb]
theorem pz_ct_more {P P' : Nat → Prop} {s n : Nat} (hs : s < n) (e : ∀ t, t < n → t ≠ s → (P t ↔ P' t)) (h1 : ¬ P s) (h2 : P' s) : pz_ct P n + 1 = pz_ct P' n := by
  have := pz_ct_one hs e
  rw [pz_bf h1, pz_bt h2, Int32.add_zero] at this
  exact this.symm
theorem pz_ct_less {P P' : Nat → Prop} {s n : Nat} (hs : s < n) (e : ∀ t, t < n → t ≠ s → (P t ↔ P' t)) (h1 : P s) (h2 : ¬ P' s) : pz_ct P n - 1 = pz_ct P' n := by
  have := pz_ct_one hs e
  rw [pz_bt h1, pz_bf h2, Int32.add_zero] at this
  rw [← this, Int32.add_sub_cancel]
theorem pz_ct_same {P P' : Nat → Prop} {n : Nat} (e : ∀ t, t < n → (P t ↔ P' t)) : pz_ct P n = pz_ct P' n := by unfold pz_ct; rw [pz_cn_congr e]
theorem pz_Ln_up {sq sq' : pz_Q} {s : Nat} : ∀ {n : Nat}, s < n → (∀ t, t < n → t ≠ s → sq'.1 14 t = sq.1 14 t) → pw_i (sq'.1 14 s) = pw_i (sq.1 14 s) + 1 → pz_Ln sq' n = pz_Ln sq n + 1
  | 0, h, _, _ => by omega
  | n + 1, h, e, e2 => by
    show pz_Ln sq' n + pw_i (sq'.1 14 n) = pz_Ln sq n + pw_i (sq.1 14 n) + 1
    by_cases q : s = n
    · subst q
      rw [pz_Ln_c (fun t ht => e t (by omega) (by omega)), e2]; omega
    · rw [pz_Ln_up (n := n) (by omega) (fun t ht hs => e t (by omega) hs) e2, e n (by omega) (by omega)]; omega
theorem cs61 (h40 : pa.1 ≤ 40) (h : pz_c sc sq pa ri mp ca dr pe U V w0 w) (hs : s < 100) (hx : pw_jn x pa.1) (h8 : pw_jn (sq.1 8 s) pa.1) (hne : ¬ sq.1 8 s = x) (ea : a = w.1 3 (pw_i (sq.1 8 s)) 4 - 1) (eb : b = w.1 3 (pw_i x) 4 + 1) : pz_c sc (pz_u sq.1 8 s x, sq.2) pa ri mp ca dr pe U V w0 (pw_ps (pw_ps (pw_ps w 3 (pw_i (sq.1 8 s)) 4 a) 3 (pw_i x) 4 b) 6 s 1 x) := by
  exact ⟨pz_fr.ps (pz_fr.ps (pz_fr.ps h.1 (by omega)) (by omega)) (by omega), h.2.1,
    ⟨h.2.2.1.1, h.2.2.1.2.1, (fun b0 b1 => by rw [pz_psk (by decide)]; exact h.2.2.1.2.2.1 b0 b1), pz_psj (h.2.2.1.2.2.2.1), (fun b0 => by rw [pz_psk (by decide)]; exact h.2.2.1.2.2.2.2.1 b0), (fun b0 => by rw [pz_psk (by decide)]; exact h.2.2.1.2.2.2.2.2.1 b0), (fun b0 => by rw [pz_psk (by decide)]; exact h.2.2.1.2.2.2.2.2.2.1 b0), (fun b0 => by rw [pz_psk (by decide)]; exact h.2.2.1.2.2.2.2.2.2.2.1 b0), (fun b0 => by rw [pz_psk (by decide)]; exact h.2.2.1.2.2.2.2.2.2.2.2.1 b0), (fun b0 => by rw [pz_psk (by decide)]; exact h.2.2.1.2.2.2.2.2.2.2.2.2 b0)⟩,
    ⟨(fun b0 b1 => by rw [pz_psk (by decide)]; exact h.2.2.2.1.1 b0 b1), (fun b0 b1 => by rw [pz_psk (by decide)]; exact h.2.2.2.1.2 b0 b1)⟩,
    by
      obtain ⟨c1, c2, c3, c4⟩ := h.2.2.2.2.1
      have e6 : ∀ m : Nat, (pw_ps (pw_ps (pw_ps w 3 (pw_i (sq.1 8 s)) 4 a) 3 (pw_i x) 4 b) 6 s 1 x).1 6 m 2 = w.1 6 m 2 := fun m => pz_psk (by decide)
      refine ⟨fun b hb => ?_, fun b b' hb hb' z => ?_, fun b hb => ?_, fun b k hb hk => ?_⟩
      · rw [e6]; exact c1 b hb
      · rw [e6, e6] at z; exact c2 b b' hb hb' z
      · rw [e6]; exact c3 b hb
      · rw [e6]; exact c4 b k hb hk,
    ⟨h.2.2.2.2.2.1.1, h.2.2.2.2.2.1.2.1, h.2.2.2.2.2.1.2.2.1, h.2.2.2.2.2.1.2.2.2.1, (fun b0 b1 => by rw [pz_psf (f := 6) (by decide), pz_psk (by decide), pz_psk (by decide)]; exact h.2.2.2.2.2.1.2.2.2.2.1 b0 b1), (fun b0 b1 => by rw [pz_psf (f := 6) (by decide), pz_psk (by decide), pz_psk (by decide)]; exact h.2.2.2.2.2.1.2.2.2.2.2.1 b0 b1), (fun b0 => by rw [pz_psf (f := 6) (by decide), pz_psk (by decide), pz_psk (by decide)]; exact h.2.2.2.2.2.1.2.2.2.2.2.2.1 b0), (fun b0 => by rw [pz_psf (f := 6) (by decide), pz_psk (by decide), pz_psk (by decide)]; exact h.2.2.2.2.2.1.2.2.2.2.2.2.2.1 b0), (fun b0 b1 => by rw [pz_psf (f := 6) (by decide), pz_psk (by decide), pz_psk (by decide)]; exact h.2.2.2.2.2.1.2.2.2.2.2.2.2.2.1 b0 b1), h.2.2.2.2.2.1.2.2.2.2.2.2.2.2.2.1, h.2.2.2.2.2.1.2.2.2.2.2.2.2.2.2.2⟩,
    fun b0 b1 => by
      rw [pz_psf (f := 6) (by decide)]
      have hn : ¬ pw_i (sq.1 8 s) = pw_i x := fun q => hne (pz_ii h8.1 hx.1 q)
      have hu : ∀ t : Nat, t < 100 → t ≠ s → ((sq.1 8 t = nI b0) ↔ (pz_u sq.1 8 s x) 8 t = nI b0) := fun t _ z => by rw [pz_un z]
      by_cases q1 : b0 = pw_i x
      · rw [q1, pz_pss, eb, h.2.2.2.2.2.2.1 _ hx.2, ← q1]
        refine pz_ct_more hs hu (fun z => ?_) ?_
        · rw [q1, pw_nIi hx.1] at z; exact hne z
        · show (pz_u sq.1 8 s x) 8 s = nI b0
          rw [pz_us, q1, pw_nIi hx.1]
      · rw [pz_psi q1]
        by_cases q2 : b0 = pw_i (sq.1 8 s)
        · rw [q2, pz_pss, ea, h.2.2.2.2.2.2.1 _ h8.2, ← q2]
          refine pz_ct_less hs hu ?_ (fun z => ?_)
          · rw [q2, pw_nIi h8.1]
          · have z : (pz_u sq.1 8 s x) 8 s = nI b0 := z
            rw [pz_us, q2, pw_nIi h8.1] at z; exact hne z.symm
        · rw [pz_psi q2, h.2.2.2.2.2.2.1 b0 b1]
          refine pz_ct_same fun t ht => ?_
          by_cases z : t = s
          · subst z
            show sq.1 8 t = nI b0 ↔ (pz_u sq.1 8 t x) 8 t = nI b0
            rw [pz_us]
            exact ⟨fun e => absurd (by rw [e, pz_i (by omega)]) q2, fun e => absurd (by rw [e, pz_i (by omega)]) q1⟩
          · exact hu t ht z,
    h.2.2.2.2.2.2.2.1,
    h.2.2.2.2.2.2.2.2.1,
    h.2.2.2.2.2.2.2.2.2.1,
    h.2.2.2.2.2.2.2.2.2.2.1,
    h.2.2.2.2.2.2.2.2.2.2.2.1,
    h.2.2.2.2.2.2.2.2.2.2.2.2.1,
    pz_crm.lk (h.2.2.2.2.2.2.2.2.2.2.2.2.2) (fun _ _ => rfl)⟩
theorem pz_fcy : (pw_ps (pw_cy w 10 (pw_i (w.1 6 s 2)) n) 6 s 2 (nI (pw_nv w 10))).1 10 i k = if i = pw_nv w 10 then (if k < n ∧ k < pw_ln w 10 (pw_i (w.1 6 s 2)) then w.1 10 (pw_i (w.1 6 s 2)) k else 0) else w.1 10 i k := by
  show (if 10 = 10 ∧ i = w.2.1 1000 10 then _ else w.1 10 i k) = _
  by_cases q : i = pw_nv w 10
  · rw [if_pos ⟨rfl, q⟩, if_pos q]
  · rw [if_neg (fun z => q z.2), if_neg q]
theorem pz_fcyl : pw_ln (pw_ps (pw_cy w 10 (pw_i (w.1 6 s 2)) n) 6 s 2 (nI (pw_nv w 10))) 10 i = if i = pw_nv w 10 then n else pw_ln w 10 i := by
  show (if 10 = 10 ∧ i = w.2.1 1000 10 then n else w.2.1 10 i) = _
  by_cases q : i = pw_nv w 10
  · rw [if_pos ⟨rfl, q⟩, if_pos q]
  · rw [if_neg (fun z => q z.2), if_neg q]; rfl
theorem pz_fcy6 : (pw_ps (pw_cy w 10 (pw_i (w.1 6 s 2)) n) 6 s 2 (nI (pw_nv w 10))).1 6 i k = if i = s ∧ k = 2 then nI (pw_nv w 10) else w.1 6 i k := by
  show (if 6 = 6 ∧ i = s ∧ k = 2 then _ else w.1 6 i k) = _
  by_cases q : i = s ∧ k = 2
  · rw [if_pos ⟨rfl, q⟩, if_pos q]
  · rw [if_neg (fun z => q z.2), if_neg q]
theorem cs10c (h : pz_c sc sq pa ri mp ca dr pe U V w0 w) (hs : s < 100) (hm : pw_nv w 10 < 2147483648) (hn : pw_i (sq.1 14 s) ≤ n) (hn0 : 0 < n) (hn2 : n ≤ 1000) : pz_c sc sq pa ri mp ca dr pe (U + 1) (V + n) w0 (pw_ps (pw_cy w 10 (pw_i (w.1 6 s 2)) n) 6 s 2 (nI (pw_nv w 10))) := by
  exact ⟨pz_fr.ps (pz_fr.cy h.1 (by omega)) (by omega), h.2.1,
    ⟨h.2.2.1.1, h.2.2.1.2.1, (fun b0 b1 => by rw [pz_fcy6, if_neg (fun z => absurd z.2 (by decide))]; exact h.2.2.1.2.2.1 b0 b1), (fun b0 => by rw [pz_fcy6, if_neg (fun z => absurd z.2 (by decide))]; exact h.2.2.1.2.2.2.1 b0), (fun b0 => by rw [pz_fcy6, if_neg (fun z => absurd z.2 (by decide))]; exact h.2.2.1.2.2.2.2.1 b0), (fun b0 => by rw [pz_fcy6, if_neg (fun z => absurd z.2 (by decide))]; exact h.2.2.1.2.2.2.2.2.1 b0), (fun b0 => by rw [pz_fcy6, if_neg (fun z => absurd z.2 (by decide))]; exact h.2.2.1.2.2.2.2.2.2.1 b0), (fun b0 => by rw [pz_fcy6, if_neg (fun z => absurd z.2 (by decide))]; exact h.2.2.1.2.2.2.2.2.2.2.1 b0), (fun b0 => by rw [pz_fcy6, if_neg (fun z => absurd z.2 (by decide))]; exact h.2.2.1.2.2.2.2.2.2.2.2.1 b0), (fun b0 => by rw [pz_fcy6, if_neg (fun z => absurd z.2 (by decide))]; exact h.2.2.1.2.2.2.2.2.2.2.2.2 b0)⟩,
    ⟨(fun b0 b1 => by rw [pz_fcy6, if_neg (fun z => absurd z.2 (by decide))]; exact h.2.2.2.1.1 b0 b1), (fun b0 b1 => by rw [pz_fcy6, if_neg (fun z => absurd z.2 (by decide))]; exact h.2.2.2.1.2 b0 b1)⟩,
    by
      have hv : pw_nv (pw_ps (pw_cy w 10 (pw_i (w.1 6 s 2)) n) 6 s 2 (nI (pw_nv w 10))) 10 = pw_nv w 10 + 1 := rfl
      obtain ⟨c1, c2, c3, c4⟩ := h.2.2.2.2.1
      have hold : ∀ b, b < 100 → ¬ pw_i (w.1 6 b 2) = pw_nv w 10 := fun b hb z => by have := (c1 b hb).2; omega
      have hnew : ∀ b, b < 100 → ¬ nI (pw_nv w 10) = w.1 6 b 2 := fun b hb z => hold b hb (by rw [← z, pz_i hm])
      refine ⟨fun b hb => ?_, fun b b' hb hb' z => ?_, fun b hb => ?_, fun b k hb hk => ?_⟩
      · rw [pz_fcy6, hv]
        by_cases q : b = s
        · rw [if_pos ⟨q, rfl⟩]; exact pz_jn (by omega) hm
        · rw [if_neg (fun z => q z.1)]; exact pz_jw (c1 b hb) (by omega)
      · rw [pz_fcy6, pz_fcy6] at z
        by_cases q : b = s
        · by_cases q' : b' = s
          · rw [q, q']
          · rw [if_pos ⟨q, rfl⟩, if_neg (fun z => q' z.1)] at z; exact absurd z (hnew b' hb')
        · by_cases q' : b' = s
          · rw [if_neg (fun z => q z.1), if_pos ⟨q', rfl⟩] at z; exact absurd z.symm (hnew b hb)
          · rw [if_neg (fun z => q z.1), if_neg (fun z => q' z.1)] at z; exact c2 b b' hb hb' z
      · rw [pz_fcy6]
        by_cases q : b = s
        · rw [if_pos ⟨q, rfl⟩, pz_i hm, pz_fcyl, if_pos rfl, q]; exact ⟨hn, hn0, hn2⟩
        · rw [if_neg (fun z => q z.1), pz_fcyl, if_neg (hold b hb)]; exact c3 b hb
      · rw [pz_fcy6]
        by_cases q : b = s
        · rw [if_pos ⟨q, rfl⟩, pz_i hm, pz_fcy, if_pos rfl]
          rw [q] at hk ⊢
          have := (c3 s hs).1
          rw [if_pos ⟨by omega, by omega⟩]; exact c4 s k hs hk
        · rw [if_neg (fun z => q z.1), pz_fcy, if_neg (hold b hb)]; exact c4 b k hb hk,
    h.2.2.2.2.2.1,
    h.2.2.2.2.2.2.1,
    h.2.2.2.2.2.2.2.1,
    h.2.2.2.2.2.2.2.2.1,
    h.2.2.2.2.2.2.2.2.2.1,
    h.2.2.2.2.2.2.2.2.2.2.1,
    h.2.2.2.2.2.2.2.2.2.2.2.1,
    h.2.2.2.2.2.2.2.2.2.2.2.2.1,
    ⟨(pz_nvl.nw h.2.2.2.2.2.2.2.2.2.2.2.2.2.1 : pz_nvl (pw_nw w 10 n n)), by have := h.2.2.2.2.2.2.2.2.2.2.2.2.2.2.1; show w.2.2.1 + 1 ≤ _; omega, by have := h.2.2.2.2.2.2.2.2.2.2.2.2.2.2.2; show w.2.2.2 + n ≤ _; omega⟩⟩
theorem cs10p (h : pz_c sc sq pa ri mp ca dr pe U V w0 w) {U1 V1 : Nat} (hU1 : U ≤ U1 + 1) (hV1 : V ≤ V1 + 240) (hs : s < 100) (e : sq.1 14 s = nI l) (hl : l < 1000) (hlen : l < pw_ln w 10 (pw_i (w.1 6 s 2))) : pz_c sc (pz_u sq.1 14 s (nI (l + 1)), pz_u sq.2 s l x) pa ri mp ca dr pe U1 V1 w0 (pw_ps (pw_ps w 10 (pw_i (w.1 6 s 2)) l x) 6 s 3 (nI (l + 1))) := by
  exact ⟨pz_fr.ps (pz_fr.ps h.1 (by omega)) (by omega), h.2.1,
    ⟨h.2.2.1.1, h.2.2.1.2.1, (fun b0 b1 => by rw [pz_psk (by decide)]; exact h.2.2.1.2.2.1 b0 b1), (fun b0 => by rw [pz_psk (by decide)]; exact h.2.2.1.2.2.2.1 b0), pz_psj (h.2.2.1.2.2.2.2.1), (fun b0 => by rw [pz_psk (by decide)]; exact h.2.2.1.2.2.2.2.2.1 b0), (fun b0 => by rw [pz_psk (by decide)]; exact h.2.2.1.2.2.2.2.2.2.1 b0), (fun b0 => by rw [pz_psk (by decide)]; exact h.2.2.1.2.2.2.2.2.2.2.1 b0), (fun b0 => by rw [pz_psk (by decide)]; exact h.2.2.1.2.2.2.2.2.2.2.2.1 b0), (fun b0 => by rw [pz_psk (by decide)]; exact h.2.2.1.2.2.2.2.2.2.2.2.2 b0)⟩,
    ⟨(fun b0 b1 => by rw [pz_psk (by decide)]; exact h.2.2.2.1.1 b0 b1), (fun b0 b1 => by rw [pz_psk (by decide)]; exact h.2.2.2.1.2 b0 b1)⟩,
    by
      obtain ⟨c1, c2, c3, c4⟩ := h.2.2.2.2.1
      have e6 : ∀ b : Nat, (pw_ps (pw_ps w 10 (pw_i (w.1 6 s 2)) l x) 6 s 3 (nI (l + 1))).1 6 b 2 = w.1 6 b 2 := fun b => pz_psk (by decide)
      have e10 : ∀ b k : Nat, (pw_ps (pw_ps w 10 (pw_i (w.1 6 s 2)) l x) 6 s 3 (nI (l + 1))).1 10 b k = (pw_ps w 10 (pw_i (w.1 6 s 2)) l x).1 10 b k := fun b k => rfl
      refine ⟨fun b hb => ?_, fun b b' hb hb' z => ?_, fun b hb => ?_, fun b k hb hk => ?_⟩
      · rw [e6]; exact c1 b hb
      · rw [e6, e6] at z; exact c2 b b' hb hb' z
      · rw [e6]
        show pw_i ((pz_u sq.1 14 s (nI (l + 1))) 14 b) ≤ pw_ln w 10 (pw_i (w.1 6 b 2)) ∧ _
        by_cases q : b = s
        · rw [q, pz_us, pz_i (by omega)]; exact ⟨hlen, (c3 s hs).2⟩
        · rw [pz_un q]; exact c3 b hb
      · rw [e6, e10]
        have hk : k < pw_i ((pz_u sq.1 14 s (nI (l + 1))) 14 b) := hk
        show (pw_ps w 10 (pw_i (w.1 6 s 2)) l x).1 10 (pw_i (w.1 6 b 2)) k = (pz_u sq.2 s l x) b k
        by_cases q : b = s
        · rw [q, pz_us, pz_i (by omega)] at hk
          rw [q]
          by_cases q2 : k = l
          · rw [q2, pz_pss, pz_us]
          · rw [pz_psk q2, pz_un q2]; exact c4 s k hs (by rw [e, pz_i (by omega)]; omega)
        · rw [pz_un q] at hk
          rw [pz_psi (fun z => q (c2 b s hb hs (pz_ii (c1 b hb).1 (c1 s hs).1 z))), pz_uk q]; exact c4 b k hb hk,
    h.2.2.2.2.2.1,
    h.2.2.2.2.2.2.1,
    h.2.2.2.2.2.2.2.1,
    h.2.2.2.2.2.2.2.2.1,
    h.2.2.2.2.2.2.2.2.2.1,
    h.2.2.2.2.2.2.2.2.2.2.1,
    h.2.2.2.2.2.2.2.2.2.2.2.1,
    h.2.2.2.2.2.2.2.2.2.2.2.2.1,
    by
      have hL : pz_L (pz_u sq.1 14 s (nI (l + 1)), pz_u sq.2 s l x) = pz_L sq + 1 := pz_Ln_up hs (fun t _ z => pz_un z) (by
        show pw_i ((pz_u sq.1 14 s (nI (l + 1))) 14 s) = _
        rw [pz_us, e, pz_i (by omega), pz_i (by omega)])
      refine ⟨h.2.2.2.2.2.2.2.2.2.2.2.2.2.1, ?_, ?_⟩
      · rw [hL]; have := h.2.2.2.2.2.2.2.2.2.2.2.2.2.2.1; show w.2.2.1 ≤ _; omega
      · rw [hL]; have := h.2.2.2.2.2.2.2.2.2.2.2.2.2.2.2; show w.2.2.2 ≤ _; omega⟩
end PZT
