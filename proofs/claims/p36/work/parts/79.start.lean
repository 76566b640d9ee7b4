/-! the start -/
section PZST
variable {w wA wY w9 wf : pw_W} {X : pw_W → Nat → Prop} {f g i k l n s Ln : Nat} {xs : Nat → Int32}
def sc0 : pz_S := fun _ => 0
def sq0 : pz_Q := (pz_mq, fun _ _ => 0)
def pa0 : pz_P := (1, fun f j => if j = 0 ∧ (f = 16 ∨ f = 17) then -1 else 0, fun _ _ => 0)
def ri0 : pz_N := (0, fun _ _ => 0)
def ca0 : pz_P := (0, fun _ _ => 0, fun _ _ => 0)
def pe0 : pz_Q := (fun _ _ => 0, fun _ _ => 0)
theorem pz_mq0 (h : f = 8 ∨ f = 11 ∨ f = 13) : pz_mq f s = 0 := by
  unfold pz_mq
  rcases h with rfl | rfl | rfl <;> (split <;> rfl)
theorem pz_mqi (h : s < 100) : pz_mq f s = if f = 6 then 50 else if f = 7 then 40 else if f = 9 then -50000 else if f = 10 then -1 else if f = 12 then -1 else if f = 14 then 1 else 0 := if_pos h
theorem pz_cnA {P : Nat → Prop} (h : ∀ j, P j) : ∀ n, pz_cn P n = n
  | 0 => rfl
  | n + 1 => by rw [pz_cnT (h n), pz_cnA h n]
theorem pz_I0 : pz_I sc0 sq0 pa0 ri0 ri0 ca0 ri0 pe0 := by
  refine ⟨⟨⟨⟨by decide, by decide⟩, fun s hs => Or.inl (pz_mqi hs)⟩, fun s hs => ?_, fun s hs => ?_, fun s hs => Or.inl (pz_mqi hs)⟩, ⟨fun s hs => ?_, fun s hs => Or.inl (pz_mqi hs), fun s hs q => absurd (pz_mqi hs) q, fun s hs => ⟨1, pz_mqi hs, by decide, fun _ => ?_, fun q => absurd (pz_mqi hs) q⟩⟩, ⟨⟨by decide, by decide⟩, ⟨fun j hj => Or.inl ?_, fun _ => 0, fun j hj q => ?_⟩, fun j hj => Or.inl ?_, fun _ _ _ _ => rfl⟩, ⟨by decide, fun r hr => absurd hr (Nat.not_lt_zero _), fun r _ hr => absurd hr (Nat.not_lt_zero _), fun _ => Or.inl rfl⟩, Nat.zero_le _, ⟨Nat.zero_le _, fun c hc => absurd hc (Nat.not_lt_zero _), fun _ => Or.inl rfl, fun _ _ => ⟨rfl, rfl, rfl, rfl⟩⟩, ⟨Nat.zero_le _, fun c hc => absurd hc (Nat.not_lt_zero _)⟩, fun _ => Or.inl rfl, fun p _ => ⟨0, by decide, rfl, fun k hk => absurd hk (Nat.not_lt_zero _)⟩⟩
  · have : sq0.1 7 s = 40 := pz_mqi hs
    rw [this]; decide
  · have : sq0.1 6 s = 50 := pz_mqi hs
    rw [this]; decide
  · have : sq0.1 8 s = 0 := pz_mqi hs
    rw [this]; exact pz_jn (a := 0) (by decide) (by decide)
  · show 1 + 1 ≤ 2 * 1 + _; omega
  · have : j = 0 := by have : j < 1 := hj; omega
    subst this; exact ⟨rfl, rfl⟩
  · have : j = 0 := by have : j < 1 := hj; omega
    subst this; exact absurd rfl q
  · have : j = 0 := by have : j < 1 := hj; omega
    subst this; rfl
theorem pz_crm.mk' {sq : pz_Q} {ri : pz_N} {U V : Nat} (hn : ∀ f, pw_nv w f ≤ w.2.2.1) (hu : w.2.2.1 ≤ U) (hv : w.2.2.2 ≤ V) : pz_crm U V sq ri w := ⟨hn, by omega, by omega⟩
theorem pz_sv7 : pz_sv s 7 = -1 := show pw_df 6 7 = -1 by decide +kernel
theorem pz_sv8 : pz_sv s 8 = 0 := show pw_df 6 8 = 0 by decide +kernel
theorem pz_sv9 : pz_sv s 9 = -1 := show pw_df 6 9 = -1 by decide +kernel
theorem pz_sv10 : pz_sv s 10 = -1 := show pw_df 6 10 = -1 by decide +kernel
theorem pz_pv3 : pz_pv s 3 = 0 := show pw_df 4 3 = 0 by decide +kernel
theorem pz_svq1 (h : s < 100) : pz_sv s 1 = pz_mq 8 s := by
  rw [pz_mqi h]; unfold pz_sv
  simp only [if_true, if_false, Nat.reduceEqDiff, reduceCtorEq, reduceIte, Nat.succ_ne_self, Nat.one_ne_zero, Nat.zero_ne_one]
theorem pz_svq3 (h : s < 100) : pz_sv s 3 = pz_mq 14 s := by
  rw [pz_mqi h]; unfold pz_sv
  simp only [if_true, if_false, Nat.reduceEqDiff, reduceCtorEq, reduceIte, Nat.succ_ne_self, Nat.one_ne_zero, Nat.zero_ne_one]
theorem pz_svq4 (h : s < 100) : pz_sv s 4 = pz_mq 6 s := by
  rw [pz_mqi h]; unfold pz_sv
  simp only [if_true, if_false, Nat.reduceEqDiff, reduceCtorEq, reduceIte, Nat.succ_ne_self, Nat.one_ne_zero, Nat.zero_ne_one]
theorem pz_svq5 (h : s < 100) : pz_sv s 5 = pz_mq 7 s := by
  rw [pz_mqi h]; unfold pz_sv
  simp only [if_true, if_false, Nat.reduceEqDiff, reduceCtorEq, reduceIte, Nat.succ_ne_self, Nat.one_ne_zero, Nat.zero_ne_one]
theorem pz_svq7 (h : s < 100) : pz_sv s 7 = pz_mq 10 s := by
  rw [pz_mqi h, pz_sv7]
  simp only [if_true, if_false, Nat.reduceEqDiff, reduceCtorEq, reduceIte]
theorem pz_svq8 (h : s < 100) : pz_sv s 8 = pz_mq 11 s := by
  rw [pz_mqi h, pz_sv8]
  simp only [if_true, if_false, Nat.reduceEqDiff, reduceCtorEq, reduceIte]
theorem pz_sv0 : pz_sv s 0 = nI s := if_pos rfl
theorem pz_c0_csc (E : pz_E w) (h13 : True) : pz_csc sc0 w := by
  obtain ⟨e7, ⟨l14, l15, l23, l22, l20, l25, l21, l11⟩, ⟨n10, n24, n3, n11, n5, n12⟩, s14, s6, s10, ⟨p23, p30, p31, p32, p33, p34, p35⟩, p3o, p11, r15, r4, r24, f5⟩ := E
  have s6i : ∀ s k, s < 100 → w.1 6 s k = pz_sv s k := fun s k hs => (s6 s k).trans (if_pos hs)
  have s6f : ∀ k f, (∀ s, s < 100 → pz_sv s k = pz_mq f s) → ∀ s, w.1 6 s k = pz_mq f s := fun k f h s => by
    by_cases q : s < 100
    · rw [s6i s k q, h s q]
    · rw [s6, if_neg q]; unfold pz_mq; rw [if_neg q]
  have r4i : ∀ p k, p < 12 → w.1 4 p k = pz_pv p k := fun p k hp => (r4 p k).trans (if_pos hp)
  have hi : ∀ s, s < 100 → pw_i (w.1 6 s 2) = s := fun s hs => by rw [s6i s 2 hs]; exact pz_i (by omega)
  have j1 : ∀ j, j < pa0.1 → j = 0 := fun j hj => by have : j < 1 := hj; omega
  refine ⟨e7 0 (by decide), e7 1 (by decide), e7 2 (by decide), e7 3 (by decide), e7 4 (by decide), e7 5 (by decide), e7 6 (by decide), e7 7 (by decide), e7 8 (by decide), e7 9 (by decide), e7 10 (by decide), e7 11 (by decide), h13⟩

theorem pz_c0_csq (E : pz_E w) (h13 : True) : pz_csq sq0 w := by
  obtain ⟨e7, ⟨l14, l15, l23, l22, l20, l25, l21, l11⟩, ⟨n10, n24, n3, n11, n5, n12⟩, s14, s6, s10, ⟨p23, p30, p31, p32, p33, p34, p35⟩, p3o, p11, r15, r4, r24, f5⟩ := E
  have s6i : ∀ s k, s < 100 → w.1 6 s k = pz_sv s k := fun s k hs => (s6 s k).trans (if_pos hs)
  have s6f : ∀ k f, (∀ s, s < 100 → pz_sv s k = pz_mq f s) → ∀ s, w.1 6 s k = pz_mq f s := fun k f h s => by
    by_cases q : s < 100
    · rw [s6i s k q, h s q]
    · rw [s6, if_neg q]; unfold pz_mq; rw [if_neg q]
  have r4i : ∀ p k, p < 12 → w.1 4 p k = pz_pv p k := fun p k hp => (r4 p k).trans (if_pos hp)
  have hi : ∀ s, s < 100 → pw_i (w.1 6 s 2) = s := fun s hs => by rw [s6i s 2 hs]; exact pz_i (by omega)
  have j1 : ∀ j, j < pa0.1 → j = 0 := fun j hj => by have : j < 1 := hj; omega
  refine ⟨l14, s14, fun s hs => (s6i s 0 hs).trans pz_sv0, s6f 1 8 (fun s hs => pz_svq1 hs), s6f 3 14 (fun s hs => pz_svq3 hs), s6f 4 6 (fun s hs => pz_svq4 hs), s6f 5 7 (fun s hs => pz_svq5 hs), fun s => ?_, s6f 7 10 (fun s hs => pz_svq7 hs), s6f 8 11 (fun s hs => pz_svq8 hs)⟩
  · by_cases q : s < 100
    · rw [s6i s 6 q, show sq0.1 9 s = -50000 from pz_mqi q]; exact (if_pos rfl : pz_bn (-50000) = -1).symm
    · rw [s6, if_neg q, show sq0.1 9 s = 0 from if_neg q]; exact (if_neg (by decide) : pz_bn 0 = 0).symm
theorem pz_c0_cgv (E : pz_E w) (h13 : True) : pz_cgv sq0 w := by
  obtain ⟨e7, ⟨l14, l15, l23, l22, l20, l25, l21, l11⟩, ⟨n10, n24, n3, n11, n5, n12⟩, s14, s6, s10, ⟨p23, p30, p31, p32, p33, p34, p35⟩, p3o, p11, r15, r4, r24, f5⟩ := E
  have s6i : ∀ s k, s < 100 → w.1 6 s k = pz_sv s k := fun s k hs => (s6 s k).trans (if_pos hs)
  have s6f : ∀ k f, (∀ s, s < 100 → pz_sv s k = pz_mq f s) → ∀ s, w.1 6 s k = pz_mq f s := fun k f h s => by
    by_cases q : s < 100
    · rw [s6i s k q, h s q]
    · rw [s6, if_neg q]; unfold pz_mq; rw [if_neg q]
  have r4i : ∀ p k, p < 12 → w.1 4 p k = pz_pv p k := fun p k hp => (r4 p k).trans (if_pos hp)
  have hi : ∀ s, s < 100 → pw_i (w.1 6 s 2) = s := fun s hs => by rw [s6i s 2 hs]; exact pz_i (by omega)
  have j1 : ∀ j, j < pa0.1 → j = 0 := fun j hj => by have : j < 1 := hj; omega
  refine ⟨fun s hs => ?_, fun s hs => ?_⟩
  · rw [s6i s 9 hs, show sq0.1 12 s = -1 from pz_mqi hs]; unfold pz_gv; rw [pz_it rfl, pz_sv9]
  · rw [s6i s 10 hs, show sq0.1 12 s = -1 from pz_mqi hs, pz_it rfl, pz_sv10]
theorem pz_c0_cch (E : pz_E w) (h13 : True) : pz_cch sq0 w := by
  obtain ⟨e7, ⟨l14, l15, l23, l22, l20, l25, l21, l11⟩, ⟨n10, n24, n3, n11, n5, n12⟩, s14, s6, s10, ⟨p23, p30, p31, p32, p33, p34, p35⟩, p3o, p11, r15, r4, r24, f5⟩ := E
  have s6i : ∀ s k, s < 100 → w.1 6 s k = pz_sv s k := fun s k hs => (s6 s k).trans (if_pos hs)
  have s6f : ∀ k f, (∀ s, s < 100 → pz_sv s k = pz_mq f s) → ∀ s, w.1 6 s k = pz_mq f s := fun k f h s => by
    by_cases q : s < 100
    · rw [s6i s k q, h s q]
    · rw [s6, if_neg q]; unfold pz_mq; rw [if_neg q]
  have r4i : ∀ p k, p < 12 → w.1 4 p k = pz_pv p k := fun p k hp => (r4 p k).trans (if_pos hp)
  have hi : ∀ s, s < 100 → pw_i (w.1 6 s 2) = s := fun s hs => by rw [s6i s 2 hs]; exact pz_i (by omega)
  have j1 : ∀ j, j < pa0.1 → j = 0 := fun j hj => by have : j < 1 := hj; omega
  refine ⟨fun s hs => ?_, fun s t hs ht e => ?_, fun s hs => ?_, fun s j hs hj => ?_⟩
  · rw [s6i s 2 hs, n10]; exact pz_jn hs (by omega)
  · rw [s6i s 2 hs, s6i t 2 ht] at e
    have e : nI s = nI t := e
    rw [pz_eq (by omega) (by omega)] at e; exact e
  · rw [hi s hs, (s10 s hs).1, show sq0.1 14 s = 1 from pz_mqi hs]; decide
  · rw [show sq0.1 14 s = 1 from pz_mqi hs] at hj
    have : j = 0 := by have : j < 1 := hj; omega
    rw [hi s hs, this]; exact (s10 s hs).2
theorem pz_c0_cpa (E : pz_E w) (h13 : True) : pz_cpa pa0 w := by
  obtain ⟨e7, ⟨l14, l15, l23, l22, l20, l25, l21, l11⟩, ⟨n10, n24, n3, n11, n5, n12⟩, s14, s6, s10, ⟨p23, p30, p31, p32, p33, p34, p35⟩, p3o, p11, r15, r4, r24, f5⟩ := E
  have s6i : ∀ s k, s < 100 → w.1 6 s k = pz_sv s k := fun s k hs => (s6 s k).trans (if_pos hs)
  have s6f : ∀ k f, (∀ s, s < 100 → pz_sv s k = pz_mq f s) → ∀ s, w.1 6 s k = pz_mq f s := fun k f h s => by
    by_cases q : s < 100
    · rw [s6i s k q, h s q]
    · rw [s6, if_neg q]; unfold pz_mq; rw [if_neg q]
  have r4i : ∀ p k, p < 12 → w.1 4 p k = pz_pv p k := fun p k hp => (r4 p k).trans (if_pos hp)
  have hi : ∀ s, s < 100 → pw_i (w.1 6 s 2) = s := fun s hs => by rw [s6i s 2 hs]; exact pz_i (by omega)
  have j1 : ∀ j, j < pa0.1 → j = 0 := fun j hj => by have : j < 1 := hj; omega
  refine ⟨l23, n3, n11, fun j hj => ?_, fun j hj => ?_, fun j hj => ?_, fun j => ?_, fun j => ?_, fun j hj => ?_, fun j hj => ?_, fun j q hj hq => ?_⟩
  · rw [j1 j hj]; exact p23
  · rw [j1 j hj]; exact p30
  · rw [j1 j hj]; exact p31
  · by_cases q : j = 0
    · rw [q, p32]; rfl
    · rw [p3o j 2 q]; exact (if_neg (fun z => q z.1)).symm
  · by_cases q : j = 0
    · rw [q, p33]; rfl
    · rw [p3o j 3 q]; exact (if_neg (fun z => q z.1)).symm
  · rw [j1 j hj, p35]; exact (pz_ss0 (fun _ _ => rfl)).symm
  · rw [j1 j hj]; exact l11
  · rw [j1 j hj]; exact p11 q
theorem pz_c0_car (E : pz_E w) (h13 : True) : pz_car pa0 sq0 w := by
  obtain ⟨e7, ⟨l14, l15, l23, l22, l20, l25, l21, l11⟩, ⟨n10, n24, n3, n11, n5, n12⟩, s14, s6, s10, ⟨p23, p30, p31, p32, p33, p34, p35⟩, p3o, p11, r15, r4, r24, f5⟩ := E
  have s6i : ∀ s k, s < 100 → w.1 6 s k = pz_sv s k := fun s k hs => (s6 s k).trans (if_pos hs)
  have s6f : ∀ k f, (∀ s, s < 100 → pz_sv s k = pz_mq f s) → ∀ s, w.1 6 s k = pz_mq f s := fun k f h s => by
    by_cases q : s < 100
    · rw [s6i s k q, h s q]
    · rw [s6, if_neg q]; unfold pz_mq; rw [if_neg q]
  have r4i : ∀ p k, p < 12 → w.1 4 p k = pz_pv p k := fun p k hp => (r4 p k).trans (if_pos hp)
  have hi : ∀ s, s < 100 → pw_i (w.1 6 s 2) = s := fun s hs => by rw [s6i s 2 hs]; exact pz_i (by omega)
  have j1 : ∀ j, j < pa0.1 → j = 0 := fun j hj => by have : j < 1 := hj; omega
  refine fun j hj => ?_
  · rw [j1 j hj, p34]
    have : pz_cn (fun s => sq0.1 8 s = nI 0) 100 = 100 := pz_cnA (fun s => pz_mq0 (Or.inl rfl)) 100
    unfold pz_ct
    rw [this]; rfl
theorem pz_c0_cpe (E : pz_E w) (h13 : True) : pz_cpe pe0 w := by
  obtain ⟨e7, ⟨l14, l15, l23, l22, l20, l25, l21, l11⟩, ⟨n10, n24, n3, n11, n5, n12⟩, s14, s6, s10, ⟨p23, p30, p31, p32, p33, p34, p35⟩, p3o, p11, r15, r4, r24, f5⟩ := E
  have s6i : ∀ s k, s < 100 → w.1 6 s k = pz_sv s k := fun s k hs => (s6 s k).trans (if_pos hs)
  have s6f : ∀ k f, (∀ s, s < 100 → pz_sv s k = pz_mq f s) → ∀ s, w.1 6 s k = pz_mq f s := fun k f h s => by
    by_cases q : s < 100
    · rw [s6i s k q, h s q]
    · rw [s6, if_neg q]; unfold pz_mq; rw [if_neg q]
  have r4i : ∀ p k, p < 12 → w.1 4 p k = pz_pv p k := fun p k hp => (r4 p k).trans (if_pos hp)
  have hi : ∀ s, s < 100 → pw_i (w.1 6 s 2) = s := fun s hs => by rw [s6i s 2 hs]; exact pz_i (by omega)
  have j1 : ∀ j, j < pa0.1 → j = 0 := fun j hj => by have : j < 1 := hj; omega
  refine ⟨l15, r15, fun p hp => r4i p 0 hp, fun p hp => r4i p 1 hp, fun p hp => (r4i p 2 hp).trans (pz_bt rfl).symm, fun p => ?_, fun p hp => ?_, fun p j hp hj => ?_, Nat.le_of_eq n24.symm⟩
  · rw [r4]
    by_cases q : p < 12
    · rw [if_pos q, pz_pv3]; rfl
    · rw [if_neg q]; rfl
  · rw [r24 p hp]; exact ⟨rfl, by decide⟩
  · rw [r24 p hp] at hj; exact absurd hj (Nat.not_lt_zero _)
theorem pz_c0_cri (E : pz_E w) (h13 : True) : pz_cri ri0 w := by
  obtain ⟨e7, ⟨l14, l15, l23, l22, l20, l25, l21, l11⟩, ⟨n10, n24, n3, n11, n5, n12⟩, s14, s6, s10, ⟨p23, p30, p31, p32, p33, p34, p35⟩, p3o, p11, r15, r4, r24, f5⟩ := E
  have s6i : ∀ s k, s < 100 → w.1 6 s k = pz_sv s k := fun s k hs => (s6 s k).trans (if_pos hs)
  have s6f : ∀ k f, (∀ s, s < 100 → pz_sv s k = pz_mq f s) → ∀ s, w.1 6 s k = pz_mq f s := fun k f h s => by
    by_cases q : s < 100
    · rw [s6i s k q, h s q]
    · rw [s6, if_neg q]; unfold pz_mq; rw [if_neg q]
  have r4i : ∀ p k, p < 12 → w.1 4 p k = pz_pv p k := fun p k hp => (r4 p k).trans (if_pos hp)
  have hi : ∀ s, s < 100 → pw_i (w.1 6 s 2) = s := fun s hs => by rw [s6i s 2 hs]; exact pz_i (by omega)
  have j1 : ∀ j, j < pa0.1 → j = 0 := fun j hj => by have : j < 1 := hj; omega
  refine ⟨l25, n5, fun r hr => absurd hr (Nat.not_lt_zero _), fun r => f5 r 0, fun r => f5 r 1, fun r => f5 r 2, fun r hr => absurd hr (Nat.not_lt_zero _), fun r => f5 r 4, fun r => f5 r 5⟩

theorem pz_c0_cmp (E : pz_E w) (h13 : True) : pz_cmp ri0 w := by
  obtain ⟨e7, ⟨l14, l15, l23, l22, l20, l25, l21, l11⟩, ⟨n10, n24, n3, n11, n5, n12⟩, s14, s6, s10, ⟨p23, p30, p31, p32, p33, p34, p35⟩, p3o, p11, r15, r4, r24, f5⟩ := E
  have s6i : ∀ s k, s < 100 → w.1 6 s k = pz_sv s k := fun s k hs => (s6 s k).trans (if_pos hs)
  have s6f : ∀ k f, (∀ s, s < 100 → pz_sv s k = pz_mq f s) → ∀ s, w.1 6 s k = pz_mq f s := fun k f h s => by
    by_cases q : s < 100
    · rw [s6i s k q, h s q]
    · rw [s6, if_neg q]; unfold pz_mq; rw [if_neg q]
  have r4i : ∀ p k, p < 12 → w.1 4 p k = pz_pv p k := fun p k hp => (r4 p k).trans (if_pos hp)
  have hi : ∀ s, s < 100 → pw_i (w.1 6 s 2) = s := fun s hs => by rw [s6i s 2 hs]; exact pz_i (by omega)
  have j1 : ∀ j, j < pa0.1 → j = 0 := fun j hj => by have : j < 1 := hj; omega
  refine ⟨l22, fun c hc => absurd hc (Nat.not_lt_zero _), fun c hc => absurd hc (Nat.not_lt_zero _), fun c hc => absurd hc (Nat.not_lt_zero _), fun c hc => absurd hc (Nat.not_lt_zero _)⟩

theorem pz_c0_cca (E : pz_E w) (h13 : True) : pz_cca ca0 w := by
  obtain ⟨e7, ⟨l14, l15, l23, l22, l20, l25, l21, l11⟩, ⟨n10, n24, n3, n11, n5, n12⟩, s14, s6, s10, ⟨p23, p30, p31, p32, p33, p34, p35⟩, p3o, p11, r15, r4, r24, f5⟩ := E
  have s6i : ∀ s k, s < 100 → w.1 6 s k = pz_sv s k := fun s k hs => (s6 s k).trans (if_pos hs)
  have s6f : ∀ k f, (∀ s, s < 100 → pz_sv s k = pz_mq f s) → ∀ s, w.1 6 s k = pz_mq f s := fun k f h s => by
    by_cases q : s < 100
    · rw [s6i s k q, h s q]
    · rw [s6, if_neg q]; unfold pz_mq; rw [if_neg q]
  have r4i : ∀ p k, p < 12 → w.1 4 p k = pz_pv p k := fun p k hp => (r4 p k).trans (if_pos hp)
  have hi : ∀ s, s < 100 → pw_i (w.1 6 s 2) = s := fun s hs => by rw [s6i s 2 hs]; exact pz_i (by omega)
  have j1 : ∀ j, j < pa0.1 → j = 0 := fun j hj => by have : j < 1 := hj; omega
  refine ⟨l20, n12, fun c hc => absurd hc (Nat.not_lt_zero _), fun c d hc => absurd hc (Nat.not_lt_zero _), fun c hc => absurd hc (Nat.not_lt_zero _), fun c hc => absurd hc (Nat.not_lt_zero _), fun c hc => absurd hc (Nat.not_lt_zero _), fun c hc => absurd hc (Nat.not_lt_zero _), fun c hc => absurd hc (Nat.not_lt_zero _), fun c hc => absurd hc (Nat.not_lt_zero _), fun c hc => absurd hc (Nat.not_lt_zero _), fun c hc => absurd hc (Nat.not_lt_zero _), fun c s hc => absurd hc (Nat.not_lt_zero _)⟩

theorem pz_c0_cst (E : pz_E w) (h13 : True) : pz_cst ca0 sq0 w := by
  obtain ⟨e7, ⟨l14, l15, l23, l22, l20, l25, l21, l11⟩, ⟨n10, n24, n3, n11, n5, n12⟩, s14, s6, s10, ⟨p23, p30, p31, p32, p33, p34, p35⟩, p3o, p11, r15, r4, r24, f5⟩ := E
  have s6i : ∀ s k, s < 100 → w.1 6 s k = pz_sv s k := fun s k hs => (s6 s k).trans (if_pos hs)
  have s6f : ∀ k f, (∀ s, s < 100 → pz_sv s k = pz_mq f s) → ∀ s, w.1 6 s k = pz_mq f s := fun k f h s => by
    by_cases q : s < 100
    · rw [s6i s k q, h s q]
    · rw [s6, if_neg q]; unfold pz_mq; rw [if_neg q]
  have r4i : ∀ p k, p < 12 → w.1 4 p k = pz_pv p k := fun p k hp => (r4 p k).trans (if_pos hp)
  have hi : ∀ s, s < 100 → pw_i (w.1 6 s 2) = s := fun s hs => by rw [s6i s 2 hs]; exact pz_i (by omega)
  have j1 : ∀ j, j < pa0.1 → j = 0 := fun j hj => by have : j < 1 := hj; omega
  refine fun c s hc => absurd hc (Nat.not_lt_zero _)

theorem pz_c0_cdr (E : pz_E w) (h13 : True) : pz_cdr ri0 w := by
  obtain ⟨e7, ⟨l14, l15, l23, l22, l20, l25, l21, l11⟩, ⟨n10, n24, n3, n11, n5, n12⟩, s14, s6, s10, ⟨p23, p30, p31, p32, p33, p34, p35⟩, p3o, p11, r15, r4, r24, f5⟩ := E
  have s6i : ∀ s k, s < 100 → w.1 6 s k = pz_sv s k := fun s k hs => (s6 s k).trans (if_pos hs)
  have s6f : ∀ k f, (∀ s, s < 100 → pz_sv s k = pz_mq f s) → ∀ s, w.1 6 s k = pz_mq f s := fun k f h s => by
    by_cases q : s < 100
    · rw [s6i s k q, h s q]
    · rw [s6, if_neg q]; unfold pz_mq; rw [if_neg q]
  have r4i : ∀ p k, p < 12 → w.1 4 p k = pz_pv p k := fun p k hp => (r4 p k).trans (if_pos hp)
  have hi : ∀ s, s < 100 → pw_i (w.1 6 s 2) = s := fun s hs => by rw [s6i s 2 hs]; exact pz_i (by omega)
  have j1 : ∀ j, j < pa0.1 → j = 0 := fun j hj => by have : j < 1 := hj; omega
  refine ⟨l21, fun c hc => absurd hc (Nat.not_lt_zero _), fun c hc => absurd hc (Nat.not_lt_zero _), fun c hc => absurd hc (Nat.not_lt_zero _)⟩

theorem pz_c0w (E : pz_E w) (h13 : True) (hn : ∀ f, pw_nv w f ≤ w.2.2.1) (hu : w.2.2.1 ≤ 4000) (hv : w.2.2.2 ≤ 200000) : pz_c sc0 sq0 pa0 ri0 ri0 ca0 ri0 pe0 4000 200000 w w := by
  refine ⟨fun _ _ => ⟨rfl, rfl⟩, pz_c0_csc E h13, pz_c0_csq E h13, pz_c0_cgv E h13, pz_c0_cch E h13, pz_c0_cpa E h13, pz_c0_car E h13, pz_c0_cpe E h13, pz_c0_cri E h13, pz_c0_cmp E h13, pz_c0_cca E h13, pz_c0_cst E h13, pz_c0_cdr E h13, pz_crm.mk' hn hu hv⟩
end PZST
