/-! the start -/
section PZST
variable {w wA wY w9 wf : pw_W} {X : pw_W → Nat → Prop} {f g i k l n s Ln : Nat} {xs : Nat → Int32}
def sc0 : pz_S := fun _ => 0
def sq0 : pz_Q := (pz_mq, fun _ _ => 0)
def pa0 : pz_P := (1, fun f j => if j = 0 ∧ (f = 16 ∨ f = 17) then -1 else 0, fun _ _ => 0)
def ri0 : pz_N := (0, fun _ _ => 0)
def ca0 : pz_P := (0, fun _ _ => 0, fun _ _ => 0)
def pe0 : pz_Q := (fun _ _ => 0, fun _ _ => 0)
theorem pz_mq0 (h : f = 8 ∨ f = 11 ∨ f = 13) : pz_mq f s = 0 := by
  unfold pz_mq
  rcases h with rfl | rfl | rfl <;> (split <;> rfl)
theorem pz_mqi (h : s < 100) : pz_mq f s = if f = 6 then 50 else if f = 7 then 40 else if f = 9 then -50000 else if f = 10 then -1 else if f = 12 then -1 else if f = 14 then 1 else 0 := if_pos h
theorem pz_cnA {P : Nat → Prop} (h : ∀ j, P j) : ∀ n, pz_cn P n = n
  | 0 => rfl
  | n + 1 => by rw [pz_cnT (h n), pz_cnA h n]
theorem pz_I0 : pz_I sc0 sq0 pa0 ri0 ri0 ca0 ri0 pe0 := by
  refine ⟨⟨⟨⟨by decide, by decide⟩, fun s hs => Or.inl (pz_mqi hs)⟩, fun s hs => ?_, fun s hs => ?_, fun s hs => Or.inl (pz_mqi hs)⟩, ⟨fun s hs => ?_, fun s hs => Or.inl (pz_mqi hs), fun s hs q => absurd (pz_mqi hs) q, fun s hs => ⟨1, pz_mqi hs, by decide, fun _ => ?_, fun q => absurd (pz_mqi hs) q⟩⟩, ⟨⟨by decide, by decide⟩, ⟨fun j hj => Or.inl ?_, fun _ => 0, fun j hj q => ?_⟩, fun j hj => Or.inl ?_, fun _ _ _ _ => rfl⟩, ⟨by decide, fun r hr => absurd hr (Nat.not_lt_zero _), fun r _ hr => absurd hr (Nat.not_lt_zero _), fun _ => Or.inl rfl⟩, Nat.zero_le _, ⟨Nat.zero_le _, fun c hc => absurd hc (Nat.not_lt_zero _), fun _ => Or.inl rfl, fun _ _ => ⟨rfl, rfl, rfl, rfl⟩⟩, ⟨Nat.zero_le _, fun c hc => absurd hc (Nat.not_lt_zero _)⟩, fun _ => Or.inl rfl, fun p _ => ⟨0, by decide, rfl, fun k hk => absurd hk (Nat.not_lt_zero _)⟩⟩
  · have : sq0.1 7 s = 40 := pz_mqi hs
    rw [this]; decide
  · have : sq0.1 6 s = 50 := pz_mqi hs
    rw [this]; decide
  · have : sq0.1 8 s = 0 := pz_mqi hs
    rw [this]; exact pz_jn (a := 0) (by decide) (by decide)
  · show 1 + 1 ≤ 2 * 1 + _; omega
  · have : j = 0 := by have : j < 1 := hj; omega
    subst this; exact ⟨rfl, rfl⟩
  · have : j = 0 := by have : j < 1 := hj; omega
    subst this; exact absurd rfl q
  · have : j = 0 := by have : j < 1 := hj; omega
    subst this; rfl
theorem pz_crm.mk' {sq : pz_Q} {ri : pz_N} {U V : Nat} (hn : ∀ f, pw_nv w f ≤ w.2.2.1) (hu : w.2.2.1 ≤ U) (hv : w.2.2.2 ≤ V) : pz_crm U V sq ri w := ⟨hn, by omega, by omega⟩
theorem pz_sv7 : pz_sv s 7 = -1 := show pw_df 6 7 = -1 by decide +kernel
theorem pz_sv8 : pz_sv s 8 = 0 := show pw_df 6 8 = 0 by decide +kernel
theorem pz_sv9 : pz_sv s 9 = -1 := show pw_df 6 9 = -1 by decide +kernel
theorem pz_sv10 : pz_sv s 10 = -1 := show pw_df 6 10 = -1 by decide +kernel
theorem pz_pv3 : pz_pv s 3 = 0 := show pw_df 4 3 = 0 by decide +kernel
theorem pz_svq1 (h : s < 100) : pz_sv s 1 = pz_mq 8 s := by
  rw [pz_mqi h]; unfold pz_sv
  simp only [if_true, if_false, Nat.reduceEqDiff, reduceCtorEq, reduceIte, Nat.succ_ne_self, Nat.one_ne_zero, Nat.zero_ne_one]
theorem pz_svq3 (h : s < 100) : pz_sv s 3 = pz_mq 14 s := by
  rw [pz_mqi h]; unfold pz_sv
  simp only [if_true, if_false, Nat.reduceEqDiff, reduceCtorEq, reduceIte, Nat.succ_ne_self, Nat.one_ne_zero, Nat.zero_ne_one]
theorem pz_svq4 (h : s < 100) : pz_sv s 4 = pz_mq 6 s := by
  rw [pz_mqi h]; unfold pz_sv
  simp only [if_true, if_false, Nat.reduceEqDiff, reduceCtorEq, reduceIte, Nat.succ_ne_self, Nat.one_ne_zero, Nat.zero_ne_one]
theorem pz_svq5 (h : s < 100) : pz_sv s 5 = pz_mq 7 s := by
  rw [pz_mqi h]; unfold pz_sv
  simp only [if_true, if_false, Nat.reduceEqDiff, reduceCtorEq, reduceIte, Nat.succ_ne_self, Nat.one_ne_zero, Nat.zero_ne_one]
theorem pz_svq7 (h : s < 100) : pz_sv s 7 = pz_mq 10 s := by
  rw [pz_mqi h, pz_sv7]
  simp only [if_true, if_false, Nat.reduceEqDiff, reduceCtorEq, reduceIte]
theorem pz_svq8 (h : s < 100) : pz_sv s 8 = pz_mq 11 s := by
  rw [pz_mqi h, pz_sv8]
  simp only [if_true, if_false, Nat.reduceEqDiff, reduceCtorEq, reduceIte]
theorem pz_sv0 : pz_sv s 0 = nI s := if_pos rfl
theorem pz_c0_csc (E : pz_E w) (h13 : pw_ln w 13 0 = 1) : pz_csc sc0 w := by
  obtain ⟨e7, ⟨l14, l15, l23, l22, l20, l25, l21, l11⟩, ⟨n10, n24, n3, n11, n5, n12⟩, s14, s6, s10, ⟨p23, p30, p31, p32, p33, p34, p35⟩, p3o, p11, r15, r4, r24, f5⟩ := E
  have s6i : ∀ s k, s < 100 → w.1 6 s k = pz_sv s k := fun s k hs => (s6 s k).trans (if_pos hs)
  have s6f : ∀ k f, (∀ s, s < 100 → pz_sv s k = pz_mq f s) → ∀ s, w.1 6 s k = pz_mq f s := fun k f h s => by
    by_cases q : s < 100
    · rw [s6i s k q, h s q]
    · rw [s6, if_neg q]; unfold pz_mq; rw [if_neg q]
  have r4i : ∀ p k, p < 12 → w.1 4 p k = pz_pv p k := fun p k hp => (r4 p k).trans (if_pos hp)
  have hi : ∀ s, s < 100 → pw_i (w.1 6 s 2) = s := fun s hs => by rw [s6i s 2 hs]; exact pz_i (by omega)
  have j1 : ∀ j, j < pa0.1 → j = 0 := fun j hj => by have : j < 1 := hj; omega
  refine ⟨e7 0 (by decide), e7 1 (by decide), e7 2 (by decide), e7 3 (by decide), e7 4 (by decide), e7 5 (by decide), e7 6 (by decide), e7 7 (by decide), e7 8 (by decide), e7 9 (by decide), e7 10 (by decide), e7 11 (by decide), h13⟩

theorem pz_c0_csq (E : pz_E w) (h13 : pw_ln w 13 0 = 1) : pz_csq sq0 w := by
  obtain ⟨e7, ⟨l14, l15, l23, l22, l20, l25, l21, l11⟩, ⟨n10, n24, n3, n11, n5, n12⟩, s14, s6, s10, ⟨p23, p30, p31, p32, p33, p34, p35⟩, p3o, p11, r15, r4, r24, f5⟩ := E
  have s6i : ∀ s k, s < 100 → w.1 6 s k = pz_sv s k := fun s k hs => (s6 s k).trans (if_pos hs)
  have s6f : ∀ k f, (∀ s, s < 100 → pz_sv s k = pz_mq f s) → ∀ s, w.1 6 s k = pz_mq f s := fun k f h s => by
    by_cases q : s < 100
    · rw [s6i s k q, h s q]
    · rw [s6, if_neg q]; unfold pz_mq; rw [if_neg q]
  have r4i : ∀ p k, p < 12 → w.1 4 p k = pz_pv p k := fun p k hp => (r4 p k).trans (if_pos hp)
  have hi : ∀ s, s < 100 → pw_i (w.1 6 s 2) = s := fun s hs => by rw [s6i s 2 hs]; exact pz_i (by omega)
  have j1 : ∀ j, j < pa0.1 → j = 0 := fun j hj => by have : j < 1 := hj; omega
  refine ⟨l14, s14, fun s hs => (s6i s 0 hs).trans pz_sv0, s6f 1 8 (fun s hs => pz_svq1 hs), s6f 3 14 (fun s hs => pz_svq3 hs), s6f 4 6 (fun s hs => pz_svq4 hs), s6f 5 7 (fun s hs => pz_svq5 hs), fun s => ?_, s6f 7 10 (fun s hs => pz_svq7 hs), s6f 8 11 (fun s hs => pz_svq8 hs)⟩
  · by_cases q : s < 100
    · rw [s6i s 6 q, show sq0.1 9 s = -50000 from pz_mqi q]; exact (if_pos rfl : pz_bn (-50000) = -1).symm
    · rw [s6, if_neg q, show sq0.1 9 s = 0 from if_neg q]; exact (if_neg (by decide) : pz_bn 0 = 0).symm
theorem pz_c0_cgv (E : pz_E w) (h13 : pw_ln w 13 0 = 1) : pz_cgv sq0 w := by
  obtain ⟨e7, ⟨l14, l15, l23, l22, l20, l25, l21, l11⟩, ⟨n10, n24, n3, n11, n5, n12⟩, s14, s6, s10, ⟨p23, p30, p31, p32, p33, p34, p35⟩, p3o, p11, r15, r4, r24, f5⟩ := E
  have s6i : ∀ s k, s < 100 → w.1 6 s k = pz_sv s k := fun s k hs => (s6 s k).trans (if_pos hs)
  have s6f : ∀ k f, (∀ s, s < 100 → pz_sv s k = pz_mq f s) → ∀ s, w.1 6 s k = pz_mq f s := fun k f h s => by
    by_cases q : s < 100
    · rw [s6i s k q, h s q]
    · rw [s6, if_neg q]; unfold pz_mq; rw [if_neg q]
  have r4i : ∀ p k, p < 12 → w.1 4 p k = pz_pv p k := fun p k hp => (r4 p k).trans (if_pos hp)
  have hi : ∀ s, s < 100 → pw_i (w.1 6 s 2) = s := fun s hs => by rw [s6i s 2 hs]; exact pz_i (by omega)
  have j1 : ∀ j, j < pa0.1 → j = 0 := fun j hj => by have : j < 1 := hj; omega
  refine ⟨fun s hs => ?_, fun s hs => ?_⟩
  · rw [s6i s 9 hs, show sq0.1 12 s = -1 from pz_mqi hs]; unfold pz_gv; rw [pz_it rfl, pz_sv9]
  · rw [s6i s 10 hs, show sq0.1 12 s = -1 from pz_mqi hs, pz_it rfl, pz_sv10]
theorem pz_c0_cch (E : pz_E w) (h13 : pw_ln w 13 0 = 1) : pz_cch sq0 w := by
  obtain ⟨e7, ⟨l14, l15, l23, l22, l20, l25, l21, l11⟩, ⟨n10, n24, n3, n11, n5, n12⟩, s14, s6, s10, ⟨p23, p30, p31, p32, p33, p34, p35⟩, p3o, p11, r15, r4, r24, f5⟩ := E
  have s6i : ∀ s k, s < 100 → w.1 6 s k = pz_sv s k := fun s k hs => (s6 s k).trans (if_pos hs)
  have s6f : ∀ k f, (∀ s, s < 100 → pz_sv s k = pz_mq f s) → ∀ s, w.1 6 s k = pz_mq f s := fun k f h s => by
    by_cases q : s < 100
    · rw [s6i s k q, h s q]
    · rw [s6, if_neg q]; unfold pz_mq; rw [if_neg q]
  have r4i : ∀ p k, p < 12 → w.1 4 p k = pz_pv p k := fun p k hp => (r4 p k).trans (if_pos hp)
  have hi : ∀ s, s < 100 → pw_i (w.1 6 s 2) = s := fun s hs => by rw [s6i s 2 hs]; exact pz_i (by omega)
  have j1 : ∀ j, j < pa0.1 → j = 0 := fun j hj => by have : j < 1 := hj; omega
  refine ⟨fun s hs => ?_, fun s t hs ht e => ?_, fun s hs => ?_, fun s j hs hj => ?_⟩
  · rw [s6i s 2 hs, n10]; exact pz_jn hs (by omega)
  · rw [s6i s 2 hs, s6i t 2 ht] at e
    have e : nI s = nI t := e
    rw [pz_eq (by omega) (by omega)] at e; exact e
  · rw [hi s hs, (s10 s hs).1, show sq0.1 14 s = 1 from pz_mqi hs]; decide
  · rw [show sq0.1 14 s = 1 from pz_mqi hs] at hj
    have : j = 0 := by have : j < 1 := hj; omega
    rw [hi s hs, this]; exact (s10 s hs).2
theorem pz_c0_cpa (E : pz_E w) (h13 : pw_ln w 13 0 = 1) : pz_cpa pa0 w := by
  obtain ⟨e7, ⟨l14, l15, l23, l22, l20, l25, l21, l11⟩, ⟨n10, n24, n3, n11, n5, n12⟩, s14, s6, s10, ⟨p23, p30, p31, p32, p33, p34, p35⟩, p3o, p11, r15, r4, r24, f5⟩ := E
  have s6i : ∀ s k, s < 100 → w.1 6 s k = pz_sv s k := fun s k hs => (s6 s k).trans (if_pos hs)
  have s6f : ∀ k f, (∀ s, s < 100 → pz_sv s k = pz_mq f s) → ∀ s, w.1 6 s k = pz_mq f s := fun k f h s => by
    by_cases q : s < 100
    · rw [s6i s k q, h s q]
    · rw [s6, if_neg q]; unfold pz_mq; rw [if_neg q]
  have r4i : ∀ p k, p < 12 → w.1 4 p k = pz_pv p k := fun p k hp => (r4 p k).trans (if_pos hp)
  have hi : ∀ s, s < 100 → pw_i (w.1 6 s 2) = s := fun s hs => by rw [s6i s 2 hs]; exact pz_i (by omega)
  have j1 : ∀ j, j < pa0.1 → j = 0 := fun j hj => by have : j < 1 := hj; omega
  refine ⟨l23, n3, n11, fun j hj => ?_, fun j hj => ?_, fun j hj => ?_, fun j => ?_, fun j => ?_, fun j hj => ?_, fun j hj => ?_, fun j q hj hq => ?_⟩
  · rw [j1 j hj]; exact p23
  · rw [j1 j hj]; exact p30
  · rw [j1 j hj]; exact p31
  · by_cases q : j = 0
    · rw [q, p32]; rfl
    · rw [p3o j 2 q]; exact (if_neg (fun z => q z.1)).symm
  · by_cases q : j = 0
    · rw [q, p33]; rfl
    · rw [p3o j 3 q]; exact (if_neg (fun z => q z.1)).symm
  · rw [j1 j hj, p35]; exact (pz_ss0 (fun _ _ => rfl)).symm
  · rw [j1 j hj]; exact l11
  · rw [j1 j hj]; exact p11 q
theorem pz_c0_car (E : pz_E w) (h13 : pw_ln w 13 0 = 1) : pz_car pa0 sq0 w := by
  obtain ⟨e7, ⟨l14, l15, l23, l22, l20, l25, l21, l11⟩, ⟨n10, n24, n3, n11, n5, n12⟩, s14, s6, s10, ⟨p23, p30, p31, p32, p33, p34, p35⟩, p3o, p11, r15, r4, r24, f5⟩ := E
  have s6i : ∀ s k, s < 100 → w.1 6 s k = pz_sv s k := fun s k hs => (s6 s k).trans (if_pos hs)
  have s6f : ∀ k f, (∀ s, s < 100 → pz_sv s k = pz_mq f s) → ∀ s, w.1 6 s k = pz_mq f s := fun k f h s => by
    by_cases q : s < 100
    · rw [s6i s k q, h s q]
    · rw [s6, if_neg q]; unfold pz_mq; rw [if_neg q]
  have r4i : ∀ p k, p < 12 → w.1 4 p k = pz_pv p k := fun p k hp => (r4 p k).trans (if_pos hp)
  have hi : ∀ s, s < 100 → pw_i (w.1 6 s 2) = s := fun s hs => by rw [s6i s 2 hs]; exact pz_i (by omega)
  have j1 : ∀ j, j < pa0.1 → j = 0 := fun j hj => by have : j < 1 := hj; omega
  refine fun j hj => ?_
  · rw [j1 j hj, p34]
    have : pz_cn (fun s => sq0.1 8 s = nI 0) 100 = 100 := pz_cnA (fun s => pz_mq0 (Or.inl rfl)) 100
    unfold pz_ct
    rw [this]; rfl
theorem pz_c0_cpe (E : pz_E w) (h13 : pw_ln w 13 0 = 1) : pz_cpe pe0 w := by
  obtain ⟨e7, ⟨l14, l15, l23, l22, l20, l25, l21, l11⟩, ⟨n10, n24, n3, n11, n5, n12⟩, s14, s6, s10, ⟨p23, p30, p31, p32, p33, p34, p35⟩, p3o, p11, r15, r4, r24, f5⟩ := E
  have s6i : ∀ s k, s < 100 → w.1 6 s k = pz_sv s k := fun s k hs => (s6 s k).trans (if_pos hs)
  have s6f : ∀ k f, (∀ s, s < 100 → pz_sv s k = pz_mq f s) → ∀ s, w.1 6 s k = pz_mq f s := fun k f h s => by
    by_cases q : s < 100
    · rw [s6i s k q, h s q]
    · rw [s6, if_neg q]; unfold pz_mq; rw [if_neg q]
  have r4i : ∀ p k, p < 12 → w.1 4 p k = pz_pv p k := fun p k hp => (r4 p k).trans (if_pos hp)
  have hi : ∀ s, s < 100 → pw_i (w.1 6 s 2) = s := fun s hs => by rw [s6i s 2 hs]; exact pz_i (by omega)
  have j1 : ∀ j, j < pa0.1 → j = 0 := fun j hj => by have : j < 1 := hj; omega
  refine ⟨l15, r15, fun p hp => r4i p 0 hp, fun p hp => r4i p 1 hp, fun p hp => (r4i p 2 hp).trans (pz_bt rfl).symm, fun p => ?_, fun p hp => ?_, fun p j hp hj => ?_, Nat.le_of_eq n24.symm⟩
  · rw [r4]
    by_cases q : p < 12
    · rw [if_pos q, pz_pv3]; rfl
    · rw [if_neg q]; rfl
  · rw [r24 p hp]; exact ⟨rfl, by decide⟩
  · rw [r24 p hp] at hj; exact absurd hj (Nat.not_lt_zero _)
theorem pz_c0_cri (E : pz_E w) (h13 : pw_ln w 13 0 = 1) : pz_cri ri0 w := by
  obtain ⟨e7, ⟨l14, l15, l23, l22, l20, l25, l21, l11⟩, ⟨n10, n24, n3, n11, n5, n12⟩, s14, s6, s10, ⟨p23, p30, p31, p32, p33, p34, p35⟩, p3o, p11, r15, r4, r24, f5⟩ := E
  have s6i : ∀ s k, s < 100 → w.1 6 s k = pz_sv s k := fun s k hs => (s6 s k).trans (if_pos hs)
  have s6f : ∀ k f, (∀ s, s < 100 → pz_sv s k = pz_mq f s) → ∀ s, w.1 6 s k = pz_mq f s := fun k f h s => by
    by_cases q : s < 100
    · rw [s6i s k q, h s q]
    · rw [s6, if_neg q]; unfold pz_mq; rw [if_neg q]
  have r4i : ∀ p k, p < 12 → w.1 4 p k = pz_pv p k := fun p k hp => (r4 p k).trans (if_pos hp)
  have hi : ∀ s, s < 100 → pw_i (w.1 6 s 2) = s := fun s hs => by rw [s6i s 2 hs]; exact pz_i (by omega)
  have j1 : ∀ j, j < pa0.1 → j = 0 := fun j hj => by have : j < 1 := hj; omega
  refine ⟨l25, n5, fun r hr => absurd hr (Nat.not_lt_zero _), fun r => f5 r 0, fun r => f5 r 1, fun r => f5 r 2, fun r hr => absurd hr (Nat.not_lt_zero _), fun r => f5 r 4, fun r => f5 r 5⟩

theorem pz_c0_cmp (E : pz_E w) (h13 : pw_ln w 13 0 = 1) : pz_cmp ri0 w := by
  obtain ⟨e7, ⟨l14, l15, l23, l22, l20, l25, l21, l11⟩, ⟨n10, n24, n3, n11, n5, n12⟩, s14, s6, s10, ⟨p23, p30, p31, p32, p33, p34, p35⟩, p3o, p11, r15, r4, r24, f5⟩ := E
  have s6i : ∀ s k, s < 100 → w.1 6 s k = pz_sv s k := fun s k hs => (s6 s k).trans (if_pos hs)
  have s6f : ∀ k f, (∀ s, s < 100 → pz_sv s k = pz_mq f s) → ∀ s, w.1 6 s k = pz_mq f s := fun k f h s => by
    by_cases q : s < 100
    · rw [s6i s k q, h s q]
    · rw [s6, if_neg q]; unfold pz_mq; rw [if_neg q]
  have r4i : ∀ p k, p < 12 → w.1 4 p k = pz_pv p k := fun p k hp => (r4 p k).trans (if_pos hp)
  have hi : ∀ s, s < 100 → pw_i (w.1 6 s 2) = s := fun s hs => by rw [s6i s 2 hs]; exact pz_i (by omega)
  have j1 : ∀ j, j < pa0.1 → j = 0 := fun j hj => by have : j < 1 := hj; omega
  refine ⟨l22, fun c hc => absurd hc (Nat.not_lt_zero _), fun c hc => absurd hc (Nat.not_lt_zero _), fun c hc => absurd hc (Nat.not_lt_zero _), fun c hc => absurd hc (Nat.not_lt_zero _)⟩

theorem pz_c0_cca (E : pz_E w) (h13 : pw_ln w 13 0 = 1) : pz_cca ca0 w := by
  obtain ⟨e7, ⟨l14, l15, l23, l22, l20, l25, l21, l11⟩, ⟨n10, n24, n3, n11, n5, n12⟩, s14, s6, s10, ⟨p23, p30, p31, p32, p33, p34, p35⟩, p3o, p11, r15, r4, r24, f5⟩ := E
  have s6i : ∀ s k, s < 100 → w.1 6 s k = pz_sv s k := fun s k hs => (s6 s k).trans (if_pos hs)
  have s6f : ∀ k f, (∀ s, s < 100 → pz_sv s k = pz_mq f s) → ∀ s, w.1 6 s k = pz_mq f s := fun k f h s => by
    by_cases q : s < 100
    · rw [s6i s k q, h s q]
    · rw [s6, if_neg q]; unfold pz_mq; rw [if_neg q]
  have r4i : ∀ p k, p < 12 → w.1 4 p k = pz_pv p k := fun p k hp => (r4 p k).trans (if_pos hp)
  have hi : ∀ s, s < 100 → pw_i (w.1 6 s 2) = s := fun s hs => by rw [s6i s 2 hs]; exact pz_i (by omega)
  have j1 : ∀ j, j < pa0.1 → j = 0 := fun j hj => by have : j < 1 := hj; omega
  refine ⟨l20, n12, fun c hc => absurd hc (Nat.not_lt_zero _), fun c d hc => absurd hc (Nat.not_lt_zero _), fun c hc => absurd hc (Nat.not_lt_zero _), fun c hc => absurd hc (Nat.not_lt_zero _), fun c hc => absurd hc (Nat.not_lt_zero _), fun c hc => absurd hc (Nat.not_lt_zero _), fun c hc => absurd hc (Nat.not_lt_zero _), fun c hc => absurd hc (Nat.not_lt_zero _), fun c hc => absurd hc (Nat.not_lt_zero _), fun c hc => absurd hc (Nat.not_lt_zero _), fun c s hc => absurd hc (Nat.not_lt_zero _)⟩

theorem pz_c0_cst (E : pz_E w) (h13 : pw_ln w 13 0 = 1) : pz_cst ca0 sq0 w := by
  obtain ⟨e7, ⟨l14, l15, l23, l22, l20, l25, l21, l11⟩, ⟨n10, n24, n3, n11, n5, n12⟩, s14, s6, s10, ⟨p23, p30, p31, p32, p33, p34, p35⟩, p3o, p11, r15, r4, r24, f5⟩ := E
  have s6i : ∀ s k, s < 100 → w.1 6 s k = pz_sv s k := fun s k hs => (s6 s k).trans (if_pos hs)
  have s6f : ∀ k f, (∀ s, s < 100 → pz_sv s k = pz_mq f s) → ∀ s, w.1 6 s k = pz_mq f s := fun k f h s => by
    by_cases q : s < 100
    · rw [s6i s k q, h s q]
    · rw [s6, if_neg q]; unfold pz_mq; rw [if_neg q]
  have r4i : ∀ p k, p < 12 → w.1 4 p k = pz_pv p k := fun p k hp => (r4 p k).trans (if_pos hp)
  have hi : ∀ s, s < 100 → pw_i (w.1 6 s 2) = s := fun s hs => by rw [s6i s 2 hs]; exact pz_i (by omega)
  have j1 : ∀ j, j < pa0.1 → j = 0 := fun j hj => by have : j < 1 := hj; omega
  refine fun c s hc => absurd hc (Nat.not_lt_zero _)

theorem pz_c0_cdr (E : pz_E w) (h13 : pw_ln w 13 0 = 1) : pz_cdr ri0 w := by
  obtain ⟨e7, ⟨l14, l15, l23, l22, l20, l25, l21, l11⟩, ⟨n10, n24, n3, n11, n5, n12⟩, s14, s6, s10, ⟨p23, p30, p31, p32, p33, p34, p35⟩, p3o, p11, r15, r4, r24, f5⟩ := E
  have s6i : ∀ s k, s < 100 → w.1 6 s k = pz_sv s k := fun s k hs => (s6 s k).trans (if_pos hs)
  have s6f : ∀ k f, (∀ s, s < 100 → pz_sv s k = pz_mq f s) → ∀ s, w.1 6 s k = pz_mq f s := fun k f h s => by
    by_cases q : s < 100
    · rw [s6i s k q, h s q]
    · rw [s6, if_neg q]; unfold pz_mq; rw [if_neg q]
  have r4i : ∀ p k, p < 12 → w.1 4 p k = pz_pv p k := fun p k hp => (r4 p k).trans (if_pos hp)
  have hi : ∀ s, s < 100 → pw_i (w.1 6 s 2) = s := fun s hs => by rw [s6i s 2 hs]; exact pz_i (by omega)
  have j1 : ∀ j, j < pa0.1 → j = 0 := fun j hj => by have : j < 1 := hj; omega
  refine ⟨l21, fun c hc => absurd hc (Nat.not_lt_zero _), fun c hc => absurd hc (Nat.not_lt_zero _), fun c hc => absurd hc (Nat.not_lt_zero _)⟩

theorem pz_c0w (E : pz_E w) (h13 : pw_ln w 13 0 = 1) (hn : ∀ f, pw_nv w f ≤ w.2.2.1) (hu : w.2.2.1 ≤ 4000) (hv : w.2.2.2 ≤ 200000) : pz_c sc0 sq0 pa0 ri0 ri0 ca0 ri0 pe0 4000 200000 w w := by
  refine ⟨fun _ _ => ⟨rfl, rfl⟩, pz_c0_csc E h13, pz_c0_csq E h13, pz_c0_cgv E h13, pz_c0_cch E h13, pz_c0_cpa E h13, pz_c0_car E h13, pz_c0_cpe E h13, pz_c0_cri E h13, pz_c0_cmp E h13, pz_c0_cca E h13, pz_c0_cst E h13, pz_c0_cdr E h13, pz_crm.mk' hn hu hv⟩
/-- the model's part, of the world behind its start, with one more array of the law's -/
theorem pz_m0w (hY : pz_Y wA 246 400 50000 wY) (h9 : pz_Y2 (pw_ps (pw_ps (pw_ps wY 8 0 18 1) 216 0 0 (-1)) 217 0 0 (-1)) 100 w9) : pz_m sc0 sq0 pa0 ri0 ri0 ca0 ri0 pe0 (pw_nw w9 13 1 1) (pw_nw w9 13 1 1) := by
  obtain ⟨h1, h2, h3, h4, h5, h6, h7, h8⟩ := hY
  obtain ⟨a1, a2, a3, a4, a5, a6, a7, a8⟩ := h9
  have fF : ∀ g, g ≠ 13 → (pw_nw w9 13 1 1).1 g = w9.1 g := fun g hg => pz_nwF hg
  have fL : ∀ g, 200 ≤ g → g < 246 → 0 < pz_SZ g → pw_ln (pw_nw w9 13 1 1) g 0 = pz_SZ g := fun g g1 g2 g3 => by
    show (pw_nw w9 13 1 1).2.1 g 0 = _
    rw [pz_nwL (by omega) (by omega), a2]; exact (h2 g g1 g2 g3).1
  have f8 : ∀ k, ¬ k = 18 → (pw_nw w9 13 1 1).1 8 0 k = wY.1 8 0 k := fun k hk => by
    rw [fF 8 (by decide), a1 8 (by decide) (by decide) (by decide) (by decide) (by decide) (by decide), pz_psf (by decide), pz_psf (by decide), pz_psk hk]
  have fR : ∀ g, 200 ≤ g → g < 246 → 0 < pz_SZ g → ¬ g - 200 = 18 → (pw_nw w9 13 1 1).1 8 0 (g - 200) = 0 := fun g g1 g2 g3 g4 => (f8 _ g4).trans (h2 g g1 g2 g3).2
  have z : ∀ g i, 200 ≤ g → g < 300 → g ≠ 206 → g ≠ 207 → g ≠ 209 → g ≠ 210 → g ≠ 212 → g ≠ 214 → g ≠ 216 → g ≠ 217 → (pw_nw w9 13 1 1).1 g 0 i = 0 := fun g i g1 g2 g3 g4 g5 g6 g7 g8 g9 g10 => by
    rw [fF g (by omega), a1 g g3 g4 g5 g6 g7 g8, pz_psf g10, pz_psf g9, pz_psf (by omega)]; exact h1 g 0 i g1 g2
  have y : ∀ g i, (g = 216 ∨ g = 217) → (pw_nw w9 13 1 1).1 g 0 i = if i = 0 then -1 else 0 := fun g i hg => by
    rw [fF g (by omega), a1 g (by omega) (by omega) (by omega) (by omega) (by omega) (by omega)]
    rcases hg with rfl | rfl
    · rw [pz_psf (by decide)]
      by_cases q : i = 0
      · rw [q, pz_pss]; rfl
      · rw [pz_psk q, pz_psf (by decide), if_neg q]; exact h1 216 0 i (by decide) (by decide)
    · by_cases q : i = 0
      · rw [q, pz_pss]; rfl
      · rw [pz_psk q, pz_psf (by decide), pz_psf (by decide), if_neg q]; exact h1 217 0 i (by decide) (by decide)
  have e18 : (pw_nw w9 13 1 1).1 8 0 18 = 1 := by
    rw [fF 8 (by decide), a1 8 (by decide) (by decide) (by decide) (by decide) (by decide) (by decide), pz_psf (by decide), pz_psf (by decide), pz_pss]
  refine ⟨⟨fun _ _ _ => rfl, rfl⟩, ⟨(fL 206 (by decide) (by decide) (by decide +kernel)).trans (by decide +kernel), (fL 207 (by decide) (by decide) (by decide +kernel)).trans (by decide +kernel), (fL 208 (by decide) (by decide) (by decide +kernel)).trans (by decide +kernel), (fL 209 (by decide) (by decide) (by decide +kernel)).trans (by decide +kernel), (fL 210 (by decide) (by decide) (by decide +kernel)).trans (by decide +kernel), (fL 211 (by decide) (by decide) (by decide +kernel)).trans (by decide +kernel), (fL 212 (by decide) (by decide) (by decide +kernel)).trans (by decide +kernel), (fL 213 (by decide) (by decide) (by decide +kernel)).trans (by decide +kernel), (fL 214 (by decide) (by decide) (by decide +kernel)).trans (by decide +kernel), (fL 215 (by decide) (by decide) (by decide +kernel)).trans (by decide +kernel), (fL 216 (by decide) (by decide) (by decide +kernel)).trans (by decide +kernel), (fL 217 (by decide) (by decide) (by decide +kernel)).trans (by decide +kernel), (fL 219 (by decide) (by decide) (by decide +kernel)).trans (by decide +kernel), (fL 220 (by decide) (by decide) (by decide +kernel)).trans (by decide +kernel), (fL 221 (by decide) (by decide) (by decide +kernel)).trans (by decide +kernel), (fL 222 (by decide) (by decide) (by decide +kernel)).trans (by decide +kernel), (fL 223 (by decide) (by decide) (by decide +kernel)).trans (by decide +kernel), (fL 224 (by decide) (by decide) (by decide +kernel)).trans (by decide +kernel), (fL 225 (by decide) (by decide) (by decide +kernel)).trans (by decide +kernel), (fL 227 (by decide) (by decide) (by decide +kernel)).trans (by decide +kernel), (fL 228 (by decide) (by decide) (by decide +kernel)).trans (by decide +kernel), (fL 229 (by decide) (by decide) (by decide +kernel)).trans (by decide +kernel), (fL 231 (by decide) (by decide) (by decide +kernel)).trans (by decide +kernel), (fL 232 (by decide) (by decide) (by decide +kernel)).trans (by decide +kernel), (fL 233 (by decide) (by decide) (by decide +kernel)).trans (by decide +kernel), (fL 234 (by decide) (by decide) (by decide +kernel)).trans (by decide +kernel), (fL 235 (by decide) (by decide) (by decide +kernel)).trans (by decide +kernel), (fL 236 (by decide) (by decide) (by decide +kernel)).trans (by decide +kernel), (fL 237 (by decide) (by decide) (by decide +kernel)).trans (by decide +kernel), (fL 239 (by decide) (by decide) (by decide +kernel)).trans (by decide +kernel), (fL 240 (by decide) (by decide) (by decide +kernel)).trans (by decide +kernel), (fL 242 (by decide) (by decide) (by decide +kernel)).trans (by decide +kernel), (fL 243 (by decide) (by decide) (by decide +kernel)).trans (by decide +kernel), (fL 244 (by decide) (by decide) (by decide +kernel)).trans (by decide +kernel), (fL 245 (by decide) (by decide) (by decide +kernel)).trans (by decide +kernel)⟩, ⟨fR 206 (by decide) (by decide) (by decide +kernel) (by decide), fR 207 (by decide) (by decide) (by decide +kernel) (by decide), fR 208 (by decide) (by decide) (by decide +kernel) (by decide), fR 209 (by decide) (by decide) (by decide +kernel) (by decide), fR 210 (by decide) (by decide) (by decide +kernel) (by decide), fR 211 (by decide) (by decide) (by decide +kernel) (by decide), fR 212 (by decide) (by decide) (by decide +kernel) (by decide), fR 213 (by decide) (by decide) (by decide +kernel) (by decide), fR 214 (by decide) (by decide) (by decide +kernel) (by decide), fR 215 (by decide) (by decide) (by decide +kernel) (by decide), fR 216 (by decide) (by decide) (by decide +kernel) (by decide), fR 217 (by decide) (by decide) (by decide +kernel) (by decide), fR 219 (by decide) (by decide) (by decide +kernel) (by decide), fR 220 (by decide) (by decide) (by decide +kernel) (by decide), fR 221 (by decide) (by decide) (by decide +kernel) (by decide), fR 222 (by decide) (by decide) (by decide +kernel) (by decide), fR 223 (by decide) (by decide) (by decide +kernel) (by decide), fR 224 (by decide) (by decide) (by decide +kernel) (by decide), fR 225 (by decide) (by decide) (by decide +kernel) (by decide), fR 227 (by decide) (by decide) (by decide +kernel) (by decide), fR 228 (by decide) (by decide) (by decide +kernel) (by decide), fR 229 (by decide) (by decide) (by decide +kernel) (by decide), fR 231 (by decide) (by decide) (by decide +kernel) (by decide), fR 232 (by decide) (by decide) (by decide +kernel) (by decide), fR 233 (by decide) (by decide) (by decide +kernel) (by decide), fR 234 (by decide) (by decide) (by decide +kernel) (by decide), fR 235 (by decide) (by decide) (by decide +kernel) (by decide), fR 236 (by decide) (by decide) (by decide +kernel) (by decide), fR 237 (by decide) (by decide) (by decide +kernel) (by decide), fR 239 (by decide) (by decide) (by decide +kernel) (by decide), fR 240 (by decide) (by decide) (by decide +kernel) (by decide), fR 242 (by decide) (by decide) (by decide +kernel) (by decide), fR 243 (by decide) (by decide) (by decide +kernel) (by decide), fR 244 (by decide) (by decide) (by decide +kernel) (by decide), fR 245 (by decide) (by decide) (by decide +kernel) (by decide)⟩, ?_, ?_, ?_, ?_, ?_, ?_, ?_, ?_⟩
  · exact ⟨(f8 0 (by decide)).trans (h4 0 (by decide)), (f8 1 (by decide)).trans (h4 1 (by decide)), (f8 2 (by decide)).trans (h4 2 (by decide)), (f8 3 (by decide)).trans (h4 3 (by decide)), (f8 4 (by decide)).trans (h4 4 (by decide)), (f8 5 (by decide)).trans (h4 5 (by decide))⟩
  · refine ⟨fun i => ?_, fun i => ?_, fun i => ?_, fun i => ?_, fun i => ?_, fun i => ?_, fun i => ?_, fun i => ?_, fun i => ?_, fun s j _ _ => z 215 _ (by decide) (by decide) (by decide) (by decide) (by decide) (by decide) (by decide) (by decide) (by decide) (by decide)⟩
    · rw [fF 206 (by decide)]; exact a3 i
    · rw [fF 207 (by decide)]; exact a4 i
    · exact (z 208 i (by decide) (by decide) (by decide) (by decide) (by decide) (by decide) (by decide) (by decide) (by decide) (by decide)).trans (pz_mq0 (by decide)).symm
    · rw [fF 209 (by decide)]; exact a5 i
    · rw [fF 210 (by decide)]; exact a6 i
    · exact (z 211 i (by decide) (by decide) (by decide) (by decide) (by decide) (by decide) (by decide) (by decide) (by decide) (by decide)).trans (pz_mq0 (by decide)).symm
    · rw [fF 212 (by decide)]; exact a7 i
    · exact (z 213 i (by decide) (by decide) (by decide) (by decide) (by decide) (by decide) (by decide) (by decide) (by decide) (by decide)).trans (pz_mq0 (by decide)).symm
    · rw [fF 214 (by decide)]; exact a8 i
  · refine ⟨fun i => ?_, fun i => ?_, fun s j _ _ => z 219 _ (by decide) (by decide) (by decide) (by decide) (by decide) (by decide) (by decide) (by decide) (by decide) (by decide), e18⟩
    · rw [y 216 i (Or.inl rfl)]
      by_cases q : i = 0
      · rw [q]; rfl
      · rw [if_neg q]; exact (if_neg (fun t => q t.1)).symm
    · rw [y 217 i (Or.inr rfl)]
      by_cases q : i = 0
      · rw [q]; rfl
      · rw [if_neg q]; exact (if_neg (fun t => q t.1)).symm
  · exact ⟨fun i => z 220 i (by decide) (by decide) (by decide) (by decide) (by decide) (by decide) (by decide) (by decide) (by decide) (by decide), fun i => z 221 i (by decide) (by decide) (by decide) (by decide) (by decide) (by decide) (by decide) (by decide) (by decide) (by decide), fun i => z 222 i (by decide) (by decide) (by decide) (by decide) (by decide) (by decide) (by decide) (by decide) (by decide) (by decide), fun i => z 223 i (by decide) (by decide) (by decide) (by decide) (by decide) (by decide) (by decide) (by decide) (by decide) (by decide), fun i => z 224 i (by decide) (by decide) (by decide) (by decide) (by decide) (by decide) (by decide) (by decide) (by decide) (by decide), fun i => z 225 i (by decide) (by decide) (by decide) (by decide) (by decide) (by decide) (by decide) (by decide) (by decide) (by decide), (f8 26 (by decide)).trans (h4 26 (by decide))⟩
  · exact ⟨fun i => z 227 i (by decide) (by decide) (by decide) (by decide) (by decide) (by decide) (by decide) (by decide) (by decide) (by decide), fun i => z 228 i (by decide) (by decide) (by decide) (by decide) (by decide) (by decide) (by decide) (by decide) (by decide) (by decide), fun i => z 229 i (by decide) (by decide) (by decide) (by decide) (by decide) (by decide) (by decide) (by decide) (by decide) (by decide), (f8 30 (by decide)).trans (h4 30 (by decide))⟩
  · exact ⟨fun i => z 231 i (by decide) (by decide) (by decide) (by decide) (by decide) (by decide) (by decide) (by decide) (by decide) (by decide), fun i => z 232 i (by decide) (by decide) (by decide) (by decide) (by decide) (by decide) (by decide) (by decide) (by decide) (by decide), fun i => z 233 i (by decide) (by decide) (by decide) (by decide) (by decide) (by decide) (by decide) (by decide) (by decide) (by decide), fun i => z 234 i (by decide) (by decide) (by decide) (by decide) (by decide) (by decide) (by decide) (by decide) (by decide) (by decide), fun i => z 235 i (by decide) (by decide) (by decide) (by decide) (by decide) (by decide) (by decide) (by decide) (by decide) (by decide), fun i => z 236 i (by decide) (by decide) (by decide) (by decide) (by decide) (by decide) (by decide) (by decide) (by decide) (by decide), fun s j _ _ => z 237 _ (by decide) (by decide) (by decide) (by decide) (by decide) (by decide) (by decide) (by decide) (by decide) (by decide), (f8 38 (by decide)).trans (h4 38 (by decide))⟩
  · exact ⟨fun i => z 239 i (by decide) (by decide) (by decide) (by decide) (by decide) (by decide) (by decide) (by decide) (by decide) (by decide), fun i => z 240 i (by decide) (by decide) (by decide) (by decide) (by decide) (by decide) (by decide) (by decide) (by decide) (by decide), (f8 41 (by decide)).trans (h4 41 (by decide))⟩
  · exact ⟨fun i => z 242 i (by decide) (by decide) (by decide) (by decide) (by decide) (by decide) (by decide) (by decide) (by decide) (by decide), fun i => z 244 i (by decide) (by decide) (by decide) (by decide) (by decide) (by decide) (by decide) (by decide) (by decide) (by decide), fun i => z 245 i (by decide) (by decide) (by decide) (by decide) (by decide) (by decide) (by decide) (by decide) (by decide) (by decide), fun s j _ _ => z 243 _ (by decide) (by decide) (by decide) (by decide) (by decide) (by decide) (by decide) (by decide) (by decide) (by decide)⟩
theorem pz_E.mv (h : pz_E wA) (hf : ∀ g, g < 200 → g ≠ 8 → g ≠ 13 → w.1 g = wA.1 g ∧ w.2.1 g = wA.2.1 g ∧ w.2.1 1000 g = wA.2.1 1000 g) : pz_E w := by
  have F : ∀ g, g < 200 → g ≠ 8 → g ≠ 13 → w.1 g = wA.1 g := fun g a b c => (hf g a b c).1
  have L : ∀ g, g < 200 → g ≠ 8 → g ≠ 13 → w.2.1 g = wA.2.1 g := fun g a b c => (hf g a b c).2.1
  have N : ∀ g, g < 200 → g ≠ 8 → g ≠ 13 → w.2.1 1000 g = wA.2.1 1000 g := fun g a b c => (hf g a b c).2.2
  unfold pz_E pw_ln pw_nv at *
  simp only [F 7 (by decide) (by decide) (by decide), F 14 (by decide) (by decide) (by decide), F 6 (by decide) (by decide) (by decide), F 10 (by decide) (by decide) (by decide), F 23 (by decide) (by decide) (by decide), F 3 (by decide) (by decide) (by decide), F 11 (by decide) (by decide) (by decide), F 15 (by decide) (by decide) (by decide), F 4 (by decide) (by decide) (by decide), F 5 (by decide) (by decide) (by decide), L 14 (by decide) (by decide) (by decide), L 15 (by decide) (by decide) (by decide), L 23 (by decide) (by decide) (by decide), L 22 (by decide) (by decide) (by decide), L 20 (by decide) (by decide) (by decide), L 25 (by decide) (by decide) (by decide), L 21 (by decide) (by decide) (by decide), L 11 (by decide) (by decide) (by decide), L 10 (by decide) (by decide) (by decide), L 24 (by decide) (by decide) (by decide), N 10 (by decide) (by decide) (by decide), N 24 (by decide) (by decide) (by decide), N 3 (by decide) (by decide) (by decide), N 11 (by decide) (by decide) (by decide), N 5 (by decide) (by decide) (by decide), N 12 (by decide) (by decide) (by decide), N 0 (by decide) (by decide) (by decide)]
  exact h
theorem wl_law (hL : Ln ≤ 2560) : wp_L_law Ln xs pw_w0 (fun _ r => r = 1) (fun _ _ => False) := by
  unfold wp_L_law
  refine ⟨rfl, by decide +kernel, fun w482 e482 => ?_⟩
  subst e482
  refine wl_cinit (fun wA hE hE0 => ?_)
  obtain ⟨z1, z2, z3, z4, z5⟩ := hE0
  have n8 : pw_nv wA 8 = 0 := (z1 8 (Or.inl rfl)).2
  refine ⟨n8, ⟨by omega, by omega, by rw [n8]; decide⟩, fun w488 e488 => ?_⟩
  have g1 : ∀ g, g ≠ 8 → w488.1 g = wA.1 g := fun g hg => by rw [e488, pz_nwF hg]
  have g2 : ∀ g, g ≠ 8 → g ≠ 1000 → w488.2.1 g = wA.2.1 g := fun g hg h2 => by rw [e488, pz_nwL hg h2]
  have g3 : ∀ g, g ≠ 8 → w488.2.1 1000 g = wA.2.1 1000 g := fun g hg => by rw [e488, pz_nwN hg]
  refine wl_minit (wB := w488) ⟨fun g i k g1' g2' => ?_, fun g a b => absurd a (by omega), fun g a b => ?_, fun k hk => ?_, fun _ _ _ => ⟨rfl, rfl, rfl⟩, ?_, ?_, ?_⟩ (fun w490 h490 => ?_)
  · rw [g1 g (by omega), (z1 g (Or.inr ⟨g1', g2'⟩)).1]
  · rw [g3 g (by omega)]; exact (z1 g (Or.inr ⟨a, b⟩)).2
  · have := pz_nws (w := wA) (f := 8) (len := 0) (n := 46) (k' := k)
    rw [n8] at this
    rw [e488, this]
    unfold pw_df
    exact if_neg (by omega)
  · rw [e488]; exact pz_nvl.nw z3
  · rw [e488]; show wA.2.2.1 + 1 ≤ 301; omega
  · rw [e488]; show wA.2.2.2 + 46 ≤ 10000; omega
  obtain ⟨wY, hY, h9⟩ := h490
  have b1 := h9.1
  have b2 := h9.2.1
  have y5 := hY.2.2.2.2.1
  have e2 : w490.2 = wY.2 := b2
  have yu : w490.2.2.1 ≤ 400 := by rw [e2]; exact hY.2.2.2.2.2.2.1
  have yv : w490.2.2.2 ≤ 50000 := by rw [e2]; exact hY.2.2.2.2.2.2.2
  have yn : ∀ f, pw_nv w490 f ≤ w490.2.2.1 := fun f => by
    show w490.2.1 1000 f ≤ _
    rw [e2]; exact hY.2.2.2.2.2.1 f
  have n13 : pw_nv w490 13 = 0 := by
    show w490.2.1 1000 13 = 0
    rw [e2, (y5 13 (by decide) (by decide)).2.2, g3 13 (by decide)]; exact z2
  refine ⟨n13, ⟨by omega, by show w490.2.2.2 + 1 ≤ _; omega, by rw [n13]; decide⟩, fun w494 e494 => ?_⟩
  have e494 : w494 = pw_nw w490 13 1 1 := e494
  refine wl_loop hL ⟨sc0, sq0, pa0, ri0, ri0, ca0, ri0, pe0, pz_I0, by rw [e494]; exact pz_m0w hY h9, pz_c0w (hE.mv fun g a b c => ⟨?_, ?_, ?_⟩) ?_ ?_ ?_ ?_⟩
  · rw [e494, pz_nwF c, b1 g (by omega) (by omega) (by omega) (by omega) (by omega) (by omega), pz_psF (by omega), pz_psF (by omega), pz_psF b, (y5 g a b).1, g1 g b]
  · rw [e494, pz_nwL c (by omega), e2, (y5 g a b).2.1, g2 g b (by omega)]
  · rw [e494, pz_nwN c, e2, (y5 g a b).2.2, g3 g b]
  · rw [e494]
    have := pz_nwls (w := w490) (f := 13) (len := 1) (n := 1) (by decide)
    rw [n13] at this; exact this
  · rw [e494]; exact pz_nvl.nw yn
  · rw [e494]; show w490.2.2.1 + 1 ≤ 4000; omega
  · rw [e494]; show w490.2.2.2 + 1 ≤ 200000; omega
end PZST
