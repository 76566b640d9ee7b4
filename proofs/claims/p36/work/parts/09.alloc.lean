section PVN
variable {l : Launch} {g : pw_G} {cx : pw_C} {Q : pw_W → Int32 → Prop} {X : pw_W → Nat → Prop} {pc n : Nat} {L st : List (Nat × Int32)} {w : pw_W} {x y j : Int32} {t : Nat}
/-- what a place holds at first -/
def pw_df (f k : Nat) : Int32 := if 2 ≤ pw_ty f k then -1 else 0
/-- one more of the family f, of length len and n slots -/
def pw_nw (w : pw_W) (f len n : Nat) : pw_W :=
  (fun a b c => if a = f ∧ b = w.2.1 1000 f then pw_df f c else w.1 a b c, fun a b => if a = 1000 then (if b = f then w.2.1 1000 f + 1 else w.2.1 1000 b) else if a = f ∧ b = w.2.1 1000 f then len else w.2.1 a b, w.2.2.1 + 1, w.2.2.2 + n)
/-- there is room for one more of n slots -/
abbrev pw_rm (w : pw_W) (f n : Nat) : Prop := w.2.2.1 + 1 ≤ 600104 ∧ w.2.2.2 + n ≤ 7301313 ∧ pw_nv w f < 1048576
theorem pw_arrV_congr {cA : ClassId} {n : Nat} {f f' : Nat → Value} (h : ∀ j, j < n → f j = f' j) : arrV cA n f = arrV cA n f' := by
  unfold arrV
  congr 1
  apply Array.ext
  · simp
  · intro i h1 h2
    simp only [Array.getElem_ofFn]
    exact h i (by simpa using h1)
/-- a cell that is as it was, told by the new world -/
theorem pw_at_al {g : pw_G} {ad ad' : Nat → Nat → Nat} {w w' : pw_W} {H H1 : Heap} (hx : pw_x ad w ad' w') {f i : Nat} (hv : pw_v w f i) (ht : ∀ f i k, pw_fo f → i < pw_nv w f → k < pw_len w f i → pw_ok w (pw_ty f k, w.1 f i k))
    (ha : ad' f i = ad f i) (ha2 : 20 ≤ f → f < 30 → 0 < pw_cp w f i → ad' (f + 10) i = ad (f + 10) i) (h1 : ∀ k, w'.1 f i k = w.1 f i k) (h2 : 20 ≤ f → f < 30 → w'.1 (f + 300) i 0 = w.1 (f + 300) i 0) (h3 : 30 ≤ f → f < 40 → ∀ k, w'.1 (f - 10) i k = w.1 (f - 10) i k)
    (n1 : pw_ln w' f i = pw_ln w f i) (n2 : 20 ≤ f → f < 30 → pw_cp w' f i = pw_cp w f i) (n3 : 30 ≤ f → f < 40 → pw_ln w' (f - 10) i = pw_ln w (f - 10) i ∧ pw_cp w' (f - 10) i = pw_cp w (f - 10) i)
    (hH : H1[ad f i]? = H[ad f i]?) (h : va_at g.1 pw_cl (ad f i, pw_e g ad w f i) H) : va_at g.1 pw_cl (ad' f i, pw_e g ad' w' f i) H1 := by
  rw [ha]
  unfold pw_e at h ⊢
  by_cases c1 : f < 9
  · rw [if_pos c1] at h ⊢
    have hi : i < pw_nv w f := by unfold pw_v at hv; rwa [if_neg (by omega)] at hv
    have e : pw_fs ad' w' f i = pw_fs ad w f i := by
      unfold pw_fs
      refine List.map_congr_left fun k hk => ?_
      rw [h1]
      exact pw_ph.x hx (ht f i k (Or.inl (by omega)) hi (by unfold pw_len; rw [if_pos c1]; exact List.mem_range.mp hk))
    rw [e]
    obtain ⟨r, e1, e2⟩ := h
    exact ⟨r, e1, e2.kept hH⟩
  rw [if_neg c1] at h ⊢
  by_cases c2 : 20 ≤ f ∧ f < 30
  · rw [if_pos c2] at h ⊢
    rw [h2 c2.1 c2.2, n1, n2 c2.1 c2.2]
    have e : (if pw_cp w f i = 0 then g.2.2.1 else ad' (f + 10) i) = (if pw_cp w f i = 0 then g.2.2.1 else ad (f + 10) i) := by
      by_cases z : pw_cp w f i = 0
      · rw [if_pos z, if_pos z]
      · rw [if_neg z, if_neg z, ha2 c2.1 c2.2 (by omega)]
    rw [e]
    obtain ⟨r, e1, e2⟩ := h
    exact ⟨r, e1, e2.kept hH⟩
  rw [if_neg c2] at h ⊢
  by_cases c3 : 30 ≤ f ∧ f < 40
  · rw [if_pos c3] at h ⊢
    have hi : i < pw_nv w (f - 10) := by unfold pw_v at hv; rw [if_pos c3] at hv; exact hv.1
    show H1[ad f i]? = some (vp_cell _ _)
    rw [hH, show H[ad f i]? = some (vp_cell _ _) from h, (n3 c3.1 c3.2).1, (n3 c3.1 c3.2).2, vp_cell_q, vp_cell_q]
    congr 1
    refine pw_arrV_congr fun j hj => ?_
    show va_rf (if j < _ then _ else none) = va_rf (if j < _ then _ else none)
    by_cases z : j < pw_ln w (f - 10) i
    · rw [if_pos z, if_pos z, h3 c3.1 c3.2]
      have hok := ht (f - 10) i j (Or.inl (by omega)) hi (by unfold pw_len; rw [if_neg (by omega)]; exact z)
      rw [pw_ty_l (by omega) (by omega), show f - 10 - 20 = f - 30 by omega] at hok
      rw [pw_rf.x hx hok]
    · rw [if_neg z, if_neg z]
  rw [if_neg c3] at h ⊢
  have hi : i < pw_nv w f := by unfold pw_v at hv; rwa [if_neg c3] at hv
  show H1[ad f i]? = some (vp_cell _ _)
  rw [hH, show H[ad f i]? = some (vp_cell _ _) from h, n1]
  by_cases k0 : pw_ak f = 0
  · rw [pw_pa_i (Or.inl k0), pw_pa_i (Or.inl k0), show w'.1 f i = w.1 f i from funext h1]
  by_cases k1 : pw_ak f = 1
  · rw [pw_pa_i (Or.inr k1), pw_pa_i (Or.inr k1), show w'.1 f i = w.1 f i from funext h1]
  by_cases k2 : pw_ak f = 2
  · rw [pw_pa_l k2, pw_pa_l k2, show w'.1 f i = w.1 f i from funext h1]
  have hq : ∃ F, (∀ k, pw_ty f k = F + 2) ∧ (pw_ak f = 3 ∨ pw_ak f = 4) := by
    rcases pw_ak_q k0 k1 k2 with ⟨rfl, q⟩ | ⟨rfl, q⟩
    · exact ⟨6, fun _ => rfl, Or.inl q⟩
    · exact ⟨4, fun _ => rfl, Or.inr q⟩
  obtain ⟨F, hq1, hq2⟩ := hq
  rw [pw_pa_q hq2 (hq1 0), pw_pa_q hq2 (hq1 0), vp_cell_q, vp_cell_q]
  congr 1
  refine pw_arrV_congr fun j hj => ?_
  rw [h1]
  have hok := ht f i j (by unfold pw_fo; omega) hi (by unfold pw_len; rw [if_neg c1]; exact hj)
  rw [hq1] at hok
  rw [pw_rf.x hx hok]
/-- a family of which one more is made -/
abbrev pw_fn (f : Nat) : Prop := (f < 20 ∨ 40 ≤ f) ∧ (f < 320 ∨ 330 ≤ f) ∧ f ≠ 2998 ∧ f ≠ 1000
theorem pw_P.al {g : pw_G} {ad : Nat → Nat → Nat} {w : pw_W} {H H1 : Heap} {f len n : Nat} {cell : Cell} (hf : pw_fn f) (hP : pw_P g ad w H) (e1 : H1 = H.push cell) (hn : cell.slots.size = n)
    (hc : va_at g.1 pw_cl (H.size, pw_e g (fun a b => if a = f ∧ b = pw_nv w f then H.size else ad a b) (pw_nw w f len n) f (pw_nv w f)) H1) :
    pw_P g (fun a b => if a = f ∧ b = pw_nv w f then H.size else ad a b) (pw_nw w f len n) H1 ∧ pw_x ad w (fun a b => if a = f ∧ b = pw_nv w f then H.size else ad a b) (pw_nw w f len n) := by
  obtain ⟨f1, f2, f3, f4⟩ := hf
  obtain ⟨h1, h2, h3, h4, h5, h6, h7, h8a⟩ := id hP
  have h8 := h8a 1000 (Or.inl rfl)
  have hnv : ∀ a, pw_nv (pw_nw w f len n) a = if a = f then pw_nv w f + 1 else pw_nv w a := fun a => by
    show (if (1000 : Nat) = 1000 then (if a = f then w.2.1 1000 f + 1 else w.2.1 1000 a) else (if 1000 = f ∧ a = w.2.1 1000 f then len else w.2.1 1000 a)) = _
    rw [if_pos rfl]; rfl
  have hln : ∀ a b, a ≠ 1000 → ¬ (a = f ∧ b = pw_nv w f) → pw_ln (pw_nw w f len n) a b = pw_ln w a b := fun a b h q => by
    show (if a = 1000 then _ else if a = f ∧ b = pw_nv w f then _ else _) = _
    rw [if_neg h, if_neg q]; rfl
  have hcp : ∀ a b, 20 ≤ a → a < 30 → pw_cp (pw_nw w f len n) a b = pw_cp w a b := fun a b h q => by
    show (if a + 300 = 1000 then _ else if a + 300 = f ∧ b = w.2.1 1000 f then _ else _) = _
    rw [if_neg (by omega), if_neg (by omega)]; rfl
  have hX : pw_x ad w (fun a b => if a = f ∧ b = pw_nv w f then H.size else ad a b) (pw_nw w f len n) := by
    refine ⟨fun a => ?_, fun a b _ hb => ?_, ?_⟩
    · rw [hnv]
      by_cases q : a = f
      · rw [if_pos q, q]; omega
      · rw [if_neg q]; omega
    · show (if a = f ∧ b = pw_nv w f then H.size else ad a b) = ad a b
      rw [if_neg (by rintro ⟨rfl, rfl⟩; omega)]
    · show (if 2998 = f ∧ _ then H.size else ad 2998 0) = _
      rw [if_neg (by omega)]
  have hvw : ∀ a b, pw_v (pw_nw w f len n) a b → ¬ (a = f ∧ b = pw_nv w f) → pw_v w a b := fun a b h q => by
    unfold pw_v at h ⊢
    by_cases c : 30 ≤ a ∧ a < 40
    · rw [if_pos c] at h ⊢
      rw [hnv, if_neg (by omega), hcp _ _ (by omega) (by omega)] at h
      exact h
    · rw [if_neg c] at h ⊢
      rw [hnv] at h
      by_cases c2 : a = f
      · rw [if_pos c2] at h
        have : b ≠ pw_nv w f := fun z => q ⟨c2, z⟩
        rw [c2]; omega
      · rw [if_neg c2] at h; exact h
  have hlt : ∀ a b, pw_v w a b → ad a b < H.size := fun a b h => by
    have := (h1 a b h).1
    exact va_at.lt this
  have hH : ∀ q : Nat, q < H.size → H1[q]? = H[q]? := fun q hq => by rw [e1, Array.getElem?_push, if_neg (Nat.ne_of_lt hq)]
  refine ⟨⟨fun a b hv => ?_, fun a b a' b' hv hv' he => ?_, fun a b k ha hb hk => ?_, fun a b ha hb hi => ?_, ⟨?_, ?_, h5.2.2⟩, ?_, ?_⟩, hX⟩
  · by_cases q : a = f ∧ b = pw_nv w f
    · rw [q.1, q.2]
      show va_at _ _ ((if f = f ∧ pw_nv w f = pw_nv w f then H.size else ad f (pw_nv w f)), _) H1 ∧ _ ≤ (if f = f ∧ pw_nv w f = pw_nv w f then H.size else ad f (pw_nv w f))
      rw [if_pos ⟨rfl, rfl⟩]
      exact ⟨hc, by rw [h6]; omega⟩
    · have hv0 := hvw a b hv q
      have hb := h1 a b hv0
      have hne : pw_v w a b := hv0
      refine ⟨pw_at_al hX hv0 h3 (if_neg q) (fun z1 z2 z3 => if_neg (by omega)) (fun k => if_neg q) (fun z1 z2 => if_neg (by omega)) (fun z1 z2 k => if_neg (by omega)) ?_ (fun z1 z2 => hcp _ _ z1 z2) (fun z1 z2 => ⟨hln _ _ (by omega) (by omega), hcp _ _ (by omega) (by omega)⟩) (hH _ (hlt a b hv0)) hb.1, ?_⟩
      · by_cases z : a = 1000
        · subst z
          have hb0 : b < pw_nv w 1000 := by unfold pw_v at hv0; rwa [if_neg (by omega)] at hv0
          omega
        · exact hln a b z q
      · show _ ≤ (if a = f ∧ b = pw_nv w f then H.size else ad a b)
        rw [if_neg q]; exact hb.2
  · have hb : ∀ a b, (if a = f ∧ b = pw_nv w f then H.size else ad a b) = H.size → pw_v (pw_nw w f len n) a b → a = f ∧ b = pw_nv w f := fun a b z hv => by
      by_cases q : a = f ∧ b = pw_nv w f
      · exact q
      · rw [if_neg q] at z
        exact absurd (hlt a b (hvw a b hv q)) (by omega)
    have he : (if a = f ∧ b = pw_nv w f then H.size else ad a b) = (if a' = f ∧ b' = pw_nv w f then H.size else ad a' b') := he
    by_cases q : a = f ∧ b = pw_nv w f
    · rw [if_pos q] at he
      have q' := hb a' b' he.symm hv'
      exact ⟨q.1.trans q'.1.symm, q.2.trans q'.2.symm⟩
    · by_cases q' : a' = f ∧ b' = pw_nv w f
      · rw [if_pos q'] at he
        exact absurd (hb a b he hv) q
      · rw [if_neg q, if_neg q'] at he
        exact h2 a b a' b' (hvw a b hv q) (hvw a' b' hv' q') he
  · show pw_ok _ (pw_ty a k, if a = f ∧ b = pw_nv w f then pw_df f k else w.1 a b k)
    by_cases q : a = f ∧ b = pw_nv w f
    · rw [if_pos q, q.1]
      unfold pw_df
      generalize pw_ty f k = t
      match t with
      | 0 => trivial
      | 1 => trivial
      | F + 2 => exact Or.inr (Or.inl (show (if 2 ≤ F + 2 then (-1 : Int32) else 0) = -1 from if_pos (by omega)))
    · rw [if_neg q]
      refine pw_ok.x hX (h3 a b k ha ?_ ?_)
      · rw [hnv] at hb
        by_cases c2 : a = f
        · rw [if_pos c2] at hb
          have : b ≠ pw_nv w f := fun z => q ⟨c2, z⟩
          rw [c2]; omega
        · rw [if_neg c2] at hb; exact hb
      · unfold pw_len at hk ⊢
        by_cases c : a < 9
        · rw [if_pos c] at hk ⊢; exact hk
        · rw [if_neg c] at hk ⊢
          by_cases z : a = 1000
          · subst z
            rw [hnv, if_neg (by omega)] at hb
            omega
          · rw [hln a b z q] at hk; exact hk
  · rw [hnv, if_neg (by omega)] at hi
    rw [hln a b (by omega) (by omega), hcp a b ha hb]
    exact h4 a b ha hb hi
  · show (if 2998 = f ∧ _ then H.size else ad 2998 0) = _
    rw [if_neg (by omega)]; exact h5.1
  · rw [hH _ (by rw [h6]; have := h5.2.2; omega)]; exact h5.2.1
  · rw [e1, Array.size_push, h6]; show _ = _ + (w.2.2.1 + 1); omega
  · refine ⟨by rw [e1, pw_sum_push (by rw [h6]; omega), h7, hn]; rfl, ?_⟩
    intro a ha
    rw [hnv, if_neg (by omega)]; exact h8a a ha
end PVN
