/-! the world's makers: reads, frames, counts -/
section PZWD
variable {w0 w : pw_W} {x y v : Int32} {f i k n m len f' i' k' : Nat}
theorem pz_nwf (hf : f' ≠ f) : (pw_nw w f len n).1 f' i' k' = w.1 f' i' k' := if_neg fun q => hf q.1
theorem pz_nwi (hi : i' ≠ pw_nv w f) : (pw_nw w f len n).1 f' i' k' = w.1 f' i' k' := if_neg fun q => hi q.2
theorem pz_nws : (pw_nw w f len n).1 f (pw_nv w f) k' = pw_df f k' := if_pos ⟨rfl, rfl⟩
theorem pz_nwl (hf : f' ≠ 1000) (h : f' ≠ f ∨ i' ≠ pw_nv w f) : pw_ln (pw_nw w f len n) f' i' = pw_ln w f' i' := by
  show (if f' = 1000 then _ else if f' = f ∧ i' = w.2.1 1000 f then len else w.2.1 f' i') = w.2.1 f' i'
  rw [if_neg hf, if_neg (fun q => by rcases h with h | h; exact h q.1; exact h q.2)]
theorem pz_nwls (hf : f ≠ 1000) : pw_ln (pw_nw w f len n) f (pw_nv w f) = len := by
  show (if f = 1000 then _ else if f = f ∧ w.2.1 1000 f = w.2.1 1000 f then len else _) = len
  rw [if_neg hf, if_pos ⟨rfl, rfl⟩]
theorem pz_nwv : pw_nv (pw_nw w f len n) f' = if f' = f then pw_nv w f + 1 else pw_nv w f' := rfl
theorem pz_fr.nw (h : pz_fr w0 w) (hf : f < 200 ∧ f ≠ 8) : pz_fr w0 (pw_nw w f len n) := fun g hg => ⟨(funext fun _ => funext fun _ => pz_nwf (by omega) : (pw_nw w f len n).1 g = w.1 g).trans (h g hg).1, (funext fun b => by
  show (if g = 1000 then _ else if g = f ∧ b = w.2.1 1000 f then len else w.2.1 g b) = w.2.1 g b
  rw [if_neg (by omega), if_neg (by omega)] : (pw_nw w f len n).2.1 g = w.2.1 g).trans (h g hg).2⟩
theorem pz_fr.la (h : pz_fr w0 w) (hf : f < 200 ∧ f ≠ 8) : pz_fr w0 (pw_la w f i x) := fun g hg => ⟨(funext fun b => funext fun c => by
  show (if g = f ∧ b = i ∧ c = pw_ln w f i then x else if g = f + 300 ∧ b = i ∧ c = 0 then w.1 g b c + 1 else w.1 g b c) = w.1 g b c
  rw [if_neg (by omega), if_neg (by omega)] : (pw_la w f i x).1 g = w.1 g).trans (h g hg).1, (funext fun b => by
  show (if g = f ∧ b = i then _ else if g = f + 300 ∧ b = i ∧ pw_ln w f i = pw_cp w f i then _ else w.2.1 g b) = w.2.1 g b
  rw [if_neg (by omega), if_neg (by omega)] : (pw_la w f i x).2.1 g = w.2.1 g).trans (h g hg).2⟩
theorem pz_fr.nl (h : pz_fr w0 w) (hf : f < 200 ∧ f ≠ 8) : pz_fr w0 (pw_nl w f) := fun g hg => ⟨(funext fun b => funext fun c => by
  show (if (g = f ∨ g = f + 300) ∧ b = w.2.1 1000 f then _ else w.1 g b c) = w.1 g b c
  rw [if_neg (by omega)] : (pw_nl w f).1 g = w.1 g).trans (h g hg).1, (funext fun b => by
  show (if g = 1000 then _ else if (g = f ∨ g = f + 300) ∧ b = w.2.1 1000 f then 0 else w.2.1 g b) = w.2.1 g b
  rw [if_neg (by omega), if_neg (by omega)] : (pw_nl w f).2.1 g = w.2.1 g).trans (h g hg).2⟩
theorem pz_fr.lr (h : pz_fr w0 w) (hf : f < 200 ∧ f ≠ 8) : pz_fr w0 (pw_lr w f i k) := fun g hg => ⟨(funext fun b => funext fun c => by
  show (if g = f ∧ b = i ∧ k ≤ c then w.1 g b (c + 1) else if g = f + 300 ∧ b = i ∧ c = 0 then w.1 g b c + 1 else w.1 g b c) = w.1 g b c
  rw [if_neg (by omega), if_neg (by omega)] : (pw_lr w f i k).1 g = w.1 g).trans (h g hg).1, (funext fun b => by
  show (if g = f ∧ b = i then _ else w.2.1 g b) = w.2.1 g b
  rw [if_neg (by omega)] : (pw_lr w f i k).2.1 g = w.2.1 g).trans (h g hg).2⟩
theorem pz_fr.cy (h : pz_fr w0 w) (hf : f < 200 ∧ f ≠ 8) : pz_fr w0 (pw_cy w f i n) := fun g hg => ⟨(funext fun b => funext fun c => by
  show (if g = f ∧ b = w.2.1 1000 f then _ else w.1 g b c) = w.1 g b c
  rw [if_neg (by omega)] : (pw_cy w f i n).1 g = w.1 g).trans (h g hg).1, (h.nw (f := f) (len := n) (n := n) hf g hg).2⟩
/-- no family has more than there are cells -/
def pz_nvl (w : pw_W) : Prop := ∀ f, pw_nv w f ≤ w.2.2.1
theorem pz_nvl.nw (h : pz_nvl w) : pz_nvl (pw_nw w f len n) := fun g => by
  rw [pz_nwv]
  show _ ≤ w.2.2.1 + 1
  have := h g; have := h f
  split <;> omega
theorem pz_nlv : pw_nv (pw_nl w f) f' = if f' = f then pw_nv w f + 1 else pw_nv w f' := rfl
theorem pz_nvl.nl (h : pz_nvl w) : pz_nvl (pw_nl w f) := fun g => by
  rw [pz_nlv]
  show _ ≤ w.2.2.1 + 1
  have := h g; have := h f
  split <;> omega
theorem pz_lav (hf : f < 200) : pw_nv (pw_la w f i x) f' = pw_nv w f' := by
  show (if 1000 = f ∧ f' = i then _ else if 1000 = f + 300 ∧ f' = i ∧ _ then _ else w.2.1 1000 f') = w.2.1 1000 f'
  rw [if_neg (by omega), if_neg (by omega)]
theorem pz_lau : w.2.2.1 ≤ (pw_la w f i x).2.2.1 ∧ (pw_la w f i x).2.2.1 ≤ w.2.2.1 + 1 := by
  show w.2.2.1 ≤ (if pw_ln w f i = pw_cp w f i then w.2.2.1 + 1 else w.2.2.1) ∧ (if pw_ln w f i = pw_cp w f i then w.2.2.1 + 1 else w.2.2.1) ≤ w.2.2.1 + 1
  split <;> omega
theorem pz_gc (h : k ≤ n) : pw_gc k ≤ 10 + 2 * n := by
  unfold pw_gc
  split
  · omega
  · split <;> omega
theorem pz_gc2 (h : k ≤ 80) : pw_gc k ≤ 120 := by
  unfold pw_gc
  split
  · omega
  · split <;> omega
theorem pz_lavv (h : pw_ln w f i ≤ 80) : (pw_la w f i x).2.2.2 ≤ w.2.2.2 + 120 := by
  show (if pw_ln w f i = pw_cp w f i then w.2.2.2 + pw_gc (pw_cp w f i) else w.2.2.2) ≤ _
  split
  · rename_i q
    rw [q] at h
    have := pz_gc2 h
    omega
  · omega
theorem pz_lg (h : pw_ln w f i ≤ 80) (hu : w.2.2.1 + 1 ≤ 600104) (hv : w.2.2.2 + 120 ≤ 7301313) : pw_lg w f i := fun q => by
  rw [q] at h
  have := pz_gc2 h
  exact ⟨hu, by omega, by omega⟩
theorem pz_nvl.la (h : pz_nvl w) (hf : f < 200) : pz_nvl (pw_la w f i x) := fun g => by
  rw [pz_lav hf]
  exact Nat.le_trans (h g) pz_lau.1
theorem pz_las : (pw_la w f i x).1 f i (pw_ln w f i) = x := if_pos ⟨rfl, rfl, rfl⟩
theorem pz_lao (hk : ¬ (i' = i ∧ k' = pw_ln w f i)) : (pw_la w f i x).1 f i' k' = w.1 f i' k' := by
  show (if f = f ∧ i' = i ∧ k' = pw_ln w f i then x else if f = f + 300 ∧ i' = i ∧ k' = 0 then w.1 f i' k' + 1 else w.1 f i' k') = _
  rw [if_neg (fun q => hk q.2), if_neg (by omega)]
theorem pz_laf (h1 : f' ≠ f) (h2 : f' ≠ f + 300) : (pw_la w f i x).1 f' i' k' = w.1 f' i' k' := by
  show (if f' = f ∧ i' = i ∧ k' = pw_ln w f i then x else if f' = f + 300 ∧ i' = i ∧ k' = 0 then w.1 f' i' k' + 1 else w.1 f' i' k') = _
  rw [if_neg (fun q => h1 q.1), if_neg (fun q => h2 q.1)]
theorem pz_lals : pw_ln (pw_la w f i x) f i = pw_ln w f i + 1 := if_pos ⟨rfl, rfl⟩
theorem pz_lalo (hi : ¬ (f' = f ∧ i' = i)) (h2 : f' ≠ f + 300) : pw_ln (pw_la w f i x) f' i' = pw_ln w f' i' := by
  show (if f' = f ∧ i' = i then _ else if f' = f + 300 ∧ i' = i ∧ _ then _ else w.2.1 f' i') = w.2.1 f' i'
  rw [if_neg hi, if_neg (fun q => h2 q.1)]
end PZWD
