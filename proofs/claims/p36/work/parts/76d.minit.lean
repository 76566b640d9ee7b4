/-! the model as it begins -/
section PZMI
variable {w w1 w2 wB : pw_W} {K : pw_W → Int32 → Prop} {X : pw_W → Nat → Prop} {f g i k l n s b a c : Nat} {v : Int32}
/-- the sizes of the model's arrays -/
def pz_SZ (g : Nat) : Nat := if g = 206 then 100 else if g = 207 then 100 else if g = 208 then 100 else if g = 209 then 100 else if g = 210 then 100 else if g = 211 then 100 else if g = 212 then 100 else if g = 213 then 100 else if g = 214 then 100 else if g = 215 then 25000 else if g = 216 then 40 else if g = 217 then 40 else if g = 219 then 480 else if g = 220 then 80 else if g = 221 then 80 else if g = 222 then 80 else if g = 223 then 80 else if g = 224 then 80 else if g = 225 then 80 else if g = 227 then 12 else if g = 228 then 12 else if g = 229 then 12 else if g = 231 then 16 else if g = 232 then 16 else if g = 233 then 16 else if g = 234 then 16 else if g = 235 then 16 else if g = 236 then 16 else if g = 237 then 1600 else if g = 239 then 20 else if g = 240 then 20 else if g = 242 then 12 else if g = 243 then 36 else if g = 244 then 12 else if g = 245 then 12 else 0
/-- arrays below b are made; a cells and c words at most -/
def pz_Y (wB : pw_W) (b a c : Nat) (w : pw_W) : Prop := (∀ g i k, 200 ≤ g → g < 300 → w.1 g i k = 0) ∧ (∀ g, 200 ≤ g → g < b → 0 < pz_SZ g → pw_ln w g 0 = pz_SZ g ∧ w.1 8 0 (g - 200) = 0) ∧ (∀ g, b ≤ g → g < 300 → w.2.1 1000 g = 0) ∧ (∀ k, pw_ty 8 k < 2 → w.1 8 0 k = 0) ∧
  (∀ g, g < 200 → g ≠ 8 → w.1 g = wB.1 g ∧ w.2.1 g = wB.2.1 g ∧ w.2.1 1000 g = wB.2.1 1000 g) ∧ (∀ f, pw_nv w f ≤ w.2.2.1) ∧ w.2.2.1 ≤ a ∧ w.2.2.2 ≤ c
theorem pz_Y.step (h : pz_Y wB b a c w) (hf : b ≤ f) (h200 : 200 ≤ b) (h300 : f < 300) (hd : ∀ k, pw_df f k = 0) (hk : 2 ≤ pw_ty 8 (f - 200)) (hb : ∀ g, g < f → b ≤ g → pz_SZ g = 0) (hl : l = pz_SZ f) : pz_Y wB (f + 1) (a + 1) (c + l) (pw_ps (pw_nw w f l l) 8 0 (f - 200) 0) := by
  obtain ⟨h1, h2, h3, h4, h5, h6, h7, h8⟩ := h
  have n0 : pw_nv w f = 0 := h3 f hf h300
  refine ⟨fun g i k g1 g2 => ?_, fun g g1 g2 g3 => ⟨?_, ?_⟩, fun g g1 g2 => ?_, fun k hk2 => ?_, fun g g1 g2 => ⟨?_, ?_, ?_⟩, fun g => ?_, ?_, ?_⟩
  · rw [pz_psF (by omega)]
    by_cases q : g = f
    · rw [q]
      by_cases q2 : i = pw_nv w f
      · rw [q2, pz_nws, hd]
      · rw [pz_nwi q2]; exact h1 f i k (by omega) h300
    · rw [pz_nwF q]; exact h1 g i k g1 g2
  · show (pw_nw w f l l).2.1 g 0 = _
    by_cases q : g = f
    · rw [q, ← hl]
      have := pz_nwls (w := w) (f := f) (len := l) (n := l) (by omega)
      rw [n0] at this; exact this
    · rw [pz_nwL q (by omega)]
      by_cases q2 : g < b
      · exact (h2 g g1 q2 g3).1
      · exact absurd (hb g (by omega) (by omega)) (by omega)
  · by_cases q : g = f
    · rw [q, pz_pss]
    · rw [pz_psk (by omega), pz_nwF (by omega)]
      by_cases q2 : g < b
      · exact (h2 g g1 q2 g3).2
      · exact absurd (hb g (by omega) (by omega)) (by omega)
  · show (pw_nw w f l l).2.1 1000 g = 0
    rw [pz_nwN (by omega)]; exact h3 g (by omega) g2
  · rw [pz_psk (fun z => by rw [z] at hk2; omega), pz_nwF (by omega)]; exact h4 k hk2
  · rw [pz_psF g2, pz_nwF (by omega)]; exact (h5 g g1 g2).1
  · show (pw_nw w f l l).2.1 g = _
    rw [pz_nwL (by omega) (by omega)]; exact (h5 g g1 g2).2.1
  · show (pw_nw w f l l).2.1 1000 g = _
    rw [pz_nwN (by omega)]; exact (h5 g g1 g2).2.2
  · exact (pz_nvl.nw (f := f) (len := l) (n := l) h6) g
  · show w.2.2.1 + 1 ≤ a + 1; omega
  · show w.2.2.2 + l ≤ c + l; omega
theorem pz_Y.rm (h : pz_Y wB b a c w) (hf : b ≤ f) (h300 : f < 300) (ha : a ≤ 1000) (hc : c ≤ 100000) (hl : l ≤ 100000) : pw_rm w f l := by
  obtain ⟨h1, h2, h3, h4, h5, h6, h7, h8⟩ := h
  have n0 : pw_nv w f = 0 := h3 f hf h300
  exact ⟨by omega, by omega, by rw [n0]; decide⟩
/-- what the model's memory is at first -/
def pz_mq (f s : Nat) : Int32 := if s < 100 then (if f = 6 then 50 else if f = 7 then 40 else if f = 9 then -50000 else if f = 10 then -1 else if f = 12 then -1 else if f = 14 then 1 else 0) else 0
/-- the loop over the squares -/
def pz_Y2 (wB : pw_W) (n : Nat) (w : pw_W) : Prop := (∀ g, g ≠ 206 → g ≠ 207 → g ≠ 209 → g ≠ 210 → g ≠ 212 → g ≠ 214 → w.1 g = wB.1 g) ∧ w.2 = wB.2 ∧ (∀ s, w.1 206 0 s = if s < n then 50 else 0) ∧ (∀ s, w.1 207 0 s = if s < n then 40 else 0) ∧ (∀ s, w.1 209 0 s = if s < n then -50000 else 0) ∧ (∀ s, w.1 210 0 s = if s < n then -1 else 0) ∧ (∀ s, w.1 212 0 s = if s < n then -1 else 0) ∧ (∀ s, w.1 214 0 s = if s < n then 1 else 0)
theorem pz_iS {F : Nat → Int32} {e : Int32} (h : ∀ s, F s = if s < n then e else 0) (s : Nat) (hs : ¬ s = n) : F s = if s < n + 1 then e else 0 := by
  rw [h]
  by_cases q : s < n
  · rw [if_pos q, if_pos (by omega)]
  · rw [if_neg q, if_neg (by omega)]
/-- the straight line -/
def pz_Y3 (wB w : pw_W) : Prop := ∃ wY, pz_Y wB 246 400 50000 wY ∧ pz_Y2 (pw_ps (pw_ps (pw_ps wY 8 0 18 1) 216 0 0 (-1)) 217 0 0 (-1)) 100 w
end PZMI
