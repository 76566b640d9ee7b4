/-! the model as it begins -/
section PZMI
variable {w w1 w2 wB : pw_W} {K : pw_W → Int32 → Prop} {X : pw_W → Nat → Prop} {f g i k l n s b a c : Nat} {v : Int32}
/-- the sizes of the model's arrays -/
def pz_SZ (g : Nat) : Nat := if g = 206 then 100 else if g = 207 then 100 else if g = 208 then 100 else if g = 209 then 100 else if g = 210 then 100 else if g = 211 then 100 else if g = 212 then 100 else if g = 213 then 100 else if g = 214 then 100 else if g = 215 then 25000 else if g = 216 then 40 else if g = 217 then 40 else if g = 219 then 480 else if g = 220 then 80 else if g = 221 then 80 else if g = 222 then 80 else if g = 223 then 80 else if g = 224 then 80 else if g = 225 then 80 else if g = 227 then 12 else if g = 228 then 12 else if g = 229 then 12 else if g = 231 then 16 else if g = 232 then 16 else if g = 233 then 16 else if g = 234 then 16 else if g = 235 then 16 else if g = 236 then 16 else if g = 237 then 1600 else if g = 239 then 20 else if g = 240 then 20 else if g = 242 then 12 else if g = 243 then 36 else if g = 244 then 12 else if g = 245 then 12 else 0
/-- arrays below b are made; a cells and c words at most -/
def pz_Y (wB : pw_W) (b a c : Nat) (w : pw_W) : Prop := (∀ g i k, 200 ≤ g → g < 300 → w.1 g i k = 0) ∧ (∀ g, 200 ≤ g → g < b → 0 < pz_SZ g → pw_ln w g 0 = pz_SZ g ∧ w.1 8 0 (g - 200) = 0) ∧ (∀ g, b ≤ g → g < 300 → w.2.1 1000 g = 0) ∧ (∀ k, pw_ty 8 k < 2 → w.1 8 0 k = 0) ∧
  (∀ g, g < 200 → g ≠ 8 → w.1 g = wB.1 g ∧ w.2.1 g = wB.2.1 g ∧ w.2.1 1000 g = wB.2.1 1000 g) ∧ (∀ f, pw_nv w f ≤ w.2.2.1) ∧ w.2.2.1 ≤ a ∧ w.2.2.2 ≤ c
theorem pz_Y.step (h : pz_Y wB b a c w) (hf : b ≤ f) (h200 : 200 ≤ b) (h300 : f < 300) (hd : ∀ k, pw_df f k = 0) (hk : 2 ≤ pw_ty 8 (f - 200)) (hb : ∀ g, g < f → b ≤ g → pz_SZ g = 0) (hl : l = pz_SZ f) : pz_Y wB (f + 1) (a + 1) (c + l) (pw_ps (pw_nw w f l l) 8 0 (f - 200) 0) := by
  obtain ⟨h1, h2, h3, h4, h5, h6, h7, h8⟩ := h
  have n0 : pw_nv w f = 0 := h3 f hf h300
  refine ⟨fun g i k g1 g2 => ?_, fun g g1 g2 g3 => ⟨?_, ?_⟩, fun g g1 g2 => ?_, fun k hk2 => ?_, fun g g1 g2 => ⟨?_, ?_, ?_⟩, fun g => ?_, ?_, ?_⟩
  · rw [pz_psF (by omega)]
    by_cases q : g = f
    · rw [q]
      by_cases q2 : i = pw_nv w f
      · rw [q2, pz_nws, hd]
      · rw [pz_nwi q2]; exact h1 f i k (by omega) h300
    · rw [pz_nwF q]; exact h1 g i k g1 g2
  · show (pw_nw w f l l).2.1 g 0 = _
    by_cases q : g = f
    · rw [q, ← hl]
      have := pz_nwls (w := w) (f := f) (len := l) (n := l) (by omega)
      rw [n0] at this; exact this
    · rw [pz_nwL q (by omega)]
      by_cases q2 : g < b
      · exact (h2 g g1 q2 g3).1
      · exact absurd (hb g (by omega) (by omega)) (by omega)
  · by_cases q : g = f
    · rw [q, pz_pss]
    · rw [pz_psk (by omega), pz_nwF (by omega)]
      by_cases q2 : g < b
      · exact (h2 g g1 q2 g3).2
      · exact absurd (hb g (by omega) (by omega)) (by omega)
  · show (pw_nw w f l l).2.1 1000 g = 0
    rw [pz_nwN (by omega)]; exact h3 g (by omega) g2
  · rw [pz_psk (fun z => by rw [z] at hk2; omega), pz_nwF (by omega)]; exact h4 k hk2
  · rw [pz_psF g2, pz_nwF (by omega)]; exact (h5 g g1 g2).1
  · show (pw_nw w f l l).2.1 g = _
    rw [pz_nwL (by omega) (by omega)]; exact (h5 g g1 g2).2.1
  · show (pw_nw w f l l).2.1 1000 g = _
    rw [pz_nwN (by omega)]; exact (h5 g g1 g2).2.2
  · exact (pz_nvl.nw (f := f) (len := l) (n := l) h6) g
  · show w.2.2.1 + 1 ≤ a + 1; omega
  · show w.2.2.2 + l ≤ c + l; omega
theorem pz_Y.rm (h : pz_Y wB b a c w) (hf : b ≤ f) (h300 : f < 300) (ha : a ≤ 1000) (hc : c ≤ 100000) (hl : l ≤ 100000) : pw_rm w f l := by
  obtain ⟨h1, h2, h3, h4, h5, h6, h7, h8⟩ := h
  have n0 : pw_nv w f = 0 := h3 f hf h300
  exact ⟨by omega, by omega, by rw [n0]; decide⟩
/-- what the model's memory is at first -/
def pz_mq (f s : Nat) : Int32 := if s < 100 then (if f = 6 then 50 else if f = 7 then 40 else if f = 9 then -50000 else if f = 10 then -1 else if f = 12 then -1 else if f = 14 then 1 else 0) else 0
/-- the loop over the squares -/
def pz_Y2 (wB : pw_W) (n : Nat) (w : pw_W) : Prop := (∀ g, g ≠ 206 → g ≠ 207 → g ≠ 209 → g ≠ 210 → g ≠ 212 → g ≠ 214 → w.1 g = wB.1 g) ∧ w.2 = wB.2 ∧ (∀ s, w.1 206 0 s = if s < n then 50 else 0) ∧ (∀ s, w.1 207 0 s = if s < n then 40 else 0) ∧ (∀ s, w.1 209 0 s = if s < n then -50000 else 0) ∧ (∀ s, w.1 210 0 s = if s < n then -1 else 0) ∧ (∀ s, w.1 212 0 s = if s < n then -1 else 0) ∧ (∀ s, w.1 214 0 s = if s < n then 1 else 0)
theorem pz_iS {F : Nat → Int32} {e : Int32} (h : ∀ s, F s = if s < n then e else 0) (s : Nat) (hs : ¬ s = n) : F s = if s < n + 1 then e else 0 := by
  rw [h]
  by_cases q : s < n
  · rw [if_pos q, if_pos (by omega)]
  · rw [if_neg q, if_neg (by omega)]
theorem wl_308 (h8 : wB.1 8 0 6 = 0 ∧ wB.1 8 0 7 = 0 ∧ wB.1 8 0 9 = 0 ∧ wB.1 8 0 10 = 0 ∧ wB.1 8 0 12 = 0 ∧ wB.1 8 0 14 = 0) (hl : wB.2.1 206 0 = 100 ∧ wB.2.1 207 0 = 100 ∧ wB.2.1 209 0 = 100 ∧ wB.2.1 210 0 = 100 ∧ wB.2.1 212 0 = 100 ∧ wB.2.1 214 0 = 100) (h0 : pz_Y2 wB 0 wB) (k : ∀ w, pz_Y2 wB 100 w → K w 0) : ∃ k, lp_M_init_308 K X k 0 wB := by
  refine pz_up (F := fun k s w => lp_M_init_308 K X k (nI s) w) (I := fun s w => pz_Y2 wB s w) 100 (fun s w4 k5 hs h4 ih => ?_) (fun w4 h4 => ?_) h0
  · rw [lp_M_init_308_s]
    obtain ⟨a1, a2, a3, a4, a5, a6, a7, a8⟩ := h4
    have hi : pw_i (nI s) = s := pz_i (by omega)
    have e8 : ∀ k, w4.1 8 0 k = wB.1 8 0 k := fun k => by rw [a1 8 (by decide) (by decide) (by decide) (by decide) (by decide) (by decide)]
    have hj : pw_jn (nI s) 100 := pz_jn hs (by omega)
    simp only [forall_eq, show (100 : Int32) = nI 100 from rfl, pz_le (a := 100) (b := s) (by decide) (by omega), hi]
    refine ⟨fun q => absurd q (by omega), fun _ => ⟨(e8 6).trans h8.1, ?_, (pz_psf (by decide)).trans ((e8 7).trans h8.2.1), ?_, (pz_psf (by decide)).trans ((pz_psf (by decide)).trans ((e8 9).trans h8.2.2.1)), ?_, (pz_psf (by decide)).trans ((pz_psf (by decide)).trans ((pz_psf (by decide)).trans ((e8 10).trans h8.2.2.2.1))), ?_, (pz_psf (by decide)).trans ((pz_psf (by decide)).trans ((pz_psf (by decide)).trans ((pz_psf (by decide)).trans ((e8 12).trans h8.2.2.2.2.1)))), ?_, (pz_psf (by decide)).trans ((pz_psf (by decide)).trans ((pz_psf (by decide)).trans ((pz_psf (by decide)).trans ((pz_psf (by decide)).trans ((e8 14).trans h8.2.2.2.2.2))))), ?_, ?_⟩⟩
    · show pw_jn (nI s) (w4.2.1 206 0); rw [a2, hl.1]; exact hj
    · show pw_jn (nI s) (w4.2.1 207 0); rw [a2, hl.2.1]; exact hj
    · show pw_jn (nI s) (w4.2.1 209 0); rw [a2, hl.2.2.1]; exact hj
    · show pw_jn (nI s) (w4.2.1 210 0); rw [a2, hl.2.2.2.1]; exact hj
    · show pw_jn (nI s) (w4.2.1 212 0); rw [a2, hl.2.2.2.2.1]; exact hj
    · show pw_jn (nI s) (w4.2.1 214 0); rw [a2, hl.2.2.2.2.2]; exact hj
    rw [pz_s1]
    refine ih _ ⟨fun g g1 g2 g3 g4 g5 g6 => ?_, a2, fun t => ?_, fun t => ?_, fun t => ?_, fun t => ?_, fun t => ?_, fun t => ?_⟩
    · rw [pz_psF g6, pz_psF g5, pz_psF g4, pz_psF g3, pz_psF g2, pz_psF g1]; exact a1 g g1 g2 g3 g4 g5 g6
    · rw [pz_psf (by decide), pz_psf (by decide), pz_psf (by decide), pz_psf (by decide), pz_psf (by decide)]
      by_cases q : t = s
      · rw [q, pz_pss, if_pos (Nat.lt_succ_self _)]
      · rw [pz_psk q]; exact pz_iS a3 t q
    · rw [pz_psf (by decide), pz_psf (by decide), pz_psf (by decide), pz_psf (by decide)]
      by_cases q : t = s
      · rw [q, pz_pss, if_pos (Nat.lt_succ_self _)]
      · rw [pz_psk q, pz_psf (by decide)]; exact pz_iS a4 t q
    · rw [pz_psf (by decide), pz_psf (by decide), pz_psf (by decide)]
      by_cases q : t = s
      · rw [q, pz_pss, if_pos (Nat.lt_succ_self _)]
      · rw [pz_psk q, pz_psf (by decide), pz_psf (by decide)]; exact pz_iS a5 t q
    · rw [pz_psf (by decide), pz_psf (by decide)]
      by_cases q : t = s
      · rw [q, pz_pss, if_pos (Nat.lt_succ_self _)]
      · rw [pz_psk q, pz_psf (by decide), pz_psf (by decide), pz_psf (by decide)]; exact pz_iS a6 t q
    · rw [pz_psf (by decide)]
      by_cases q : t = s
      · rw [q, pz_pss, if_pos (Nat.lt_succ_self _)]
      · rw [pz_psk q, pz_psf (by decide), pz_psf (by decide), pz_psf (by decide), pz_psf (by decide)]; exact pz_iS a7 t q
    · by_cases q : t = s
      · rw [q, pz_pss, if_pos (Nat.lt_succ_self _)]
      · rw [pz_psk q, pz_psf (by decide), pz_psf (by decide), pz_psf (by decide), pz_psf (by decide), pz_psf (by decide)]; exact pz_iS a8 t q
  · rw [lp_M_init_308_s]
    have hk := k _ h4
    simp only [show (100 : Int32) = nI 100 from rfl, pz_le (a := 100) (b := 100) (by decide) (by decide)]
    exact ⟨fun _ => hk, fun q => absurd (Nat.le_refl 100) q⟩
/-- the straight line -/
def pz_Y3 (wB w : pw_W) : Prop := ∃ wY, pz_Y wB 246 400 50000 wY ∧ pz_Y2 (pw_ps (pw_ps (pw_ps wY 8 0 18 1) 216 0 0 (-1)) 217 0 0 (-1)) 100 w
set_option maxHeartbeats 2000000 in
theorem wl_minit (h : pz_Y wB 200 301 10000 w) (k : ∀ w1, pz_Y3 wB w1 → K w1 0) : wp_M_init w K X := by
  unfold wp_M_init
  refine ⟨h.2.2.1 206 (by decide) (by decide), h.rm (f := 206) (l := 100) (by decide) (by decide) (by decide) (by decide) (by decide), fun wa0 ea0 wb0 eb0 => ?_⟩
  have y0 := pz_Y.step (f := 206) (l := 100) h (by decide) (by decide) (by decide) (fun _ => rfl) (by decide) (by decide +kernel) (by decide +kernel)
  have z0 : wb0 = pw_ps (pw_nw w 206 100 100) 8 0 (206 - 200) 0 := by rw [eb0, ea0]; rfl
  rw [← z0] at y0; clear z0 ea0 eb0
  refine ⟨y0.2.2.1 207 (by decide) (by decide), y0.rm (f := 207) (l := 100) (by decide) (by decide) (by decide) (by decide) (by decide), fun wa1 ea1 wb1 eb1 => ?_⟩
  have y1 := pz_Y.step (f := 207) (l := 100) y0 (by decide) (by decide) (by decide) (fun _ => rfl) (by decide) (by decide +kernel) (by decide +kernel)
  have z1 : wb1 = pw_ps (pw_nw wb0 207 100 100) 8 0 (207 - 200) 0 := by rw [eb1, ea1]; rfl
  rw [← z1] at y1; clear z1 ea1 eb1 y0
  refine ⟨y1.2.2.1 208 (by decide) (by decide), y1.rm (f := 208) (l := 100) (by decide) (by decide) (by decide) (by decide) (by decide), fun wa2 ea2 wb2 eb2 => ?_⟩
  have y2 := pz_Y.step (f := 208) (l := 100) y1 (by decide) (by decide) (by decide) (fun _ => rfl) (by decide) (by decide +kernel) (by decide +kernel)
  have z2 : wb2 = pw_ps (pw_nw wb1 208 100 100) 8 0 (208 - 200) 0 := by rw [eb2, ea2]; rfl
  rw [← z2] at y2; clear z2 ea2 eb2 y1
  refine ⟨y2.2.2.1 209 (by decide) (by decide), y2.rm (f := 209) (l := 100) (by decide) (by decide) (by decide) (by decide) (by decide), fun wa3 ea3 wb3 eb3 => ?_⟩
  have y3 := pz_Y.step (f := 209) (l := 100) y2 (by decide) (by decide) (by decide) (fun _ => rfl) (by decide) (by decide +kernel) (by decide +kernel)
  have z3 : wb3 = pw_ps (pw_nw wb2 209 100 100) 8 0 (209 - 200) 0 := by rw [eb3, ea3]; rfl
  rw [← z3] at y3; clear z3 ea3 eb3 y2
  refine ⟨y3.2.2.1 210 (by decide) (by decide), y3.rm (f := 210) (l := 100) (by decide) (by decide) (by decide) (by decide) (by decide), fun wa4 ea4 wb4 eb4 => ?_⟩
  have y4 := pz_Y.step (f := 210) (l := 100) y3 (by decide) (by decide) (by decide) (fun _ => rfl) (by decide) (by decide +kernel) (by decide +kernel)
  have z4 : wb4 = pw_ps (pw_nw wb3 210 100 100) 8 0 (210 - 200) 0 := by rw [eb4, ea4]; rfl
  rw [← z4] at y4; clear z4 ea4 eb4 y3
  refine ⟨y4.2.2.1 211 (by decide) (by decide), y4.rm (f := 211) (l := 100) (by decide) (by decide) (by decide) (by decide) (by decide), fun wa5 ea5 wb5 eb5 => ?_⟩
  have y5 := pz_Y.step (f := 211) (l := 100) y4 (by decide) (by decide) (by decide) (fun _ => rfl) (by decide) (by decide +kernel) (by decide +kernel)
  have z5 : wb5 = pw_ps (pw_nw wb4 211 100 100) 8 0 (211 - 200) 0 := by rw [eb5, ea5]; rfl
  rw [← z5] at y5; clear z5 ea5 eb5 y4
  refine ⟨y5.2.2.1 212 (by decide) (by decide), y5.rm (f := 212) (l := 100) (by decide) (by decide) (by decide) (by decide) (by decide), fun wa6 ea6 wb6 eb6 => ?_⟩
  have y6 := pz_Y.step (f := 212) (l := 100) y5 (by decide) (by decide) (by decide) (fun _ => rfl) (by decide) (by decide +kernel) (by decide +kernel)
  have z6 : wb6 = pw_ps (pw_nw wb5 212 100 100) 8 0 (212 - 200) 0 := by rw [eb6, ea6]; rfl
  rw [← z6] at y6; clear z6 ea6 eb6 y5
  refine ⟨y6.2.2.1 213 (by decide) (by decide), y6.rm (f := 213) (l := 100) (by decide) (by decide) (by decide) (by decide) (by decide), fun wa7 ea7 wb7 eb7 => ?_⟩
  have y7 := pz_Y.step (f := 213) (l := 100) y6 (by decide) (by decide) (by decide) (fun _ => rfl) (by decide) (by decide +kernel) (by decide +kernel)
  have z7 : wb7 = pw_ps (pw_nw wb6 213 100 100) 8 0 (213 - 200) 0 := by rw [eb7, ea7]; rfl
  rw [← z7] at y7; clear z7 ea7 eb7 y6
  refine ⟨y7.2.2.1 214 (by decide) (by decide), y7.rm (f := 214) (l := 100) (by decide) (by decide) (by decide) (by decide) (by decide), fun wa8 ea8 wb8 eb8 => ?_⟩
  have y8 := pz_Y.step (f := 214) (l := 100) y7 (by decide) (by decide) (by decide) (fun _ => rfl) (by decide) (by decide +kernel) (by decide +kernel)
  have z8 : wb8 = pw_ps (pw_nw wb7 214 100 100) 8 0 (214 - 200) 0 := by rw [eb8, ea8]; rfl
  rw [← z8] at y8; clear z8 ea8 eb8 y7
  refine ⟨y8.2.2.1 215 (by decide) (by decide), y8.rm (f := 215) (l := 25000) (by decide) (by decide) (by decide) (by decide) (by decide), fun wa9 ea9 wb9 eb9 => ?_⟩
  have y9 := pz_Y.step (f := 215) (l := 25000) y8 (by decide) (by decide) (by decide) (fun _ => rfl) (by decide) (by decide +kernel) (by decide +kernel)
  have z9 : wb9 = pw_ps (pw_nw wb8 215 25000 25000) 8 0 (215 - 200) 0 := by rw [eb9, ea9]; rfl
  rw [← z9] at y9; clear z9 ea9 eb9 y8
  refine ⟨y9.2.2.1 216 (by decide) (by decide), y9.rm (f := 216) (l := 40) (by decide) (by decide) (by decide) (by decide) (by decide), fun wa10 ea10 wb10 eb10 => ?_⟩
  have y10 := pz_Y.step (f := 216) (l := 40) y9 (by decide) (by decide) (by decide) (fun _ => rfl) (by decide) (by decide +kernel) (by decide +kernel)
  have z10 : wb10 = pw_ps (pw_nw wb9 216 40 40) 8 0 (216 - 200) 0 := by rw [eb10, ea10]; rfl
  rw [← z10] at y10; clear z10 ea10 eb10 y9
  refine ⟨y10.2.2.1 217 (by decide) (by decide), y10.rm (f := 217) (l := 40) (by decide) (by decide) (by decide) (by decide) (by decide), fun wa11 ea11 wb11 eb11 => ?_⟩
  have y11 := pz_Y.step (f := 217) (l := 40) y10 (by decide) (by decide) (by decide) (fun _ => rfl) (by decide) (by decide +kernel) (by decide +kernel)
  have z11 : wb11 = pw_ps (pw_nw wb10 217 40 40) 8 0 (217 - 200) 0 := by rw [eb11, ea11]; rfl
  rw [← z11] at y11; clear z11 ea11 eb11 y10
  refine ⟨y11.2.2.1 219 (by decide) (by decide), y11.rm (f := 219) (l := 480) (by decide) (by decide) (by decide) (by decide) (by decide), fun wa12 ea12 wb12 eb12 => ?_⟩
  have y12 := pz_Y.step (f := 219) (l := 480) y11 (by decide) (by decide) (by decide) (fun _ => rfl) (by decide) (by decide +kernel) (by decide +kernel)
  have z12 : wb12 = pw_ps (pw_nw wb11 219 480 480) 8 0 (219 - 200) 0 := by rw [eb12, ea12]; rfl
  rw [← z12] at y12; clear z12 ea12 eb12 y11
  refine ⟨y12.2.2.1 220 (by decide) (by decide), y12.rm (f := 220) (l := 80) (by decide) (by decide) (by decide) (by decide) (by decide), fun wa13 ea13 wb13 eb13 => ?_⟩
  have y13 := pz_Y.step (f := 220) (l := 80) y12 (by decide) (by decide) (by decide) (fun _ => rfl) (by decide) (by decide +kernel) (by decide +kernel)
  have z13 : wb13 = pw_ps (pw_nw wb12 220 80 80) 8 0 (220 - 200) 0 := by rw [eb13, ea13]; rfl
  rw [← z13] at y13; clear z13 ea13 eb13 y12
  refine ⟨y13.2.2.1 221 (by decide) (by decide), y13.rm (f := 221) (l := 80) (by decide) (by decide) (by decide) (by decide) (by decide), fun wa14 ea14 wb14 eb14 => ?_⟩
  have y14 := pz_Y.step (f := 221) (l := 80) y13 (by decide) (by decide) (by decide) (fun _ => rfl) (by decide) (by decide +kernel) (by decide +kernel)
  have z14 : wb14 = pw_ps (pw_nw wb13 221 80 80) 8 0 (221 - 200) 0 := by rw [eb14, ea14]; rfl
  rw [← z14] at y14; clear z14 ea14 eb14 y13
  refine ⟨y14.2.2.1 222 (by decide) (by decide), y14.rm (f := 222) (l := 80) (by decide) (by decide) (by decide) (by decide) (by decide), fun wa15 ea15 wb15 eb15 => ?_⟩
  have y15 := pz_Y.step (f := 222) (l := 80) y14 (by decide) (by decide) (by decide) (fun _ => rfl) (by decide) (by decide +kernel) (by decide +kernel)
  have z15 : wb15 = pw_ps (pw_nw wb14 222 80 80) 8 0 (222 - 200) 0 := by rw [eb15, ea15]; rfl
  rw [← z15] at y15; clear z15 ea15 eb15 y14
  refine ⟨y15.2.2.1 223 (by decide) (by decide), y15.rm (f := 223) (l := 80) (by decide) (by decide) (by decide) (by decide) (by decide), fun wa16 ea16 wb16 eb16 => ?_⟩
  have y16 := pz_Y.step (f := 223) (l := 80) y15 (by decide) (by decide) (by decide) (fun _ => rfl) (by decide) (by decide +kernel) (by decide +kernel)
  have z16 : wb16 = pw_ps (pw_nw wb15 223 80 80) 8 0 (223 - 200) 0 := by rw [eb16, ea16]; rfl
  rw [← z16] at y16; clear z16 ea16 eb16 y15
  refine ⟨y16.2.2.1 224 (by decide) (by decide), y16.rm (f := 224) (l := 80) (by decide) (by decide) (by decide) (by decide) (by decide), fun wa17 ea17 wb17 eb17 => ?_⟩
  have y17 := pz_Y.step (f := 224) (l := 80) y16 (by decide) (by decide) (by decide) (fun _ => rfl) (by decide) (by decide +kernel) (by decide +kernel)
  have z17 : wb17 = pw_ps (pw_nw wb16 224 80 80) 8 0 (224 - 200) 0 := by rw [eb17, ea17]; rfl
  rw [← z17] at y17; clear z17 ea17 eb17 y16
  refine ⟨y17.2.2.1 225 (by decide) (by decide), y17.rm (f := 225) (l := 80) (by decide) (by decide) (by decide) (by decide) (by decide), fun wa18 ea18 wb18 eb18 => ?_⟩
  have y18 := pz_Y.step (f := 225) (l := 80) y17 (by decide) (by decide) (by decide) (fun _ => rfl) (by decide) (by decide +kernel) (by decide +kernel)
  have z18 : wb18 = pw_ps (pw_nw wb17 225 80 80) 8 0 (225 - 200) 0 := by rw [eb18, ea18]; rfl
  rw [← z18] at y18; clear z18 ea18 eb18 y17
  refine ⟨y18.2.2.1 227 (by decide) (by decide), y18.rm (f := 227) (l := 12) (by decide) (by decide) (by decide) (by decide) (by decide), fun wa19 ea19 wb19 eb19 => ?_⟩
  have y19 := pz_Y.step (f := 227) (l := 12) y18 (by decide) (by decide) (by decide) (fun _ => rfl) (by decide) (by decide +kernel) (by decide +kernel)
  have z19 : wb19 = pw_ps (pw_nw wb18 227 12 12) 8 0 (227 - 200) 0 := by rw [eb19, ea19]; rfl
  rw [← z19] at y19; clear z19 ea19 eb19 y18
  refine ⟨y19.2.2.1 228 (by decide) (by decide), y19.rm (f := 228) (l := 12) (by decide) (by decide) (by decide) (by decide) (by decide), fun wa20 ea20 wb20 eb20 => ?_⟩
  have y20 := pz_Y.step (f := 228) (l := 12) y19 (by decide) (by decide) (by decide) (fun _ => rfl) (by decide) (by decide +kernel) (by decide +kernel)
  have z20 : wb20 = pw_ps (pw_nw wb19 228 12 12) 8 0 (228 - 200) 0 := by rw [eb20, ea20]; rfl
  rw [← z20] at y20; clear z20 ea20 eb20 y19
  refine ⟨y20.2.2.1 229 (by decide) (by decide), y20.rm (f := 229) (l := 12) (by decide) (by decide) (by decide) (by decide) (by decide), fun wa21 ea21 wb21 eb21 => ?_⟩
  have y21 := pz_Y.step (f := 229) (l := 12) y20 (by decide) (by decide) (by decide) (fun _ => rfl) (by decide) (by decide +kernel) (by decide +kernel)
  have z21 : wb21 = pw_ps (pw_nw wb20 229 12 12) 8 0 (229 - 200) 0 := by rw [eb21, ea21]; rfl
  rw [← z21] at y21; clear z21 ea21 eb21 y20
  refine ⟨y21.2.2.1 231 (by decide) (by decide), y21.rm (f := 231) (l := 16) (by decide) (by decide) (by decide) (by decide) (by decide), fun wa22 ea22 wb22 eb22 => ?_⟩
  have y22 := pz_Y.step (f := 231) (l := 16) y21 (by decide) (by decide) (by decide) (fun _ => rfl) (by decide) (by decide +kernel) (by decide +kernel)
  have z22 : wb22 = pw_ps (pw_nw wb21 231 16 16) 8 0 (231 - 200) 0 := by rw [eb22, ea22]; rfl
  rw [← z22] at y22; clear z22 ea22 eb22 y21
  refine ⟨y22.2.2.1 232 (by decide) (by decide), y22.rm (f := 232) (l := 16) (by decide) (by decide) (by decide) (by decide) (by decide), fun wa23 ea23 wb23 eb23 => ?_⟩
  have y23 := pz_Y.step (f := 232) (l := 16) y22 (by decide) (by decide) (by decide) (fun _ => rfl) (by decide) (by decide +kernel) (by decide +kernel)
  have z23 : wb23 = pw_ps (pw_nw wb22 232 16 16) 8 0 (232 - 200) 0 := by rw [eb23, ea23]; rfl
  rw [← z23] at y23; clear z23 ea23 eb23 y22
  refine ⟨y23.2.2.1 233 (by decide) (by decide), y23.rm (f := 233) (l := 16) (by decide) (by decide) (by decide) (by decide) (by decide), fun wa24 ea24 wb24 eb24 => ?_⟩
  have y24 := pz_Y.step (f := 233) (l := 16) y23 (by decide) (by decide) (by decide) (fun _ => rfl) (by decide) (by decide +kernel) (by decide +kernel)
  have z24 : wb24 = pw_ps (pw_nw wb23 233 16 16) 8 0 (233 - 200) 0 := by rw [eb24, ea24]; rfl
  rw [← z24] at y24; clear z24 ea24 eb24 y23
  refine ⟨y24.2.2.1 234 (by decide) (by decide), y24.rm (f := 234) (l := 16) (by decide) (by decide) (by decide) (by decide) (by decide), fun wa25 ea25 wb25 eb25 => ?_⟩
  have y25 := pz_Y.step (f := 234) (l := 16) y24 (by decide) (by decide) (by decide) (fun _ => rfl) (by decide) (by decide +kernel) (by decide +kernel)
  have z25 : wb25 = pw_ps (pw_nw wb24 234 16 16) 8 0 (234 - 200) 0 := by rw [eb25, ea25]; rfl
  rw [← z25] at y25; clear z25 ea25 eb25 y24
  refine ⟨y25.2.2.1 235 (by decide) (by decide), y25.rm (f := 235) (l := 16) (by decide) (by decide) (by decide) (by decide) (by decide), fun wa26 ea26 wb26 eb26 => ?_⟩
  have y26 := pz_Y.step (f := 235) (l := 16) y25 (by decide) (by decide) (by decide) (fun _ => rfl) (by decide) (by decide +kernel) (by decide +kernel)
  have z26 : wb26 = pw_ps (pw_nw wb25 235 16 16) 8 0 (235 - 200) 0 := by rw [eb26, ea26]; rfl
  rw [← z26] at y26; clear z26 ea26 eb26 y25
  refine ⟨y26.2.2.1 236 (by decide) (by decide), y26.rm (f := 236) (l := 16) (by decide) (by decide) (by decide) (by decide) (by decide), fun wa27 ea27 wb27 eb27 => ?_⟩
  have y27 := pz_Y.step (f := 236) (l := 16) y26 (by decide) (by decide) (by decide) (fun _ => rfl) (by decide) (by decide +kernel) (by decide +kernel)
  have z27 : wb27 = pw_ps (pw_nw wb26 236 16 16) 8 0 (236 - 200) 0 := by rw [eb27, ea27]; rfl
  rw [← z27] at y27; clear z27 ea27 eb27 y26
  refine ⟨y27.2.2.1 237 (by decide) (by decide), y27.rm (f := 237) (l := 1600) (by decide) (by decide) (by decide) (by decide) (by decide), fun wa28 ea28 wb28 eb28 => ?_⟩
  have y28 := pz_Y.step (f := 237) (l := 1600) y27 (by decide) (by decide) (by decide) (fun _ => rfl) (by decide) (by decide +kernel) (by decide +kernel)
  have z28 : wb28 = pw_ps (pw_nw wb27 237 1600 1600) 8 0 (237 - 200) 0 := by rw [eb28, ea28]; rfl
  rw [← z28] at y28; clear z28 ea28 eb28 y27
  refine ⟨y28.2.2.1 239 (by decide) (by decide), y28.rm (f := 239) (l := 20) (by decide) (by decide) (by decide) (by decide) (by decide), fun wa29 ea29 wb29 eb29 => ?_⟩
  have y29 := pz_Y.step (f := 239) (l := 20) y28 (by decide) (by decide) (by decide) (fun _ => rfl) (by decide) (by decide +kernel) (by decide +kernel)
  have z29 : wb29 = pw_ps (pw_nw wb28 239 20 20) 8 0 (239 - 200) 0 := by rw [eb29, ea29]; rfl
  rw [← z29] at y29; clear z29 ea29 eb29 y28
  refine ⟨y29.2.2.1 240 (by decide) (by decide), y29.rm (f := 240) (l := 20) (by decide) (by decide) (by decide) (by decide) (by decide), fun wa30 ea30 wb30 eb30 => ?_⟩
  have y30 := pz_Y.step (f := 240) (l := 20) y29 (by decide) (by decide) (by decide) (fun _ => rfl) (by decide) (by decide +kernel) (by decide +kernel)
  have z30 : wb30 = pw_ps (pw_nw wb29 240 20 20) 8 0 (240 - 200) 0 := by rw [eb30, ea30]; rfl
  rw [← z30] at y30; clear z30 ea30 eb30 y29
  refine ⟨y30.2.2.1 242 (by decide) (by decide), y30.rm (f := 242) (l := 12) (by decide) (by decide) (by decide) (by decide) (by decide), fun wa31 ea31 wb31 eb31 => ?_⟩
  have y31 := pz_Y.step (f := 242) (l := 12) y30 (by decide) (by decide) (by decide) (fun _ => rfl) (by decide) (by decide +kernel) (by decide +kernel)
  have z31 : wb31 = pw_ps (pw_nw wb30 242 12 12) 8 0 (242 - 200) 0 := by rw [eb31, ea31]; rfl
  rw [← z31] at y31; clear z31 ea31 eb31 y30
  refine ⟨y31.2.2.1 243 (by decide) (by decide), y31.rm (f := 243) (l := 36) (by decide) (by decide) (by decide) (by decide) (by decide), fun wa32 ea32 wb32 eb32 => ?_⟩
  have y32 := pz_Y.step (f := 243) (l := 36) y31 (by decide) (by decide) (by decide) (fun _ => rfl) (by decide) (by decide +kernel) (by decide +kernel)
  have z32 : wb32 = pw_ps (pw_nw wb31 243 36 36) 8 0 (243 - 200) 0 := by rw [eb32, ea32]; rfl
  rw [← z32] at y32; clear z32 ea32 eb32 y31
  refine ⟨y32.2.2.1 244 (by decide) (by decide), y32.rm (f := 244) (l := 12) (by decide) (by decide) (by decide) (by decide) (by decide), fun wa33 ea33 wb33 eb33 => ?_⟩
  have y33 := pz_Y.step (f := 244) (l := 12) y32 (by decide) (by decide) (by decide) (fun _ => rfl) (by decide) (by decide +kernel) (by decide +kernel)
  have z33 : wb33 = pw_ps (pw_nw wb32 244 12 12) 8 0 (244 - 200) 0 := by rw [eb33, ea33]; rfl
  rw [← z33] at y33; clear z33 ea33 eb33 y32
  refine ⟨y33.2.2.1 245 (by decide) (by decide), y33.rm (f := 245) (l := 12) (by decide) (by decide) (by decide) (by decide) (by decide), fun wa34 ea34 wb34 eb34 => ?_⟩
  have y34 := pz_Y.step (f := 245) (l := 12) y33 (by decide) (by decide) (by decide) (fun _ => rfl) (by decide) (by decide +kernel) (by decide +kernel)
  have z34 : wb34 = pw_ps (pw_nw wb33 245 12 12) 8 0 (245 - 200) 0 := by rw [eb34, ea34]; rfl
  rw [← z34] at y34; clear z34 ea34 eb34 y33
  obtain ⟨wY, eY⟩ : ∃ wY, wY = wb34 := ⟨_, rfl⟩
  rw [← eY] at y34 ⊢
  obtain ⟨h1, h2, h3, h4, h5, h6, h7, h8⟩ := y34
  have l16 : pw_ln wY 216 0 = 40 ∧ wY.1 8 0 16 = 0 := h2 216 (by decide) (by decide) (by decide +kernel)
  have l17 : pw_ln wY 217 0 = 40 ∧ wY.1 8 0 17 = 0 := h2 217 (by decide) (by decide) (by decide +kernel)
  refine fun v1 u1 => ?_
  subst u1
  refine ⟨(pz_psk (by decide)).trans l16.2, ?_, fun v2 u2 => ?_⟩
  · show pw_jn (nI 0) (pw_ln wY 216 0); rw [l16.1]; exact pz_jn (by decide) (by decide)
  subst u2
  refine ⟨(pz_psf (by decide)).trans ((pz_psk (by decide)).trans l17.2), ?_, fun v3 u3 => ?_⟩
  · show pw_jn (nI 0) (pw_ln wY 217 0); rw [l17.1]; exact pz_jn (by decide) (by decide)
  subst u3
  have z0 : ∀ g s, 200 ≤ g → g < 300 → g ≠ 216 → g ≠ 217 → (pw_ps (pw_ps (pw_ps wY 8 0 18 1) 216 0 (pw_i 0) (-1)) 217 0 (pw_i 0) (-1)).1 g 0 s = 0 := fun g s g1 g2 g3 g4 => by
    rw [pz_psf g4, pz_psf g3, pz_psf (by omega), h1 g 0 s g1 g2]
  have r8 : ∀ k, ¬ k = 18 → (pw_ps (pw_ps (pw_ps wY 8 0 18 1) 216 0 (pw_i 0) (-1)) 217 0 (pw_i 0) (-1)).1 8 0 k = wY.1 8 0 k := fun k hk => by
    rw [pz_psf (by decide), pz_psf (by decide), pz_psk hk]
  have q : ∀ g, 200 ≤ g → g < 246 → 0 < pz_SZ g → ¬ g - 200 = 18 → (pw_ps (pw_ps (pw_ps wY 8 0 18 1) 216 0 (pw_i 0) (-1)) 217 0 (pw_i 0) (-1)).1 8 0 (g - 200) = 0 := fun g g1 g2 g3 g4 => (r8 _ g4).trans (h2 g g1 g2 g3).2
  have ql : ∀ g, 200 ≤ g → g < 246 → 0 < pz_SZ g → wY.2.1 g 0 = pz_SZ g := fun g g1 g2 g3 => (h2 g g1 g2 g3).1
  refine wl_308 ⟨q 206 (by decide) (by decide) (by decide +kernel) (by decide), q 207 (by decide) (by decide) (by decide +kernel) (by decide), q 209 (by decide) (by decide) (by decide +kernel) (by decide), q 210 (by decide) (by decide) (by decide +kernel) (by decide), q 212 (by decide) (by decide) (by decide +kernel) (by decide), q 214 (by decide) (by decide) (by decide +kernel) (by decide)⟩
    ⟨ql 206 (by decide) (by decide) (by decide +kernel), ql 207 (by decide) (by decide) (by decide +kernel), ql 209 (by decide) (by decide) (by decide +kernel), ql 210 (by decide) (by decide) (by decide +kernel), ql 212 (by decide) (by decide) (by decide +kernel), ql 214 (by decide) (by decide) (by decide +kernel)⟩
    ⟨fun _ _ _ _ _ _ _ => rfl, rfl, fun s => z0 206 s (by decide) (by decide) (by decide) (by decide), fun s => z0 207 s (by decide) (by decide) (by decide) (by decide), fun s => z0 209 s (by decide) (by decide) (by decide) (by decide), fun s => z0 210 s (by decide) (by decide) (by decide) (by decide), fun s => z0 212 s (by decide) (by decide) (by decide) (by decide), fun s => z0 214 s (by decide) (by decide) (by decide) (by decide)⟩ (fun w9 h9 => ?_)
  refine k w9 ⟨wY, ⟨h1, h2, h3, h4, h5, h6, by omega, by omega⟩, h9⟩
end PZMI
