/-! file -/
section PZFI
variable {sc : pz_S} {sq : pz_Q} {pa : pz_P} {ri : pz_N} {mp : pz_N} {ca : pz_P} {dr : pz_N} {pe : pz_Q} {U V : Nat} {w0 w w1 w2 : pw_W} {K : pw_W → Int32 → Prop} {X Y : pw_W → Nat → Prop} {x y z t v a b d e : Int32} {i s r j p q k k' f u l m n c : Nat} {F : pz_F} {D : Nat → Prop}
def pz_fD (sc : pz_S) (sq : pz_Q) (mp : pz_N) (x t y z : Int32) (s : Nat) : Prop := pz_if (nI s) y z ∧ pz_cl sc sq mp x t s
noncomputable def pz_fi (F : pz_F) (D : Nat → Prop) (c n : Nat) : pz_F := fun a s => if a = c ∧ s < n then pz_b (D s) else F a s
theorem pz_fi0 : pz_fi F D c 0 = F := funext fun _ => funext fun _ => if_neg fun q => absurd q.2 (Nat.not_lt_zero _)
theorem pz_fiS : pz_fi F D c (n + 1) = pz_u (pz_fi F D c n) c n (pz_b (D n)) := funext fun a => funext fun s => by
  show (if a = c ∧ s < n + 1 then pz_b (D s) else F a s) = if a = c ∧ s = n then pz_b (D n) else (if a = c ∧ s < n then pz_b (D s) else F a s)
  by_cases q : a = c ∧ s = n
  · rw [if_pos q, if_pos ⟨q.1, by omega⟩, q.2]
  · rw [if_neg q]
    by_cases q2 : a = c ∧ s < n
    · rw [if_pos q2, if_pos ⟨q2.1, by omega⟩]
    · rw [if_neg q2, if_neg (fun z => by rcases Nat.lt_succ_iff_lt_or_eq.mp z.2 with h | h; exact q2 ⟨z.1, h⟩; exact q ⟨z.1, h⟩)]
theorem cs0n (h : pz_c sc sq pa ri mp ca dr pe U V w0 w) (hn : ∀ c, c < ca.1 → pw_i (w.1 20 0 c) ≠ n) : pz_c sc sq pa ri mp ca dr pe U V w0 (pw_ps w 0 n k v) := by
  exact ⟨pz_fr.ps h.1 (by omega), h.2.1,
    h.2.2.1,
    h.2.2.2.1,
    h.2.2.2.2.1,
    h.2.2.2.2.2.1,
    h.2.2.2.2.2.2.1,
    h.2.2.2.2.2.2.2.1,
    h.2.2.2.2.2.2.2.2.1,
    h.2.2.2.2.2.2.2.2.2.1,
    ⟨h.2.2.2.2.2.2.2.2.2.2.1.1, h.2.2.2.2.2.2.2.2.2.2.1.2.1, h.2.2.2.2.2.2.2.2.2.2.1.2.2.1, h.2.2.2.2.2.2.2.2.2.2.1.2.2.2.1, (fun b0 b1 => by rw [show (pw_ps w 0 n k v).1 20 0 b0 = w.1 20 0 b0 from pz_psf (by decide), pz_psi (hn b0 b1)]; exact h.2.2.2.2.2.2.2.2.2.2.1.2.2.2.2.1 b0 b1), (fun b0 b1 => by rw [show (pw_ps w 0 n k v).1 20 0 b0 = w.1 20 0 b0 from pz_psf (by decide), pz_psi (hn b0 b1)]; exact h.2.2.2.2.2.2.2.2.2.2.1.2.2.2.2.2.1 b0 b1), (fun b0 b1 => by rw [show (pw_ps w 0 n k v).1 20 0 b0 = w.1 20 0 b0 from pz_psf (by decide), pz_psi (hn b0 b1)]; exact h.2.2.2.2.2.2.2.2.2.2.1.2.2.2.2.2.2.1 b0 b1), (fun b0 b1 => by rw [show (pw_ps w 0 n k v).1 20 0 b0 = w.1 20 0 b0 from pz_psf (by decide), pz_psi (hn b0 b1)]; exact h.2.2.2.2.2.2.2.2.2.2.1.2.2.2.2.2.2.2.1 b0 b1), (fun b0 b1 => by rw [show (pw_ps w 0 n k v).1 20 0 b0 = w.1 20 0 b0 from pz_psf (by decide), pz_psi (hn b0 b1)]; exact h.2.2.2.2.2.2.2.2.2.2.1.2.2.2.2.2.2.2.2.1 b0 b1), (fun b0 b1 => by rw [show (pw_ps w 0 n k v).1 20 0 b0 = w.1 20 0 b0 from pz_psf (by decide), pz_psi (hn b0 b1)]; exact h.2.2.2.2.2.2.2.2.2.2.1.2.2.2.2.2.2.2.2.2.1 b0 b1), (fun b0 b1 => by rw [show (pw_ps w 0 n k v).1 20 0 b0 = w.1 20 0 b0 from pz_psf (by decide), pz_psi (hn b0 b1)]; exact h.2.2.2.2.2.2.2.2.2.2.1.2.2.2.2.2.2.2.2.2.2.1 b0 b1), h.2.2.2.2.2.2.2.2.2.2.1.2.2.2.2.2.2.2.2.2.2.2.1, h.2.2.2.2.2.2.2.2.2.2.1.2.2.2.2.2.2.2.2.2.2.2.2⟩,
    fun b0 b1 b2 b3 b4 => by rw [show (pw_ps w 0 n k v).1 20 0 b0 = w.1 20 0 b0 from pz_psf (by decide), pz_psi (hn b0 b2)]; exact h.2.2.2.2.2.2.2.2.2.2.2.1 b0 b1 b2 b3 b4,
    h.2.2.2.2.2.2.2.2.2.2.2.2.1,
    h.2.2.2.2.2.2.2.2.2.2.2.2.2⟩
theorem cs12n (h : pz_c sc sq pa ri mp ca dr pe U V w0 w) (hn : ∀ c, c < ca.1 → pw_i (w.1 20 0 c) ≠ n) : pz_c sc sq pa ri mp ca dr pe U V w0 (pw_ps w 12 n k v) := by
  exact ⟨pz_fr.ps h.1 (by omega), h.2.1,
    h.2.2.1,
    h.2.2.2.1,
    h.2.2.2.2.1,
    h.2.2.2.2.2.1,
    h.2.2.2.2.2.2.1,
    h.2.2.2.2.2.2.2.1,
    h.2.2.2.2.2.2.2.2.1,
    h.2.2.2.2.2.2.2.2.2.1,
    ⟨h.2.2.2.2.2.2.2.2.2.2.1.1, h.2.2.2.2.2.2.2.2.2.2.1.2.1, h.2.2.2.2.2.2.2.2.2.2.1.2.2.1, h.2.2.2.2.2.2.2.2.2.2.1.2.2.2.1, h.2.2.2.2.2.2.2.2.2.2.1.2.2.2.2.1, h.2.2.2.2.2.2.2.2.2.2.1.2.2.2.2.2.1, h.2.2.2.2.2.2.2.2.2.2.1.2.2.2.2.2.2.1, h.2.2.2.2.2.2.2.2.2.2.1.2.2.2.2.2.2.2.1, h.2.2.2.2.2.2.2.2.2.2.1.2.2.2.2.2.2.2.2.1, h.2.2.2.2.2.2.2.2.2.2.1.2.2.2.2.2.2.2.2.2.1, h.2.2.2.2.2.2.2.2.2.2.1.2.2.2.2.2.2.2.2.2.2.1, h.2.2.2.2.2.2.2.2.2.2.1.2.2.2.2.2.2.2.2.2.2.2.1, (fun b0 b1 b2 b3 => by rw [show (pw_ps w 12 n k v).1 20 0 b0 = w.1 20 0 b0 from pz_psf (by decide), pz_psi (hn b0 b2)]; exact h.2.2.2.2.2.2.2.2.2.2.1.2.2.2.2.2.2.2.2.2.2.2.2 b0 b1 b2 b3)⟩,
    h.2.2.2.2.2.2.2.2.2.2.2.1,
    h.2.2.2.2.2.2.2.2.2.2.2.2.1,
    h.2.2.2.2.2.2.2.2.2.2.2.2.2⟩
theorem csnc (h : pz_c sc sq pa ri mp ca dr pe U V w0 w)  : pz_c sc sq pa ri mp ca dr pe (U + 2) (V + 108) w0 (pw_nw (pw_nw w 0 0 8) 12 100 100) := by
  exact ⟨pz_fr.nw (pz_fr.nw h.1 (by omega)) (by omega), h.2.1,
    h.2.2.1,
    h.2.2.2.1,
    h.2.2.2.2.1,
    h.2.2.2.2.2.1,
    h.2.2.2.2.2.2.1,
    h.2.2.2.2.2.2.2.1,
    h.2.2.2.2.2.2.2.2.1,
    h.2.2.2.2.2.2.2.2.2.1,
    ⟨h.2.2.2.2.2.2.2.2.2.2.1.1, (show pw_nv w 12 + 1 = pw_nv w 0 + 1 by rw [h.2.2.2.2.2.2.2.2.2.2.1.2.1]), (fun b0 b1 => pz_jw (h.2.2.2.2.2.2.2.2.2.2.1.2.2.1 b0 b1) (by show pw_nv w 0 ≤ pw_nv w 0 + 1; omega)), h.2.2.2.2.2.2.2.2.2.2.1.2.2.2.1, (fun b0 b1 => by rw [show (pw_nw (pw_nw w 0 0 8) 12 100 100).1 20 0 b0 = w.1 20 0 b0 from rfl, show (pw_nw (pw_nw w 0 0 8) 12 100 100).1 0 (pw_i (w.1 20 0 b0)) = w.1 0 (pw_i (w.1 20 0 b0)) from funext fun _ => (pz_nwf (f := 12) (by decide)).trans (pz_nwi (by have := (h.2.2.2.2.2.2.2.2.2.2.1.2.2.1 b0 b1).2; omega))]; exact h.2.2.2.2.2.2.2.2.2.2.1.2.2.2.2.1 b0 b1), (fun b0 b1 => by rw [show (pw_nw (pw_nw w 0 0 8) 12 100 100).1 20 0 b0 = w.1 20 0 b0 from rfl, show (pw_nw (pw_nw w 0 0 8) 12 100 100).1 0 (pw_i (w.1 20 0 b0)) = w.1 0 (pw_i (w.1 20 0 b0)) from funext fun _ => (pz_nwf (f := 12) (by decide)).trans (pz_nwi (by have := (h.2.2.2.2.2.2.2.2.2.2.1.2.2.1 b0 b1).2; omega))]; exact h.2.2.2.2.2.2.2.2.2.2.1.2.2.2.2.2.1 b0 b1), (fun b0 b1 => by rw [show (pw_nw (pw_nw w 0 0 8) 12 100 100).1 20 0 b0 = w.1 20 0 b0 from rfl, show (pw_nw (pw_nw w 0 0 8) 12 100 100).1 0 (pw_i (w.1 20 0 b0)) = w.1 0 (pw_i (w.1 20 0 b0)) from funext fun _ => (pz_nwf (f := 12) (by decide)).trans (pz_nwi (by have := (h.2.2.2.2.2.2.2.2.2.2.1.2.2.1 b0 b1).2; omega))]; exact h.2.2.2.2.2.2.2.2.2.2.1.2.2.2.2.2.2.1 b0 b1), (fun b0 b1 => by rw [show (pw_nw (pw_nw w 0 0 8) 12 100 100).1 20 0 b0 = w.1 20 0 b0 from rfl, show (pw_nw (pw_nw w 0 0 8) 12 100 100).1 0 (pw_i (w.1 20 0 b0)) = w.1 0 (pw_i (w.1 20 0 b0)) from funext fun _ => (pz_nwf (f := 12) (by decide)).trans (pz_nwi (by have := (h.2.2.2.2.2.2.2.2.2.2.1.2.2.1 b0 b1).2; omega))]; exact h.2.2.2.2.2.2.2.2.2.2.1.2.2.2.2.2.2.2.1 b0 b1), (fun b0 b1 => by rw [show (pw_nw (pw_nw w 0 0 8) 12 100 100).1 20 0 b0 = w.1 20 0 b0 from rfl, show (pw_nw (pw_nw w 0 0 8) 12 100 100).1 0 (pw_i (w.1 20 0 b0)) = w.1 0 (pw_i (w.1 20 0 b0)) from funext fun _ => (pz_nwf (f := 12) (by decide)).trans (pz_nwi (by have := (h.2.2.2.2.2.2.2.2.2.2.1.2.2.1 b0 b1).2; omega))]; exact h.2.2.2.2.2.2.2.2.2.2.1.2.2.2.2.2.2.2.2.1 b0 b1), (fun b0 b1 => by rw [show (pw_nw (pw_nw w 0 0 8) 12 100 100).1 20 0 b0 = w.1 20 0 b0 from rfl, show (pw_nw (pw_nw w 0 0 8) 12 100 100).1 0 (pw_i (w.1 20 0 b0)) = w.1 0 (pw_i (w.1 20 0 b0)) from funext fun _ => (pz_nwf (f := 12) (by decide)).trans (pz_nwi (by have := (h.2.2.2.2.2.2.2.2.2.2.1.2.2.1 b0 b1).2; omega))]; exact h.2.2.2.2.2.2.2.2.2.2.1.2.2.2.2.2.2.2.2.2.1 b0 b1), (fun b0 b1 => by rw [show (pw_nw (pw_nw w 0 0 8) 12 100 100).1 20 0 b0 = w.1 20 0 b0 from rfl, show (pw_nw (pw_nw w 0 0 8) 12 100 100).1 0 (pw_i (w.1 20 0 b0)) = w.1 0 (pw_i (w.1 20 0 b0)) from funext fun _ => (pz_nwf (f := 12) (by decide)).trans (pz_nwi (by have := (h.2.2.2.2.2.2.2.2.2.2.1.2.2.1 b0 b1).2; omega))]; exact h.2.2.2.2.2.2.2.2.2.2.1.2.2.2.2.2.2.2.2.2.2.1 b0 b1), (fun b0 b1 => by rw [show (pw_nw (pw_nw w 0 0 8) 12 100 100).1 20 0 b0 = w.1 20 0 b0 from rfl, pz_nwl (by decide) (Or.inr (by show pw_i (w.1 20 0 b0) ≠ pw_nv w 12; have := (h.2.2.2.2.2.2.2.2.2.2.1.2.2.1 b0 b1).2; have := h.2.2.2.2.2.2.2.2.2.2.1.2.1; omega))]; exact h.2.2.2.2.2.2.2.2.2.2.1.2.2.2.2.2.2.2.2.2.2.2.1 b0 b1), (fun b0 b1 b2 b3 => by rw [show (pw_nw (pw_nw w 0 0 8) 12 100 100).1 20 0 b0 = w.1 20 0 b0 from rfl, pz_nwi (by show pw_i (w.1 20 0 b0) ≠ pw_nv w 12; have := (h.2.2.2.2.2.2.2.2.2.2.1.2.2.1 b0 b2).2; have := h.2.2.2.2.2.2.2.2.2.2.1.2.1; omega)]; exact h.2.2.2.2.2.2.2.2.2.2.1.2.2.2.2.2.2.2.2.2.2.2.2 b0 b1 b2 b3)⟩,
    fun b0 b1 b2 b3 b4 => by rw [show (pw_nw (pw_nw w 0 0 8) 12 100 100).1 20 0 b0 = w.1 20 0 b0 from rfl, show (pw_nw (pw_nw w 0 0 8) 12 100 100).1 0 (pw_i (w.1 20 0 b0)) = w.1 0 (pw_i (w.1 20 0 b0)) from funext fun _ => (pz_nwf (f := 12) (by decide)).trans (pz_nwi (by have := (h.2.2.2.2.2.2.2.2.2.2.1.2.2.1 b0 b2).2; omega))]; exact h.2.2.2.2.2.2.2.2.2.2.2.1 b0 b1 b2 b3 b4,
    h.2.2.2.2.2.2.2.2.2.2.2.2.1,
    ⟨pz_nvl.nw (pz_nvl.nw h.2.2.2.2.2.2.2.2.2.2.2.2.2.1), by have := h.2.2.2.2.2.2.2.2.2.2.2.2.2.2.1; show w.2.2.1 + 1 + 1 ≤ _; omega, by have := h.2.2.2.2.2.2.2.2.2.2.2.2.2.2.2; show w.2.2.2 + 8 + 100 ≤ _; omega⟩⟩
theorem pz_lc : (pw_la w 20 0 (nI n)).1 20 0 j = if j = pw_ln w 20 0 then nI n else w.1 20 0 j := by
  by_cases q : j = pw_ln w 20 0
  · rw [if_pos q, q]; exact pz_las
  · rw [if_neg q]; exact pz_lao (fun z => q z.2)
theorem csfa (h : pz_c sc sq pa ri mp ca dr pe U V w0 w) (h0 : w.1 0 n 0 = x) (h1 : w.1 0 n 1 = nI n) (h2 : w.1 0 n 2 = pz_ct D 100) (h3 : w.1 0 n 3 = 0) (h4 : w.1 0 n 4 = 0) (h6 : w.1 0 n 6 = 0) (h7 : w.1 0 n 7 = 0) (hl : pw_ln w 12 n = 100) (ha : ∀ s, s < 100 → w.1 12 n s = pz_b (D s)) (hnv : n < pw_nv w 0) (hbig : n < 2147483648) (hn : ∀ c, c < ca.1 → pw_i (w.1 20 0 c) ≠ n) (hic : pz_ic ca) (h12 : pz_j12 sq ca) (hc16 : ca.1 < 16) : pz_c sc sq pa ri mp (ca.1 + 1, pz_u ca.2.1 31 ca.1 x, pz_fi ca.2.2 D ca.1 100) dr pe (U + 1) (V + 120) w0 (pw_la w 20 0 (nI n)) := by
  have el : pw_ln w 20 0 = ca.1 := h.2.2.2.2.2.2.2.2.2.2.1.1
  exact ⟨pz_fr.la h.1 (by omega), h.2.1,
    h.2.2.1,
    ⟨fun b0 b1 => by
      rw [show (pw_la w 20 0 (nI n)).1 6 b0 9 = w.1 6 b0 9 from rfl, h.2.2.2.1.1 b0 b1]
      unfold pz_gv
      by_cases q : sq.1 12 b0 = -1
      · rw [pz_it q, pz_it q]
      · have := ((h12 b0 b1).resolve_left q).2
        rw [pz_if' q, pz_if' q, pz_lc, if_neg (by omega)], h.2.2.2.1.2⟩,
    h.2.2.2.2.1,
    h.2.2.2.2.2.1,
    h.2.2.2.2.2.2.1,
    h.2.2.2.2.2.2.2.1,
    h.2.2.2.2.2.2.2.2.1,
    h.2.2.2.2.2.2.2.2.2.1,
    ⟨(show pw_ln w 20 0 + 1 = ca.1 + 1 by rw [el]), h.2.2.2.2.2.2.2.2.2.2.1.2.1, (fun b0 b1 => by
      have b1 : b0 < ca.1 + 1 := b1
      rw [pz_lc]
      show pw_jn _ (pw_nv w 0)
      by_cases q : b0 = ca.1
      · rw [if_pos (q.trans el.symm)]; exact pz_jn hnv hbig
      · rw [if_neg (fun z => q (z.trans el))]; exact h.2.2.2.2.2.2.2.2.2.2.1.2.2.1 b0 (by omega)), (fun b0 b1 b2 b3 b4 => by
      have b2 : b0 < ca.1 + 1 := b2
      have b3 : b1 < ca.1 + 1 := b3
      rw [pz_lc, pz_lc] at b4
      by_cases q : b0 = ca.1
      · by_cases q' : b1 = ca.1
        · rw [q, q']
        · rw [if_pos (q.trans el.symm), if_neg (fun z => q' (z.trans el))] at b4
          exact absurd (by rw [← b4, pz_i hbig]) (hn b1 (by omega))
      · by_cases q' : b1 = ca.1
        · rw [if_neg (fun z => q (z.trans el)), if_pos (q'.trans el.symm)] at b4
          exact absurd (by rw [b4, pz_i hbig]) (hn b0 (by omega))
        · rw [if_neg (fun z => q (z.trans el)), if_neg (fun z => q' (z.trans el))] at b4
          exact h.2.2.2.2.2.2.2.2.2.2.1.2.2.2.1 b0 b1 (by omega) (by omega) b4), (fun b0 b1 => by
      have b1 : b0 < ca.1 + 1 := b1
      rw [pz_lc]
      show w.1 0 _ 0 = (pz_u ca.2.1 31 ca.1 x) 31 b0
      by_cases q : b0 = ca.1
      · rw [if_pos (q.trans el.symm), pz_i hbig, h0, q, pz_us]
      · rw [if_neg (fun z => q (z.trans el)), pz_un q]; exact h.2.2.2.2.2.2.2.2.2.2.1.2.2.2.2.1 b0 (by omega)), (fun b0 b1 => by
      have b1 : b0 < ca.1 + 1 := b1
      rw [pz_lc]
      show w.1 0 _ 1 = _
      by_cases q : b0 = ca.1
      · rw [if_pos (q.trans el.symm), pz_i hbig, h1]
      · rw [if_neg (fun z => q (z.trans el))]; exact h.2.2.2.2.2.2.2.2.2.2.1.2.2.2.2.2.1 b0 (by omega)), (fun b0 b1 => by
      have b1 : b0 < ca.1 + 1 := b1
      rw [pz_lc]
      show w.1 0 _ 2 = pz_ct (fun s => ¬ pz_fi ca.2.2 D ca.1 100 b0 s = 0) 100
      by_cases q : b0 = ca.1
      · rw [if_pos (q.trans el.symm), pz_i hbig, h2]
        exact pz_ct_same fun r hr => by
          rw [show pz_fi ca.2.2 D ca.1 100 b0 r = pz_b (D r) from if_pos ⟨q, hr⟩, pz_b0, Classical.not_not]
      · rw [if_neg (fun z => q (z.trans el)), h.2.2.2.2.2.2.2.2.2.2.1.2.2.2.2.2.2.1 b0 (by omega)]
        exact pz_ct_same fun r hr => by
          rw [show pz_fi ca.2.2 D ca.1 100 b0 r = ca.2.2 b0 r from if_neg (fun z => q z.1)]), (fun b0 b1 => by
      have b1 : b0 < ca.1 + 1 := b1
      rw [pz_lc]
      show w.1 0 _ 3 = ca.2.1 32 b0
      by_cases q : b0 = ca.1
      · rw [if_pos (q.trans el.symm), pz_i hbig, h3, q]; exact (hic.2.2.2 ca.1 (Nat.le_refl _)).1.symm
      · rw [if_neg (fun z => q (z.trans el))]; exact h.2.2.2.2.2.2.2.2.2.2.1.2.2.2.2.2.2.2.1 b0 (by omega)), (fun b0 b1 => by
      have b1 : b0 < ca.1 + 1 := b1
      rw [pz_lc]
      show w.1 0 _ 4 = ca.2.1 33 b0
      by_cases q : b0 = ca.1
      · rw [if_pos (q.trans el.symm), pz_i hbig, h4, q]; exact (hic.2.2.2 ca.1 (Nat.le_refl _)).2.1.symm
      · rw [if_neg (fun z => q (z.trans el))]; exact h.2.2.2.2.2.2.2.2.2.2.1.2.2.2.2.2.2.2.2.1 b0 (by omega)), (fun b0 b1 => by
      have b1 : b0 < ca.1 + 1 := b1
      rw [pz_lc]
      show w.1 0 _ 6 = ca.2.1 35 b0
      by_cases q : b0 = ca.1
      · rw [if_pos (q.trans el.symm), pz_i hbig, h6, q]; exact (hic.2.2.2 ca.1 (Nat.le_refl _)).2.2.1.symm
      · rw [if_neg (fun z => q (z.trans el))]; exact h.2.2.2.2.2.2.2.2.2.2.1.2.2.2.2.2.2.2.2.2.1 b0 (by omega)), (fun b0 b1 => by
      have b1 : b0 < ca.1 + 1 := b1
      rw [pz_lc]
      show w.1 0 _ 7 = ca.2.1 36 b0
      by_cases q : b0 = ca.1
      · rw [if_pos (q.trans el.symm), pz_i hbig, h7, q]; exact (hic.2.2.2 ca.1 (Nat.le_refl _)).2.2.2.symm
      · rw [if_neg (fun z => q (z.trans el))]; exact h.2.2.2.2.2.2.2.2.2.2.1.2.2.2.2.2.2.2.2.2.2.1 b0 (by omega)), (fun b0 b1 => by
      have b1 : b0 < ca.1 + 1 := b1
      rw [pz_lc]
      by_cases q : b0 = ca.1
      · rw [if_pos (q.trans el.symm), pz_i hbig]; exact hl
      · rw [if_neg (fun z => q (z.trans el))]; exact h.2.2.2.2.2.2.2.2.2.2.1.2.2.2.2.2.2.2.2.2.2.2.1 b0 (by omega)), (fun b0 b1 b2 b3 => by
      have b2 : b0 < ca.1 + 1 := b2
      rw [pz_lc]
      show w.1 12 _ b1 = pz_fi ca.2.2 D ca.1 100 b0 b1
      by_cases q : b0 = ca.1
      · rw [if_pos (q.trans el.symm), pz_i hbig, ha b1 b3]; exact (if_pos ⟨q, b3⟩).symm
      · rw [if_neg (fun z => q (z.trans el)), h.2.2.2.2.2.2.2.2.2.2.1.2.2.2.2.2.2.2.2.2.2.2.2 b0 b1 (by omega) b3]; exact (if_neg (fun z => q z.1)).symm)⟩,
    fun b0 b1 b2 b3 b4 => by
      have b2 : b0 < ca.1 + 1 := b2
      rw [pz_lc]
      show w.1 0 _ 5 = ca.2.1 34 b0
      by_cases q : b0 = ca.1
      · exfalso
        rcases b4 with b4 | b4
        · have b4 : ca.2.1 32 b0 = 1 := b4
          rw [q, (hic.2.2.2 ca.1 (Nat.le_refl _)).1] at b4; exact absurd b4 (by decide)
        · rcases h12 b1 b3 with z | z
          · rw [z, eq_comm, pz_nm1 (by omega)] at b4; exact b4
          · have := z.2; rw [b4, pz_i (by omega)] at this; omega
      · rw [if_neg (fun z => q (z.trans el))]; exact h.2.2.2.2.2.2.2.2.2.2.2.1 b0 b1 (by omega) b3 b4,
    h.2.2.2.2.2.2.2.2.2.2.2.2.1,
    by
      have hl : pw_ln w 20 0 ≤ 80 := by omega
      refine ⟨pz_nvl.la h.2.2.2.2.2.2.2.2.2.2.2.2.2.1 (by decide), ?_, ?_⟩
      · have := h.2.2.2.2.2.2.2.2.2.2.2.2.2.2.1
        have := (pz_lau (w := w) (f := 20) (i := 0) (x := nI n)).2
        omega
      · have := h.2.2.2.2.2.2.2.2.2.2.2.2.2.2.2
        have := (pz_lavv (w := w) (f := 20) (i := 0) (x := nI n)) hl
        omega⟩
theorem pi_file (I : pz_I sc sq pa ri mp ca dr pe) (c1 : pz_as x y z) (c2 : pz_fd y z) (c3 : pe.1 42 (pw_i x) = 0 ∧ pz_ex (pz_fD sc sq mp x t y z) 100 ∧ ca.1 < 16) : pz_I sc sq pa ri mp (ca.1 + 1, pz_u ca.2.1 31 ca.1 x, pz_fi ca.2.2 (pz_fD sc sq mp x t y z) ca.1 100) dr pe := by
  have h3 := c3.2.2
  refine ⟨I.1, ⟨I.gl.1, fun s hs => (I.gl.2.1 s hs).imp id (fun z => pz_jw z (by show ca.1 ≤ ca.1 + 1; omega)), I.gl.2.2⟩, I.gp, I.gr, I.gm, ⟨by show ca.1 + 1 ≤ 16; omega, fun m hm => ?_, I.gc.2.2.1, fun m hm => I.gc.2.2.2 m (by have : ca.1 + 1 ≤ m := hm; omega)⟩, I.gd, I.gh⟩
  have hm : m < ca.1 + 1 := hm
  show pw_jn ((pz_u ca.2.1 31 ca.1 x) 31 m) 12
  by_cases q : m = ca.1
  · rw [q, pz_us]; exact c1.1
  · rw [pz_un q]; exact I.gc.2.1 m (by omega)
theorem cp_file (h : pz_c sc sq pa ri mp ca dr pe U V w0 w) (I : pz_I sc sq pa ri mp ca dr pe) (hU : U ≤ 190000) (hV : V ≤ 3900000) (k0 : (pz_as x y z) → (pz_fd y z) → (pe.1 42 (pw_i x) = 0 ∧ pz_ex (pz_fD sc sq mp x t y z) 100 ∧ ca.1 < 16) → ∀ w1, pz_c sc sq pa ri mp (ca.1 + 1, pz_u ca.2.1 31 ca.1 x, pz_fi ca.2.2 (pz_fD sc sq mp x t y z) ca.1 100) dr pe (U + 3) (V + 228) w0 w1 → K w1 (nI ca.1)) (k1 : ¬ (pz_as x y z) → ∀ w1, pz_c sc sq pa ri mp ca dr pe (U + 3) (V + 228) w0 w1 → X w1 1) (k2 : (pz_as x y z) → ¬ (pz_fd y z) → ∀ w1, pz_c sc sq pa ri mp ca dr pe (U + 3) (V + 228) w0 w1 → X w1 2) (k3 : (pz_as x y z) → (pz_fd y z) → ¬ (pe.1 42 (pw_i x) = 0 ∧ pz_ex (pz_fD sc sq mp x t y z) 100 ∧ ca.1 < 16) → ∀ w1, pz_c sc sq pa ri mp ca dr pe (U + 3) (V + 228) w0 w1 → X w1 3) : wp_X_file w x t y z K X := by
  unfold wp_X_file jp_X_file_46
  have hm12 : mp.1 ≤ 12 := I.gm
  have hc16 := I.gc.1
  rw [cv_personNumbered h]
  refine ⟨fun a1 => ?_, fun a1 => cu_thr h (by omega) (by omega) (pz_hL I) I.gr.1 (fun w1 h1 => k1 (fun z => a1 z.1) w1 (h1.up (by omega) (by omega)))⟩
  rw [cv_checkSquares]
  refine ⟨fun a2 => ?_, fun a2 => cu_thr h (by omega) (by omega) (pz_hL I) I.gr.1 (fun w1 h1 => k1 (fun z => a2 z.2) w1 (h1.up (by omega) (by omega)))⟩
  have c1 : pz_as x y z := ⟨a1, a2⟩
  rw [cv_checkField]
  refine ⟨fun c2 => ⟨a1.1, ?_⟩, fun c2 => cu_thr h (by omega) (by omega) (pz_hL I) I.gr.1 (fun w1 h1 => k2 c1 c2 w1 (h1.up (by omega) (by omega)))⟩
  have k3 := k3 c1 c2
  rw [pz_k42 h _ a1.2, cv_checkState]
  refine ⟨fun b1 => ?_, fun b1 => cu_thr h (by omega) (by omega) (pz_hL I) I.gr.1 (fun w1 h1 => k3 (fun z => b1 z.1) w1 (h1.up (by omega) (by omega)))⟩
  have ru := pz_kru h
  have rv := pz_krv h
  have rn := pz_knv h 0
  have hL := pz_hL I
  have hr := I.gr.1
  have e12 : pw_nv w 12 = pw_nv w 0 := (pz_cca.of h).2.1
  (try simp (disch := omega) only [pz_ce h, pz_k14 h, pz_k60 h, pz_k23 h, pz_k30 h, pz_k31 h, pz_k34 h, pz_k35 h, pz_kl11 h, pz_k11 h, pz_k15 h, pz_k40 h, pz_k41 h, pz_k42 h, pz_k25 h, pz_km0 h, pz_km1 h, pz_km2 h, pz_kc0 h, pz_kc1 h, pz_kc2 h, pz_kc3 h, pz_kc4 h, pz_kc6 h, pz_kc7 h, pz_kl12 h, pz_k12 h, pz_kd0 h, pz_kd1 h, forall_eq, true_and, and_true, true_imp_iff, forall_const, not_true_eq_false, not_false_eq_true, false_imp_iff, implies_true, eq_self, pz_i, pz_s1, pz_p1, pz_jnt, pz_b0, pz_b1, pz_em, pz_nnt, pz_nm1, pz_10, pz_20, pz_30, Classical.not_not, cv_checkState0, cv_checkState1])
  rw [show (16 : Int32) = nI 16 from rfl, pz_le (by omega) (by omega)]
  refine ⟨fun b3 => cu_thr h (by omega) (by omega) (pz_hL I) I.gr.1 (fun w1 h1 => k3 (fun z => by have := z.2.2; omega) w1 (h1.up (by omega) (by omega))), fun b3 => ⟨⟨by omega, by omega, by omega⟩, ?_⟩⟩
  unfold wp_Case_init
  obtain ⟨n, en⟩ : ∃ n, n = pw_nv w 0 := ⟨_, rfl⟩
  rw [← en]
  (try simp (disch := omega) only [forall_eq, true_and, and_true, true_imp_iff, forall_const, not_true_eq_false, not_false_eq_true, false_imp_iff, implies_true, eq_self, pz_i, pz_s1, pz_p1, pz_jnt, pz_b0, pz_b1, pz_em, pz_nnt, pz_nm1, pz_10, pz_20, pz_30, Classical.not_not])
  refine ⟨⟨by show w.2.2.1 + 1 + 1 ≤ _; omega, by show w.2.2.2 + 8 + pw_i 100 ≤ _; rw [show pw_i 100 = 100 from rfl]; omega, by show pw_nv w 12 < _; omega⟩, ?_⟩
  rw [show pw_i 100 = 100 from rfl, show pw_nv (pw_nw w 0 0 8) 12 = n from e12.trans en.symm]
  have hA := csnc h
  have hn : ∀ c, c < ca.1 → pw_i (w.1 20 0 c) ≠ n := fun c hc z => by have := (pz_k20 h c hc).2; omega
  have hB := cs0n hA (n := n) (k := 1) (v := nI n) hn
  have hC := cs0n hB (n := n) (k := 3) (v := 0) hn
  have hD := cs0n hC (n := n) (k := 0) (v := x) hn
  obtain ⟨w5, e5⟩ : ∃ w5, w5 = pw_ps (pw_ps (pw_ps (pw_nw (pw_nw w 0 0 8) 12 100 100) 0 n 1 (nI n)) 0 n 3 0) 0 n 0 x := ⟨_, rfl⟩
  rw [← e5] at hD
  rw [← e5]
  have f0 : ∀ k, ¬ k = 0 → ¬ k = 1 → w5.1 0 n k = pw_df 0 k := fun k k0 k1 => by
    rw [e5, pz_psk k0]
    by_cases k3 : k = 3
    · rw [k3, pz_pss]; rfl
    · rw [pz_psk k3, pz_psk k1, pz_nwf (by decide), en, pz_nws]
  have g0 : w5.1 0 n 0 = x := by rw [e5, pz_pss]
  have g1 : w5.1 0 n 1 = nI n := by rw [e5, pz_psk (by decide), pz_psk (by decide), pz_pss]
  have ga : ∀ s, w5.1 12 n s = 0 := fun s => by
    rw [e5, pz_psf (by decide), pz_psf (by decide), pz_psf (by decide), show n = pw_nv (pw_nw w 0 0 8) 12 from (e12.trans en.symm).symm, pz_nws]; rfl
  have gl : pw_ln w5 12 n = 100 := by
    rw [e5]
    show pw_ln (pw_nw (pw_nw w 0 0 8) 12 100 100) 12 n = 100
    rw [show n = pw_nv (pw_nw w 0 0 8) 12 from (e12.trans en.symm).symm]
    exact pz_nwls (by decide)
  have gn : pw_nv w5 0 = n + 1 := by rw [e5, en]; rfl
  have hn5 : ∀ c, c < ca.1 → pw_i (w5.1 20 0 c) ≠ n := fun c hc => by rw [e5]; exact hn c hc
  have hnb : n < 2147483648 := by omega
  clear e5
  (try simp (disch := omega) only [pz_ce hD, pz_k14 hD, pz_k60 hD, pz_k23 hD, pz_k30 hD, pz_k31 hD, pz_k34 hD, pz_k35 hD, pz_kl11 hD, pz_k11 hD, pz_k15 hD, pz_k40 hD, pz_k41 hD, pz_k42 hD, pz_k25 hD, pz_km0 hD, pz_km1 hD, pz_km2 hD, pz_kc0 hD, pz_kc1 hD, pz_kc2 hD, pz_kc3 hD, pz_kc4 hD, pz_kc6 hD, pz_kc7 hD, pz_kl12 hD, pz_k12 hD, pz_kd0 hD, pz_kd1 hD, forall_eq, true_and, and_true, true_imp_iff, forall_const, not_true_eq_false, not_false_eq_true, false_imp_iff, implies_true, eq_self, pz_i, pz_s1, pz_p1, pz_jnt, pz_b0, pz_b1, pz_em, pz_nnt, pz_nm1, pz_10, pz_20, pz_30, Classical.not_not])
  refine pz_up (F := fun k s w => lp_X_file_74 K X k t y z x (nI n) (nI 100) (nI s) w) (I := fun s w => pz_c sc sq pa ri mp ca dr pe (U + 2) (V + 108) w0 w ∧ (w.1 0 n 0 = x ∧ w.1 0 n 1 = nI n ∧ w.1 0 n 2 = pz_ct (pz_fD sc sq mp x t y z) s ∧ w.1 0 n 3 = 0 ∧ w.1 0 n 4 = 0 ∧ w.1 0 n 6 = 0 ∧ w.1 0 n 7 = 0) ∧ pw_ln w 12 n = 100 ∧ (∀ r, r < 100 → w.1 12 n r = if r < s then pz_b (pz_fD sc sq mp x t y z r) else 0) ∧ pw_nv w 0 = n + 1 ∧ ∀ c, c < ca.1 → pw_i (w.1 20 0 c) ≠ n) 100 (fun s w6 k5 hs hh ih => ?_) (fun w6 hh => ?_) ⟨hD, ⟨g0, g1, f0 2 (by decide) (by decide), f0 3 (by decide) (by decide), f0 4 (by decide) (by decide), f0 6 (by decide) (by decide), f0 7 (by decide) (by decide)⟩, gl, fun r _ => by rw [if_neg (Nat.not_lt_zero _)]; exact ga r, gn, hn5⟩
  · obtain ⟨h6, ⟨b0, b1', b2, b3', b4, b6, b7⟩, bl, ba, bn, bc⟩ := hh
    rw [lp_X_file_74_s]
    unfold wp_Case_addSquare
    have ein : pz_in (nI s) 0 99 := by rw [show pz_in (nI s) 0 99 = pw_jn (nI s) 100 from pz_in_jn (n := 100) (by decide)]; exact pz_jn hs (by omega)
    have bas := ba s hs
    rw [if_neg (Nat.lt_irrefl _)] at bas
    (try simp (disch := omega) only [pz_ce h6, pz_k14 h6, pz_k60 h6, pz_k23 h6, pz_k30 h6, pz_k31 h6, pz_k34 h6, pz_k35 h6, pz_kl11 h6, pz_k11 h6, pz_k15 h6, pz_k40 h6, pz_k41 h6, pz_k42 h6, pz_k25 h6, pz_km0 h6, pz_km1 h6, pz_km2 h6, pz_kc0 h6, pz_kc1 h6, pz_kc2 h6, pz_kc3 h6, pz_kc4 h6, pz_kc6 h6, pz_kc7 h6, pz_kl12 h6, pz_k12 h6, pz_kd0 h6, pz_kd1 h6, forall_eq, true_and, and_true, true_imp_iff, forall_const, not_true_eq_false, not_false_eq_true, false_imp_iff, implies_true, eq_self, pz_i, pz_s1, pz_p1, pz_jnt, pz_b0, pz_b1, pz_em, pz_nnt, pz_nm1, pz_10, pz_20, pz_30, Classical.not_not, pz_le, show ¬ 100 ≤ s by omega, cv_isInField, cv_isClaimable h6 hm12 hs, cv_isInRange, ein, b1', bl, bas])
    have no : ¬ pz_fD sc sq mp x t y z s → lp_X_file_74 K X k5 t y z x (nI n) (nI 100) (nI (s + 1)) w6 := fun q => ih w6 ⟨h6, ⟨b0, b1', by rw [pz_ctS, pz_bf q, Int32.add_zero]; exact b2, b3', b4, b6, b7⟩, bl, fun r hr => by
      rw [ba r hr]
      by_cases e : r = s
      · rw [e, if_neg (Nat.lt_irrefl _), if_pos (Nat.lt_succ_self _), pz_bf q]
      · by_cases e2 : r < s
        · rw [if_pos e2, if_pos (by omega)]
        · rw [if_neg e2, if_neg (by omega)], bn, bc⟩
    refine ⟨fun q => no fun z => q z.1, fun q => ⟨fun q2 => no fun z => q2 z.2, fun q2 => ?_⟩⟩
    have hE := cs12n h6 (n := n) (k := s) (v := 1) bc
    have e2 : (pw_ps w6 12 n s 1).1 0 n 2 = pz_ct (pz_fD sc sq mp x t y z) s := b2
    rw [e2]
    have hF := cs0n hE (n := n) (k := 2) (v := pz_ct (pz_fD sc sq mp x t y z) s + 1) bc
    have fin := ih _ ⟨hF, ⟨(pz_psk (by decide)).trans b0, (pz_psk (by decide)).trans b1', by rw [pz_pss, pz_ctS, pz_bt ⟨q, q2⟩], (pz_psk (by decide)).trans b3', (pz_psk (by decide)).trans b4, (pz_psk (by decide)).trans b6, (pz_psk (by decide)).trans b7⟩, bl, fun r hr => by
      rw [pz_psf (by decide)]
      by_cases e : r = s
      · rw [e, pz_pss, if_pos (Nat.lt_succ_self _), pz_bt ⟨q, q2⟩]
      · rw [pz_psk e, ba r hr]
        by_cases e2 : r < s
        · rw [if_pos e2, if_pos (by omega)]
        · rw [if_neg e2, if_neg (by omega)], bn, bc⟩
    (try simp (disch := omega) only [forall_eq, true_and, and_true, true_imp_iff, forall_const, not_true_eq_false, not_false_eq_true, false_imp_iff, implies_true, eq_self, pz_i, pz_s1, pz_p1, pz_jnt, pz_b0, pz_b1, pz_em, pz_nnt, pz_nm1, pz_10, pz_20, pz_30, Classical.not_not, pz_l100, pz_jnt])
    exact fin
  · obtain ⟨h6, ⟨b0, b1', b2, b3', b4, b6, b7⟩, bl, ba, bn, bc⟩ := hh
    rw [lp_X_file_74_s]
    unfold jp_X_file_143
    have ru := pz_kru h6
    have rv := pz_krv h6
    have el : pw_ln w6 20 0 = ca.1 := (pz_cca.of h6).1
    have e7 : w6.1 7 0 4 = 0 := (pz_csc.of h6).2.2.2.2.1
    (try simp (disch := omega) only [pz_ce h6, pz_k14 h6, pz_k60 h6, pz_k23 h6, pz_k30 h6, pz_k31 h6, pz_k34 h6, pz_k35 h6, pz_kl11 h6, pz_k11 h6, pz_k15 h6, pz_k40 h6, pz_k41 h6, pz_k42 h6, pz_k25 h6, pz_km0 h6, pz_km1 h6, pz_km2 h6, pz_kc0 h6, pz_kc1 h6, pz_kc2 h6, pz_kc3 h6, pz_kc4 h6, pz_kc6 h6, pz_kc7 h6, pz_kl12 h6, pz_k12 h6, pz_kd0 h6, pz_kd1 h6, forall_eq, true_and, and_true, true_imp_iff, forall_const, not_true_eq_false, not_false_eq_true, false_imp_iff, implies_true, eq_self, pz_i, pz_s1, pz_p1, pz_jnt, pz_b0, pz_b1, pz_em, pz_nnt, pz_nm1, pz_10, pz_20, pz_30, Classical.not_not, pz_le, Nat.le_refl, b2, pz_c0, cv_checkState0, cv_checkState1])
    refine ⟨fun q => cu_thr h6 (by omega) (by omega) (pz_hL I) I.gr.1 (fun w1 h1 => k3 (fun z => q z.2.1) w1 (h1.up (by omega) (by omega))), fun q => ?_⟩
    refine ⟨pz_lg (by omega) (by omega) (by omega), e7, ?_⟩
    rw [show pw_ln (pw_la w6 20 0 (nI n)) 20 0 = pw_ln w6 20 0 + 1 from pz_lals, el, pz_p1]
    refine k0 c1 c2 ⟨b1, q, by omega⟩ _ ((csfa h6 b0 b1' b2 b3' b4 b6 b7 bl (fun r hr => ?_) (by omega) hnb bc I.gc I.gl.2.1 (by omega)).up (by omega) (by omega))
    rw [ba r hr, if_pos hr]
end PZFI
