/-! what holds besides: days; birds are at most nine -/
section PJD
variable {sc : pz_S} {sq : pz_Q} {pa : pz_P} {ri mp : pz_N} {ca : pz_P} {dr : pz_N} {pe : pz_Q} {x y z t v : Int32} {n m i k s p q c j a T D : Nat} {f g o : Nat → Int32}
def pj_bc (b : Nat → Bool) (n : Nat) : Nat := Nat.rec 0 (fun k a => a + if b k = true then 1 else 0) n
def pj_nr (s t : Nat) : Bool := decide ((t % 10 ≤ s % 10 + 1 ∧ s % 10 ≤ t % 10 + 1) ∧ (t / 10 ≤ s / 10 + 1 ∧ s / 10 ≤ t / 10 + 1))
theorem pj_cnb {P : Nat → Prop} {b : Nat → Bool} : ∀ {n : Nat}, (∀ r, r < n → P r → b r = true) → pz_cn P n ≤ pj_bc b n
  | 0, _ => Nat.le_refl _
  | n + 1, h => by
    have ih := pj_cnb (n := n) (fun r hr => h r (by omega))
    show pz_cn P (n + 1) ≤ pj_bc b n + if b n = true then 1 else 0
    by_cases e : P n
    · rw [pz_cnT e, if_pos (h n (by omega) e)]; omega
    · rw [pz_cnF e]; omega
theorem pj_nine : ∀ s, s < 100 → pj_bc (pj_nr s) 100 ≤ 9 := by decide +kernel
theorem pj_b9 (hs : s < 100) : pz_cn (fun t => pz_nr s t ∧ pz_wt sq t) 100 ≤ 9 :=
  Nat.le_trans (pj_cnb fun t ht h => decide_eq_true ((pz_nrN hs ht).mp h.1)) (pj_nine s hs)
theorem pj_bi (hs : s < 100) : ∃ b : Nat, b ≤ 9 ∧ pz_bi sc sq s = nI b := by
  unfold pz_bi
  by_cases e : ¬ pz_wb sc sq 360 s ∧ 10 ≤ sq.1 6 s
  · rw [pz_it e]; exact ⟨_, pj_b9 hs, rfl⟩
  · rw [pz_if' e]; exact ⟨0, Nat.zero_le _, rfl⟩
theorem pj_py (h : pe.1 45 p = nI a) : ∀ {n : Nat}, n ≤ 100 → ∃ b : Nat, (pz_py sc sq pa pe n).1 45 p = nI b ∧ a ≤ b ∧ b ≤ a + 11 * n
  | 0, _ => ⟨a, h, Nat.le_refl _, by omega⟩
  | n + 1, hn => by
    obtain ⟨b, h1, h2, h3⟩ := pj_py h (n := n) (by omega)
    by_cases e : pz_pD sq pa pe n
    · rw [pz_pyT e]
      dsimp only
      by_cases e2 : p = pw_i (pa.2.1 16 (pw_i (sq.1 8 n)))
      · rw [← e2, pz_us, h1]
        obtain ⟨d, d1, d2⟩ := pj_bi (sc := sc) (sq := sq) (s := n) (by omega)
        rw [d2]
        by_cases e3 : pz_wt sq n
        · rw [pz_it e3, show (2 : Int32) = nI 2 from rfl, pz_add, pz_add]
          exact ⟨b + (d + 2), rfl, by omega, by omega⟩
        · rw [pz_if' e3, pz_l0, pz_add, pz_add]
          exact ⟨b + (d + 0), rfl, by omega, by omega⟩
      · rw [pz_un e2]
        exact ⟨b, h1, h2, by omega⟩
    · rw [pz_pyF e]
      exact ⟨b, h1, h2, by omega⟩
theorem pj_dE (h : pe.1 45 p = nI a) : ∃ b : Nat, (pz_dE sc sq pa dr pe).1 45 p = nI b ∧ a ≤ b ∧ b ≤ a + 1100 := by
  unfold pz_dE
  by_cases e : pz_yY (pz_dB sc sq dr)
  · rw [if_pos e]
    exact pj_py h (Nat.le_refl 100)
  · rw [if_neg e]
    exact ⟨a, h, Nat.le_refl _, by omega⟩
theorem pj_ps45 (h : pe.1 45 p = nI a) : ∀ {n : Nat}, ∃ b : Nat, (pz_ps sc sq pa dr pe n).2.2.1 45 p = nI b ∧ a ≤ b ∧ b ≤ a + 1100 * n
  | 0 => ⟨a, h, Nat.le_refl _, by omega⟩
  | n + 1 => by
    obtain ⟨b, h1, h2, h3⟩ := pj_ps45 h (n := n)
    obtain ⟨d, k1, k2, k3⟩ := pj_dE (sc := (pz_ps sc sq pa dr pe n).1) (sq := (pz_ps sc sq pa dr pe n).2.1) (pa := pa) (dr := dr) h1
    exact ⟨d, k1, Nat.le_trans h2 k2, by rw [Nat.mul_succ, ← Nat.add_assoc]; exact Nat.le_trans k3 (Nat.add_le_add_right h3 1100)⟩
theorem pj_yY (e : sc 1 = nI T) (hT : T < 30000) : pz_yY sc = (T % 360 = 0) := by
  unfold pz_yY
  rw [e, show (360 : Int32) = nI 360 from rfl, pk_rem (by omega) (by decide) (by decide), pz_l0, pz_eq (by omega) (by decide)]
/-- where no year begins nobody is paid -/
theorem pj_psn (e : sc 1 = nI T) : ∀ {n : Nat}, T + n ≤ 20000 → (∀ d, 1 ≤ d → d ≤ n → ¬ (T + d) % 360 = 0) → (pz_ps sc sq pa dr pe n).2.2 = pe
  | 0, _, _ => rfl
  | n + 1, hn, hd => by
    have ih := pj_psn e (n := n) (by omega) (fun d h1 h2 => hd d h1 (by omega))
    show pz_dE (pz_ps sc sq pa dr pe n).1 (pz_ps sc sq pa dr pe n).2.1 pa dr (pz_ps sc sq pa dr pe n).2.2 = pe
    unfold pz_dE
    have e1 : pz_dB (pz_ps sc sq pa dr pe n).1 (pz_ps sc sq pa dr pe n).2.1 dr 1 = nI (T + n + 1) := by
      rw [pz_dB1, pz_ps1 e, pz_s1]
    rw [if_neg (by rw [pj_yY e1 (by omega)]; exact hd (n + 1) (by omega) (Nat.le_refl _))]
    exact ih
/-! water -/
theorem pj_d1 (hf : n < 100) (ht : m < 100) : pz_su (fun _ => True) ((pz_d1 sq n m).1 7) 100 = pz_su (fun _ => True) (sq.1 7) 100 := by
  have h1 := pz_su_one (g := sq.1 7) (g' := pz_u sq.1 7 n (sq.1 7 n - pz_dv sq n m) 7) (q := n) (n := 100) hf (fun t _ hne => pz_un hne)
  have h2 := pz_su_one (g := pz_u sq.1 7 n (sq.1 7 n - pz_dv sq n m) 7) (g' := (pz_d1 sq n m).1 7) (q := m) (n := 100) ht (fun t _ hne => pz_un hne)
  have e1 : pz_u sq.1 7 n (sq.1 7 n - pz_dv sq n m) 7 n = sq.1 7 n - pz_dv sq n m := pz_us
  have e2 : (pz_d1 sq n m).1 7 m = pz_u sq.1 7 n (sq.1 7 n - pz_dv sq n m) 7 m + pz_dv sq n m := by
    unfold pz_d1; exact pz_us
  rw [e1] at h1
  rw [e2, h1] at h2
  rw [h2]
  generalize pz_su (fun _ => True) (sq.1 7) 100 = A
  generalize pz_u sq.1 7 n (sq.1 7 n - pz_dv sq n m) 7 m = B
  grind
theorem pj_dq (hd : pz_id dr) : ∀ {n : Nat}, n ≤ dr.1 → pz_su (fun _ => True) ((pz_dq sq dr n).1 7) 100 = pz_su (fun _ => True) (sq.1 7) 100
  | 0, _ => rfl
  | n + 1, hn => by
    have ih := pj_dq hd (n := n) (by omega)
    obtain ⟨h1, h2⟩ := hd.2 n (by omega)
    rw [pz_dqS, pj_d1 h1.2 h2.2, ih]
theorem pj_ds : ∀ {n : Nat}, pz_su (fun _ => True) (fun s => sq.1 7 s - pz_mn (sq.1 7 s) 1) n + pz_ds sq n = pz_su (fun _ => True) (sq.1 7) n
  | 0 => by
    show (0 : Int32) + 0 = 0
    rfl
  | n + 1 => by
    have ih := pj_ds (n := n)
    rw [pz_dsS, pz_suS, pz_suS, pz_iT, pz_iT]
    grind
theorem pj_dy : pz_su (fun _ => True) ((pz_dy sq 100).1 7) 100 + pz_ds sq 100 = pz_su (fun _ => True) (sq.1 7) 100 := by
  have e : pz_su (fun _ => True) ((pz_dy sq 100).1 7) 100 = pz_su (fun _ => True) (fun s => sq.1 7 s - pz_mn (sq.1 7 s) 1) 100 := pz_su_c fun s hs => if_pos hs
  rw [e]; exact pj_ds
theorem pj_dD7 : (pz_dD sc sq pa dr).1 7 = (pz_dBq sc sq dr).1 7 := funext fun s => by
  unfold pz_dD
  by_cases q : pz_yY (pz_dB sc sq dr)
  · rw [if_pos q, show (pz_gr (pz_dB sc sq dr) (pz_dCq sc sq pa dr) 100).1 7 s = (pz_dCq sc sq pa dr).1 7 s from rfl]
    unfold pz_dCq; rw [pz_trk (by decide)]
  · rw [if_neg q]
    unfold pz_dCq; rw [pz_trk (by decide)]
theorem pj_b_day (h : pj_b sc sq) (hd : pz_id dr) : pj_b (pz_dB sc sq dr) (pz_dD sc sq pa dr) := by
  have h0 := pj_dq (sq := sq) hd (Nat.le_refl dr.1)
  unfold pj_b at h ⊢
  rw [pj_dD7]
  unfold pz_dB pz_dBq
  by_cases q : pz_yD (pz_u1 sc 1 (sc 1 + 1))
  · rw [if_pos q, if_pos q]
    have h1 := pj_dy (sq := pz_dq sq dr dr.1)
    rw [h0, h] at h1
    have e3 : ∀ v : Int32, pz_u1 (pz_u1 sc 1 (sc 1 + 1)) 5 v 3 = sc 3 := fun v => rfl
    have e4 : ∀ v : Int32, pz_u1 (pz_u1 sc 1 (sc 1 + 1)) 5 v 4 = sc 4 := fun v => rfl
    have e5 : ∀ v : Int32, pz_u1 (pz_u1 sc 1 (sc 1 + 1)) 5 v 5 = v := fun v => rfl
    have e6 : pz_u1 sc 1 (sc 1 + 1) 5 = sc 5 := rfl
    rw [e3, e4, e5, e6]
    generalize pz_su (fun _ => True) ((pz_dy (pz_dq sq dr dr.1) 100).1 7) 100 = A at h1 ⊢
    generalize pz_ds (pz_dq sq dr dr.1) 100 = B at h1 ⊢
    grind
  · rw [if_neg q, if_neg q, h0, h]
    rfl
theorem pj_ps_b (h : pj_b sc sq) (hd : pz_id dr) : ∀ {n : Nat}, pj_b (pz_ps sc sq pa dr pe n).1 (pz_ps sc sq pa dr pe n).2.1
  | 0 => h
  | n + 1 => pj_b_day (pj_ps_b h hd (n := n)) hd
theorem pj_dD2 : (pz_dD sc sq pa dr).2 = sq.2 := by
  unfold pz_dD
  have h1 : (pz_dCq sc sq pa dr).2 = sq.2 := by
    unfold pz_dCq
    rw [pz_tr2]
    unfold pz_dBq
    by_cases q : pz_yD (pz_u1 sc 1 (sc 1 + 1))
    · rw [if_pos q]; exact pz_dq2
    · rw [if_neg q]; exact pz_dq2
  by_cases q : pz_yY (pz_dB sc sq dr)
  · rw [if_pos q]; exact h1
  · rw [if_neg q]; exact h1
theorem pj_ps2 : ∀ {n : Nat}, (pz_ps sc sq pa dr pe n).2.1.2 = sq.2
  | 0 => rfl
  | n + 1 => pj_dD2.trans (pj_ps2 (n := n))
theorem pj_dBf {u : Nat} (hu : u = 2) : pz_dB sc sq dr u = sc u := by
  subst hu
  unfold pz_dB; split <;> rfl
theorem pj_ps_2 : ∀ {n : Nat}, (pz_ps sc sq pa dr pe n).1 2 = sc 2
  | 0 => rfl
  | n + 1 => (pj_dBf rfl).trans (pj_ps_2 (n := n))
theorem pj_pass (J : pj_J n sc sq pa ri ca pe) (I : pz_I sc sq pa ri mp ca dr pe) (e : sc 1 = nI T) (hT : T + D ≤ 20000) : pj_J n (pz_ps (pz_u1 sc 0 0) sq pa dr pe D).1 (pz_ps (pz_u1 sc 0 0) sq pa dr pe D).2.1 pa ri ca (pz_ps (pz_u1 sc 0 0) sq pa dr pe D).2.2 := by
  have e0 : (pz_u1 sc 0 0) 1 = nI T := e
  refine ⟨fun s hs => ?_, pj_ps_b (sc := pz_u1 sc 0 0) J.2.1 I.gd, fun s hs => ?_, J.2.2.2.1, fun c hc => ?_, J.2.2.2.2.2.1, ?_, fun p hp => ?_, J.2.2.2.2.2.2.2.2⟩
  · rw [pj_ps2, pz_psq8, pz_psqk (by decide) (by decide)]; exact J.1 s hs
  · rw [pz_psq8]; exact J.2.2.1 s hs
  · obtain ⟨h1, h2, h3, h4⟩ := J.2.2.2.2.1 c hc
    exact ⟨h1, h2, fun s hs e => by rw [pz_psqk (by decide) (by decide)] at e; exact h3 s hs e, fun e s hs => by rw [pz_psqk (by decide) (by decide)]; exact h4 e s hs⟩
  · unfold pj_f
    rw [pj_ps_2]; exact J.2.2.2.2.2.2.1
  · obtain ⟨a, h1, h2⟩ := J.2.2.2.2.2.2.2.1 p hp
    obtain ⟨b, k1, k2, k3⟩ := pj_ps45 (sc := pz_u1 sc 0 0) (sq := sq) (pa := pa) (dr := dr) h1 (n := D)
    refine ⟨b, k1, ?_⟩
    rw [pz_ps1 e0, pz_i (by omega)]
    rw [e, pz_i (by omega)] at h2
    omega
end PJD
