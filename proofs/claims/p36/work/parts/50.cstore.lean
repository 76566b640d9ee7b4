/-! what the class writes -/
section PZS
variable {sc : pz_S} {sq : pz_Q} {pa : pz_P} {ri : pz_N} {mp : pz_N} {ca : pz_P} {dr : pz_N} {pe : pz_Q} {U V : Nat} {w0 w : pw_W} {K : pw_W → Int32 → Prop} {X : pw_W → Nat → Prop} {x y z t v a b : Int32} {s r c j n p q i k f u : Nat}
theorem pz_psk {f' i' k' : Nat} (hk : k' ≠ k) : (pw_ps w f i k v).1 f' i' k' = w.1 f' i' k' := if_neg fun q => hk q.2.2
theorem pz_psi {f' i' k' : Nat} (hk : i' ≠ i) : (pw_ps w f i k v).1 f' i' k' = w.1 f' i' k' := if_neg fun q => hk q.2.1
theorem pz_psf {f' i' k' : Nat} (hk : f' ≠ f) : (pw_ps w f i k v).1 f' i' k' = w.1 f' i' k' := if_neg fun q => hk q.1
theorem pz_pss : (pw_ps w f i k v).1 f i k = v := if_pos ⟨rfl, rfl, rfl⟩
def pz_fr (w0 w : pw_W) : Prop := ∀ f, f = 8 ∨ (200 ≤ f ∧ f < 300) → w.1 f = w0.1 f ∧ w.2.1 f = w0.2.1 f
theorem pz_us {F : pz_F} : pz_u F k i v k i = v := if_pos ⟨rfl, rfl⟩
theorem pz_un {F : pz_F} {k' i' : Nat} (hk : ¬ i' = i) : pz_u F k i v k' i' = F k' i' := if_neg fun q => hk q.2
theorem pz_uk {F : pz_F} {k' i' : Nat} (hk : k' ≠ k) : pz_u F k i v k' i' = F k' i' := if_neg fun q => hk q.1
theorem pz_fr.ps (h : pz_fr w0 w) (hf : f < 200 ∧ f ≠ 8) : pz_fr w0 (pw_ps w f i k v) := fun g hg => ⟨(funext fun _ => funext fun _ => pz_psf (by omega) : (pw_ps w f i k v).1 g = w.1 g).trans (h g hg).1, (h g hg).2⟩
theorem pz_Ln_c {sq sq' : pz_Q} : ∀ {n : Nat}, (∀ s, s < n → sq'.1 14 s = sq.1 14 s) → pz_Ln sq' n = pz_Ln sq n
  | 0, _ => rfl
  | n + 1, h => by
    show pz_Ln sq' n + pw_i (sq'.1 14 n) = pz_Ln sq n + pw_i (sq.1 14 n)
    rw [pz_Ln_c (n := n) (fun s hs => h s (by omega)), h n (by omega)]
theorem pz_crm.lk {sq' : pz_Q} (h : pz_crm U V sq ri w) (e : ∀ s, s < 100 → sq'.1 14 s = sq.1 14 s) : pz_crm U V sq' ri w := by
  unfold pz_crm pz_L at *
  rw [pz_Ln_c e]
  exact h
theorem pz_ub {F : pz_F} (g : Nat → Int32) (h : ∀ j, g j = F k j) : ∀ j, (if j = i then v else g j) = pz_u F k i v k j := fun j => by
  unfold pz_u
  by_cases e : j = i
  · rw [if_pos e, if_pos ⟨rfl, e⟩]
  · rw [if_neg e, if_neg (fun q => e q.2), h]
theorem pz_psj {F : pz_F} {kk : Nat} (h : ∀ j, w.1 f j k = F kk j) : ∀ j, (pw_ps w f i k v).1 f j k = pz_u F kk i v kk j := fun j => by
  unfold pz_u
  by_cases e : j = i
  · rw [e, if_pos ⟨rfl, rfl⟩]; exact pz_pss
  · rw [if_neg (fun q => e q.2), ← h]; exact pz_psi e
theorem cs64 (h : pz_c sc sq pa ri mp ca dr pe U V w0 w)  : pz_c sc (pz_u sq.1 6 s v, sq.2) pa ri mp ca dr pe U V w0 (pw_ps w 6 s 4 v) := by
  exact ⟨pz_fr.ps h.1 (by omega), h.2.1,
    ⟨h.2.2.1.1, h.2.2.1.2.1, (fun b0 b1 => by rw [pz_psk (by decide)]; exact h.2.2.1.2.2.1 b0 b1), (fun b0 => by rw [pz_psk (by decide)]; exact h.2.2.1.2.2.2.1 b0), (fun b0 => by rw [pz_psk (by decide)]; exact h.2.2.1.2.2.2.2.1 b0), pz_psj (h.2.2.1.2.2.2.2.2.1), (fun b0 => by rw [pz_psk (by decide)]; exact h.2.2.1.2.2.2.2.2.2.1 b0), (fun b0 => by rw [pz_psk (by decide)]; exact h.2.2.1.2.2.2.2.2.2.2.1 b0), (fun b0 => by rw [pz_psk (by decide)]; exact h.2.2.1.2.2.2.2.2.2.2.2.1 b0), (fun b0 => by rw [pz_psk (by decide)]; exact h.2.2.1.2.2.2.2.2.2.2.2.2 b0)⟩,
    ⟨(fun b0 b1 => by rw [pz_psk (by decide)]; exact h.2.2.2.1.1 b0 b1), (fun b0 b1 => by rw [pz_psk (by decide)]; exact h.2.2.2.1.2 b0 b1)⟩,
    ⟨fun b0 b1 => by rw [pz_psk (by decide)]; exact h.2.2.2.2.1.1 b0 b1, fun b0 b1 b2 b3 b4 => by rw [pz_psk (by decide), pz_psk (by decide)] at b4; exact h.2.2.2.2.1.2.1 b0 b1 b2 b3 b4, fun b0 b1 => by rw [pz_psk (by decide)]; exact h.2.2.2.2.1.2.2.1 b0 b1, fun b0 b1 b2 b3 => by rw [pz_psk (k' := 2) (by decide)]; exact h.2.2.2.2.1.2.2.2 b0 b1 b2 b3⟩,
    h.2.2.2.2.2.1,
    h.2.2.2.2.2.2.1,
    h.2.2.2.2.2.2.2.1,
    h.2.2.2.2.2.2.2.2.1,
    h.2.2.2.2.2.2.2.2.2.1,
    h.2.2.2.2.2.2.2.2.2.2.1,
    h.2.2.2.2.2.2.2.2.2.2.2.1,
    h.2.2.2.2.2.2.2.2.2.2.2.2.1,
    pz_crm.lk (h.2.2.2.2.2.2.2.2.2.2.2.2.2) (fun _ _ => rfl)⟩
theorem cs65 (h : pz_c sc sq pa ri mp ca dr pe U V w0 w)  : pz_c sc (pz_u sq.1 7 s v, sq.2) pa ri mp ca dr pe U V w0 (pw_ps w 6 s 5 v) := by
  exact ⟨pz_fr.ps h.1 (by omega), h.2.1,
    ⟨h.2.2.1.1, h.2.2.1.2.1, (fun b0 b1 => by rw [pz_psk (by decide)]; exact h.2.2.1.2.2.1 b0 b1), (fun b0 => by rw [pz_psk (by decide)]; exact h.2.2.1.2.2.2.1 b0), (fun b0 => by rw [pz_psk (by decide)]; exact h.2.2.1.2.2.2.2.1 b0), (fun b0 => by rw [pz_psk (by decide)]; exact h.2.2.1.2.2.2.2.2.1 b0), pz_psj (h.2.2.1.2.2.2.2.2.2.1), (fun b0 => by rw [pz_psk (by decide)]; exact h.2.2.1.2.2.2.2.2.2.2.1 b0), (fun b0 => by rw [pz_psk (by decide)]; exact h.2.2.1.2.2.2.2.2.2.2.2.1 b0), (fun b0 => by rw [pz_psk (by decide)]; exact h.2.2.1.2.2.2.2.2.2.2.2.2 b0)⟩,
    ⟨(fun b0 b1 => by rw [pz_psk (by decide)]; exact h.2.2.2.1.1 b0 b1), (fun b0 b1 => by rw [pz_psk (by decide)]; exact h.2.2.2.1.2 b0 b1)⟩,
    ⟨fun b0 b1 => by rw [pz_psk (by decide)]; exact h.2.2.2.2.1.1 b0 b1, fun b0 b1 b2 b3 b4 => by rw [pz_psk (by decide), pz_psk (by decide)] at b4; exact h.2.2.2.2.1.2.1 b0 b1 b2 b3 b4, fun b0 b1 => by rw [pz_psk (by decide)]; exact h.2.2.2.2.1.2.2.1 b0 b1, fun b0 b1 b2 b3 => by rw [pz_psk (k' := 2) (by decide)]; exact h.2.2.2.2.1.2.2.2 b0 b1 b2 b3⟩,
    h.2.2.2.2.2.1,
    h.2.2.2.2.2.2.1,
    h.2.2.2.2.2.2.2.1,
    h.2.2.2.2.2.2.2.2.1,
    h.2.2.2.2.2.2.2.2.2.1,
    h.2.2.2.2.2.2.2.2.2.2.1,
    h.2.2.2.2.2.2.2.2.2.2.2.1,
    h.2.2.2.2.2.2.2.2.2.2.2.2.1,
    pz_crm.lk (h.2.2.2.2.2.2.2.2.2.2.2.2.2) (fun _ _ => rfl)⟩
theorem cs66 (h : pz_c sc sq pa ri mp ca dr pe U V w0 w) (e : pz_bn v = v) : pz_c sc (pz_u sq.1 9 s v, sq.2) pa ri mp ca dr pe U V w0 (pw_ps w 6 s 6 v) := by
  exact ⟨pz_fr.ps h.1 (by omega), h.2.1,
    ⟨h.2.2.1.1, h.2.2.1.2.1, (fun b0 b1 => by rw [pz_psk (by decide)]; exact h.2.2.1.2.2.1 b0 b1), (fun b0 => by rw [pz_psk (by decide)]; exact h.2.2.1.2.2.2.1 b0), (fun b0 => by rw [pz_psk (by decide)]; exact h.2.2.1.2.2.2.2.1 b0), (fun b0 => by rw [pz_psk (by decide)]; exact h.2.2.1.2.2.2.2.2.1 b0), (fun b0 => by rw [pz_psk (by decide)]; exact h.2.2.1.2.2.2.2.2.2.1 b0), (fun b => by
      show _ = pz_bn ((pz_u sq.1 9 s v) 9 b)
      by_cases q : b = s
      · rw [q, pz_pss, pz_us, e]
      · rw [pz_psi q, pz_un q]; exact h.2.2.1.2.2.2.2.2.2.2.1 b), (fun b0 => by rw [pz_psk (by decide)]; exact h.2.2.1.2.2.2.2.2.2.2.2.1 b0), (fun b0 => by rw [pz_psk (by decide)]; exact h.2.2.1.2.2.2.2.2.2.2.2.2 b0)⟩,
    ⟨(fun b0 b1 => by rw [pz_psk (by decide)]; exact h.2.2.2.1.1 b0 b1), (fun b0 b1 => by rw [pz_psk (by decide)]; exact h.2.2.2.1.2 b0 b1)⟩,
    ⟨fun b0 b1 => by rw [pz_psk (by decide)]; exact h.2.2.2.2.1.1 b0 b1, fun b0 b1 b2 b3 b4 => by rw [pz_psk (by decide), pz_psk (by decide)] at b4; exact h.2.2.2.2.1.2.1 b0 b1 b2 b3 b4, fun b0 b1 => by rw [pz_psk (by decide)]; exact h.2.2.2.2.1.2.2.1 b0 b1, fun b0 b1 b2 b3 => by rw [pz_psk (k' := 2) (by decide)]; exact h.2.2.2.2.1.2.2.2 b0 b1 b2 b3⟩,
    h.2.2.2.2.2.1,
    h.2.2.2.2.2.2.1,
    h.2.2.2.2.2.2.2.1,
    h.2.2.2.2.2.2.2.2.1,
    h.2.2.2.2.2.2.2.2.2.1,
    h.2.2.2.2.2.2.2.2.2.2.1,
    h.2.2.2.2.2.2.2.2.2.2.2.1,
    h.2.2.2.2.2.2.2.2.2.2.2.2.1,
    pz_crm.lk (h.2.2.2.2.2.2.2.2.2.2.2.2.2) (fun _ _ => rfl)⟩
theorem cs67 (h : pz_c sc sq pa ri mp ca dr pe U V w0 w)  : pz_c sc (pz_u sq.1 10 s v, sq.2) pa ri mp ca dr pe U V w0 (pw_ps w 6 s 7 v) := by
  exact ⟨pz_fr.ps h.1 (by omega), h.2.1,
    ⟨h.2.2.1.1, h.2.2.1.2.1, (fun b0 b1 => by rw [pz_psk (by decide)]; exact h.2.2.1.2.2.1 b0 b1), (fun b0 => by rw [pz_psk (by decide)]; exact h.2.2.1.2.2.2.1 b0), (fun b0 => by rw [pz_psk (by decide)]; exact h.2.2.1.2.2.2.2.1 b0), (fun b0 => by rw [pz_psk (by decide)]; exact h.2.2.1.2.2.2.2.2.1 b0), (fun b0 => by rw [pz_psk (by decide)]; exact h.2.2.1.2.2.2.2.2.2.1 b0), (fun b0 => by rw [pz_psk (by decide)]; exact h.2.2.1.2.2.2.2.2.2.2.1 b0), pz_psj (h.2.2.1.2.2.2.2.2.2.2.2.1), (fun b0 => by rw [pz_psk (by decide)]; exact h.2.2.1.2.2.2.2.2.2.2.2.2 b0)⟩,
    ⟨(fun b0 b1 => by rw [pz_psk (by decide)]; exact h.2.2.2.1.1 b0 b1), (fun b0 b1 => by rw [pz_psk (by decide)]; exact h.2.2.2.1.2 b0 b1)⟩,
    ⟨fun b0 b1 => by rw [pz_psk (by decide)]; exact h.2.2.2.2.1.1 b0 b1, fun b0 b1 b2 b3 b4 => by rw [pz_psk (by decide), pz_psk (by decide)] at b4; exact h.2.2.2.2.1.2.1 b0 b1 b2 b3 b4, fun b0 b1 => by rw [pz_psk (by decide)]; exact h.2.2.2.2.1.2.2.1 b0 b1, fun b0 b1 b2 b3 => by rw [pz_psk (k' := 2) (by decide)]; exact h.2.2.2.2.1.2.2.2 b0 b1 b2 b3⟩,
    h.2.2.2.2.2.1,
    h.2.2.2.2.2.2.1,
    h.2.2.2.2.2.2.2.1,
    h.2.2.2.2.2.2.2.2.1,
    h.2.2.2.2.2.2.2.2.2.1,
    h.2.2.2.2.2.2.2.2.2.2.1,
    h.2.2.2.2.2.2.2.2.2.2.2.1,
    h.2.2.2.2.2.2.2.2.2.2.2.2.1,
    pz_crm.lk (h.2.2.2.2.2.2.2.2.2.2.2.2.2) (fun _ _ => rfl)⟩
theorem cs68 (h : pz_c sc sq pa ri mp ca dr pe U V w0 w)  : pz_c sc (pz_u sq.1 11 s v, sq.2) pa ri mp ca dr pe U V w0 (pw_ps w 6 s 8 v) := by
  exact ⟨pz_fr.ps h.1 (by omega), h.2.1,
    ⟨h.2.2.1.1, h.2.2.1.2.1, (fun b0 b1 => by rw [pz_psk (by decide)]; exact h.2.2.1.2.2.1 b0 b1), (fun b0 => by rw [pz_psk (by decide)]; exact h.2.2.1.2.2.2.1 b0), (fun b0 => by rw [pz_psk (by decide)]; exact h.2.2.1.2.2.2.2.1 b0), (fun b0 => by rw [pz_psk (by decide)]; exact h.2.2.1.2.2.2.2.2.1 b0), (fun b0 => by rw [pz_psk (by decide)]; exact h.2.2.1.2.2.2.2.2.2.1 b0), (fun b0 => by rw [pz_psk (by decide)]; exact h.2.2.1.2.2.2.2.2.2.2.1 b0), (fun b0 => by rw [pz_psk (by decide)]; exact h.2.2.1.2.2.2.2.2.2.2.2.1 b0), pz_psj (h.2.2.1.2.2.2.2.2.2.2.2.2)⟩,
    ⟨(fun b0 b1 => by rw [pz_psk (by decide)]; exact h.2.2.2.1.1 b0 b1), (fun b0 b1 => by rw [pz_psk (by decide)]; exact h.2.2.2.1.2 b0 b1)⟩,
    ⟨fun b0 b1 => by rw [pz_psk (by decide)]; exact h.2.2.2.2.1.1 b0 b1, fun b0 b1 b2 b3 b4 => by rw [pz_psk (by decide), pz_psk (by decide)] at b4; exact h.2.2.2.2.1.2.1 b0 b1 b2 b3 b4, fun b0 b1 => by rw [pz_psk (by decide)]; exact h.2.2.2.2.1.2.2.1 b0 b1, fun b0 b1 b2 b3 => by rw [pz_psk (k' := 2) (by decide)]; exact h.2.2.2.2.1.2.2.2 b0 b1 b2 b3⟩,
    h.2.2.2.2.2.1,
    h.2.2.2.2.2.2.1,
    h.2.2.2.2.2.2.2.1,
    h.2.2.2.2.2.2.2.2.1,
    h.2.2.2.2.2.2.2.2.2.1,
    h.2.2.2.2.2.2.2.2.2.2.1,
    h.2.2.2.2.2.2.2.2.2.2.2.1,
    h.2.2.2.2.2.2.2.2.2.2.2.2.1,
    pz_crm.lk (h.2.2.2.2.2.2.2.2.2.2.2.2.2) (fun _ _ => rfl)⟩
theorem cs71 (h : pz_c sc sq pa ri mp ca dr pe U V w0 w)  : pz_c (pz_u1 sc 1 v) sq pa ri mp ca dr pe U V w0 (pw_ps w 7 0 7 v) := by
  exact ⟨pz_fr.ps h.1 (by omega), ⟨(pz_psk (by decide)).trans (h.2.1.1), (pz_psk (by decide)).trans (h.2.1.2.1), (pz_psk (by decide)).trans (h.2.1.2.2.1), (pz_psk (by decide)).trans (h.2.1.2.2.2.1), (pz_psk (by decide)).trans (h.2.1.2.2.2.2.1), (pz_psk (by decide)).trans (h.2.1.2.2.2.2.2.1), (pz_psk (by decide)).trans (h.2.1.2.2.2.2.2.2.1), pz_pss, (pz_psk (by decide)).trans (h.2.1.2.2.2.2.2.2.2.2.1), (pz_psk (by decide)).trans (h.2.1.2.2.2.2.2.2.2.2.2.1), (pz_psk (by decide)).trans (h.2.1.2.2.2.2.2.2.2.2.2.2.1), (pz_psk (by decide)).trans (h.2.1.2.2.2.2.2.2.2.2.2.2.2.1), h.2.1.2.2.2.2.2.2.2.2.2.2.2.2⟩,
    h.2.2.1,
    h.2.2.2.1,
    h.2.2.2.2.1,
    h.2.2.2.2.2.1,
    h.2.2.2.2.2.2.1,
    h.2.2.2.2.2.2.2.1,
    h.2.2.2.2.2.2.2.2.1,
    h.2.2.2.2.2.2.2.2.2.1,
    h.2.2.2.2.2.2.2.2.2.2.1,
    h.2.2.2.2.2.2.2.2.2.2.2.1,
    h.2.2.2.2.2.2.2.2.2.2.2.2.1,
    h.2.2.2.2.2.2.2.2.2.2.2.2.2⟩
theorem cs72 (h : pz_c sc sq pa ri mp ca dr pe U V w0 w)  : pz_c (pz_u1 sc 2 v) sq pa ri mp ca dr pe U V w0 (pw_ps w 7 0 8 v) := by
  exact ⟨pz_fr.ps h.1 (by omega), ⟨(pz_psk (by decide)).trans (h.2.1.1), (pz_psk (by decide)).trans (h.2.1.2.1), (pz_psk (by decide)).trans (h.2.1.2.2.1), (pz_psk (by decide)).trans (h.2.1.2.2.2.1), (pz_psk (by decide)).trans (h.2.1.2.2.2.2.1), (pz_psk (by decide)).trans (h.2.1.2.2.2.2.2.1), (pz_psk (by decide)).trans (h.2.1.2.2.2.2.2.2.1), (pz_psk (by decide)).trans (h.2.1.2.2.2.2.2.2.2.1), pz_pss, (pz_psk (by decide)).trans (h.2.1.2.2.2.2.2.2.2.2.2.1), (pz_psk (by decide)).trans (h.2.1.2.2.2.2.2.2.2.2.2.2.1), (pz_psk (by decide)).trans (h.2.1.2.2.2.2.2.2.2.2.2.2.2.1), h.2.1.2.2.2.2.2.2.2.2.2.2.2.2⟩,
    h.2.2.1,
    h.2.2.2.1,
    h.2.2.2.2.1,
    h.2.2.2.2.2.1,
    h.2.2.2.2.2.2.1,
    h.2.2.2.2.2.2.2.1,
    h.2.2.2.2.2.2.2.2.1,
    h.2.2.2.2.2.2.2.2.2.1,
    h.2.2.2.2.2.2.2.2.2.2.1,
    h.2.2.2.2.2.2.2.2.2.2.2.1,
    h.2.2.2.2.2.2.2.2.2.2.2.2.1,
    h.2.2.2.2.2.2.2.2.2.2.2.2.2⟩
theorem cs73 (h : pz_c sc sq pa ri mp ca dr pe U V w0 w)  : pz_c (pz_u1 sc 3 v) sq pa ri mp ca dr pe U V w0 (pw_ps w 7 0 9 v) := by
  exact ⟨pz_fr.ps h.1 (by omega), ⟨(pz_psk (by decide)).trans (h.2.1.1), (pz_psk (by decide)).trans (h.2.1.2.1), (pz_psk (by decide)).trans (h.2.1.2.2.1), (pz_psk (by decide)).trans (h.2.1.2.2.2.1), (pz_psk (by decide)).trans (h.2.1.2.2.2.2.1), (pz_psk (by decide)).trans (h.2.1.2.2.2.2.2.1), (pz_psk (by decide)).trans (h.2.1.2.2.2.2.2.2.1), (pz_psk (by decide)).trans (h.2.1.2.2.2.2.2.2.2.1), (pz_psk (by decide)).trans (h.2.1.2.2.2.2.2.2.2.2.1), pz_pss, (pz_psk (by decide)).trans (h.2.1.2.2.2.2.2.2.2.2.2.2.1), (pz_psk (by decide)).trans (h.2.1.2.2.2.2.2.2.2.2.2.2.2.1), h.2.1.2.2.2.2.2.2.2.2.2.2.2.2⟩,
    h.2.2.1,
    h.2.2.2.1,
    h.2.2.2.2.1,
    h.2.2.2.2.2.1,
    h.2.2.2.2.2.2.1,
    h.2.2.2.2.2.2.2.1,
    h.2.2.2.2.2.2.2.2.1,
    h.2.2.2.2.2.2.2.2.2.1,
    h.2.2.2.2.2.2.2.2.2.2.1,
    h.2.2.2.2.2.2.2.2.2.2.2.1,
    h.2.2.2.2.2.2.2.2.2.2.2.2.1,
    h.2.2.2.2.2.2.2.2.2.2.2.2.2⟩
theorem cs74 (h : pz_c sc sq pa ri mp ca dr pe U V w0 w)  : pz_c (pz_u1 sc 4 v) sq pa ri mp ca dr pe U V w0 (pw_ps w 7 0 10 v) := by
  exact ⟨pz_fr.ps h.1 (by omega), ⟨(pz_psk (by decide)).trans (h.2.1.1), (pz_psk (by decide)).trans (h.2.1.2.1), (pz_psk (by decide)).trans (h.2.1.2.2.1), (pz_psk (by decide)).trans (h.2.1.2.2.2.1), (pz_psk (by decide)).trans (h.2.1.2.2.2.2.1), (pz_psk (by decide)).trans (h.2.1.2.2.2.2.2.1), (pz_psk (by decide)).trans (h.2.1.2.2.2.2.2.2.1), (pz_psk (by decide)).trans (h.2.1.2.2.2.2.2.2.2.1), (pz_psk (by decide)).trans (h.2.1.2.2.2.2.2.2.2.2.1), (pz_psk (by decide)).trans (h.2.1.2.2.2.2.2.2.2.2.2.1), pz_pss, (pz_psk (by decide)).trans (h.2.1.2.2.2.2.2.2.2.2.2.2.2.1), h.2.1.2.2.2.2.2.2.2.2.2.2.2.2⟩,
    h.2.2.1,
    h.2.2.2.1,
    h.2.2.2.2.1,
    h.2.2.2.2.2.1,
    h.2.2.2.2.2.2.1,
    h.2.2.2.2.2.2.2.1,
    h.2.2.2.2.2.2.2.2.1,
    h.2.2.2.2.2.2.2.2.2.1,
    h.2.2.2.2.2.2.2.2.2.2.1,
    h.2.2.2.2.2.2.2.2.2.2.2.1,
    h.2.2.2.2.2.2.2.2.2.2.2.2.1,
    h.2.2.2.2.2.2.2.2.2.2.2.2.2⟩
theorem cs75 (h : pz_c sc sq pa ri mp ca dr pe U V w0 w)  : pz_c (pz_u1 sc 5 v) sq pa ri mp ca dr pe U V w0 (pw_ps w 7 0 11 v) := by
  exact ⟨pz_fr.ps h.1 (by omega), ⟨(pz_psk (by decide)).trans (h.2.1.1), (pz_psk (by decide)).trans (h.2.1.2.1), (pz_psk (by decide)).trans (h.2.1.2.2.1), (pz_psk (by decide)).trans (h.2.1.2.2.2.1), (pz_psk (by decide)).trans (h.2.1.2.2.2.2.1), (pz_psk (by decide)).trans (h.2.1.2.2.2.2.2.1), (pz_psk (by decide)).trans (h.2.1.2.2.2.2.2.2.1), (pz_psk (by decide)).trans (h.2.1.2.2.2.2.2.2.2.1), (pz_psk (by decide)).trans (h.2.1.2.2.2.2.2.2.2.2.1), (pz_psk (by decide)).trans (h.2.1.2.2.2.2.2.2.2.2.2.1), (pz_psk (by decide)).trans (h.2.1.2.2.2.2.2.2.2.2.2.2.1), pz_pss, h.2.1.2.2.2.2.2.2.2.2.2.2.2.2⟩,
    h.2.2.1,
    h.2.2.2.1,
    h.2.2.2.2.1,
    h.2.2.2.2.2.1,
    h.2.2.2.2.2.2.1,
    h.2.2.2.2.2.2.2.1,
    h.2.2.2.2.2.2.2.2.1,
    h.2.2.2.2.2.2.2.2.2.1,
    h.2.2.2.2.2.2.2.2.2.2.1,
    h.2.2.2.2.2.2.2.2.2.2.2.1,
    h.2.2.2.2.2.2.2.2.2.2.2.2.1,
    h.2.2.2.2.2.2.2.2.2.2.2.2.2⟩
theorem csout (h : pz_c sc sq pa ri mp ca dr pe U V w0 w)  : pz_c sc sq pa ri mp ca dr pe U V w0 (pw_ps w 13 0 0 v) := by
  exact ⟨pz_fr.ps h.1 (by omega), h.2.1,
    h.2.2.1,
    h.2.2.2.1,
    h.2.2.2.2.1,
    h.2.2.2.2.2.1,
    h.2.2.2.2.2.2.1,
    h.2.2.2.2.2.2.2.1,
    h.2.2.2.2.2.2.2.2.1,
    h.2.2.2.2.2.2.2.2.2.1,
    h.2.2.2.2.2.2.2.2.2.2.1,
    h.2.2.2.2.2.2.2.2.2.2.2.1,
    h.2.2.2.2.2.2.2.2.2.2.2.2.1,
    h.2.2.2.2.2.2.2.2.2.2.2.2.2⟩
theorem cs69 (h : pz_c sc sq pa ri mp ca dr pe U V w0 w) (e : a = pz_gv w x) (e2 : b = pz_ite (x = -1) (-1) y) (e3 : ∀ c, c < ca.1 → x = nI c → w.1 0 (pw_i (w.1 20 0 c)) 5 = ca.2.1 34 c) : pz_c sc (pz_u (pz_u sq.1 12 s x) 13 s y, sq.2) pa ri mp ca dr pe U V w0 (pw_ps (pw_ps w 6 s 9 a) 6 s 10 b) := by
  exact ⟨pz_fr.ps (pz_fr.ps h.1 (by omega)) (by omega), h.2.1,
    ⟨h.2.2.1.1, h.2.2.1.2.1, (fun b0 b1 => by rw [pz_psk (by decide), pz_psk (by decide)]; exact h.2.2.1.2.2.1 b0 b1), (fun b0 => by rw [pz_psk (by decide), pz_psk (by decide)]; exact h.2.2.1.2.2.2.1 b0), (fun b0 => by rw [pz_psk (by decide), pz_psk (by decide)]; exact h.2.2.1.2.2.2.2.1 b0), (fun b0 => by rw [pz_psk (by decide), pz_psk (by decide)]; exact h.2.2.1.2.2.2.2.2.1 b0), (fun b0 => by rw [pz_psk (by decide), pz_psk (by decide)]; exact h.2.2.1.2.2.2.2.2.2.1 b0), (fun b0 => by rw [pz_psk (by decide), pz_psk (by decide)]; exact h.2.2.1.2.2.2.2.2.2.2.1 b0), (fun b0 => by rw [pz_psk (by decide), pz_psk (by decide)]; exact h.2.2.1.2.2.2.2.2.2.2.2.1 b0), (fun b0 => by rw [pz_psk (by decide), pz_psk (by decide)]; exact h.2.2.1.2.2.2.2.2.2.2.2.2 b0)⟩,
    ⟨fun b0 b1 => by
      show (pw_ps (pw_ps w 6 s 9 a) 6 s 10 b).1 6 b0 9 = pz_gv w ((pz_u (pz_u sq.1 12 s x) 13 s y) 12 b0)
      rw [pz_psk (by decide)]
      by_cases q : b0 = s
      · rw [q, pz_pss, pz_uk (k := 13) (by decide), pz_us, e]
      · rw [pz_psi q, pz_un q, pz_un q]; exact h.2.2.2.1.1 b0 b1,
     fun b0 b1 => by
      dsimp only
      by_cases q : b0 = s
      · rw [q, pz_pss, pz_uk (k := 13) (by decide), pz_us, pz_us, e2]
      · rw [pz_psi q, pz_psi q, pz_un q, pz_un q, pz_un q, pz_un q]; exact h.2.2.2.1.2 b0 b1⟩,
    ⟨fun b0 b1 => by rw [pz_psk (by decide), pz_psk (by decide)]; exact h.2.2.2.2.1.1 b0 b1, fun b0 b1 b2 b3 b4 => by rw [pz_psk (by decide), pz_psk (by decide), pz_psk (by decide), pz_psk (by decide)] at b4; exact h.2.2.2.2.1.2.1 b0 b1 b2 b3 b4, fun b0 b1 => by rw [pz_psk (by decide), pz_psk (by decide)]; exact h.2.2.2.2.1.2.2.1 b0 b1, fun b0 b1 b2 b3 => by rw [pz_psk (k' := 2) (by decide), pz_psk (k' := 2) (by decide)]; exact h.2.2.2.2.1.2.2.2 b0 b1 b2 b3⟩,
    h.2.2.2.2.2.1,
    h.2.2.2.2.2.2.1,
    h.2.2.2.2.2.2.2.1,
    h.2.2.2.2.2.2.2.2.1,
    h.2.2.2.2.2.2.2.2.2.1,
    h.2.2.2.2.2.2.2.2.2.2.1,
    fun b0 b1 b2 b3 b4 => by
      rcases b4 with b4 | b4
      · exact h.2.2.2.2.2.2.2.2.2.2.2.1 b0 b1 b2 b3 (Or.inl b4)
      dsimp only at b4 ⊢
      by_cases q : b1 = s
      · rw [q, pz_uk (k := 13) (by decide), pz_us] at b4; exact e3 b0 b2 b4
      · rw [pz_un q, pz_un q] at b4; exact h.2.2.2.2.2.2.2.2.2.2.2.1 b0 b1 b2 b3 (Or.inr b4),
    h.2.2.2.2.2.2.2.2.2.2.2.2.1,
    pz_crm.lk (h.2.2.2.2.2.2.2.2.2.2.2.2.2) (fun _ _ => rfl)⟩
theorem cs43 (h : pz_c sc sq pa ri mp ca dr pe U V w0 w)  : pz_c sc sq pa ri mp ca dr (pz_u pe.1 45 p v, pe.2) U V w0 (pw_ps w 4 p 3 v) := by
  exact ⟨pz_fr.ps h.1 (by omega), h.2.1,
    h.2.2.1,
    h.2.2.2.1,
    h.2.2.2.2.1,
    h.2.2.2.2.2.1,
    h.2.2.2.2.2.2.1,
    ⟨h.2.2.2.2.2.2.2.1.1, h.2.2.2.2.2.2.2.1.2.1, (fun b0 b1 => by rw [pz_psk (by decide)]; exact h.2.2.2.2.2.2.2.1.2.2.1 b0 b1), (fun b0 b1 => by rw [pz_psk (by decide)]; exact h.2.2.2.2.2.2.2.1.2.2.2.1 b0 b1), (fun b0 b1 => by rw [pz_psk (by decide)]; exact h.2.2.2.2.2.2.2.1.2.2.2.2.1 b0 b1), pz_psj (h.2.2.2.2.2.2.2.1.2.2.2.2.2.1), h.2.2.2.2.2.2.2.1.2.2.2.2.2.2.1, h.2.2.2.2.2.2.2.1.2.2.2.2.2.2.2.1, h.2.2.2.2.2.2.2.1.2.2.2.2.2.2.2.2⟩,
    h.2.2.2.2.2.2.2.2.1,
    h.2.2.2.2.2.2.2.2.2.1,
    h.2.2.2.2.2.2.2.2.2.2.1,
    h.2.2.2.2.2.2.2.2.2.2.2.1,
    h.2.2.2.2.2.2.2.2.2.2.2.2.1,
    h.2.2.2.2.2.2.2.2.2.2.2.2.2⟩
theorem cs42 (h : pz_c sc sq pa ri mp ca dr pe U V w0 w) (e : a = pz_b (v = 0)) : pz_c sc sq pa ri mp ca dr (pz_u pe.1 42 p v, pe.2) U V w0 (pw_ps w 4 p 2 a) := by
  exact ⟨pz_fr.ps h.1 (by omega), h.2.1,
    h.2.2.1,
    h.2.2.2.1,
    h.2.2.2.2.1,
    h.2.2.2.2.2.1,
    h.2.2.2.2.2.2.1,
    ⟨h.2.2.2.2.2.2.2.1.1, h.2.2.2.2.2.2.2.1.2.1, (fun b0 b1 => by rw [pz_psk (by decide)]; exact h.2.2.2.2.2.2.2.1.2.2.1 b0 b1), (fun b0 b1 => by rw [pz_psk (by decide)]; exact h.2.2.2.2.2.2.2.1.2.2.2.1 b0 b1), (fun b0 b1 => by
      dsimp only
      by_cases q : b0 = p
      · rw [q, pz_pss, pz_us, e]
      · rw [pz_psi q, pz_un q]; exact h.2.2.2.2.2.2.2.1.2.2.2.2.1 b0 b1), (fun b0 => by rw [pz_psk (by decide)]; exact h.2.2.2.2.2.2.2.1.2.2.2.2.2.1 b0), h.2.2.2.2.2.2.2.1.2.2.2.2.2.2.1, h.2.2.2.2.2.2.2.1.2.2.2.2.2.2.2.1, h.2.2.2.2.2.2.2.1.2.2.2.2.2.2.2.2⟩,
    h.2.2.2.2.2.2.2.2.1,
    h.2.2.2.2.2.2.2.2.2.1,
    h.2.2.2.2.2.2.2.2.2.2.1,
    h.2.2.2.2.2.2.2.2.2.2.2.1,
    h.2.2.2.2.2.2.2.2.2.2.2.2.1,
    h.2.2.2.2.2.2.2.2.2.2.2.2.2⟩
theorem cs55 (h : pz_c sc sq pa ri mp ca dr pe U V w0 w)  : pz_c sc sq pa (ri.1, pz_u ri.2 25 r v) mp ca dr pe U V w0 (pw_ps w 5 r 5 v) := by
  exact ⟨pz_fr.ps h.1 (by omega), h.2.1,
    h.2.2.1,
    h.2.2.2.1,
    h.2.2.2.2.1,
    h.2.2.2.2.2.1,
    h.2.2.2.2.2.2.1,
    h.2.2.2.2.2.2.2.1,
    ⟨h.2.2.2.2.2.2.2.2.1.1, h.2.2.2.2.2.2.2.2.1.2.1, h.2.2.2.2.2.2.2.2.1.2.2.1, (fun b0 => by rw [pz_psk (by decide)]; exact h.2.2.2.2.2.2.2.2.1.2.2.2.1 b0), (fun b0 => by rw [pz_psk (by decide)]; exact h.2.2.2.2.2.2.2.2.1.2.2.2.2.1 b0), (fun b0 => by rw [pz_psk (by decide)]; exact h.2.2.2.2.2.2.2.2.1.2.2.2.2.2.1 b0), (fun b0 b1 b2 => by rw [pz_psk (by decide)]; exact h.2.2.2.2.2.2.2.2.1.2.2.2.2.2.2.1 b0 b1 b2), (fun b0 => by rw [pz_psk (by decide)]; exact h.2.2.2.2.2.2.2.2.1.2.2.2.2.2.2.2.1 b0), pz_psj (h.2.2.2.2.2.2.2.2.1.2.2.2.2.2.2.2.2)⟩,
    h.2.2.2.2.2.2.2.2.2.1,
    h.2.2.2.2.2.2.2.2.2.2.1,
    h.2.2.2.2.2.2.2.2.2.2.2.1,
    h.2.2.2.2.2.2.2.2.2.2.2.2.1,
    h.2.2.2.2.2.2.2.2.2.2.2.2.2⟩
theorem cs32 (h : pz_c sc sq pa ri mp ca dr pe U V w0 w)  : pz_c sc sq (pa.1, pz_u pa.2.1 16 j v, pa.2.2) ri mp ca dr pe U V w0 (pw_ps w 3 j 2 v) := by
  exact ⟨pz_fr.ps h.1 (by omega), h.2.1,
    h.2.2.1,
    h.2.2.2.1,
    h.2.2.2.2.1,
    ⟨h.2.2.2.2.2.1.1, h.2.2.2.2.2.1.2.1, h.2.2.2.2.2.1.2.2.1, h.2.2.2.2.2.1.2.2.2.1, (fun b0 b1 => by rw [pz_psk (by decide)]; exact h.2.2.2.2.2.1.2.2.2.2.1 b0 b1), (fun b0 b1 => by rw [pz_psk (by decide)]; exact h.2.2.2.2.2.1.2.2.2.2.2.1 b0 b1), pz_psj (h.2.2.2.2.2.1.2.2.2.2.2.2.1), (fun b0 => by rw [pz_psk (by decide)]; exact h.2.2.2.2.2.1.2.2.2.2.2.2.2.1 b0), (fun b0 b1 => by rw [pz_psk (by decide)]; exact h.2.2.2.2.2.1.2.2.2.2.2.2.2.2.1 b0 b1), h.2.2.2.2.2.1.2.2.2.2.2.2.2.2.2.1, h.2.2.2.2.2.1.2.2.2.2.2.2.2.2.2.2⟩,
    fun b0 b1 => by rw [pz_psk (by decide)]; exact h.2.2.2.2.2.2.1 b0 b1,
    h.2.2.2.2.2.2.2.1,
    h.2.2.2.2.2.2.2.2.1,
    h.2.2.2.2.2.2.2.2.2.1,
    h.2.2.2.2.2.2.2.2.2.2.1,
    h.2.2.2.2.2.2.2.2.2.2.2.1,
    h.2.2.2.2.2.2.2.2.2.2.2.2.1,
    h.2.2.2.2.2.2.2.2.2.2.2.2.2⟩
theorem cs33 (h : pz_c sc sq pa ri mp ca dr pe U V w0 w)  : pz_c sc sq (pa.1, pz_u pa.2.1 17 j v, pa.2.2) ri mp ca dr pe U V w0 (pw_ps w 3 j 3 v) := by
  exact ⟨pz_fr.ps h.1 (by omega), h.2.1,
    h.2.2.1,
    h.2.2.2.1,
    h.2.2.2.2.1,
    ⟨h.2.2.2.2.2.1.1, h.2.2.2.2.2.1.2.1, h.2.2.2.2.2.1.2.2.1, h.2.2.2.2.2.1.2.2.2.1, (fun b0 b1 => by rw [pz_psk (by decide)]; exact h.2.2.2.2.2.1.2.2.2.2.1 b0 b1), (fun b0 b1 => by rw [pz_psk (by decide)]; exact h.2.2.2.2.2.1.2.2.2.2.2.1 b0 b1), (fun b0 => by rw [pz_psk (by decide)]; exact h.2.2.2.2.2.1.2.2.2.2.2.2.1 b0), pz_psj (h.2.2.2.2.2.1.2.2.2.2.2.2.2.1), (fun b0 b1 => by rw [pz_psk (by decide)]; exact h.2.2.2.2.2.1.2.2.2.2.2.2.2.2.1 b0 b1), h.2.2.2.2.2.1.2.2.2.2.2.2.2.2.2.1, h.2.2.2.2.2.1.2.2.2.2.2.2.2.2.2.2⟩,
    fun b0 b1 => by rw [pz_psk (by decide)]; exact h.2.2.2.2.2.2.1 b0 b1,
    h.2.2.2.2.2.2.2.1,
    h.2.2.2.2.2.2.2.2.1,
    h.2.2.2.2.2.2.2.2.2.1,
    h.2.2.2.2.2.2.2.2.2.2.1,
    h.2.2.2.2.2.2.2.2.2.2.2.1,
    h.2.2.2.2.2.2.2.2.2.2.2.2.1,
    h.2.2.2.2.2.2.2.2.2.2.2.2.2⟩
theorem pz_c46 (h : pz_c sc sq pa ri mp ca dr pe U V w0 w) : pz_c sc sq (pa.1, pz_u pa.2.1 46 i v, pa.2.2) ri mp ca dr pe U V w0 w := h
theorem pz_ii (hx : 0 ≤ x) (hy : 0 ≤ y) (e : pw_i x = pw_i y) : x = y := by rw [← pw_nIi hx, e, pw_nIi hy]
theorem cs03 (h : pz_c sc sq pa ri mp ca dr pe U V w0 w) (hc : c < ca.1) (hv : ¬ v = 1) : pz_c sc sq pa ri mp (ca.1, pz_u ca.2.1 32 c v, ca.2.2) dr pe U V w0 (pw_ps w 0 (pw_i (w.1 20 0 c)) 3 v) := by
  exact ⟨pz_fr.ps h.1 (by omega), h.2.1,
    h.2.2.1,
    h.2.2.2.1,
    h.2.2.2.2.1,
    h.2.2.2.2.2.1,
    h.2.2.2.2.2.2.1,
    h.2.2.2.2.2.2.2.1,
    h.2.2.2.2.2.2.2.2.1,
    h.2.2.2.2.2.2.2.2.2.1,
    ⟨h.2.2.2.2.2.2.2.2.2.2.1.1, h.2.2.2.2.2.2.2.2.2.2.1.2.1, h.2.2.2.2.2.2.2.2.2.2.1.2.2.1, h.2.2.2.2.2.2.2.2.2.2.1.2.2.2.1, (fun b0 b1 => by rw [show (pw_ps w 0 (pw_i (w.1 20 0 c)) 3 v).1 20 0 b0 = w.1 20 0 b0 from pz_psf (by decide), pz_psk (by decide)]; exact h.2.2.2.2.2.2.2.2.2.2.1.2.2.2.2.1 b0 b1), (fun b0 b1 => by rw [show (pw_ps w 0 (pw_i (w.1 20 0 c)) 3 v).1 20 0 b0 = w.1 20 0 b0 from pz_psf (by decide), pz_psk (by decide)]; exact h.2.2.2.2.2.2.2.2.2.2.1.2.2.2.2.2.1 b0 b1), (fun b0 b1 => by rw [show (pw_ps w 0 (pw_i (w.1 20 0 c)) 3 v).1 20 0 b0 = w.1 20 0 b0 from pz_psf (by decide), pz_psk (by decide)]; exact h.2.2.2.2.2.2.2.2.2.2.1.2.2.2.2.2.2.1 b0 b1), (fun b0 b1 => by
      dsimp only
      by_cases q : b0 = c
      · rw [q]; exact pz_pss.trans pz_us.symm
      · rw [show (pw_ps w 0 (pw_i (w.1 20 0 c)) 3 v).1 20 0 b0 = w.1 20 0 b0 from pz_psf (by decide), pz_psi (fun z => q (pz_k20i h _ _ b1 hc (pz_ii (pz_k20 h _ b1).1 (pz_k20 h _ hc).1 z))), pz_un q]; exact h.2.2.2.2.2.2.2.2.2.2.1.2.2.2.2.2.2.2.1 b0 b1), (fun b0 b1 => by rw [show (pw_ps w 0 (pw_i (w.1 20 0 c)) 3 v).1 20 0 b0 = w.1 20 0 b0 from pz_psf (by decide), pz_psk (by decide)]; exact h.2.2.2.2.2.2.2.2.2.2.1.2.2.2.2.2.2.2.2.1 b0 b1), (fun b0 b1 => by rw [show (pw_ps w 0 (pw_i (w.1 20 0 c)) 3 v).1 20 0 b0 = w.1 20 0 b0 from pz_psf (by decide), pz_psk (by decide)]; exact h.2.2.2.2.2.2.2.2.2.2.1.2.2.2.2.2.2.2.2.2.1 b0 b1), (fun b0 b1 => by rw [show (pw_ps w 0 (pw_i (w.1 20 0 c)) 3 v).1 20 0 b0 = w.1 20 0 b0 from pz_psf (by decide), pz_psk (by decide)]; exact h.2.2.2.2.2.2.2.2.2.2.1.2.2.2.2.2.2.2.2.2.2.1 b0 b1), h.2.2.2.2.2.2.2.2.2.2.1.2.2.2.2.2.2.2.2.2.2.2.1, h.2.2.2.2.2.2.2.2.2.2.1.2.2.2.2.2.2.2.2.2.2.2.2⟩,
    fun b0 b1 b2 b3 b4 => by
      have b5 : ca.2.1 32 b0 = 1 ∨ sq.1 12 b1 = nI b0 := by
        rcases b4 with b4 | b4
        · have b4 : (pz_u ca.2.1 32 c v) 32 b0 = 1 := b4
          by_cases q : b0 = c
          · rw [q, pz_us] at b4; exact absurd b4 hv
          · rw [pz_un q] at b4; exact Or.inl b4
        · exact Or.inr b4
      rw [show (pw_ps w 0 (pw_i (w.1 20 0 c)) 3 v).1 20 0 b0 = w.1 20 0 b0 from pz_psf (by decide), pz_psk (by decide)]; exact h.2.2.2.2.2.2.2.2.2.2.2.1 b0 b1 b2 b3 b5,
    h.2.2.2.2.2.2.2.2.2.2.2.2.1,
    h.2.2.2.2.2.2.2.2.2.2.2.2.2⟩
theorem cs04 (h : pz_c sc sq pa ri mp ca dr pe U V w0 w) (hc : c < ca.1) : pz_c sc sq pa ri mp (ca.1, pz_u ca.2.1 33 c v, ca.2.2) dr pe U V w0 (pw_ps w 0 (pw_i (w.1 20 0 c)) 4 v) := by
  exact ⟨pz_fr.ps h.1 (by omega), h.2.1,
    h.2.2.1,
    h.2.2.2.1,
    h.2.2.2.2.1,
    h.2.2.2.2.2.1,
    h.2.2.2.2.2.2.1,
    h.2.2.2.2.2.2.2.1,
    h.2.2.2.2.2.2.2.2.1,
    h.2.2.2.2.2.2.2.2.2.1,
    ⟨h.2.2.2.2.2.2.2.2.2.2.1.1, h.2.2.2.2.2.2.2.2.2.2.1.2.1, h.2.2.2.2.2.2.2.2.2.2.1.2.2.1, h.2.2.2.2.2.2.2.2.2.2.1.2.2.2.1, (fun b0 b1 => by rw [show (pw_ps w 0 (pw_i (w.1 20 0 c)) 4 v).1 20 0 b0 = w.1 20 0 b0 from pz_psf (by decide), pz_psk (by decide)]; exact h.2.2.2.2.2.2.2.2.2.2.1.2.2.2.2.1 b0 b1), (fun b0 b1 => by rw [show (pw_ps w 0 (pw_i (w.1 20 0 c)) 4 v).1 20 0 b0 = w.1 20 0 b0 from pz_psf (by decide), pz_psk (by decide)]; exact h.2.2.2.2.2.2.2.2.2.2.1.2.2.2.2.2.1 b0 b1), (fun b0 b1 => by rw [show (pw_ps w 0 (pw_i (w.1 20 0 c)) 4 v).1 20 0 b0 = w.1 20 0 b0 from pz_psf (by decide), pz_psk (by decide)]; exact h.2.2.2.2.2.2.2.2.2.2.1.2.2.2.2.2.2.1 b0 b1), (fun b0 b1 => by rw [show (pw_ps w 0 (pw_i (w.1 20 0 c)) 4 v).1 20 0 b0 = w.1 20 0 b0 from pz_psf (by decide), pz_psk (by decide)]; exact h.2.2.2.2.2.2.2.2.2.2.1.2.2.2.2.2.2.2.1 b0 b1), (fun b0 b1 => by
      dsimp only
      by_cases q : b0 = c
      · rw [q]; exact pz_pss.trans pz_us.symm
      · rw [show (pw_ps w 0 (pw_i (w.1 20 0 c)) 4 v).1 20 0 b0 = w.1 20 0 b0 from pz_psf (by decide), pz_psi (fun z => q (pz_k20i h _ _ b1 hc (pz_ii (pz_k20 h _ b1).1 (pz_k20 h _ hc).1 z))), pz_un q]; exact h.2.2.2.2.2.2.2.2.2.2.1.2.2.2.2.2.2.2.2.1 b0 b1), (fun b0 b1 => by rw [show (pw_ps w 0 (pw_i (w.1 20 0 c)) 4 v).1 20 0 b0 = w.1 20 0 b0 from pz_psf (by decide), pz_psk (by decide)]; exact h.2.2.2.2.2.2.2.2.2.2.1.2.2.2.2.2.2.2.2.2.1 b0 b1), (fun b0 b1 => by rw [show (pw_ps w 0 (pw_i (w.1 20 0 c)) 4 v).1 20 0 b0 = w.1 20 0 b0 from pz_psf (by decide), pz_psk (by decide)]; exact h.2.2.2.2.2.2.2.2.2.2.1.2.2.2.2.2.2.2.2.2.2.1 b0 b1), h.2.2.2.2.2.2.2.2.2.2.1.2.2.2.2.2.2.2.2.2.2.2.1, h.2.2.2.2.2.2.2.2.2.2.1.2.2.2.2.2.2.2.2.2.2.2.2⟩,
    fun b0 b1 b2 b3 b4 => by rw [show (pw_ps w 0 (pw_i (w.1 20 0 c)) 4 v).1 20 0 b0 = w.1 20 0 b0 from pz_psf (by decide), pz_psk (by decide)]; exact h.2.2.2.2.2.2.2.2.2.2.2.1 b0 b1 b2 b3 b4,
    h.2.2.2.2.2.2.2.2.2.2.2.2.1,
    h.2.2.2.2.2.2.2.2.2.2.2.2.2⟩
theorem cs06 (h : pz_c sc sq pa ri mp ca dr pe U V w0 w) (hc : c < ca.1) : pz_c sc sq pa ri mp (ca.1, pz_u ca.2.1 35 c v, ca.2.2) dr pe U V w0 (pw_ps w 0 (pw_i (w.1 20 0 c)) 6 v) := by
  exact ⟨pz_fr.ps h.1 (by omega), h.2.1,
    h.2.2.1,
    h.2.2.2.1,
    h.2.2.2.2.1,
    h.2.2.2.2.2.1,
    h.2.2.2.2.2.2.1,
    h.2.2.2.2.2.2.2.1,
    h.2.2.2.2.2.2.2.2.1,
    h.2.2.2.2.2.2.2.2.2.1,
    ⟨h.2.2.2.2.2.2.2.2.2.2.1.1, h.2.2.2.2.2.2.2.2.2.2.1.2.1, h.2.2.2.2.2.2.2.2.2.2.1.2.2.1, h.2.2.2.2.2.2.2.2.2.2.1.2.2.2.1, (fun b0 b1 => by rw [show (pw_ps w 0 (pw_i (w.1 20 0 c)) 6 v).1 20 0 b0 = w.1 20 0 b0 from pz_psf (by decide), pz_psk (by decide)]; exact h.2.2.2.2.2.2.2.2.2.2.1.2.2.2.2.1 b0 b1), (fun b0 b1 => by rw [show (pw_ps w 0 (pw_i (w.1 20 0 c)) 6 v).1 20 0 b0 = w.1 20 0 b0 from pz_psf (by decide), pz_psk (by decide)]; exact h.2.2.2.2.2.2.2.2.2.2.1.2.2.2.2.2.1 b0 b1), (fun b0 b1 => by rw [show (pw_ps w 0 (pw_i (w.1 20 0 c)) 6 v).1 20 0 b0 = w.1 20 0 b0 from pz_psf (by decide), pz_psk (by decide)]; exact h.2.2.2.2.2.2.2.2.2.2.1.2.2.2.2.2.2.1 b0 b1), (fun b0 b1 => by rw [show (pw_ps w 0 (pw_i (w.1 20 0 c)) 6 v).1 20 0 b0 = w.1 20 0 b0 from pz_psf (by decide), pz_psk (by decide)]; exact h.2.2.2.2.2.2.2.2.2.2.1.2.2.2.2.2.2.2.1 b0 b1), (fun b0 b1 => by rw [show (pw_ps w 0 (pw_i (w.1 20 0 c)) 6 v).1 20 0 b0 = w.1 20 0 b0 from pz_psf (by decide), pz_psk (by decide)]; exact h.2.2.2.2.2.2.2.2.2.2.1.2.2.2.2.2.2.2.2.1 b0 b1), (fun b0 b1 => by
      dsimp only
      by_cases q : b0 = c
      · rw [q]; exact pz_pss.trans pz_us.symm
      · rw [show (pw_ps w 0 (pw_i (w.1 20 0 c)) 6 v).1 20 0 b0 = w.1 20 0 b0 from pz_psf (by decide), pz_psi (fun z => q (pz_k20i h _ _ b1 hc (pz_ii (pz_k20 h _ b1).1 (pz_k20 h _ hc).1 z))), pz_un q]; exact h.2.2.2.2.2.2.2.2.2.2.1.2.2.2.2.2.2.2.2.2.1 b0 b1), (fun b0 b1 => by rw [show (pw_ps w 0 (pw_i (w.1 20 0 c)) 6 v).1 20 0 b0 = w.1 20 0 b0 from pz_psf (by decide), pz_psk (by decide)]; exact h.2.2.2.2.2.2.2.2.2.2.1.2.2.2.2.2.2.2.2.2.2.1 b0 b1), h.2.2.2.2.2.2.2.2.2.2.1.2.2.2.2.2.2.2.2.2.2.2.1, h.2.2.2.2.2.2.2.2.2.2.1.2.2.2.2.2.2.2.2.2.2.2.2⟩,
    fun b0 b1 b2 b3 b4 => by rw [show (pw_ps w 0 (pw_i (w.1 20 0 c)) 6 v).1 20 0 b0 = w.1 20 0 b0 from pz_psf (by decide), pz_psk (by decide)]; exact h.2.2.2.2.2.2.2.2.2.2.2.1 b0 b1 b2 b3 b4,
    h.2.2.2.2.2.2.2.2.2.2.2.2.1,
    h.2.2.2.2.2.2.2.2.2.2.2.2.2⟩
theorem cs07 (h : pz_c sc sq pa ri mp ca dr pe U V w0 w) (hc : c < ca.1) : pz_c sc sq pa ri mp (ca.1, pz_u ca.2.1 36 c v, ca.2.2) dr pe U V w0 (pw_ps w 0 (pw_i (w.1 20 0 c)) 7 v) := by
  exact ⟨pz_fr.ps h.1 (by omega), h.2.1,
    h.2.2.1,
    h.2.2.2.1,
    h.2.2.2.2.1,
    h.2.2.2.2.2.1,
    h.2.2.2.2.2.2.1,
    h.2.2.2.2.2.2.2.1,
    h.2.2.2.2.2.2.2.2.1,
    h.2.2.2.2.2.2.2.2.2.1,
    ⟨h.2.2.2.2.2.2.2.2.2.2.1.1, h.2.2.2.2.2.2.2.2.2.2.1.2.1, h.2.2.2.2.2.2.2.2.2.2.1.2.2.1, h.2.2.2.2.2.2.2.2.2.2.1.2.2.2.1, (fun b0 b1 => by rw [show (pw_ps w 0 (pw_i (w.1 20 0 c)) 7 v).1 20 0 b0 = w.1 20 0 b0 from pz_psf (by decide), pz_psk (by decide)]; exact h.2.2.2.2.2.2.2.2.2.2.1.2.2.2.2.1 b0 b1), (fun b0 b1 => by rw [show (pw_ps w 0 (pw_i (w.1 20 0 c)) 7 v).1 20 0 b0 = w.1 20 0 b0 from pz_psf (by decide), pz_psk (by decide)]; exact h.2.2.2.2.2.2.2.2.2.2.1.2.2.2.2.2.1 b0 b1), (fun b0 b1 => by rw [show (pw_ps w 0 (pw_i (w.1 20 0 c)) 7 v).1 20 0 b0 = w.1 20 0 b0 from pz_psf (by decide), pz_psk (by decide)]; exact h.2.2.2.2.2.2.2.2.2.2.1.2.2.2.2.2.2.1 b0 b1), (fun b0 b1 => by rw [show (pw_ps w 0 (pw_i (w.1 20 0 c)) 7 v).1 20 0 b0 = w.1 20 0 b0 from pz_psf (by decide), pz_psk (by decide)]; exact h.2.2.2.2.2.2.2.2.2.2.1.2.2.2.2.2.2.2.1 b0 b1), (fun b0 b1 => by rw [show (pw_ps w 0 (pw_i (w.1 20 0 c)) 7 v).1 20 0 b0 = w.1 20 0 b0 from pz_psf (by decide), pz_psk (by decide)]; exact h.2.2.2.2.2.2.2.2.2.2.1.2.2.2.2.2.2.2.2.1 b0 b1), (fun b0 b1 => by rw [show (pw_ps w 0 (pw_i (w.1 20 0 c)) 7 v).1 20 0 b0 = w.1 20 0 b0 from pz_psf (by decide), pz_psk (by decide)]; exact h.2.2.2.2.2.2.2.2.2.2.1.2.2.2.2.2.2.2.2.2.1 b0 b1), (fun b0 b1 => by
      dsimp only
      by_cases q : b0 = c
      · rw [q]; exact pz_pss.trans pz_us.symm
      · rw [show (pw_ps w 0 (pw_i (w.1 20 0 c)) 7 v).1 20 0 b0 = w.1 20 0 b0 from pz_psf (by decide), pz_psi (fun z => q (pz_k20i h _ _ b1 hc (pz_ii (pz_k20 h _ b1).1 (pz_k20 h _ hc).1 z))), pz_un q]; exact h.2.2.2.2.2.2.2.2.2.2.1.2.2.2.2.2.2.2.2.2.2.1 b0 b1), h.2.2.2.2.2.2.2.2.2.2.1.2.2.2.2.2.2.2.2.2.2.2.1, h.2.2.2.2.2.2.2.2.2.2.1.2.2.2.2.2.2.2.2.2.2.2.2⟩,
    fun b0 b1 b2 b3 b4 => by rw [show (pw_ps w 0 (pw_i (w.1 20 0 c)) 7 v).1 20 0 b0 = w.1 20 0 b0 from pz_psf (by decide), pz_psk (by decide)]; exact h.2.2.2.2.2.2.2.2.2.2.2.1 b0 b1 b2 b3 b4,
    h.2.2.2.2.2.2.2.2.2.2.2.2.1,
    h.2.2.2.2.2.2.2.2.2.2.2.2.2⟩
theorem cs35 (h : pz_c sc sq pa ri mp ca dr pe U V w0 w) (hc : c < ca.1) : pz_c sc sq pa ri mp (ca.1, pz_u (pz_u ca.2.1 32 c 1) 34 c v, ca.2.2) dr pe U V w0 (pw_ps (pw_ps w 0 (pw_i (w.1 20 0 c)) 3 1) 0 (pw_i (w.1 20 0 c)) 5 v) := by
  exact ⟨pz_fr.ps (pz_fr.ps h.1 (by omega)) (by omega), h.2.1,
    h.2.2.1,
    h.2.2.2.1,
    h.2.2.2.2.1,
    h.2.2.2.2.2.1,
    h.2.2.2.2.2.2.1,
    h.2.2.2.2.2.2.2.1,
    h.2.2.2.2.2.2.2.2.1,
    h.2.2.2.2.2.2.2.2.2.1,
    ⟨h.2.2.2.2.2.2.2.2.2.2.1.1, h.2.2.2.2.2.2.2.2.2.2.1.2.1, h.2.2.2.2.2.2.2.2.2.2.1.2.2.1, h.2.2.2.2.2.2.2.2.2.2.1.2.2.2.1, (fun b0 b1 => by rw [show (pw_ps (pw_ps w 0 (pw_i (w.1 20 0 c)) 3 1) 0 (pw_i (w.1 20 0 c)) 5 v).1 20 0 b0 = w.1 20 0 b0 from rfl, pz_psk (by decide), pz_psk (by decide)]; exact h.2.2.2.2.2.2.2.2.2.2.1.2.2.2.2.1 b0 b1), (fun b0 b1 => by rw [show (pw_ps (pw_ps w 0 (pw_i (w.1 20 0 c)) 3 1) 0 (pw_i (w.1 20 0 c)) 5 v).1 20 0 b0 = w.1 20 0 b0 from rfl, pz_psk (by decide), pz_psk (by decide)]; exact h.2.2.2.2.2.2.2.2.2.2.1.2.2.2.2.2.1 b0 b1), (fun b0 b1 => by rw [show (pw_ps (pw_ps w 0 (pw_i (w.1 20 0 c)) 3 1) 0 (pw_i (w.1 20 0 c)) 5 v).1 20 0 b0 = w.1 20 0 b0 from rfl, pz_psk (by decide), pz_psk (by decide)]; exact h.2.2.2.2.2.2.2.2.2.2.1.2.2.2.2.2.2.1 b0 b1), (fun b0 b1 => by
      rw [show (pw_ps (pw_ps w 0 (pw_i (w.1 20 0 c)) 3 1) 0 (pw_i (w.1 20 0 c)) 5 v).1 20 0 b0 = w.1 20 0 b0 from rfl, pz_psk (by decide)]
      show _ = (pz_u (pz_u ca.2.1 32 c 1) 34 c v) 32 b0
      rw [pz_uk (k := 34) (by decide)]
      by_cases q : b0 = c
      · rw [q]; exact pz_pss.trans pz_us.symm
      · rw [pz_psi (fun z => q (pz_k20i h _ _ b1 hc (pz_ii (pz_k20 h _ b1).1 (pz_k20 h _ hc).1 z))), pz_un q]; exact h.2.2.2.2.2.2.2.2.2.2.1.2.2.2.2.2.2.2.1 b0 b1), (fun b0 b1 => by rw [show (pw_ps (pw_ps w 0 (pw_i (w.1 20 0 c)) 3 1) 0 (pw_i (w.1 20 0 c)) 5 v).1 20 0 b0 = w.1 20 0 b0 from rfl, pz_psk (by decide), pz_psk (by decide)]; exact h.2.2.2.2.2.2.2.2.2.2.1.2.2.2.2.2.2.2.2.1 b0 b1), (fun b0 b1 => by rw [show (pw_ps (pw_ps w 0 (pw_i (w.1 20 0 c)) 3 1) 0 (pw_i (w.1 20 0 c)) 5 v).1 20 0 b0 = w.1 20 0 b0 from rfl, pz_psk (by decide), pz_psk (by decide)]; exact h.2.2.2.2.2.2.2.2.2.2.1.2.2.2.2.2.2.2.2.2.1 b0 b1), (fun b0 b1 => by rw [show (pw_ps (pw_ps w 0 (pw_i (w.1 20 0 c)) 3 1) 0 (pw_i (w.1 20 0 c)) 5 v).1 20 0 b0 = w.1 20 0 b0 from rfl, pz_psk (by decide), pz_psk (by decide)]; exact h.2.2.2.2.2.2.2.2.2.2.1.2.2.2.2.2.2.2.2.2.2.1 b0 b1), h.2.2.2.2.2.2.2.2.2.2.1.2.2.2.2.2.2.2.2.2.2.2.1, h.2.2.2.2.2.2.2.2.2.2.1.2.2.2.2.2.2.2.2.2.2.2.2⟩,
    fun b0 b1 b2 b3 b4 => by
      show (pw_ps (pw_ps w 0 (pw_i (w.1 20 0 c)) 3 1) 0 (pw_i (w.1 20 0 c)) 5 v).1 0 (pw_i (w.1 20 0 b0)) 5 = (pz_u (pz_u ca.2.1 32 c 1) 34 c v) 34 b0
      by_cases q : b0 = c
      · rw [q]; exact pz_pss.trans pz_us.symm
      · have b5 : ca.2.1 32 b0 = 1 ∨ sq.1 12 b1 = nI b0 := by
          rcases b4 with b4 | b4
          · have b4 : (pz_u (pz_u ca.2.1 32 c 1) 34 c v) 32 b0 = 1 := b4
            rw [pz_un q, pz_un q] at b4; exact Or.inl b4
          · exact Or.inr b4
        rw [pz_psi (fun z => q (pz_k20i h _ _ b2 hc (pz_ii (pz_k20 h _ b2).1 (pz_k20 h _ hc).1 z))), pz_psk (by decide), pz_un q, pz_uk (by decide)]; exact h.2.2.2.2.2.2.2.2.2.2.2.1 b0 b1 b2 b3 b5,
    h.2.2.2.2.2.2.2.2.2.2.2.2.1,
    h.2.2.2.2.2.2.2.2.2.2.2.2.2⟩
theorem cs34 (h : pz_c sc sq pa ri mp ca dr pe U V w0 w) (hn : ∀ s, s < 100 → ¬ sq.1 12 s = nI c) (h32 : ¬ ca.2.1 32 c = 1) : pz_c sc sq pa ri mp (ca.1, pz_u ca.2.1 34 c v, ca.2.2) dr pe U V w0 w := by
  exact ⟨h.1, h.2.1,
    h.2.2.1,
    h.2.2.2.1,
    h.2.2.2.2.1,
    h.2.2.2.2.2.1,
    h.2.2.2.2.2.2.1,
    h.2.2.2.2.2.2.2.1,
    h.2.2.2.2.2.2.2.2.1,
    h.2.2.2.2.2.2.2.2.2.1,
    h.2.2.2.2.2.2.2.2.2.2.1,
    fun b0 b1 b2 b3 b4 => by
      dsimp only
      by_cases q : b0 = c
      · rw [q] at b4; exact absurd b4 (fun z => z.elim h32 (hn b1 b3))
      · rw [pz_un q]; exact h.2.2.2.2.2.2.2.2.2.2.2.1 b0 b1 b2 b3 b4,
    h.2.2.2.2.2.2.2.2.2.2.2.2.1,
    h.2.2.2.2.2.2.2.2.2.2.2.2.2⟩
theorem pz_c.up {U1 V1 : Nat} (h : pz_c sc sq pa ri mp ca dr pe U V w0 w) (hu : U ≤ U1) (hv : V ≤ V1) : pz_c sc sq pa ri mp ca dr pe U1 V1 w0 w :=
  ⟨h.1, h.2.1, h.2.2.1, h.2.2.2.1, h.2.2.2.2.1, h.2.2.2.2.2.1, h.2.2.2.2.2.2.1, h.2.2.2.2.2.2.2.1, h.2.2.2.2.2.2.2.2.1, h.2.2.2.2.2.2.2.2.2.1, h.2.2.2.2.2.2.2.2.2.2.1, h.2.2.2.2.2.2.2.2.2.2.2.1, h.2.2.2.2.2.2.2.2.2.2.2.2.1, ⟨h.2.2.2.2.2.2.2.2.2.2.2.2.2.1, Nat.le_trans h.2.2.2.2.2.2.2.2.2.2.2.2.2.2.1 (by omega), Nat.le_trans h.2.2.2.2.2.2.2.2.2.2.2.2.2.2.2 (by omega)⟩⟩
theorem pz_c.uv {u1 v1 : Nat} (h : pz_c sc sq pa ri mp ca dr pe U V w0 w) (hu : w.2.2.1 ≤ u1) (hu2 : u1 ≤ w.2.2.1 + 1) (hv2 : v1 ≤ w.2.2.2 + 6) : pz_c sc sq pa ri mp ca dr pe (U + 1) (V + 6) w0 (w.1, w.2.1, u1, v1) :=
  ⟨h.1, h.2.1, h.2.2.1, h.2.2.2.1, h.2.2.2.2.1, h.2.2.2.2.2.1, h.2.2.2.2.2.2.1, h.2.2.2.2.2.2.2.1, h.2.2.2.2.2.2.2.2.1, h.2.2.2.2.2.2.2.2.2.1, h.2.2.2.2.2.2.2.2.2.2.1, h.2.2.2.2.2.2.2.2.2.2.2.1, h.2.2.2.2.2.2.2.2.2.2.2.2.1, ⟨fun f => Nat.le_trans (h.2.2.2.2.2.2.2.2.2.2.2.2.2.1 f) hu, by have := h.2.2.2.2.2.2.2.2.2.2.2.2.2.2.1; show u1 ≤ _; omega, by have := h.2.2.2.2.2.2.2.2.2.2.2.2.2.2.2; show v1 ≤ _; omega⟩⟩
theorem cu_thr (h : pz_c sc sq pa ri mp ca dr pe U V w0 w) (hU : U ≤ 200000) (hV : V ≤ 4000000) (hL : pz_L sq ≤ 12000) (hr : ri.1 ≤ 80) (k : ∀ w1, pz_c sc sq pa ri mp ca dr pe (U + 1) (V + 6) w0 w1 → X w1 n) : pw_thr w X n := by
  have h1 := pz_kru h
  have h2 := pz_krv h
  exact ⟨by omega, by omega, fun u1 v1 a b c d => k _ (pz_c.uv h a b d)⟩
end PZS
