/-! the world: families of objects, arrays and lists by number; all values Int32; a reference is the number of its object in its family, -1 is null -/
abbrev pw_W : Type := (Nat → Nat → Nat → Int32) × (Nat → Nat → Nat) × Nat × Nat
abbrev pw_G : Type := va_G × (Nat → ClassId) × Nat × Nat × Nat × Cell
abbrev pw_i (x : Int32) : Nat := x.toNatClampNeg
/-- how many a family has -/
def pw_nv (w : pw_W) (f : Nat) : Nat := w.2.1 1000 f
/-- the length of an array, the size of a list -/
def pw_ln (w : pw_W) (f i : Nat) : Nat := w.2.1 f i
/-- the capacity of a list -/
def pw_cp (w : pw_W) (f i : Nat) : Nat := w.2.1 (f + 300) i
def pw_s (w : pw_W) (f i k : Nat) : Int32 := w.1 f i k
def pw_ps (w : pw_W) (f i k : Nat) (x : Int32) : pw_W := (fun a b c => if a = f ∧ b = i ∧ c = k then x else w.1 a b c, w.2)
def pw_rf (ad : Nat → Nat → Nat) (F : Nat) (x : Int32) : Option Nat := if x < 0 then none else some (ad F (pw_i x))
/-- a tagged value as the machine has it -/
def pw_ph (ad : Nat → Nat → Nat) (q : Nat × Int32) : Value := match q.1 with
  | 0 => .int q.2
  | 1 => .long q.2.toInt64
  | F + 2 => va_rf (pw_rf ad F q.2)
/-- a family whose objects may be told by references -/
abbrev pw_fo (F : Nat) : Prop := F < 30 ∨ 40 ≤ F
def pw_ok (w : pw_W) (q : Nat × Int32) : Prop := match q.1 with
  | 0 => True
  | 1 => True
  | F + 2 => (F = 2998 ∧ q.2 = 0) ∨ q.2 = -1 ∨ (0 ≤ q.2 ∧ pw_i q.2 < pw_nv w F ∧ pw_fo F)
def pw_fs (ad : Nat → Nat → Nat) (w : pw_W) (f i : Nat) : List Value := (List.range (pw_nf f)).map fun k => pw_ph ad (pw_ty f k, w.1 f i k)
def pw_pa (ad : Nat → Nat → Nat) (w : pw_W) (f i : Nat) : (Nat → Int32) ⊕ (Nat → Int64) ⊕ (Nat → UInt32) ⊕ (Nat → UInt64) ⊕ (Nat → Option Nat) := match pw_ak f with
  | 0 => .inl (w.1 f i)
  | 1 => .inl (w.1 f i)
  | 2 => .inr (.inl fun j => (w.1 f i j).toInt64)
  | _ => .inr (.inr (.inr (.inr fun j => pw_rf ad (pw_ty f 0 - 2) (w.1 f i j))))
/-- the cell of the object i of the family f -/
def pw_e (g : pw_G) (ad : Nat → Nat → Nat) (w : pw_W) (f i : Nat) : va_E :=
  if f < 9 then .inr (f, pw_fs ad w f i)
  else if 20 ≤ f ∧ f < 30 then .inr (9, [.int (w.1 (f + 300) i 0), .ref (if pw_cp w f i = 0 then g.2.2.1 else ad (f + 10) i), .int (Int32.ofNat (pw_ln w f i))])
  else if 30 ≤ f ∧ f < 40 then .inl (g.2.1 5, (pw_cp w (f - 10) i, .inr (.inr (.inr (.inr fun j => if j < pw_ln w (f - 10) i then pw_rf ad (f - 30) (w.1 (f - 10) i j) else none)))))
  else .inl (g.2.1 (pw_ak f), (pw_ln w f i, pw_pa ad w f i))
/-- what there is -/
def pw_v (w : pw_W) (f i : Nat) : Prop := if 30 ≤ f ∧ f < 40 then i < pw_nv w (f - 10) ∧ 0 < pw_cp w (f - 10) i else i < pw_nv w f
def pw_len (w : pw_W) (f i : Nat) : Nat := if f < 9 then pw_nf f else pw_ln w f i
def pw_sum (b : Nat) (H : Heap) : Nat := ((H.toList.drop b).map (·.slots.size)).sum
def pw_P (g : pw_G) (ad : Nat → Nat → Nat) (w : pw_W) (H : Heap) : Prop :=
  (∀ f i, pw_v w f i → va_at g.1 pw_cl (ad f i, pw_e g ad w f i) H ∧ g.2.2.2.1 ≤ ad f i) ∧
  (∀ f i f' i', pw_v w f i → pw_v w f' i' → ad f i = ad f' i' → f = f' ∧ i = i') ∧
  (∀ f i k, pw_fo f → i < pw_nv w f → k < pw_len w f i → pw_ok w (pw_ty f k, w.1 f i k)) ∧
  (∀ f i, 20 ≤ f → f < 30 → i < pw_nv w f → pw_ln w f i ≤ pw_cp w f i ∧ pw_cp w f i < 1048576) ∧
  (ad 2998 0 = g.2.2.2.2.1 ∧ H[g.2.2.2.2.1]? = some g.2.2.2.2.2 ∧ g.2.2.2.2.1 < g.2.2.2.1) ∧
  H.size = g.2.2.2.1 + w.2.2.1 ∧ pw_sum g.2.2.2.1 H = w.2.2.2 ∧ ∀ a, (a = 1000 ∨ (320 ≤ a ∧ a < 330)) → pw_nv w a = 0
/-- the addresses of before are those of now -/
def pw_x (ad : Nat → Nat → Nat) (w : pw_W) (ad' : Nat → Nat → Nat) (w' : pw_W) : Prop :=
  (∀ f, pw_nv w f ≤ pw_nv w' f) ∧ (∀ f i, pw_fo f → i < pw_nv w f → ad' f i = ad f i) ∧ ad' 2998 0 = ad 2998 0
theorem pw_x.rf {ad : Nat → Nat → Nat} {w : pw_W} : pw_x ad w ad w := ⟨fun _ => Nat.le_refl _, fun _ _ _ _ => rfl, rfl⟩
theorem pw_x.trans {a0 a1 a2 : Nat → Nat → Nat} {w0 w1 w2 : pw_W} (h : pw_x a0 w0 a1 w1) (k : pw_x a1 w1 a2 w2) : pw_x a0 w0 a2 w2 :=
  ⟨fun f => Nat.le_trans (h.1 f) (k.1 f), fun f i hf hi => (k.2.1 f i hf (Nat.lt_of_lt_of_le hi (h.1 f))).trans (h.2.1 f i hf hi), k.2.2.trans h.2.2⟩
theorem pw_ok.x {ad ad' : Nat → Nat → Nat} {w w' : pw_W} (h : pw_x ad w ad' w') {q : Nat × Int32} (hq : pw_ok w q) : pw_ok w' q := by
  obtain ⟨t, x⟩ := q
  match t, hq with
  | 0, _ => trivial
  | 1, _ => trivial
  | F + 2, hq =>
    rcases hq with h1 | h1 | h1
    · exact Or.inl h1
    · exact Or.inr (Or.inl h1)
    · exact Or.inr (Or.inr ⟨h1.1, Nat.lt_of_lt_of_le h1.2.1 (h.1 F), h1.2.2⟩)
theorem pw_rf.x {ad ad' : Nat → Nat → Nat} {w w' : pw_W} (h : pw_x ad w ad' w') {F : Nat} {x : Int32} (hq : pw_ok w (F + 2, x)) : pw_rf ad' F x = pw_rf ad F x := by
  unfold pw_rf
  by_cases hx : x < 0
  · rw [if_pos hx, if_pos hx]
  · rw [if_neg hx, if_neg hx]
    rcases hq with h1 | h1 | h1
    · obtain ⟨hF, h0⟩ := h1
      have h0 : x = 0 := h0
      subst hF h0
      rw [show pw_i 0 = 0 from rfl, h.2.2]
    · exact absurd (show x < 0 by rw [show x = -1 from h1]; decide) hx
    · rw [h.2.1 F (pw_i x) h1.2.2 h1.2.1]
theorem pw_ph.x {ad ad' : Nat → Nat → Nat} {w w' : pw_W} (h : pw_x ad w ad' w') {q : Nat × Int32} (hq : pw_ok w q) : pw_ph ad' q = pw_ph ad q := by
  obtain ⟨t, x⟩ := q
  match t, hq with
  | 0, _ => rfl
  | 1, _ => rfl
  | F + 2, hq => exact congrArg va_rf (pw_rf.x h hq)
theorem pw_phs.x {ad ad' : Nat → Nat → Nat} {w w' : pw_W} (h : pw_x ad w ad' w') {st : List (Nat × Int32)} (hq : ∀ q ∈ st, pw_ok w q) : st.map (pw_ph ad') = st.map (pw_ph ad) :=
  List.map_congr_left fun q hm => pw_ph.x h (hq q hm)
