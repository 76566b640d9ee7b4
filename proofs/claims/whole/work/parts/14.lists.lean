/-! Math; lists by what they hold -/
section PVS
variable {l : Launch} {g : pw_G} {cx : pw_C} {Q : pw_W → Int32 → Prop} {X : pw_W → Nat → Prop} {pc n : Nat} {L st : List (Nat × Int32)} {w : pw_W} {x y j : Int32} {t : Nat}
def pw_mw (index : Nat) (cx : pw_C) (y : MethodName) (cc : ByteArray) (k : Nat) : Prop := Cond.methodLink (pw_own cx) index y ∈ pw_g ∧ Cond.static y ∈ pw_g ∧ Cond.initialized "java/lang/Math" ∈ pw_g ∧ Cond.code y cc k (some .int) ∈ pw_g ∧ 1 ≤ pw_fr cx ∧ 21 ≤ pw_lo cx
theorem pv_mmin {index : Nat} (hw : pw_mw index cx Lib.Math.min.name Lib.Math.min.code 2) (hlw : pw_lw st = true) (hd : decode (pw_cc cx) pc = .ok (.invokestatic index, 3)) (hn : pc + 3 = n) (k : pw_V l g cx Q X n L ((0, if y < x then y else x) :: st) w) : pw_V l g cx Q X pc L ((0, y) :: (0, x) :: st) w := by
  subst hn
  intro p e R s m args below meth c H locs ls ad0 w0 ad hF hP hX hL hoL hoS hS hu
  obtain ⟨h1, h2, h3, h4, h5, h6⟩ := hw
  have hk := k p e R s m args below meth c H locs ls ad0 w0 ad hF hP hX hL hoL (pw_oc trivial (pw_ot (pw_ot hoS))) hS hu
  have hcat := pw_lw_le (ad := ad) hlw
  exact va_mmin hF.1.1 hF.1.2.1 (by rw [hF.1.2.2.1]; exact hL.1.symm) hF.1.2.2.2.2 (hF.2.1 _ h1) (hF.2.1 _ h2) (hF.2.1 _ h3) (hF.2.1 _ h4) (by rw [hF.2.2.2.1.1]; exact h5) (by rw [hF.2.2.2.1.2.1]; omega) (by rw [hF.2.2.2.1.2.2.1]; omega) (by rw [hF.2.2.2.1.2.2.2]; omega) hd hk
theorem pv_mmax {index : Nat} (hw : pw_mw index cx Lib.Math.max.name Lib.Math.max.code 2) (hlw : pw_lw st = true) (hd : decode (pw_cc cx) pc = .ok (.invokestatic index, 3)) (hn : pc + 3 = n) (k : pw_V l g cx Q X n L ((0, if x < y then y else x) :: st) w) : pw_V l g cx Q X pc L ((0, y) :: (0, x) :: st) w := by
  subst hn
  intro p e R s m args below meth c H locs ls ad0 w0 ad hF hP hX hL hoL hoS hS hu
  obtain ⟨h1, h2, h3, h4, h5, h6⟩ := hw
  have hk := k p e R s m args below meth c H locs ls ad0 w0 ad hF hP hX hL hoL (pw_oc trivial (pw_ot (pw_ot hoS))) hS hu
  have hcat := pw_lw_le (ad := ad) hlw
  exact va_mmax hF.1.1 hF.1.2.1 (by rw [hF.1.2.2.1]; exact hL.1.symm) hF.1.2.2.2.2 (hF.2.1 _ h1) (hF.2.1 _ h2) (hF.2.1 _ h3) (hF.2.1 _ h4) (by rw [hF.2.2.2.1.1]; exact h5) (by rw [hF.2.2.2.1.2.1]; omega) (by rw [hF.2.2.2.1.2.2.1]; omega) (by rw [hF.2.2.2.1.2.2.2]; omega) hd hk
theorem pv_mabs {index : Nat} (hw : pw_mw index cx Lib.Math.abs.name Lib.Math.abs.code 1) (hlw : pw_lw st = true) (hd : decode (pw_cc cx) pc = .ok (.invokestatic index, 3)) (hn : pc + 3 = n) (k : pw_V l g cx Q X n L ((0, if 0 ≤ x then x else -x) :: st) w) : pw_V l g cx Q X pc L ((0, x) :: st) w := by
  subst hn
  intro p e R s m args below meth c H locs ls ad0 w0 ad hF hP hX hL hoL hoS hS hu
  obtain ⟨h1, h2, h3, h4, h5, h6⟩ := hw
  have hk := k p e R s m args below meth c H locs ls ad0 w0 ad hF hP hX hL hoL (pw_oc trivial (pw_ot hoS)) hS hu
  have hcat := pw_lw_le (ad := ad) hlw
  exact va_mabs hF.1.1 hF.1.2.1 (by rw [hF.1.2.2.1]; exact hL.1.symm) hF.1.2.2.2.2 (hF.2.1 _ h1) (hF.2.1 _ h2) (hF.2.1 _ h3) (hF.2.1 _ h4) (by rw [hF.2.2.2.1.1]; exact h5) (by rw [hF.2.2.2.1.2.1]; omega) (by rw [hF.2.2.2.1.2.2.1]; omega) (by rw [hF.2.2.2.1.2.2.2]; omega) hd hk
/-- the capacity behind a growth -/
def pw_gc (c : Nat) : Nat := if c = 0 then 10 else c + (if 1 < c / 2 then c / 2 else 1)
/-- a new list -/
def pw_nl (w : pw_W) (f : Nat) : pw_W :=
  (fun a b c => if (a = f ∨ a = f + 300) ∧ b = w.2.1 1000 f then (if a = f then pw_df f c else 0) else w.1 a b c, fun a b => if a = 1000 then (if b = f then w.2.1 1000 f + 1 else w.2.1 1000 b) else if (a = f ∨ a = f + 300) ∧ b = w.2.1 1000 f then 0 else w.2.1 a b, w.2.2.1 + 1, w.2.2.2 + 3)
/-- a list with one more at its end -/
def pw_la (w : pw_W) (f i : Nat) (y : Int32) : pw_W :=
  (fun a b c => if a = f ∧ b = i ∧ c = pw_ln w f i then y else if a = f + 300 ∧ b = i ∧ c = 0 then w.1 a b c + 1 else w.1 a b c,
    fun a b => if a = f ∧ b = i then pw_ln w f i + 1 else if a = f + 300 ∧ b = i ∧ pw_ln w f i = pw_cp w f i then pw_gc (pw_cp w f i) else w.2.1 a b,
    if pw_ln w f i = pw_cp w f i then w.2.2.1 + 1 else w.2.2.1, if pw_ln w f i = pw_cp w f i then w.2.2.2 + pw_gc (pw_cp w f i) else w.2.2.2)
/-- there is room for one more at the end of a list -/
def pw_lg (w : pw_W) (f i : Nat) : Prop := pw_ln w f i = pw_cp w f i → w.2.2.1 + 1 ≤ 601024 ∧ w.2.2.2 + pw_gc (pw_cp w f i) ≤ 7293034 ∧ pw_gc (pw_cp w f i) < 1048576
/-- a list without the one at j -/
def pw_lr (w : pw_W) (f i j : Nat) : pw_W :=
  (fun a b c => if a = f ∧ b = i ∧ j ≤ c then w.1 a b (c + 1) else if a = f + 300 ∧ b = i ∧ c = 0 then w.1 a b c + 1 else w.1 a b c,
    fun a b => if a = f ∧ b = i then pw_ln w f i - 1 else w.2.1 a b, w.2.2)
/-- a copy of an array of ints, of length n -/
def pw_cy (w : pw_W) (f i n : Nat) : pw_W :=
  (fun a b c => if a = f ∧ b = w.2.1 1000 f then (if c < n ∧ c < pw_ln w f i then w.1 f i c else 0) else w.1 a b c, (pw_nw w f n n).2)
abbrev pw_lf (f : Nat) : Prop := 20 ≤ f ∧ f < 26
theorem pv_lnew {f ik ic : Nat} (hf : pw_lf f) (hl : Cond.classLink (pw_own cx) ik "java/util/ArrayList" ∈ pw_g) (hm : Cond.methodLink (pw_own cx) ic ⟨"java/util/ArrayList", "<init>", "()V"⟩ ∈ pw_g) (hR : 4 ≤ pw_fr cx ∧ 72 ≤ pw_lo cx) (hlw : pw_lw st = true)
    (d0 : decode (pw_cc cx) pc = .ok (.new ik, 3)) (d3 : decode (pw_cc cx) (pc + 3) = .ok (.dup, 1)) (d4 : decode (pw_cc cx) (pc + 4) = .ok (.invokespecial ic, 3)) (hr : pw_rm w f 3) (hn : pc + 7 = n)
    (kk : ∀ w1, w1 = pw_nl w f → pw_V l g cx Q X n L ((f + 2, nI (pw_nv w f)) :: st) w1) : pw_V l g cx Q X pc L st w := by
  sorry
theorem pv_lsize {f index count : Nat} (hf : pw_lf f) (hm : Cond.methodLink (pw_own cx) index ⟨"java/util/List", "size", "()I"⟩ ∈ pw_g) (hR : 1 ≤ pw_fr cx ∧ 20 ≤ pw_lo cx) (hlw : pw_lw st = true) (hd : decode (pw_cc cx) pc = .ok (.invokeinterface index count, 5)) (hx : 0 ≤ x) (hn : pc + 5 = n)
    (k : pw_V l g cx Q X n L ((0, nI (pw_ln w f (pw_i x))) :: st) w) : pw_V l g cx Q X pc L ((f + 2, x) :: st) w := by
  sorry
theorem pv_lempty {f index count : Nat} (hf : pw_lf f) (hm : Cond.methodLink (pw_own cx) index ⟨"java/util/List", "isEmpty", "()Z"⟩ ∈ pw_g) (hR : 1 ≤ pw_fr cx ∧ 20 ≤ pw_lo cx) (hlw : pw_lw st = true) (hd : decode (pw_cc cx) pc = .ok (.invokeinterface index count, 5)) (hx : 0 ≤ x) (hn : pc + 5 = n)
    (k : pw_V l g cx Q X n L ((0, if pw_ln w f (pw_i x) = 0 then 1 else 0) :: st) w) : pw_V l g cx Q X pc L ((f + 2, x) :: st) w := by
  sorry
theorem pv_lget {f F index count : Nat} (hf : pw_lf f) (hF : f = F + 20) (hm : Cond.methodLink (pw_own cx) index ⟨"java/util/List", "get", "(I)Ljava/lang/Object;"⟩ ∈ pw_g) (hR : 3 ≤ pw_fr cx ∧ 64 ≤ pw_lo cx) (hlw : pw_lw st = true) (hd : decode (pw_cc cx) pc = .ok (.invokeinterface index count, 5)) (hx : 0 ≤ x) (hj : pw_jn j (pw_ln w f (pw_i x))) (hn : pc + 5 = n)
    (k : pw_ok w (F + 2, w.1 f (pw_i x) (pw_i j)) → pw_V l g cx Q X n L ((F + 2, w.1 f (pw_i x) (pw_i j)) :: st) w) : pw_V l g cx Q X pc L ((0, j) :: (f + 2, x) :: st) w := by
  sorry
theorem pv_ladd {f F index count : Nat} (hf : pw_lf f) (hF : f = F + 20) (hm : Cond.methodLink (pw_own cx) index ⟨"java/util/List", "add", "(Ljava/lang/Object;)Z"⟩ ∈ pw_g) (hR : 7 ≤ pw_fr cx ∧ 161 ≤ pw_lo cx) (hlw : pw_lw st = true) (hd : decode (pw_cc cx) pc = .ok (.invokeinterface index count, 5)) (hx : 0 ≤ x) (hg : pw_lg w f (pw_i x)) (hn : pc + 5 = n)
    (kk : ∀ w1, w1 = pw_la w f (pw_i x) y → pw_V l g cx Q X n L ((0, 1) :: st) w1) : pw_V l g cx Q X pc L ((F + 2, y) :: (f + 2, x) :: st) w := by
  sorry
theorem pv_lrem {f F index count : Nat} (hf : pw_lf f) (hF : f = F + 20) (hm : Cond.methodLink (pw_own cx) index ⟨"java/util/List", "remove", "(I)Ljava/lang/Object;"⟩ ∈ pw_g) (hR : 3 ≤ pw_fr cx ∧ 76 ≤ pw_lo cx) (hlw : pw_lw st = true) (hd : decode (pw_cc cx) pc = .ok (.invokeinterface index count, 5)) (hx : 0 ≤ x) (hj : pw_jn j (pw_ln w f (pw_i x))) (hn : pc + 5 = n)
    (kk : ∀ w1, w1 = pw_lr w f (pw_i x) (pw_i j) → pw_V l g cx Q X n L ((F + 2, w.1 f (pw_i x) (pw_i j)) :: st) w1) : pw_V l g cx Q X pc L ((0, j) :: (f + 2, x) :: st) w := by
  sorry
theorem pv_acopy {index : Nat} (hm : Cond.methodLink (pw_own cx) index ⟨"java/util/Arrays", "copyOf", "([II)[I"⟩ ∈ pw_g) (hR : 2 ≤ pw_fr cx ∧ 52 ≤ pw_lo cx) (hlw : pw_lw st = true) (hd : decode (pw_cc cx) pc = .ok (.invokestatic index, 3)) (hx : 0 ≤ x) (hj : 0 ≤ j) (hne : pw_i j ≠ pw_ln w 10 (pw_i x)) (hb : pw_i j < 100000 ∧ pw_ln w 10 (pw_i x) < 100000) (hr : pw_rm w 10 (pw_i j)) (hn : pc + 3 = n)
    (kk : ∀ w1, w1 = pw_cy w 10 (pw_i x) (pw_i j) → pw_V l g cx Q X n L ((12, nI (pw_nv w 10)) :: st) w1) : pw_V l g cx Q X pc L ((0, j) :: (12, x) :: st) w := by
  sorry
theorem pv_unset {i : Nat} {L1 : List (Nat × Int32)} (hl : L.set i (1, 0) = L1) (k : pw_V l g cx Q X pc L1 st w) : pw_V l g cx Q X pc L st w := by
  subst hl
  intro p e R s m args below meth c H locs ls ad0 w0 ad hF hP hX hL hoL hoS hS hu
  refine k p e R s m args below meth c H locs ls ad0 w0 ad hF hP hX ⟨hL.1, hL.2.1, by rw [List.length_set]; exact hL.2.2.1, fun r q hq h1 => ?_⟩ (pw_oL trivial hoL) hoS hS hu
  by_cases hk : r = i
  · subst hk
    by_cases hlt : r < L.length
    · rw [List.getElem?_set_self hlt] at hq
      cases hq
      exact absurd rfl h1
    · rw [List.getElem?_eq_none (by rw [List.length_set]; omega)] at hq
      cases hq
  · rw [List.getElem?_set_ne (Ne.symm hk)] at hq
    exact hL.2.2.2 r q hq h1
theorem pv_nm (k : ∀ v, v = x → pw_V l g cx Q X pc L ((t, v) :: st) w) : pw_V l g cx Q X pc L ((t, x) :: st) w := k x rfl
/-- a switch's value, in range -/
theorem pw_sw {N : Nat} {x : Int32} (h : ¬ (x.toInt < 0 ∨ (N : Int) - 1 < x.toInt)) : ∃ c : Nat, c < N ∧ x = nI c := by
  have h1 : 0 ≤ x.toInt := by omega
  refine ⟨x.toInt.toNat, by omega, ?_⟩
  apply Int32.toInt_inj.mp
  have h2 : x.toInt < 2147483648 := by have := x.toInt_lt; omega
  rw [nI_toInt (by omega)]
  omega
end PVS
