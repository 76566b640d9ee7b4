section PV2
variable {l : Launch} {g : pw_G} {cx : pw_C} {Q : pw_W → Int32 → Prop} {X : pw_W → Nat → Prop} {pc n : Nat} {L st : List (Nat × Int32)} {w : pw_W} {x y : Int32} {t : Nat}
theorem pv_iadd (hd : decode (pw_cc cx) pc = .ok (.iadd, 1)) (hn : pc + 1 = n) (k : pw_V l g cx Q X n L ((0, x + y) :: st) w) : pw_V l g cx Q X pc L ((0, y) :: (0, x) :: st) w := by
  subst hn
  intro p e R s m args below meth c H locs ls ad0 w0 ad hF hP hX hL hoL hoS hS hu
  exact lv_iadd hF.1.1 hF.1.2.1 hd (k p e R s m args below meth c H locs ls ad0 w0 ad hF hP hX hL hoL (pw_oc trivial (pw_ot (pw_ot hoS))) hS hu)
theorem pv_isub (hd : decode (pw_cc cx) pc = .ok (.isub, 1)) (hn : pc + 1 = n) (k : pw_V l g cx Q X n L ((0, x - y) :: st) w) : pw_V l g cx Q X pc L ((0, y) :: (0, x) :: st) w := by
  subst hn
  intro p e R s m args below meth c H locs ls ad0 w0 ad hF hP hX hL hoL hoS hS hu
  exact lv_isub hF.1.1 hF.1.2.1 hd (k p e R s m args below meth c H locs ls ad0 w0 ad hF hP hX hL hoL (pw_oc trivial (pw_ot (pw_ot hoS))) hS hu)
theorem pv_imul (hd : decode (pw_cc cx) pc = .ok (.imul, 1)) (hn : pc + 1 = n) (k : pw_V l g cx Q X n L ((0, x * y) :: st) w) : pw_V l g cx Q X pc L ((0, y) :: (0, x) :: st) w := by
  subst hn
  intro p e R s m args below meth c H locs ls ad0 w0 ad hF hP hX hL hoL hoS hS hu
  exact lv_imul hF.1.1 hF.1.2.1 hd (k p e R s m args below meth c H locs ls ad0 w0 ad hF hP hX hL hoL (pw_oc trivial (pw_ot (pw_ot hoS))) hS hu)
theorem pv_iand (hd : decode (pw_cc cx) pc = .ok (.iand, 1)) (hn : pc + 1 = n) (k : pw_V l g cx Q X n L ((0, x &&& y) :: st) w) : pw_V l g cx Q X pc L ((0, y) :: (0, x) :: st) w := by
  subst hn
  intro p e R s m args below meth c H locs ls ad0 w0 ad hF hP hX hL hoL hoS hS hu
  exact lv_iand hF.1.1 hF.1.2.1 hd (k p e R s m args below meth c H locs ls ad0 w0 ad hF hP hX hL hoL (pw_oc trivial (pw_ot (pw_ot hoS))) hS hu)
theorem pv_ishr (hd : decode (pw_cc cx) pc = .ok (.ishr, 1)) (hn : pc + 1 = n) (k : pw_V l g cx Q X n L ((0, x >>> (y &&& 31)) :: st) w) : pw_V l g cx Q X pc L ((0, y) :: (0, x) :: st) w := by
  subst hn
  intro p e R s m args below meth c H locs ls ad0 w0 ad hF hP hX hL hoL hoS hS hu
  exact lv_ishr hF.1.1 hF.1.2.1 hd (k p e R s m args below meth c H locs ls ad0 w0 ad hF hP hX hL hoL (pw_oc trivial (pw_ot (pw_ot hoS))) hS hu)
theorem pv_idiv (hd : decode (pw_cc cx) pc = .ok (.idiv, 1)) (h0 : ¬ y = 0) (hn : pc + 1 = n) (k : pw_V l g cx Q X n L ((0, x / y) :: st) w) : pw_V l g cx Q X pc L ((0, y) :: (0, x) :: st) w := by
  subst hn
  intro p e R s m args below meth c H locs ls ad0 w0 ad hF hP hX hL hoL hoS hS hu
  exact lv_idiv hF.1.1 hF.1.2.1 hd h0 (k p e R s m args below meth c H locs ls ad0 w0 ad hF hP hX hL hoL (pw_oc trivial (pw_ot (pw_ot hoS))) hS hu)
theorem pv_irem (hd : decode (pw_cc cx) pc = .ok (.irem, 1)) (h0 : ¬ y = 0) (hn : pc + 1 = n) (k : pw_V l g cx Q X n L ((0, x - x / y * y) :: st) w) : pw_V l g cx Q X pc L ((0, y) :: (0, x) :: st) w := by
  subst hn
  intro p e R s m args below meth c H locs ls ad0 w0 ad hF hP hX hL hoL hoS hS hu
  exact lv_irem hF.1.1 hF.1.2.1 hd h0 (k p e R s m args below meth c H locs ls ad0 w0 ad hF hP hX hL hoL (pw_oc trivial (pw_ot (pw_ot hoS))) hS hu)
theorem pv_i2l (hd : decode (pw_cc cx) pc = .ok (.i2l, 1)) (hn : pc + 1 = n) (k : pw_V l g cx Q X n L ((1, x) :: st) w) : pw_V l g cx Q X pc L ((0, x) :: st) w := by
  subst hn
  intro p e R s m args below meth c H locs ls ad0 w0 ad hF hP hX hL hoL hoS hS hu
  exact lv_i2l hF.1.1 hF.1.2.1 hd rfl (k p e R s m args below meth c H locs ls ad0 w0 ad hF hP hX hL hoL (pw_oc trivial (pw_ot hoS)) hS hu)
theorem pv_lconst {i : Fin 2} (hd : decode (pw_cc cx) pc = .ok (.lconst i, 1)) (hv : Int64.ofNat (i : Nat) = x.toInt64) (hn : pc + 1 = n) (k : pw_V l g cx Q X n L ((1, x) :: st) w) : pw_V l g cx Q X pc L st w := by
  subst hn
  intro p e R s m args below meth c H locs ls ad0 w0 ad hF hP hX hL hoL hoS hS hu
  exact lv_lconst hF.1.1 hF.1.2.1 hd hv (k p e R s m args below meth c H locs ls ad0 w0 ad hF hP hX hL hoL (pw_oc trivial hoS) hS hu)
theorem pw_l64 {x y : Int32} (h : x.toInt64 = y.toInt64) : x = y := by
  have h1 : x.toInt64.toInt = y.toInt64.toInt := by rw [h]
  rw [Int32.toInt_toInt64, Int32.toInt_toInt64] at h1
  exact Int32.toInt_inj.mp h1
theorem pw_cmp0 {x y : Int32} : lg_cmp x.toInt64 y.toInt64 = 0 ↔ x = y := by
  constructor
  · intro h
    unfold lg_cmp at h
    by_cases h1 : x.toInt64 > y.toInt64
    · rw [if_pos h1] at h; exact absurd h (by decide)
    · rw [if_neg h1] at h
      by_cases h2 : x.toInt64 = y.toInt64
      · exact pw_l64 h2
      · rw [if_neg h2] at h; exact absurd h (by decide)
  · intro h
    subst h
    unfold lg_cmp
    rw [if_neg (by rw [gt_iff_lt, Int64.lt_iff_toInt_lt]; omega), if_pos rfl]
theorem pv_lcmp (hd : decode (pw_cc cx) pc = .ok (.lcmp, 1)) (hn : pc + 1 = n) (k : ∀ r : Int32, (r = 0 ↔ x = y) → pw_V l g cx Q X n L ((0, r) :: st) w) : pw_V l g cx Q X pc L ((1, y) :: (1, x) :: st) w := by
  subst hn
  intro p e R s m args below meth c H locs ls ad0 w0 ad hF hP hX hL hoL hoS hS hu
  exact W.lcmp hF.1.1 hF.1.2.1 hd (k _ pw_cmp0 p e R s m args below meth c H locs ls ad0 w0 ad hF hP hX hL hoL (pw_oc trivial (pw_ot (pw_ot hoS))) hS hu)
theorem pv_dup {t : Nat} {x : Int32} (hd : decode (pw_cc cx) pc = .ok (.dup, 1)) (h1 : t ≠ 1) (hn : pc + 1 = n) (k : pw_V l g cx Q X n L ((t, x) :: (t, x) :: st) w) : pw_V l g cx Q X pc L ((t, x) :: st) w := by
  subst hn
  intro p e R s m args below meth c H locs ls ad0 w0 ad hF hP hX hL hoL hoS hS hu
  exact lv_dup hF.1.1 hF.1.2.1 hd (pw_cat1 h1) (k p e R s m args below meth c H locs ls ad0 w0 ad hF hP hX hL hoL (pw_oc (hoS _ List.mem_cons_self) hoS) hS hu)
theorem pv_pop {t : Nat} {x : Int32} (hd : decode (pw_cc cx) pc = .ok (.pop, 1)) (h1 : t ≠ 1) (hn : pc + 1 = n) (k : pw_V l g cx Q X n L st w) : pw_V l g cx Q X pc L ((t, x) :: st) w := by
  subst hn
  intro p e R s m args below meth c H locs ls ad0 w0 ad hF hP hX hL hoL hoS hS hu
  exact lv_pop hF.1.1 hF.1.2.1 hd (pw_cat1 h1) (k p e R s m args below meth c H locs ls ad0 w0 ad hF hP hX hL hoL (pw_ot hoS) hS hu)
theorem pv_dup2 {t u : Nat} {x y : Int32} (hd : decode (pw_cc cx) pc = .ok (.dup2, 1)) (h1 : t ≠ 1) (h2 : u ≠ 1) (hn : pc + 1 = n) (k : pw_V l g cx Q X n L ((t, x) :: (u, y) :: (t, x) :: (u, y) :: st) w) : pw_V l g cx Q X pc L ((t, x) :: (u, y) :: st) w := by
  subst hn
  intro p e R s m args below meth c H locs ls ad0 w0 ad hF hP hX hL hoL hoS hS hu
  exact lv_dup2_11 hF.1.1 hF.1.2.1 hd (pw_cat1 h1) (pw_cat1 h2) (k p e R s m args below meth c H locs ls ad0 w0 ad hF hP hX hL hoL (pw_oc (hoS _ List.mem_cons_self) (pw_oc (hoS _ (List.mem_cons_of_mem _ List.mem_cons_self)) hoS)) hS hu)
theorem pv_dup_x1 {t u : Nat} {x y : Int32} (hd : decode (pw_cc cx) pc = .ok (.dup_x1, 1)) (h1 : t ≠ 1) (h2 : u ≠ 1) (hn : pc + 1 = n) (k : pw_V l g cx Q X n L ((t, x) :: (u, y) :: (t, x) :: st) w) : pw_V l g cx Q X pc L ((t, x) :: (u, y) :: st) w := by
  subst hn
  intro p e R s m args below meth c H locs ls ad0 w0 ad hF hP hX hL hoL hoS hS hu
  exact lv_dup_x1 hF.1.1 hF.1.2.1 hd (pw_cat1 h1) (pw_cat1 h2) (k p e R s m args below meth c H locs ls ad0 w0 ad hF hP hX hL hoL (pw_oc (hoS _ List.mem_cons_self) (pw_oc (hoS _ (List.mem_cons_of_mem _ List.mem_cons_self)) (pw_oc (hoS _ List.mem_cons_self) (pw_ot (pw_ot hoS))))) hS hu)
theorem pv_if_eq {off : Int} {tgt : Nat} (hd : decode (pw_cc cx) pc = .ok (.ifCond .eq off, 3)) (ht : (pc : Int) + off = (tgt : Int)) (hn : pc + 3 = n) (kt : x = 0 → pw_V l g cx Q X tgt L st w) (kf : ¬ x = 0 → pw_V l g cx Q X n L st w) : pw_V l g cx Q X pc L ((0, x) :: st) w := by
  subst hn
  intro p e R s m args below meth c H locs ls ad0 w0 ad hF hP hX hL hoL hoS hS hu
  exact lv_if_eq hF.1.1 hF.1.2.1 hd ht (fun h => (kt h p e R s m args below meth c H locs ls ad0 w0 ad hF hP hX hL hoL (pw_ot hoS) hS hu)) (fun h => (kf h p e R s m args below meth c H locs ls ad0 w0 ad hF hP hX hL hoL (pw_ot hoS) hS hu))
theorem pv_if_ne {off : Int} {tgt : Nat} (hd : decode (pw_cc cx) pc = .ok (.ifCond .ne off, 3)) (ht : (pc : Int) + off = (tgt : Int)) (hn : pc + 3 = n) (kt : ¬ x = 0 → pw_V l g cx Q X tgt L st w) (kf : x = 0 → pw_V l g cx Q X n L st w) : pw_V l g cx Q X pc L ((0, x) :: st) w := by
  subst hn
  intro p e R s m args below meth c H locs ls ad0 w0 ad hF hP hX hL hoL hoS hS hu
  exact lv_if_ne hF.1.1 hF.1.2.1 hd ht (fun h => (kt h p e R s m args below meth c H locs ls ad0 w0 ad hF hP hX hL hoL (pw_ot hoS) hS hu)) (fun h => (kf h p e R s m args below meth c H locs ls ad0 w0 ad hF hP hX hL hoL (pw_ot hoS) hS hu))
theorem pv_if_lt {off : Int} {tgt : Nat} (hd : decode (pw_cc cx) pc = .ok (.ifCond .lt off, 3)) (ht : (pc : Int) + off = (tgt : Int)) (hn : pc + 3 = n) (kt : x < 0 → pw_V l g cx Q X tgt L st w) (kf : ¬ x < 0 → pw_V l g cx Q X n L st w) : pw_V l g cx Q X pc L ((0, x) :: st) w := by
  subst hn
  intro p e R s m args below meth c H locs ls ad0 w0 ad hF hP hX hL hoL hoS hS hu
  exact lv_if_lt hF.1.1 hF.1.2.1 hd ht (fun h => (kt h p e R s m args below meth c H locs ls ad0 w0 ad hF hP hX hL hoL (pw_ot hoS) hS hu)) (fun h => (kf h p e R s m args below meth c H locs ls ad0 w0 ad hF hP hX hL hoL (pw_ot hoS) hS hu))
theorem pv_if_ge {off : Int} {tgt : Nat} (hd : decode (pw_cc cx) pc = .ok (.ifCond .ge off, 3)) (ht : (pc : Int) + off = (tgt : Int)) (hn : pc + 3 = n) (kt : 0 ≤ x → pw_V l g cx Q X tgt L st w) (kf : ¬ 0 ≤ x → pw_V l g cx Q X n L st w) : pw_V l g cx Q X pc L ((0, x) :: st) w := by
  subst hn
  intro p e R s m args below meth c H locs ls ad0 w0 ad hF hP hX hL hoL hoS hS hu
  exact lv_if_ge hF.1.1 hF.1.2.1 hd ht (fun h => (kt h p e R s m args below meth c H locs ls ad0 w0 ad hF hP hX hL hoL (pw_ot hoS) hS hu)) (fun h => (kf h p e R s m args below meth c H locs ls ad0 w0 ad hF hP hX hL hoL (pw_ot hoS) hS hu))
theorem pv_if_gt {off : Int} {tgt : Nat} (hd : decode (pw_cc cx) pc = .ok (.ifCond .gt off, 3)) (ht : (pc : Int) + off = (tgt : Int)) (hn : pc + 3 = n) (kt : 0 < x → pw_V l g cx Q X tgt L st w) (kf : ¬ 0 < x → pw_V l g cx Q X n L st w) : pw_V l g cx Q X pc L ((0, x) :: st) w := by
  subst hn
  intro p e R s m args below meth c H locs ls ad0 w0 ad hF hP hX hL hoL hoS hS hu
  exact lv_if_gt hF.1.1 hF.1.2.1 hd ht (fun h => (kt h p e R s m args below meth c H locs ls ad0 w0 ad hF hP hX hL hoL (pw_ot hoS) hS hu)) (fun h => (kf h p e R s m args below meth c H locs ls ad0 w0 ad hF hP hX hL hoL (pw_ot hoS) hS hu))
theorem pv_if_le {off : Int} {tgt : Nat} (hd : decode (pw_cc cx) pc = .ok (.ifCond .le off, 3)) (ht : (pc : Int) + off = (tgt : Int)) (hn : pc + 3 = n) (kt : x ≤ 0 → pw_V l g cx Q X tgt L st w) (kf : ¬ x ≤ 0 → pw_V l g cx Q X n L st w) : pw_V l g cx Q X pc L ((0, x) :: st) w := by
  subst hn
  intro p e R s m args below meth c H locs ls ad0 w0 ad hF hP hX hL hoL hoS hS hu
  exact lv_if_le hF.1.1 hF.1.2.1 hd ht (fun h => (kt h p e R s m args below meth c H locs ls ad0 w0 ad hF hP hX hL hoL (pw_ot hoS) hS hu)) (fun h => (kf h p e R s m args below meth c H locs ls ad0 w0 ad hF hP hX hL hoL (pw_ot hoS) hS hu))
theorem pv_icmp_eq {off : Int} {tgt : Nat} (hd : decode (pw_cc cx) pc = .ok (.if_icmp .eq off, 3)) (ht : (pc : Int) + off = (tgt : Int)) (hn : pc + 3 = n) (kt : x = y → pw_V l g cx Q X tgt L st w) (kf : ¬ x = y → pw_V l g cx Q X n L st w) : pw_V l g cx Q X pc L ((0, y) :: (0, x) :: st) w := by
  subst hn
  intro p e R s m args below meth c H locs ls ad0 w0 ad hF hP hX hL hoL hoS hS hu
  exact lv_icmp_eq hF.1.1 hF.1.2.1 hd ht (fun h => (kt h p e R s m args below meth c H locs ls ad0 w0 ad hF hP hX hL hoL (pw_ot (pw_ot hoS)) hS hu)) (fun h => (kf h p e R s m args below meth c H locs ls ad0 w0 ad hF hP hX hL hoL (pw_ot (pw_ot hoS)) hS hu))
theorem pv_icmp_ne {off : Int} {tgt : Nat} (hd : decode (pw_cc cx) pc = .ok (.if_icmp .ne off, 3)) (ht : (pc : Int) + off = (tgt : Int)) (hn : pc + 3 = n) (kt : ¬ x = y → pw_V l g cx Q X tgt L st w) (kf : x = y → pw_V l g cx Q X n L st w) : pw_V l g cx Q X pc L ((0, y) :: (0, x) :: st) w := by
  subst hn
  intro p e R s m args below meth c H locs ls ad0 w0 ad hF hP hX hL hoL hoS hS hu
  exact lv_icmp_ne hF.1.1 hF.1.2.1 hd ht (fun h => (kt h p e R s m args below meth c H locs ls ad0 w0 ad hF hP hX hL hoL (pw_ot (pw_ot hoS)) hS hu)) (fun h => (kf h p e R s m args below meth c H locs ls ad0 w0 ad hF hP hX hL hoL (pw_ot (pw_ot hoS)) hS hu))
theorem pv_icmp_lt {off : Int} {tgt : Nat} (hd : decode (pw_cc cx) pc = .ok (.if_icmp .lt off, 3)) (ht : (pc : Int) + off = (tgt : Int)) (hn : pc + 3 = n) (kt : x < y → pw_V l g cx Q X tgt L st w) (kf : ¬ x < y → pw_V l g cx Q X n L st w) : pw_V l g cx Q X pc L ((0, y) :: (0, x) :: st) w := by
  subst hn
  intro p e R s m args below meth c H locs ls ad0 w0 ad hF hP hX hL hoL hoS hS hu
  exact lv_icmp_lt hF.1.1 hF.1.2.1 hd ht (fun h => (kt h p e R s m args below meth c H locs ls ad0 w0 ad hF hP hX hL hoL (pw_ot (pw_ot hoS)) hS hu)) (fun h => (kf h p e R s m args below meth c H locs ls ad0 w0 ad hF hP hX hL hoL (pw_ot (pw_ot hoS)) hS hu))
theorem pv_icmp_ge {off : Int} {tgt : Nat} (hd : decode (pw_cc cx) pc = .ok (.if_icmp .ge off, 3)) (ht : (pc : Int) + off = (tgt : Int)) (hn : pc + 3 = n) (kt : y ≤ x → pw_V l g cx Q X tgt L st w) (kf : ¬ y ≤ x → pw_V l g cx Q X n L st w) : pw_V l g cx Q X pc L ((0, y) :: (0, x) :: st) w := by
  subst hn
  intro p e R s m args below meth c H locs ls ad0 w0 ad hF hP hX hL hoL hoS hS hu
  exact lv_icmp_ge hF.1.1 hF.1.2.1 hd ht (fun h => (kt h p e R s m args below meth c H locs ls ad0 w0 ad hF hP hX hL hoL (pw_ot (pw_ot hoS)) hS hu)) (fun h => (kf h p e R s m args below meth c H locs ls ad0 w0 ad hF hP hX hL hoL (pw_ot (pw_ot hoS)) hS hu))
theorem pv_icmp_gt {off : Int} {tgt : Nat} (hd : decode (pw_cc cx) pc = .ok (.if_icmp .gt off, 3)) (ht : (pc : Int) + off = (tgt : Int)) (hn : pc + 3 = n) (kt : y < x → pw_V l g cx Q X tgt L st w) (kf : ¬ y < x → pw_V l g cx Q X n L st w) : pw_V l g cx Q X pc L ((0, y) :: (0, x) :: st) w := by
  subst hn
  intro p e R s m args below meth c H locs ls ad0 w0 ad hF hP hX hL hoL hoS hS hu
  exact lv_icmp_gt hF.1.1 hF.1.2.1 hd ht (fun h => (kt h p e R s m args below meth c H locs ls ad0 w0 ad hF hP hX hL hoL (pw_ot (pw_ot hoS)) hS hu)) (fun h => (kf h p e R s m args below meth c H locs ls ad0 w0 ad hF hP hX hL hoL (pw_ot (pw_ot hoS)) hS hu))
theorem pv_icmp_le {off : Int} {tgt : Nat} (hd : decode (pw_cc cx) pc = .ok (.if_icmp .le off, 3)) (ht : (pc : Int) + off = (tgt : Int)) (hn : pc + 3 = n) (kt : x ≤ y → pw_V l g cx Q X tgt L st w) (kf : ¬ x ≤ y → pw_V l g cx Q X n L st w) : pw_V l g cx Q X pc L ((0, y) :: (0, x) :: st) w := by
  subst hn
  intro p e R s m args below meth c H locs ls ad0 w0 ad hF hP hX hL hoL hoS hS hu
  exact lv_icmp_le hF.1.1 hF.1.2.1 hd ht (fun h => (kt h p e R s m args below meth c H locs ls ad0 w0 ad hF hP hX hL hoL (pw_ot (pw_ot hoS)) hS hu)) (fun h => (kf h p e R s m args below meth c H locs ls ad0 w0 ad hF hP hX hL hoL (pw_ot (pw_ot hoS)) hS hu))
theorem pv_goto {off : Int} {tgt : Nat} (hd : decode (pw_cc cx) pc = .ok (.goto off, 3)) (ht : (pc : Int) + off = (tgt : Int)) (k : pw_V l g cx Q X tgt L st w) : pw_V l g cx Q X pc L st w := by
  intro p e R s m args below meth c H locs ls ad0 w0 ad hF hP hX hL hoL hoS hS hu
  exact lv_goto hF.1.1 hF.1.2.1 hd ht (k p e R s m args below meth c H locs ls ad0 w0 ad hF hP hX hL hoL hoS hS hu)
theorem pv_iinc {i : Nat} {j : Int} {v : Int32} {L1 : List (Nat × Int32)} (hd : decode (pw_cc cx) pc = .ok (.iinc i j, 3)) (hl : L[i]? = some (0, x)) (hv : x + Int32.ofInt j = v) (hl1 : L.set i (0, v) = L1) (hlt : i < pw_nL cx) (hn : pc + 3 = n) (k : pw_V l g cx Q X n L1 st w) : pw_V l g cx Q X pc L st w := by
  subst hn; subst hl1
  intro p e R s m args below meth c H locs ls ad0 w0 ad hF hP hX hL hoL hoS hS hu
  have hm := pw_as_of L 0 ad i _ hl (by show ¬ (0 = 1); decide)
  rw [Nat.zero_add] at hm
  obtain ⟨kk, hk⟩ := List.getElem?_of_mem hm
  exact lv_iinc hF.1.1 hF.1.2.1 hd hL.has hk hv hlt rfl (fun ls1 hls => k p e R s m args below meth c H locs ls1 ad0 w0 ad hF hP hX (hL.set hlt (fun _ => rfl) hls) (pw_oL trivial hoL) hoS hS hu)
theorem pw_rf_eq {ad : Nat → Nat → Nat} {w : pw_W} {g : pw_G} {H : Heap} {F : Nat} {x y : Int32} (hP : pw_P g ad w H) (hF : pw_fo F) (hx : pw_ok w (F + 2, x)) (hy : pw_ok w (F + 2, y)) : pw_rf ad F x = pw_rf ad F y ↔ x = y := by
  constructor
  · intro h
    have neg : ∀ z : Int32, z = -1 → z < 0 := fun z h => by rw [h]; decide
    have aux : ∀ z : Int32, pw_ok w (F + 2, z) → (z = -1 ∧ z < 0) ∨ (F = 2998 ∧ z = 0) ∨ (¬ z < 0 ∧ 0 ≤ z ∧ pw_v w F (pw_i z)) := fun z hz => by
      rcases hz with h1 | h1 | h1
      · exact Or.inr (Or.inl h1)
      · exact Or.inl ⟨h1, neg z h1⟩
      · refine Or.inr (Or.inr ⟨?_, h1.1, ?_⟩)
        · have := h1.1
          exact Int32.not_lt.mpr this
        · unfold pw_v
          rw [if_neg (by rcases hF with h | h <;> omega)]
          exact h1.2.1
    unfold pw_rf at h
    rcases aux x hx with ⟨a, b⟩ | ⟨a, b⟩ | ⟨a, a2, b⟩ <;> rcases aux y hy with ⟨c, d⟩ | ⟨c, d⟩ | ⟨c, c2, d⟩
    · rw [a, c]
    · rw [if_pos b, if_neg (by rw [d]; decide)] at h; cases h
    · rw [if_pos b, if_neg c] at h; cases h
    · rw [if_pos d, if_neg (by rw [b]; decide)] at h; cases h
    · rw [b, d]
    · rw [if_neg c, if_neg (by rw [b]; decide)] at h
      have h2 := Option.some.inj h
      rw [b, a, show pw_i 0 = 0 from rfl] at h2
      rw [a] at d
      have e := (hP.1 _ _ d).2
      rw [← h2, hP.2.2.2.2.1.1] at e
      exact absurd hP.2.2.2.2.1.2.2 (by omega)
    · rw [if_pos d, if_neg a] at h; cases h
    · rw [if_neg a, if_neg (by rw [d]; decide)] at h
      have h2 := Option.some.inj h
      rw [d, c, show pw_i 0 = 0 from rfl] at h2
      rw [c] at b
      have e := (hP.1 _ _ b).2
      rw [h2, hP.2.2.2.2.1.1] at e
      exact absurd hP.2.2.2.2.1.2.2 (by omega)
    · rw [if_neg a, if_neg c] at h
      have h2 := hP.2.1 _ _ _ _ b d (Option.some.inj h)
      have hx0 : 0 ≤ x.toInt := Int32.le_iff_toInt_le.mp a2
      have hy0 : 0 ≤ y.toInt := Int32.le_iff_toInt_le.mp c2
      have h3 : x.toInt.toNat = y.toInt.toNat := h2.2
      exact Int32.toInt_inj.mp (by omega)
  · intro h; rw [h]
theorem pv_acmp_eq {F : Nat} {off : Int} {tgt : Nat} (hd : decode (pw_cc cx) pc = .ok (.if_acmp .eq off, 3)) (ht : (pc : Int) + off = (tgt : Int)) (hf : pw_fo F) (hn : pc + 3 = n) (kt : x = y → pw_V l g cx Q X tgt L st w) (kf : ¬ x = y → pw_V l g cx Q X n L st w) : pw_V l g cx Q X pc L ((F + 2, y) :: (F + 2, x) :: st) w := by
  subst hn
  intro p e R s m args below meth c H locs ls ad0 w0 ad hF hP hX hL hoL hoS hS hu
  have he := pw_rf_eq hP hf (hoS _ (List.mem_cons_of_mem _ List.mem_cons_self)) (hoS _ List.mem_cons_self)
  exact lv_acmp_eq hF.1.1 hF.1.2.1 hd ht (fun h => (kt (by first | exact he.mp h | exact fun z => h (he.mpr z)) p e R s m args below meth c H locs ls ad0 w0 ad hF hP hX hL hoL (pw_ot (pw_ot hoS)) hS hu)) (fun h => (kf (by first | exact he.mp h | exact fun z => h (he.mpr z)) p e R s m args below meth c H locs ls ad0 w0 ad hF hP hX hL hoL (pw_ot (pw_ot hoS)) hS hu))
theorem pv_acmp_ne {F : Nat} {off : Int} {tgt : Nat} (hd : decode (pw_cc cx) pc = .ok (.if_acmp .ne off, 3)) (ht : (pc : Int) + off = (tgt : Int)) (hf : pw_fo F) (hn : pc + 3 = n) (kt : ¬ x = y → pw_V l g cx Q X tgt L st w) (kf : x = y → pw_V l g cx Q X n L st w) : pw_V l g cx Q X pc L ((F + 2, y) :: (F + 2, x) :: st) w := by
  subst hn
  intro p e R s m args below meth c H locs ls ad0 w0 ad hF hP hX hL hoL hoS hS hu
  have he := pw_rf_eq hP hf (hoS _ (List.mem_cons_of_mem _ List.mem_cons_self)) (hoS _ List.mem_cons_self)
  exact lv_acmp_ne hF.1.1 hF.1.2.1 hd ht (fun h => (kt (by first | exact he.mp h | exact fun z => h (he.mpr z)) p e R s m args below meth c H locs ls ad0 w0 ad hF hP hX hL hoL (pw_ot (pw_ot hoS)) hS hu)) (fun h => (kf (by first | exact he.mp h | exact fun z => h (he.mpr z)) p e R s m args below meth c H locs ls ad0 w0 ad hF hP hX hL hoL (pw_ot (pw_ot hoS)) hS hu))
theorem pw_nul {w : pw_W} {F : Nat} {x : Int32} (h : pw_ok w (F + 2, x)) : (x < 0 ↔ x = -1) := by
  constructor
  · intro h1
    rcases h with h2 | h2 | h2
    · have h3 : x = 0 := h2.2
      rw [h3] at h1; exact absurd h1 (by decide)
    · exact h2
    · exact absurd h1 (Int32.not_lt.mpr h2.1)
  · intro h1; rw [h1]; decide
theorem pv_ifnull {F : Nat} {off : Int} {tgt : Nat} (hd : decode (pw_cc cx) pc = .ok (.ifnull off, 3)) (ht : (pc : Int) + off = (tgt : Int)) (hn : pc + 3 = n) (kt : x = -1 → pw_V l g cx Q X tgt L st w) (kf : ¬ x = -1 → pw_V l g cx Q X n L st w) : pw_V l g cx Q X pc L ((F + 2, x) :: st) w := by
  subst hn
  intro p e R s m args below meth c H locs ls ad0 w0 ad hF hP hX hL hoL hoS hS hu
  have he := pw_nul (hoS _ List.mem_cons_self)
  by_cases hx : x < 0
  · have h1 : pw_ph ad (F + 2, x) = .null := by show va_rf (pw_rf ad F x) = _; unfold pw_rf; rw [if_pos hx]; rfl
    rw [List.map_cons, h1]
    exact lv_ifnullN hF.1.1 hF.1.2.1 hd ht (kt (he.mp hx) p e R s m args below meth c H locs ls ad0 w0 ad hF hP hX hL hoL (pw_ot hoS) hS hu)
  · have h1 : pw_ph ad (F + 2, x) = .ref (ad F (pw_i x)) := by show va_rf (pw_rf ad F x) = _; unfold pw_rf; rw [if_neg hx]; rfl
    rw [List.map_cons, h1]
    exact lv_ifnull hF.1.1 hF.1.2.1 hd (kf (fun z => hx (he.mpr z)) p e R s m args below meth c H locs ls ad0 w0 ad hF hP hX hL hoL (pw_ot hoS) hS hu)
theorem pv_ifnonnull {F : Nat} {off : Int} {tgt : Nat} (hd : decode (pw_cc cx) pc = .ok (.ifnonnull off, 3)) (ht : (pc : Int) + off = (tgt : Int)) (hn : pc + 3 = n) (kt : ¬ x = -1 → pw_V l g cx Q X tgt L st w) (kf : x = -1 → pw_V l g cx Q X n L st w) : pw_V l g cx Q X pc L ((F + 2, x) :: st) w := by
  subst hn
  intro p e R s m args below meth c H locs ls ad0 w0 ad hF hP hX hL hoL hoS hS hu
  have he := pw_nul (hoS _ List.mem_cons_self)
  by_cases hx : x < 0
  · have h1 : pw_ph ad (F + 2, x) = .null := by show va_rf (pw_rf ad F x) = _; unfold pw_rf; rw [if_pos hx]; rfl
    rw [List.map_cons, h1]
    exact lv_ifnonnullN hF.1.1 hF.1.2.1 hd (kf (he.mp hx) p e R s m args below meth c H locs ls ad0 w0 ad hF hP hX hL hoL (pw_ot hoS) hS hu)
  · have h1 : pw_ph ad (F + 2, x) = .ref (ad F (pw_i x)) := by show va_rf (pw_rf ad F x) = _; unfold pw_rf; rw [if_neg hx]; rfl
    rw [List.map_cons, h1]
    exact lv_ifnonnull hF.1.1 hF.1.2.1 hd ht (kt (fun z => hx (he.mpr z)) p e R s m args below meth c H locs ls ad0 w0 ad hF hP hX hL hoL (pw_ot hoS) hS hu)
theorem pv_null (F : Nat) (hd : decode (pw_cc cx) pc = .ok (.aconst_null, 1)) (hn : pc + 1 = n) (k : pw_V l g cx Q X n L ((F + 2, -1) :: st) w) : pw_V l g cx Q X pc L st w := by
  subst hn
  intro p e R s m args below meth c H locs ls ad0 w0 ad hF hP hX hL hoL hoS hS hu
  exact lv_null hF.1.1 hF.1.2.1 hd (k p e R s m args below meth c H locs ls ad0 w0 ad hF hP hX hL hoL (pw_oc (Or.inr (Or.inl rfl)) hoS) hS hu)
theorem pv_tableOut {dflt lo hi : Int} {offs : Array Int} {len tgt : Nat} (hd : decode (pw_cc cx) pc = .ok (.tableswitch dflt lo hi offs, len)) (h : x.toInt < lo ∨ hi < x.toInt) (ht : (pc : Int) + dflt = (tgt : Int)) (k : pw_V l g cx Q X tgt L st w) : pw_V l g cx Q X pc L ((0, x) :: st) w := by
  intro p e R s m args below meth c H locs ls ad0 w0 ad hF hP hX hL hoL hoS hS hu
  exact lv_tableOut hF.1.1 hF.1.2.1 hd h ht (k p e R s m args below meth c H locs ls ad0 w0 ad hF hP hX hL hoL (pw_ot hoS) hS hu)
theorem pv_tableIn {dflt lo hi off : Int} {offs : Array Int} {len tgt : Nat} (hd : decode (pw_cc cx) pc = .ok (.tableswitch dflt lo hi offs, len)) (h1 : ¬ x.toInt < lo) (h2 : ¬ hi < x.toInt) (ho : offs[(x.toInt - lo).toNat]? = some off) (ht : (pc : Int) + off = (tgt : Int)) (k : pw_V l g cx Q X tgt L st w) : pw_V l g cx Q X pc L ((0, x) :: st) w := by
  intro p e R s m args below meth c H locs ls ad0 w0 ad hF hP hX hL hoL hoS hS hu
  exact lv_tableIn hF.1.1 hF.1.2.1 hd h1 h2 ho ht (k p e R s m args below meth c H locs ls ad0 w0 ad hF hP hX hL hoL (pw_ot hoS) hS hu)
/-- another name for a value -/
theorem pv_is {L1 st1 : List (Nat × Int32)} {w1 : pw_W} (hl : L = L1) (hs : st = st1) (hw : w = w1) (k : pw_V l g cx Q X pc L1 st1 w1) : pw_V l g cx Q X pc L st w := by
  subst hl; subst hs; subst hw; exact k
end PV2
