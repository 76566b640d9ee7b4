section PVL
variable {l : Launch} {g : pw_G} {cx : pw_C} {Q : pw_W → Int32 → Prop} {X : pw_W → Nat → Prop} {pc n : Nat} {L st : List (Nat × Int32)} {w : pw_W} {x y j : Int32}
theorem gt_Square_9 (ho : pw_own cx = "Peatland$Square") (hd : decode (pw_cc cx) pc = .ok (.getfield 9, 3)) (hx : 0 ≤ (x : Int32)) (hn : pc + 3 = n) (k : pw_V l g cx Q X n L ((12, w.1 6 (pw_i x) 2) :: st) w) : pw_V l g cx Q X pc L ((8, x) :: st) w := by
  refine pv_get (f := 6) (k := 2) pw_cf6 (by decide) (by rw [ho]; exact q_14) hd hx hn (fun _ => ?_)
  show pw_V l g cx Q X n L ((12, w.1 6 (pw_i x) 2) :: st) w
  exact k
theorem gt_Square_35 (ho : pw_own cx = "Peatland$Square") (hd : decode (pw_cc cx) pc = .ok (.getfield 35, 3)) (hx : 0 ≤ (x : Int32)) (hn : pc + 3 = n) (k : pw_V l g cx Q X n L ((0, w.1 3 (pw_i x) 0) :: st) w) : pw_V l g cx Q X pc L ((5, x) :: st) w := by
  refine pv_get (f := 3) (k := 0) pw_cf3 (by decide) (by rw [ho]; exact q_21) hd hx hn (fun _ => ?_)
  show pw_V l g cx Q X n L ((0, w.1 3 (pw_i x) 0) :: st) w
  exact k
theorem gt_X_17 (ho : pw_own cx = "Peatland") (hd : decode (pw_cc cx) pc = .ok (.getfield 17, 3)) (hx : 0 ≤ (0 : Int32)) (hz : w.1 7 0 1 = 0) (hn : pc + 3 = n) (k : pw_V l g cx Q X n L ((17, 0) :: st) w) : pw_V l g cx Q X pc L ((9, 0) :: st) w := by
  refine pv_get (f := 7) (k := 1) pw_cf7 (by decide) (by rw [ho]; exact q_22) hd hx hn (fun _ => ?_)
  show pw_V l g cx Q X n L ((17, w.1 7 0 1) :: st) w
  rw [hz]; exact k
theorem gt_X_11 (ho : pw_own cx = "Peatland") (hd : decode (pw_cc cx) pc = .ok (.getfield 11, 3)) (hx : 0 ≤ (0 : Int32)) (hz : w.1 7 0 0 = 0) (hn : pc + 3 = n) (k : pw_V l g cx Q X n L ((16, 0) :: st) w) : pw_V l g cx Q X pc L ((9, 0) :: st) w := by
  refine pv_get (f := 7) (k := 0) pw_cf7 (by decide) (by rw [ho]; exact q_29) hd hx hn (fun _ => ?_)
  show pw_V l g cx Q X n L ((16, w.1 7 0 0) :: st) w
  rw [hz]; exact k
theorem gt_X_24 (ho : pw_own cx = "Peatland") (hd : decode (pw_cc cx) pc = .ok (.getfield 24, 3)) (hx : 0 ≤ (0 : Int32)) (hz : w.1 7 0 2 = 0) (hn : pc + 3 = n) (k : pw_V l g cx Q X n L ((25, 0) :: st) w) : pw_V l g cx Q X pc L ((9, 0) :: st) w := by
  refine pv_get (f := 7) (k := 2) pw_cf7 (by decide) (by rw [ho]; exact q_38) hd hx hn (fun _ => ?_)
  show pw_V l g cx Q X n L ((25, w.1 7 0 2) :: st) w
  rw [hz]; exact k
theorem gt_X_34 (ho : pw_own cx = "Peatland") (hd : decode (pw_cc cx) pc = .ok (.getfield 34, 3)) (hx : 0 ≤ (0 : Int32)) (hz : w.1 7 0 5 = 0) (hn : pc + 3 = n) (k : pw_V l g cx Q X n L ((27, 0) :: st) w) : pw_V l g cx Q X pc L ((9, 0) :: st) w := by
  refine pv_get (f := 7) (k := 5) pw_cf7 (by decide) (by rw [ho]; exact q_41) hd hx hn (fun _ => ?_)
  show pw_V l g cx Q X n L ((27, w.1 7 0 5) :: st) w
  rw [hz]; exact k
theorem gt_Right_13 (ho : pw_own cx = "Peatland$Right") (hd : decode (pw_cc cx) pc = .ok (.getfield 13, 3)) (hx : 0 ≤ (x : Int32)) (hn : pc + 3 = n) (k : pw_V l g cx Q X n L ((5, w.1 5 (pw_i x) 1) :: st) w) : pw_V l g cx Q X pc L ((7, x) :: st) w := by
  refine pv_get (f := 5) (k := 1) pw_cf5 (by decide) (by rw [ho]; exact q_50) hd hx hn (fun _ => ?_)
  show pw_V l g cx Q X n L ((5, w.1 5 (pw_i x) 1) :: st) w
  exact k
theorem gt_Right_27 (ho : pw_own cx = "Peatland$Right") (hd : decode (pw_cc cx) pc = .ok (.getfield 27, 3)) (hx : 0 ≤ (x : Int32)) (hn : pc + 3 = n) (k : pw_V l g cx Q X n L ((0, w.1 5 (pw_i x) 5) :: st) w) : pw_V l g cx Q X pc L ((7, x) :: st) w := by
  refine pv_get (f := 5) (k := 5) pw_cf5 (by decide) (by rw [ho]; exact q_51) hd hx hn (fun _ => ?_)
  show pw_V l g cx Q X n L ((0, w.1 5 (pw_i x) 5) :: st) w
  exact k
theorem gt_X_342 (ho : pw_own cx = "Peatland") (hd : decode (pw_cc cx) pc = .ok (.getfield 342, 3)) (hx : 0 ≤ (x : Int32)) (hn : pc + 3 = n) (k : pw_V l g cx Q X n L ((0, w.1 5 (pw_i x) 0) :: st) w) : pw_V l g cx Q X pc L ((7, x) :: st) w := by
  refine pv_get (f := 5) (k := 0) pw_cf5 (by decide) (by rw [ho]; exact q_54) hd hx hn (fun _ => ?_)
  show pw_V l g cx Q X n L ((0, w.1 5 (pw_i x) 0) :: st) w
  exact k
theorem gt_X_346 (ho : pw_own cx = "Peatland") (hd : decode (pw_cc cx) pc = .ok (.getfield 346, 3)) (hx : 0 ≤ (x : Int32)) (hn : pc + 3 = n) (k : pw_V l g cx Q X n L ((6, w.1 5 (pw_i x) 2) :: st) w) : pw_V l g cx Q X pc L ((7, x) :: st) w := by
  refine pv_get (f := 5) (k := 2) pw_cf5 (by decide) (by rw [ho]; exact q_55) hd hx hn (fun _ => ?_)
  show pw_V l g cx Q X n L ((6, w.1 5 (pw_i x) 2) :: st) w
  exact k
theorem gt_X_426 (ho : pw_own cx = "Peatland") (hd : decode (pw_cc cx) pc = .ok (.getfield 426, 3)) (hx : 0 ≤ (x : Int32)) (hn : pc + 3 = n) (k : pw_V l g cx Q X n L ((0, w.1 5 (pw_i x) 3) :: st) w) : pw_V l g cx Q X pc L ((7, x) :: st) w := by
  refine pv_get (f := 5) (k := 3) pw_cf5 (by decide) (by rw [ho]; exact q_71) hd hx hn (fun _ => ?_)
  show pw_V l g cx Q X n L ((0, w.1 5 (pw_i x) 3) :: st) w
  exact k
theorem gt_X_104 (ho : pw_own cx = "Peatland") (hd : decode (pw_cc cx) pc = .ok (.getfield 104, 3)) (hx : 0 ≤ (x : Int32)) (hn : pc + 3 = n) (k : pw_V l g cx Q X n L ((5, w.1 6 (pw_i x) 1) :: st) w) : pw_V l g cx Q X pc L ((8, x) :: st) w := by
  refine pv_get (f := 6) (k := 1) pw_cf6 (by decide) (by rw [ho]; exact q_98) hd hx hn (fun _ => ?_)
  show pw_V l g cx Q X n L ((5, w.1 6 (pw_i x) 1) :: st) w
  exact k
theorem gt_X_108 (ho : pw_own cx = "Peatland") (hd : decode (pw_cc cx) pc = .ok (.getfield 108, 3)) (hx : 0 ≤ (x : Int32)) (hn : pc + 3 = n) (k : pw_V l g cx Q X n L ((0, w.1 6 (pw_i x) 0) :: st) w) : pw_V l g cx Q X pc L ((8, x) :: st) w := by
  refine pv_get (f := 6) (k := 0) pw_cf6 (by decide) (by rw [ho]; exact q_99) hd hx hn (fun _ => ?_)
  show pw_V l g cx Q X n L ((0, w.1 6 (pw_i x) 0) :: st) w
  exact k
theorem gt_Parcel_23 (ho : pw_own cx = "Peatland$Parcel") (hd : decode (pw_cc cx) pc = .ok (.getfield 23, 3)) (hx : 0 ≤ (x : Int32)) (hn : pc + 3 = n) (k : pw_V l g cx Q X n L ((5, w.1 3 (pw_i x) 3) :: st) w) : pw_V l g cx Q X pc L ((5, x) :: st) w := by
  refine pv_get (f := 3) (k := 3) pw_cf3 (by decide) (by rw [ho]; exact q_103) hd hx hn (fun _ => ?_)
  show pw_V l g cx Q X n L ((5, w.1 3 (pw_i x) 3) :: st) w
  exact k
theorem gt_Square_15 (ho : pw_own cx = "Peatland$Square") (hd : decode (pw_cc cx) pc = .ok (.getfield 15, 3)) (hx : 0 ≤ (x : Int32)) (hn : pc + 3 = n) (k : pw_V l g cx Q X n L ((0, w.1 6 (pw_i x) 3) :: st) w) : pw_V l g cx Q X pc L ((8, x) :: st) w := by
  refine pv_get (f := 6) (k := 3) pw_cf6 (by decide) (by rw [ho]; exact q_15) hd hx hn (fun _ => ?_)
  show pw_V l g cx Q X n L ((0, w.1 6 (pw_i x) 3) :: st) w
  exact k
theorem gt_Square_31 (ho : pw_own cx = "Peatland$Square") (hd : decode (pw_cc cx) pc = .ok (.getfield 31, 3)) (hx : 0 ≤ (x : Int32)) (hn : pc + 3 = n) (k : pw_V l g cx Q X n L ((5, w.1 6 (pw_i x) 1) :: st) w) : pw_V l g cx Q X pc L ((8, x) :: st) w := by
  refine pv_get (f := 6) (k := 1) pw_cf6 (by decide) (by rw [ho]; exact q_20) hd hx hn (fun _ => ?_)
  show pw_V l g cx Q X n L ((5, w.1 6 (pw_i x) 1) :: st) w
  exact k
theorem gt_Square_38 (ho : pw_own cx = "Peatland$Square") (hd : decode (pw_cc cx) pc = .ok (.getfield 38, 3)) (hx : 0 ≤ (x : Int32)) (hn : pc + 3 = n) (k : pw_V l g cx Q X n L ((0, w.1 3 (pw_i x) 4) :: st) w) : pw_V l g cx Q X pc L ((5, x) :: st) w := by
  refine pv_get (f := 3) (k := 4) pw_cf3 (by decide) (by rw [ho]; exact q_108) hd hx hn (fun _ => ?_)
  show pw_V l g cx Q X n L ((0, w.1 3 (pw_i x) 4) :: st) w
  exact k
theorem gt_X_119 (ho : pw_own cx = "Peatland") (hd : decode (pw_cc cx) pc = .ok (.getfield 119, 3)) (hx : 0 ≤ (x : Int32)) (hn : pc + 3 = n) (k : pw_V l g cx Q X n L ((0, w.1 3 (pw_i x) 0) :: st) w) : pw_V l g cx Q X pc L ((5, x) :: st) w := by
  refine pv_get (f := 3) (k := 0) pw_cf3 (by decide) (by rw [ho]; exact q_110) hd hx hn (fun _ => ?_)
  show pw_V l g cx Q X n L ((0, w.1 3 (pw_i x) 0) :: st) w
  exact k
theorem gt_X_76 (ho : pw_own cx = "Peatland") (hd : decode (pw_cc cx) pc = .ok (.getfield 76, 3)) (hx : 0 ≤ (x : Int32)) (hn : pc + 3 = n) (k : pw_V l g cx Q X n L ((0, w.1 4 (pw_i x) 2) :: st) w) : pw_V l g cx Q X pc L ((6, x) :: st) w := by
  refine pv_get (f := 4) (k := 2) pw_cf4 (by decide) (by rw [ho]; exact q_130) hd hx hn (fun _ => ?_)
  show pw_V l g cx Q X n L ((0, w.1 4 (pw_i x) 2) :: st) w
  exact k
theorem gt_Parcel_34 (ho : pw_own cx = "Peatland$Parcel") (hd : decode (pw_cc cx) pc = .ok (.getfield 34, 3)) (hx : 0 ≤ (x : Int32)) (hn : pc + 3 = n) (k : pw_V l g cx Q X n L ((0, w.1 3 (pw_i x) 5) :: st) w) : pw_V l g cx Q X pc L ((5, x) :: st) w := by
  refine pv_get (f := 3) (k := 5) pw_cf3 (by decide) (by rw [ho]; exact q_149) hd hx hn (fun _ => ?_)
  show pw_V l g cx Q X n L ((0, w.1 3 (pw_i x) 5) :: st) w
  exact k
theorem gt_Parcel_9 (ho : pw_own cx = "Peatland$Parcel") (hd : decode (pw_cc cx) pc = .ok (.getfield 9, 3)) (hx : 0 ≤ (x : Int32)) (hn : pc + 3 = n) (k : pw_V l g cx Q X n L ((13, w.1 3 (pw_i x) 1) :: st) w) : pw_V l g cx Q X pc L ((5, x) :: st) w := by
  refine pv_get (f := 3) (k := 1) pw_cf3 (by decide) (by rw [ho]; exact q_4) hd hx hn (fun _ => ?_)
  show pw_V l g cx Q X n L ((13, w.1 3 (pw_i x) 1) :: st) w
  exact k
theorem gt_X_54 (ho : pw_own cx = "Peatland") (hd : decode (pw_cc cx) pc = .ok (.getfield 54, 3)) (hx : 0 ≤ (x : Int32)) (hn : pc + 3 = n) (k : pw_V l g cx Q X n L ((0, w.1 3 (pw_i x) 4) :: st) w) : pw_V l g cx Q X pc L ((5, x) :: st) w := by
  refine pv_get (f := 3) (k := 4) pw_cf3 (by decide) (by rw [ho]; exact q_28) hd hx hn (fun _ => ?_)
  show pw_V l g cx Q X n L ((0, w.1 3 (pw_i x) 4) :: st) w
  exact k
theorem gt_X_120 (ho : pw_own cx = "Peatland") (hd : decode (pw_cc cx) pc = .ok (.getfield 120, 3)) (hx : 0 ≤ (x : Int32)) (hn : pc + 3 = n) (k : pw_V l g cx Q X n L ((6, w.1 3 (pw_i x) 2) :: st) w) : pw_V l g cx Q X pc L ((5, x) :: st) w := by
  refine pv_get (f := 3) (k := 2) pw_cf3 (by decide) (by rw [ho]; exact q_172) hd hx hn (fun _ => ?_)
  show pw_V l g cx Q X n L ((6, w.1 3 (pw_i x) 2) :: st) w
  exact k
theorem gt_X_28 (ho : pw_own cx = "Peatland") (hd : decode (pw_cc cx) pc = .ok (.getfield 28, 3)) (hx : 0 ≤ (0 : Int32)) (hz : w.1 7 0 3 = 0) (hn : pc + 3 = n) (k : pw_V l g cx Q X n L ((24, 0) :: st) w) : pw_V l g cx Q X pc L ((9, 0) :: st) w := by
  refine pv_get (f := 7) (k := 3) pw_cf7 (by decide) (by rw [ho]; exact q_39) hd hx hn (fun _ => ?_)
  show pw_V l g cx Q X n L ((24, w.1 7 0 3) :: st) w
  rw [hz]; exact k
theorem gt_X_142 (ho : pw_own cx = "Peatland") (hd : decode (pw_cc cx) pc = .ok (.getfield 142, 3)) (hx : 0 ≤ (x : Int32)) (hn : pc + 3 = n) (k : pw_V l g cx Q X n L ((6, w.1 6 (pw_i x) 7) :: st) w) : pw_V l g cx Q X pc L ((8, x) :: st) w := by
  refine pv_get (f := 6) (k := 7) pw_cf6 (by decide) (by rw [ho]; exact q_182) hd hx hn (fun _ => ?_)
  show pw_V l g cx Q X n L ((6, w.1 6 (pw_i x) 7) :: st) w
  exact k
theorem gt_X_145 (ho : pw_own cx = "Peatland") (hd : decode (pw_cc cx) pc = .ok (.getfield 145, 3)) (hx : 0 ≤ (0 : Int32)) (hn : pc + 3 = n) (k : pw_V l g cx Q X n L ((0, w.1 7 0 7) :: st) w) : pw_V l g cx Q X pc L ((9, 0) :: st) w := by
  refine pv_get (f := 7) (k := 7) pw_cf7 (by decide) (by rw [ho]; exact q_183) hd hx hn (fun _ => ?_)
  show pw_V l g cx Q X n L ((0, w.1 7 0 7) :: st) w
  exact k
theorem gt_X_392 (ho : pw_own cx = "Peatland") (hd : decode (pw_cc cx) pc = .ok (.getfield 392, 3)) (hx : 0 ≤ (x : Int32)) (hn : pc + 3 = n) (k : pw_V l g cx Q X n L ((6, w.1 2 (pw_i x) 0) :: st) w) : pw_V l g cx Q X pc L ((4, x) :: st) w := by
  refine pv_get (f := 2) (k := 0) pw_cf2 (by decide) (by rw [ho]; exact q_185) hd hx hn (fun _ => ?_)
  show pw_V l g cx Q X n L ((6, w.1 2 (pw_i x) 0) :: st) w
  exact k
theorem gt_X_393 (ho : pw_own cx = "Peatland") (hd : decode (pw_cc cx) pc = .ok (.getfield 393, 3)) (hx : 0 ≤ (x : Int32)) (hn : pc + 3 = n) (k : pw_V l g cx Q X n L ((0, w.1 2 (pw_i x) 1) :: st) w) : pw_V l g cx Q X pc L ((4, x) :: st) w := by
  refine pv_get (f := 2) (k := 1) pw_cf2 (by decide) (by rw [ho]; exact q_186) hd hx hn (fun _ => ?_)
  show pw_V l g cx Q X n L ((0, w.1 2 (pw_i x) 1) :: st) w
  exact k
theorem gt_X_396 (ho : pw_own cx = "Peatland") (hd : decode (pw_cc cx) pc = .ok (.getfield 396, 3)) (hx : 0 ≤ (x : Int32)) (hn : pc + 3 = n) (k : pw_V l g cx Q X n L ((0, w.1 2 (pw_i x) 2) :: st) w) : pw_V l g cx Q X pc L ((4, x) :: st) w := by
  refine pv_get (f := 2) (k := 2) pw_cf2 (by decide) (by rw [ho]; exact q_187) hd hx hn (fun _ => ?_)
  show pw_V l g cx Q X n L ((0, w.1 2 (pw_i x) 2) :: st) w
  exact k
theorem gt_X_148 (ho : pw_own cx = "Peatland") (hd : decode (pw_cc cx) pc = .ok (.getfield 148, 3)) (hx : 0 ≤ (x : Int32)) (hn : pc + 3 = n) (k : pw_V l g cx Q X n L ((0, w.1 6 (pw_i x) 8) :: st) w) : pw_V l g cx Q X pc L ((8, x) :: st) w := by
  refine pv_get (f := 6) (k := 8) pw_cf6 (by decide) (by rw [ho]; exact q_184) hd hx hn (fun _ => ?_)
  show pw_V l g cx Q X n L ((0, w.1 6 (pw_i x) 8) :: st) w
  exact k
theorem gt_Case_9 (ho : pw_own cx = "Peatland$Case") (hd : decode (pw_cc cx) pc = .ok (.getfield 9, 3)) (hx : 0 ≤ (x : Int32)) (hn : pc + 3 = n) (k : pw_V l g cx Q X n L ((14, w.1 0 (pw_i x) 1) :: st) w) : pw_V l g cx Q X pc L ((2, x) :: st) w := by
  refine pv_get (f := 0) (k := 1) pw_cf0 (by decide) (by rw [ho]; exact q_194) hd hx hn (fun _ => ?_)
  show pw_V l g cx Q X n L ((14, w.1 0 (pw_i x) 1) :: st) w
  exact k
theorem gt_Case_27 (ho : pw_own cx = "Peatland$Case") (hd : decode (pw_cc cx) pc = .ok (.getfield 27, 3)) (hx : 0 ≤ (x : Int32)) (hn : pc + 3 = n) (k : pw_V l g cx Q X n L ((0, w.1 0 (pw_i x) 2) :: st) w) : pw_V l g cx Q X pc L ((2, x) :: st) w := by
  refine pv_get (f := 0) (k := 2) pw_cf0 (by decide) (by rw [ho]; exact q_197) hd hx hn (fun _ => ?_)
  show pw_V l g cx Q X n L ((0, w.1 0 (pw_i x) 2) :: st) w
  exact k
theorem gt_X_31 (ho : pw_own cx = "Peatland") (hd : decode (pw_cc cx) pc = .ok (.getfield 31, 3)) (hx : 0 ≤ (0 : Int32)) (hz : w.1 7 0 4 = 0) (hn : pc + 3 = n) (k : pw_V l g cx Q X n L ((22, 0) :: st) w) : pw_V l g cx Q X pc L ((9, 0) :: st) w := by
  refine pv_get (f := 7) (k := 4) pw_cf7 (by decide) (by rw [ho]; exact q_40) hd hx hn (fun _ => ?_)
  show pw_V l g cx Q X n L ((22, w.1 7 0 4) :: st) w
  rw [hz]; exact k
theorem gt_X_163 (ho : pw_own cx = "Peatland") (hd : decode (pw_cc cx) pc = .ok (.getfield 163, 3)) (hx : 0 ≤ (x : Int32)) (hn : pc + 3 = n) (k : pw_V l g cx Q X n L ((0, w.1 0 (pw_i x) 2) :: st) w) : pw_V l g cx Q X pc L ((2, x) :: st) w := by
  refine pv_get (f := 0) (k := 2) pw_cf0 (by decide) (by rw [ho]; exact q_199) hd hx hn (fun _ => ?_)
  show pw_V l g cx Q X n L ((0, w.1 0 (pw_i x) 2) :: st) w
  exact k
theorem gt_X_180 (ho : pw_own cx = "Peatland") (hd : decode (pw_cc cx) pc = .ok (.getfield 180, 3)) (hx : 0 ≤ (x : Int32)) (hn : pc + 3 = n) (k : pw_V l g cx Q X n L ((0, w.1 0 (pw_i x) 7) :: st) w) : pw_V l g cx Q X pc L ((2, x) :: st) w := by
  refine pv_get (f := 0) (k := 7) pw_cf0 (by decide) (by rw [ho]; exact q_213) hd hx hn (fun _ => ?_)
  show pw_V l g cx Q X n L ((0, w.1 0 (pw_i x) 7) :: st) w
  exact k
theorem gt_X_177 (ho : pw_own cx = "Peatland") (hd : decode (pw_cc cx) pc = .ok (.getfield 177, 3)) (hx : 0 ≤ (x : Int32)) (hn : pc + 3 = n) (k : pw_V l g cx Q X n L ((0, w.1 0 (pw_i x) 6) :: st) w) : pw_V l g cx Q X pc L ((2, x) :: st) w := by
  refine pv_get (f := 0) (k := 6) pw_cf0 (by decide) (by rw [ho]; exact q_214) hd hx hn (fun _ => ?_)
  show pw_V l g cx Q X n L ((0, w.1 0 (pw_i x) 6) :: st) w
  exact k
theorem gt_X_174 (ho : pw_own cx = "Peatland") (hd : decode (pw_cc cx) pc = .ok (.getfield 174, 3)) (hx : 0 ≤ (x : Int32)) (hn : pc + 3 = n) (k : pw_V l g cx Q X n L ((0, w.1 0 (pw_i x) 3) :: st) w) : pw_V l g cx Q X pc L ((2, x) :: st) w := by
  refine pv_get (f := 0) (k := 3) pw_cf0 (by decide) (by rw [ho]; exact q_215) hd hx hn (fun _ => ?_)
  show pw_V l g cx Q X n L ((0, w.1 0 (pw_i x) 3) :: st) w
  exact k
theorem gt_X_200 (ho : pw_own cx = "Peatland") (hd : decode (pw_cc cx) pc = .ok (.getfield 200, 3)) (hx : 0 ≤ (x : Int32)) (hn : pc + 3 = n) (k : pw_V l g cx Q X n L ((6, w.1 0 (pw_i x) 0) :: st) w) : pw_V l g cx Q X pc L ((2, x) :: st) w := by
  refine pv_get (f := 0) (k := 0) pw_cf0 (by decide) (by rw [ho]; exact q_220) hd hx hn (fun _ => ?_)
  show pw_V l g cx Q X n L ((6, w.1 0 (pw_i x) 0) :: st) w
  exact k
theorem gt_X_403 (ho : pw_own cx = "Peatland") (hd : decode (pw_cc cx) pc = .ok (.getfield 403, 3)) (hx : 0 ≤ (x : Int32)) (hn : pc + 3 = n) (k : pw_V l g cx Q X n L ((2, w.1 6 (pw_i x) 9) :: st) w) : pw_V l g cx Q X pc L ((8, x) :: st) w := by
  refine pv_get (f := 6) (k := 9) pw_cf6 (by decide) (by rw [ho]; exact q_221) hd hx hn (fun _ => ?_)
  show pw_V l g cx Q X n L ((2, w.1 6 (pw_i x) 9) :: st) w
  exact k
theorem gt_X_193 (ho : pw_own cx = "Peatland") (hd : decode (pw_cc cx) pc = .ok (.getfield 193, 3)) (hx : 0 ≤ (x : Int32)) (hn : pc + 3 = n) (k : pw_V l g cx Q X n L ((0, w.1 0 (pw_i x) 5) :: st) w) : pw_V l g cx Q X pc L ((2, x) :: st) w := by
  refine pv_get (f := 0) (k := 5) pw_cf0 (by decide) (by rw [ho]; exact q_222) hd hx hn (fun _ => ?_)
  show pw_V l g cx Q X n L ((0, w.1 0 (pw_i x) 5) :: st) w
  exact k
theorem gt_X_190 (ho : pw_own cx = "Peatland") (hd : decode (pw_cc cx) pc = .ok (.getfield 190, 3)) (hx : 0 ≤ (x : Int32)) (hn : pc + 3 = n) (k : pw_V l g cx Q X n L ((0, w.1 0 (pw_i x) 4) :: st) w) : pw_V l g cx Q X pc L ((2, x) :: st) w := by
  refine pv_get (f := 0) (k := 4) pw_cf0 (by decide) (by rw [ho]; exact q_223) hd hx hn (fun _ => ?_)
  show pw_V l g cx Q X n L ((0, w.1 0 (pw_i x) 4) :: st) w
  exact k
theorem gt_Square_47 (ho : pw_own cx = "Peatland$Square") (hd : decode (pw_cc cx) pc = .ok (.getfield 47, 3)) (hx : 0 ≤ (x : Int32)) (hn : pc + 3 = n) (k : pw_V l g cx Q X n L ((5, w.1 6 (pw_i x) 10) :: st) w) : pw_V l g cx Q X pc L ((8, x) :: st) w := by
  refine pv_get (f := 6) (k := 10) pw_cf6 (by decide) (by rw [ho]; exact q_232) hd hx hn (fun _ => ?_)
  show pw_V l g cx Q X n L ((5, w.1 6 (pw_i x) 10) :: st) w
  exact k
theorem gt_Parcel_27 (ho : pw_own cx = "Peatland$Parcel") (hd : decode (pw_cc cx) pc = .ok (.getfield 27, 3)) (hx : 0 ≤ (x : Int32)) (hn : pc + 3 = n) (k : pw_V l g cx Q X n L ((0, w.1 3 (pw_i x) 4) :: st) w) : pw_V l g cx Q X pc L ((5, x) :: st) w := by
  refine pv_get (f := 3) (k := 4) pw_cf3 (by decide) (by rw [ho]; exact q_252) hd hx hn (fun _ => ?_)
  show pw_V l g cx Q X n L ((0, w.1 3 (pw_i x) 4) :: st) w
  exact k
theorem gt_X_345 (ho : pw_own cx = "Peatland") (hd : decode (pw_cc cx) pc = .ok (.getfield 345, 3)) (hx : 0 ≤ (x : Int32)) (hn : pc + 3 = n) (k : pw_V l g cx Q X n L ((5, w.1 5 (pw_i x) 1) :: st) w) : pw_V l g cx Q X pc L ((7, x) :: st) w := by
  refine pv_get (f := 5) (k := 1) pw_cf5 (by decide) (by rw [ho]; exact q_255) hd hx hn (fun _ => ?_)
  show pw_V l g cx Q X n L ((5, w.1 5 (pw_i x) 1) :: st) w
  exact k
theorem gt_X_230 (ho : pw_own cx = "Peatland") (hd : decode (pw_cc cx) pc = .ok (.getfield 230, 3)) (hx : 0 ≤ (x : Int32)) (hn : pc + 3 = n) (k : pw_V l g cx Q X n L ((0, w.1 4 (pw_i x) 0) :: st) w) : pw_V l g cx Q X pc L ((6, x) :: st) w := by
  refine pv_get (f := 4) (k := 0) pw_cf4 (by decide) (by rw [ho]; exact q_268) hd hx hn (fun _ => ?_)
  show pw_V l g cx Q X n L ((0, w.1 4 (pw_i x) 0) :: st) w
  exact k
theorem gt_X_247 (ho : pw_own cx = "Peatland") (hd : decode (pw_cc cx) pc = .ok (.getfield 247, 3)) (hx : 0 ≤ (0 : Int32)) (hn : pc + 3 = n) (k : pw_V l g cx Q X n L ((0, w.1 7 0 9) :: st) w) : pw_V l g cx Q X pc L ((9, 0) :: st) w := by
  refine pv_get (f := 7) (k := 9) pw_cf7 (by decide) (by rw [ho]; exact q_273) hd hx hn (fun _ => ?_)
  show pw_V l g cx Q X n L ((0, w.1 7 0 9) :: st) w
  exact k
theorem gt_X_250 (ho : pw_own cx = "Peatland") (hd : decode (pw_cc cx) pc = .ok (.getfield 250, 3)) (hx : 0 ≤ (0 : Int32)) (hn : pc + 3 = n) (k : pw_V l g cx Q X n L ((0, w.1 7 0 10) :: st) w) : pw_V l g cx Q X pc L ((9, 0) :: st) w := by
  refine pv_get (f := 7) (k := 10) pw_cf7 (by decide) (by rw [ho]; exact q_274) hd hx hn (fun _ => ?_)
  show pw_V l g cx Q X n L ((0, w.1 7 0 10) :: st) w
  exact k
theorem gt_X_238 (ho : pw_own cx = "Peatland") (hd : decode (pw_cc cx) pc = .ok (.getfield 238, 3)) (hx : 0 ≤ (x : Int32)) (hn : pc + 3 = n) (k : pw_V l g cx Q X n L ((0, w.1 6 (pw_i x) 5) :: st) w) : pw_V l g cx Q X pc L ((8, x) :: st) w := by
  refine pv_get (f := 6) (k := 5) pw_cf6 (by decide) (by rw [ho]; exact q_275) hd hx hn (fun _ => ?_)
  show pw_V l g cx Q X n L ((0, w.1 6 (pw_i x) 5) :: st) w
  exact k
theorem gt_X_37 (ho : pw_own cx = "Peatland") (hd : decode (pw_cc cx) pc = .ok (.getfield 37, 3)) (hx : 0 ≤ (0 : Int32)) (hz : w.1 7 0 6 = 0) (hn : pc + 3 = n) (k : pw_V l g cx Q X n L ((23, 0) :: st) w) : pw_V l g cx Q X pc L ((9, 0) :: st) w := by
  refine pv_get (f := 7) (k := 6) pw_cf7 (by decide) (by rw [ho]; exact q_42) hd hx hn (fun _ => ?_)
  show pw_V l g cx Q X n L ((23, w.1 7 0 6) :: st) w
  rw [hz]; exact k
theorem gt_X_435 (ho : pw_own cx = "Peatland") (hd : decode (pw_cc cx) pc = .ok (.getfield 435, 3)) (hx : 0 ≤ (x : Int32)) (hn : pc + 3 = n) (k : pw_V l g cx Q X n L ((8, w.1 1 (pw_i x) 0) :: st) w) : pw_V l g cx Q X pc L ((3, x) :: st) w := by
  refine pv_get (f := 1) (k := 0) pw_cf1 (by decide) (by rw [ho]; exact q_277) hd hx hn (fun _ => ?_)
  show pw_V l g cx Q X n L ((8, w.1 1 (pw_i x) 0) :: st) w
  exact k
theorem gt_X_438 (ho : pw_own cx = "Peatland") (hd : decode (pw_cc cx) pc = .ok (.getfield 438, 3)) (hx : 0 ≤ (x : Int32)) (hn : pc + 3 = n) (k : pw_V l g cx Q X n L ((8, w.1 1 (pw_i x) 1) :: st) w) : pw_V l g cx Q X pc L ((3, x) :: st) w := by
  refine pv_get (f := 1) (k := 1) pw_cf1 (by decide) (by rw [ho]; exact q_278) hd hx hn (fun _ => ?_)
  show pw_V l g cx Q X n L ((8, w.1 1 (pw_i x) 1) :: st) w
  exact k
theorem gt_X_278 (ho : pw_own cx = "Peatland") (hd : decode (pw_cc cx) pc = .ok (.getfield 278, 3)) (hx : 0 ≤ (x : Int32)) (hn : pc + 3 = n) (k : pw_V l g cx Q X n L ((0, w.1 6 (pw_i x) 4) :: st) w) : pw_V l g cx Q X pc L ((8, x) :: st) w := by
  refine pv_get (f := 6) (k := 4) pw_cf6 (by decide) (by rw [ho]; exact q_294) hd hx hn (fun _ => ?_)
  show pw_V l g cx Q X n L ((0, w.1 6 (pw_i x) 4) :: st) w
  exact k
theorem gt_X_281 (ho : pw_own cx = "Peatland") (hd : decode (pw_cc cx) pc = .ok (.getfield 281, 3)) (hx : 0 ≤ (0 : Int32)) (hn : pc + 3 = n) (k : pw_V l g cx Q X n L ((0, w.1 7 0 8) :: st) w) : pw_V l g cx Q X pc L ((9, 0) :: st) w := by
  refine pv_get (f := 7) (k := 8) pw_cf7 (by decide) (by rw [ho]; exact q_303) hd hx hn (fun _ => ?_)
  show pw_V l g cx Q X n L ((0, w.1 7 0 8) :: st) w
  exact k
theorem gt_X_288 (ho : pw_own cx = "Peatland") (hd : decode (pw_cc cx) pc = .ok (.getfield 288, 3)) (hx : 0 ≤ (x : Int32)) (hn : pc + 3 = n) (k : pw_V l g cx Q X n L ((0, w.1 6 (pw_i x) 6) :: st) w) : pw_V l g cx Q X pc L ((8, x) :: st) w := by
  refine pv_get (f := 6) (k := 6) pw_cf6 (by decide) (by rw [ho]; exact q_304) hd hx hn (fun _ => ?_)
  show pw_V l g cx Q X n L ((0, w.1 6 (pw_i x) 6) :: st) w
  exact k
theorem gt_X_362 (ho : pw_own cx = "Peatland") (hd : decode (pw_cc cx) pc = .ok (.getfield 362, 3)) (hx : 0 ≤ (0 : Int32)) (hn : pc + 3 = n) (k : pw_V l g cx Q X n L ((0, w.1 7 0 11) :: st) w) : pw_V l g cx Q X pc L ((9, 0) :: st) w := by
  refine pv_get (f := 7) (k := 11) pw_cf7 (by decide) (by rw [ho]; exact q_313) hd hx hn (fun _ => ?_)
  show pw_V l g cx Q X n L ((0, w.1 7 0 11) :: st) w
  exact k
theorem gt_Square_22 (ho : pw_own cx = "Peatland$Square") (hd : decode (pw_cc cx) pc = .ok (.getfield 22, 3)) (hx : 0 ≤ (x : Int32)) (hn : pc + 3 = n) (k : pw_V l g cx Q X n L ((0, w.1 6 (pw_i x) 5) :: st) w) : pw_V l g cx Q X pc L ((8, x) :: st) w := by
  refine pv_get (f := 6) (k := 5) pw_cf6 (by decide) (by rw [ho]; exact q_17) hd hx hn (fun _ => ?_)
  show pw_V l g cx Q X n L ((0, w.1 6 (pw_i x) 5) :: st) w
  exact k
theorem gt_X_367 (ho : pw_own cx = "Peatland") (hd : decode (pw_cc cx) pc = .ok (.getfield 367, 3)) (hx : 0 ≤ (x : Int32)) (hn : pc + 3 = n) (k : pw_V l g cx Q X n L ((0, w.1 4 (pw_i x) 3) :: st) w) : pw_V l g cx Q X pc L ((6, x) :: st) w := by
  refine pv_get (f := 4) (k := 3) pw_cf4 (by decide) (by rw [ho]; exact q_322) hd hx hn (fun _ => ?_)
  show pw_V l g cx Q X n L ((0, w.1 4 (pw_i x) 3) :: st) w
  exact k
theorem gt_Drain_9 (ho : pw_own cx = "Peatland$Drain") (hd : decode (pw_cc cx) pc = .ok (.getfield 9, 3)) (hx : 0 ≤ (x : Int32)) (hn : pc + 3 = n) (k : pw_V l g cx Q X n L ((8, w.1 1 (pw_i x) 0) :: st) w) : pw_V l g cx Q X pc L ((3, x) :: st) w := by
  refine pv_get (f := 1) (k := 0) pw_cf1 (by decide) (by rw [ho]; exact q_281) hd hx hn (fun _ => ?_)
  show pw_V l g cx Q X n L ((8, w.1 1 (pw_i x) 0) :: st) w
  exact k
theorem gt_Drain_18 (ho : pw_own cx = "Peatland$Drain") (hd : decode (pw_cc cx) pc = .ok (.getfield 18, 3)) (hx : 0 ≤ (x : Int32)) (hn : pc + 3 = n) (k : pw_V l g cx Q X n L ((0, w.1 6 (pw_i x) 5) :: st) w) : pw_V l g cx Q X pc L ((8, x) :: st) w := by
  refine pv_get (f := 6) (k := 5) pw_cf6 (by decide) (by rw [ho]; exact q_327) hd hx hn (fun _ => ?_)
  show pw_V l g cx Q X n L ((0, w.1 6 (pw_i x) 5) :: st) w
  exact k
theorem gt_Drain_15 (ho : pw_own cx = "Peatland$Drain") (hd : decode (pw_cc cx) pc = .ok (.getfield 15, 3)) (hx : 0 ≤ (x : Int32)) (hn : pc + 3 = n) (k : pw_V l g cx Q X n L ((8, w.1 1 (pw_i x) 1) :: st) w) : pw_V l g cx Q X pc L ((3, x) :: st) w := by
  refine pv_get (f := 1) (k := 1) pw_cf1 (by decide) (by rw [ho]; exact q_282) hd hx hn (fun _ => ?_)
  show pw_V l g cx Q X n L ((8, w.1 1 (pw_i x) 1) :: st) w
  exact k
theorem gt_X_468 (ho : pw_own cx = "Peatland") (hd : decode (pw_cc cx) pc = .ok (.getfield 468, 3)) (hx : 0 ≤ (x : Int32)) (hn : pc + 3 = n) (k : pw_V l g cx Q X n L ((0, w.1 3 (pw_i x) 5) :: st) w) : pw_V l g cx Q X pc L ((5, x) :: st) w := by
  refine pv_get (f := 3) (k := 5) pw_cf3 (by decide) (by rw [ho]; exact q_333) hd hx hn (fun _ => ?_)
  show pw_V l g cx Q X n L ((0, w.1 3 (pw_i x) 5) :: st) w
  exact k
theorem gt_Person_10 (ho : pw_own cx = "Peatland$Person") (hd : decode (pw_cc cx) pc = .ok (.getfield 10, 3)) (hx : 0 ≤ (x : Int32)) (hn : pc + 3 = n) (k : pw_V l g cx Q X n L ((26, w.1 4 (pw_i x) 1) :: st) w) : pw_V l g cx Q X pc L ((6, x) :: st) w := by
  refine pv_get (f := 4) (k := 1) pw_cf4 (by decide) (by rw [ho]; exact q_10) hd hx hn (fun _ => ?_)
  show pw_V l g cx Q X n L ((26, w.1 4 (pw_i x) 1) :: st) w
  exact k
theorem gt_X_298 (ho : pw_own cx = "Peatland") (hd : decode (pw_cc cx) pc = .ok (.getfield 298, 3)) (hx : 0 ≤ (x : Int32)) (hn : pc + 3 = n) (k : pw_V l g cx Q X n L ((26, w.1 4 (pw_i x) 1) :: st) w) : pw_V l g cx Q X pc L ((6, x) :: st) w := by
  refine pv_get (f := 4) (k := 1) pw_cf4 (by decide) (by rw [ho]; exact q_364) hd hx hn (fun _ => ?_)
  show pw_V l g cx Q X n L ((26, w.1 4 (pw_i x) 1) :: st) w
  exact k
theorem gt_Person_16 (ho : pw_own cx = "Peatland$Person") (hd : decode (pw_cc cx) pc = .ok (.getfield 16, 3)) (hx : 0 ≤ (x : Int32)) (hn : pc + 3 = n) (k : pw_V l g cx Q X n L ((0, w.1 4 (pw_i x) 2) :: st) w) : pw_V l g cx Q X pc L ((6, x) :: st) w := by
  refine pv_get (f := 4) (k := 2) pw_cf4 (by decide) (by rw [ho]; exact q_11) hd hx hn (fun _ => ?_)
  show pw_V l g cx Q X n L ((0, w.1 4 (pw_i x) 2) :: st) w
  exact k
theorem gt_X_134 (ho : pw_own cx = "Peatland") (hd : decode (pw_cc cx) pc = .ok (.getfield 134, 3)) (hx : 0 ≤ (x : Int32)) (hn : pc + 3 = n) (k : pw_V l g cx Q X n L ((5, w.1 3 (pw_i x) 3) :: st) w) : pw_V l g cx Q X pc L ((5, x) :: st) w := by
  refine pv_get (f := 3) (k := 3) pw_cf3 (by decide) (by rw [ho]; exact q_160) hd hx hn (fun _ => ?_)
  show pw_V l g cx Q X n L ((5, w.1 3 (pw_i x) 3) :: st) w
  exact k
theorem gt_X_223 (ho : pw_own cx = "Peatland") (hd : decode (pw_cc cx) pc = .ok (.getfield 223, 3)) (hx : 0 ≤ (x : Int32)) (hn : pc + 3 = n) (k : pw_V l g cx Q X n L ((0, w.1 5 (pw_i x) 5) :: st) w) : pw_V l g cx Q X pc L ((7, x) :: st) w := by
  refine pv_get (f := 5) (k := 5) pw_cf5 (by decide) (by rw [ho]; exact q_159) hd hx hn (fun _ => ?_)
  show pw_V l g cx Q X n L ((0, w.1 5 (pw_i x) 5) :: st) w
  exact k
theorem gt_X_350 (ho : pw_own cx = "Peatland") (hd : decode (pw_cc cx) pc = .ok (.getfield 350, 3)) (hx : 0 ≤ (x : Int32)) (hn : pc + 3 = n) (k : pw_V l g cx Q X n L ((0, w.1 5 (pw_i x) 4) :: st) w) : pw_V l g cx Q X pc L ((7, x) :: st) w := by
  refine pv_get (f := 5) (k := 4) pw_cf5 (by decide) (by rw [ho]; exact q_413) hd hx hn (fun _ => ?_)
  show pw_V l g cx Q X n L ((0, w.1 5 (pw_i x) 4) :: st) w
  exact k
theorem pt_Parcel_9 (ho : pw_own cx = "Peatland$Parcel") (hnm : pw_nm cx = "<init>") (hd : decode (pw_cc cx) pc = .ok (.putfield 9, 3)) (hx : 0 ≤ (x : Int32)) (hn : pc + 3 = n) (kk : ∀ w1, w1 = pw_ps w 3 (pw_i x) 1 y → pw_V l g cx Q X n L (st) w1) : pw_V l g cx Q X pc L ((13, y) :: (5, x) :: st) w :=
  pv_putF (f := 3) (k := 1) (x := x) pw_cf3 (by decide) (by rw [ho]; exact q_4) rfl hnm (by rw [ho]; rfl) hd hx (pw_nq (F := 11) (Or.inr ⟨_, rfl⟩)) hn (kk _ rfl)
theorem pt_Parcel_15 (ho : pw_own cx = "Peatland$Parcel") (hnm : pw_nm cx = "<init>") (hd : decode (pw_cc cx) pc = .ok (.putfield 15, 3)) (hx : 0 ≤ (x : Int32)) (hn : pc + 3 = n) (kk : ∀ w1, w1 = pw_ps w 3 (pw_i x) 0 y → pw_V l g cx Q X n L (st) w1) : pw_V l g cx Q X pc L ((0, y) :: (5, x) :: st) w :=
  pv_putF (f := 3) (k := 0) (x := x) pw_cf3 (by decide) (by rw [ho]; exact q_5) rfl hnm (by rw [ho]; rfl) hd hx ((fun _ => ⟨rfl, rfl⟩)) hn (kk _ rfl)
theorem pt_Parcel_19 (ho : pw_own cx = "Peatland$Parcel") (hd : decode (pw_cc cx) pc = .ok (.putfield 19, 3)) (hx : 0 ≤ (x : Int32)) (hn : pc + 3 = n) (kk : ∀ w1, w1 = pw_ps w 3 (pw_i x) 2 y → pw_V l g cx Q X n L (st) w1) : pw_V l g cx Q X pc L ((6, y) :: (5, x) :: st) w :=
  pv_put (f := 3) (k := 2) (x := x) pw_cf3 (by decide) (by rw [ho]; exact q_6) rfl hd hx (pw_nq (F := 4) (Or.inl ⟨_, rfl⟩)) hn (kk _ rfl)
theorem pt_Person_10 (ho : pw_own cx = "Peatland$Person") (hnm : pw_nm cx = "<init>") (hd : decode (pw_cc cx) pc = .ok (.putfield 10, 3)) (hx : 0 ≤ (x : Int32)) (hn : pc + 3 = n) (kk : ∀ w1, w1 = pw_ps w 4 (pw_i x) 1 y → pw_V l g cx Q X n L (st) w1) : pw_V l g cx Q X pc L ((26, y) :: (6, x) :: st) w :=
  pv_putF (f := 4) (k := 1) (x := x) pw_cf4 (by decide) (by rw [ho]; exact q_10) rfl hnm (by rw [ho]; rfl) hd hx (pw_nq (F := 24) (Or.inl ⟨_, rfl⟩)) hn (kk _ rfl)
theorem pt_Person_16 (ho : pw_own cx = "Peatland$Person") (hd : decode (pw_cc cx) pc = .ok (.putfield 16, 3)) (hx : 0 ≤ (x : Int32)) (hz : y = 0 ∨ y = 1) (hn : pc + 3 = n) (kk : ∀ w1, w1 = pw_ps w 4 (pw_i x) 2 y → pw_V l g cx Q X n L (st) w1) : pw_V l g cx Q X pc L ((0, y) :: (6, x) :: st) w :=
  pv_put (f := 4) (k := 2) (x := x) pw_cf4 (by decide) (by rw [ho]; exact q_11) rfl hd hx ((fun _ => ⟨pw_nz hz, pw_fz hz⟩)) hn (kk _ rfl)
theorem pt_Person_20 (ho : pw_own cx = "Peatland$Person") (hnm : pw_nm cx = "<init>") (hd : decode (pw_cc cx) pc = .ok (.putfield 20, 3)) (hx : 0 ≤ (x : Int32)) (hn : pc + 3 = n) (kk : ∀ w1, w1 = pw_ps w 4 (pw_i x) 0 y → pw_V l g cx Q X n L (st) w1) : pw_V l g cx Q X pc L ((0, y) :: (6, x) :: st) w :=
  pv_putF (f := 4) (k := 0) (x := x) pw_cf4 (by decide) (by rw [ho]; exact q_12) rfl hnm (by rw [ho]; rfl) hd hx ((fun _ => ⟨rfl, rfl⟩)) hn (kk _ rfl)
theorem pt_Square_9 (ho : pw_own cx = "Peatland$Square") (hd : decode (pw_cc cx) pc = .ok (.putfield 9, 3)) (hx : 0 ≤ (x : Int32)) (hn : pc + 3 = n) (kk : ∀ w1, w1 = pw_ps w 6 (pw_i x) 2 y → pw_V l g cx Q X n L (st) w1) : pw_V l g cx Q X pc L ((12, y) :: (8, x) :: st) w :=
  pv_put (f := 6) (k := 2) (x := x) pw_cf6 (by decide) (by rw [ho]; exact q_14) rfl hd hx (pw_nq (F := 10) (Or.inr ⟨_, rfl⟩)) hn (kk _ rfl)
theorem pt_Square_15 (ho : pw_own cx = "Peatland$Square") (hd : decode (pw_cc cx) pc = .ok (.putfield 15, 3)) (hx : 0 ≤ (x : Int32)) (hn : pc + 3 = n) (kk : ∀ w1, w1 = pw_ps w 6 (pw_i x) 3 y → pw_V l g cx Q X n L (st) w1) : pw_V l g cx Q X pc L ((0, y) :: (8, x) :: st) w :=
  pv_put (f := 6) (k := 3) (x := x) pw_cf6 (by decide) (by rw [ho]; exact q_15) rfl hd hx ((fun _ => ⟨rfl, rfl⟩)) hn (kk _ rfl)
theorem pt_Square_19 (ho : pw_own cx = "Peatland$Square") (hd : decode (pw_cc cx) pc = .ok (.putfield 19, 3)) (hx : 0 ≤ (x : Int32)) (hn : pc + 3 = n) (kk : ∀ w1, w1 = pw_ps w 6 (pw_i x) 4 y → pw_V l g cx Q X n L (st) w1) : pw_V l g cx Q X pc L ((0, y) :: (8, x) :: st) w :=
  pv_put (f := 6) (k := 4) (x := x) pw_cf6 (by decide) (by rw [ho]; exact q_16) rfl hd hx ((fun _ => ⟨rfl, rfl⟩)) hn (kk _ rfl)
theorem pt_Square_22 (ho : pw_own cx = "Peatland$Square") (hd : decode (pw_cc cx) pc = .ok (.putfield 22, 3)) (hx : 0 ≤ (x : Int32)) (hn : pc + 3 = n) (kk : ∀ w1, w1 = pw_ps w 6 (pw_i x) 5 y → pw_V l g cx Q X n L (st) w1) : pw_V l g cx Q X pc L ((0, y) :: (8, x) :: st) w :=
  pv_put (f := 6) (k := 5) (x := x) pw_cf6 (by decide) (by rw [ho]; exact q_17) rfl hd hx ((fun _ => ⟨rfl, rfl⟩)) hn (kk _ rfl)
theorem pt_Square_25 (ho : pw_own cx = "Peatland$Square") (hd : decode (pw_cc cx) pc = .ok (.putfield 25, 3)) (hx : 0 ≤ (x : Int32)) (hn : pc + 3 = n) (kk : ∀ w1, w1 = pw_ps w 6 (pw_i x) 6 y → pw_V l g cx Q X n L (st) w1) : pw_V l g cx Q X pc L ((0, y) :: (8, x) :: st) w :=
  pv_put (f := 6) (k := 6) (x := x) pw_cf6 (by decide) (by rw [ho]; exact q_18) rfl hd hx ((fun _ => ⟨rfl, rfl⟩)) hn (kk _ rfl)
theorem pt_Square_28 (ho : pw_own cx = "Peatland$Square") (hnm : pw_nm cx = "<init>") (hd : decode (pw_cc cx) pc = .ok (.putfield 28, 3)) (hx : 0 ≤ (x : Int32)) (hn : pc + 3 = n) (kk : ∀ w1, w1 = pw_ps w 6 (pw_i x) 0 y → pw_V l g cx Q X n L (st) w1) : pw_V l g cx Q X pc L ((0, y) :: (8, x) :: st) w :=
  pv_putF (f := 6) (k := 0) (x := x) pw_cf6 (by decide) (by rw [ho]; exact q_19) rfl hnm (by rw [ho]; rfl) hd hx ((fun _ => ⟨rfl, rfl⟩)) hn (kk _ rfl)
theorem pt_Square_31 (ho : pw_own cx = "Peatland$Square") (hd : decode (pw_cc cx) pc = .ok (.putfield 31, 3)) (hx : 0 ≤ (x : Int32)) (hn : pc + 3 = n) (kk : ∀ w1, w1 = pw_ps w 6 (pw_i x) 1 y → pw_V l g cx Q X n L (st) w1) : pw_V l g cx Q X pc L ((5, y) :: (8, x) :: st) w :=
  pv_put (f := 6) (k := 1) (x := x) pw_cf6 (by decide) (by rw [ho]; exact q_20) rfl hd hx (pw_nq (F := 3) (Or.inl ⟨_, rfl⟩)) hn (kk _ rfl)
theorem pt_X_54 (ho : pw_own cx = "Peatland") (hd : decode (pw_cc cx) pc = .ok (.putfield 54, 3)) (hx : 0 ≤ (x : Int32)) (hn : pc + 3 = n) (kk : ∀ w1, w1 = pw_ps w 3 (pw_i x) 4 y → pw_V l g cx Q X n L (st) w1) : pw_V l g cx Q X pc L ((0, y) :: (5, x) :: st) w :=
  pv_put (f := 3) (k := 4) (x := x) pw_cf3 (by decide) (by rw [ho]; exact q_28) rfl hd hx ((fun _ => ⟨rfl, rfl⟩)) hn (kk _ rfl)
theorem pt_X_11 (ho : pw_own cx = "Peatland") (hnm : pw_nm cx = "<init>") (hd : decode (pw_cc cx) pc = .ok (.putfield 11, 3)) (hx : 0 ≤ (0 : Int32)) (hn : pc + 3 = n) (kk : ∀ w1, w1 = pw_ps w 7 0 0 y → pw_V l g cx Q X n L (st) w1) : pw_V l g cx Q X pc L ((16, y) :: (9, 0) :: st) w :=
  pv_putF (f := 7) (k := 0) (x := 0) pw_cf7 (by decide) (by rw [ho]; exact q_29) rfl hnm (by rw [ho]; rfl) hd hx (pw_nq (F := 14) (Or.inr ⟨_, rfl⟩)) hn (kk _ rfl)
theorem pt_X_17 (ho : pw_own cx = "Peatland") (hnm : pw_nm cx = "<init>") (hd : decode (pw_cc cx) pc = .ok (.putfield 17, 3)) (hx : 0 ≤ (0 : Int32)) (hn : pc + 3 = n) (kk : ∀ w1, w1 = pw_ps w 7 0 1 y → pw_V l g cx Q X n L (st) w1) : pw_V l g cx Q X pc L ((17, y) :: (9, 0) :: st) w :=
  pv_putF (f := 7) (k := 1) (x := 0) pw_cf7 (by decide) (by rw [ho]; exact q_22) rfl hnm (by rw [ho]; rfl) hd hx (pw_nq (F := 15) (Or.inr ⟨_, rfl⟩)) hn (kk _ rfl)
theorem pt_X_24 (ho : pw_own cx = "Peatland") (hnm : pw_nm cx = "<init>") (hd : decode (pw_cc cx) pc = .ok (.putfield 24, 3)) (hx : 0 ≤ (0 : Int32)) (hn : pc + 3 = n) (kk : ∀ w1, w1 = pw_ps w 7 0 2 y → pw_V l g cx Q X n L (st) w1) : pw_V l g cx Q X pc L ((25, y) :: (9, 0) :: st) w :=
  pv_putF (f := 7) (k := 2) (x := 0) pw_cf7 (by decide) (by rw [ho]; exact q_38) rfl hnm (by rw [ho]; rfl) hd hx (pw_nq (F := 23) (Or.inl ⟨_, rfl⟩)) hn (kk _ rfl)
theorem pt_X_28 (ho : pw_own cx = "Peatland") (hnm : pw_nm cx = "<init>") (hd : decode (pw_cc cx) pc = .ok (.putfield 28, 3)) (hx : 0 ≤ (0 : Int32)) (hn : pc + 3 = n) (kk : ∀ w1, w1 = pw_ps w 7 0 3 y → pw_V l g cx Q X n L (st) w1) : pw_V l g cx Q X pc L ((24, y) :: (9, 0) :: st) w :=
  pv_putF (f := 7) (k := 3) (x := 0) pw_cf7 (by decide) (by rw [ho]; exact q_39) rfl hnm (by rw [ho]; rfl) hd hx (pw_nq (F := 22) (Or.inl ⟨_, rfl⟩)) hn (kk _ rfl)
theorem pt_X_31 (ho : pw_own cx = "Peatland") (hnm : pw_nm cx = "<init>") (hd : decode (pw_cc cx) pc = .ok (.putfield 31, 3)) (hx : 0 ≤ (0 : Int32)) (hn : pc + 3 = n) (kk : ∀ w1, w1 = pw_ps w 7 0 4 y → pw_V l g cx Q X n L (st) w1) : pw_V l g cx Q X pc L ((22, y) :: (9, 0) :: st) w :=
  pv_putF (f := 7) (k := 4) (x := 0) pw_cf7 (by decide) (by rw [ho]; exact q_40) rfl hnm (by rw [ho]; rfl) hd hx (pw_nq (F := 20) (Or.inl ⟨_, rfl⟩)) hn (kk _ rfl)
theorem pt_X_34 (ho : pw_own cx = "Peatland") (hnm : pw_nm cx = "<init>") (hd : decode (pw_cc cx) pc = .ok (.putfield 34, 3)) (hx : 0 ≤ (0 : Int32)) (hn : pc + 3 = n) (kk : ∀ w1, w1 = pw_ps w 7 0 5 y → pw_V l g cx Q X n L (st) w1) : pw_V l g cx Q X pc L ((27, y) :: (9, 0) :: st) w :=
  pv_putF (f := 7) (k := 5) (x := 0) pw_cf7 (by decide) (by rw [ho]; exact q_41) rfl hnm (by rw [ho]; rfl) hd hx (pw_nq (F := 25) (Or.inl ⟨_, rfl⟩)) hn (kk _ rfl)
theorem pt_X_37 (ho : pw_own cx = "Peatland") (hnm : pw_nm cx = "<init>") (hd : decode (pw_cc cx) pc = .ok (.putfield 37, 3)) (hx : 0 ≤ (0 : Int32)) (hn : pc + 3 = n) (kk : ∀ w1, w1 = pw_ps w 7 0 6 y → pw_V l g cx Q X n L (st) w1) : pw_V l g cx Q X pc L ((23, y) :: (9, 0) :: st) w :=
  pv_putF (f := 7) (k := 6) (x := 0) pw_cf7 (by decide) (by rw [ho]; exact q_42) rfl hnm (by rw [ho]; rfl) hd hx (pw_nq (F := 21) (Or.inl ⟨_, rfl⟩)) hn (kk _ rfl)
theorem pt_Right_7 (ho : pw_own cx = "Peatland$Right") (hnm : pw_nm cx = "<init>") (hd : decode (pw_cc cx) pc = .ok (.putfield 7, 3)) (hx : 0 ≤ (x : Int32)) (hn : pc + 3 = n) (kk : ∀ w1, w1 = pw_ps w 5 (pw_i x) 0 y → pw_V l g cx Q X n L (st) w1) : pw_V l g cx Q X pc L ((0, y) :: (7, x) :: st) w :=
  pv_putF (f := 5) (k := 0) (x := x) pw_cf5 (by decide) (by rw [ho]; exact q_67) rfl hnm (by rw [ho]; rfl) hd hx ((fun _ => ⟨rfl, rfl⟩)) hn (kk _ rfl)
theorem pt_Right_13 (ho : pw_own cx = "Peatland$Right") (hnm : pw_nm cx = "<init>") (hd : decode (pw_cc cx) pc = .ok (.putfield 13, 3)) (hx : 0 ≤ (x : Int32)) (hn : pc + 3 = n) (kk : ∀ w1, w1 = pw_ps w 5 (pw_i x) 1 y → pw_V l g cx Q X n L (st) w1) : pw_V l g cx Q X pc L ((5, y) :: (7, x) :: st) w :=
  pv_putF (f := 5) (k := 1) (x := x) pw_cf5 (by decide) (by rw [ho]; exact q_50) rfl hnm (by rw [ho]; rfl) hd hx (pw_nq (F := 3) (Or.inl ⟨_, rfl⟩)) hn (kk _ rfl)
theorem pt_Right_17 (ho : pw_own cx = "Peatland$Right") (hnm : pw_nm cx = "<init>") (hd : decode (pw_cc cx) pc = .ok (.putfield 17, 3)) (hx : 0 ≤ (x : Int32)) (hn : pc + 3 = n) (kk : ∀ w1, w1 = pw_ps w 5 (pw_i x) 2 y → pw_V l g cx Q X n L (st) w1) : pw_V l g cx Q X pc L ((6, y) :: (7, x) :: st) w :=
  pv_putF (f := 5) (k := 2) (x := x) pw_cf5 (by decide) (by rw [ho]; exact q_68) rfl hnm (by rw [ho]; rfl) hd hx (pw_nq (F := 4) (Or.inl ⟨_, rfl⟩)) hn (kk _ rfl)
theorem pt_Right_21 (ho : pw_own cx = "Peatland$Right") (hnm : pw_nm cx = "<init>") (hd : decode (pw_cc cx) pc = .ok (.putfield 21, 3)) (hx : 0 ≤ (x : Int32)) (hn : pc + 3 = n) (kk : ∀ w1, w1 = pw_ps w 5 (pw_i x) 3 y → pw_V l g cx Q X n L (st) w1) : pw_V l g cx Q X pc L ((0, y) :: (7, x) :: st) w :=
  pv_putF (f := 5) (k := 3) (x := x) pw_cf5 (by decide) (by rw [ho]; exact q_69) rfl hnm (by rw [ho]; rfl) hd hx ((fun _ => ⟨rfl, rfl⟩)) hn (kk _ rfl)
theorem pt_Right_24 (ho : pw_own cx = "Peatland$Right") (hnm : pw_nm cx = "<init>") (hd : decode (pw_cc cx) pc = .ok (.putfield 24, 3)) (hx : 0 ≤ (x : Int32)) (hn : pc + 3 = n) (kk : ∀ w1, w1 = pw_ps w 5 (pw_i x) 4 y → pw_V l g cx Q X n L (st) w1) : pw_V l g cx Q X pc L ((0, y) :: (7, x) :: st) w :=
  pv_putF (f := 5) (k := 4) (x := x) pw_cf5 (by decide) (by rw [ho]; exact q_70) rfl hnm (by rw [ho]; rfl) hd hx ((fun _ => ⟨rfl, rfl⟩)) hn (kk _ rfl)
theorem pt_Square_38 (ho : pw_own cx = "Peatland$Square") (hd : decode (pw_cc cx) pc = .ok (.putfield 38, 3)) (hx : 0 ≤ (x : Int32)) (hn : pc + 3 = n) (kk : ∀ w1, w1 = pw_ps w 3 (pw_i x) 4 y → pw_V l g cx Q X n L (st) w1) : pw_V l g cx Q X pc L ((0, y) :: (5, x) :: st) w :=
  pv_put (f := 3) (k := 4) (x := x) pw_cf3 (by decide) (by rw [ho]; exact q_108) rfl hd hx ((fun _ => ⟨rfl, rfl⟩)) hn (kk _ rfl)
theorem pt_Parcel_34 (ho : pw_own cx = "Peatland$Parcel") (hd : decode (pw_cc cx) pc = .ok (.putfield 34, 3)) (hx : 0 ≤ (x : Int32)) (hn : pc + 3 = n) (kk : ∀ w1, w1 = pw_ps w 3 (pw_i x) 5 y → pw_V l g cx Q X n L (st) w1) : pw_V l g cx Q X pc L ((0, y) :: (5, x) :: st) w :=
  pv_put (f := 3) (k := 5) (x := x) pw_cf3 (by decide) (by rw [ho]; exact q_149) rfl hd hx ((fun _ => ⟨rfl, rfl⟩)) hn (kk _ rfl)
theorem pt_X_223 (ho : pw_own cx = "Peatland") (hd : decode (pw_cc cx) pc = .ok (.putfield 223, 3)) (hx : 0 ≤ (x : Int32)) (hz : y = 0 ∨ y = 1) (hn : pc + 3 = n) (kk : ∀ w1, w1 = pw_ps w 5 (pw_i x) 5 y → pw_V l g cx Q X n L (st) w1) : pw_V l g cx Q X pc L ((0, y) :: (7, x) :: st) w :=
  pv_put (f := 5) (k := 5) (x := x) pw_cf5 (by decide) (by rw [ho]; exact q_159) rfl hd hx ((fun _ => ⟨pw_nz hz, pw_fz hz⟩)) hn (kk _ rfl)
theorem pt_X_134 (ho : pw_own cx = "Peatland") (hd : decode (pw_cc cx) pc = .ok (.putfield 134, 3)) (hx : 0 ≤ (x : Int32)) (hn : pc + 3 = n) (kk : ∀ w1, w1 = pw_ps w 3 (pw_i x) 3 y → pw_V l g cx Q X n L (st) w1) : pw_V l g cx Q X pc L ((5, y) :: (5, x) :: st) w :=
  pv_put (f := 3) (k := 3) (x := x) pw_cf3 (by decide) (by rw [ho]; exact q_160) rfl hd hx (pw_nq (F := 3) (Or.inl ⟨_, rfl⟩)) hn (kk _ rfl)
theorem pt_FieldMap_7 (ho : pw_own cx = "Peatland$FieldMap") (hnm : pw_nm cx = "<init>") (hd : decode (pw_cc cx) pc = .ok (.putfield 7, 3)) (hx : 0 ≤ (x : Int32)) (hn : pc + 3 = n) (kk : ∀ w1, w1 = pw_ps w 2 (pw_i x) 0 y → pw_V l g cx Q X n L (st) w1) : pw_V l g cx Q X pc L ((6, y) :: (4, x) :: st) w :=
  pv_putF (f := 2) (k := 0) (x := x) pw_cf2 (by decide) (by rw [ho]; exact q_174) rfl hnm (by rw [ho]; rfl) hd hx (pw_nq (F := 4) (Or.inl ⟨_, rfl⟩)) hn (kk _ rfl)
theorem pt_FieldMap_13 (ho : pw_own cx = "Peatland$FieldMap") (hnm : pw_nm cx = "<init>") (hd : decode (pw_cc cx) pc = .ok (.putfield 13, 3)) (hx : 0 ≤ (x : Int32)) (hn : pc + 3 = n) (kk : ∀ w1, w1 = pw_ps w 2 (pw_i x) 1 y → pw_V l g cx Q X n L (st) w1) : pw_V l g cx Q X pc L ((0, y) :: (4, x) :: st) w :=
  pv_putF (f := 2) (k := 1) (x := x) pw_cf2 (by decide) (by rw [ho]; exact q_175) rfl hnm (by rw [ho]; rfl) hd hx ((fun _ => ⟨rfl, rfl⟩)) hn (kk _ rfl)
theorem pt_FieldMap_17 (ho : pw_own cx = "Peatland$FieldMap") (hnm : pw_nm cx = "<init>") (hd : decode (pw_cc cx) pc = .ok (.putfield 17, 3)) (hx : 0 ≤ (x : Int32)) (hn : pc + 3 = n) (kk : ∀ w1, w1 = pw_ps w 2 (pw_i x) 2 y → pw_V l g cx Q X n L (st) w1) : pw_V l g cx Q X pc L ((0, y) :: (4, x) :: st) w :=
  pv_putF (f := 2) (k := 2) (x := x) pw_cf2 (by decide) (by rw [ho]; exact q_176) rfl hnm (by rw [ho]; rfl) hd hx ((fun _ => ⟨rfl, rfl⟩)) hn (kk _ rfl)
theorem pt_X_142 (ho : pw_own cx = "Peatland") (hd : decode (pw_cc cx) pc = .ok (.putfield 142, 3)) (hx : 0 ≤ (x : Int32)) (hn : pc + 3 = n) (kk : ∀ w1, w1 = pw_ps w 6 (pw_i x) 7 y → pw_V l g cx Q X n L (st) w1) : pw_V l g cx Q X pc L ((6, y) :: (8, x) :: st) w :=
  pv_put (f := 6) (k := 7) (x := x) pw_cf6 (by decide) (by rw [ho]; exact q_182) rfl hd hx (pw_nq (F := 4) (Or.inl ⟨_, rfl⟩)) hn (kk _ rfl)
theorem pt_X_148 (ho : pw_own cx = "Peatland") (hd : decode (pw_cc cx) pc = .ok (.putfield 148, 3)) (hx : 0 ≤ (x : Int32)) (hn : pc + 3 = n) (kk : ∀ w1, w1 = pw_ps w 6 (pw_i x) 8 y → pw_V l g cx Q X n L (st) w1) : pw_V l g cx Q X pc L ((0, y) :: (8, x) :: st) w :=
  pv_put (f := 6) (k := 8) (x := x) pw_cf6 (by decide) (by rw [ho]; exact q_184) rfl hd hx ((fun _ => ⟨rfl, rfl⟩)) hn (kk _ rfl)
theorem pt_Case_9 (ho : pw_own cx = "Peatland$Case") (hnm : pw_nm cx = "<init>") (hd : decode (pw_cc cx) pc = .ok (.putfield 9, 3)) (hx : 0 ≤ (x : Int32)) (hn : pc + 3 = n) (kk : ∀ w1, w1 = pw_ps w 0 (pw_i x) 1 y → pw_V l g cx Q X n L (st) w1) : pw_V l g cx Q X pc L ((14, y) :: (2, x) :: st) w :=
  pv_putF (f := 0) (k := 1) (x := x) pw_cf0 (by decide) (by rw [ho]; exact q_194) rfl hnm (by rw [ho]; rfl) hd hx (pw_nq (F := 12) (Or.inr ⟨_, rfl⟩)) hn (kk _ rfl)
theorem pt_Case_15 (ho : pw_own cx = "Peatland$Case") (hd : decode (pw_cc cx) pc = .ok (.putfield 15, 3)) (hx : 0 ≤ (x : Int32)) (hn : pc + 3 = n) (kk : ∀ w1, w1 = pw_ps w 0 (pw_i x) 3 y → pw_V l g cx Q X n L (st) w1) : pw_V l g cx Q X pc L ((0, y) :: (2, x) :: st) w :=
  pv_put (f := 0) (k := 3) (x := x) pw_cf0 (by decide) (by rw [ho]; exact q_195) rfl hd hx ((fun _ => ⟨rfl, rfl⟩)) hn (kk _ rfl)
theorem pt_Case_19 (ho : pw_own cx = "Peatland$Case") (hnm : pw_nm cx = "<init>") (hd : decode (pw_cc cx) pc = .ok (.putfield 19, 3)) (hx : 0 ≤ (x : Int32)) (hn : pc + 3 = n) (kk : ∀ w1, w1 = pw_ps w 0 (pw_i x) 0 y → pw_V l g cx Q X n L (st) w1) : pw_V l g cx Q X pc L ((6, y) :: (2, x) :: st) w :=
  pv_putF (f := 0) (k := 0) (x := x) pw_cf0 (by decide) (by rw [ho]; exact q_196) rfl hnm (by rw [ho]; rfl) hd hx (pw_nq (F := 4) (Or.inl ⟨_, rfl⟩)) hn (kk _ rfl)
theorem pt_Case_27 (ho : pw_own cx = "Peatland$Case") (hd : decode (pw_cc cx) pc = .ok (.putfield 27, 3)) (hx : 0 ≤ (x : Int32)) (hn : pc + 3 = n) (kk : ∀ w1, w1 = pw_ps w 0 (pw_i x) 2 y → pw_V l g cx Q X n L (st) w1) : pw_V l g cx Q X pc L ((0, y) :: (2, x) :: st) w :=
  pv_put (f := 0) (k := 2) (x := x) pw_cf0 (by decide) (by rw [ho]; exact q_197) rfl hd hx ((fun _ => ⟨rfl, rfl⟩)) hn (kk _ rfl)
theorem pt_X_180 (ho : pw_own cx = "Peatland") (hd : decode (pw_cc cx) pc = .ok (.putfield 180, 3)) (hx : 0 ≤ (x : Int32)) (hn : pc + 3 = n) (kk : ∀ w1, w1 = pw_ps w 0 (pw_i x) 7 y → pw_V l g cx Q X n L (st) w1) : pw_V l g cx Q X pc L ((0, y) :: (2, x) :: st) w :=
  pv_put (f := 0) (k := 7) (x := x) pw_cf0 (by decide) (by rw [ho]; exact q_213) rfl hd hx ((fun _ => ⟨rfl, rfl⟩)) hn (kk _ rfl)
theorem pt_X_177 (ho : pw_own cx = "Peatland") (hd : decode (pw_cc cx) pc = .ok (.putfield 177, 3)) (hx : 0 ≤ (x : Int32)) (hn : pc + 3 = n) (kk : ∀ w1, w1 = pw_ps w 0 (pw_i x) 6 y → pw_V l g cx Q X n L (st) w1) : pw_V l g cx Q X pc L ((0, y) :: (2, x) :: st) w :=
  pv_put (f := 0) (k := 6) (x := x) pw_cf0 (by decide) (by rw [ho]; exact q_214) rfl hd hx ((fun _ => ⟨rfl, rfl⟩)) hn (kk _ rfl)
theorem pt_Square_54 (ho : pw_own cx = "Peatland$Square") (hd : decode (pw_cc cx) pc = .ok (.putfield 54, 3)) (hx : 0 ≤ (x : Int32)) (hn : pc + 3 = n) (kk : ∀ w1, w1 = pw_ps w 6 (pw_i x) 9 y → pw_V l g cx Q X n L (st) w1) : pw_V l g cx Q X pc L ((2, y) :: (8, x) :: st) w :=
  pv_put (f := 6) (k := 9) (x := x) pw_cf6 (by decide) (by rw [ho]; exact q_231) rfl hd hx (pw_nq (F := 0) (Or.inl ⟨_, rfl⟩)) hn (kk _ rfl)
theorem pt_Square_47 (ho : pw_own cx = "Peatland$Square") (hd : decode (pw_cc cx) pc = .ok (.putfield 47, 3)) (hx : 0 ≤ (x : Int32)) (hn : pc + 3 = n) (kk : ∀ w1, w1 = pw_ps w 6 (pw_i x) 10 y → pw_V l g cx Q X n L (st) w1) : pw_V l g cx Q X pc L ((5, y) :: (8, x) :: st) w :=
  pv_put (f := 6) (k := 10) (x := x) pw_cf6 (by decide) (by rw [ho]; exact q_232) rfl hd hx (pw_nq (F := 3) (Or.inl ⟨_, rfl⟩)) hn (kk _ rfl)
theorem pt_X_174 (ho : pw_own cx = "Peatland") (hd : decode (pw_cc cx) pc = .ok (.putfield 174, 3)) (hx : 0 ≤ (x : Int32)) (hn : pc + 3 = n) (kk : ∀ w1, w1 = pw_ps w 0 (pw_i x) 3 y → pw_V l g cx Q X n L (st) w1) : pw_V l g cx Q X pc L ((0, y) :: (2, x) :: st) w :=
  pv_put (f := 0) (k := 3) (x := x) pw_cf0 (by decide) (by rw [ho]; exact q_215) rfl hd hx ((fun _ => ⟨rfl, rfl⟩)) hn (kk _ rfl)
theorem pt_X_403 (ho : pw_own cx = "Peatland") (hd : decode (pw_cc cx) pc = .ok (.putfield 403, 3)) (hx : 0 ≤ (x : Int32)) (hn : pc + 3 = n) (kk : ∀ w1, w1 = pw_ps w 6 (pw_i x) 9 y → pw_V l g cx Q X n L (st) w1) : pw_V l g cx Q X pc L ((2, y) :: (8, x) :: st) w :=
  pv_put (f := 6) (k := 9) (x := x) pw_cf6 (by decide) (by rw [ho]; exact q_221) rfl hd hx (pw_nq (F := 0) (Or.inl ⟨_, rfl⟩)) hn (kk _ rfl)
theorem pt_X_411 (ho : pw_own cx = "Peatland") (hd : decode (pw_cc cx) pc = .ok (.putfield 411, 3)) (hx : 0 ≤ (x : Int32)) (hn : pc + 3 = n) (kk : ∀ w1, w1 = pw_ps w 6 (pw_i x) 10 y → pw_V l g cx Q X n L (st) w1) : pw_V l g cx Q X pc L ((5, y) :: (8, x) :: st) w :=
  pv_put (f := 6) (k := 10) (x := x) pw_cf6 (by decide) (by rw [ho]; exact q_239) rfl hd hx (pw_nq (F := 3) (Or.inl ⟨_, rfl⟩)) hn (kk _ rfl)
theorem pt_X_193 (ho : pw_own cx = "Peatland") (hd : decode (pw_cc cx) pc = .ok (.putfield 193, 3)) (hx : 0 ≤ (x : Int32)) (hn : pc + 3 = n) (kk : ∀ w1, w1 = pw_ps w 0 (pw_i x) 5 y → pw_V l g cx Q X n L (st) w1) : pw_V l g cx Q X pc L ((0, y) :: (2, x) :: st) w :=
  pv_put (f := 0) (k := 5) (x := x) pw_cf0 (by decide) (by rw [ho]; exact q_222) rfl hd hx ((fun _ => ⟨rfl, rfl⟩)) hn (kk _ rfl)
theorem pt_X_190 (ho : pw_own cx = "Peatland") (hd : decode (pw_cc cx) pc = .ok (.putfield 190, 3)) (hx : 0 ≤ (x : Int32)) (hn : pc + 3 = n) (kk : ∀ w1, w1 = pw_ps w 0 (pw_i x) 4 y → pw_V l g cx Q X n L (st) w1) : pw_V l g cx Q X pc L ((0, y) :: (2, x) :: st) w :=
  pv_put (f := 0) (k := 4) (x := x) pw_cf0 (by decide) (by rw [ho]; exact q_223) rfl hd hx ((fun _ => ⟨rfl, rfl⟩)) hn (kk _ rfl)
theorem pt_X_247 (ho : pw_own cx = "Peatland") (hd : decode (pw_cc cx) pc = .ok (.putfield 247, 3)) (hx : 0 ≤ (0 : Int32)) (hn : pc + 3 = n) (kk : ∀ w1, w1 = pw_ps w 7 0 9 y → pw_V l g cx Q X n L (st) w1) : pw_V l g cx Q X pc L ((0, y) :: (9, 0) :: st) w :=
  pv_put (f := 7) (k := 9) (x := 0) pw_cf7 (by decide) (by rw [ho]; exact q_273) rfl hd hx ((fun _ => ⟨rfl, rfl⟩)) hn (kk _ rfl)
theorem pt_X_250 (ho : pw_own cx = "Peatland") (hd : decode (pw_cc cx) pc = .ok (.putfield 250, 3)) (hx : 0 ≤ (0 : Int32)) (hn : pc + 3 = n) (kk : ∀ w1, w1 = pw_ps w 7 0 10 y → pw_V l g cx Q X n L (st) w1) : pw_V l g cx Q X pc L ((0, y) :: (9, 0) :: st) w :=
  pv_put (f := 7) (k := 10) (x := 0) pw_cf7 (by decide) (by rw [ho]; exact q_274) rfl hd hx ((fun _ => ⟨rfl, rfl⟩)) hn (kk _ rfl)
theorem pt_X_238 (ho : pw_own cx = "Peatland") (hd : decode (pw_cc cx) pc = .ok (.putfield 238, 3)) (hx : 0 ≤ (x : Int32)) (hn : pc + 3 = n) (kk : ∀ w1, w1 = pw_ps w 6 (pw_i x) 5 y → pw_V l g cx Q X n L (st) w1) : pw_V l g cx Q X pc L ((0, y) :: (8, x) :: st) w :=
  pv_put (f := 6) (k := 5) (x := x) pw_cf6 (by decide) (by rw [ho]; exact q_275) rfl hd hx ((fun _ => ⟨rfl, rfl⟩)) hn (kk _ rfl)
theorem pt_Drain_9 (ho : pw_own cx = "Peatland$Drain") (hnm : pw_nm cx = "<init>") (hd : decode (pw_cc cx) pc = .ok (.putfield 9, 3)) (hx : 0 ≤ (x : Int32)) (hn : pc + 3 = n) (kk : ∀ w1, w1 = pw_ps w 1 (pw_i x) 0 y → pw_V l g cx Q X n L (st) w1) : pw_V l g cx Q X pc L ((8, y) :: (3, x) :: st) w :=
  pv_putF (f := 1) (k := 0) (x := x) pw_cf1 (by decide) (by rw [ho]; exact q_281) rfl hnm (by rw [ho]; rfl) hd hx (pw_nq (F := 6) (Or.inl ⟨_, rfl⟩)) hn (kk _ rfl)
theorem pt_Drain_15 (ho : pw_own cx = "Peatland$Drain") (hnm : pw_nm cx = "<init>") (hd : decode (pw_cc cx) pc = .ok (.putfield 15, 3)) (hx : 0 ≤ (x : Int32)) (hn : pc + 3 = n) (kk : ∀ w1, w1 = pw_ps w 1 (pw_i x) 1 y → pw_V l g cx Q X n L (st) w1) : pw_V l g cx Q X pc L ((8, y) :: (3, x) :: st) w :=
  pv_putF (f := 1) (k := 1) (x := x) pw_cf1 (by decide) (by rw [ho]; exact q_282) rfl hnm (by rw [ho]; rfl) hd hx (pw_nq (F := 6) (Or.inl ⟨_, rfl⟩)) hn (kk _ rfl)
theorem pt_X_278 (ho : pw_own cx = "Peatland") (hd : decode (pw_cc cx) pc = .ok (.putfield 278, 3)) (hx : 0 ≤ (x : Int32)) (hn : pc + 3 = n) (kk : ∀ w1, w1 = pw_ps w 6 (pw_i x) 4 y → pw_V l g cx Q X n L (st) w1) : pw_V l g cx Q X pc L ((0, y) :: (8, x) :: st) w :=
  pv_put (f := 6) (k := 4) (x := x) pw_cf6 (by decide) (by rw [ho]; exact q_294) rfl hd hx ((fun _ => ⟨rfl, rfl⟩)) hn (kk _ rfl)
theorem pt_X_281 (ho : pw_own cx = "Peatland") (hd : decode (pw_cc cx) pc = .ok (.putfield 281, 3)) (hx : 0 ≤ (0 : Int32)) (hn : pc + 3 = n) (kk : ∀ w1, w1 = pw_ps w 7 0 8 y → pw_V l g cx Q X n L (st) w1) : pw_V l g cx Q X pc L ((0, y) :: (9, 0) :: st) w :=
  pv_put (f := 7) (k := 8) (x := 0) pw_cf7 (by decide) (by rw [ho]; exact q_303) rfl hd hx ((fun _ => ⟨rfl, rfl⟩)) hn (kk _ rfl)
theorem pt_X_288 (ho : pw_own cx = "Peatland") (hd : decode (pw_cc cx) pc = .ok (.putfield 288, 3)) (hx : 0 ≤ (x : Int32)) (hn : pc + 3 = n) (kk : ∀ w1, w1 = pw_ps w 6 (pw_i x) 6 y → pw_V l g cx Q X n L (st) w1) : pw_V l g cx Q X pc L ((0, y) :: (8, x) :: st) w :=
  pv_put (f := 6) (k := 6) (x := x) pw_cf6 (by decide) (by rw [ho]; exact q_304) rfl hd hx ((fun _ => ⟨rfl, rfl⟩)) hn (kk _ rfl)
theorem pt_X_362 (ho : pw_own cx = "Peatland") (hd : decode (pw_cc cx) pc = .ok (.putfield 362, 3)) (hx : 0 ≤ (0 : Int32)) (hn : pc + 3 = n) (kk : ∀ w1, w1 = pw_ps w 7 0 11 y → pw_V l g cx Q X n L (st) w1) : pw_V l g cx Q X pc L ((0, y) :: (9, 0) :: st) w :=
  pv_put (f := 7) (k := 11) (x := 0) pw_cf7 (by decide) (by rw [ho]; exact q_313) rfl hd hx ((fun _ => ⟨rfl, rfl⟩)) hn (kk _ rfl)
theorem pt_X_367 (ho : pw_own cx = "Peatland") (hd : decode (pw_cc cx) pc = .ok (.putfield 367, 3)) (hx : 0 ≤ (x : Int32)) (hn : pc + 3 = n) (kk : ∀ w1, w1 = pw_ps w 4 (pw_i x) 3 y → pw_V l g cx Q X n L (st) w1) : pw_V l g cx Q X pc L ((0, y) :: (6, x) :: st) w :=
  pv_put (f := 4) (k := 3) (x := x) pw_cf4 (by decide) (by rw [ho]; exact q_322) rfl hd hx ((fun _ => ⟨rfl, rfl⟩)) hn (kk _ rfl)
theorem pt_Drain_18 (ho : pw_own cx = "Peatland$Drain") (hd : decode (pw_cc cx) pc = .ok (.putfield 18, 3)) (hx : 0 ≤ (x : Int32)) (hn : pc + 3 = n) (kk : ∀ w1, w1 = pw_ps w 6 (pw_i x) 5 y → pw_V l g cx Q X n L (st) w1) : pw_V l g cx Q X pc L ((0, y) :: (8, x) :: st) w :=
  pv_put (f := 6) (k := 5) (x := x) pw_cf6 (by decide) (by rw [ho]; exact q_327) rfl hd hx ((fun _ => ⟨rfl, rfl⟩)) hn (kk _ rfl)
theorem pt_X_145 (ho : pw_own cx = "Peatland") (hd : decode (pw_cc cx) pc = .ok (.putfield 145, 3)) (hx : 0 ≤ (0 : Int32)) (hn : pc + 3 = n) (kk : ∀ w1, w1 = pw_ps w 7 0 7 y → pw_V l g cx Q X n L (st) w1) : pw_V l g cx Q X pc L ((0, y) :: (9, 0) :: st) w :=
  pv_put (f := 7) (k := 7) (x := 0) pw_cf7 (by decide) (by rw [ho]; exact q_183) rfl hd hx ((fun _ => ⟨rfl, rfl⟩)) hn (kk _ rfl)
theorem pt_X_120 (ho : pw_own cx = "Peatland") (hd : decode (pw_cc cx) pc = .ok (.putfield 120, 3)) (hx : 0 ≤ (x : Int32)) (hn : pc + 3 = n) (kk : ∀ w1, w1 = pw_ps w 3 (pw_i x) 2 y → pw_V l g cx Q X n L (st) w1) : pw_V l g cx Q X pc L ((6, y) :: (5, x) :: st) w :=
  pv_put (f := 3) (k := 2) (x := x) pw_cf3 (by decide) (by rw [ho]; exact q_172) rfl hd hx (pw_nq (F := 4) (Or.inl ⟨_, rfl⟩)) hn (kk _ rfl)
theorem pt_X_76 (ho : pw_own cx = "Peatland") (hd : decode (pw_cc cx) pc = .ok (.putfield 76, 3)) (hx : 0 ≤ (x : Int32)) (hz : y = 0 ∨ y = 1) (hn : pc + 3 = n) (kk : ∀ w1, w1 = pw_ps w 4 (pw_i x) 2 y → pw_V l g cx Q X n L (st) w1) : pw_V l g cx Q X pc L ((0, y) :: (6, x) :: st) w :=
  pv_put (f := 4) (k := 2) (x := x) pw_cf4 (by decide) (by rw [ho]; exact q_130) rfl hd hx ((fun _ => ⟨pw_nz hz, pw_fz hz⟩)) hn (kk _ rfl)
theorem nwd_0 : ∀ (ad : Nat → Nat → Nat) k, k < 8 → defaultValue (pw_t0 k) = pw_ph ad (pw_ty 0 k, pw_df 0 k) := by
  intro ad k hk
  have h : k = 0 ∨ k = 1 ∨ k = 2 ∨ k = 3 ∨ k = 4 ∨ k = 5 ∨ k = 6 ∨ k = 7 := by omega
  rcases h with rfl | rfl | rfl | rfl | rfl | rfl | rfl | rfl <;> rfl
theorem nw_0 {index : Nat} (hl : Cond.classLink (pw_own cx) index "Peatland$Case" ∈ pw_g) (hd : decode (pw_cc cx) pc = .ok (.new index, 3)) (hr : pw_rm w 0 8) (hn : pc + 3 = n) (kk : ∀ w1, w1 = pw_nw w 0 0 8 → pw_V l g cx Q X n L ((2, nI (pw_nv w 0)) :: st) w1) : pw_V l g cx Q X pc L (st) w :=
  pv_new pw_cf0 nwd_0 hl q_574 q_201 hd hr hn (kk _ rfl)
theorem nwd_1 : ∀ (ad : Nat → Nat → Nat) k, k < 2 → defaultValue (pw_t1 k) = pw_ph ad (pw_ty 1 k, pw_df 1 k) := by
  intro ad k hk
  have h : k = 0 ∨ k = 1 := by omega
  rcases h with rfl | rfl <;> rfl
theorem nw_1 {index : Nat} (hl : Cond.classLink (pw_own cx) index "Peatland$Drain" ∈ pw_g) (hd : decode (pw_cc cx) pc = .ok (.new index, 3)) (hr : pw_rm w 1 2) (hn : pc + 3 = n) (kk : ∀ w1, w1 = pw_nw w 1 0 2 → pw_V l g cx Q X n L ((3, nI (pw_nv w 1)) :: st) w1) : pw_V l g cx Q X pc L (st) w :=
  pv_new pw_cf1 nwd_1 hl q_575 q_284 hd hr hn (kk _ rfl)
theorem nwd_2 : ∀ (ad : Nat → Nat → Nat) k, k < 3 → defaultValue (pw_t2 k) = pw_ph ad (pw_ty 2 k, pw_df 2 k) := by
  intro ad k hk
  have h : k = 0 ∨ k = 1 ∨ k = 2 := by omega
  rcases h with rfl | rfl | rfl <;> rfl
theorem nw_2 {index : Nat} (hl : Cond.classLink (pw_own cx) index "Peatland$FieldMap" ∈ pw_g) (hd : decode (pw_cc cx) pc = .ok (.new index, 3)) (hr : pw_rm w 2 3) (hn : pc + 3 = n) (kk : ∀ w1, w1 = pw_nw w 2 0 3 → pw_V l g cx Q X n L ((4, nI (pw_nv w 2)) :: st) w1) : pw_V l g cx Q X pc L (st) w :=
  pv_new pw_cf2 nwd_2 hl q_576 q_179 hd hr hn (kk _ rfl)
theorem nwd_3 : ∀ (ad : Nat → Nat → Nat) k, k < 6 → defaultValue (pw_t3 k) = pw_ph ad (pw_ty 3 k, pw_df 3 k) := by
  intro ad k hk
  have h : k = 0 ∨ k = 1 ∨ k = 2 ∨ k = 3 ∨ k = 4 ∨ k = 5 := by omega
  rcases h with rfl | rfl | rfl | rfl | rfl | rfl <;> rfl
theorem nw_3 {index : Nat} (hl : Cond.classLink (pw_own cx) index "Peatland$Parcel" ∈ pw_g) (hd : decode (pw_cc cx) pc = .ok (.new index, 3)) (hr : pw_rm w 3 6) (hn : pc + 3 = n) (kk : ∀ w1, w1 = pw_nw w 3 0 6 → pw_V l g cx Q X n L ((5, nI (pw_nv w 3)) :: st) w1) : pw_V l g cx Q X pc L (st) w :=
  pv_new pw_cf3 nwd_3 hl q_577 q_46 hd hr hn (kk _ rfl)
theorem nwd_4 : ∀ (ad : Nat → Nat → Nat) k, k < 4 → defaultValue (pw_t4 k) = pw_ph ad (pw_ty 4 k, pw_df 4 k) := by
  intro ad k hk
  have h : k = 0 ∨ k = 1 ∨ k = 2 ∨ k = 3 := by omega
  rcases h with rfl | rfl | rfl | rfl <;> rfl
theorem nw_4 {index : Nat} (hl : Cond.classLink (pw_own cx) index "Peatland$Person" ∈ pw_g) (hd : decode (pw_cc cx) pc = .ok (.new index, 3)) (hr : pw_rm w 4 4) (hn : pc + 3 = n) (kk : ∀ w1, w1 = pw_nw w 4 0 4 → pw_V l g cx Q X n L ((6, nI (pw_nv w 4)) :: st) w1) : pw_V l g cx Q X pc L (st) w :=
  pv_new pw_cf4 nwd_4 hl q_578 q_25 hd hr hn (kk _ rfl)
theorem nwd_5 : ∀ (ad : Nat → Nat → Nat) k, k < 6 → defaultValue (pw_t5 k) = pw_ph ad (pw_ty 5 k, pw_df 5 k) := by
  intro ad k hk
  have h : k = 0 ∨ k = 1 ∨ k = 2 ∨ k = 3 ∨ k = 4 ∨ k = 5 := by omega
  rcases h with rfl | rfl | rfl | rfl | rfl | rfl <;> rfl
theorem nw_5 {index : Nat} (hl : Cond.classLink (pw_own cx) index "Peatland$Right" ∈ pw_g) (hd : decode (pw_cc cx) pc = .ok (.new index, 3)) (hr : pw_rm w 5 6) (hn : pc + 3 = n) (kk : ∀ w1, w1 = pw_nw w 5 0 6 → pw_V l g cx Q X n L ((7, nI (pw_nv w 5)) :: st) w1) : pw_V l g cx Q X pc L (st) w :=
  pv_new pw_cf5 nwd_5 hl q_579 q_57 hd hr hn (kk _ rfl)
theorem nwd_6 : ∀ (ad : Nat → Nat → Nat) k, k < 11 → defaultValue (pw_t6 k) = pw_ph ad (pw_ty 6 k, pw_df 6 k) := by
  intro ad k hk
  have h : k = 0 ∨ k = 1 ∨ k = 2 ∨ k = 3 ∨ k = 4 ∨ k = 5 ∨ k = 6 ∨ k = 7 ∨ k = 8 ∨ k = 9 ∨ k = 10 := by omega
  rcases h with rfl | rfl | rfl | rfl | rfl | rfl | rfl | rfl | rfl | rfl | rfl <;> rfl
theorem nw_6 {index : Nat} (hl : Cond.classLink (pw_own cx) index "Peatland$Square" ∈ pw_g) (hd : decode (pw_cc cx) pc = .ok (.new index, 3)) (hr : pw_rm w 6 11) (hn : pc + 3 = n) (kk : ∀ w1, w1 = pw_nw w 6 0 11 → pw_V l g cx Q X n L ((8, nI (pw_nv w 6)) :: st) w1) : pw_V l g cx Q X pc L (st) w :=
  pv_new pw_cf6 nwd_6 hl q_580 q_32 hd hr hn (kk _ rfl)
theorem nwd_7 : ∀ (ad : Nat → Nat → Nat) k, k < 12 → defaultValue (pw_t7 k) = pw_ph ad (pw_ty 7 k, pw_df 7 k) := by
  intro ad k hk
  have h : k = 0 ∨ k = 1 ∨ k = 2 ∨ k = 3 ∨ k = 4 ∨ k = 5 ∨ k = 6 ∨ k = 7 ∨ k = 8 ∨ k = 9 ∨ k = 10 ∨ k = 11 := by omega
  rcases h with rfl | rfl | rfl | rfl | rfl | rfl | rfl | rfl | rfl | rfl | rfl | rfl <;> rfl
theorem nw0_7 {index : Nat} (g0 : pw_nv w 7 = 0) (hl : Cond.classLink (pw_own cx) index "Peatland" ∈ pw_g) (hd : decode (pw_cc cx) pc = .ok (.new index, 3)) (hr : pw_rm w 7 12) (hn : pc + 3 = n) (kk : ∀ w1, w1 = pw_nw w 7 0 12 → pw_V l g cx Q X n L ((9, 0) :: st) w1) : pw_V l g cx Q X pc L (st) w := by
  refine pv_new pw_cf7 nwd_7 hl q_581 q_62 hd hr hn ?_
  rw [g0]; exact kk _ rfl
theorem nwd_8 : ∀ (ad : Nat → Nat → Nat) k, k < 2 → defaultValue (pw_t8 k) = pw_ph ad (pw_ty 8 k, pw_df 8 k) := by
  intro ad k hk
  have h : k = 0 ∨ k = 1 := by omega
  rcases h with rfl | rfl <;> rfl
theorem nw0_8 {index : Nat} (g0 : pw_nv w 8 = 0) (hl : Cond.classLink (pw_own cx) index "Peatland$Drain" ∈ pw_g) (hd : decode (pw_cc cx) pc = .ok (.new index, 3)) (hr : pw_rm w 8 2) (hn : pc + 3 = n) (kk : ∀ w1, w1 = pw_nw w 8 0 2 → pw_V l g cx Q X n L ((10, 0) :: st) w1) : pw_V l g cx Q X pc L (st) w := by
  refine pv_new pw_cf8 nwd_8 hl q_575 q_284 hd hr hn ?_
  rw [g0]; exact kk _ rfl
theorem pt_h1_324 : ∀ w ∈ vx_atS "Peatland" 324 (pw_en 1) pw_exn, w ∈ pw_g ∨ w ∈ pw_hw := by decide +kernel
theorem pt_g1_320_324 : ∀ w ∈ Cond.classLink "Peatland" 320 (pw_en 1) :: Cond.initialized (pw_en 1) :: vx_atS "Peatland" 324 (pw_en 1) pw_exn, vx_ot w = true := by decide +kernel
theorem pt_h2_376 : ∀ w ∈ vx_atS "Peatland" 376 (pw_en 2) pw_exn, w ∈ pw_g ∨ w ∈ pw_hw := by decide +kernel
theorem pt_g2_372_376 : ∀ w ∈ Cond.classLink "Peatland" 372 (pw_en 2) :: Cond.initialized (pw_en 2) :: vx_atS "Peatland" 376 (pw_en 2) pw_exn, vx_ot w = true := by decide +kernel
theorem pt_h3_381 : ∀ w ∈ vx_atS "Peatland" 381 (pw_en 3) pw_exn, w ∈ pw_g ∨ w ∈ pw_hw := by decide +kernel
theorem pt_g3_377_381 : ∀ w ∈ Cond.classLink "Peatland" 377 (pw_en 3) :: Cond.initialized (pw_en 3) :: vx_atS "Peatland" 381 (pw_en 3) pw_exn, vx_ot w = true := by decide +kernel
theorem pw_mw_abs {index : Nat} (hl : Cond.methodLink (pw_own cx) index Lib.Math.abs.name ∈ pw_g) (hR : 1 ≤ pw_fr cx ∧ 21 ≤ pw_lo cx) : pw_mw index cx Lib.Math.abs.name Lib.Math.abs.code 1 := ⟨hl, q_582, q_583, q_584, hR⟩
theorem pw_mw_max {index : Nat} (hl : Cond.methodLink (pw_own cx) index Lib.Math.max.name ∈ pw_g) (hR : 1 ≤ pw_fr cx ∧ 21 ≤ pw_lo cx) : pw_mw index cx Lib.Math.max.name Lib.Math.max.code 2 := ⟨hl, q_585, q_583, q_586, hR⟩
theorem pw_mw_min {index : Nat} (hl : Cond.methodLink (pw_own cx) index Lib.Math.min.name ∈ pw_g) (hR : 1 ≤ pw_fr cx ∧ 21 ≤ pw_lo cx) : pw_mw index cx Lib.Math.min.name Lib.Math.min.code 2 := ⟨hl, q_587, q_583, q_588, hR⟩
end PVL
