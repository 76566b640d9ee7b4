section PVL
variable {l : Launch} {g : pw_G} {cx : pw_C} {Q : pw_W → Int32 → Prop} {X : pw_W → Nat → Prop} {pc n : Nat} {L st : List (Nat × Int32)} {w : pw_W} {x y j : Int32}
theorem gt_Square_9 (ho : pw_own cx = "Peatland$Square") (hd : decode (pw_cc cx) pc = .ok (.getfield 9, 3)) (hx : 0 ≤ (x : Int32)) (hn : pc + 3 = n) (k : pw_V l g cx Q X n L ((12, w.1 6 (pw_i x) 2) :: st) w) : pw_V l g cx Q X pc L ((8, x) :: st) w := by
  refine pv_get (f := 6) (k := 2) pw_cf6 (by decide) (by rw [ho]; exact q_14) hd hx hn (fun _ => ?_)
  show pw_V l g cx Q X n L ((12, w.1 6 (pw_i x) 2) :: st) w
  exact k
theorem gt_Square_35 (ho : pw_own cx = "Peatland$Square") (hd : decode (pw_cc cx) pc = .ok (.getfield 35, 3)) (hx : 0 ≤ (x : Int32)) (hn : pc + 3 = n) (k : pw_V l g cx Q X n L ((0, w.1 3 (pw_i x) 0) :: st) w) : pw_V l g cx Q X pc L ((5, x) :: st) w := by
  refine pv_get (f := 3) (k := 0) pw_cf3 (by decide) (by rw [ho]; exact q_21) hd hx hn (fun _ => ?_)
  show pw_V l g cx Q X n L ((0, w.1 3 (pw_i x) 0) :: st) w
  exact k
theorem gt_X_17 (ho : pw_own cx = "Peatland") (hd : decode (pw_cc cx) pc = .ok (.getfield 17, 3)) (hx : 0 ≤ (0 : Int32)) (hz : w.1 7 0 1 = 0) (hn : pc + 3 = n) (k : pw_V l g cx Q X n L ((17, 0) :: st) w) : pw_V l g cx Q X pc L ((9, 0) :: st) w := by
  refine pv_get (f := 7) (k := 1) pw_cf7 (by decide) (by rw [ho]; exact q_22) hd hx hn (fun _ => ?_)
  show pw_V l g cx Q X n L ((17, w.1 7 0 1) :: st) w
  rw [hz]; exact k
theorem gt_X_11 (ho : pw_own cx = "Peatland") (hd : decode (pw_cc cx) pc = .ok (.getfield 11, 3)) (hx : 0 ≤ (0 : Int32)) (hz : w.1 7 0 0 = 0) (hn : pc + 3 = n) (k : pw_V l g cx Q X n L ((16, 0) :: st) w) : pw_V l g cx Q X pc L ((9, 0) :: st) w := by
  refine pv_get (f := 7) (k := 0) pw_cf7 (by decide) (by rw [ho]; exact q_29) hd hx hn (fun _ => ?_)
  show pw_V l g cx Q X n L ((16, w.1 7 0 0) :: st) w
  rw [hz]; exact k
theorem gt_X_24 (ho : pw_own cx = "Peatland") (hd : decode (pw_cc cx) pc = .ok (.getfield 24, 3)) (hx : 0 ≤ (0 : Int32)) (hz : w.1 7 0 2 = 0) (hn : pc + 3 = n) (k : pw_V l g cx Q X n L ((25, 0) :: st) w) : pw_V l g cx Q X pc L ((9, 0) :: st) w := by
  refine pv_get (f := 7) (k := 2) pw_cf7 (by decide) (by rw [ho]; exact q_38) hd hx hn (fun _ => ?_)
  show pw_V l g cx Q X n L ((25, w.1 7 0 2) :: st) w
  rw [hz]; exact k
theorem gt_X_34 (ho : pw_own cx = "Peatland") (hd : decode (pw_cc cx) pc = .ok (.getfield 34, 3)) (hx : 0 ≤ (0 : Int32)) (hz : w.1 7 0 5 = 0) (hn : pc + 3 = n) (k : pw_V l g cx Q X n L ((27, 0) :: st) w) : pw_V l g cx Q X pc L ((9, 0) :: st) w := by
  refine pv_get (f := 7) (k := 5) pw_cf7 (by decide) (by rw [ho]; exact q_41) hd hx hn (fun _ => ?_)
  show pw_V l g cx Q X n L ((27, w.1 7 0 5) :: st) w
  rw [hz]; exact k
theorem gt_Right_13 (ho : pw_own cx = "Peatland$Right") (hd : decode (pw_cc cx) pc = .ok (.getfield 13, 3)) (hx : 0 ≤ (x : Int32)) (hn : pc + 3 = n) (k : pw_V l g cx Q X n L ((5, w.1 5 (pw_i x) 1) :: st) w) : pw_V l g cx Q X pc L ((7, x) :: st) w := by
  refine pv_get (f := 5) (k := 1) pw_cf5 (by decide) (by rw [ho]; exact q_50) hd hx hn (fun _ => ?_)
  show pw_V l g cx Q X n L ((5, w.1 5 (pw_i x) 1) :: st) w
  exact k
theorem gt_Right_27 (ho : pw_own cx = "Peatland$Right") (hd : decode (pw_cc cx) pc = .ok (.getfield 27, 3)) (hx : 0 ≤ (x : Int32)) (hn : pc + 3 = n) (k : pw_V l g cx Q X n L ((0, w.1 5 (pw_i x) 5) :: st) w) : pw_V l g cx Q X pc L ((7, x) :: st) w := by
  refine pv_get (f := 5) (k := 5) pw_cf5 (by decide) (by rw [ho]; exact q_51) hd hx hn (fun _ => ?_)
  show pw_V l g cx Q X n L ((0, w.1 5 (pw_i x) 5) :: st) w
  exact k
theorem gt_X_342 (ho : pw_own cx = "Peatland") (hd : decode (pw_cc cx) pc = .ok (.getfield 342, 3)) (hx : 0 ≤ (x : Int32)) (hn : pc + 3 = n) (k : pw_V l g cx Q X n L ((0, w.1 5 (pw_i x) 0) :: st) w) : pw_V l g cx Q X pc L ((7, x) :: st) w := by
  refine pv_get (f := 5) (k := 0) pw_cf5 (by decide) (by rw [ho]; exact q_54) hd hx hn (fun _ => ?_)
  show pw_V l g cx Q X n L ((0, w.1 5 (pw_i x) 0) :: st) w
  exact k
theorem gt_X_346 (ho : pw_own cx = "Peatland") (hd : decode (pw_cc cx) pc = .ok (.getfield 346, 3)) (hx : 0 ≤ (x : Int32)) (hn : pc + 3 = n) (k : pw_V l g cx Q X n L ((6, w.1 5 (pw_i x) 2) :: st) w) : pw_V l g cx Q X pc L ((7, x) :: st) w := by
  refine pv_get (f := 5) (k := 2) pw_cf5 (by decide) (by rw [ho]; exact q_55) hd hx hn (fun _ => ?_)
  show pw_V l g cx Q X n L ((6, w.1 5 (pw_i x) 2) :: st) w
  exact k
theorem gt_X_426 (ho : pw_own cx = "Peatland") (hd : decode (pw_cc cx) pc = .ok (.getfield 426, 3)) (hx : 0 ≤ (x : Int32)) (hn : pc + 3 = n) (k : pw_V l g cx Q X n L ((0, w.1 5 (pw_i x) 3) :: st) w) : pw_V l g cx Q X pc L ((7, x) :: st) w := by
  refine pv_get (f := 5) (k := 3) pw_cf5 (by decide) (by rw [ho]; exact q_71) hd hx hn (fun _ => ?_)
  show pw_V l g cx Q X n L ((0, w.1 5 (pw_i x) 3) :: st) w
  exact k
theorem gt_X_104 (ho : pw_own cx = "Peatland") (hd : decode (pw_cc cx) pc = .ok (.getfield 104, 3)) (hx : 0 ≤ (x : Int32)) (hn : pc + 3 = n) (k : pw_V l g cx Q X n L ((5, w.1 6 (pw_i x) 1) :: st) w) : pw_V l g cx Q X pc L ((8, x) :: st) w := by
  refine pv_get (f := 6) (k := 1) pw_cf6 (by decide) (by rw [ho]; exact q_98) hd hx hn (fun _ => ?_)
  show pw_V l g cx Q X n L ((5, w.1 6 (pw_i x) 1) :: st) w
  exact k
theorem gt_X_108 (ho : pw_own cx = "Peatland") (hd : decode (pw_cc cx) pc = .ok (.getfield 108, 3)) (hx : 0 ≤ (x : Int32)) (hn : pc + 3 = n) (k : pw_V l g cx Q X n L ((0, w.1 6 (pw_i x) 0) :: st) w) : pw_V l g cx Q X pc L ((8, x) :: st) w := by
  refine pv_get (f := 6) (k := 0) pw_cf6 (by decide) (by rw [ho]; exact q_99) hd hx hn (fun _ => ?_)
  show pw_V l g cx Q X n L ((0, w.1 6 (pw_i x) 0) :: st) w
  exact k
theorem gt_Parcel_23 (ho : pw_own cx = "Peatland$Parcel") (hd : decode (pw_cc cx) pc = .ok (.getfield 23, 3)) (hx : 0 ≤ (x : Int32)) (hn : pc + 3 = n) (k : pw_V l g cx Q X n L ((5, w.1 3 (pw_i x) 3) :: st) w) : pw_V l g cx Q X pc L ((5, x) :: st) w := by
  refine pv_get (f := 3) (k := 3) pw_cf3 (by decide) (by rw [ho]; exact q_103) hd hx hn (fun _ => ?_)
  show pw_V l g cx Q X n L ((5, w.1 3 (pw_i x) 3) :: st) w
  exact k
theorem gt_Square_15 (ho : pw_own cx = "Peatland$Square") (hd : decode (pw_cc cx) pc = .ok (.getfield 15, 3)) (hx : 0 ≤ (x : Int32)) (hn : pc + 3 = n) (k : pw_V l g cx Q X n L ((0, w.1 6 (pw_i x) 3) :: st) w) : pw_V l g cx Q X pc L ((8, x) :: st) w := by
  refine pv_get (f := 6) (k := 3) pw_cf6 (by decide) (by rw [ho]; exact q_15) hd hx hn (fun _ => ?_)
  show pw_V l g cx Q X n L ((0, w.1 6 (pw_i x) 3) :: st) w
  exact k
theorem gt_Square_31 (ho : pw_own cx = "Peatland$Square") (hd : decode (pw_cc cx) pc = .ok (.getfield 31, 3)) (hx : 0 ≤ (x : Int32)) (hn : pc + 3 = n) (k : pw_V l g cx Q X n L ((5, w.1 6 (pw_i x) 1) :: st) w) : pw_V l g cx Q X pc L ((8, x) :: st) w := by
  refine pv_get (f := 6) (k := 1) pw_cf6 (by decide) (by rw [ho]; exact q_20) hd hx hn (fun _ => ?_)
  show pw_V l g cx Q X n L ((5, w.1 6 (pw_i x) 1) :: st) w
  exact k
theorem gt_Square_38 (ho : pw_own cx = "Peatland$Square") (hd : decode (pw_cc cx) pc = .ok (.getfield 38, 3)) (hx : 0 ≤ (x : Int32)) (hn : pc + 3 = n) (k : pw_V l g cx Q X n L ((0, w.1 3 (pw_i x) 4) :: st) w) : pw_V l g cx Q X pc L ((5, x) :: st) w := by
  refine pv_get (f := 3) (k := 4) pw_cf3 (by decide) (by rw [ho]; exact q_108) hd hx hn (fun _ => ?_)
  show pw_V l g cx Q X n L ((0, w.1 3 (pw_i x) 4) :: st) w
  exact k
theorem gt_X_119 (ho : pw_own cx = "Peatland") (hd : decode (pw_cc cx) pc = .ok (.getfield 119, 3)) (hx : 0 ≤ (x : Int32)) (hn : pc + 3 = n) (k : pw_V l g cx Q X n L ((0, w.1 3 (pw_i x) 0) :: st) w) : pw_V l g cx Q X pc L ((5, x) :: st) w := by
  refine pv_get (f := 3) (k := 0) pw_cf3 (by decide) (by rw [ho]; exact q_110) hd hx hn (fun _ => ?_)
  show pw_V l g cx Q X n L ((0, w.1 3 (pw_i x) 0) :: st) w
  exact k
theorem gt_X_76 (ho : pw_own cx = "Peatland") (hd : decode (pw_cc cx) pc = .ok (.getfield 76, 3)) (hx : 0 ≤ (x : Int32)) (hn : pc + 3 = n) (k : pw_V l g cx Q X n L ((0, w.1 4 (pw_i x) 2) :: st) w) : pw_V l g cx Q X pc L ((6, x) :: st) w := by
  refine pv_get (f := 4) (k := 2) pw_cf4 (by decide) (by rw [ho]; exact q_130) hd hx hn (fun _ => ?_)
  show pw_V l g cx Q X n L ((0, w.1 4 (pw_i x) 2) :: st) w
  exact k
theorem gt_Parcel_34 (ho : pw_own cx = "Peatland$Parcel") (hd : decode (pw_cc cx) pc = .ok (.getfield 34, 3)) (hx : 0 ≤ (x : Int32)) (hn : pc + 3 = n) (k : pw_V l g cx Q X n L ((0, w.1 3 (pw_i x) 5) :: st) w) : pw_V l g cx Q X pc L ((5, x) :: st) w := by
  refine pv_get (f := 3) (k := 5) pw_cf3 (by decide) (by rw [ho]; exact q_149) hd hx hn (fun _ => ?_)
  show pw_V l g cx Q X n L ((0, w.1 3 (pw_i x) 5) :: st) w
  exact k
theorem gt_Parcel_9 (ho : pw_own cx = "Peatland$Parcel") (hd : decode (pw_cc cx) pc = .ok (.getfield 9, 3)) (hx : 0 ≤ (x : Int32)) (hn : pc + 3 = n) (k : pw_V l g cx Q X n L ((13, w.1 3 (pw_i x) 1) :: st) w) : pw_V l g cx Q X pc L ((5, x) :: st) w := by
  refine pv_get (f := 3) (k := 1) pw_cf3 (by decide) (by rw [ho]; exact q_4) hd hx hn (fun _ => ?_)
  show pw_V l g cx Q X n L ((13, w.1 3 (pw_i x) 1) :: st) w
  exact k
theorem gt_X_54 (ho : pw_own cx = "Peatland") (hd : decode (pw_cc cx) pc = .ok (.getfield 54, 3)) (hx : 0 ≤ (x : Int32)) (hn : pc + 3 = n) (k : pw_V l g cx Q X n L ((0, w.1 3 (pw_i x) 4) :: st) w) : pw_V l g cx Q X pc L ((5, x) :: st) w := by
  refine pv_get (f := 3) (k := 4) pw_cf3 (by decide) (by rw [ho]; exact q_28) hd hx hn (fun _ => ?_)
  show pw_V l g cx Q X n L ((0, w.1 3 (pw_i x) 4) :: st) w
  exact k
theorem gt_X_120 (ho : pw_own cx = "Peatland") (hd : decode (pw_cc cx) pc = .ok (.getfield 120, 3)) (hx : 0 ≤ (x : Int32)) (hn : pc + 3 = n) (k : pw_V l g cx Q X n L ((6, w.1 3 (pw_i x) 2) :: st) w) : pw_V l g cx Q X pc L ((5, x) :: st) w := by
  refine pv_get (f := 3) (k := 2) pw_cf3 (by decide) (by rw [ho]; exact q_172) hd hx hn (fun _ => ?_)
  show pw_V l g cx Q X n L ((6, w.1 3 (pw_i x) 2) :: st) w
  exact k
theorem gt_X_28 (ho : pw_own cx = "Peatland") (hd : decode (pw_cc cx) pc = .ok (.getfield 28, 3)) (hx : 0 ≤ (0 : Int32)) (hz : w.1 7 0 3 = 0) (hn : pc + 3 = n) (k : pw_V l g cx Q X n L ((24, 0) :: st) w) : pw_V l g cx Q X pc L ((9, 0) :: st) w := by
  refine pv_get (f := 7) (k := 3) pw_cf7 (by decide) (by rw [ho]; exact q_39) hd hx hn (fun _ => ?_)
  show pw_V l g cx Q X n L ((24, w.1 7 0 3) :: st) w
  rw [hz]; exact k
theorem gt_X_142 (ho : pw_own cx = "Peatland") (hd : decode (pw_cc cx) pc = .ok (.getfield 142, 3)) (hx : 0 ≤ (x : Int32)) (hn : pc + 3 = n) (k : pw_V l g cx Q X n L ((6, w.1 6 (pw_i x) 7) :: st) w) : pw_V l g cx Q X pc L ((8, x) :: st) w := by
  refine pv_get (f := 6) (k := 7) pw_cf6 (by decide) (by rw [ho]; exact q_182) hd hx hn (fun _ => ?_)
  show pw_V l g cx Q X n L ((6, w.1 6 (pw_i x) 7) :: st) w
  exact k
theorem gt_X_145 (ho : pw_own cx = "Peatland") (hd : decode (pw_cc cx) pc = .ok (.getfield 145, 3)) (hx : 0 ≤ (0 : Int32)) (hn : pc + 3 = n) (k : pw_V l g cx Q X n L ((0, w.1 7 0 7) :: st) w) : pw_V l g cx Q X pc L ((9, 0) :: st) w := by
  refine pv_get (f := 7) (k := 7) pw_cf7 (by decide) (by rw [ho]; exact q_183) hd hx hn (fun _ => ?_)
  show pw_V l g cx Q X n L ((0, w.1 7 0 7) :: st) w
  exact k
theorem gt_X_392 (ho : pw_own cx = "Peatland") (hd : decode (pw_cc cx) pc = .ok (.getfield 392, 3)) (hx : 0 ≤ (x : Int32)) (hn : pc + 3 = n) (k : pw_V l g cx Q X n L ((6, w.1 2 (pw_i x) 0) :: st) w) : pw_V l g cx Q X pc L ((4, x) :: st) w := by
  refine pv_get (f := 2) (k := 0) pw_cf2 (by decide) (by rw [ho]; exact q_185) hd hx hn (fun _ => ?_)
  show pw_V l g cx Q X n L ((6, w.1 2 (pw_i x) 0) :: st) w
  exact k
theorem gt_X_393 (ho : pw_own cx = "Peatland") (hd : decode (pw_cc cx) pc = .ok (.getfield 393, 3)) (hx : 0 ≤ (x : Int32)) (hn : pc + 3 = n) (k : pw_V l g cx Q X n L ((0, w.1 2 (pw_i x) 1) :: st) w) : pw_V l g cx Q X pc L ((4, x) :: st) w := by
  refine pv_get (f := 2) (k := 1) pw_cf2 (by decide) (by rw [ho]; exact q_186) hd hx hn (fun _ => ?_)
  show pw_V l g cx Q X n L ((0, w.1 2 (pw_i x) 1) :: st) w
  exact k
theorem gt_X_396 (ho : pw_own cx = "Peatland") (hd : decode (pw_cc cx) pc = .ok (.getfield 396, 3)) (hx : 0 ≤ (x : Int32)) (hn : pc + 3 = n) (k : pw_V l g cx Q X n L ((0, w.1 2 (pw_i x) 2) :: st) w) : pw_V l g cx Q X pc L ((4, x) :: st) w := by
  refine pv_get (f := 2) (k := 2) pw_cf2 (by decide) (by rw [ho]; exact q_187) hd hx hn (fun _ => ?_)
  show pw_V l g cx Q X n L ((0, w.1 2 (pw_i x) 2) :: st) w
  exact k
theorem gt_X_148 (ho : pw_own cx = "Peatland") (hd : decode (pw_cc cx) pc = .ok (.getfield 148, 3)) (hx : 0 ≤ (x : Int32)) (hn : pc + 3 = n) (k : pw_V l g cx Q X n L ((0, w.1 6 (pw_i x) 8) :: st) w) : pw_V l g cx Q X pc L ((8, x) :: st) w := by
  refine pv_get (f := 6) (k := 8) pw_cf6 (by decide) (by rw [ho]; exact q_184) hd hx hn (fun _ => ?_)
  show pw_V l g cx Q X n L ((0, w.1 6 (pw_i x) 8) :: st) w
  exact k
theorem gt_Case_9 (ho : pw_own cx = "Peatland$Case") (hd : decode (pw_cc cx) pc = .ok (.getfield 9, 3)) (hx : 0 ≤ (x : Int32)) (hn : pc + 3 = n) (k : pw_V l g cx Q X n L ((14, w.1 0 (pw_i x) 1) :: st) w) : pw_V l g cx Q X pc L ((2, x) :: st) w := by
  refine pv_get (f := 0) (k := 1) pw_cf0 (by decide) (by rw [ho]; exact q_194) hd hx hn (fun _ => ?_)
  show pw_V l g cx Q X n L ((14, w.1 0 (pw_i x) 1) :: st) w
  exact k
theorem gt_Case_27 (ho : pw_own cx = "Peatland$Case") (hd : decode (pw_cc cx) pc = .ok (.getfield 27, 3)) (hx : 0 ≤ (x : Int32)) (hn : pc + 3 = n) (k : pw_V l g cx Q X n L ((0, w.1 0 (pw_i x) 2) :: st) w) : pw_V l g cx Q X pc L ((2, x) :: st) w := by
  refine pv_get (f := 0) (k := 2) pw_cf0 (by decide) (by rw [ho]; exact q_197) hd hx hn (fun _ => ?_)
  show pw_V l g cx Q X n L ((0, w.1 0 (pw_i x) 2) :: st) w
  exact k
theorem gt_X_31 (ho : pw_own cx = "Peatland") (hd : decode (pw_cc cx) pc = .ok (.getfield 31, 3)) (hx : 0 ≤ (0 : Int32)) (hz : w.1 7 0 4 = 0) (hn : pc + 3 = n) (k : pw_V l g cx Q X n L ((22, 0) :: st) w) : pw_V l g cx Q X pc L ((9, 0) :: st) w := by
  refine pv_get (f := 7) (k := 4) pw_cf7 (by decide) (by rw [ho]; exact q_40) hd hx hn (fun _ => ?_)
  show pw_V l g cx Q X n L ((22, w.1 7 0 4) :: st) w
  rw [hz]; exact k
theorem gt_X_163 (ho : pw_own cx = "Peatland") (hd : decode (pw_cc cx) pc = .ok (.getfield 163, 3)) (hx : 0 ≤ (x : Int32)) (hn : pc + 3 = n) (k : pw_V l g cx Q X n L ((0, w.1 0 (pw_i x) 2) :: st) w) : pw_V l g cx Q X pc L ((2, x) :: st) w := by
  refine pv_get (f := 0) (k := 2) pw_cf0 (by decide) (by rw [ho]; exact q_199) hd hx hn (fun _ => ?_)
  show pw_V l g cx Q X n L ((0, w.1 0 (pw_i x) 2) :: st) w
  exact k
theorem gt_X_180 (ho : pw_own cx = "Peatland") (hd : decode (pw_cc cx) pc = .ok (.getfield 180, 3)) (hx : 0 ≤ (x : Int32)) (hn : pc + 3 = n) (k : pw_V l g cx Q X n L ((0, w.1 0 (pw_i x) 7) :: st) w) : pw_V l g cx Q X pc L ((2, x) :: st) w := by
  refine pv_get (f := 0) (k := 7) pw_cf0 (by decide) (by rw [ho]; exact q_213) hd hx hn (fun _ => ?_)
  show pw_V l g cx Q X n L ((0, w.1 0 (pw_i x) 7) :: st) w
  exact k
theorem gt_X_177 (ho : pw_own cx = "Peatland") (hd : decode (pw_cc cx) pc = .ok (.getfield 177, 3)) (hx : 0 ≤ (x : Int32)) (hn : pc + 3 = n) (k : pw_V l g cx Q X n L ((0, w.1 0 (pw_i x) 6) :: st) w) : pw_V l g cx Q X pc L ((2, x) :: st) w := by
  refine pv_get (f := 0) (k := 6) pw_cf0 (by decide) (by rw [ho]; exact q_214) hd hx hn (fun _ => ?_)
  show pw_V l g cx Q X n L ((0, w.1 0 (pw_i x) 6) :: st) w
  exact k
theorem gt_X_174 (ho : pw_own cx = "Peatland") (hd : decode (pw_cc cx) pc = .ok (.getfield 174, 3)) (hx : 0 ≤ (x : Int32)) (hn : pc + 3 = n) (k : pw_V l g cx Q X n L ((0, w.1 0 (pw_i x) 3) :: st) w) : pw_V l g cx Q X pc L ((2, x) :: st) w := by
  refine pv_get (f := 0) (k := 3) pw_cf0 (by decide) (by rw [ho]; exact q_215) hd hx hn (fun _ => ?_)
  show pw_V l g cx Q X n L ((0, w.1 0 (pw_i x) 3) :: st) w
  exact k
theorem gt_X_200 (ho : pw_own cx = "Peatland") (hd : decode (pw_cc cx) pc = .ok (.getfield 200, 3)) (hx : 0 ≤ (x : Int32)) (hn : pc + 3 = n) (k : pw_V l g cx Q X n L ((6, w.1 0 (pw_i x) 0) :: st) w) : pw_V l g cx Q X pc L ((2, x) :: st) w := by
  refine pv_get (f := 0) (k := 0) pw_cf0 (by decide) (by rw [ho]; exact q_220) hd hx hn (fun _ => ?_)
  show pw_V l g cx Q X n L ((6, w.1 0 (pw_i x) 0) :: st) w
  exact k
theorem gt_X_403 (ho : pw_own cx = "Peatland") (hd : decode (pw_cc cx) pc = .ok (.getfield 403, 3)) (hx : 0 ≤ (x : Int32)) (hn : pc + 3 = n) (k : pw_V l g cx Q X n L ((2, w.1 6 (pw_i x) 9) :: st) w) : pw_V l g cx Q X pc L ((8, x) :: st) w := by
  refine pv_get (f := 6) (k := 9) pw_cf6 (by decide) (by rw [ho]; exact q_221) hd hx hn (fun _ => ?_)
  show pw_V l g cx Q X n L ((2, w.1 6 (pw_i x) 9) :: st) w
  exact k
theorem gt_X_193 (ho : pw_own cx = "Peatland") (hd : decode (pw_cc cx) pc = .ok (.getfield 193, 3)) (hx : 0 ≤ (x : Int32)) (hn : pc + 3 = n) (k : pw_V l g cx Q X n L ((0, w.1 0 (pw_i x) 5) :: st) w) : pw_V l g cx Q X pc L ((2, x) :: st) w := by
  refine pv_get (f := 0) (k := 5) pw_cf0 (by decide) (by rw [ho]; exact q_222) hd hx hn (fun _ => ?_)
  show pw_V l g cx Q X n L ((0, w.1 0 (pw_i x) 5) :: st) w
  exact k
theorem gt_X_190 (ho : pw_own cx = "Peatland") (hd : decode (pw_cc cx) pc = .ok (.getfield 190, 3)) (hx : 0 ≤ (x : Int32)) (hn : pc + 3 = n) (k : pw_V l g cx Q X n L ((0, w.1 0 (pw_i x) 4) :: st) w) : pw_V l g cx Q X pc L ((2, x) :: st) w := by
  refine pv_get (f := 0) (k := 4) pw_cf0 (by decide) (by rw [ho]; exact q_223) hd hx hn (fun _ => ?_)
  show pw_V l g cx Q X n L ((0, w.1 0 (pw_i x) 4) :: st) w
  exact k
theorem gt_Square_47 (ho : pw_own cx = "Peatland$Square") (hd : decode (pw_cc cx) pc = .ok (.getfield 47, 3)) (hx : 0 ≤ (x : Int32)) (hn : pc + 3 = n) (k : pw_V l g cx Q X n L ((5, w.1 6 (pw_i x) 10) :: st) w) : pw_V l g cx Q X pc L ((8, x) :: st) w := by
  refine pv_get (f := 6) (k := 10) pw_cf6 (by decide) (by rw [ho]; exact q_232) hd hx hn (fun _ => ?_)
  show pw_V l g cx Q X n L ((5, w.1 6 (pw_i x) 10) :: st) w
  exact k
theorem gt_X_223 (ho : pw_own cx = "Peatland") (hd : decode (pw_cc cx) pc = .ok (.getfield 223, 3)) (hx : 0 ≤ (x : Int32)) (hn : pc + 3 = n) (k : pw_V l g cx Q X n L ((0, w.1 5 (pw_i x) 5) :: st) w) : pw_V l g cx Q X pc L ((7, x) :: st) w := by
  refine pv_get (f := 5) (k := 5) pw_cf5 (by decide) (by rw [ho]; exact q_159) hd hx hn (fun _ => ?_)
  show pw_V l g cx Q X n L ((0, w.1 5 (pw_i x) 5) :: st) w
  exact k
theorem gt_Parcel_27 (ho : pw_own cx = "Peatland$Parcel") (hd : decode (pw_cc cx) pc = .ok (.getfield 27, 3)) (hx : 0 ≤ (x : Int32)) (hn : pc + 3 = n) (k : pw_V l g cx Q X n L ((0, w.1 3 (pw_i x) 4) :: st) w) : pw_V l g cx Q X pc L ((5, x) :: st) w := by
  refine pv_get (f := 3) (k := 4) pw_cf3 (by decide) (by rw [ho]; exact q_256) hd hx hn (fun _ => ?_)
  show pw_V l g cx Q X n L ((0, w.1 3 (pw_i x) 4) :: st) w
  exact k
theorem gt_X_345 (ho : pw_own cx = "Peatland") (hd : decode (pw_cc cx) pc = .ok (.getfield 345, 3)) (hx : 0 ≤ (x : Int32)) (hn : pc + 3 = n) (k : pw_V l g cx Q X n L ((5, w.1 5 (pw_i x) 1) :: st) w) : pw_V l g cx Q X pc L ((7, x) :: st) w := by
  refine pv_get (f := 5) (k := 1) pw_cf5 (by decide) (by rw [ho]; exact q_259) hd hx hn (fun _ => ?_)
  show pw_V l g cx Q X n L ((5, w.1 5 (pw_i x) 1) :: st) w
  exact k
theorem gt_X_230 (ho : pw_own cx = "Peatland") (hd : decode (pw_cc cx) pc = .ok (.getfield 230, 3)) (hx : 0 ≤ (x : Int32)) (hn : pc + 3 = n) (k : pw_V l g cx Q X n L ((0, w.1 4 (pw_i x) 0) :: st) w) : pw_V l g cx Q X pc L ((6, x) :: st) w := by
  refine pv_get (f := 4) (k := 0) pw_cf4 (by decide) (by rw [ho]; exact q_268) hd hx hn (fun _ => ?_)
  show pw_V l g cx Q X n L ((0, w.1 4 (pw_i x) 0) :: st) w
  exact k
theorem gt_X_247 (ho : pw_own cx = "Peatland") (hd : decode (pw_cc cx) pc = .ok (.getfield 247, 3)) (hx : 0 ≤ (0 : Int32)) (hn : pc + 3 = n) (k : pw_V l g cx Q X n L ((0, w.1 7 0 9) :: st) w) : pw_V l g cx Q X pc L ((9, 0) :: st) w := by
  refine pv_get (f := 7) (k := 9) pw_cf7 (by decide) (by rw [ho]; exact q_273) hd hx hn (fun _ => ?_)
  show pw_V l g cx Q X n L ((0, w.1 7 0 9) :: st) w
  exact k
theorem gt_X_250 (ho : pw_own cx = "Peatland") (hd : decode (pw_cc cx) pc = .ok (.getfield 250, 3)) (hx : 0 ≤ (0 : Int32)) (hn : pc + 3 = n) (k : pw_V l g cx Q X n L ((0, w.1 7 0 10) :: st) w) : pw_V l g cx Q X pc L ((9, 0) :: st) w := by
  refine pv_get (f := 7) (k := 10) pw_cf7 (by decide) (by rw [ho]; exact q_274) hd hx hn (fun _ => ?_)
  show pw_V l g cx Q X n L ((0, w.1 7 0 10) :: st) w
  exact k
theorem gt_X_238 (ho : pw_own cx = "Peatland") (hd : decode (pw_cc cx) pc = .ok (.getfield 238, 3)) (hx : 0 ≤ (x : Int32)) (hn : pc + 3 = n) (k : pw_V l g cx Q X n L ((0, w.1 6 (pw_i x) 5) :: st) w) : pw_V l g cx Q X pc L ((8, x) :: st) w := by
  refine pv_get (f := 6) (k := 5) pw_cf6 (by decide) (by rw [ho]; exact q_275) hd hx hn (fun _ => ?_)
  show pw_V l g cx Q X n L ((0, w.1 6 (pw_i x) 5) :: st) w
  exact k
theorem gt_X_37 (ho : pw_own cx = "Peatland") (hd : decode (pw_cc cx) pc = .ok (.getfield 37, 3)) (hx : 0 ≤ (0 : Int32)) (hz : w.1 7 0 6 = 0) (hn : pc + 3 = n) (k : pw_V l g cx Q X n L ((23, 0) :: st) w) : pw_V l g cx Q X pc L ((9, 0) :: st) w := by
  refine pv_get (f := 7) (k := 6) pw_cf7 (by decide) (by rw [ho]; exact q_42) hd hx hn (fun _ => ?_)
  show pw_V l g cx Q X n L ((23, w.1 7 0 6) :: st) w
  rw [hz]; exact k
theorem gt_X_435 (ho : pw_own cx = "Peatland") (hd : decode (pw_cc cx) pc = .ok (.getfield 435, 3)) (hx : 0 ≤ (x : Int32)) (hn : pc + 3 = n) (k : pw_V l g cx Q X n L ((8, w.1 1 (pw_i x) 0) :: st) w) : pw_V l g cx Q X pc L ((3, x) :: st) w := by
  refine pv_get (f := 1) (k := 0) pw_cf1 (by decide) (by rw [ho]; exact q_277) hd hx hn (fun _ => ?_)
  show pw_V l g cx Q X n L ((8, w.1 1 (pw_i x) 0) :: st) w
  exact k
theorem gt_X_438 (ho : pw_own cx = "Peatland") (hd : decode (pw_cc cx) pc = .ok (.getfield 438, 3)) (hx : 0 ≤ (x : Int32)) (hn : pc + 3 = n) (k : pw_V l g cx Q X n L ((8, w.1 1 (pw_i x) 1) :: st) w) : pw_V l g cx Q X pc L ((3, x) :: st) w := by
  refine pv_get (f := 1) (k := 1) pw_cf1 (by decide) (by rw [ho]; exact q_278) hd hx hn (fun _ => ?_)
  show pw_V l g cx Q X n L ((8, w.1 1 (pw_i x) 1) :: st) w
  exact k
theorem gt_X_278 (ho : pw_own cx = "Peatland") (hd : decode (pw_cc cx) pc = .ok (.getfield 278, 3)) (hx : 0 ≤ (x : Int32)) (hn : pc + 3 = n) (k : pw_V l g cx Q X n L ((0, w.1 6 (pw_i x) 4) :: st) w) : pw_V l g cx Q X pc L ((8, x) :: st) w := by
  refine pv_get (f := 6) (k := 4) pw_cf6 (by decide) (by rw [ho]; exact q_295) hd hx hn (fun _ => ?_)
  show pw_V l g cx Q X n L ((0, w.1 6 (pw_i x) 4) :: st) w
  exact k
theorem gt_X_281 (ho : pw_own cx = "Peatland") (hd : decode (pw_cc cx) pc = .ok (.getfield 281, 3)) (hx : 0 ≤ (0 : Int32)) (hn : pc + 3 = n) (k : pw_V l g cx Q X n L ((0, w.1 7 0 8) :: st) w) : pw_V l g cx Q X pc L ((9, 0) :: st) w := by
  refine pv_get (f := 7) (k := 8) pw_cf7 (by decide) (by rw [ho]; exact q_304) hd hx hn (fun _ => ?_)
  show pw_V l g cx Q X n L ((0, w.1 7 0 8) :: st) w
  exact k
theorem gt_X_288 (ho : pw_own cx = "Peatland") (hd : decode (pw_cc cx) pc = .ok (.getfield 288, 3)) (hx : 0 ≤ (x : Int32)) (hn : pc + 3 = n) (k : pw_V l g cx Q X n L ((0, w.1 6 (pw_i x) 6) :: st) w) : pw_V l g cx Q X pc L ((8, x) :: st) w := by
  refine pv_get (f := 6) (k := 6) pw_cf6 (by decide) (by rw [ho]; exact q_305) hd hx hn (fun _ => ?_)
  show pw_V l g cx Q X n L ((0, w.1 6 (pw_i x) 6) :: st) w
  exact k
theorem gt_X_362 (ho : pw_own cx = "Peatland") (hd : decode (pw_cc cx) pc = .ok (.getfield 362, 3)) (hx : 0 ≤ (0 : Int32)) (hn : pc + 3 = n) (k : pw_V l g cx Q X n L ((0, w.1 7 0 11) :: st) w) : pw_V l g cx Q X pc L ((9, 0) :: st) w := by
  refine pv_get (f := 7) (k := 11) pw_cf7 (by decide) (by rw [ho]; exact q_314) hd hx hn (fun _ => ?_)
  show pw_V l g cx Q X n L ((0, w.1 7 0 11) :: st) w
  exact k
theorem gt_Square_22 (ho : pw_own cx = "Peatland$Square") (hd : decode (pw_cc cx) pc = .ok (.getfield 22, 3)) (hx : 0 ≤ (x : Int32)) (hn : pc + 3 = n) (k : pw_V l g cx Q X n L ((0, w.1 6 (pw_i x) 5) :: st) w) : pw_V l g cx Q X pc L ((8, x) :: st) w := by
  refine pv_get (f := 6) (k := 5) pw_cf6 (by decide) (by rw [ho]; exact q_17) hd hx hn (fun _ => ?_)
  show pw_V l g cx Q X n L ((0, w.1 6 (pw_i x) 5) :: st) w
  exact k
theorem gt_X_367 (ho : pw_own cx = "Peatland") (hd : decode (pw_cc cx) pc = .ok (.getfield 367, 3)) (hx : 0 ≤ (x : Int32)) (hn : pc + 3 = n) (k : pw_V l g cx Q X n L ((0, w.1 4 (pw_i x) 3) :: st) w) : pw_V l g cx Q X pc L ((6, x) :: st) w := by
  refine pv_get (f := 4) (k := 3) pw_cf4 (by decide) (by rw [ho]; exact q_323) hd hx hn (fun _ => ?_)
  show pw_V l g cx Q X n L ((0, w.1 4 (pw_i x) 3) :: st) w
  exact k
theorem gt_Drain_9 (ho : pw_own cx = "Peatland$Drain") (hd : decode (pw_cc cx) pc = .ok (.getfield 9, 3)) (hx : 0 ≤ (x : Int32)) (hn : pc + 3 = n) (k : pw_V l g cx Q X n L ((8, w.1 1 (pw_i x) 0) :: st) w) : pw_V l g cx Q X pc L ((3, x) :: st) w := by
  refine pv_get (f := 1) (k := 0) pw_cf1 (by decide) (by rw [ho]; exact q_281) hd hx hn (fun _ => ?_)
  show pw_V l g cx Q X n L ((8, w.1 1 (pw_i x) 0) :: st) w
  exact k
theorem gt_Drain_18 (ho : pw_own cx = "Peatland$Drain") (hd : decode (pw_cc cx) pc = .ok (.getfield 18, 3)) (hx : 0 ≤ (x : Int32)) (hn : pc + 3 = n) (k : pw_V l g cx Q X n L ((0, w.1 6 (pw_i x) 5) :: st) w) : pw_V l g cx Q X pc L ((8, x) :: st) w := by
  refine pv_get (f := 6) (k := 5) pw_cf6 (by decide) (by rw [ho]; exact q_328) hd hx hn (fun _ => ?_)
  show pw_V l g cx Q X n L ((0, w.1 6 (pw_i x) 5) :: st) w
  exact k
theorem gt_Drain_15 (ho : pw_own cx = "Peatland$Drain") (hd : decode (pw_cc cx) pc = .ok (.getfield 15, 3)) (hx : 0 ≤ (x : Int32)) (hn : pc + 3 = n) (k : pw_V l g cx Q X n L ((8, w.1 1 (pw_i x) 1) :: st) w) : pw_V l g cx Q X pc L ((3, x) :: st) w := by
  refine pv_get (f := 1) (k := 1) pw_cf1 (by decide) (by rw [ho]; exact q_282) hd hx hn (fun _ => ?_)
  show pw_V l g cx Q X n L ((8, w.1 1 (pw_i x) 1) :: st) w
  exact k
theorem gt_X_468 (ho : pw_own cx = "Peatland") (hd : decode (pw_cc cx) pc = .ok (.getfield 468, 3)) (hx : 0 ≤ (x : Int32)) (hn : pc + 3 = n) (k : pw_V l g cx Q X n L ((0, w.1 3 (pw_i x) 5) :: st) w) : pw_V l g cx Q X pc L ((5, x) :: st) w := by
  refine pv_get (f := 3) (k := 5) pw_cf3 (by decide) (by rw [ho]; exact q_334) hd hx hn (fun _ => ?_)
  show pw_V l g cx Q X n L ((0, w.1 3 (pw_i x) 5) :: st) w
  exact k
theorem gt_Person_10 (ho : pw_own cx = "Peatland$Person") (hd : decode (pw_cc cx) pc = .ok (.getfield 10, 3)) (hx : 0 ≤ (x : Int32)) (hn : pc + 3 = n) (k : pw_V l g cx Q X n L ((26, w.1 4 (pw_i x) 1) :: st) w) : pw_V l g cx Q X pc L ((6, x) :: st) w := by
  refine pv_get (f := 4) (k := 1) pw_cf4 (by decide) (by rw [ho]; exact q_10) hd hx hn (fun _ => ?_)
  show pw_V l g cx Q X n L ((26, w.1 4 (pw_i x) 1) :: st) w
  exact k
theorem gt_X_298 (ho : pw_own cx = "Peatland") (hd : decode (pw_cc cx) pc = .ok (.getfield 298, 3)) (hx : 0 ≤ (x : Int32)) (hn : pc + 3 = n) (k : pw_V l g cx Q X n L ((26, w.1 4 (pw_i x) 1) :: st) w) : pw_V l g cx Q X pc L ((6, x) :: st) w := by
  refine pv_get (f := 4) (k := 1) pw_cf4 (by decide) (by rw [ho]; exact q_365) hd hx hn (fun _ => ?_)
  show pw_V l g cx Q X n L ((26, w.1 4 (pw_i x) 1) :: st) w
  exact k
theorem gt_Person_16 (ho : pw_own cx = "Peatland$Person") (hd : decode (pw_cc cx) pc = .ok (.getfield 16, 3)) (hx : 0 ≤ (x : Int32)) (hn : pc + 3 = n) (k : pw_V l g cx Q X n L ((0, w.1 4 (pw_i x) 2) :: st) w) : pw_V l g cx Q X pc L ((6, x) :: st) w := by
  refine pv_get (f := 4) (k := 2) pw_cf4 (by decide) (by rw [ho]; exact q_11) hd hx hn (fun _ => ?_)
  show pw_V l g cx Q X n L ((0, w.1 4 (pw_i x) 2) :: st) w
  exact k
theorem gt_X_134 (ho : pw_own cx = "Peatland") (hd : decode (pw_cc cx) pc = .ok (.getfield 134, 3)) (hx : 0 ≤ (x : Int32)) (hn : pc + 3 = n) (k : pw_V l g cx Q X n L ((5, w.1 3 (pw_i x) 3) :: st) w) : pw_V l g cx Q X pc L ((5, x) :: st) w := by
  refine pv_get (f := 3) (k := 3) pw_cf3 (by decide) (by rw [ho]; exact q_160) hd hx hn (fun _ => ?_)
  show pw_V l g cx Q X n L ((5, w.1 3 (pw_i x) 3) :: st) w
  exact k
theorem gt_X_350 (ho : pw_own cx = "Peatland") (hd : decode (pw_cc cx) pc = .ok (.getfield 350, 3)) (hx : 0 ≤ (x : Int32)) (hn : pc + 3 = n) (k : pw_V l g cx Q X n L ((0, w.1 5 (pw_i x) 4) :: st) w) : pw_V l g cx Q X pc L ((7, x) :: st) w := by
  refine pv_get (f := 5) (k := 4) pw_cf5 (by decide) (by rw [ho]; exact q_413) hd hx hn (fun _ => ?_)
  show pw_V l g cx Q X n L ((0, w.1 5 (pw_i x) 4) :: st) w
  exact k
theorem gt_M_7 (ho : pw_own cx = "PeatlandModel") (hd : decode (pw_cc cx) pc = .ok (.getfield 7, 3)) (hx : 0 ≤ (0 : Int32)) (hz : w.1 8 0 6 = 0) (hn : pc + 3 = n) (k : pw_V l g cx Q X n L ((208, 0) :: st) w) : pw_V l g cx Q X pc L ((10, 0) :: st) w := by
  refine pv_get (f := 8) (k := 6) pw_cf8 (by decide) (by rw [ho]; exact q_418) hd hx hn (fun _ => ?_)
  show pw_V l g cx Q X n L ((208, w.1 8 0 6) :: st) w
  rw [hz]; exact k
theorem gt_M_13 (ho : pw_own cx = "PeatlandModel") (hd : decode (pw_cc cx) pc = .ok (.getfield 13, 3)) (hx : 0 ≤ (0 : Int32)) (hz : w.1 8 0 7 = 0) (hn : pc + 3 = n) (k : pw_V l g cx Q X n L ((209, 0) :: st) w) : pw_V l g cx Q X pc L ((10, 0) :: st) w := by
  refine pv_get (f := 8) (k := 7) pw_cf8 (by decide) (by rw [ho]; exact q_419) hd hx hn (fun _ => ?_)
  show pw_V l g cx Q X n L ((209, w.1 8 0 7) :: st) w
  rw [hz]; exact k
theorem gt_M_19 (ho : pw_own cx = "PeatlandModel") (hd : decode (pw_cc cx) pc = .ok (.getfield 19, 3)) (hx : 0 ≤ (0 : Int32)) (hz : w.1 8 0 9 = 0) (hn : pc + 3 = n) (k : pw_V l g cx Q X n L ((211, 0) :: st) w) : pw_V l g cx Q X pc L ((10, 0) :: st) w := by
  refine pv_get (f := 8) (k := 9) pw_cf8 (by decide) (by rw [ho]; exact q_420) hd hx hn (fun _ => ?_)
  show pw_V l g cx Q X n L ((211, w.1 8 0 9) :: st) w
  rw [hz]; exact k
theorem gt_M_22 (ho : pw_own cx = "PeatlandModel") (hd : decode (pw_cc cx) pc = .ok (.getfield 22, 3)) (hx : 0 ≤ (0 : Int32)) (hz : w.1 8 0 10 = 0) (hn : pc + 3 = n) (k : pw_V l g cx Q X n L ((212, 0) :: st) w) : pw_V l g cx Q X pc L ((10, 0) :: st) w := by
  refine pv_get (f := 8) (k := 10) pw_cf8 (by decide) (by rw [ho]; exact q_422) hd hx hn (fun _ => ?_)
  show pw_V l g cx Q X n L ((212, w.1 8 0 10) :: st) w
  rw [hz]; exact k
theorem gt_M_28 (ho : pw_own cx = "PeatlandModel") (hd : decode (pw_cc cx) pc = .ok (.getfield 28, 3)) (hx : 0 ≤ (0 : Int32)) (hz : w.1 8 0 12 = 0) (hn : pc + 3 = n) (k : pw_V l g cx Q X n L ((214, 0) :: st) w) : pw_V l g cx Q X pc L ((10, 0) :: st) w := by
  refine pv_get (f := 8) (k := 12) pw_cf8 (by decide) (by rw [ho]; exact q_423) hd hx hn (fun _ => ?_)
  show pw_V l g cx Q X n L ((214, w.1 8 0 12) :: st) w
  rw [hz]; exact k
theorem gt_M_34 (ho : pw_own cx = "PeatlandModel") (hd : decode (pw_cc cx) pc = .ok (.getfield 34, 3)) (hx : 0 ≤ (0 : Int32)) (hz : w.1 8 0 14 = 0) (hn : pc + 3 = n) (k : pw_V l g cx Q X n L ((216, 0) :: st) w) : pw_V l g cx Q X pc L ((10, 0) :: st) w := by
  refine pv_get (f := 8) (k := 14) pw_cf8 (by decide) (by rw [ho]; exact q_424) hd hx hn (fun _ => ?_)
  show pw_V l g cx Q X n L ((216, w.1 8 0 14) :: st) w
  rw [hz]; exact k
theorem gt_M_40 (ho : pw_own cx = "PeatlandModel") (hd : decode (pw_cc cx) pc = .ok (.getfield 40, 3)) (hx : 0 ≤ (0 : Int32)) (hz : w.1 8 0 16 = 0) (hn : pc + 3 = n) (k : pw_V l g cx Q X n L ((218, 0) :: st) w) : pw_V l g cx Q X pc L ((10, 0) :: st) w := by
  refine pv_get (f := 8) (k := 16) pw_cf8 (by decide) (by rw [ho]; exact q_430) hd hx hn (fun _ => ?_)
  show pw_V l g cx Q X n L ((218, w.1 8 0 16) :: st) w
  rw [hz]; exact k
theorem gt_M_43 (ho : pw_own cx = "PeatlandModel") (hd : decode (pw_cc cx) pc = .ok (.getfield 43, 3)) (hx : 0 ≤ (0 : Int32)) (hz : w.1 8 0 17 = 0) (hn : pc + 3 = n) (k : pw_V l g cx Q X n L ((219, 0) :: st) w) : pw_V l g cx Q X pc L ((10, 0) :: st) w := by
  refine pv_get (f := 8) (k := 17) pw_cf8 (by decide) (by rw [ho]; exact q_431) hd hx hn (fun _ => ?_)
  show pw_V l g cx Q X n L ((219, w.1 8 0 17) :: st) w
  rw [hz]; exact k
theorem gt_M_121 (ho : pw_own cx = "PeatlandModel") (hd : decode (pw_cc cx) pc = .ok (.getfield 121, 3)) (hx : 0 ≤ (0 : Int32)) (hn : pc + 3 = n) (k : pw_V l g cx Q X n L ((0, w.1 8 0 0) :: st) w) : pw_V l g cx Q X pc L ((10, 0) :: st) w := by
  refine pv_get (f := 8) (k := 0) pw_cf8 (by decide) (by rw [ho]; exact q_456) hd hx hn (fun _ => ?_)
  show pw_V l g cx Q X n L ((0, w.1 8 0 0) :: st) w
  exact k
theorem gt_M_116 (ho : pw_own cx = "PeatlandModel") (hd : decode (pw_cc cx) pc = .ok (.getfield 116, 3)) (hx : 0 ≤ (0 : Int32)) (hn : pc + 3 = n) (k : pw_V l g cx Q X n L ((0, w.1 8 0 18) :: st) w) : pw_V l g cx Q X pc L ((10, 0) :: st) w := by
  refine pv_get (f := 8) (k := 18) pw_cf8 (by decide) (by rw [ho]; exact q_455) hd hx hn (fun _ => ?_)
  show pw_V l g cx Q X n L ((0, w.1 8 0 18) :: st) w
  exact k
theorem gt_M_128 (ho : pw_own cx = "PeatlandModel") (hd : decode (pw_cc cx) pc = .ok (.getfield 128, 3)) (hx : 0 ≤ (0 : Int32)) (hn : pc + 3 = n) (k : pw_V l g cx Q X n L ((0, w.1 8 0 38) :: st) w) : pw_V l g cx Q X pc L ((10, 0) :: st) w := by
  refine pv_get (f := 8) (k := 38) pw_cf8 (by decide) (by rw [ho]; exact q_461) hd hx hn (fun _ => ?_)
  show pw_V l g cx Q X n L ((0, w.1 8 0 38) :: st) w
  exact k
theorem gt_M_16 (ho : pw_own cx = "PeatlandModel") (hd : decode (pw_cc cx) pc = .ok (.getfield 16, 3)) (hx : 0 ≤ (0 : Int32)) (hz : w.1 8 0 8 = 0) (hn : pc + 3 = n) (k : pw_V l g cx Q X n L ((210, 0) :: st) w) : pw_V l g cx Q X pc L ((10, 0) :: st) w := by
  refine pv_get (f := 8) (k := 8) pw_cf8 (by decide) (by rw [ho]; exact q_426) hd hx hn (fun _ => ?_)
  show pw_V l g cx Q X n L ((210, w.1 8 0 8) :: st) w
  rw [hz]; exact k
theorem gt_M_37 (ho : pw_own cx = "PeatlandModel") (hd : decode (pw_cc cx) pc = .ok (.getfield 37, 3)) (hx : 0 ≤ (0 : Int32)) (hz : w.1 8 0 15 = 0) (hn : pc + 3 = n) (k : pw_V l g cx Q X n L ((217, 0) :: st) w) : pw_V l g cx Q X pc L ((10, 0) :: st) w := by
  refine pv_get (f := 8) (k := 15) pw_cf8 (by decide) (by rw [ho]; exact q_429) hd hx hn (fun _ => ?_)
  show pw_V l g cx Q X n L ((217, w.1 8 0 15) :: st) w
  rw [hz]; exact k
theorem gt_M_64 (ho : pw_own cx = "PeatlandModel") (hd : decode (pw_cc cx) pc = .ok (.getfield 64, 3)) (hx : 0 ≤ (0 : Int32)) (hz : w.1 8 0 25 = 0) (hn : pc + 3 = n) (k : pw_V l g cx Q X n L ((227, 0) :: st) w) : pw_V l g cx Q X pc L ((10, 0) :: st) w := by
  refine pv_get (f := 8) (k := 25) pw_cf8 (by decide) (by rw [ho]; exact q_438) hd hx hn (fun _ => ?_)
  show pw_V l g cx Q X n L ((227, w.1 8 0 25) :: st) w
  rw [hz]; exact k
theorem gt_M_52 (ho : pw_own cx = "PeatlandModel") (hd : decode (pw_cc cx) pc = .ok (.getfield 52, 3)) (hx : 0 ≤ (0 : Int32)) (hz : w.1 8 0 21 = 0) (hn : pc + 3 = n) (k : pw_V l g cx Q X n L ((223, 0) :: st) w) : pw_V l g cx Q X pc L ((10, 0) :: st) w := by
  refine pv_get (f := 8) (k := 21) pw_cf8 (by decide) (by rw [ho]; exact q_434) hd hx hn (fun _ => ?_)
  show pw_V l g cx Q X n L ((223, w.1 8 0 21) :: st) w
  rw [hz]; exact k
theorem gt_M_131 (ho : pw_own cx = "PeatlandModel") (hd : decode (pw_cc cx) pc = .ok (.getfield 131, 3)) (hx : 0 ≤ (0 : Int32)) (hn : pc + 3 = n) (k : pw_V l g cx Q X n L ((0, w.1 8 0 26) :: st) w) : pw_V l g cx Q X pc L ((10, 0) :: st) w := by
  refine pv_get (f := 8) (k := 26) pw_cf8 (by decide) (by rw [ho]; exact q_462) hd hx hn (fun _ => ?_)
  show pw_V l g cx Q X n L ((0, w.1 8 0 26) :: st) w
  exact k
theorem gt_M_49 (ho : pw_own cx = "PeatlandModel") (hd : decode (pw_cc cx) pc = .ok (.getfield 49, 3)) (hx : 0 ≤ (0 : Int32)) (hz : w.1 8 0 20 = 0) (hn : pc + 3 = n) (k : pw_V l g cx Q X n L ((222, 0) :: st) w) : pw_V l g cx Q X pc L ((10, 0) :: st) w := by
  refine pv_get (f := 8) (k := 20) pw_cf8 (by decide) (by rw [ho]; exact q_433) hd hx hn (fun _ => ?_)
  show pw_V l g cx Q X n L ((222, w.1 8 0 20) :: st) w
  rw [hz]; exact k
theorem gt_M_55 (ho : pw_own cx = "PeatlandModel") (hd : decode (pw_cc cx) pc = .ok (.getfield 55, 3)) (hx : 0 ≤ (0 : Int32)) (hz : w.1 8 0 22 = 0) (hn : pc + 3 = n) (k : pw_V l g cx Q X n L ((224, 0) :: st) w) : pw_V l g cx Q X pc L ((10, 0) :: st) w := by
  refine pv_get (f := 8) (k := 22) pw_cf8 (by decide) (by rw [ho]; exact q_435) hd hx hn (fun _ => ?_)
  show pw_V l g cx Q X n L ((224, w.1 8 0 22) :: st) w
  rw [hz]; exact k
theorem gt_M_58 (ho : pw_own cx = "PeatlandModel") (hd : decode (pw_cc cx) pc = .ok (.getfield 58, 3)) (hx : 0 ≤ (0 : Int32)) (hz : w.1 8 0 23 = 0) (hn : pc + 3 = n) (k : pw_V l g cx Q X n L ((225, 0) :: st) w) : pw_V l g cx Q X pc L ((10, 0) :: st) w := by
  refine pv_get (f := 8) (k := 23) pw_cf8 (by decide) (by rw [ho]; exact q_436) hd hx hn (fun _ => ?_)
  show pw_V l g cx Q X n L ((225, w.1 8 0 23) :: st) w
  rw [hz]; exact k
theorem gt_M_61 (ho : pw_own cx = "PeatlandModel") (hd : decode (pw_cc cx) pc = .ok (.getfield 61, 3)) (hx : 0 ≤ (0 : Int32)) (hz : w.1 8 0 24 = 0) (hn : pc + 3 = n) (k : pw_V l g cx Q X n L ((226, 0) :: st) w) : pw_V l g cx Q X pc L ((10, 0) :: st) w := by
  refine pv_get (f := 8) (k := 24) pw_cf8 (by decide) (by rw [ho]; exact q_437) hd hx hn (fun _ => ?_)
  show pw_V l g cx Q X n L ((226, w.1 8 0 24) :: st) w
  rw [hz]; exact k
theorem gt_M_104 (ho : pw_own cx = "PeatlandModel") (hd : decode (pw_cc cx) pc = .ok (.getfield 104, 3)) (hx : 0 ≤ (0 : Int32)) (hz : w.1 8 0 42 = 0) (hn : pc + 3 = n) (k : pw_V l g cx Q X n L ((244, 0) :: st) w) : pw_V l g cx Q X pc L ((10, 0) :: st) w := by
  refine pv_get (f := 8) (k := 42) pw_cf8 (by decide) (by rw [ho]; exact q_451) hd hx hn (fun _ => ?_)
  show pw_V l g cx Q X n L ((244, w.1 8 0 42) :: st) w
  rw [hz]; exact k
theorem gt_M_46 (ho : pw_own cx = "PeatlandModel") (hd : decode (pw_cc cx) pc = .ok (.getfield 46, 3)) (hx : 0 ≤ (0 : Int32)) (hz : w.1 8 0 19 = 0) (hn : pc + 3 = n) (k : pw_V l g cx Q X n L ((221, 0) :: st) w) : pw_V l g cx Q X pc L ((10, 0) :: st) w := by
  refine pv_get (f := 8) (k := 19) pw_cf8 (by decide) (by rw [ho]; exact q_432) hd hx hn (fun _ => ?_)
  show pw_V l g cx Q X n L ((221, w.1 8 0 19) :: st) w
  rw [hz]; exact k
theorem gt_M_68 (ho : pw_own cx = "PeatlandModel") (hd : decode (pw_cc cx) pc = .ok (.getfield 68, 3)) (hx : 0 ≤ (0 : Int32)) (hz : w.1 8 0 27 = 0) (hn : pc + 3 = n) (k : pw_V l g cx Q X n L ((229, 0) :: st) w) : pw_V l g cx Q X pc L ((10, 0) :: st) w := by
  refine pv_get (f := 8) (k := 27) pw_cf8 (by decide) (by rw [ho]; exact q_439) hd hx hn (fun _ => ?_)
  show pw_V l g cx Q X n L ((229, w.1 8 0 27) :: st) w
  rw [hz]; exact k
theorem gt_M_201 (ho : pw_own cx = "PeatlandModel") (hd : decode (pw_cc cx) pc = .ok (.getfield 201, 3)) (hx : 0 ≤ (0 : Int32)) (hn : pc + 3 = n) (k : pw_V l g cx Q X n L ((0, w.1 8 0 30) :: st) w) : pw_V l g cx Q X pc L ((10, 0) :: st) w := by
  refine pv_get (f := 8) (k := 30) pw_cf8 (by decide) (by rw [ho]; exact q_534) hd hx hn (fun _ => ?_)
  show pw_V l g cx Q X n L ((0, w.1 8 0 30) :: st) w
  exact k
theorem gt_M_71 (ho : pw_own cx = "PeatlandModel") (hd : decode (pw_cc cx) pc = .ok (.getfield 71, 3)) (hx : 0 ≤ (0 : Int32)) (hz : w.1 8 0 28 = 0) (hn : pc + 3 = n) (k : pw_V l g cx Q X n L ((230, 0) :: st) w) : pw_V l g cx Q X pc L ((10, 0) :: st) w := by
  refine pv_get (f := 8) (k := 28) pw_cf8 (by decide) (by rw [ho]; exact q_440) hd hx hn (fun _ => ?_)
  show pw_V l g cx Q X n L ((230, w.1 8 0 28) :: st) w
  rw [hz]; exact k
theorem gt_M_74 (ho : pw_own cx = "PeatlandModel") (hd : decode (pw_cc cx) pc = .ok (.getfield 74, 3)) (hx : 0 ≤ (0 : Int32)) (hz : w.1 8 0 29 = 0) (hn : pc + 3 = n) (k : pw_V l g cx Q X n L ((231, 0) :: st) w) : pw_V l g cx Q X pc L ((10, 0) :: st) w := by
  refine pv_get (f := 8) (k := 29) pw_cf8 (by decide) (by rw [ho]; exact q_441) hd hx hn (fun _ => ?_)
  show pw_V l g cx Q X n L ((231, w.1 8 0 29) :: st) w
  rw [hz]; exact k
theorem gt_M_25 (ho : pw_own cx = "PeatlandModel") (hd : decode (pw_cc cx) pc = .ok (.getfield 25, 3)) (hx : 0 ≤ (0 : Int32)) (hz : w.1 8 0 11 = 0) (hn : pc + 3 = n) (k : pw_V l g cx Q X n L ((213, 0) :: st) w) : pw_V l g cx Q X pc L ((10, 0) :: st) w := by
  refine pv_get (f := 8) (k := 11) pw_cf8 (by decide) (by rw [ho]; exact q_427) hd hx hn (fun _ => ?_)
  show pw_V l g cx Q X n L ((213, w.1 8 0 11) :: st) w
  rw [hz]; exact k
theorem gt_M_204 (ho : pw_own cx = "PeatlandModel") (hd : decode (pw_cc cx) pc = .ok (.getfield 204, 3)) (hx : 0 ≤ (0 : Int32)) (hn : pc + 3 = n) (k : pw_V l g cx Q X n L ((0, w.1 8 0 1) :: st) w) : pw_V l g cx Q X pc L ((10, 0) :: st) w := by
  refine pv_get (f := 8) (k := 1) pw_cf8 (by decide) (by rw [ho]; exact q_539) hd hx hn (fun _ => ?_)
  show pw_V l g cx Q X n L ((0, w.1 8 0 1) :: st) w
  exact k
theorem gt_M_95 (ho : pw_own cx = "PeatlandModel") (hd : decode (pw_cc cx) pc = .ok (.getfield 95, 3)) (hx : 0 ≤ (0 : Int32)) (hz : w.1 8 0 37 = 0) (hn : pc + 3 = n) (k : pw_V l g cx Q X n L ((239, 0) :: st) w) : pw_V l g cx Q X pc L ((10, 0) :: st) w := by
  refine pv_get (f := 8) (k := 37) pw_cf8 (by decide) (by rw [ho]; exact q_448) hd hx hn (fun _ => ?_)
  show pw_V l g cx Q X n L ((239, w.1 8 0 37) :: st) w
  rw [hz]; exact k
theorem gt_M_77 (ho : pw_own cx = "PeatlandModel") (hd : decode (pw_cc cx) pc = .ok (.getfield 77, 3)) (hx : 0 ≤ (0 : Int32)) (hz : w.1 8 0 31 = 0) (hn : pc + 3 = n) (k : pw_V l g cx Q X n L ((233, 0) :: st) w) : pw_V l g cx Q X pc L ((10, 0) :: st) w := by
  refine pv_get (f := 8) (k := 31) pw_cf8 (by decide) (by rw [ho]; exact q_442) hd hx hn (fun _ => ?_)
  show pw_V l g cx Q X n L ((233, w.1 8 0 31) :: st) w
  rw [hz]; exact k
theorem gt_M_92 (ho : pw_own cx = "PeatlandModel") (hd : decode (pw_cc cx) pc = .ok (.getfield 92, 3)) (hx : 0 ≤ (0 : Int32)) (hz : w.1 8 0 36 = 0) (hn : pc + 3 = n) (k : pw_V l g cx Q X n L ((238, 0) :: st) w) : pw_V l g cx Q X pc L ((10, 0) :: st) w := by
  refine pv_get (f := 8) (k := 36) pw_cf8 (by decide) (by rw [ho]; exact q_447) hd hx hn (fun _ => ?_)
  show pw_V l g cx Q X n L ((238, w.1 8 0 36) :: st) w
  rw [hz]; exact k
theorem gt_M_89 (ho : pw_own cx = "PeatlandModel") (hd : decode (pw_cc cx) pc = .ok (.getfield 89, 3)) (hx : 0 ≤ (0 : Int32)) (hz : w.1 8 0 35 = 0) (hn : pc + 3 = n) (k : pw_V l g cx Q X n L ((237, 0) :: st) w) : pw_V l g cx Q X pc L ((10, 0) :: st) w := by
  refine pv_get (f := 8) (k := 35) pw_cf8 (by decide) (by rw [ho]; exact q_446) hd hx hn (fun _ => ?_)
  show pw_V l g cx Q X n L ((237, w.1 8 0 35) :: st) w
  rw [hz]; exact k
theorem gt_M_80 (ho : pw_own cx = "PeatlandModel") (hd : decode (pw_cc cx) pc = .ok (.getfield 80, 3)) (hx : 0 ≤ (0 : Int32)) (hz : w.1 8 0 32 = 0) (hn : pc + 3 = n) (k : pw_V l g cx Q X n L ((234, 0) :: st) w) : pw_V l g cx Q X pc L ((10, 0) :: st) w := by
  refine pv_get (f := 8) (k := 32) pw_cf8 (by decide) (by rw [ho]; exact q_443) hd hx hn (fun _ => ?_)
  show pw_V l g cx Q X n L ((234, w.1 8 0 32) :: st) w
  rw [hz]; exact k
theorem gt_M_86 (ho : pw_own cx = "PeatlandModel") (hd : decode (pw_cc cx) pc = .ok (.getfield 86, 3)) (hx : 0 ≤ (0 : Int32)) (hz : w.1 8 0 34 = 0) (hn : pc + 3 = n) (k : pw_V l g cx Q X n L ((236, 0) :: st) w) : pw_V l g cx Q X pc L ((10, 0) :: st) w := by
  refine pv_get (f := 8) (k := 34) pw_cf8 (by decide) (by rw [ho]; exact q_445) hd hx hn (fun _ => ?_)
  show pw_V l g cx Q X n L ((236, w.1 8 0 34) :: st) w
  rw [hz]; exact k
theorem gt_M_83 (ho : pw_own cx = "PeatlandModel") (hd : decode (pw_cc cx) pc = .ok (.getfield 83, 3)) (hx : 0 ≤ (0 : Int32)) (hz : w.1 8 0 33 = 0) (hn : pc + 3 = n) (k : pw_V l g cx Q X n L ((235, 0) :: st) w) : pw_V l g cx Q X pc L ((10, 0) :: st) w := by
  refine pv_get (f := 8) (k := 33) pw_cf8 (by decide) (by rw [ho]; exact q_444) hd hx hn (fun _ => ?_)
  show pw_V l g cx Q X n L ((235, w.1 8 0 33) :: st) w
  rw [hz]; exact k
theorem gt_M_31 (ho : pw_own cx = "PeatlandModel") (hd : decode (pw_cc cx) pc = .ok (.getfield 31, 3)) (hx : 0 ≤ (0 : Int32)) (hz : w.1 8 0 13 = 0) (hn : pc + 3 = n) (k : pw_V l g cx Q X n L ((215, 0) :: st) w) : pw_V l g cx Q X pc L ((10, 0) :: st) w := by
  refine pv_get (f := 8) (k := 13) pw_cf8 (by decide) (by rw [ho]; exact q_428) hd hx hn (fun _ => ?_)
  show pw_V l g cx Q X n L ((215, w.1 8 0 13) :: st) w
  rw [hz]; exact k
theorem gt_M_239 (ho : pw_own cx = "PeatlandModel") (hd : decode (pw_cc cx) pc = .ok (.getfield 239, 3)) (hx : 0 ≤ (0 : Int32)) (hn : pc + 3 = n) (k : pw_V l g cx Q X n L ((0, w.1 8 0 3) :: st) w) : pw_V l g cx Q X pc L ((10, 0) :: st) w := by
  refine pv_get (f := 8) (k := 3) pw_cf8 (by decide) (by rw [ho]; exact q_580) hd hx hn (fun _ => ?_)
  show pw_V l g cx Q X n L ((0, w.1 8 0 3) :: st) w
  exact k
theorem gt_M_242 (ho : pw_own cx = "PeatlandModel") (hd : decode (pw_cc cx) pc = .ok (.getfield 242, 3)) (hx : 0 ≤ (0 : Int32)) (hn : pc + 3 = n) (k : pw_V l g cx Q X n L ((0, w.1 8 0 4) :: st) w) : pw_V l g cx Q X pc L ((10, 0) :: st) w := by
  refine pv_get (f := 8) (k := 4) pw_cf8 (by decide) (by rw [ho]; exact q_581) hd hx hn (fun _ => ?_)
  show pw_V l g cx Q X n L ((0, w.1 8 0 4) :: st) w
  exact k
theorem gt_M_245 (ho : pw_own cx = "PeatlandModel") (hd : decode (pw_cc cx) pc = .ok (.getfield 245, 3)) (hx : 0 ≤ (0 : Int32)) (hn : pc + 3 = n) (k : pw_V l g cx Q X n L ((0, w.1 8 0 41) :: st) w) : pw_V l g cx Q X pc L ((10, 0) :: st) w := by
  refine pv_get (f := 8) (k := 41) pw_cf8 (by decide) (by rw [ho]; exact q_582) hd hx hn (fun _ => ?_)
  show pw_V l g cx Q X n L ((0, w.1 8 0 41) :: st) w
  exact k
theorem gt_M_98 (ho : pw_own cx = "PeatlandModel") (hd : decode (pw_cc cx) pc = .ok (.getfield 98, 3)) (hx : 0 ≤ (0 : Int32)) (hz : w.1 8 0 39 = 0) (hn : pc + 3 = n) (k : pw_V l g cx Q X n L ((241, 0) :: st) w) : pw_V l g cx Q X pc L ((10, 0) :: st) w := by
  refine pv_get (f := 8) (k := 39) pw_cf8 (by decide) (by rw [ho]; exact q_449) hd hx hn (fun _ => ?_)
  show pw_V l g cx Q X n L ((241, w.1 8 0 39) :: st) w
  rw [hz]; exact k
theorem gt_M_101 (ho : pw_own cx = "PeatlandModel") (hd : decode (pw_cc cx) pc = .ok (.getfield 101, 3)) (hx : 0 ≤ (0 : Int32)) (hz : w.1 8 0 40 = 0) (hn : pc + 3 = n) (k : pw_V l g cx Q X n L ((242, 0) :: st) w) : pw_V l g cx Q X pc L ((10, 0) :: st) w := by
  refine pv_get (f := 8) (k := 40) pw_cf8 (by decide) (by rw [ho]; exact q_450) hd hx hn (fun _ => ?_)
  show pw_V l g cx Q X n L ((242, w.1 8 0 40) :: st) w
  rw [hz]; exact k
theorem gt_M_257 (ho : pw_own cx = "PeatlandModel") (hd : decode (pw_cc cx) pc = .ok (.getfield 257, 3)) (hx : 0 ≤ (0 : Int32)) (hn : pc + 3 = n) (k : pw_V l g cx Q X n L ((0, w.1 8 0 2) :: st) w) : pw_V l g cx Q X pc L ((10, 0) :: st) w := by
  refine pv_get (f := 8) (k := 2) pw_cf8 (by decide) (by rw [ho]; exact q_594) hd hx hn (fun _ => ?_)
  show pw_V l g cx Q X n L ((0, w.1 8 0 2) :: st) w
  exact k
theorem gt_M_269 (ho : pw_own cx = "PeatlandModel") (hd : decode (pw_cc cx) pc = .ok (.getfield 269, 3)) (hx : 0 ≤ (0 : Int32)) (hn : pc + 3 = n) (k : pw_V l g cx Q X n L ((0, w.1 8 0 5) :: st) w) : pw_V l g cx Q X pc L ((10, 0) :: st) w := by
  refine pv_get (f := 8) (k := 5) pw_cf8 (by decide) (by rw [ho]; exact q_607) hd hx hn (fun _ => ?_)
  show pw_V l g cx Q X n L ((0, w.1 8 0 5) :: st) w
  exact k
theorem gt_M_113 (ho : pw_own cx = "PeatlandModel") (hd : decode (pw_cc cx) pc = .ok (.getfield 113, 3)) (hx : 0 ≤ (0 : Int32)) (hz : w.1 8 0 45 = 0) (hn : pc + 3 = n) (k : pw_V l g cx Q X n L ((247, 0) :: st) w) : pw_V l g cx Q X pc L ((10, 0) :: st) w := by
  refine pv_get (f := 8) (k := 45) pw_cf8 (by decide) (by rw [ho]; exact q_454) hd hx hn (fun _ => ?_)
  show pw_V l g cx Q X n L ((247, w.1 8 0 45) :: st) w
  rw [hz]; exact k
theorem gt_M_110 (ho : pw_own cx = "PeatlandModel") (hd : decode (pw_cc cx) pc = .ok (.getfield 110, 3)) (hx : 0 ≤ (0 : Int32)) (hz : w.1 8 0 44 = 0) (hn : pc + 3 = n) (k : pw_V l g cx Q X n L ((246, 0) :: st) w) : pw_V l g cx Q X pc L ((10, 0) :: st) w := by
  refine pv_get (f := 8) (k := 44) pw_cf8 (by decide) (by rw [ho]; exact q_453) hd hx hn (fun _ => ?_)
  show pw_V l g cx Q X n L ((246, w.1 8 0 44) :: st) w
  rw [hz]; exact k
theorem gt_M_107 (ho : pw_own cx = "PeatlandModel") (hd : decode (pw_cc cx) pc = .ok (.getfield 107, 3)) (hx : 0 ≤ (0 : Int32)) (hz : w.1 8 0 43 = 0) (hn : pc + 3 = n) (k : pw_V l g cx Q X n L ((245, 0) :: st) w) : pw_V l g cx Q X pc L ((10, 0) :: st) w := by
  refine pv_get (f := 8) (k := 43) pw_cf8 (by decide) (by rw [ho]; exact q_452) hd hx hn (fun _ => ?_)
  show pw_V l g cx Q X n L ((245, w.1 8 0 43) :: st) w
  rw [hz]; exact k
theorem pt_Parcel_9 (ho : pw_own cx = "Peatland$Parcel") (hnm : pw_nm cx = "<init>") (hd : decode (pw_cc cx) pc = .ok (.putfield 9, 3)) (hx : 0 ≤ (x : Int32)) (hn : pc + 3 = n) (kk : ∀ w1, w1 = pw_ps w 3 (pw_i x) 1 y → pw_V l g cx Q X n L (st) w1) : pw_V l g cx Q X pc L ((13, y) :: (5, x) :: st) w :=
  pv_putF (f := 3) (k := 1) (x := x) pw_cf3 (by decide) (by rw [ho]; exact q_4) rfl hnm (by rw [ho]; rfl) hd hx (pw_nq (F := 11) (Or.inr ⟨_, rfl⟩)) hn (kk _ rfl)
theorem pt_Parcel_15 (ho : pw_own cx = "Peatland$Parcel") (hnm : pw_nm cx = "<init>") (hd : decode (pw_cc cx) pc = .ok (.putfield 15, 3)) (hx : 0 ≤ (x : Int32)) (hn : pc + 3 = n) (kk : ∀ w1, w1 = pw_ps w 3 (pw_i x) 0 y → pw_V l g cx Q X n L (st) w1) : pw_V l g cx Q X pc L ((0, y) :: (5, x) :: st) w :=
  pv_putF (f := 3) (k := 0) (x := x) pw_cf3 (by decide) (by rw [ho]; exact q_5) rfl hnm (by rw [ho]; rfl) hd hx ((fun _ => ⟨rfl, rfl⟩)) hn (kk _ rfl)
theorem pt_Parcel_19 (ho : pw_own cx = "Peatland$Parcel") (hd : decode (pw_cc cx) pc = .ok (.putfield 19, 3)) (hx : 0 ≤ (x : Int32)) (hn : pc + 3 = n) (kk : ∀ w1, w1 = pw_ps w 3 (pw_i x) 2 y → pw_V l g cx Q X n L (st) w1) : pw_V l g cx Q X pc L ((6, y) :: (5, x) :: st) w :=
  pv_put (f := 3) (k := 2) (x := x) pw_cf3 (by decide) (by rw [ho]; exact q_6) rfl hd hx (pw_nq (F := 4) (Or.inl ⟨_, rfl⟩)) hn (kk _ rfl)
theorem pt_Person_10 (ho : pw_own cx = "Peatland$Person") (hnm : pw_nm cx = "<init>") (hd : decode (pw_cc cx) pc = .ok (.putfield 10, 3)) (hx : 0 ≤ (x : Int32)) (hn : pc + 3 = n) (kk : ∀ w1, w1 = pw_ps w 4 (pw_i x) 1 y → pw_V l g cx Q X n L (st) w1) : pw_V l g cx Q X pc L ((26, y) :: (6, x) :: st) w :=
  pv_putF (f := 4) (k := 1) (x := x) pw_cf4 (by decide) (by rw [ho]; exact q_10) rfl hnm (by rw [ho]; rfl) hd hx (pw_nq (F := 24) (Or.inl ⟨_, rfl⟩)) hn (kk _ rfl)
theorem pt_Person_16 (ho : pw_own cx = "Peatland$Person") (hd : decode (pw_cc cx) pc = .ok (.putfield 16, 3)) (hx : 0 ≤ (x : Int32)) (hz : y = 0 ∨ y = 1) (hn : pc + 3 = n) (kk : ∀ w1, w1 = pw_ps w 4 (pw_i x) 2 y → pw_V l g cx Q X n L (st) w1) : pw_V l g cx Q X pc L ((0, y) :: (6, x) :: st) w :=
  pv_put (f := 4) (k := 2) (x := x) pw_cf4 (by decide) (by rw [ho]; exact q_11) rfl hd hx ((fun _ => ⟨pw_nz hz, pw_fz hz⟩)) hn (kk _ rfl)
theorem pt_Person_20 (ho : pw_own cx = "Peatland$Person") (hnm : pw_nm cx = "<init>") (hd : decode (pw_cc cx) pc = .ok (.putfield 20, 3)) (hx : 0 ≤ (x : Int32)) (hn : pc + 3 = n) (kk : ∀ w1, w1 = pw_ps w 4 (pw_i x) 0 y → pw_V l g cx Q X n L (st) w1) : pw_V l g cx Q X pc L ((0, y) :: (6, x) :: st) w :=
  pv_putF (f := 4) (k := 0) (x := x) pw_cf4 (by decide) (by rw [ho]; exact q_12) rfl hnm (by rw [ho]; rfl) hd hx ((fun _ => ⟨rfl, rfl⟩)) hn (kk _ rfl)
theorem pt_Square_9 (ho : pw_own cx = "Peatland$Square") (hd : decode (pw_cc cx) pc = .ok (.putfield 9, 3)) (hx : 0 ≤ (x : Int32)) (hn : pc + 3 = n) (kk : ∀ w1, w1 = pw_ps w 6 (pw_i x) 2 y → pw_V l g cx Q X n L (st) w1) : pw_V l g cx Q X pc L ((12, y) :: (8, x) :: st) w :=
  pv_put (f := 6) (k := 2) (x := x) pw_cf6 (by decide) (by rw [ho]; exact q_14) rfl hd hx (pw_nq (F := 10) (Or.inr ⟨_, rfl⟩)) hn (kk _ rfl)
theorem pt_Square_15 (ho : pw_own cx = "Peatland$Square") (hd : decode (pw_cc cx) pc = .ok (.putfield 15, 3)) (hx : 0 ≤ (x : Int32)) (hn : pc + 3 = n) (kk : ∀ w1, w1 = pw_ps w 6 (pw_i x) 3 y → pw_V l g cx Q X n L (st) w1) : pw_V l g cx Q X pc L ((0, y) :: (8, x) :: st) w :=
  pv_put (f := 6) (k := 3) (x := x) pw_cf6 (by decide) (by rw [ho]; exact q_15) rfl hd hx ((fun _ => ⟨rfl, rfl⟩)) hn (kk _ rfl)
theorem pt_Square_19 (ho : pw_own cx = "Peatland$Square") (hd : decode (pw_cc cx) pc = .ok (.putfield 19, 3)) (hx : 0 ≤ (x : Int32)) (hn : pc + 3 = n) (kk : ∀ w1, w1 = pw_ps w 6 (pw_i x) 4 y → pw_V l g cx Q X n L (st) w1) : pw_V l g cx Q X pc L ((0, y) :: (8, x) :: st) w :=
  pv_put (f := 6) (k := 4) (x := x) pw_cf6 (by decide) (by rw [ho]; exact q_16) rfl hd hx ((fun _ => ⟨rfl, rfl⟩)) hn (kk _ rfl)
theorem pt_Square_22 (ho : pw_own cx = "Peatland$Square") (hd : decode (pw_cc cx) pc = .ok (.putfield 22, 3)) (hx : 0 ≤ (x : Int32)) (hn : pc + 3 = n) (kk : ∀ w1, w1 = pw_ps w 6 (pw_i x) 5 y → pw_V l g cx Q X n L (st) w1) : pw_V l g cx Q X pc L ((0, y) :: (8, x) :: st) w :=
  pv_put (f := 6) (k := 5) (x := x) pw_cf6 (by decide) (by rw [ho]; exact q_17) rfl hd hx ((fun _ => ⟨rfl, rfl⟩)) hn (kk _ rfl)
theorem pt_Square_25 (ho : pw_own cx = "Peatland$Square") (hd : decode (pw_cc cx) pc = .ok (.putfield 25, 3)) (hx : 0 ≤ (x : Int32)) (hn : pc + 3 = n) (kk : ∀ w1, w1 = pw_ps w 6 (pw_i x) 6 y → pw_V l g cx Q X n L (st) w1) : pw_V l g cx Q X pc L ((0, y) :: (8, x) :: st) w :=
  pv_put (f := 6) (k := 6) (x := x) pw_cf6 (by decide) (by rw [ho]; exact q_18) rfl hd hx ((fun _ => ⟨rfl, rfl⟩)) hn (kk _ rfl)
theorem pt_Square_28 (ho : pw_own cx = "Peatland$Square") (hnm : pw_nm cx = "<init>") (hd : decode (pw_cc cx) pc = .ok (.putfield 28, 3)) (hx : 0 ≤ (x : Int32)) (hn : pc + 3 = n) (kk : ∀ w1, w1 = pw_ps w 6 (pw_i x) 0 y → pw_V l g cx Q X n L (st) w1) : pw_V l g cx Q X pc L ((0, y) :: (8, x) :: st) w :=
  pv_putF (f := 6) (k := 0) (x := x) pw_cf6 (by decide) (by rw [ho]; exact q_19) rfl hnm (by rw [ho]; rfl) hd hx ((fun _ => ⟨rfl, rfl⟩)) hn (kk _ rfl)
theorem pt_Square_31 (ho : pw_own cx = "Peatland$Square") (hd : decode (pw_cc cx) pc = .ok (.putfield 31, 3)) (hx : 0 ≤ (x : Int32)) (hn : pc + 3 = n) (kk : ∀ w1, w1 = pw_ps w 6 (pw_i x) 1 y → pw_V l g cx Q X n L (st) w1) : pw_V l g cx Q X pc L ((5, y) :: (8, x) :: st) w :=
  pv_put (f := 6) (k := 1) (x := x) pw_cf6 (by decide) (by rw [ho]; exact q_20) rfl hd hx (pw_nq (F := 3) (Or.inl ⟨_, rfl⟩)) hn (kk _ rfl)
theorem pt_X_54 (ho : pw_own cx = "Peatland") (hd : decode (pw_cc cx) pc = .ok (.putfield 54, 3)) (hx : 0 ≤ (x : Int32)) (hn : pc + 3 = n) (kk : ∀ w1, w1 = pw_ps w 3 (pw_i x) 4 y → pw_V l g cx Q X n L (st) w1) : pw_V l g cx Q X pc L ((0, y) :: (5, x) :: st) w :=
  pv_put (f := 3) (k := 4) (x := x) pw_cf3 (by decide) (by rw [ho]; exact q_28) rfl hd hx ((fun _ => ⟨rfl, rfl⟩)) hn (kk _ rfl)
theorem pt_X_11 (ho : pw_own cx = "Peatland") (hnm : pw_nm cx = "<init>") (hd : decode (pw_cc cx) pc = .ok (.putfield 11, 3)) (hx : 0 ≤ (0 : Int32)) (hn : pc + 3 = n) (kk : ∀ w1, w1 = pw_ps w 7 0 0 y → pw_V l g cx Q X n L (st) w1) : pw_V l g cx Q X pc L ((16, y) :: (9, 0) :: st) w :=
  pv_putF (f := 7) (k := 0) (x := 0) pw_cf7 (by decide) (by rw [ho]; exact q_29) rfl hnm (by rw [ho]; rfl) hd hx (pw_nq (F := 14) (Or.inr ⟨_, rfl⟩)) hn (kk _ rfl)
theorem pt_X_17 (ho : pw_own cx = "Peatland") (hnm : pw_nm cx = "<init>") (hd : decode (pw_cc cx) pc = .ok (.putfield 17, 3)) (hx : 0 ≤ (0 : Int32)) (hn : pc + 3 = n) (kk : ∀ w1, w1 = pw_ps w 7 0 1 y → pw_V l g cx Q X n L (st) w1) : pw_V l g cx Q X pc L ((17, y) :: (9, 0) :: st) w :=
  pv_putF (f := 7) (k := 1) (x := 0) pw_cf7 (by decide) (by rw [ho]; exact q_22) rfl hnm (by rw [ho]; rfl) hd hx (pw_nq (F := 15) (Or.inr ⟨_, rfl⟩)) hn (kk _ rfl)
theorem pt_X_24 (ho : pw_own cx = "Peatland") (hnm : pw_nm cx = "<init>") (hd : decode (pw_cc cx) pc = .ok (.putfield 24, 3)) (hx : 0 ≤ (0 : Int32)) (hn : pc + 3 = n) (kk : ∀ w1, w1 = pw_ps w 7 0 2 y → pw_V l g cx Q X n L (st) w1) : pw_V l g cx Q X pc L ((25, y) :: (9, 0) :: st) w :=
  pv_putF (f := 7) (k := 2) (x := 0) pw_cf7 (by decide) (by rw [ho]; exact q_38) rfl hnm (by rw [ho]; rfl) hd hx (pw_nq (F := 23) (Or.inl ⟨_, rfl⟩)) hn (kk _ rfl)
theorem pt_X_28 (ho : pw_own cx = "Peatland") (hnm : pw_nm cx = "<init>") (hd : decode (pw_cc cx) pc = .ok (.putfield 28, 3)) (hx : 0 ≤ (0 : Int32)) (hn : pc + 3 = n) (kk : ∀ w1, w1 = pw_ps w 7 0 3 y → pw_V l g cx Q X n L (st) w1) : pw_V l g cx Q X pc L ((24, y) :: (9, 0) :: st) w :=
  pv_putF (f := 7) (k := 3) (x := 0) pw_cf7 (by decide) (by rw [ho]; exact q_39) rfl hnm (by rw [ho]; rfl) hd hx (pw_nq (F := 22) (Or.inl ⟨_, rfl⟩)) hn (kk _ rfl)
theorem pt_X_31 (ho : pw_own cx = "Peatland") (hnm : pw_nm cx = "<init>") (hd : decode (pw_cc cx) pc = .ok (.putfield 31, 3)) (hx : 0 ≤ (0 : Int32)) (hn : pc + 3 = n) (kk : ∀ w1, w1 = pw_ps w 7 0 4 y → pw_V l g cx Q X n L (st) w1) : pw_V l g cx Q X pc L ((22, y) :: (9, 0) :: st) w :=
  pv_putF (f := 7) (k := 4) (x := 0) pw_cf7 (by decide) (by rw [ho]; exact q_40) rfl hnm (by rw [ho]; rfl) hd hx (pw_nq (F := 20) (Or.inl ⟨_, rfl⟩)) hn (kk _ rfl)
theorem pt_X_34 (ho : pw_own cx = "Peatland") (hnm : pw_nm cx = "<init>") (hd : decode (pw_cc cx) pc = .ok (.putfield 34, 3)) (hx : 0 ≤ (0 : Int32)) (hn : pc + 3 = n) (kk : ∀ w1, w1 = pw_ps w 7 0 5 y → pw_V l g cx Q X n L (st) w1) : pw_V l g cx Q X pc L ((27, y) :: (9, 0) :: st) w :=
  pv_putF (f := 7) (k := 5) (x := 0) pw_cf7 (by decide) (by rw [ho]; exact q_41) rfl hnm (by rw [ho]; rfl) hd hx (pw_nq (F := 25) (Or.inl ⟨_, rfl⟩)) hn (kk _ rfl)
theorem pt_X_37 (ho : pw_own cx = "Peatland") (hnm : pw_nm cx = "<init>") (hd : decode (pw_cc cx) pc = .ok (.putfield 37, 3)) (hx : 0 ≤ (0 : Int32)) (hn : pc + 3 = n) (kk : ∀ w1, w1 = pw_ps w 7 0 6 y → pw_V l g cx Q X n L (st) w1) : pw_V l g cx Q X pc L ((23, y) :: (9, 0) :: st) w :=
  pv_putF (f := 7) (k := 6) (x := 0) pw_cf7 (by decide) (by rw [ho]; exact q_42) rfl hnm (by rw [ho]; rfl) hd hx (pw_nq (F := 21) (Or.inl ⟨_, rfl⟩)) hn (kk _ rfl)
theorem pt_Right_7 (ho : pw_own cx = "Peatland$Right") (hnm : pw_nm cx = "<init>") (hd : decode (pw_cc cx) pc = .ok (.putfield 7, 3)) (hx : 0 ≤ (x : Int32)) (hn : pc + 3 = n) (kk : ∀ w1, w1 = pw_ps w 5 (pw_i x) 0 y → pw_V l g cx Q X n L (st) w1) : pw_V l g cx Q X pc L ((0, y) :: (7, x) :: st) w :=
  pv_putF (f := 5) (k := 0) (x := x) pw_cf5 (by decide) (by rw [ho]; exact q_67) rfl hnm (by rw [ho]; rfl) hd hx ((fun _ => ⟨rfl, rfl⟩)) hn (kk _ rfl)
theorem pt_Right_13 (ho : pw_own cx = "Peatland$Right") (hnm : pw_nm cx = "<init>") (hd : decode (pw_cc cx) pc = .ok (.putfield 13, 3)) (hx : 0 ≤ (x : Int32)) (hn : pc + 3 = n) (kk : ∀ w1, w1 = pw_ps w 5 (pw_i x) 1 y → pw_V l g cx Q X n L (st) w1) : pw_V l g cx Q X pc L ((5, y) :: (7, x) :: st) w :=
  pv_putF (f := 5) (k := 1) (x := x) pw_cf5 (by decide) (by rw [ho]; exact q_50) rfl hnm (by rw [ho]; rfl) hd hx (pw_nq (F := 3) (Or.inl ⟨_, rfl⟩)) hn (kk _ rfl)
theorem pt_Right_17 (ho : pw_own cx = "Peatland$Right") (hnm : pw_nm cx = "<init>") (hd : decode (pw_cc cx) pc = .ok (.putfield 17, 3)) (hx : 0 ≤ (x : Int32)) (hn : pc + 3 = n) (kk : ∀ w1, w1 = pw_ps w 5 (pw_i x) 2 y → pw_V l g cx Q X n L (st) w1) : pw_V l g cx Q X pc L ((6, y) :: (7, x) :: st) w :=
  pv_putF (f := 5) (k := 2) (x := x) pw_cf5 (by decide) (by rw [ho]; exact q_68) rfl hnm (by rw [ho]; rfl) hd hx (pw_nq (F := 4) (Or.inl ⟨_, rfl⟩)) hn (kk _ rfl)
theorem pt_Right_21 (ho : pw_own cx = "Peatland$Right") (hnm : pw_nm cx = "<init>") (hd : decode (pw_cc cx) pc = .ok (.putfield 21, 3)) (hx : 0 ≤ (x : Int32)) (hn : pc + 3 = n) (kk : ∀ w1, w1 = pw_ps w 5 (pw_i x) 3 y → pw_V l g cx Q X n L (st) w1) : pw_V l g cx Q X pc L ((0, y) :: (7, x) :: st) w :=
  pv_putF (f := 5) (k := 3) (x := x) pw_cf5 (by decide) (by rw [ho]; exact q_69) rfl hnm (by rw [ho]; rfl) hd hx ((fun _ => ⟨rfl, rfl⟩)) hn (kk _ rfl)
theorem pt_Right_24 (ho : pw_own cx = "Peatland$Right") (hnm : pw_nm cx = "<init>") (hd : decode (pw_cc cx) pc = .ok (.putfield 24, 3)) (hx : 0 ≤ (x : Int32)) (hn : pc + 3 = n) (kk : ∀ w1, w1 = pw_ps w 5 (pw_i x) 4 y → pw_V l g cx Q X n L (st) w1) : pw_V l g cx Q X pc L ((0, y) :: (7, x) :: st) w :=
  pv_putF (f := 5) (k := 4) (x := x) pw_cf5 (by decide) (by rw [ho]; exact q_70) rfl hnm (by rw [ho]; rfl) hd hx ((fun _ => ⟨rfl, rfl⟩)) hn (kk _ rfl)
theorem pt_Square_38 (ho : pw_own cx = "Peatland$Square") (hd : decode (pw_cc cx) pc = .ok (.putfield 38, 3)) (hx : 0 ≤ (x : Int32)) (hn : pc + 3 = n) (kk : ∀ w1, w1 = pw_ps w 3 (pw_i x) 4 y → pw_V l g cx Q X n L (st) w1) : pw_V l g cx Q X pc L ((0, y) :: (5, x) :: st) w :=
  pv_put (f := 3) (k := 4) (x := x) pw_cf3 (by decide) (by rw [ho]; exact q_108) rfl hd hx ((fun _ => ⟨rfl, rfl⟩)) hn (kk _ rfl)
theorem pt_Parcel_34 (ho : pw_own cx = "Peatland$Parcel") (hd : decode (pw_cc cx) pc = .ok (.putfield 34, 3)) (hx : 0 ≤ (x : Int32)) (hn : pc + 3 = n) (kk : ∀ w1, w1 = pw_ps w 3 (pw_i x) 5 y → pw_V l g cx Q X n L (st) w1) : pw_V l g cx Q X pc L ((0, y) :: (5, x) :: st) w :=
  pv_put (f := 3) (k := 5) (x := x) pw_cf3 (by decide) (by rw [ho]; exact q_149) rfl hd hx ((fun _ => ⟨rfl, rfl⟩)) hn (kk _ rfl)
theorem pt_X_223 (ho : pw_own cx = "Peatland") (hd : decode (pw_cc cx) pc = .ok (.putfield 223, 3)) (hx : 0 ≤ (x : Int32)) (hz : y = 0 ∨ y = 1) (hn : pc + 3 = n) (kk : ∀ w1, w1 = pw_ps w 5 (pw_i x) 5 y → pw_V l g cx Q X n L (st) w1) : pw_V l g cx Q X pc L ((0, y) :: (7, x) :: st) w :=
  pv_put (f := 5) (k := 5) (x := x) pw_cf5 (by decide) (by rw [ho]; exact q_159) rfl hd hx ((fun _ => ⟨pw_nz hz, pw_fz hz⟩)) hn (kk _ rfl)
theorem pt_X_134 (ho : pw_own cx = "Peatland") (hd : decode (pw_cc cx) pc = .ok (.putfield 134, 3)) (hx : 0 ≤ (x : Int32)) (hn : pc + 3 = n) (kk : ∀ w1, w1 = pw_ps w 3 (pw_i x) 3 y → pw_V l g cx Q X n L (st) w1) : pw_V l g cx Q X pc L ((5, y) :: (5, x) :: st) w :=
  pv_put (f := 3) (k := 3) (x := x) pw_cf3 (by decide) (by rw [ho]; exact q_160) rfl hd hx (pw_nq (F := 3) (Or.inl ⟨_, rfl⟩)) hn (kk _ rfl)
theorem pt_FieldMap_7 (ho : pw_own cx = "Peatland$FieldMap") (hnm : pw_nm cx = "<init>") (hd : decode (pw_cc cx) pc = .ok (.putfield 7, 3)) (hx : 0 ≤ (x : Int32)) (hn : pc + 3 = n) (kk : ∀ w1, w1 = pw_ps w 2 (pw_i x) 0 y → pw_V l g cx Q X n L (st) w1) : pw_V l g cx Q X pc L ((6, y) :: (4, x) :: st) w :=
  pv_putF (f := 2) (k := 0) (x := x) pw_cf2 (by decide) (by rw [ho]; exact q_174) rfl hnm (by rw [ho]; rfl) hd hx (pw_nq (F := 4) (Or.inl ⟨_, rfl⟩)) hn (kk _ rfl)
theorem pt_FieldMap_13 (ho : pw_own cx = "Peatland$FieldMap") (hnm : pw_nm cx = "<init>") (hd : decode (pw_cc cx) pc = .ok (.putfield 13, 3)) (hx : 0 ≤ (x : Int32)) (hn : pc + 3 = n) (kk : ∀ w1, w1 = pw_ps w 2 (pw_i x) 1 y → pw_V l g cx Q X n L (st) w1) : pw_V l g cx Q X pc L ((0, y) :: (4, x) :: st) w :=
  pv_putF (f := 2) (k := 1) (x := x) pw_cf2 (by decide) (by rw [ho]; exact q_175) rfl hnm (by rw [ho]; rfl) hd hx ((fun _ => ⟨rfl, rfl⟩)) hn (kk _ rfl)
theorem pt_FieldMap_17 (ho : pw_own cx = "Peatland$FieldMap") (hnm : pw_nm cx = "<init>") (hd : decode (pw_cc cx) pc = .ok (.putfield 17, 3)) (hx : 0 ≤ (x : Int32)) (hn : pc + 3 = n) (kk : ∀ w1, w1 = pw_ps w 2 (pw_i x) 2 y → pw_V l g cx Q X n L (st) w1) : pw_V l g cx Q X pc L ((0, y) :: (4, x) :: st) w :=
  pv_putF (f := 2) (k := 2) (x := x) pw_cf2 (by decide) (by rw [ho]; exact q_176) rfl hnm (by rw [ho]; rfl) hd hx ((fun _ => ⟨rfl, rfl⟩)) hn (kk _ rfl)
theorem pt_X_142 (ho : pw_own cx = "Peatland") (hd : decode (pw_cc cx) pc = .ok (.putfield 142, 3)) (hx : 0 ≤ (x : Int32)) (hn : pc + 3 = n) (kk : ∀ w1, w1 = pw_ps w 6 (pw_i x) 7 y → pw_V l g cx Q X n L (st) w1) : pw_V l g cx Q X pc L ((6, y) :: (8, x) :: st) w :=
  pv_put (f := 6) (k := 7) (x := x) pw_cf6 (by decide) (by rw [ho]; exact q_182) rfl hd hx (pw_nq (F := 4) (Or.inl ⟨_, rfl⟩)) hn (kk _ rfl)
theorem pt_X_148 (ho : pw_own cx = "Peatland") (hd : decode (pw_cc cx) pc = .ok (.putfield 148, 3)) (hx : 0 ≤ (x : Int32)) (hn : pc + 3 = n) (kk : ∀ w1, w1 = pw_ps w 6 (pw_i x) 8 y → pw_V l g cx Q X n L (st) w1) : pw_V l g cx Q X pc L ((0, y) :: (8, x) :: st) w :=
  pv_put (f := 6) (k := 8) (x := x) pw_cf6 (by decide) (by rw [ho]; exact q_184) rfl hd hx ((fun _ => ⟨rfl, rfl⟩)) hn (kk _ rfl)
theorem pt_Case_9 (ho : pw_own cx = "Peatland$Case") (hnm : pw_nm cx = "<init>") (hd : decode (pw_cc cx) pc = .ok (.putfield 9, 3)) (hx : 0 ≤ (x : Int32)) (hn : pc + 3 = n) (kk : ∀ w1, w1 = pw_ps w 0 (pw_i x) 1 y → pw_V l g cx Q X n L (st) w1) : pw_V l g cx Q X pc L ((14, y) :: (2, x) :: st) w :=
  pv_putF (f := 0) (k := 1) (x := x) pw_cf0 (by decide) (by rw [ho]; exact q_194) rfl hnm (by rw [ho]; rfl) hd hx (pw_nq (F := 12) (Or.inr ⟨_, rfl⟩)) hn (kk _ rfl)
theorem pt_Case_15 (ho : pw_own cx = "Peatland$Case") (hd : decode (pw_cc cx) pc = .ok (.putfield 15, 3)) (hx : 0 ≤ (x : Int32)) (hn : pc + 3 = n) (kk : ∀ w1, w1 = pw_ps w 0 (pw_i x) 3 y → pw_V l g cx Q X n L (st) w1) : pw_V l g cx Q X pc L ((0, y) :: (2, x) :: st) w :=
  pv_put (f := 0) (k := 3) (x := x) pw_cf0 (by decide) (by rw [ho]; exact q_195) rfl hd hx ((fun _ => ⟨rfl, rfl⟩)) hn (kk _ rfl)
theorem pt_Case_19 (ho : pw_own cx = "Peatland$Case") (hnm : pw_nm cx = "<init>") (hd : decode (pw_cc cx) pc = .ok (.putfield 19, 3)) (hx : 0 ≤ (x : Int32)) (hn : pc + 3 = n) (kk : ∀ w1, w1 = pw_ps w 0 (pw_i x) 0 y → pw_V l g cx Q X n L (st) w1) : pw_V l g cx Q X pc L ((6, y) :: (2, x) :: st) w :=
  pv_putF (f := 0) (k := 0) (x := x) pw_cf0 (by decide) (by rw [ho]; exact q_196) rfl hnm (by rw [ho]; rfl) hd hx (pw_nq (F := 4) (Or.inl ⟨_, rfl⟩)) hn (kk _ rfl)
theorem pt_Case_27 (ho : pw_own cx = "Peatland$Case") (hd : decode (pw_cc cx) pc = .ok (.putfield 27, 3)) (hx : 0 ≤ (x : Int32)) (hn : pc + 3 = n) (kk : ∀ w1, w1 = pw_ps w 0 (pw_i x) 2 y → pw_V l g cx Q X n L (st) w1) : pw_V l g cx Q X pc L ((0, y) :: (2, x) :: st) w :=
  pv_put (f := 0) (k := 2) (x := x) pw_cf0 (by decide) (by rw [ho]; exact q_197) rfl hd hx ((fun _ => ⟨rfl, rfl⟩)) hn (kk _ rfl)
theorem pt_X_180 (ho : pw_own cx = "Peatland") (hd : decode (pw_cc cx) pc = .ok (.putfield 180, 3)) (hx : 0 ≤ (x : Int32)) (hn : pc + 3 = n) (kk : ∀ w1, w1 = pw_ps w 0 (pw_i x) 7 y → pw_V l g cx Q X n L (st) w1) : pw_V l g cx Q X pc L ((0, y) :: (2, x) :: st) w :=
  pv_put (f := 0) (k := 7) (x := x) pw_cf0 (by decide) (by rw [ho]; exact q_213) rfl hd hx ((fun _ => ⟨rfl, rfl⟩)) hn (kk _ rfl)
theorem pt_X_177 (ho : pw_own cx = "Peatland") (hd : decode (pw_cc cx) pc = .ok (.putfield 177, 3)) (hx : 0 ≤ (x : Int32)) (hn : pc + 3 = n) (kk : ∀ w1, w1 = pw_ps w 0 (pw_i x) 6 y → pw_V l g cx Q X n L (st) w1) : pw_V l g cx Q X pc L ((0, y) :: (2, x) :: st) w :=
  pv_put (f := 0) (k := 6) (x := x) pw_cf0 (by decide) (by rw [ho]; exact q_214) rfl hd hx ((fun _ => ⟨rfl, rfl⟩)) hn (kk _ rfl)
theorem pt_Square_54 (ho : pw_own cx = "Peatland$Square") (hd : decode (pw_cc cx) pc = .ok (.putfield 54, 3)) (hx : 0 ≤ (x : Int32)) (hn : pc + 3 = n) (kk : ∀ w1, w1 = pw_ps w 6 (pw_i x) 9 y → pw_V l g cx Q X n L (st) w1) : pw_V l g cx Q X pc L ((2, y) :: (8, x) :: st) w :=
  pv_put (f := 6) (k := 9) (x := x) pw_cf6 (by decide) (by rw [ho]; exact q_231) rfl hd hx (pw_nq (F := 0) (Or.inl ⟨_, rfl⟩)) hn (kk _ rfl)
theorem pt_Square_47 (ho : pw_own cx = "Peatland$Square") (hd : decode (pw_cc cx) pc = .ok (.putfield 47, 3)) (hx : 0 ≤ (x : Int32)) (hn : pc + 3 = n) (kk : ∀ w1, w1 = pw_ps w 6 (pw_i x) 10 y → pw_V l g cx Q X n L (st) w1) : pw_V l g cx Q X pc L ((5, y) :: (8, x) :: st) w :=
  pv_put (f := 6) (k := 10) (x := x) pw_cf6 (by decide) (by rw [ho]; exact q_232) rfl hd hx (pw_nq (F := 3) (Or.inl ⟨_, rfl⟩)) hn (kk _ rfl)
theorem pt_X_174 (ho : pw_own cx = "Peatland") (hd : decode (pw_cc cx) pc = .ok (.putfield 174, 3)) (hx : 0 ≤ (x : Int32)) (hn : pc + 3 = n) (kk : ∀ w1, w1 = pw_ps w 0 (pw_i x) 3 y → pw_V l g cx Q X n L (st) w1) : pw_V l g cx Q X pc L ((0, y) :: (2, x) :: st) w :=
  pv_put (f := 0) (k := 3) (x := x) pw_cf0 (by decide) (by rw [ho]; exact q_215) rfl hd hx ((fun _ => ⟨rfl, rfl⟩)) hn (kk _ rfl)
theorem pt_X_403 (ho : pw_own cx = "Peatland") (hd : decode (pw_cc cx) pc = .ok (.putfield 403, 3)) (hx : 0 ≤ (x : Int32)) (hn : pc + 3 = n) (kk : ∀ w1, w1 = pw_ps w 6 (pw_i x) 9 y → pw_V l g cx Q X n L (st) w1) : pw_V l g cx Q X pc L ((2, y) :: (8, x) :: st) w :=
  pv_put (f := 6) (k := 9) (x := x) pw_cf6 (by decide) (by rw [ho]; exact q_221) rfl hd hx (pw_nq (F := 0) (Or.inl ⟨_, rfl⟩)) hn (kk _ rfl)
theorem pt_X_411 (ho : pw_own cx = "Peatland") (hd : decode (pw_cc cx) pc = .ok (.putfield 411, 3)) (hx : 0 ≤ (x : Int32)) (hn : pc + 3 = n) (kk : ∀ w1, w1 = pw_ps w 6 (pw_i x) 10 y → pw_V l g cx Q X n L (st) w1) : pw_V l g cx Q X pc L ((5, y) :: (8, x) :: st) w :=
  pv_put (f := 6) (k := 10) (x := x) pw_cf6 (by decide) (by rw [ho]; exact q_239) rfl hd hx (pw_nq (F := 3) (Or.inl ⟨_, rfl⟩)) hn (kk _ rfl)
theorem pt_X_193 (ho : pw_own cx = "Peatland") (hd : decode (pw_cc cx) pc = .ok (.putfield 193, 3)) (hx : 0 ≤ (x : Int32)) (hn : pc + 3 = n) (kk : ∀ w1, w1 = pw_ps w 0 (pw_i x) 5 y → pw_V l g cx Q X n L (st) w1) : pw_V l g cx Q X pc L ((0, y) :: (2, x) :: st) w :=
  pv_put (f := 0) (k := 5) (x := x) pw_cf0 (by decide) (by rw [ho]; exact q_222) rfl hd hx ((fun _ => ⟨rfl, rfl⟩)) hn (kk _ rfl)
theorem pt_X_190 (ho : pw_own cx = "Peatland") (hd : decode (pw_cc cx) pc = .ok (.putfield 190, 3)) (hx : 0 ≤ (x : Int32)) (hn : pc + 3 = n) (kk : ∀ w1, w1 = pw_ps w 0 (pw_i x) 4 y → pw_V l g cx Q X n L (st) w1) : pw_V l g cx Q X pc L ((0, y) :: (2, x) :: st) w :=
  pv_put (f := 0) (k := 4) (x := x) pw_cf0 (by decide) (by rw [ho]; exact q_223) rfl hd hx ((fun _ => ⟨rfl, rfl⟩)) hn (kk _ rfl)
theorem pt_X_247 (ho : pw_own cx = "Peatland") (hd : decode (pw_cc cx) pc = .ok (.putfield 247, 3)) (hx : 0 ≤ (0 : Int32)) (hn : pc + 3 = n) (kk : ∀ w1, w1 = pw_ps w 7 0 9 y → pw_V l g cx Q X n L (st) w1) : pw_V l g cx Q X pc L ((0, y) :: (9, 0) :: st) w :=
  pv_put (f := 7) (k := 9) (x := 0) pw_cf7 (by decide) (by rw [ho]; exact q_273) rfl hd hx ((fun _ => ⟨rfl, rfl⟩)) hn (kk _ rfl)
theorem pt_X_250 (ho : pw_own cx = "Peatland") (hd : decode (pw_cc cx) pc = .ok (.putfield 250, 3)) (hx : 0 ≤ (0 : Int32)) (hn : pc + 3 = n) (kk : ∀ w1, w1 = pw_ps w 7 0 10 y → pw_V l g cx Q X n L (st) w1) : pw_V l g cx Q X pc L ((0, y) :: (9, 0) :: st) w :=
  pv_put (f := 7) (k := 10) (x := 0) pw_cf7 (by decide) (by rw [ho]; exact q_274) rfl hd hx ((fun _ => ⟨rfl, rfl⟩)) hn (kk _ rfl)
theorem pt_X_238 (ho : pw_own cx = "Peatland") (hd : decode (pw_cc cx) pc = .ok (.putfield 238, 3)) (hx : 0 ≤ (x : Int32)) (hn : pc + 3 = n) (kk : ∀ w1, w1 = pw_ps w 6 (pw_i x) 5 y → pw_V l g cx Q X n L (st) w1) : pw_V l g cx Q X pc L ((0, y) :: (8, x) :: st) w :=
  pv_put (f := 6) (k := 5) (x := x) pw_cf6 (by decide) (by rw [ho]; exact q_275) rfl hd hx ((fun _ => ⟨rfl, rfl⟩)) hn (kk _ rfl)
theorem pt_Drain_9 (ho : pw_own cx = "Peatland$Drain") (hnm : pw_nm cx = "<init>") (hd : decode (pw_cc cx) pc = .ok (.putfield 9, 3)) (hx : 0 ≤ (x : Int32)) (hn : pc + 3 = n) (kk : ∀ w1, w1 = pw_ps w 1 (pw_i x) 0 y → pw_V l g cx Q X n L (st) w1) : pw_V l g cx Q X pc L ((8, y) :: (3, x) :: st) w :=
  pv_putF (f := 1) (k := 0) (x := x) pw_cf1 (by decide) (by rw [ho]; exact q_281) rfl hnm (by rw [ho]; rfl) hd hx (pw_nq (F := 6) (Or.inl ⟨_, rfl⟩)) hn (kk _ rfl)
theorem pt_Drain_15 (ho : pw_own cx = "Peatland$Drain") (hnm : pw_nm cx = "<init>") (hd : decode (pw_cc cx) pc = .ok (.putfield 15, 3)) (hx : 0 ≤ (x : Int32)) (hn : pc + 3 = n) (kk : ∀ w1, w1 = pw_ps w 1 (pw_i x) 1 y → pw_V l g cx Q X n L (st) w1) : pw_V l g cx Q X pc L ((8, y) :: (3, x) :: st) w :=
  pv_putF (f := 1) (k := 1) (x := x) pw_cf1 (by decide) (by rw [ho]; exact q_282) rfl hnm (by rw [ho]; rfl) hd hx (pw_nq (F := 6) (Or.inl ⟨_, rfl⟩)) hn (kk _ rfl)
theorem pt_X_278 (ho : pw_own cx = "Peatland") (hd : decode (pw_cc cx) pc = .ok (.putfield 278, 3)) (hx : 0 ≤ (x : Int32)) (hn : pc + 3 = n) (kk : ∀ w1, w1 = pw_ps w 6 (pw_i x) 4 y → pw_V l g cx Q X n L (st) w1) : pw_V l g cx Q X pc L ((0, y) :: (8, x) :: st) w :=
  pv_put (f := 6) (k := 4) (x := x) pw_cf6 (by decide) (by rw [ho]; exact q_295) rfl hd hx ((fun _ => ⟨rfl, rfl⟩)) hn (kk _ rfl)
theorem pt_X_281 (ho : pw_own cx = "Peatland") (hd : decode (pw_cc cx) pc = .ok (.putfield 281, 3)) (hx : 0 ≤ (0 : Int32)) (hn : pc + 3 = n) (kk : ∀ w1, w1 = pw_ps w 7 0 8 y → pw_V l g cx Q X n L (st) w1) : pw_V l g cx Q X pc L ((0, y) :: (9, 0) :: st) w :=
  pv_put (f := 7) (k := 8) (x := 0) pw_cf7 (by decide) (by rw [ho]; exact q_304) rfl hd hx ((fun _ => ⟨rfl, rfl⟩)) hn (kk _ rfl)
theorem pt_X_288 (ho : pw_own cx = "Peatland") (hd : decode (pw_cc cx) pc = .ok (.putfield 288, 3)) (hx : 0 ≤ (x : Int32)) (hn : pc + 3 = n) (kk : ∀ w1, w1 = pw_ps w 6 (pw_i x) 6 y → pw_V l g cx Q X n L (st) w1) : pw_V l g cx Q X pc L ((0, y) :: (8, x) :: st) w :=
  pv_put (f := 6) (k := 6) (x := x) pw_cf6 (by decide) (by rw [ho]; exact q_305) rfl hd hx ((fun _ => ⟨rfl, rfl⟩)) hn (kk _ rfl)
theorem pt_X_362 (ho : pw_own cx = "Peatland") (hd : decode (pw_cc cx) pc = .ok (.putfield 362, 3)) (hx : 0 ≤ (0 : Int32)) (hn : pc + 3 = n) (kk : ∀ w1, w1 = pw_ps w 7 0 11 y → pw_V l g cx Q X n L (st) w1) : pw_V l g cx Q X pc L ((0, y) :: (9, 0) :: st) w :=
  pv_put (f := 7) (k := 11) (x := 0) pw_cf7 (by decide) (by rw [ho]; exact q_314) rfl hd hx ((fun _ => ⟨rfl, rfl⟩)) hn (kk _ rfl)
theorem pt_X_367 (ho : pw_own cx = "Peatland") (hd : decode (pw_cc cx) pc = .ok (.putfield 367, 3)) (hx : 0 ≤ (x : Int32)) (hn : pc + 3 = n) (kk : ∀ w1, w1 = pw_ps w 4 (pw_i x) 3 y → pw_V l g cx Q X n L (st) w1) : pw_V l g cx Q X pc L ((0, y) :: (6, x) :: st) w :=
  pv_put (f := 4) (k := 3) (x := x) pw_cf4 (by decide) (by rw [ho]; exact q_323) rfl hd hx ((fun _ => ⟨rfl, rfl⟩)) hn (kk _ rfl)
theorem pt_Drain_18 (ho : pw_own cx = "Peatland$Drain") (hd : decode (pw_cc cx) pc = .ok (.putfield 18, 3)) (hx : 0 ≤ (x : Int32)) (hn : pc + 3 = n) (kk : ∀ w1, w1 = pw_ps w 6 (pw_i x) 5 y → pw_V l g cx Q X n L (st) w1) : pw_V l g cx Q X pc L ((0, y) :: (8, x) :: st) w :=
  pv_put (f := 6) (k := 5) (x := x) pw_cf6 (by decide) (by rw [ho]; exact q_328) rfl hd hx ((fun _ => ⟨rfl, rfl⟩)) hn (kk _ rfl)
theorem pt_X_145 (ho : pw_own cx = "Peatland") (hd : decode (pw_cc cx) pc = .ok (.putfield 145, 3)) (hx : 0 ≤ (0 : Int32)) (hn : pc + 3 = n) (kk : ∀ w1, w1 = pw_ps w 7 0 7 y → pw_V l g cx Q X n L (st) w1) : pw_V l g cx Q X pc L ((0, y) :: (9, 0) :: st) w :=
  pv_put (f := 7) (k := 7) (x := 0) pw_cf7 (by decide) (by rw [ho]; exact q_183) rfl hd hx ((fun _ => ⟨rfl, rfl⟩)) hn (kk _ rfl)
theorem pt_X_120 (ho : pw_own cx = "Peatland") (hd : decode (pw_cc cx) pc = .ok (.putfield 120, 3)) (hx : 0 ≤ (x : Int32)) (hn : pc + 3 = n) (kk : ∀ w1, w1 = pw_ps w 3 (pw_i x) 2 y → pw_V l g cx Q X n L (st) w1) : pw_V l g cx Q X pc L ((6, y) :: (5, x) :: st) w :=
  pv_put (f := 3) (k := 2) (x := x) pw_cf3 (by decide) (by rw [ho]; exact q_172) rfl hd hx (pw_nq (F := 4) (Or.inl ⟨_, rfl⟩)) hn (kk _ rfl)
theorem pt_X_76 (ho : pw_own cx = "Peatland") (hd : decode (pw_cc cx) pc = .ok (.putfield 76, 3)) (hx : 0 ≤ (x : Int32)) (hz : y = 0 ∨ y = 1) (hn : pc + 3 = n) (kk : ∀ w1, w1 = pw_ps w 4 (pw_i x) 2 y → pw_V l g cx Q X n L (st) w1) : pw_V l g cx Q X pc L ((0, y) :: (6, x) :: st) w :=
  pv_put (f := 4) (k := 2) (x := x) pw_cf4 (by decide) (by rw [ho]; exact q_130) rfl hd hx ((fun _ => ⟨pw_nz hz, pw_fz hz⟩)) hn (kk _ rfl)
theorem pt_M_7 (ho : pw_own cx = "PeatlandModel") (hnm : pw_nm cx = "<init>") (hd : decode (pw_cc cx) pc = .ok (.putfield 7, 3)) (hx : 0 ≤ (0 : Int32)) (hn : pc + 3 = n) (kk : ∀ w1, w1 = pw_ps w 8 0 6 y → pw_V l g cx Q X n L (st) w1) : pw_V l g cx Q X pc L ((208, y) :: (10, 0) :: st) w :=
  pv_putF (f := 8) (k := 6) (x := 0) pw_cf8 (by decide) (by rw [ho]; exact q_418) rfl hnm (by rw [ho]; rfl) hd hx (pw_nq (F := 206) (Or.inr ⟨_, rfl⟩)) hn (kk _ rfl)
theorem pt_M_13 (ho : pw_own cx = "PeatlandModel") (hnm : pw_nm cx = "<init>") (hd : decode (pw_cc cx) pc = .ok (.putfield 13, 3)) (hx : 0 ≤ (0 : Int32)) (hn : pc + 3 = n) (kk : ∀ w1, w1 = pw_ps w 8 0 7 y → pw_V l g cx Q X n L (st) w1) : pw_V l g cx Q X pc L ((209, y) :: (10, 0) :: st) w :=
  pv_putF (f := 8) (k := 7) (x := 0) pw_cf8 (by decide) (by rw [ho]; exact q_419) rfl hnm (by rw [ho]; rfl) hd hx (pw_nq (F := 207) (Or.inr ⟨_, rfl⟩)) hn (kk _ rfl)
theorem pt_M_16 (ho : pw_own cx = "PeatlandModel") (hnm : pw_nm cx = "<init>") (hd : decode (pw_cc cx) pc = .ok (.putfield 16, 3)) (hx : 0 ≤ (0 : Int32)) (hn : pc + 3 = n) (kk : ∀ w1, w1 = pw_ps w 8 0 8 y → pw_V l g cx Q X n L (st) w1) : pw_V l g cx Q X pc L ((210, y) :: (10, 0) :: st) w :=
  pv_putF (f := 8) (k := 8) (x := 0) pw_cf8 (by decide) (by rw [ho]; exact q_426) rfl hnm (by rw [ho]; rfl) hd hx (pw_nq (F := 208) (Or.inr ⟨_, rfl⟩)) hn (kk _ rfl)
theorem pt_M_19 (ho : pw_own cx = "PeatlandModel") (hnm : pw_nm cx = "<init>") (hd : decode (pw_cc cx) pc = .ok (.putfield 19, 3)) (hx : 0 ≤ (0 : Int32)) (hn : pc + 3 = n) (kk : ∀ w1, w1 = pw_ps w 8 0 9 y → pw_V l g cx Q X n L (st) w1) : pw_V l g cx Q X pc L ((211, y) :: (10, 0) :: st) w :=
  pv_putF (f := 8) (k := 9) (x := 0) pw_cf8 (by decide) (by rw [ho]; exact q_420) rfl hnm (by rw [ho]; rfl) hd hx (pw_nq (F := 209) (Or.inr ⟨_, rfl⟩)) hn (kk _ rfl)
theorem pt_M_22 (ho : pw_own cx = "PeatlandModel") (hnm : pw_nm cx = "<init>") (hd : decode (pw_cc cx) pc = .ok (.putfield 22, 3)) (hx : 0 ≤ (0 : Int32)) (hn : pc + 3 = n) (kk : ∀ w1, w1 = pw_ps w 8 0 10 y → pw_V l g cx Q X n L (st) w1) : pw_V l g cx Q X pc L ((212, y) :: (10, 0) :: st) w :=
  pv_putF (f := 8) (k := 10) (x := 0) pw_cf8 (by decide) (by rw [ho]; exact q_422) rfl hnm (by rw [ho]; rfl) hd hx (pw_nq (F := 210) (Or.inr ⟨_, rfl⟩)) hn (kk _ rfl)
theorem pt_M_25 (ho : pw_own cx = "PeatlandModel") (hnm : pw_nm cx = "<init>") (hd : decode (pw_cc cx) pc = .ok (.putfield 25, 3)) (hx : 0 ≤ (0 : Int32)) (hn : pc + 3 = n) (kk : ∀ w1, w1 = pw_ps w 8 0 11 y → pw_V l g cx Q X n L (st) w1) : pw_V l g cx Q X pc L ((213, y) :: (10, 0) :: st) w :=
  pv_putF (f := 8) (k := 11) (x := 0) pw_cf8 (by decide) (by rw [ho]; exact q_427) rfl hnm (by rw [ho]; rfl) hd hx (pw_nq (F := 211) (Or.inr ⟨_, rfl⟩)) hn (kk _ rfl)
theorem pt_M_28 (ho : pw_own cx = "PeatlandModel") (hnm : pw_nm cx = "<init>") (hd : decode (pw_cc cx) pc = .ok (.putfield 28, 3)) (hx : 0 ≤ (0 : Int32)) (hn : pc + 3 = n) (kk : ∀ w1, w1 = pw_ps w 8 0 12 y → pw_V l g cx Q X n L (st) w1) : pw_V l g cx Q X pc L ((214, y) :: (10, 0) :: st) w :=
  pv_putF (f := 8) (k := 12) (x := 0) pw_cf8 (by decide) (by rw [ho]; exact q_423) rfl hnm (by rw [ho]; rfl) hd hx (pw_nq (F := 212) (Or.inr ⟨_, rfl⟩)) hn (kk _ rfl)
theorem pt_M_31 (ho : pw_own cx = "PeatlandModel") (hnm : pw_nm cx = "<init>") (hd : decode (pw_cc cx) pc = .ok (.putfield 31, 3)) (hx : 0 ≤ (0 : Int32)) (hn : pc + 3 = n) (kk : ∀ w1, w1 = pw_ps w 8 0 13 y → pw_V l g cx Q X n L (st) w1) : pw_V l g cx Q X pc L ((215, y) :: (10, 0) :: st) w :=
  pv_putF (f := 8) (k := 13) (x := 0) pw_cf8 (by decide) (by rw [ho]; exact q_428) rfl hnm (by rw [ho]; rfl) hd hx (pw_nq (F := 213) (Or.inr ⟨_, rfl⟩)) hn (kk _ rfl)
theorem pt_M_34 (ho : pw_own cx = "PeatlandModel") (hnm : pw_nm cx = "<init>") (hd : decode (pw_cc cx) pc = .ok (.putfield 34, 3)) (hx : 0 ≤ (0 : Int32)) (hn : pc + 3 = n) (kk : ∀ w1, w1 = pw_ps w 8 0 14 y → pw_V l g cx Q X n L (st) w1) : pw_V l g cx Q X pc L ((216, y) :: (10, 0) :: st) w :=
  pv_putF (f := 8) (k := 14) (x := 0) pw_cf8 (by decide) (by rw [ho]; exact q_424) rfl hnm (by rw [ho]; rfl) hd hx (pw_nq (F := 214) (Or.inr ⟨_, rfl⟩)) hn (kk _ rfl)
theorem pt_M_37 (ho : pw_own cx = "PeatlandModel") (hnm : pw_nm cx = "<init>") (hd : decode (pw_cc cx) pc = .ok (.putfield 37, 3)) (hx : 0 ≤ (0 : Int32)) (hn : pc + 3 = n) (kk : ∀ w1, w1 = pw_ps w 8 0 15 y → pw_V l g cx Q X n L (st) w1) : pw_V l g cx Q X pc L ((217, y) :: (10, 0) :: st) w :=
  pv_putF (f := 8) (k := 15) (x := 0) pw_cf8 (by decide) (by rw [ho]; exact q_429) rfl hnm (by rw [ho]; rfl) hd hx (pw_nq (F := 215) (Or.inr ⟨_, rfl⟩)) hn (kk _ rfl)
theorem pt_M_40 (ho : pw_own cx = "PeatlandModel") (hnm : pw_nm cx = "<init>") (hd : decode (pw_cc cx) pc = .ok (.putfield 40, 3)) (hx : 0 ≤ (0 : Int32)) (hn : pc + 3 = n) (kk : ∀ w1, w1 = pw_ps w 8 0 16 y → pw_V l g cx Q X n L (st) w1) : pw_V l g cx Q X pc L ((218, y) :: (10, 0) :: st) w :=
  pv_putF (f := 8) (k := 16) (x := 0) pw_cf8 (by decide) (by rw [ho]; exact q_430) rfl hnm (by rw [ho]; rfl) hd hx (pw_nq (F := 216) (Or.inr ⟨_, rfl⟩)) hn (kk _ rfl)
theorem pt_M_43 (ho : pw_own cx = "PeatlandModel") (hnm : pw_nm cx = "<init>") (hd : decode (pw_cc cx) pc = .ok (.putfield 43, 3)) (hx : 0 ≤ (0 : Int32)) (hn : pc + 3 = n) (kk : ∀ w1, w1 = pw_ps w 8 0 17 y → pw_V l g cx Q X n L (st) w1) : pw_V l g cx Q X pc L ((219, y) :: (10, 0) :: st) w :=
  pv_putF (f := 8) (k := 17) (x := 0) pw_cf8 (by decide) (by rw [ho]; exact q_431) rfl hnm (by rw [ho]; rfl) hd hx (pw_nq (F := 217) (Or.inr ⟨_, rfl⟩)) hn (kk _ rfl)
theorem pt_M_46 (ho : pw_own cx = "PeatlandModel") (hnm : pw_nm cx = "<init>") (hd : decode (pw_cc cx) pc = .ok (.putfield 46, 3)) (hx : 0 ≤ (0 : Int32)) (hn : pc + 3 = n) (kk : ∀ w1, w1 = pw_ps w 8 0 19 y → pw_V l g cx Q X n L (st) w1) : pw_V l g cx Q X pc L ((221, y) :: (10, 0) :: st) w :=
  pv_putF (f := 8) (k := 19) (x := 0) pw_cf8 (by decide) (by rw [ho]; exact q_432) rfl hnm (by rw [ho]; rfl) hd hx (pw_nq (F := 219) (Or.inr ⟨_, rfl⟩)) hn (kk _ rfl)
theorem pt_M_49 (ho : pw_own cx = "PeatlandModel") (hnm : pw_nm cx = "<init>") (hd : decode (pw_cc cx) pc = .ok (.putfield 49, 3)) (hx : 0 ≤ (0 : Int32)) (hn : pc + 3 = n) (kk : ∀ w1, w1 = pw_ps w 8 0 20 y → pw_V l g cx Q X n L (st) w1) : pw_V l g cx Q X pc L ((222, y) :: (10, 0) :: st) w :=
  pv_putF (f := 8) (k := 20) (x := 0) pw_cf8 (by decide) (by rw [ho]; exact q_433) rfl hnm (by rw [ho]; rfl) hd hx (pw_nq (F := 220) (Or.inr ⟨_, rfl⟩)) hn (kk _ rfl)
theorem pt_M_52 (ho : pw_own cx = "PeatlandModel") (hnm : pw_nm cx = "<init>") (hd : decode (pw_cc cx) pc = .ok (.putfield 52, 3)) (hx : 0 ≤ (0 : Int32)) (hn : pc + 3 = n) (kk : ∀ w1, w1 = pw_ps w 8 0 21 y → pw_V l g cx Q X n L (st) w1) : pw_V l g cx Q X pc L ((223, y) :: (10, 0) :: st) w :=
  pv_putF (f := 8) (k := 21) (x := 0) pw_cf8 (by decide) (by rw [ho]; exact q_434) rfl hnm (by rw [ho]; rfl) hd hx (pw_nq (F := 221) (Or.inr ⟨_, rfl⟩)) hn (kk _ rfl)
theorem pt_M_55 (ho : pw_own cx = "PeatlandModel") (hnm : pw_nm cx = "<init>") (hd : decode (pw_cc cx) pc = .ok (.putfield 55, 3)) (hx : 0 ≤ (0 : Int32)) (hn : pc + 3 = n) (kk : ∀ w1, w1 = pw_ps w 8 0 22 y → pw_V l g cx Q X n L (st) w1) : pw_V l g cx Q X pc L ((224, y) :: (10, 0) :: st) w :=
  pv_putF (f := 8) (k := 22) (x := 0) pw_cf8 (by decide) (by rw [ho]; exact q_435) rfl hnm (by rw [ho]; rfl) hd hx (pw_nq (F := 222) (Or.inr ⟨_, rfl⟩)) hn (kk _ rfl)
theorem pt_M_58 (ho : pw_own cx = "PeatlandModel") (hnm : pw_nm cx = "<init>") (hd : decode (pw_cc cx) pc = .ok (.putfield 58, 3)) (hx : 0 ≤ (0 : Int32)) (hn : pc + 3 = n) (kk : ∀ w1, w1 = pw_ps w 8 0 23 y → pw_V l g cx Q X n L (st) w1) : pw_V l g cx Q X pc L ((225, y) :: (10, 0) :: st) w :=
  pv_putF (f := 8) (k := 23) (x := 0) pw_cf8 (by decide) (by rw [ho]; exact q_436) rfl hnm (by rw [ho]; rfl) hd hx (pw_nq (F := 223) (Or.inr ⟨_, rfl⟩)) hn (kk _ rfl)
theorem pt_M_61 (ho : pw_own cx = "PeatlandModel") (hnm : pw_nm cx = "<init>") (hd : decode (pw_cc cx) pc = .ok (.putfield 61, 3)) (hx : 0 ≤ (0 : Int32)) (hn : pc + 3 = n) (kk : ∀ w1, w1 = pw_ps w 8 0 24 y → pw_V l g cx Q X n L (st) w1) : pw_V l g cx Q X pc L ((226, y) :: (10, 0) :: st) w :=
  pv_putF (f := 8) (k := 24) (x := 0) pw_cf8 (by decide) (by rw [ho]; exact q_437) rfl hnm (by rw [ho]; rfl) hd hx (pw_nq (F := 224) (Or.inr ⟨_, rfl⟩)) hn (kk _ rfl)
theorem pt_M_64 (ho : pw_own cx = "PeatlandModel") (hnm : pw_nm cx = "<init>") (hd : decode (pw_cc cx) pc = .ok (.putfield 64, 3)) (hx : 0 ≤ (0 : Int32)) (hn : pc + 3 = n) (kk : ∀ w1, w1 = pw_ps w 8 0 25 y → pw_V l g cx Q X n L (st) w1) : pw_V l g cx Q X pc L ((227, y) :: (10, 0) :: st) w :=
  pv_putF (f := 8) (k := 25) (x := 0) pw_cf8 (by decide) (by rw [ho]; exact q_438) rfl hnm (by rw [ho]; rfl) hd hx (pw_nq (F := 225) (Or.inr ⟨_, rfl⟩)) hn (kk _ rfl)
theorem pt_M_68 (ho : pw_own cx = "PeatlandModel") (hnm : pw_nm cx = "<init>") (hd : decode (pw_cc cx) pc = .ok (.putfield 68, 3)) (hx : 0 ≤ (0 : Int32)) (hn : pc + 3 = n) (kk : ∀ w1, w1 = pw_ps w 8 0 27 y → pw_V l g cx Q X n L (st) w1) : pw_V l g cx Q X pc L ((229, y) :: (10, 0) :: st) w :=
  pv_putF (f := 8) (k := 27) (x := 0) pw_cf8 (by decide) (by rw [ho]; exact q_439) rfl hnm (by rw [ho]; rfl) hd hx (pw_nq (F := 227) (Or.inr ⟨_, rfl⟩)) hn (kk _ rfl)
theorem pt_M_71 (ho : pw_own cx = "PeatlandModel") (hnm : pw_nm cx = "<init>") (hd : decode (pw_cc cx) pc = .ok (.putfield 71, 3)) (hx : 0 ≤ (0 : Int32)) (hn : pc + 3 = n) (kk : ∀ w1, w1 = pw_ps w 8 0 28 y → pw_V l g cx Q X n L (st) w1) : pw_V l g cx Q X pc L ((230, y) :: (10, 0) :: st) w :=
  pv_putF (f := 8) (k := 28) (x := 0) pw_cf8 (by decide) (by rw [ho]; exact q_440) rfl hnm (by rw [ho]; rfl) hd hx (pw_nq (F := 228) (Or.inr ⟨_, rfl⟩)) hn (kk _ rfl)
theorem pt_M_74 (ho : pw_own cx = "PeatlandModel") (hnm : pw_nm cx = "<init>") (hd : decode (pw_cc cx) pc = .ok (.putfield 74, 3)) (hx : 0 ≤ (0 : Int32)) (hn : pc + 3 = n) (kk : ∀ w1, w1 = pw_ps w 8 0 29 y → pw_V l g cx Q X n L (st) w1) : pw_V l g cx Q X pc L ((231, y) :: (10, 0) :: st) w :=
  pv_putF (f := 8) (k := 29) (x := 0) pw_cf8 (by decide) (by rw [ho]; exact q_441) rfl hnm (by rw [ho]; rfl) hd hx (pw_nq (F := 229) (Or.inr ⟨_, rfl⟩)) hn (kk _ rfl)
theorem pt_M_77 (ho : pw_own cx = "PeatlandModel") (hnm : pw_nm cx = "<init>") (hd : decode (pw_cc cx) pc = .ok (.putfield 77, 3)) (hx : 0 ≤ (0 : Int32)) (hn : pc + 3 = n) (kk : ∀ w1, w1 = pw_ps w 8 0 31 y → pw_V l g cx Q X n L (st) w1) : pw_V l g cx Q X pc L ((233, y) :: (10, 0) :: st) w :=
  pv_putF (f := 8) (k := 31) (x := 0) pw_cf8 (by decide) (by rw [ho]; exact q_442) rfl hnm (by rw [ho]; rfl) hd hx (pw_nq (F := 231) (Or.inr ⟨_, rfl⟩)) hn (kk _ rfl)
theorem pt_M_80 (ho : pw_own cx = "PeatlandModel") (hnm : pw_nm cx = "<init>") (hd : decode (pw_cc cx) pc = .ok (.putfield 80, 3)) (hx : 0 ≤ (0 : Int32)) (hn : pc + 3 = n) (kk : ∀ w1, w1 = pw_ps w 8 0 32 y → pw_V l g cx Q X n L (st) w1) : pw_V l g cx Q X pc L ((234, y) :: (10, 0) :: st) w :=
  pv_putF (f := 8) (k := 32) (x := 0) pw_cf8 (by decide) (by rw [ho]; exact q_443) rfl hnm (by rw [ho]; rfl) hd hx (pw_nq (F := 232) (Or.inr ⟨_, rfl⟩)) hn (kk _ rfl)
theorem pt_M_83 (ho : pw_own cx = "PeatlandModel") (hnm : pw_nm cx = "<init>") (hd : decode (pw_cc cx) pc = .ok (.putfield 83, 3)) (hx : 0 ≤ (0 : Int32)) (hn : pc + 3 = n) (kk : ∀ w1, w1 = pw_ps w 8 0 33 y → pw_V l g cx Q X n L (st) w1) : pw_V l g cx Q X pc L ((235, y) :: (10, 0) :: st) w :=
  pv_putF (f := 8) (k := 33) (x := 0) pw_cf8 (by decide) (by rw [ho]; exact q_444) rfl hnm (by rw [ho]; rfl) hd hx (pw_nq (F := 233) (Or.inr ⟨_, rfl⟩)) hn (kk _ rfl)
theorem pt_M_86 (ho : pw_own cx = "PeatlandModel") (hnm : pw_nm cx = "<init>") (hd : decode (pw_cc cx) pc = .ok (.putfield 86, 3)) (hx : 0 ≤ (0 : Int32)) (hn : pc + 3 = n) (kk : ∀ w1, w1 = pw_ps w 8 0 34 y → pw_V l g cx Q X n L (st) w1) : pw_V l g cx Q X pc L ((236, y) :: (10, 0) :: st) w :=
  pv_putF (f := 8) (k := 34) (x := 0) pw_cf8 (by decide) (by rw [ho]; exact q_445) rfl hnm (by rw [ho]; rfl) hd hx (pw_nq (F := 234) (Or.inr ⟨_, rfl⟩)) hn (kk _ rfl)
theorem pt_M_89 (ho : pw_own cx = "PeatlandModel") (hnm : pw_nm cx = "<init>") (hd : decode (pw_cc cx) pc = .ok (.putfield 89, 3)) (hx : 0 ≤ (0 : Int32)) (hn : pc + 3 = n) (kk : ∀ w1, w1 = pw_ps w 8 0 35 y → pw_V l g cx Q X n L (st) w1) : pw_V l g cx Q X pc L ((237, y) :: (10, 0) :: st) w :=
  pv_putF (f := 8) (k := 35) (x := 0) pw_cf8 (by decide) (by rw [ho]; exact q_446) rfl hnm (by rw [ho]; rfl) hd hx (pw_nq (F := 235) (Or.inr ⟨_, rfl⟩)) hn (kk _ rfl)
theorem pt_M_92 (ho : pw_own cx = "PeatlandModel") (hnm : pw_nm cx = "<init>") (hd : decode (pw_cc cx) pc = .ok (.putfield 92, 3)) (hx : 0 ≤ (0 : Int32)) (hn : pc + 3 = n) (kk : ∀ w1, w1 = pw_ps w 8 0 36 y → pw_V l g cx Q X n L (st) w1) : pw_V l g cx Q X pc L ((238, y) :: (10, 0) :: st) w :=
  pv_putF (f := 8) (k := 36) (x := 0) pw_cf8 (by decide) (by rw [ho]; exact q_447) rfl hnm (by rw [ho]; rfl) hd hx (pw_nq (F := 236) (Or.inr ⟨_, rfl⟩)) hn (kk _ rfl)
theorem pt_M_95 (ho : pw_own cx = "PeatlandModel") (hnm : pw_nm cx = "<init>") (hd : decode (pw_cc cx) pc = .ok (.putfield 95, 3)) (hx : 0 ≤ (0 : Int32)) (hn : pc + 3 = n) (kk : ∀ w1, w1 = pw_ps w 8 0 37 y → pw_V l g cx Q X n L (st) w1) : pw_V l g cx Q X pc L ((239, y) :: (10, 0) :: st) w :=
  pv_putF (f := 8) (k := 37) (x := 0) pw_cf8 (by decide) (by rw [ho]; exact q_448) rfl hnm (by rw [ho]; rfl) hd hx (pw_nq (F := 237) (Or.inr ⟨_, rfl⟩)) hn (kk _ rfl)
theorem pt_M_98 (ho : pw_own cx = "PeatlandModel") (hnm : pw_nm cx = "<init>") (hd : decode (pw_cc cx) pc = .ok (.putfield 98, 3)) (hx : 0 ≤ (0 : Int32)) (hn : pc + 3 = n) (kk : ∀ w1, w1 = pw_ps w 8 0 39 y → pw_V l g cx Q X n L (st) w1) : pw_V l g cx Q X pc L ((241, y) :: (10, 0) :: st) w :=
  pv_putF (f := 8) (k := 39) (x := 0) pw_cf8 (by decide) (by rw [ho]; exact q_449) rfl hnm (by rw [ho]; rfl) hd hx (pw_nq (F := 239) (Or.inr ⟨_, rfl⟩)) hn (kk _ rfl)
theorem pt_M_101 (ho : pw_own cx = "PeatlandModel") (hnm : pw_nm cx = "<init>") (hd : decode (pw_cc cx) pc = .ok (.putfield 101, 3)) (hx : 0 ≤ (0 : Int32)) (hn : pc + 3 = n) (kk : ∀ w1, w1 = pw_ps w 8 0 40 y → pw_V l g cx Q X n L (st) w1) : pw_V l g cx Q X pc L ((242, y) :: (10, 0) :: st) w :=
  pv_putF (f := 8) (k := 40) (x := 0) pw_cf8 (by decide) (by rw [ho]; exact q_450) rfl hnm (by rw [ho]; rfl) hd hx (pw_nq (F := 240) (Or.inr ⟨_, rfl⟩)) hn (kk _ rfl)
theorem pt_M_104 (ho : pw_own cx = "PeatlandModel") (hnm : pw_nm cx = "<init>") (hd : decode (pw_cc cx) pc = .ok (.putfield 104, 3)) (hx : 0 ≤ (0 : Int32)) (hn : pc + 3 = n) (kk : ∀ w1, w1 = pw_ps w 8 0 42 y → pw_V l g cx Q X n L (st) w1) : pw_V l g cx Q X pc L ((244, y) :: (10, 0) :: st) w :=
  pv_putF (f := 8) (k := 42) (x := 0) pw_cf8 (by decide) (by rw [ho]; exact q_451) rfl hnm (by rw [ho]; rfl) hd hx (pw_nq (F := 242) (Or.inr ⟨_, rfl⟩)) hn (kk _ rfl)
theorem pt_M_107 (ho : pw_own cx = "PeatlandModel") (hnm : pw_nm cx = "<init>") (hd : decode (pw_cc cx) pc = .ok (.putfield 107, 3)) (hx : 0 ≤ (0 : Int32)) (hn : pc + 3 = n) (kk : ∀ w1, w1 = pw_ps w 8 0 43 y → pw_V l g cx Q X n L (st) w1) : pw_V l g cx Q X pc L ((245, y) :: (10, 0) :: st) w :=
  pv_putF (f := 8) (k := 43) (x := 0) pw_cf8 (by decide) (by rw [ho]; exact q_452) rfl hnm (by rw [ho]; rfl) hd hx (pw_nq (F := 243) (Or.inr ⟨_, rfl⟩)) hn (kk _ rfl)
theorem pt_M_110 (ho : pw_own cx = "PeatlandModel") (hnm : pw_nm cx = "<init>") (hd : decode (pw_cc cx) pc = .ok (.putfield 110, 3)) (hx : 0 ≤ (0 : Int32)) (hn : pc + 3 = n) (kk : ∀ w1, w1 = pw_ps w 8 0 44 y → pw_V l g cx Q X n L (st) w1) : pw_V l g cx Q X pc L ((246, y) :: (10, 0) :: st) w :=
  pv_putF (f := 8) (k := 44) (x := 0) pw_cf8 (by decide) (by rw [ho]; exact q_453) rfl hnm (by rw [ho]; rfl) hd hx (pw_nq (F := 244) (Or.inr ⟨_, rfl⟩)) hn (kk _ rfl)
theorem pt_M_113 (ho : pw_own cx = "PeatlandModel") (hnm : pw_nm cx = "<init>") (hd : decode (pw_cc cx) pc = .ok (.putfield 113, 3)) (hx : 0 ≤ (0 : Int32)) (hn : pc + 3 = n) (kk : ∀ w1, w1 = pw_ps w 8 0 45 y → pw_V l g cx Q X n L (st) w1) : pw_V l g cx Q X pc L ((247, y) :: (10, 0) :: st) w :=
  pv_putF (f := 8) (k := 45) (x := 0) pw_cf8 (by decide) (by rw [ho]; exact q_454) rfl hnm (by rw [ho]; rfl) hd hx (pw_nq (F := 245) (Or.inr ⟨_, rfl⟩)) hn (kk _ rfl)
theorem pt_M_116 (ho : pw_own cx = "PeatlandModel") (hd : decode (pw_cc cx) pc = .ok (.putfield 116, 3)) (hx : 0 ≤ (0 : Int32)) (hn : pc + 3 = n) (kk : ∀ w1, w1 = pw_ps w 8 0 18 y → pw_V l g cx Q X n L (st) w1) : pw_V l g cx Q X pc L ((0, y) :: (10, 0) :: st) w :=
  pv_put (f := 8) (k := 18) (x := 0) pw_cf8 (by decide) (by rw [ho]; exact q_455) rfl hd hx ((fun _ => ⟨rfl, rfl⟩)) hn (kk _ rfl)
theorem pt_M_121 (ho : pw_own cx = "PeatlandModel") (hd : decode (pw_cc cx) pc = .ok (.putfield 121, 3)) (hx : 0 ≤ (0 : Int32)) (hn : pc + 3 = n) (kk : ∀ w1, w1 = pw_ps w 8 0 0 y → pw_V l g cx Q X n L (st) w1) : pw_V l g cx Q X pc L ((0, y) :: (10, 0) :: st) w :=
  pv_put (f := 8) (k := 0) (x := 0) pw_cf8 (by decide) (by rw [ho]; exact q_456) rfl hd hx ((fun _ => ⟨rfl, rfl⟩)) hn (kk _ rfl)
theorem pt_M_131 (ho : pw_own cx = "PeatlandModel") (hd : decode (pw_cc cx) pc = .ok (.putfield 131, 3)) (hx : 0 ≤ (0 : Int32)) (hn : pc + 3 = n) (kk : ∀ w1, w1 = pw_ps w 8 0 26 y → pw_V l g cx Q X n L (st) w1) : pw_V l g cx Q X pc L ((0, y) :: (10, 0) :: st) w :=
  pv_put (f := 8) (k := 26) (x := 0) pw_cf8 (by decide) (by rw [ho]; exact q_462) rfl hd hx ((fun _ => ⟨rfl, rfl⟩)) hn (kk _ rfl)
theorem pt_M_201 (ho : pw_own cx = "PeatlandModel") (hd : decode (pw_cc cx) pc = .ok (.putfield 201, 3)) (hx : 0 ≤ (0 : Int32)) (hn : pc + 3 = n) (kk : ∀ w1, w1 = pw_ps w 8 0 30 y → pw_V l g cx Q X n L (st) w1) : pw_V l g cx Q X pc L ((0, y) :: (10, 0) :: st) w :=
  pv_put (f := 8) (k := 30) (x := 0) pw_cf8 (by decide) (by rw [ho]; exact q_534) rfl hd hx ((fun _ => ⟨rfl, rfl⟩)) hn (kk _ rfl)
theorem pt_M_128 (ho : pw_own cx = "PeatlandModel") (hd : decode (pw_cc cx) pc = .ok (.putfield 128, 3)) (hx : 0 ≤ (0 : Int32)) (hn : pc + 3 = n) (kk : ∀ w1, w1 = pw_ps w 8 0 38 y → pw_V l g cx Q X n L (st) w1) : pw_V l g cx Q X pc L ((0, y) :: (10, 0) :: st) w :=
  pv_put (f := 8) (k := 38) (x := 0) pw_cf8 (by decide) (by rw [ho]; exact q_461) rfl hd hx ((fun _ => ⟨rfl, rfl⟩)) hn (kk _ rfl)
theorem pt_M_239 (ho : pw_own cx = "PeatlandModel") (hd : decode (pw_cc cx) pc = .ok (.putfield 239, 3)) (hx : 0 ≤ (0 : Int32)) (hn : pc + 3 = n) (kk : ∀ w1, w1 = pw_ps w 8 0 3 y → pw_V l g cx Q X n L (st) w1) : pw_V l g cx Q X pc L ((0, y) :: (10, 0) :: st) w :=
  pv_put (f := 8) (k := 3) (x := 0) pw_cf8 (by decide) (by rw [ho]; exact q_580) rfl hd hx ((fun _ => ⟨rfl, rfl⟩)) hn (kk _ rfl)
theorem pt_M_242 (ho : pw_own cx = "PeatlandModel") (hd : decode (pw_cc cx) pc = .ok (.putfield 242, 3)) (hx : 0 ≤ (0 : Int32)) (hn : pc + 3 = n) (kk : ∀ w1, w1 = pw_ps w 8 0 4 y → pw_V l g cx Q X n L (st) w1) : pw_V l g cx Q X pc L ((0, y) :: (10, 0) :: st) w :=
  pv_put (f := 8) (k := 4) (x := 0) pw_cf8 (by decide) (by rw [ho]; exact q_581) rfl hd hx ((fun _ => ⟨rfl, rfl⟩)) hn (kk _ rfl)
theorem pt_M_245 (ho : pw_own cx = "PeatlandModel") (hd : decode (pw_cc cx) pc = .ok (.putfield 245, 3)) (hx : 0 ≤ (0 : Int32)) (hn : pc + 3 = n) (kk : ∀ w1, w1 = pw_ps w 8 0 41 y → pw_V l g cx Q X n L (st) w1) : pw_V l g cx Q X pc L ((0, y) :: (10, 0) :: st) w :=
  pv_put (f := 8) (k := 41) (x := 0) pw_cf8 (by decide) (by rw [ho]; exact q_582) rfl hd hx ((fun _ => ⟨rfl, rfl⟩)) hn (kk _ rfl)
theorem pt_M_257 (ho : pw_own cx = "PeatlandModel") (hd : decode (pw_cc cx) pc = .ok (.putfield 257, 3)) (hx : 0 ≤ (0 : Int32)) (hn : pc + 3 = n) (kk : ∀ w1, w1 = pw_ps w 8 0 2 y → pw_V l g cx Q X n L (st) w1) : pw_V l g cx Q X pc L ((0, y) :: (10, 0) :: st) w :=
  pv_put (f := 8) (k := 2) (x := 0) pw_cf8 (by decide) (by rw [ho]; exact q_594) rfl hd hx ((fun _ => ⟨rfl, rfl⟩)) hn (kk _ rfl)
theorem pt_M_269 (ho : pw_own cx = "PeatlandModel") (hd : decode (pw_cc cx) pc = .ok (.putfield 269, 3)) (hx : 0 ≤ (0 : Int32)) (hn : pc + 3 = n) (kk : ∀ w1, w1 = pw_ps w 8 0 5 y → pw_V l g cx Q X n L (st) w1) : pw_V l g cx Q X pc L ((0, y) :: (10, 0) :: st) w :=
  pv_put (f := 8) (k := 5) (x := 0) pw_cf8 (by decide) (by rw [ho]; exact q_607) rfl hd hx ((fun _ => ⟨rfl, rfl⟩)) hn (kk _ rfl)
theorem pt_M_204 (ho : pw_own cx = "PeatlandModel") (hd : decode (pw_cc cx) pc = .ok (.putfield 204, 3)) (hx : 0 ≤ (0 : Int32)) (hn : pc + 3 = n) (kk : ∀ w1, w1 = pw_ps w 8 0 1 y → pw_V l g cx Q X n L (st) w1) : pw_V l g cx Q X pc L ((0, y) :: (10, 0) :: st) w :=
  pv_put (f := 8) (k := 1) (x := 0) pw_cf8 (by decide) (by rw [ho]; exact q_539) rfl hd hx ((fun _ => ⟨rfl, rfl⟩)) hn (kk _ rfl)
theorem nwd_0 : ∀ (ad : Nat → Nat → Nat) k, k < 8 → defaultValue (pw_t0 k) = pw_ph ad (pw_ty 0 k, pw_df 0 k) := by
  intro ad k hk
  have h : k = 0 ∨ k = 1 ∨ k = 2 ∨ k = 3 ∨ k = 4 ∨ k = 5 ∨ k = 6 ∨ k = 7 := by omega
  rcases h with rfl | rfl | rfl | rfl | rfl | rfl | rfl | rfl <;> rfl
theorem nw_0 {index : Nat} (hl : Cond.classLink (pw_own cx) index "Peatland$Case" ∈ pw_g) (hd : decode (pw_cc cx) pc = .ok (.new index, 3)) (hr : pw_rm w 0 8) (hn : pc + 3 = n) (kk : ∀ w1, w1 = pw_nw w 0 0 8 → pw_V l g cx Q X n L ((2, nI (pw_nv w 0)) :: st) w1) : pw_V l g cx Q X pc L (st) w :=
  pv_new pw_cf0 nwd_0 hl q_1033 q_201 hd hr hn (kk _ rfl)
theorem nwd_1 : ∀ (ad : Nat → Nat → Nat) k, k < 2 → defaultValue (pw_t1 k) = pw_ph ad (pw_ty 1 k, pw_df 1 k) := by
  intro ad k hk
  have h : k = 0 ∨ k = 1 := by omega
  rcases h with rfl | rfl <;> rfl
theorem nw_1 {index : Nat} (hl : Cond.classLink (pw_own cx) index "Peatland$Drain" ∈ pw_g) (hd : decode (pw_cc cx) pc = .ok (.new index, 3)) (hr : pw_rm w 1 2) (hn : pc + 3 = n) (kk : ∀ w1, w1 = pw_nw w 1 0 2 → pw_V l g cx Q X n L ((3, nI (pw_nv w 1)) :: st) w1) : pw_V l g cx Q X pc L (st) w :=
  pv_new pw_cf1 nwd_1 hl q_1034 q_284 hd hr hn (kk _ rfl)
theorem nwd_2 : ∀ (ad : Nat → Nat → Nat) k, k < 3 → defaultValue (pw_t2 k) = pw_ph ad (pw_ty 2 k, pw_df 2 k) := by
  intro ad k hk
  have h : k = 0 ∨ k = 1 ∨ k = 2 := by omega
  rcases h with rfl | rfl | rfl <;> rfl
theorem nw_2 {index : Nat} (hl : Cond.classLink (pw_own cx) index "Peatland$FieldMap" ∈ pw_g) (hd : decode (pw_cc cx) pc = .ok (.new index, 3)) (hr : pw_rm w 2 3) (hn : pc + 3 = n) (kk : ∀ w1, w1 = pw_nw w 2 0 3 → pw_V l g cx Q X n L ((4, nI (pw_nv w 2)) :: st) w1) : pw_V l g cx Q X pc L (st) w :=
  pv_new pw_cf2 nwd_2 hl q_1035 q_179 hd hr hn (kk _ rfl)
theorem nwd_3 : ∀ (ad : Nat → Nat → Nat) k, k < 6 → defaultValue (pw_t3 k) = pw_ph ad (pw_ty 3 k, pw_df 3 k) := by
  intro ad k hk
  have h : k = 0 ∨ k = 1 ∨ k = 2 ∨ k = 3 ∨ k = 4 ∨ k = 5 := by omega
  rcases h with rfl | rfl | rfl | rfl | rfl | rfl <;> rfl
theorem nw_3 {index : Nat} (hl : Cond.classLink (pw_own cx) index "Peatland$Parcel" ∈ pw_g) (hd : decode (pw_cc cx) pc = .ok (.new index, 3)) (hr : pw_rm w 3 6) (hn : pc + 3 = n) (kk : ∀ w1, w1 = pw_nw w 3 0 6 → pw_V l g cx Q X n L ((5, nI (pw_nv w 3)) :: st) w1) : pw_V l g cx Q X pc L (st) w :=
  pv_new pw_cf3 nwd_3 hl q_1036 q_46 hd hr hn (kk _ rfl)
theorem nwd_4 : ∀ (ad : Nat → Nat → Nat) k, k < 4 → defaultValue (pw_t4 k) = pw_ph ad (pw_ty 4 k, pw_df 4 k) := by
  intro ad k hk
  have h : k = 0 ∨ k = 1 ∨ k = 2 ∨ k = 3 := by omega
  rcases h with rfl | rfl | rfl | rfl <;> rfl
theorem nw_4 {index : Nat} (hl : Cond.classLink (pw_own cx) index "Peatland$Person" ∈ pw_g) (hd : decode (pw_cc cx) pc = .ok (.new index, 3)) (hr : pw_rm w 4 4) (hn : pc + 3 = n) (kk : ∀ w1, w1 = pw_nw w 4 0 4 → pw_V l g cx Q X n L ((6, nI (pw_nv w 4)) :: st) w1) : pw_V l g cx Q X pc L (st) w :=
  pv_new pw_cf4 nwd_4 hl q_1037 q_25 hd hr hn (kk _ rfl)
theorem nwd_5 : ∀ (ad : Nat → Nat → Nat) k, k < 6 → defaultValue (pw_t5 k) = pw_ph ad (pw_ty 5 k, pw_df 5 k) := by
  intro ad k hk
  have h : k = 0 ∨ k = 1 ∨ k = 2 ∨ k = 3 ∨ k = 4 ∨ k = 5 := by omega
  rcases h with rfl | rfl | rfl | rfl | rfl | rfl <;> rfl
theorem nw_5 {index : Nat} (hl : Cond.classLink (pw_own cx) index "Peatland$Right" ∈ pw_g) (hd : decode (pw_cc cx) pc = .ok (.new index, 3)) (hr : pw_rm w 5 6) (hn : pc + 3 = n) (kk : ∀ w1, w1 = pw_nw w 5 0 6 → pw_V l g cx Q X n L ((7, nI (pw_nv w 5)) :: st) w1) : pw_V l g cx Q X pc L (st) w :=
  pv_new pw_cf5 nwd_5 hl q_1038 q_57 hd hr hn (kk _ rfl)
theorem nwd_6 : ∀ (ad : Nat → Nat → Nat) k, k < 11 → defaultValue (pw_t6 k) = pw_ph ad (pw_ty 6 k, pw_df 6 k) := by
  intro ad k hk
  have h : k = 0 ∨ k = 1 ∨ k = 2 ∨ k = 3 ∨ k = 4 ∨ k = 5 ∨ k = 6 ∨ k = 7 ∨ k = 8 ∨ k = 9 ∨ k = 10 := by omega
  rcases h with rfl | rfl | rfl | rfl | rfl | rfl | rfl | rfl | rfl | rfl | rfl <;> rfl
theorem nw_6 {index : Nat} (hl : Cond.classLink (pw_own cx) index "Peatland$Square" ∈ pw_g) (hd : decode (pw_cc cx) pc = .ok (.new index, 3)) (hr : pw_rm w 6 11) (hn : pc + 3 = n) (kk : ∀ w1, w1 = pw_nw w 6 0 11 → pw_V l g cx Q X n L ((8, nI (pw_nv w 6)) :: st) w1) : pw_V l g cx Q X pc L (st) w :=
  pv_new pw_cf6 nwd_6 hl q_1039 q_32 hd hr hn (kk _ rfl)
theorem nwd_7 : ∀ (ad : Nat → Nat → Nat) k, k < 12 → defaultValue (pw_t7 k) = pw_ph ad (pw_ty 7 k, pw_df 7 k) := by
  intro ad k hk
  have h : k = 0 ∨ k = 1 ∨ k = 2 ∨ k = 3 ∨ k = 4 ∨ k = 5 ∨ k = 6 ∨ k = 7 ∨ k = 8 ∨ k = 9 ∨ k = 10 ∨ k = 11 := by omega
  rcases h with rfl | rfl | rfl | rfl | rfl | rfl | rfl | rfl | rfl | rfl | rfl | rfl <;> rfl
theorem nw0_7 {index : Nat} (g0 : pw_nv w 7 = 0) (hl : Cond.classLink (pw_own cx) index "Peatland" ∈ pw_g) (hd : decode (pw_cc cx) pc = .ok (.new index, 3)) (hr : pw_rm w 7 12) (hn : pc + 3 = n) (kk : ∀ w1, w1 = pw_nw w 7 0 12 → pw_V l g cx Q X n L ((9, 0) :: st) w1) : pw_V l g cx Q X pc L (st) w := by
  refine pv_new pw_cf7 nwd_7 hl q_1040 q_62 hd hr hn ?_
  rw [g0]; exact kk _ rfl
theorem nwd_8 : ∀ (ad : Nat → Nat → Nat) k, k < 46 → defaultValue (pw_t8 k) = pw_ph ad (pw_ty 8 k, pw_df 8 k) := by
  intro ad k hk
  have h : k = 0 ∨ k = 1 ∨ k = 2 ∨ k = 3 ∨ k = 4 ∨ k = 5 ∨ k = 6 ∨ k = 7 ∨ k = 8 ∨ k = 9 ∨ k = 10 ∨ k = 11 ∨ k = 12 ∨ k = 13 ∨ k = 14 ∨ k = 15 ∨ k = 16 ∨ k = 17 ∨ k = 18 ∨ k = 19 ∨ k = 20 ∨ k = 21 ∨ k = 22 ∨ k = 23 ∨ k = 24 ∨ k = 25 ∨ k = 26 ∨ k = 27 ∨ k = 28 ∨ k = 29 ∨ k = 30 ∨ k = 31 ∨ k = 32 ∨ k = 33 ∨ k = 34 ∨ k = 35 ∨ k = 36 ∨ k = 37 ∨ k = 38 ∨ k = 39 ∨ k = 40 ∨ k = 41 ∨ k = 42 ∨ k = 43 ∨ k = 44 ∨ k = 45 := by omega
  rcases h with rfl | rfl | rfl | rfl | rfl | rfl | rfl | rfl | rfl | rfl | rfl | rfl | rfl | rfl | rfl | rfl | rfl | rfl | rfl | rfl | rfl | rfl | rfl | rfl | rfl | rfl | rfl | rfl | rfl | rfl | rfl | rfl | rfl | rfl | rfl | rfl | rfl | rfl | rfl | rfl | rfl | rfl | rfl | rfl | rfl | rfl <;> rfl
theorem nw0_8 {index : Nat} (g0 : pw_nv w 8 = 0) (hl : Cond.classLink (pw_own cx) index "PeatlandModel" ∈ pw_g) (hd : decode (pw_cc cx) pc = .ok (.new index, 3)) (hr : pw_rm w 8 46) (hn : pc + 3 = n) (kk : ∀ w1, w1 = pw_nw w 8 0 46 → pw_V l g cx Q X n L ((10, 0) :: st) w1) : pw_V l g cx Q X pc L (st) w := by
  refine pv_new pw_cf8 nwd_8 hl q_1041 q_458 hd hr hn ?_
  rw [g0]; exact kk _ rfl
theorem pt_h1_324 : ∀ w ∈ vx_atS "Peatland" 324 (pw_en 1) pw_exn, w ∈ pw_g ∨ w ∈ pw_hw := by decide +kernel
theorem pt_g1_320_324 : ∀ w ∈ Cond.classLink "Peatland" 320 (pw_en 1) :: Cond.initialized (pw_en 1) :: vx_atS "Peatland" 324 (pw_en 1) pw_exn, vx_ot w = true := by decide +kernel
theorem pt_h2_376 : ∀ w ∈ vx_atS "Peatland" 376 (pw_en 2) pw_exn, w ∈ pw_g ∨ w ∈ pw_hw := by decide +kernel
theorem pt_g2_372_376 : ∀ w ∈ Cond.classLink "Peatland" 372 (pw_en 2) :: Cond.initialized (pw_en 2) :: vx_atS "Peatland" 376 (pw_en 2) pw_exn, vx_ot w = true := by decide +kernel
theorem pt_h3_381 : ∀ w ∈ vx_atS "Peatland" 381 (pw_en 3) pw_exn, w ∈ pw_g ∨ w ∈ pw_hw := by decide +kernel
theorem pt_g3_377_381 : ∀ w ∈ Cond.classLink "Peatland" 377 (pw_en 3) :: Cond.initialized (pw_en 3) :: vx_atS "Peatland" 381 (pw_en 3) pw_exn, vx_ot w = true := by decide +kernel
theorem pw_mw_abs {index : Nat} (hl : Cond.methodLink (pw_own cx) index Lib.Math.abs.name ∈ pw_g) (hR : 1 ≤ pw_fr cx ∧ 21 ≤ pw_lo cx) : pw_mw index cx Lib.Math.abs.name Lib.Math.abs.code 1 := ⟨hl, q_1042, q_1043, q_1044, hR⟩
theorem pw_mw_max {index : Nat} (hl : Cond.methodLink (pw_own cx) index Lib.Math.max.name ∈ pw_g) (hR : 1 ≤ pw_fr cx ∧ 21 ≤ pw_lo cx) : pw_mw index cx Lib.Math.max.name Lib.Math.max.code 2 := ⟨hl, q_1045, q_1043, q_1046, hR⟩
theorem pw_mw_min {index : Nat} (hl : Cond.methodLink (pw_own cx) index Lib.Math.min.name ∈ pw_g) (hR : 1 ≤ pw_fr cx ∧ 21 ≤ pw_lo cx) : pw_mw index cx Lib.Math.min.name Lib.Math.min.code 2 := ⟨hl, q_1047, q_1043, q_1048, hR⟩
end PVL
