/-! names and field tables of the ten classes whose objects the world holds -/
def pw_R0 : String := "Peatland$Case"
def pw_T0 : u_T := fun k => match k with
  | 0 => ("Peatland$Case", "person", "LPeatland$Person;", true)
  | 1 => ("Peatland$Case", "isCovered", "[Z", true)
  | 2 => ("Peatland$Case", "squareCount", "I", false)
  | 3 => ("Peatland$Case", "state", "I", false)
  | 4 => ("Peatland$Case", "stage", "I", false)
  | 5 => ("Peatland$Case", "stageWhenGranted", "I", false)
  | 6 => ("Peatland$Case", "evidenceFor", "I", false)
  | _ => ("Peatland$Case", "evidenceAgainst", "I", false)
def pw_t0 : Nat → FieldType := fun k => match k with
  | 0 => .object "Peatland$Person"
  | 1 => .array (.boolean)
  | 2 => .int
  | 3 => .int
  | 4 => .int
  | 5 => .int
  | 6 => .int
  | _ => .int
theorem pw_n0 : ∀ a, a < 8 → ∀ b, b < 8 → a ≠ b → (pw_T0 a).2.1 ≠ (pw_T0 b).2.1 := by decide +kernel
theorem pw_o0 : ∀ k, k < 8 → parseFieldDescriptor (pw_T0 k).2.2.1 = some (pw_t0 k) := by decide +kernel
theorem pw_i0 : ∀ w ∈ u_ws pw_R0 pw_T0 8, w ∈ lw_tbl := by decide +kernel
def pw_R1 : String := "Peatland$Drain"
def pw_T1 : u_T := fun k => match k with
  | 0 => ("Peatland$Drain", "from", "LPeatland$Square;", true)
  | _ => ("Peatland$Drain", "to", "LPeatland$Square;", true)
def pw_t1 : Nat → FieldType := fun k => match k with
  | 0 => .object "Peatland$Square"
  | _ => .object "Peatland$Square"
theorem pw_n1 : ∀ a, a < 2 → ∀ b, b < 2 → a ≠ b → (pw_T1 a).2.1 ≠ (pw_T1 b).2.1 := by decide +kernel
theorem pw_o1 : ∀ k, k < 2 → parseFieldDescriptor (pw_T1 k).2.2.1 = some (pw_t1 k) := by decide +kernel
theorem pw_i1 : ∀ w ∈ u_ws pw_R1 pw_T1 2, w ∈ lw_tbl := by decide +kernel
def pw_R2 : String := "Peatland$FieldMap"
def pw_T2 : u_T := fun k => match k with
  | 0 => ("Peatland$FieldMap", "person", "LPeatland$Person;", true)
  | 1 => ("Peatland$FieldMap", "from", "I", true)
  | _ => ("Peatland$FieldMap", "to", "I", true)
def pw_t2 : Nat → FieldType := fun k => match k with
  | 0 => .object "Peatland$Person"
  | 1 => .int
  | _ => .int
theorem pw_n2 : ∀ a, a < 3 → ∀ b, b < 3 → a ≠ b → (pw_T2 a).2.1 ≠ (pw_T2 b).2.1 := by decide +kernel
theorem pw_o2 : ∀ k, k < 3 → parseFieldDescriptor (pw_T2 k).2.2.1 = some (pw_t2 k) := by decide +kernel
theorem pw_i2 : ∀ w ∈ u_ws pw_R2 pw_T2 3, w ∈ lw_tbl := by decide +kernel
def pw_R3 : String := "Peatland$Parcel"
def pw_T3 : u_T := fun k => match k with
  | 0 => ("Peatland$Parcel", "number", "I", true)
  | 1 => ("Peatland$Parcel", "sheepByPerson", "[I", true)
  | 2 => ("Peatland$Parcel", "owner", "LPeatland$Person;", false)
  | 3 => ("Peatland$Parcel", "mergedInto", "LPeatland$Parcel;", false)
  | 4 => ("Peatland$Parcel", "squareCount", "I", false)
  | _ => ("Peatland$Parcel", "sheepCount", "I", false)
def pw_t3 : Nat → FieldType := fun k => match k with
  | 0 => .int
  | 1 => .array (.int)
  | 2 => .object "Peatland$Person"
  | 3 => .object "Peatland$Parcel"
  | 4 => .int
  | _ => .int
theorem pw_n3 : ∀ a, a < 6 → ∀ b, b < 6 → a ≠ b → (pw_T3 a).2.1 ≠ (pw_T3 b).2.1 := by decide +kernel
theorem pw_o3 : ∀ k, k < 6 → parseFieldDescriptor (pw_T3 k).2.2.1 = some (pw_t3 k) := by decide +kernel
theorem pw_i3 : ∀ w ∈ u_ws pw_R3 pw_T3 6, w ∈ lw_tbl := by decide +kernel
def pw_R4 : String := "Peatland$Person"
def pw_T4 : u_T := fun k => match k with
  | 0 => ("Peatland$Person", "number", "I", true)
  | 1 => ("Peatland$Person", "heirs", "Ljava/util/List;", true)
  | 2 => ("Peatland$Person", "isAlive", "Z", false)
  | _ => ("Peatland$Person", "paid", "I", false)
def pw_t4 : Nat → FieldType := fun k => match k with
  | 0 => .int
  | 1 => .object "java/util/List"
  | 2 => .boolean
  | _ => .int
theorem pw_n4 : ∀ a, a < 4 → ∀ b, b < 4 → a ≠ b → (pw_T4 a).2.1 ≠ (pw_T4 b).2.1 := by decide +kernel
theorem pw_o4 : ∀ k, k < 4 → parseFieldDescriptor (pw_T4 k).2.2.1 = some (pw_t4 k) := by decide +kernel
theorem pw_i4 : ∀ w ∈ u_ws pw_R4 pw_T4 4, w ∈ lw_tbl := by decide +kernel
def pw_R5 : String := "Peatland$Right"
def pw_T5 : u_T := fun k => match k with
  | 0 => ("Peatland$Right", "kind", "I", true)
  | 1 => ("Peatland$Right", "parcel", "LPeatland$Parcel;", true)
  | 2 => ("Peatland$Right", "person", "LPeatland$Person;", true)
  | 3 => ("Peatland$Right", "shares", "I", true)
  | 4 => ("Peatland$Right", "comesFrom", "I", true)
  | _ => ("Peatland$Right", "hasEnded", "Z", false)
def pw_t5 : Nat → FieldType := fun k => match k with
  | 0 => .int
  | 1 => .object "Peatland$Parcel"
  | 2 => .object "Peatland$Person"
  | 3 => .int
  | 4 => .int
  | _ => .boolean
theorem pw_n5 : ∀ a, a < 6 → ∀ b, b < 6 → a ≠ b → (pw_T5 a).2.1 ≠ (pw_T5 b).2.1 := by decide +kernel
theorem pw_o5 : ∀ k, k < 6 → parseFieldDescriptor (pw_T5 k).2.2.1 = some (pw_t5 k) := by decide +kernel
theorem pw_i5 : ∀ w ∈ u_ws pw_R5 pw_T5 6, w ∈ lw_tbl := by decide +kernel
def pw_R6 : String := "Peatland$Square"
def pw_T6 : u_T := fun k => match k with
  | 0 => ("Peatland$Square", "number", "I", true)
  | 1 => ("Peatland$Square", "parcel", "LPeatland$Parcel;", false)
  | 2 => ("Peatland$Square", "chain", "[I", false)
  | 3 => ("Peatland$Square", "chainLength", "I", false)
  | 4 => ("Peatland$Square", "peat", "I", false)
  | 5 => ("Peatland$Square", "water", "I", false)
  | 6 => ("Peatland$Square", "burntOn", "I", false)
  | 7 => ("Peatland$Square", "user", "LPeatland$Person;", false)
  | 8 => ("Peatland$Square", "usedSince", "I", false)
  | 9 => ("Peatland$Square", "giver", "LPeatland$Case;", false)
  | _ => ("Peatland$Square", "takenFrom", "LPeatland$Parcel;", false)
def pw_t6 : Nat → FieldType := fun k => match k with
  | 0 => .int
  | 1 => .object "Peatland$Parcel"
  | 2 => .array (.int)
  | 3 => .int
  | 4 => .int
  | 5 => .int
  | 6 => .int
  | 7 => .object "Peatland$Person"
  | 8 => .int
  | 9 => .object "Peatland$Case"
  | _ => .object "Peatland$Parcel"
theorem pw_n6 : ∀ a, a < 11 → ∀ b, b < 11 → a ≠ b → (pw_T6 a).2.1 ≠ (pw_T6 b).2.1 := by decide +kernel
theorem pw_o6 : ∀ k, k < 11 → parseFieldDescriptor (pw_T6 k).2.2.1 = some (pw_t6 k) := by decide +kernel
theorem pw_i6 : ∀ w ∈ u_ws pw_R6 pw_T6 11, w ∈ lw_tbl := by decide +kernel
def pw_R7 : String := "Peatland"
def pw_T7 : u_T := fun k => match k with
  | 0 => ("Peatland", "squares", "[LPeatland$Square;", true)
  | 1 => ("Peatland", "persons", "[LPeatland$Person;", true)
  | 2 => ("Peatland", "parcels", "Ljava/util/List;", true)
  | 3 => ("Peatland", "maps", "Ljava/util/List;", true)
  | 4 => ("Peatland", "cases", "Ljava/util/List;", true)
  | 5 => ("Peatland", "rights", "Ljava/util/List;", true)
  | 6 => ("Peatland", "drains", "Ljava/util/List;", true)
  | 7 => ("Peatland", "today", "I", false)
  | 8 => ("Peatland", "windNow", "I", false)
  | 9 => ("Peatland", "rained", "I", false)
  | 10 => ("Peatland", "ranOff", "I", false)
  | _ => ("Peatland", "dried", "I", false)
def pw_t7 : Nat → FieldType := fun k => match k with
  | 0 => .array (.object "Peatland$Square")
  | 1 => .array (.object "Peatland$Person")
  | 2 => .object "java/util/List"
  | 3 => .object "java/util/List"
  | 4 => .object "java/util/List"
  | 5 => .object "java/util/List"
  | 6 => .object "java/util/List"
  | 7 => .int
  | 8 => .int
  | 9 => .int
  | 10 => .int
  | _ => .int
theorem pw_n7 : ∀ a, a < 12 → ∀ b, b < 12 → a ≠ b → (pw_T7 a).2.1 ≠ (pw_T7 b).2.1 := by decide +kernel
theorem pw_o7 : ∀ k, k < 12 → parseFieldDescriptor (pw_T7 k).2.2.1 = some (pw_t7 k) := by decide +kernel
theorem pw_i7 : ∀ w ∈ u_ws pw_R7 pw_T7 12, w ∈ lw_tbl := by decide +kernel
def pw_R8 : String := "Peatland$Drain"
def pw_T8 : u_T := fun k => match k with
  | 0 => ("Peatland$Drain", "from", "LPeatland$Square;", true)
  | _ => ("Peatland$Drain", "to", "LPeatland$Square;", true)
def pw_t8 : Nat → FieldType := fun k => match k with
  | 0 => .object "Peatland$Square"
  | _ => .object "Peatland$Square"
theorem pw_n8 : ∀ a, a < 2 → ∀ b, b < 2 → a ≠ b → (pw_T8 a).2.1 ≠ (pw_T8 b).2.1 := by decide +kernel
theorem pw_o8 : ∀ k, k < 2 → parseFieldDescriptor (pw_T8 k).2.2.1 = some (pw_t8 k) := by decide +kernel
theorem pw_i8 : ∀ w ∈ u_ws pw_R8 pw_T8 2, w ∈ lw_tbl := by decide +kernel
def pw_R9 : String := "java/util/ArrayList"
def pw_T9 : u_T := fun k => match k with
  | 0 => ("java/util/AbstractList", "modCount", "I", false)
  | 1 => ("java/util/ArrayList", "elementData", "[Ljava/lang/Object;", false)
  | _ => ("java/util/ArrayList", "size", "I", false)
def pw_t9 : Nat → FieldType := fun k => match k with
  | 0 => .int
  | 1 => .array (.object "java/lang/Object")
  | _ => .int
theorem pw_n9 : ∀ a, a < 3 → ∀ b, b < 3 → a ≠ b → (pw_T9 a).2.1 ≠ (pw_T9 b).2.1 := by decide +kernel
theorem pw_o9 : ∀ k, k < 3 → parseFieldDescriptor (pw_T9 k).2.2.1 = some (pw_t9 k) := by decide +kernel
theorem pw_i9 : ∀ w ∈ u_ws pw_R9 pw_T9 3, w ∈ lw_tbl := by decide +kernel
def pw_cl : List vw_C := [(pw_R0, pw_T0, 8), (pw_R1, pw_T1, 2), (pw_R2, pw_T2, 3), (pw_R3, pw_T3, 6), (pw_R4, pw_T4, 4), (pw_R5, pw_T5, 6), (pw_R6, pw_T6, 11), (pw_R7, pw_T7, 12), (pw_R8, pw_T8, 2), (pw_R9, pw_T9, 3)]
/-- how many fields an object of a family has -/
def pw_nf : Nat → Nat := fun f => match f with
  | 0 => 8
  | 1 => 2
  | 2 => 3
  | 3 => 6
  | 4 => 4
  | 5 => 6
  | 6 => 11
  | 7 => 12
  | 8 => 2
  | _ => 0
/-- what lies in the place k of an object, an array or a list of the family f: 0 an int or a boolean, 1 a long, F + 2 a reference to one of the family F, or null -/
def pw_ty (f k : Nat) : Nat := match f with
  | 0 => (match k with
    | 0 => 6
    | 1 => 14
    | _ => 0)
  | 1 => (match k with
    | 0 => 8
    | 1 => 8
    | _ => 0)
  | 2 => (match k with
    | 0 => 6
    | _ => 0)
  | 3 => (match k with
    | 1 => 13
    | 2 => 6
    | 3 => 5
    | _ => 0)
  | 4 => (match k with
    | 1 => 26
    | _ => 0)
  | 5 => (match k with
    | 1 => 5
    | 2 => 6
    | _ => 0)
  | 6 => (match k with
    | 1 => 5
    | 2 => 12
    | 7 => 6
    | 9 => 2
    | 10 => 5
    | _ => 0)
  | 7 => (match k with
    | 0 => 16
    | 1 => 17
    | 2 => 25
    | 3 => 24
    | 4 => 22
    | 5 => 27
    | 6 => 23
    | _ => 0)
  | 8 => (match k with
    | 0 => 8
    | 1 => 8
    | _ => 0)
  | 13 => 1
  | 14 => 8
  | 15 => 6
  | _ => if 20 ≤ f ∧ f < 30 then f - 20 + 2 else 0
theorem pw_ty_l {f : Nat} (h : 20 ≤ f) (h2 : f < 30) (k : Nat) : pw_ty f k = f - 20 + 2 := by
  have : f = 20 ∨ f = 21 ∨ f = 22 ∨ f = 23 ∨ f = 24 ∨ f = 25 ∨ f = 26 ∨ f = 27 ∨ f = 28 ∨ f = 29 := by omega
  rcases this with rfl | rfl | rfl | rfl | rfl | rfl | rfl | rfl | rfl | rfl <;> rfl
/-- the kind of an array: 0 int, 1 boolean, 2 long, 3 squares, 4 persons -/
def pw_ak (f : Nat) : Nat := match f with
  | 12 => 1
  | 13 => 2
  | 14 => 3
  | 15 => 4
  | _ => 0
theorem pw_ak_q {f : Nat} (h0 : pw_ak f ≠ 0) (h1 : pw_ak f ≠ 1) (h2 : pw_ak f ≠ 2) : (f = 14 ∧ pw_ak f = 3) ∨ (f = 15 ∧ pw_ak f = 4) := by
  revert h0 h1 h2
  unfold pw_ak
  split <;> simp
