def sx_T0 : u_T := fun k => match k with
  | 0 => ("HatOrders$Acts", "sorts", "[I", true)
  | 1 => ("HatOrders$Acts", "holders", "[I", true)
  | 2 => ("HatOrders$Acts", "helds", "[I", true)
  | 3 => ("HatOrders$Acts", "details", "[I", true)
  | 4 => ("HatOrders$Acts", "nextPlace", "I", false)
  | _ => ("HatOrders$Acts", "kept", "I", false)
def sx_y0 : Nat → FieldType := fun k => match k with
  | 0 => .array .int
  | 1 => .array .int
  | 2 => .array .int
  | 3 => .array .int
  | 4 => .int
  | _ => .int
theorem sx_nm0 : ∀ a, a < 6 → ∀ b, b < 6 → a ≠ b → (sx_T0 a).2.1 ≠ (sx_T0 b).2.1 := by decide +kernel
theorem sx_ty0 : ∀ k, k < 6 → parseFieldDescriptor (sx_T0 k).2.2.1 = some (sx_y0 k) := by decide +kernel
def sx_T1 : u_T := fun k => match k with
  | 0 => ("HatOrders$Asker", "numbers", "[I", true)
  | _ => ("HatOrders$Asker", "traced", "I", false)
def sx_y1 : Nat → FieldType := fun k => match k with
  | 0 => .array .int
  | _ => .int
theorem sx_nm1 : ∀ a, a < 2 → ∀ b, b < 2 → a ≠ b → (sx_T1 a).2.1 ≠ (sx_T1 b).2.1 := by decide +kernel
theorem sx_ty1 : ∀ k, k < 2 → parseFieldDescriptor (sx_T1 k).2.2.1 = some (sx_y1 k) := by decide +kernel
def sx_T2 : u_T := fun k => match k with
  | 0 => ("HatOrders$Foresight", "trial", "LHatOrders$Town;", true)
  | _ => ("HatOrders$Foresight", "marks", "[J", true)
def sx_y2 : Nat → FieldType := fun k => match k with
  | 0 => .object "HatOrders$Town"
  | _ => .array .long
theorem sx_nm2 : ∀ a, a < 2 → ∀ b, b < 2 → a ≠ b → (sx_T2 a).2.1 ≠ (sx_T2 b).2.1 := by decide +kernel
theorem sx_ty2 : ∀ k, k < 2 → parseFieldDescriptor (sx_T2 k).2.2.1 = some (sx_y2 k) := by decide +kernel
def sx_T3 : u_T := fun k => match k with
  | 0 => ("HatOrders$Row", "items", "[I", true)
  | 1 => ("HatOrders$Row", "lane", "I", false)
  | _ => ("HatOrders$Row", "size", "I", false)
def sx_y3 : Nat → FieldType := fun k => match k with
  | 0 => .array .int
  | 1 => .int
  | _ => .int
theorem sx_nm3 : ∀ a, a < 3 → ∀ b, b < 3 → a ≠ b → (sx_T3 a).2.1 ≠ (sx_T3 b).2.1 := by decide +kernel
theorem sx_ty3 : ∀ k, k < 3 → parseFieldDescriptor (sx_T3 k).2.2.1 = some (sx_y3 k) := by decide +kernel
def sx_T4 : u_T := fun k => match k with
  | 0 => ("HatOrders$Tape", "bytes", "[I", true)
  | 1 => ("HatOrders$Tape", "length", "I", false)
  | 2 => ("HatOrders$Tape", "faultNumber", "I", false)
  | 3 => ("HatOrders$Tape", "faultPlace", "I", false)
  | 4 => ("HatOrders$Tape", "at", "I", false)
  | _ => ("HatOrders$Tape", "number", "I", false)
def sx_y4 : Nat → FieldType := fun k => match k with
  | 0 => .array .int
  | 1 => .int
  | 2 => .int
  | 3 => .int
  | 4 => .int
  | _ => .int
theorem sx_nm4 : ∀ a, a < 6 → ∀ b, b < 6 → a ≠ b → (sx_T4 a).2.1 ≠ (sx_T4 b).2.1 := by decide +kernel
theorem sx_ty4 : ∀ k, k < 6 → parseFieldDescriptor (sx_T4 k).2.2.1 = some (sx_y4 k) := by decide +kernel
def sx_T5 : u_T := fun k => match k with
  | 0 => ("HatOrders$Town", "kinds", "[I", true)
  | 1 => ("HatOrders$Town", "keeps", "[I", true)
  | 2 => ("HatOrders$Town", "likes", "[I", true)
  | 3 => ("HatOrders$Town", "worked", "[I", true)
  | 4 => ("HatOrders$Town", "needs", "[I", true)
  | 5 => ("HatOrders$Town", "left", "[I", true)
  | 6 => ("HatOrders$Town", "states", "[I", true)
  | 7 => ("HatOrders$Town", "doneOn", "[I", true)
  | 8 => ("HatOrders$Town", "heads", "I", false)
  | 9 => ("HatOrders$Town", "orders", "I", false)
  | 10 => ("HatOrders$Town", "wind", "I", false)
  | 11 => ("HatOrders$Town", "holder", "I", false)
  | 12 => ("HatOrders$Town", "held", "I", false)
  | _ => ("HatOrders$Town", "step", "I", false)
def sx_y5 : Nat → FieldType := fun k => match k with
  | 0 => .array .int
  | 1 => .array .int
  | 2 => .array .int
  | 3 => .array .int
  | 4 => .array .int
  | 5 => .array .int
  | 6 => .array .int
  | 7 => .array .int
  | 8 => .int
  | 9 => .int
  | 10 => .int
  | 11 => .int
  | 12 => .int
  | _ => .int
theorem sx_nm5 : ∀ a, a < 14 → ∀ b, b < 14 → a ≠ b → (sx_T5 a).2.1 ≠ (sx_T5 b).2.1 := by decide +kernel
theorem sx_ty5 : ∀ k, k < 14 → parseFieldDescriptor (sx_T5 k).2.2.1 = some (sx_y5 k) := by decide +kernel
def sx_T6 : u_T := fun k => match k with
  | 0 => ("HatOrders", "rows", "[LHatOrders$Row;", true)
  | 1 => ("HatOrders", "tape", "LHatOrders$Tape;", true)
  | 2 => ("HatOrders", "draft", "LHatOrders$Town;", true)
  | 3 => ("HatOrders", "present", "LHatOrders$Town;", true)
  | 4 => ("HatOrders", "acts", "LHatOrders$Acts;", true)
  | 5 => ("HatOrders", "foresight", "LHatOrders$Foresight;", true)
  | 6 => ("HatOrders", "asker", "LHatOrders$Asker;", true)
  | 7 => ("HatOrders", "images", "[LHatOrders$Town;", true)
  | 8 => ("HatOrders", "imageKept", "[Z", true)
  | 9 => ("HatOrders", "faultNumber", "I", false)
  | _ => ("HatOrders", "lastFinding", "I", false)
def sx_y6 : Nat → FieldType := fun k => match k with
  | 0 => .array (.object "HatOrders$Row")
  | 1 => .object "HatOrders$Tape"
  | 2 => .object "HatOrders$Town"
  | 3 => .object "HatOrders$Town"
  | 4 => .object "HatOrders$Acts"
  | 5 => .object "HatOrders$Foresight"
  | 6 => .object "HatOrders$Asker"
  | 7 => .array (.object "HatOrders$Town")
  | 8 => .array .boolean
  | 9 => .int
  | _ => .int
theorem sx_nm6 : ∀ a, a < 11 → ∀ b, b < 11 → a ≠ b → (sx_T6 a).2.1 ≠ (sx_T6 b).2.1 := by decide +kernel
theorem sx_ty6 : ∀ k, k < 11 → parseFieldDescriptor (sx_T6 k).2.2.1 = some (sx_y6 k) := by decide +kernel
def sx_T7 : u_T := fun k => match k with
  | 0 => ("HatOrdersModel", "lanes", "[I", true)
  | 1 => ("HatOrdersModel", "sizes", "[I", true)
  | 2 => ("HatOrdersModel", "items", "[I", true)
  | 3 => ("HatOrdersModel", "status", "I", false)
  | 4 => ("HatOrdersModel", "isThere", "Z", false)
  | 5 => ("HatOrdersModel", "st", "[I", true)
  | 6 => ("HatOrdersModel", "moved", "[I", true)
  | 7 => ("HatOrdersModel", "tape", "[I", true)
  | 8 => ("HatOrdersModel", "bytes", "I", false)
  | 9 => ("HatOrdersModel", "latest", "I", false)
  | 10 => ("HatOrdersModel", "place", "I", false)
  | 11 => ("HatOrdersModel", "token", "I", false)
  | 12 => ("HatOrdersModel", "value", "I", false)
  | 13 => ("HatOrdersModel", "begins", "I", false)
  | 14 => ("HatOrdersModel", "wrong", "I", false)
  | 15 => ("HatOrdersModel", "read", "[I", true)
  | 16 => ("HatOrdersModel", "acts", "[I", true)
  | 17 => ("HatOrdersModel", "actMany", "I", false)
  | 18 => ("HatOrdersModel", "aside", "[I", true)
  | 19 => ("HatOrdersModel", "ways", "[I", true)
  | 20 => ("HatOrdersModel", "isHeld", "[Z", true)
  | 21 => ("HatOrdersModel", "held", "[I", true)
  | 22 => ("HatOrdersModel", "trace", "[I", true)
  | _ => ("HatOrdersModel", "traced", "I", false)
def sx_y7 : Nat → FieldType := fun k => match k with
  | 0 => .array .int
  | 1 => .array .int
  | 2 => .array .int
  | 3 => .int
  | 4 => .boolean
  | 5 => .array .int
  | 6 => .array .int
  | 7 => .array .int
  | 8 => .int
  | 9 => .int
  | 10 => .int
  | 11 => .int
  | 12 => .int
  | 13 => .int
  | 14 => .int
  | 15 => .array .int
  | 16 => .array .int
  | 17 => .int
  | 18 => .array .int
  | 19 => .array .int
  | 20 => .array .boolean
  | 21 => .array .int
  | 22 => .array .int
  | _ => .int
theorem sx_nm7 : ∀ a, a < 24 → ∀ b, b < 24 → a ≠ b → (sx_T7 a).2.1 ≠ (sx_T7 b).2.1 := by decide +kernel
theorem sx_ty7 : ∀ k, k < 24 → parseFieldDescriptor (sx_T7 k).2.2.1 = some (sx_y7 k) := by decide +kernel
def sx_cn : Nat → String
  | 0 => "HatOrders$Acts"
  | 1 => "HatOrders$Asker"
  | 2 => "HatOrders$Foresight"
  | 3 => "HatOrders$Row"
  | 4 => "HatOrders$Tape"
  | 5 => "HatOrders$Town"
  | 6 => "HatOrders"
  | _ => "HatOrdersModel"
def sx_T (ci : Nat) : u_T := match ci with
  | 0 => sx_T0
  | 1 => sx_T1
  | 2 => sx_T2
  | 3 => sx_T3
  | 4 => sx_T4
  | 5 => sx_T5
  | 6 => sx_T6
  | _ => sx_T7
def sx_y (ci : Nat) : Nat → FieldType := match ci with
  | 0 => sx_y0
  | 1 => sx_y1
  | 2 => sx_y2
  | 3 => sx_y3
  | 4 => sx_y4
  | 5 => sx_y5
  | 6 => sx_y6
  | _ => sx_y7
def sx_nf : Nat → Nat
  | 0 => 6
  | 1 => 2
  | 2 => 2
  | 3 => 3
  | 4 => 6
  | 5 => 14
  | 6 => 11
  | _ => 24
def sx_tags : Nat → List Nat
  | 0 => [1, 1, 1, 1, 0, 0]
  | 1 => [1, 0]
  | 2 => [1, 1]
  | 3 => [1, 0, 0]
  | 4 => [1, 0, 0, 0, 0, 0]
  | 5 => [1, 1, 1, 1, 1, 1, 1, 1, 0, 0, 0, 0, 0, 0]
  | 6 => [1, 1, 1, 1, 1, 1, 1, 1, 1, 0, 0]
  | _ => [1, 1, 1, 0, 2, 1, 1, 1, 0, 0, 0, 0, 0, 0, 0, 1, 1, 0, 1, 1, 1, 1, 1, 0]
/-- 0 an int, 1 a reference, 2 a boolean -/
def sx_tag (ci k : Nat) : Nat := (sx_tags ci).getD k 0
abbrev sx_cls : List vw_C := [(sx_cn 0, sx_T 0, 6), (sx_cn 1, sx_T 1, 2), (sx_cn 2, sx_T 2, 2), (sx_cn 3, sx_T 3, 3), (sx_cn 4, sx_T 4, 6), (sx_cn 5, sx_T 5, 14), (sx_cn 6, sx_T 6, 11), (sx_cn 7, sx_T 7, 24)]
theorem sx_cls_at {ci : Nat} (h : ci < 8) : sx_cls[ci]? = some (sx_cn ci, sx_T ci, sx_nf ci) := by
  match ci, h with
  | 0, _ => rfl
  | 1, _ => rfl
  | 2, _ => rfl
  | 3, _ => rfl
  | 4, _ => rfl
  | 5, _ => rfl
  | 6, _ => rfl
  | 7, _ => rfl
theorem sx_nm {ci : Nat} (h : ci < 8) : ∀ a, a < sx_nf ci → ∀ b, b < sx_nf ci → a ≠ b → (sx_T ci a).2.1 ≠ (sx_T ci b).2.1 := by
  match ci, h with
  | 0, _ => exact sx_nm0
  | 1, _ => exact sx_nm1
  | 2, _ => exact sx_nm2
  | 3, _ => exact sx_nm3
  | 4, _ => exact sx_nm4
  | 5, _ => exact sx_nm5
  | 6, _ => exact sx_nm6
  | 7, _ => exact sx_nm7
theorem sx_ty {ci : Nat} (h : ci < 8) : ∀ k, k < sx_nf ci → parseFieldDescriptor (sx_T ci k).2.2.1 = some (sx_y ci k) := by
  match ci, h with
  | 0, _ => exact sx_ty0
  | 1, _ => exact sx_ty1
  | 2, _ => exact sx_ty2
  | 3, _ => exact sx_ty3
  | 4, _ => exact sx_ty4
  | 5, _ => exact sx_ty5
  | 6, _ => exact sx_ty6
  | 7, _ => exact sx_ty7
theorem sx_tag_ok : ∀ ci, ci < 8 → ∀ k, k < sx_nf ci → (sx_tag ci k = 0 → sx_y ci k = .int) ∧ (sx_tag ci k = 2 → sx_y ci k = .boolean) ∧ (sx_tag ci k = 1 → refKind (sx_y ci k) = true) ∧ sx_tag ci k < 3 := by decide +kernel
theorem sx_own_ok : ∀ ci, ci < 8 → ∀ k, k < sx_nf ci → (sx_T ci k).1 = sx_cn ci := by decide +kernel
