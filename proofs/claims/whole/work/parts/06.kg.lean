/-- the cells: which there are once both objects are made (1 the object, 77 the reference; 101 to 103 the tables, 104 the script, of L numbers, 105 the text) -/
def kg_sh (L : Nat) : Nat → Nat × Nat
  | 1 => (1, 6) | 2 => (5, 8)
  | 3 => (1, 3) | 4 => (2, 40) | 5 => (1, 3) | 6 => (2, 40) | 7 => (1, 3) | 8 => (2, 40) | 9 => (1, 3) | 10 => (2, 40)
  | 11 => (1, 3) | 12 => (2, 40) | 13 => (1, 3) | 14 => (2, 40) | 15 => (1, 3) | 16 => (2, 40) | 17 => (1, 3) | 18 => (2, 40)
  | 19 => (1, 4) | 20 => (2, 120)
  | 21 => (1, 5) | 22 => (2, 6) | 23 => (2, 6) | 24 => (2, 6) | 25 => (2, 6) | 26 => (2, 4) | 27 => (2, 4) | 28 => (2, 4) | 29 => (2, 4)
  | 30 => (1, 5) | 31 => (2, 6) | 32 => (2, 6) | 33 => (2, 6) | 34 => (2, 6) | 35 => (2, 4) | 36 => (2, 4) | 37 => (2, 4) | 38 => (2, 4)
  | 39 => (1, 0) | 40 => (2, 24) | 41 => (2, 24) | 42 => (2, 24) | 43 => (2, 24)
  | 44 => (1, 2)
  | 45 => (1, 5) | 46 => (2, 6) | 47 => (2, 6) | 48 => (2, 6) | 49 => (2, 6) | 50 => (2, 4) | 51 => (2, 4) | 52 => (2, 4) | 53 => (2, 4)
  | 54 => (3, 61) | 55 => (1, 1) | 56 => (2, 16) | 57 => (6, 2)
  | 58 => (1, 5) | 59 => (2, 6) | 60 => (2, 6) | 61 => (2, 6) | 62 => (2, 6) | 63 => (2, 4) | 64 => (2, 4) | 65 => (2, 4) | 66 => (2, 4)
  | 67 => (1, 5) | 68 => (2, 6) | 69 => (2, 6) | 70 => (2, 6) | 71 => (2, 6) | 72 => (2, 4) | 73 => (2, 4) | 74 => (2, 4) | 75 => (2, 4)
  | 76 => (4, 2)
  | 77 => (1, 7) | 78 => (2, 8) | 79 => (2, 8) | 80 => (2, 320) | 81 => (2, 46) | 82 => (2, 40) | 83 => (2, 120) | 84 => (2, 46) | 85 => (2, 1104) | 86 => (2, 46) | 87 => (2, 366) | 88 => (4, 2) | 89 => (2, 92) | 90 => (2, 16)
  | 101 => (7, 6) | 102 => (7, 6) | 103 => (7, 6) | 104 => (7, L) | 105 => (8, 0)
  | _ => (0, 0)
def kg_rl : Nat → List Nat
  | 1 => [2, 19, 21, 30, 39, 44, 55, 57, 76]
  | 2 => [3, 5, 7, 9, 11, 13, 15, 17]
  | 3 => [4] | 5 => [6] | 7 => [8] | 9 => [10] | 11 => [12] | 13 => [14] | 15 => [16] | 17 => [18]
  | 19 => [20]
  | 21 => [22, 23, 24, 25, 26, 27, 28, 29]
  | 30 => [31, 32, 33, 34, 35, 36, 37, 38]
  | 39 => [40, 41, 42, 43]
  | 44 => [45, 54]
  | 45 => [46, 47, 48, 49, 50, 51, 52, 53]
  | 55 => [56]
  | 57 => [58, 67]
  | 58 => [59, 60, 61, 62, 63, 64, 65, 66]
  | 67 => [68, 69, 70, 71, 72, 73, 74, 75]
  | 77 => [78, 79, 80, 0, 0, 81, 82, 83, 0, 0, 0, 0, 0, 0, 0, 84, 85, 0, 86, 87, 88, 89, 90, 0]
  | _ => []
def kg_rf (a : Nat) (i : Int) : Nat := if 0 ≤ i then (kg_rl a).getD i.toNat 0 else 0
def kg (L : Nat) : kx_G := (kg_sh L, 91, kg_rf)
/-- a town's cells -/
def kg_T (L a : Nat) : Prop := (kg L).1 a = (1, 5) ∧ (kg L).2.2 a 0 = a + 1 ∧ (kg L).2.2 a 1 = a + 2 ∧ (kg L).2.2 a 2 = a + 3 ∧ (kg L).2.2 a 3 = a + 4 ∧ (kg L).2.2 a 4 = a + 5 ∧ (kg L).2.2 a 5 = a + 6 ∧ (kg L).2.2 a 6 = a + 7 ∧ (kg L).2.2 a 7 = a + 8 ∧ (kg L).1 (a + 1) = (2, 6) ∧ (kg L).1 (a + 2) = (2, 6) ∧ (kg L).1 (a + 3) = (2, 6) ∧ (kg L).1 (a + 4) = (2, 6) ∧ (kg L).1 (a + 5) = (2, 4) ∧ (kg L).1 (a + 6) = (2, 4) ∧ (kg L).1 (a + 7) = (2, 4) ∧ (kg L).1 (a + 8) = (2, 4)
theorem kg_T21 (L : Nat) : kg_T L 21 := ⟨rfl, rfl, rfl, rfl, rfl, rfl, rfl, rfl, rfl, rfl, rfl, rfl, rfl, rfl, rfl, rfl, rfl⟩
theorem kg_T30 (L : Nat) : kg_T L 30 := ⟨rfl, rfl, rfl, rfl, rfl, rfl, rfl, rfl, rfl, rfl, rfl, rfl, rfl, rfl, rfl, rfl, rfl⟩
theorem kg_T45 (L : Nat) : kg_T L 45 := ⟨rfl, rfl, rfl, rfl, rfl, rfl, rfl, rfl, rfl, rfl, rfl, rfl, rfl, rfl, rfl, rfl, rfl⟩
theorem kg_T58 (L : Nat) : kg_T L 58 := ⟨rfl, rfl, rfl, rfl, rfl, rfl, rfl, rfl, rfl, rfl, rfl, rfl, rfl, rfl, rfl, rfl, rfl⟩
theorem kg_T67 (L : Nat) : kg_T L 67 := ⟨rfl, rfl, rfl, rfl, rfl, rfl, rfl, rfl, rfl, rfl, rfl, rfl, rfl, rfl, rfl, rfl, rfl⟩
/-- a row's cells -/
def kg_R (L a : Nat) : Prop := (kg L).1 a = (1, 3) ∧ (kg L).2.2 a 0 = a + 1 ∧ (kg L).1 (a + 1) = (2, 40)
theorem kg_rows (L : Nat) {i : Int} (h0 : 0 ≤ i) (h1 : i < 8) : (kg L).2.2 2 i = 3 + 2 * i.toNat ∧ kg_R L (3 + 2 * i.toNat) := by
  obtain ⟨n, rfl⟩ := Int.eq_ofNat_of_zero_le h0
  have h : n < 8 := by omega
  match n, h with
  | 0, _ => exact ⟨rfl, rfl, rfl, rfl⟩
  | 1, _ => exact ⟨rfl, rfl, rfl, rfl⟩
  | 2, _ => exact ⟨rfl, rfl, rfl, rfl⟩
  | 3, _ => exact ⟨rfl, rfl, rfl, rfl⟩
  | 4, _ => exact ⟨rfl, rfl, rfl, rfl⟩
  | 5, _ => exact ⟨rfl, rfl, rfl, rfl⟩
  | 6, _ => exact ⟨rfl, rfl, rfl, rfl⟩
  | 7, _ => exact ⟨rfl, rfl, rfl, rfl⟩
theorem kg_imgs (L : Nat) {i : Int} (h0 : 0 ≤ i) (h1 : i < 2) : (kg L).2.2 57 i = 58 + 9 * i.toNat ∧ kg_T L (58 + 9 * i.toNat) := by
  obtain ⟨n, rfl⟩ := Int.eq_ofNat_of_zero_le h0
  have h : n < 2 := by omega
  match n, h with
  | 0, _ => exact ⟨rfl, kg_T58 L⟩
  | 1, _ => exact ⟨rfl, kg_T67 L⟩
theorem kx_ifs {c A B : Prop} [Decidable c] (h1 : c → A) (h0 : ¬ c → B) : if c then A else B := by
  split
  · exact h1 ‹_›
  · exact h0 ‹_›
theorem kx_up_row {μ : kx_M} {a b : Nat} {i v : Int} (h : b ≠ a) : kx_up μ a i v b = μ b := by
  funext j
  simp [kx_up, h]
def up1 (f : Int → Int) (i v : Int) : Int → Int := fun j => if j = i then v else f j
theorem up1_at (f : Int → Int) (i v j : Int) : up1 f i v j = if j = i then v else f j := rfl
def kx_row (μ : kx_M) (c : Nat) (f : Int → Int) : kx_M := fun b j => if b = c then f j else μ b j
theorem kx_row_at (μ : kx_M) (c : Nat) (f : Int → Int) (b : Nat) (j : Int) : kx_row μ c f b j = if b = c then f j else μ b j := rfl
theorem kx_row_self (μ : kx_M) (c : Nat) (f : Int → Int) : kx_row μ c f c = f := by funext j; simp [kx_row]
theorem kx_row_ne {μ : kx_M} {c b : Nat} {f : Int → Int} (h : b ≠ c) : kx_row μ c f b = μ b := by funext j; simp [kx_row, h]
theorem kx_row_id (μ : kx_M) (c : Nat) : kx_row μ c (μ c) = μ := by
  funext b j; by_cases h : b = c <;> simp [kx_row, h]
theorem kx_row_row (μ : kx_M) (c : Nat) (f g : Int → Int) : kx_row (kx_row μ c f) c g = kx_row μ c g := by
  funext b j; by_cases h : b = c <;> simp [kx_row, h]
theorem kx_up_up1 (μ : kx_M) (a : Nat) (i v : Int) : kx_up μ a i v = kx_row μ a (up1 (μ a) i v) := by
  funext b j
  by_cases h : b = a
  · subst h; simp [kx_up, kx_row, up1]
  · simp [kx_up, kx_row, h]
theorem kx_up_row_row (μ : kx_M) (a : Nat) (f : Int → Int) (i v : Int) : kx_up (kx_row μ a f) a i v = kx_row μ a (up1 f i v) := by
  rw [kx_up_up1, kx_row_self, kx_row_row]
theorem kx_and_in (a b : Int) : kx_in (kx_and a b) := by
  have h1 := Int32.le_toInt (Int32.ofInt a &&& Int32.ofInt b)
  have h2 := Int32.toInt_lt (Int32.ofInt a &&& Int32.ofInt b)
  unfold kx_and
  exact ⟨by omega, by omega⟩
theorem kx_or_in (a b : Int) : kx_in (kx_or a b) := by
  have h1 := Int32.le_toInt (Int32.ofInt a ||| Int32.ofInt b)
  have h2 := Int32.toInt_lt (Int32.ofInt a ||| Int32.ofInt b)
  unfold kx_or
  exact ⟨by omega, by omega⟩
/-! the law's start: the outer cells, the classes, the first world -/
/-- the shapes before anything is made -/
def kg_ish (L : Nat) : Nat → Nat × Nat
  | 101 => (7, 6) | 102 => (7, 6) | 103 => (7, 6) | 104 => (7, L) | 105 => (8, 0) | _ => (0, 0)
def kg_i (L : Nat) : kx_G := (kg_ish L, 1, fun _ _ => 0)
/-- the numbers of the outer cells -/
def kg_m (xs : Nat → Int32) : kx_M := fun c j => match c with
  | 101 => ([0, 0, 1, 1, 0, 4] : List Int).getD j.toNat 0
  | 102 => ([10, 11, 12, 0, 13, 14] : List Int).getD j.toNat 0
  | 103 => ([20, 21, 24, 22, 23, 0] : List Int).getD j.toNat 0
  | 104 => (xs j.toNat).toInt
  | 106 => ([102, 115, 116, 119, 98] : List Int).getD j.toNat 0
  | _ => 0
