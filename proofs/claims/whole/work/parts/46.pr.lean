/-! rows, bytes, rows that tell, of both -/
theorem q_ga_c {s f g : Int → Int} : ∀ n : Nat, (∀ k : Nat, k < n → f k = g k) → q_ga s f n = q_ga s g n := by
  intro n
  induction n with
  | zero => intro _; rfl
  | succ n ih =>
    intro h
    simp only [q_ga]
    rw [ih (fun k hk => h k (by omega)), h n (by omega)]
theorem q_se_c {s f g : Int → Int} {n : Nat} (h : ∀ k : Nat, k < n → f k = g k) : ∀ (r : Nat) (a b : Int), q_se s f n r a b = q_se s g n r a b := by
  intro r
  induction r with
  | zero => intro a b; rfl
  | succ r ih =>
    intro a b
    rw [q_se, q_se, q_ga_c n h, ih, ih]
theorem q_ke_c {s f g : Int → Int} {n : Nat} {x : Int} (h : ∀ k : Nat, k < n → f k = g k) : ∀ (r : Nat) (k a : Int), q_ke s f x n r k a = q_ke s g x n r k a := by
  intro r
  induction r with
  | zero => intro k a; rfl
  | succ r ih =>
    intro k a
    rw [q_ke, q_ke, q_ga_c n h, ih]
theorem I_rw_at {μ : kx_M} (i1 : I_rw μ) {r : Int} (r0 : 0 ≤ r) (r1 : r ≤ 7) : (μ (3 + 2 * r.toNat) 1 = μ 78 r ∧ μ (3 + 2 * r.toNat) 2 = μ 79 r) ∧ (0 ≤ μ 78 r ∧ μ 78 r ≤ 2) ∧ (-1 ≤ μ 79 r ∧ μ 79 r ≤ 40) ∧ ∀ i, 0 ≤ i → i < 40 → μ (3 + 2 * r.toNat + 1) i = μ 80 (40 * r + i) ∧ kx_in (μ 80 (40 * r + i)) := by
  have := i1 r.toNat (by omega)
  rw [show ((r.toNat : Nat) : Int) = r by omega] at this
  exact this
theorem I_rw_79 {μ : kx_M} (i1 : I_rw μ) : ∀ i, 0 ≤ i → i < 8 → -1 ≤ μ 79 i ∧ μ 79 i ≤ 40 := fun i a b => (I_rw_at i1 a (by omega)).2.2.1
theorem I_rw_78 {μ : kx_M} (i1 : I_rw μ) : ∀ i, 0 ≤ i → i < 8 → 0 ≤ μ 78 i ∧ μ 78 i ≤ 2 := fun i a b => (I_rw_at i1 a (by omega)).2.1
theorem I_rw_80 {μ : kx_M} (i1 : I_rw μ) : ∀ k, 0 ≤ k → k < 320 → kx_in (μ 80 k) := by
  intro k k0 k1
  have := ((I_rw_at i1 (r := k / 40) (by omega) (by omega)).2.2.2 (k % 40) (by omega) (by omega)).2
  rw [show 40 * (k / 40) + k % 40 = k by omega] at this
  exact this
theorem I_rw_X {μ : kx_M} (i1 : I_rw μ) : (∀ i : Nat, i < 8 → -1 ≤ μ (3 + 2 * i) 2 ∧ μ (3 + 2 * i) 2 ≤ 40) ∧ (∀ i : Nat, i < 8 → 0 ≤ μ (3 + 2 * i) 1 ∧ μ (3 + 2 * i) 1 ≤ 2) ∧ (∀ i : Nat, i < 8 → ∀ k, 0 ≤ k → k < 40 → kx_in (μ (3 + 2 * i + 1) k)) := by
  refine ⟨fun i hi => ?_, fun i hi => ?_, fun i hi k k0 k1 => ?_⟩
  · rw [(i1 i hi).1.2]; exact (i1 i hi).2.2.1
  · rw [(i1 i hi).1.1]; exact (i1 i hi).2.1
  · rw [((i1 i hi).2.2.2 k k0 k1).1]; exact ((i1 i hi).2.2.2 k k0 k1).2
theorem kx_c11 : kx_in (-1000011) := ⟨by omega, by omega⟩
theorem kx_c12 : kx_in (-1000012) := ⟨by omega, by omega⟩
theorem kx_c14 : kx_in (-1000014) := ⟨by omega, by omega⟩
theorem kx_c15 : kx_in (-1000015) := ⟨by omega, by omega⟩
theorem kx_s {k : Int} (h0 : 0 ≤ k) (h1 : k ≤ 5) : kx_in k := ⟨by omega, by omega⟩
theorem IT_1 {μ : kx_M} {s : Int → Int} {v : Int} (h : IT μ s) : IT (kx_up μ 1 10 v) s := by unfold IT at *; rw [kx_up_row (by omega)]; exact h
section PR
variable {L : Nat} {sc : Int → Int} {a b v w l i n j r x : Int}
theorem p_drop (hr : kx_in r) : PA L sc 72 125 [kI r] := by
  intro μ I
  have I0 := I
  obtain ⟨i1, i2, i3, i4, ⟨N, T, IT0⟩, i6, i7, i8, i9, i10, i11⟩ := I
  obtain ⟨n1, n2, n3⟩ := TN_in N
  refine r_Xdrop hr (I_rw_X i1).1 (fun a1 => ⟨rfl, i11, ?_⟩) (fun a1 a2 a3 => ⟨rfl, by rw [kx_up_row (by omega)]; exact i11, ?_⟩) (fun a1 a2 a3 => ⟨rfl, by rw [kx_up_row (by omega), kx_up_row (by omega)]; exact i11, ?_⟩)
  · exact r_Mdrop hr (I_rw_79 i1) (fun _ => ⟨_, kx_c1, rfl, rfl, rfl, I0⟩) (fun q1 q2 q3 => False.elim (by omega)) (fun q1 q2 q3 => False.elim (by omega))
  · have e := (I_rw_at i1 a1 a2).1.2
    have h79 : kx_up μ 1 10 1 79 = μ 79 := kx_up_row (by omega)
    exact r_Mdrop hr (by rw [h79]; exact I_rw_79 i1) (fun q1 => False.elim (by omega)) (fun q1 q2 q3 => ⟨_, kx_c11, rfl, rfl, rfl, Inv_st I0 ⟨by omega, by omega⟩⟩) (fun q1 q2 q3 => by rw [h79] at q3; omega)
  · have hh := I_rw_at i1 a1 a2
    have e := hh.1.2
    have h79 : kx_up (kx_up μ (3 + 2 * r.toNat) 2 (-1)) 1 10 0 79 = μ 79 := by rw [kx_up_row (by omega), kx_up_row (by omega)]
    refine r_Mdrop hr (by rw [h79]; exact I_rw_79 i1) (fun q1 => False.elim (by omega)) (fun q1 q2 q3 => by rw [h79] at q3; omega) (fun q1 q2 q3 => ⟨μ 79 r, ⟨by omega, by omega⟩, by rw [e], by rw [h79], rfl, ?_⟩)
    generalize hw9 : 3 + 2 * r.toNat = g at *
    have f : ∀ c, c ≠ 1 ∧ c ≠ 77 ∧ c ≠ 79 ∧ c ≠ g → kx_up (kx_up (kx_up (kx_up μ g 2 (-1)) 1 10 0) 79 r (-1)) 77 3 0 c = μ c := fun c hc => by rw [kx_up_row (by omega), kx_up_row (by omega), kx_up_row (by omega), kx_up_row (by omega)]
    have f1 : ∀ j, j ≠ 10 → kx_up (kx_up (kx_up (kx_up μ g 2 (-1)) 1 10 0) 79 r (-1)) 77 3 0 1 j = μ 1 j := fun j hj => by rw [kx_up_row (by omega), kx_up_row (by omega), kx_up_oth hj, kx_up_row (by omega)]
    have f7 : ∀ j, j ≠ 3 → kx_up (kx_up (kx_up (kx_up μ g 2 (-1)) 1 10 0) 79 r (-1)) 77 3 0 77 j = μ 77 j := fun j hj => by rw [kx_up_oth hj, kx_up_row (by omega), kx_up_row (by omega), kx_up_row (by omega)]
    have s1 : kx_up (kx_up (kx_up (kx_up μ g 2 (-1)) 1 10 0) 79 r (-1)) 77 3 0 1 10 = 0 := by rw [kx_up_row (by omega), kx_up_row (by omega), kx_up_self]
    have s7 : kx_up (kx_up (kx_up (kx_up μ g 2 (-1)) 1 10 0) 79 r (-1)) 77 3 0 77 3 = 0 := kx_up_self _ _ _ _
    have g79 : kx_up (kx_up (kx_up (kx_up μ g 2 (-1)) 1 10 0) 79 r (-1)) 77 3 0 79 = up1 (μ 79) r (-1) := by rw [kx_up_row (by omega), kx_up_up1, kx_row_self, kx_up_row (by omega), kx_up_row (by omega)]
    have gg2 : kx_up (kx_up (kx_up (kx_up μ g 2 (-1)) 1 10 0) 79 r (-1)) 77 3 0 g 2 = -1 := by rw [kx_up_row (by omega), kx_up_row (by omega), kx_up_row (by omega), kx_up_self]
    have gg1 : kx_up (kx_up (kx_up (kx_up μ g 2 (-1)) 1 10 0) 79 r (-1)) 77 3 0 g 1 = μ g 1 := by rw [kx_up_row (by omega), kx_up_row (by omega), kx_up_row (by omega), kx_up_oth (by omega)]
    generalize kx_up (kx_up (kx_up (kx_up μ g 2 (-1)) 1 10 0) 79 r (-1)) 77 3 0 = μ2 at *
    refine ⟨?_, ?_, ?_, ?_, ?_, ?_, ?_, ?_, ?_, ?_, ?_⟩
    · intro k hk
      have hk1 := i1 k hk
      rw [f 78 (by omega), f 80 (by omega), f (3 + 2 * k + 1) (by omega), g79]
      by_cases ek : (k : Int) = r
      · have eg : 3 + 2 * k = g := by omega
        rw [eg, gg1, gg2, ek, up1_self]
        rw [eg, ek] at hk1
        exact ⟨⟨hk1.1.1, rfl⟩, hk1.2.1, by omega, hk1.2.2.2⟩
      · rw [f (3 + 2 * k) (by omega), up1_ne ek]
        exact hk1
    · exact ⟨by rw [s1, s7], by rw [s7]; exact ⟨by omega, by omega⟩⟩
    · exact I_tp_fr i3 (by rw [f 19 (by omega)]) (f7 8 (by omega)) (f 20 (by omega)) (f 83 (by omega))
    · unfold I_ft at *; rw [f1 9 (by omega), f7 9 (by omega)]; exact i4
    · exact I_tw_fr ⟨N, T, IT0⟩ (f 81 (by omega)) (f7 4 (by omega)) (fun c a b => f c (by omega))
    · exact I_ac_fr i6 (f 81 (by omega)) (f7 17 (by omega)) (f 85 (by omega)) (fun c a b => f c (by omega))
    · exact I_im_fr i7 (f 88 (by omega)) (f 89 (by omega)) (f7 4 (by omega)) (fun c a b => f c (by omega))
    · exact I_tr_fr i8 (f 55 (by omega)) (f7 23 (by omega)) (f 56 (by omega)) (f 90 (by omega))
    · exact TB_fr i9 (fun c hc => f c (by omega))
    · rw [f 84 (by omega)]; exact i10
    · rw [f 104 (by omega)]; exact i11
theorem p_set (hr : kx_in r) (hi : kx_in i) (hx : kx_in x) : PA L sc 70 123 [kI r, kI i, kI x] := by
  intro μ I
  have I0 := I
  obtain ⟨i1, i2, i3, i4, ⟨N, T, IT0⟩, i6, i7, i8, i9, i10, i11⟩ := I
  obtain ⟨n1, n2, n3⟩ := TN_in N
  have rx := I_rw_X i1
  refine r_Xset hr hi rx.1 rx.2.1 (fun a1 => ⟨rfl, i11, ?_⟩) (fun a1 a2 a3 => ⟨rfl, by rw [kx_up_row (by omega)]; exact i11, ?_⟩) (fun a1 a2 a3 a4 => ⟨rfl, by rw [kx_up_row (by omega)]; exact i11, ?_⟩) (fun a1 a2 a3 a4 => ⟨rfl, by rw [kx_up_row (by omega), kx_up_row (by omega)]; exact i11, ?_⟩)
  · exact r_Mset hr hi hx (I_rw_78 i1) (I_rw_79 i1) (fun _ => ⟨_, kx_c1, rfl, rfl, rfl, I0⟩) (fun q1 q2 q3 => False.elim (by omega)) (fun q1 q2 q3 q4 => False.elim (by omega)) (fun q1 q2 q3 q4 => False.elim (by omega))
  · have e := (I_rw_at i1 a1 a2).1.2
    have h79 : kx_up μ 1 10 1 79 = μ 79 := kx_up_row (by omega)
    have h78 : kx_up μ 1 10 1 78 = μ 78 := kx_up_row (by omega)
    exact r_Mset hr hi hx (by rw [h78]; exact I_rw_78 i1) (by rw [h79]; exact I_rw_79 i1) (fun q1 => False.elim (by omega)) (fun q1 q2 q3 => ⟨_, kx_c11, rfl, rfl, rfl, Inv_st I0 ⟨by omega, by omega⟩⟩) (fun q1 q2 q3 q4 => by rw [h79] at q3; omega) (fun q1 q2 q3 q4 => by rw [h79] at q4; omega)
  · have e := (I_rw_at i1 a1 a2).1.2
    have h79 : kx_up μ 1 10 2 79 = μ 79 := kx_up_row (by omega)
    have h78 : kx_up μ 1 10 2 78 = μ 78 := kx_up_row (by omega)
    exact r_Mset hr hi hx (by rw [h78]; exact I_rw_78 i1) (by rw [h79]; exact I_rw_79 i1) (fun q1 => False.elim (by omega)) (fun q1 q2 q3 => by rw [h79] at q3; omega) (fun q1 q2 q3 q4 => ⟨_, kx_c12, rfl, rfl, rfl, Inv_st I0 ⟨by omega, by omega⟩⟩) (fun q1 q2 q3 q4 => by rw [h79] at q4; omega)
  · have hh := I_rw_at i1 a1 a2
    have e := hh.1.2
    have e1 := hh.1.1
    rw [e1]
    have hc := ln_cut_in (l := μ 78 r) hx
    have h79 : ∀ y, kx_up (kx_up μ (3 + 2 * r.toNat + 1) i y) 1 10 0 79 = μ 79 := fun y => by rw [kx_up_row (by omega), kx_up_row (by omega)]
    have h78 : ∀ y, kx_up (kx_up μ (3 + 2 * r.toNat + 1) i y) 1 10 0 78 = μ 78 := fun y => by rw [kx_up_row (by omega), kx_up_row (by omega)]
    generalize hy : ln_cut (μ 78 r) x = y at *
    refine r_Mset hr hi hx (by rw [h78]; exact I_rw_78 i1) (by rw [h79]; exact I_rw_79 i1) (fun q1 => False.elim (by omega)) (fun q1 q2 q3 => by rw [h79] at q3; omega) (fun q1 q2 q3 q4 => by rw [h79] at q3 q4; omega) (fun q1 q2 q3 q4 => ?_)
    rw [h78, hy]
    refine ⟨y, hc, rfl, rfl, rfl, ?_⟩
    generalize hw9 : 3 + 2 * r.toNat = g at *
    have f : ∀ c, c ≠ 1 ∧ c ≠ 77 ∧ c ≠ 80 ∧ c ≠ g + 1 → kx_up (kx_up (kx_up (kx_up μ (g + 1) i y) 1 10 0) 80 (40 * r + i) y) 77 3 0 c = μ c := fun c hc => by rw [kx_up_row (by omega), kx_up_row (by omega), kx_up_row (by omega), kx_up_row (by omega)]
    have f1 : ∀ j, j ≠ 10 → kx_up (kx_up (kx_up (kx_up μ (g + 1) i y) 1 10 0) 80 (40 * r + i) y) 77 3 0 1 j = μ 1 j := fun j hj => by rw [kx_up_row (by omega), kx_up_row (by omega), kx_up_oth hj, kx_up_row (by omega)]
    have f7 : ∀ j, j ≠ 3 → kx_up (kx_up (kx_up (kx_up μ (g + 1) i y) 1 10 0) 80 (40 * r + i) y) 77 3 0 77 j = μ 77 j := fun j hj => by rw [kx_up_oth hj, kx_up_row (by omega), kx_up_row (by omega), kx_up_row (by omega)]
    have s1 : kx_up (kx_up (kx_up (kx_up μ (g + 1) i y) 1 10 0) 80 (40 * r + i) y) 77 3 0 1 10 = 0 := by rw [kx_up_row (by omega), kx_up_row (by omega), kx_up_self]
    have s7 : kx_up (kx_up (kx_up (kx_up μ (g + 1) i y) 1 10 0) 80 (40 * r + i) y) 77 3 0 77 3 = 0 := kx_up_self _ _ _ _
    have g80 : kx_up (kx_up (kx_up (kx_up μ (g + 1) i y) 1 10 0) 80 (40 * r + i) y) 77 3 0 80 = up1 (μ 80) (40 * r + i) y := by rw [kx_up_row (by omega), kx_up_up1, kx_row_self, kx_up_row (by omega), kx_up_row (by omega)]
    have gg : kx_up (kx_up (kx_up (kx_up μ (g + 1) i y) 1 10 0) 80 (40 * r + i) y) 77 3 0 (g + 1) = up1 (μ (g + 1)) i y := by rw [kx_up_row (by omega), kx_up_row (by omega), kx_up_row (by omega), kx_up_up1, kx_row_self]
    generalize kx_up (kx_up (kx_up (kx_up μ (g + 1) i y) 1 10 0) 80 (40 * r + i) y) 77 3 0 = μ2 at *
    refine ⟨?_, ?_, ?_, ?_, ?_, ?_, ?_, ?_, ?_, ?_, ?_⟩
    · intro k hk
      have hk1 := i1 k hk
      rw [f 78 (by omega), f 79 (by omega), f (3 + 2 * k) (by omega), g80]
      refine ⟨hk1.1, hk1.2.1, hk1.2.2.1, fun u u0 u1 => ?_⟩
      have hk2 := hk1.2.2.2 u u0 u1
      by_cases ek : (k : Int) = r
      · have eg : 3 + 2 * k = g := by omega
        rw [eg, gg]
        rw [eg] at hk2
        by_cases eu : u = i
        · rw [eu, ek, up1_self, up1_self]
          exact ⟨rfl, hc⟩
        · rw [up1_ne eu, up1_ne (by omega)]
          exact hk2
      · rw [f (3 + 2 * k + 1) (by omega), up1_ne (by omega)]
        exact hk2
    · exact ⟨by rw [s1, s7], by rw [s7]; exact ⟨by omega, by omega⟩⟩
    · exact I_tp_fr i3 (by rw [f 19 (by omega)]) (f7 8 (by omega)) (f 20 (by omega)) (f 83 (by omega))
    · unfold I_ft at *; rw [f1 9 (by omega), f7 9 (by omega)]; exact i4
    · exact I_tw_fr ⟨N, T, IT0⟩ (f 81 (by omega)) (f7 4 (by omega)) (fun c a b => f c (by omega))
    · exact I_ac_fr i6 (f 81 (by omega)) (f7 17 (by omega)) (f 85 (by omega)) (fun c a b => f c (by omega))
    · exact I_im_fr i7 (f 88 (by omega)) (f 89 (by omega)) (f7 4 (by omega)) (fun c a b => f c (by omega))
    · exact I_tr_fr i8 (f 55 (by omega)) (f7 23 (by omega)) (f 56 (by omega)) (f 90 (by omega))
    · exact TB_fr i9 (fun c hc => f c (by omega))
    · rw [f 84 (by omega)]; exact i10
    · rw [f 104 (by omega)]; exact i11
theorem p_row (hr : kx_in r) (hl : kx_in l) (hn : kx_in n) : PA L sc 69 121 [kI r, kI l, kI n] := by
  intro μ I
  have I0 := I
  obtain ⟨i1, i2, i3, i4, ⟨N, T, IT0⟩, i6, i7, i8, i9, i10, i11⟩ := I
  obtain ⟨n1, n2, n3⟩ := TN_in N
  refine r_Xrow hr hl hn (fun a1 => ⟨rfl, i11, ?_⟩) (fun a1 a2 a3 => ⟨rfl, by rw [kx_up_row (by omega)]; exact i11, ?_⟩) (fun a1 a2 a3 a4 μ1 k1 k2 k3 k4 => ⟨rfl, by rw [kx_up_row (by omega), k4 104 (by omega) (by omega)]; exact i11, ?_⟩)
  · exact r_Mrow hr hl hn (fun _ => ⟨_, kx_c1, rfl, rfl, rfl, I0⟩) (fun q1 q2 q3 => False.elim (by omega)) (fun q1 q2 q3 q4 μ2 h1 h2 h3 h4 h5 h6 => False.elim (by omega))
  · exact r_Mrow hr hl hn (fun q1 => False.elim (by omega)) (fun q1 q2 q3 => ⟨_, kx_c14, rfl, rfl, rfl, Inv_st I0 ⟨by omega, by omega⟩⟩) (fun q1 q2 q3 q4 μ2 h1 h2 h3 h4 h5 h6 => False.elim (by omega))
  · refine r_Mrow hr hl hn (fun q1 => False.elim (by omega)) (fun q1 q2 q3 => False.elim (by omega)) (fun q1 q2 q3 q4 μ2 h1 h2 h3 h4 h5 h6 => ⟨n, hn, rfl, rfl, rfl, ?_⟩)
    generalize hw9 : 3 + 2 * r.toNat = g at *
    have f : ∀ c, c ≠ 1 ∧ (c < 77 ∨ 80 < c) ∧ c ≠ g ∧ c ≠ g + 1 → μ2 c = μ c := fun c hc => by rw [h6 c (by omega), kx_up_row (by omega), k4 c (by omega) (by omega)]
    have f1 : ∀ j, j ≠ 10 → μ2 1 j = μ 1 j := fun j hj => by rw [h6 1 (by omega), kx_up_oth hj, k4 1 (by omega) (by omega)]
    have f7 : ∀ j, j ≠ 3 → μ2 77 j = μ 77 j := fun j hj => by rw [h5, up1_ne hj, kx_up_row (by omega), k4 77 (by omega) (by omega)]
    have s1 : μ2 1 10 = 0 := by rw [h6 1 (by omega), kx_up_self]
    have s7 : μ2 77 3 = 0 := by rw [h5, up1_self]
    have g78 : μ2 78 = up1 (μ 78) r l := by rw [h3, kx_up_row (by omega), k4 78 (by omega) (by omega)]
    have g79 : μ2 79 = up1 (μ 79) r n := by rw [h4, kx_up_row (by omega), k4 79 (by omega) (by omega)]
    have gg1 : μ2 g 1 = l := by rw [h6 g (by omega), kx_up_row (by omega)]; exact k1
    have gg2 : μ2 g 2 = n := by rw [h6 g (by omega), kx_up_row (by omega)]; exact k2
    have gg3 : ∀ u, 0 ≤ u → u < 40 → μ2 (g + 1) u = 0 := fun u u0 u1 => by rw [h6 (g + 1) (by omega), kx_up_row (by omega)]; exact k3 u u0 u1
    have g80 : ∀ y, y < 40 * r ∨ 40 * r + 40 ≤ y → μ2 80 y = μ 80 y := fun y hy => by rw [h2 y hy, kx_up_row (by omega), k4 80 (by omega) (by omega)]
    refine ⟨?_, ?_, ?_, ?_, ?_, ?_, ?_, ?_, ?_, ?_, ?_⟩
    · intro k hk
      have hk1 := i1 k hk
      rw [g78, g79]
      by_cases ek : (k : Int) = r
      · have eg : 3 + 2 * k = g := by omega
        rw [eg, gg1, gg2, ek, up1_self, up1_self]
        refine ⟨⟨rfl, rfl⟩, by omega, by omega, fun u u0 u1 => ?_⟩
        rw [gg3 u u0 u1, h1 u u0 u1]
        exact ⟨rfl, by omega, by omega⟩
      · rw [f (3 + 2 * k) (by omega), f (3 + 2 * k + 1) (by omega), up1_ne ek, up1_ne ek]
        refine ⟨hk1.1, hk1.2.1, hk1.2.2.1, fun u u0 u1 => ?_⟩
        rw [g80 _ (by omega)]
        exact hk1.2.2.2 u u0 u1
    · exact ⟨by rw [s1, s7], by rw [s7]; exact ⟨by omega, by omega⟩⟩
    · exact I_tp_fr i3 (by rw [f 19 (by omega)]) (f7 8 (by omega)) (f 20 (by omega)) (f 83 (by omega))
    · unfold I_ft at *; rw [f1 9 (by omega), f7 9 (by omega)]; exact i4
    · exact I_tw_fr ⟨N, T, IT0⟩ (f 81 (by omega)) (f7 4 (by omega)) (fun c a b => f c (by omega))
    · exact I_ac_fr i6 (f 81 (by omega)) (f7 17 (by omega)) (f 85 (by omega)) (fun c a b => f c (by omega))
    · exact I_im_fr i7 (f 88 (by omega)) (f 89 (by omega)) (f7 4 (by omega)) (fun c a b => f c (by omega))
    · exact I_tr_fr i8 (f 55 (by omega)) (f7 23 (by omega)) (f 56 (by omega)) (f 90 (by omega))
    · exact TB_fr i9 (fun c hc => f c (by omega))
    · rw [f 84 (by omega)]; exact i10
    · rw [f 104 (by omega)]; exact i11
theorem p_copy (ha : kx_in a) (hi : kx_in i) (hb : kx_in b) (hj : kx_in j) (hn : kx_in n) : PA L sc 71 124 [kI a, kI i, kI b, kI j, kI n] := by
  intro μ I
  have I0 := I
  obtain ⟨i1, i2, i3, i4, ⟨N, T, IT0⟩, i6, i7, i8, i9, i10, i11⟩ := I
  obtain ⟨n1, n2, n3⟩ := TN_in N
  have rx := I_rw_X i1
  have up : ∀ v : Int, (∀ k, 0 ≤ k → k < 8 → -1 ≤ kx_up μ 1 10 v 79 k ∧ kx_up μ 1 10 v 79 k ≤ 40) ∧ (∀ k, 0 ≤ k → k < 8 → 0 ≤ kx_up μ 1 10 v 78 k ∧ kx_up μ 1 10 v 78 k ≤ 2) := fun v => by
    rw [kx_up_row (by omega), kx_up_row (by omega)]; exact ⟨I_rw_79 i1, I_rw_78 i1⟩
  have h79 : ∀ v : Int, kx_up μ 1 10 v 79 = μ 79 := fun v => kx_up_row (by omega)
  have h78 : ∀ v : Int, kx_up μ 1 10 v 78 = μ 78 := fun v => kx_up_row (by omega)
  refine r_Xcopy ha hi hb hj hn rx.1 rx.2.1 (fun a1 => ⟨rfl, i11, ?_⟩) (fun a1 a2 a3 => ⟨rfl, by rw [kx_up_row (by omega)]; exact i11, ?_⟩) (fun a1 a2 a3 a4 a5 => ⟨rfl, by rw [kx_up_row (by omega)]; exact i11, ?_⟩) (fun a1 a2 a3 a4 a5 a6 => ⟨rfl, by rw [kx_up_row (by omega)]; exact i11, ?_⟩) (fun a1 a2 a3 a4 a5 a6 a7 a8 => ⟨rfl, by rw [kx_up_row (by omega), kx_cpy_ne (by omega)]; exact i11, ?_⟩)
  · exact r_Mcopy ha hi hb hj hn (I_rw_79 i1) (I_rw_78 i1) (fun _ => ⟨_, kx_c1, rfl, rfl, rfl, I0⟩) (fun q1 q2 q3 => False.elim (by omega)) (fun q1 q2 q3 q4 q5 => False.elim (by omega)) (fun q1 q2 q3 q4 q5 q6 => False.elim (by omega)) (fun q1 q2 q3 q4 q5 q6 q7 q8 μ2 z1 z2 z3 => False.elim (by omega))
  · have ea := (I_rw_at i1 a1.1 a1.2).1
    have eb := (I_rw_at i1 a2.1 a2.2).1
    exact r_Mcopy ha hi hb hj hn (up 1).1 (up 1).2 (fun q1 => False.elim (by omega)) (fun q1 q2 q3 => ⟨_, kx_c11, rfl, rfl, rfl, Inv_st I0 ⟨by omega, by omega⟩⟩) (fun q1 q2 q3 q4 q5 => by rw [h79] at q3 q4; omega) (fun q1 q2 q3 q4 q5 q6 => by rw [h79] at q3 q4; omega) (fun q1 q2 q3 q4 q5 q6 q7 q8 μ2 z1 z2 z3 => by rw [h79] at q6 q8; omega)
  · have ea := (I_rw_at i1 a1.1 a1.2).1
    have eb := (I_rw_at i1 a2.1 a2.2).1
    exact r_Mcopy ha hi hb hj hn (up 5).1 (up 5).2 (fun q1 => False.elim (by omega)) (fun q1 q2 q3 => by rw [h79] at q3; omega) (fun q1 q2 q3 q4 q5 => ⟨_, kx_c15, rfl, rfl, rfl, Inv_st I0 ⟨by omega, by omega⟩⟩) (fun q1 q2 q3 q4 q5 q6 => by rw [h78] at q5; omega) (fun q1 q2 q3 q4 q5 q6 q7 q8 μ2 z1 z2 z3 => by rw [h78] at q3; omega)
  · have ea := (I_rw_at i1 a1.1 a1.2).1
    have eb := (I_rw_at i1 a2.1 a2.2).1
    exact r_Mcopy ha hi hb hj hn (up 2).1 (up 2).2 (fun q1 => False.elim (by omega)) (fun q1 q2 q3 => by rw [h79] at q3; omega) (fun q1 q2 q3 q4 q5 => by rw [h78] at q5; omega) (fun q1 q2 q3 q4 q5 q6 => ⟨_, kx_c12, rfl, rfl, rfl, Inv_st I0 ⟨by omega, by omega⟩⟩) (fun q1 q2 q3 q4 q5 q6 q7 q8 μ2 z1 z2 z3 => by rw [h79] at q6 q8; omega)
  · have hha := I_rw_at i1 a1.1 a1.2
    have hhb := I_rw_at i1 a2.1 a2.2
    have ea := hha.1
    have eb := hhb.1
    have m79 : kx_up (kx_cpy μ (3 + 2 * a.toNat + 1) i (3 + 2 * b.toNat + 1) j n) 1 10 0 79 = μ 79 := by rw [kx_up_row (by omega), kx_cpy_ne (by omega)]
    have m78 : kx_up (kx_cpy μ (3 + 2 * a.toNat + 1) i (3 + 2 * b.toNat + 1) j n) 1 10 0 78 = μ 78 := by rw [kx_up_row (by omega), kx_cpy_ne (by omega)]
    have m80 : kx_up (kx_cpy μ (3 + 2 * a.toNat + 1) i (3 + 2 * b.toNat + 1) j n) 1 10 0 80 = μ 80 := by rw [kx_up_row (by omega), kx_cpy_ne (by omega)]
    refine r_Mcopy ha hi hb hj hn (by rw [m79]; exact I_rw_79 i1) (by rw [m78]; exact I_rw_78 i1) (fun q1 => False.elim (by omega)) (fun q1 q2 q3 => by rw [m79] at q3; omega) (fun q1 q2 q3 q4 q5 => by rw [m78] at q5; omega) (fun q1 q2 q3 q4 q5 q6 => by rw [m79] at q6; omega) (fun q1 q2 q3 q4 q5 q6 q7 q8 μ2 z1 z2 z3 => ⟨n, hn, rfl, rfl, rfl, ?_⟩)
    rw [m80] at z1 z2
    rw [ea.2] at a6
    rw [eb.2] at a8
    clear q6 q8 m79 m78 m80 q3
    generalize hu9 : 3 + 2 * a.toNat = ga at *
    generalize hw9 : 3 + 2 * b.toNat = g at *
    have f : ∀ c, c ≠ 1 ∧ c ≠ 77 ∧ c ≠ 80 ∧ c ≠ 82 ∧ c ≠ g + 1 → kx_up μ2 77 3 0 c = μ c := fun c hc => by rw [kx_up_row (by omega), z3 c (by omega) (by omega), kx_up_row (by omega), kx_cpy_ne (by omega)]
    have f1 : ∀ j, j ≠ 10 → kx_up μ2 77 3 0 1 j = μ 1 j := fun j hj => by rw [kx_up_row (by omega), z3 1 (by omega) (by omega), kx_up_oth hj, kx_cpy_ne (by omega)]
    have f7 : ∀ j, j ≠ 3 → kx_up μ2 77 3 0 77 j = μ 77 j := fun j hj => by rw [kx_up_oth hj, z3 77 (by omega) (by omega), kx_up_row (by omega), kx_cpy_ne (by omega)]
    have s1 : kx_up μ2 77 3 0 1 10 = 0 := by rw [kx_up_row (by omega), z3 1 (by omega) (by omega), kx_up_self]
    have s7 : kx_up μ2 77 3 0 77 3 = 0 := kx_up_self _ _ _ _
    have g80 : kx_up μ2 77 3 0 80 = μ2 80 := kx_up_row (by omega)
    have gg : ∀ u, kx_up μ2 77 3 0 (g + 1) u = if j ≤ u ∧ u < j + n then μ (ga + 1) (i + (u - j)) else μ (g + 1) u := fun u => by
      rw [kx_up_row (by omega), z3 (g + 1) (by omega) (by omega), kx_up_row (by omega)]
      unfold kx_cpy
      by_cases hc : j ≤ u ∧ u < j + n
      · rw [if_pos ⟨rfl, hc⟩, if_pos hc]
      · rw [if_neg (fun q => hc q.2), if_neg hc]
    generalize kx_up μ2 77 3 0 = μ3 at *
    refine ⟨?_, ?_, ?_, ?_, ?_, ?_, ?_, ?_, ?_, ?_, ?_⟩
    · intro k hk
      have hk1 := i1 k hk
      rw [f 78 (by omega), f 79 (by omega), f (3 + 2 * k) (by omega), g80]
      refine ⟨hk1.1, hk1.2.1, hk1.2.2.1, fun u u0 u1 => ?_⟩
      have hk2 := hk1.2.2.2 u u0 u1
      by_cases ek : (k : Int) = b
      · have eg : 3 + 2 * k = g := by omega
        rw [eg, gg]
        rw [eg] at hk2
        by_cases eu : j ≤ u ∧ u < j + n
        · have := z1 (u - j) (by omega) (by omega)
          have hv := hha.2.2.2 (i + (u - j)) (by omega) (by omega)
          rw [if_pos eu, ek, show 40 * b + u = 40 * b + j + (u - j) by omega, this, hv.1, show 40 * a + i + (u - j) = 40 * a + (i + (u - j)) by omega]
          exact ⟨rfl, hv.2⟩
        · rw [if_neg eu, z2 _ (by omega)]
          exact hk2
      · rw [f (3 + 2 * k + 1) (by omega), z2 _ (by omega)]
        exact hk2
    · exact ⟨by rw [s1, s7], by rw [s7]; exact ⟨by omega, by omega⟩⟩
    · exact I_tp_fr i3 (by rw [f 19 (by omega)]) (f7 8 (by omega)) (f 20 (by omega)) (f 83 (by omega))
    · unfold I_ft at *; rw [f1 9 (by omega), f7 9 (by omega)]; exact i4
    · exact I_tw_fr ⟨N, T, IT0⟩ (f 81 (by omega)) (f7 4 (by omega)) (fun c a b => f c (by omega))
    · exact I_ac_fr i6 (f 81 (by omega)) (f7 17 (by omega)) (f 85 (by omega)) (fun c a b => f c (by omega))
    · exact I_im_fr i7 (f 88 (by omega)) (f 89 (by omega)) (f7 4 (by omega)) (fun c a b => f c (by omega))
    · exact I_tr_fr i8 (f 55 (by omega)) (f7 23 (by omega)) (f 56 (by omega)) (f 90 (by omega))
    · exact TB_fr i9 (fun c hc => f c (by omega))
    · rw [f 84 (by omega)]; exact i10
    · rw [f 104 (by omega)]; exact i11
theorem p_feed (hv : kx_in v) : PA L sc 73 126 [kI v] := by
  intro μ I
  have I0 := I
  obtain ⟨i1, i2, i3, i4, ⟨N, T, IT0⟩, i6, i7, i8, i9, i10, i11⟩ := I
  obtain ⟨n1, n2, n3⟩ := TN_in N
  obtain ⟨j1, j2, j3, j4⟩ := i3
  refine r_Xfeed hv j1 j2.1 j2.2 (fun a1 => ⟨rfl, i11, ?_⟩) (fun a1 a2 a3 => ⟨rfl, i11, ?_⟩) (fun a1 a2 a3 => ⟨rfl, by rw [kx_up_row (by omega), kx_up_row (by omega)]; exact i11, ?_⟩)
  · exact r_Mfeed hv rfl j2.1 j2.2 (fun _ => ⟨_, kx_c1, rfl, rfl, rfl, I0⟩) (fun q1 q2 q3 => False.elim (by omega)) (fun q1 q2 q3 => False.elim (by omega))
  · exact r_Mfeed hv rfl j2.1 j2.2 (fun q1 => False.elim (by omega)) (fun q1 q2 q3 => ⟨_, kx_c3, rfl, rfl, rfl, I0⟩) (fun q1 q2 q3 => False.elim (by omega))
  · have e8 : kx_up (kx_up μ 20 (μ 77 8) v) 19 1 (μ 77 8 + 1) 77 8 = μ 77 8 := by rw [kx_up_row (by omega), kx_up_row (by omega)]
    refine r_Mfeed hv e8 j2.1 j2.2 (fun q1 => False.elim (by omega)) (fun q1 q2 q3 => False.elim (by omega)) (fun q1 q2 q3 => ⟨_, ⟨by omega, by omega⟩, rfl, rfl, rfl, ?_⟩)
    have f : ∀ c, c ≠ 19 ∧ c ≠ 20 ∧ c ≠ 77 ∧ c ≠ 83 → kx_up (kx_up (kx_up (kx_up μ 20 (μ 77 8) v) 19 1 (μ 77 8 + 1)) 83 (μ 77 8) v) 77 8 (μ 77 8 + 1) c = μ c := fun c hc => by rw [kx_up_row (by omega), kx_up_row (by omega), kx_up_row (by omega), kx_up_row (by omega)]
    have f7 : ∀ j, j ≠ 8 → kx_up (kx_up (kx_up (kx_up μ 20 (μ 77 8) v) 19 1 (μ 77 8 + 1)) 83 (μ 77 8) v) 77 8 (μ 77 8 + 1) 77 j = μ 77 j := fun j hj => by rw [kx_up_oth hj, kx_up_row (by omega), kx_up_row (by omega), kx_up_row (by omega)]
    have g19 : kx_up (kx_up (kx_up (kx_up μ 20 (μ 77 8) v) 19 1 (μ 77 8 + 1)) 83 (μ 77 8) v) 77 8 (μ 77 8 + 1) 19 1 = μ 77 8 + 1 := by rw [kx_up_row (by omega), kx_up_row (by omega), kx_up_self]
    have g8 : kx_up (kx_up (kx_up (kx_up μ 20 (μ 77 8) v) 19 1 (μ 77 8 + 1)) 83 (μ 77 8) v) 77 8 (μ 77 8 + 1) 77 8 = μ 77 8 + 1 := kx_up_self _ _ _ _
    have g20 : kx_up (kx_up (kx_up (kx_up μ 20 (μ 77 8) v) 19 1 (μ 77 8 + 1)) 83 (μ 77 8) v) 77 8 (μ 77 8 + 1) 20 = up1 (μ 20) (μ 77 8) v := by rw [kx_up_row (by omega), kx_up_row (by omega), kx_up_row (by omega), kx_up_up1, kx_row_self]
    have g83 : kx_up (kx_up (kx_up (kx_up μ 20 (μ 77 8) v) 19 1 (μ 77 8 + 1)) 83 (μ 77 8) v) 77 8 (μ 77 8 + 1) 83 = up1 (μ 83) (μ 77 8) v := by rw [kx_up_row (by omega), kx_up_up1, kx_row_self, kx_up_row (by omega), kx_up_row (by omega)]
    generalize kx_up (kx_up (kx_up (kx_up μ 20 (μ 77 8) v) 19 1 (μ 77 8 + 1)) 83 (μ 77 8) v) 77 8 (μ 77 8 + 1) = μ2 at *
    refine ⟨?_, ?_, ?_, ?_, ?_, ?_, ?_, ?_, ?_, ?_, ?_⟩
    · exact I_rw_fr i1 (fun c hc => f c (by omega))
    · unfold I_st at *; rw [f 1 (by omega), f7 3 (by omega)]; exact i2
    · refine ⟨by rw [g19, g8], by rw [g8]; omega, by rw [g20, g83, j3], fun u => ?_⟩
      rw [g83, up1_at]
      split
      · omega
      · exact j4 u
    · unfold I_ft at *; rw [f 1 (by omega), f7 9 (by omega)]; exact i4
    · exact I_tw_fr ⟨N, T, IT0⟩ (f 81 (by omega)) (f7 4 (by omega)) (fun c a b => f c (by omega))
    · exact I_ac_fr i6 (f 81 (by omega)) (f7 17 (by omega)) (f 85 (by omega)) (fun c a b => f c (by omega))
    · exact I_im_fr i7 (f 88 (by omega)) (f 89 (by omega)) (f7 4 (by omega)) (fun c a b => f c (by omega))
    · exact I_tr_fr i8 (f 55 (by omega)) (f7 23 (by omega)) (f 56 (by omega)) (f 90 (by omega))
    · exact TB_fr i9 (fun c hc => f c (by omega))
    · rw [f 84 (by omega)]; exact i10
    · rw [f 104 (by omega)]; exact i11
theorem r_Mseen2 {μ : kx_M} {Q : Option kx_V → kx_G → kx_M → Prop} {d : Nat} {s z8 z9 : Int → Int} (h9 : μ 79 = z9) (h8 : μ 80 = z8) (hl : kx_in l) (hii : kx_in i) (hn : kx_in n) (hw : kx_in w) (hs : μ 81 = s) (N : TN s) (I : IT μ s) (hb : ∀ i, 0 ≤ i → i < 8 → -1 ≤ z9 i ∧ z9 i ≤ 40) (hi : ∀ k, 0 ≤ k → k < 320 → kx_in (z8 k)) (t0 : s 1 = 0 → Q (some (kI (-1000002))) (kg L) μ) (t1 : 1 ≤ s 1 → ¬ ((0 ≤ l ∧ l ≤ 7) ∧ (1 ≤ n ∧ n ≤ 16) ∧ (0 ≤ w ∧ w ≤ 1)) → Q (some (kI (-1000001))) (kg L) μ) (t3 : 1 ≤ s 1 → (0 ≤ l ∧ l ≤ 7) → (1 ≤ n ∧ n ≤ 16) → (0 ≤ w ∧ w ≤ 1) → z9 l = -1 → Q (some (kI (-1000011))) (kg L) (kx_up μ 77 3 1)) (t4 : 1 ≤ s 1 → (0 ≤ l ∧ l ≤ 7) → (1 ≤ n ∧ n ≤ 16) → (0 ≤ w ∧ w ≤ 1) → 0 ≤ z9 l → ¬ (0 ≤ i ∧ i + n ≤ z9 l) → Q (some (kI (-1000012))) (kg L) (kx_up μ 77 3 2)) (t2 : 1 ≤ s 1 → (0 ≤ l ∧ l ≤ 7) → (1 ≤ n ∧ n ≤ 16) → (0 ≤ w ∧ w ≤ 1) → 0 ≤ i → i + n ≤ z9 l → ∀ μ', FrQ μ μ' → Q (some (kI (if w = 0 then (q_se s (fun k => z8 (40 * l + i + k)) n.toNat (s 1).toNat 0 (-1000000)).1 else (q_se s (fun k => z8 (40 * l + i + k)) n.toNat (s 1).toNat 0 (-1000000)).2))) (kg L) (kx_up μ' 77 3 0)) : kx_cx (ke (d + 5)) 172 [kR 77, kI l, kI i, kI n, kI w] (kg L) μ Q := by
  subst h9 h8
  exact r_Mseen hl hii hn hw hs N I hb hi t0 t1 t3 t4 t2
theorem r_Mkeeps2 {μ : kx_M} {Q : Option kx_V → kx_G → kx_M → Prop} {d : Nat} {s z8 z9 : Int → Int} (h9 : μ 79 = z9) (h8 : μ 80 = z8) (hh : kx_in a) (hl : kx_in l) (hii : kx_in i) (hn : kx_in n) (hs : μ 81 = s) (N : TN s) (hb : ∀ i, 0 ≤ i → i < 8 → -1 ≤ z9 i ∧ z9 i ≤ 40) (hi : ∀ k, 0 ≤ k → k < 320 → kx_in (z8 k)) (t1 : ¬ ((0 ≤ a ∧ a < s 1) ∧ (0 ≤ l ∧ l ≤ 7) ∧ (1 ≤ n ∧ n ≤ 16)) → Q (some (kI (-1000001))) (kg L) μ) (t3 : (0 ≤ a ∧ a < s 1) → (0 ≤ l ∧ l ≤ 7) → (1 ≤ n ∧ n ≤ 16) → z9 l = -1 → Q (some (kI (-1000011))) (kg L) (kx_up μ 77 3 1)) (t4 : (0 ≤ a ∧ a < s 1) → (0 ≤ l ∧ l ≤ 7) → (1 ≤ n ∧ n ≤ 16) → 0 ≤ z9 l → ¬ (0 ≤ i ∧ i + n ≤ z9 l) → Q (some (kI (-1000012))) (kg L) (kx_up μ 77 3 2)) (t2 : (0 ≤ a ∧ a < s 1) → (0 ≤ l ∧ l ≤ 7) → (1 ≤ n ∧ n ≤ 16) → 0 ≤ i → i + n ≤ z9 l → ∀ μ', FrQ μ μ' → Q (some (kI (q_ke s (fun k => z8 (40 * l + i + k)) a n.toNat 9 1 0))) (kg L) (kx_up μ' 77 3 0)) : kx_cx (ke (d + 5)) 173 [kR 77, kI a, kI l, kI i, kI n] (kg L) μ Q := by
  subst h9 h8
  exact r_Mkeeps hh hl hii hn hs N hb hi t1 t3 t4 t2
/-- the status written on both sides, scratch beside -/
theorem Inv_q0 {sc : Int → Int} {μ μ1 μ2 : kx_M} (I : Inv sc μ) (F : F54 μ μ1) (K : FrQ (kx_up μ1 1 10 0) μ2) : Inv sc (kx_up μ2 77 3 0) := by
  refine Inv_gen I (fun c c1 c7 a b d => ?_) (fun j hj => ?_) (fun j hj => ?_) ?_ ?_
  · rw [kx_up_row c7, K c b d, kx_up_row c1, F c a]
  · rw [kx_up_row (by omega), K 1 (by omega) (by omega), kx_up_oth hj, F 1 (by omega)]
  · rw [kx_up_oth hj, K 77 (by omega) (by omega), kx_up_row (by omega), F 77 (by omega)]
  · rw [kx_up_self, kx_up_row (by omega), K 1 (by omega) (by omega), kx_up_self]
  · rw [kx_up_self]; exact ⟨by omega, by omega⟩
theorem p_seen (hl : kx_in l) (hi : kx_in i) (hn : kx_in n) (hw : kx_in w) : PA L sc 95 172 [kI l, kI i, kI n, kI w] := by
  intro μ I
  have I0 := I
  obtain ⟨i1, i2, i3, i4, ⟨N, T, IT0⟩, i6, i7, i8, i9, i10, i11⟩ := I
  obtain ⟨n1, n2, n3⟩ := TN_in N
  have rx := I_rw_X i1
  refine r_Xseen hl hi hn hw T N rx.1 rx.2.2 (fun a1 => ⟨rfl, i11, ?_⟩) (fun a1 a2 => ⟨rfl, i11, ?_⟩) (fun a1 a2 a3 a4 a5 => ⟨rfl, by rw [kx_up_row (by omega)]; exact i11, ?_⟩) (fun a1 a2 a3 a4 a5 a6 => ⟨rfl, by rw [kx_up_row (by omega)]; exact i11, ?_⟩) (fun a1 a2 a3 a4 a5 a6 μ1 F1 => ⟨rfl, by rw [kx_up_row (by omega), F1 104 (by omega)]; exact i11, ?_⟩)
  · exact r_Mseen2 rfl rfl hl hi hn hw rfl N IT0 (I_rw_79 i1) (I_rw_80 i1) (fun _ => ⟨_, kx_c2, rfl, rfl, rfl, I0⟩) (fun q1 q2 => False.elim (by omega)) (fun q1 q2 q3 q4 q5 => False.elim (by omega)) (fun q1 q2 q3 q4 q5 q6 => False.elim (by omega)) (fun q1 q2 q3 q4 q5 q6 μ2 K => False.elim (by omega))
  · exact r_Mseen2 rfl rfl hl hi hn hw rfl N IT0 (I_rw_79 i1) (I_rw_80 i1) (fun q1 => False.elim (by omega)) (fun q1 q2 => ⟨_, kx_c1, rfl, rfl, rfl, I0⟩) (fun q1 q2 q3 q4 q5 => False.elim (by omega)) (fun q1 q2 q3 q4 q5 q6 => False.elim (by omega)) (fun q1 q2 q3 q4 q5 q6 μ2 K => False.elim (by omega))
  · have e := (I_rw_at i1 a2.1 a2.2).1.2
    exact r_Mseen2 (s := μ 81) (kx_up_row (by omega)) (kx_up_row (by omega)) hl hi hn hw (kx_up_row (by omega)) N (IT_1 IT0) (I_rw_79 i1) (I_rw_80 i1) (fun q1 => False.elim (by omega)) (fun q1 q2 => False.elim (by omega)) (fun q1 q2 q3 q4 q5 => ⟨_, kx_c11, rfl, rfl, rfl, Inv_st I0 ⟨by omega, by omega⟩⟩) (fun q1 q2 q3 q4 q5 q6 => False.elim (by omega)) (fun q1 q2 q3 q4 q5 q6 μ2 K => False.elim (by omega))
  · have e := (I_rw_at i1 a2.1 a2.2).1.2
    exact r_Mseen2 (s := μ 81) (kx_up_row (by omega)) (kx_up_row (by omega)) hl hi hn hw (kx_up_row (by omega)) N (IT_1 IT0) (I_rw_79 i1) (I_rw_80 i1) (fun q1 => False.elim (by omega)) (fun q1 q2 => False.elim (by omega)) (fun q1 q2 q3 q4 q5 => False.elim (by omega)) (fun q1 q2 q3 q4 q5 q6 => ⟨_, kx_c12, rfl, rfl, rfl, Inv_st I0 ⟨by omega, by omega⟩⟩) (fun q1 q2 q3 q4 q5 q6 μ2 K => False.elim (by omega))
  · have hh := I_rw_at i1 a2.1 a2.2
    have e := hh.1.2
    have hc : ∀ k : Nat, k < n.toNat → (fun k : Int => μ (3 + 2 * l.toNat + 1) (i + k)) k = (fun k : Int => μ 80 (40 * l + i + k)) k := fun k hk => by
      show μ (3 + 2 * l.toNat + 1) (i + k) = μ 80 (40 * l + i + k)
      rw [(hh.2.2.2 (i + k) (by omega) (by omega)).1, show 40 * l + (i + (k : Int)) = 40 * l + i + k by omega]
    rw [q_se_c (f := fun k => μ (3 + 2 * l.toNat + 1) (i + k)) (g := fun k => μ 80 (40 * l + i + k)) hc]
    have hin := q_se_in (s := μ 81) (f := fun k => μ 80 (40 * l + i + k)) (n := n.toNat) (μ 81 1).toNat 0 (-1000000) (by omega) (by omega) (by omega)
    exact r_Mseen2 (s := μ 81) (z9 := μ 79) (z8 := μ 80) (by rw [kx_up_row (by omega), F1 79 (by omega)]) (by rw [kx_up_row (by omega), F1 80 (by omega)]) hl hi hn hw (by rw [kx_up_row (by omega), F1 81 (by omega)]) N (IT_1 (IT_54 IT0 F1)) (I_rw_79 i1) (I_rw_80 i1) (fun q1 => False.elim (by omega)) (fun q1 q2 => False.elim (by omega)) (fun q1 q2 q3 q4 q5 => False.elim (by omega)) (fun q1 q2 q3 q4 q5 q6 => False.elim (by omega)) (fun q1 q2 q3 q4 q5 q6 μ2 K => ⟨_, by split; exact hin.1; exact hin.2, rfl, rfl, rfl, Inv_q0 I0 F1 K⟩)
theorem p_keeps (ha : kx_in a) (hl : kx_in l) (hi : kx_in i) (hn : kx_in n) : PA L sc 96 173 [kI a, kI l, kI i, kI n] := by
  intro μ I
  have I0 := I
  obtain ⟨i1, i2, i3, i4, ⟨N, T, IT0⟩, i6, i7, i8, i9, i10, i11⟩ := I
  obtain ⟨n1, n2, n3⟩ := TN_in N
  have rx := I_rw_X i1
  refine r_Xkeeps ha hl hi hn T N rx.1 rx.2.2 (fun a1 => ⟨rfl, i11, ?_⟩) (fun a1 a2 a3 a4 => ⟨rfl, by rw [kx_up_row (by omega)]; exact i11, ?_⟩) (fun a1 a2 a3 a4 a5 => ⟨rfl, by rw [kx_up_row (by omega)]; exact i11, ?_⟩) (fun a1 a2 a3 a4 a5 μ1 F1 => ⟨rfl, by rw [kx_up_row (by omega), F1 104 (by omega)]; exact i11, ?_⟩)
  · exact r_Mkeeps2 rfl rfl ha hl hi hn rfl N (I_rw_79 i1) (I_rw_80 i1) (fun _ => ⟨_, kx_c1, rfl, rfl, rfl, I0⟩) (fun q1 q2 q3 q4 => False.elim (by omega)) (fun q1 q2 q3 q4 q5 => False.elim (by omega)) (fun q1 q2 q3 q4 q5 μ2 K => False.elim (by omega))
  · have e := (I_rw_at i1 a2.1 a2.2).1.2
    exact r_Mkeeps2 (s := μ 81) (kx_up_row (by omega)) (kx_up_row (by omega)) ha hl hi hn (kx_up_row (by omega)) N (I_rw_79 i1) (I_rw_80 i1) (fun q1 => False.elim (by omega)) (fun q1 q2 q3 q4 => ⟨_, kx_c11, rfl, rfl, rfl, Inv_st I0 ⟨by omega, by omega⟩⟩) (fun q1 q2 q3 q4 q5 => False.elim (by omega)) (fun q1 q2 q3 q4 q5 μ2 K => False.elim (by omega))
  · have e := (I_rw_at i1 a2.1 a2.2).1.2
    exact r_Mkeeps2 (s := μ 81) (kx_up_row (by omega)) (kx_up_row (by omega)) ha hl hi hn (kx_up_row (by omega)) N (I_rw_79 i1) (I_rw_80 i1) (fun q1 => False.elim (by omega)) (fun q1 q2 q3 q4 => False.elim (by omega)) (fun q1 q2 q3 q4 q5 => ⟨_, kx_c12, rfl, rfl, rfl, Inv_st I0 ⟨by omega, by omega⟩⟩) (fun q1 q2 q3 q4 q5 μ2 K => False.elim (by omega))
  · have hh := I_rw_at i1 a2.1 a2.2
    have e := hh.1.2
    have hc : ∀ k : Nat, k < n.toNat → (fun k : Int => μ (3 + 2 * l.toNat + 1) (i + k)) k = (fun k : Int => μ 80 (40 * l + i + k)) k := fun k hk => by
      show μ (3 + 2 * l.toNat + 1) (i + k) = μ 80 (40 * l + i + k)
      rw [(hh.2.2.2 (i + k) (by omega) (by omega)).1, show 40 * l + (i + (k : Int)) = 40 * l + i + k by omega]
    rw [q_ke_c (f := fun k => μ (3 + 2 * l.toNat + 1) (i + k)) (g := fun k => μ 80 (40 * l + i + k)) hc]
    exact r_Mkeeps2 (s := μ 81) (z9 := μ 79) (z8 := μ 80) (by rw [kx_up_row (by omega), F1 79 (by omega)]) (by rw [kx_up_row (by omega), F1 80 (by omega)]) ha hl hi hn (by rw [kx_up_row (by omega), F1 81 (by omega)]) N (I_rw_79 i1) (I_rw_80 i1) (fun q1 => False.elim (by omega)) (fun q1 q2 q3 q4 => False.elim (by omega)) (fun q1 q2 q3 q4 q5 => False.elim (by omega)) (fun q1 q2 q3 q4 q5 μ2 K => ⟨_, q_ke_in 9 1 0 ⟨by omega, by omega⟩, rfl, rfl, rfl, Inv_q0 I0 F1 K⟩)
end PR
