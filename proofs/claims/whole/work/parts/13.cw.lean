/-! more of the class's town -/
theorem tw_W_step {B : Int} {s : Int → Int} (h : tw_W B s) : tw_W (B + 1) (tw_step s) := by
  have hw0 := h
  obtain ⟨w1, w2, w3, w4, w5, w6, w7, w8⟩ := h
  have hfi := tw_found_in s (s 4)
  have q7 := w7 (s 4) w3.1 w3.2
  unfold tw_step
  have hlo : ∀ j : Int, j < 24 ∨ 30 ≤ j ∧ j < 34 → tw_work s (s 4) (tw_found s (s 4)) j = s j := fun j hj => tw_work_lo (by omega) (by omega) hj
  have hwk : ∀ i : Int, 0 ≤ i → i < s 1 → 0 ≤ tw_work s (s 4) (tw_found s (s 4)) (24 + i) ∧ tw_work s (s 4) (tw_found s (s 4)) (24 + i) ≤ s 3 + 1 := by
    intro i i0 i1
    have q := w7 i i0 i1
    unfold tw_work
    split
    · omega
    · split
      · rw [up1_ne (by omega), up1_ne (by omega), up1_at]
        split
        · omega
        · rw [up1_ne (by omega)]; omega
      · rw [up1_at]
        split
        · omega
        · rw [up1_ne (by omega)]; omega
  have hod : ∀ k : Int, 0 ≤ k → k < s 2 → (0 ≤ tw_work s (s 4) (tw_found s (s 4)) (34 + k) ∧ tw_work s (s 4) (tw_found s (s 4)) (34 + k) ≤ 40) ∧ (0 ≤ tw_work s (s 4) (tw_found s (s 4)) (38 + k) ∧ tw_work s (s 4) (tw_found s (s 4)) (38 + k) ≤ 2) ∧ (tw_work s (s 4) (tw_found s (s 4)) (38 + k) = 0 → 1 ≤ tw_work s (s 4) (tw_found s (s 4)) (34 + k)) ∧ (tw_work s (s 4) (tw_found s (s 4)) (38 + k) = 1 → 1 ≤ tw_work s (s 4) (tw_found s (s 4)) (42 + k) ∧ tw_work s (s 4) (tw_found s (s 4)) (42 + k) ≤ s 3 + 1) := by
    intro k k0 k1
    have q := w8 k k0 k1
    generalize tw_found s (s 4) = f at *
    by_cases f0 : f < 0
    · unfold tw_work
      rw [if_pos f0]; omega
    · obtain ⟨f1, f2, f3⟩ := hfi.resolve_left (by omega)
      have f4 := f3.1
      have f5 := (w8 f f1 f2)
      by_cases e : k = f
      · subst e
        unfold tw_work
        rw [if_neg f0]
        by_cases z : s (34 + k) - 1 = 0
        · rw [if_pos z]
          simp only [up1_at]
          have m1 : ¬ (34 + k = 42 + k) := by omega
          have m2 : ¬ (34 + k = 38 + k) := by omega
          have m3 : ¬ (34 + k = 24 + s 4) := by omega
          have m4 : ¬ (38 + k = 42 + k) := by omega
          simp only [m1, m2, m3, m4, if_false, if_true]
          omega
        · rw [if_neg z]
          simp only [up1_at]
          have m3 : ¬ (34 + k = 24 + s 4) := by omega
          have m4 : ¬ (38 + k = 24 + s 4) := by omega
          have m5 : ¬ (38 + k = 34 + k) := by omega
          have m6 : ¬ (42 + k = 24 + s 4) := by omega
          have m7 : ¬ (42 + k = 34 + k) := by omega
          simp only [m3, m4, m5, m6, m7, if_false, if_true]
          omega
      · have same : ∀ j : Int, (j = 34 + k ∨ j = 38 + k ∨ j = 42 + k) → tw_work s (s 4) f j = s j := by
          intro j hj
          unfold tw_work
          rw [if_neg f0]
          split
          · rw [up1_ne (by omega), up1_ne (by omega), up1_ne (by omega), up1_ne (by omega)]
          · rw [up1_ne (by omega), up1_ne (by omega)]
        rw [same (34 + k) (by omega), same (38 + k) (by omega), same (42 + k) (by omega)]
        omega
  generalize tw_work s (s 4) (tw_found s (s 4)) = s1 at *
  have a3 : tw_tick s1 3 = s 3 + 1 := by rw [← hlo 3 (by omega)]; rfl
  have a5 : tw_tick s1 5 = s 5 + 1 := by rw [← hlo 5 (by omega)]; rfl
  have ao : ∀ j : Int, j ≠ 5 ∧ j ≠ 3 → tw_tick s1 j = s1 j := fun j hj => tw_tick_at hj
  have a4 : tw_tick s1 4 = s 4 := by rw [ao 4 (by omega), hlo 4 (by omega)]
  have a1 : tw_tick s1 1 = s 1 := by rw [ao 1 (by omega), hlo 1 (by omega)]
  have a2 : tw_tick s1 2 = s 2 := by rw [ao 2 (by omega), hlo 2 (by omega)]
  have a0 : tw_tick s1 0 = s 0 := by rw [ao 0 (by omega), hlo 0 (by omega)]
  have b7 : ∀ i, 0 ≤ i → i < s 1 → (1 ≤ tw_tick s1 (6 + i) ∧ tw_tick s1 (6 + i) ≤ 5) ∧ (1 ≤ tw_tick s1 (12 + i) ∧ tw_tick s1 (12 + i) ≤ 9) ∧ (0 ≤ tw_tick s1 (18 + i) ∧ tw_tick s1 (18 + i) ≤ 15) ∧ (0 ≤ tw_tick s1 (24 + i) ∧ tw_tick s1 (24 + i) ≤ s 3 + 1) := by
    intro i i0 i1
    rw [ao (6 + i) (by omega), ao (12 + i) (by omega), ao (18 + i) (by omega), ao (24 + i) (by omega), hlo (6 + i) (by omega), hlo (12 + i) (by omega), hlo (18 + i) (by omega)]
    have := w7 i i0 i1
    exact ⟨this.1, this.2.1, this.2.2.1, hwk i i0 i1⟩
  have b8 : ∀ k, 0 ≤ k → k < s 2 → (1 ≤ tw_tick s1 (30 + k) ∧ tw_tick s1 (30 + k) ≤ 40) ∧ (0 ≤ tw_tick s1 (34 + k) ∧ tw_tick s1 (34 + k) ≤ 40) ∧ (0 ≤ tw_tick s1 (38 + k) ∧ tw_tick s1 (38 + k) ≤ 2) ∧ (tw_tick s1 (38 + k) = 0 → 1 ≤ tw_tick s1 (34 + k)) ∧ (tw_tick s1 (38 + k) = 1 → 1 ≤ tw_tick s1 (42 + k) ∧ tw_tick s1 (42 + k) ≤ s 3 + 1) := by
    intro k k0 k1
    rw [ao (30 + k) (by omega), ao (34 + k) (by omega), ao (38 + k) (by omega), ao (42 + k) (by omega), hlo (30 + k) (by omega)]
    exact ⟨(w8 k k0 k1).1, hod k k0 k1⟩
  clear hlo hwk hod
  generalize tw_tick s1 = s2 at *
  have ou := tw_oc_in s2 (s2 2).toNat
  have ou' : tw_oc s2 (s2 2).toNat = tw_out s2 := rfl
  have b74 := b7 (s 4) w3.1 w3.2
  unfold tw_goes
  have hx : (if s2 (6 + s 4) = 3 then tw_out s2 else 0) ≤ 4 := by split <;> omega
  by_cases hc : s2 5 < s2 (12 + s 4) + (if s2 (6 + s 4) = 3 then tw_out s2 else 0)
  · rw [if_pos hc]
    have hc2 : s2 5 < 13 := by omega
    refine ⟨by omega, by omega, by omega, by omega, by omega, by omega, ?_, ?_⟩
    · rw [a1, a3]; exact b7
    · rw [a2, a3]; exact b8
  · rw [if_neg hc]
    have on : 0 ≤ tw_on s2 (s 4) ∧ tw_on s2 (s 4) < s 1 := by
      unfold tw_on
      rw [a1]
      have p1 : ∀ x : Int, 0 ≤ x % s 1 ∧ x % s 1 < s 1 := fun x => ⟨Int.emod_nonneg _ (by omega), Int.emod_lt_of_pos _ (by omega)⟩
      split
      · exact p1 _
      · split
        · exact p1 _
        · split
          · exact p1 _
          · exact p1 _
    generalize tw_on s2 (s 4) = o at *
    have n : ∀ j : Int, j ≠ 5 ∧ j ≠ 4 → up1 (up1 s2 4 o) 5 0 j = s2 j := fun j hj => by rw [up1_ne hj.1, up1_ne hj.2]
    have n4 : up1 (up1 s2 4 o) 5 0 4 = o := rfl
    have n5 : up1 (up1 s2 4 o) 5 0 5 = 0 := rfl
    have n0 := n 0 (by omega)
    have n1 := n 1 (by omega)
    have n2 := n 2 (by omega)
    have n3 := n 3 (by omega)
    refine ⟨by omega, by omega, by omega, by omega, by omega, by omega, ?_, ?_⟩
    · rw [n1, n3, a1, a3]
      intro i i0 i1
      rw [n (6 + i) (by omega), n (12 + i) (by omega), n (18 + i) (by omega), n (24 + i) (by omega)]
      exact b7 i i0 i1
    · rw [n2, n3, a2, a3]
      intro k k0 k1
      rw [n (30 + k) (by omega), n (34 + k) (by omega), n (38 + k) (by omega), n (42 + k) (by omega)]
      exact b8 k k0 k1
theorem tw_W_mono {B C : Int} {s : Int → Int} (h : tw_W B s) (hc : B ≤ C) : tw_W C s := by
  obtain ⟨w1, w2, w3, w4, w5, w6, w7, w8⟩ := h
  exact ⟨w1, w2, w3, w4, ⟨w5.1, by omega⟩, w6, w7, w8⟩
theorem tw_W_go {B : Int} {s : Int → Int} (h : tw_W B s) : ∀ n : Nat, tw_W (B + n) (tw_go s n) := by
  intro n
  induction n with
  | zero => simpa [tw_go] using h
  | succ n ih =>
    have := tw_W_step ih
    exact tw_W_mono this (by omega)
theorem kx_up_self (μ : kx_M) (a : Nat) (i v : Int) : kx_up μ a i v a i = v := by rw [kx_up_at, if_pos ⟨rfl, rfl⟩]
theorem kx_up_oth {μ : kx_M} {a : Nat} {i v j : Int} (h : j ≠ i) : kx_up μ a i v a j = μ a j := by rw [kx_up_at, if_neg (fun q => h q.2)]
theorem kx_cpy_ne {μ : kx_M} {s d c : Nat} {sp dp n : Int} (h : c ≠ d) : kx_cpy μ s sp d dp n c = μ c := by
  funext j
  simp [kx_cpy, h]
theorem kx_cpy_in {μ : kx_M} {s d : Nat} {n j : Int} (h0 : 0 ≤ j) (h1 : j < n) : kx_cpy μ s 0 d 0 n d j = μ s j := by
  unfold kx_cpy
  rw [if_pos ⟨rfl, h0, by omega⟩, show (0 : Int) + (j - 0) = j by omega]
theorem up1_self (f : Int → Int) (i v : Int) : up1 f i v i = v := by rw [up1_at, if_pos rfl]
section CW
variable {d L : Nat} {G : kx_G} {μ : kx_M} {Q : Option kx_V → kx_G → kx_M → Prop} {a b : Nat} {s : Int → Int} {B z : Int}
theorem r_becomeLike (hA : kg_T L a) (hK : kg_T L b) (hd : a + 8 < b ∨ b + 8 < a) (hT : TRx μ b s z) (h1 : s 1 ≤ 6) (h2 : s 2 ≤ 4) (t : ∀ μ', TRx μ' a s z → Fr a μ μ' → Q none (kg L) μ') : kx_cx (ke (d + 1)) 54 [kR a, kR b] (kg L) μ Q := by
  refine ke_start (tb := kt_Town_becomeLike) (ls := [some (kR a), some (kR b)]) rfl rfl ?_
  obtain ⟨g0, g1, g2, g3, g4, g5, g6, g7, g8, g9, g10, g11, g12, g13, g14, g15, g16⟩ := hK
  obtain ⟨k0, k1, k2, k3, k4, k5, k6, k7, k8, k9, k10, k11, k12, k13, k14, k15, k16⟩ := hA
  obtain ⟨e8, e9, e10, e11, e12, e13, eh, eo⟩ := hT
  have hba : ¬ (b = a) := by omega
  have fin : ∀ M : kx_M, M b = μ b → (∀ i, 0 ≤ i → i < 6 → M (a + 1) i = μ (b + 1) i ∧ M (a + 2) i = μ (b + 2) i ∧ M (a + 3) i = μ (b + 3) i ∧ M (a + 4) i = μ (b + 4) i) → (∀ k, 0 ≤ k → k < 4 → M (a + 5) k = μ (b + 5) k ∧ M (a + 6) k = μ (b + 6) k ∧ M (a + 7) k = μ (b + 7) k ∧ M (a + 8) k = μ (b + 8) k) → Fr a μ M → kx_wx (ke d) kt_Town_becomeLike Q 116 [some (kR a), some (kR b)] [] (kg L) M := by
    intro M m0 m1 m2 m3
    have f8 : M b 8 = s 1 := by rw [m0]; exact e8
    have f9 : M b 9 = s 2 := by rw [m0]; exact e9
    have f10 : M b 10 = s 0 := by rw [m0]; exact e10
    have f11 : M b 11 = s 4 := by rw [m0]; exact e11
    have f12 : M b 12 = s 5 := by rw [m0]; exact e12
    have f13 : M b 13 = z := by rw [m0]; exact e13
    refine ks_aload_n rfl rfl ?_
    refine ks_aload_n rfl rfl ?_
    refine ks_geti rfl rfl (by assumption) rfl (by (try simp only [kx_up_at, kx_row_at, up1_at, Nat.reduceEqDiff, Int.reduceEq, Int.reduceNeg, and_true, true_and, and_false, false_and, and_self, reduceIte, Nat.add_left_cancel_iff, Nat.add_eq_left, Nat.left_eq_add, Nat.reduceAdd, Int.add_left_inj, Int.add_right_inj, hba, f8, f9, f10, f11, f12, f13]); rfl) ?_
    refine ks_puti rfl (by assumption) ?_
    refine ks_aload_n rfl rfl ?_
    refine ks_aload_n rfl rfl ?_
    refine ks_geti rfl rfl (by assumption) rfl (by (try simp only [kx_up_at, kx_row_at, up1_at, Nat.reduceEqDiff, Int.reduceEq, Int.reduceNeg, and_true, true_and, and_false, false_and, and_self, reduceIte, Nat.add_left_cancel_iff, Nat.add_eq_left, Nat.left_eq_add, Nat.reduceAdd, Int.add_left_inj, Int.add_right_inj, hba, f8, f9, f10, f11, f12, f13]); rfl) ?_
    refine ks_puti rfl (by assumption) ?_
    refine ks_aload_n rfl rfl ?_
    refine ks_aload_n rfl rfl ?_
    refine ks_geti rfl rfl (by assumption) rfl (by (try simp only [kx_up_at, kx_row_at, up1_at, Nat.reduceEqDiff, Int.reduceEq, Int.reduceNeg, and_true, true_and, and_false, false_and, and_self, reduceIte, Nat.add_left_cancel_iff, Nat.add_eq_left, Nat.left_eq_add, Nat.reduceAdd, Int.add_left_inj, Int.add_right_inj, hba, f8, f9, f10, f11, f12, f13]); rfl) ?_
    refine ks_puti rfl (by assumption) ?_
    refine ks_aload_n rfl rfl ?_
    refine ks_aload_n rfl rfl ?_
    refine ks_geti rfl rfl (by assumption) rfl (by (try simp only [kx_up_at, kx_row_at, up1_at, Nat.reduceEqDiff, Int.reduceEq, Int.reduceNeg, and_true, true_and, and_false, false_and, and_self, reduceIte, Nat.add_left_cancel_iff, Nat.add_eq_left, Nat.left_eq_add, Nat.reduceAdd, Int.add_left_inj, Int.add_right_inj, hba, f8, f9, f10, f11, f12, f13]); rfl) ?_
    refine ks_puti rfl (by assumption) ?_
    refine ks_aload_n rfl rfl ?_
    refine ks_aload_n rfl rfl ?_
    refine ks_geti rfl rfl (by assumption) rfl (by (try simp only [kx_up_at, kx_row_at, up1_at, Nat.reduceEqDiff, Int.reduceEq, Int.reduceNeg, and_true, true_and, and_false, false_and, and_self, reduceIte, Nat.add_left_cancel_iff, Nat.add_eq_left, Nat.left_eq_add, Nat.reduceAdd, Int.add_left_inj, Int.add_right_inj, hba, f8, f9, f10, f11, f12, f13]); rfl) ?_
    refine ks_puti rfl (by assumption) ?_
    refine ks_aload_n rfl rfl ?_
    refine ks_aload_n rfl rfl ?_
    refine ks_geti rfl rfl (by assumption) rfl (by (try simp only [kx_up_at, kx_row_at, up1_at, Nat.reduceEqDiff, Int.reduceEq, Int.reduceNeg, and_true, true_and, and_false, false_and, and_self, reduceIte, Nat.add_left_cancel_iff, Nat.add_eq_left, Nat.left_eq_add, Nat.reduceAdd, Int.add_left_inj, Int.add_right_inj, hba, f8, f9, f10, f11, f12, f13]); rfl) ?_
    refine ks_puti rfl (by assumption) ?_
    refine ks_return rfl ?_
    -- at 164: ret  st []
    clear f8 f9 f10 f11 f12 f13 g0 g1 g2 g3 g4 g5 g6 g7 g8 g9 g10 g11 g12 g13 g14 g15 g16 k0 k1 k2 k3 k4 k5 k6 k7 k8 k9 k10 k11 k12 k13 k14 k15 k16
    refine t _ ?_ ?_
    · refine ⟨?_, ?_, ?_, ?_, ?_, ?_, fun i i0 i1 => ?_, fun k k0 k1 => ?_⟩
      · simp (disch := omega) only [kx_up_self, kx_up_oth]
      · simp (disch := omega) only [kx_up_self, kx_up_oth]
      · simp (disch := omega) only [kx_up_self, kx_up_oth]
      · simp (disch := omega) only [kx_up_self, kx_up_oth]
      · simp (disch := omega) only [kx_up_self, kx_up_oth]
      · simp (disch := omega) only [kx_up_self, kx_up_oth]
      · obtain ⟨c1, c2, c3, c4⟩ := m1 i i0 (by omega)
        simp (disch := omega) only [kx_up_row]
        rw [c1, c2, c3, c4]; exact eh i i0 i1
      · obtain ⟨c1, c2, c3, c4⟩ := m2 k k0 (by omega)
        simp (disch := omega) only [kx_up_row]
        rw [c1, c2, c3, c4]; exact eo k k0 k1
    · exact Fr_up (Fr_up (Fr_up (Fr_up (Fr_up (Fr_up m3 (by omega)) (by omega)) (by omega)) (by omega)) (by omega)) (by omega)
  refine ks_aload_n rfl rfl ?_
  refine ks_getr (b := b + 1) rfl rfl (by assumption) (by assumption) (Nat.succ_ne_zero _) ?_
  refine ks_iconst rfl ?_
  refine ks_aload_n rfl rfl ?_
  refine ks_getr (b := a + 1) rfl rfl (by assumption) (by assumption) (Nat.succ_ne_zero _) ?_
  refine ks_iconst rfl ?_
  refine ks_bipush rfl ?_
  refine ks_acopy rfl (Nat.le_refl 91) (by assumption) (by assumption) (by omega) (by omega) (by omega) (by omega) (by omega) (Nat.le_of_ble_eq_true rfl) ?_
  refine ks_aload_n rfl rfl ?_
  refine ks_getr (b := b + 2) rfl rfl (by assumption) (by assumption) (Nat.succ_ne_zero _) ?_
  refine ks_iconst rfl ?_
  refine ks_aload_n rfl rfl ?_
  refine ks_getr (b := a + 2) rfl rfl (by assumption) (by assumption) (Nat.succ_ne_zero _) ?_
  refine ks_iconst rfl ?_
  refine ks_bipush rfl ?_
  refine ks_acopy rfl (Nat.le_refl 91) (by assumption) (by assumption) (by omega) (by omega) (by omega) (by omega) (by omega) (Nat.le_of_ble_eq_true rfl) ?_
  refine ks_aload_n rfl rfl ?_
  refine ks_getr (b := b + 3) rfl rfl (by assumption) (by assumption) (Nat.succ_ne_zero _) ?_
  refine ks_iconst rfl ?_
  refine ks_aload_n rfl rfl ?_
  refine ks_getr (b := a + 3) rfl rfl (by assumption) (by assumption) (Nat.succ_ne_zero _) ?_
  refine ks_iconst rfl ?_
  refine ks_bipush rfl ?_
  refine ks_acopy rfl (Nat.le_refl 91) (by assumption) (by assumption) (by omega) (by omega) (by omega) (by omega) (by omega) (Nat.le_of_ble_eq_true rfl) ?_
  refine ks_aload_n rfl rfl ?_
  refine ks_getr (b := b + 4) rfl rfl (by assumption) (by assumption) (Nat.succ_ne_zero _) ?_
  refine ks_iconst rfl ?_
  refine ks_aload_n rfl rfl ?_
  refine ks_getr (b := a + 4) rfl rfl (by assumption) (by assumption) (Nat.succ_ne_zero _) ?_
  refine ks_iconst rfl ?_
  refine ks_bipush rfl ?_
  refine ks_acopy rfl (Nat.le_refl 91) (by assumption) (by assumption) (by omega) (by omega) (by omega) (by omega) (by omega) (Nat.le_of_ble_eq_true rfl) ?_
  refine ks_aload_n rfl rfl ?_
  refine ks_getr (b := b + 5) rfl rfl (by assumption) (by assumption) (Nat.succ_ne_zero _) ?_
  refine ks_iconst rfl ?_
  refine ks_aload_n rfl rfl ?_
  refine ks_getr (b := a + 5) rfl rfl (by assumption) (by assumption) (Nat.succ_ne_zero _) ?_
  refine ks_iconst rfl ?_
  refine ks_iconst rfl ?_
  refine ks_acopy rfl (Nat.le_refl 91) (by assumption) (by assumption) (by omega) (by omega) (by omega) (by omega) (by omega) (Nat.le_of_ble_eq_true rfl) ?_
  refine ks_aload_n rfl rfl ?_
  refine ks_getr (b := b + 6) rfl rfl (by assumption) (by assumption) (Nat.succ_ne_zero _) ?_
  refine ks_iconst rfl ?_
  refine ks_aload_n rfl rfl ?_
  refine ks_getr (b := a + 6) rfl rfl (by assumption) (by assumption) (Nat.succ_ne_zero _) ?_
  refine ks_iconst rfl ?_
  refine ks_iconst rfl ?_
  refine ks_acopy rfl (Nat.le_refl 91) (by assumption) (by assumption) (by omega) (by omega) (by omega) (by omega) (by omega) (Nat.le_of_ble_eq_true rfl) ?_
  refine ks_aload_n rfl rfl ?_
  refine ks_getr (b := b + 7) rfl rfl (by assumption) (by assumption) (Nat.succ_ne_zero _) ?_
  refine ks_iconst rfl ?_
  refine ks_aload_n rfl rfl ?_
  refine ks_getr (b := a + 7) rfl rfl (by assumption) (by assumption) (Nat.succ_ne_zero _) ?_
  refine ks_iconst rfl ?_
  refine ks_iconst rfl ?_
  refine ks_acopy rfl (Nat.le_refl 91) (by assumption) (by assumption) (by omega) (by omega) (by omega) (by omega) (by omega) (Nat.le_of_ble_eq_true rfl) ?_
  refine ks_aload_n rfl rfl ?_
  refine ks_getr (b := b + 8) rfl rfl (by assumption) (by assumption) (Nat.succ_ne_zero _) ?_
  refine ks_iconst rfl ?_
  refine ks_aload_n rfl rfl ?_
  refine ks_getr (b := a + 8) rfl rfl (by assumption) (by assumption) (Nat.succ_ne_zero _) ?_
  refine ks_iconst rfl ?_
  refine ks_iconst rfl ?_
  refine ks_acopy rfl (Nat.le_refl 91) (by assumption) (by assumption) (by omega) (by omega) (by omega) (by omega) (by omega) (Nat.le_of_ble_eq_true rfl) ?_
  -- at 116: stop  st []
  clear g0 g1 g2 g3 g4 g5 g6 g7 g8 g9 g10 g11 g12 g13 g14 g15 g16 k0 k1 k2 k3 k4 k5 k6 k7 k8 k9 k10 k11 k12 k13 k14 k15 k16
  refine fin _ ?_ ?_ ?_ ?_
  · simp (disch := omega) only [kx_cpy_ne]
  · intro i i0 i1
    simp (disch := omega) only [kx_cpy_ne, kx_cpy_in]
    simp
  · intro k k0 k1
    simp (disch := omega) only [kx_cpy_ne, kx_cpy_in]
    simp
  · intro c hc
    simp (disch := omega) only [kx_cpy_ne]
theorem r_clear (hA : kg_T L a) (t : ∀ μ', μ' a 8 = 0 → TRx μ' a (fun _ => 0) 0 → Fr a μ μ' → Q none (kg L) μ') : kx_cx (ke (d + 1)) 53 [kR a] (kg L) μ Q := by
  refine ke_start (tb := kt_Town_clear) (ls := [some (kR a)]) rfl rfl ?_
  obtain ⟨g0, g1, g2, g3, g4, g5, g6, g7, g8, g9, g10, g11, g12, g13, g14, g15, g16⟩ := hA
  refine ks_aload_n rfl rfl ?_
  refine ks_iconst rfl ?_
  refine ks_puti rfl (by assumption) ?_
  refine ks_aload_n rfl rfl ?_
  refine ks_iconst rfl ?_
  refine ks_puti rfl (by assumption) ?_
  refine ks_aload_n rfl rfl ?_
  refine ks_iconst rfl ?_
  refine ks_puti rfl (by assumption) ?_
  refine ks_aload_n rfl rfl ?_
  refine ks_iconst rfl ?_
  refine ks_puti rfl (by assumption) ?_
  refine ks_aload_n rfl rfl ?_
  refine ks_iconst rfl ?_
  refine ks_puti rfl (by assumption) ?_
  refine ks_aload_n rfl rfl ?_
  refine ks_iconst rfl ?_
  refine ks_puti rfl (by assumption) ?_
  refine ks_return rfl ?_
  -- at 30: ret  st []
  refine t _ ?_ ?_ ?_
  · simp (disch := omega) only [kx_up_self, kx_up_oth]
  · refine ⟨?_, ?_, ?_, ?_, ?_, ?_, fun i i0 i1 => absurd (show i < 0 from i1) (by omega), fun k k0 k1 => absurd (show k < 0 from k1) (by omega)⟩ <;> simp (disch := omega) only [kx_up_self, kx_up_oth]
  · intro c hc
    simp (disch := omega) only [kx_up_row]
theorem r_addHead {k p l : Int} (hA : kg_T L a) (hT : TRx μ a s z) (h1 : 0 ≤ s 1 ∧ s 1 < 6) (h2 : s 2 = 0) (t : ∀ μ', TRx μ' a (up1 (up1 (up1 (up1 (up1 s (6 + s 1) k) (12 + s 1) p) (18 + s 1) l) (24 + s 1) 0) 1 (s 1 + 1)) z → Fr a μ μ' → Q none (kg L) μ') : kx_cx (ke (d + 1)) 55 [kR a, kI k, kI p, kI l] (kg L) μ Q := by
  refine ke_start (tb := kt_Town_addHead) (ls := [some (kR a), some (kI k), some (kI p), some (kI l)]) rfl rfl ?_
  obtain ⟨g0, g1, g2, g3, g4, g5, g6, g7, g8, g9, g10, g11, g12, g13, g14, g15, g16⟩ := hA
  obtain ⟨e8, e9, e10, e11, e12, e13, eh, eo⟩ := hT
  refine ks_aload_n rfl rfl ?_
  refine ks_getr (b := a + 1) rfl rfl (by assumption) (by assumption) (Nat.succ_ne_zero _) ?_
  refine ks_aload_n rfl rfl ?_
  refine ks_geti rfl rfl (by assumption) rfl (by (try simp only [kx_up_at, kx_row_at, up1_at, Nat.reduceEqDiff, Int.reduceEq, Int.reduceNeg, and_true, true_and, and_false, false_and, and_self, reduceIte, Nat.add_left_cancel_iff, Nat.add_eq_left, Nat.left_eq_add, Nat.reduceAdd, Int.add_left_inj, Int.add_right_inj, e8]); rfl) ?_
  refine ks_iload_n rfl rfl ?_
  refine ks_iastore rfl (by assumption) (by omega) (by omega) ?_
  refine ks_aload_n rfl rfl ?_
  refine ks_getr (b := a + 2) rfl rfl (by assumption) (by assumption) (Nat.succ_ne_zero _) ?_
  refine ks_aload_n rfl rfl ?_
  refine ks_geti rfl rfl (by assumption) rfl (by (try simp only [kx_up_at, kx_row_at, up1_at, Nat.reduceEqDiff, Int.reduceEq, Int.reduceNeg, and_true, true_and, and_false, false_and, and_self, reduceIte, Nat.add_left_cancel_iff, Nat.add_eq_left, Nat.left_eq_add, Nat.reduceAdd, Int.add_left_inj, Int.add_right_inj, e8]); rfl) ?_
  refine ks_iload_n rfl rfl ?_
  refine ks_iastore rfl (by assumption) (by omega) (by omega) ?_
  refine ks_aload_n rfl rfl ?_
  refine ks_getr (b := a + 3) rfl rfl (by assumption) (by assumption) (Nat.succ_ne_zero _) ?_
  refine ks_aload_n rfl rfl ?_
  refine ks_geti rfl rfl (by assumption) rfl (by (try simp only [kx_up_at, kx_row_at, up1_at, Nat.reduceEqDiff, Int.reduceEq, Int.reduceNeg, and_true, true_and, and_false, false_and, and_self, reduceIte, Nat.add_left_cancel_iff, Nat.add_eq_left, Nat.left_eq_add, Nat.reduceAdd, Int.add_left_inj, Int.add_right_inj, e8]); rfl) ?_
  refine ks_iload_n rfl rfl ?_
  refine ks_iastore rfl (by assumption) (by omega) (by omega) ?_
  refine ks_aload_n rfl rfl ?_
  refine ks_getr (b := a + 4) rfl rfl (by assumption) (by assumption) (Nat.succ_ne_zero _) ?_
  refine ks_aload_n rfl rfl ?_
  refine ks_geti rfl rfl (by assumption) rfl (by (try simp only [kx_up_at, kx_row_at, up1_at, Nat.reduceEqDiff, Int.reduceEq, Int.reduceNeg, and_true, true_and, and_false, false_and, and_self, reduceIte, Nat.add_left_cancel_iff, Nat.add_eq_left, Nat.left_eq_add, Nat.reduceAdd, Int.add_left_inj, Int.add_right_inj, e8]); rfl) ?_
  refine ks_iconst rfl ?_
  refine ks_iastore rfl (by assumption) (by omega) (by omega) ?_
  refine ks_aload_n rfl rfl ?_
  refine ks_dupR rfl ?_
  refine ks_geti rfl rfl (by assumption) rfl (by (try simp only [kx_up_at, kx_row_at, up1_at, Nat.reduceEqDiff, Int.reduceEq, Int.reduceNeg, and_true, true_and, and_false, false_and, and_self, reduceIte, Nat.add_left_cancel_iff, Nat.add_eq_left, Nat.left_eq_add, Nat.reduceAdd, Int.add_left_inj, Int.add_right_inj, e8]); rfl) ?_
  refine ks_iconst rfl ?_
  refine ks_iadd rfl ?_
  refine ks_puti rfl (by assumption) ?_
  refine ks_return rfl ?_
  -- at 50: ret  st []
  refine t _ ?_ ?_
  · refine ⟨?_, ?_, ?_, ?_, ?_, ?_, fun i i0 i1 => ?_, fun k k0 k1 => ?_⟩
    · simp (disch := omega) only [kx_up_row, kx_up_self, kx_up_oth, up1_ne, up1_at, if_true]
    · simp (disch := omega) only [kx_up_row, kx_up_self, kx_up_oth, up1_ne]; exact e9
    · simp (disch := omega) only [kx_up_row, kx_up_self, kx_up_oth, up1_ne]; exact e10
    · simp (disch := omega) only [kx_up_row, kx_up_self, kx_up_oth, up1_ne]; exact e11
    · simp (disch := omega) only [kx_up_row, kx_up_self, kx_up_oth, up1_ne]; exact e12
    · simp (disch := omega) only [kx_up_row, kx_up_self, kx_up_oth, up1_ne]; exact e13
    · rw [up1_at, if_pos rfl] at i1
      by_cases e : i = s 1
      · subst e
        simp (disch := omega) only [kx_up_row, kx_up_self, up1_ne, up1_self]
        simp
      · have := eh i i0 (by omega)
        simp (disch := omega) only [kx_up_row, kx_up_oth, up1_ne]
        exact this
    · simp (disch := omega) only [up1_ne] at k1
      omega
  · intro c hc
    simp (disch := omega) only [kx_up_row]
theorem r_addOrder {x : Int} (hA : kg_T L a) (hT : TRx μ a s z) (h1 : s 1 ≤ 6) (h2 : 0 ≤ s 2 ∧ s 2 < 4) (t : ∀ μ', TRx μ' a (up1 (up1 (up1 (up1 s (30 + s 2) x) (34 + s 2) x) (38 + s 2) 0) 2 (s 2 + 1)) z → Fr a μ μ' → Q (some (kI (s 2))) (kg L) μ') : kx_cx (ke (d + 1)) 56 [kR a, kI x] (kg L) μ Q := by
  refine ke_start (tb := kt_Town_addOrder) (ls := [some (kR a), some (kI x), none]) rfl rfl ?_
  obtain ⟨g0, g1, g2, g3, g4, g5, g6, g7, g8, g9, g10, g11, g12, g13, g14, g15, g16⟩ := hA
  obtain ⟨e8, e9, e10, e11, e12, e13, eh, eo⟩ := hT
  refine ks_aload_n rfl rfl ?_
  refine ks_geti rfl rfl (by assumption) rfl (by (try simp only [kx_up_at, kx_row_at, up1_at, Nat.reduceEqDiff, Int.reduceEq, Int.reduceNeg, and_true, true_and, and_false, false_and, and_self, reduceIte, Nat.add_left_cancel_iff, Nat.add_eq_left, Nat.left_eq_add, Nat.reduceAdd, Int.add_left_inj, Int.add_right_inj, e9]); rfl) ?_
  refine ks_istore_n_2 rfl rfl ?_
  refine ks_aload_n rfl rfl ?_
  refine ks_getr (b := a + 5) rfl rfl (by assumption) (by assumption) (Nat.succ_ne_zero _) ?_
  refine ks_iload_n rfl rfl ?_
  refine ks_iload_n rfl rfl ?_
  refine ks_iastore rfl (by assumption) (by omega) (by omega) ?_
  refine ks_aload_n rfl rfl ?_
  refine ks_getr (b := a + 6) rfl rfl (by assumption) (by assumption) (Nat.succ_ne_zero _) ?_
  refine ks_iload_n rfl rfl ?_
  refine ks_iload_n rfl rfl ?_
  refine ks_iastore rfl (by assumption) (by omega) (by omega) ?_
  refine ks_aload_n rfl rfl ?_
  refine ks_getr (b := a + 7) rfl rfl (by assumption) (by assumption) (Nat.succ_ne_zero _) ?_
  refine ks_iload_n rfl rfl ?_
  refine ks_iconst rfl ?_
  refine ks_iastore rfl (by assumption) (by omega) (by omega) ?_
  refine ks_aload_n rfl rfl ?_
  refine ks_getr (b := a + 8) rfl rfl (by assumption) (by assumption) (Nat.succ_ne_zero _) ?_
  refine ks_iload_n rfl rfl ?_
  refine ks_ldc rfl ?_
  refine ks_iastore rfl (by assumption) (by omega) (by omega) ?_
  refine ks_aload_n rfl rfl ?_
  refine ks_dupR rfl ?_
  refine ks_geti rfl rfl (by assumption) rfl (by (try simp only [kx_up_at, kx_row_at, up1_at, Nat.reduceEqDiff, Int.reduceEq, Int.reduceNeg, and_true, true_and, and_false, false_and, and_self, reduceIte, Nat.add_left_cancel_iff, Nat.add_eq_left, Nat.left_eq_add, Nat.reduceAdd, Int.add_left_inj, Int.add_right_inj, e9]); rfl) ?_
  refine ks_iconst rfl ?_
  refine ks_iadd rfl ?_
  refine ks_puti rfl (by assumption) ?_
  refine ks_iload_n rfl rfl ?_
  refine ks_ireturn rfl ?_
  -- at 45: ret  st [None]
  refine t _ ?_ ?_
  · refine ⟨?_, ?_, ?_, ?_, ?_, ?_, fun i i0 i1 => ?_, fun k k0 k1 => ?_⟩
    · simp (disch := omega) only [kx_up_row, kx_up_self, kx_up_oth, up1_ne]; exact e8
    · simp (disch := omega) only [kx_up_row, kx_up_self, kx_up_oth, up1_ne, up1_at, if_true]
    · simp (disch := omega) only [kx_up_row, kx_up_self, kx_up_oth, up1_ne]; exact e10
    · simp (disch := omega) only [kx_up_row, kx_up_self, kx_up_oth, up1_ne]; exact e11
    · simp (disch := omega) only [kx_up_row, kx_up_self, kx_up_oth, up1_ne]; exact e12
    · simp (disch := omega) only [kx_up_row, kx_up_self, kx_up_oth, up1_ne]; exact e13
    · simp (disch := omega) only [up1_ne] at i1
      have := eh i i0 (by omega)
      simp (disch := omega) only [kx_up_row, kx_up_oth, up1_ne]
      exact this
    · rw [up1_at, if_pos rfl] at k1
      by_cases e : k = s 2
      · subst e
        simp (disch := omega) only [kx_up_row, kx_up_self, up1_ne, up1_self]
        simp
      · have := eo k k0 (by omega)
        rw [up1_ne (i := 2) (j := 38 + k) (by omega), up1_ne (i := 38 + s 2) (j := 38 + k) (by omega), up1_ne (i := 34 + s 2) (j := 38 + k) (by omega), up1_ne (i := 30 + s 2) (j := 38 + k) (by omega)]
        simp (disch := omega) only [kx_up_row, kx_up_oth, up1_ne]
        exact this
  · intro c hc
    simp (disch := omega) only [kx_up_row]
end CW
