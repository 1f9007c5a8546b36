/-! a step taken back -/
theorem tw_goes_at {s : Int → Int} {h j : Int} (n : j ≠ 4 ∧ j ≠ 5) : tw_goes s h j = s j := by
  unfold tw_goes
  generalize (if s (6 + h) = 3 then tw_out s else 0) = x
  split
  · rfl
  · rw [up1_ne n.2, up1_ne n.1]
theorem tw_step_at {s : Int → Int} {j : Int} (h : j ≠ 3 ∧ j ≠ 4 ∧ j ≠ 5) : tw_step s j = tw_work s (s 4) (tw_found s (s 4)) j := by
  unfold tw_step
  rw [tw_goes_at h.2]; exact tw_tick_at ⟨h.2.2, h.1⟩
theorem tw_step_3 {B : Int} {s : Int → Int} (hw : tw_W B s) : tw_step s 3 = s 3 + 1 := by
  have hfi := tw_found_in s (s 4)
  have w2 := hw.2.1
  have w1 := hw.1
  have w3 := hw.2.2.1
  have e : tw_tick (tw_work s (s 4) (tw_found s (s 4))) 3 = s 3 + 1 := by
    rw [← tw_work_lo (s := s) (h := s 4) (f := tw_found s (s 4)) (j := 3) (by omega) (by omega) (by omega)]; rfl
  unfold tw_step
  rw [tw_goes_at (by omega)]; exact e
section CX
variable {d L : Nat} {G : kx_G} {μ : kx_M} {Q : Option kx_V → kx_G → kx_M → Prop} {a b : Nat} {s : Int → Int} {B z : Int}
theorem r_revertStep (hB : B ≤ 100000) (hK : kg_T L a) (hT : TR μ a (tw_step s)) (hw : tw_W B s) (t : ∀ μ', TR μ' a s → Fr a μ μ' → Q none (kg L) μ') : kx_cx (ke (d + 1)) 62 [kR a, kI (s 4), kI (s 5), kI (tw_found s (s 4))] (kg L) μ Q := by
  refine ke_start (tb := kt_Town_revertStep) (ls := [some (kR a), some (kI (s 4)), some (kI (s 5)), some (kI (tw_found s (s 4)))]) rfl rfl ?_
  have hs3 := tw_step_3 hw
  obtain ⟨g0, g1, g2, g3, g4, g5, g6, g7, g8, g9, g10, g11, g12, g13, g14, g15, g16⟩ := hK
  obtain ⟨e8, e9, e10, e11, e12, e13, eh, eo⟩ := hT
  obtain ⟨w1, w2, w3, w4, w5, w6, w7, w8⟩ := hw
  have hfi := tw_found_in s (s 4)
  have lo : ∀ j : Int, j < 24 ∨ 30 ≤ j ∧ j < 34 → j ≠ 3 ∧ j ≠ 4 ∧ j ≠ 5 → tw_step s j = s j := fun j hj hn => by rw [tw_step_at hn, tw_work_lo (by omega) (by omega) hj]
  rw [hs3] at e13
  rw [lo 1 (by omega) (by omega)] at e8 eh
  rw [lo 2 (by omega) (by omega)] at e9 eo
  rw [lo 0 (by omega) (by omega)] at e10
  have q7 := w7 (s 4) w3.1 w3.2
  have e3 : s 3 + 1 - 1 = s 3 := by omega
  refine ks_aload_n rfl rfl ?_
  refine ks_dupR rfl ?_
  refine ks_geti rfl rfl (by assumption) rfl (by (try simp only [kx_up_at, kx_row_at, up1_at, Nat.reduceEqDiff, Int.reduceEq, Int.reduceNeg, and_true, true_and, and_false, false_and, and_self, reduceIte, Nat.add_left_cancel_iff, Nat.add_eq_left, Nat.left_eq_add, Nat.reduceAdd, Int.add_left_inj, Int.add_right_inj, e13, e3]); rfl) ?_
  refine ks_iconst rfl ?_
  refine ks_isub rfl ?_
  refine ks_puti rfl (by assumption) ?_
  refine ks_aload_n rfl rfl ?_
  refine ks_iload_n rfl rfl ?_
  refine ks_puti rfl (by assumption) ?_
  refine ks_aload_n rfl rfl ?_
  refine ks_iload_n rfl rfl ?_
  refine ks_puti rfl (by assumption) ?_
  refine ks_iload_n rfl rfl ?_
  refine ks_iconst rfl ?_
  -- at 22: if eq -> 60 else 25 st ['-1', None]
  refine ks_icmp_eq rfl ⟨by omega, by omega⟩ ⟨by omega, by omega⟩ (fun c1 => ?_) (fun c1 => ?_)
  · refine ks_return rfl ?_
    -- at 60: ret  st []
    clear g0 g1 g2 g3 g4 g5 g6 g7 g8 g9 g10 g11 g12 g13 g14 g15 g16
    have all : ∀ j : Int, j ≠ 3 ∧ j ≠ 4 ∧ j ≠ 5 → tw_step s j = s j := fun j hn => by
      rw [tw_step_at hn]; unfold tw_work; rw [if_pos (by omega)]
    refine t _ ?_ ?_
    · refine ⟨?_, ?_, ?_, ?_, ?_, ?_, fun i i0 i1 => ?_, fun k k0 k1 => ?_⟩
      · simp (disch := omega) only [kx_up_self, kx_up_oth]; exact e8
      · simp (disch := omega) only [kx_up_self, kx_up_oth]; exact e9
      · simp (disch := omega) only [kx_up_self, kx_up_oth]; exact e10
      · simp (disch := omega) only [kx_up_self, kx_up_oth]
      · simp (disch := omega) only [kx_up_self, kx_up_oth]
      · simp (disch := omega) only [kx_up_self, kx_up_oth]; try omega
      · have := eh i i0 i1
        rw [all (6 + i) (by omega), all (12 + i) (by omega), all (18 + i) (by omega), all (24 + i) (by omega)] at this
        simp (disch := omega) only [kx_up_row]; exact this
      · have := eo k k0 k1
        rw [all (30 + k) (by omega), all (34 + k) (by omega), all (38 + k) (by omega), all (42 + k) (by omega)] at this
        simp (disch := omega) only [kx_up_row]; exact this
    · exact Fr_up (Fr_up (Fr_up (Fr_rf a μ) (by omega)) (by omega)) (by omega)
  · obtain ⟨f0, f1, f2⟩ := hfi.resolve_left c1
    have f3 := f2.1
    have hat : ∀ j : Int, j ≠ 3 ∧ j ≠ 4 ∧ j ≠ 5 → tw_step s j = tw_work s (s 4) (tw_found s (s 4)) j := fun j hn => tw_step_at hn
    generalize tw_found s (s 4) = f at *
    have f4 := w8 f f0 f1
    have nf : ¬ f < 0 := by omega
    have l1 : tw_step s (34 + f) = s (34 + f) - 1 := by
      rw [hat _ (by omega)]; unfold tw_work; rw [if_neg nf]
      split
      · simp (disch := omega) only [up1_self, up1_ne]
      · simp (disch := omega) only [up1_self, up1_ne]
    have l2 : tw_step s (24 + s 4) = s (24 + s 4) + 1 := by
      rw [hat _ (by omega)]; unfold tw_work; rw [if_neg nf]
      split
      · simp (disch := omega) only [up1_self, up1_ne]
      · simp (disch := omega) only [up1_self, up1_ne]
    have l3 : ∀ i : Int, 0 ≤ i → i < 6 → i ≠ s 4 → tw_step s (24 + i) = s (24 + i) := by
      intro i i0 i1 i2
      rw [hat _ (by omega)]; unfold tw_work; rw [if_neg nf]
      split
      · simp (disch := omega) only [up1_ne]
      · simp (disch := omega) only [up1_ne]
    have l4 : ∀ k : Int, 0 ≤ k → k < 4 → k ≠ f → tw_step s (34 + k) = s (34 + k) ∧ tw_step s (38 + k) = s (38 + k) ∧ tw_step s (42 + k) = s (42 + k) := by
      intro k k0 k1 k2
      rw [hat _ (by omega), hat _ (by omega), hat _ (by omega)]; unfold tw_work; rw [if_neg nf]
      split
      · simp (disch := omega) only [up1_ne]
        simp
      · simp (disch := omega) only [up1_ne]
        simp
    have b1 : μ (a + 6) f = s (34 + f) - 1 := by rw [(eo f f0 f1).2.1, l1]
    have b2 : μ (a + 4) (s 4) = s (24 + s 4) + 1 := by rw [(eh (s 4) w3.1 w3.2).2.2.2, l2]
    have e34 : s (34 + f) - 1 + 1 = s (34 + f) := by omega
    have e24 : s (24 + s 4) + 1 - 1 = s (24 + s 4) := by omega
    refine ks_aload_n rfl rfl ?_
    refine ks_getr (b := a + 6) rfl rfl (by assumption) (by assumption) (Nat.succ_ne_zero _) ?_
    refine ks_iload_n rfl rfl ?_
    refine ks_dup2 rfl ?_
    refine ks_iaload rfl (by assumption) (by omega) (by omega) (by (try simp only [kx_up_at, kx_row_at, up1_at, Nat.reduceEqDiff, Int.reduceEq, Int.reduceNeg, and_true, true_and, and_false, false_and, and_self, reduceIte, Nat.add_left_cancel_iff, Nat.add_eq_left, Nat.left_eq_add, Nat.reduceAdd, Int.add_left_inj, Int.add_right_inj, b1, b2, e34, e24]); rfl) ?_
    refine ks_iconst rfl ?_
    refine ks_iadd rfl ?_
    refine ks_iastore rfl (by assumption) (by omega) (by omega) ?_
    refine ks_aload_n rfl rfl ?_
    refine ks_getr (b := a + 7) rfl rfl (by assumption) (by assumption) (Nat.succ_ne_zero _) ?_
    refine ks_iload_n rfl rfl ?_
    refine ks_iconst rfl ?_
    refine ks_iastore rfl (by assumption) (by omega) (by omega) ?_
    refine ks_aload_n rfl rfl ?_
    refine ks_getr (b := a + 8) rfl rfl (by assumption) (by assumption) (Nat.succ_ne_zero _) ?_
    refine ks_iload_n rfl rfl ?_
    refine ks_ldc rfl ?_
    refine ks_iastore rfl (by assumption) (by omega) (by omega) ?_
    refine ks_aload_n rfl rfl ?_
    refine ks_getr (b := a + 4) rfl rfl (by assumption) (by assumption) (Nat.succ_ne_zero _) ?_
    refine ks_iload_n rfl rfl ?_
    refine ks_dup2 rfl ?_
    refine ks_iaload rfl (by assumption) (by omega) (by omega) (by (try simp only [kx_up_at, kx_row_at, up1_at, Nat.reduceEqDiff, Int.reduceEq, Int.reduceNeg, and_true, true_and, and_false, false_and, and_self, reduceIte, Nat.add_left_cancel_iff, Nat.add_eq_left, Nat.left_eq_add, Nat.reduceAdd, Int.add_left_inj, Int.add_right_inj, b1, b2, e34, e24]); rfl) ?_
    refine ks_iconst rfl ?_
    refine ks_isub rfl ?_
    refine ks_iastore rfl (by assumption) (by omega) (by omega) ?_
    refine ks_return rfl ?_
    -- at 60: ret  st []
    clear g0 g1 g2 g3 g4 g5 g6 g7 g8 g9 g10 g11 g12 g13 g14 g15 g16
    refine t _ ?_ ?_
    · refine ⟨?_, ?_, ?_, ?_, ?_, ?_, fun i i0 i1 => ?_, fun k k0 k1 => ?_⟩
      · simp (disch := omega) only [kx_up_row, kx_up_self, kx_up_oth]; exact e8
      · simp (disch := omega) only [kx_up_row, kx_up_self, kx_up_oth]; exact e9
      · simp (disch := omega) only [kx_up_row, kx_up_self, kx_up_oth]; exact e10
      · simp (disch := omega) only [kx_up_row, kx_up_self, kx_up_oth]
      · simp (disch := omega) only [kx_up_row, kx_up_self, kx_up_oth]
      · simp (disch := omega) only [kx_up_row, kx_up_self, kx_up_oth]; try omega
      · obtain ⟨c2, c3, c4, c5⟩ := eh i i0 i1
        rw [lo (6 + i) (by omega) (by omega)] at c2
        rw [lo (12 + i) (by omega) (by omega)] at c3
        rw [lo (18 + i) (by omega) (by omega)] at c4
        by_cases e : i = s 4
        · subst e
          simp (disch := omega) only [kx_up_row, kx_up_self]
          exact ⟨c2, c3, c4, by omega⟩
        · rw [l3 i i0 (by omega) e] at c5
          simp (disch := omega) only [kx_up_row, kx_up_oth]
          exact ⟨c2, c3, c4, c5⟩
      · obtain ⟨c2, c3, c4, c5⟩ := eo k k0 k1
        rw [lo (30 + k) (by omega) (by omega)] at c2
        by_cases e : k = f
        · subst e
          simp (disch := omega) only [kx_up_row, kx_up_self]
          rw [f3]
          exact ⟨c2, by omega, rfl, by rw [if_neg (by omega)]⟩
        · obtain ⟨d1, d2, d3⟩ := l4 k k0 (by omega) e
          rw [d1] at c3
          rw [d2] at c4 c5
          rw [d3] at c5
          simp (disch := omega) only [kx_up_row, kx_up_oth]
          exact ⟨c2, c3, c4, c5⟩
    · exact Fr_up (Fr_up (Fr_up (Fr_up (Fr_up (Fr_up (Fr_up (Fr_rf a μ) (by omega)) (by omega)) (by omega)) (by omega)) (by omega)) (by omega)) (by omega)
end CX
