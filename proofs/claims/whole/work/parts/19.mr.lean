/-! the reference's rows -/
section MR
variable {d L : Nat} {G : kx_G} {μ : kx_M} {Q : Option kx_V → kx_G → kx_M → Prop} {a : Nat}
theorem r_Mdrop {r : Int} (hr : kx_in r) (hb : ∀ i, 0 ≤ i → i < 8 → -1 ≤ μ 79 i ∧ μ 79 i ≤ 40) (t0 : ¬ (0 ≤ r ∧ r ≤ 7) → Q (some (kI (-1000001))) (kg L) μ) (t1 : 0 ≤ r → r ≤ 7 → μ 79 r = -1 → Q (some (kI (-1000011))) (kg L) (kx_up μ 77 3 1)) (t2 : 0 ≤ r → r ≤ 7 → 0 ≤ μ 79 r → Q (some (kI (μ 79 r))) (kg L) (kx_up (kx_up μ 79 r (-1)) 77 3 0)) : kx_cx (ke (d + 3)) 125 [kR 77, kI r] (kg L) μ Q := by
  refine ke_start (tb := kt_M_drop) (ls := [some (kR 77), some (kI r), none]) rfl rfl ?_
  refine ks_iload_n rfl rfl ?_
  refine ks_calls_1 rfl (Nat.le_of_ble_eq_true rfl) ?_
  -- at 1: call M_isRow st []
  refine r_MisRow hr (fun h => ?_) (fun h => ?_)
  · show kx_wx _ _ _ _ _ (_ :: _) _ _
    have b := hb r h.1 (by omega)
    refine ks_if_ne_1 rfl ?_
    refine ks_aload_n rfl rfl ?_
    refine ks_getr (b := 79) rfl rfl rfl rfl (by decide) ?_
    refine ks_iload_n rfl rfl ?_
    refine ks_iaload rfl rfl (by omega) (by omega) (by (try simp only [kx_up_at, kx_row_at, up1_at, Nat.reduceEqDiff, Int.reduceEq, Int.reduceNeg, and_true, true_and, and_false, false_and, and_self, reduceIte, Nat.add_left_cancel_iff, Nat.add_eq_left, Nat.left_eq_add, Nat.reduceAdd, Int.add_left_inj, Int.add_right_inj]); rfl) ?_
    -- at 16: if ge -> 25 else 19 st [None]
    refine ks_if_ge rfl ⟨by omega, by omega⟩ (fun h1 => ?_) (fun h1 => ?_)
    · refine ks_aload_n rfl rfl ?_
      refine ks_iconst rfl ?_
      refine ks_callv_2 rfl rfl rfl (Nat.le_of_ble_eq_true rfl) ?_
      -- at 21: call M_find st []
      refine r_find ?_
      show kx_wx _ _ _ _ _ (_ :: _) _ _
      refine ks_ireturn rfl ?_
      -- at 24: ret  st [None]
      exact t1 h.1 h.2 (by omega)
    · refine ks_aload_n rfl rfl ?_
      refine ks_getr (b := 79) rfl rfl rfl rfl (by decide) ?_
      refine ks_iload_n rfl rfl ?_
      refine ks_iaload rfl rfl (by omega) (by omega) (by (try simp only [kx_up_at, kx_row_at, up1_at, Nat.reduceEqDiff, Int.reduceEq, Int.reduceNeg, and_true, true_and, and_false, false_and, and_self, reduceIte, Nat.add_left_cancel_iff, Nat.add_eq_left, Nat.left_eq_add, Nat.reduceAdd, Int.add_left_inj, Int.add_right_inj]); rfl) ?_
      refine ks_istore_n_2 rfl rfl ?_
      refine ks_aload_n rfl rfl ?_
      refine ks_getr (b := 79) rfl rfl rfl rfl (by decide) ?_
      refine ks_iload_n rfl rfl ?_
      refine ks_iconst rfl ?_
      refine ks_iastore rfl rfl (by omega) (by omega) ?_
      refine ks_aload_n rfl rfl ?_
      refine ks_iload_n rfl rfl ?_
      refine ks_callv_2 rfl rfl rfl (Nat.le_of_ble_eq_true rfl) ?_
      -- at 41: call M_well st []
      refine r_well ?_
      show kx_wx _ _ _ _ _ (_ :: _) _ _
      refine ks_ireturn rfl ?_
      -- at 44: ret  st [None]
      exact t2 h.1 h.2 (by omega)
  · show kx_wx _ _ _ _ _ (_ :: _) _ _
    refine ks_if_ne_0 rfl ?_
    refine ks_ldc rfl ?_
    refine ks_ireturn rfl ?_
    -- at 9: ret  st ['-1000001']
    exact t0 h
theorem r_Mset {r i x : Int} (hr : kx_in r) (hi : kx_in i) (hx : kx_in x) (hl : ∀ i, 0 ≤ i → i < 8 → 0 ≤ μ 78 i ∧ μ 78 i ≤ 2) (hb : ∀ i, 0 ≤ i → i < 8 → -1 ≤ μ 79 i ∧ μ 79 i ≤ 40) (t0 : ¬ (0 ≤ r ∧ r ≤ 7) → Q (some (kI (-1000001))) (kg L) μ) (t1 : 0 ≤ r → r ≤ 7 → μ 79 r = -1 → Q (some (kI (-1000011))) (kg L) (kx_up μ 77 3 1)) (t2 : 0 ≤ r → r ≤ 7 → 0 ≤ μ 79 r → ¬ (0 ≤ i ∧ i < μ 79 r) → Q (some (kI (-1000012))) (kg L) (kx_up μ 77 3 2)) (t3 : 0 ≤ r → r ≤ 7 → 0 ≤ i → i < μ 79 r → Q (some (kI (ln_cut (μ 78 r) x))) (kg L) (kx_up (kx_up μ 80 (40 * r + i) (ln_cut (μ 78 r) x)) 77 3 0)) : kx_cx (ke (d + 3)) 123 [kR 77, kI r, kI i, kI x] (kg L) μ Q := by
  refine ke_start (tb := kt_M_set) (ls := [some (kR 77), some (kI r), some (kI i), some (kI x)]) rfl rfl ?_
  obtain ⟨_, _⟩ := hi
  refine ks_iload_n rfl rfl ?_
  refine ks_calls_1 rfl (Nat.le_of_ble_eq_true rfl) ?_
  -- at 1: call M_isRow st []
  refine r_MisRow hr (fun h => ?_) (fun h => ?_)
  · show kx_wx _ _ _ _ _ (_ :: _) _ _
    have b := hb r h.1 (by omega)
    have bl := hl r h.1 (by omega)
    refine ks_if_ne_1 rfl ?_
    refine ks_aload_n rfl rfl ?_
    refine ks_getr (b := 79) rfl rfl rfl rfl (by decide) ?_
    refine ks_iload_n rfl rfl ?_
    refine ks_iaload rfl rfl (by omega) (by omega) (by (try simp only [kx_up_at, kx_row_at, up1_at, Nat.reduceEqDiff, Int.reduceEq, Int.reduceNeg, and_true, true_and, and_false, false_and, and_self, reduceIte, Nat.add_left_cancel_iff, Nat.add_eq_left, Nat.left_eq_add, Nat.reduceAdd, Int.add_left_inj, Int.add_right_inj]); rfl) ?_
    -- at 16: if ge -> 25 else 19 st [None]
    refine ks_if_ge rfl ⟨by omega, by omega⟩ (fun h1 => ?_) (fun h1 => ?_)
    · refine ks_aload_n rfl rfl ?_
      refine ks_iconst rfl ?_
      refine ks_callv_2 rfl rfl rfl (Nat.le_of_ble_eq_true rfl) ?_
      -- at 21: call M_find st []
      refine r_find ?_
      show kx_wx _ _ _ _ _ (_ :: _) _ _
      refine ks_ireturn rfl ?_
      -- at 24: ret  st [None]
      exact t1 h.1 h.2 (by omega)
    · refine ks_iload_n rfl rfl ?_
      refine ks_i2l rfl ⟨by omega, by omega⟩ ?_
      refine ks_lconst rfl ?_
      refine ks_aload_n rfl rfl ?_
      refine ks_getr (b := 79) rfl rfl rfl rfl (by decide) ?_
      refine ks_iload_n rfl rfl ?_
      refine ks_iaload rfl rfl (by omega) (by omega) (by (try simp only [kx_up_at, kx_row_at, up1_at, Nat.reduceEqDiff, Int.reduceEq, Int.reduceNeg, and_true, true_and, and_false, false_and, and_self, reduceIte, Nat.add_left_cancel_iff, Nat.add_eq_left, Nat.left_eq_add, Nat.reduceAdd, Int.add_left_inj, Int.add_right_inj]); rfl) ?_
      refine ks_iconst rfl ?_
      refine ks_isub rfl ?_
      refine ks_i2l rfl ⟨by omega, by omega⟩ ?_
      refine ks_calls_3 rfl (Nat.le_of_ble_eq_true rfl) ?_
      -- at 37: call M_in st []
      refine r_in ⟨by omega, by omega⟩ ⟨by omega, by omega⟩ ⟨by omega, by omega⟩ (fun h2 => ?_) (fun h2 => ?_)
      · show kx_wx _ _ _ _ _ (_ :: _) _ _
        refine ks_if_ne_1 rfl ?_
        refine ks_aload_n rfl rfl ?_
        refine ks_getr (b := 80) rfl rfl rfl rfl (by decide) ?_
        refine ks_bipush rfl ?_
        refine ks_iload_n rfl rfl ?_
        refine ks_imul rfl ?_
        refine ks_iload_n rfl rfl ?_
        refine ks_iadd rfl ?_
        refine ks_aload_n rfl rfl ?_
        refine ks_getr (b := 78) rfl rfl rfl rfl (by decide) ?_
        refine ks_iload_n rfl rfl ?_
        refine ks_iaload rfl rfl (by omega) (by omega) (by (try simp only [kx_up_at, kx_row_at, up1_at, Nat.reduceEqDiff, Int.reduceEq, Int.reduceNeg, and_true, true_and, and_false, false_and, and_self, reduceIte, Nat.add_left_cancel_iff, Nat.add_eq_left, Nat.left_eq_add, Nat.reduceAdd, Int.add_left_inj, Int.add_right_inj]); rfl) ?_
        refine ks_iload_n rfl rfl ?_
        refine ks_calls_2 rfl (Nat.le_of_ble_eq_true rfl) ?_
        -- at 66: call M_asLane st [None, '80']
        refine r_asLane ⟨by omega, by omega⟩ hx ?_
        show kx_wx _ _ _ _ _ (_ :: _) _ _
        refine ks_iastore rfl rfl (by omega) (by omega) ?_
        refine ks_aload_n rfl rfl ?_
        refine ks_aload_n rfl rfl ?_
        refine ks_getr (b := 80) rfl rfl rfl rfl (by decide) ?_
        refine ks_bipush rfl ?_
        refine ks_iload_n rfl rfl ?_
        refine ks_imul rfl ?_
        refine ks_iload_n rfl rfl ?_
        refine ks_iadd rfl ?_
        refine ks_iaload rfl rfl (by omega) (by omega) (by (try simp only [kx_up_at, kx_row_at, up1_at, Nat.reduceEqDiff, Int.reduceEq, Int.reduceNeg, and_true, true_and, and_false, false_and, and_self, reduceIte, Nat.add_left_cancel_iff, Nat.add_eq_left, Nat.left_eq_add, Nat.reduceAdd, Int.add_left_inj, Int.add_right_inj]); rfl) ?_
        refine ks_callv_2 rfl rfl rfl (Nat.le_of_ble_eq_true rfl) ?_
        -- at 82: call M_well st []
        refine r_well ?_
        show kx_wx _ _ _ _ _ (_ :: _) _ _
        refine ks_ireturn rfl ?_
        -- at 85: ret  st [None]
        exact t3 h.1 h.2 h2.1 (by omega)
      · show kx_wx _ _ _ _ _ (_ :: _) _ _
        refine ks_if_ne_0 rfl ?_
        refine ks_aload_n rfl rfl ?_
        refine ks_iconst rfl ?_
        refine ks_callv_2 rfl rfl rfl (Nat.le_of_ble_eq_true rfl) ?_
        -- at 45: call M_find st []
        refine r_find ?_
        show kx_wx _ _ _ _ _ (_ :: _) _ _
        refine ks_ireturn rfl ?_
        -- at 48: ret  st [None]
        exact t2 h.1 h.2 (by omega) (by omega)
  · show kx_wx _ _ _ _ _ (_ :: _) _ _
    refine ks_if_ne_0 rfl ?_
    refine ks_ldc rfl ?_
    refine ks_ireturn rfl ?_
    -- at 9: ret  st ['-1000001']
    exact t0 h
end MR
