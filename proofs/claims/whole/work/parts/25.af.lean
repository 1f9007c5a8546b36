/-! the acts of the reference -/
section AF
variable {d L : Nat} {G : kx_G} {μ : kx_M} {Q : Option kx_V → kx_G → kx_M → Prop} {m v : Int} {h : Int → Int → Int} {s : Int → Int}
/-- whether there is a town, as the reference tells it -/
def IT (μ : kx_M) (s : Int → Int) : Prop := (μ 77 4 = 0 ∧ s 1 = 0) ∨ (μ 77 4 = 1 ∧ 1 ≤ s 1)
theorem IT_in {μ : kx_M} {s : Int → Int} (h : IT μ s) : 0 ≤ μ 77 4 ∧ μ 77 4 ≤ 1 ∧ (μ 77 4 = 0 ↔ s 1 = 0) ∧ 0 ≤ s 1 := by
  unfold IT at h
  omega
theorem r_giveTo (t : Q none (kg L) (kx_row μ 81 (up1 (up1 (μ 81) 4 v) 5 0))) : kx_cx (ke (d + 1)) 145 [kR 77, kI v] (kg L) μ Q := by
  refine ke_start (tb := kt_M_giveTo) (ls := [some (kR 77), some (kI v)]) rfl rfl ?_
  refine ks_aload_n rfl rfl ?_
  refine ks_getr (b := 81) rfl rfl rfl rfl (by decide) ?_
  refine ks_iconst rfl ?_
  refine ks_iload_n rfl rfl ?_
  refine ks_iastore rfl rfl (by omega) (by omega) ?_
  refine ks_aload_n rfl rfl ?_
  refine ks_getr (b := 81) rfl rfl rfl rfl (by decide) ?_
  refine ks_iconst rfl ?_
  refine ks_iconst rfl ?_
  refine ks_iastore rfl rfl (by omega) (by omega) ?_
  refine ks_return rfl ?_
  -- at 14: ret  st []
  simp only [kx_up_up1, kx_row_self, kx_row_row]
  exact t
theorem r_Mwind (hv : kx_in v) (hs : μ 81 = s) (N : TN s) (I : IT μ s) (R : RM μ m h) (t0 : s 1 = 0 → Q (some (kI (-1000002))) (kg L) μ) (t1 : 1 ≤ s 1 → ¬ (0 ≤ v ∧ v ≤ 5) → Q (some (kI (-1000001))) (kg L) μ) (t2 : 1 ≤ s 1 → 0 ≤ v → v ≤ 5 → ∀ μ', RM μ' (hs_len m) (hs_push m h s) → μ' 81 = up1 s 0 v → FrM μ μ' → Q (some (kI (s 0))) (kg L) μ') : kx_cx (ke (d + 2)) 144 [kR 77, kI v] (kg L) μ Q := by
  refine ke_start (tb := kt_M_wind) (ls := [some (kR 77), some (kI v), none]) rfl rfl ?_
  obtain ⟨i0, i1, i2, i3⟩ := IT_in I
  obtain ⟨_, _⟩ := hv
  refine ks_aload_n rfl rfl ?_
  refine ks_geti rfl rfl rfl rfl (by (try simp only [kx_up_at, kx_row_at, up1_at, Nat.reduceEqDiff, Int.reduceEq, Int.reduceNeg, and_true, true_and, and_false, false_and, and_self, reduceIte, Nat.add_left_cancel_iff, Nat.add_eq_left, Nat.left_eq_add, Nat.reduceAdd, Int.add_left_inj, Int.add_right_inj]); rfl) ?_
  -- at 4: if ne -> 10 else 7 st [None]
  refine ks_if_ne rfl ⟨by omega, by omega⟩ (fun c => ?_) (fun c => ?_)
  · refine ks_ldc rfl ?_
    refine ks_ireturn rfl ?_
    -- at 9: ret  st ['-1000002']
    exact t0 (by omega)
  · refine ks_iload_n rfl rfl ?_
    refine ks_i2l rfl ⟨by omega, by omega⟩ ?_
    refine ks_lconst rfl ?_
    refine ks_ldc2_w rfl ?_
    refine ks_calls_3 rfl (Nat.le_of_ble_eq_true rfl) ?_
    -- at 16: call M_in st []
    refine r_in ⟨by omega, by omega⟩ ⟨by omega, by omega⟩ ⟨by omega, by omega⟩ (fun c2 => ?_) (fun c2 => ?_)
    · show kx_wx _ _ _ _ _ (_ :: _) _ _
      refine ks_if_ne_1 rfl ?_
      refine ks_aload_n rfl rfl ?_
      refine ks_callv_1 rfl rfl rfl (Nat.le_of_ble_eq_true rfl) ?_
      -- at 26: call M_note st []
      refine r_note2 R (fun μ1 R1 F1 F2 => ?_)
      have e : μ1 81 = s := by rw [F2 81 (by omega) (by omega)]; exact hs
      show kx_wx _ _ _ _ _ _ _ _
      refine ks_aload_n rfl rfl ?_
      refine ks_getr (b := 81) rfl rfl rfl rfl (by decide) ?_
      refine ks_iconst rfl ?_
      refine ks_iaload rfl rfl (by omega) (by omega) (by (try simp only [kx_up_at, kx_row_at, up1_at, Nat.reduceEqDiff, Int.reduceEq, Int.reduceNeg, and_true, true_and, and_false, false_and, and_self, reduceIte, Nat.add_left_cancel_iff, Nat.add_eq_left, Nat.left_eq_add, Nat.reduceAdd, Int.add_left_inj, Int.add_right_inj, e]); rfl) ?_
      refine ks_istore_n_2 rfl rfl ?_
      refine ks_aload_n rfl rfl ?_
      refine ks_getr (b := 81) rfl rfl rfl rfl (by decide) ?_
      refine ks_iconst rfl ?_
      refine ks_iload_n rfl rfl ?_
      refine ks_iastore rfl rfl (by omega) (by omega) ?_
      refine ks_iload_n rfl rfl ?_
      refine ks_ireturn rfl ?_
      -- at 44: ret  st [None]
      rw [hs] at R1
      refine t2 (by omega) c2.1 c2.2 _ (RM_fr R1 (by rw [kx_up_row (by omega)]) (by rw [kx_up_row (by omega)])) (by rw [kx_up_up1, kx_row_self, e]) ⟨fun j hj => ?_, fun c a1 a2 a3 => ?_⟩
      · rw [kx_up_row (by omega), F1 j hj]
      · rw [kx_up_row (by omega), F2 c a3 a1]
    · show kx_wx _ _ _ _ _ (_ :: _) _ _
      refine ks_if_ne_0 rfl ?_
      refine ks_ldc rfl ?_
      refine ks_ireturn rfl ?_
      -- at 24: ret  st ['-1000001']
      exact t1 (by omega) c2
theorem r_Mgive (hv : kx_in v) (hs : μ 81 = s) (N : TN s) (R : RM μ m h) (t0 : ¬ (0 ≤ v ∧ v < s 1) → Q (some (kI (-1000001))) (kg L) μ) (t2 : 0 ≤ v → v < s 1 → ∀ μ', RM μ' (hs_len m) (hs_push m h s) → μ' 81 = up1 (up1 s 4 v) 5 0 → FrM μ μ' → Q (some (kI (s 4))) (kg L) μ') : kx_cx (ke (d + 3)) 146 [kR 77, kI v] (kg L) μ Q := by
  refine ke_start (tb := kt_M_give) (ls := [some (kR 77), some (kI v), none]) rfl rfl ?_
  obtain ⟨n1, n2, n3⟩ := TN_in N
  refine ks_aload_n rfl rfl ?_
  refine ks_iload_n rfl rfl ?_
  refine ks_callv_2 rfl rfl rfl (Nat.le_of_ble_eq_true rfl) ?_
  -- at 2: call M_isHead st []
  refine r_isHead hv (by rw [hs]; exact ⟨by omega, by omega⟩) (fun c => ?_) (fun c => ?_)
  · rw [hs] at c
    show kx_wx _ _ _ _ _ (_ :: _) _ _
    refine ks_if_ne_1 rfl ?_
    refine ks_aload_n rfl rfl ?_
    refine ks_callv_1 rfl rfl rfl (Nat.le_of_ble_eq_true rfl) ?_
    -- at 12: call M_note st []
    refine r_note2 R (fun μ1 R1 F1 F2 => ?_)
    have e : μ1 81 = s := by rw [F2 81 (by omega) (by omega)]; exact hs
    show kx_wx _ _ _ _ _ _ _ _
    refine ks_aload_n rfl rfl ?_
    refine ks_getr (b := 81) rfl rfl rfl rfl (by decide) ?_
    refine ks_iconst rfl ?_
    refine ks_iaload rfl rfl (by omega) (by omega) (by (try simp only [kx_up_at, kx_row_at, up1_at, Nat.reduceEqDiff, Int.reduceEq, Int.reduceNeg, and_true, true_and, and_false, false_and, and_self, reduceIte, Nat.add_left_cancel_iff, Nat.add_eq_left, Nat.left_eq_add, Nat.reduceAdd, Int.add_left_inj, Int.add_right_inj, e]); rfl) ?_
    refine ks_istore_n_2 rfl rfl ?_
    refine ks_aload_n rfl rfl ?_
    refine ks_iload_n rfl rfl ?_
    refine ks_callv_2 rfl rfl rfl (Nat.le_of_ble_eq_true rfl) ?_
    -- at 24: call M_giveTo st []
    refine r_giveTo ?_
    show kx_wx _ _ _ _ _ _ _ _
    refine ks_iload_n rfl rfl ?_
    refine ks_ireturn rfl ?_
    -- at 28: ret  st [None]
    rw [hs] at R1
    refine t2 c.1 c.2 _ (RM_fr R1 (by rw [kx_row_ne (by omega)]) (by rw [kx_row_ne (by omega)])) (by rw [kx_row_self, e]) ⟨fun j hj => ?_, fun c a1 a2 a3 => ?_⟩
    · rw [kx_row_ne (by omega), F1 j hj]
    · rw [kx_row_ne (by omega), F2 c a3 a1]
  · rw [hs] at c
    show kx_wx _ _ _ _ _ (_ :: _) _ _
    refine ks_if_ne_0 rfl ?_
    refine ks_ldc rfl ?_
    refine ks_ireturn rfl ?_
    -- at 10: ret  st ['-1000001']
    exact t0 c
theorem r_Morder (hv : kx_in v) (hs : μ 81 = s) (N : TN s) (I : IT μ s) (R : RM μ m h) (t0 : s 1 = 0 → Q (some (kI (-1000002))) (kg L) μ) (t1 : 1 ≤ s 1 → ¬ (1 ≤ v ∧ v ≤ 40) → Q (some (kI (-1000001))) (kg L) μ) (t3 : 1 ≤ s 1 → 1 ≤ v → v ≤ 40 → s 2 = 4 → Q (some (kI (-1000003))) (kg L) μ) (t2 : 1 ≤ s 1 → 1 ≤ v → v ≤ 40 → s 2 < 4 → ∀ μ', RM μ' (hs_len m) (hs_push m h s) → μ' 81 = tw_told s v → FrM μ μ' → Q (some (kI (s 2))) (kg L) μ') : kx_cx (ke (d + 2)) 147 [kR 77, kI v] (kg L) μ Q := by
  refine ke_start (tb := kt_M_order) (ls := [some (kR 77), some (kI v), none]) rfl rfl ?_
  obtain ⟨i0, i1, i2, i3⟩ := IT_in I
  obtain ⟨n1, n2, n3⟩ := TN_in N
  obtain ⟨_, _⟩ := hv
  refine ks_aload_n rfl rfl ?_
  refine ks_geti rfl rfl rfl rfl (by (try simp only [kx_up_at, kx_row_at, up1_at, Nat.reduceEqDiff, Int.reduceEq, Int.reduceNeg, and_true, true_and, and_false, false_and, and_self, reduceIte, Nat.add_left_cancel_iff, Nat.add_eq_left, Nat.left_eq_add, Nat.reduceAdd, Int.add_left_inj, Int.add_right_inj]); rfl) ?_
  -- at 4: if ne -> 10 else 7 st [None]
  refine ks_if_ne rfl ⟨by omega, by omega⟩ (fun c => ?_) (fun c => ?_)
  · refine ks_ldc rfl ?_
    refine ks_ireturn rfl ?_
    -- at 9: ret  st ['-1000002']
    exact t0 (by omega)
  · refine ks_iload_n rfl rfl ?_
    refine ks_i2l rfl ⟨by omega, by omega⟩ ?_
    refine ks_lconst rfl ?_
    refine ks_ldc2_w rfl ?_
    refine ks_calls_3 rfl (Nat.le_of_ble_eq_true rfl) ?_
    -- at 16: call M_in st []
    refine r_in ⟨by omega, by omega⟩ ⟨by omega, by omega⟩ ⟨by omega, by omega⟩ (fun c2 => ?_) (fun c2 => ?_)
    · show kx_wx _ _ _ _ _ (_ :: _) _ _
      refine ks_if_ne_1 rfl ?_
      refine ks_aload_n rfl rfl ?_
      refine ks_getr (b := 81) rfl rfl rfl rfl (by decide) ?_
      refine ks_iconst rfl ?_
      refine ks_iaload rfl rfl (by omega) (by omega) (by (try simp only [kx_up_at, kx_row_at, up1_at, Nat.reduceEqDiff, Int.reduceEq, Int.reduceNeg, and_true, true_and, and_false, false_and, and_self, reduceIte, Nat.add_left_cancel_iff, Nat.add_eq_left, Nat.left_eq_add, Nat.reduceAdd, Int.add_left_inj, Int.add_right_inj, hs]); rfl) ?_
      refine ks_iconst rfl ?_
      -- at 32: if ne -> 38 else 35 st ['4', None]
      refine ks_icmp_ne rfl ⟨by omega, by omega⟩ ⟨by omega, by omega⟩ (fun c3 => ?_) (fun c3 => ?_)
      · refine ks_ldc rfl ?_
        refine ks_ireturn rfl ?_
        -- at 37: ret  st ['-1000003']
        exact t3 (by omega) c2.1 c2.2 c3
      · refine ks_aload_n rfl rfl ?_
        refine ks_callv_1 rfl rfl rfl (Nat.le_of_ble_eq_true rfl) ?_
        -- at 39: call M_note st []
        refine r_note2 R (fun μ1 R1 F1 F2 => ?_)
        have e : μ1 81 = s := by rw [F2 81 (by omega) (by omega)]; exact hs
        have m1 : ¬ (2 = 42 + s 2) := by omega
        have m2 : ¬ (2 = 38 + s 2) := by omega
        have m3 : ¬ (2 = 34 + s 2) := by omega
        have m4 : ¬ (2 = 30 + s 2) := by omega
        show kx_wx _ _ _ _ _ _ _ _
        refine ks_aload_n rfl rfl ?_
        refine ks_getr (b := 81) rfl rfl rfl rfl (by decide) ?_
        refine ks_iconst rfl ?_
        refine ks_iaload rfl rfl (by omega) (by omega) (by (try simp only [kx_up_at, kx_row_at, up1_at, Nat.reduceEqDiff, Int.reduceEq, Int.reduceNeg, and_true, true_and, and_false, false_and, and_self, reduceIte, Nat.add_left_cancel_iff, Nat.add_eq_left, Nat.left_eq_add, Nat.reduceAdd, Int.add_left_inj, Int.add_right_inj, e, m1, m2, m3, m4]); rfl) ?_
        refine ks_istore_n_2 rfl rfl ?_
        refine ks_aload_n rfl rfl ?_
        refine ks_getr (b := 81) rfl rfl rfl rfl (by decide) ?_
        refine ks_bipush rfl ?_
        refine ks_iload_n rfl rfl ?_
        refine ks_iadd rfl ?_
        refine ks_iload_n rfl rfl ?_
        refine ks_iastore rfl rfl (by omega) (by omega) ?_
        refine ks_aload_n rfl rfl ?_
        refine ks_getr (b := 81) rfl rfl rfl rfl (by decide) ?_
        refine ks_bipush rfl ?_
        refine ks_iload_n rfl rfl ?_
        refine ks_iadd rfl ?_
        refine ks_iload_n rfl rfl ?_
        refine ks_iastore rfl rfl (by omega) (by omega) ?_
        refine ks_aload_n rfl rfl ?_
        refine ks_getr (b := 81) rfl rfl rfl rfl (by decide) ?_
        refine ks_bipush rfl ?_
        refine ks_iload_n rfl rfl ?_
        refine ks_iadd rfl ?_
        refine ks_iconst rfl ?_
        refine ks_iastore rfl rfl (by omega) (by omega) ?_
        refine ks_aload_n rfl rfl ?_
        refine ks_getr (b := 81) rfl rfl rfl rfl (by decide) ?_
        refine ks_bipush rfl ?_
        refine ks_iload_n rfl rfl ?_
        refine ks_iadd rfl ?_
        refine ks_iconst rfl ?_
        refine ks_iastore rfl rfl (by omega) (by omega) ?_
        refine ks_aload_n rfl rfl ?_
        refine ks_getr (b := 81) rfl rfl rfl rfl (by decide) ?_
        refine ks_iconst rfl ?_
        refine ks_dup2 rfl ?_
        refine ks_iaload rfl rfl (by omega) (by omega) (by (try simp only [kx_up_at, kx_row_at, up1_at, Nat.reduceEqDiff, Int.reduceEq, Int.reduceNeg, and_true, true_and, and_false, false_and, and_self, reduceIte, Nat.add_left_cancel_iff, Nat.add_eq_left, Nat.left_eq_add, Nat.reduceAdd, Int.add_left_inj, Int.add_right_inj, e, m1, m2, m3, m4]); rfl) ?_
        refine ks_iconst rfl ?_
        refine ks_iadd rfl ?_
        refine ks_iastore rfl rfl (by omega) (by omega) ?_
        refine ks_iload_n rfl rfl ?_
        refine ks_ireturn rfl ?_
        -- at 100: ret  st [None]
        rw [hs] at R1
        refine t2 (by omega) c2.1 c2.2 (by omega) _ (RM_fr R1 (by simp (disch := omega) only [kx_up_row]) (by simp (disch := omega) only [kx_up_row])) (by simp only [kx_up_up1, kx_row_self, kx_row_row, e]; rfl) ⟨fun j hj => ?_, fun c a1 a2 a3 => ?_⟩
        · simp (disch := omega) only [kx_up_row]; rw [F1 j hj]
        · simp (disch := omega) only [kx_up_row]; rw [F2 c a3 a1]
    · show kx_wx _ _ _ _ _ (_ :: _) _ _
      refine ks_if_ne_0 rfl ?_
      refine ks_ldc rfl ?_
      refine ks_ireturn rfl ?_
      -- at 24: ret  st ['-1000001']
      exact t1 (by omega) c2
theorem r_Mback (hv : kx_in v) (hs : μ 81 = s) (N : TN s) (R : RM μ m h) (t0 : ¬ (0 ≤ v ∧ v < s 2) → Q (some (kI (-1000001))) (kg L) μ) (t1 : 0 ≤ v → v < s 2 → ¬ s (38 + v) = 0 → Q (some (kI (-1000002))) (kg L) μ) (t2 : 0 ≤ v → v < s 2 → s (38 + v) = 0 → ∀ μ', RM μ' (hs_len m) (hs_push m h s) → μ' 81 = up1 s (38 + v) 2 → FrM μ μ' → Q (some (kI (s (34 + v)))) (kg L) μ') : kx_cx (ke (d + 3)) 148 [kR 77, kI v] (kg L) μ Q := by
  refine ke_start (tb := kt_M_back) (ls := [some (kR 77), some (kI v)]) rfl rfl ?_
  obtain ⟨n1, n2, n3⟩ := TN_in N
  refine ks_aload_n rfl rfl ?_
  refine ks_iload_n rfl rfl ?_
  refine ks_callv_2 rfl rfl rfl (Nat.le_of_ble_eq_true rfl) ?_
  -- at 2: call M_isOrder st []
  refine r_isOrder hv (by rw [hs]; exact ⟨by omega, by omega⟩) (fun c => ?_) (fun c => ?_)
  · rw [hs] at c
    obtain ⟨W, Z⟩ := TN_W N (by omega)
    have w8 := W.2.2.2.2.2.2.2 v c.1 c.2
    show kx_wx _ _ _ _ _ (_ :: _) _ _
    refine ks_if_ne_1 rfl ?_
    refine ks_aload_n rfl rfl ?_
    refine ks_getr (b := 81) rfl rfl rfl rfl (by decide) ?_
    refine ks_bipush rfl ?_
    refine ks_iload_n rfl rfl ?_
    refine ks_iadd rfl ?_
    refine ks_iaload rfl rfl (by omega) (by omega) (by (try simp only [kx_up_at, kx_row_at, up1_at, Nat.reduceEqDiff, Int.reduceEq, Int.reduceNeg, and_true, true_and, and_false, false_and, and_self, reduceIte, Nat.add_left_cancel_iff, Nat.add_eq_left, Nat.left_eq_add, Nat.reduceAdd, Int.add_left_inj, Int.add_right_inj, hs]); rfl) ?_
    -- at 20: if eq -> 26 else 23 st [None]
    refine ks_if_eq rfl ⟨by omega, by omega⟩ (fun c2 => ?_) (fun c2 => ?_)
    · refine ks_aload_n rfl rfl ?_
      refine ks_callv_1 rfl rfl rfl (Nat.le_of_ble_eq_true rfl) ?_
      -- at 27: call M_note st []
      refine r_note2 R (fun μ1 R1 F1 F2 => ?_)
      have e : μ1 81 = s := by rw [F2 81 (by omega) (by omega)]; exact hs
      have m1 : ¬ (34 + v = 38 + v) := by omega
      show kx_wx _ _ _ _ _ _ _ _
      refine ks_aload_n rfl rfl ?_
      refine ks_getr (b := 81) rfl rfl rfl rfl (by decide) ?_
      refine ks_bipush rfl ?_
      refine ks_iload_n rfl rfl ?_
      refine ks_iadd rfl ?_
      refine ks_iconst rfl ?_
      refine ks_iastore rfl rfl (by omega) (by omega) ?_
      refine ks_aload_n rfl rfl ?_
      refine ks_getr (b := 81) rfl rfl rfl rfl (by decide) ?_
      refine ks_bipush rfl ?_
      refine ks_iload_n rfl rfl ?_
      refine ks_iadd rfl ?_
      refine ks_iaload rfl rfl (by omega) (by omega) (by (try simp only [kx_up_at, kx_row_at, up1_at, Nat.reduceEqDiff, Int.reduceEq, Int.reduceNeg, and_true, true_and, and_false, false_and, and_self, reduceIte, Nat.add_left_cancel_iff, Nat.add_eq_left, Nat.left_eq_add, Nat.reduceAdd, Int.add_left_inj, Int.add_right_inj, e, m1]); rfl) ?_
      refine ks_ireturn rfl ?_
      -- at 49: ret  st [None]
      rw [hs] at R1
      refine t2 c.1 c.2 c2 _ (RM_fr R1 (by rw [kx_up_row (by omega)]) (by rw [kx_up_row (by omega)])) (by rw [kx_up_up1, kx_row_self, e]) ⟨fun j hj => ?_, fun c a1 a2 a3 => ?_⟩
      · rw [kx_up_row (by omega), F1 j hj]
      · rw [kx_up_row (by omega), F2 c a3 a1]
    · refine ks_ldc rfl ?_
      refine ks_ireturn rfl ?_
      -- at 25: ret  st ['-1000002']
      exact t1 c.1 c.2 c2
  · rw [hs] at c
    show kx_wx _ _ _ _ _ (_ :: _) _ _
    refine ks_if_ne_0 rfl ?_
    refine ks_ldc rfl ?_
    refine ks_ireturn rfl ?_
    -- at 10: ret  st ['-1000001']
    exact t0 c
theorem l_Msteps {n : Nat} (hn : n ≤ 20) (hb : s 3 + n ≤ 999) (W : tw_W 999 s) (Z : tw_Z s) (t : ∀ μ', RM μ' (hs_g m h s n).1 (hs_g m h s n).2 → μ' 81 = tw_go s n → FrM μ μ' → Q (some (kI (tw_go s n 4))) (kg L) μ') : ∀ (r j : Nat) (μ1 : kx_M), j + r = n → RM μ1 (hs_g m h s j).1 (hs_g m h s j).2 → μ1 81 = tw_go s j → FrM μ μ1 → kx_wx (ke (d + 3)) kt_M_steps Q 44 [some (kR 77), some (kI n), some (kI j)] [] (kg L) μ1 := by
  have W0 := tw_W_self W
  intro r
  induction r with
  | zero =>
    intro j μ1 hj R e F
    rw [Nat.add_zero] at hj
    subst hj
    refine ks_iload_n rfl rfl ?_
    refine ks_iload_n rfl rfl ?_
    -- at 46: if ge -> 63 else 49 st [None, None]
    refine ks_icmp_ge rfl ⟨by omega, by omega⟩ ⟨by omega, by omega⟩ (fun c => absurd c (by omega)) (fun c => ?_)
    refine ks_aload_n rfl rfl ?_
    refine ks_getr (b := 81) rfl rfl rfl rfl (by decide) ?_
    refine ks_iconst rfl ?_
    refine ks_iaload rfl rfl (by omega) (by omega) (by (try simp only [kx_up_at, kx_row_at, up1_at, Nat.reduceEqDiff, Int.reduceEq, Int.reduceNeg, and_true, true_and, and_false, false_and, and_self, reduceIte, Nat.add_left_cancel_iff, Nat.add_eq_left, Nat.left_eq_add, Nat.reduceAdd, Int.add_left_inj, Int.add_right_inj, e]); rfl) ?_
    refine ks_ireturn rfl ?_
    -- at 69: ret  st [None]
    exact t _ R e F
  | succ r ih =>
    intro j μ1 hj R e F
    have Wj := tw_W_mono (tw_W_go W0 j) (C := 999) (by omega)
    refine ks_iload_n rfl rfl ?_
    refine ks_iload_n rfl rfl ?_
    -- at 46: if ge -> 63 else 49 st [None, None]
    refine ks_icmp_ge rfl ⟨by omega, by omega⟩ ⟨by omega, by omega⟩ (fun c => ?_) (fun c => absurd c (by omega))
    refine ks_aload_n rfl rfl ?_
    refine ks_callv_1 rfl rfl rfl (Nat.le_of_ble_eq_true rfl) ?_
    -- at 50: call M_note st []
    refine r_note2 R (fun μ2 R2 F2 F3 => ?_)
    show kx_wx _ _ _ _ _ _ _ _
    refine ks_aload_n rfl rfl ?_
    refine ks_callv_1 rfl rfl rfl (Nat.le_of_ble_eq_true rfl) ?_
    -- at 54: call M_oneStep st []
    have e2 : μ2 81 = tw_go s j := by rw [F3 81 (by omega) (by omega)]; exact e
    refine r_oneStep (B := 999) (by omega) e2 Wj ?_
    show kx_wx _ _ _ _ _ _ _ _
    refine ks_iinc_2 rfl rfl ?_
    refine ks_goto rfl ?_
    -- at 44: stop  st []
    rw [e] at R2
    refine ih (j + 1) _ (by omega) (RM_fr R2 (by rw [kx_row_ne (by omega)]) (by rw [kx_row_ne (by omega)])) (kx_row_self _ _ _) ⟨fun j hj => ?_, fun c a1 a2 a3 => ?_⟩
    · rw [kx_row_ne (by omega), F2 j hj, F.1 j hj]
    · rw [kx_row_ne (by omega), F3 c a3 a1, F.2 c a1 a2 a3]
theorem r_Msteps (hv : kx_in v) (hs : μ 81 = s) (N : TN s) (I : IT μ s) (R : RM μ m h) (t0 : s 1 = 0 → Q (some (kI (-1000002))) (kg L) μ) (t1 : 1 ≤ s 1 → ¬ (1 ≤ v ∧ v ≤ 20) → Q (some (kI (-1000001))) (kg L) μ) (t3 : 1 ≤ s 1 → 1 ≤ v → v ≤ 20 → 999 < s 3 + v → Q (some (kI (-1000003))) (kg L) μ) (t2 : 1 ≤ s 1 → 1 ≤ v → v ≤ 20 → s 3 + v ≤ 999 → ∀ μ', RM μ' (hs_g m h s v.toNat).1 (hs_g m h s v.toNat).2 → μ' 81 = tw_go s v.toNat → FrM μ μ' → Q (some (kI (tw_go s v.toNat 4))) (kg L) μ') : kx_cx (ke (d + 4)) 143 [kR 77, kI v] (kg L) μ Q := by
  refine ke_start (tb := kt_M_steps) (ls := [some (kR 77), some (kI v), none]) rfl rfl ?_
  obtain ⟨i0, i1, i2, i3⟩ := IT_in I
  obtain ⟨n1, n2, n3⟩ := TN_in N
  obtain ⟨_, _⟩ := hv
  refine ks_aload_n rfl rfl ?_
  refine ks_geti rfl rfl rfl rfl (by (try simp only [kx_up_at, kx_row_at, up1_at, Nat.reduceEqDiff, Int.reduceEq, Int.reduceNeg, and_true, true_and, and_false, false_and, and_self, reduceIte, Nat.add_left_cancel_iff, Nat.add_eq_left, Nat.left_eq_add, Nat.reduceAdd, Int.add_left_inj, Int.add_right_inj]); rfl) ?_
  -- at 4: if ne -> 10 else 7 st [None]
  refine ks_if_ne rfl ⟨by omega, by omega⟩ (fun c => ?_) (fun c => ?_)
  · refine ks_ldc rfl ?_
    refine ks_ireturn rfl ?_
    -- at 9: ret  st ['-1000002']
    exact t0 (by omega)
  · refine ks_iload_n rfl rfl ?_
    refine ks_i2l rfl ⟨by omega, by omega⟩ ?_
    refine ks_lconst rfl ?_
    refine ks_ldc2_w rfl ?_
    refine ks_calls_3 rfl (Nat.le_of_ble_eq_true rfl) ?_
    -- at 16: call M_in st []
    refine r_in ⟨by omega, by omega⟩ ⟨by omega, by omega⟩ ⟨by omega, by omega⟩ (fun c2 => ?_) (fun c2 => ?_)
    · obtain ⟨W, Z⟩ := TN_W N (by omega)
      have w5 := W.2.2.2.2.1
      show kx_wx _ _ _ _ _ (_ :: _) _ _
      refine ks_if_ne_1 rfl ?_
      refine ks_aload_n rfl rfl ?_
      refine ks_getr (b := 81) rfl rfl rfl rfl (by decide) ?_
      refine ks_iconst rfl ?_
      refine ks_iaload rfl rfl (by omega) (by omega) (by (try simp only [kx_up_at, kx_row_at, up1_at, Nat.reduceEqDiff, Int.reduceEq, Int.reduceNeg, and_true, true_and, and_false, false_and, and_self, reduceIte, Nat.add_left_cancel_iff, Nat.add_eq_left, Nat.left_eq_add, Nat.reduceAdd, Int.add_left_inj, Int.add_right_inj, hs]); rfl) ?_
      refine ks_iload_n rfl rfl ?_
      refine ks_iadd rfl ?_
      refine ks_sipush rfl ?_
      -- at 36: if le -> 42 else 39 st ['999', None]
      refine ks_icmp_le rfl ⟨by omega, by omega⟩ ⟨by omega, by omega⟩ (fun c3 => ?_) (fun c3 => ?_)
      · refine ks_ldc rfl ?_
        refine ks_ireturn rfl ?_
        -- at 41: ret  st ['-1000003']
        exact t3 (by omega) c2.1 c2.2 c3
      · refine ks_iconst rfl ?_
        refine ks_istore_n_2 rfl rfl ?_
        -- at 44: stop  st []
        have ev : v = (v.toNat : Int) := by omega
        generalize v.toNat = n at *
        subst ev
        exact l_Msteps (by omega) (by omega) W Z (fun μ' a b c => t2 (by omega) (by omega) (by omega) (by omega) μ' a b c) n 0 μ (by omega) R hs ⟨fun _ _ => rfl, fun _ _ _ _ => rfl⟩
    · show kx_wx _ _ _ _ _ (_ :: _) _ _
      refine ks_if_ne_0 rfl ?_
      refine ks_ldc rfl ?_
      refine ks_ireturn rfl ?_
      -- at 24: ret  st ['-1000001']
      exact t1 (by omega) c2
end AF
