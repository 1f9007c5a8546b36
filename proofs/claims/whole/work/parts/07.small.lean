section SM
variable {d L : Nat} {G : kx_G} {μ : kx_M} {Q : Option kx_V → kx_G → kx_M → Prop}
theorem r_isBetween {v lo hi : Int} (hv : kx_in v) (hl : kx_in lo) (hh : kx_in hi) (t1 : lo ≤ v ∧ v ≤ hi → Q (some (kI 1)) G μ) (t0 : ¬ (lo ≤ v ∧ v ≤ hi) → Q (some (kI 0)) G μ) : kx_cx (ke (d + 1)) 113 [kI v, kI lo, kI hi] G μ Q := by
  obtain ⟨_, _⟩ := hv; obtain ⟨_, _⟩ := hl; obtain ⟨_, _⟩ := hh
  refine ke_start (tb := kt_X_isBetween) (ls := [some (kI v), some (kI lo), some (kI hi)]) rfl rfl ?_
  refine ks_iload_n rfl rfl ?_
  refine ks_iload_n rfl rfl ?_
  refine ks_icmp_gt rfl ⟨by omega, by omega⟩ ⟨by omega, by omega⟩ (fun h1 => ?_) (fun h1 => ?_)
  · refine ks_iconst rfl ?_
    refine ks_zreturn rfl (by omega) ?_
    first | exact t1 (by omega) | exact t0 (by omega)
  · refine ks_iload_n rfl rfl ?_
    refine ks_iload_n rfl rfl ?_
    refine ks_icmp_gt rfl ⟨by omega, by omega⟩ ⟨by omega, by omega⟩ (fun h2 => ?_) (fun h2 => ?_)
    · refine ks_iconst rfl ?_
      refine ks_zreturn rfl (by omega) ?_
      first | exact t1 (by omega) | exact t0 (by omega)
    · refine ks_iconst rfl ?_
      refine ks_goto rfl ?_
      refine ks_zreturn rfl (by omega) ?_
      first | exact t1 (by omega) | exact t0 (by omega)
theorem r_isRow {v : Int} (hv : kx_in v) (t1 : 0 ≤ v ∧ v ≤ 7 → Q (some (kI 1)) G μ) (t0 : ¬ (0 ≤ v ∧ v ≤ 7) → Q (some (kI 0)) G μ) : kx_cx (ke (d + 2)) 110 [kI v] G μ Q := by
  obtain ⟨_, _⟩ := hv
  refine ke_start (tb := kt_X_isRow) (ls := [some (kI v)]) rfl rfl ?_
  refine ks_iload_n rfl rfl ?_
  refine ks_iconst rfl ?_
  refine ks_bipush rfl ?_
  refine ks_calls_3 rfl (Nat.le_of_ble_eq_true rfl) ?_
  refine r_isBetween ⟨by omega, by omega⟩ ⟨by omega, by omega⟩ ⟨by omega, by omega⟩ (fun h1 => ?_) (fun h1 => ?_)
  · show kx_wx _ _ _ _ _ (_ :: _) _ _
    refine ks_zreturn rfl (by omega) ?_
    first | exact t1 (by omega) | exact t0 (by omega)
  · show kx_wx _ _ _ _ _ (_ :: _) _ _
    refine ks_zreturn rfl (by omega) ?_
    first | exact t1 (by omega) | exact t0 (by omega)
theorem r_isImage {v : Int} (hv : kx_in v) (t1 : 0 ≤ v ∧ v ≤ 1 → Q (some (kI 1)) G μ) (t0 : ¬ (0 ≤ v ∧ v ≤ 1) → Q (some (kI 0)) G μ) : kx_cx (ke (d + 2)) 111 [kI v] G μ Q := by
  obtain ⟨_, _⟩ := hv
  refine ke_start (tb := kt_X_isImage) (ls := [some (kI v)]) rfl rfl ?_
  refine ks_iload_n rfl rfl ?_
  refine ks_iconst rfl ?_
  refine ks_iconst rfl ?_
  refine ks_calls_3 rfl (Nat.le_of_ble_eq_true rfl) ?_
  refine r_isBetween ⟨by omega, by omega⟩ ⟨by omega, by omega⟩ ⟨by omega, by omega⟩ (fun h1 => ?_) (fun h1 => ?_)
  · show kx_wx _ _ _ _ _ (_ :: _) _ _
    refine ks_zreturn rfl (by omega) ?_
    first | exact t1 (by omega) | exact t0 (by omega)
  · show kx_wx _ _ _ _ _ (_ :: _) _ _
    refine ks_zreturn rfl (by omega) ?_
    first | exact t1 (by omega) | exact t0 (by omega)
theorem r_isSpan {v : Int} (hv : kx_in v) (t1 : 0 ≤ v ∧ v ≤ 60 → Q (some (kI 1)) G μ) (t0 : ¬ (0 ≤ v ∧ v ≤ 60) → Q (some (kI 0)) G μ) : kx_cx (ke (d + 2)) 112 [kI v] G μ Q := by
  obtain ⟨_, _⟩ := hv
  refine ke_start (tb := kt_X_isSpan) (ls := [some (kI v)]) rfl rfl ?_
  refine ks_iload_n rfl rfl ?_
  refine ks_iconst rfl ?_
  refine ks_bipush rfl ?_
  refine ks_calls_3 rfl (Nat.le_of_ble_eq_true rfl) ?_
  refine r_isBetween ⟨by omega, by omega⟩ ⟨by omega, by omega⟩ ⟨by omega, by omega⟩ (fun h1 => ?_) (fun h1 => ?_)
  · show kx_wx _ _ _ _ _ (_ :: _) _ _
    refine ks_zreturn rfl (by omega) ?_
    first | exact t1 (by omega) | exact t0 (by omega)
  · show kx_wx _ _ _ _ _ (_ :: _) _ _
    refine ks_zreturn rfl (by omega) ?_
    first | exact t1 (by omega) | exact t0 (by omega)
theorem r_finding {n : Int} (t : Q (some (kI (-1000010 - n))) (kg L) (kx_up μ 1 10 n)) : kx_cx (ke (d + 1)) 105 [kR 1, kI n] (kg L) μ Q := by
  refine ke_start (tb := kt_X_finding) (ls := [some (kR 1), some (kI n)]) rfl rfl ?_
  refine ks_aload_n rfl rfl ?_
  refine ks_iload_n rfl rfl ?_
  refine ks_puti rfl rfl ?_
  refine ks_ldc_w rfl ?_
  refine ks_iload_n rfl rfl ?_
  refine ks_isub rfl ?_
  refine ks_ireturn rfl ?_
  exact t
theorem r_noFinding {n : Int} (t : Q (some (kI n)) (kg L) (kx_up μ 1 10 0)) : kx_cx (ke (d + 1)) 106 [kR 1, kI n] (kg L) μ Q := by
  refine ke_start (tb := kt_X_noFinding) (ls := [some (kR 1), some (kI n)]) rfl rfl ?_
  refine ks_aload_n rfl rfl ?_
  refine ks_iconst rfl ?_
  refine ks_puti rfl rfl ?_
  refine ks_iload_n rfl rfl ?_
  refine ks_ireturn rfl ?_
  exact t
theorem r_isNoTown (hb : kx_in (μ 30 8)) (t1 : μ 30 8 = 0 → Q (some (kI 1)) (kg L) μ) (t0 : ¬ μ 30 8 = 0 → Q (some (kI 0)) (kg L) μ) : kx_cx (ke (d + 1)) 109 [kR 1] (kg L) μ Q := by
  obtain ⟨_, _⟩ := hb
  refine ke_start (tb := kt_X_isNoTown) (ls := [some (kR 1)]) rfl rfl ?_
  refine ks_aload_n rfl rfl ?_
  refine ks_getr (b := 30) rfl rfl rfl rfl (by decide) ?_
  refine ks_geti rfl rfl rfl rfl (by (try simp only [kx_up_at, kx_row_at, up1_at, Nat.reduceEqDiff, Int.reduceEq, Int.reduceNeg, and_true, true_and, and_false, false_and, and_self, reduceIte, Nat.add_left_cancel_iff, Nat.add_eq_left, Nat.left_eq_add, Nat.reduceAdd, Int.add_left_inj, Int.add_right_inj]); rfl) ?_
  refine ks_if_ne rfl ⟨by omega, by omega⟩ (fun h1 => ?_) (fun h1 => ?_)
  · refine ks_iconst rfl ?_
    refine ks_goto rfl ?_
    refine ks_zreturn rfl (by omega) ?_
    first | exact t1 (by omega) | exact t0 (by omega)
  · refine ks_iconst rfl ?_
    refine ks_zreturn rfl (by omega) ?_
    first | exact t1 (by omega) | exact t0 (by omega)
theorem r_in {v lo hi : Int} (hv : kx_inL v) (hl : kx_inL lo) (hh : kx_inL hi) (t1 : lo ≤ v ∧ v ≤ hi → Q (some (kI 1)) G μ) (t0 : ¬ (lo ≤ v ∧ v ≤ hi) → Q (some (kI 0)) G μ) : kx_cx (ke (d + 1)) 116 [kL v, kL lo, kL hi] G μ Q := by
  obtain ⟨_, _⟩ := hv; obtain ⟨_, _⟩ := hl; obtain ⟨_, _⟩ := hh
  refine ke_start (tb := kt_M_in) (ls := [some (kL v), none, some (kL lo), none, some (kL hi), none]) rfl rfl ?_
  refine ks_lload_n rfl rfl ?_
  refine ks_lload_n rfl rfl ?_
  refine ks_lcmp rfl ⟨by omega, by omega⟩ ⟨by omega, by omega⟩ (fun hl => ?_) (fun hl => ?_) (fun hl => ?_)
  · refine ks_if_lt_m rfl ?_
    refine ks_iconst rfl ?_
    refine ks_zreturn rfl (by omega) ?_
    first | exact t1 (by omega) | exact t0 (by omega)
  · refine ks_if_lt_0 rfl ?_
    refine ks_lload_n rfl rfl ?_
    refine ks_lload rfl rfl ?_
    refine ks_lcmp rfl ⟨by omega, by omega⟩ ⟨by omega, by omega⟩ (fun hl => ?_) (fun hl => ?_) (fun hl => ?_)
    · refine ks_if_gt_m rfl ?_
      refine ks_iconst rfl ?_
      refine ks_goto rfl ?_
      refine ks_zreturn rfl (by omega) ?_
      first | exact t1 (by omega) | exact t0 (by omega)
    · refine ks_if_gt_0 rfl ?_
      refine ks_iconst rfl ?_
      refine ks_goto rfl ?_
      refine ks_zreturn rfl (by omega) ?_
      first | exact t1 (by omega) | exact t0 (by omega)
    · refine ks_if_gt_1 rfl ?_
      refine ks_iconst rfl ?_
      refine ks_zreturn rfl (by omega) ?_
      first | exact t1 (by omega) | exact t0 (by omega)
  · refine ks_if_lt_1 rfl ?_
    refine ks_lload_n rfl rfl ?_
    refine ks_lload rfl rfl ?_
    refine ks_lcmp rfl ⟨by omega, by omega⟩ ⟨by omega, by omega⟩ (fun hl => ?_) (fun hl => ?_) (fun hl => ?_)
    · refine ks_if_gt_m rfl ?_
      refine ks_iconst rfl ?_
      refine ks_goto rfl ?_
      refine ks_zreturn rfl (by omega) ?_
      first | exact t1 (by omega) | exact t0 (by omega)
    · refine ks_if_gt_0 rfl ?_
      refine ks_iconst rfl ?_
      refine ks_goto rfl ?_
      refine ks_zreturn rfl (by omega) ?_
      first | exact t1 (by omega) | exact t0 (by omega)
    · refine ks_if_gt_1 rfl ?_
      refine ks_iconst rfl ?_
      refine ks_zreturn rfl (by omega) ?_
      first | exact t1 (by omega) | exact t0 (by omega)
theorem r_MisRow {v : Int} (hv : kx_in v) (t1 : 0 ≤ v ∧ v ≤ 7 → Q (some (kI 1)) G μ) (t0 : ¬ (0 ≤ v ∧ v ≤ 7) → Q (some (kI 0)) G μ) : kx_cx (ke (d + 2)) 120 [kI v] G μ Q := by
  obtain ⟨_, _⟩ := hv
  refine ke_start (tb := kt_M_isRow) (ls := [some (kI v)]) rfl rfl ?_
  refine ks_iload_n rfl rfl ?_
  refine ks_i2l rfl ⟨by omega, by omega⟩ ?_
  refine ks_lconst rfl ?_
  refine ks_ldc2_w rfl ?_
  refine ks_calls_3 rfl (Nat.le_of_ble_eq_true rfl) ?_
  refine r_in ⟨by omega, by omega⟩ ⟨by omega, by omega⟩ ⟨by omega, by omega⟩ (fun h1 => ?_) (fun h1 => ?_)
  · show kx_wx _ _ _ _ _ (_ :: _) _ _
    refine ks_zreturn rfl (by omega) ?_
    first | exact t1 (by omega) | exact t0 (by omega)
  · show kx_wx _ _ _ _ _ (_ :: _) _ _
    refine ks_zreturn rfl (by omega) ?_
    first | exact t1 (by omega) | exact t0 (by omega)
theorem r_isFar {v : Int} (hv : kx_in v) (t1 : 0 ≤ v ∧ v ≤ 60 → Q (some (kI 1)) G μ) (t0 : ¬ (0 ≤ v ∧ v ≤ 60) → Q (some (kI 0)) G μ) : kx_cx (ke (d + 2)) 156 [kI v] G μ Q := by
  obtain ⟨_, _⟩ := hv
  refine ke_start (tb := kt_M_isFar) (ls := [some (kI v)]) rfl rfl ?_
  refine ks_iload_n rfl rfl ?_
  refine ks_i2l rfl ⟨by omega, by omega⟩ ?_
  refine ks_lconst rfl ?_
  refine ks_ldc2_w rfl ?_
  refine ks_calls_3 rfl (Nat.le_of_ble_eq_true rfl) ?_
  refine r_in ⟨by omega, by omega⟩ ⟨by omega, by omega⟩ ⟨by omega, by omega⟩ (fun h1 => ?_) (fun h1 => ?_)
  · show kx_wx _ _ _ _ _ (_ :: _) _ _
    refine ks_zreturn rfl (by omega) ?_
    first | exact t1 (by omega) | exact t0 (by omega)
  · show kx_wx _ _ _ _ _ (_ :: _) _ _
    refine ks_zreturn rfl (by omega) ?_
    first | exact t1 (by omega) | exact t0 (by omega)
theorem r_find {n : Int} (t : Q (some (kI (-1000010 - n))) (kg L) (kx_up μ 77 3 n)) : kx_cx (ke (d + 1)) 118 [kR 77, kI n] (kg L) μ Q := by
  refine ke_start (tb := kt_M_find) (ls := [some (kR 77), some (kI n)]) rfl rfl ?_
  refine ks_aload_n rfl rfl ?_
  refine ks_iload_n rfl rfl ?_
  refine ks_puti rfl rfl ?_
  refine ks_ldc rfl ?_
  refine ks_iload_n rfl rfl ?_
  refine ks_isub rfl ?_
  refine ks_ireturn rfl ?_
  exact t
theorem r_well {n : Int} (t : Q (some (kI n)) (kg L) (kx_up μ 77 3 0)) : kx_cx (ke (d + 1)) 119 [kR 77, kI n] (kg L) μ Q := by
  refine ke_start (tb := kt_M_well) (ls := [some (kR 77), some (kI n)]) rfl rfl ?_
  refine ks_aload_n rfl rfl ?_
  refine ks_iconst rfl ?_
  refine ks_puti rfl rfl ?_
  refine ks_iload_n rfl rfl ?_
  refine ks_ireturn rfl ?_
  exact t
theorem r_isHead {v : Int} (hv : kx_in v) (hb : kx_in (μ 81 1 - 1)) (t1 : 0 ≤ v ∧ v < μ 81 1 → Q (some (kI 1)) (kg L) μ) (t0 : ¬ (0 ≤ v ∧ v < μ 81 1) → Q (some (kI 0)) (kg L) μ) : kx_cx (ke (d + 2)) 137 [kR 77, kI v] (kg L) μ Q := by
  obtain ⟨_, _⟩ := hv; obtain ⟨_, _⟩ := hb
  refine ke_start (tb := kt_M_isHead) (ls := [some (kR 77), some (kI v)]) rfl rfl ?_
  refine ks_iload_n rfl rfl ?_
  refine ks_i2l rfl ⟨by omega, by omega⟩ ?_
  refine ks_lconst rfl ?_
  refine ks_aload_n rfl rfl ?_
  refine ks_getr (b := 81) rfl rfl rfl rfl (by decide) ?_
  refine ks_iconst rfl ?_
  refine ks_iaload rfl rfl (by omega) (by omega) (by (try simp only [kx_up_at, kx_row_at, up1_at, Nat.reduceEqDiff, Int.reduceEq, Int.reduceNeg, and_true, true_and, and_false, false_and, and_self, reduceIte, Nat.add_left_cancel_iff, Nat.add_eq_left, Nat.left_eq_add, Nat.reduceAdd, Int.add_left_inj, Int.add_right_inj]); rfl) ?_
  refine ks_iconst rfl ?_
  refine ks_isub rfl ?_
  refine ks_i2l rfl ⟨by omega, by omega⟩ ?_
  refine ks_calls_3 rfl (Nat.le_of_ble_eq_true rfl) ?_
  refine r_in ⟨by omega, by omega⟩ ⟨by omega, by omega⟩ ⟨by omega, by omega⟩ (fun h1 => ?_) (fun h1 => ?_)
  · show kx_wx _ _ _ _ _ (_ :: _) _ _
    refine ks_zreturn rfl (by omega) ?_
    first | exact t1 (by omega) | exact t0 (by omega)
  · show kx_wx _ _ _ _ _ (_ :: _) _ _
    refine ks_zreturn rfl (by omega) ?_
    first | exact t1 (by omega) | exact t0 (by omega)
theorem r_isOrder {v : Int} (hv : kx_in v) (hb : kx_in (μ 81 2 - 1)) (t1 : 0 ≤ v ∧ v < μ 81 2 → Q (some (kI 1)) (kg L) μ) (t0 : ¬ (0 ≤ v ∧ v < μ 81 2) → Q (some (kI 0)) (kg L) μ) : kx_cx (ke (d + 2)) 138 [kR 77, kI v] (kg L) μ Q := by
  obtain ⟨_, _⟩ := hv; obtain ⟨_, _⟩ := hb
  refine ke_start (tb := kt_M_isOrder) (ls := [some (kR 77), some (kI v)]) rfl rfl ?_
  refine ks_iload_n rfl rfl ?_
  refine ks_i2l rfl ⟨by omega, by omega⟩ ?_
  refine ks_lconst rfl ?_
  refine ks_aload_n rfl rfl ?_
  refine ks_getr (b := 81) rfl rfl rfl rfl (by decide) ?_
  refine ks_iconst rfl ?_
  refine ks_iaload rfl rfl (by omega) (by omega) (by (try simp only [kx_up_at, kx_row_at, up1_at, Nat.reduceEqDiff, Int.reduceEq, Int.reduceNeg, and_true, true_and, and_false, false_and, and_self, reduceIte, Nat.add_left_cancel_iff, Nat.add_eq_left, Nat.left_eq_add, Nat.reduceAdd, Int.add_left_inj, Int.add_right_inj]); rfl) ?_
  refine ks_iconst rfl ?_
  refine ks_isub rfl ?_
  refine ks_i2l rfl ⟨by omega, by omega⟩ ?_
  refine ks_calls_3 rfl (Nat.le_of_ble_eq_true rfl) ?_
  refine r_in ⟨by omega, by omega⟩ ⟨by omega, by omega⟩ ⟨by omega, by omega⟩ (fun h1 => ?_) (fun h1 => ?_)
  · show kx_wx _ _ _ _ _ (_ :: _) _ _
    refine ks_zreturn rfl (by omega) ?_
    first | exact t1 (by omega) | exact t0 (by omega)
  · show kx_wx _ _ _ _ _ (_ :: _) _ _
    refine ks_zreturn rfl (by omega) ?_
    first | exact t1 (by omega) | exact t0 (by omega)
theorem r_hasHead {a : Nat} {v : Int} (hT : kg_T L a) (hv : kx_in v) (hb : kx_in (μ a 8)) (t1 : 0 ≤ v ∧ v < μ a 8 → Q (some (kI 1)) (kg L) μ) (t0 : ¬ (0 ≤ v ∧ v < μ a 8) → Q (some (kI 0)) (kg L) μ) : kx_cx (ke (d + 1)) 57 [kR a, kI v] (kg L) μ Q := by
  obtain ⟨_, _⟩ := hv; obtain ⟨_, _⟩ := hb
  obtain ⟨_, _⟩ := hT
  refine ke_start (tb := kt_Town_hasHead) (ls := [some (kR a), some (kI v)]) rfl rfl ?_
  refine ks_iconst rfl ?_
  refine ks_iload_n rfl rfl ?_
  refine ks_icmp_gt rfl ⟨by omega, by omega⟩ ⟨by omega, by omega⟩ (fun h1 => ?_) (fun h1 => ?_)
  · refine ks_iconst rfl ?_
    refine ks_zreturn rfl (by omega) ?_
    first | exact t1 (by omega) | exact t0 (by omega)
  · refine ks_iload_n rfl rfl ?_
    refine ks_aload_n rfl rfl ?_
    refine ks_geti rfl rfl (by assumption) rfl (by (try simp only [kx_up_at, kx_row_at, up1_at, Nat.reduceEqDiff, Int.reduceEq, Int.reduceNeg, and_true, true_and, and_false, false_and, and_self, reduceIte, Nat.add_left_cancel_iff, Nat.add_eq_left, Nat.left_eq_add, Nat.reduceAdd, Int.add_left_inj, Int.add_right_inj]); rfl) ?_
    refine ks_icmp_ge rfl ⟨by omega, by omega⟩ ⟨by omega, by omega⟩ (fun h2 => ?_) (fun h2 => ?_)
    · refine ks_iconst rfl ?_
      refine ks_goto rfl ?_
      refine ks_zreturn rfl (by omega) ?_
      first | exact t1 (by omega) | exact t0 (by omega)
    · refine ks_iconst rfl ?_
      refine ks_zreturn rfl (by omega) ?_
      first | exact t1 (by omega) | exact t0 (by omega)
theorem r_hasOrder {a : Nat} {v : Int} (hT : kg_T L a) (hv : kx_in v) (hb : kx_in (μ a 9)) (t1 : 0 ≤ v ∧ v < μ a 9 → Q (some (kI 1)) (kg L) μ) (t0 : ¬ (0 ≤ v ∧ v < μ a 9) → Q (some (kI 0)) (kg L) μ) : kx_cx (ke (d + 1)) 58 [kR a, kI v] (kg L) μ Q := by
  obtain ⟨_, _⟩ := hv; obtain ⟨_, _⟩ := hb
  obtain ⟨_, _⟩ := hT
  refine ke_start (tb := kt_Town_hasOrder) (ls := [some (kR a), some (kI v)]) rfl rfl ?_
  refine ks_iconst rfl ?_
  refine ks_iload_n rfl rfl ?_
  refine ks_icmp_gt rfl ⟨by omega, by omega⟩ ⟨by omega, by omega⟩ (fun h1 => ?_) (fun h1 => ?_)
  · refine ks_iconst rfl ?_
    refine ks_zreturn rfl (by omega) ?_
    first | exact t1 (by omega) | exact t0 (by omega)
  · refine ks_iload_n rfl rfl ?_
    refine ks_aload_n rfl rfl ?_
    refine ks_geti rfl rfl (by assumption) rfl (by (try simp only [kx_up_at, kx_row_at, up1_at, Nat.reduceEqDiff, Int.reduceEq, Int.reduceNeg, and_true, true_and, and_false, false_and, and_self, reduceIte, Nat.add_left_cancel_iff, Nat.add_eq_left, Nat.left_eq_add, Nat.reduceAdd, Int.add_left_inj, Int.add_right_inj]); rfl) ?_
    refine ks_icmp_ge rfl ⟨by omega, by omega⟩ ⟨by omega, by omega⟩ (fun h2 => ?_) (fun h2 => ?_)
    · refine ks_iconst rfl ?_
      refine ks_goto rfl ?_
      refine ks_zreturn rfl (by omega) ?_
      first | exact t1 (by omega) | exact t0 (by omega)
    · refine ks_iconst rfl ?_
      refine ks_zreturn rfl (by omega) ?_
      first | exact t1 (by omega) | exact t0 (by omega)
theorem r_isMissing {a : Nat} (hR : kg_R L a) (hb : kx_in (μ a 2)) (t1 : μ a 2 = -1 → Q (some (kI 1)) (kg L) μ) (t0 : ¬ μ a 2 = -1 → Q (some (kI 0)) (kg L) μ) : kx_cx (ke (d + 1)) 31 [kR a] (kg L) μ Q := by
  obtain ⟨_, _⟩ := hb
  obtain ⟨_, _⟩ := hR
  refine ke_start (tb := kt_Row_isMissing) (ls := [some (kR a)]) rfl rfl ?_
  refine ks_aload_n rfl rfl ?_
  refine ks_geti rfl rfl (by assumption) rfl (by (try simp only [kx_up_at, kx_row_at, up1_at, Nat.reduceEqDiff, Int.reduceEq, Int.reduceNeg, and_true, true_and, and_false, false_and, and_self, reduceIte, Nat.add_left_cancel_iff, Nat.add_eq_left, Nat.left_eq_add, Nat.reduceAdd, Int.add_left_inj, Int.add_right_inj]); rfl) ?_
  refine ks_iconst rfl ?_
  refine ks_icmp_ne rfl ⟨by omega, by omega⟩ ⟨by omega, by omega⟩ (fun h1 => ?_) (fun h1 => ?_)
  · refine ks_iconst rfl ?_
    refine ks_goto rfl ?_
    refine ks_zreturn rfl (by omega) ?_
    first | exact t1 (by omega) | exact t0 (by omega)
  · refine ks_iconst rfl ?_
    refine ks_zreturn rfl (by omega) ?_
    first | exact t1 (by omega) | exact t0 (by omega)
theorem r_hasPlaces {a : Nat} {i n : Int} (hR : kg_R L a) (hi : kx_in i) (hn : kx_in n) (hb : kx_in (μ a 2)) (t1 : 0 ≤ i ∧ 0 ≤ n ∧ i + n ≤ μ a 2 → Q (some (kI 1)) (kg L) μ) (t0 : ¬ (0 ≤ i ∧ 0 ≤ n ∧ i + n ≤ μ a 2) → Q (some (kI 0)) (kg L) μ) : kx_cx (ke (d + 1)) 34 [kR a, kI i, kI n] (kg L) μ Q := by
  obtain ⟨_, _⟩ := hb; obtain ⟨_, _⟩ := hi; obtain ⟨_, _⟩ := hn
  obtain ⟨_, _⟩ := hR
  refine ke_start (tb := kt_Row_hasPlaces) (ls := [some (kR a), some (kI i), some (kI n)]) rfl rfl ?_
  refine ks_iload_n rfl rfl ?_
  refine ks_if_lt rfl ⟨by omega, by omega⟩ (fun h1 => ?_) (fun h1 => ?_)
  · refine ks_iconst rfl ?_
    refine ks_zreturn rfl (by omega) ?_
    first | exact t1 (by omega) | exact t0 (by omega)
  · refine ks_iload_n rfl rfl ?_
    refine ks_if_lt rfl ⟨by omega, by omega⟩ (fun h2 => ?_) (fun h2 => ?_)
    · refine ks_iconst rfl ?_
      refine ks_zreturn rfl (by omega) ?_
      first | exact t1 (by omega) | exact t0 (by omega)
    · refine ks_iload_n rfl rfl ?_
      refine ks_i2l rfl ⟨by omega, by omega⟩ ?_
      refine ks_iload_n rfl rfl ?_
      refine ks_i2l rfl ⟨by omega, by omega⟩ ?_
      refine ks_ladd rfl ?_
      refine ks_aload_n rfl rfl ?_
      refine ks_geti rfl rfl (by assumption) rfl (by (try simp only [kx_up_at, kx_row_at, up1_at, Nat.reduceEqDiff, Int.reduceEq, Int.reduceNeg, and_true, true_and, and_false, false_and, and_self, reduceIte, Nat.add_left_cancel_iff, Nat.add_eq_left, Nat.left_eq_add, Nat.reduceAdd, Int.add_left_inj, Int.add_right_inj]); rfl) ?_
      refine ks_i2l rfl ⟨by omega, by omega⟩ ?_
      refine ks_lcmp rfl ⟨by omega, by omega⟩ ⟨by omega, by omega⟩ (fun hl => ?_) (fun hl => ?_) (fun hl => ?_)
      · refine ks_if_gt_m rfl ?_
        refine ks_iconst rfl ?_
        refine ks_goto rfl ?_
        refine ks_zreturn rfl (by omega) ?_
        first | exact t1 (by omega) | exact t0 (by omega)
      · refine ks_if_gt_0 rfl ?_
        refine ks_iconst rfl ?_
        refine ks_goto rfl ?_
        refine ks_zreturn rfl (by omega) ?_
        first | exact t1 (by omega) | exact t0 (by omega)
      · refine ks_if_gt_1 rfl ?_
        refine ks_iconst rfl ?_
        refine ks_zreturn rfl (by omega) ?_
        first | exact t1 (by omega) | exact t0 (by omega)
end SM
