/-! small questions, images, on both sides -/
def q_hd (s : Int → Int) (v w : Int) : Int := if w = 0 then s (12 + v) else if w = 1 then s (18 + v) else if w = 2 then (if s 4 = v then 1 else 0) else if w = 3 then s (24 + v) else -1000001
def q_oh (s : Int → Int) (v w : Int) : Int := if w = 0 then s (30 + v) else if w = 1 then s (34 + v) else if w = 2 then s (38 + v) else -1000001
def q_ht (s : Int → Int) (w : Int) : Int := if w = 0 then s 4 else if w = 1 then s 5 else if w = 2 then s 0 else if w = 3 then s 3 else -1000001
def q_rc (f : Int → Int) : Nat → Int
  | 0 => 0
  | n + 1 => q_rc f n + (if f n = -1 then 0 else 1)
theorem q_rc_in {f : Int → Int} : ∀ n : Nat, 0 ≤ q_rc f n ∧ q_rc f n ≤ n := by
  intro n
  induction n with
  | zero => exact ⟨Int.le_refl 0, Int.le_refl 0⟩
  | succ n ih => simp only [q_rc]; split <;> omega
def q_ct (s f : Int → Int) (m k w : Int) : Int := if w = 0 then q_rc f 8 else if w = 1 then s 1 else if w = 2 then s 2 else if w = 3 then tw_ox s 0 (s 2).toNat else if w = 4 then tw_ox s 1 (s 2).toNat else if w = 5 then s 3 else if w = 6 then m else if w = 7 then k else -1000001
section XS
variable {d L : Nat} {G : kx_G} {μ : kx_M} {Q : Option kx_V → kx_G → kx_M → Prop} {s : Int → Int} {h b e v w : Int}
theorem r_Xhead (hv : kx_in v) (hw : kx_in w) (T : TR μ 30 s) (N : TN s) (t1 : ¬ (0 ≤ v ∧ v < s 1) → Q (some (kI (-1000001))) (kg L) μ) (t2 : 0 ≤ v → v < s 1 → Q (some (kI (q_hd s v w))) (kg L) μ) : kx_cx (ke (d + 2)) 82 [kR 1, kI v, kI w] (kg L) μ Q := by
  refine ke_start (tb := kt_X_head) (ls := [some (kR 1), some (kI v), some (kI w)]) rfl rfl ?_
  obtain ⟨n1, n2, n3⟩ := TN_in N
  have e8 := T.1
  have e11 := T.2.2.2.1
  obtain ⟨_, _⟩ := hw
  refine ks_aload_n rfl rfl ?_
  refine ks_getr (b := 30) rfl rfl rfl rfl (by decide) ?_
  refine ks_iload_n rfl rfl ?_
  refine ks_callv_2 rfl rfl rfl (Nat.le_of_ble_eq_true rfl) ?_
  -- at 5: call Town_hasHead st []
  refine r_hasHead (kg_T30 L) hv ⟨by omega, by omega⟩ (fun c => ?_) (fun c => ?_)
  · obtain ⟨W, Z⟩ := TN_W N (by omega)
    have w3 := W.2.2.1
    obtain ⟨k1, k2, k3, k4⟩ := T.2.2.2.2.2.2.1 v c.1 (by omega)
    have t3 := t2 c.1 (by omega)
    unfold q_hd at t3
    show kx_wx _ _ _ _ _ (_ :: _) _ _
    refine ks_if_ne_1 rfl ?_
    refine ks_iload_n rfl rfl ?_
    -- at 15: sw  st [None]
    refine ks_tsw rfl ⟨by omega, by omega⟩ ?_
    simp only [kx_sw, Int.reduceAdd]
    refine kx_ifs (fun g0 => ?_) (fun g0 => ?_)
    · rw [if_pos g0] at t3
      refine ks_aload_n rfl rfl ?_
      refine ks_getr (b := 30) rfl rfl rfl rfl (by decide) ?_
      refine ks_getr (b := 32) rfl rfl rfl rfl (by decide) ?_
      refine ks_iload_n rfl rfl ?_
      refine ks_iaload rfl rfl (by omega) (by omega) (by (try simp only [kx_up_at, kx_row_at, up1_at, Nat.reduceEqDiff, Int.reduceEq, Int.reduceNeg, and_true, true_and, and_false, false_and, and_self, reduceIte, Nat.add_left_cancel_iff, Nat.add_eq_left, Nat.left_eq_add, Nat.reduceAdd, Int.add_left_inj, Int.add_right_inj, k2, k3, k4, e11]); rfl) ?_
      refine ks_ireturn rfl ?_
      -- at 53: ret  st [None]
      exact t3
    rw [if_neg g0] at t3
    refine kx_ifs (fun g1 => ?_) (fun g1 => ?_)
    · rw [if_pos g1] at t3
      refine ks_aload_n rfl rfl ?_
      refine ks_getr (b := 30) rfl rfl rfl rfl (by decide) ?_
      refine ks_getr (b := 33) rfl rfl rfl rfl (by decide) ?_
      refine ks_iload_n rfl rfl ?_
      refine ks_iaload rfl rfl (by omega) (by omega) (by (try simp only [kx_up_at, kx_row_at, up1_at, Nat.reduceEqDiff, Int.reduceEq, Int.reduceNeg, and_true, true_and, and_false, false_and, and_self, reduceIte, Nat.add_left_cancel_iff, Nat.add_eq_left, Nat.left_eq_add, Nat.reduceAdd, Int.add_left_inj, Int.add_right_inj, k2, k3, k4, e11]); rfl) ?_
      refine ks_ireturn rfl ?_
      -- at 63: ret  st [None]
      exact t3
    rw [if_neg g1] at t3
    refine kx_ifs (fun g2 => ?_) (fun g2 => ?_)
    · rw [if_pos g2] at t3
      refine ks_aload_n rfl rfl ?_
      refine ks_getr (b := 30) rfl rfl rfl rfl (by decide) ?_
      refine ks_geti rfl rfl rfl rfl (by (try simp only [kx_up_at, kx_row_at, up1_at, Nat.reduceEqDiff, Int.reduceEq, Int.reduceNeg, and_true, true_and, and_false, false_and, and_self, reduceIte, Nat.add_left_cancel_iff, Nat.add_eq_left, Nat.left_eq_add, Nat.reduceAdd, Int.add_left_inj, Int.add_right_inj, k2, k3, k4, e11]); rfl) ?_
      refine ks_iload_n rfl rfl ?_
      -- at 72: if ne -> 79 else 75 st [None, None]
      refine ks_icmp_ne rfl ⟨by omega, by omega⟩ ⟨by omega, by omega⟩ (fun c3 => ?_) (fun c3 => ?_)
      · rw [if_pos c3] at t3
        refine ks_iconst rfl ?_
        refine ks_goto rfl ?_
        refine ks_ireturn rfl ?_
        -- at 80: ret  st ['1']
        exact t3
      · rw [if_neg c3] at t3
        refine ks_iconst rfl ?_
        refine ks_ireturn rfl ?_
        -- at 80: ret  st ['0']
        exact t3
    rw [if_neg g2] at t3
    refine kx_ifs (fun g3 => ?_) (fun g3 => ?_)
    · rw [if_pos g3] at t3
      refine ks_aload_n rfl rfl ?_
      refine ks_getr (b := 30) rfl rfl rfl rfl (by decide) ?_
      refine ks_getr (b := 34) rfl rfl rfl rfl (by decide) ?_
      refine ks_iload_n rfl rfl ?_
      refine ks_iaload rfl rfl (by omega) (by omega) (by (try simp only [kx_up_at, kx_row_at, up1_at, Nat.reduceEqDiff, Int.reduceEq, Int.reduceNeg, and_true, true_and, and_false, false_and, and_self, reduceIte, Nat.add_left_cancel_iff, Nat.add_eq_left, Nat.left_eq_add, Nat.reduceAdd, Int.add_left_inj, Int.add_right_inj, k2, k3, k4, e11]); rfl) ?_
      refine ks_ireturn rfl ?_
      -- at 90: ret  st [None]
      exact t3
    rw [if_neg g3] at t3
    refine ks_ldc rfl ?_
    refine ks_ireturn rfl ?_
    -- at 93: ret  st ['-1000001']
    exact t3
  · show kx_wx _ _ _ _ _ (_ :: _) _ _
    refine ks_if_ne_0 rfl ?_
    refine ks_ldc rfl ?_
    refine ks_ireturn rfl ?_
    -- at 13: ret  st ['-1000001']
    exact t1 (by omega)
theorem r_Mhead (hv : kx_in v) (hw : kx_in w) (hs : μ 81 = s) (N : TN s) (t1 : ¬ (0 ≤ v ∧ v < s 1) → Q (some (kI (-1000001))) (kg L) μ) (t2 : 0 ≤ v → v < s 1 → Q (some (kI (q_hd s v w))) (kg L) μ) : kx_cx (ke (d + 3)) 150 [kR 77, kI v, kI w] (kg L) μ Q := by
  refine ke_start (tb := kt_M_head) (ls := [some (kR 77), some (kI v), some (kI w)]) rfl rfl ?_
  obtain ⟨n1, n2, n3⟩ := TN_in N
  obtain ⟨_, _⟩ := hw
  refine ks_aload_n rfl rfl ?_
  refine ks_iload_n rfl rfl ?_
  refine ks_callv_2 rfl rfl rfl (Nat.le_of_ble_eq_true rfl) ?_
  -- at 2: call M_isHead st []
  refine r_isHead hv (by rw [hs]; exact ⟨by omega, by omega⟩) (fun c => ?_) (fun c => ?_)
  · rw [hs] at c
    obtain ⟨W, Z⟩ := TN_W N (by omega)
    have w3 := W.2.2.1
    have t3 := t2 c.1 (by omega)
    unfold q_hd at t3
    show kx_wx _ _ _ _ _ (_ :: _) _ _
    refine ks_if_ne_1 rfl ?_
    refine ks_iload_n rfl rfl ?_
    -- at 12: sw  st [None]
    refine ks_tsw rfl ⟨by omega, by omega⟩ ?_
    simp only [kx_sw, Int.reduceAdd]
    refine kx_ifs (fun g0 => ?_) (fun g0 => ?_)
    · rw [if_pos g0] at t3
      refine ks_aload_n rfl rfl ?_
      refine ks_getr (b := 81) rfl rfl rfl rfl (by decide) ?_
      refine ks_bipush rfl ?_
      refine ks_iload_n rfl rfl ?_
      refine ks_iadd rfl ?_
      refine ks_iaload rfl rfl (by omega) (by omega) (by (try simp only [kx_up_at, kx_row_at, up1_at, Nat.reduceEqDiff, Int.reduceEq, Int.reduceNeg, and_true, true_and, and_false, false_and, and_self, reduceIte, Nat.add_left_cancel_iff, Nat.add_eq_left, Nat.left_eq_add, Nat.reduceAdd, Int.add_left_inj, Int.add_right_inj, hs]); rfl) ?_
      refine ks_ireturn rfl ?_
      -- at 53: ret  st [None]
      exact t3
    rw [if_neg g0] at t3
    refine kx_ifs (fun g1 => ?_) (fun g1 => ?_)
    · rw [if_pos g1] at t3
      refine ks_aload_n rfl rfl ?_
      refine ks_getr (b := 81) rfl rfl rfl rfl (by decide) ?_
      refine ks_bipush rfl ?_
      refine ks_iload_n rfl rfl ?_
      refine ks_iadd rfl ?_
      refine ks_iaload rfl rfl (by omega) (by omega) (by (try simp only [kx_up_at, kx_row_at, up1_at, Nat.reduceEqDiff, Int.reduceEq, Int.reduceNeg, and_true, true_and, and_false, false_and, and_self, reduceIte, Nat.add_left_cancel_iff, Nat.add_eq_left, Nat.left_eq_add, Nat.reduceAdd, Int.add_left_inj, Int.add_right_inj, hs]); rfl) ?_
      refine ks_ireturn rfl ?_
      -- at 63: ret  st [None]
      exact t3
    rw [if_neg g1] at t3
    refine kx_ifs (fun g2 => ?_) (fun g2 => ?_)
    · rw [if_pos g2] at t3
      refine ks_aload_n rfl rfl ?_
      refine ks_getr (b := 81) rfl rfl rfl rfl (by decide) ?_
      refine ks_iconst rfl ?_
      refine ks_iaload rfl rfl (by omega) (by omega) (by (try simp only [kx_up_at, kx_row_at, up1_at, Nat.reduceEqDiff, Int.reduceEq, Int.reduceNeg, and_true, true_and, and_false, false_and, and_self, reduceIte, Nat.add_left_cancel_iff, Nat.add_eq_left, Nat.left_eq_add, Nat.reduceAdd, Int.add_left_inj, Int.add_right_inj, hs]); rfl) ?_
      refine ks_iload_n rfl rfl ?_
      -- at 71: if ne -> 78 else 74 st [None, None]
      refine ks_icmp_ne rfl ⟨by omega, by omega⟩ ⟨by omega, by omega⟩ (fun c3 => ?_) (fun c3 => ?_)
      · rw [if_pos c3] at t3
        refine ks_iconst rfl ?_
        refine ks_goto rfl ?_
        refine ks_ireturn rfl ?_
        -- at 79: ret  st ['1']
        exact t3
      · rw [if_neg c3] at t3
        refine ks_iconst rfl ?_
        refine ks_ireturn rfl ?_
        -- at 79: ret  st ['0']
        exact t3
    rw [if_neg g2] at t3
    refine kx_ifs (fun g3 => ?_) (fun g3 => ?_)
    · rw [if_pos g3] at t3
      refine ks_aload_n rfl rfl ?_
      refine ks_getr (b := 81) rfl rfl rfl rfl (by decide) ?_
      refine ks_bipush rfl ?_
      refine ks_iload_n rfl rfl ?_
      refine ks_iadd rfl ?_
      refine ks_iaload rfl rfl (by omega) (by omega) (by (try simp only [kx_up_at, kx_row_at, up1_at, Nat.reduceEqDiff, Int.reduceEq, Int.reduceNeg, and_true, true_and, and_false, false_and, and_self, reduceIte, Nat.add_left_cancel_iff, Nat.add_eq_left, Nat.left_eq_add, Nat.reduceAdd, Int.add_left_inj, Int.add_right_inj, hs]); rfl) ?_
      refine ks_ireturn rfl ?_
      -- at 89: ret  st [None]
      exact t3
    rw [if_neg g3] at t3
    refine ks_ldc rfl ?_
    refine ks_ireturn rfl ?_
    -- at 92: ret  st ['-1000001']
    exact t3
  · rw [hs] at c
    show kx_wx _ _ _ _ _ (_ :: _) _ _
    refine ks_if_ne_0 rfl ?_
    refine ks_ldc rfl ?_
    refine ks_ireturn rfl ?_
    -- at 10: ret  st ['-1000001']
    exact t1 c
theorem r_XorderHas (hv : kx_in v) (hw : kx_in w) (T : TR μ 30 s) (N : TN s) (t1 : ¬ (0 ≤ v ∧ v < s 2) → Q (some (kI (-1000001))) (kg L) μ) (t2 : 0 ≤ v → v < s 2 → Q (some (kI (q_oh s v w))) (kg L) μ) : kx_cx (ke (d + 2)) 83 [kR 1, kI v, kI w] (kg L) μ Q := by
  refine ke_start (tb := kt_X_orderHas) (ls := [some (kR 1), some (kI v), some (kI w)]) rfl rfl ?_
  obtain ⟨n1, n2, n3⟩ := TN_in N
  have e9 := T.2.1
  obtain ⟨_, _⟩ := hw
  refine ks_aload_n rfl rfl ?_
  refine ks_getr (b := 30) rfl rfl rfl rfl (by decide) ?_
  refine ks_iload_n rfl rfl ?_
  refine ks_callv_2 rfl rfl rfl (Nat.le_of_ble_eq_true rfl) ?_
  -- at 5: call Town_hasOrder st []
  refine r_hasOrder (kg_T30 L) hv ⟨by omega, by omega⟩ (fun c => ?_) (fun c => ?_)
  · obtain ⟨k1, k2, k3, k4⟩ := T.2.2.2.2.2.2.2 v c.1 (by omega)
    have t3 := t2 c.1 (by omega)
    unfold q_oh at t3
    show kx_wx _ _ _ _ _ (_ :: _) _ _
    refine ks_if_ne_1 rfl ?_
    refine ks_iload_n rfl rfl ?_
    -- at 15: sw  st [None]
    refine ks_tsw rfl ⟨by omega, by omega⟩ ?_
    simp only [kx_sw, Int.reduceAdd]
    refine kx_ifs (fun g0 => ?_) (fun g0 => ?_)
    · rw [if_pos g0] at t3
      refine ks_aload_n rfl rfl ?_
      refine ks_getr (b := 30) rfl rfl rfl rfl (by decide) ?_
      refine ks_getr (b := 35) rfl rfl rfl rfl (by decide) ?_
      refine ks_iload_n rfl rfl ?_
      refine ks_iaload rfl rfl (by omega) (by omega) (by (try simp only [kx_up_at, kx_row_at, up1_at, Nat.reduceEqDiff, Int.reduceEq, Int.reduceNeg, and_true, true_and, and_false, false_and, and_self, reduceIte, Nat.add_left_cancel_iff, Nat.add_eq_left, Nat.left_eq_add, Nat.reduceAdd, Int.add_left_inj, Int.add_right_inj, k1, k2, k3]); rfl) ?_
      refine ks_ireturn rfl ?_
      -- at 49: ret  st [None]
      exact t3
    rw [if_neg g0] at t3
    refine kx_ifs (fun g1 => ?_) (fun g1 => ?_)
    · rw [if_pos g1] at t3
      refine ks_aload_n rfl rfl ?_
      refine ks_getr (b := 30) rfl rfl rfl rfl (by decide) ?_
      refine ks_getr (b := 36) rfl rfl rfl rfl (by decide) ?_
      refine ks_iload_n rfl rfl ?_
      refine ks_iaload rfl rfl (by omega) (by omega) (by (try simp only [kx_up_at, kx_row_at, up1_at, Nat.reduceEqDiff, Int.reduceEq, Int.reduceNeg, and_true, true_and, and_false, false_and, and_self, reduceIte, Nat.add_left_cancel_iff, Nat.add_eq_left, Nat.left_eq_add, Nat.reduceAdd, Int.add_left_inj, Int.add_right_inj, k1, k2, k3]); rfl) ?_
      refine ks_ireturn rfl ?_
      -- at 59: ret  st [None]
      exact t3
    rw [if_neg g1] at t3
    refine kx_ifs (fun g2 => ?_) (fun g2 => ?_)
    · rw [if_pos g2] at t3
      refine ks_aload_n rfl rfl ?_
      refine ks_getr (b := 30) rfl rfl rfl rfl (by decide) ?_
      refine ks_getr (b := 37) rfl rfl rfl rfl (by decide) ?_
      refine ks_iload_n rfl rfl ?_
      refine ks_iaload rfl rfl (by omega) (by omega) (by (try simp only [kx_up_at, kx_row_at, up1_at, Nat.reduceEqDiff, Int.reduceEq, Int.reduceNeg, and_true, true_and, and_false, false_and, and_self, reduceIte, Nat.add_left_cancel_iff, Nat.add_eq_left, Nat.left_eq_add, Nat.reduceAdd, Int.add_left_inj, Int.add_right_inj, k1, k2, k3]); rfl) ?_
      refine ks_ireturn rfl ?_
      -- at 69: ret  st [None]
      exact t3
    rw [if_neg g2] at t3
    refine ks_ldc rfl ?_
    refine ks_ireturn rfl ?_
    -- at 72: ret  st ['-1000001']
    exact t3
  · show kx_wx _ _ _ _ _ (_ :: _) _ _
    refine ks_if_ne_0 rfl ?_
    refine ks_ldc rfl ?_
    refine ks_ireturn rfl ?_
    -- at 13: ret  st ['-1000001']
    exact t1 (by omega)
theorem r_MorderHas (hv : kx_in v) (hw : kx_in w) (hs : μ 81 = s) (N : TN s) (t1 : ¬ (0 ≤ v ∧ v < s 2) → Q (some (kI (-1000001))) (kg L) μ) (t2 : 0 ≤ v → v < s 2 → Q (some (kI (q_oh s v w))) (kg L) μ) : kx_cx (ke (d + 3)) 151 [kR 77, kI v, kI w] (kg L) μ Q := by
  refine ke_start (tb := kt_M_orderHas) (ls := [some (kR 77), some (kI v), some (kI w)]) rfl rfl ?_
  obtain ⟨n1, n2, n3⟩ := TN_in N
  obtain ⟨_, _⟩ := hw
  refine ks_aload_n rfl rfl ?_
  refine ks_iload_n rfl rfl ?_
  refine ks_callv_2 rfl rfl rfl (Nat.le_of_ble_eq_true rfl) ?_
  -- at 2: call M_isOrder st []
  refine r_isOrder hv (by rw [hs]; exact ⟨by omega, by omega⟩) (fun c => ?_) (fun c => ?_)
  · rw [hs] at c
    have t3 := t2 c.1 (by omega)
    unfold q_oh at t3
    show kx_wx _ _ _ _ _ (_ :: _) _ _
    refine ks_if_eq_1 rfl ?_
    refine ks_iload_n rfl rfl ?_
    refine ks_i2l rfl ⟨by omega, by omega⟩ ?_
    refine ks_lconst rfl ?_
    refine ks_ldc2_w rfl ?_
    refine ks_calls_3 rfl (Nat.le_of_ble_eq_true rfl) ?_
    -- at 14: call M_in st []
    refine r_in ⟨by omega, by omega⟩ ⟨by omega, by omega⟩ ⟨by omega, by omega⟩ (fun c2 => ?_) (fun c2 => ?_)
    · show kx_wx _ _ _ _ _ (_ :: _) _ _
      refine ks_if_ne_1 rfl ?_
      refine ks_iload_n rfl rfl ?_
      -- at 24: if ne -> 39 else 27 st [None]
      refine ks_if_ne rfl ⟨by omega, by omega⟩ (fun g0 => ?_) (fun g0 => ?_)
      · rw [if_pos g0] at t3
        refine ks_aload_n rfl rfl ?_
        refine ks_getr (b := 81) rfl rfl rfl rfl (by decide) ?_
        refine ks_bipush rfl ?_
        refine ks_iload_n rfl rfl ?_
        refine ks_iadd rfl ?_
        refine ks_iaload rfl rfl (by omega) (by omega) (by (try simp only [kx_up_at, kx_row_at, up1_at, Nat.reduceEqDiff, Int.reduceEq, Int.reduceNeg, and_true, true_and, and_false, false_and, and_self, reduceIte, Nat.add_left_cancel_iff, Nat.add_eq_left, Nat.left_eq_add, Nat.reduceAdd, Int.add_left_inj, Int.add_right_inj, hs]); rfl) ?_
        refine ks_goto rfl ?_
        refine ks_ireturn rfl ?_
        -- at 65: ret  st [None]
        exact t3
      · rw [if_neg g0] at t3
        refine ks_iload_n rfl rfl ?_
        refine ks_iconst rfl ?_
        -- at 41: if ne -> 56 else 44 st ['1', None]
        refine ks_icmp_ne rfl ⟨by omega, by omega⟩ ⟨by omega, by omega⟩ (fun g1 => ?_) (fun g1 => ?_)
        · rw [if_pos g1] at t3
          refine ks_aload_n rfl rfl ?_
          refine ks_getr (b := 81) rfl rfl rfl rfl (by decide) ?_
          refine ks_bipush rfl ?_
          refine ks_iload_n rfl rfl ?_
          refine ks_iadd rfl ?_
          refine ks_iaload rfl rfl (by omega) (by omega) (by (try simp only [kx_up_at, kx_row_at, up1_at, Nat.reduceEqDiff, Int.reduceEq, Int.reduceNeg, and_true, true_and, and_false, false_and, and_self, reduceIte, Nat.add_left_cancel_iff, Nat.add_eq_left, Nat.left_eq_add, Nat.reduceAdd, Int.add_left_inj, Int.add_right_inj, hs]); rfl) ?_
          refine ks_goto rfl ?_
          refine ks_ireturn rfl ?_
          -- at 65: ret  st [None]
          exact t3
        · rw [if_neg g1, if_pos (by omega)] at t3
          refine ks_aload_n rfl rfl ?_
          refine ks_getr (b := 81) rfl rfl rfl rfl (by decide) ?_
          refine ks_bipush rfl ?_
          refine ks_iload_n rfl rfl ?_
          refine ks_iadd rfl ?_
          refine ks_iaload rfl rfl (by omega) (by omega) (by (try simp only [kx_up_at, kx_row_at, up1_at, Nat.reduceEqDiff, Int.reduceEq, Int.reduceNeg, and_true, true_and, and_false, false_and, and_self, reduceIte, Nat.add_left_cancel_iff, Nat.add_eq_left, Nat.left_eq_add, Nat.reduceAdd, Int.add_left_inj, Int.add_right_inj, hs]); rfl) ?_
          refine ks_ireturn rfl ?_
          -- at 65: ret  st [None]
          exact t3
    · rw [if_neg (by omega), if_neg (by omega), if_neg (by omega)] at t3
      show kx_wx _ _ _ _ _ (_ :: _) _ _
      refine ks_if_ne_0 rfl ?_
      refine ks_ldc rfl ?_
      refine ks_ireturn rfl ?_
      -- at 22: ret  st ['-1000001']
      exact t3
  · rw [hs] at c
    show kx_wx _ _ _ _ _ (_ :: _) _ _
    refine ks_if_eq_0 rfl ?_
    refine ks_ldc rfl ?_
    refine ks_ireturn rfl ?_
    -- at 22: ret  st ['-1000001']
    exact t1 c
theorem r_Xhat (hw : kx_in w) (T : TR μ 30 s) (N : TN s) (t1 : s 1 = 0 → Q (some (kI (-1000002))) (kg L) μ) (t2 : 1 ≤ s 1 → Q (some (kI (q_ht s w))) (kg L) μ) : kx_cx (ke (d + 2)) 84 [kR 1, kI w] (kg L) μ Q := by
  refine ke_start (tb := kt_X_hat) (ls := [some (kR 1), some (kI w)]) rfl rfl ?_
  obtain ⟨n1, n2, n3⟩ := TN_in N
  obtain ⟨e8, e9, e10, e11, e12, e13, eh, eo⟩ := T
  obtain ⟨_, _⟩ := hw
  refine ks_aload_n rfl rfl ?_
  refine ks_callv_1 rfl rfl rfl (Nat.le_of_ble_eq_true rfl) ?_
  -- at 1: call X_isNoTown st []
  refine r_isNoTown ⟨by omega, by omega⟩ (fun c => ?_) (fun c => ?_)
  · show kx_wx _ _ _ _ _ (_ :: _) _ _
    refine ks_if_eq_1 rfl ?_
    refine ks_ldc rfl ?_
    refine ks_ireturn rfl ?_
    -- at 9: ret  st ['-1000002']
    exact t1 (by omega)
  · have t3 := t2 (by omega)
    unfold q_ht at t3
    show kx_wx _ _ _ _ _ (_ :: _) _ _
    refine ks_if_eq_0 rfl ?_
    refine ks_iload_n rfl rfl ?_
    -- at 11: sw  st [None]
    refine ks_tsw rfl ⟨by omega, by omega⟩ ?_
    simp only [kx_sw, Int.reduceAdd]
    refine kx_ifs (fun g0 => ?_) (fun g0 => ?_)
    · rw [if_pos g0] at t3
      refine ks_aload_n rfl rfl ?_
      refine ks_getr (b := 30) rfl rfl rfl rfl (by decide) ?_
      refine ks_geti rfl rfl rfl rfl (by (try simp only [kx_up_at, kx_row_at, up1_at, Nat.reduceEqDiff, Int.reduceEq, Int.reduceNeg, and_true, true_and, and_false, false_and, and_self, reduceIte, Nat.add_left_cancel_iff, Nat.add_eq_left, Nat.left_eq_add, Nat.reduceAdd, Int.add_left_inj, Int.add_right_inj, e10, e11, e12, e13]); rfl) ?_
      refine ks_ireturn rfl ?_
      -- at 47: ret  st [None]
      exact t3
    rw [if_neg g0] at t3
    refine kx_ifs (fun g1 => ?_) (fun g1 => ?_)
    · rw [if_pos g1] at t3
      refine ks_aload_n rfl rfl ?_
      refine ks_getr (b := 30) rfl rfl rfl rfl (by decide) ?_
      refine ks_geti rfl rfl rfl rfl (by (try simp only [kx_up_at, kx_row_at, up1_at, Nat.reduceEqDiff, Int.reduceEq, Int.reduceNeg, and_true, true_and, and_false, false_and, and_self, reduceIte, Nat.add_left_cancel_iff, Nat.add_eq_left, Nat.left_eq_add, Nat.reduceAdd, Int.add_left_inj, Int.add_right_inj, e10, e11, e12, e13]); rfl) ?_
      refine ks_ireturn rfl ?_
      -- at 55: ret  st [None]
      exact t3
    rw [if_neg g1] at t3
    refine kx_ifs (fun g2 => ?_) (fun g2 => ?_)
    · rw [if_pos g2] at t3
      refine ks_aload_n rfl rfl ?_
      refine ks_getr (b := 30) rfl rfl rfl rfl (by decide) ?_
      refine ks_geti rfl rfl rfl rfl (by (try simp only [kx_up_at, kx_row_at, up1_at, Nat.reduceEqDiff, Int.reduceEq, Int.reduceNeg, and_true, true_and, and_false, false_and, and_self, reduceIte, Nat.add_left_cancel_iff, Nat.add_eq_left, Nat.left_eq_add, Nat.reduceAdd, Int.add_left_inj, Int.add_right_inj, e10, e11, e12, e13]); rfl) ?_
      refine ks_ireturn rfl ?_
      -- at 63: ret  st [None]
      exact t3
    rw [if_neg g2] at t3
    refine kx_ifs (fun g3 => ?_) (fun g3 => ?_)
    · rw [if_pos g3] at t3
      refine ks_aload_n rfl rfl ?_
      refine ks_getr (b := 30) rfl rfl rfl rfl (by decide) ?_
      refine ks_geti rfl rfl rfl rfl (by (try simp only [kx_up_at, kx_row_at, up1_at, Nat.reduceEqDiff, Int.reduceEq, Int.reduceNeg, and_true, true_and, and_false, false_and, and_self, reduceIte, Nat.add_left_cancel_iff, Nat.add_eq_left, Nat.left_eq_add, Nat.reduceAdd, Int.add_left_inj, Int.add_right_inj, e10, e11, e12, e13]); rfl) ?_
      refine ks_ireturn rfl ?_
      -- at 71: ret  st [None]
      exact t3
    rw [if_neg g3] at t3
    refine ks_ldc rfl ?_
    refine ks_ireturn rfl ?_
    -- at 74: ret  st ['-1000001']
    exact t3
theorem r_Mhat (hw : kx_in w) (hs : μ 81 = s) (I : IT μ s) (t1 : s 1 = 0 → Q (some (kI (-1000002))) (kg L) μ) (t2 : 1 ≤ s 1 → Q (some (kI (q_ht s w))) (kg L) μ) : kx_cx (ke (d + 2)) 152 [kR 77, kI w] (kg L) μ Q := by
  refine ke_start (tb := kt_M_hat) (ls := [some (kR 77), some (kI w)]) rfl rfl ?_
  obtain ⟨i0, i1, i2, i3⟩ := IT_in I
  obtain ⟨_, _⟩ := hw
  refine ks_aload_n rfl rfl ?_
  refine ks_geti rfl rfl rfl rfl (by (try simp only [kx_up_at, kx_row_at, up1_at, Nat.reduceEqDiff, Int.reduceEq, Int.reduceNeg, and_true, true_and, and_false, false_and, and_self, reduceIte, Nat.add_left_cancel_iff, Nat.add_eq_left, Nat.left_eq_add, Nat.reduceAdd, Int.add_left_inj, Int.add_right_inj]); rfl) ?_
  -- at 4: if ne -> 10 else 7 st [None]
  refine ks_if_ne rfl ⟨by omega, by omega⟩ (fun c => ?_) (fun c => ?_)
  · refine ks_ldc rfl ?_
    refine ks_ireturn rfl ?_
    -- at 9: ret  st ['-1000002']
    exact t1 (by omega)
  · have t3 := t2 (by omega)
    unfold q_ht at t3
    refine ks_iload_n rfl rfl ?_
    -- at 11: sw  st [None]
    refine ks_tsw rfl ⟨by omega, by omega⟩ ?_
    simp only [kx_sw, Int.reduceAdd]
    refine kx_ifs (fun g0 => ?_) (fun g0 => ?_)
    · rw [if_pos g0] at t3
      refine ks_aload_n rfl rfl ?_
      refine ks_getr (b := 81) rfl rfl rfl rfl (by decide) ?_
      refine ks_iconst rfl ?_
      refine ks_iaload rfl rfl (by omega) (by omega) (by (try simp only [kx_up_at, kx_row_at, up1_at, Nat.reduceEqDiff, Int.reduceEq, Int.reduceNeg, and_true, true_and, and_false, false_and, and_self, reduceIte, Nat.add_left_cancel_iff, Nat.add_eq_left, Nat.left_eq_add, Nat.reduceAdd, Int.add_left_inj, Int.add_right_inj, hs]); rfl) ?_
      refine ks_ireturn rfl ?_
      -- at 46: ret  st [None]
      exact t3
    rw [if_neg g0] at t3
    refine kx_ifs (fun g1 => ?_) (fun g1 => ?_)
    · rw [if_pos g1] at t3
      refine ks_aload_n rfl rfl ?_
      refine ks_getr (b := 81) rfl rfl rfl rfl (by decide) ?_
      refine ks_iconst rfl ?_
      refine ks_iaload rfl rfl (by omega) (by omega) (by (try simp only [kx_up_at, kx_row_at, up1_at, Nat.reduceEqDiff, Int.reduceEq, Int.reduceNeg, and_true, true_and, and_false, false_and, and_self, reduceIte, Nat.add_left_cancel_iff, Nat.add_eq_left, Nat.left_eq_add, Nat.reduceAdd, Int.add_left_inj, Int.add_right_inj, hs]); rfl) ?_
      refine ks_ireturn rfl ?_
      -- at 53: ret  st [None]
      exact t3
    rw [if_neg g1] at t3
    refine kx_ifs (fun g2 => ?_) (fun g2 => ?_)
    · rw [if_pos g2] at t3
      refine ks_aload_n rfl rfl ?_
      refine ks_getr (b := 81) rfl rfl rfl rfl (by decide) ?_
      refine ks_iconst rfl ?_
      refine ks_iaload rfl rfl (by omega) (by omega) (by (try simp only [kx_up_at, kx_row_at, up1_at, Nat.reduceEqDiff, Int.reduceEq, Int.reduceNeg, and_true, true_and, and_false, false_and, and_self, reduceIte, Nat.add_left_cancel_iff, Nat.add_eq_left, Nat.left_eq_add, Nat.reduceAdd, Int.add_left_inj, Int.add_right_inj, hs]); rfl) ?_
      refine ks_ireturn rfl ?_
      -- at 60: ret  st [None]
      exact t3
    rw [if_neg g2] at t3
    refine kx_ifs (fun g3 => ?_) (fun g3 => ?_)
    · rw [if_pos g3] at t3
      refine ks_aload_n rfl rfl ?_
      refine ks_getr (b := 81) rfl rfl rfl rfl (by decide) ?_
      refine ks_iconst rfl ?_
      refine ks_iaload rfl rfl (by omega) (by omega) (by (try simp only [kx_up_at, kx_row_at, up1_at, Nat.reduceEqDiff, Int.reduceEq, Int.reduceNeg, and_true, true_and, and_false, false_and, and_self, reduceIte, Nat.add_left_cancel_iff, Nat.add_eq_left, Nat.left_eq_add, Nat.reduceAdd, Int.add_left_inj, Int.add_right_inj, hs]); rfl) ?_
      refine ks_ireturn rfl ?_
      -- at 67: ret  st [None]
      exact t3
    rw [if_neg g3] at t3
    refine ks_ldc rfl ?_
    refine ks_ireturn rfl ?_
    -- at 70: ret  st ['-1000001']
    exact t3
theorem r_Xfault (t : Q (some (kI (μ 1 9))) (kg L) μ) : kx_cx (ke (d + 1)) 75 [kR 1] (kg L) μ Q := by
  refine ke_start (tb := kt_X_fault) (ls := [some (kR 1)]) rfl rfl ?_
  refine ks_aload_n rfl rfl ?_
  refine ks_geti rfl rfl rfl rfl (by (try simp only [kx_up_at, kx_row_at, up1_at, Nat.reduceEqDiff, Int.reduceEq, Int.reduceNeg, and_true, true_and, and_false, false_and, and_self, reduceIte, Nat.add_left_cancel_iff, Nat.add_eq_left, Nat.left_eq_add, Nat.reduceAdd, Int.add_left_inj, Int.add_right_inj]); rfl) ?_
  refine ks_ireturn rfl ?_
  -- at 4: ret  st [None]
  exact t
theorem r_Mfault (t : Q (some (kI (μ 77 9))) (kg L) μ) : kx_cx (ke (d + 1)) 136 [kR 77] (kg L) μ Q := by
  refine ke_start (tb := kt_M_fault) (ls := [some (kR 77)]) rfl rfl ?_
  refine ks_aload_n rfl rfl ?_
  refine ks_geti rfl rfl rfl rfl (by (try simp only [kx_up_at, kx_row_at, up1_at, Nat.reduceEqDiff, Int.reduceEq, Int.reduceNeg, and_true, true_and, and_false, false_and, and_self, reduceIte, Nat.add_left_cancel_iff, Nat.add_eq_left, Nat.left_eq_add, Nat.reduceAdd, Int.add_left_inj, Int.add_right_inj]); rfl) ?_
  refine ks_ireturn rfl ?_
  -- at 4: ret  st [None]
  exact t
theorem r_Xstatus (t : Q (some (kI (μ 1 10))) (kg L) μ) : kx_cx (ke (d + 1)) 104 [kR 1] (kg L) μ Q := by
  refine ke_start (tb := kt_X_status) (ls := [some (kR 1)]) rfl rfl ?_
  refine ks_aload_n rfl rfl ?_
  refine ks_geti rfl rfl rfl rfl (by (try simp only [kx_up_at, kx_row_at, up1_at, Nat.reduceEqDiff, Int.reduceEq, Int.reduceNeg, and_true, true_and, and_false, false_and, and_self, reduceIte, Nat.add_left_cancel_iff, Nat.add_eq_left, Nat.left_eq_add, Nat.reduceAdd, Int.add_left_inj, Int.add_right_inj]); rfl) ?_
  refine ks_ireturn rfl ?_
  -- at 4: ret  st [None]
  exact t
theorem r_Mstatus (t : Q (some (kI (μ 77 3))) (kg L) μ) : kx_cx (ke (d + 1)) 190 [kR 77] (kg L) μ Q := by
  refine ke_start (tb := kt_M_status) (ls := [some (kR 77)]) rfl rfl ?_
  refine ks_aload_n rfl rfl ?_
  refine ks_geti rfl rfl rfl rfl (by (try simp only [kx_up_at, kx_row_at, up1_at, Nat.reduceEqDiff, Int.reduceEq, Int.reduceNeg, and_true, true_and, and_false, false_and, and_self, reduceIte, Nat.add_left_cancel_iff, Nat.add_eq_left, Nat.left_eq_add, Nat.reduceAdd, Int.add_left_inj, Int.add_right_inj]); rfl) ?_
  refine ks_ireturn rfl ?_
  -- at 4: ret  st [None]
  exact t
theorem l_rowsThere {f : Int → Int} (hf : ∀ i : Nat, i < 8 → μ (3 + 2 * i) 2 = f i) (hb : ∀ i : Nat, i < 8 → -1 ≤ f i ∧ f i ≤ 40) (t : Q (some (kI (q_rc f 8))) (kg L) μ) : ∀ (r j : Nat), j + r = 8 → kx_wx (ke (d + 1)) kt_X_rowsThere Q 4 [some (kR 1), some (kI (q_rc f j)), some (kI j)] [] (kg L) μ := by
  intro r
  induction r with
  | zero =>
    intro j hj
    rw [Nat.add_zero] at hj
    subst hj
    refine ks_iload_n rfl rfl ?_
    refine ks_bipush rfl ?_
    -- at 7: if ge -> 31 else 10 st ['8', None]
    refine ks_icmp_ge rfl ⟨by omega, by omega⟩ ⟨by omega, by omega⟩ (fun c => absurd c (by omega)) (fun c => ?_)
    refine ks_iload_n rfl rfl ?_
    refine ks_ireturn rfl ?_
    -- at 32: ret  st [None]
    exact t
  | succ r ih =>
    intro j hj
    have b := hb j (by omega)
    have e := hf j (by omega)
    obtain ⟨a1, a2⟩ := kg_rows L (i := (j : Int)) (by omega) (by omega)
    rw [Int.toNat_natCast] at a1 a2
    have qs : q_rc f (j + 1) = q_rc f j + (if f j = -1 then 0 else 1) := rfl
    generalize hw9 : 3 + 2 * j = w at *
    have a3 := a2.1
    refine ks_iload_n rfl rfl ?_
    refine ks_bipush rfl ?_
    -- at 7: if ge -> 31 else 10 st ['8', None]
    refine ks_icmp_ge rfl ⟨by omega, by omega⟩ ⟨by omega, by omega⟩ (fun c => ?_) (fun c => absurd c (by omega))
    refine ks_aload_n rfl rfl ?_
    refine ks_getr (b := 2) rfl rfl rfl rfl (by decide) ?_
    refine ks_iload_n rfl rfl ?_
    refine ks_aaload (b := w) rfl rfl (Or.inl rfl) (by omega) (by omega) a1 (by omega) ?_
    refine ks_callv_1 rfl rfl (by assumption) (Nat.le_of_ble_eq_true rfl) ?_
    -- at 16: call Row_isMissing st []
    refine r_isMissing a2 ⟨by omega, by omega⟩ (fun c2 => ?_) (fun c2 => ?_)
    · rw [if_pos (by omega), Int.add_zero] at qs
      show kx_wx _ _ _ _ _ (_ :: _) _ _
      refine ks_if_ne_1 rfl ?_
      refine ks_iinc_2 rfl rfl ?_
      refine ks_goto rfl ?_
      -- at 4: stop  st []
      rw [← qs]
      exact ih (j + 1) (by omega)
    · rw [if_neg (by omega)] at qs
      show kx_wx _ _ _ _ _ (_ :: _) _ _
      refine ks_if_ne_0 rfl ?_
      refine ks_iinc_1 rfl rfl ?_
      refine ks_iinc_2 rfl rfl ?_
      refine ks_goto rfl ?_
      -- at 4: stop  st []
      rw [← qs]
      exact ih (j + 1) (by omega)
theorem r_rowsThere {f : Int → Int} (hf : ∀ i : Nat, i < 8 → μ (3 + 2 * i) 2 = f i) (hb : ∀ i : Nat, i < 8 → -1 ≤ f i ∧ f i ≤ 40) (t : Q (some (kI (q_rc f 8))) (kg L) μ) : kx_cx (ke (d + 2)) 108 [kR 1] (kg L) μ Q := by
  refine ke_start (tb := kt_X_rowsThere) (ls := [some (kR 1), none, none]) rfl rfl ?_
  refine ks_iconst rfl ?_
  refine ks_istore_n_1 rfl rfl ?_
  refine ks_iconst rfl ?_
  refine ks_istore_n_2 rfl rfl ?_
  -- at 4: stop  st []
  exact l_rowsThere hf hb t 8 0 (by omega)
theorem r_ota {x : Int} (hx : 0 ≤ x ∧ x ≤ 2) (T : TR μ 30 s) (N : TN s) (t : Q (some (kI (tw_ox s x (s 2).toNat))) (kg L) μ) : kx_cx (ke (d + 1)) 59 [kR 30, kI x] (kg L) μ Q := by
  rcases N with N | ⟨W, Z⟩
  · have e9 := T.2.1
    rw [N 2] at e9 t
    refine ke_start (tb := kt_Town_ordersThatAre) (ls := [some (kR 30), some (kI x), none, none]) rfl rfl ?_
    refine ks_iconst rfl ?_
    refine ks_istore_n_2 rfl rfl ?_
    refine ks_iconst rfl ?_
    refine ks_istore_n_3 rfl rfl ?_
    refine ks_iload_n rfl rfl ?_
    refine ks_aload_n rfl rfl ?_
    refine ks_geti rfl rfl rfl rfl (by (try simp only [kx_up_at, kx_row_at, up1_at, Nat.reduceEqDiff, Int.reduceEq, Int.reduceNeg, and_true, true_and, and_false, false_and, and_self, reduceIte, Nat.add_left_cancel_iff, Nat.add_eq_left, Nat.left_eq_add, Nat.reduceAdd, Int.add_left_inj, Int.add_right_inj, e9]); rfl) ?_
    -- at 9: if ge -> 31 else 12 st [None, '0']
    refine ks_icmp_ge rfl ⟨by omega, by omega⟩ ⟨by omega, by omega⟩ (fun c => absurd c (by omega)) (fun c => ?_)
    refine ks_iload_n rfl rfl ?_
    refine ks_ireturn rfl ?_
    -- at 32: ret  st ['0']
    exact t
  · exact r_ordersThatAre hx (kg_T30 L) T (tw_U_of W) t
theorem r_Xcount {f : Int → Int} {m k : Int} (hw : kx_in w) (T : TR μ 30 s) (N : TN s) (hf : ∀ i : Nat, i < 8 → μ (3 + 2 * i) 2 = f i) (hb : ∀ i : Nat, i < 8 → -1 ≤ f i ∧ f i ≤ 40) (hm : μ 39 5 = m) (hk : μ 19 1 = k) (t : Q (some (kI (q_ct s f m k w))) (kg L) μ) : kx_cx (ke (d + 3)) 103 [kR 1, kI w] (kg L) μ Q := by
  refine ke_start (tb := kt_X_count) (ls := [some (kR 1), some (kI w)]) rfl rfl ?_
  have T0 := T
  obtain ⟨e8, e9, e10, e11, e12, e13, eh, eo⟩ := T
  obtain ⟨_, _⟩ := hw
  unfold q_ct at t
  refine ks_iload_n rfl rfl ?_
  -- at 1: sw  st [None]
  refine ks_tsw rfl ⟨by omega, by omega⟩ ?_
  simp only [kx_sw, Int.reduceAdd]
  refine kx_ifs (fun g0 => ?_) (fun g0 => ?_)
  · rw [if_pos g0] at t
    refine ks_aload_n rfl rfl ?_
    refine ks_callv_1 rfl rfl rfl (Nat.le_of_ble_eq_true rfl) ?_
    -- at 49: call X_rowsThere st []
    refine r_rowsThere hf hb ?_
    show kx_wx _ _ _ _ _ (_ :: _) _ _
    refine ks_ireturn rfl ?_
    -- at 52: ret  st [None]
    exact t
  rw [if_neg g0] at t
  refine kx_ifs (fun g1 => ?_) (fun g1 => ?_)
  · rw [if_pos g1] at t
    refine ks_aload_n rfl rfl ?_
    refine ks_getr (b := 30) rfl rfl rfl rfl (by decide) ?_
    refine ks_geti rfl rfl rfl rfl (by (try simp only [kx_up_at, kx_row_at, up1_at, Nat.reduceEqDiff, Int.reduceEq, Int.reduceNeg, and_true, true_and, and_false, false_and, and_self, reduceIte, Nat.add_left_cancel_iff, Nat.add_eq_left, Nat.left_eq_add, Nat.reduceAdd, Int.add_left_inj, Int.add_right_inj, e8, e9, e13, hm, hk]); rfl) ?_
    refine ks_ireturn rfl ?_
    -- at 60: ret  st [None]
    exact t
  rw [if_neg g1] at t
  refine kx_ifs (fun g2 => ?_) (fun g2 => ?_)
  · rw [if_pos g2] at t
    refine ks_aload_n rfl rfl ?_
    refine ks_getr (b := 30) rfl rfl rfl rfl (by decide) ?_
    refine ks_geti rfl rfl rfl rfl (by (try simp only [kx_up_at, kx_row_at, up1_at, Nat.reduceEqDiff, Int.reduceEq, Int.reduceNeg, and_true, true_and, and_false, false_and, and_self, reduceIte, Nat.add_left_cancel_iff, Nat.add_eq_left, Nat.left_eq_add, Nat.reduceAdd, Int.add_left_inj, Int.add_right_inj, e8, e9, e13, hm, hk]); rfl) ?_
    refine ks_ireturn rfl ?_
    -- at 68: ret  st [None]
    exact t
  rw [if_neg g2] at t
  refine kx_ifs (fun g3 => ?_) (fun g3 => ?_)
  · rw [if_pos g3] at t
    refine ks_aload_n rfl rfl ?_
    refine ks_getr (b := 30) rfl rfl rfl rfl (by decide) ?_
    refine ks_iconst rfl ?_
    refine ks_callv_2 rfl rfl rfl (Nat.le_of_ble_eq_true rfl) ?_
    -- at 74: call Town_ordersThatAre st []
    refine r_ota (by omega) T0 N ?_
    show kx_wx _ _ _ _ _ (_ :: _) _ _
    refine ks_ireturn rfl ?_
    -- at 77: ret  st [None]
    exact t
  rw [if_neg g3] at t
  refine kx_ifs (fun g4 => ?_) (fun g4 => ?_)
  · rw [if_pos g4] at t
    refine ks_aload_n rfl rfl ?_
    refine ks_getr (b := 30) rfl rfl rfl rfl (by decide) ?_
    refine ks_iconst rfl ?_
    refine ks_callv_2 rfl rfl rfl (Nat.le_of_ble_eq_true rfl) ?_
    -- at 83: call Town_ordersThatAre st []
    refine r_ota (by omega) T0 N ?_
    show kx_wx _ _ _ _ _ (_ :: _) _ _
    refine ks_ireturn rfl ?_
    -- at 86: ret  st [None]
    exact t
  rw [if_neg g4] at t
  refine kx_ifs (fun g5 => ?_) (fun g5 => ?_)
  · rw [if_pos g5] at t
    refine ks_aload_n rfl rfl ?_
    refine ks_getr (b := 30) rfl rfl rfl rfl (by decide) ?_
    refine ks_geti rfl rfl rfl rfl (by (try simp only [kx_up_at, kx_row_at, up1_at, Nat.reduceEqDiff, Int.reduceEq, Int.reduceNeg, and_true, true_and, and_false, false_and, and_self, reduceIte, Nat.add_left_cancel_iff, Nat.add_eq_left, Nat.left_eq_add, Nat.reduceAdd, Int.add_left_inj, Int.add_right_inj, e8, e9, e13, hm, hk]); rfl) ?_
    refine ks_ireturn rfl ?_
    -- at 94: ret  st [None]
    exact t
  rw [if_neg g5] at t
  refine kx_ifs (fun g6 => ?_) (fun g6 => ?_)
  · rw [if_pos g6] at t
    refine ks_aload_n rfl rfl ?_
    refine ks_getr (b := 39) rfl rfl rfl rfl (by decide) ?_
    refine ks_geti rfl rfl rfl rfl (by (try simp only [kx_up_at, kx_row_at, up1_at, Nat.reduceEqDiff, Int.reduceEq, Int.reduceNeg, and_true, true_and, and_false, false_and, and_self, reduceIte, Nat.add_left_cancel_iff, Nat.add_eq_left, Nat.left_eq_add, Nat.reduceAdd, Int.add_left_inj, Int.add_right_inj, e8, e9, e13, hm, hk]); rfl) ?_
    refine ks_ireturn rfl ?_
    -- at 102: ret  st [None]
    exact t
  rw [if_neg g6] at t
  refine kx_ifs (fun g7 => ?_) (fun g7 => ?_)
  · rw [if_pos g7] at t
    refine ks_aload_n rfl rfl ?_
    refine ks_getr (b := 19) rfl rfl rfl rfl (by decide) ?_
    refine ks_geti rfl rfl rfl rfl (by (try simp only [kx_up_at, kx_row_at, up1_at, Nat.reduceEqDiff, Int.reduceEq, Int.reduceNeg, and_true, true_and, and_false, false_and, and_self, reduceIte, Nat.add_left_cancel_iff, Nat.add_eq_left, Nat.left_eq_add, Nat.reduceAdd, Int.add_left_inj, Int.add_right_inj, e8, e9, e13, hm, hk]); rfl) ?_
    refine ks_ireturn rfl ?_
    -- at 110: ret  st [None]
    exact t
  rw [if_neg g7] at t
  refine ks_ldc rfl ?_
  refine ks_ireturn rfl ?_
  -- at 113: ret  st ['-1000001']
  exact t
theorem l_Mcount2 {a : Int} (n2 : 0 ≤ s 2 ∧ s 2 ≤ 4) (hs : μ 81 = s) (hk : ∀ k, 0 ≤ k → k < s 2 → 0 ≤ s (38 + k) ∧ s (38 + k) ≤ 2) (t : ∀ x4, kx_wx (ke (d + 1)) kt_M_count Q 77 [some (kR 77), some (kI w), some (kI a), some (kI (tw_ox s 1 (s 2).toNat)), x4] [] (kg L) μ) : ∀ (r j : Nat), j + r = (s 2).toNat → kx_wx (ke (d + 1)) kt_M_count Q 38 [some (kR 77), some (kI w), some (kI a), some (kI (tw_ox s 1 j)), some (kI j)] [] (kg L) μ := by
  intro r
  induction r with
  | zero =>
    intro j hj
    rw [Nat.add_zero] at hj
    refine ks_iload rfl rfl ?_
    refine ks_aload_n rfl rfl ?_
    refine ks_getr (b := 81) rfl rfl rfl rfl (by decide) ?_
    refine ks_iconst rfl ?_
    refine ks_iaload rfl rfl (by omega) (by omega) (by (try simp only [kx_up_at, kx_row_at, up1_at, Nat.reduceEqDiff, Int.reduceEq, Int.reduceNeg, and_true, true_and, and_false, false_and, and_self, reduceIte, Nat.add_left_cancel_iff, Nat.add_eq_left, Nat.left_eq_add, Nat.reduceAdd, Int.add_left_inj, Int.add_right_inj, hs]); rfl) ?_
    -- at 46: if ge -> 77 else 49 st [None, None]
    refine ks_icmp_ge rfl ⟨by omega, by omega⟩ ⟨by omega, by omega⟩ (fun c => absurd c (by omega)) (fun c => ?_)
    -- at 77: stop
    rw [hj]
    exact t _
  | succ r ih =>
    intro j hj
    have b := hk j (by omega) (by omega)
    have qs : tw_ox s 1 (j + 1) = tw_ox s 1 j + (if s (38 + j) = 1 then 1 else 0) := rfl
    refine ks_iload rfl rfl ?_
    refine ks_aload_n rfl rfl ?_
    refine ks_getr (b := 81) rfl rfl rfl rfl (by decide) ?_
    refine ks_iconst rfl ?_
    refine ks_iaload rfl rfl (by omega) (by omega) (by (try simp only [kx_up_at, kx_row_at, up1_at, Nat.reduceEqDiff, Int.reduceEq, Int.reduceNeg, and_true, true_and, and_false, false_and, and_self, reduceIte, Nat.add_left_cancel_iff, Nat.add_eq_left, Nat.left_eq_add, Nat.reduceAdd, Int.add_left_inj, Int.add_right_inj, hs]); rfl) ?_
    -- at 46: if ge -> 77 else 49 st [None, None]
    refine ks_icmp_ge rfl ⟨by omega, by omega⟩ ⟨by omega, by omega⟩ (fun c => ?_) (fun c => absurd c (by omega))
    refine ks_iload_n rfl rfl ?_
    refine ks_aload_n rfl rfl ?_
    refine ks_getr (b := 81) rfl rfl rfl rfl (by decide) ?_
    refine ks_bipush rfl ?_
    refine ks_iload rfl rfl ?_
    refine ks_iadd rfl ?_
    refine ks_iaload rfl rfl (by omega) (by omega) (by (try simp only [kx_up_at, kx_row_at, up1_at, Nat.reduceEqDiff, Int.reduceEq, Int.reduceNeg, and_true, true_and, and_false, false_and, and_self, reduceIte, Nat.add_left_cancel_iff, Nat.add_eq_left, Nat.left_eq_add, Nat.reduceAdd, Int.add_left_inj, Int.add_right_inj, hs]); rfl) ?_
    refine ks_iconst rfl ?_
    -- at 61: if ne -> 68 else 64 st ['1', None, None]
    refine ks_icmp_ne rfl ⟨by omega, by omega⟩ ⟨by omega, by omega⟩ (fun c2 => ?_) (fun c2 => ?_)
    · rw [if_pos c2] at qs
      refine ks_iconst rfl ?_
      refine ks_goto rfl ?_
      refine ks_iadd rfl ?_
      refine ks_istore_n_3 rfl rfl ?_
      refine ks_iinc_4 rfl rfl ?_
      refine ks_goto rfl ?_
      -- at 38: stop  st []
      rw [← qs]
      exact ih (j + 1) (by omega)
    · rw [if_neg c2] at qs
      refine ks_iconst rfl ?_
      refine ks_iadd rfl ?_
      refine ks_istore_n_3 rfl rfl ?_
      refine ks_iinc_4 rfl rfl ?_
      refine ks_goto rfl ?_
      -- at 38: stop  st []
      rw [← qs]
      exact ih (j + 1) (by omega)
theorem l_Mcount1 {f : Int → Int} (hf : μ 79 = f) (hb : ∀ i : Int, 0 ≤ i → i < 8 → -1 ≤ f i ∧ f i ≤ 40) (t : ∀ x3, kx_wx (ke (d + 1)) kt_M_count Q 33 [some (kR 77), some (kI w), some (kI (q_rc f 8)), x3, none] [] (kg L) μ) : ∀ (r j : Nat), j + r = 8 → kx_wx (ke (d + 1)) kt_M_count Q 4 [some (kR 77), some (kI w), some (kI (q_rc f j)), some (kI j), none] [] (kg L) μ := by
  intro r
  induction r with
  | zero =>
    intro j hj
    rw [Nat.add_zero] at hj
    subst hj
    refine ks_iload_n rfl rfl ?_
    refine ks_bipush rfl ?_
    -- at 7: if ge -> 33 else 10 st ['8', None]
    refine ks_icmp_ge rfl ⟨by omega, by omega⟩ ⟨by omega, by omega⟩ (fun c => absurd c (by omega)) (fun c => ?_)
    -- at 33: stop
    exact t _
  | succ r ih =>
    intro j hj
    have b := hb j (by omega) (by omega)
    have qs : q_rc f (j + 1) = q_rc f j + (if f j = -1 then 0 else 1) := rfl
    refine ks_iload_n rfl rfl ?_
    refine ks_bipush rfl ?_
    -- at 7: if ge -> 33 else 10 st ['8', None]
    refine ks_icmp_ge rfl ⟨by omega, by omega⟩ ⟨by omega, by omega⟩ (fun c => ?_) (fun c => absurd c (by omega))
    refine ks_iload_n rfl rfl ?_
    refine ks_aload_n rfl rfl ?_
    refine ks_getr (b := 79) rfl rfl rfl rfl (by decide) ?_
    refine ks_iload_n rfl rfl ?_
    refine ks_iaload rfl rfl (by omega) (by omega) (by (try simp only [kx_up_at, kx_row_at, up1_at, Nat.reduceEqDiff, Int.reduceEq, Int.reduceNeg, and_true, true_and, and_false, false_and, and_self, reduceIte, Nat.add_left_cancel_iff, Nat.add_eq_left, Nat.left_eq_add, Nat.reduceAdd, Int.add_left_inj, Int.add_right_inj, hf]); rfl) ?_
    -- at 17: if lt -> 24 else 20 st [None, None]
    refine ks_if_lt rfl ⟨by omega, by omega⟩ (fun c2 => ?_) (fun c2 => ?_)
    · rw [if_pos (by omega)] at qs
      refine ks_iconst rfl ?_
      refine ks_iadd rfl ?_
      refine ks_istore_n_2 rfl rfl ?_
      refine ks_iinc_3 rfl rfl ?_
      refine ks_goto rfl ?_
      -- at 4: stop  st []
      rw [← qs]
      exact ih (j + 1) (by omega)
    · rw [if_neg (by omega)] at qs
      refine ks_iconst rfl ?_
      refine ks_goto rfl ?_
      refine ks_iadd rfl ?_
      refine ks_istore_n_2 rfl rfl ?_
      refine ks_iinc_3 rfl rfl ?_
      refine ks_goto rfl ?_
      -- at 4: stop  st []
      rw [← qs]
      exact ih (j + 1) (by omega)
theorem r_Mcount {f : Int → Int} {m k : Int} (hw : kx_in w) (hs : μ 81 = s) (N : TN s) (hf : μ 79 = f) (hb : ∀ i : Int, 0 ≤ i → i < 8 → -1 ≤ f i ∧ f i ≤ 40) (hm : μ 77 17 = m) (hk : μ 77 8 = k) (t : Q (some (kI (q_ct s f m k w))) (kg L) μ) : kx_cx (ke (d + 2)) 189 [kR 77, kI w] (kg L) μ Q := by
  refine ke_start (tb := kt_M_count) (ls := [some (kR 77), some (kI w), none, none, none]) rfl rfl ?_
  obtain ⟨n1, n2, n3⟩ := TN_in N
  have hho : ∀ k, 0 ≤ k → k < s 2 → 0 ≤ s (38 + k) ∧ s (38 + k) ≤ 2 := by
    intro k k0 k1
    obtain ⟨W, Z⟩ := TN_W N (by omega)
    exact (W.2.2.2.2.2.2.2 k k0 k1).2.2.1
  obtain ⟨_, _⟩ := hw
  unfold q_ct at t
  refine ks_iconst rfl ?_
  refine ks_istore_n_2 rfl rfl ?_
  refine ks_iconst rfl ?_
  refine ks_istore_n_3 rfl rfl ?_
  -- at 4: stop  st []
  refine l_Mcount1 hf hb (fun x3 => ?_) 8 0 (by omega)
  refine ks_iconst rfl ?_
  refine ks_istore_n_3 rfl rfl ?_
  refine ks_iconst rfl ?_
  refine ks_istore_4 rfl rfl ?_
  -- at 38: stop  st []
  refine l_Mcount2 n2 hs hho (fun x4 => ?_) (s 2).toNat 0 (by omega)
  refine ks_iload_n rfl rfl ?_
  -- at 78: sw  st [None]
  refine ks_tsw rfl ⟨by omega, by omega⟩ ?_
  simp only [kx_sw, Int.reduceAdd]
  refine kx_ifs (fun g0 => ?_) (fun g0 => ?_)
  · rw [if_pos g0] at t
    refine ks_iload_n rfl rfl ?_
    refine ks_ireturn rfl ?_
    -- at 125: ret  st [None]
    exact t
  rw [if_neg g0] at t
  refine kx_ifs (fun g1 => ?_) (fun g1 => ?_)
  · rw [if_pos g1] at t
    refine ks_aload_n rfl rfl ?_
    refine ks_getr (b := 81) rfl rfl rfl rfl (by decide) ?_
    refine ks_iconst rfl ?_
    refine ks_iaload rfl rfl (by omega) (by omega) (by (try simp only [kx_up_at, kx_row_at, up1_at, Nat.reduceEqDiff, Int.reduceEq, Int.reduceNeg, and_true, true_and, and_false, false_and, and_self, reduceIte, Nat.add_left_cancel_iff, Nat.add_eq_left, Nat.left_eq_add, Nat.reduceAdd, Int.add_left_inj, Int.add_right_inj, hs, hm, hk]); rfl) ?_
    refine ks_ireturn rfl ?_
    -- at 132: ret  st [None]
    exact t
  rw [if_neg g1] at t
  refine kx_ifs (fun g2 => ?_) (fun g2 => ?_)
  · rw [if_pos g2] at t
    refine ks_aload_n rfl rfl ?_
    refine ks_getr (b := 81) rfl rfl rfl rfl (by decide) ?_
    refine ks_iconst rfl ?_
    refine ks_iaload rfl rfl (by omega) (by omega) (by (try simp only [kx_up_at, kx_row_at, up1_at, Nat.reduceEqDiff, Int.reduceEq, Int.reduceNeg, and_true, true_and, and_false, false_and, and_self, reduceIte, Nat.add_left_cancel_iff, Nat.add_eq_left, Nat.left_eq_add, Nat.reduceAdd, Int.add_left_inj, Int.add_right_inj, hs, hm, hk]); rfl) ?_
    refine ks_ireturn rfl ?_
    -- at 139: ret  st [None]
    exact t
  rw [if_neg g2] at t
  refine kx_ifs (fun g3 => ?_) (fun g3 => ?_)
  · rw [if_pos g3] at t
    refine ks_aload_n rfl rfl ?_
    refine ks_callv_1 rfl rfl rfl (Nat.le_of_ble_eq_true rfl) ?_
    -- at 141: call M_outMany st []
    refine r_outMany hs hho n2 ?_
    show kx_wx _ _ _ _ _ (_ :: _) _ _
    refine ks_ireturn rfl ?_
    -- at 144: ret  st [None]
    rw [tw_ox_oc] at t
    exact t
  rw [if_neg g3] at t
  refine kx_ifs (fun g4 => ?_) (fun g4 => ?_)
  · rw [if_pos g4] at t
    refine ks_iload_n rfl rfl ?_
    refine ks_ireturn rfl ?_
    -- at 146: ret  st [None]
    exact t
  rw [if_neg g4] at t
  refine kx_ifs (fun g5 => ?_) (fun g5 => ?_)
  · rw [if_pos g5] at t
    refine ks_aload_n rfl rfl ?_
    refine ks_getr (b := 81) rfl rfl rfl rfl (by decide) ?_
    refine ks_iconst rfl ?_
    refine ks_iaload rfl rfl (by omega) (by omega) (by (try simp only [kx_up_at, kx_row_at, up1_at, Nat.reduceEqDiff, Int.reduceEq, Int.reduceNeg, and_true, true_and, and_false, false_and, and_self, reduceIte, Nat.add_left_cancel_iff, Nat.add_eq_left, Nat.left_eq_add, Nat.reduceAdd, Int.add_left_inj, Int.add_right_inj, hs, hm, hk]); rfl) ?_
    refine ks_ireturn rfl ?_
    -- at 153: ret  st [None]
    exact t
  rw [if_neg g5] at t
  refine kx_ifs (fun g6 => ?_) (fun g6 => ?_)
  · rw [if_pos g6] at t
    refine ks_aload_n rfl rfl ?_
    refine ks_geti rfl rfl rfl rfl (by (try simp only [kx_up_at, kx_row_at, up1_at, Nat.reduceEqDiff, Int.reduceEq, Int.reduceNeg, and_true, true_and, and_false, false_and, and_self, reduceIte, Nat.add_left_cancel_iff, Nat.add_eq_left, Nat.left_eq_add, Nat.reduceAdd, Int.add_left_inj, Int.add_right_inj, hs, hm, hk]); rfl) ?_
    refine ks_ireturn rfl ?_
    -- at 158: ret  st [None]
    exact t
  rw [if_neg g6] at t
  refine kx_ifs (fun g7 => ?_) (fun g7 => ?_)
  · rw [if_pos g7] at t
    refine ks_aload_n rfl rfl ?_
    refine ks_geti rfl rfl rfl rfl (by (try simp only [kx_up_at, kx_row_at, up1_at, Nat.reduceEqDiff, Int.reduceEq, Int.reduceNeg, and_true, true_and, and_false, false_and, and_self, reduceIte, Nat.add_left_cancel_iff, Nat.add_eq_left, Nat.left_eq_add, Nat.reduceAdd, Int.add_left_inj, Int.add_right_inj, hs, hm, hk]); rfl) ?_
    refine ks_ireturn rfl ?_
    -- at 163: ret  st [None]
    exact t
  rw [if_neg g7] at t
  refine ks_ldc rfl ?_
  refine ks_ireturn rfl ?_
  -- at 166: ret  st ['-1000001']
  exact t
end XS
