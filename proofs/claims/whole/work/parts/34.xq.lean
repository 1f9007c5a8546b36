/-! the class's face: foretold -/
theorem Fr_54 {μ μ' : kx_M} (F : Fr 45 μ μ') : F54 μ μ' := fun c hc => F c (by omega)
section XQ
variable {d L : Nat} {G : kx_G} {μ : kx_M} {Q : Option kx_V → kx_G → kx_M → Prop} {s : Int → Int} {h b e v w : Int}
theorem r_Xwho (hv : kx_in v) (T : TR μ 30 s) (N : TN s) (t0 : s 1 = 0 → Q (some (kI (-1000002))) (kg L) μ) (t1 : 1 ≤ s 1 → ¬ (0 ≤ v ∧ v ≤ 60) → Q (some (kI (-1000001))) (kg L) μ) (t2 : 1 ≤ s 1 → 0 ≤ v → v ≤ 60 → ∀ μ', F54 μ μ' → Q (some (kI (tw_go s v.toNat 4))) (kg L) μ') : kx_cx (ke (d + 6)) 85 [kR 1, kI v] (kg L) μ Q := by
  refine ke_start (tb := kt_X_who) (ls := [some (kR 1), some (kI v)]) rfl rfl ?_
  obtain ⟨n1, n2, n3⟩ := TN_in N
  have e8 := T.1
  refine ks_aload_n rfl rfl ?_
  refine ks_callv_1 rfl rfl rfl (Nat.le_of_ble_eq_true rfl) ?_
  -- at 1: call X_isNoTown st []
  refine r_isNoTown ⟨by omega, by omega⟩ (fun c => ?_) (fun c => ?_)
  · show kx_wx _ _ _ _ _ (_ :: _) _ _
    refine ks_if_eq_1 rfl ?_
    refine ks_ldc rfl ?_
    refine ks_ireturn rfl ?_
    -- at 9: ret  st ['-1000002']
    exact t0 (by omega)
  · show kx_wx _ _ _ _ _ (_ :: _) _ _
    refine ks_if_eq_0 rfl ?_
    refine ks_iload_n rfl rfl ?_
    refine ks_calls_1 rfl (Nat.le_of_ble_eq_true rfl) ?_
    -- at 11: call X_isSpan st []
    refine r_isSpan hv (fun c2 => ?_) (fun c2 => ?_)
    · obtain ⟨W, Z⟩ := TN_W N (by omega)
      have ev : v = (v.toNat : Int) := by omega
      generalize v.toNat = n at *
      subst ev
      show kx_wx _ _ _ _ _ (_ :: _) _ _
      refine ks_if_eq_1 rfl ?_
      refine ks_aload_n rfl rfl ?_
      refine ks_getr (b := 44) rfl rfl rfl rfl (by decide) ?_
      refine ks_aload_n rfl rfl ?_
      refine ks_getr (b := 30) rfl rfl rfl rfl (by decide) ?_
      refine ks_iload_n rfl rfl ?_
      refine ks_callv_3 rfl rfl rfl (Nat.le_of_ble_eq_true rfl) ?_
      -- at 26: call Fore_holderBehind st []
      refine r_holderBehind (by omega) W T (fun μ1 F1 => ?_)
      show kx_wx _ _ _ _ _ (_ :: _) _ _
      refine ks_goto rfl ?_
      refine ks_ireturn rfl ?_
      -- at 34: ret  st [None]
      exact t2 (by omega) (by omega) (by omega) _ (Fr_54 F1)
    · show kx_wx _ _ _ _ _ (_ :: _) _ _
      refine ks_if_eq_0 rfl ?_
      refine ks_ldc rfl ?_
      refine ks_ireturn rfl ?_
      -- at 34: ret  st ['-1000001']
      exact t1 (by omega) c2
theorem r_Xever (hv : kx_in v) (T : TR μ 30 s) (N : TN s) (t0 : s 1 = 0 → Q (some (kI (-1000002))) (kg L) μ) (t1 : 1 ≤ s 1 → ¬ (0 ≤ v ∧ v ≤ 60) → Q (some (kI (-1000001))) (kg L) μ) (t2 : 1 ≤ s 1 → 0 ≤ v → v ≤ 60 → ∀ μ', F54 μ μ' → Q (some (kI (q_ever s v.toNat))) (kg L) μ') : kx_cx (ke (d + 6)) 87 [kR 1, kI v] (kg L) μ Q := by
  refine ke_start (tb := kt_X_ever) (ls := [some (kR 1), some (kI v)]) rfl rfl ?_
  obtain ⟨n1, n2, n3⟩ := TN_in N
  have e8 := T.1
  refine ks_aload_n rfl rfl ?_
  refine ks_callv_1 rfl rfl rfl (Nat.le_of_ble_eq_true rfl) ?_
  -- at 1: call X_isNoTown st []
  refine r_isNoTown ⟨by omega, by omega⟩ (fun c => ?_) (fun c => ?_)
  · show kx_wx _ _ _ _ _ (_ :: _) _ _
    refine ks_if_eq_1 rfl ?_
    refine ks_ldc rfl ?_
    refine ks_ireturn rfl ?_
    -- at 9: ret  st ['-1000002']
    exact t0 (by omega)
  · show kx_wx _ _ _ _ _ (_ :: _) _ _
    refine ks_if_eq_0 rfl ?_
    refine ks_iload_n rfl rfl ?_
    refine ks_calls_1 rfl (Nat.le_of_ble_eq_true rfl) ?_
    -- at 11: call X_isSpan st []
    refine r_isSpan hv (fun c2 => ?_) (fun c2 => ?_)
    · obtain ⟨W, Z⟩ := TN_W N (by omega)
      have ev : v = (v.toNat : Int) := by omega
      generalize v.toNat = n at *
      subst ev
      show kx_wx _ _ _ _ _ (_ :: _) _ _
      refine ks_if_eq_1 rfl ?_
      refine ks_aload_n rfl rfl ?_
      refine ks_getr (b := 44) rfl rfl rfl rfl (by decide) ?_
      refine ks_aload_n rfl rfl ?_
      refine ks_getr (b := 30) rfl rfl rfl rfl (by decide) ?_
      refine ks_iload_n rfl rfl ?_
      refine ks_callv_3 rfl rfl rfl (Nat.le_of_ble_eq_true rfl) ?_
      -- at 26: call Fore_holdersWithin st []
      refine r_holdersWithin (by omega) W T (fun μ1 F1 => ?_)
      show kx_wx _ _ _ _ _ (_ :: _) _ _
      refine ks_goto rfl ?_
      refine ks_ireturn rfl ?_
      -- at 34: ret  st [None]
      exact t2 (by omega) (by omega) (by omega) _ (Fr_54 F1)
    · show kx_wx _ _ _ _ _ (_ :: _) _ _
      refine ks_if_eq_0 rfl ?_
      refine ks_ldc rfl ?_
      refine ks_ireturn rfl ?_
      -- at 34: ret  st ['-1000001']
      exact t1 (by omega) c2
theorem r_Xround (hv : kx_in v) (T : TR μ 30 s) (N : TN s) (t0 : s 1 = 0 → Q (some (kI (-1000002))) (kg L) μ) (t1 : 1 ≤ s 1 → ¬ (0 ≤ v ∧ v ≤ 1) → Q (some (kI (-1000001))) (kg L) μ) (t2 : 1 ≤ s 1 → 0 ≤ v → v ≤ 1 → ∀ μ', F54 μ μ' → Q (some (kI (q_ro (q_mk s) v 60 1))) (kg L) μ') : kx_cx (ke (d + 6)) 88 [kR 1, kI v] (kg L) μ Q := by
  refine ke_start (tb := kt_X_round) (ls := [some (kR 1), some (kI v)]) rfl rfl ?_
  obtain ⟨n1, n2, n3⟩ := TN_in N
  have e8 := T.1
  refine ks_aload_n rfl rfl ?_
  refine ks_callv_1 rfl rfl rfl (Nat.le_of_ble_eq_true rfl) ?_
  -- at 1: call X_isNoTown st []
  refine r_isNoTown ⟨by omega, by omega⟩ (fun c => ?_) (fun c => ?_)
  · show kx_wx _ _ _ _ _ (_ :: _) _ _
    refine ks_if_eq_1 rfl ?_
    refine ks_ldc rfl ?_
    refine ks_ireturn rfl ?_
    -- at 9: ret  st ['-1000002']
    exact t0 (by omega)
  · show kx_wx _ _ _ _ _ (_ :: _) _ _
    refine ks_if_eq_0 rfl ?_
    refine ks_iload_n rfl rfl ?_
    refine ks_iconst rfl ?_
    refine ks_iconst rfl ?_
    refine ks_calls_3 rfl (Nat.le_of_ble_eq_true rfl) ?_
    -- at 13: call X_isBetween st []
    refine r_isBetween hv ⟨by omega, by omega⟩ ⟨by omega, by omega⟩ (fun c2 => ?_) (fun c2 => ?_)
    · obtain ⟨W, Z⟩ := TN_W N (by omega)
      show kx_wx _ _ _ _ _ (_ :: _) _ _
      refine ks_if_eq_1 rfl ?_
      refine ks_aload_n rfl rfl ?_
      refine ks_getr (b := 44) rfl rfl rfl rfl (by decide) ?_
      refine ks_aload_n rfl rfl ?_
      refine ks_getr (b := 30) rfl rfl rfl rfl (by decide) ?_
      refine ks_iload_n rfl rfl ?_
      refine ks_callv_3 rfl rfl rfl (Nat.le_of_ble_eq_true rfl) ?_
      -- at 28: call Fore_repetition st []
      refine r_repetition hv W T (fun μ1 F1 => ?_)
      show kx_wx _ _ _ _ _ (_ :: _) _ _
      refine ks_goto rfl ?_
      refine ks_ireturn rfl ?_
      -- at 36: ret  st [None]
      exact t2 (by omega) c2.1 c2.2 _ F1
    · show kx_wx _ _ _ _ _ (_ :: _) _ _
      refine ks_if_eq_0 rfl ?_
      refine ks_ldc rfl ?_
      refine ks_ireturn rfl ?_
      -- at 36: ret  st ['-1000001']
      exact t1 (by omega) c2
theorem r_Xgets (hv : kx_in v) (T : TR μ 30 s) (N : TN s) (t1 : ¬ (0 ≤ v ∧ v < s 1) → Q (some (kI (-1000001))) (kg L) μ) (t2 : 0 ≤ v → v < s 1 → ∀ μ', F54 μ μ' → Q (some (kI (q_gets s v 61 0))) (kg L) μ') : kx_cx (ke (d + 6)) 86 [kR 1, kI v] (kg L) μ Q := by
  refine ke_start (tb := kt_X_gets) (ls := [some (kR 1), some (kI v)]) rfl rfl ?_
  obtain ⟨n1, n2, n3⟩ := TN_in N
  have e8 := T.1
  refine ks_aload_n rfl rfl ?_
  refine ks_getr (b := 30) rfl rfl rfl rfl (by decide) ?_
  refine ks_iload_n rfl rfl ?_
  refine ks_callv_2 rfl rfl rfl (Nat.le_of_ble_eq_true rfl) ?_
  -- at 5: call Town_hasHead st []
  refine r_hasHead (kg_T30 L) hv ⟨by omega, by omega⟩ (fun c => ?_) (fun c => ?_)
  · obtain ⟨W, Z⟩ := TN_W N (by omega)
    show kx_wx _ _ _ _ _ (_ :: _) _ _
    refine ks_if_eq_1 rfl ?_
    refine ks_aload_n rfl rfl ?_
    refine ks_getr (b := 44) rfl rfl rfl rfl (by decide) ?_
    refine ks_aload_n rfl rfl ?_
    refine ks_getr (b := 30) rfl rfl rfl rfl (by decide) ?_
    refine ks_iload_n rfl rfl ?_
    refine ks_callv_3 rfl rfl rfl (Nat.le_of_ble_eq_true rfl) ?_
    -- at 20: call Fore_stepsUntilHolder st []
    refine r_stepsUntilHolder c.1 (by omega) W T (fun μ1 F1 => ?_)
    show kx_wx _ _ _ _ _ (_ :: _) _ _
    refine ks_goto rfl ?_
    refine ks_ireturn rfl ?_
    -- at 28: ret  st [None]
    exact t2 c.1 (by omega) _ (Fr_54 F1)
  · show kx_wx _ _ _ _ _ (_ :: _) _ _
    refine ks_if_eq_0 rfl ?_
    refine ks_ldc rfl ?_
    refine ks_ireturn rfl ?_
    -- at 28: ret  st ['-1000001']
    exact t1 (by omega)
theorem r_Xdone (hv : kx_in v) (T : TR μ 30 s) (N : TN s) (t1 : ¬ (0 ≤ v ∧ v < s 2) → Q (some (kI (-1000001))) (kg L) μ) (t2 : 0 ≤ v → v < s 2 → ∀ x μ', q_done s v x → F54 μ μ' → Q (some (kI x)) (kg L) μ') : kx_cx (ke (d + 6)) 89 [kR 1, kI v] (kg L) μ Q := by
  refine ke_start (tb := kt_X_done) (ls := [some (kR 1), some (kI v)]) rfl rfl ?_
  obtain ⟨n1, n2, n3⟩ := TN_in N
  have e9 := T.2.1
  refine ks_aload_n rfl rfl ?_
  refine ks_getr (b := 30) rfl rfl rfl rfl (by decide) ?_
  refine ks_iload_n rfl rfl ?_
  refine ks_callv_2 rfl rfl rfl (Nat.le_of_ble_eq_true rfl) ?_
  -- at 5: call Town_hasOrder st []
  refine r_hasOrder (kg_T30 L) hv ⟨by omega, by omega⟩ (fun c => ?_) (fun c => ?_)
  · obtain ⟨W, Z⟩ := TN_W N (by omega)
    show kx_wx _ _ _ _ _ (_ :: _) _ _
    refine ks_if_eq_1 rfl ?_
    refine ks_aload_n rfl rfl ?_
    refine ks_getr (b := 44) rfl rfl rfl rfl (by decide) ?_
    refine ks_aload_n rfl rfl ?_
    refine ks_getr (b := 30) rfl rfl rfl rfl (by decide) ?_
    refine ks_iload_n rfl rfl ?_
    refine ks_callv_3 rfl rfl rfl (Nat.le_of_ble_eq_true rfl) ?_
    -- at 20: call Fore_stepOfDone st []
    refine r_stepOfDone c.1 (by omega) W T (fun x μ1 q F1 => ?_)
    show kx_wx _ _ _ _ _ (_ :: _) _ _
    refine ks_goto rfl ?_
    refine ks_ireturn rfl ?_
    -- at 28: ret  st [None]
    exact t2 c.1 (by omega) _ _ q (Fr_54 F1)
  · show kx_wx _ _ _ _ _ (_ :: _) _ _
    refine ks_if_eq_0 rfl ?_
    refine ks_ldc rfl ?_
    refine ks_ireturn rfl ?_
    -- at 28: ret  st ['-1000001']
    exact t1 (by omega)
theorem r_Xfirst (T : TR μ 30 s) (N : TN s) (t0 : s 1 = 0 → Q (some (kI (-1000002))) (kg L) μ) (t2 : 1 ≤ s 1 → ∀ x l μ', q_min (q_P s) (s 2) x l → F54 μ μ' → Q (some (kI x)) (kg L) μ') : kx_cx (ke (d + 6)) 90 [kR 1] (kg L) μ Q := by
  refine ke_start (tb := kt_X_first) (ls := [some (kR 1)]) rfl rfl ?_
  obtain ⟨n1, n2, n3⟩ := TN_in N
  have e8 := T.1
  refine ks_aload_n rfl rfl ?_
  refine ks_callv_1 rfl rfl rfl (Nat.le_of_ble_eq_true rfl) ?_
  -- at 1: call X_isNoTown st []
  refine r_isNoTown ⟨by omega, by omega⟩ (fun c => ?_) (fun c => ?_)
  · show kx_wx _ _ _ _ _ (_ :: _) _ _
    refine ks_if_eq_1 rfl ?_
    refine ks_ldc rfl ?_
    refine ks_goto rfl ?_
    refine ks_ireturn rfl ?_
    -- at 23: ret  st ['-1000002']
    exact t0 (by omega)
  · obtain ⟨W, Z⟩ := TN_W N (by omega)
    show kx_wx _ _ _ _ _ (_ :: _) _ _
    refine ks_if_eq_0 rfl ?_
    refine ks_aload_n rfl rfl ?_
    refine ks_getr (b := 44) rfl rfl rfl rfl (by decide) ?_
    refine ks_aload_n rfl rfl ?_
    refine ks_getr (b := 30) rfl rfl rfl rfl (by decide) ?_
    refine ks_callv_2 rfl rfl rfl (Nat.le_of_ble_eq_true rfl) ?_
    -- at 20: call Fore_orderDoneFirst st []
    refine r_orderDoneFirst W T (fun x l μ1 q F1 => ?_)
    show kx_wx _ _ _ _ _ (_ :: _) _ _
    refine ks_ireturn rfl ?_
    -- at 23: ret  st [None]
    exact t2 (by omega) _ l _ q (Fr_54 F1)
theorem r_Xby (hh : kx_in h) (hv : kx_in v) (T : TR μ 30 s) (N : TN s) (t1 : ¬ ((0 ≤ h ∧ h < s 1) ∧ (0 ≤ v ∧ v ≤ 60)) → Q (some (kI (-1000001))) (kg L) μ) (t2 : 0 ≤ h → h < s 1 → 0 ≤ v → v ≤ 60 → ∀ μ', F54 μ μ' → Q (some (kI (tw_go s v.toNat (24 + h) - s (24 + h)))) (kg L) μ') : kx_cx (ke (d + 6)) 91 [kR 1, kI h, kI v] (kg L) μ Q := by
  refine ke_start (tb := kt_X_by) (ls := [some (kR 1), some (kI h), some (kI v)]) rfl rfl ?_
  obtain ⟨n1, n2, n3⟩ := TN_in N
  have e8 := T.1
  refine ks_aload_n rfl rfl ?_
  refine ks_getr (b := 30) rfl rfl rfl rfl (by decide) ?_
  refine ks_iload_n rfl rfl ?_
  refine ks_callv_2 rfl rfl rfl (Nat.le_of_ble_eq_true rfl) ?_
  -- at 5: call Town_hasHead st []
  refine r_hasHead (kg_T30 L) hh ⟨by omega, by omega⟩ (fun c => ?_) (fun c => ?_)
  · show kx_wx _ _ _ _ _ (_ :: _) _ _
    refine ks_if_eq_1 rfl ?_
    refine ks_iload_n rfl rfl ?_
    refine ks_calls_1 rfl (Nat.le_of_ble_eq_true rfl) ?_
    -- at 12: call X_isSpan st []
    refine r_isSpan hv (fun c2 => ?_) (fun c2 => ?_)
    · obtain ⟨W, Z⟩ := TN_W N (by omega)
      have ev : v = (v.toNat : Int) := by omega
      generalize v.toNat = n at *
      subst ev
      show kx_wx _ _ _ _ _ (_ :: _) _ _
      refine ks_if_ne_1 rfl ?_
      refine ks_aload_n rfl rfl ?_
      refine ks_getr (b := 44) rfl rfl rfl rfl (by decide) ?_
      refine ks_aload_n rfl rfl ?_
      refine ks_getr (b := 30) rfl rfl rfl rfl (by decide) ?_
      refine ks_iload_n rfl rfl ?_
      refine ks_iload_n rfl rfl ?_
      refine ks_callv_4 rfl rfl rfl (Nat.le_of_ble_eq_true rfl) ?_
      -- at 31: call Fore_workWithin st []
      refine r_workWithin (by omega) c.1 (by omega) W T (fun μ1 F1 => ?_)
      show kx_wx _ _ _ _ _ (_ :: _) _ _
      refine ks_ireturn rfl ?_
      -- at 34: ret  st [None]
      exact t2 c.1 (by omega) (by omega) (by omega) _ (Fr_54 F1)
    · show kx_wx _ _ _ _ _ (_ :: _) _ _
      refine ks_if_ne_0 rfl ?_
      refine ks_ldc rfl ?_
      refine ks_ireturn rfl ?_
      -- at 20: ret  st ['-1000001']
      exact t1 (fun q => c2 q.2)
  · show kx_wx _ _ _ _ _ (_ :: _) _ _
    refine ks_if_eq_0 rfl ?_
    refine ks_ldc rfl ?_
    refine ks_ireturn rfl ?_
    -- at 20: ret  st ['-1000001']
    exact t1 (fun q => c (by omega))
theorem r_XtoGive (hv : kx_in v) (hw : kx_in w) (T : TR μ 30 s) (N : TN s) (t1 : ¬ ((0 ≤ v ∧ v < s 2) ∧ (0 ≤ w ∧ w ≤ 1)) → Q (some (kI (-1000001))) (kg L) μ) (t3 : 0 ≤ v → v < s 2 → 0 ≤ w → w ≤ 1 → ¬ s (38 + v) = 0 → Q (some (kI (-1000002))) (kg L) μ) (t2 : 0 ≤ v → v < s 2 → 0 ≤ w → w ≤ 1 → s (38 + v) = 0 → ∀ x μ', q_tg s v w x → F54 μ μ' → Q (some (kI x)) (kg L) μ') : kx_cx (ke (d + 6)) 92 [kR 1, kI v, kI w] (kg L) μ Q := by
  refine ke_start (tb := kt_X_toGive) (ls := [some (kR 1), some (kI v), some (kI w)]) rfl rfl ?_
  obtain ⟨n1, n2, n3⟩ := TN_in N
  have e9 := T.2.1
  refine ks_aload_n rfl rfl ?_
  refine ks_getr (b := 30) rfl rfl rfl rfl (by decide) ?_
  refine ks_iload_n rfl rfl ?_
  refine ks_callv_2 rfl rfl rfl (Nat.le_of_ble_eq_true rfl) ?_
  -- at 5: call Town_hasOrder st []
  refine r_hasOrder (kg_T30 L) hv ⟨by omega, by omega⟩ (fun c => ?_) (fun c => ?_)
  · show kx_wx _ _ _ _ _ (_ :: _) _ _
    refine ks_if_eq_1 rfl ?_
    refine ks_iload_n rfl rfl ?_
    refine ks_iconst rfl ?_
    refine ks_iconst rfl ?_
    refine ks_calls_3 rfl (Nat.le_of_ble_eq_true rfl) ?_
    -- at 14: call X_isBetween st []
    refine r_isBetween hw ⟨by omega, by omega⟩ ⟨by omega, by omega⟩ (fun c2 => ?_) (fun c2 => ?_)
    · obtain ⟨W, Z⟩ := TN_W N (by omega)
      have w8 := W.2.2.2.2.2.2.2 v c.1 (by omega)
      have k := (T.2.2.2.2.2.2.2 v c.1 (by omega)).2.2.1
      show kx_wx _ _ _ _ _ (_ :: _) _ _
      refine ks_if_ne_1 rfl ?_
      refine ks_aload_n rfl rfl ?_
      refine ks_getr (b := 30) rfl rfl rfl rfl (by decide) ?_
      refine ks_getr (b := 37) rfl rfl rfl rfl (by decide) ?_
      refine ks_iload_n rfl rfl ?_
      refine ks_iaload rfl rfl (by omega) (by omega) (by (try simp only [kx_up_at, kx_row_at, up1_at, Nat.reduceEqDiff, Int.reduceEq, Int.reduceNeg, and_true, true_and, and_false, false_and, and_self, reduceIte, Nat.add_left_cancel_iff, Nat.add_eq_left, Nat.left_eq_add, Nat.reduceAdd, Int.add_left_inj, Int.add_right_inj, k]); rfl) ?_
      -- at 32: if eq -> 38 else 35 st [None]
      refine ks_if_eq rfl ⟨by omega, by omega⟩ (fun c3 => ?_) (fun c3 => ?_)
      · refine ks_aload_n rfl rfl ?_
        refine ks_getr (b := 44) rfl rfl rfl rfl (by decide) ?_
        refine ks_aload_n rfl rfl ?_
        refine ks_getr (b := 30) rfl rfl rfl rfl (by decide) ?_
        refine ks_iload_n rfl rfl ?_
        refine ks_iload_n rfl rfl ?_
        refine ks_callv_4 rfl rfl rfl (Nat.le_of_ble_eq_true rfl) ?_
        -- at 48: call Fore_bestGift st []
        refine r_bestGift c.1 (by omega) hw c3 W T (fun x μ1 q F1 => ?_)
        show kx_wx _ _ _ _ _ (_ :: _) _ _
        refine ks_ireturn rfl ?_
        -- at 51: ret  st [None]
        exact t2 c.1 (by omega) c2.1 c2.2 c3 _ _ q (Fr_54 F1)
      · refine ks_ldc rfl ?_
        refine ks_ireturn rfl ?_
        -- at 37: ret  st ['-1000002']
        exact t3 c.1 (by omega) c2.1 c2.2 c3
    · show kx_wx _ _ _ _ _ (_ :: _) _ _
      refine ks_if_ne_0 rfl ?_
      refine ks_ldc rfl ?_
      refine ks_ireturn rfl ?_
      -- at 22: ret  st ['-1000001']
      exact t1 (fun q => c2 q.2)
  · show kx_wx _ _ _ _ _ (_ :: _) _ _
    refine ks_if_eq_0 rfl ?_
    refine ks_ldc rfl ?_
    refine ks_ireturn rfl ?_
    -- at 22: ret  st ['-1000001']
    exact t1 (fun q => c (by omega))
theorem r_Xwinds (hh : kx_in h) (hv : kx_in v) (T : TR μ 30 s) (N : TN s) (t1 : ¬ ((0 ≤ h ∧ h < s 1) ∧ (0 ≤ v ∧ v ≤ 60)) → Q (some (kI (-1000001))) (kg L) μ) (t2 : 0 ≤ h → h < s 1 → 0 ≤ v → v ≤ 60 → ∀ μ', F54 μ μ' → Q (some (kI (q_wi s h v.toNat 6 0 0))) (kg L) μ') : kx_cx (ke (d + 6)) 93 [kR 1, kI h, kI v] (kg L) μ Q := by
  refine ke_start (tb := kt_X_winds) (ls := [some (kR 1), some (kI h), some (kI v)]) rfl rfl ?_
  obtain ⟨n1, n2, n3⟩ := TN_in N
  have e8 := T.1
  refine ks_aload_n rfl rfl ?_
  refine ks_getr (b := 30) rfl rfl rfl rfl (by decide) ?_
  refine ks_iload_n rfl rfl ?_
  refine ks_callv_2 rfl rfl rfl (Nat.le_of_ble_eq_true rfl) ?_
  -- at 5: call Town_hasHead st []
  refine r_hasHead (kg_T30 L) hh ⟨by omega, by omega⟩ (fun c => ?_) (fun c => ?_)
  · show kx_wx _ _ _ _ _ (_ :: _) _ _
    refine ks_if_eq_1 rfl ?_
    refine ks_iload_n rfl rfl ?_
    refine ks_calls_1 rfl (Nat.le_of_ble_eq_true rfl) ?_
    -- at 12: call X_isSpan st []
    refine r_isSpan hv (fun c2 => ?_) (fun c2 => ?_)
    · obtain ⟨W, Z⟩ := TN_W N (by omega)
      have ev : v = (v.toNat : Int) := by omega
      generalize v.toNat = n at *
      subst ev
      show kx_wx _ _ _ _ _ (_ :: _) _ _
      refine ks_if_ne_1 rfl ?_
      refine ks_aload_n rfl rfl ?_
      refine ks_getr (b := 44) rfl rfl rfl rfl (by decide) ?_
      refine ks_aload_n rfl rfl ?_
      refine ks_getr (b := 30) rfl rfl rfl rfl (by decide) ?_
      refine ks_iload_n rfl rfl ?_
      refine ks_iload_n rfl rfl ?_
      refine ks_callv_4 rfl rfl rfl (Nat.le_of_ble_eq_true rfl) ?_
      -- at 31: call Fore_windsThatBring st []
      refine r_windsThatBring (by omega) hh W T (fun μ1 F1 => ?_)
      show kx_wx _ _ _ _ _ (_ :: _) _ _
      refine ks_ireturn rfl ?_
      -- at 34: ret  st [None]
      exact t2 c.1 (by omega) (by omega) (by omega) _ (Fr_54 F1)
    · show kx_wx _ _ _ _ _ (_ :: _) _ _
      refine ks_if_ne_0 rfl ?_
      refine ks_ldc rfl ?_
      refine ks_ireturn rfl ?_
      -- at 20: ret  st ['-1000001']
      exact t1 (fun q => c2 q.2)
  · show kx_wx _ _ _ _ _ (_ :: _) _ _
    refine ks_if_eq_0 rfl ?_
    refine ks_ldc rfl ?_
    refine ks_ireturn rfl ?_
    -- at 20: ret  st ['-1000001']
    exact t1 (fun q => c (by omega))
theorem r_Xlot (hh : kx_in h) (hv : kx_in v) (hw : kx_in w) (T : TR μ 30 s) (N : TN s) (t1 : ¬ ((0 ≤ h ∧ h < s 1) ∧ (0 ≤ v ∧ v ≤ 60) ∧ (0 ≤ w ∧ w ≤ 1)) → Q (some (kI (-1000001))) (kg L) μ) (t2 : 0 ≤ h → h < s 1 → 0 ≤ v → v ≤ 60 → 0 ≤ w → w ≤ 1 → ∀ μ', F54 μ μ' → Q (some (kI (if w = 0 then (q_pc (q_wi s h v.toNat 6 0 0)).tdiv (q_g (q_pc (q_wi s h v.toNat 6 0 0))) else (6 : Int).tdiv (q_g (q_pc (q_wi s h v.toNat 6 0 0)))))) (kg L) μ') : kx_cx (ke (d + 6)) 94 [kR 1, kI h, kI v, kI w] (kg L) μ Q := by
  refine ke_start (tb := kt_X_lot) (ls := [some (kR 1), some (kI h), some (kI v), some (kI w), none, none]) rfl rfl ?_
  obtain ⟨n1, n2, n3⟩ := TN_in N
  have e8 := T.1
  refine ks_aload_n rfl rfl ?_
  refine ks_getr (b := 30) rfl rfl rfl rfl (by decide) ?_
  refine ks_iload_n rfl rfl ?_
  refine ks_callv_2 rfl rfl rfl (Nat.le_of_ble_eq_true rfl) ?_
  -- at 5: call Town_hasHead st []
  refine r_hasHead (kg_T30 L) hh ⟨by omega, by omega⟩ (fun c => ?_) (fun c => ?_)
  · show kx_wx _ _ _ _ _ (_ :: _) _ _
    refine ks_if_eq_1 rfl ?_
    refine ks_iload_n rfl rfl ?_
    refine ks_calls_1 rfl (Nat.le_of_ble_eq_true rfl) ?_
    -- at 12: call X_isSpan st []
    refine r_isSpan hv (fun c2 => ?_) (fun c2 => ?_)
    · show kx_wx _ _ _ _ _ (_ :: _) _ _
      refine ks_if_eq_1 rfl ?_
      refine ks_iload_n rfl rfl ?_
      refine ks_iconst rfl ?_
      refine ks_iconst rfl ?_
      refine ks_calls_3 rfl (Nat.le_of_ble_eq_true rfl) ?_
      -- at 21: call X_isBetween st []
      refine r_isBetween hw ⟨by omega, by omega⟩ ⟨by omega, by omega⟩ (fun c3 => ?_) (fun c3 => ?_)
      · obtain ⟨W, Z⟩ := TN_W N (by omega)
        have ev : v = (v.toNat : Int) := by omega
        generalize v.toNat = n at *
        subst ev
        show kx_wx _ _ _ _ _ (_ :: _) _ _
        refine ks_if_ne_1 rfl ?_
        refine ks_aload_n rfl rfl ?_
        refine ks_getr (b := 44) rfl rfl rfl rfl (by decide) ?_
        refine ks_aload_n rfl rfl ?_
        refine ks_getr (b := 30) rfl rfl rfl rfl (by decide) ?_
        refine ks_iload_n rfl rfl ?_
        refine ks_iload_n rfl rfl ?_
        refine ks_callv_4 rfl rfl rfl (Nat.le_of_ble_eq_true rfl) ?_
        -- at 40: call Fore_windsThatBring st []
        refine r_windsThatBring (by omega) hh W T (fun μ1 F1 => ?_)
        show kx_wx _ _ _ _ _ (_ :: _) _ _
        refine ks_calls_1 rfl (Nat.le_of_ble_eq_true rfl) ?_
        -- at 43: call Integer_bitCount st []
        have t3 := t2 c.1 (by omega) (by omega) (by omega) c3.1 c3.2 μ1 (Fr_54 F1)
        have hx := q_wi_in (s := s) (h := h) (n := n) 6 0 0 (by omega) (by omega) (by omega) (by omega)
        generalize q_wi s h n 6 0 0 = x at *
        have hp := q_pc_in hx.1 hx.2
        refine r_bitCount hx.1 hx.2 ?_
        show kx_wx _ _ _ _ _ (_ :: _) _ _
        refine ks_istore_4 rfl rfl ?_
        refine ks_bipush rfl ?_
        refine ks_istore_5 rfl rfl ?_
        refine ks_iload_n rfl rfl ?_
        -- at 53: if ne -> 68 else 56 st [None]
        generalize q_pc x = y at *
        refine ks_if_ne rfl ⟨by omega, by omega⟩ (fun c4 => ?_) (fun c4 => ?_)
        · refine ks_iload rfl rfl ?_
          refine ks_iload rfl rfl ?_
          refine ks_iload rfl rfl ?_
          refine ks_calls_3 rfl (Nat.le_of_ble_eq_true rfl) ?_
          -- at 62: call X_inLowestTerms st []
          rw [if_pos c4] at t3
          refine r_low ⟨by omega, by omega⟩ hp.1 hp.2 ?_
          show kx_wx _ _ _ _ _ (_ :: _) _ _
          refine ks_goto rfl ?_
          refine ks_ireturn rfl ?_
          -- at 77: ret  st [None]
          exact t3
        · refine ks_iload rfl rfl ?_
          refine ks_iload rfl rfl ?_
          refine ks_iload rfl rfl ?_
          refine ks_calls_3 rfl (Nat.le_of_ble_eq_true rfl) ?_
          -- at 74: call X_inLowestTerms st []
          rw [if_neg c4] at t3
          refine r_low ⟨by omega, by omega⟩ hp.1 hp.2 ?_
          show kx_wx _ _ _ _ _ (_ :: _) _ _
          refine ks_ireturn rfl ?_
          -- at 77: ret  st [None]
          exact t3
      · show kx_wx _ _ _ _ _ (_ :: _) _ _
        refine ks_if_ne_0 rfl ?_
        refine ks_ldc rfl ?_
        refine ks_ireturn rfl ?_
        -- at 29: ret  st ['-1000001']
        exact t1 (fun q => c3 q.2.2)
    · show kx_wx _ _ _ _ _ (_ :: _) _ _
      refine ks_if_eq_0 rfl ?_
      refine ks_ldc rfl ?_
      refine ks_ireturn rfl ?_
      -- at 29: ret  st ['-1000001']
      exact t1 (fun q => c2 q.2.1)
  · show kx_wx _ _ _ _ _ (_ :: _) _ _
    refine ks_if_eq_0 rfl ?_
    refine ks_ldc rfl ?_
    refine ks_ireturn rfl ?_
    -- at 29: ret  st ['-1000001']
    exact t1 (fun q => c (by omega))
end XQ
