/-! the acts, on both sides -/
def FrX (μ μ' : kx_M) : Prop := ∀ c, c < 30 ∨ 43 < c → μ' c = μ c
def FrM (μ μ' : kx_M) : Prop := (∀ j, j ≠ 17 → μ' 77 j = μ 77 j) ∧ ∀ c, c ≠ 77 → c ≠ 81 → c ≠ 85 → μ' c = μ c
/-- no town, or a good one -/
def TN (s : Int → Int) : Prop := (∀ k, s k = 0) ∨ (tw_W 999 s ∧ tw_Z s)
theorem TN_in {s : Int → Int} (N : TN s) : (0 ≤ s 1 ∧ s 1 ≤ 6) ∧ (0 ≤ s 2 ∧ s 2 ≤ 4) ∧ (s 1 = 0 → s 2 = 0) := by
  rcases N with q | ⟨q, _⟩
  · rw [q 1, q 2]; omega
  · obtain ⟨w1, w2, _⟩ := q; omega
theorem TN_W {s : Int → Int} (N : TN s) (h : s 1 ≠ 0 ∨ s 2 ≠ 0) : tw_W 999 s ∧ tw_Z s := by
  rcases N with q | q
  · rw [q 1, q 2] at h; omega
  · exact q
theorem tw_W_self {B : Int} {s : Int → Int} (h : tw_W B s) : tw_W (s 3) s := by
  obtain ⟨w1, w2, w3, w4, w5, w6, w7, w8⟩ := h
  exact ⟨w1, w2, w3, w4, ⟨w5.1, Int.le_refl _⟩, w6, w7, w8⟩
theorem tw_Z_step {B : Int} {s : Int → Int} (h : tw_W B s) (z : tw_Z s) : tw_Z (tw_step s) := by
  intro k hk
  have hfi := tw_found_in s (s 4)
  have w1 := h.1
  have w2 := h.2.1
  have w3 := h.2.2.1
  rw [tw_step_at (by omega)]
  unfold tw_work
  split
  · exact z k hk
  · split
    · rw [up1_ne (by omega), up1_ne (by omega), up1_ne (by omega), up1_ne (by omega)]; exact z k hk
    · rw [up1_ne (by omega), up1_ne (by omega)]; exact z k hk
theorem tw_Z_go {B : Int} {s : Int → Int} (h : tw_W B s) (z : tw_Z s) : ∀ n : Nat, tw_Z (tw_go s n) := by
  intro n
  induction n with
  | zero => exact z
  | succ n ih => exact tw_Z_step (tw_W_go h n) ih
theorem tw_Z_up {s : Int → Int} {i v : Int} (z : tw_Z s) (h : 0 ≤ i ∧ i < 46) : tw_Z (up1 s i v) := by
  intro k hk
  rw [up1_ne (by omega)]; exact z k hk
theorem tw_W_wind {B v : Int} {s : Int → Int} (h : tw_W B s) (h0 : 0 ≤ v) (h1 : v ≤ 5) : tw_W B (up1 s 0 v) := by
  obtain ⟨w1, w2, w3, w4, w5, w6, w7, w8⟩ := h
  refine ⟨?_, ?_, ?_, ?_, ?_, ?_, fun i i0 i1 => ?_, fun k k0 k1 => ?_⟩
  · simp (disch := omega) only [up1_ne]; exact w1
  · simp (disch := omega) only [up1_ne]; exact w2
  · simp (disch := omega) only [up1_ne]; exact w3
  · rw [up1_self]; omega
  · simp (disch := omega) only [up1_ne]; exact w5
  · simp (disch := omega) only [up1_ne]; exact w6
  · simp (disch := omega) only [up1_ne] at i1; simp (disch := omega) only [up1_ne]; exact w7 i i0 i1
  · simp (disch := omega) only [up1_ne] at k1; simp (disch := omega) only [up1_ne]; exact w8 k k0 k1
theorem tw_W_give {B v : Int} {s : Int → Int} (h : tw_W B s) (h0 : 0 ≤ v) (h1 : v < s 1) : tw_W B (up1 (up1 s 4 v) 5 0) := by
  obtain ⟨w1, w2, w3, w4, w5, w6, w7, w8⟩ := h
  refine ⟨?_, ?_, ?_, ?_, ?_, ?_, fun i i0 i1 => ?_, fun k k0 k1 => ?_⟩
  · simp (disch := omega) only [up1_ne]; exact w1
  · simp (disch := omega) only [up1_ne]; exact w2
  · rw [up1_ne (by omega), up1_self, up1_ne (by omega), up1_ne (by omega)]; omega
  · simp (disch := omega) only [up1_ne]; exact w4
  · simp (disch := omega) only [up1_ne]; exact w5
  · rw [up1_self]; omega
  · simp (disch := omega) only [up1_ne] at i1; simp (disch := omega) only [up1_ne]; exact w7 i i0 i1
  · simp (disch := omega) only [up1_ne] at k1; simp (disch := omega) only [up1_ne]; exact w8 k k0 k1
theorem tw_W_back {B v : Int} {s : Int → Int} (h : tw_W B s) (h0 : 0 ≤ v) (h1 : v < s 2) : tw_W B (up1 s (38 + v) 2) := by
  obtain ⟨w1, w2, w3, w4, w5, w6, w7, w8⟩ := h
  refine ⟨?_, ?_, ?_, ?_, ?_, ?_, fun i i0 i1 => ?_, fun k k0 k1 => ?_⟩
  · simp (disch := omega) only [up1_ne]; exact w1
  · simp (disch := omega) only [up1_ne]; exact w2
  · simp (disch := omega) only [up1_ne]; exact w3
  · simp (disch := omega) only [up1_ne]; exact w4
  · simp (disch := omega) only [up1_ne]; exact w5
  · simp (disch := omega) only [up1_ne]; exact w6
  · simp (disch := omega) only [up1_ne] at i1; simp (disch := omega) only [up1_ne]; exact w7 i i0 i1
  · simp (disch := omega) only [up1_ne] at k1
    have := w8 k k0 k1
    by_cases e : k = v
    · subst e
      rw [up1_self]
      simp (disch := omega) only [up1_ne]
      omega
    · simp (disch := omega) only [up1_ne]; exact this
def tw_told (s : Int → Int) (u : Int) : Int → Int := up1 (up1 (up1 (up1 (up1 s (30 + s 2) u) (34 + s 2) u) (38 + s 2) 0) (42 + s 2) 0) 2 (s 2 + 1)
theorem tw_W_told {B u : Int} {s : Int → Int} (h : tw_W B s) (h0 : 1 ≤ u) (h1 : u ≤ 40) (h2 : s 2 < 4) : tw_W B (tw_told s u) := by
  obtain ⟨w1, w2, w3, w4, w5, w6, w7, w8⟩ := h
  unfold tw_told
  refine ⟨?_, ?_, ?_, ?_, ?_, ?_, fun i i0 i1 => ?_, fun k k0 k1 => ?_⟩
  · simp (disch := omega) only [up1_ne]; exact w1
  · rw [up1_self]; omega
  · simp (disch := omega) only [up1_ne]; exact w3
  · simp (disch := omega) only [up1_ne]; exact w4
  · simp (disch := omega) only [up1_ne]; exact w5
  · simp (disch := omega) only [up1_ne]; exact w6
  · simp (disch := omega) only [up1_ne] at i1; simp (disch := omega) only [up1_ne]; exact w7 i i0 i1
  · rw [up1_self] at k1
    by_cases e : k = s 2
    · subst e
      simp (disch := omega) only [up1_ne, up1_self]
      omega
    · have := w8 k k0 (by omega)
      simp (disch := omega) only [up1_ne]; exact this
theorem tw_Z_told {u : Int} {s : Int → Int} (z : tw_Z s) (h0 : 0 ≤ s 2) (h2 : s 2 < 4) : tw_Z (tw_told s u) :=
  tw_Z_up (tw_Z_up (tw_Z_up (tw_Z_up (tw_Z_up z (by omega)) (by omega)) (by omega)) (by omega)) (by omega)
def hs_g (m : Int) (h : Int → Int → Int) (s : Int → Int) : Nat → Int × (Int → Int → Int)
  | 0 => (m, h)
  | n + 1 => (hs_len (hs_g m h s n).1, hs_push (hs_g m h s n).1 (hs_g m h s n).2 (tw_go s n))
section AE
variable {d L : Nat} {G : kx_G} {μ : kx_M} {Q : Option kx_V → kx_G → kx_M → Prop} {m v : Int} {h : Int → Int → Int} {s : Int → Int}
theorem r_Xwind (hv : kx_in v) (N : TN s) (R : RC μ m h s) (T : TR μ 30 s) (t0 : s 1 = 0 → Q (some (kI (-1000002))) (kg L) μ) (t1 : 1 ≤ s 1 → ¬ (0 ≤ v ∧ v ≤ 5) → Q (some (kI (-1000001))) (kg L) μ) (t2 : 1 ≤ s 1 → 0 ≤ v → v ≤ 5 → ∀ μ', RC μ' (hs_len m) (hs_push m h s) (up1 s 0 v) → TR μ' 30 (up1 s 0 v) → FrX μ μ' → Q (some (kI (s 0))) (kg L) μ') : kx_cx (ke (d + 3)) 77 [kR 1, kI v] (kg L) μ Q := by
  refine ke_start (tb := kt_X_wind) (ls := [some (kR 1), some (kI v), none]) rfl rfl ?_
  obtain ⟨n1, n2, n3⟩ := TN_in N
  have T0 := T
  obtain ⟨e8, e9, e10, e11, e12, e13, eh, eo⟩ := T
  refine ks_aload_n rfl rfl ?_
  refine ks_callv_1 rfl rfl rfl (Nat.le_of_ble_eq_true rfl) ?_
  -- at 1: call X_isNoTown st []
  refine r_isNoTown ⟨by omega, by omega⟩ (fun c => ?_) (fun c => ?_)
  · show kx_wx _ _ _ _ _ (_ :: _) _ _
    refine ks_if_eq_1 rfl ?_
    refine ks_ldc rfl ?_
    refine ks_ireturn rfl ?_
    -- at 9: ret  st ['-1000002']
    exact t0 (by omega)
  · show kx_wx _ _ _ _ _ (_ :: _) _ _
    refine ks_if_eq_0 rfl ?_
    refine ks_iload_n rfl rfl ?_
    refine ks_iconst rfl ?_
    refine ks_iconst rfl ?_
    refine ks_calls_3 rfl (Nat.le_of_ble_eq_true rfl) ?_
    -- at 13: call X_isBetween st []
    refine r_isBetween hv ⟨by omega, by omega⟩ ⟨by omega, by omega⟩ (fun c2 => ?_) (fun c2 => ?_)
    · show kx_wx _ _ _ _ _ (_ :: _) _ _
      refine ks_if_ne_1 rfl ?_
      refine ks_aload_n rfl rfl ?_
      refine ks_getr (b := 30) rfl rfl rfl rfl (by decide) ?_
      refine ks_geti rfl rfl rfl rfl (by (try simp only [kx_up_at, kx_row_at, up1_at, Nat.reduceEqDiff, Int.reduceEq, Int.reduceNeg, and_true, true_and, and_false, false_and, and_self, reduceIte, Nat.add_left_cancel_iff, Nat.add_eq_left, Nat.left_eq_add, Nat.reduceAdd, Int.add_left_inj, Int.add_right_inj, e10, e11, e12]); rfl) ?_
      refine ks_istore_n_2 rfl rfl ?_
      refine ks_aload_n rfl rfl ?_
      refine ks_getr (b := 39) rfl rfl rfl rfl (by decide) ?_
      refine ks_iconst rfl ?_
      refine ks_aload_n rfl rfl ?_
      refine ks_getr (b := 30) rfl rfl rfl rfl (by decide) ?_
      refine ks_geti rfl rfl rfl rfl (by (try simp only [kx_up_at, kx_row_at, up1_at, Nat.reduceEqDiff, Int.reduceEq, Int.reduceNeg, and_true, true_and, and_false, false_and, and_self, reduceIte, Nat.add_left_cancel_iff, Nat.add_eq_left, Nat.left_eq_add, Nat.reduceAdd, Int.add_left_inj, Int.add_right_inj, e10, e11, e12]); rfl) ?_
      refine ks_aload_n rfl rfl ?_
      refine ks_getr (b := 30) rfl rfl rfl rfl (by decide) ?_
      refine ks_geti rfl rfl rfl rfl (by (try simp only [kx_up_at, kx_row_at, up1_at, Nat.reduceEqDiff, Int.reduceEq, Int.reduceNeg, and_true, true_and, and_false, false_and, and_self, reduceIte, Nat.add_left_cancel_iff, Nat.add_eq_left, Nat.left_eq_add, Nat.reduceAdd, Int.add_left_inj, Int.add_right_inj, e10, e11, e12]); rfl) ?_
      refine ks_iload_n rfl rfl ?_
      refine ks_callv_5 rfl rfl rfl (Nat.le_of_ble_eq_true rfl) ?_
      -- at 50: call Acts_keep st []
      obtain ⟨W, Z⟩ := TN_W N (by omega)
      refine r_keep2 (s' := up1 s 0 v) R W Z (Or.inr (Or.inl ⟨rfl, rfl, v, rfl⟩)) (fun μ1 R1 F1 => ?_)
      show kx_wx _ _ _ _ _ _ _ _
      refine ks_aload_n rfl rfl ?_
      refine ks_getr (b := 30) rfl rfl rfl rfl (by decide) ?_
      refine ks_iload_n rfl rfl ?_
      refine ks_puti rfl rfl ?_
      refine ks_iload_n rfl rfl ?_
      refine ks_ireturn rfl ?_
      -- at 62: ret  st [None]
      refine t2 (by omega) c2.1 c2.2 _ (RC_fr R1 (fun c c0 c1 => by rw [kx_up_row (by omega)])) ?_ (fun c hc => ?_)
      · have := TRx_10 (v := v) (TR_fr T0 (fun c c0 c1 => F1 c (by omega)))
        unfold TR
        rw [up1_ne (by omega)]
        exact this
      · rw [kx_up_row (by omega), F1 c (by omega)]
    · show kx_wx _ _ _ _ _ (_ :: _) _ _
      refine ks_if_ne_0 rfl ?_
      refine ks_ldc rfl ?_
      refine ks_ireturn rfl ?_
      -- at 21: ret  st ['-1000001']
      exact t1 (by omega) c2
theorem r_Xgive (hv : kx_in v) (N : TN s) (R : RC μ m h s) (T : TR μ 30 s) (t0 : ¬ (0 ≤ v ∧ v < s 1) → Q (some (kI (-1000001))) (kg L) μ) (t2 : 0 ≤ v → v < s 1 → ∀ μ', RC μ' (hs_len m) (hs_push m h s) (up1 (up1 s 4 v) 5 0) → TR μ' 30 (up1 (up1 s 4 v) 5 0) → FrX μ μ' → Q (some (kI (s 4))) (kg L) μ') : kx_cx (ke (d + 3)) 78 [kR 1, kI v] (kg L) μ Q := by
  refine ke_start (tb := kt_X_give) (ls := [some (kR 1), some (kI v), none]) rfl rfl ?_
  obtain ⟨n1, n2, n3⟩ := TN_in N
  have T0 := T
  obtain ⟨e8, e9, e10, e11, e12, e13, eh, eo⟩ := T
  refine ks_aload_n rfl rfl ?_
  refine ks_getr (b := 30) rfl rfl rfl rfl (by decide) ?_
  refine ks_iload_n rfl rfl ?_
  refine ks_callv_2 rfl rfl rfl (Nat.le_of_ble_eq_true rfl) ?_
  -- at 5: call Town_hasHead st []
  refine r_hasHead (kg_T30 L) hv ⟨by omega, by omega⟩ (fun c => ?_) (fun c => ?_)
  · show kx_wx _ _ _ _ _ (_ :: _) _ _
    refine ks_if_ne_1 rfl ?_
    refine ks_aload_n rfl rfl ?_
    refine ks_getr (b := 30) rfl rfl rfl rfl (by decide) ?_
    refine ks_geti rfl rfl rfl rfl (by (try simp only [kx_up_at, kx_row_at, up1_at, Nat.reduceEqDiff, Int.reduceEq, Int.reduceNeg, and_true, true_and, and_false, false_and, and_self, reduceIte, Nat.add_left_cancel_iff, Nat.add_eq_left, Nat.left_eq_add, Nat.reduceAdd, Int.add_left_inj, Int.add_right_inj, e10, e11, e12]); rfl) ?_
    refine ks_istore_n_2 rfl rfl ?_
    refine ks_aload_n rfl rfl ?_
    refine ks_getr (b := 39) rfl rfl rfl rfl (by decide) ?_
    refine ks_iconst rfl ?_
    refine ks_iload_n rfl rfl ?_
    refine ks_aload_n rfl rfl ?_
    refine ks_getr (b := 30) rfl rfl rfl rfl (by decide) ?_
    refine ks_geti rfl rfl rfl rfl (by (try simp only [kx_up_at, kx_row_at, up1_at, Nat.reduceEqDiff, Int.reduceEq, Int.reduceNeg, and_true, true_and, and_false, false_and, and_self, reduceIte, Nat.add_left_cancel_iff, Nat.add_eq_left, Nat.left_eq_add, Nat.reduceAdd, Int.add_left_inj, Int.add_right_inj, e10, e11, e12]); rfl) ?_
    refine ks_iload_n rfl rfl ?_
    refine ks_callv_5 rfl rfl rfl (Nat.le_of_ble_eq_true rfl) ?_
    -- at 36: call Acts_keep st []
    obtain ⟨W, Z⟩ := TN_W N (by omega)
    refine r_keep2 (s' := up1 (up1 s 4 v) 5 0) R W Z (Or.inr (Or.inr (Or.inl ⟨rfl, rfl, rfl, v, rfl⟩))) (fun μ1 R1 F1 => ?_)
    show kx_wx _ _ _ _ _ _ _ _
    refine ks_aload_n rfl rfl ?_
    refine ks_getr (b := 30) rfl rfl rfl rfl (by decide) ?_
    refine ks_iload_n rfl rfl ?_
    refine ks_callv_2 rfl rfl rfl (Nat.le_of_ble_eq_true rfl) ?_
    -- at 44: call Town_handTo st []
    refine r_handTo (kg_T30 L) ?_
    show kx_wx _ _ _ _ _ _ _ _
    refine ks_iload_n rfl rfl ?_
    refine ks_ireturn rfl ?_
    -- at 48: ret  st [None]
    refine t2 (by omega) (by omega) _ (RC_fr R1 (fun c c0 c1 => by rw [kx_up_row (by omega), kx_up_row (by omega)])) ?_ (fun c hc => ?_)
    · have := TRx_12 (v := 0) (TRx_11 (v := v) (TR_fr T0 (fun c c0 c1 => F1 c (by omega)))) (by rw [up1_ne (by omega)]; omega)
      unfold TR
      rw [up1_ne (by omega), up1_ne (by omega)]
      exact this
    · rw [kx_up_row (by omega), kx_up_row (by omega), F1 c (by omega)]
  · show kx_wx _ _ _ _ _ (_ :: _) _ _
    refine ks_if_ne_0 rfl ?_
    refine ks_ldc rfl ?_
    refine ks_ireturn rfl ?_
    -- at 13: ret  st ['-1000001']
    exact t0 (by omega)
theorem r_Xorder (hv : kx_in v) (N : TN s) (R : RC μ m h s) (T : TR μ 30 s) (t0 : s 1 = 0 → Q (some (kI (-1000002))) (kg L) μ) (t1 : 1 ≤ s 1 → ¬ (1 ≤ v ∧ v ≤ 40) → Q (some (kI (-1000001))) (kg L) μ) (t3 : 1 ≤ s 1 → 1 ≤ v → v ≤ 40 → s 2 = 4 → Q (some (kI (-1000003))) (kg L) μ) (t2 : 1 ≤ s 1 → 1 ≤ v → v ≤ 40 → s 2 < 4 → ∀ μ', RC μ' (hs_len m) (hs_push m h s) (tw_told s v) → TR μ' 30 (tw_told s v) → FrX μ μ' → Q (some (kI (s 2))) (kg L) μ') : kx_cx (ke (d + 3)) 79 [kR 1, kI v] (kg L) μ Q := by
  refine ke_start (tb := kt_X_order) (ls := [some (kR 1), some (kI v), none]) rfl rfl ?_
  obtain ⟨n1, n2, n3⟩ := TN_in N
  have T0 := T
  obtain ⟨e8, e9, e10, e11, e12, e13, eh, eo⟩ := T
  refine ks_aload_n rfl rfl ?_
  refine ks_callv_1 rfl rfl rfl (Nat.le_of_ble_eq_true rfl) ?_
  -- at 1: call X_isNoTown st []
  refine r_isNoTown ⟨by omega, by omega⟩ (fun c => ?_) (fun c => ?_)
  · show kx_wx _ _ _ _ _ (_ :: _) _ _
    refine ks_if_eq_1 rfl ?_
    refine ks_ldc rfl ?_
    refine ks_ireturn rfl ?_
    -- at 9: ret  st ['-1000002']
    exact t0 (by omega)
  · show kx_wx _ _ _ _ _ (_ :: _) _ _
    refine ks_if_eq_0 rfl ?_
    refine ks_iload_n rfl rfl ?_
    refine ks_iconst rfl ?_
    refine ks_bipush rfl ?_
    refine ks_calls_3 rfl (Nat.le_of_ble_eq_true rfl) ?_
    -- at 14: call X_isBetween st []
    refine r_isBetween hv ⟨by omega, by omega⟩ ⟨by omega, by omega⟩ (fun c2 => ?_) (fun c2 => ?_)
    · show kx_wx _ _ _ _ _ (_ :: _) _ _
      refine ks_if_ne_1 rfl ?_
      refine ks_aload_n rfl rfl ?_
      refine ks_getr (b := 30) rfl rfl rfl rfl (by decide) ?_
      refine ks_geti rfl rfl rfl rfl (by (try simp only [kx_up_at, kx_row_at, up1_at, Nat.reduceEqDiff, Int.reduceEq, Int.reduceNeg, and_true, true_and, and_false, false_and, and_self, reduceIte, Nat.add_left_cancel_iff, Nat.add_eq_left, Nat.left_eq_add, Nat.reduceAdd, Int.add_left_inj, Int.add_right_inj, e9]); rfl) ?_
      refine ks_iconst rfl ?_
      -- at 31: if lt -> 37 else 34 st ['4', None]
      obtain ⟨W, Z⟩ := TN_W N (by omega)
      refine ks_icmp_lt rfl ⟨by omega, by omega⟩ ⟨by omega, by omega⟩ (fun c3 => ?_) (fun c3 => ?_)
      · refine ks_aload_n rfl rfl ?_
        refine ks_getr (b := 30) rfl rfl rfl rfl (by decide) ?_
        refine ks_iload_n rfl rfl ?_
        refine ks_callv_2 rfl rfl rfl (Nat.le_of_ble_eq_true rfl) ?_
        -- at 42: call Town_addOrder st []
        refine r_addOrder (kg_T30 L) T0 (by omega) (by omega) (fun μ1 T1 F1 => ?_)
        obtain ⟨f8, f9, f10, f11, f12, f13, fh, fo⟩ := T1
        simp (disch := omega) only [up1_ne, up1_self] at f8 f9 f10 f11 f12 f13 fh fo
        show kx_wx _ _ _ _ _ (_ :: _) _ _
        refine ks_istore_n_2 rfl rfl ?_
        refine ks_aload_n rfl rfl ?_
        refine ks_getr (b := 39) rfl rfl rfl rfl (by decide) ?_
        refine ks_iconst rfl ?_
        refine ks_aload_n rfl rfl ?_
        refine ks_getr (b := 30) rfl rfl rfl rfl (by decide) ?_
        refine ks_geti rfl rfl rfl rfl (by (try simp only [kx_up_at, kx_row_at, up1_at, Nat.reduceEqDiff, Int.reduceEq, Int.reduceNeg, and_true, true_and, and_false, false_and, and_self, reduceIte, Nat.add_left_cancel_iff, Nat.add_eq_left, Nat.left_eq_add, Nat.reduceAdd, Int.add_left_inj, Int.add_right_inj, f11, f12]); rfl) ?_
        refine ks_aload_n rfl rfl ?_
        refine ks_getr (b := 30) rfl rfl rfl rfl (by decide) ?_
        refine ks_geti rfl rfl rfl rfl (by (try simp only [kx_up_at, kx_row_at, up1_at, Nat.reduceEqDiff, Int.reduceEq, Int.reduceNeg, and_true, true_and, and_false, false_and, and_self, reduceIte, Nat.add_left_cancel_iff, Nat.add_eq_left, Nat.left_eq_add, Nat.reduceAdd, Int.add_left_inj, Int.add_right_inj, f11, f12]); rfl) ?_
        refine ks_iload_n rfl rfl ?_
        refine ks_callv_5 rfl rfl rfl (Nat.le_of_ble_eq_true rfl) ?_
        -- at 66: call Acts_keep st []
        refine r_keep2 (s' := tw_told s v) (RC_fr R (fun c c0 c1 => F1 c (by omega))) W Z (Or.inr (Or.inr (Or.inr (Or.inl ⟨rfl, rfl, c3, v, rfl⟩)))) (fun μ2 R2 F2 => ?_)
        show kx_wx _ _ _ _ _ _ _ _
        refine ks_iload_n rfl rfl ?_
        refine ks_ireturn rfl ?_
        -- at 70: ret  st [None]
        refine t2 (by omega) c2.1 c2.2 c3 _ R2 (TR_fr (μ := μ1) ?_ (fun c c0 c1 => F2 c (by omega))) (fun c hc => ?_)
        · unfold tw_told
          refine ⟨?_, ?_, ?_, ?_, ?_, ?_, fun i i0 i1 => ?_, fun k k0 k1 => ?_⟩
          · simp (disch := omega) only [up1_ne]; exact f8
          · simp (disch := omega) only [up1_self]; exact f9
          · simp (disch := omega) only [up1_ne]; exact f10
          · simp (disch := omega) only [up1_ne]; exact f11
          · simp (disch := omega) only [up1_ne]; exact f12
          · simp (disch := omega) only [up1_ne]; exact f13
          · simp (disch := omega) only [up1_ne] at i1
            have := fh i i0 i1
            simp (disch := omega) only [up1_ne] at this ⊢; exact this
          · rw [up1_self] at k1
            have := fo k k0 (by omega)
            by_cases e : k = s 2
            · subst e
              rw [up1_ne (i := 2) (j := 38 + s 2) (by omega), up1_self (i := 38 + s 2)] at this
              rw [up1_ne (i := 2) (j := 38 + s 2) (by omega), up1_ne (i := 42 + s 2) (j := 38 + s 2) (by omega), up1_self (i := 38 + s 2)]
              simp (disch := omega) only [up1_ne, up1_self] at this ⊢; exact this
            · rw [up1_ne (i := 2) (j := 38 + k) (by omega), up1_ne (i := 38 + s 2) (j := 38 + k) (by omega), up1_ne (i := 34 + s 2) (j := 38 + k) (by omega), up1_ne (i := 30 + s 2) (j := 38 + k) (by omega)] at this
              rw [up1_ne (i := 2) (j := 38 + k) (by omega), up1_ne (i := 42 + s 2) (j := 38 + k) (by omega), up1_ne (i := 38 + s 2) (j := 38 + k) (by omega), up1_ne (i := 34 + s 2) (j := 38 + k) (by omega), up1_ne (i := 30 + s 2) (j := 38 + k) (by omega)]
              simp (disch := omega) only [up1_ne] at this ⊢; exact this
        · rw [F2 c (by omega), F1 c (by omega)]
      · refine ks_ldc rfl ?_
        refine ks_ireturn rfl ?_
        -- at 36: ret  st ['-1000003']
        exact t3 (by omega) c2.1 c2.2 (by omega)
    · show kx_wx _ _ _ _ _ (_ :: _) _ _
      refine ks_if_ne_0 rfl ?_
      refine ks_ldc rfl ?_
      refine ks_ireturn rfl ?_
      -- at 22: ret  st ['-1000001']
      exact t1 (by omega) c2
theorem r_Xback (hv : kx_in v) (N : TN s) (R : RC μ m h s) (T : TR μ 30 s) (t0 : ¬ (0 ≤ v ∧ v < s 2) → Q (some (kI (-1000001))) (kg L) μ) (t1 : 0 ≤ v → v < s 2 → ¬ s (38 + v) = 0 → Q (some (kI (-1000002))) (kg L) μ) (t2 : 0 ≤ v → v < s 2 → s (38 + v) = 0 → ∀ μ', RC μ' (hs_len m) (hs_push m h s) (up1 s (38 + v) 2) → TR μ' 30 (up1 s (38 + v) 2) → FrX μ μ' → Q (some (kI (s (34 + v)))) (kg L) μ') : kx_cx (ke (d + 3)) 80 [kR 1, kI v] (kg L) μ Q := by
  refine ke_start (tb := kt_X_back) (ls := [some (kR 1), some (kI v)]) rfl rfl ?_
  obtain ⟨n1, n2, n3⟩ := TN_in N
  have T0 := T
  obtain ⟨e8, e9, e10, e11, e12, e13, eh, eo⟩ := T
  refine ks_aload_n rfl rfl ?_
  refine ks_getr (b := 30) rfl rfl rfl rfl (by decide) ?_
  refine ks_iload_n rfl rfl ?_
  refine ks_callv_2 rfl rfl rfl (Nat.le_of_ble_eq_true rfl) ?_
  -- at 5: call Town_hasOrder st []
  refine r_hasOrder (kg_T30 L) hv ⟨by omega, by omega⟩ (fun c => ?_) (fun c => ?_)
  · have c0 := c.1
    have c1 : v < s 2 := by omega
    obtain ⟨W, Z⟩ := TN_W N (by omega)
    have w8 := W.2.2.2.2.2.2.2 v c0 c1
    obtain ⟨o1, o2, o3, o4⟩ := eo v c0 c1
    show kx_wx _ _ _ _ _ (_ :: _) _ _
    refine ks_if_ne_1 rfl ?_
    refine ks_aload_n rfl rfl ?_
    refine ks_getr (b := 30) rfl rfl rfl rfl (by decide) ?_
    refine ks_getr (b := 37) rfl rfl rfl rfl (by decide) ?_
    refine ks_iload_n rfl rfl ?_
    refine ks_iaload rfl rfl (by omega) (by omega) (by (try simp only [kx_up_at, kx_row_at, up1_at, Nat.reduceEqDiff, Int.reduceEq, Int.reduceNeg, and_true, true_and, and_false, false_and, and_self, reduceIte, Nat.add_left_cancel_iff, Nat.add_eq_left, Nat.left_eq_add, Nat.reduceAdd, Int.add_left_inj, Int.add_right_inj, e11, e12, o3]); rfl) ?_
    -- at 23: if eq -> 29 else 26 st [None]
    refine ks_if_eq rfl ⟨by omega, by omega⟩ (fun c2 => ?_) (fun c2 => ?_)
    · refine ks_aload_n rfl rfl ?_
      refine ks_getr (b := 39) rfl rfl rfl rfl (by decide) ?_
      refine ks_iconst rfl ?_
      refine ks_aload_n rfl rfl ?_
      refine ks_getr (b := 30) rfl rfl rfl rfl (by decide) ?_
      refine ks_geti rfl rfl rfl rfl (by (try simp only [kx_up_at, kx_row_at, up1_at, Nat.reduceEqDiff, Int.reduceEq, Int.reduceNeg, and_true, true_and, and_false, false_and, and_self, reduceIte, Nat.add_left_cancel_iff, Nat.add_eq_left, Nat.left_eq_add, Nat.reduceAdd, Int.add_left_inj, Int.add_right_inj, e11, e12, o3]); rfl) ?_
      refine ks_aload_n rfl rfl ?_
      refine ks_getr (b := 30) rfl rfl rfl rfl (by decide) ?_
      refine ks_geti rfl rfl rfl rfl (by (try simp only [kx_up_at, kx_row_at, up1_at, Nat.reduceEqDiff, Int.reduceEq, Int.reduceNeg, and_true, true_and, and_false, false_and, and_self, reduceIte, Nat.add_left_cancel_iff, Nat.add_eq_left, Nat.left_eq_add, Nat.reduceAdd, Int.add_left_inj, Int.add_right_inj, e11, e12, o3]); rfl) ?_
      refine ks_iload_n rfl rfl ?_
      refine ks_callv_5 rfl rfl rfl (Nat.le_of_ble_eq_true rfl) ?_
      -- at 49: call Acts_keep st []
      refine r_keep2 (s' := up1 s (38 + v) 2) R W Z (Or.inr (Or.inr (Or.inr (Or.inr ⟨rfl, c0, c1, c2, rfl⟩)))) (fun μ1 R1 F1 => ?_)
      have o5 : μ1 36 v = s (34 + v) := by rw [F1 36 (by omega)]; exact o2
      show kx_wx _ _ _ _ _ _ _ _
      refine ks_aload_n rfl rfl ?_
      refine ks_getr (b := 30) rfl rfl rfl rfl (by decide) ?_
      refine ks_getr (b := 37) rfl rfl rfl rfl (by decide) ?_
      refine ks_iload_n rfl rfl ?_
      refine ks_iconst rfl ?_
      refine ks_iastore rfl rfl (by omega) (by omega) ?_
      refine ks_aload_n rfl rfl ?_
      refine ks_getr (b := 30) rfl rfl rfl rfl (by decide) ?_
      refine ks_getr (b := 36) rfl rfl rfl rfl (by decide) ?_
      refine ks_iload_n rfl rfl ?_
      refine ks_iaload rfl rfl (by omega) (by omega) (by (try simp only [kx_up_at, kx_row_at, up1_at, Nat.reduceEqDiff, Int.reduceEq, Int.reduceNeg, and_true, true_and, and_false, false_and, and_self, reduceIte, Nat.add_left_cancel_iff, Nat.add_eq_left, Nat.left_eq_add, Nat.reduceAdd, Int.add_left_inj, Int.add_right_inj, o5]); rfl) ?_
      refine ks_ireturn rfl ?_
      -- at 71: ret  st [None]
      refine t2 c0 c1 c2 _ (RC_fr R1 (fun c c0 c1 => by rw [kx_up_row (by omega)])) ?_ (fun c hc => ?_)
      · refine ⟨?_, ?_, ?_, ?_, ?_, ?_, fun i i0 i1 => ?_, fun k k0 k1 => ?_⟩
        · simp (disch := omega) only [up1_ne, kx_up_row, F1]; exact e8
        · simp (disch := omega) only [up1_ne, kx_up_row, F1]; exact e9
        · simp (disch := omega) only [up1_ne, kx_up_row, F1]; exact e10
        · simp (disch := omega) only [up1_ne, kx_up_row, F1]; exact e11
        · simp (disch := omega) only [up1_ne, kx_up_row, F1]; exact e12
        · simp (disch := omega) only [up1_ne, kx_up_row, F1]; exact e13
        · simp (disch := omega) only [up1_ne] at i1
          have := eh i i0 i1
          simp (disch := omega) only [up1_ne, kx_up_row, F1]; exact this
        · simp (disch := omega) only [up1_ne] at k1
          obtain ⟨p1, p2, p3, p4⟩ := eo k k0 k1
          by_cases e : k = v
          · subst e
            rw [up1_self, if_neg (by omega)]
            rw [c2, if_neg (by omega)] at p4
            simp (disch := omega) only [up1_ne, kx_up_row, kx_up_self, F1]
            exact ⟨p1, p2, trivial, p4⟩
          · rw [up1_ne (i := 38 + v) (j := 38 + k) (by omega)]
            simp (disch := omega) only [up1_ne, kx_up_row, kx_up_oth, F1]
            exact ⟨p1, p2, p3, p4⟩
      · rw [kx_up_row (by omega), F1 c (by omega)]
    · refine ks_ldc rfl ?_
      refine ks_ireturn rfl ?_
      -- at 28: ret  st ['-1000002']
      exact t1 c0 c1 c2
  · show kx_wx _ _ _ _ _ (_ :: _) _ _
    refine ks_if_ne_0 rfl ?_
    refine ks_ldc rfl ?_
    refine ks_ireturn rfl ?_
    -- at 13: ret  st ['-1000001']
    exact t0 (by omega)
theorem l_Xsteps {n : Nat} (hn : n ≤ 20) (hb : s 3 + n ≤ 999) (W : tw_W 999 s) (Z : tw_Z s) (t : ∀ μ', RC μ' (hs_g m h s n).1 (hs_g m h s n).2 (tw_go s n) → TR μ' 30 (tw_go s n) → FrX μ μ' → Q (some (kI (tw_go s n 4))) (kg L) μ') : ∀ (r j : Nat) (μ1 : kx_M) (x3 x4 : Option kx_V), j + r = n → RC μ1 (hs_g m h s j).1 (hs_g m h s j).2 (tw_go s j) → TR μ1 30 (tw_go s j) → FrX μ μ1 → kx_wx (ke (d + 3)) kt_X_steps Q 43 [some (kR 1), some (kI n), some (kI j), x3, x4] [] (kg L) μ1 := by
  have W0 := tw_W_self W
  intro r
  induction r with
  | zero =>
    intro j μ1 x3 x4 hj R T F
    rw [Nat.add_zero] at hj
    subst hj
    have e11 := T.2.2.2.1
    refine ks_iload_n rfl rfl ?_
    refine ks_iload_n rfl rfl ?_
    -- at 45: if ge -> 89 else 48 st [None, None]
    refine ks_icmp_ge rfl ⟨by omega, by omega⟩ ⟨by omega, by omega⟩ (fun c => absurd c (by omega)) (fun c => ?_)
    refine ks_aload_n rfl rfl ?_
    refine ks_getr (b := 30) rfl rfl rfl rfl (by decide) ?_
    refine ks_geti rfl rfl rfl rfl (by (try simp only [kx_up_at, kx_row_at, up1_at, Nat.reduceEqDiff, Int.reduceEq, Int.reduceNeg, and_true, true_and, and_false, false_and, and_self, reduceIte, Nat.add_left_cancel_iff, Nat.add_eq_left, Nat.left_eq_add, Nat.reduceAdd, Int.add_left_inj, Int.add_right_inj, e11]); rfl) ?_
    refine ks_ireturn rfl ?_
    -- at 96: ret  st [None]
    exact t _ R T F
  | succ r ih =>
    intro j μ1 x3 x4 hj R T F
    have Wj := tw_W_mono (tw_W_go W0 j) (C := 999) (by omega)
    have Zj := tw_Z_go W Z j
    obtain ⟨e8, e9, e10, e11, e12, e13, eh, eo⟩ := T
    have T0 : TR μ1 30 (tw_go s j) := ⟨e8, e9, e10, e11, e12, e13, eh, eo⟩
    refine ks_iload_n rfl rfl ?_
    refine ks_iload_n rfl rfl ?_
    -- at 45: if ge -> 89 else 48 st [None, None]
    refine ks_icmp_ge rfl ⟨by omega, by omega⟩ ⟨by omega, by omega⟩ (fun c => ?_) (fun c => absurd c (by omega))
    refine ks_aload_n rfl rfl ?_
    refine ks_getr (b := 30) rfl rfl rfl rfl (by decide) ?_
    refine ks_geti rfl rfl rfl rfl (by (try simp only [kx_up_at, kx_row_at, up1_at, Nat.reduceEqDiff, Int.reduceEq, Int.reduceNeg, and_true, true_and, and_false, false_and, and_self, reduceIte, Nat.add_left_cancel_iff, Nat.add_eq_left, Nat.left_eq_add, Nat.reduceAdd, Int.add_left_inj, Int.add_right_inj, e11, e12]); rfl) ?_
    refine ks_istore_n_3 rfl rfl ?_
    refine ks_aload_n rfl rfl ?_
    refine ks_getr (b := 30) rfl rfl rfl rfl (by decide) ?_
    refine ks_geti rfl rfl rfl rfl (by (try simp only [kx_up_at, kx_row_at, up1_at, Nat.reduceEqDiff, Int.reduceEq, Int.reduceNeg, and_true, true_and, and_false, false_and, and_self, reduceIte, Nat.add_left_cancel_iff, Nat.add_eq_left, Nat.left_eq_add, Nat.reduceAdd, Int.add_left_inj, Int.add_right_inj, e11, e12]); rfl) ?_
    refine ks_istore_4 rfl rfl ?_
    refine ks_aload_n rfl rfl ?_
    refine ks_getr (b := 39) rfl rfl rfl rfl (by decide) ?_
    refine ks_iconst rfl ?_
    refine ks_iload_n rfl rfl ?_
    refine ks_iload rfl rfl ?_
    refine ks_aload_n rfl rfl ?_
    refine ks_getr (b := 30) rfl rfl rfl rfl (by decide) ?_
    refine ks_callv_1 rfl rfl rfl (Nat.le_of_ble_eq_true rfl) ?_
    -- at 77: call Town_takeStep st [None, None, '0', '39']
    refine r_takeStep (by omega) (kg_T30 L) T0 Wj (fun μ2 T2 F2 => ?_)
    show kx_wx _ _ _ _ _ (_ :: _) _ _
    refine ks_callv_5 rfl rfl rfl (Nat.le_of_ble_eq_true rfl) ?_
    -- at 80: call Acts_keep st []
    refine r_keep2 (s' := tw_step (tw_go s j)) (RC_fr R (fun c c0 c1 => F2 c (by omega))) Wj Zj (Or.inl ⟨rfl, rfl, rfl, rfl, rfl⟩) (fun μ3 R3 F3 => ?_)
    show kx_wx _ _ _ _ _ _ _ _
    refine ks_iinc_2 rfl rfl ?_
    refine ks_goto rfl ?_
    -- at 43: stop  st []
    refine ih (j + 1) μ3 _ _ (by omega) R3 (TR_fr T2 (fun c c0 c1 => F3 c (by omega))) (fun c hc => ?_)
    rw [F3 c (by omega), F2 c (by omega), F c hc]
theorem r_Xsteps (hv : kx_in v) (N : TN s) (R : RC μ m h s) (T : TR μ 30 s) (t0 : s 1 = 0 → Q (some (kI (-1000002))) (kg L) μ) (t1 : 1 ≤ s 1 → ¬ (1 ≤ v ∧ v ≤ 20) → Q (some (kI (-1000001))) (kg L) μ) (t3 : 1 ≤ s 1 → 1 ≤ v → v ≤ 20 → 999 < s 3 + v → Q (some (kI (-1000003))) (kg L) μ) (t2 : 1 ≤ s 1 → 1 ≤ v → v ≤ 20 → s 3 + v ≤ 999 → ∀ μ', RC μ' (hs_g m h s v.toNat).1 (hs_g m h s v.toNat).2 (tw_go s v.toNat) → TR μ' 30 (tw_go s v.toNat) → FrX μ μ' → Q (some (kI (tw_go s v.toNat 4))) (kg L) μ') : kx_cx (ke (d + 4)) 76 [kR 1, kI v] (kg L) μ Q := by
  refine ke_start (tb := kt_X_steps) (ls := [some (kR 1), some (kI v), none, none, none]) rfl rfl ?_
  obtain ⟨n1, n2, n3⟩ := TN_in N
  have T0 := T
  obtain ⟨e8, e9, e10, e11, e12, e13, eh, eo⟩ := T
  refine ks_aload_n rfl rfl ?_
  refine ks_callv_1 rfl rfl rfl (Nat.le_of_ble_eq_true rfl) ?_
  -- at 1: call X_isNoTown st []
  refine r_isNoTown ⟨by omega, by omega⟩ (fun c => ?_) (fun c => ?_)
  · show kx_wx _ _ _ _ _ (_ :: _) _ _
    refine ks_if_eq_1 rfl ?_
    refine ks_ldc rfl ?_
    refine ks_ireturn rfl ?_
    -- at 9: ret  st ['-1000002']
    exact t0 (by omega)
  · show kx_wx _ _ _ _ _ (_ :: _) _ _
    refine ks_if_eq_0 rfl ?_
    refine ks_iload_n rfl rfl ?_
    refine ks_iconst rfl ?_
    refine ks_bipush rfl ?_
    refine ks_calls_3 rfl (Nat.le_of_ble_eq_true rfl) ?_
    -- at 14: call X_isBetween st []
    refine r_isBetween hv ⟨by omega, by omega⟩ ⟨by omega, by omega⟩ (fun c2 => ?_) (fun c2 => ?_)
    · obtain ⟨W, Z⟩ := TN_W N (by omega)
      have w5 := W.2.2.2.2.1
      show kx_wx _ _ _ _ _ (_ :: _) _ _
      refine ks_if_ne_1 rfl ?_
      refine ks_aload_n rfl rfl ?_
      refine ks_getr (b := 30) rfl rfl rfl rfl (by decide) ?_
      refine ks_geti rfl rfl rfl rfl (by (try simp only [kx_up_at, kx_row_at, up1_at, Nat.reduceEqDiff, Int.reduceEq, Int.reduceNeg, and_true, true_and, and_false, false_and, and_self, reduceIte, Nat.add_left_cancel_iff, Nat.add_eq_left, Nat.left_eq_add, Nat.reduceAdd, Int.add_left_inj, Int.add_right_inj, e13]); rfl) ?_
      refine ks_iload_n rfl rfl ?_
      refine ks_iadd rfl ?_
      refine ks_sipush rfl ?_
      -- at 35: if le -> 41 else 38 st ['999', None]
      refine ks_icmp_le rfl ⟨by omega, by omega⟩ ⟨by omega, by omega⟩ (fun c3 => ?_) (fun c3 => ?_)
      · refine ks_ldc rfl ?_
        refine ks_ireturn rfl ?_
        -- at 40: ret  st ['-1000003']
        exact t3 (by omega) c2.1 c2.2 c3
      · refine ks_iconst rfl ?_
        refine ks_istore_n_2 rfl rfl ?_
        -- at 43: stop  st []
        have ev : v = (v.toNat : Int) := by omega
        generalize v.toNat = n at *
        subst ev
        exact l_Xsteps (by omega) (by omega) W Z (fun μ' a b c => t2 (by omega) (by omega) (by omega) (by omega) μ' a b c) n 0 μ _ _ (by omega) R T0 (fun _ _ => rfl)
    · show kx_wx _ _ _ _ _ (_ :: _) _ _
      refine ks_if_ne_0 rfl ?_
      refine ks_ldc rfl ?_
      refine ks_ireturn rfl ?_
      -- at 22: ret  st ['-1000001']
      exact t1 (by omega) c2
end AE
