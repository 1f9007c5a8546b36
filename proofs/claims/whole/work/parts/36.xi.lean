/-! images, rows, the tape's bytes, rows that tell, on both sides -/
section XI
variable {d L : Nat} {G : kx_G} {μ : kx_M} {Q : Option kx_V → kx_G → kx_M → Prop} {s : Int → Int} {h b e v w : Int}
theorem r_Ximage (hv : kx_in v) (T : TR μ 30 s) (N : TN s) (t0 : ¬ (0 ≤ v ∧ v ≤ 1) → Q (some (kI (-1000001))) (kg L) μ) (t1 : 0 ≤ v → v ≤ 1 → s 1 = 0 → Q (some (kI (-1000002))) (kg L) μ) (t2 : 0 ≤ v → v ≤ 1 → 1 ≤ s 1 → ∀ μ', TR μ' (58 + 9 * v.toNat) s → μ' 76 = up1 (μ 76) v 1 → (∀ c, c ≠ 76 → c < 58 + 9 * v.toNat ∨ 58 + 9 * v.toNat + 8 < c → μ' c = μ c) → Q (some (kI 1)) (kg L) μ') : kx_cx (ke (d + 3)) 97 [kR 1, kI v] (kg L) μ Q := by
  refine ke_start (tb := kt_X_image) (ls := [some (kR 1), some (kI v)]) rfl rfl ?_
  obtain ⟨n1, n2, n3⟩ := TN_in N
  have e8 := T.1
  refine ks_iload_n rfl rfl ?_
  refine ks_calls_1 rfl (Nat.le_of_ble_eq_true rfl) ?_
  -- at 1: call X_isImage st []
  refine r_isImage hv (fun c => ?_) (fun c => ?_)
  · show kx_wx _ _ _ _ _ (_ :: _) _ _
    refine ks_if_ne_1 rfl ?_
    refine ks_aload_n rfl rfl ?_
    refine ks_callv_1 rfl rfl rfl (Nat.le_of_ble_eq_true rfl) ?_
    -- at 11: call X_isNoTown st []
    refine r_isNoTown ⟨by omega, by omega⟩ (fun c2 => ?_) (fun c2 => ?_)
    · show kx_wx _ _ _ _ _ (_ :: _) _ _
      refine ks_if_eq_1 rfl ?_
      refine ks_ldc rfl ?_
      refine ks_ireturn rfl ?_
      -- at 19: ret  st ['-1000002']
      exact t1 c.1 c.2 (by omega)
    · obtain ⟨W, Z⟩ := TN_W N (by omega)
      obtain ⟨a1, a2⟩ := kg_imgs L (i := v) c.1 (by omega)
      have t3 := t2 c.1 c.2 (by omega)
      generalize hg : 58 + 9 * v.toNat = g at *
      have a3 := a2.1
      show kx_wx _ _ _ _ _ (_ :: _) _ _
      refine ks_if_eq_0 rfl ?_
      refine ks_aload_n rfl rfl ?_
      refine ks_getr (b := 57) rfl rfl rfl rfl (by decide) ?_
      refine ks_iload_n rfl rfl ?_
      refine ks_aaload (b := g) rfl rfl (Or.inr rfl) (by omega) (by omega) a1 (by omega) ?_
      refine ks_aload_n rfl rfl ?_
      refine ks_getr (b := 30) rfl rfl rfl rfl (by decide) ?_
      refine ks_callv_2 rfl rfl (by assumption) (Nat.le_of_ble_eq_true rfl) ?_
      -- at 30: call Town_becomeLike st []
      refine r_becomeLike a2 (kg_T30 L) (by omega) T W.1.2 W.2.1.2 (fun μ1 T1 F1 => ?_)
      show kx_wx _ _ _ _ _ _ _ _
      refine ks_aload_n rfl rfl ?_
      refine ks_getr (b := 76) rfl rfl rfl rfl (by decide) ?_
      refine ks_iload_n rfl rfl ?_
      refine ks_iconst rfl ?_
      refine ks_bastore rfl rfl (by omega) (by omega) (by omega) ?_
      refine ks_iconst rfl ?_
      refine ks_ireturn rfl ?_
      -- at 41: ret  st ['1']
      refine t3 _ (TR_fr T1 (fun c c0 c1 => kx_up_row (by omega))) ?_ (fun c c0 c1 => ?_)
      · rw [kx_up_up1, kx_row_self, F1 76 (by omega)]
      · rw [kx_up_row c0, F1 c c1]
  · show kx_wx _ _ _ _ _ (_ :: _) _ _
    refine ks_if_ne_0 rfl ?_
    refine ks_ldc rfl ?_
    refine ks_ireturn rfl ?_
    -- at 9: ret  st ['-1000001']
    exact t0 c
theorem l_Mimage (v0 : 0 ≤ v) (v1 : v ≤ 1) (t : ∀ μ', (∀ k : Int, 0 ≤ k → k < 46 → μ' 89 (46 * v + k) = μ 81 k) → (∀ x, x < 46 * v ∨ 46 * v + 46 ≤ x → μ' 89 x = μ 89 x) → μ' 88 = up1 (μ 88) v 1 → (∀ c, c ≠ 88 → c ≠ 89 → μ' c = μ c) → Q (some (kI 1)) (kg L) μ') : ∀ (r j : Nat) (μ1 : kx_M), j + r = 46 → (∀ k : Int, 0 ≤ k → k < j → μ1 89 (46 * v + k) = μ 81 k) → (∀ x, x < 46 * v ∨ 46 * v + 46 ≤ x → μ1 89 x = μ 89 x) → (∀ c, c ≠ 89 → μ1 c = μ c) → kx_wx (ke d) kt_M_image Q 25 [some (kR 77), some (kI v), some (kI j)] [] (kg L) μ1 := by
  intro r
  induction r with
  | zero =>
    intro j μ1 hj h1 h2 h3
    rw [Nat.add_zero] at hj
    subst hj
    refine ks_iload_n rfl rfl ?_
    refine ks_bipush rfl ?_
    -- at 28: if ge -> 54 else 31 st ['46', None]
    refine ks_icmp_ge rfl ⟨by omega, by omega⟩ ⟨by omega, by omega⟩ (fun c => absurd c (by omega)) (fun c => ?_)
    refine ks_aload_n rfl rfl ?_
    refine ks_getr (b := 88) rfl rfl rfl rfl (by decide) ?_
    refine ks_iload_n rfl rfl ?_
    refine ks_iconst rfl ?_
    refine ks_bastore rfl rfl (by omega) (by omega) (by omega) ?_
    refine ks_iconst rfl ?_
    refine ks_ireturn rfl ?_
    -- at 62: ret  st ['1']
    refine t _ (fun k k0 k1 => ?_) (fun x hx => ?_) ?_ (fun c c0 c1 => ?_)
    · rw [kx_up_row (by omega)]; exact h1 k k0 k1
    · rw [kx_up_row (by omega)]; exact h2 x hx
    · rw [kx_up_up1, kx_row_self, h3 88 (by omega)]
    · rw [kx_up_row c0]; exact h3 c c1
  | succ r ih =>
    intro j μ1 hj h1 h2 h3
    refine ks_iload_n rfl rfl ?_
    refine ks_bipush rfl ?_
    -- at 28: if ge -> 54 else 31 st ['46', None]
    refine ks_icmp_ge rfl ⟨by omega, by omega⟩ ⟨by omega, by omega⟩ (fun c => ?_) (fun c => absurd c (by omega))
    refine ks_aload_n rfl rfl ?_
    refine ks_getr (b := 89) rfl rfl rfl rfl (by decide) ?_
    refine ks_bipush rfl ?_
    refine ks_iload_n rfl rfl ?_
    refine ks_imul rfl ?_
    refine ks_iload_n rfl rfl ?_
    refine ks_iadd rfl ?_
    refine ks_aload_n rfl rfl ?_
    refine ks_getr (b := 81) rfl rfl rfl rfl (by decide) ?_
    refine ks_iload_n rfl rfl ?_
    refine ks_iaload rfl rfl (by omega) (by omega) (by (try simp only [kx_up_at, kx_row_at, up1_at, Nat.reduceEqDiff, Int.reduceEq, Int.reduceNeg, and_true, true_and, and_false, false_and, and_self, reduceIte, Nat.add_left_cancel_iff, Nat.add_eq_left, Nat.left_eq_add, Nat.reduceAdd, Int.add_left_inj, Int.add_right_inj]); rfl) ?_
    refine ks_iastore rfl rfl (by omega) (by omega) ?_
    refine ks_iinc_2 rfl rfl ?_
    refine ks_goto rfl ?_
    -- at 25: stop  st []
    refine ih (j + 1) _ (by omega) (fun k k0 k1 => ?_) (fun x hx => by rw [kx_up_oth (by omega)]; exact h2 x hx) (fun c hc => by rw [kx_up_row hc]; exact h3 c hc)
    by_cases e : k = j
    · subst e; rw [kx_up_self, h3 81 (by omega)]
    · rw [kx_up_oth (by omega)]; exact h1 k k0 (by omega)
theorem r_Mimage (hv : kx_in v) (I : IT μ s) (t0 : ¬ (0 ≤ v ∧ v ≤ 1) → Q (some (kI (-1000001))) (kg L) μ) (t1 : 0 ≤ v → v ≤ 1 → s 1 = 0 → Q (some (kI (-1000002))) (kg L) μ) (t2 : 0 ≤ v → v ≤ 1 → 1 ≤ s 1 → ∀ μ', (∀ k : Int, 0 ≤ k → k < 46 → μ' 89 (46 * v + k) = μ 81 k) → (∀ x, x < 46 * v ∨ 46 * v + 46 ≤ x → μ' 89 x = μ 89 x) → μ' 88 = up1 (μ 88) v 1 → (∀ c, c ≠ 88 → c ≠ 89 → μ' c = μ c) → Q (some (kI 1)) (kg L) μ') : kx_cx (ke (d + 2)) 174 [kR 77, kI v] (kg L) μ Q := by
  refine ke_start (tb := kt_M_image) (ls := [some (kR 77), some (kI v), none]) rfl rfl ?_
  obtain ⟨i0, i1, i2, i3⟩ := IT_in I
  obtain ⟨_, _⟩ := hv
  refine ks_iload_n rfl rfl ?_
  refine ks_i2l rfl ⟨by omega, by omega⟩ ?_
  refine ks_lconst rfl ?_
  refine ks_lconst rfl ?_
  refine ks_calls_3 rfl (Nat.le_of_ble_eq_true rfl) ?_
  -- at 4: call M_in st []
  refine r_in ⟨by omega, by omega⟩ ⟨by omega, by omega⟩ ⟨by omega, by omega⟩ (fun c => ?_) (fun c => ?_)
  · show kx_wx _ _ _ _ _ (_ :: _) _ _
    refine ks_if_ne_1 rfl ?_
    refine ks_aload_n rfl rfl ?_
    refine ks_geti rfl rfl rfl rfl (by (try simp only [kx_up_at, kx_row_at, up1_at, Nat.reduceEqDiff, Int.reduceEq, Int.reduceNeg, and_true, true_and, and_false, false_and, and_self, reduceIte, Nat.add_left_cancel_iff, Nat.add_eq_left, Nat.left_eq_add, Nat.reduceAdd, Int.add_left_inj, Int.add_right_inj]); rfl) ?_
    -- at 17: if ne -> 23 else 20 st [None]
    refine ks_if_ne rfl ⟨by omega, by omega⟩ (fun c2 => ?_) (fun c2 => ?_)
    · refine ks_ldc rfl ?_
      refine ks_ireturn rfl ?_
      -- at 22: ret  st ['-1000002']
      exact t1 c.1 c.2 (by omega)
    · refine ks_iconst rfl ?_
      refine ks_istore_n_2 rfl rfl ?_
      -- at 25: stop  st []
      exact l_Mimage (μ := μ) c.1 c.2 (t2 c.1 c.2 (by omega)) 46 0 μ (by omega) (fun k a b => absurd b (by omega)) (fun _ _ => rfl) (fun _ _ => rfl)
  · show kx_wx _ _ _ _ _ (_ :: _) _ _
    refine ks_if_ne_0 rfl ?_
    refine ks_ldc rfl ?_
    refine ks_ireturn rfl ?_
    -- at 12: ret  st ['-1000001']
    exact t0 c
theorem r_Xrestore (hv : kx_in v) (hk : 0 ≤ v → v ≤ 1 → 0 ≤ μ 76 v ∧ μ 76 v ≤ 1) (T : 0 ≤ v → v ≤ 1 → μ 76 v = 1 → TR μ (58 + 9 * v.toNat) s ∧ s 1 ≤ 6 ∧ s 2 ≤ 4) (t0 : ¬ (0 ≤ v ∧ v ≤ 1) → Q (some (kI (-1000001))) (kg L) μ) (t1 : 0 ≤ v → v ≤ 1 → μ 76 v = 0 → Q (some (kI (-1000002))) (kg L) μ) (t2 : 0 ≤ v → v ≤ 1 → μ 76 v = 1 → ∀ μ', TR μ' 30 s → μ' 39 5 = 0 → μ' 39 4 = μ 39 4 → (∀ c, c < 30 ∨ 39 < c → μ' c = μ c) → Q (some (kI 1)) (kg L) μ') : kx_cx (ke (d + 3)) 98 [kR 1, kI v] (kg L) μ Q := by
  refine ke_start (tb := kt_X_restore) (ls := [some (kR 1), some (kI v)]) rfl rfl ?_
  refine ks_iload_n rfl rfl ?_
  refine ks_calls_1 rfl (Nat.le_of_ble_eq_true rfl) ?_
  -- at 1: call X_isImage st []
  refine r_isImage hv (fun c => ?_) (fun c => ?_)
  · have hk1 := hk c.1 c.2
    show kx_wx _ _ _ _ _ (_ :: _) _ _
    refine ks_if_ne_1 rfl ?_
    refine ks_aload_n rfl rfl ?_
    refine ks_getr (b := 76) rfl rfl rfl rfl (by decide) ?_
    refine ks_iload_n rfl rfl ?_
    refine ks_baload rfl rfl (by omega) (by omega) (by (try simp only [kx_up_at, kx_row_at, up1_at, Nat.reduceEqDiff, Int.reduceEq, Int.reduceNeg, and_true, true_and, and_false, false_and, and_self, reduceIte, Nat.add_left_cancel_iff, Nat.add_eq_left, Nat.left_eq_add, Nat.reduceAdd, Int.add_left_inj, Int.add_right_inj]); rfl) ?_
    -- at 16: if ne -> 22 else 19 st [None]
    refine ks_if_ne rfl ⟨by omega, by omega⟩ (fun c2 => ?_) (fun c2 => ?_)
    · refine ks_ldc rfl ?_
      refine ks_ireturn rfl ?_
      -- at 21: ret  st ['-1000002']
      exact t1 c.1 c.2 c2
    · obtain ⟨a1, a2⟩ := kg_imgs L (i := v) c.1 (by omega)
      have t3 := t2 c.1 c.2 (by omega)
      obtain ⟨T1, T2, T3⟩ := T c.1 c.2 (by omega)
      generalize hg : 58 + 9 * v.toNat = g at *
      have a3 := a2.1
      refine ks_aload_n rfl rfl ?_
      refine ks_getr (b := 30) rfl rfl rfl rfl (by decide) ?_
      refine ks_aload_n rfl rfl ?_
      refine ks_getr (b := 57) rfl rfl rfl rfl (by decide) ?_
      refine ks_iload_n rfl rfl ?_
      refine ks_aaload (b := g) rfl rfl (Or.inr rfl) (by omega) (by omega) a1 (by omega) ?_
      refine ks_callv_2 rfl rfl rfl (Nat.le_of_ble_eq_true rfl) ?_
      -- at 32: call Town_becomeLike st []
      refine r_becomeLike (kg_T30 L) a2 (by omega) T1 T2 T3 (fun μ1 T4 F1 => ?_)
      show kx_wx _ _ _ _ _ _ _ _
      refine ks_aload_n rfl rfl ?_
      refine ks_getr (b := 39) rfl rfl rfl rfl (by decide) ?_
      refine ks_callv_1 rfl rfl rfl (Nat.le_of_ble_eq_true rfl) ?_
      -- at 39: call Acts_forgetAll st []
      refine r_forgetAll ?_
      show kx_wx _ _ _ _ _ _ _ _
      refine ks_iconst rfl ?_
      refine ks_ireturn rfl ?_
      -- at 43: ret  st ['1']
      refine t3 _ (TR_fr T4 (fun c c0 c1 => kx_up_row (by omega))) (kx_up_self _ _ _ _) ?_ (fun c hc => ?_)
      · rw [kx_up_oth (by omega), F1 39 (by omega)]
      · rw [kx_up_row (by omega), F1 c (by omega)]
  · show kx_wx _ _ _ _ _ (_ :: _) _ _
    refine ks_if_ne_0 rfl ?_
    refine ks_ldc rfl ?_
    refine ks_ireturn rfl ?_
    -- at 9: ret  st ['-1000001']
    exact t0 c
theorem l_Mrestore (v0 : 0 ≤ v) (v1 : v ≤ 1) (t : ∀ μ', (∀ k : Int, 0 ≤ k → k < 46 → μ' 81 k = μ 89 (46 * v + k)) → (∀ k, k < 0 ∨ 46 ≤ k → μ' 81 k = μ 81 k) → μ' 77 17 = 0 → (∀ j, j ≠ 17 → μ' 77 j = μ 77 j) → (∀ c, c ≠ 77 → c ≠ 81 → μ' c = μ c) → Q (some (kI 1)) (kg L) μ') : ∀ (r j : Nat) (μ1 : kx_M), j + r = 46 → (∀ k : Int, 0 ≤ k → k < j → μ1 81 k = μ 89 (46 * v + k)) → (∀ k, k < 0 ∨ 46 ≤ k → μ1 81 k = μ 81 k) → (∀ c, c ≠ 81 → μ1 c = μ c) → kx_wx (ke d) kt_M_restore Q 27 [some (kR 77), some (kI v), some (kI j)] [] (kg L) μ1 := by
  intro r
  induction r with
  | zero =>
    intro j μ1 hj h1 h2 h3
    rw [Nat.add_zero] at hj
    subst hj
    refine ks_iload_n rfl rfl ?_
    refine ks_bipush rfl ?_
    -- at 30: if ge -> 56 else 33 st ['46', None]
    refine ks_icmp_ge rfl ⟨by omega, by omega⟩ ⟨by omega, by omega⟩ (fun c => absurd c (by omega)) (fun c => ?_)
    refine ks_aload_n rfl rfl ?_
    refine ks_iconst rfl ?_
    refine ks_puti rfl rfl ?_
    refine ks_iconst rfl ?_
    refine ks_ireturn rfl ?_
    -- at 62: ret  st ['1']
    refine t _ (fun k k0 k1 => ?_) (fun x hx => ?_) (kx_up_self _ _ _ _) (fun j hj => ?_) (fun c c0 c1 => ?_)
    · rw [kx_up_row (by omega)]; exact h1 k k0 k1
    · rw [kx_up_row (by omega)]; exact h2 x hx
    · rw [kx_up_oth hj, h3 77 (by omega)]
    · rw [kx_up_row c0]; exact h3 c c1
  | succ r ih =>
    intro j μ1 hj h1 h2 h3
    refine ks_iload_n rfl rfl ?_
    refine ks_bipush rfl ?_
    -- at 30: if ge -> 56 else 33 st ['46', None]
    refine ks_icmp_ge rfl ⟨by omega, by omega⟩ ⟨by omega, by omega⟩ (fun c => ?_) (fun c => absurd c (by omega))
    refine ks_aload_n rfl rfl ?_
    refine ks_getr (b := 81) rfl rfl rfl rfl (by decide) ?_
    refine ks_iload_n rfl rfl ?_
    refine ks_aload_n rfl rfl ?_
    refine ks_getr (b := 89) rfl rfl rfl rfl (by decide) ?_
    refine ks_bipush rfl ?_
    refine ks_iload_n rfl rfl ?_
    refine ks_imul rfl ?_
    refine ks_iload_n rfl rfl ?_
    refine ks_iadd rfl ?_
    refine ks_iaload rfl rfl (by omega) (by omega) (by (try simp only [kx_up_at, kx_row_at, up1_at, Nat.reduceEqDiff, Int.reduceEq, Int.reduceNeg, and_true, true_and, and_false, false_and, and_self, reduceIte, Nat.add_left_cancel_iff, Nat.add_eq_left, Nat.left_eq_add, Nat.reduceAdd, Int.add_left_inj, Int.add_right_inj]); rfl) ?_
    refine ks_iastore rfl rfl (by omega) (by omega) ?_
    refine ks_iinc_2 rfl rfl ?_
    refine ks_goto rfl ?_
    -- at 27: stop  st []
    refine ih (j + 1) _ (by omega) (fun k k0 k1 => ?_) (fun x hx => by rw [kx_up_oth (by omega)]; exact h2 x hx) (fun c hc => by rw [kx_up_row hc]; exact h3 c hc)
    by_cases e : k = j
    · subst e; rw [kx_up_self, h3 89 (by omega)]
    · rw [kx_up_oth (by omega)]; exact h1 k k0 (by omega)
theorem r_Mrestore (hv : kx_in v) (hk : 0 ≤ v → v ≤ 1 → 0 ≤ μ 88 v ∧ μ 88 v ≤ 1) (t0 : ¬ (0 ≤ v ∧ v ≤ 1) → Q (some (kI (-1000001))) (kg L) μ) (t1 : 0 ≤ v → v ≤ 1 → μ 88 v = 0 → Q (some (kI (-1000002))) (kg L) μ) (t2 : 0 ≤ v → v ≤ 1 → μ 88 v = 1 → ∀ μ', (∀ k : Int, 0 ≤ k → k < 46 → μ' 81 k = μ 89 (46 * v + k)) → (∀ k, k < 0 ∨ 46 ≤ k → μ' 81 k = μ 81 k) → μ' 77 17 = 0 → (∀ j, j ≠ 17 → μ' 77 j = μ 77 j) → (∀ c, c ≠ 77 → c ≠ 81 → μ' c = μ c) → Q (some (kI 1)) (kg L) μ') : kx_cx (ke (d + 2)) 175 [kR 77, kI v] (kg L) μ Q := by
  refine ke_start (tb := kt_M_restore) (ls := [some (kR 77), some (kI v), none]) rfl rfl ?_
  obtain ⟨_, _⟩ := hv
  refine ks_iload_n rfl rfl ?_
  refine ks_i2l rfl ⟨by omega, by omega⟩ ?_
  refine ks_lconst rfl ?_
  refine ks_lconst rfl ?_
  refine ks_calls_3 rfl (Nat.le_of_ble_eq_true rfl) ?_
  -- at 4: call M_in st []
  refine r_in ⟨by omega, by omega⟩ ⟨by omega, by omega⟩ ⟨by omega, by omega⟩ (fun c => ?_) (fun c => ?_)
  · have hk1 := hk c.1 c.2
    show kx_wx _ _ _ _ _ (_ :: _) _ _
    refine ks_if_ne_1 rfl ?_
    refine ks_aload_n rfl rfl ?_
    refine ks_getr (b := 88) rfl rfl rfl rfl (by decide) ?_
    refine ks_iload_n rfl rfl ?_
    refine ks_baload rfl rfl (by omega) (by omega) (by (try simp only [kx_up_at, kx_row_at, up1_at, Nat.reduceEqDiff, Int.reduceEq, Int.reduceNeg, and_true, true_and, and_false, false_and, and_self, reduceIte, Nat.add_left_cancel_iff, Nat.add_eq_left, Nat.left_eq_add, Nat.reduceAdd, Int.add_left_inj, Int.add_right_inj]); rfl) ?_
    -- at 19: if ne -> 25 else 22 st [None]
    refine ks_if_ne rfl ⟨by omega, by omega⟩ (fun c2 => ?_) (fun c2 => ?_)
    · refine ks_ldc rfl ?_
      refine ks_ireturn rfl ?_
      -- at 24: ret  st ['-1000002']
      exact t1 c.1 c.2 c2
    · refine ks_iconst rfl ?_
      refine ks_istore_n_2 rfl rfl ?_
      -- at 27: stop  st []
      exact l_Mrestore (μ := μ) c.1 c.2 (t2 c.1 c.2 (by omega)) 46 0 μ (by omega) (fun k a b => absurd b (by omega)) (fun _ _ => rfl) (fun _ _ => rfl)
  · show kx_wx _ _ _ _ _ (_ :: _) _ _
    refine ks_if_ne_0 rfl ?_
    refine ks_ldc rfl ?_
    refine ks_ireturn rfl ?_
    -- at 12: ret  st ['-1000001']
    exact t0 c
theorem r_findingOf {r i n : Int} (r0 : 0 ≤ r) (r1 : r ≤ 7) (hi : kx_in i) (hn : kx_in n) (hb : -1 ≤ μ (3 + 2 * r.toNat) 2 ∧ μ (3 + 2 * r.toNat) 2 ≤ 40) (t1 : μ (3 + 2 * r.toNat) 2 = -1 → Q (some (kI 1)) (kg L) μ) (t2 : 0 ≤ μ (3 + 2 * r.toNat) 2 → ¬ (0 ≤ i ∧ 0 ≤ n ∧ i + n ≤ μ (3 + 2 * r.toNat) 2) → Q (some (kI 2)) (kg L) μ) (t0 : 0 ≤ i → 0 ≤ n → i + n ≤ μ (3 + 2 * r.toNat) 2 → Q (some (kI 0)) (kg L) μ) : kx_cx (ke (d + 2)) 107 [kR 1, kI r, kI i, kI n] (kg L) μ Q := by
  refine ke_start (tb := kt_X_findingOf) (ls := [some (kR 1), some (kI r), some (kI i), some (kI n)]) rfl rfl ?_
  obtain ⟨a1, a2⟩ := kg_rows L (i := r) r0 (by omega)
  generalize hw9 : 3 + 2 * r.toNat = w at *
  have a3 := a2.1
  refine ks_aload_n rfl rfl ?_
  refine ks_getr (b := 2) rfl rfl rfl rfl (by decide) ?_
  refine ks_iload_n rfl rfl ?_
  refine ks_aaload (b := w) rfl rfl (Or.inl rfl) (by omega) (by omega) a1 (by omega) ?_
  refine ks_callv_1 rfl rfl (by assumption) (Nat.le_of_ble_eq_true rfl) ?_
  -- at 6: call Row_isMissing st []
  refine r_isMissing a2 ⟨by omega, by omega⟩ (fun c => ?_) (fun c => ?_)
  · show kx_wx _ _ _ _ _ (_ :: _) _ _
    refine ks_if_eq_1 rfl ?_
    refine ks_iconst rfl ?_
    refine ks_ireturn rfl ?_
    -- at 13: ret  st ['1']
    exact t1 c
  · show kx_wx _ _ _ _ _ (_ :: _) _ _
    refine ks_if_eq_0 rfl ?_
    refine ks_aload_n rfl rfl ?_
    refine ks_getr (b := 2) rfl rfl rfl rfl (by decide) ?_
    refine ks_iload_n rfl rfl ?_
    refine ks_aaload (b := w) rfl rfl (Or.inl rfl) (by omega) (by omega) a1 (by omega) ?_
    refine ks_iload_n rfl rfl ?_
    refine ks_iload_n rfl rfl ?_
    refine ks_callv_3 rfl rfl (by assumption) (Nat.le_of_ble_eq_true rfl) ?_
    -- at 22: call Row_hasPlaces st []
    refine r_hasPlaces a2 hi hn ⟨by omega, by omega⟩ (fun c2 => ?_) (fun c2 => ?_)
    · show kx_wx _ _ _ _ _ (_ :: _) _ _
      refine ks_if_eq_1 rfl ?_
      refine ks_iconst rfl ?_
      refine ks_goto rfl ?_
      refine ks_ireturn rfl ?_
      -- at 33: ret  st ['0']
      exact t0 c2.1 c2.2.1 c2.2.2
    · show kx_wx _ _ _ _ _ (_ :: _) _ _
      refine ks_if_eq_0 rfl ?_
      refine ks_iconst rfl ?_
      refine ks_ireturn rfl ?_
      -- at 33: ret  st ['2']
      exact t2 (by omega) c2
theorem r_Xset {r i x : Int} (hr : kx_in r) (hi : kx_in i) (hb : ∀ i : Nat, i < 8 → -1 ≤ μ (3 + 2 * i) 2 ∧ μ (3 + 2 * i) 2 ≤ 40) (hl : ∀ i : Nat, i < 8 → 0 ≤ μ (3 + 2 * i) 1 ∧ μ (3 + 2 * i) 1 ≤ 2) (t0 : ¬ (0 ≤ r ∧ r ≤ 7) → Q (some (kI (-1000001))) (kg L) μ) (t1 : 0 ≤ r → r ≤ 7 → μ (3 + 2 * r.toNat) 2 = -1 → Q (some (kI (-1000011))) (kg L) (kx_up μ 1 10 1)) (t2 : 0 ≤ r → r ≤ 7 → 0 ≤ μ (3 + 2 * r.toNat) 2 → ¬ (0 ≤ i ∧ i < μ (3 + 2 * r.toNat) 2) → Q (some (kI (-1000012))) (kg L) (kx_up μ 1 10 2)) (t3 : 0 ≤ r → r ≤ 7 → 0 ≤ i → i < μ (3 + 2 * r.toNat) 2 → Q (some (kI (ln_cut (μ (3 + 2 * r.toNat) 1) x))) (kg L) (kx_up (kx_up μ (3 + 2 * r.toNat + 1) i (ln_cut (μ (3 + 2 * r.toNat) 1) x)) 1 10 0)) : kx_cx (ke (d + 3)) 70 [kR 1, kI r, kI i, kI x] (kg L) μ Q := by
  refine ke_start (tb := kt_X_set) (ls := [some (kR 1), some (kI r), some (kI i), some (kI x), none]) rfl rfl ?_
  refine ks_iload_n rfl rfl ?_
  refine ks_calls_1 rfl (Nat.le_of_ble_eq_true rfl) ?_
  -- at 1: call X_isRow st []
  refine r_isRow hr (fun c => ?_) (fun c => ?_)
  · have b := hb r.toNat (by omega)
    have bl := hl r.toNat (by omega)
    show kx_wx _ _ _ _ _ (_ :: _) _ _
    refine ks_if_ne_1 rfl ?_
    refine ks_aload_n rfl rfl ?_
    refine ks_iload_n rfl rfl ?_
    refine ks_iload_n rfl rfl ?_
    refine ks_iconst rfl ?_
    refine ks_callv_4 rfl rfl rfl (Nat.le_of_ble_eq_true rfl) ?_
    -- at 14: call X_findingOf st []
    refine r_findingOf c.1 c.2 hi ⟨by omega, by omega⟩ b (fun q => ?_) (fun q1 q2 => ?_) (fun q1 q2 q3 => ?_)
    · show kx_wx _ _ _ _ _ (_ :: _) _ _
      refine ks_istore_4 rfl rfl ?_
      refine ks_iload rfl rfl ?_
      -- at 21: if eq -> 31 else 24 st [None]
      refine ks_if_eq rfl ⟨by omega, by omega⟩ (fun c5 => absurd c5 (by omega)) (fun c5 => ?_)
      refine ks_aload_n rfl rfl ?_
      refine ks_iload rfl rfl ?_
      refine ks_callv_2 rfl rfl rfl (Nat.le_of_ble_eq_true rfl) ?_
      -- at 27: call X_finding st []
      refine r_finding ?_
      show kx_wx _ _ _ _ _ (_ :: _) _ _
      refine ks_ireturn rfl ?_
      -- at 30: ret  st [None]
      exact t1 c.1 c.2 q
    · show kx_wx _ _ _ _ _ (_ :: _) _ _
      refine ks_istore_4 rfl rfl ?_
      refine ks_iload rfl rfl ?_
      -- at 21: if eq -> 31 else 24 st [None]
      refine ks_if_eq rfl ⟨by omega, by omega⟩ (fun c5 => absurd c5 (by omega)) (fun c5 => ?_)
      refine ks_aload_n rfl rfl ?_
      refine ks_iload rfl rfl ?_
      refine ks_callv_2 rfl rfl rfl (Nat.le_of_ble_eq_true rfl) ?_
      -- at 27: call X_finding st []
      refine r_finding ?_
      show kx_wx _ _ _ _ _ (_ :: _) _ _
      refine ks_ireturn rfl ?_
      -- at 30: ret  st [None]
      exact t2 c.1 c.2 q1 (by omega)
    · obtain ⟨a1, a2⟩ := kg_rows L (i := r) c.1 (by omega)
      have t4 := t3 c.1 c.2 q1 (by omega)
      generalize hw9 : 3 + 2 * r.toNat = w at *
      have a3 := a2.1
      show kx_wx _ _ _ _ _ (_ :: _) _ _
      refine ks_istore_4 rfl rfl ?_
      refine ks_iload rfl rfl ?_
      -- at 21: if eq -> 31 else 24 st [None]
      refine ks_if_eq rfl ⟨by omega, by omega⟩ (fun c5 => ?_) (fun c5 => absurd c5 (by omega))
      refine ks_aload_n rfl rfl ?_
      refine ks_aload_n rfl rfl ?_
      refine ks_getr (b := 2) rfl rfl rfl rfl (by decide) ?_
      refine ks_iload_n rfl rfl ?_
      refine ks_aaload (b := w) rfl rfl (Or.inl rfl) (by omega) (by omega) a1 (by omega) ?_
      refine ks_iload_n rfl rfl ?_
      refine ks_iload_n rfl rfl ?_
      refine ks_callv_3 rfl rfl (by assumption) (Nat.le_of_ble_eq_true rfl) ?_
      -- at 40: call Row_put st ['1']
      refine r_put a2 ⟨by omega, by omega⟩ q1 (by omega) ?_
      show kx_wx _ _ _ _ _ (_ :: _) _ _
      refine ks_callv_2 rfl rfl rfl (Nat.le_of_ble_eq_true rfl) ?_
      -- at 43: call X_noFinding st []
      refine r_noFinding ?_
      show kx_wx _ _ _ _ _ (_ :: _) _ _
      refine ks_ireturn rfl ?_
      -- at 46: ret  st [None]
      exact t4
  · show kx_wx _ _ _ _ _ (_ :: _) _ _
    refine ks_if_ne_0 rfl ?_
    refine ks_ldc rfl ?_
    refine ks_ireturn rfl ?_
    -- at 9: ret  st ['-1000001']
    exact t0 c
theorem r_Xcopy {a i b j n : Int} (ha : kx_in a) (hi : kx_in i) (hbb : kx_in b) (hj : kx_in j) (hn : kx_in n) (hb : ∀ i : Nat, i < 8 → -1 ≤ μ (3 + 2 * i) 2 ∧ μ (3 + 2 * i) 2 ≤ 40) (hl : ∀ i : Nat, i < 8 → 0 ≤ μ (3 + 2 * i) 1 ∧ μ (3 + 2 * i) 1 ≤ 2) (t0 : ¬ ((0 ≤ a ∧ a ≤ 7) ∧ (0 ≤ b ∧ b ≤ 7)) → Q (some (kI (-1000001))) (kg L) μ) (t1 : (0 ≤ a ∧ a ≤ 7) → (0 ≤ b ∧ b ≤ 7) → (μ (3 + 2 * a.toNat) 2 = -1 ∨ μ (3 + 2 * b.toNat) 2 = -1) → Q (some (kI (-1000011))) (kg L) (kx_up μ 1 10 1)) (t5 : (0 ≤ a ∧ a ≤ 7) → (0 ≤ b ∧ b ≤ 7) → 0 ≤ μ (3 + 2 * a.toNat) 2 → 0 ≤ μ (3 + 2 * b.toNat) 2 → ¬ μ (3 + 2 * a.toNat) 1 = μ (3 + 2 * b.toNat) 1 → Q (some (kI (-1000015))) (kg L) (kx_up μ 1 10 5)) (t2 : (0 ≤ a ∧ a ≤ 7) → (0 ≤ b ∧ b ≤ 7) → 0 ≤ μ (3 + 2 * a.toNat) 2 → 0 ≤ μ (3 + 2 * b.toNat) 2 → μ (3 + 2 * a.toNat) 1 = μ (3 + 2 * b.toNat) 1 → ¬ (0 ≤ n ∧ (0 ≤ i ∧ i + n ≤ μ (3 + 2 * a.toNat) 2) ∧ (0 ≤ j ∧ j + n ≤ μ (3 + 2 * b.toNat) 2)) → Q (some (kI (-1000012))) (kg L) (kx_up μ 1 10 2)) (t3 : (0 ≤ a ∧ a ≤ 7) → (0 ≤ b ∧ b ≤ 7) → μ (3 + 2 * a.toNat) 1 = μ (3 + 2 * b.toNat) 1 → 0 ≤ n → 0 ≤ i → i + n ≤ μ (3 + 2 * a.toNat) 2 → 0 ≤ j → j + n ≤ μ (3 + 2 * b.toNat) 2 → Q (some (kI n)) (kg L) (kx_up (kx_cpy μ (3 + 2 * a.toNat + 1) i (3 + 2 * b.toNat + 1) j n) 1 10 0)) : kx_cx (ke (d + 3)) 71 [kR 1, kI a, kI i, kI b, kI j, kI n] (kg L) μ Q := by
  refine ke_start (tb := kt_X_copy) (ls := [some (kR 1), some (kI a), some (kI i), some (kI b), some (kI j), some (kI n), none, none]) rfl rfl ?_
  refine ks_iload_n rfl rfl ?_
  refine ks_calls_1 rfl (Nat.le_of_ble_eq_true rfl) ?_
  -- at 1: call X_isRow st []
  refine r_isRow ha (fun c => ?_) (fun c => ?_)
  · show kx_wx _ _ _ _ _ (_ :: _) _ _
    refine ks_if_eq_1 rfl ?_
    refine ks_iload_n rfl rfl ?_
    refine ks_calls_1 rfl (Nat.le_of_ble_eq_true rfl) ?_
    -- at 8: call X_isRow st []
    refine r_isRow hbb (fun c2 => ?_) (fun c2 => ?_)
    · have p1 := hb a.toNat (by omega)
      have p2 := hb b.toNat (by omega)
      have p3 := hl a.toNat (by omega)
      have p4 := hl b.toNat (by omega)
      obtain ⟨a1, a2⟩ := kg_rows L (i := a) c.1 (by omega)
      obtain ⟨b1, b2⟩ := kg_rows L (i := b) c2.1 (by omega)
      have s1 := t1 c c2
      have s5 := t5 c c2
      have s2 := t2 c c2
      have s3 := t3 c c2
      clear t1 t5 t2 t3 t0
      generalize hw9 : 3 + 2 * a.toNat = w at *
      generalize hu9 : 3 + 2 * b.toNat = u at *
      obtain ⟨a3, a4, a5⟩ := a2
      obtain ⟨b3, b4, b5⟩ := b2
      have a2 : kg_R L w := ⟨a3, a4, a5⟩
      have b2 : kg_R L u := ⟨b3, b4, b5⟩
      show kx_wx _ _ _ _ _ (_ :: _) _ _
      refine ks_if_ne_1 rfl ?_
      refine ks_aload_n rfl rfl ?_
      refine ks_getr (b := 2) rfl rfl rfl rfl (by decide) ?_
      refine ks_iload_n rfl rfl ?_
      refine ks_aaload (b := w) rfl rfl (Or.inl rfl) (by omega) (by omega) (by first | exact a1 | exact b1) (by omega) ?_
      refine ks_astore_6 rfl rfl ?_
      refine ks_aload_n rfl rfl ?_
      refine ks_getr (b := 2) rfl rfl rfl rfl (by decide) ?_
      refine ks_iload_n rfl rfl ?_
      refine ks_aaload (b := u) rfl rfl (Or.inl rfl) (by omega) (by omega) (by first | exact a1 | exact b1) (by omega) ?_
      refine ks_astore_7 rfl rfl ?_
      refine ks_aload rfl rfl ?_
      refine ks_callv_1 rfl rfl (by assumption) (Nat.le_of_ble_eq_true rfl) ?_
      -- at 35: call Row_isMissing st []
      refine r_isMissing a2 ⟨by omega, by omega⟩ (fun d1 => ?_) (fun d1 => ?_)
      · show kx_wx _ _ _ _ _ (_ :: _) _ _
        refine ks_if_ne_1 rfl ?_
        refine ks_aload_n rfl rfl ?_
        refine ks_iconst rfl ?_
        refine ks_callv_2 rfl rfl rfl (Nat.le_of_ble_eq_true rfl) ?_
        -- at 51: call X_finding st []
        refine r_finding ?_
        show kx_wx _ _ _ _ _ (_ :: _) _ _
        refine ks_ireturn rfl ?_
        -- at 54: ret  st [None]
        exact s1 (Or.inl d1)
      · show kx_wx _ _ _ _ _ (_ :: _) _ _
        refine ks_if_ne_0 rfl ?_
        refine ks_aload rfl rfl ?_
        refine ks_callv_1 rfl rfl (by assumption) (Nat.le_of_ble_eq_true rfl) ?_
        -- at 43: call Row_isMissing st []
        refine r_isMissing b2 ⟨by omega, by omega⟩ (fun d2 => ?_) (fun d2 => ?_)
        · show kx_wx _ _ _ _ _ (_ :: _) _ _
          refine ks_if_eq_1 rfl ?_
          refine ks_aload_n rfl rfl ?_
          refine ks_iconst rfl ?_
          refine ks_callv_2 rfl rfl rfl (Nat.le_of_ble_eq_true rfl) ?_
          -- at 51: call X_finding st []
          refine r_finding ?_
          show kx_wx _ _ _ _ _ (_ :: _) _ _
          refine ks_ireturn rfl ?_
          -- at 54: ret  st [None]
          exact s1 (Or.inr d2)
        · show kx_wx _ _ _ _ _ (_ :: _) _ _
          refine ks_if_eq_0 rfl ?_
          refine ks_aload rfl rfl ?_
          refine ks_geti rfl rfl (by assumption) rfl (by (try simp only [kx_up_at, kx_row_at, up1_at, Nat.reduceEqDiff, Int.reduceEq, Int.reduceNeg, and_true, true_and, and_false, false_and, and_self, reduceIte, Nat.add_left_cancel_iff, Nat.add_eq_left, Nat.left_eq_add, Nat.reduceAdd, Int.add_left_inj, Int.add_right_inj]); rfl) ?_
          refine ks_aload rfl rfl ?_
          refine ks_geti rfl rfl (by assumption) rfl (by (try simp only [kx_up_at, kx_row_at, up1_at, Nat.reduceEqDiff, Int.reduceEq, Int.reduceNeg, and_true, true_and, and_false, false_and, and_self, reduceIte, Nat.add_left_cancel_iff, Nat.add_eq_left, Nat.left_eq_add, Nat.reduceAdd, Int.add_left_inj, Int.add_right_inj]); rfl) ?_
          -- at 65: if eq -> 74 else 68 st [None, None]
          refine ks_icmp_eq rfl ⟨by omega, by omega⟩ ⟨by omega, by omega⟩ (fun d3 => ?_) (fun d3 => ?_)
          · refine ks_aload rfl rfl ?_
            refine ks_iload_n rfl rfl ?_
            refine ks_iload rfl rfl ?_
            refine ks_callv_3 rfl rfl (by assumption) (Nat.le_of_ble_eq_true rfl) ?_
            -- at 79: call Row_hasPlaces st []
            refine r_hasPlaces a2 hi hn ⟨by omega, by omega⟩ (fun d4 => ?_) (fun d4 => ?_)
            · show kx_wx _ _ _ _ _ (_ :: _) _ _
              refine ks_if_eq_1 rfl ?_
              refine ks_aload rfl rfl ?_
              refine ks_iload rfl rfl ?_
              refine ks_iload rfl rfl ?_
              refine ks_callv_3 rfl rfl (by assumption) (Nat.le_of_ble_eq_true rfl) ?_
              -- at 91: call Row_hasPlaces st []
              refine r_hasPlaces b2 hj hn ⟨by omega, by omega⟩ (fun d5 => ?_) (fun d5 => ?_)
              · obtain ⟨q1, q2, q3⟩ := d4
                obtain ⟨q4, q5, q6⟩ := d5
                have z1 : (kg L).1 (w + 1) = (2, 40) := a5
                have z2 : (kg L).1 (u + 1) = (2, 40) := b5
                show kx_wx _ _ _ _ _ (_ :: _) _ _
                refine ks_if_ne_1 rfl ?_
                refine ks_aload rfl rfl ?_
                refine ks_getr (b := w + 1) rfl rfl (by assumption) (by assumption) (Nat.succ_ne_zero _) ?_
                refine ks_iload_n rfl rfl ?_
                refine ks_aload rfl rfl ?_
                refine ks_getr (b := u + 1) rfl rfl (by assumption) (by assumption) (Nat.succ_ne_zero _) ?_
                refine ks_iload rfl rfl ?_
                refine ks_iload rfl rfl ?_
                refine ks_acopy rfl (Nat.le_refl 91) (by assumption) (by assumption) (by omega) (by omega) (by omega) (by omega) (by omega) (Nat.le_of_ble_eq_true rfl) ?_
                refine ks_aload_n rfl rfl ?_
                refine ks_iload rfl rfl ?_
                refine ks_callv_2 rfl rfl rfl (Nat.le_of_ble_eq_true rfl) ?_
                -- at 124: call X_noFinding st []
                refine r_noFinding ?_
                show kx_wx _ _ _ _ _ (_ :: _) _ _
                refine ks_ireturn rfl ?_
                -- at 127: ret  st [None]
                exact s3 d3 q2 q1 q3 q4 q6
              · show kx_wx _ _ _ _ _ (_ :: _) _ _
                refine ks_if_ne_0 rfl ?_
                refine ks_aload_n rfl rfl ?_
                refine ks_iconst rfl ?_
                refine ks_callv_2 rfl rfl rfl (Nat.le_of_ble_eq_true rfl) ?_
                -- at 99: call X_finding st []
                refine r_finding ?_
                show kx_wx _ _ _ _ _ (_ :: _) _ _
                refine ks_ireturn rfl ?_
                -- at 102: ret  st [None]
                exact s2 (by omega) (by omega) d3 (by omega)
            · show kx_wx _ _ _ _ _ (_ :: _) _ _
              refine ks_if_eq_0 rfl ?_
              refine ks_aload_n rfl rfl ?_
              refine ks_iconst rfl ?_
              refine ks_callv_2 rfl rfl rfl (Nat.le_of_ble_eq_true rfl) ?_
              -- at 99: call X_finding st []
              refine r_finding ?_
              show kx_wx _ _ _ _ _ (_ :: _) _ _
              refine ks_ireturn rfl ?_
              -- at 102: ret  st [None]
              exact s2 (by omega) (by omega) d3 (by omega)
          · refine ks_aload_n rfl rfl ?_
            refine ks_iconst rfl ?_
            refine ks_callv_2 rfl rfl rfl (Nat.le_of_ble_eq_true rfl) ?_
            -- at 70: call X_finding st []
            refine r_finding ?_
            show kx_wx _ _ _ _ _ (_ :: _) _ _
            refine ks_ireturn rfl ?_
            -- at 73: ret  st [None]
            exact s5 (by omega) (by omega) d3
    · show kx_wx _ _ _ _ _ (_ :: _) _ _
      refine ks_if_ne_0 rfl ?_
      refine ks_ldc rfl ?_
      refine ks_ireturn rfl ?_
      -- at 16: ret  st ['-1000001']
      exact t0 (fun q => c2 q.2)
  · show kx_wx _ _ _ _ _ (_ :: _) _ _
    refine ks_if_eq_0 rfl ?_
    refine ks_ldc rfl ?_
    refine ks_ireturn rfl ?_
    -- at 16: ret  st ['-1000001']
    exact t0 (fun q => c q.1)
end XI
