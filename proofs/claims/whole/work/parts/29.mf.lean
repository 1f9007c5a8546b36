/-! foretold, the reference -/
def AS (μ : kx_M) (s : Int → Int) : Prop := ∀ k, 0 ≤ k → k < 46 → μ 86 k = s k
/-- all but the town, and what is put aside, is as it was -/
def FrI (μ μ' : kx_M) : Prop := ∀ c, c ≠ 81 → c ≠ 86 → c ≠ 87 → μ' c = μ c
def FrQ (μ μ' : kx_M) : Prop := ∀ c, c ≠ 86 → c ≠ 87 → μ' c = μ c
def Fr81 (μ μ' : kx_M) : Prop := ∀ c, c ≠ 81 → μ' c = μ c
theorem AS_fr {μ μ' : kx_M} {s : Int → Int} (A : AS μ s) (F : Fr81 μ μ') : AS μ' s := by
  intro k k0 k1
  rw [F 86 (by omega)]; exact A k k0 k1
theorem FrI_81 {μ μ1 μ2 : kx_M} (F : FrI μ μ1) (k : Fr81 μ1 μ2) : FrI μ μ2 := fun c a b e => by rw [k c a]; exact F c a b e
theorem Fr81_row (μ : kx_M) (f : Int → Int) : Fr81 μ (kx_row μ 81 f) := fun c hc => kx_row_ne hc
theorem Fr81_tr {μ μ1 μ2 : kx_M} (F : Fr81 μ μ1) (k : Fr81 μ1 μ2) : Fr81 μ μ2 := fun c a => by rw [k c a]; exact F c a
theorem FrQ_of {μ μ' : kx_M} {s : Int → Int} (F : FrI μ μ') (h : μ 81 = s) (h' : μ' 81 = s) : FrQ μ μ' := by
  intro c a b
  by_cases e : c = 81
  · subst e; rw [h, h']
  · exact F c e a b
section MF
variable {d L : Nat} {G : kx_G} {μ : kx_M} {Q : Option kx_V → kx_G → kx_M → Prop} {s s0 : Int → Int} {z v : Int}
theorem l_putAside (t : ∀ μ', (∀ k, 0 ≤ k → k < 46 → μ' 86 k = μ 81 k) → (∀ c, c ≠ 86 → μ' c = μ c) → Q none (kg L) μ') : ∀ (r j : Nat) (μ1 : kx_M), j + r = 46 → (∀ k : Int, 0 ≤ k → k < j → μ1 86 k = μ 81 k) → (∀ c, c ≠ 86 → μ1 c = μ c) → kx_wx (ke d) kt_M_putAside Q 2 [some (kR 77), some (kI j)] [] (kg L) μ1 := by
  intro r
  induction r with
  | zero =>
    intro j μ1 hj h1 h2
    rw [Nat.add_zero] at hj
    subst hj
    refine ks_iload_n rfl rfl ?_
    refine ks_bipush rfl ?_
    -- at 5: if ge -> 26 else 8 st ['46', None]
    refine ks_icmp_ge rfl ⟨by omega, by omega⟩ ⟨by omega, by omega⟩ (fun c => absurd c (by omega)) (fun c => ?_)
    refine ks_return rfl ?_
    -- at 26: ret  st []
    exact t _ h1 h2
  | succ r ih =>
    intro j μ1 hj h1 h2
    refine ks_iload_n rfl rfl ?_
    refine ks_bipush rfl ?_
    -- at 5: if ge -> 26 else 8 st ['46', None]
    refine ks_icmp_ge rfl ⟨by omega, by omega⟩ ⟨by omega, by omega⟩ (fun c => ?_) (fun c => absurd c (by omega))
    refine ks_aload_n rfl rfl ?_
    refine ks_getr (b := 86) rfl rfl rfl rfl (by decide) ?_
    refine ks_iload_n rfl rfl ?_
    refine ks_aload_n rfl rfl ?_
    refine ks_getr (b := 81) rfl rfl rfl rfl (by decide) ?_
    refine ks_iload_n rfl rfl ?_
    refine ks_iaload rfl rfl (by omega) (by omega) (by (try simp only [kx_up_at, kx_row_at, up1_at, Nat.reduceEqDiff, Int.reduceEq, Int.reduceNeg, and_true, true_and, and_false, false_and, and_self, reduceIte, Nat.add_left_cancel_iff, Nat.add_eq_left, Nat.left_eq_add, Nat.reduceAdd, Int.add_left_inj, Int.add_right_inj]); rfl) ?_
    refine ks_iastore rfl rfl (by omega) (by omega) ?_
    refine ks_iinc_1 rfl rfl ?_
    refine ks_goto rfl ?_
    -- at 2: stop  st []
    refine ih (j + 1) _ (by omega) (fun k k0 k1 => ?_) (fun c hc => by rw [kx_up_row hc]; exact h2 c hc)
    by_cases e : k = j
    · subst e; rw [kx_up_self, h2 81 (by omega)]
    · rw [kx_up_oth e]; exact h1 k k0 (by omega)
theorem r_putAside (hs : μ 81 = s) (t : ∀ μ', AS μ' s → μ' 81 = s → FrI μ μ' → Q none (kg L) μ') : kx_cx (ke (d + 1)) 153 [kR 77] (kg L) μ Q := by
  refine ke_start (tb := kt_M_putAside) (ls := [some (kR 77), none]) rfl rfl ?_
  refine ks_iconst rfl ?_
  refine ks_istore_n_1 rfl rfl ?_
  -- at 2: stop  st []
  exact l_putAside (μ := μ) (fun μ1 h1 h2 => t μ1 (fun k a b => by rw [h1 k a b, hs]) (by rw [h2 81 (by omega)]; exact hs) (fun c a b e => h2 c b)) 46 0 μ (by omega) (fun k a b => absurd b (by omega)) (fun _ _ => rfl)
theorem l_takeBack (t : ∀ μ', (∀ k, 0 ≤ k → k < 46 → μ' 81 k = μ 86 k) → (∀ k, k < 0 ∨ 46 ≤ k → μ' 81 k = μ 81 k) → (∀ c, c ≠ 81 → μ' c = μ c) → Q none (kg L) μ') : ∀ (r j : Nat) (μ1 : kx_M), j + r = 46 → (∀ k : Int, 0 ≤ k → k < j → μ1 81 k = μ 86 k) → (∀ k, k < 0 ∨ 46 ≤ k → μ1 81 k = μ 81 k) → (∀ c, c ≠ 81 → μ1 c = μ c) → kx_wx (ke d) kt_M_takeBack Q 2 [some (kR 77), some (kI j)] [] (kg L) μ1 := by
  intro r
  induction r with
  | zero =>
    intro j μ1 hj h1 h3 h2
    rw [Nat.add_zero] at hj
    subst hj
    refine ks_iload_n rfl rfl ?_
    refine ks_bipush rfl ?_
    -- at 5: if ge -> 26 else 8 st ['46', None]
    refine ks_icmp_ge rfl ⟨by omega, by omega⟩ ⟨by omega, by omega⟩ (fun c => absurd c (by omega)) (fun c => ?_)
    refine ks_return rfl ?_
    -- at 26: ret  st []
    exact t _ h1 h3 h2
  | succ r ih =>
    intro j μ1 hj h1 h3 h2
    refine ks_iload_n rfl rfl ?_
    refine ks_bipush rfl ?_
    -- at 5: if ge -> 26 else 8 st ['46', None]
    refine ks_icmp_ge rfl ⟨by omega, by omega⟩ ⟨by omega, by omega⟩ (fun c => ?_) (fun c => absurd c (by omega))
    refine ks_aload_n rfl rfl ?_
    refine ks_getr (b := 81) rfl rfl rfl rfl (by decide) ?_
    refine ks_iload_n rfl rfl ?_
    refine ks_aload_n rfl rfl ?_
    refine ks_getr (b := 86) rfl rfl rfl rfl (by decide) ?_
    refine ks_iload_n rfl rfl ?_
    refine ks_iaload rfl rfl (by omega) (by omega) (by (try simp only [kx_up_at, kx_row_at, up1_at, Nat.reduceEqDiff, Int.reduceEq, Int.reduceNeg, and_true, true_and, and_false, false_and, and_self, reduceIte, Nat.add_left_cancel_iff, Nat.add_eq_left, Nat.left_eq_add, Nat.reduceAdd, Int.add_left_inj, Int.add_right_inj]); rfl) ?_
    refine ks_iastore rfl rfl (by omega) (by omega) ?_
    refine ks_iinc_1 rfl rfl ?_
    refine ks_goto rfl ?_
    -- at 2: stop  st []
    refine ih (j + 1) _ (by omega) (fun k k0 k1 => ?_) (fun k hk => by rw [kx_up_oth (by omega)]; exact h3 k hk) (fun c hc => by rw [kx_up_row hc]; exact h2 c hc)
    by_cases e : k = j
    · subst e; rw [kx_up_self, h2 86 (by omega)]
    · rw [kx_up_oth e]; exact h1 k k0 (by omega)
theorem r_takeBack (A : AS μ s0) (Z0 : tw_Z s0) (Z : tw_Z (μ 81)) (t : ∀ μ', μ' 81 = s0 → Fr81 μ μ' → Q none (kg L) μ') : kx_cx (ke (d + 1)) 154 [kR 77] (kg L) μ Q := by
  refine ke_start (tb := kt_M_takeBack) (ls := [some (kR 77), none]) rfl rfl ?_
  refine ks_iconst rfl ?_
  refine ks_istore_n_1 rfl rfl ?_
  -- at 2: stop  st []
  refine l_takeBack (μ := μ) (fun μ1 h1 h3 h2 => t μ1 ?_ h2) 46 0 μ (by omega) (fun k a b => absurd b (by omega)) (fun _ _ => rfl) (fun _ _ => rfl)
  funext k
  by_cases e : 0 ≤ k ∧ k < 46
  · rw [h1 k e.1 e.2, A k e.1 e.2]
  · rw [h3 k (by omega), Z k (by omega), Z0 k (by omega)]
theorem l_goOn {n : Nat} (hn : n ≤ 60) (W : tw_W 999 s) (t : ∀ μ', μ' 81 = tw_go s n → Fr81 μ μ' → Q none (kg L) μ') : ∀ (r j : Nat) (μ1 : kx_M), j + r = n → μ1 81 = tw_go s j → Fr81 μ μ1 → kx_wx (ke (d + 3)) kt_M_goOn Q 2 [some (kR 77), some (kI n), some (kI j)] [] (kg L) μ1 := by
  intro r
  induction r with
  | zero =>
    intro j μ1 hj e F
    rw [Nat.add_zero] at hj
    subst hj
    refine ks_iload_n rfl rfl ?_
    refine ks_iload_n rfl rfl ?_
    -- at 4: if ge -> 17 else 7 st [None, None]
    refine ks_icmp_ge rfl ⟨by omega, by omega⟩ ⟨by omega, by omega⟩ (fun c => absurd c (by omega)) (fun c => ?_)
    refine ks_return rfl ?_
    -- at 17: ret  st []
    exact t _ e F
  | succ r ih =>
    intro j μ1 hj e F
    refine ks_iload_n rfl rfl ?_
    refine ks_iload_n rfl rfl ?_
    -- at 4: if ge -> 17 else 7 st [None, None]
    refine ks_icmp_ge rfl ⟨by omega, by omega⟩ ⟨by omega, by omega⟩ (fun c => ?_) (fun c => absurd c (by omega))
    refine ks_aload_n rfl rfl ?_
    refine ks_callv_1 rfl rfl rfl (Nat.le_of_ble_eq_true rfl) ?_
    -- at 8: call M_oneStep st []
    refine r_oneStep (B := 2000) (by omega) e (tw_W_go60 W (by omega)) ?_
    show kx_wx _ _ _ _ _ _ _ _
    refine ks_iinc_2 rfl rfl ?_
    refine ks_goto rfl ?_
    -- at 2: stop  st []
    exact ih (j + 1) _ (by omega) (kx_row_self _ _ _) (Fr81_tr F (Fr81_row _ _))
theorem r_goOn {n : Nat} (hn : n ≤ 60) (W : tw_W 999 s) (hs : μ 81 = s) (t : ∀ μ', μ' 81 = tw_go s n → Fr81 μ μ' → Q none (kg L) μ') : kx_cx (ke (d + 4)) 155 [kR 77, kI n] (kg L) μ Q := by
  refine ke_start (tb := kt_M_goOn) (ls := [some (kR 77), some (kI n), none]) rfl rfl ?_
  refine ks_iconst rfl ?_
  refine ks_istore_n_2 rfl rfl ?_
  -- at 2: stop  st []
  exact l_goOn (μ := μ) hn W t n 0 μ (by omega) hs (fun _ _ => rfl)
theorem r_Mwho (hv : kx_in v) (hs : μ 81 = s) (N : TN s) (I : IT μ s) (t0 : s 1 = 0 → Q (some (kI (-1000002))) (kg L) μ) (t1 : 1 ≤ s 1 → ¬ (0 ≤ v ∧ v ≤ 60) → Q (some (kI (-1000001))) (kg L) μ) (t2 : 1 ≤ s 1 → 0 ≤ v → v ≤ 60 → ∀ μ', FrQ μ μ' → Q (some (kI (tw_go s v.toNat 4))) (kg L) μ') : kx_cx (ke (d + 5)) 157 [kR 77, kI v] (kg L) μ Q := by
  refine ke_start (tb := kt_M_who) (ls := [some (kR 77), some (kI v), none]) rfl rfl ?_
  obtain ⟨i0, i1, i2, i3⟩ := IT_in I
  refine ks_aload_n rfl rfl ?_
  refine ks_geti rfl rfl rfl rfl (by (try simp only [kx_up_at, kx_row_at, up1_at, Nat.reduceEqDiff, Int.reduceEq, Int.reduceNeg, and_true, true_and, and_false, false_and, and_self, reduceIte, Nat.add_left_cancel_iff, Nat.add_eq_left, Nat.left_eq_add, Nat.reduceAdd, Int.add_left_inj, Int.add_right_inj]); rfl) ?_
  -- at 4: if ne -> 10 else 7 st [None]
  refine ks_if_ne rfl ⟨by omega, by omega⟩ (fun c => ?_) (fun c => ?_)
  · refine ks_ldc rfl ?_
    refine ks_ireturn rfl ?_
    -- at 9: ret  st ['-1000002']
    exact t0 (by omega)
  · refine ks_iload_n rfl rfl ?_
    refine ks_calls_1 rfl (Nat.le_of_ble_eq_true rfl) ?_
    -- at 11: call M_isFar st []
    refine r_isFar hv (fun c2 => ?_) (fun c2 => ?_)
    · obtain ⟨W, Z⟩ := TN_W N (by omega)
      have ev : v = (v.toNat : Int) := by omega
      generalize v.toNat = n at *
      subst ev
      show kx_wx _ _ _ _ _ (_ :: _) _ _
      refine ks_if_ne_1 rfl ?_
      refine ks_aload_n rfl rfl ?_
      refine ks_callv_1 rfl rfl rfl (Nat.le_of_ble_eq_true rfl) ?_
      -- at 21: call M_putAside st []
      refine r_putAside hs (fun μ1 A1 e1 F1 => ?_)
      show kx_wx _ _ _ _ _ _ _ _
      refine ks_aload_n rfl rfl ?_
      refine ks_iload_n rfl rfl ?_
      refine ks_callv_2 rfl rfl rfl (Nat.le_of_ble_eq_true rfl) ?_
      -- at 26: call M_goOn st []
      refine r_goOn (by omega) W e1 (fun μ2 e2 F2 => ?_)
      show kx_wx _ _ _ _ _ _ _ _
      refine ks_aload_n rfl rfl ?_
      refine ks_getr (b := 81) rfl rfl rfl rfl (by decide) ?_
      refine ks_iconst rfl ?_
      refine ks_iaload rfl rfl (by omega) (by omega) (by (try simp only [kx_up_at, kx_row_at, up1_at, Nat.reduceEqDiff, Int.reduceEq, Int.reduceNeg, and_true, true_and, and_false, false_and, and_self, reduceIte, Nat.add_left_cancel_iff, Nat.add_eq_left, Nat.left_eq_add, Nat.reduceAdd, Int.add_left_inj, Int.add_right_inj, e2]); rfl) ?_
      refine ks_istore_n_2 rfl rfl ?_
      refine ks_aload_n rfl rfl ?_
      refine ks_callv_1 rfl rfl rfl (Nat.le_of_ble_eq_true rfl) ?_
      -- at 37: call M_takeBack st []
      refine r_takeBack (AS_fr A1 F2) Z (by rw [e2]; exact tw_Z_go W Z n) (fun μ3 e3 F3 => ?_)
      show kx_wx _ _ _ _ _ _ _ _
      refine ks_iload_n rfl rfl ?_
      refine ks_ireturn rfl ?_
      -- at 41: ret  st [None]
      exact t2 (by omega) (by omega) (by omega) _ (FrQ_of (FrI_81 F1 (Fr81_tr F2 F3)) hs e3)
    · show kx_wx _ _ _ _ _ (_ :: _) _ _
      refine ks_if_ne_0 rfl ?_
      refine ks_ldc rfl ?_
      refine ks_ireturn rfl ?_
      -- at 19: ret  st ['-1000001']
      exact t1 (by omega) c2
theorem r_Mby {h : Int} (hv : kx_in v) (hh : kx_in h) (hs : μ 81 = s) (N : TN s) (t1 : ¬ ((0 ≤ h ∧ h < s 1) ∧ (0 ≤ v ∧ v ≤ 60)) → Q (some (kI (-1000001))) (kg L) μ) (t2 : 0 ≤ h → h < s 1 → 0 ≤ v → v ≤ 60 → ∀ μ', FrQ μ μ' → Q (some (kI (tw_go s v.toNat (24 + h) - s (24 + h)))) (kg L) μ') : kx_cx (ke (d + 5)) 165 [kR 77, kI h, kI v] (kg L) μ Q := by
  refine ke_start (tb := kt_M_by) (ls := [some (kR 77), some (kI h), some (kI v), none, none]) rfl rfl ?_
  obtain ⟨n1, n2, n3⟩ := TN_in N
  refine ks_aload_n rfl rfl ?_
  refine ks_iload_n rfl rfl ?_
  refine ks_callv_2 rfl rfl rfl (Nat.le_of_ble_eq_true rfl) ?_
  -- at 2: call M_isHead st []
  refine r_isHead hh (by rw [hs]; exact ⟨by omega, by omega⟩) (fun c => ?_) (fun c => ?_)
  · rw [hs] at c
    show kx_wx _ _ _ _ _ (_ :: _) _ _
    refine ks_if_eq_1 rfl ?_
    refine ks_iload_n rfl rfl ?_
    refine ks_calls_1 rfl (Nat.le_of_ble_eq_true rfl) ?_
    -- at 9: call M_isFar st []
    refine r_isFar hv (fun c2 => ?_) (fun c2 => ?_)
    · obtain ⟨W, Z⟩ := TN_W N (by omega)
      have ev : v = (v.toNat : Int) := by omega
      generalize v.toNat = n at *
      subst ev
      show kx_wx _ _ _ _ _ (_ :: _) _ _
      refine ks_if_ne_1 rfl ?_
      refine ks_aload_n rfl rfl ?_
      refine ks_callv_1 rfl rfl rfl (Nat.le_of_ble_eq_true rfl) ?_
      -- at 19: call M_putAside st []
      refine r_putAside hs (fun μ1 A1 e1 F1 => ?_)
      show kx_wx _ _ _ _ _ _ _ _
      refine ks_aload_n rfl rfl ?_
      refine ks_getr (b := 81) rfl rfl rfl rfl (by decide) ?_
      refine ks_bipush rfl ?_
      refine ks_iload_n rfl rfl ?_
      refine ks_iadd rfl ?_
      refine ks_iaload rfl rfl (by omega) (by omega) (by (try simp only [kx_up_at, kx_row_at, up1_at, Nat.reduceEqDiff, Int.reduceEq, Int.reduceNeg, and_true, true_and, and_false, false_and, and_self, reduceIte, Nat.add_left_cancel_iff, Nat.add_eq_left, Nat.left_eq_add, Nat.reduceAdd, Int.add_left_inj, Int.add_right_inj, e1]); rfl) ?_
      refine ks_istore_n_3 rfl rfl ?_
      refine ks_aload_n rfl rfl ?_
      refine ks_iload_n rfl rfl ?_
      refine ks_callv_2 rfl rfl rfl (Nat.le_of_ble_eq_true rfl) ?_
      -- at 34: call M_goOn st []
      refine r_goOn (by omega) W e1 (fun μ2 e2 F2 => ?_)
      show kx_wx _ _ _ _ _ _ _ _
      refine ks_aload_n rfl rfl ?_
      refine ks_getr (b := 81) rfl rfl rfl rfl (by decide) ?_
      refine ks_bipush rfl ?_
      refine ks_iload_n rfl rfl ?_
      refine ks_iadd rfl ?_
      refine ks_iaload rfl rfl (by omega) (by omega) (by (try simp only [kx_up_at, kx_row_at, up1_at, Nat.reduceEqDiff, Int.reduceEq, Int.reduceNeg, and_true, true_and, and_false, false_and, and_self, reduceIte, Nat.add_left_cancel_iff, Nat.add_eq_left, Nat.left_eq_add, Nat.reduceAdd, Int.add_left_inj, Int.add_right_inj, e2]); rfl) ?_
      refine ks_iload_n rfl rfl ?_
      refine ks_isub rfl ?_
      refine ks_istore_4 rfl rfl ?_
      refine ks_aload_n rfl rfl ?_
      refine ks_callv_1 rfl rfl rfl (Nat.le_of_ble_eq_true rfl) ?_
      -- at 51: call M_takeBack st []
      refine r_takeBack (AS_fr A1 F2) Z (by rw [e2]; exact tw_Z_go W Z n) (fun μ3 e3 F3 => ?_)
      show kx_wx _ _ _ _ _ _ _ _
      refine ks_iload rfl rfl ?_
      refine ks_ireturn rfl ?_
      -- at 56: ret  st [None]
      exact t2 c.1 c.2 (by omega) (by omega) _ (FrQ_of (FrI_81 F1 (Fr81_tr F2 F3)) hs e3)
    · show kx_wx _ _ _ _ _ (_ :: _) _ _
      refine ks_if_ne_0 rfl ?_
      refine ks_ldc rfl ?_
      refine ks_ireturn rfl ?_
      -- at 17: ret  st ['-1000001']
      exact t1 (fun q => c2 q.2)
  · rw [hs] at c
    show kx_wx _ _ _ _ _ (_ :: _) _ _
    refine ks_if_eq_0 rfl ?_
    refine ks_ldc rfl ?_
    refine ks_ireturn rfl ?_
    -- at 17: ret  st ['-1000001']
    exact t1 (fun q => c q.1)
theorem l_Mgets {X : Int} (v0 : 0 ≤ v) (v1 : v < s 1) (hs : μ 81 = s) (W : tw_W 999 s) (Z : tw_Z s) (t : ∀ μ', FrQ μ μ' → Q (some (kI X)) (kg L) μ') : ∀ (r j : Nat) (μ1 : kx_M), j + r = 60 → q_gets s v (r + 1) j = X → μ1 81 = tw_go s j → AS μ1 s → FrI μ μ1 → kx_wx (ke (d + 4)) kt_M_gets Q 17 [some (kR 77), some (kI v), some (kI j), none] [] (kg L) μ1 := by
  have w1 := W.1
  have fin : ∀ (j : Nat) (μ1 : kx_M), j ≤ 60 → (tw_go s j 4 = v → X = j) → (tw_go s j 4 ≠ v → X = -1000000) → μ1 81 = tw_go s j → AS μ1 s → FrI μ μ1 → kx_wx (ke (d + 4)) kt_M_gets Q 43 [some (kR 77), some (kI v), some (kI j), none] [] (kg L) μ1 := by
    intro j μ1 hj x1 x0 e A F
    have Wj := tw_W_go60 W (n := j) (by omega)
    have w3 := Wj.2.2.1
    have w1' := Wj.1
    refine ks_aload_n rfl rfl ?_
    refine ks_getr (b := 81) rfl rfl rfl rfl (by decide) ?_
    refine ks_iconst rfl ?_
    refine ks_iaload rfl rfl (by omega) (by omega) (by (try simp only [kx_up_at, kx_row_at, up1_at, Nat.reduceEqDiff, Int.reduceEq, Int.reduceNeg, and_true, true_and, and_false, false_and, and_self, reduceIte, Nat.add_left_cancel_iff, Nat.add_eq_left, Nat.left_eq_add, Nat.reduceAdd, Int.add_left_inj, Int.add_right_inj, e]); rfl) ?_
    refine ks_iload_n rfl rfl ?_
    -- at 50: if ne -> 57 else 53 st [None, None]
    refine ks_icmp_ne rfl ⟨by omega, by omega⟩ ⟨by omega, by omega⟩ (fun c => ?_) (fun c => ?_)
    · refine ks_iconst rfl ?_
      refine ks_goto rfl ?_
      refine ks_istore_n_3 rfl rfl ?_
      refine ks_aload_n rfl rfl ?_
      refine ks_callv_1 rfl rfl rfl (Nat.le_of_ble_eq_true rfl) ?_
      -- at 60: call M_takeBack st []
      refine r_takeBack A Z (by rw [e]; exact tw_Z_go W Z j) (fun μ3 e3 F3 => ?_)
      show kx_wx _ _ _ _ _ _ _ _
      refine ks_iload_n rfl rfl ?_
      refine ks_if_eq_1 rfl ?_
      refine ks_iload_n rfl rfl ?_
      refine ks_goto rfl ?_
      refine ks_ireturn rfl ?_
      -- at 73: ret  st [None]
      rw [x1 c] at t
      exact t _ (FrQ_of (FrI_81 F F3) hs e3)
    · refine ks_iconst rfl ?_
      refine ks_istore_n_3 rfl rfl ?_
      refine ks_aload_n rfl rfl ?_
      refine ks_callv_1 rfl rfl rfl (Nat.le_of_ble_eq_true rfl) ?_
      -- at 60: call M_takeBack st []
      refine r_takeBack A Z (by rw [e]; exact tw_Z_go W Z j) (fun μ3 e3 F3 => ?_)
      show kx_wx _ _ _ _ _ _ _ _
      refine ks_iload_n rfl rfl ?_
      refine ks_if_eq_0 rfl ?_
      refine ks_ldc rfl ?_
      refine ks_ireturn rfl ?_
      -- at 73: ret  st ['-1000000']
      rw [x0 c] at t
      exact t _ (FrQ_of (FrI_81 F F3) hs e3)
  intro r
  induction r with
  | zero =>
    intro j μ1 hj q e A F
    simp only [q_gets] at q
    refine ks_iload_n rfl rfl ?_
    refine ks_bipush rfl ?_
    -- at 20: if ge -> 43 else 23 st ['60', None]
    refine ks_icmp_ge rfl ⟨by omega, by omega⟩ ⟨by omega, by omega⟩ (fun c => absurd c (by omega)) (fun c => ?_)
    exact fin j μ1 (by omega) (fun h => by rw [← q, if_pos h]) (fun h => by rw [← q, if_neg h]) e A F
  | succ r ih =>
    intro j μ1 hj q e A F
    have Wj := tw_W_go60 W (n := j) (by omega)
    have w3 := Wj.2.2.1
    have w1' := Wj.1
    rw [q_gets] at q
    refine ks_iload_n rfl rfl ?_
    refine ks_bipush rfl ?_
    -- at 20: if ge -> 43 else 23 st ['60', None]
    refine ks_icmp_ge rfl ⟨by omega, by omega⟩ ⟨by omega, by omega⟩ (fun c => ?_) (fun c => absurd c (by omega))
    refine ks_aload_n rfl rfl ?_
    refine ks_getr (b := 81) rfl rfl rfl rfl (by decide) ?_
    refine ks_iconst rfl ?_
    refine ks_iaload rfl rfl (by omega) (by omega) (by (try simp only [kx_up_at, kx_row_at, up1_at, Nat.reduceEqDiff, Int.reduceEq, Int.reduceNeg, and_true, true_and, and_false, false_and, and_self, reduceIte, Nat.add_left_cancel_iff, Nat.add_eq_left, Nat.left_eq_add, Nat.reduceAdd, Int.add_left_inj, Int.add_right_inj, e]); rfl) ?_
    refine ks_iload_n rfl rfl ?_
    -- at 30: if eq -> 43 else 33 st [None, None]
    refine ks_icmp_eq rfl ⟨by omega, by omega⟩ ⟨by omega, by omega⟩ (fun c2 => ?_) (fun c2 => ?_)
    · rw [if_pos c2] at q
      exact fin j μ1 (by omega) (fun h => q.symm) (fun h => absurd c2 h) e A F
      -- at 43: stop
    · rw [if_neg c2] at q
      refine ks_aload_n rfl rfl ?_
      refine ks_callv_1 rfl rfl rfl (Nat.le_of_ble_eq_true rfl) ?_
      -- at 34: call M_oneStep st []
      refine r_oneStep (B := 2000) (by omega) e Wj ?_
      show kx_wx _ _ _ _ _ _ _ _
      refine ks_iinc_2 rfl rfl ?_
      refine ks_goto rfl ?_
      -- at 17: stop  st []
      exact ih (j + 1) _ (by omega) q (kx_row_self _ _ _) (AS_fr A (Fr81_row _ _)) (FrI_81 F (Fr81_row _ _))
theorem r_Mgets (hv : kx_in v) (hs : μ 81 = s) (N : TN s) (t1 : ¬ (0 ≤ v ∧ v < s 1) → Q (some (kI (-1000001))) (kg L) μ) (t2 : 0 ≤ v → v < s 1 → ∀ μ', FrQ μ μ' → Q (some (kI (q_gets s v 61 0))) (kg L) μ') : kx_cx (ke (d + 5)) 158 [kR 77, kI v] (kg L) μ Q := by
  refine ke_start (tb := kt_M_gets) (ls := [some (kR 77), some (kI v), none, none]) rfl rfl ?_
  obtain ⟨n1, n2, n3⟩ := TN_in N
  refine ks_aload_n rfl rfl ?_
  refine ks_iload_n rfl rfl ?_
  refine ks_callv_2 rfl rfl rfl (Nat.le_of_ble_eq_true rfl) ?_
  -- at 2: call M_isHead st []
  refine r_isHead hv (by rw [hs]; exact ⟨by omega, by omega⟩) (fun c => ?_) (fun c => ?_)
  · rw [hs] at c
    obtain ⟨W, Z⟩ := TN_W N (by omega)
    show kx_wx _ _ _ _ _ (_ :: _) _ _
    refine ks_if_ne_1 rfl ?_
    refine ks_aload_n rfl rfl ?_
    refine ks_callv_1 rfl rfl rfl (Nat.le_of_ble_eq_true rfl) ?_
    -- at 12: call M_putAside st []
    refine r_putAside hs (fun μ1 A1 e1 F1 => ?_)
    show kx_wx _ _ _ _ _ _ _ _
    refine ks_iconst rfl ?_
    refine ks_istore_n_2 rfl rfl ?_
    -- at 17: stop  st []
    exact l_Mgets (μ := μ) (X := q_gets s v 61 0) c.1 c.2 hs W Z (t2 c.1 c.2) 60 0 μ1 (by omega) rfl e1 A1 F1
  · rw [hs] at c
    show kx_wx _ _ _ _ _ (_ :: _) _ _
    refine ks_if_ne_0 rfl ?_
    refine ks_ldc rfl ?_
    refine ks_ireturn rfl ?_
    -- at 10: ret  st ['-1000001']
    exact t1 c
theorem l_Mever {n : Nat} (hn : n ≤ 60) (hs : μ 81 = s) (W : tw_W 999 s) (Z : tw_Z s) (t : ∀ μ', FrQ μ μ' → Q (some (kI (q_ever s n))) (kg L) μ') : ∀ (r j : Nat) (μ1 : kx_M), j + r = n → μ1 81 = tw_go s j → AS μ1 s → FrI μ μ1 → kx_wx (ke (d + 4)) kt_M_ever Q 35 [some (kR 77), some (kI n), some (kI (q_ever s j)), some (kI j)] [] (kg L) μ1 := by
  intro r
  induction r with
  | zero =>
    intro j μ1 hj e A F
    rw [Nat.add_zero] at hj
    subst hj
    refine ks_iload_n rfl rfl ?_
    refine ks_iload_n rfl rfl ?_
    -- at 37: if ge -> 61 else 40 st [None, None]
    refine ks_icmp_ge rfl ⟨by omega, by omega⟩ ⟨by omega, by omega⟩ (fun c => absurd c (by omega)) (fun c => ?_)
    refine ks_aload_n rfl rfl ?_
    refine ks_callv_1 rfl rfl rfl (Nat.le_of_ble_eq_true rfl) ?_
    -- at 62: call M_takeBack st []
    refine r_takeBack A Z (by rw [e]; exact tw_Z_go W Z j) (fun μ3 e3 F3 => ?_)
    show kx_wx _ _ _ _ _ _ _ _
    refine ks_iload_n rfl rfl ?_
    refine ks_ireturn rfl ?_
    -- at 66: ret  st [None]
    exact t _ (FrQ_of (FrI_81 F F3) hs e3)
  | succ r ih =>
    intro j μ1 hj e A F
    refine ks_iload_n rfl rfl ?_
    refine ks_iload_n rfl rfl ?_
    -- at 37: if ge -> 61 else 40 st [None, None]
    refine ks_icmp_ge rfl ⟨by omega, by omega⟩ ⟨by omega, by omega⟩ (fun c => ?_) (fun c => absurd c (by omega))
    refine ks_aload_n rfl rfl ?_
    refine ks_callv_1 rfl rfl rfl (Nat.le_of_ble_eq_true rfl) ?_
    -- at 41: call M_oneStep st []
    refine r_oneStep (B := 2000) (by omega) e (tw_W_go60 W (by omega)) ?_
    have W2 := tw_W_go60 W (n := j + 1) (by omega)
    have w3 : 0 ≤ tw_step (tw_go s j) 4 ∧ tw_step (tw_go s j) 4 < tw_step (tw_go s j) 1 := W2.2.2.1
    have w1 : 1 ≤ tw_step (tw_go s j) 1 ∧ tw_step (tw_go s j) 1 ≤ 6 := W2.1
    show kx_wx _ _ _ _ _ _ _ _
    refine ks_iload_n rfl rfl ?_
    refine ks_iconst rfl ?_
    refine ks_aload_n rfl rfl ?_
    refine ks_getr (b := 81) rfl rfl rfl rfl (by decide) ?_
    refine ks_iconst rfl ?_
    refine ks_iaload rfl rfl (by omega) (by omega) (by (try simp only [kx_up_at, kx_row_at, up1_at, Nat.reduceEqDiff, Int.reduceEq, Int.reduceNeg, and_true, true_and, and_false, false_and, and_self, reduceIte, Nat.add_left_cancel_iff, Nat.add_eq_left, Nat.left_eq_add, Nat.reduceAdd, Int.add_left_inj, Int.add_right_inj]); rfl) ?_
    refine ks_ishl rfl (by omega) (by omega) ?_
    refine ks_ior rfl ?_
    refine ks_istore_n_2 rfl rfl ?_
    refine ks_iinc_3 rfl rfl ?_
    refine ks_goto rfl ?_
    -- at 35: stop  st []
    exact ih (j + 1) _ (by omega) (kx_row_self _ _ _) (AS_fr A (Fr81_row _ _)) (FrI_81 F (Fr81_row _ _))
theorem r_Mever (hv : kx_in v) (hs : μ 81 = s) (N : TN s) (I : IT μ s) (t0 : s 1 = 0 → Q (some (kI (-1000002))) (kg L) μ) (t1 : 1 ≤ s 1 → ¬ (0 ≤ v ∧ v ≤ 60) → Q (some (kI (-1000001))) (kg L) μ) (t2 : 1 ≤ s 1 → 0 ≤ v → v ≤ 60 → ∀ μ', FrQ μ μ' → Q (some (kI (q_ever s v.toNat))) (kg L) μ') : kx_cx (ke (d + 5)) 159 [kR 77, kI v] (kg L) μ Q := by
  refine ke_start (tb := kt_M_ever) (ls := [some (kR 77), some (kI v), none, none]) rfl rfl ?_
  obtain ⟨i0, i1, i2, i3⟩ := IT_in I
  refine ks_aload_n rfl rfl ?_
  refine ks_geti rfl rfl rfl rfl (by (try simp only [kx_up_at, kx_row_at, up1_at, Nat.reduceEqDiff, Int.reduceEq, Int.reduceNeg, and_true, true_and, and_false, false_and, and_self, reduceIte, Nat.add_left_cancel_iff, Nat.add_eq_left, Nat.left_eq_add, Nat.reduceAdd, Int.add_left_inj, Int.add_right_inj]); rfl) ?_
  -- at 4: if ne -> 10 else 7 st [None]
  refine ks_if_ne rfl ⟨by omega, by omega⟩ (fun c => ?_) (fun c => ?_)
  · refine ks_ldc rfl ?_
    refine ks_ireturn rfl ?_
    -- at 9: ret  st ['-1000002']
    exact t0 (by omega)
  · refine ks_iload_n rfl rfl ?_
    refine ks_calls_1 rfl (Nat.le_of_ble_eq_true rfl) ?_
    -- at 11: call M_isFar st []
    refine r_isFar hv (fun c2 => ?_) (fun c2 => ?_)
    · obtain ⟨W, Z⟩ := TN_W N (by omega)
      have w3 := W.2.2.1
      have w1 := W.1
      have ev : v = (v.toNat : Int) := by omega
      generalize v.toNat = n at *
      subst ev
      show kx_wx _ _ _ _ _ (_ :: _) _ _
      refine ks_if_ne_1 rfl ?_
      refine ks_aload_n rfl rfl ?_
      refine ks_callv_1 rfl rfl rfl (Nat.le_of_ble_eq_true rfl) ?_
      -- at 21: call M_putAside st []
      refine r_putAside hs (fun μ1 A1 e1 F1 => ?_)
      show kx_wx _ _ _ _ _ _ _ _
      refine ks_iconst rfl ?_
      refine ks_aload_n rfl rfl ?_
      refine ks_getr (b := 81) rfl rfl rfl rfl (by decide) ?_
      refine ks_iconst rfl ?_
      refine ks_iaload rfl rfl (by omega) (by omega) (by (try simp only [kx_up_at, kx_row_at, up1_at, Nat.reduceEqDiff, Int.reduceEq, Int.reduceNeg, and_true, true_and, and_false, false_and, and_self, reduceIte, Nat.add_left_cancel_iff, Nat.add_eq_left, Nat.left_eq_add, Nat.reduceAdd, Int.add_left_inj, Int.add_right_inj, e1]); rfl) ?_
      refine ks_ishl rfl (by omega) (by omega) ?_
      refine ks_istore_n_2 rfl rfl ?_
      refine ks_iconst rfl ?_
      refine ks_istore_n_3 rfl rfl ?_
      -- at 35: stop  st []
      exact l_Mever (μ := μ) (by omega) hs W Z (t2 (by omega) (by omega) (by omega)) n 0 μ1 (by omega) e1 A1 F1
    · show kx_wx _ _ _ _ _ (_ :: _) _ _
      refine ks_if_ne_0 rfl ?_
      refine ks_ldc rfl ?_
      refine ks_ireturn rfl ?_
      -- at 19: ret  st ['-1000001']
      exact t1 (by omega) c2
theorem l_doneIn {o : Int} (o0 : 0 ≤ o) (o1 : o < s 2) (W : tw_W 999 s) (Z : tw_Z s) (Z0 : tw_Z s0) (hz : s (38 + o) = 0) (t1 : ∀ n μ', 1 ≤ n → n ≤ 60 → DN s o n → μ' 81 = s0 → Fr81 μ μ' → Q (some (kI (n : Nat))) (kg L) μ') (t0 : ∀ μ', (∀ i, i ≤ 60 → tw_go s i (38 + o) = 0) → μ' 81 = s0 → Fr81 μ μ' → Q (some (kI (-1000000))) (kg L) μ') : ∀ (r j : Nat) (μ1 : kx_M), j + r = 60 → (∀ i, i < j → tw_go s i (38 + o) = 0) → (tw_go s j (38 + o) = 0 ∨ tw_go s j (38 + o) = 1) → μ1 81 = tw_go s j → AS μ1 s0 → Fr81 μ μ1 → kx_wx (ke (d + 3)) kt_M_doneIn Q 2 [some (kR 77), some (kI o), some (kI j), none] [] (kg L) μ1 := by
  have w2 := W.2.1
  have fin : ∀ (j : Nat) (μ1 : kx_M), j ≤ 60 → (∀ i, i < j → tw_go s i (38 + o) = 0) → (tw_go s j (38 + o) = 0 ∧ j = 60 ∨ tw_go s j (38 + o) = 1) → μ1 81 = tw_go s j → AS μ1 s0 → Fr81 μ μ1 → kx_wx (ke (d + 3)) kt_M_doneIn Q 30 [some (kR 77), some (kI o), some (kI j), none] [] (kg L) μ1 := by
    intro j μ1 hj x1 x0 e A F
    refine ks_aload_n rfl rfl ?_
    refine ks_getr (b := 81) rfl rfl rfl rfl (by decide) ?_
    refine ks_bipush rfl ?_
    refine ks_iload_n rfl rfl ?_
    refine ks_iadd rfl ?_
    refine ks_iaload rfl rfl (by omega) (by omega) (by (try simp only [kx_up_at, kx_row_at, up1_at, Nat.reduceEqDiff, Int.reduceEq, Int.reduceNeg, and_true, true_and, and_false, false_and, and_self, reduceIte, Nat.add_left_cancel_iff, Nat.add_eq_left, Nat.left_eq_add, Nat.reduceAdd, Int.add_left_inj, Int.add_right_inj, e]); rfl) ?_
    refine ks_iconst rfl ?_
    -- at 40: if ne -> 47 else 43 st ['1', None]
    refine ks_icmp_ne rfl ⟨by omega, by omega⟩ ⟨by omega, by omega⟩ (fun c => ?_) (fun c => ?_)
    · refine ks_iconst rfl ?_
      refine ks_goto rfl ?_
      refine ks_istore_n_3 rfl rfl ?_
      refine ks_aload_n rfl rfl ?_
      refine ks_callv_1 rfl rfl rfl (Nat.le_of_ble_eq_true rfl) ?_
      -- at 50: call M_takeBack st []
      refine r_takeBack A Z0 (by rw [e]; exact tw_Z_go W Z j) (fun μ3 e3 F3 => ?_)
      show kx_wx _ _ _ _ _ _ _ _
      refine ks_iload_n rfl rfl ?_
      refine ks_if_eq_1 rfl ?_
      refine ks_iload_n rfl rfl ?_
      refine ks_goto rfl ?_
      refine ks_ireturn rfl ?_
      -- at 63: ret  st [None]
      refine t1 j _ ?_ hj ⟨c, x1⟩ e3 (Fr81_tr F F3)
      by_cases ej : j = 0
      · subst ej
        have : s (38 + o) = 1 := c
        omega
      · omega
    · refine ks_iconst rfl ?_
      refine ks_istore_n_3 rfl rfl ?_
      refine ks_aload_n rfl rfl ?_
      refine ks_callv_1 rfl rfl rfl (Nat.le_of_ble_eq_true rfl) ?_
      -- at 50: call M_takeBack st []
      refine r_takeBack A Z0 (by rw [e]; exact tw_Z_go W Z j) (fun μ3 e3 F3 => ?_)
      show kx_wx _ _ _ _ _ _ _ _
      refine ks_iload_n rfl rfl ?_
      refine ks_if_eq_0 rfl ?_
      refine ks_ldc rfl ?_
      refine ks_ireturn rfl ?_
      -- at 63: ret  st ['-1000000']
      refine t0 _ (fun i hi => ?_) e3 (Fr81_tr F F3)
      by_cases ei : i = j
      · subst ei; omega
      · exact x1 i (by omega)
  intro r
  induction r with
  | zero =>
    intro j μ1 hj h1 h2 e A F
    refine ks_iload_n rfl rfl ?_
    refine ks_bipush rfl ?_
    -- at 5: if ge -> 30 else 8 st ['60', None]
    refine ks_icmp_ge rfl ⟨by omega, by omega⟩ ⟨by omega, by omega⟩ (fun c => absurd c (by omega)) (fun c => ?_)
    exact fin j μ1 (by omega) h1 (by omega) e A F
  | succ r ih =>
    intro j μ1 hj h1 h2 e A F
    refine ks_iload_n rfl rfl ?_
    refine ks_bipush rfl ?_
    -- at 5: if ge -> 30 else 8 st ['60', None]
    refine ks_icmp_ge rfl ⟨by omega, by omega⟩ ⟨by omega, by omega⟩ (fun c => ?_) (fun c => absurd c (by omega))
    refine ks_aload_n rfl rfl ?_
    refine ks_getr (b := 81) rfl rfl rfl rfl (by decide) ?_
    refine ks_bipush rfl ?_
    refine ks_iload_n rfl rfl ?_
    refine ks_iadd rfl ?_
    refine ks_iaload rfl rfl (by omega) (by omega) (by (try simp only [kx_up_at, kx_row_at, up1_at, Nat.reduceEqDiff, Int.reduceEq, Int.reduceNeg, and_true, true_and, and_false, false_and, and_self, reduceIte, Nat.add_left_cancel_iff, Nat.add_eq_left, Nat.left_eq_add, Nat.reduceAdd, Int.add_left_inj, Int.add_right_inj, e]); rfl) ?_
    -- at 17: if ne -> 30 else 20 st [None]
    refine ks_if_ne rfl ⟨by omega, by omega⟩ (fun c2 => ?_) (fun c2 => ?_)
    · refine ks_aload_n rfl rfl ?_
      refine ks_callv_1 rfl rfl rfl (Nat.le_of_ble_eq_true rfl) ?_
      -- at 21: call M_oneStep st []
      refine r_oneStep (B := 2000) (by omega) e (tw_W_go60 W (by omega)) ?_
      show kx_wx _ _ _ _ _ _ _ _
      refine ks_iinc_2 rfl rfl ?_
      refine ks_goto rfl ?_
      -- at 2: stop  st []
      refine ih (j + 1) _ (by omega) (fun i hi => ?_) ?_ (kx_row_self _ _ _) (AS_fr A (Fr81_row _ _)) (Fr81_tr F (Fr81_row _ _))
      · by_cases ei : i = j
        · subst ei; exact c2
        · exact h1 i (by omega)
      · rcases dn_01 W o0 o1 c2 with q | q
        · exact Or.inl q
        · exact Or.inr q.1
    · exact fin j μ1 (by omega) h1 (Or.inr (h2.resolve_left c2)) e A F
      -- at 30: stop
theorem r_doneIn {o : Int} (o0 : 0 ≤ o) (o1 : o < s 2) (W : tw_W 999 s) (Z : tw_Z s) (Z0 : tw_Z s0) (A : AS μ s0) (hs : μ 81 = s) (hz : s (38 + o) = 0) (t1 : ∀ n μ', 1 ≤ n → n ≤ 60 → DN s o n → μ' 81 = s0 → Fr81 μ μ' → Q (some (kI (n : Nat))) (kg L) μ') (t0 : ∀ μ', (∀ i, i ≤ 60 → tw_go s i (38 + o) = 0) → μ' 81 = s0 → Fr81 μ μ' → Q (some (kI (-1000000))) (kg L) μ') : kx_cx (ke (d + 4)) 162 [kR 77, kI o] (kg L) μ Q := by
  refine ke_start (tb := kt_M_doneIn) (ls := [some (kR 77), some (kI o), none, none]) rfl rfl ?_
  refine ks_iconst rfl ?_
  refine ks_istore_n_2 rfl rfl ?_
  -- at 2: stop  st []
  exact l_doneIn (μ := μ) o0 o1 W Z Z0 hz t1 t0 60 0 μ (by omega) (fun i hi => absurd hi (by omega)) (Or.inl hz) hs A (fun _ _ => rfl)
theorem r_doneIn2 {o : Int} (o0 : 0 ≤ o) (o1 : o < s 2) (W : tw_W 999 s) (Z : tw_Z s) (Z0 : tw_Z s0) (A : AS μ s0) (hs : μ 81 = s) (hz : s (38 + o) = 2) (t0 : ∀ μ', μ' 81 = s0 → Fr81 μ μ' → Q (some (kI (-1000000))) (kg L) μ') : kx_cx (ke (d + 4)) 162 [kR 77, kI o] (kg L) μ Q := by
  refine ke_start (tb := kt_M_doneIn) (ls := [some (kR 77), some (kI o), none, none]) rfl rfl ?_
  have w2 := W.2.1
  refine ks_iconst rfl ?_
  refine ks_istore_n_2 rfl rfl ?_
  refine ks_iload_n rfl rfl ?_
  refine ks_bipush rfl ?_
  -- at 5: if ge -> 30 else 8 st ['60', '0']
  refine ks_icmp_ge rfl ⟨by omega, by omega⟩ ⟨by omega, by omega⟩ (fun c => ?_) (fun c => absurd c (by omega))
  refine ks_aload_n rfl rfl ?_
  refine ks_getr (b := 81) rfl rfl rfl rfl (by decide) ?_
  refine ks_bipush rfl ?_
  refine ks_iload_n rfl rfl ?_
  refine ks_iadd rfl ?_
  refine ks_iaload rfl rfl (by omega) (by omega) (by (try simp only [kx_up_at, kx_row_at, up1_at, Nat.reduceEqDiff, Int.reduceEq, Int.reduceNeg, and_true, true_and, and_false, false_and, and_self, reduceIte, Nat.add_left_cancel_iff, Nat.add_eq_left, Nat.left_eq_add, Nat.reduceAdd, Int.add_left_inj, Int.add_right_inj, hs, hz]); rfl) ?_
  -- at 17: if ne -> 30 else 20 st [None]
  refine ks_if_ne rfl ⟨by omega, by omega⟩ (fun c2 => absurd c2 (by omega)) (fun c2 => ?_)
  refine ks_aload_n rfl rfl ?_
  refine ks_getr (b := 81) rfl rfl rfl rfl (by decide) ?_
  refine ks_bipush rfl ?_
  refine ks_iload_n rfl rfl ?_
  refine ks_iadd rfl ?_
  refine ks_iaload rfl rfl (by omega) (by omega) (by (try simp only [kx_up_at, kx_row_at, up1_at, Nat.reduceEqDiff, Int.reduceEq, Int.reduceNeg, and_true, true_and, and_false, false_and, and_self, reduceIte, Nat.add_left_cancel_iff, Nat.add_eq_left, Nat.left_eq_add, Nat.reduceAdd, Int.add_left_inj, Int.add_right_inj, hs, hz]); rfl) ?_
  refine ks_iconst rfl ?_
  -- at 40: if ne -> 47 else 43 st ['1', None]
  refine ks_icmp_ne rfl ⟨by omega, by omega⟩ ⟨by omega, by omega⟩ (fun c3 => absurd c3 (by omega)) (fun c3 => ?_)
  refine ks_iconst rfl ?_
  refine ks_istore_n_3 rfl rfl ?_
  refine ks_aload_n rfl rfl ?_
  refine ks_callv_1 rfl rfl rfl (Nat.le_of_ble_eq_true rfl) ?_
  -- at 50: call M_takeBack st []
  refine r_takeBack A Z0 (by rw [hs]; exact Z) (fun μ3 e3 F3 => ?_)
  show kx_wx _ _ _ _ _ _ _ _
  refine ks_iload_n rfl rfl ?_
  refine ks_if_eq_0 rfl ?_
  refine ks_ldc rfl ?_
  refine ks_ireturn rfl ?_
  -- at 63: ret  st ['-1000000']
  exact t0 _ e3 F3
theorem r_Mdone (hv : kx_in v) (hs : μ 81 = s) (N : TN s) (t1 : ¬ (0 ≤ v ∧ v < s 2) → Q (some (kI (-1000001))) (kg L) μ) (t2 : 0 ≤ v → v < s 2 → ∀ x μ', q_done s v x → FrQ μ μ' → Q (some (kI x)) (kg L) μ') : kx_cx (ke (d + 5)) 163 [kR 77, kI v] (kg L) μ Q := by
  refine ke_start (tb := kt_M_done) (ls := [some (kR 77), some (kI v), none]) rfl rfl ?_
  obtain ⟨n1, n2, n3⟩ := TN_in N
  refine ks_aload_n rfl rfl ?_
  refine ks_iload_n rfl rfl ?_
  refine ks_callv_2 rfl rfl rfl (Nat.le_of_ble_eq_true rfl) ?_
  -- at 2: call M_isOrder st []
  refine r_isOrder hv (by rw [hs]; exact ⟨by omega, by omega⟩) (fun c => ?_) (fun c => ?_)
  · rw [hs] at c
    obtain ⟨W, Z⟩ := TN_W N (by omega)
    have w5 := W.2.2.2.2.1
    have w8 := W.2.2.2.2.2.2.2 v c.1 c.2
    show kx_wx _ _ _ _ _ (_ :: _) _ _
    refine ks_if_ne_1 rfl ?_
    refine ks_aload_n rfl rfl ?_
    refine ks_getr (b := 81) rfl rfl rfl rfl (by decide) ?_
    refine ks_bipush rfl ?_
    refine ks_iload_n rfl rfl ?_
    refine ks_iadd rfl ?_
    refine ks_iaload rfl rfl (by omega) (by omega) (by (try simp only [kx_up_at, kx_row_at, up1_at, Nat.reduceEqDiff, Int.reduceEq, Int.reduceNeg, and_true, true_and, and_false, false_and, and_self, reduceIte, Nat.add_left_cancel_iff, Nat.add_eq_left, Nat.left_eq_add, Nat.reduceAdd, Int.add_left_inj, Int.add_right_inj, hs]); rfl) ?_
    refine ks_iconst rfl ?_
    -- at 21: if ne -> 34 else 24 st ['1', None]
    refine ks_icmp_ne rfl ⟨by omega, by omega⟩ ⟨by omega, by omega⟩ (fun c2 => ?_) (fun c2 => ?_)
    · refine ks_aload_n rfl rfl ?_
      refine ks_getr (b := 81) rfl rfl rfl rfl (by decide) ?_
      refine ks_bipush rfl ?_
      refine ks_iload_n rfl rfl ?_
      refine ks_iadd rfl ?_
      refine ks_iaload rfl rfl (by omega) (by omega) (by (try simp only [kx_up_at, kx_row_at, up1_at, Nat.reduceEqDiff, Int.reduceEq, Int.reduceNeg, and_true, true_and, and_false, false_and, and_self, reduceIte, Nat.add_left_cancel_iff, Nat.add_eq_left, Nat.left_eq_add, Nat.reduceAdd, Int.add_left_inj, Int.add_right_inj, hs]); rfl) ?_
      refine ks_ireturn rfl ?_
      -- at 33: ret  st [None]
      exact t2 c.1 c.2 _ _ (Or.inl ⟨c2, rfl⟩) (fun _ _ _ => rfl)
    · refine ks_aload_n rfl rfl ?_
      refine ks_callv_1 rfl rfl rfl (Nat.le_of_ble_eq_true rfl) ?_
      -- at 35: call M_putAside st []
      refine r_putAside hs (fun μ1 A1 e1 F1 => ?_)
      show kx_wx _ _ _ _ _ _ _ _
      refine ks_aload_n rfl rfl ?_
      refine ks_iload_n rfl rfl ?_
      refine ks_callv_2 rfl rfl rfl (Nat.le_of_ble_eq_true rfl) ?_
      -- at 40: call M_doneIn st []
      by_cases hz : s (38 + v) = 0
      · have hz0 := hz
        refine r_doneIn c.1 c.2 W Z Z A1 e1 hz (fun n μ2 n0 n1 D e2 F2 => ?_) (fun μ2 D e2 F2 => ?_)
        · show kx_wx _ _ _ _ _ (_ :: _) _ _
          refine ks_istore_n_2 rfl rfl ?_
          refine ks_iload_n rfl rfl ?_
          -- at 45: if ge -> 53 else 48 st [None]
          refine ks_if_ge rfl ⟨by omega, by omega⟩ (fun c3 => absurd c3 (by omega)) (fun c3 => ?_)
          refine ks_aload_n rfl rfl ?_
          refine ks_getr (b := 81) rfl rfl rfl rfl (by decide) ?_
          refine ks_iconst rfl ?_
          refine ks_iaload rfl rfl (by omega) (by omega) (by (try simp only [kx_up_at, kx_row_at, up1_at, Nat.reduceEqDiff, Int.reduceEq, Int.reduceNeg, and_true, true_and, and_false, false_and, and_self, reduceIte, Nat.add_left_cancel_iff, Nat.add_eq_left, Nat.left_eq_add, Nat.reduceAdd, Int.add_left_inj, Int.add_right_inj, e2]); rfl) ?_
          refine ks_iload_n rfl rfl ?_
          refine ks_iadd rfl ?_
          refine ks_ireturn rfl ?_
          -- at 61: ret  st [None]
          exact t2 c.1 c.2 _ _ (Or.inr (Or.inr (Or.inl ⟨hz, n, n1, D, rfl⟩))) (FrQ_of (FrI_81 F1 F2) hs e2)
        · show kx_wx _ _ _ _ _ (_ :: _) _ _
          refine ks_istore_n_2 rfl rfl ?_
          refine ks_iload_n rfl rfl ?_
          -- at 45: if ge -> 53 else 48 st [None]
          refine ks_if_ge rfl ⟨by omega, by omega⟩ (fun c3 => ?_) (fun c3 => absurd c3 (by omega))
          refine ks_ldc rfl ?_
          refine ks_goto rfl ?_
          refine ks_ireturn rfl ?_
          -- at 61: ret  st ['-1000000']
          exact t2 c.1 c.2 _ _ (Or.inr (Or.inr (Or.inr ⟨hz, D, rfl⟩))) (FrQ_of (FrI_81 F1 F2) hs e2)
      · have hz2 : s (38 + v) = 2 := by omega
        refine r_doneIn2 c.1 c.2 W Z Z A1 e1 hz2 (fun μ2 e2 F2 => ?_)
        show kx_wx _ _ _ _ _ (_ :: _) _ _
        refine ks_istore_n_2 rfl rfl ?_
        refine ks_iload_n rfl rfl ?_
        -- at 45: if ge -> 53 else 48 st [None]
        refine ks_if_ge rfl ⟨by omega, by omega⟩ (fun c3 => ?_) (fun c3 => absurd c3 (by omega))
        refine ks_ldc rfl ?_
        refine ks_goto rfl ?_
        refine ks_ireturn rfl ?_
        -- at 61: ret  st ['-1000000']
        exact t2 c.1 c.2 _ _ (Or.inr (Or.inl ⟨hz2, rfl⟩)) (FrQ_of (FrI_81 F1 F2) hs e2)
  · rw [hs] at c
    show kx_wx _ _ _ _ _ (_ :: _) _ _
    refine ks_if_ne_0 rfl ?_
    refine ks_ldc rfl ?_
    refine ks_ireturn rfl ?_
    -- at 10: ret  st ['-1000001']
    exact t1 c
end MF
