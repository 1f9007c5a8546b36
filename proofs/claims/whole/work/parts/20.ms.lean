/-! the reference lays a row -/
section MS
variable {d L : Nat} {G : kx_G} {μ : kx_M} {Q : Option kx_V → kx_G → kx_M → Prop} {a : Nat}
theorem l_Mrow {r l n : Int} (r0 : 0 ≤ r) (r1 : r ≤ 7) (t : ∀ μ', (∀ i : Int, 0 ≤ i → i < 40 → μ' 80 (40 * r + i) = 0) → (∀ x : Int, x < 40 * r ∨ 40 * r + 40 ≤ x → μ' 80 x = μ 80 x) → (∀ c, c ≠ 80 → μ' c = μ c) → kx_wx (ke d) kt_M_row Q 81 [some (kR 77), some (kI r), some (kI l), some (kI n), some (kI 40)] [] (kg L) μ') : ∀ (q j : Nat) (μ1 : kx_M), j + q = 40 → (∀ i : Int, 0 ≤ i → i < j → μ1 80 (40 * r + i) = 0) → (∀ x : Int, x < 40 * r ∨ 40 * r + 40 ≤ x → μ1 80 x = μ 80 x) → (∀ c, c ≠ 80 → μ1 c = μ c) → kx_wx (ke d) kt_M_row Q 55 [some (kR 77), some (kI r), some (kI l), some (kI n), some (kI j)] [] (kg L) μ1 := by
  intro q
  induction q with
  | zero =>
    intro j μ1 hj h1 h2 h3
    rw [Nat.add_zero] at hj
    subst hj
    refine ks_iload rfl rfl ?_
    refine ks_bipush rfl ?_
    -- at 59: if ge -> 81 else 62 st ['40', None]
    refine ks_icmp_ge rfl ⟨by omega, by omega⟩ ⟨by omega, by omega⟩ (fun h => absurd h (by omega)) (fun h => ?_)
    exact t _ h1 h2 h3
  | succ q ih =>
    intro j μ1 hj h1 h2 h3
    refine ks_iload rfl rfl ?_
    refine ks_bipush rfl ?_
    -- at 59: if ge -> 81 else 62 st ['40', None]
    refine ks_icmp_ge rfl ⟨by omega, by omega⟩ ⟨by omega, by omega⟩ (fun h => ?_) (fun h => absurd h (by omega))
    refine ks_aload_n rfl rfl ?_
    refine ks_getr (b := 80) rfl rfl rfl rfl (by decide) ?_
    refine ks_bipush rfl ?_
    refine ks_iload_n rfl rfl ?_
    refine ks_imul rfl ?_
    refine ks_iload rfl rfl ?_
    refine ks_iadd rfl ?_
    refine ks_iconst rfl ?_
    refine ks_iastore rfl rfl (by omega) (by omega) ?_
    refine ks_iinc_4 rfl rfl ?_
    refine ks_goto rfl ?_
    -- at 55: stop  st []
    refine ih (j + 1) _ (by omega) (fun x x0 x1 => ?_) (fun x hx => ?_) (fun c hc => ?_)
    · by_cases e : x = j
      · subst e; rw [kx_up_self]
      · rw [kx_up_oth (by omega)]; exact h1 x x0 (by omega)
    · rw [kx_up_oth (by omega)]; exact h2 x hx
    · rw [kx_up_row hc]; exact h3 c hc
theorem r_Mrow {r l n : Int} (hr : kx_in r) (hl : kx_in l) (hn : kx_in n) (t0 : ¬ ((0 ≤ r ∧ r ≤ 7) ∧ (0 ≤ l ∧ l ≤ 2) ∧ n ≤ 40) → Q (some (kI (-1000001))) (kg L) μ) (t1 : (0 ≤ r ∧ r ≤ 7) → (0 ≤ l ∧ l ≤ 2) → n < 0 → Q (some (kI (-1000014))) (kg L) (kx_up μ 77 3 4)) (t2 : (0 ≤ r ∧ r ≤ 7) → (0 ≤ l ∧ l ≤ 2) → 0 ≤ n → n ≤ 40 → ∀ μ', (∀ i : Int, 0 ≤ i → i < 40 → μ' 80 (40 * r + i) = 0) → (∀ x : Int, x < 40 * r ∨ 40 * r + 40 ≤ x → μ' 80 x = μ 80 x) → μ' 78 = up1 (μ 78) r l → μ' 79 = up1 (μ 79) r n → μ' 77 = up1 (μ 77) 3 0 → (∀ c, c < 77 ∨ 80 < c → μ' c = μ c) → Q (some (kI n)) (kg L) μ') : kx_cx (ke (d + 3)) 121 [kR 77, kI r, kI l, kI n] (kg L) μ Q := by
  refine ke_start (tb := kt_M_row) (ls := [some (kR 77), some (kI r), some (kI l), some (kI n), none]) rfl rfl ?_
  obtain ⟨_, _⟩ := hl
  have bad : ¬ ((0 ≤ r ∧ r ≤ 7) ∧ (0 ≤ l ∧ l ≤ 2) ∧ n ≤ 40) → kx_wx (ke (d + 2)) kt_M_row Q 25 [some (kR 77), some (kI r), some (kI l), some (kI n), none] [] (kg L) μ := by
    intro h
    refine ks_ldc rfl ?_
    refine ks_ireturn rfl ?_
    -- at 27: ret  st ['-1000001']
    exact t0 h
  refine ks_iload_n rfl rfl ?_
  refine ks_calls_1 rfl (Nat.le_of_ble_eq_true rfl) ?_
  -- at 1: call M_isRow st []
  refine r_MisRow hr (fun h => ?_) (fun h => ?_)
  · show kx_wx _ _ _ _ _ (_ :: _) _ _
    refine ks_if_eq_1 rfl ?_
    refine ks_iload_n rfl rfl ?_
    refine ks_i2l rfl ⟨by omega, by omega⟩ ?_
    refine ks_lconst rfl ?_
    refine ks_ldc2_w rfl ?_
    refine ks_calls_3 rfl (Nat.le_of_ble_eq_true rfl) ?_
    -- at 13: call M_in st []
    refine r_in ⟨by omega, by omega⟩ ⟨by omega, by omega⟩ ⟨by omega, by omega⟩ (fun h2 => ?_) (fun h2 => ?_)
    · show kx_wx _ _ _ _ _ (_ :: _) _ _
      refine ks_if_eq_1 rfl ?_
      refine ks_iload_n rfl rfl ?_
      refine ks_bipush rfl ?_
      -- at 22: if le -> 28 else 25 st ['40', None]
      refine ks_icmp_le rfl hn ⟨by omega, by omega⟩ (fun h3 => ?_) (fun h3 => ?_)
      · exact bad (by omega)
      · refine ks_iload_n rfl rfl ?_
        -- at 29: if ge -> 38 else 32 st [None]
        refine ks_if_ge rfl hn (fun h4 => ?_) (fun h4 => ?_)
        · refine ks_aload_n rfl rfl ?_
          refine ks_iconst rfl ?_
          refine ks_callv_2 rfl rfl rfl (Nat.le_of_ble_eq_true rfl) ?_
          -- at 34: call M_find st []
          refine r_find ?_
          show kx_wx _ _ _ _ _ (_ :: _) _ _
          refine ks_ireturn rfl ?_
          -- at 37: ret  st [None]
          exact t1 h h2 h4
        · refine ks_aload_n rfl rfl ?_
          refine ks_getr (b := 78) rfl rfl rfl rfl (by decide) ?_
          refine ks_iload_n rfl rfl ?_
          refine ks_iload_n rfl rfl ?_
          refine ks_iastore rfl rfl (by omega) (by omega) ?_
          refine ks_aload_n rfl rfl ?_
          refine ks_getr (b := 79) rfl rfl rfl rfl (by decide) ?_
          refine ks_iload_n rfl rfl ?_
          refine ks_iload_n rfl rfl ?_
          refine ks_iastore rfl rfl (by omega) (by omega) ?_
          refine ks_iconst rfl ?_
          refine ks_istore_4 rfl rfl ?_
          -- at 55: stop  st []
          refine l_Mrow (μ := kx_up (kx_up μ 78 r l) 79 r n) h.1 h.2 (fun μ1 k1 k2 k3 => ?_) 40 0 _ (by omega) (fun x x0 x1 => absurd x1 (by omega)) (fun _ _ => rfl) (fun _ _ => rfl)
          refine ks_aload_n rfl rfl ?_
          refine ks_iload_n rfl rfl ?_
          refine ks_callv_2 rfl rfl rfl (Nat.le_of_ble_eq_true rfl) ?_
          -- at 83: call M_well st []
          refine r_well ?_
          show kx_wx _ _ _ _ _ (_ :: _) _ _
          refine ks_ireturn rfl ?_
          -- at 86: ret  st [None]
          refine t2 h h2 (by omega) (by omega) _ (fun i i0 i1 => ?_) (fun x hx => ?_) ?_ ?_ ?_ (fun c hc => ?_)
          · rw [kx_up_row (by omega)]; exact k1 i i0 i1
          · rw [kx_up_row (by omega), k2 x hx, kx_up_row (by omega), kx_up_row (by omega)]
          · rw [kx_up_row (by omega), k3 78 (by omega), kx_up_row (by omega), kx_up_up1, kx_row_self]
          · rw [kx_up_row (by omega), k3 79 (by omega), kx_up_up1, kx_row_self, kx_up_row (by omega)]
          · rw [kx_up_up1, kx_row_self, k3 77 (by omega), kx_up_row (by omega), kx_up_row (by omega)]
          · rw [kx_up_row (by omega), k3 c (by omega), kx_up_row (by omega), kx_up_row (by omega)]
    · show kx_wx _ _ _ _ _ (_ :: _) _ _
      refine ks_if_eq_0 rfl ?_
      exact bad (fun q => h2 q.2.1)
  · show kx_wx _ _ _ _ _ (_ :: _) _ _
    refine ks_if_eq_0 rfl ?_
    exact bad (fun q => h q.1)
end MS
