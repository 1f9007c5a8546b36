/-! the reference takes an act back -/
section MU
variable {d L : Nat} {G : kx_G} {μ : kx_M} {Q : Option kx_V → kx_G → kx_M → Prop} {a : Nat}
theorem l_Mundo {m : Int} (m0 : 0 ≤ m) (m1 : m < 24) (hm : μ 77 17 = m) (t : ∀ μ', (∀ k : Int, 0 ≤ k → k < 46 → μ' 81 k = μ 85 (46 * m + k)) → (∀ c, c ≠ 81 → μ' c = μ c) → Q (some (kI m)) (kg L) μ') : ∀ (r j : Nat) (μ1 : kx_M), j + r = 46 → (∀ k : Int, 0 ≤ k → k < j → μ1 81 k = μ 85 (46 * m + k)) → (∀ c, c ≠ 81 → μ1 c = μ c) → kx_wx (ke d) kt_M_undo Q 22 [some (kR 77), some (kI j)] [] (kg L) μ1 := by
  intro r
  induction r with
  | zero =>
    intro j μ1 hj h1 h3
    rw [Nat.add_zero] at hj
    subst hj
    have hm1 : μ1 77 17 = m := by rw [h3 77 (by omega)]; exact hm
    refine ks_iload_n rfl rfl ?_
    refine ks_bipush rfl ?_
    -- at 25: if ge -> 54 else 28 st ['46', None]
    refine ks_icmp_ge rfl ⟨by omega, by omega⟩ ⟨by omega, by omega⟩ (fun h => absurd h (by omega)) (fun h => ?_)
    refine ks_aload_n rfl rfl ?_
    refine ks_geti rfl rfl rfl rfl (by (try simp only [kx_up_at, kx_row_at, up1_at, Nat.reduceEqDiff, Int.reduceEq, Int.reduceNeg, and_true, true_and, and_false, false_and, and_self, reduceIte, Nat.add_left_cancel_iff, Nat.add_eq_left, Nat.left_eq_add, Nat.reduceAdd, Int.add_left_inj, Int.add_right_inj, hm1]); rfl) ?_
    refine ks_ireturn rfl ?_
    -- at 58: ret  st [None]
    exact t _ h1 h3
  | succ r ih =>
    intro j μ1 hj h1 h3
    have hm1 : μ1 77 17 = m := by rw [h3 77 (by omega)]; exact hm
    refine ks_iload_n rfl rfl ?_
    refine ks_bipush rfl ?_
    -- at 25: if ge -> 54 else 28 st ['46', None]
    refine ks_icmp_ge rfl ⟨by omega, by omega⟩ ⟨by omega, by omega⟩ (fun h => ?_) (fun h => absurd h (by omega))
    refine ks_aload_n rfl rfl ?_
    refine ks_getr (b := 81) rfl rfl rfl rfl (by decide) ?_
    refine ks_iload_n rfl rfl ?_
    refine ks_aload_n rfl rfl ?_
    refine ks_getr (b := 85) rfl rfl rfl rfl (by decide) ?_
    refine ks_bipush rfl ?_
    refine ks_aload_n rfl rfl ?_
    refine ks_geti rfl rfl rfl rfl (by (try simp only [kx_up_at, kx_row_at, up1_at, Nat.reduceEqDiff, Int.reduceEq, Int.reduceNeg, and_true, true_and, and_false, false_and, and_self, reduceIte, Nat.add_left_cancel_iff, Nat.add_eq_left, Nat.left_eq_add, Nat.reduceAdd, Int.add_left_inj, Int.add_right_inj, hm1]); rfl) ?_
    refine ks_imul rfl ?_
    refine ks_iload_n rfl rfl ?_
    refine ks_iadd rfl ?_
    refine ks_iaload rfl rfl (by omega) (by omega) (by (try simp only [kx_up_at, kx_row_at, up1_at, Nat.reduceEqDiff, Int.reduceEq, Int.reduceNeg, and_true, true_and, and_false, false_and, and_self, reduceIte, Nat.add_left_cancel_iff, Nat.add_eq_left, Nat.left_eq_add, Nat.reduceAdd, Int.add_left_inj, Int.add_right_inj, hm1]); rfl) ?_
    refine ks_iastore rfl rfl (by omega) (by omega) ?_
    refine ks_iinc_1 rfl rfl ?_
    refine ks_goto rfl ?_
    -- at 22: stop  st []
    refine ih (j + 1) _ (by omega) (fun x x0 x1 => ?_) (fun c hc => ?_)
    · by_cases e : x = j
      · subst e; rw [kx_up_self, h3 85 (by omega)]
      · rw [kx_up_oth (by omega)]; exact h1 x x0 (by omega)
    · rw [kx_up_row hc]; exact h3 c hc
theorem r_Mundo {m : Int} (m0 : 0 ≤ m) (m1 : m ≤ 24) (hm : μ 77 17 = m) (t0 : m = 0 → Q (some (kI (-1000002))) (kg L) μ) (t : ¬ m = 0 → ∀ μ', (∀ k : Int, 0 ≤ k → k < 46 → μ' 81 k = μ 85 (46 * (m - 1) + k)) → μ' 77 17 = m - 1 → (∀ j, j ≠ 17 → μ' 77 j = μ 77 j) → (∀ c, c ≠ 81 → c ≠ 77 → μ' c = μ c) → Q (some (kI (m - 1))) (kg L) μ') : kx_cx (ke (d + 1)) 149 [kR 77] (kg L) μ Q := by
  refine ke_start (tb := kt_M_undo) (ls := [some (kR 77), none]) rfl rfl ?_
  refine ks_aload_n rfl rfl ?_
  refine ks_geti rfl rfl rfl rfl (by (try simp only [kx_up_at, kx_row_at, up1_at, Nat.reduceEqDiff, Int.reduceEq, Int.reduceNeg, and_true, true_and, and_false, false_and, and_self, reduceIte, Nat.add_left_cancel_iff, Nat.add_eq_left, Nat.left_eq_add, Nat.reduceAdd, Int.add_left_inj, Int.add_right_inj, hm]); rfl) ?_
  -- at 4: if ne -> 10 else 7 st [None]
  refine ks_if_ne rfl ⟨by omega, by omega⟩ (fun h => ?_) (fun h => ?_)
  · refine ks_ldc rfl ?_
    refine ks_ireturn rfl ?_
    -- at 9: ret  st ['-1000002']
    exact t0 h
  · refine ks_aload_n rfl rfl ?_
    refine ks_dupR rfl ?_
    refine ks_geti rfl rfl rfl rfl (by (try simp only [kx_up_at, kx_row_at, up1_at, Nat.reduceEqDiff, Int.reduceEq, Int.reduceNeg, and_true, true_and, and_false, false_and, and_self, reduceIte, Nat.add_left_cancel_iff, Nat.add_eq_left, Nat.left_eq_add, Nat.reduceAdd, Int.add_left_inj, Int.add_right_inj, hm]); rfl) ?_
    refine ks_iconst rfl ?_
    refine ks_isub rfl ?_
    refine ks_puti rfl rfl ?_
    refine ks_iconst rfl ?_
    refine ks_istore_n_1 rfl rfl ?_
    -- at 22: stop  st []
    refine l_Mundo (μ := kx_up μ 77 17 (m - 1)) (m := m - 1) (by omega) (by omega) (kx_up_self _ _ _ _) (fun μ2 k1 k2 => ?_) 46 0 _ (by omega) (fun x x0 x1 => absurd x1 (by omega)) (fun _ _ => rfl)
    refine t h μ2 (fun k k0 kk => ?_) ?_ (fun j hj => ?_) (fun c c0 c1 => ?_)
    · rw [k1 k k0 kk, kx_up_row (by omega)]
    · rw [k2 77 (by omega), kx_up_self]
    · rw [k2 77 (by omega), kx_up_oth hj]
    · rw [k2 c c0, kx_up_row c1]
end MU
