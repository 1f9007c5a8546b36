/-! the reference notes its town -/
section MN
variable {d L : Nat} {G : kx_G} {μ : kx_M} {Q : Option kx_V → kx_G → kx_M → Prop} {a : Nat}
theorem l_note1 (t : ∀ μ', (∀ x : Int, 0 ≤ x → x < 1058 → μ' 85 x = μ 85 (x + 46)) → (∀ c, c ≠ 85 → μ' c = μ c) → kx_wx (ke d) kt_M_note Q 39 [some (kR 77), some (kI 1058)] [] (kg L) μ') : ∀ (r j : Nat) (μ1 : kx_M), j + r = 1058 → (∀ x : Int, 0 ≤ x → x < j → μ1 85 x = μ 85 (x + 46)) → (∀ x : Int, j ≤ x → μ1 85 x = μ 85 x) → (∀ c, c ≠ 85 → μ1 c = μ c) → kx_wx (ke d) kt_M_note Q 11 [some (kR 77), some (kI j)] [] (kg L) μ1 := by
  intro r
  induction r with
  | zero =>
    intro j μ1 hj h1 h2 h3
    rw [Nat.add_zero] at hj
    subst hj
    refine ks_iload_n rfl rfl ?_
    refine ks_sipush rfl ?_
    -- at 15: if ge -> 39 else 18 st ['1058', None]
    refine ks_icmp_ge rfl ⟨by omega, by omega⟩ ⟨by omega, by omega⟩ (fun h => absurd h (by omega)) (fun h => ?_)
    exact t μ1 h1 h3
  | succ r ih =>
    intro j μ1 hj h1 h2 h3
    refine ks_iload_n rfl rfl ?_
    refine ks_sipush rfl ?_
    -- at 15: if ge -> 39 else 18 st ['1058', None]
    refine ks_icmp_ge rfl ⟨by omega, by omega⟩ ⟨by omega, by omega⟩ (fun h => ?_) (fun h => absurd h (by omega))
    refine ks_aload_n rfl rfl ?_
    refine ks_getr (b := 85) rfl rfl rfl rfl (by decide) ?_
    refine ks_iload_n rfl rfl ?_
    refine ks_aload_n rfl rfl ?_
    refine ks_getr (b := 85) rfl rfl rfl rfl (by decide) ?_
    refine ks_iload_n rfl rfl ?_
    refine ks_bipush rfl ?_
    refine ks_iadd rfl ?_
    refine ks_iaload rfl rfl (by omega) (by omega) (by (try simp only [kx_up_at, kx_row_at, up1_at, Nat.reduceEqDiff, Int.reduceEq, Int.reduceNeg, and_true, true_and, and_false, false_and, and_self, reduceIte, Nat.add_left_cancel_iff, Nat.add_eq_left, Nat.left_eq_add, Nat.reduceAdd, Int.add_left_inj, Int.add_right_inj]); rfl) ?_
    refine ks_iastore rfl rfl (by omega) (by omega) ?_
    refine ks_iinc_1 rfl rfl ?_
    refine ks_goto rfl ?_
    -- at 11: stop  st []
    refine ih (j + 1) _ (by omega) (fun x x0 x1 => ?_) (fun x x0 => ?_) (fun c hc => ?_)
    · by_cases e : x = j
      · subst e; rw [kx_up_self, h2 _ (by omega)]
      · rw [kx_up_oth e]; exact h1 x x0 (by omega)
    · rw [kx_up_oth (by omega)]; exact h2 x (by omega)
    · rw [kx_up_row hc]; exact h3 c hc
theorem l_note2 {m : Int} (m0 : 0 ≤ m) (m1 : m < 24) (hm : μ 77 17 = m) (t : ∀ μ', (∀ k : Int, 0 ≤ k → k < 46 → μ' 85 (46 * m + k) = μ 81 k) → (∀ x : Int, x < 46 * m → μ' 85 x = μ 85 x) → μ' 77 17 = m + 1 → (∀ j, j ≠ 17 → μ' 77 j = μ 77 j) → (∀ c, c ≠ 85 → c ≠ 77 → μ' c = μ c) → Q none (kg L) μ') : ∀ (r j : Nat) (μ1 : kx_M), j + r = 46 → (∀ k : Int, 0 ≤ k → k < j → μ1 85 (46 * m + k) = μ 81 k) → (∀ x : Int, x < 46 * m → μ1 85 x = μ 85 x) → (∀ c, c ≠ 85 → μ1 c = μ c) → kx_wx (ke d) kt_M_note Q 51 [some (kR 77), some (kI j)] [] (kg L) μ1 := by
  intro r
  induction r with
  | zero =>
    intro j μ1 hj h1 h2 h3
    rw [Nat.add_zero] at hj
    subst hj
    have hm1 : μ1 77 17 = m := by rw [h3 77 (by omega)]; exact hm
    refine ks_iload_n rfl rfl ?_
    refine ks_bipush rfl ?_
    -- at 54: if ge -> 83 else 57 st ['46', None]
    refine ks_icmp_ge rfl ⟨by omega, by omega⟩ ⟨by omega, by omega⟩ (fun h => absurd h (by omega)) (fun h => ?_)
    refine ks_aload_n rfl rfl ?_
    refine ks_dupR rfl ?_
    refine ks_geti rfl rfl rfl rfl (by (try simp only [kx_up_at, kx_row_at, up1_at, Nat.reduceEqDiff, Int.reduceEq, Int.reduceNeg, and_true, true_and, and_false, false_and, and_self, reduceIte, Nat.add_left_cancel_iff, Nat.add_eq_left, Nat.left_eq_add, Nat.reduceAdd, Int.add_left_inj, Int.add_right_inj, hm1]); rfl) ?_
    refine ks_iconst rfl ?_
    refine ks_iadd rfl ?_
    refine ks_puti rfl rfl ?_
    refine ks_return rfl ?_
    -- at 93: ret  st []
    refine t _ (fun k k0 k1 => ?_) (fun x hx => ?_) ?_ (fun j hj => ?_) (fun c c0 c1 => ?_)
    · rw [kx_up_row (by omega)]; exact h1 k k0 k1
    · rw [kx_up_row (by omega)]; exact h2 x hx
    · rw [kx_up_self]
    · rw [kx_up_oth hj, h3 77 (by omega)]
    · rw [kx_up_row c1]; exact h3 c c0
  | succ r ih =>
    intro j μ1 hj h1 h2 h3
    have hm1 : μ1 77 17 = m := by rw [h3 77 (by omega)]; exact hm
    refine ks_iload_n rfl rfl ?_
    refine ks_bipush rfl ?_
    -- at 54: if ge -> 83 else 57 st ['46', None]
    refine ks_icmp_ge rfl ⟨by omega, by omega⟩ ⟨by omega, by omega⟩ (fun h => ?_) (fun h => absurd h (by omega))
    refine ks_aload_n rfl rfl ?_
    refine ks_getr (b := 85) rfl rfl rfl rfl (by decide) ?_
    refine ks_bipush rfl ?_
    refine ks_aload_n rfl rfl ?_
    refine ks_geti rfl rfl rfl rfl (by (try simp only [kx_up_at, kx_row_at, up1_at, Nat.reduceEqDiff, Int.reduceEq, Int.reduceNeg, and_true, true_and, and_false, false_and, and_self, reduceIte, Nat.add_left_cancel_iff, Nat.add_eq_left, Nat.left_eq_add, Nat.reduceAdd, Int.add_left_inj, Int.add_right_inj, hm1]); rfl) ?_
    refine ks_imul rfl ?_
    refine ks_iload_n rfl rfl ?_
    refine ks_iadd rfl ?_
    refine ks_aload_n rfl rfl ?_
    refine ks_getr (b := 81) rfl rfl rfl rfl (by decide) ?_
    refine ks_iload_n rfl rfl ?_
    refine ks_iaload rfl rfl (by omega) (by omega) (by (try simp only [kx_up_at, kx_row_at, up1_at, Nat.reduceEqDiff, Int.reduceEq, Int.reduceNeg, and_true, true_and, and_false, false_and, and_self, reduceIte, Nat.add_left_cancel_iff, Nat.add_eq_left, Nat.left_eq_add, Nat.reduceAdd, Int.add_left_inj, Int.add_right_inj, hm1]); rfl) ?_
    refine ks_iastore rfl rfl (by omega) (by omega) ?_
    refine ks_iinc_1 rfl rfl ?_
    refine ks_goto rfl ?_
    -- at 51: stop  st []
    refine ih (j + 1) _ (by omega) (fun x x0 x1 => ?_) (fun x x0 => ?_) (fun c hc => ?_)
    · by_cases e : x = j
      · subst e; rw [kx_up_self, h3 81 (by omega)]
      · rw [kx_up_oth (by omega)]; exact h1 x x0 (by omega)
    · rw [kx_up_oth (by omega)]; exact h2 x x0
    · rw [kx_up_row hc]; exact h3 c hc
/-- after a note: the newest is the town, those before are kept, the oldest of 24 is lost -/
theorem r_note {m : Int} (m0 : 0 ≤ m) (m1 : m ≤ 24) (hm : μ 77 17 = m) (t : ∀ μ' n, n = (if m = 24 then 23 else m) → (∀ k : Int, 0 ≤ k → k < 46 → μ' 85 (46 * n + k) = μ 81 k) → (∀ x : Int, 0 ≤ x → x < 46 * n → μ' 85 x = μ 85 (if m = 24 then x + 46 else x)) → μ' 77 17 = n + 1 → (∀ j, j ≠ 17 → μ' 77 j = μ 77 j) → (∀ c, c ≠ 85 → c ≠ 77 → μ' c = μ c) → Q none (kg L) μ') : kx_cx (ke (d + 1)) 142 [kR 77] (kg L) μ Q := by
  refine ke_start (tb := kt_M_note) (ls := [some (kR 77), none]) rfl rfl ?_
  refine ks_aload_n rfl rfl ?_
  refine ks_geti rfl rfl rfl rfl (by (try simp only [kx_up_at, kx_row_at, up1_at, Nat.reduceEqDiff, Int.reduceEq, Int.reduceNeg, and_true, true_and, and_false, false_and, and_self, reduceIte, Nat.add_left_cancel_iff, Nat.add_eq_left, Nat.left_eq_add, Nat.reduceAdd, Int.add_left_inj, Int.add_right_inj, hm]); rfl) ?_
  refine ks_bipush rfl ?_
  -- at 6: if ne -> 49 else 9 st ['24', None]
  refine ks_icmp_ne rfl ⟨by omega, by omega⟩ ⟨by omega, by omega⟩ (fun h => ?_) (fun h => ?_)
  · subst h
    refine ks_iconst rfl ?_
    refine ks_istore_n_1 rfl rfl ?_
    -- at 11: stop  st []
    refine l_note1 (μ := μ) (fun μ1 h1 h2 => ?_) 1058 0 μ (by omega) (fun x x0 x1 => absurd x1 (by omega)) (fun _ _ => rfl) (fun _ _ => rfl)
    have hm1 : μ1 77 17 = 24 := by rw [h2 77 (by omega)]; exact hm
    refine ks_aload_n rfl rfl ?_
    refine ks_dupR rfl ?_
    refine ks_geti rfl rfl rfl rfl (by (try simp only [kx_up_at, kx_row_at, up1_at, Nat.reduceEqDiff, Int.reduceEq, Int.reduceNeg, and_true, true_and, and_false, false_and, and_self, reduceIte, Nat.add_left_cancel_iff, Nat.add_eq_left, Nat.left_eq_add, Nat.reduceAdd, Int.add_left_inj, Int.add_right_inj, hm1]); rfl) ?_
    refine ks_iconst rfl ?_
    refine ks_isub rfl ?_
    refine ks_puti rfl rfl ?_
    refine ks_iconst rfl ?_
    refine ks_istore_n_1 rfl rfl ?_
    -- at 51: stop  st []
    refine l_note2 (μ := kx_up μ1 77 17 23) (m := 23) (by omega) (by omega) (kx_up_self _ _ _ _) (fun μ2 k1 k2 k3 k4 k5 => ?_) 46 0 _ (by omega) (fun x x0 x1 => absurd x1 (by omega)) (fun _ _ => rfl) (fun _ _ => rfl)
    refine t μ2 23 (by rw [if_pos rfl]) (fun k k0 kk => ?_) (fun x x0 x1 => ?_) k3 (fun j hj => ?_) (fun c c0 c1 => ?_)
    · rw [k1 k k0 kk, kx_up_row (by omega), h2 81 (by omega)]
    · rw [if_pos rfl, k2 x x1, kx_up_row (by omega), h1 x x0 (by omega)]
    · rw [k4 j hj, kx_up_oth hj, h2 77 (by omega)]
    · rw [k5 c c0 c1, kx_up_row c1, h2 c c0]
  · refine ks_iconst rfl ?_
    refine ks_istore_n_1 rfl rfl ?_
    -- at 51: stop  st []
    refine l_note2 (μ := μ) (m := m) m0 (by omega) hm (fun μ2 k1 k2 k3 k4 k5 => ?_) 46 0 _ (by omega) (fun x x0 x1 => absurd x1 (by omega)) (fun _ _ => rfl) (fun _ _ => rfl)
    refine t μ2 m (by rw [if_neg h]) k1 (fun x x0 x1 => ?_) k3 k4 k5
    rw [if_neg h]; exact k2 x x1
end MN
