/-! copy of the reference, bytes that come, rows that tell -/
section KC
variable {E : Nat → List kx_V → kx_G → kx_M → Option kx_V → kx_G → kx_M → Prop} {tb : Nat → kx_E} {Q : Option kx_V → kx_G → kx_M → Prop} {pc nx r1 : Nat} {tg : List Nat} {ls : kx_L} {st : List kx_V} {G : kx_G} {μ : kx_M}
theorem ks_callv_6 {i a c : Nat} {v1 v2 v3 v4 v5 : kx_V} (ht : tb pc = (.invokevirtual i, nx, r1, 6, 0, [c])) (h8 : (c == 8) = false) (hs : G.1 a = (1, c)) (hc : kx_cats st ≤ 8) (h : kx_cx E r1 [kR a, v1, v2, v3, v4, v5] G μ (fun v G' μ' => kx_wx E tb Q nx ls (v.toList ++ st) G' μ')) : kx_wx E tb Q pc ls (v5 :: v4 :: v3 :: v2 :: v1 :: kR a :: st) G μ := by
  refine kx_wx_step ?_
  unfold kx_st
  rw [ht]
  simp only [kx_do]
  simp only [List.take_succ_cons, List.take_zero, List.drop_succ_cons, List.drop_zero, List.reverse_cons, List.reverse_nil, List.nil_append, List.cons_append]
  rw [if_pos ⟨by show (if c = 8 then a = 105 else G.1 a = (1, c)); rw [if_neg (by simpa using h8)]; exact hs, by simp, hc⟩]; exact h
end KC
section XJ
variable {d L : Nat} {G : kx_G} {μ : kx_M} {Q : Option kx_V → kx_G → kx_M → Prop} {s : Int → Int} {h b e v w : Int}
theorem l_Mcopy1 {a i b j : Int} {n : Nat} (a0 : 0 ≤ a) (a1 : a ≤ 7) (i0 : 0 ≤ i) (i1 : i + n ≤ 40) (n0 : n ≤ 40) (t : ∀ μ' x6, (∀ k : Int, 0 ≤ k → k < n → μ' 82 k = μ 80 (40 * a + i + k)) → (∀ c, c ≠ 82 → μ' c = μ c) → kx_wx (ke d) kt_M_copy Q 151 [some (kR 77), some (kI a), some (kI i), some (kI b), some (kI j), some (kI n), x6] [] (kg L) μ') : ∀ (r k : Nat) (μ1 : kx_M), k + r = n → (∀ x : Int, 0 ≤ x → x < k → μ1 82 x = μ 80 (40 * a + i + x)) → (∀ c, c ≠ 82 → μ1 c = μ c) → kx_wx (ke d) kt_M_copy Q 117 [some (kR 77), some (kI a), some (kI i), some (kI b), some (kI j), some (kI n), some (kI k)] [] (kg L) μ1 := by
  intro r
  induction r with
  | zero =>
    intro k μ1 hk h1 h2
    rw [Nat.add_zero] at hk
    subst hk
    refine ks_iload rfl rfl ?_
    refine ks_iload rfl rfl ?_
    -- at 121: if ge -> 151 else 124 st [None, None]
    refine ks_icmp_ge rfl ⟨by omega, by omega⟩ ⟨by omega, by omega⟩ (fun c => absurd c (by omega)) (fun c => ?_)
    exact t _ _ h1 h2
  | succ r ih =>
    intro k μ1 hk h1 h2
    refine ks_iload rfl rfl ?_
    refine ks_iload rfl rfl ?_
    -- at 121: if ge -> 151 else 124 st [None, None]
    refine ks_icmp_ge rfl ⟨by omega, by omega⟩ ⟨by omega, by omega⟩ (fun c => ?_) (fun c => absurd c (by omega))
    refine ks_aload_n rfl rfl ?_
    refine ks_getr (b := 82) rfl rfl rfl rfl (by decide) ?_
    refine ks_iload rfl rfl ?_
    refine ks_aload_n rfl rfl ?_
    refine ks_getr (b := 80) rfl rfl rfl rfl (by decide) ?_
    refine ks_bipush rfl ?_
    refine ks_iload_n rfl rfl ?_
    refine ks_imul rfl ?_
    refine ks_iload_n rfl rfl ?_
    refine ks_iadd rfl ?_
    refine ks_iload rfl rfl ?_
    refine ks_iadd rfl ?_
    refine ks_iaload rfl rfl (by omega) (by omega) (by (try simp only [kx_up_at, kx_row_at, up1_at, Nat.reduceEqDiff, Int.reduceEq, Int.reduceNeg, and_true, true_and, and_false, false_and, and_self, reduceIte, Nat.add_left_cancel_iff, Nat.add_eq_left, Nat.left_eq_add, Nat.reduceAdd, Int.add_left_inj, Int.add_right_inj]); rfl) ?_
    refine ks_iastore rfl rfl (by omega) (by omega) ?_
    refine ks_iinc_6 rfl rfl ?_
    refine ks_goto rfl ?_
    -- at 117: stop  st []
    refine ih (k + 1) _ (by omega) (fun x x0 x1 => ?_) (fun c hc => by rw [kx_up_row hc]; exact h2 c hc)
    by_cases e : x = k
    · subst e; rw [kx_up_self, h2 80 (by omega)]
    · rw [kx_up_oth (by omega)]; exact h1 x x0 (by omega)
theorem l_Mcopy2 {a i b j : Int} {n : Nat} (b0 : 0 ≤ b) (b1 : b ≤ 7) (j0 : 0 ≤ j) (j1 : j + n ≤ 40) (n0 : n ≤ 40) (t : ∀ μ', (∀ k : Int, 0 ≤ k → k < n → μ' 80 (40 * b + j + k) = μ 82 k) → (∀ x : Int, x < 40 * b + j ∨ 40 * b + j + n ≤ x → μ' 80 x = μ 80 x) → (∀ c, c ≠ 80 → μ' c = μ c) → Q (some (kI n)) (kg L) (kx_up μ' 77 3 0)) : ∀ (r k : Nat) (μ1 : kx_M), k + r = n → (∀ x : Int, 0 ≤ x → x < k → μ1 80 (40 * b + j + x) = μ 82 x) → (∀ x : Int, x < 40 * b + j ∨ 40 * b + j + n ≤ x → μ1 80 x = μ 80 x) → (∀ c, c ≠ 80 → μ1 c = μ c) → kx_wx (ke (d + 1)) kt_M_copy Q 154 [some (kR 77), some (kI a), some (kI i), some (kI b), some (kI j), some (kI n), some (kI k)] [] (kg L) μ1 := by
  intro r
  induction r with
  | zero =>
    intro k μ1 hk h1 h2 h3
    rw [Nat.add_zero] at hk
    subst hk
    refine ks_iload rfl rfl ?_
    refine ks_iload rfl rfl ?_
    -- at 158: if ge -> 189 else 161 st [None, None]
    refine ks_icmp_ge rfl ⟨by omega, by omega⟩ ⟨by omega, by omega⟩ (fun c => absurd c (by omega)) (fun c => ?_)
    refine ks_aload_n rfl rfl ?_
    refine ks_iload rfl rfl ?_
    refine ks_callv_2 rfl rfl rfl (Nat.le_of_ble_eq_true rfl) ?_
    -- at 192: call M_well st []
    refine r_well ?_
    show kx_wx _ _ _ _ _ (_ :: _) _ _
    refine ks_ireturn rfl ?_
    -- at 195: ret  st [None]
    exact t _ h1 h2 h3
  | succ r ih =>
    intro k μ1 hk h1 h2 h3
    refine ks_iload rfl rfl ?_
    refine ks_iload rfl rfl ?_
    -- at 158: if ge -> 189 else 161 st [None, None]
    refine ks_icmp_ge rfl ⟨by omega, by omega⟩ ⟨by omega, by omega⟩ (fun c => ?_) (fun c => absurd c (by omega))
    refine ks_aload_n rfl rfl ?_
    refine ks_getr (b := 80) rfl rfl rfl rfl (by decide) ?_
    refine ks_bipush rfl ?_
    refine ks_iload_n rfl rfl ?_
    refine ks_imul rfl ?_
    refine ks_iload rfl rfl ?_
    refine ks_iadd rfl ?_
    refine ks_iload rfl rfl ?_
    refine ks_iadd rfl ?_
    refine ks_aload_n rfl rfl ?_
    refine ks_getr (b := 82) rfl rfl rfl rfl (by decide) ?_
    refine ks_iload rfl rfl ?_
    refine ks_iaload rfl rfl (by omega) (by omega) (by (try simp only [kx_up_at, kx_row_at, up1_at, Nat.reduceEqDiff, Int.reduceEq, Int.reduceNeg, and_true, true_and, and_false, false_and, and_self, reduceIte, Nat.add_left_cancel_iff, Nat.add_eq_left, Nat.left_eq_add, Nat.reduceAdd, Int.add_left_inj, Int.add_right_inj]); rfl) ?_
    refine ks_iastore rfl rfl (by omega) (by omega) ?_
    refine ks_iinc_6 rfl rfl ?_
    refine ks_goto rfl ?_
    -- at 154: stop  st []
    refine ih (k + 1) _ (by omega) (fun x x0 x1 => ?_) (fun x hx => by rw [kx_up_oth (by omega)]; exact h2 x hx) (fun c hc => by rw [kx_up_row hc]; exact h3 c hc)
    by_cases e : x = k
    · subst e; rw [kx_up_self, h3 82 (by omega)]
    · rw [kx_up_oth (by omega)]; exact h1 x x0 (by omega)
theorem r_Mcopy {a i b j n : Int} (ha : kx_in a) (hi : kx_in i) (hbb : kx_in b) (hj : kx_in j) (hn : kx_in n) (hb : ∀ i, 0 ≤ i → i < 8 → -1 ≤ μ 79 i ∧ μ 79 i ≤ 40) (hl : ∀ i, 0 ≤ i → i < 8 → 0 ≤ μ 78 i ∧ μ 78 i ≤ 2) (t0 : ¬ ((0 ≤ a ∧ a ≤ 7) ∧ (0 ≤ b ∧ b ≤ 7)) → Q (some (kI (-1000001))) (kg L) μ) (t1 : (0 ≤ a ∧ a ≤ 7) → (0 ≤ b ∧ b ≤ 7) → (μ 79 a = -1 ∨ μ 79 b = -1) → Q (some (kI (-1000011))) (kg L) (kx_up μ 77 3 1)) (t5 : (0 ≤ a ∧ a ≤ 7) → (0 ≤ b ∧ b ≤ 7) → 0 ≤ μ 79 a → 0 ≤ μ 79 b → ¬ μ 78 a = μ 78 b → Q (some (kI (-1000015))) (kg L) (kx_up μ 77 3 5)) (t2 : (0 ≤ a ∧ a ≤ 7) → (0 ≤ b ∧ b ≤ 7) → 0 ≤ μ 79 a → 0 ≤ μ 79 b → μ 78 a = μ 78 b → ¬ (0 ≤ n ∧ (0 ≤ i ∧ i + n ≤ μ 79 a) ∧ (0 ≤ j ∧ j + n ≤ μ 79 b)) → Q (some (kI (-1000012))) (kg L) (kx_up μ 77 3 2)) (t3 : (0 ≤ a ∧ a ≤ 7) → (0 ≤ b ∧ b ≤ 7) → μ 78 a = μ 78 b → 0 ≤ n → 0 ≤ i → i + n ≤ μ 79 a → 0 ≤ j → j + n ≤ μ 79 b → ∀ μ', (∀ k : Int, 0 ≤ k → k < n → μ' 80 (40 * b + j + k) = μ 80 (40 * a + i + k)) → (∀ x : Int, x < 40 * b + j ∨ 40 * b + j + n ≤ x → μ' 80 x = μ 80 x) → (∀ c, c ≠ 80 → c ≠ 82 → μ' c = μ c) → Q (some (kI n)) (kg L) (kx_up μ' 77 3 0)) : kx_cx (ke (d + 3)) 124 [kR 77, kI a, kI i, kI b, kI j, kI n] (kg L) μ Q := by
  refine ke_start (tb := kt_M_copy) (ls := [some (kR 77), some (kI a), some (kI i), some (kI b), some (kI j), some (kI n), none]) rfl rfl ?_
  obtain ⟨_, _⟩ := hi
  obtain ⟨_, _⟩ := hj
  have hn0 := hn
  obtain ⟨_, _⟩ := hn
  refine ks_iload_n rfl rfl ?_
  refine ks_calls_1 rfl (Nat.le_of_ble_eq_true rfl) ?_
  -- at 1: call M_isRow st []
  refine r_MisRow ha (fun c => ?_) (fun c => ?_)
  · show kx_wx _ _ _ _ _ (_ :: _) _ _
    refine ks_if_eq_1 rfl ?_
    refine ks_iload_n rfl rfl ?_
    refine ks_calls_1 rfl (Nat.le_of_ble_eq_true rfl) ?_
    -- at 8: call M_isRow st []
    refine r_MisRow hbb (fun c2 => ?_) (fun c2 => ?_)
    · have p1 := hb a c.1 (by omega)
      have p2 := hb b c2.1 (by omega)
      have p3 := hl a c.1 (by omega)
      have p4 := hl b c2.1 (by omega)
      show kx_wx _ _ _ _ _ (_ :: _) _ _
      refine ks_if_ne_1 rfl ?_
      refine ks_aload_n rfl rfl ?_
      refine ks_getr (b := 79) rfl rfl rfl rfl (by decide) ?_
      refine ks_iload_n rfl rfl ?_
      refine ks_iaload rfl rfl (by omega) (by omega) (by (try simp only [kx_up_at, kx_row_at, up1_at, Nat.reduceEqDiff, Int.reduceEq, Int.reduceNeg, and_true, true_and, and_false, false_and, and_self, reduceIte, Nat.add_left_cancel_iff, Nat.add_eq_left, Nat.left_eq_add, Nat.reduceAdd, Int.add_left_inj, Int.add_right_inj]); rfl) ?_
      -- at 23: if lt -> 35 else 26 st [None]
      refine ks_if_lt rfl ⟨by omega, by omega⟩ (fun d1 => ?_) (fun d1 => ?_)
      · refine ks_aload_n rfl rfl ?_
        refine ks_iconst rfl ?_
        refine ks_callv_2 rfl rfl rfl (Nat.le_of_ble_eq_true rfl) ?_
        -- at 37: call M_find st []
        refine r_find ?_
        show kx_wx _ _ _ _ _ (_ :: _) _ _
        refine ks_ireturn rfl ?_
        -- at 40: ret  st [None]
        exact t1 c c2 (by omega)
      · refine ks_aload_n rfl rfl ?_
        refine ks_getr (b := 79) rfl rfl rfl rfl (by decide) ?_
        refine ks_iload_n rfl rfl ?_
        refine ks_iaload rfl rfl (by omega) (by omega) (by (try simp only [kx_up_at, kx_row_at, up1_at, Nat.reduceEqDiff, Int.reduceEq, Int.reduceNeg, and_true, true_and, and_false, false_and, and_self, reduceIte, Nat.add_left_cancel_iff, Nat.add_eq_left, Nat.left_eq_add, Nat.reduceAdd, Int.add_left_inj, Int.add_right_inj]); rfl) ?_
        -- at 32: if ge -> 41 else 35 st [None]
        refine ks_if_ge rfl ⟨by omega, by omega⟩ (fun d2 => ?_) (fun d2 => ?_)
        · refine ks_aload_n rfl rfl ?_
          refine ks_iconst rfl ?_
          refine ks_callv_2 rfl rfl rfl (Nat.le_of_ble_eq_true rfl) ?_
          -- at 37: call M_find st []
          refine r_find ?_
          show kx_wx _ _ _ _ _ (_ :: _) _ _
          refine ks_ireturn rfl ?_
          -- at 40: ret  st [None]
          exact t1 c c2 (by omega)
        · refine ks_aload_n rfl rfl ?_
          refine ks_getr (b := 78) rfl rfl rfl rfl (by decide) ?_
          refine ks_iload_n rfl rfl ?_
          refine ks_iaload rfl rfl (by omega) (by omega) (by (try simp only [kx_up_at, kx_row_at, up1_at, Nat.reduceEqDiff, Int.reduceEq, Int.reduceNeg, and_true, true_and, and_false, false_and, and_self, reduceIte, Nat.add_left_cancel_iff, Nat.add_eq_left, Nat.left_eq_add, Nat.reduceAdd, Int.add_left_inj, Int.add_right_inj]); rfl) ?_
          refine ks_aload_n rfl rfl ?_
          refine ks_getr (b := 78) rfl rfl rfl rfl (by decide) ?_
          refine ks_iload_n rfl rfl ?_
          refine ks_iaload rfl rfl (by omega) (by omega) (by (try simp only [kx_up_at, kx_row_at, up1_at, Nat.reduceEqDiff, Int.reduceEq, Int.reduceNeg, and_true, true_and, and_false, false_and, and_self, reduceIte, Nat.add_left_cancel_iff, Nat.add_eq_left, Nat.left_eq_add, Nat.reduceAdd, Int.add_left_inj, Int.add_right_inj]); rfl) ?_
          -- at 53: if eq -> 62 else 56 st [None, None]
          refine ks_icmp_eq rfl ⟨by omega, by omega⟩ ⟨by omega, by omega⟩ (fun d3 => ?_) (fun d3 => ?_)
          · refine ks_iload rfl rfl ?_
            -- at 64: if lt -> 108 else 67 st [None]
            refine ks_if_lt rfl ⟨by omega, by omega⟩ (fun d4 => ?_) (fun d4 => ?_)
            · refine ks_aload_n rfl rfl ?_
              refine ks_iconst rfl ?_
              refine ks_callv_2 rfl rfl rfl (Nat.le_of_ble_eq_true rfl) ?_
              -- at 110: call M_find st []
              refine r_find ?_
              show kx_wx _ _ _ _ _ (_ :: _) _ _
              refine ks_ireturn rfl ?_
              -- at 113: ret  st [None]
              exact t2 c c2 (by omega) (by omega) d3 (by omega)
            · refine ks_iload_n rfl rfl ?_
              refine ks_i2l rfl ⟨by omega, by omega⟩ ?_
              refine ks_lconst rfl ?_
              refine ks_aload_n rfl rfl ?_
              refine ks_getr (b := 79) rfl rfl rfl rfl (by decide) ?_
              refine ks_iload_n rfl rfl ?_
              refine ks_iaload rfl rfl (by omega) (by omega) (by (try simp only [kx_up_at, kx_row_at, up1_at, Nat.reduceEqDiff, Int.reduceEq, Int.reduceNeg, and_true, true_and, and_false, false_and, and_self, reduceIte, Nat.add_left_cancel_iff, Nat.add_eq_left, Nat.left_eq_add, Nat.reduceAdd, Int.add_left_inj, Int.add_right_inj]); rfl) ?_
              refine ks_i2l rfl ⟨by omega, by omega⟩ ?_
              refine ks_iload rfl rfl ?_
              refine ks_i2l rfl ⟨by omega, by omega⟩ ?_
              refine ks_lsub rfl ?_
              refine ks_calls_3 rfl (Nat.le_of_ble_eq_true rfl) ?_
              -- at 81: call M_in st []
              refine r_in ⟨by omega, by omega⟩ ⟨by omega, by omega⟩ ⟨by omega, by omega⟩ (fun d5 => ?_) (fun d5 => ?_)
              · show kx_wx _ _ _ _ _ (_ :: _) _ _
                refine ks_if_eq_1 rfl ?_
                refine ks_iload rfl rfl ?_
                refine ks_i2l rfl ⟨by omega, by omega⟩ ?_
                refine ks_lconst rfl ?_
                refine ks_aload_n rfl rfl ?_
                refine ks_getr (b := 79) rfl rfl rfl rfl (by decide) ?_
                refine ks_iload_n rfl rfl ?_
                refine ks_iaload rfl rfl (by omega) (by omega) (by (try simp only [kx_up_at, kx_row_at, up1_at, Nat.reduceEqDiff, Int.reduceEq, Int.reduceNeg, and_true, true_and, and_false, false_and, and_self, reduceIte, Nat.add_left_cancel_iff, Nat.add_eq_left, Nat.left_eq_add, Nat.reduceAdd, Int.add_left_inj, Int.add_right_inj]); rfl) ?_
                refine ks_i2l rfl ⟨by omega, by omega⟩ ?_
                refine ks_iload rfl rfl ?_
                refine ks_i2l rfl ⟨by omega, by omega⟩ ?_
                refine ks_lsub rfl ?_
                refine ks_calls_3 rfl (Nat.le_of_ble_eq_true rfl) ?_
                -- at 102: call M_in st []
                refine r_in ⟨by omega, by omega⟩ ⟨by omega, by omega⟩ ⟨by omega, by omega⟩ (fun d6 => ?_) (fun d6 => ?_)
                · have t4 := t3 c c2 d3 (by omega) d5.1 (by omega) d6.1 (by omega)
                  have ev : n = (n.toNat : Int) := by omega
                  generalize n.toNat = m at *
                  subst ev
                  show kx_wx _ _ _ _ _ (_ :: _) _ _
                  refine ks_if_ne_1 rfl ?_
                  refine ks_iconst rfl ?_
                  refine ks_istore_6 rfl rfl ?_
                  -- at 117: stop  st []
                  refine l_Mcopy1 (μ := μ) c.1 c.2 d5.1 (by omega) (by omega) (fun μ1 x6 k1 k2 => ?_) m 0 μ (by omega) (fun x x0 x1 => absurd x1 (by omega)) (fun _ _ => rfl)
                  refine ks_iconst rfl ?_
                  refine ks_istore_6 rfl rfl ?_
                  -- at 154: stop  st []
                  refine l_Mcopy2 (μ := μ1) c2.1 c2.2 d6.1 (by omega) (by omega) (fun μ2 q1 q2 q3 => ?_) m 0 μ1 (by omega) (fun x x0 x1 => absurd x1 (by omega)) (fun _ _ => rfl) (fun _ _ => rfl)
                  refine t4 μ2 (fun k k0 kk => ?_) (fun x hx => ?_) (fun c c0 c1 => ?_)
                  · rw [q1 k k0 kk, k1 k k0 kk]
                  · rw [q2 x hx, k2 80 (by omega)]
                  · rw [q3 c c0, k2 c c1]
                · show kx_wx _ _ _ _ _ (_ :: _) _ _
                  refine ks_if_ne_0 rfl ?_
                  refine ks_aload_n rfl rfl ?_
                  refine ks_iconst rfl ?_
                  refine ks_callv_2 rfl rfl rfl (Nat.le_of_ble_eq_true rfl) ?_
                  -- at 110: call M_find st []
                  refine r_find ?_
                  show kx_wx _ _ _ _ _ (_ :: _) _ _
                  refine ks_ireturn rfl ?_
                  -- at 113: ret  st [None]
                  exact t2 c c2 (by omega) (by omega) d3 (by omega)
              · show kx_wx _ _ _ _ _ (_ :: _) _ _
                refine ks_if_eq_0 rfl ?_
                refine ks_aload_n rfl rfl ?_
                refine ks_iconst rfl ?_
                refine ks_callv_2 rfl rfl rfl (Nat.le_of_ble_eq_true rfl) ?_
                -- at 110: call M_find st []
                refine r_find ?_
                show kx_wx _ _ _ _ _ (_ :: _) _ _
                refine ks_ireturn rfl ?_
                -- at 113: ret  st [None]
                exact t2 c c2 (by omega) (by omega) d3 (by omega)
          · refine ks_aload_n rfl rfl ?_
            refine ks_iconst rfl ?_
            refine ks_callv_2 rfl rfl rfl (Nat.le_of_ble_eq_true rfl) ?_
            -- at 58: call M_find st []
            refine r_find ?_
            show kx_wx _ _ _ _ _ (_ :: _) _ _
            refine ks_ireturn rfl ?_
            -- at 61: ret  st [None]
            exact t5 c c2 (by omega) (by omega) d3
    · show kx_wx _ _ _ _ _ (_ :: _) _ _
      refine ks_if_ne_0 rfl ?_
      refine ks_ldc rfl ?_
      refine ks_ireturn rfl ?_
      -- at 16: ret  st ['-1000001']
      exact t0 (fun q => c2 q.2)
  · show kx_wx _ _ _ _ _ (_ :: _) _ _
    refine ks_if_eq_0 rfl ?_
    refine ks_ldc rfl ?_
    refine ks_ireturn rfl ?_
    -- at 16: ret  st ['-1000001']
    exact t0 (fun q => c q.1)
theorem r_Xfeed {m : Int} (hv : kx_in v) (hm : μ 19 1 = m) (m0 : 0 ≤ m) (m1 : m ≤ 120) (t0 : ¬ (0 ≤ v ∧ v ≤ 255) → Q (some (kI (-1000001))) (kg L) μ) (t1 : 0 ≤ v → v ≤ 255 → m = 120 → Q (some (kI (-1000003))) (kg L) μ) (t2 : 0 ≤ v → v ≤ 255 → m < 120 → Q (some (kI (m + 1))) (kg L) (kx_up (kx_up μ 20 m v) 19 1 (m + 1))) : kx_cx (ke (d + 3)) 73 [kR 1, kI v] (kg L) μ Q := by
  refine ke_start (tb := kt_X_feed) (ls := [some (kR 1), some (kI v)]) rfl rfl ?_
  refine ks_iload_n rfl rfl ?_
  refine ks_iconst rfl ?_
  refine ks_sipush rfl ?_
  refine ks_calls_3 rfl (Nat.le_of_ble_eq_true rfl) ?_
  -- at 5: call X_isBetween st []
  refine r_isBetween hv ⟨by omega, by omega⟩ ⟨by omega, by omega⟩ (fun c => ?_) (fun c => ?_)
  · show kx_wx _ _ _ _ _ (_ :: _) _ _
    refine ks_if_ne_1 rfl ?_
    refine ks_aload_n rfl rfl ?_
    refine ks_getr (b := 19) rfl rfl rfl rfl (by decide) ?_
    refine ks_callv_1 rfl rfl rfl (Nat.le_of_ble_eq_true rfl) ?_
    -- at 18: call Tape_isFull st []
    refine ke_start (m := 38) (tb := kt_Tape_isFull) (ls := [some (kR 19)]) rfl rfl ?_
    refine ks_aload_n rfl rfl ?_
    refine ks_geti rfl rfl rfl rfl (by (try simp only [kx_up_at, kx_row_at, up1_at, Nat.reduceEqDiff, Int.reduceEq, Int.reduceNeg, and_true, true_and, and_false, false_and, and_self, reduceIte, Nat.add_left_cancel_iff, Nat.add_eq_left, Nat.left_eq_add, Nat.reduceAdd, Int.add_left_inj, Int.add_right_inj, hm]); rfl) ?_
    refine ks_bipush rfl ?_
    -- at 6: if lt -> 13 else 9 st ['120', None]
    refine ks_icmp_lt rfl ⟨by omega, by omega⟩ ⟨by omega, by omega⟩ (fun c2 => ?_) (fun c2 => ?_)
    · refine ks_iconst rfl ?_
      refine ks_zreturn rfl (by omega) ?_
      -- at 14: ret  st ['0']
      show kx_wx _ _ _ _ _ (_ :: _) _ _
      refine ks_if_eq_0 rfl ?_
      refine ks_aload_n rfl rfl ?_
      refine ks_getr (b := 19) rfl rfl rfl rfl (by decide) ?_
      refine ks_iload_n rfl rfl ?_
      refine ks_callv_2 rfl rfl rfl (Nat.le_of_ble_eq_true rfl) ?_
      -- at 32: call Tape_add st []
      refine ke_start (m := 39) (tb := kt_Tape_add) (ls := [some (kR 19), some (kI v)]) rfl rfl ?_
      refine ks_aload_n rfl rfl ?_
      refine ks_getr (b := 20) rfl rfl rfl rfl (by decide) ?_
      refine ks_aload_n rfl rfl ?_
      refine ks_geti rfl rfl rfl rfl (by (try simp only [kx_up_at, kx_row_at, up1_at, Nat.reduceEqDiff, Int.reduceEq, Int.reduceNeg, and_true, true_and, and_false, false_and, and_self, reduceIte, Nat.add_left_cancel_iff, Nat.add_eq_left, Nat.left_eq_add, Nat.reduceAdd, Int.add_left_inj, Int.add_right_inj, hm]); rfl) ?_
      refine ks_iload_n rfl rfl ?_
      refine ks_iastore rfl rfl (by omega) (by omega) ?_
      refine ks_aload_n rfl rfl ?_
      refine ks_dupR rfl ?_
      refine ks_geti rfl rfl rfl rfl (by (try simp only [kx_up_at, kx_row_at, up1_at, Nat.reduceEqDiff, Int.reduceEq, Int.reduceNeg, and_true, true_and, and_false, false_and, and_self, reduceIte, Nat.add_left_cancel_iff, Nat.add_eq_left, Nat.left_eq_add, Nat.reduceAdd, Int.add_left_inj, Int.add_right_inj, hm]); rfl) ?_
      refine ks_iconst rfl ?_
      refine ks_iadd rfl ?_
      refine ks_puti rfl rfl ?_
      refine ks_aload_n rfl rfl ?_
      refine ks_geti rfl rfl rfl rfl (by (try simp only [kx_up_at, kx_row_at, up1_at, Nat.reduceEqDiff, Int.reduceEq, Int.reduceNeg, and_true, true_and, and_false, false_and, and_self, reduceIte, Nat.add_left_cancel_iff, Nat.add_eq_left, Nat.left_eq_add, Nat.reduceAdd, Int.add_left_inj, Int.add_right_inj, hm]); rfl) ?_
      refine ks_ireturn rfl ?_
      -- at 24: ret  st [None]
      show kx_wx _ _ _ _ _ (_ :: _) _ _
      refine ks_ireturn rfl ?_
      -- at 35: ret  st [None]
      exact t2 c.1 c.2 c2
    · refine ks_iconst rfl ?_
      refine ks_goto rfl ?_
      refine ks_zreturn rfl (by omega) ?_
      -- at 14: ret  st ['1']
      show kx_wx _ _ _ _ _ (_ :: _) _ _
      refine ks_if_eq_1 rfl ?_
      refine ks_ldc rfl ?_
      refine ks_ireturn rfl ?_
      -- at 26: ret  st ['-1000003']
      exact t1 c.1 c.2 (by omega)
  · show kx_wx _ _ _ _ _ (_ :: _) _ _
    refine ks_if_ne_0 rfl ?_
    refine ks_ldc rfl ?_
    refine ks_ireturn rfl ?_
    -- at 13: ret  st ['-1000001']
    exact t0 c
theorem r_Mfeed {m : Int} (hv : kx_in v) (hm : μ 77 8 = m) (m0 : 0 ≤ m) (m1 : m ≤ 120) (t0 : ¬ (0 ≤ v ∧ v ≤ 255) → Q (some (kI (-1000001))) (kg L) μ) (t1 : 0 ≤ v → v ≤ 255 → m = 120 → Q (some (kI (-1000003))) (kg L) μ) (t2 : 0 ≤ v → v ≤ 255 → m < 120 → Q (some (kI (m + 1))) (kg L) (kx_up (kx_up μ 83 m v) 77 8 (m + 1))) : kx_cx (ke (d + 2)) 126 [kR 77, kI v] (kg L) μ Q := by
  refine ke_start (tb := kt_M_feed) (ls := [some (kR 77), some (kI v)]) rfl rfl ?_
  obtain ⟨_, _⟩ := hv
  refine ks_iload_n rfl rfl ?_
  refine ks_i2l rfl ⟨by omega, by omega⟩ ?_
  refine ks_lconst rfl ?_
  refine ks_ldc2_w rfl ?_
  refine ks_calls_3 rfl (Nat.le_of_ble_eq_true rfl) ?_
  -- at 6: call M_in st []
  refine r_in ⟨by omega, by omega⟩ ⟨by omega, by omega⟩ ⟨by omega, by omega⟩ (fun c => ?_) (fun c => ?_)
  · show kx_wx _ _ _ _ _ (_ :: _) _ _
    refine ks_if_ne_1 rfl ?_
    refine ks_aload_n rfl rfl ?_
    refine ks_geti rfl rfl rfl rfl (by (try simp only [kx_up_at, kx_row_at, up1_at, Nat.reduceEqDiff, Int.reduceEq, Int.reduceNeg, and_true, true_and, and_false, false_and, and_self, reduceIte, Nat.add_left_cancel_iff, Nat.add_eq_left, Nat.left_eq_add, Nat.reduceAdd, Int.add_left_inj, Int.add_right_inj, hm]); rfl) ?_
    refine ks_bipush rfl ?_
    -- at 21: if ne -> 27 else 24 st ['120', None]
    refine ks_icmp_ne rfl ⟨by omega, by omega⟩ ⟨by omega, by omega⟩ (fun c2 => ?_) (fun c2 => ?_)
    · refine ks_ldc rfl ?_
      refine ks_ireturn rfl ?_
      -- at 26: ret  st ['-1000003']
      exact t1 c.1 c.2 c2
    · refine ks_aload_n rfl rfl ?_
      refine ks_getr (b := 83) rfl rfl rfl rfl (by decide) ?_
      refine ks_aload_n rfl rfl ?_
      refine ks_geti rfl rfl rfl rfl (by (try simp only [kx_up_at, kx_row_at, up1_at, Nat.reduceEqDiff, Int.reduceEq, Int.reduceNeg, and_true, true_and, and_false, false_and, and_self, reduceIte, Nat.add_left_cancel_iff, Nat.add_eq_left, Nat.left_eq_add, Nat.reduceAdd, Int.add_left_inj, Int.add_right_inj, hm]); rfl) ?_
      refine ks_iload_n rfl rfl ?_
      refine ks_iastore rfl rfl (by omega) (by omega) ?_
      refine ks_aload_n rfl rfl ?_
      refine ks_dupR rfl ?_
      refine ks_geti rfl rfl rfl rfl (by (try simp only [kx_up_at, kx_row_at, up1_at, Nat.reduceEqDiff, Int.reduceEq, Int.reduceNeg, and_true, true_and, and_false, false_and, and_self, reduceIte, Nat.add_left_cancel_iff, Nat.add_eq_left, Nat.left_eq_add, Nat.reduceAdd, Int.add_left_inj, Int.add_right_inj, hm]); rfl) ?_
      refine ks_iconst rfl ?_
      refine ks_iadd rfl ?_
      refine ks_puti rfl rfl ?_
      refine ks_aload_n rfl rfl ?_
      refine ks_geti rfl rfl rfl rfl (by (try simp only [kx_up_at, kx_row_at, up1_at, Nat.reduceEqDiff, Int.reduceEq, Int.reduceNeg, and_true, true_and, and_false, false_and, and_self, reduceIte, Nat.add_left_cancel_iff, Nat.add_eq_left, Nat.left_eq_add, Nat.reduceAdd, Int.add_left_inj, Int.add_right_inj, hm]); rfl) ?_
      refine ks_ireturn rfl ?_
      -- at 51: ret  st [None]
      exact t2 c.1 c.2 (by omega)
  · show kx_wx _ _ _ _ _ (_ :: _) _ _
    refine ks_if_ne_0 rfl ?_
    refine ks_ldc rfl ?_
    refine ks_ireturn rfl ?_
    -- at 14: ret  st ['-1000001']
    exact t0 c
theorem r_Xseen {l i n : Int} (hl : kx_in l) (hii : kx_in i) (hn : kx_in n) (hw : kx_in w) (T : TR μ 30 s) (N : TN s) (hb : ∀ i : Nat, i < 8 → -1 ≤ μ (3 + 2 * i) 2 ∧ μ (3 + 2 * i) 2 ≤ 40) (hi : ∀ i : Nat, i < 8 → ∀ k, 0 ≤ k → k < 40 → kx_in (μ (3 + 2 * i + 1) k)) (t0 : s 1 = 0 → Q (some (kI (-1000002))) (kg L) μ) (t1 : 1 ≤ s 1 → ¬ ((0 ≤ l ∧ l ≤ 7) ∧ (1 ≤ n ∧ n ≤ 16) ∧ (0 ≤ w ∧ w ≤ 1)) → Q (some (kI (-1000001))) (kg L) μ) (t3 : 1 ≤ s 1 → (0 ≤ l ∧ l ≤ 7) → (1 ≤ n ∧ n ≤ 16) → (0 ≤ w ∧ w ≤ 1) → μ (3 + 2 * l.toNat) 2 = -1 → Q (some (kI (-1000011))) (kg L) (kx_up μ 1 10 1)) (t4 : 1 ≤ s 1 → (0 ≤ l ∧ l ≤ 7) → (1 ≤ n ∧ n ≤ 16) → (0 ≤ w ∧ w ≤ 1) → 0 ≤ μ (3 + 2 * l.toNat) 2 → ¬ (0 ≤ i ∧ i + n ≤ μ (3 + 2 * l.toNat) 2) → Q (some (kI (-1000012))) (kg L) (kx_up μ 1 10 2)) (t2 : 1 ≤ s 1 → (0 ≤ l ∧ l ≤ 7) → (1 ≤ n ∧ n ≤ 16) → (0 ≤ w ∧ w ≤ 1) → 0 ≤ i → i + n ≤ μ (3 + 2 * l.toNat) 2 → ∀ μ', F54 μ μ' → Q (some (kI (if w = 0 then (q_se s (fun k => μ (3 + 2 * l.toNat + 1) (i + k)) n.toNat (s 1).toNat 0 (-1000000)).1 else (q_se s (fun k => μ (3 + 2 * l.toNat + 1) (i + k)) n.toNat (s 1).toNat 0 (-1000000)).2))) (kg L) (kx_up μ' 1 10 0)) : kx_cx (ke (d + 6)) 95 [kR 1, kI l, kI i, kI n, kI w] (kg L) μ Q := by
  refine ke_start (tb := kt_X_seen) (ls := [some (kR 1), some (kI l), some (kI i), some (kI n), some (kI w), none]) rfl rfl ?_
  obtain ⟨n1, n2, n3⟩ := TN_in N
  have e8 := T.1
  refine ks_aload_n rfl rfl ?_
  refine ks_callv_1 rfl rfl rfl (Nat.le_of_ble_eq_true rfl) ?_
  -- at 1: call X_isNoTown st []
  refine r_isNoTown ⟨by omega, by omega⟩ (fun c => ?_) (fun c => ?_)
  · show kx_wx _ _ _ _ _ (_ :: _) _ _
    refine ks_if_eq_1 rfl ?_
    refine ks_ldc rfl ?_
    refine ks_ireturn rfl ?_
    -- at 9: ret  st ['-1000002']
    exact t0 (by omega)
  · show kx_wx _ _ _ _ _ (_ :: _) _ _
    refine ks_if_eq_0 rfl ?_
    refine ks_iload_n rfl rfl ?_
    refine ks_calls_1 rfl (Nat.le_of_ble_eq_true rfl) ?_
    -- at 11: call X_isRow st []
    refine r_isRow hl (fun c2 => ?_) (fun c2 => ?_)
    · show kx_wx _ _ _ _ _ (_ :: _) _ _
      refine ks_if_eq_1 rfl ?_
      refine ks_iload_n rfl rfl ?_
      refine ks_iconst rfl ?_
      refine ks_bipush rfl ?_
      refine ks_calls_3 rfl (Nat.le_of_ble_eq_true rfl) ?_
      -- at 21: call X_isBetween st []
      refine r_isBetween hn ⟨by omega, by omega⟩ ⟨by omega, by omega⟩ (fun c3 => ?_) (fun c3 => ?_)
      · show kx_wx _ _ _ _ _ (_ :: _) _ _
        refine ks_if_eq_1 rfl ?_
        refine ks_iload rfl rfl ?_
        refine ks_iconst rfl ?_
        refine ks_iconst rfl ?_
        refine ks_calls_3 rfl (Nat.le_of_ble_eq_true rfl) ?_
        -- at 31: call X_isBetween st []
        refine r_isBetween hw ⟨by omega, by omega⟩ ⟨by omega, by omega⟩ (fun c4 => ?_) (fun c4 => ?_)
        · have hbl := hb l.toNat (by omega)
          have hil := hi l.toNat (by omega)
          obtain ⟨W, Z⟩ := TN_W N (by omega)
          show kx_wx _ _ _ _ _ (_ :: _) _ _
          refine ks_if_ne_1 rfl ?_
          refine ks_aload_n rfl rfl ?_
          refine ks_iload_n rfl rfl ?_
          refine ks_iload_n rfl rfl ?_
          refine ks_iload_n rfl rfl ?_
          refine ks_callv_4 rfl rfl rfl (Nat.le_of_ble_eq_true rfl) ?_
          -- at 44: call X_findingOf st []
          refine r_findingOf c2.1 c2.2 hii ⟨by omega, by omega⟩ hbl (fun q => ?_) (fun q1 q2 => ?_) (fun q1 q2 q3 => ?_)
          · show kx_wx _ _ _ _ _ (_ :: _) _ _
            refine ks_istore_5 rfl rfl ?_
            refine ks_iload rfl rfl ?_
            -- at 51: if eq -> 61 else 54 st [None]
            refine ks_if_eq rfl ⟨by omega, by omega⟩ (fun c5 => absurd c5 (by omega)) (fun c5 => ?_)
            refine ks_aload_n rfl rfl ?_
            refine ks_iload rfl rfl ?_
            refine ks_callv_2 rfl rfl rfl (Nat.le_of_ble_eq_true rfl) ?_
            -- at 57: call X_finding st []
            refine r_finding ?_
            show kx_wx _ _ _ _ _ (_ :: _) _ _
            refine ks_ireturn rfl ?_
            -- at 60: ret  st [None]
            exact t3 (by omega) c2 c3 c4 q
          · show kx_wx _ _ _ _ _ (_ :: _) _ _
            refine ks_istore_5 rfl rfl ?_
            refine ks_iload rfl rfl ?_
            -- at 51: if eq -> 61 else 54 st [None]
            refine ks_if_eq rfl ⟨by omega, by omega⟩ (fun c5 => absurd c5 (by omega)) (fun c5 => ?_)
            refine ks_aload_n rfl rfl ?_
            refine ks_iload rfl rfl ?_
            refine ks_callv_2 rfl rfl rfl (Nat.le_of_ble_eq_true rfl) ?_
            -- at 57: call X_finding st []
            refine r_finding ?_
            show kx_wx _ _ _ _ _ (_ :: _) _ _
            refine ks_ireturn rfl ?_
            -- at 60: ret  st [None]
            exact t4 (by omega) c2 c3 c4 q1 (by omega)
          · obtain ⟨a1, a2⟩ := kg_rows L (i := l) c2.1 (by omega)
            have t5 := t2 (by omega) c2 c3 c4 q1 q3
            generalize hw9 : 3 + 2 * l.toNat = g at *
            have ev : n = (n.toNat : Int) := by omega
            generalize n.toNat = m at *
            subst ev
            have a3 := a2.1
            show kx_wx _ _ _ _ _ (_ :: _) _ _
            refine ks_istore_5 rfl rfl ?_
            refine ks_iload rfl rfl ?_
            -- at 51: if eq -> 61 else 54 st [None]
            refine ks_if_eq rfl ⟨by omega, by omega⟩ (fun c5 => ?_) (fun c5 => absurd c5 (by omega))
            refine ks_aload_n rfl rfl ?_
            refine ks_aload_n rfl rfl ?_
            refine ks_getr (b := 44) rfl rfl rfl rfl (by decide) ?_
            refine ks_aload_n rfl rfl ?_
            refine ks_getr (b := 30) rfl rfl rfl rfl (by decide) ?_
            refine ks_aload_n rfl rfl ?_
            refine ks_getr (b := 2) rfl rfl rfl rfl (by decide) ?_
            refine ks_iload_n rfl rfl ?_
            refine ks_aaload (b := g) rfl rfl (Or.inl rfl) (by omega) (by omega) a1 (by omega) ?_
            refine ks_iload_n rfl rfl ?_
            refine ks_iload_n rfl rfl ?_
            refine ks_iload rfl rfl ?_
            refine ks_callv_6 rfl rfl rfl (Nat.le_of_ble_eq_true rfl) ?_
            -- at 80: call Fore_giftsThatGoAs st ['1']
            refine r_giftsThatGoAs (f := fun k => μ (g + 1) (i + k)) hw (by omega) a2 q1 (by omega) (by omega) (fun _ => rfl) hil W T (fun μ1 F1 => ?_)
            show kx_wx _ _ _ _ _ (_ :: _) _ _
            refine ks_callv_2 rfl rfl rfl (Nat.le_of_ble_eq_true rfl) ?_
            -- at 83: call X_noFinding st []
            refine r_noFinding ?_
            show kx_wx _ _ _ _ _ (_ :: _) _ _
            refine ks_ireturn rfl ?_
            -- at 86: ret  st [None]
            exact t5 _ (Fr_54 F1)
        · show kx_wx _ _ _ _ _ (_ :: _) _ _
          refine ks_if_ne_0 rfl ?_
          refine ks_ldc rfl ?_
          refine ks_ireturn rfl ?_
          -- at 39: ret  st ['-1000001']
          exact t1 (by omega) (fun q => c4 q.2.2)
      · show kx_wx _ _ _ _ _ (_ :: _) _ _
        refine ks_if_eq_0 rfl ?_
        refine ks_ldc rfl ?_
        refine ks_ireturn rfl ?_
        -- at 39: ret  st ['-1000001']
        exact t1 (by omega) (fun q => c3 q.2.1)
    · show kx_wx _ _ _ _ _ (_ :: _) _ _
      refine ks_if_eq_0 rfl ?_
      refine ks_ldc rfl ?_
      refine ks_ireturn rfl ?_
      -- at 39: ret  st ['-1000001']
      exact t1 (by omega) (fun q => c2 q.1)
theorem r_Xkeeps {l i n : Int} (hh : kx_in h) (hl : kx_in l) (hii : kx_in i) (hn : kx_in n) (T : TR μ 30 s) (N : TN s) (hb : ∀ i : Nat, i < 8 → -1 ≤ μ (3 + 2 * i) 2 ∧ μ (3 + 2 * i) 2 ≤ 40) (hi : ∀ i : Nat, i < 8 → ∀ k, 0 ≤ k → k < 40 → kx_in (μ (3 + 2 * i + 1) k)) (t1 : ¬ ((0 ≤ h ∧ h < s 1) ∧ (0 ≤ l ∧ l ≤ 7) ∧ (1 ≤ n ∧ n ≤ 16)) → Q (some (kI (-1000001))) (kg L) μ) (t3 : (0 ≤ h ∧ h < s 1) → (0 ≤ l ∧ l ≤ 7) → (1 ≤ n ∧ n ≤ 16) → μ (3 + 2 * l.toNat) 2 = -1 → Q (some (kI (-1000011))) (kg L) (kx_up μ 1 10 1)) (t4 : (0 ≤ h ∧ h < s 1) → (0 ≤ l ∧ l ≤ 7) → (1 ≤ n ∧ n ≤ 16) → 0 ≤ μ (3 + 2 * l.toNat) 2 → ¬ (0 ≤ i ∧ i + n ≤ μ (3 + 2 * l.toNat) 2) → Q (some (kI (-1000012))) (kg L) (kx_up μ 1 10 2)) (t2 : (0 ≤ h ∧ h < s 1) → (0 ≤ l ∧ l ≤ 7) → (1 ≤ n ∧ n ≤ 16) → 0 ≤ i → i + n ≤ μ (3 + 2 * l.toNat) 2 → ∀ μ', F54 μ μ' → Q (some (kI (q_ke s (fun k => μ (3 + 2 * l.toNat + 1) (i + k)) h n.toNat 9 1 0))) (kg L) (kx_up μ' 1 10 0)) : kx_cx (ke (d + 6)) 96 [kR 1, kI h, kI l, kI i, kI n] (kg L) μ Q := by
  refine ke_start (tb := kt_X_keeps) (ls := [some (kR 1), some (kI h), some (kI l), some (kI i), some (kI n), none]) rfl rfl ?_
  obtain ⟨n1, n2, n3⟩ := TN_in N
  have e8 := T.1
  refine ks_aload_n rfl rfl ?_
  refine ks_getr (b := 30) rfl rfl rfl rfl (by decide) ?_
  refine ks_iload_n rfl rfl ?_
  refine ks_callv_2 rfl rfl rfl (Nat.le_of_ble_eq_true rfl) ?_
  -- at 5: call Town_hasHead st []
  refine r_hasHead (kg_T30 L) hh ⟨by omega, by omega⟩ (fun c => ?_) (fun c => ?_)
  · rw [e8] at c
    show kx_wx _ _ _ _ _ (_ :: _) _ _
    refine ks_if_eq_1 rfl ?_
    refine ks_iload_n rfl rfl ?_
    refine ks_calls_1 rfl (Nat.le_of_ble_eq_true rfl) ?_
    -- at 12: call X_isRow st []
    refine r_isRow hl (fun c2 => ?_) (fun c2 => ?_)
    · show kx_wx _ _ _ _ _ (_ :: _) _ _
      refine ks_if_eq_1 rfl ?_
      refine ks_iload rfl rfl ?_
      refine ks_iconst rfl ?_
      refine ks_bipush rfl ?_
      refine ks_calls_3 rfl (Nat.le_of_ble_eq_true rfl) ?_
      -- at 23: call X_isBetween st []
      refine r_isBetween hn ⟨by omega, by omega⟩ ⟨by omega, by omega⟩ (fun c3 => ?_) (fun c3 => ?_)
      · have hbl := hb l.toNat (by omega)
        have hil := hi l.toNat (by omega)
        obtain ⟨W, Z⟩ := TN_W N (by omega)
        show kx_wx _ _ _ _ _ (_ :: _) _ _
        refine ks_if_ne_1 rfl ?_
        refine ks_aload_n rfl rfl ?_
        refine ks_iload_n rfl rfl ?_
        refine ks_iload_n rfl rfl ?_
        refine ks_iload rfl rfl ?_
        refine ks_callv_4 rfl rfl rfl (Nat.le_of_ble_eq_true rfl) ?_
        -- at 37: call X_findingOf st []
        refine r_findingOf c2.1 c2.2 hii ⟨by omega, by omega⟩ hbl (fun q => ?_) (fun q1 q2 => ?_) (fun q1 q2 q3 => ?_)
        · show kx_wx _ _ _ _ _ (_ :: _) _ _
          refine ks_istore_5 rfl rfl ?_
          refine ks_iload rfl rfl ?_
          -- at 44: if eq -> 54 else 47 st [None]
          refine ks_if_eq rfl ⟨by omega, by omega⟩ (fun c5 => absurd c5 (by omega)) (fun c5 => ?_)
          refine ks_aload_n rfl rfl ?_
          refine ks_iload rfl rfl ?_
          refine ks_callv_2 rfl rfl rfl (Nat.le_of_ble_eq_true rfl) ?_
          -- at 50: call X_finding st []
          refine r_finding ?_
          show kx_wx _ _ _ _ _ (_ :: _) _ _
          refine ks_ireturn rfl ?_
          -- at 53: ret  st [None]
          exact t3 c c2 c3 q
        · show kx_wx _ _ _ _ _ (_ :: _) _ _
          refine ks_istore_5 rfl rfl ?_
          refine ks_iload rfl rfl ?_
          -- at 44: if eq -> 54 else 47 st [None]
          refine ks_if_eq rfl ⟨by omega, by omega⟩ (fun c5 => absurd c5 (by omega)) (fun c5 => ?_)
          refine ks_aload_n rfl rfl ?_
          refine ks_iload rfl rfl ?_
          refine ks_callv_2 rfl rfl rfl (Nat.le_of_ble_eq_true rfl) ?_
          -- at 50: call X_finding st []
          refine r_finding ?_
          show kx_wx _ _ _ _ _ (_ :: _) _ _
          refine ks_ireturn rfl ?_
          -- at 53: ret  st [None]
          exact t4 c c2 c3 q1 (by omega)
        · obtain ⟨a1, a2⟩ := kg_rows L (i := l) c2.1 (by omega)
          have t5 := t2 c c2 c3 q1 q3
          generalize hw9 : 3 + 2 * l.toNat = g at *
          have ev : n = (n.toNat : Int) := by omega
          generalize n.toNat = m at *
          subst ev
          have a3 := a2.1
          show kx_wx _ _ _ _ _ (_ :: _) _ _
          refine ks_istore_5 rfl rfl ?_
          refine ks_iload rfl rfl ?_
          -- at 44: if eq -> 54 else 47 st [None]
          refine ks_if_eq rfl ⟨by omega, by omega⟩ (fun c5 => ?_) (fun c5 => absurd c5 (by omega))
          refine ks_aload_n rfl rfl ?_
          refine ks_aload_n rfl rfl ?_
          refine ks_getr (b := 44) rfl rfl rfl rfl (by decide) ?_
          refine ks_aload_n rfl rfl ?_
          refine ks_getr (b := 30) rfl rfl rfl rfl (by decide) ?_
          refine ks_iload_n rfl rfl ?_
          refine ks_aload_n rfl rfl ?_
          refine ks_getr (b := 2) rfl rfl rfl rfl (by decide) ?_
          refine ks_iload_n rfl rfl ?_
          refine ks_aaload (b := g) rfl rfl (Or.inl rfl) (by omega) (by omega) a1 (by omega) ?_
          refine ks_iload_n rfl rfl ?_
          refine ks_iload rfl rfl ?_
          refine ks_callv_6 rfl rfl rfl (Nat.le_of_ble_eq_true rfl) ?_
          -- at 73: call Fore_keepsThatGoAs st ['1']
          refine r_keepsThatGoAs (f := fun k => μ (g + 1) (i + k)) c.1 c.2 (by omega) a2 q1 (by omega) (by omega) (fun _ => rfl) hil W T (fun μ1 F1 => ?_)
          show kx_wx _ _ _ _ _ (_ :: _) _ _
          refine ks_callv_2 rfl rfl rfl (Nat.le_of_ble_eq_true rfl) ?_
          -- at 76: call X_noFinding st []
          refine r_noFinding ?_
          show kx_wx _ _ _ _ _ (_ :: _) _ _
          refine ks_ireturn rfl ?_
          -- at 79: ret  st [None]
          exact t5 _ (Fr_54 F1)
      · show kx_wx _ _ _ _ _ (_ :: _) _ _
        refine ks_if_ne_0 rfl ?_
        refine ks_ldc rfl ?_
        refine ks_ireturn rfl ?_
        -- at 31: ret  st ['-1000001']
        exact t1 (fun q => c3 q.2.2)
    · show kx_wx _ _ _ _ _ (_ :: _) _ _
      refine ks_if_eq_0 rfl ?_
      refine ks_ldc rfl ?_
      refine ks_ireturn rfl ?_
      -- at 31: ret  st ['-1000001']
      exact t1 (fun q => c2 q.2.1)
  · rw [e8] at c
    show kx_wx _ _ _ _ _ (_ :: _) _ _
    refine ks_if_eq_0 rfl ?_
    refine ks_ldc rfl ?_
    refine ks_ireturn rfl ?_
    -- at 31: ret  st ['-1000001']
    exact t1 (fun q => c q.1)
end XJ
