/-! the class's rows -/
section XR
variable {d L : Nat} {G : kx_G} {μ : kx_M} {Q : Option kx_V → kx_G → kx_M → Prop} {a : Nat}
theorem r_Xdrop {r : Int} (hr : kx_in r) (hb : ∀ i : Nat, i < 8 → -1 ≤ μ (3 + 2 * i) 2 ∧ μ (3 + 2 * i) 2 ≤ 40) (t0 : ¬ (0 ≤ r ∧ r ≤ 7) → Q (some (kI (-1000001))) (kg L) μ) (t1 : 0 ≤ r → r ≤ 7 → μ (3 + 2 * r.toNat) 2 = -1 → Q (some (kI (-1000011))) (kg L) (kx_up μ 1 10 1)) (t2 : 0 ≤ r → r ≤ 7 → 0 ≤ μ (3 + 2 * r.toNat) 2 → Q (some (kI (μ (3 + 2 * r.toNat) 2))) (kg L) (kx_up (kx_up μ (3 + 2 * r.toNat) 2 (-1)) 1 10 0)) : kx_cx (ke (d + 3)) 72 [kR 1, kI r] (kg L) μ Q := by
  refine ke_start (tb := kt_X_drop) (ls := [some (kR 1), some (kI r)]) rfl rfl ?_
  refine ks_iload_n rfl rfl ?_
  refine ks_calls_1 rfl (Nat.le_of_ble_eq_true rfl) ?_
  -- at 1: call X_isRow st []
  refine r_isRow hr (fun h => ?_) (fun h => ?_)
  · show kx_wx _ _ _ _ _ (_ :: _) _ _
    have b := hb r.toNat (by omega)
    obtain ⟨a1, a2⟩ := kg_rows L (i := r) h.1 (by omega)
    refine ks_if_ne_1 rfl ?_
    generalize hw : 3 + 2 * r.toNat = w at *
    have w0 : w ≠ 1 := by omega
    have a3 := a2.1
    refine ks_aload_n rfl rfl ?_
    refine ks_getr (b := 2) rfl rfl rfl rfl (by decide) ?_
    refine ks_iload_n rfl rfl ?_
    refine ks_aaload (b := w) rfl rfl (Or.inl rfl) (by omega) (by omega) a1 (by omega) ?_
    refine ks_callv_1 rfl rfl (by assumption) (Nat.le_of_ble_eq_true rfl) ?_
    -- at 16: call Row_isMissing st []
    refine r_isMissing a2 ⟨by omega, by omega⟩ (fun h1 => ?_) (fun h1 => ?_)
    · show kx_wx _ _ _ _ _ (_ :: _) _ _
      refine ks_if_eq_1 rfl ?_
      refine ks_aload_n rfl rfl ?_
      refine ks_iconst rfl ?_
      refine ks_callv_2 rfl rfl rfl (Nat.le_of_ble_eq_true rfl) ?_
      -- at 24: call X_finding st []
      refine r_finding ?_
      show kx_wx _ _ _ _ _ (_ :: _) _ _
      refine ks_ireturn rfl ?_
      -- at 27: ret  st [None]
      exact t1 h.1 h.2 h1
    · show kx_wx _ _ _ _ _ (_ :: _) _ _
      refine ks_if_eq_0 rfl ?_
      refine ks_aload_n rfl rfl ?_
      refine ks_aload_n rfl rfl ?_
      refine ks_getr (b := 2) rfl rfl rfl rfl (by decide) ?_
      refine ks_iload_n rfl rfl ?_
      refine ks_aaload (b := w) rfl rfl (Or.inl rfl) (by omega) (by omega) a1 (by omega) ?_
      refine ks_callv_1 rfl rfl (by assumption) (Nat.le_of_ble_eq_true rfl) ?_
      -- at 35: call Row_remove st ['1']
      refine r_remove a2 ?_
      show kx_wx _ _ _ _ _ (_ :: _) _ _
      refine ks_callv_2 rfl rfl rfl (Nat.le_of_ble_eq_true rfl) ?_
      -- at 38: call X_noFinding st []
      refine r_noFinding ?_
      show kx_wx _ _ _ _ _ (_ :: _) _ _
      refine ks_ireturn rfl ?_
      -- at 41: ret  st [None]
      exact t2 h.1 h.2 (by omega)
  · show kx_wx _ _ _ _ _ (_ :: _) _ _
    refine ks_if_ne_0 rfl ?_
    refine ks_ldc rfl ?_
    refine ks_ireturn rfl ?_
    -- at 9: ret  st ['-1000001']
    exact t0 h
theorem r_Xrow {r l n : Int} (hr : kx_in r) (hl : kx_in l) (hn : kx_in n) (t0 : ¬ ((0 ≤ r ∧ r ≤ 7) ∧ (0 ≤ l ∧ l ≤ 2) ∧ n ≤ 40) → Q (some (kI (-1000001))) (kg L) μ) (t1 : (0 ≤ r ∧ r ≤ 7) → (0 ≤ l ∧ l ≤ 2) → n < 0 → Q (some (kI (-1000014))) (kg L) (kx_up μ 1 10 4)) (t2 : (0 ≤ r ∧ r ≤ 7) → (0 ≤ l ∧ l ≤ 2) → 0 ≤ n → n ≤ 40 → ∀ μ', μ' (3 + 2 * r.toNat) 1 = l → μ' (3 + 2 * r.toNat) 2 = n → (∀ i, 0 ≤ i → i < 40 → μ' (3 + 2 * r.toNat + 1) i = 0) → (∀ c, c ≠ 3 + 2 * r.toNat → c ≠ 3 + 2 * r.toNat + 1 → μ' c = μ c) → Q (some (kI n)) (kg L) (kx_up μ' 1 10 0)) : kx_cx (ke (d + 3)) 69 [kR 1, kI r, kI l, kI n] (kg L) μ Q := by
  refine ke_start (tb := kt_X_row) (ls := [some (kR 1), some (kI r), some (kI l), some (kI n)]) rfl rfl ?_
  have bad : ¬ ((0 ≤ r ∧ r ≤ 7) ∧ (0 ≤ l ∧ l ≤ 2) ∧ n ≤ 40) → kx_wx (ke (d + 2)) kt_X_row Q 22 [some (kR 1), some (kI r), some (kI l), some (kI n)] [] (kg L) μ := by
    intro h
    refine ks_ldc rfl ?_
    refine ks_ireturn rfl ?_
    -- at 24: ret  st ['-1000001']
    exact t0 h
  refine ks_iload_n rfl rfl ?_
  refine ks_calls_1 rfl (Nat.le_of_ble_eq_true rfl) ?_
  -- at 1: call X_isRow st []
  refine r_isRow hr (fun h => ?_) (fun h => ?_)
  · show kx_wx _ _ _ _ _ (_ :: _) _ _
    refine ks_if_eq_1 rfl ?_
    refine ks_iload_n rfl rfl ?_
    refine ks_iconst rfl ?_
    refine ks_iconst rfl ?_
    refine ks_calls_3 rfl (Nat.le_of_ble_eq_true rfl) ?_
    -- at 10: call X_isBetween st []
    refine r_isBetween hl ⟨by omega, by omega⟩ ⟨by omega, by omega⟩ (fun h2 => ?_) (fun h2 => ?_)
    · show kx_wx _ _ _ _ _ (_ :: _) _ _
      refine ks_if_eq_1 rfl ?_
      refine ks_iload_n rfl rfl ?_
      refine ks_bipush rfl ?_
      -- at 19: if le -> 25 else 22 st ['40', None]
      refine ks_icmp_le rfl hn ⟨by omega, by omega⟩ (fun h3 => ?_) (fun h3 => ?_)
      · exact bad (by omega)
      · refine ks_iload_n rfl rfl ?_
        -- at 26: if ge -> 35 else 29 st [None]
        refine ks_if_ge rfl hn (fun h4 => ?_) (fun h4 => ?_)
        · refine ks_aload_n rfl rfl ?_
          refine ks_iconst rfl ?_
          refine ks_callv_2 rfl rfl rfl (Nat.le_of_ble_eq_true rfl) ?_
          -- at 31: call X_finding st []
          refine r_finding ?_
          show kx_wx _ _ _ _ _ (_ :: _) _ _
          refine ks_ireturn rfl ?_
          -- at 34: ret  st [None]
          exact t1 h h2 h4
        · obtain ⟨a1, a2⟩ := kg_rows L (i := r) h.1 (by omega)
          generalize hw : 3 + 2 * r.toNat = w at *
          have w0 : w ≠ 1 := by omega
          have a3 := a2.1
          refine ks_aload_n rfl rfl ?_
          refine ks_getr (b := 2) rfl rfl rfl rfl (by decide) ?_
          refine ks_iload_n rfl rfl ?_
          refine ks_aaload (b := w) rfl rfl (Or.inl rfl) (by omega) (by omega) a1 (by omega) ?_
          refine ks_iload_n rfl rfl ?_
          refine ks_iload_n rfl rfl ?_
          refine ks_callv_3 rfl rfl (by assumption) (Nat.le_of_ble_eq_true rfl) ?_
          -- at 43: call Row_lay st []
          refine r_lay a2 (fun μ1 k1 k2 k3 k4 => ?_)
          show kx_wx _ _ _ _ _ _ _ _
          refine ks_aload_n rfl rfl ?_
          refine ks_iload_n rfl rfl ?_
          refine ks_callv_2 rfl rfl rfl (Nat.le_of_ble_eq_true rfl) ?_
          -- at 48: call X_noFinding st []
          refine r_noFinding ?_
          show kx_wx _ _ _ _ _ (_ :: _) _ _
          refine ks_ireturn rfl ?_
          -- at 51: ret  st [None]
          exact t2 h h2 (by omega) (by omega) μ1 k1 k2 k3 k4
    · show kx_wx _ _ _ _ _ (_ :: _) _ _
      refine ks_if_eq_0 rfl ?_
      exact bad (fun q => h2 q.2.1)
  · show kx_wx _ _ _ _ _ (_ :: _) _ _
    refine ks_if_eq_0 rfl ?_
    exact bad (fun q => h q.1)
end XR
