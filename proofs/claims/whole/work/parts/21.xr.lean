/-! the class's rows -/
section XR
variable {d L : Nat} {G : kx_G} {μ : kx_M} {Q : Option kx_V → kx_G → kx_M → Prop} {a : Nat}
theorem r_Xdrop {r : Int} (hr : kx_in r) (hb : ∀ i : Nat, i < 8 → -1 ≤ μ (3 + 2 * i) 2 ∧ μ (3 + 2 * i) 2 ≤ 40) (t0 : ¬ (0 ≤ r ∧ r ≤ 7) → Q (some (kI (-1000001))) (kg L) μ) (t1 : 0 ≤ r → r ≤ 7 → μ (3 + 2 * r.toNat) 2 = -1 → Q (some (kI (-1000011))) (kg L) (kx_up μ 1 10 1)) (t2 : 0 ≤ r → r ≤ 7 → 0 ≤ μ (3 + 2 * r.toNat) 2 → Q (some (kI (μ (3 + 2 * r.toNat) 2))) (kg L) (kx_up (kx_up μ (3 + 2 * r.toNat) 2 (-1)) 1 10 0)) : kx_cx (ke (d + 3)) 72 [kR 1, kI r] (kg L) μ Q := by
  refine ke_start (tb := kt_X_drop) (ls := [some (kR 1), some (kI r)]) rfl rfl ?_
  refine ks_iload_n rfl rfl ?_
  refine ks_calls_1 rfl (Nat.le_of_ble_eq_true rfl) ?_
  -- at 1: call X_isRow st []
  refine r_isRow hr (fun h => ?_) (fun h => ?_)
  · show kx_wx _ _ _ _ _ (_ :: _) _ _
    have b := hb r.toNat (by omega)
    obtain ⟨a1, a2⟩ := kg_rows L (i := r) h.1 (by omega)
    refine ks_if_ne_1 rfl ?_
    generalize hw : 3 + 2 * r.toNat = w at *
    have w0 : w ≠ 1 := by omega
    have a3 := a2.1
    refine ks_aload_n rfl rfl ?_
    refine ks_getr (b := 2) rfl rfl rfl rfl (by decide) ?_
    refine ks_iload_n rfl rfl ?_
    refine ks_aaload (b := w) rfl rfl (Or.inl rfl) (by omega) (by omega) a1 (by omega) ?_
    refine ks_callv_1 rfl rfl (by assumption) (Nat.le_of_ble_eq_true rfl) ?_
    -- at 16: call Row_isMissing st []
    refine r_isMissing a2 ⟨by omega, by omega⟩ (fun h1 => ?_) (fun h1 => ?_)
    · show kx_wx _ _ _ _ _ (_ :: _) _ _
      refine ks_if_eq_1 rfl ?_
      refine ks_aload_n rfl rfl ?_
      refine ks_iconst rfl ?_
      refine ks_callv_2 rfl rfl rfl (Nat.le_of_ble_eq_true rfl) ?_
      -- at 24: call X_finding st []
      refine r_finding ?_
      show kx_wx _ _ _ _ _ (_ :: _) _ _
      refine ks_ireturn rfl ?_
      -- at 27: ret  st [None]
      exact t1 h.1 h.2 h1
    · show kx_wx _ _ _ _ _ (_ :: _) _ _
      refine ks_if_eq_0 rfl ?_
      refine ks_aload_n rfl rfl ?_
      refine ks_aload_n rfl rfl ?_
      refine ks_getr (b := 2) rfl rfl rfl rfl (by decide) ?_
      refine ks_iload_n rfl rfl ?_
      refine ks_aaload (b := w) rfl rfl (Or.inl rfl) (by omega) (by omega) a1 (by omega) ?_
      refine ks_callv_1 rfl rfl (by assumption) (Nat.le_of_ble_eq_true rfl) ?_
      -- at 35: call Row_remove st ['1']
      refine r_remove a2 ?_
      show kx_wx _ _ _ _ _ (_ :: _) _ _
      refine ks_callv_2 rfl rfl rfl (Nat.le_of_ble_eq_true rfl) ?_
      -- at 38: call X_noFinding st []
      refine r_noFinding ?_
      show kx_wx _ _ _ _ _ (_ :: _) _ _
      refine ks_ireturn rfl ?_
      -- at 41: ret  st [None]
      exact t2 h.1 h.2 (by omega)
  · show kx_wx _ _ _ _ _ (_ :: _) _ _
    refine ks_if_ne_0 rfl ?_
    refine ks_ldc rfl ?_
    refine ks_ireturn rfl ?_
    -- at 9: ret  st ['-1000001']
    exact t0 h
end XR
