/-! the class takes an act back -/
section AD
variable {d L : Nat} {G : kx_G} {μ : kx_M} {Q : Option kx_V → kx_G → kx_M → Prop} {m : Int} {h : Int → Int → Int} {s : Int → Int}
theorem r_revertLatest (R : RC μ m h s) (m1 : 1 ≤ m) (T : TR μ 30 s) (t : ∀ μ', RC μ' (m - 1) h (h (m - 1)) → TR μ' 30 (h (m - 1)) → (∀ c, c < 30 ∨ 39 < c → μ' c = μ c) → Q none (kg L) μ') : kx_cx (ke (d + 2)) 3 [kR 39, kR 30] (kg L) μ Q := by
  obtain ⟨r1, r2, r3, r4⟩ := R
  have A := r4 (m - 1) (by omega) (by omega)
  have hj : m - 1 + 1 = m := by omega
  rw [hj, hx_m] at A
  generalize hp : μ 39 4 = p at *
  have hq : (p - m + (m - 1)) % 24 = (p + 24 - 1) % 24 := by omega
  rw [hq] at A
  have hmod : (p + 24 - 1).tmod 24 = (p + 24 - 1) % 24 := Int.tmod_eq_emod_of_nonneg (by omega)
  generalize hqq : (p + 24 - 1) % 24 = q at *
  generalize hs' : h (m - 1) = s' at *
  have q0 : 0 ≤ q ∧ q < 24 := by omega
  obtain ⟨⟨W, Z⟩, A⟩ := A
  have ring : ∀ μ', μ' 39 4 = q → μ' 39 5 = m - 1 → (∀ c, 40 ≤ c → c ≤ 43 → μ' c = μ c) → RC μ' (m - 1) h s' := by
    intro μ' k4 k5 kc
    refine ⟨k5, by omega, by omega, fun j j0 j1 => ?_⟩
    have := r4 j j0 (by omega)
    rw [k4, kc 40 (by omega) (by omega), kc 41 (by omega) (by omega), kc 42 (by omega) (by omega), kc 43 (by omega) (by omega), show (q - (m - 1) + j) % 24 = (p - m + j) % 24 by omega]
    rw [hx_ne (by omega)] at this
    by_cases e : j + 1 = m - 1
    · rw [e, hx_m, ← hs', ← e]; exact this
    · rw [hx_ne e]; exact this
  refine ke_start (tb := kt_Acts_revertLatest) (ls := [some (kR 39), some (kR 30), none]) rfl rfl ?_
  have pre : ∀ x v, μ 40 q = x → μ 43 q = v → kx_in x → kx_wx (ke (d + 1)) kt_Acts_revertLatest Q 45 [some (kR 39), some (kR 30), some (kI v)] [kI x] (kg L) (kx_up (kx_up μ 39 4 q) 39 5 (m - 1)) → kx_wx (ke (d + 1)) kt_Acts_revertLatest Q 0 [some (kR 39), some (kR 30), none] [] (kg L) μ := by
    intro x v hx hv hi K
    refine ks_aload_n rfl rfl ?_
    refine ks_aload_n rfl rfl ?_
    refine ks_geti rfl rfl rfl rfl (by (try simp only [kx_up_at, kx_row_at, up1_at, Nat.reduceEqDiff, Int.reduceEq, Int.reduceNeg, and_true, true_and, and_false, false_and, and_self, reduceIte, Nat.add_left_cancel_iff, Nat.add_eq_left, Nat.left_eq_add, Nat.reduceAdd, Int.add_left_inj, Int.add_right_inj, hp, r1, hmod, hx, hv]); rfl) ?_
    refine ks_bipush rfl ?_
    refine ks_iadd rfl ?_
    refine ks_iconst rfl ?_
    refine ks_isub rfl ?_
    refine ks_bipush rfl ?_
    refine ks_irem rfl ⟨by omega, by omega⟩ ⟨by omega, by omega⟩ (by omega) ?_
    refine ks_puti rfl rfl ?_
    refine ks_aload_n rfl rfl ?_
    refine ks_dupR rfl ?_
    refine ks_geti rfl rfl rfl rfl (by (try simp only [kx_up_at, kx_row_at, up1_at, Nat.reduceEqDiff, Int.reduceEq, Int.reduceNeg, and_true, true_and, and_false, false_and, and_self, reduceIte, Nat.add_left_cancel_iff, Nat.add_eq_left, Nat.left_eq_add, Nat.reduceAdd, Int.add_left_inj, Int.add_right_inj, hp, r1, hmod, hx, hv]); rfl) ?_
    refine ks_iconst rfl ?_
    refine ks_isub rfl ?_
    refine ks_puti rfl rfl ?_
    refine ks_aload_n rfl rfl ?_
    refine ks_getr (b := 43) rfl rfl rfl rfl (by decide) ?_
    refine ks_aload_n rfl rfl ?_
    refine ks_geti rfl rfl rfl rfl (by (try simp only [kx_up_at, kx_row_at, up1_at, Nat.reduceEqDiff, Int.reduceEq, Int.reduceNeg, and_true, true_and, and_false, false_and, and_self, reduceIte, Nat.add_left_cancel_iff, Nat.add_eq_left, Nat.left_eq_add, Nat.reduceAdd, Int.add_left_inj, Int.add_right_inj, hp, r1, hmod, hx, hv]); rfl) ?_
    refine ks_iaload rfl rfl (by omega) (by omega) (by (try simp only [kx_up_at, kx_row_at, up1_at, Nat.reduceEqDiff, Int.reduceEq, Int.reduceNeg, and_true, true_and, and_false, false_and, and_self, reduceIte, Nat.add_left_cancel_iff, Nat.add_eq_left, Nat.left_eq_add, Nat.reduceAdd, Int.add_left_inj, Int.add_right_inj, hp, r1, hmod, hx, hv]); rfl) ?_
    refine ks_istore_n_2 rfl rfl ?_
    refine ks_aload_n rfl rfl ?_
    refine ks_getr (b := 40) rfl rfl rfl rfl (by decide) ?_
    refine ks_aload_n rfl rfl ?_
    refine ks_geti rfl rfl rfl rfl (by (try simp only [kx_up_at, kx_row_at, up1_at, Nat.reduceEqDiff, Int.reduceEq, Int.reduceNeg, and_true, true_and, and_false, false_and, and_self, reduceIte, Nat.add_left_cancel_iff, Nat.add_eq_left, Nat.left_eq_add, Nat.reduceAdd, Int.add_left_inj, Int.add_right_inj, hp, r1, hmod, hx, hv]); rfl) ?_
    refine ks_iaload rfl rfl (by omega) (by omega) (by (try simp only [kx_up_at, kx_row_at, up1_at, Nat.reduceEqDiff, Int.reduceEq, Int.reduceNeg, and_true, true_and, and_false, false_and, and_self, reduceIte, Nat.add_left_cancel_iff, Nat.add_eq_left, Nat.left_eq_add, Nat.reduceAdd, Int.add_left_inj, Int.add_right_inj, hp, r1, hmod, hx, hv]); rfl) ?_
    -- at 45: stop  st [None]
    rw [hmod]
    exact K
  have f4 : (kx_up (kx_up μ 39 4 q) 39 5 (m - 1)) 39 4 = q := by rw [kx_up_oth (by omega), kx_up_self]
  have f5 : (kx_up (kx_up μ 39 4 q) 39 5 (m - 1)) 39 5 = m - 1 := by rw [kx_up_self]
  have fc : ∀ c, c ≠ 39 → (kx_up (kx_up μ 39 4 q) 39 5 (m - 1)) c = μ c := fun c hc => by rw [kx_up_row hc, kx_up_row hc]
  generalize kx_up (kx_up μ 39 4 q) 39 5 (m - 1) = M at *
  have T1 : TR M 30 s := TR_fr T (fun c c0 c1 => fc c (by omega))
  have f40 := fc 40 (by omega)
  have f41 := fc 41 (by omega)
  have f42 := fc 42 (by omega)
  have f43 := fc 43 (by omega)
  generalize hv : μ 43 q = v at *
  generalize hy : μ 41 q = y at *
  generalize hw : μ 42 q = w at *
  rcases A with ⟨a1, a2, a3, a4, a5⟩ | ⟨a1, a2, u, a3⟩ | ⟨a1, a2, a3, u, a4⟩ | ⟨a1, a2, a3, u, a4⟩ | ⟨a1, a2, a3, a4, a5⟩
  · refine pre 0 v a1 rfl ⟨by omega, by omega⟩ ?_
    -- at 45: sw  st [None]
    refine ks_tsw rfl ⟨by omega, by omega⟩ ?_
    simp only [kx_sw, Int.reduceAdd, reduceIte]
    refine ks_aload_n rfl rfl ?_
    refine ks_aload_n rfl rfl ?_
    refine ks_getr (b := 41) rfl rfl rfl rfl (by decide) ?_
    refine ks_aload_n rfl rfl ?_
    refine ks_geti rfl rfl rfl rfl (by (try simp only [kx_up_at, kx_row_at, up1_at, Nat.reduceEqDiff, Int.reduceEq, Int.reduceNeg, and_true, true_and, and_false, false_and, and_self, reduceIte, Nat.add_left_cancel_iff, Nat.add_eq_left, Nat.left_eq_add, Nat.reduceAdd, Int.add_left_inj, Int.add_right_inj, f4, f41, f42, hy, hw]); rfl) ?_
    refine ks_iaload rfl rfl (by omega) (by omega) (by (try simp only [kx_up_at, kx_row_at, up1_at, Nat.reduceEqDiff, Int.reduceEq, Int.reduceNeg, and_true, true_and, and_false, false_and, and_self, reduceIte, Nat.add_left_cancel_iff, Nat.add_eq_left, Nat.left_eq_add, Nat.reduceAdd, Int.add_left_inj, Int.add_right_inj, f4, f41, f42, hy, hw]); rfl) ?_
    refine ks_aload_n rfl rfl ?_
    refine ks_getr (b := 42) rfl rfl rfl rfl (by decide) ?_
    refine ks_aload_n rfl rfl ?_
    refine ks_geti rfl rfl rfl rfl (by (try simp only [kx_up_at, kx_row_at, up1_at, Nat.reduceEqDiff, Int.reduceEq, Int.reduceNeg, and_true, true_and, and_false, false_and, and_self, reduceIte, Nat.add_left_cancel_iff, Nat.add_eq_left, Nat.left_eq_add, Nat.reduceAdd, Int.add_left_inj, Int.add_right_inj, f4, f41, f42, hy, hw]); rfl) ?_
    refine ks_iaload rfl rfl (by omega) (by omega) (by (try simp only [kx_up_at, kx_row_at, up1_at, Nat.reduceEqDiff, Int.reduceEq, Int.reduceNeg, and_true, true_and, and_false, false_and, and_self, reduceIte, Nat.add_left_cancel_iff, Nat.add_eq_left, Nat.left_eq_add, Nat.reduceAdd, Int.add_left_inj, Int.add_right_inj, f4, f41, f42, hy, hw]); rfl) ?_
    refine ks_iload_n rfl rfl ?_
    refine ks_callv_4 rfl rfl rfl (Nat.le_of_ble_eq_true rfl) ?_
    -- at 100: call Town_revertStep st []
    subst a2 a3 a4
    subst a5
    refine r_revertStep (B := 999) (by omega) (kg_T30 L) T1 W (fun μ1 T2 F2 => ?_)
    show kx_wx _ _ _ _ _ _ _ _
    refine ks_goto rfl ?_
    refine ks_return rfl ?_
    -- at 161: ret  st []
    refine t _ (ring _ ?_ ?_ (fun c c0 c1 => ?_)) T2 (fun c hc => ?_)
    · rw [F2 39 (by omega), f4]
    · rw [F2 39 (by omega), f5]
    · rw [F2 c (by omega), fc c (by omega)]
    · rw [F2 c (by omega), fc c (by omega)]
  · refine pre 1 v a1 rfl ⟨by omega, by omega⟩ ?_
    -- at 45: sw  st [None]
    refine ks_tsw rfl ⟨by omega, by omega⟩ ?_
    simp only [kx_sw, Int.reduceAdd, reduceIte, Int.reduceEq]
    refine ks_aload_n rfl rfl ?_
    refine ks_iload_n rfl rfl ?_
    refine ks_puti rfl rfl ?_
    refine ks_goto rfl ?_
    refine ks_return rfl ?_
    -- at 161: ret  st []
    refine t _ (ring _ ?_ ?_ (fun c c0 c1 => ?_)) ?_ (fun c hc => ?_)
    · rw [kx_up_row (by omega), f4]
    · rw [kx_up_row (by omega), f5]
    · rw [kx_up_row (by omega), fc c (by omega)]
    · have := TRx_10 (v := v) T1
      rw [a3, up1_up1, a2] at this
      rw [a2]
      unfold TR
      rw [up1_ne (by omega)] at this
      have e : up1 s' 0 (s' 0) = s' := by rw [← up1_up1 s' 0 0, up1_back]
      rw [e] at this
      exact this
    · rw [kx_up_row (by omega), fc c (by omega)]
  · refine pre 2 v a1 rfl ⟨by omega, by omega⟩ ?_
    -- at 45: sw  st [None]
    refine ks_tsw rfl ⟨by omega, by omega⟩ ?_
    simp only [kx_sw, Int.reduceAdd, reduceIte, Int.reduceEq]
    refine ks_aload_n rfl rfl ?_
    refine ks_aload_n rfl rfl ?_
    refine ks_getr (b := 41) rfl rfl rfl rfl (by decide) ?_
    refine ks_aload_n rfl rfl ?_
    refine ks_geti rfl rfl rfl rfl (by (try simp only [kx_up_at, kx_row_at, up1_at, Nat.reduceEqDiff, Int.reduceEq, Int.reduceNeg, and_true, true_and, and_false, false_and, and_self, reduceIte, Nat.add_left_cancel_iff, Nat.add_eq_left, Nat.left_eq_add, Nat.reduceAdd, Int.add_left_inj, Int.add_right_inj, f4, f41, f42, hy, hw]); rfl) ?_
    refine ks_iaload rfl rfl (by omega) (by omega) (by (try simp only [kx_up_at, kx_row_at, up1_at, Nat.reduceEqDiff, Int.reduceEq, Int.reduceNeg, and_true, true_and, and_false, false_and, and_self, reduceIte, Nat.add_left_cancel_iff, Nat.add_eq_left, Nat.left_eq_add, Nat.reduceAdd, Int.add_left_inj, Int.add_right_inj, f4, f41, f42, hy, hw]); rfl) ?_
    refine ks_puti rfl rfl ?_
    refine ks_aload_n rfl rfl ?_
    refine ks_aload_n rfl rfl ?_
    refine ks_getr (b := 42) rfl rfl rfl rfl (by decide) ?_
    refine ks_aload_n rfl rfl ?_
    refine ks_geti rfl rfl rfl rfl (by (try simp only [kx_up_at, kx_row_at, up1_at, Nat.reduceEqDiff, Int.reduceEq, Int.reduceNeg, and_true, true_and, and_false, false_and, and_self, reduceIte, Nat.add_left_cancel_iff, Nat.add_eq_left, Nat.left_eq_add, Nat.reduceAdd, Int.add_left_inj, Int.add_right_inj, f4, f41, f42, hy, hw]); rfl) ?_
    refine ks_iaload rfl rfl (by omega) (by omega) (by (try simp only [kx_up_at, kx_row_at, up1_at, Nat.reduceEqDiff, Int.reduceEq, Int.reduceNeg, and_true, true_and, and_false, false_and, and_self, reduceIte, Nat.add_left_cancel_iff, Nat.add_eq_left, Nat.left_eq_add, Nat.reduceAdd, Int.add_left_inj, Int.add_right_inj, f4, f41, f42, hy, hw]); rfl) ?_
    refine ks_puti rfl rfl ?_
    refine ks_goto rfl ?_
    refine ks_return rfl ?_
    -- at 161: ret  st []
    refine t _ (ring _ ?_ ?_ (fun c c0 c1 => ?_)) ?_ (fun c hc => ?_)
    · rw [kx_up_row (by omega), kx_up_row (by omega), f4]
    · rw [kx_up_row (by omega), kx_up_row (by omega), f5]
    · rw [kx_up_row (by omega), kx_up_row (by omega), fc c (by omega)]
    · have w1 := W.1
      have := TRx_12 (v := w) (TRx_11 (v := y) T1) (by rw [a4]; simp (disch := omega) only [up1_ne]; omega)
      have e : up1 (up1 s 4 y) 5 w = s' := by
        rw [a4, a2, a3]
        funext j
        by_cases e1 : j = 5
        · subst e1; rw [up1_self]
        · rw [up1_ne e1]
          by_cases e2 : j = 4
          · subst e2; rw [up1_self]
          · rw [up1_ne e2, up1_ne e1, up1_ne e2]
      rw [e] at this
      have e3 : s 3 = s' 3 := by rw [a4, up1_ne (by omega), up1_ne (by omega)]
      unfold TR
      rw [← e3]
      exact this
    · rw [kx_up_row (by omega), kx_up_row (by omega), fc c (by omega)]
  · refine pre 3 v a1 rfl ⟨by omega, by omega⟩ ?_
    -- at 45: sw  st [None]
    refine ks_tsw rfl ⟨by omega, by omega⟩ ?_
    simp only [kx_sw, Int.reduceAdd, reduceIte, Int.reduceEq]
    refine ks_aload_n rfl rfl ?_
    refine ks_iload_n rfl rfl ?_
    refine ks_puti rfl rfl ?_
    refine ks_goto rfl ?_
    refine ks_return rfl ?_
    -- at 161: ret  st []
    refine t _ (ring _ ?_ ?_ (fun c c0 c1 => ?_)) ?_ (fun c hc => ?_)
    · rw [kx_up_row (by omega), f4]
    · rw [kx_up_row (by omega), f5]
    · rw [kx_up_row (by omega), fc c (by omega)]
    · rw [a2]
      rw [a4] at T1
      exact TR_b3 W a3 T1
    · rw [kx_up_row (by omega), fc c (by omega)]
  · refine pre 4 v a1 rfl ⟨by omega, by omega⟩ ?_
    have w2 := W.2.1
    -- at 45: sw  st [None]
    refine ks_tsw rfl ⟨by omega, by omega⟩ ?_
    simp only [kx_sw, Int.reduceAdd, reduceIte, Int.reduceEq]
    refine ks_aload_n rfl rfl ?_
    refine ks_getr (b := 37) rfl rfl rfl rfl (by decide) ?_
    refine ks_iload_n rfl rfl ?_
    refine ks_iconst rfl ?_
    refine ks_iastore rfl rfl (by omega) (by omega) ?_
    refine ks_goto rfl ?_
    refine ks_return rfl ?_
    -- at 161: ret  st []
    refine t _ (ring _ ?_ ?_ (fun c c0 c1 => ?_)) ?_ (fun c hc => ?_)
    · rw [kx_up_row (by omega), f4]
    · rw [kx_up_row (by omega), f5]
    · rw [kx_up_row (by omega), fc c (by omega)]
    · rw [a5] at T1
      exact TR_b4 W a2 a3 a4 T1
    · rw [kx_up_row (by omega), fc c (by omega)]
theorem r_Xundo (R : RC μ m h s) (T : TR μ 30 s) (t0 : m = 0 → Q (some (kI (-1000002))) (kg L) μ) (t : 1 ≤ m → ∀ μ', RC μ' (m - 1) h (h (m - 1)) → TR μ' 30 (h (m - 1)) → (∀ c, c < 30 ∨ 39 < c → μ' c = μ c) → Q (some (kI (m - 1))) (kg L) μ') : kx_cx (ke (d + 3)) 81 [kR 1] (kg L) μ Q := by
  refine ke_start (tb := kt_X_undo) (ls := [some (kR 1)]) rfl rfl ?_
  have R0 := R
  obtain ⟨r1, r2, r3, r4⟩ := R
  refine ks_aload_n rfl rfl ?_
  refine ks_getr (b := 39) rfl rfl rfl rfl (by decide) ?_
  refine ks_geti rfl rfl rfl rfl (by (try simp only [kx_up_at, kx_row_at, up1_at, Nat.reduceEqDiff, Int.reduceEq, Int.reduceNeg, and_true, true_and, and_false, false_and, and_self, reduceIte, Nat.add_left_cancel_iff, Nat.add_eq_left, Nat.left_eq_add, Nat.reduceAdd, Int.add_left_inj, Int.add_right_inj, r1]); rfl) ?_
  -- at 7: if ne -> 13 else 10 st [None]
  refine ks_if_ne rfl ⟨by omega, by omega⟩ (fun c => ?_) (fun c => ?_)
  · refine ks_ldc rfl ?_
    refine ks_ireturn rfl ?_
    -- at 12: ret  st ['-1000002']
    exact t0 c
  · refine ks_aload_n rfl rfl ?_
    refine ks_getr (b := 39) rfl rfl rfl rfl (by decide) ?_
    refine ks_aload_n rfl rfl ?_
    refine ks_getr (b := 30) rfl rfl rfl rfl (by decide) ?_
    refine ks_callv_2 rfl rfl rfl (Nat.le_of_ble_eq_true rfl) ?_
    -- at 21: call Acts_revertLatest st []
    refine r_revertLatest R0 (by omega) T (fun μ1 R1 T1 F1 => ?_)
    have e5 := R1.1
    show kx_wx _ _ _ _ _ _ _ _
    refine ks_aload_n rfl rfl ?_
    refine ks_getr (b := 39) rfl rfl rfl rfl (by decide) ?_
    refine ks_geti rfl rfl rfl rfl (by (try simp only [kx_up_at, kx_row_at, up1_at, Nat.reduceEqDiff, Int.reduceEq, Int.reduceNeg, and_true, true_and, and_false, false_and, and_self, reduceIte, Nat.add_left_cancel_iff, Nat.add_eq_left, Nat.left_eq_add, Nat.reduceAdd, Int.add_left_inj, Int.add_right_inj, e5]); rfl) ?_
    refine ks_ireturn rfl ?_
    -- at 31: ret  st [None]
    exact t (by omega) μ1 R1 T1 F1
end AD
