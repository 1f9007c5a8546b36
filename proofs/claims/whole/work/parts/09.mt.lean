section MT
variable {d L : Nat} {G : kx_G} {μ : kx_M} {Q : Option kx_V → kx_G → kx_M → Prop}
theorem r_has {x k : Int} (h0 : 0 ≤ k) (h1 : k < 32) (t1 : kx_and (x.bmod 4294967296 / 2 ^ k.toNat) 1 = 1 → Q (some (kI 1)) G μ) (t0 : ¬ kx_and (x.bmod 4294967296 / 2 ^ k.toNat) 1 = 1 → Q (some (kI 0)) G μ) : kx_cx (ke (d + 1)) 117 [kI x, kI k] G μ Q := by
  obtain ⟨_, _⟩ := kx_and_in (x.bmod 4294967296 / 2 ^ k.toNat) 1
  refine ke_start (tb := kt_M_has) (ls := [some (kI x), some (kI k)]) rfl rfl ?_
  refine ks_iload_n rfl rfl ?_
  refine ks_iload_n rfl rfl ?_
  refine ks_ishr rfl (by omega) (by omega) ?_
  refine ks_iconst rfl ?_
  refine ks_iand rfl ?_
  refine ks_iconst rfl ?_
  refine ks_icmp_ne rfl ⟨by omega, by omega⟩ ⟨by omega, by omega⟩ (fun h1 => ?_) (fun h1 => ?_)
  · refine ks_iconst rfl ?_
    refine ks_goto rfl ?_
    refine ks_zreturn rfl (by omega) ?_
    first | exact t1 (by omega) | exact t0 (by omega)
  · refine ks_iconst rfl ?_
    refine ks_zreturn rfl (by omega) ?_
    first | exact t1 (by omega) | exact t0 (by omega)
theorem l_outMany {s : Int → Int} (hs : μ 81 = s) (hk : ∀ k, 0 ≤ k → k < s 2 → 0 ≤ s (38 + k) ∧ s (38 + k) ≤ 2) (h2 : 0 ≤ s 2 ∧ s 2 ≤ 4) (t : Q (some (kI (tw_out s))) (kg L) μ) : ∀ (r j : Nat), j + r = (s 2).toNat → kx_wx (ke d) kt_M_outMany Q 4 [some (kR 77), some (kI (tw_oc s j)), some (kI j)] [] (kg L) μ := by
  intro r
  induction r with
  | zero =>
    intro j hj
    refine ks_iload_n rfl rfl ?_
    refine ks_aload_n rfl rfl ?_
    refine ks_getr (b := 81) rfl rfl rfl rfl (by decide) ?_
    refine ks_iconst rfl ?_
    refine ks_iaload rfl rfl (by omega) (by omega) (by (try simp only [kx_up_at, kx_row_at, up1_at, Nat.reduceEqDiff, Int.reduceEq, Int.reduceNeg, and_true, true_and, and_false, false_and, and_self, reduceIte, Nat.add_left_cancel_iff, Nat.add_eq_left, Nat.left_eq_add, Nat.reduceAdd, Int.add_left_inj, Int.add_right_inj, hs]); rfl) ?_
    -- at 11: if ge -> 40 else 14 st [None, None]
    refine ks_icmp_ge rfl ⟨by omega, by omega⟩ ⟨by omega, by omega⟩ (fun h => ?_) (fun h => ?_)
    · exact absurd h (by omega)
    · refine ks_iload_n rfl rfl ?_
      refine ks_ireturn rfl ?_
      -- at 41: ret  st [None]
      unfold tw_out at t
      rw [← hj] at t
      exact t
  | succ r ih =>
    intro j hj
    have hkj := hk j (by omega) (by omega)
    refine ks_iload_n rfl rfl ?_
    refine ks_aload_n rfl rfl ?_
    refine ks_getr (b := 81) rfl rfl rfl rfl (by decide) ?_
    refine ks_iconst rfl ?_
    refine ks_iaload rfl rfl (by omega) (by omega) (by (try simp only [kx_up_at, kx_row_at, up1_at, Nat.reduceEqDiff, Int.reduceEq, Int.reduceNeg, and_true, true_and, and_false, false_and, and_self, reduceIte, Nat.add_left_cancel_iff, Nat.add_eq_left, Nat.left_eq_add, Nat.reduceAdd, Int.add_left_inj, Int.add_right_inj, hs]); rfl) ?_
    -- at 11: if ge -> 40 else 14 st [None, None]
    refine ks_icmp_ge rfl ⟨by omega, by omega⟩ ⟨by omega, by omega⟩ (fun h => ?_) (fun h => ?_)
    · refine ks_iload_n rfl rfl ?_
      refine ks_aload_n rfl rfl ?_
      refine ks_getr (b := 81) rfl rfl rfl rfl (by decide) ?_
      refine ks_bipush rfl ?_
      refine ks_iload_n rfl rfl ?_
      refine ks_iadd rfl ?_
      refine ks_iaload rfl rfl (by omega) (by omega) (by (try simp only [kx_up_at, kx_row_at, up1_at, Nat.reduceEqDiff, Int.reduceEq, Int.reduceNeg, and_true, true_and, and_false, false_and, and_self, reduceIte, Nat.add_left_cancel_iff, Nat.add_eq_left, Nat.left_eq_add, Nat.reduceAdd, Int.add_left_inj, Int.add_right_inj, hs]); rfl) ?_
      -- at 24: if ne -> 31 else 27 st [None, None]
      refine ks_if_ne rfl ⟨by omega, by omega⟩ (fun h => ?_) (fun h => ?_)
      · refine ks_iconst rfl ?_
        refine ks_goto rfl ?_
        refine ks_iadd rfl ?_
        refine ks_istore_n_1 rfl rfl ?_
        refine ks_iinc_2 rfl rfl ?_
        refine ks_goto rfl ?_
        -- at 4: stop  st []
        have e : tw_oc s j + 1 = tw_oc s (j + 1) := by simp only [tw_oc]; rw [if_pos h]
        rw [e]
        exact ih (j + 1) (by omega)
      · refine ks_iconst rfl ?_
        refine ks_iadd rfl ?_
        refine ks_istore_n_1 rfl rfl ?_
        refine ks_iinc_2 rfl rfl ?_
        refine ks_goto rfl ?_
        -- at 4: stop  st []
        have e : tw_oc s j + 0 = tw_oc s (j + 1) := by simp only [tw_oc]; rw [if_neg h]
        rw [e]
        exact ih (j + 1) (by omega)
    · exact absurd h (by omega)
theorem r_outMany {s : Int → Int} (hs : μ 81 = s) (hk : ∀ k, 0 ≤ k → k < s 2 → 0 ≤ s (38 + k) ∧ s (38 + k) ≤ 2) (h2 : 0 ≤ s 2 ∧ s 2 ≤ 4) (t : Q (some (kI (tw_out s))) (kg L) μ) : kx_cx (ke (d + 1)) 139 [kR 77] (kg L) μ Q := by
  refine ke_start (tb := kt_M_outMany) (ls := [some (kR 77), none, none]) rfl rfl ?_
  refine ks_iconst rfl ?_
  refine ks_istore_n_1 rfl rfl ?_
  refine ks_iconst rfl ?_
  refine ks_istore_n_2 rfl rfl ?_
  -- at 4: stop  st []
  exact l_outMany hs hk h2 t (s 2).toNat 0 (by omega)
theorem l_work {s : Int → Int} {B h : Int} (hs : μ 81 = s) (hw : tw_W B s) (hh : 0 ≤ h ∧ h < s 1) (t : kx_wx (ke (d + 1)) kt_M_work Q 55 [some (kR 77), some (kI h), some (kI (tw_found s h)), some (kI (-1))] [] (kg L) μ) : ∀ (j : Nat) (f : Int), j ≤ (s 2).toNat → tw_f s h j f = tw_found s h → kx_wx (ke (d + 1)) kt_M_work Q 11 [some (kR 77), some (kI h), some (kI f), some (kI (j - 1))] [] (kg L) μ := by
  obtain ⟨w1, w2, w3, w4, w5, w6, w7, w8⟩ := hw
  have q7 := w7 h hh.1 hh.2
  intro j
  induction j with
  | zero =>
    intro f hj hf
    refine ks_iload_n rfl rfl ?_
    -- at 12: if lt -> 55 else 15 st [None]
    refine ks_if_lt rfl ⟨by omega, by omega⟩ (fun h => ?_) (fun h => ?_)
    · have := t
      simp only [tw_f] at hf
      rw [← hf] at this
      exact this
    · exact absurd h (by omega)
  | succ j ih =>
    intro f hj hf
    have e : ((j + 1 : Nat) : Int) - 1 = j := by omega
    rw [e]
    have q8 := w8 j (by omega) (by omega)
    simp only [tw_f] at hf
    refine ks_iload_n rfl rfl ?_
    -- at 12: if lt -> 55 else 15 st [None]
    refine ks_if_lt rfl ⟨by omega, by omega⟩ (fun h => absurd h (by omega)) (fun h => ?_)
    refine ks_aload_n rfl rfl ?_
    refine ks_getr (b := 81) rfl rfl rfl rfl (by decide) ?_
    refine ks_bipush rfl ?_
    refine ks_iload_n rfl rfl ?_
    refine ks_iadd rfl ?_
    refine ks_iaload rfl rfl (by omega) (by omega) (by (try simp only [kx_up_at, kx_row_at, up1_at, Nat.reduceEqDiff, Int.reduceEq, Int.reduceNeg, and_true, true_and, and_false, false_and, and_self, reduceIte, Nat.add_left_cancel_iff, Nat.add_eq_left, Nat.left_eq_add, Nat.reduceAdd, Int.add_left_inj, Int.add_right_inj, hs]); rfl) ?_
    -- at 24: if ne -> 47 else 27 st [None]
    refine ks_if_ne rfl ⟨by omega, by omega⟩ (fun h1 => ?_) (fun h1 => ?_)
    · refine ks_aload_n rfl rfl ?_
      refine ks_getr (b := 81) rfl rfl rfl rfl (by decide) ?_
      refine ks_bipush rfl ?_
      refine ks_iload_n rfl rfl ?_
      refine ks_iadd rfl ?_
      refine ks_iaload rfl rfl (by omega) (by omega) (by (try simp only [kx_up_at, kx_row_at, up1_at, Nat.reduceEqDiff, Int.reduceEq, Int.reduceNeg, and_true, true_and, and_false, false_and, and_self, reduceIte, Nat.add_left_cancel_iff, Nat.add_eq_left, Nat.left_eq_add, Nat.reduceAdd, Int.add_left_inj, Int.add_right_inj, hs]); rfl) ?_
      refine ks_iload_n rfl rfl ?_
      refine ks_calls_2 rfl (Nat.le_of_ble_eq_true rfl) ?_
      -- at 37: call M_has st []
      refine r_has (by omega) (by omega) (fun h2 => ?_) (fun h2 => ?_)
      · show kx_wx _ _ _ _ _ (_ :: _) _ _
        refine ks_if_eq_1 rfl ?_
        refine ks_iload_n rfl rfl ?_
        refine ks_goto rfl ?_
        refine ks_istore_n_2 rfl rfl ?_
        refine ks_iinc_3 rfl rfl ?_
        refine ks_goto rfl ?_
        -- at 11: stop  st []
        rw [if_pos ⟨h1, h2⟩] at hf
        exact ih j (by omega) hf
      · show kx_wx _ _ _ _ _ (_ :: _) _ _
        refine ks_if_eq_0 rfl ?_
        refine ks_iload_n rfl rfl ?_
        refine ks_istore_n_2 rfl rfl ?_
        refine ks_iinc_3 rfl rfl ?_
        refine ks_goto rfl ?_
        -- at 11: stop  st []
        rw [if_neg (fun q => h2 q.2)] at hf
        exact ih f (by omega) hf
    · refine ks_iload_n rfl rfl ?_
      refine ks_istore_n_2 rfl rfl ?_
      refine ks_iinc_3 rfl rfl ?_
      refine ks_goto rfl ?_
      -- at 11: stop  st []
      rw [if_neg (fun q => h1 q.1)] at hf
      exact ih f (by omega) hf
theorem r_work {s : Int → Int} {B h : Int} (hs : μ 81 = s) (hw : tw_W B s) (hh : 0 ≤ h ∧ h < s 1) (t : Q none (kg L) (kx_row μ 81 (tw_work s h (tw_found s h)))) : kx_cx (ke (d + 2)) 140 [kR 77, kI h] (kg L) μ Q := by
  refine ke_start (tb := kt_M_work) (ls := [some (kR 77), some (kI h), none, none]) rfl rfl ?_
  have hw0 := hw
  obtain ⟨w1, w2, w3, w4, w5, w6, w7, w8⟩ := hw
  refine ks_iconst rfl ?_
  refine ks_istore_n_2 rfl rfl ?_
  refine ks_aload_n rfl rfl ?_
  refine ks_getr (b := 81) rfl rfl rfl rfl (by decide) ?_
  refine ks_iconst rfl ?_
  refine ks_iaload rfl rfl (by omega) (by omega) (by (try simp only [kx_up_at, kx_row_at, up1_at, Nat.reduceEqDiff, Int.reduceEq, Int.reduceNeg, and_true, true_and, and_false, false_and, and_self, reduceIte, Nat.add_left_cancel_iff, Nat.add_eq_left, Nat.left_eq_add, Nat.reduceAdd, Int.add_left_inj, Int.add_right_inj, hs]); rfl) ?_
  refine ks_iconst rfl ?_
  refine ks_isub rfl ?_
  refine ks_istore_n_3 rfl rfl ?_
  -- at 11: stop  st []
  have e0 : s 2 - 1 = ((s 2).toNat : Int) - 1 := by omega
  rw [e0]
  refine l_work hs hw0 hh ?_ (s 2).toNat (-1) (Nat.le_refl _) rfl
  generalize hf : tw_found s h = f at t
  have hfi := tw_found_in s h
  rw [hf] at hfi
  refine ks_iload_n rfl rfl ?_
  -- at 56: if lt -> 124 else 59 st [None]
  refine ks_if_lt rfl ⟨by omega, by omega⟩ (fun h1 => ?_) (fun h1 => ?_)
  · refine ks_return rfl ?_
    -- at 124: ret  st []
    unfold tw_work at t
    rw [if_pos h1, ← hs, kx_row_id] at t
    exact t
  · obtain ⟨f1, f2, f3⟩ := hfi.resolve_left (by omega)
    have q8 := w8 f f1 f2
    have n1 : ¬ (24 + h = 34 + f) := by omega
    have n2 : ¬ (34 + f = 24 + h) := by omega
    have n3 : ¬ ((3 : Int) = 24 + h) := by omega
    have n4 : ¬ ((3 : Int) = 34 + f) := by omega
    have n5 : ¬ ((3 : Int) = 38 + f) := by omega
    refine ks_aload_n rfl rfl ?_
    refine ks_getr (b := 81) rfl rfl rfl rfl (by decide) ?_
    refine ks_bipush rfl ?_
    refine ks_iload_n rfl rfl ?_
    refine ks_iadd rfl ?_
    refine ks_dup2 rfl ?_
    refine ks_iaload rfl rfl (by omega) (by omega) (by (try simp only [kx_up_at, kx_row_at, up1_at, Nat.reduceEqDiff, Int.reduceEq, Int.reduceNeg, and_true, true_and, and_false, false_and, and_self, reduceIte, Nat.add_left_cancel_iff, Nat.add_eq_left, Nat.left_eq_add, Nat.reduceAdd, Int.add_left_inj, Int.add_right_inj, hs, n1, n2, n3, n4, n5]); rfl) ?_
    refine ks_iconst rfl ?_
    refine ks_isub rfl ?_
    refine ks_iastore rfl rfl (by omega) (by omega) ?_
    refine ks_aload_n rfl rfl ?_
    refine ks_getr (b := 81) rfl rfl rfl rfl (by decide) ?_
    refine ks_bipush rfl ?_
    refine ks_iload_n rfl rfl ?_
    refine ks_iadd rfl ?_
    refine ks_dup2 rfl ?_
    refine ks_iaload rfl rfl (by omega) (by omega) (by (try simp only [kx_up_at, kx_row_at, up1_at, Nat.reduceEqDiff, Int.reduceEq, Int.reduceNeg, and_true, true_and, and_false, false_and, and_self, reduceIte, Nat.add_left_cancel_iff, Nat.add_eq_left, Nat.left_eq_add, Nat.reduceAdd, Int.add_left_inj, Int.add_right_inj, hs, n1, n2, n3, n4, n5]); rfl) ?_
    refine ks_iconst rfl ?_
    refine ks_iadd rfl ?_
    refine ks_iastore rfl rfl (by omega) (by omega) ?_
    refine ks_aload_n rfl rfl ?_
    refine ks_getr (b := 81) rfl rfl rfl rfl (by decide) ?_
    refine ks_bipush rfl ?_
    refine ks_iload_n rfl rfl ?_
    refine ks_iadd rfl ?_
    refine ks_iaload rfl rfl (by omega) (by omega) (by (try simp only [kx_up_at, kx_row_at, up1_at, Nat.reduceEqDiff, Int.reduceEq, Int.reduceNeg, and_true, true_and, and_false, false_and, and_self, reduceIte, Nat.add_left_cancel_iff, Nat.add_eq_left, Nat.left_eq_add, Nat.reduceAdd, Int.add_left_inj, Int.add_right_inj, hs, n1, n2, n3, n4, n5]); rfl) ?_
    -- at 94: if ne -> 124 else 97 st [None]
    refine ks_if_ne rfl ⟨by omega, by omega⟩ (fun h2 => ?_) (fun h2 => ?_)
    · refine ks_aload_n rfl rfl ?_
      refine ks_getr (b := 81) rfl rfl rfl rfl (by decide) ?_
      refine ks_bipush rfl ?_
      refine ks_iload_n rfl rfl ?_
      refine ks_iadd rfl ?_
      refine ks_iconst rfl ?_
      refine ks_iastore rfl rfl (by omega) (by omega) ?_
      refine ks_aload_n rfl rfl ?_
      refine ks_getr (b := 81) rfl rfl rfl rfl (by decide) ?_
      refine ks_bipush rfl ?_
      refine ks_iload_n rfl rfl ?_
      refine ks_iadd rfl ?_
      refine ks_aload_n rfl rfl ?_
      refine ks_getr (b := 81) rfl rfl rfl rfl (by decide) ?_
      refine ks_iconst rfl ?_
      refine ks_iaload rfl rfl (by omega) (by omega) (by (try simp only [kx_up_at, kx_row_at, up1_at, Nat.reduceEqDiff, Int.reduceEq, Int.reduceNeg, and_true, true_and, and_false, false_and, and_self, reduceIte, Nat.add_left_cancel_iff, Nat.add_eq_left, Nat.left_eq_add, Nat.reduceAdd, Int.add_left_inj, Int.add_right_inj, hs, n1, n2, n3, n4, n5]); rfl) ?_
      refine ks_iconst rfl ?_
      refine ks_iadd rfl ?_
      refine ks_iastore rfl rfl (by omega) (by omega) ?_
      refine ks_return rfl ?_
      -- at 124: ret  st []
      unfold tw_work at t
      rw [if_neg h1, if_pos h2] at t
      simp only [kx_up_up1, kx_row_self, kx_row_row, hs]
      exact t
    · refine ks_return rfl ?_
      -- at 124: ret  st []
      unfold tw_work at t
      rw [if_neg h1, if_neg h2] at t
      simp only [kx_up_up1, kx_row_self, kx_row_row, hs, up1_at, n1, if_false]
      exact t
theorem r_oneStep {s : Int → Int} {B : Int} (hB : B ≤ 100000) (hs : μ 81 = s) (hw : tw_W B s) (t : Q none (kg L) (kx_row μ 81 (tw_step s))) : kx_cx (ke (d + 3)) 141 [kR 77] (kg L) μ Q := by
  refine ke_start (tb := kt_M_oneStep) (ls := [some (kR 77), none, none, none]) rfl rfl ?_
  have hw0 := hw
  obtain ⟨w1, w2, w3, w4, w5, w6, w7, w8⟩ := hw
  generalize hh : s 4 = h at *
  have q7 := w7 h w3.1 w3.2
  refine ks_aload_n rfl rfl ?_
  refine ks_getr (b := 81) rfl rfl rfl rfl (by decide) ?_
  refine ks_iconst rfl ?_
  refine ks_iaload rfl rfl (by omega) (by omega) (by (try simp only [kx_up_at, kx_row_at, up1_at, Nat.reduceEqDiff, Int.reduceEq, Int.reduceNeg, and_true, true_and, and_false, false_and, and_self, reduceIte, Nat.add_left_cancel_iff, Nat.add_eq_left, Nat.left_eq_add, Nat.reduceAdd, Int.add_left_inj, Int.add_right_inj, hs, hh]); rfl) ?_
  refine ks_istore_n_1 rfl rfl ?_
  refine ks_aload_n rfl rfl ?_
  refine ks_getr (b := 81) rfl rfl rfl rfl (by decide) ?_
  refine ks_bipush rfl ?_
  refine ks_iload_n rfl rfl ?_
  refine ks_iadd rfl ?_
  refine ks_iaload rfl rfl (by omega) (by omega) (by (try simp only [kx_up_at, kx_row_at, up1_at, Nat.reduceEqDiff, Int.reduceEq, Int.reduceNeg, and_true, true_and, and_false, false_and, and_self, reduceIte, Nat.add_left_cancel_iff, Nat.add_eq_left, Nat.left_eq_add, Nat.reduceAdd, Int.add_left_inj, Int.add_right_inj, hs, hh]); rfl) ?_
  refine ks_istore_n_2 rfl rfl ?_
  refine ks_aload_n rfl rfl ?_
  refine ks_iload_n rfl rfl ?_
  refine ks_callv_2 rfl rfl rfl (Nat.le_of_ble_eq_true rfl) ?_
  -- at 19: call M_work st []
  refine r_work hs hw0 w3 ?_
  show kx_wx _ _ _ _ _ _ _ _
  unfold tw_step at t
  rw [hh] at t
  have hfi := tw_found_in s h
  have hlo : ∀ j : Int, j < 24 ∨ 30 ≤ j ∧ j < 34 → tw_work s h (tw_found s h) j = s j := fun j hj => tw_work_lo (by omega) (by omega) hj
  have hho : ∀ k : Int, 0 ≤ k → k < s 2 → 0 ≤ tw_work s h (tw_found s h) (38 + k) ∧ tw_work s h (tw_found s h) (38 + k) ≤ 2 := fun k a b => tw_work_how hw0 w3 (by omega) a b
  generalize tw_work s h (tw_found s h) = s1 at *
  refine ks_aload_n rfl rfl ?_
  refine ks_getr (b := 81) rfl rfl rfl rfl (by decide) ?_
  refine ks_iconst rfl ?_
  refine ks_dup2 rfl ?_
  refine ks_iaload rfl rfl (by omega) (by omega) (by (try simp only [kx_up_at, kx_row_at, up1_at, Nat.reduceEqDiff, Int.reduceEq, Int.reduceNeg, and_true, true_and, and_false, false_and, and_self, reduceIte, Nat.add_left_cancel_iff, Nat.add_eq_left, Nat.left_eq_add, Nat.reduceAdd, Int.add_left_inj, Int.add_right_inj]); rfl) ?_
  refine ks_iconst rfl ?_
  refine ks_iadd rfl ?_
  refine ks_iastore rfl rfl (by omega) (by omega) ?_
  refine ks_aload_n rfl rfl ?_
  refine ks_getr (b := 81) rfl rfl rfl rfl (by decide) ?_
  refine ks_iconst rfl ?_
  refine ks_dup2 rfl ?_
  refine ks_iaload rfl rfl (by omega) (by omega) (by (try simp only [kx_up_at, kx_row_at, up1_at, Nat.reduceEqDiff, Int.reduceEq, Int.reduceNeg, and_true, true_and, and_false, false_and, and_self, reduceIte, Nat.add_left_cancel_iff, Nat.add_eq_left, Nat.left_eq_add, Nat.reduceAdd, Int.add_left_inj, Int.add_right_inj]); rfl) ?_
  refine ks_iconst rfl ?_
  refine ks_iadd rfl ?_
  refine ks_iastore rfl rfl (by omega) (by omega) ?_
  -- at 42: stop  st []
  have em : kx_up (kx_up (kx_row μ 81 s1) 81 5 (s1 5 + 1)) 81 3 (s1 3 + 1) = kx_row μ 81 (tw_tick s1) := by
    rw [kx_up_row_row, kx_up_row_row]; rfl
  rw [em]
  have a5 : tw_tick s1 5 = s 5 + 1 := by rw [← hlo 5 (by omega)]; rfl
  have ao : ∀ j : Int, j ≠ 5 ∧ j ≠ 3 → tw_tick s1 j = s1 j := fun j hj => tw_tick_at hj
  have a1 : tw_tick s1 1 = s 1 := by rw [ao 1 (by omega), hlo 1 (by omega)]
  have a2 : tw_tick s1 2 = s 2 := by rw [ao 2 (by omega), hlo 2 (by omega)]
  have a0 : tw_tick s1 0 = s 0 := by rw [ao 0 (by omega), hlo 0 (by omega)]
  have ak : tw_tick s1 (6 + h) = s (6 + h) := by rw [ao _ (by omega), hlo _ (by omega)]
  have ap : tw_tick s1 (12 + h) = s (12 + h) := by rw [ao _ (by omega), hlo _ (by omega)]
  have ah : ∀ k : Int, 0 ≤ k → k < tw_tick s1 2 → 0 ≤ tw_tick s1 (38 + k) ∧ tw_tick s1 (38 + k) ≤ 2 := fun k b c => by rw [ao (38 + k) (by omega)]; exact hho k b (by omega)
  generalize tw_tick s1 = s2 at *
  have ou := tw_oc_in s2 (s2 2).toNat
  have ou' : tw_oc s2 (s2 2).toNat = tw_out s2 := rfl
  have fin : ∀ (on : Int) (x : Option kx_V), 0 ≤ h + on → h + on ≤ 1000 → (h + on) % s 1 = tw_on s2 h → ¬ s2 5 < s2 (12 + h) + (if s2 (6 + h) = 3 then tw_out s2 else 0) → kx_wx (ke (d + 2)) kt_M_oneStep Q 122 [some (kR 77), some (kI h), some (kI (s (6 + h))), x] [kI on] (kg L) (kx_row μ 81 s2) := by
    intro on x c0 c1 c2 c3
    refine ks_istore_n_3 rfl rfl ?_
    refine ks_aload_n rfl rfl ?_
    refine ks_getr (b := 81) rfl rfl rfl rfl (by decide) ?_
    refine ks_iconst rfl ?_
    refine ks_iload_n rfl rfl ?_
    refine ks_iload_n rfl rfl ?_
    refine ks_iadd rfl ?_
    refine ks_aload_n rfl rfl ?_
    refine ks_getr (b := 81) rfl rfl rfl rfl (by decide) ?_
    refine ks_iconst rfl ?_
    refine ks_iaload rfl rfl (by omega) (by omega) (by (try simp only [kx_up_at, kx_row_at, up1_at, Nat.reduceEqDiff, Int.reduceEq, Int.reduceNeg, and_true, true_and, and_false, false_and, and_self, reduceIte, Nat.add_left_cancel_iff, Nat.add_eq_left, Nat.left_eq_add, Nat.reduceAdd, Int.add_left_inj, Int.add_right_inj, a1]); rfl) ?_
    refine ks_irem rfl ⟨by omega, by omega⟩ ⟨by omega, by omega⟩ (by omega) ?_
    refine ks_iastore rfl rfl (by omega) (by omega) ?_
    refine ks_aload_n rfl rfl ?_
    refine ks_getr (b := 81) rfl rfl rfl rfl (by decide) ?_
    refine ks_iconst rfl ?_
    refine ks_iconst rfl ?_
    refine ks_iastore rfl rfl (by omega) (by omega) ?_
    refine ks_return rfl ?_
    -- at 146: ret  st []
    unfold tw_goes at t
    rw [if_neg c3] at t
    rw [kx_up_row_row, kx_up_row_row, tw_mod c0 (by omega), c2]
    exact t
  have key : ∀ (o : Int), o = (if s2 (6 + h) = 3 then tw_out s2 else 0) → kx_wx (ke (d + 2)) kt_M_oneStep Q 70 [some (kR 77), some (kI h), some (kI (s (6 + h))), none] [kI o, kI (s2 (12 + h)), kI (s2 5)] (kg L) (kx_row μ 81 s2) := by
    intro o ho
    have hob : 0 ≤ o ∧ o ≤ 4 := by rw [ho]; split <;> omega
    refine ks_iadd rfl ?_
    -- at 71: if lt -> 146 else 74 st [None, None]
    refine ks_icmp_lt rfl ⟨by omega, by omega⟩ ⟨by omega, by omega⟩ (fun c1 => ?_) (fun c1 => ?_)
    · refine ks_return rfl ?_
      -- at 146: ret  st []
      unfold tw_goes at t
      rw [if_pos (by rw [← ho]; exact c1)] at t
      exact t
    · rw [ho] at c1
      refine ks_iload_n rfl rfl ?_
      refine ks_iconst rfl ?_
      -- at 76: if ne -> 83 else 79 st ['2', None]
      refine ks_icmp_ne rfl ⟨by omega, by omega⟩ ⟨by omega, by omega⟩ (fun c2 => ?_) (fun c2 => ?_)
      · refine ks_iconst rfl ?_
        refine ks_goto rfl ?_
        -- at 122: stop  st ['2']
        refine fin 2 _ (by omega) (by omega) ?_ c1
        unfold tw_on
        rw [ak, if_pos c2, a1]
      · refine ks_iload_n rfl rfl ?_
        refine ks_iconst rfl ?_
        -- at 85: if ne -> 97 else 88 st ['4', None]
        refine ks_icmp_ne rfl ⟨by omega, by omega⟩ ⟨by omega, by omega⟩ (fun c3 => ?_) (fun c3 => ?_)
        · refine ks_aload_n rfl rfl ?_
          refine ks_getr (b := 81) rfl rfl rfl rfl (by decide) ?_
          refine ks_iconst rfl ?_
          refine ks_iaload rfl rfl (by omega) (by omega) (by (try simp only [kx_up_at, kx_row_at, up1_at, Nat.reduceEqDiff, Int.reduceEq, Int.reduceNeg, and_true, true_and, and_false, false_and, and_self, reduceIte, Nat.add_left_cancel_iff, Nat.add_eq_left, Nat.left_eq_add, Nat.reduceAdd, Int.add_left_inj, Int.add_right_inj, a0]); rfl) ?_
          refine ks_goto rfl ?_
          -- at 122: stop  st [None]
          refine fin (s 0) _ (by omega) (by omega) ?_ c1
          unfold tw_on
          rw [ak, if_neg c2, if_pos c3, a1, a0]
        · refine ks_iload_n rfl rfl ?_
          refine ks_iconst rfl ?_
          -- at 99: if ne -> 121 else 102 st ['5', None]
          refine ks_icmp_ne rfl ⟨by omega, by omega⟩ ⟨by omega, by omega⟩ (fun c4 => ?_) (fun c4 => ?_)
          · refine ks_aload_n rfl rfl ?_
            refine ks_getr (b := 81) rfl rfl rfl rfl (by decide) ?_
            refine ks_iconst rfl ?_
            refine ks_iaload rfl rfl (by omega) (by omega) (by (try simp only [kx_up_at, kx_row_at, up1_at, Nat.reduceEqDiff, Int.reduceEq, Int.reduceNeg, and_true, true_and, and_false, false_and, and_self, reduceIte, Nat.add_left_cancel_iff, Nat.add_eq_left, Nat.left_eq_add, Nat.reduceAdd, Int.add_left_inj, Int.add_right_inj, a0, a1]); rfl) ?_
            refine ks_bipush rfl ?_
            refine ks_imul rfl ?_
            refine ks_aload_n rfl rfl ?_
            refine ks_getr (b := 81) rfl rfl rfl rfl (by decide) ?_
            refine ks_iconst rfl ?_
            refine ks_iaload rfl rfl (by omega) (by omega) (by (try simp only [kx_up_at, kx_row_at, up1_at, Nat.reduceEqDiff, Int.reduceEq, Int.reduceNeg, and_true, true_and, and_false, false_and, and_self, reduceIte, Nat.add_left_cancel_iff, Nat.add_eq_left, Nat.left_eq_add, Nat.reduceAdd, Int.add_left_inj, Int.add_right_inj, a0, a1]); rfl) ?_
            refine ks_isub rfl ?_
            refine ks_goto rfl ?_
            -- at 122: stop  st [None]
            refine fin (s 1 * 6 - s 0) _ (by omega) (by omega) ?_ c1
            unfold tw_on
            rw [ak, if_neg c2, if_neg c3, if_pos c4, a1, a0]
            rw [show h + (s 1 * 6 - s 0) = (h - s 0) + s 1 * 6 by omega, Int.add_mul_emod_self_left]
          · refine ks_iconst rfl ?_
            -- at 122: stop  st ['1']
            refine fin 1 _ (by omega) (by omega) ?_ c1
            unfold tw_on
            rw [ak, if_neg c2, if_neg c3, if_neg c4, a1]
  refine ks_aload_n rfl rfl ?_
  refine ks_getr (b := 81) rfl rfl rfl rfl (by decide) ?_
  refine ks_iconst rfl ?_
  refine ks_iaload rfl rfl (by omega) (by omega) (by (try simp only [kx_up_at, kx_row_at, up1_at, Nat.reduceEqDiff, Int.reduceEq, Int.reduceNeg, and_true, true_and, and_false, false_and, and_self, reduceIte, Nat.add_left_cancel_iff, Nat.add_eq_left, Nat.left_eq_add, Nat.reduceAdd, Int.add_left_inj, Int.add_right_inj]); rfl) ?_
  refine ks_aload_n rfl rfl ?_
  refine ks_getr (b := 81) rfl rfl rfl rfl (by decide) ?_
  refine ks_bipush rfl ?_
  refine ks_iload_n rfl rfl ?_
  refine ks_iadd rfl ?_
  refine ks_iaload rfl rfl (by omega) (by omega) (by (try simp only [kx_up_at, kx_row_at, up1_at, Nat.reduceEqDiff, Int.reduceEq, Int.reduceNeg, and_true, true_and, and_false, false_and, and_self, reduceIte, Nat.add_left_cancel_iff, Nat.add_eq_left, Nat.left_eq_add, Nat.reduceAdd, Int.add_left_inj, Int.add_right_inj]); rfl) ?_
  refine ks_iload_n rfl rfl ?_
  refine ks_iconst rfl ?_
  -- at 59: if ne -> 69 else 62 st ['3', None, None, None]
  refine ks_icmp_ne rfl ⟨by omega, by omega⟩ ⟨by omega, by omega⟩ (fun c1 => ?_) (fun c1 => ?_)
  · refine ks_aload_n rfl rfl ?_
    refine ks_callv_1 rfl rfl rfl (Nat.le_of_ble_eq_true rfl) ?_
    -- at 63: call M_outMany st [None, None]
    refine r_outMany (s := s2) (kx_row_self _ _ _) ah (by omega) ?_
    show kx_wx _ _ _ _ _ (_ :: _) _ _
    refine ks_goto rfl ?_
    -- at 70: stop  st [None, None, None]
    exact key _ (by rw [ak, if_pos c1])
  · refine ks_iconst rfl ?_
    -- at 70: stop  st ['0', None, None]
    exact key _ (by rw [ak, if_neg c1])
end MT
