/-! rows and acts, class side -/
section CS
variable {d L : Nat} {G : kx_G} {μ : kx_M} {Q : Option kx_V → kx_G → kx_M → Prop} {a : Nat}
theorem r_put {i x : Int} (hR : kg_R L a) (hl : kx_in (μ a 1)) (h0 : 0 ≤ i) (h1 : i < 40) (t : Q (some (kI (ln_cut (μ a 1) x))) (kg L) (kx_up μ (a + 1) i (ln_cut (μ a 1) x))) : kx_cx (ke (d + 2)) 35 [kR a, kI i, kI x] (kg L) μ Q := by
  refine ke_start (tb := kt_Row_put) (ls := [some (kR a), some (kI i), some (kI x)]) rfl rfl ?_
  have hR0 := hR
  obtain ⟨g0, g1, g2⟩ := hR
  refine ks_aload_n rfl rfl ?_
  refine ks_getr (b := a + 1) rfl rfl (by assumption) (by assumption) (Nat.succ_ne_zero _) ?_
  refine ks_iload_n rfl rfl ?_
  refine ks_aload_n rfl rfl ?_
  refine ks_iload_n rfl rfl ?_
  refine ks_callv_2 rfl rfl (by assumption) (Nat.le_of_ble_eq_true rfl) ?_
  -- at 7: call Row_cutToLane st [None, 'a + 1']
  refine r_cutToLane hR0 hl ?_
  show kx_wx _ _ _ _ _ (_ :: _) _ _
  refine ks_iastore rfl (by assumption) (by omega) (by omega) ?_
  refine ks_aload_n rfl rfl ?_
  refine ks_getr (b := a + 1) rfl rfl (by assumption) (by assumption) (Nat.succ_ne_zero _) ?_
  refine ks_iload_n rfl rfl ?_
  refine ks_iaload rfl (by assumption) (by omega) (by omega) (by (try simp only [kx_up_at, kx_row_at, up1_at, Nat.reduceEqDiff, Int.reduceEq, Int.reduceNeg, and_true, true_and, and_false, false_and, and_self, reduceIte, Nat.add_left_cancel_iff, Nat.add_eq_left, Nat.left_eq_add, Nat.reduceAdd, Int.add_left_inj, Int.add_right_inj]); rfl) ?_
  refine ks_ireturn rfl ?_
  -- at 17: ret  st [None]
  exact t
theorem r_forgetAll (t : Q none (kg L) (kx_up μ 39 5 0)) : kx_cx (ke (d + 1)) 1 [kR 39] (kg L) μ Q := by
  refine ke_start (tb := kt_Acts_forgetAll) (ls := [some (kR 39)]) rfl rfl ?_
  refine ks_aload_n rfl rfl ?_
  refine ks_iconst rfl ?_
  refine ks_puti rfl rfl ?_
  refine ks_return rfl ?_
  -- at 5: ret  st []
  exact t
theorem r_keep {x y w v : Int} {p n : Int} (hp : μ 39 4 = p) (hn : μ 39 5 = n) (p0 : 0 ≤ p) (p1 : p < 24) (n0 : 0 ≤ n) (n1 : n ≤ 24) (t : Q none (kg L) (kx_up (kx_up (kx_up (kx_up (kx_up (kx_up μ 40 p x) 41 p y) 42 p w) 43 p v) 39 4 ((p + 1) % 24)) 39 5 (min (n + 1) 24))) : kx_cx (ke (d + 2)) 2 [kR 39, kI x, kI y, kI w, kI v] (kg L) μ Q := by
  refine ke_start (tb := kt_Acts_keep) (ls := [some (kR 39), some (kI x), some (kI y), some (kI w), some (kI v)]) rfl rfl ?_
  have hm : (p + 1).tmod 24 = (p + 1) % 24 := Int.tmod_eq_emod_of_nonneg (by omega)
  refine ks_aload_n rfl rfl ?_
  refine ks_getr (b := 40) rfl rfl rfl rfl (by decide) ?_
  refine ks_aload_n rfl rfl ?_
  refine ks_geti rfl rfl rfl rfl (by (try simp only [kx_up_at, kx_row_at, up1_at, Nat.reduceEqDiff, Int.reduceEq, Int.reduceNeg, and_true, true_and, and_false, false_and, and_self, reduceIte, Nat.add_left_cancel_iff, Nat.add_eq_left, Nat.left_eq_add, Nat.reduceAdd, Int.add_left_inj, Int.add_right_inj, hp, hn, hm]); rfl) ?_
  refine ks_iload_n rfl rfl ?_
  refine ks_iastore rfl rfl (by omega) (by omega) ?_
  refine ks_aload_n rfl rfl ?_
  refine ks_getr (b := 41) rfl rfl rfl rfl (by decide) ?_
  refine ks_aload_n rfl rfl ?_
  refine ks_geti rfl rfl rfl rfl (by (try simp only [kx_up_at, kx_row_at, up1_at, Nat.reduceEqDiff, Int.reduceEq, Int.reduceNeg, and_true, true_and, and_false, false_and, and_self, reduceIte, Nat.add_left_cancel_iff, Nat.add_eq_left, Nat.left_eq_add, Nat.reduceAdd, Int.add_left_inj, Int.add_right_inj, hp, hn, hm]); rfl) ?_
  refine ks_iload_n rfl rfl ?_
  refine ks_iastore rfl rfl (by omega) (by omega) ?_
  refine ks_aload_n rfl rfl ?_
  refine ks_getr (b := 42) rfl rfl rfl rfl (by decide) ?_
  refine ks_aload_n rfl rfl ?_
  refine ks_geti rfl rfl rfl rfl (by (try simp only [kx_up_at, kx_row_at, up1_at, Nat.reduceEqDiff, Int.reduceEq, Int.reduceNeg, and_true, true_and, and_false, false_and, and_self, reduceIte, Nat.add_left_cancel_iff, Nat.add_eq_left, Nat.left_eq_add, Nat.reduceAdd, Int.add_left_inj, Int.add_right_inj, hp, hn, hm]); rfl) ?_
  refine ks_iload_n rfl rfl ?_
  refine ks_iastore rfl rfl (by omega) (by omega) ?_
  refine ks_aload_n rfl rfl ?_
  refine ks_getr (b := 43) rfl rfl rfl rfl (by decide) ?_
  refine ks_aload_n rfl rfl ?_
  refine ks_geti rfl rfl rfl rfl (by (try simp only [kx_up_at, kx_row_at, up1_at, Nat.reduceEqDiff, Int.reduceEq, Int.reduceNeg, and_true, true_and, and_false, false_and, and_self, reduceIte, Nat.add_left_cancel_iff, Nat.add_eq_left, Nat.left_eq_add, Nat.reduceAdd, Int.add_left_inj, Int.add_right_inj, hp, hn, hm]); rfl) ?_
  refine ks_iload rfl rfl ?_
  refine ks_iastore rfl rfl (by omega) (by omega) ?_
  refine ks_aload_n rfl rfl ?_
  refine ks_aload_n rfl rfl ?_
  refine ks_geti rfl rfl rfl rfl (by (try simp only [kx_up_at, kx_row_at, up1_at, Nat.reduceEqDiff, Int.reduceEq, Int.reduceNeg, and_true, true_and, and_false, false_and, and_self, reduceIte, Nat.add_left_cancel_iff, Nat.add_eq_left, Nat.left_eq_add, Nat.reduceAdd, Int.add_left_inj, Int.add_right_inj, hp, hn, hm]); rfl) ?_
  refine ks_iconst rfl ?_
  refine ks_iadd rfl ?_
  refine ks_bipush rfl ?_
  refine ks_irem rfl ⟨by omega, by omega⟩ ⟨by omega, by omega⟩ (by omega) ?_
  refine ks_puti rfl rfl ?_
  refine ks_aload_n rfl rfl ?_
  refine ks_aload_n rfl rfl ?_
  refine ks_geti rfl rfl rfl rfl (by (try simp only [kx_up_at, kx_row_at, up1_at, Nat.reduceEqDiff, Int.reduceEq, Int.reduceNeg, and_true, true_and, and_false, false_and, and_self, reduceIte, Nat.add_left_cancel_iff, Nat.add_eq_left, Nat.left_eq_add, Nat.reduceAdd, Int.add_left_inj, Int.add_right_inj, hp, hn, hm]); rfl) ?_
  refine ks_iconst rfl ?_
  refine ks_iadd rfl ?_
  refine ks_bipush rfl ?_
  refine ks_calls_2 rfl (Nat.le_of_ble_eq_true rfl) ?_
  -- at 63: call Math_min st ['39']
  refine r_min ⟨by omega, by omega⟩ ⟨by omega, by omega⟩ ?_
  show kx_wx _ _ _ _ _ (_ :: _) _ _
  refine ks_puti rfl rfl ?_
  refine ks_return rfl ?_
  -- at 69: ret  st []
  rw [hm]
  exact t
end CS
