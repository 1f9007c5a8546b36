/-! reading a town, the reference, whole -/
theorem adh_eq2 {s : Int → Int} {k a b : Int} (h1 : 0 ≤ s 1 ∧ s 1 < 6) : up1 (up1 (up1 (up1 s (6 + s 1) k) 1 (s 1 + 1)) (12 + s 1) a) (18 + s 1) b = adh s k a b := by
  unfold adh
  rw [up1_comm (s := up1 s (6 + s 1) k) (i := 1) (j := 12 + s 1) (by omega), up1_comm (i := 1) (j := 18 + s 1) (by omega)]
theorem ado_eq2 {s : Int → Int} {x : Int} (h2 : 0 ≤ s 2 ∧ s 2 < 4) : up1 (up1 (up1 s 2 (s 2 + 1)) (30 + s 2) x) (34 + s 2) x = ado s x := by
  unfold ado
  rw [up1_comm (s := s) (i := 2) (j := 30 + s 2) (by omega), up1_comm (i := 2) (j := 34 + s 2) (by omega)]
theorem TK_t {μ : kx_M} {T : Int → Int} {n p : Int} (K : TK μ T n p) : 0 ≤ μ 77 11 ∧ μ 77 11 ≤ 3 ∧ (μ 77 11 = 3 ↔ p = n) := by
  obtain ⟨a, b, c⟩ := K
  rcases c with c | c | c | ⟨c1, c2, c3, c4⟩
  · omega
  · omega
  · omega
  · rcases c4 with c4 | c4 <;> omega
section PE
variable {d L : Nat} {G : kx_G} {μ : kx_M} {Q : Option kx_V → kx_G → kx_M → Prop} {s T : Int → Int} {n p c : Int} {R : PR (Int × (Int → Int))}
theorem r_isLetter (P : RP μ T n) (K : TK μ T n p) (hc : isl c) (t1 : p < n ∧ T p = c → Q (some (kI 1)) (kg L) μ) (t0 : ¬ (p < n ∧ T p = c) → Q (some (kI 0)) (kg L) μ) : kx_cx (ke (d + 1)) 129 [kR 77, kI c] (kg L) μ Q := by
  refine ke_start (tb := kt_M_isLetter) (ls := [some (kR 77), some (kI c)]) rfl rfl ?_
  have hb := P.2.2.1 p
  have hc' := hc
  unfold isl at hc'
  have fgd : p < n → T p = c → fg T n p = 0 := fun h e => fg_dig h (by omega)
  obtain ⟨K1, K2, K3⟩ := K
  rcases K3 with ⟨g1, g2, g3⟩ | ⟨g1, g2, g3, g4, g5, g6⟩ | ⟨g1, g2, g3, g4⟩ | ⟨g1, g2, g3, g4⟩
  · refine ks_aload_n rfl rfl ?_
    refine ks_geti rfl rfl rfl rfl (by (try simp only [kx_up_at, kx_row_at, up1_at, Nat.reduceEqDiff, Int.reduceEq, Int.reduceNeg, and_true, true_and, and_false, false_and, and_self, reduceIte, Nat.add_left_cancel_iff, Nat.add_eq_left, Nat.left_eq_add, Nat.reduceAdd, Int.add_left_inj, Int.add_right_inj, g2]); rfl) ?_
    refine ks_iconst rfl ?_
    -- at 5: if ne -> 20 else 8 st ['1', None]
    refine ks_icmp_ne rfl ⟨by omega, by omega⟩ ⟨by omega, by omega⟩ (fun q => absurd q (by omega)) (fun q => ?_)
    refine ks_iconst rfl ?_
    refine ks_zreturn rfl (by omega) ?_
    -- at 21: ret  st ['0']
    exact t0 (by omega)
  · refine ks_aload_n rfl rfl ?_
    refine ks_geti rfl rfl rfl rfl (by (try simp only [kx_up_at, kx_row_at, up1_at, Nat.reduceEqDiff, Int.reduceEq, Int.reduceNeg, and_true, true_and, and_false, false_and, and_self, reduceIte, Nat.add_left_cancel_iff, Nat.add_eq_left, Nat.left_eq_add, Nat.reduceAdd, Int.add_left_inj, Int.add_right_inj, g4]); rfl) ?_
    refine ks_iconst rfl ?_
    -- at 5: if ne -> 20 else 8 st ['1', None]
    refine ks_icmp_ne rfl ⟨by omega, by omega⟩ ⟨by omega, by omega⟩ (fun q => absurd q (by omega)) (fun q => ?_)
    refine ks_iconst rfl ?_
    refine ks_zreturn rfl (by omega) ?_
    -- at 21: ret  st ['0']
    exact t0 (fun w => by have := fgd w.1 w.2; omega)
  · refine ks_aload_n rfl rfl ?_
    refine ks_geti rfl rfl rfl rfl (by (try simp only [kx_up_at, kx_row_at, up1_at, Nat.reduceEqDiff, Int.reduceEq, Int.reduceNeg, and_true, true_and, and_false, false_and, and_self, reduceIte, Nat.add_left_cancel_iff, Nat.add_eq_left, Nat.left_eq_add, Nat.reduceAdd, Int.add_left_inj, Int.add_right_inj, g3]); rfl) ?_
    refine ks_iconst rfl ?_
    -- at 5: if ne -> 20 else 8 st ['1', None]
    refine ks_icmp_ne rfl ⟨by omega, by omega⟩ ⟨by omega, by omega⟩ (fun q => absurd q (by omega)) (fun q => ?_)
    refine ks_iconst rfl ?_
    refine ks_zreturn rfl (by omega) ?_
    -- at 21: ret  st ['0']
    exact t0 (fun w => by have := fgd w.1 w.2; omega)
  · rcases g4 with ⟨h1, h2, h3⟩ | ⟨h1, h2⟩
    · refine ks_aload_n rfl rfl ?_
      refine ks_geti rfl rfl rfl rfl (by (try simp only [kx_up_at, kx_row_at, up1_at, Nat.reduceEqDiff, Int.reduceEq, Int.reduceNeg, and_true, true_and, and_false, false_and, and_self, reduceIte, Nat.add_left_cancel_iff, Nat.add_eq_left, Nat.left_eq_add, Nat.reduceAdd, Int.add_left_inj, Int.add_right_inj, h2, h3]); rfl) ?_
      refine ks_iconst rfl ?_
      -- at 5: if ne -> 20 else 8 st ['1', None]
      refine ks_icmp_ne rfl ⟨by omega, by omega⟩ ⟨by omega, by omega⟩ (fun q => ?_) (fun q => absurd q (by omega))
      refine ks_aload_n rfl rfl ?_
      refine ks_geti rfl rfl rfl rfl (by (try simp only [kx_up_at, kx_row_at, up1_at, Nat.reduceEqDiff, Int.reduceEq, Int.reduceNeg, and_true, true_and, and_false, false_and, and_self, reduceIte, Nat.add_left_cancel_iff, Nat.add_eq_left, Nat.left_eq_add, Nat.reduceAdd, Int.add_left_inj, Int.add_right_inj, h2, h3]); rfl) ?_
      refine ks_iload_n rfl rfl ?_
      -- at 13: if ne -> 20 else 16 st [None, None]
      refine ks_icmp_ne rfl ⟨by omega, by omega⟩ ⟨by omega, by omega⟩ (fun q2 => ?_) (fun q2 => ?_)
      · refine ks_iconst rfl ?_
        refine ks_goto rfl ?_
        refine ks_zreturn rfl (by omega) ?_
        -- at 21: ret  st ['1']
        exact t1 ⟨g1, q2⟩
      · refine ks_iconst rfl ?_
        refine ks_zreturn rfl (by omega) ?_
        -- at 21: ret  st ['0']
        exact t0 (fun w => q2 w.2)
    · refine ks_aload_n rfl rfl ?_
      refine ks_geti rfl rfl rfl rfl (by (try simp only [kx_up_at, kx_row_at, up1_at, Nat.reduceEqDiff, Int.reduceEq, Int.reduceNeg, and_true, true_and, and_false, false_and, and_self, reduceIte, Nat.add_left_cancel_iff, Nat.add_eq_left, Nat.left_eq_add, Nat.reduceAdd, Int.add_left_inj, Int.add_right_inj, h2]); rfl) ?_
      refine ks_iconst rfl ?_
      -- at 5: if ne -> 20 else 8 st ['1', None]
      refine ks_icmp_ne rfl ⟨by omega, by omega⟩ ⟨by omega, by omega⟩ (fun q => absurd q (by omega)) (fun q => ?_)
      refine ks_iconst rfl ?_
      refine ks_zreturn rfl (by omega) ?_
      -- at 21: ret  st ['0']
      exact t0 (fun w => h1 (by rw [w.2]; exact hc))
theorem r_faults {f : Int} (t : Q (some (kI 0)) (kg L) (kx_up μ 77 14 f)) : kx_cx (ke (d + 1)) 128 [kR 77, kI f] (kg L) μ Q := by
  refine ke_start (tb := kt_M_faults) (ls := [some (kR 77), some (kI f)]) rfl rfl ?_
  refine ks_aload_n rfl rfl ?_
  refine ks_iload_n rfl rfl ?_
  refine ks_puti rfl rfl ?_
  refine ks_iconst rfl ?_
  refine ks_zreturn rfl (by omega) ?_
  -- at 6: ret  st ['0']
  exact t
theorem r_takes (P : RP μ T n) (K : TK μ T n p) (hc : isl c) (t1 : p < n ∧ T p = c → ∀ μ', TK μ' T n (p + 1) → FrN μ μ' → Q (some (kI 1)) (kg L) μ') (t0 : ¬ (p < n ∧ T p = c) → Q (some (kI 0)) (kg L) (kx_up μ 77 14 1)) : kx_cx (ke (d + 3)) 130 [kR 77, kI c] (kg L) μ Q := by
  refine ke_start (tb := kt_M_takes) (ls := [some (kR 77), some (kI c)]) rfl rfl ?_
  refine ks_aload_n rfl rfl ?_
  refine ks_iload_n rfl rfl ?_
  refine ks_callv_2 rfl rfl rfl (Nat.le_of_ble_eq_true rfl) ?_
  -- at 2: call M_isLetter st []
  refine r_isLetter P K hc (fun q => ?_) (fun q => ?_)
  · have h10 := TK_let K q.1 (by rw [q.2]; exact hc)
    have K2 := K.2.1
    show kx_wx _ _ _ _ _ (_ :: _) _ _
    refine ks_if_ne_1 rfl ?_
    refine ks_aload_n rfl rfl ?_
    refine ks_callv_1 rfl rfl rfl (Nat.le_of_ble_eq_true rfl) ?_
    -- at 15: call M_nextToken st []
    refine r_nextToken P (by omega) (by omega) h10 (fun μ1 K1 F1 => ?_)
    show kx_wx _ _ _ _ _ _ _ _
    refine ks_iconst rfl ?_
    refine ks_zreturn rfl (by omega) ?_
    -- at 19: ret  st ['1']
    exact t1 q _ K1 F1
  · show kx_wx _ _ _ _ _ (_ :: _) _ _
    refine ks_if_ne_0 rfl ?_
    refine ks_aload_n rfl rfl ?_
    refine ks_iconst rfl ?_
    refine ks_callv_2 rfl rfl rfl (Nat.le_of_ble_eq_true rfl) ?_
    -- at 10: call M_faults st []
    refine r_faults ?_
    show kx_wx _ _ _ _ _ (_ :: _) _ _
    refine ks_zreturn rfl (by omega) ?_
    -- at 13: ret  st [None]
    exact t0 q
theorem r_takesNumber {lo hi at' sg : Int} {R' : PR (Int × Int)} (P : RP μ T n) (K : TK μ T n p) (hs : isl sg) (l0 : 0 ≤ lo ∧ lo ≤ 100) (l1 : 0 ≤ hi ∧ hi ≤ 100) (a0 : 0 ≤ at') (a1 : at' < 46) (hR : ps_num T n p lo hi (fun v p1 => ps_tk T n p1 sg ((.inr (p1 + 1, v) : PR (Int × Int)))) = R') (t1 : ∀ p' v μ', R' = .inr (p', v) → lo ≤ v → v ≤ hi → TK μ' T n p' → μ' 84 = up1 (μ 84) at' v → FrR μ μ' → Q (some (kI 1)) (kg L) μ') (t0 : ∀ f q μ', R' = .inl (f, q) → μ' 77 14 = f → μ' 77 13 = q → FrR μ μ' → Q (some (kI 0)) (kg L) μ') : kx_cx (ke (d + 4)) 131 [kR 77, kI lo, kI hi, kI at', kI sg] (kg L) μ Q := by
  refine ke_start (tb := kt_M_takesNumber) (ls := [some (kR 77), some (kI lo), some (kI hi), some (kI at'), some (kI sg)]) rfl rfl ?_
  have K0 := K
  have hf := fg_in (T := T) (n := n) (p := p) K.2.1.2
  obtain ⟨K1, K2, K3⟩ := K
  have bad : (fg T n p = 0 ∨ 2 < fg T n p) → ∀ k, μ 77 11 = k → k ≠ 2 → 0 ≤ k → k ≤ 3 → kx_wx (ke (d + 3)) kt_M_takesNumber Q 0 [some (kR 77), some (kI lo), some (kI hi), some (kI at'), some (kI sg)] [] (kg L) μ := by
    intro h k hk k2 k0 k3
    rw [ps_num_0 h] at hR
    refine ks_aload_n rfl rfl ?_
    refine ks_geti rfl rfl rfl rfl (by (try simp only [kx_up_at, kx_row_at, up1_at, Nat.reduceEqDiff, Int.reduceEq, Int.reduceNeg, and_true, true_and, and_false, false_and, and_self, reduceIte, Nat.add_left_cancel_iff, Nat.add_eq_left, Nat.left_eq_add, Nat.reduceAdd, Int.add_left_inj, Int.add_right_inj, hk]); rfl) ?_
    refine ks_iconst rfl ?_
    -- at 5: if ne -> 23 else 8 st ['2', None]
    refine ks_icmp_ne rfl ⟨by omega, by omega⟩ ⟨by omega, by omega⟩ (fun q => absurd q (by omega)) (fun q => ?_)
    refine ks_aload_n rfl rfl ?_
    refine ks_aload_n rfl rfl ?_
    refine ks_geti rfl rfl rfl rfl (by (try simp only [kx_up_at, kx_row_at, up1_at, Nat.reduceEqDiff, Int.reduceEq, Int.reduceNeg, and_true, true_and, and_false, false_and, and_self, reduceIte, Nat.add_left_cancel_iff, Nat.add_eq_left, Nat.left_eq_add, Nat.reduceAdd, Int.add_left_inj, Int.add_right_inj, hk]); rfl) ?_
    refine ks_iconst rfl ?_
    -- at 29: if ne -> 36 else 32 st ['2', None, '77']
    refine ks_icmp_ne rfl ⟨by omega, by omega⟩ ⟨by omega, by omega⟩ (fun q2 => absurd q2 (by omega)) (fun q2 => ?_)
    refine ks_iconst rfl ?_
    refine ks_callv_2 rfl rfl rfl (Nat.le_of_ble_eq_true rfl) ?_
    -- at 37: call M_faults st []
    refine r_faults ?_
    show kx_wx _ _ _ _ _ (_ :: _) _ _
    refine ks_zreturn rfl (by omega) ?_
    -- at 40: ret  st [None]
    refine t0 1 p _ hR.symm (kx_up_self _ _ _ _) ?_ (FrR_14 (FrR_rf μ))
    rw [kx_up_oth (by omega)]; exact K1
  rcases K3 with ⟨g1, g2, g3⟩ | ⟨g1, g2, g3, g4, g5, g6⟩ | ⟨g1, g2, g3, g4⟩ | ⟨g1, g2, g3, g4⟩
  · exact bad (Or.inl (by omega)) 3 g2 (by omega) (by omega) (by omega)
  · have h1 : ¬ (fg T n p = 0 ∨ 2 < fg T n p) := by omega
    have hv := nv_in (T := T) (n := n) (p := p) (by omega) (by omega)
    refine ks_aload_n rfl rfl ?_
    refine ks_geti rfl rfl rfl rfl (by (try simp only [kx_up_at, kx_row_at, up1_at, Nat.reduceEqDiff, Int.reduceEq, Int.reduceNeg, and_true, true_and, and_false, false_and, and_self, reduceIte, Nat.add_left_cancel_iff, Nat.add_eq_left, Nat.left_eq_add, Nat.reduceAdd, Int.add_left_inj, Int.add_right_inj, g4, g5]); rfl) ?_
    refine ks_iconst rfl ?_
    -- at 5: if ne -> 23 else 8 st ['2', None]
    refine ks_icmp_ne rfl ⟨by omega, by omega⟩ ⟨by omega, by omega⟩ (fun q => ?_) (fun q => absurd q (by omega))
    refine ks_aload_n rfl rfl ?_
    refine ks_geti rfl rfl rfl rfl (by (try simp only [kx_up_at, kx_row_at, up1_at, Nat.reduceEqDiff, Int.reduceEq, Int.reduceNeg, and_true, true_and, and_false, false_and, and_self, reduceIte, Nat.add_left_cancel_iff, Nat.add_eq_left, Nat.left_eq_add, Nat.reduceAdd, Int.add_left_inj, Int.add_right_inj, g4, g5]); rfl) ?_
    refine ks_i2l rfl ⟨by omega, by omega⟩ ?_
    refine ks_iload_n rfl rfl ?_
    refine ks_i2l rfl ⟨by omega, by omega⟩ ?_
    refine ks_iload_n rfl rfl ?_
    refine ks_i2l rfl ⟨by omega, by omega⟩ ?_
    refine ks_calls_3 rfl (Nat.le_of_ble_eq_true rfl) ?_
    -- at 17: call M_in st []
    refine r_in ⟨by omega, by omega⟩ ⟨by omega, by omega⟩ ⟨by omega, by omega⟩ (fun c2 => ?_) (fun c2 => ?_)
    · rw [ps_num_1 h1 (by omega)] at hR
      generalize fg T n p = f at *
      generalize nv T p f = v at *
      have F1 : FrR μ (kx_up μ 84 at' v) := FrR_84 (FrR_rf μ) a0 a1
      have r84 : kx_up μ 84 at' v 84 = up1 (μ 84) at' v := by rw [kx_up_up1, kx_row_self]
      have r10 : kx_up μ 84 at' v 77 10 = p + f := by rw [kx_up_row (by omega)]; exact g6
      show kx_wx _ _ _ _ _ (_ :: _) _ _
      refine ks_if_ne_1 rfl ?_
      refine ks_aload_n rfl rfl ?_
      refine ks_getr (b := 84) rfl rfl rfl rfl (by decide) ?_
      refine ks_iload_n rfl rfl ?_
      refine ks_aload_n rfl rfl ?_
      refine ks_geti rfl rfl rfl rfl (by (try simp only [kx_up_at, kx_row_at, up1_at, Nat.reduceEqDiff, Int.reduceEq, Int.reduceNeg, and_true, true_and, and_false, false_and, and_self, reduceIte, Nat.add_left_cancel_iff, Nat.add_eq_left, Nat.left_eq_add, Nat.reduceAdd, Int.add_left_inj, Int.add_right_inj, g5]); rfl) ?_
      refine ks_iastore rfl rfl (by omega) (by omega) ?_
      refine ks_aload_n rfl rfl ?_
      refine ks_callv_1 rfl rfl rfl (Nat.le_of_ble_eq_true rfl) ?_
      -- at 52: call M_nextToken st []
      generalize kx_up μ 84 at' v = μ1 at *
      refine r_nextToken (RP_fr P F1) (by omega) (by omega) r10 (fun μ2 T2 F2 => ?_)
      show kx_wx _ _ _ _ _ _ _ _
      refine ks_aload_n rfl rfl ?_
      refine ks_iload rfl rfl ?_
      refine ks_callv_2 rfl rfl rfl (Nat.le_of_ble_eq_true rfl) ?_
      -- at 58: call M_takes st []
      have F3 := FrR_tr F1 (FrN_R F2)
      refine r_takes (RP_fr P F3) T2 hs (fun q3 μ3 T3 F4 => ?_) (fun q3 => ?_)
      · rw [ps_tk_1 q3] at hR
        show kx_wx _ _ _ _ _ (_ :: _) _ _
        refine ks_zreturn rfl (by omega) ?_
        -- at 61: ret  st ['1']
        refine t1 (p + f + 1) v _ hR.symm c2.1 c2.2 T3 ?_ (FrR_tr F3 (FrN_R F4))
        rw [F4.2 84 (by omega), F2.2 84 (by omega), r84]
      · rw [ps_tk_0 q3] at hR
        show kx_wx _ _ _ _ _ (_ :: _) _ _
        refine ks_zreturn rfl (by omega) ?_
        -- at 61: ret  st ['0']
        refine t0 1 (p + f) _ hR.symm (kx_up_self _ _ _ _) ?_ (FrR_14 F3)
        rw [kx_up_oth (by omega)]; exact T2.1
    · rw [ps_num_2 h1 (by omega)] at hR
      show kx_wx _ _ _ _ _ (_ :: _) _ _
      refine ks_if_ne_0 rfl ?_
      refine ks_aload_n rfl rfl ?_
      refine ks_aload_n rfl rfl ?_
      refine ks_geti rfl rfl rfl rfl (by (try simp only [kx_up_at, kx_row_at, up1_at, Nat.reduceEqDiff, Int.reduceEq, Int.reduceNeg, and_true, true_and, and_false, false_and, and_self, reduceIte, Nat.add_left_cancel_iff, Nat.add_eq_left, Nat.left_eq_add, Nat.reduceAdd, Int.add_left_inj, Int.add_right_inj, g4, g5]); rfl) ?_
      refine ks_iconst rfl ?_
      -- at 29: if ne -> 36 else 32 st ['2', None, '77']
      refine ks_icmp_ne rfl ⟨by omega, by omega⟩ ⟨by omega, by omega⟩ (fun q2 => ?_) (fun q2 => absurd q2 (by omega))
      refine ks_iconst rfl ?_
      refine ks_goto rfl ?_
      refine ks_callv_2 rfl rfl rfl (Nat.le_of_ble_eq_true rfl) ?_
      -- at 37: call M_faults st []
      refine r_faults ?_
      show kx_wx _ _ _ _ _ (_ :: _) _ _
      refine ks_zreturn rfl (by omega) ?_
      -- at 40: ret  st [None]
      refine t0 2 p _ hR.symm (kx_up_self _ _ _ _) ?_ (FrR_14 (FrR_rf μ))
      rw [kx_up_oth (by omega)]; exact K1
  · exact bad (Or.inr g2) 0 g3 (by omega) (by omega) (by omega)
  · rcases g4 with g4 | g4
    · exact bad (Or.inl g2) 1 g4.2.1 (by omega) (by omega) (by omega)
    · exact bad (Or.inl g2) 0 g4.2 (by omega) (by omega) (by omega)
theorem isl_44 : isl 44 := by unfold isl; omega
theorem isl_59 : isl 59 := by unfold isl; omega
theorem r_MreadHead {k : Int} (P : RP μ T n) (K : TK μ T n p) (hpn : p < n) (hl : isl (T p)) (k0 : 1 ≤ k) (k1 : k ≤ 5) (hs : μ 84 = s) (S : PS s) (s2 : s 2 = 0) (hR : ps_head T n k p s = R) (t1 : ∀ p' s' μ', R = .inr (p', s') → PS s' → s' 1 = s 1 + 1 → s' 2 = 0 → TK μ' T n p' → μ' 84 = s' → FrR μ μ' → Q (some (kI 1)) (kg L) μ') (t0 : ∀ f q μ', R = .inl (f, q) → μ' 77 14 = f → μ' 77 13 = q → FrR μ μ' → Q (some (kI 0)) (kg L) μ') : kx_cx (ke (d + 5)) 132 [kR 77, kI k] (kg L) μ Q := by
  refine ke_start (tb := kt_M_readHead) (ls := [some (kR 77), some (kI k), none]) rfl rfl ?_
  have s1 := S.1
  have h10 := TK_let K hpn hl
  have K2 := K.2.1
  unfold ps_head at hR
  have no6 : s 1 < 6 → kx_wx (ke (d + 4)) kt_M_readHead Q 41 [some (kR 77), some (kI k), some (kI (s 1))] [] (kg L) μ := by
    intro h6
    rw [if_neg (by omega)] at hR
    refine ks_aload_n rfl rfl ?_
    refine ks_callv_1 rfl rfl rfl (Nat.le_of_ble_eq_true rfl) ?_
    -- at 42: call M_nextToken st []
    refine r_nextToken P (by omega) (by omega) h10 (fun μ1 K1 F1 => ?_)
    have e1 : μ1 84 = s := by rw [F1.2 84 (by omega)]; exact hs
    have m1 : ¬ ((1 : Int) = 6 + s 1) := by omega
    show kx_wx _ _ _ _ _ _ _ _
    refine ks_aload_n rfl rfl ?_
    refine ks_getr (b := 84) rfl rfl rfl rfl (by decide) ?_
    refine ks_bipush rfl ?_
    refine ks_iload_n rfl rfl ?_
    refine ks_iadd rfl ?_
    refine ks_iload_n rfl rfl ?_
    refine ks_iastore rfl rfl (by omega) (by omega) ?_
    refine ks_aload_n rfl rfl ?_
    refine ks_getr (b := 84) rfl rfl rfl rfl (by decide) ?_
    refine ks_iconst rfl ?_
    refine ks_dup2 rfl ?_
    refine ks_iaload rfl rfl (by omega) (by omega) (by (try simp only [kx_up_at, kx_row_at, up1_at, Nat.reduceEqDiff, Int.reduceEq, Int.reduceNeg, and_true, true_and, and_false, false_and, and_self, reduceIte, Nat.add_left_cancel_iff, Nat.add_eq_left, Nat.left_eq_add, Nat.reduceAdd, Int.add_left_inj, Int.add_right_inj, e1, m1]); rfl) ?_
    refine ks_iconst rfl ?_
    refine ks_iadd rfl ?_
    refine ks_iastore rfl rfl (by omega) (by omega) ?_
    refine ks_aload_n rfl rfl ?_
    refine ks_iconst rfl ?_
    refine ks_bipush rfl ?_
    refine ks_bipush rfl ?_
    refine ks_iload_n rfl rfl ?_
    refine ks_iadd rfl ?_
    refine ks_bipush rfl ?_
    refine ks_callv_5 rfl rfl rfl (Nat.le_of_ble_eq_true rfl) ?_
    -- at 75: call M_takesNumber st []
    have F2 : FrR μ (kx_up (kx_up μ1 84 (6 + s 1) k) 84 1 (s 1 + 1)) := FrR_84 (FrR_84 (FrN_R F1) (by omega) (by omega)) (by omega) (by omega)
    have K2' : TK (kx_up (kx_up μ1 84 (6 + s 1) k) 84 1 (s 1 + 1)) T n (p + 1) := TK_fr K1 (fun j a b => by rw [kx_up_row (by omega), kx_up_row (by omega)])
    have r2 : kx_up (kx_up μ1 84 (6 + s 1) k) 84 1 (s 1 + 1) 84 = up1 (up1 s (6 + s 1) k) 1 (s 1 + 1) := by simp only [kx_up_up1, kx_row_self, kx_row_row, e1]
    generalize kx_up (kx_up μ1 84 (6 + s 1) k) 84 1 (s 1 + 1) = μ2 at *
    refine r_takesNumber (at' := 12 + s 1) (RP_fr P F2) K2' isl_44 (by omega) (by omega) (by omega) (by omega) rfl (fun p' a μ3 hR3 a0 a1 K3 r3 F3 => ?_) (fun f q μ3 hR3 h14 h13 F3 => ?_)
    · rw [ps_nt1 (K := fun a p1 => ps_num T n p1 0 15 (fun b p2 => ps_tk T n p2 59 (.inr (p2 + 1, adh s k a b)))) hR3] at hR
      have F4 := FrR_tr F2 F3
      show kx_wx _ _ _ _ _ (_ :: _) _ _
      refine ks_if_eq_1 rfl ?_
      refine ks_aload_n rfl rfl ?_
      refine ks_iconst rfl ?_
      refine ks_bipush rfl ?_
      refine ks_bipush rfl ?_
      refine ks_iload_n rfl rfl ?_
      refine ks_iadd rfl ?_
      refine ks_bipush rfl ?_
      refine ks_callv_5 rfl rfl rfl (Nat.le_of_ble_eq_true rfl) ?_
      -- at 91: call M_takesNumber st []
      refine r_takesNumber (at' := 18 + s 1) (RP_fr P F4) K3 isl_59 (by omega) (by omega) (by omega) (by omega) rfl (fun p'' b μ5 hR5 b0 b1 K5 r5 F5 => ?_) (fun f q μ5 hR5 h14 h13 F5 => ?_)
      · rw [ps_nt1 (K := fun b p2 => .inr (p2, adh s k a b)) hR5] at hR
        obtain ⟨z1, z2, z3⟩ := PS_adh S h6 k0 k1 (a := a) (b := b) a0 a1 b0 b1
        show kx_wx _ _ _ _ _ (_ :: _) _ _
        refine ks_if_eq_1 rfl ?_
        refine ks_iconst rfl ?_
        refine ks_goto rfl ?_
        refine ks_zreturn rfl (by omega) ?_
        -- at 102: ret  st ['1']
        refine t1 p'' _ _ hR.symm z1 z2 (by omega) K5 ?_ (FrR_tr F4 F5)
        rw [r5, r3, r2, adh_eq2 (by omega)]
      · rw [ps_nt0 (K := fun b p2 => .inr (p2, adh s k a b)) hR5] at hR
        show kx_wx _ _ _ _ _ (_ :: _) _ _
        refine ks_if_eq_0 rfl ?_
        refine ks_iconst rfl ?_
        refine ks_zreturn rfl (by omega) ?_
        -- at 102: ret  st ['0']
        exact t0 f q _ hR.symm h14 h13 (FrR_tr F4 F5)
    · rw [ps_nt0 (K := fun a p1 => ps_num T n p1 0 15 (fun b p2 => ps_tk T n p2 59 (.inr (p2 + 1, adh s k a b)))) hR3] at hR
      show kx_wx _ _ _ _ _ (_ :: _) _ _
      refine ks_if_eq_0 rfl ?_
      refine ks_iconst rfl ?_
      refine ks_zreturn rfl (by omega) ?_
      -- at 102: ret  st ['0']
      exact t0 f q _ hR.symm h14 h13 (FrR_tr F2 F3)
  refine ks_aload_n rfl rfl ?_
  refine ks_getr (b := 84) rfl rfl rfl rfl (by decide) ?_
  refine ks_iconst rfl ?_
  refine ks_iaload rfl rfl (by omega) (by omega) (by (try simp only [kx_up_at, kx_row_at, up1_at, Nat.reduceEqDiff, Int.reduceEq, Int.reduceNeg, and_true, true_and, and_false, false_and, and_self, reduceIte, Nat.add_left_cancel_iff, Nat.add_eq_left, Nat.left_eq_add, Nat.reduceAdd, Int.add_left_inj, Int.add_right_inj, hs]); rfl) ?_
  refine ks_istore_n_2 rfl rfl ?_
  refine ks_iload_n rfl rfl ?_
  refine ks_bipush rfl ?_
  -- at 10: if eq -> 22 else 13 st ['6', None]
  refine ks_icmp_eq rfl ⟨by omega, by omega⟩ ⟨by omega, by omega⟩ (fun q => ?_) (fun q => ?_)
  · rw [if_pos (by omega)] at hR
    refine ks_aload_n rfl rfl ?_
    refine ks_aload_n rfl rfl ?_
    refine ks_getr (b := 84) rfl rfl rfl rfl (by decide) ?_
    refine ks_iconst rfl ?_
    refine ks_iaload rfl rfl (by omega) (by omega) (by (try simp only [kx_up_at, kx_row_at, up1_at, Nat.reduceEqDiff, Int.reduceEq, Int.reduceNeg, and_true, true_and, and_false, false_and, and_self, reduceIte, Nat.add_left_cancel_iff, Nat.add_eq_left, Nat.left_eq_add, Nat.reduceAdd, Int.add_left_inj, Int.add_right_inj, hs]); rfl) ?_
    -- at 29: if le -> 36 else 32 st [None, '77']
    refine ks_if_le rfl ⟨by omega, by omega⟩ (fun q2 => absurd q2 (by omega)) (fun q2 => ?_)
    refine ks_iconst rfl ?_
    refine ks_callv_2 rfl rfl rfl (Nat.le_of_ble_eq_true rfl) ?_
    -- at 37: call M_faults st []
    refine r_faults ?_
    show kx_wx _ _ _ _ _ (_ :: _) _ _
    refine ks_zreturn rfl (by omega) ?_
    -- at 40: ret  st [None]
    refine t0 3 p _ hR.symm (kx_up_self _ _ _ _) ?_ (FrR_14 (FrR_rf μ))
    rw [kx_up_oth (by omega)]; exact K.1
  · refine ks_aload_n rfl rfl ?_
    refine ks_getr (b := 84) rfl rfl rfl rfl (by decide) ?_
    refine ks_iconst rfl ?_
    refine ks_iaload rfl rfl (by omega) (by omega) (by (try simp only [kx_up_at, kx_row_at, up1_at, Nat.reduceEqDiff, Int.reduceEq, Int.reduceNeg, and_true, true_and, and_false, false_and, and_self, reduceIte, Nat.add_left_cancel_iff, Nat.add_eq_left, Nat.left_eq_add, Nat.reduceAdd, Int.add_left_inj, Int.add_right_inj, hs]); rfl) ?_
    -- at 19: if le -> 41 else 22 st [None]
    refine ks_if_le rfl ⟨by omega, by omega⟩ (fun q2 => absurd q2 (by omega)) (fun q2 => ?_)
    exact no6 (by omega)
/-- a head behind an order -/
theorem r_MreadHead2 {k : Int} (P : RP μ T n) (K : TK μ T n p) (hs : μ 84 = s) (S : PS s) (s2 : 1 ≤ s 2) (t0 : Q (some (kI 0)) (kg L) (kx_up μ 77 14 1)) : kx_cx (ke (d + 5)) 132 [kR 77, kI k] (kg L) μ Q := by
  refine ke_start (tb := kt_M_readHead) (ls := [some (kR 77), some (kI k), none]) rfl rfl ?_
  have s1 := S.1
  have s2' := S.2.1
  refine ks_aload_n rfl rfl ?_
  refine ks_getr (b := 84) rfl rfl rfl rfl (by decide) ?_
  refine ks_iconst rfl ?_
  refine ks_iaload rfl rfl (by omega) (by omega) (by (try simp only [kx_up_at, kx_row_at, up1_at, Nat.reduceEqDiff, Int.reduceEq, Int.reduceNeg, and_true, true_and, and_false, false_and, and_self, reduceIte, Nat.add_left_cancel_iff, Nat.add_eq_left, Nat.left_eq_add, Nat.reduceAdd, Int.add_left_inj, Int.add_right_inj, hs]); rfl) ?_
  refine ks_istore_n_2 rfl rfl ?_
  refine ks_iload_n rfl rfl ?_
  refine ks_bipush rfl ?_
  -- at 10: if eq -> 22 else 13 st ['6', None]
  refine ks_icmp_eq rfl ⟨by omega, by omega⟩ ⟨by omega, by omega⟩ (fun q => ?_) (fun q => ?_)
  · refine ks_aload_n rfl rfl ?_
    refine ks_aload_n rfl rfl ?_
    refine ks_getr (b := 84) rfl rfl rfl rfl (by decide) ?_
    refine ks_iconst rfl ?_
    refine ks_iaload rfl rfl (by omega) (by omega) (by (try simp only [kx_up_at, kx_row_at, up1_at, Nat.reduceEqDiff, Int.reduceEq, Int.reduceNeg, and_true, true_and, and_false, false_and, and_self, reduceIte, Nat.add_left_cancel_iff, Nat.add_eq_left, Nat.left_eq_add, Nat.reduceAdd, Int.add_left_inj, Int.add_right_inj, hs]); rfl) ?_
    -- at 29: if le -> 36 else 32 st [None, '77']
    refine ks_if_le rfl ⟨by omega, by omega⟩ (fun q2 => ?_) (fun q2 => absurd q2 (by omega))
    refine ks_iconst rfl ?_
    refine ks_goto rfl ?_
    refine ks_callv_2 rfl rfl rfl (Nat.le_of_ble_eq_true rfl) ?_
    -- at 37: call M_faults st []
    refine r_faults ?_
    show kx_wx _ _ _ _ _ (_ :: _) _ _
    refine ks_zreturn rfl (by omega) ?_
    -- at 40: ret  st [None]
    exact t0
  · refine ks_aload_n rfl rfl ?_
    refine ks_getr (b := 84) rfl rfl rfl rfl (by decide) ?_
    refine ks_iconst rfl ?_
    refine ks_iaload rfl rfl (by omega) (by omega) (by (try simp only [kx_up_at, kx_row_at, up1_at, Nat.reduceEqDiff, Int.reduceEq, Int.reduceNeg, and_true, true_and, and_false, false_and, and_self, reduceIte, Nat.add_left_cancel_iff, Nat.add_eq_left, Nat.left_eq_add, Nat.reduceAdd, Int.add_left_inj, Int.add_right_inj, hs]); rfl) ?_
    -- at 19: if le -> 41 else 22 st [None]
    refine ks_if_le rfl ⟨by omega, by omega⟩ (fun q2 => ?_) (fun q2 => absurd q2 (by omega))
    refine ks_aload_n rfl rfl ?_
    refine ks_aload_n rfl rfl ?_
    refine ks_getr (b := 84) rfl rfl rfl rfl (by decide) ?_
    refine ks_iconst rfl ?_
    refine ks_iaload rfl rfl (by omega) (by omega) (by (try simp only [kx_up_at, kx_row_at, up1_at, Nat.reduceEqDiff, Int.reduceEq, Int.reduceNeg, and_true, true_and, and_false, false_and, and_self, reduceIte, Nat.add_left_cancel_iff, Nat.add_eq_left, Nat.left_eq_add, Nat.reduceAdd, Int.add_left_inj, Int.add_right_inj, hs]); rfl) ?_
    -- at 29: if le -> 36 else 32 st [None, '77']
    refine ks_if_le rfl ⟨by omega, by omega⟩ (fun q3 => ?_) (fun q3 => absurd q3 (by omega))
    refine ks_iconst rfl ?_
    refine ks_goto rfl ?_
    refine ks_callv_2 rfl rfl rfl (Nat.le_of_ble_eq_true rfl) ?_
    -- at 37: call M_faults st []
    refine r_faults ?_
    show kx_wx _ _ _ _ _ (_ :: _) _ _
    refine ks_zreturn rfl (by omega) ?_
    -- at 40: ret  st [None]
    exact t0
theorem r_MreadOrder (P : RP μ T n) (K : TK μ T n p) (hpn : p < n) (hl : T p = 111) (hs : μ 84 = s) (S : PS s) (hR : ps_order T n p s = R) (t1 : ∀ p' s' μ', R = .inr (p', s') → PS s' → s' 1 = s 1 → s' 2 = s 2 + 1 → TK μ' T n p' → μ' 84 = s' → FrR μ μ' → Q (some (kI 1)) (kg L) μ') (t0 : ∀ f q μ', R = .inl (f, q) → μ' 77 14 = f → μ' 77 13 = q → FrR μ μ' → Q (some (kI 0)) (kg L) μ') : kx_cx (ke (d + 5)) 133 [kR 77] (kg L) μ Q := by
  refine ke_start (tb := kt_M_readOrder) (ls := [some (kR 77), none, none]) rfl rfl ?_
  have s2 := S.2.1
  have h10 := TK_let K hpn (by rw [hl]; unfold isl; omega)
  have K2 := K.2.1
  unfold ps_order at hR
  refine ks_aload_n rfl rfl ?_
  refine ks_getr (b := 84) rfl rfl rfl rfl (by decide) ?_
  refine ks_iconst rfl ?_
  refine ks_iaload rfl rfl (by omega) (by omega) (by (try simp only [kx_up_at, kx_row_at, up1_at, Nat.reduceEqDiff, Int.reduceEq, Int.reduceNeg, and_true, true_and, and_false, false_and, and_self, reduceIte, Nat.add_left_cancel_iff, Nat.add_eq_left, Nat.left_eq_add, Nat.reduceAdd, Int.add_left_inj, Int.add_right_inj, hs]); rfl) ?_
  refine ks_istore_n_1 rfl rfl ?_
  refine ks_iload_n rfl rfl ?_
  refine ks_iconst rfl ?_
  -- at 9: if ne -> 18 else 12 st ['4', None]
  refine ks_icmp_ne rfl ⟨by omega, by omega⟩ ⟨by omega, by omega⟩ (fun q => ?_) (fun q => ?_)
  · rw [if_pos ⟨⟨hpn, hl⟩, by omega⟩] at hR
    refine ks_aload_n rfl rfl ?_
    refine ks_iconst rfl ?_
    refine ks_callv_2 rfl rfl rfl (Nat.le_of_ble_eq_true rfl) ?_
    -- at 14: call M_faults st []
    refine r_faults ?_
    show kx_wx _ _ _ _ _ (_ :: _) _ _
    refine ks_zreturn rfl (by omega) ?_
    -- at 17: ret  st [None]
    refine t0 3 p _ hR.symm (kx_up_self _ _ _ _) ?_ (FrR_14 (FrR_rf μ))
    rw [kx_up_oth (by omega)]; exact K.1
  · rw [if_neg (by omega), ps_tk_1 ⟨hpn, hl⟩] at hR
    refine ks_aload_n rfl rfl ?_
    refine ks_callv_1 rfl rfl rfl (Nat.le_of_ble_eq_true rfl) ?_
    -- at 19: call M_nextToken st []
    refine r_nextToken P (by omega) (by omega) h10 (fun μ1 K1 F1 => ?_)
    have e1 : μ1 84 = s := by rw [F1.2 84 (by omega)]; exact hs
    show kx_wx _ _ _ _ _ _ _ _
    refine ks_aload_n rfl rfl ?_
    refine ks_getr (b := 84) rfl rfl rfl rfl (by decide) ?_
    refine ks_iconst rfl ?_
    refine ks_dup2 rfl ?_
    refine ks_iaload rfl rfl (by omega) (by omega) (by (try simp only [kx_up_at, kx_row_at, up1_at, Nat.reduceEqDiff, Int.reduceEq, Int.reduceNeg, and_true, true_and, and_false, false_and, and_self, reduceIte, Nat.add_left_cancel_iff, Nat.add_eq_left, Nat.left_eq_add, Nat.reduceAdd, Int.add_left_inj, Int.add_right_inj, e1]); rfl) ?_
    refine ks_iconst rfl ?_
    refine ks_iadd rfl ?_
    refine ks_iastore rfl rfl (by omega) (by omega) ?_
    refine ks_aload_n rfl rfl ?_
    refine ks_iconst rfl ?_
    refine ks_bipush rfl ?_
    refine ks_bipush rfl ?_
    refine ks_iload_n rfl rfl ?_
    refine ks_iadd rfl ?_
    refine ks_bipush rfl ?_
    refine ks_callv_5 rfl rfl rfl (Nat.le_of_ble_eq_true rfl) ?_
    -- at 42: call M_takesNumber st []
    have F2 : FrR μ (kx_up μ1 84 2 (s 2 + 1)) := FrR_84 (FrN_R F1) (by omega) (by omega)
    have K2' : TK (kx_up μ1 84 2 (s 2 + 1)) T n (p + 1) := TK_fr K1 (fun j a b => by rw [kx_up_row (by omega)])
    have r2 : kx_up μ1 84 2 (s 2 + 1) 84 = up1 s 2 (s 2 + 1) := by rw [kx_up_up1, kx_row_self, e1]
    generalize kx_up μ1 84 2 (s 2 + 1) = μ2 at *
    refine r_takesNumber (at' := 30 + s 2) (RP_fr P F2) K2' isl_59 (by omega) (by omega) (by omega) (by omega) rfl (fun p' a μ3 hR3 a0 a1 K3 r3 F3 => ?_) (fun f q μ3 hR3 h14 h13 F3 => ?_)
    · rw [ps_nt1 (K := fun x p1 => .inr (p1, ado s x)) hR3] at hR
      have F4 := FrR_tr F2 F3
      obtain ⟨z1, z2, z3⟩ := PS_ado S (by omega) (x := a) a0 a1
      have e30 : μ3 84 (30 + s 2) = a := by rw [r3, up1_self]
      show kx_wx _ _ _ _ _ (_ :: _) _ _
      refine ks_istore_n_2 rfl rfl ?_
      refine ks_aload_n rfl rfl ?_
      refine ks_getr (b := 84) rfl rfl rfl rfl (by decide) ?_
      refine ks_bipush rfl ?_
      refine ks_iload_n rfl rfl ?_
      refine ks_iadd rfl ?_
      refine ks_aload_n rfl rfl ?_
      refine ks_getr (b := 84) rfl rfl rfl rfl (by decide) ?_
      refine ks_bipush rfl ?_
      refine ks_iload_n rfl rfl ?_
      refine ks_iadd rfl ?_
      refine ks_iaload rfl rfl (by omega) (by omega) (by (try simp only [kx_up_at, kx_row_at, up1_at, Nat.reduceEqDiff, Int.reduceEq, Int.reduceNeg, and_true, true_and, and_false, false_and, and_self, reduceIte, Nat.add_left_cancel_iff, Nat.add_eq_left, Nat.left_eq_add, Nat.reduceAdd, Int.add_left_inj, Int.add_right_inj, e30]); rfl) ?_
      refine ks_iastore rfl rfl (by omega) (by omega) ?_
      refine ks_iload_n rfl rfl ?_
      refine ks_zreturn rfl (by omega) ?_
      -- at 65: ret  st ['1']
      refine t1 p' _ _ hR.symm z1 z2 z3 (TK_fr K3 (fun j a b => by rw [kx_up_row (by omega)])) ?_ (FrR_84 F4 (by omega) (by omega))
      rw [kx_up_up1, kx_row_self, r3, r2, ado_eq2 (by omega)]
    · rw [ps_nt0 (K := fun x p1 => .inr (p1, ado s x)) hR3] at hR
      show kx_wx _ _ _ _ _ (_ :: _) _ _
      refine ks_istore_n_2 rfl rfl ?_
      refine ks_aload_n rfl rfl ?_
      refine ks_getr (b := 84) rfl rfl rfl rfl (by decide) ?_
      refine ks_bipush rfl ?_
      refine ks_iload_n rfl rfl ?_
      refine ks_iadd rfl ?_
      refine ks_aload_n rfl rfl ?_
      refine ks_getr (b := 84) rfl rfl rfl rfl (by decide) ?_
      refine ks_bipush rfl ?_
      refine ks_iload_n rfl rfl ?_
      refine ks_iadd rfl ?_
      refine ks_iaload rfl rfl (by omega) (by omega) (by (try simp only [kx_up_at, kx_row_at, up1_at, Nat.reduceEqDiff, Int.reduceEq, Int.reduceNeg, and_true, true_and, and_false, false_and, and_self, reduceIte, Nat.add_left_cancel_iff, Nat.add_eq_left, Nat.left_eq_add, Nat.reduceAdd, Int.add_left_inj, Int.add_right_inj]); rfl) ?_
      refine ks_iastore rfl rfl (by omega) (by omega) ?_
      refine ks_iload_n rfl rfl ?_
      refine ks_zreturn rfl (by omega) ?_
      -- at 65: ret  st ['0']
      refine t0 f q _ hR.symm ?_ ?_ (FrR_84 (FrR_tr F2 F3) (by omega) (by omega))
      · rw [kx_up_row (by omega)]; exact h14
      · rw [kx_up_row (by omega)]; exact h13
end PE
