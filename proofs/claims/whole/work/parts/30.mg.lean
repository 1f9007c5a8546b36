/-! foretold, the reference, more -/
theorem tw_Z_gv {s : Int → Int} {h : Int} (z : tw_Z s) : tw_Z (tw_gv s h) := tw_Z_up (tw_Z_up z (by omega)) (by omega)
section MG
variable {d L : Nat} {G : kx_G} {μ : kx_M} {Q : Option kx_V → kx_G → kx_M → Prop} {s s0 : Int → Int} {z v : Int}
theorem l_Mfirst (hs : μ 81 = s) (W : tw_W 999 s) (Z : tw_Z s) (t : ∀ x l μ', q_min (q_P s) (s 2) x l → FrQ μ μ' → Q (some (kI x)) (kg L) μ') : ∀ (r j : Nat) (b l : Int) (μ1 : kx_M) (x4 : Option kx_V), j + r = (s 2).toNat → q_min (q_P s) j b l → (b = -1000000 → l = 999) → 1 ≤ l → l ≤ 999 → μ1 81 = s → AS μ1 s → FrI μ μ1 → kx_wx (ke (d + 4)) kt_M_first Q 23 [some (kR 77), some (kI b), some (kI l), some (kI j), x4] [] (kg L) μ1 := by
  have w2 := W.2.1
  intro r
  induction r with
  | zero =>
    intro j b l μ1 x4 hj hm hl l0 l1 e A F
    refine ks_iload_n rfl rfl ?_
    refine ks_aload_n rfl rfl ?_
    refine ks_getr (b := 81) rfl rfl rfl rfl (by decide) ?_
    refine ks_iconst rfl ?_
    refine ks_iaload rfl rfl (by omega) (by omega) (by (try simp only [kx_up_at, kx_row_at, up1_at, Nat.reduceEqDiff, Int.reduceEq, Int.reduceNeg, and_true, true_and, and_false, false_and, and_self, reduceIte, Nat.add_left_cancel_iff, Nat.add_eq_left, Nat.left_eq_add, Nat.reduceAdd, Int.add_left_inj, Int.add_right_inj, e]); rfl) ?_
    -- at 30: if ge -> 79 else 33 st [None, None]
    refine ks_icmp_ge rfl ⟨by omega, by omega⟩ ⟨by omega, by omega⟩ (fun c => absurd c (by omega)) (fun c => ?_)
    refine ks_iload_n rfl rfl ?_
    refine ks_ireturn rfl ?_
    -- at 80: ret  st [None]
    have ej : (j : Int) = s 2 := by omega
    rw [ej] at hm
    exact t _ l _ hm (FrQ_of F hs e)
  | succ r ih =>
    intro j b l μ1 x4 hj hm hl l0 l1 e A F
    have w8 := W.2.2.2.2.2.2.2 j (by omega) (by omega)
    have en : ((j + 1 : Nat) : Int) = (j : Int) + 1 := by omega
    refine ks_iload_n rfl rfl ?_
    refine ks_aload_n rfl rfl ?_
    refine ks_getr (b := 81) rfl rfl rfl rfl (by decide) ?_
    refine ks_iconst rfl ?_
    refine ks_iaload rfl rfl (by omega) (by omega) (by (try simp only [kx_up_at, kx_row_at, up1_at, Nat.reduceEqDiff, Int.reduceEq, Int.reduceNeg, and_true, true_and, and_false, false_and, and_self, reduceIte, Nat.add_left_cancel_iff, Nat.add_eq_left, Nat.left_eq_add, Nat.reduceAdd, Int.add_left_inj, Int.add_right_inj, e]); rfl) ?_
    -- at 30: if ge -> 79 else 33 st [None, None]
    refine ks_icmp_ge rfl ⟨by omega, by omega⟩ ⟨by omega, by omega⟩ (fun c => ?_) (fun c => absurd c (by omega))
    refine ks_aload_n rfl rfl ?_
    refine ks_getr (b := 81) rfl rfl rfl rfl (by decide) ?_
    refine ks_bipush rfl ?_
    refine ks_iload_n rfl rfl ?_
    refine ks_iadd rfl ?_
    refine ks_iaload rfl rfl (by omega) (by omega) (by (try simp only [kx_up_at, kx_row_at, up1_at, Nat.reduceEqDiff, Int.reduceEq, Int.reduceNeg, and_true, true_and, and_false, false_and, and_self, reduceIte, Nat.add_left_cancel_iff, Nat.add_eq_left, Nat.left_eq_add, Nat.reduceAdd, Int.add_left_inj, Int.add_right_inj, e]); rfl) ?_
    -- at 42: if ne -> 53 else 45 st [None]
    refine ks_if_ne rfl ⟨by omega, by omega⟩ (fun c2 => ?_) (fun c2 => ?_)
    · refine ks_aload_n rfl rfl ?_
      refine ks_iload_n rfl rfl ?_
      refine ks_callv_2 rfl rfl rfl (Nat.le_of_ble_eq_true rfl) ?_
      -- at 47: call M_doneIn st []
      refine r_doneIn (o := j) (by omega) (by omega) W Z Z A e c2 (fun n μ2 n0 n1 D e2 F2 => ?_) (fun μ2 D e2 F2 => ?_)
      · show kx_wx _ _ _ _ _ (_ :: _) _ _
        refine ks_goto rfl ?_
        refine ks_istore_4 rfl rfl ?_
        refine ks_iload rfl rfl ?_
        -- at 59: if le -> 73 else 62 st [None]
        refine ks_if_le rfl ⟨by omega, by omega⟩ (fun c3 => ?_) (fun c3 => absurd c3 (by omega))
        refine ks_iload rfl rfl ?_
        refine ks_iload_n rfl rfl ?_
        -- at 65: if ge -> 73 else 68 st [None, None]
        refine ks_icmp_ge rfl ⟨by omega, by omega⟩ ⟨by omega, by omega⟩ (fun c4 => ?_) (fun c4 => ?_)
        · refine ks_iload_n rfl rfl ?_
          refine ks_istore_n_1 rfl rfl ?_
          refine ks_iload rfl rfl ?_
          refine ks_istore_n_2 rfl rfl ?_
          refine ks_iinc_3 rfl rfl ?_
          refine ks_goto rfl ?_
          -- at 23: stop  st []
          have hh := q_min_hit (n := n) hm (by omega) ⟨c2, D⟩ n0 n1 (Or.inr c4) (fun k hk => dn_uniq hk.2 D)
          rw [← en] at hh
          exact ih (j + 1) j n μ2 _ (by omega) hh (by omega) (by omega) (by omega) e2 (AS_fr A F2) (FrI_81 F F2)
        · refine ks_iinc_3 rfl rfl ?_
          refine ks_goto rfl ?_
          -- at 23: stop  st []
          have hh := q_min_miss hm (by omega) (fun k k1 hp => by
            have := dn_uniq hp.2 D
            subst this
            exact ⟨fun q => by have := hl q; omega, by omega⟩)
          rw [← en] at hh
          exact ih (j + 1) b l μ2 _ (by omega) hh hl l0 l1 e2 (AS_fr A F2) (FrI_81 F F2)
      · show kx_wx _ _ _ _ _ (_ :: _) _ _
        refine ks_goto rfl ?_
        refine ks_istore_4 rfl rfl ?_
        refine ks_iload rfl rfl ?_
        -- at 59: if le -> 73 else 62 st [None]
        refine ks_if_le rfl ⟨by omega, by omega⟩ (fun c3 => absurd c3 (by omega)) (fun c3 => ?_)
        refine ks_iinc_3 rfl rfl ?_
        refine ks_goto rfl ?_
        -- at 23: stop  st []
        have hh := q_min_miss hm (by omega) (fun k k1 hp => by
          have := dn_no hp.2 D
          omega)
        rw [← en] at hh
        exact ih (j + 1) b l μ2 _ (by omega) hh hl l0 l1 e2 (AS_fr A F2) (FrI_81 F F2)
    · refine ks_ldc rfl ?_
      refine ks_istore_4 rfl rfl ?_
      refine ks_iload rfl rfl ?_
      -- at 59: if le -> 73 else 62 st ['-1000000']
      refine ks_if_le rfl ⟨by omega, by omega⟩ (fun c3 => absurd c3 (by omega)) (fun c3 => ?_)
      refine ks_iinc_3 rfl rfl ?_
      refine ks_goto rfl ?_
      -- at 23: stop  st []
      have hh := q_min_miss hm (by omega) (fun k k1 hp => absurd hp.1 c2)
      rw [← en] at hh
      exact ih (j + 1) b l μ1 _ (by omega) hh hl l0 l1 e A F
theorem r_Mfirst (hs : μ 81 = s) (N : TN s) (I : IT μ s) (t0 : s 1 = 0 → Q (some (kI (-1000002))) (kg L) μ) (t2 : 1 ≤ s 1 → ∀ x l μ', q_min (q_P s) (s 2) x l → FrQ μ μ' → Q (some (kI x)) (kg L) μ') : kx_cx (ke (d + 5)) 164 [kR 77] (kg L) μ Q := by
  refine ke_start (tb := kt_M_first) (ls := [some (kR 77), none, none, none, none]) rfl rfl ?_
  obtain ⟨i0, i1, i2, i3⟩ := IT_in I
  refine ks_aload_n rfl rfl ?_
  refine ks_geti rfl rfl rfl rfl (by (try simp only [kx_up_at, kx_row_at, up1_at, Nat.reduceEqDiff, Int.reduceEq, Int.reduceNeg, and_true, true_and, and_false, false_and, and_self, reduceIte, Nat.add_left_cancel_iff, Nat.add_eq_left, Nat.left_eq_add, Nat.reduceAdd, Int.add_left_inj, Int.add_right_inj]); rfl) ?_
  -- at 4: if ne -> 10 else 7 st [None]
  refine ks_if_ne rfl ⟨by omega, by omega⟩ (fun c => ?_) (fun c => ?_)
  · refine ks_ldc rfl ?_
    refine ks_ireturn rfl ?_
    -- at 9: ret  st ['-1000002']
    exact t0 (by omega)
  · refine ks_aload_n rfl rfl ?_
    refine ks_callv_1 rfl rfl rfl (Nat.le_of_ble_eq_true rfl) ?_
    -- at 11: call M_putAside st []
    obtain ⟨W, Z⟩ := TN_W N (by omega)
    have w2 := W.2.1
    refine r_putAside hs (fun μ1 A1 e1 F1 => ?_)
    show kx_wx _ _ _ _ _ _ _ _
    refine ks_ldc rfl ?_
    refine ks_istore_n_1 rfl rfl ?_
    refine ks_sipush rfl ?_
    refine ks_istore_n_2 rfl rfl ?_
    refine ks_iconst rfl ?_
    refine ks_istore_n_3 rfl rfl ?_
    -- at 23: stop  st []
    exact l_Mfirst (μ := μ) hs W Z (t2 (by omega)) (s 2).toNat 0 _ 999 μ1 _ (by omega) q_min_0 (fun _ => rfl) (by omega) (by omega) e1 A1 F1
theorem l_MtoGive {o w : Int} (o0 : 0 ≤ o) (o1 : o < s 2) (hw : kx_in w) (hz : s (38 + o) = 0) (hs : μ 81 = s) (W : tw_W 999 s) (Z : tw_Z s) (t : ∀ x μ', q_tg s o w x → FrQ μ μ' → Q (some (kI x)) (kg L) μ') : ∀ (r j : Nat) (b l : Int) (μ1 : kx_M) (x6 : Option kx_V), j + r = (s 1).toNat → q_min (q_T s o) j b l → (b = -1000000 → l = 999) → 1 ≤ l → l ≤ 999 → μ1 81 = s → AS μ1 s → FrI μ μ1 → kx_wx (ke (d + 4)) kt_M_toGive Q 51 [some (kR 77), some (kI o), some (kI w), some (kI b), some (kI l), some (kI j), x6] [] (kg L) μ1 := by
  have w1 := W.1
  have w2 := W.2.1
  obtain ⟨_, _⟩ := hw
  have hb : ∀ (j : Nat) b l, j ≤ (s 1).toNat → q_min (q_T s o) j b l → -1000000 ≤ b ∧ b ≤ 6 ∧ (b < 0 ↔ b = -1000000) := by
    intro j b l hj hm
    rcases hm with ⟨a1, a2⟩ | ⟨a1, a2, _⟩ <;> omega
  intro r
  induction r with
  | zero =>
    intro j b l μ1 x6 hj hm hl l0 l1 e A F
    have hbb := hb j b l (by omega) hm
    refine ks_iload rfl rfl ?_
    refine ks_aload_n rfl rfl ?_
    refine ks_getr (b := 81) rfl rfl rfl rfl (by decide) ?_
    refine ks_iconst rfl ?_
    refine ks_iaload rfl rfl (by omega) (by omega) (by (try simp only [kx_up_at, kx_row_at, up1_at, Nat.reduceEqDiff, Int.reduceEq, Int.reduceNeg, and_true, true_and, and_false, false_and, and_self, reduceIte, Nat.add_left_cancel_iff, Nat.add_eq_left, Nat.left_eq_add, Nat.reduceAdd, Int.add_left_inj, Int.add_right_inj, e]); rfl) ?_
    -- at 59: if ge -> 100 else 62 st [None, None]
    refine ks_icmp_ge rfl ⟨by omega, by omega⟩ ⟨by omega, by omega⟩ (fun c => absurd c (by omega)) (fun c => ?_)
    refine ks_iload_n rfl rfl ?_
    -- at 101: if lt -> 108 else 104 st [None]
    have ej : (j : Int) = s 1 := by omega
    rw [ej] at hm
    refine ks_if_lt rfl ⟨by omega, by omega⟩ (fun c1 => ?_) (fun c1 => ?_)
    · refine ks_iload_n rfl rfl ?_
      refine ks_goto rfl ?_
      refine ks_ireturn rfl ?_
      -- at 114: ret  st [None]
      exact t _ _ ⟨b, l, hm, by rw [if_pos (by omega)]⟩ (FrQ_of F hs e)
    · refine ks_iload_n rfl rfl ?_
      -- at 105: if ne -> 112 else 108 st [None]
      refine ks_if_ne rfl ⟨by omega, by omega⟩ (fun c2 => ?_) (fun c2 => ?_)
      · refine ks_iload_n rfl rfl ?_
        refine ks_goto rfl ?_
        refine ks_ireturn rfl ?_
        -- at 114: ret  st [None]
        exact t _ _ ⟨b, l, hm, by rw [if_neg (by omega), if_pos c2]⟩ (FrQ_of F hs e)
      · refine ks_iload rfl rfl ?_
        refine ks_ireturn rfl ?_
        -- at 114: ret  st [None]
        exact t _ _ ⟨b, l, hm, by rw [if_neg (by omega), if_neg c2]⟩ (FrQ_of F hs e)
  | succ r ih =>
    intro j b l μ1 x6 hj hm hl l0 l1 e A F
    have en : ((j + 1 : Nat) : Int) = (j : Int) + 1 := by omega
    refine ks_iload rfl rfl ?_
    refine ks_aload_n rfl rfl ?_
    refine ks_getr (b := 81) rfl rfl rfl rfl (by decide) ?_
    refine ks_iconst rfl ?_
    refine ks_iaload rfl rfl (by omega) (by omega) (by (try simp only [kx_up_at, kx_row_at, up1_at, Nat.reduceEqDiff, Int.reduceEq, Int.reduceNeg, and_true, true_and, and_false, false_and, and_self, reduceIte, Nat.add_left_cancel_iff, Nat.add_eq_left, Nat.left_eq_add, Nat.reduceAdd, Int.add_left_inj, Int.add_right_inj, e]); rfl) ?_
    -- at 59: if ge -> 100 else 62 st [None, None]
    refine ks_icmp_ge rfl ⟨by omega, by omega⟩ ⟨by omega, by omega⟩ (fun c => ?_) (fun c => absurd c (by omega))
    refine ks_aload_n rfl rfl ?_
    refine ks_iload rfl rfl ?_
    refine ks_callv_2 rfl rfl rfl (Nat.le_of_ble_eq_true rfl) ?_
    -- at 65: call M_giveTo st []
    refine r_giveTo ?_
    have e3 : kx_row μ1 81 (up1 (up1 (μ1 81) 4 j) 5 0) 81 = tw_gv s j := by rw [kx_row_self, e]; rfl
    have F3 : Fr81 μ1 (kx_row μ1 81 (up1 (up1 (μ1 81) 4 j) 5 0)) := Fr81_row _ _
    generalize kx_row μ1 81 (up1 (up1 (μ1 81) 4 j) 5 0) = μ3 at *
    show kx_wx _ _ _ _ _ _ _ _
    refine ks_aload_n rfl rfl ?_
    refine ks_iload_n rfl rfl ?_
    refine ks_callv_2 rfl rfl rfl (Nat.le_of_ble_eq_true rfl) ?_
    -- at 70: call M_doneIn st []
    have W3 : tw_W 999 (tw_gv s j) := tw_W_give W (by omega) (by omega)
    have o3 : o < tw_gv s j 2 := by unfold tw_gv; rw [up1_ne (by omega), up1_ne (by omega)]; exact o1
    have z3 : tw_gv s j (38 + o) = 0 := by unfold tw_gv; rw [up1_ne (by omega), up1_ne (by omega)]; exact hz
    refine r_doneIn (o := o) o0 o3 W3 (tw_Z_gv Z) Z (AS_fr A F3) e3 z3 (fun n μ2 n0 n1 D e2 F2 => ?_) (fun μ2 D e2 F2 => ?_)
    · have F4 := Fr81_tr F3 F2
      show kx_wx _ _ _ _ _ (_ :: _) _ _
      refine ks_istore_6 rfl rfl ?_
      refine ks_iload rfl rfl ?_
      -- at 77: if le -> 94 else 80 st [None]
      refine ks_if_le rfl ⟨by omega, by omega⟩ (fun c3 => ?_) (fun c3 => absurd c3 (by omega))
      refine ks_iload rfl rfl ?_
      refine ks_iload rfl rfl ?_
      -- at 84: if ge -> 94 else 87 st [None, None]
      refine ks_icmp_ge rfl ⟨by omega, by omega⟩ ⟨by omega, by omega⟩ (fun c4 => ?_) (fun c4 => ?_)
      · refine ks_iload rfl rfl ?_
        refine ks_istore_n_3 rfl rfl ?_
        refine ks_iload rfl rfl ?_
        refine ks_istore_4 rfl rfl ?_
        refine ks_iinc_5 rfl rfl ?_
        refine ks_goto rfl ?_
        -- at 51: stop  st []
        have hh := q_min_hit (P := q_T s o) (n := n) hm (by omega) D n0 n1 (Or.inr c4) (fun k hk => dn_uniq hk D)
        rw [← en] at hh
        exact ih (j + 1) j n μ2 _ (by omega) hh (by omega) (by omega) (by omega) e2 (AS_fr A F4) (FrI_81 F F4)
      · refine ks_iinc_5 rfl rfl ?_
        refine ks_goto rfl ?_
        -- at 51: stop  st []
        have hh := q_min_miss hm (by omega) (fun k k1 hp => by
          have := dn_uniq hp D
          subst this
          exact ⟨fun q => by have := hl q; omega, by omega⟩)
        rw [← en] at hh
        exact ih (j + 1) b l μ2 _ (by omega) hh hl l0 l1 e2 (AS_fr A F4) (FrI_81 F F4)
    · have F4 := Fr81_tr F3 F2
      show kx_wx _ _ _ _ _ (_ :: _) _ _
      refine ks_istore_6 rfl rfl ?_
      refine ks_iload rfl rfl ?_
      -- at 77: if le -> 94 else 80 st [None]
      refine ks_if_le rfl ⟨by omega, by omega⟩ (fun c3 => absurd c3 (by omega)) (fun c3 => ?_)
      refine ks_iinc_5 rfl rfl ?_
      refine ks_goto rfl ?_
      -- at 51: stop  st []
      have hh := q_min_miss hm (by omega) (fun k k1 hp => by
        have := dn_no hp D
        omega)
      rw [← en] at hh
      exact ih (j + 1) b l μ2 _ (by omega) hh hl l0 l1 e2 (AS_fr A F4) (FrI_81 F F4)
theorem r_MtoGive {w : Int} (hv : kx_in v) (hw : kx_in w) (hs : μ 81 = s) (N : TN s) (t1 : ¬ ((0 ≤ v ∧ v < s 2) ∧ (0 ≤ w ∧ w ≤ 1)) → Q (some (kI (-1000001))) (kg L) μ) (t3 : 0 ≤ v → v < s 2 → 0 ≤ w → w ≤ 1 → ¬ s (38 + v) = 0 → Q (some (kI (-1000002))) (kg L) μ) (t2 : 0 ≤ v → v < s 2 → 0 ≤ w → w ≤ 1 → s (38 + v) = 0 → ∀ x μ', q_tg s v w x → FrQ μ μ' → Q (some (kI x)) (kg L) μ') : kx_cx (ke (d + 5)) 166 [kR 77, kI v, kI w] (kg L) μ Q := by
  refine ke_start (tb := kt_M_toGive) (ls := [some (kR 77), some (kI v), some (kI w), none, none, none, none]) rfl rfl ?_
  obtain ⟨n1, n2, n3⟩ := TN_in N
  have hw0 := hw
  obtain ⟨_, _⟩ := hw
  refine ks_aload_n rfl rfl ?_
  refine ks_iload_n rfl rfl ?_
  refine ks_callv_2 rfl rfl rfl (Nat.le_of_ble_eq_true rfl) ?_
  -- at 2: call M_isOrder st []
  refine r_isOrder hv (by rw [hs]; exact ⟨by omega, by omega⟩) (fun c => ?_) (fun c => ?_)
  · rw [hs] at c
    show kx_wx _ _ _ _ _ (_ :: _) _ _
    refine ks_if_eq_1 rfl ?_
    refine ks_iload_n rfl rfl ?_
    refine ks_i2l rfl ⟨by omega, by omega⟩ ?_
    refine ks_lconst rfl ?_
    refine ks_lconst rfl ?_
    refine ks_calls_3 rfl (Nat.le_of_ble_eq_true rfl) ?_
    -- at 12: call M_in st []
    refine r_in ⟨by omega, by omega⟩ ⟨by omega, by omega⟩ ⟨by omega, by omega⟩ (fun c2 => ?_) (fun c2 => ?_)
    · obtain ⟨W, Z⟩ := TN_W N (by omega)
      have w1 := W.1
      have w8 := W.2.2.2.2.2.2.2 v c.1 c.2
      show kx_wx _ _ _ _ _ (_ :: _) _ _
      refine ks_if_ne_1 rfl ?_
      refine ks_aload_n rfl rfl ?_
      refine ks_getr (b := 81) rfl rfl rfl rfl (by decide) ?_
      refine ks_bipush rfl ?_
      refine ks_iload_n rfl rfl ?_
      refine ks_iadd rfl ?_
      refine ks_iaload rfl rfl (by omega) (by omega) (by (try simp only [kx_up_at, kx_row_at, up1_at, Nat.reduceEqDiff, Int.reduceEq, Int.reduceNeg, and_true, true_and, and_false, false_and, and_self, reduceIte, Nat.add_left_cancel_iff, Nat.add_eq_left, Nat.left_eq_add, Nat.reduceAdd, Int.add_left_inj, Int.add_right_inj, hs]); rfl) ?_
      -- at 30: if eq -> 36 else 33 st [None]
      refine ks_if_eq rfl ⟨by omega, by omega⟩ (fun c3 => ?_) (fun c3 => ?_)
      · refine ks_aload_n rfl rfl ?_
        refine ks_callv_1 rfl rfl rfl (Nat.le_of_ble_eq_true rfl) ?_
        -- at 37: call M_putAside st []
        refine r_putAside hs (fun μ1 A1 e1 F1 => ?_)
        show kx_wx _ _ _ _ _ _ _ _
        refine ks_ldc rfl ?_
        refine ks_istore_n_3 rfl rfl ?_
        refine ks_sipush rfl ?_
        refine ks_istore_4 rfl rfl ?_
        refine ks_iconst rfl ?_
        refine ks_istore_5 rfl rfl ?_
        -- at 51: stop  st []
        exact l_MtoGive (μ := μ) c.1 c.2 hw0 c3 hs W Z (t2 c.1 c.2 c2.1 c2.2 c3) (s 1).toNat 0 _ 999 μ1 _ (by omega) q_min_0 (fun _ => rfl) (by omega) (by omega) e1 A1 F1
      · refine ks_ldc rfl ?_
        refine ks_ireturn rfl ?_
        -- at 35: ret  st ['-1000002']
        exact t3 c.1 c.2 c2.1 c2.2 c3
    · show kx_wx _ _ _ _ _ (_ :: _) _ _
      refine ks_if_ne_0 rfl ?_
      refine ks_ldc rfl ?_
      refine ks_ireturn rfl ?_
      -- at 20: ret  st ['-1000001']
      exact t1 (fun q => c2 q.2)
  · rw [hs] at c
    show kx_wx _ _ _ _ _ (_ :: _) _ _
    refine ks_if_eq_0 rfl ?_
    refine ks_ldc rfl ?_
    refine ks_ireturn rfl ?_
    -- at 20: ret  st ['-1000001']
    exact t1 (fun q => c q.1)
theorem l_windsBy {h X : Int} {n : Nat} (hn : n ≤ 60) (hh : kx_in h) (hs : μ 81 = s) (W : tw_W 999 s) (Z : tw_Z s) (t : ∀ μ', FrQ μ μ' → Q (some (kI X)) (kg L) μ') : ∀ (r j : Nat) (a : Int) (μ1 : kx_M), j + r = 6 → q_wi s h n r j a = X → μ1 81 = s → AS μ1 s → FrI μ μ1 → kx_wx (ke (d + 4)) kt_M_windsBy Q 9 [some (kR 77), some (kI h), some (kI n), some (kI a), some (kI j)] [] (kg L) μ1 := by
  obtain ⟨_, _⟩ := hh
  intro r
  induction r with
  | zero =>
    intro j a μ1 hj q e A F
    simp only [q_wi] at q
    subst q
    refine ks_iload rfl rfl ?_
    refine ks_bipush rfl ?_
    -- at 13: if ge -> 60 else 16 st ['6', None]
    refine ks_icmp_ge rfl ⟨by omega, by omega⟩ ⟨by omega, by omega⟩ (fun c => absurd c (by omega)) (fun c => ?_)
    refine ks_iload_n rfl rfl ?_
    refine ks_ireturn rfl ?_
    -- at 61: ret  st [None]
    exact t _ (FrQ_of F hs e)
  | succ r ih =>
    intro j a μ1 hj q e A F
    rw [q_wi] at q
    refine ks_iload rfl rfl ?_
    refine ks_bipush rfl ?_
    -- at 13: if ge -> 60 else 16 st ['6', None]
    refine ks_icmp_ge rfl ⟨by omega, by omega⟩ ⟨by omega, by omega⟩ (fun c => ?_) (fun c => absurd c (by omega))
    refine ks_aload_n rfl rfl ?_
    refine ks_getr (b := 81) rfl rfl rfl rfl (by decide) ?_
    refine ks_iconst rfl ?_
    refine ks_iload rfl rfl ?_
    refine ks_iastore rfl rfl (by omega) (by omega) ?_
    refine ks_aload_n rfl rfl ?_
    refine ks_iload_n rfl rfl ?_
    refine ks_callv_2 rfl rfl rfl (Nat.le_of_ble_eq_true rfl) ?_
    -- at 26: call M_goOn st []
    have e3 : kx_up μ1 81 0 j 81 = up1 s 0 j := by rw [kx_up_up1, kx_row_self, e]
    have F3 : Fr81 μ1 (kx_up μ1 81 0 j) := fun c hc => kx_up_row hc
    generalize kx_up μ1 81 0 j = μ3 at *
    have W3 := tw_W_wind (v := j) W (by omega) (by omega)
    refine r_goOn hn W3 e3 (fun μ4 e4 F4 => ?_)
    have W4 := tw_W_go60 W3 (n := n) (by omega)
    have w3 := W4.2.2.1
    have w1 := W4.1
    have Z4 : tw_Z (μ4 81) := by rw [e4]; exact tw_Z_go W3 (tw_Z_up Z (by omega)) n
    show kx_wx _ _ _ _ _ _ _ _
    refine ks_iload_n rfl rfl ?_
    refine ks_aload_n rfl rfl ?_
    refine ks_getr (b := 81) rfl rfl rfl rfl (by decide) ?_
    refine ks_iconst rfl ?_
    refine ks_iaload rfl rfl (by omega) (by omega) (by (try simp only [kx_up_at, kx_row_at, up1_at, Nat.reduceEqDiff, Int.reduceEq, Int.reduceNeg, and_true, true_and, and_false, false_and, and_self, reduceIte, Nat.add_left_cancel_iff, Nat.add_eq_left, Nat.left_eq_add, Nat.reduceAdd, Int.add_left_inj, Int.add_right_inj, e4]); rfl) ?_
    refine ks_iload_n rfl rfl ?_
    -- at 37: if ne -> 47 else 40 st [None, None, None]
    refine ks_icmp_ne rfl ⟨by omega, by omega⟩ ⟨by omega, by omega⟩ (fun c2 => ?_) (fun c2 => ?_)
    · rw [if_pos c2] at q
      refine ks_iconst rfl ?_
      refine ks_iload rfl rfl ?_
      refine ks_ishl rfl (by omega) (by omega) ?_
      refine ks_goto rfl ?_
      refine ks_ior rfl ?_
      refine ks_istore_n_3 rfl rfl ?_
      refine ks_aload_n rfl rfl ?_
      refine ks_callv_1 rfl rfl rfl (Nat.le_of_ble_eq_true rfl) ?_
      -- at 51: call M_takeBack st []
      refine r_takeBack (AS_fr A (Fr81_tr F3 F4)) Z Z4 (fun μ5 e5 F5 => ?_)
      show kx_wx _ _ _ _ _ _ _ _
      refine ks_iinc_4 rfl rfl ?_
      refine ks_goto rfl ?_
      -- at 9: stop  st []
      have F6 := Fr81_tr (Fr81_tr F3 F4) F5
      exact ih (j + 1) _ μ5 (by omega) q e5 (AS_fr A F6) (FrI_81 F F6)
    · rw [if_neg c2] at q
      refine ks_iconst rfl ?_
      refine ks_ior rfl ?_
      refine ks_istore_n_3 rfl rfl ?_
      refine ks_aload_n rfl rfl ?_
      refine ks_callv_1 rfl rfl rfl (Nat.le_of_ble_eq_true rfl) ?_
      -- at 51: call M_takeBack st []
      refine r_takeBack (AS_fr A (Fr81_tr F3 F4)) Z Z4 (fun μ5 e5 F5 => ?_)
      show kx_wx _ _ _ _ _ _ _ _
      refine ks_iinc_4 rfl rfl ?_
      refine ks_goto rfl ?_
      -- at 9: stop  st []
      have F6 := Fr81_tr (Fr81_tr F3 F4) F5
      exact ih (j + 1) _ μ5 (by omega) q e5 (AS_fr A F6) (FrI_81 F F6)
theorem r_windsBy {h : Int} {n : Nat} (hn : n ≤ 60) (hh : kx_in h) (hs : μ 81 = s) (W : tw_W 999 s) (Z : tw_Z s) (t : ∀ μ', FrQ μ μ' → Q (some (kI (q_wi s h n 6 0 0))) (kg L) μ') : kx_cx (ke (d + 5)) 167 [kR 77, kI h, kI n] (kg L) μ Q := by
  refine ke_start (tb := kt_M_windsBy) (ls := [some (kR 77), some (kI h), some (kI n), none, none]) rfl rfl ?_
  refine ks_aload_n rfl rfl ?_
  refine ks_callv_1 rfl rfl rfl (Nat.le_of_ble_eq_true rfl) ?_
  -- at 1: call M_putAside st []
  refine r_putAside hs (fun μ1 A1 e1 F1 => ?_)
  show kx_wx _ _ _ _ _ _ _ _
  refine ks_iconst rfl ?_
  refine ks_istore_n_3 rfl rfl ?_
  refine ks_iconst rfl ?_
  refine ks_istore_4 rfl rfl ?_
  -- at 9: stop  st []
  exact l_windsBy (μ := μ) (X := q_wi s h n 6 0 0) hn hh hs W Z t 6 0 0 μ1 (by omega) rfl e1 A1 F1
theorem r_Mwinds {h : Int} (hv : kx_in v) (hh : kx_in h) (hs : μ 81 = s) (N : TN s) (t1 : ¬ ((0 ≤ h ∧ h < s 1) ∧ (0 ≤ v ∧ v ≤ 60)) → Q (some (kI (-1000001))) (kg L) μ) (t2 : 0 ≤ h → h < s 1 → 0 ≤ v → v ≤ 60 → ∀ μ', FrQ μ μ' → Q (some (kI (q_wi s h v.toNat 6 0 0))) (kg L) μ') : kx_cx (ke (d + 6)) 168 [kR 77, kI h, kI v] (kg L) μ Q := by
  refine ke_start (tb := kt_M_winds) (ls := [some (kR 77), some (kI h), some (kI v)]) rfl rfl ?_
  obtain ⟨n1, n2, n3⟩ := TN_in N
  refine ks_aload_n rfl rfl ?_
  refine ks_iload_n rfl rfl ?_
  refine ks_callv_2 rfl rfl rfl (Nat.le_of_ble_eq_true rfl) ?_
  -- at 2: call M_isHead st []
  refine r_isHead hh (by rw [hs]; exact ⟨by omega, by omega⟩) (fun c => ?_) (fun c => ?_)
  · rw [hs] at c
    show kx_wx _ _ _ _ _ (_ :: _) _ _
    refine ks_if_eq_1 rfl ?_
    refine ks_iload_n rfl rfl ?_
    refine ks_calls_1 rfl (Nat.le_of_ble_eq_true rfl) ?_
    -- at 9: call M_isFar st []
    refine r_isFar hv (fun c2 => ?_) (fun c2 => ?_)
    · obtain ⟨W, Z⟩ := TN_W N (by omega)
      have ev : v = (v.toNat : Int) := by omega
      generalize v.toNat = n at *
      subst ev
      show kx_wx _ _ _ _ _ (_ :: _) _ _
      refine ks_if_eq_1 rfl ?_
      refine ks_aload_n rfl rfl ?_
      refine ks_iload_n rfl rfl ?_
      refine ks_iload_n rfl rfl ?_
      refine ks_callv_3 rfl rfl rfl (Nat.le_of_ble_eq_true rfl) ?_
      -- at 18: call M_windsBy st []
      refine r_windsBy (by omega) hh hs W Z (fun μ1 F1 => ?_)
      show kx_wx _ _ _ _ _ (_ :: _) _ _
      refine ks_goto rfl ?_
      refine ks_ireturn rfl ?_
      -- at 26: ret  st [None]
      exact t2 c.1 c.2 (by omega) (by omega) _ F1
    · show kx_wx _ _ _ _ _ (_ :: _) _ _
      refine ks_if_eq_0 rfl ?_
      refine ks_ldc rfl ?_
      refine ks_ireturn rfl ?_
      -- at 26: ret  st ['-1000001']
      exact t1 (fun q => c2 q.2)
  · rw [hs] at c
    show kx_wx _ _ _ _ _ (_ :: _) _ _
    refine ks_if_eq_0 rfl ?_
    refine ks_ldc rfl ?_
    refine ks_ireturn rfl ?_
    -- at 26: ret  st ['-1000001']
    exact t1 (fun q => c q.1)
theorem l_goesSo {y : Int} {n : Nat} {f : Int → Int} (y0 : 0 ≤ y) (y1 : y + n ≤ 320) (n1 : n ≤ 16) (hf : ∀ k, f k = μ 80 (y + k)) (hi : ∀ k, 0 ≤ k → k < 320 → kx_in (μ 80 k)) (W : tw_W 999 s) (Z : tw_Z s) (Z0 : tw_Z s0) (t1 : q_ga s f n = true → ∀ μ', μ' 81 = s0 → Fr81 μ μ' → Q (some (kI 1)) (kg L) μ') (t0 : ¬ q_ga s f n = true → ∀ μ', μ' 81 = s0 → Fr81 μ μ' → Q (some (kI 0)) (kg L) μ') : ∀ (r j : Nat) (x : Int) (μ1 : kx_M), j + r = n → (q_ga s f j = true ∧ x = 1 ∨ q_ga s f j = false ∧ x = 0) → μ1 81 = tw_go s j → AS μ1 s0 → Fr81 μ μ1 → kx_wx (ke (d + 3)) kt_M_goesSo Q 5 [some (kR 77), some (kI y), some (kI n), some (kI x), some (kI j)] [] (kg L) μ1 := by
  intro r
  induction r with
  | zero =>
    intro j x μ1 hj q e A F
    rw [Nat.add_zero] at hj
    subst hj
    refine ks_iload rfl rfl ?_
    refine ks_iload_n rfl rfl ?_
    -- at 8: if ge -> 62 else 11 st [None, None]
    refine ks_icmp_ge rfl ⟨by omega, by omega⟩ ⟨by omega, by omega⟩ (fun c => absurd c (by omega)) (fun c => ?_)
    refine ks_aload_n rfl rfl ?_
    refine ks_callv_1 rfl rfl rfl (Nat.le_of_ble_eq_true rfl) ?_
    -- at 63: call M_takeBack st []
    refine r_takeBack A Z0 (by rw [e]; exact tw_Z_go W Z j) (fun μ3 e3 F3 => ?_)
    show kx_wx _ _ _ _ _ _ _ _
    refine ks_iload_n rfl rfl ?_
    refine ks_zreturn rfl (by omega) ?_
    -- at 67: ret  st [None]
    rcases q with ⟨q1, q2⟩ | ⟨q1, q2⟩
    · rw [q2]; exact t1 q1 _ e3 (Fr81_tr F F3)
    · rw [q2]; exact t0 (by rw [q1]; exact Bool.false_ne_true) _ e3 (Fr81_tr F F3)
  | succ r ih =>
    intro j x μ1 hj q e A F
    obtain ⟨b0, b1⟩ := hi (y + j) (by omega) (by omega)
    rw [← hf] at b0 b1
    have W2 := tw_W_go60 W (n := j + 1) (by omega)
    have w3 : 0 ≤ tw_go s (j + 1) 4 ∧ tw_go s (j + 1) 4 < tw_go s (j + 1) 1 := W2.2.2.1
    have w1 : 1 ≤ tw_go s (j + 1) 1 ∧ tw_go s (j + 1) 1 ≤ 6 := W2.1
    refine ks_iload rfl rfl ?_
    refine ks_iload_n rfl rfl ?_
    -- at 8: if ge -> 62 else 11 st [None, None]
    refine ks_icmp_ge rfl ⟨by omega, by omega⟩ ⟨by omega, by omega⟩ (fun c => ?_) (fun c => absurd c (by omega))
    refine ks_aload_n rfl rfl ?_
    refine ks_callv_1 rfl rfl rfl (Nat.le_of_ble_eq_true rfl) ?_
    -- at 12: call M_oneStep st []
    refine r_oneStep (B := 2000) (by omega) e (tw_W_go60 W (by omega)) ?_
    have e2 : kx_row μ1 81 (tw_step (tw_go s j)) 81 = tw_go s (j + 1) := kx_row_self _ _ _
    have F2 : Fr81 μ1 (kx_row μ1 81 (tw_step (tw_go s j))) := Fr81_row _ _
    generalize kx_row μ1 81 (tw_step (tw_go s j)) = μ2 at *
    have F3 := Fr81_tr F F2
    have ei : μ2 80 (y + j) = f j := by rw [F3 80 (by omega), hf]
    rcases q with ⟨q1, q2⟩ | ⟨q1, q2⟩
    · have qs : q_ga s f (j + 1) = (decide (f j = -1) || decide (f j = tw_go s (j + 1) 4)) := by simp only [q_ga]; rw [q1]; rfl
      subst q2
      show kx_wx _ _ _ _ _ _ _ _
      refine ks_iload_n rfl rfl ?_
      refine ks_if_eq_1 rfl ?_
      refine ks_aload_n rfl rfl ?_
      refine ks_getr (b := 80) rfl rfl rfl rfl (by decide) ?_
      refine ks_iload_n rfl rfl ?_
      refine ks_iload rfl rfl ?_
      refine ks_iadd rfl ?_
      refine ks_iaload rfl rfl (by omega) (by omega) (by (try simp only [kx_up_at, kx_row_at, up1_at, Nat.reduceEqDiff, Int.reduceEq, Int.reduceNeg, and_true, true_and, and_false, false_and, and_self, reduceIte, Nat.add_left_cancel_iff, Nat.add_eq_left, Nat.left_eq_add, Nat.reduceAdd, Int.add_left_inj, Int.add_right_inj, ei, e2]); rfl) ?_
      refine ks_iconst rfl ?_
      -- at 29: if eq -> 50 else 32 st ['-1', None]
      refine ks_icmp_eq rfl ⟨by omega, by omega⟩ ⟨by omega, by omega⟩ (fun c1 => ?_) (fun c1 => ?_)
      · refine ks_iconst rfl ?_
        refine ks_goto rfl ?_
        refine ks_istore_n_3 rfl rfl ?_
        refine ks_iinc_4 rfl rfl ?_
        refine ks_goto rfl ?_
        -- at 5: stop  st []
        exact ih (j + 1) 1 μ2 (by omega) (Or.inl ⟨by rw [qs, decide_eq_true c1]; rfl, rfl⟩) e2 (AS_fr A F2) F3
      · refine ks_aload_n rfl rfl ?_
        refine ks_getr (b := 80) rfl rfl rfl rfl (by decide) ?_
        refine ks_iload_n rfl rfl ?_
        refine ks_iload rfl rfl ?_
        refine ks_iadd rfl ?_
        refine ks_iaload rfl rfl (by omega) (by omega) (by (try simp only [kx_up_at, kx_row_at, up1_at, Nat.reduceEqDiff, Int.reduceEq, Int.reduceNeg, and_true, true_and, and_false, false_and, and_self, reduceIte, Nat.add_left_cancel_iff, Nat.add_eq_left, Nat.left_eq_add, Nat.reduceAdd, Int.add_left_inj, Int.add_right_inj, ei, e2]); rfl) ?_
        refine ks_aload_n rfl rfl ?_
        refine ks_getr (b := 81) rfl rfl rfl rfl (by decide) ?_
        refine ks_iconst rfl ?_
        refine ks_iaload rfl rfl (by omega) (by omega) (by (try simp only [kx_up_at, kx_row_at, up1_at, Nat.reduceEqDiff, Int.reduceEq, Int.reduceNeg, and_true, true_and, and_false, false_and, and_self, reduceIte, Nat.add_left_cancel_iff, Nat.add_eq_left, Nat.left_eq_add, Nat.reduceAdd, Int.add_left_inj, Int.add_right_inj, ei, e2]); rfl) ?_
        -- at 47: if ne -> 54 else 50 st [None, None]
        refine ks_icmp_ne rfl ⟨by omega, by omega⟩ ⟨by omega, by omega⟩ (fun c2 => ?_) (fun c2 => ?_)
        · refine ks_iconst rfl ?_
          refine ks_goto rfl ?_
          refine ks_istore_n_3 rfl rfl ?_
          refine ks_iinc_4 rfl rfl ?_
          refine ks_goto rfl ?_
          -- at 5: stop  st []
          exact ih (j + 1) 1 μ2 (by omega) (Or.inl ⟨by rw [qs, decide_eq_true c2, Bool.or_true], rfl⟩) e2 (AS_fr A F2) F3
        · refine ks_iconst rfl ?_
          refine ks_istore_n_3 rfl rfl ?_
          refine ks_iinc_4 rfl rfl ?_
          refine ks_goto rfl ?_
          -- at 5: stop  st []
          exact ih (j + 1) 0 μ2 (by omega) (Or.inr ⟨by rw [qs, decide_eq_false c1, decide_eq_false c2]; rfl, rfl⟩) e2 (AS_fr A F2) F3
    · subst q2
      show kx_wx _ _ _ _ _ _ _ _
      refine ks_iload_n rfl rfl ?_
      refine ks_if_eq_0 rfl ?_
      refine ks_iconst rfl ?_
      refine ks_istore_n_3 rfl rfl ?_
      refine ks_iinc_4 rfl rfl ?_
      refine ks_goto rfl ?_
      -- at 5: stop  st []
      exact ih (j + 1) 0 μ2 (by omega) (Or.inr ⟨q_ga_no q1 (by omega), rfl⟩) e2 (AS_fr A F2) F3
theorem r_goesSo {y : Int} {n : Nat} {f : Int → Int} (y0 : 0 ≤ y) (y1 : y + n ≤ 320) (n1 : n ≤ 16) (hf : ∀ k, f k = μ 80 (y + k)) (hi : ∀ k, 0 ≤ k → k < 320 → kx_in (μ 80 k)) (hs : μ 81 = s) (A : AS μ s0) (W : tw_W 999 s) (Z : tw_Z s) (Z0 : tw_Z s0) (t1 : q_ga s f n = true → ∀ μ', μ' 81 = s0 → Fr81 μ μ' → Q (some (kI 1)) (kg L) μ') (t0 : ¬ q_ga s f n = true → ∀ μ', μ' 81 = s0 → Fr81 μ μ' → Q (some (kI 0)) (kg L) μ') : kx_cx (ke (d + 4)) 171 [kR 77, kI y, kI n] (kg L) μ Q := by
  refine ke_start (tb := kt_M_goesSo) (ls := [some (kR 77), some (kI y), some (kI n), none, none]) rfl rfl ?_
  refine ks_iconst rfl ?_
  refine ks_istore_n_3 rfl rfl ?_
  refine ks_iconst rfl ?_
  refine ks_istore_4 rfl rfl ?_
  -- at 5: stop  st []
  exact l_goesSo (μ := μ) y0 y1 n1 hf hi W Z Z0 t1 t0 n 0 1 μ (by omega) (Or.inl ⟨rfl, rfl⟩) hs A (fun _ _ => rfl)
theorem r_lacks {r i n : Int} (r0 : 0 ≤ r) (r1 : r ≤ 7) (hi : kx_in i) (n0 : 1 ≤ n) (n1 : n ≤ 16) (hb : -1 ≤ μ 79 r ∧ μ 79 r ≤ 40) (t1 : μ 79 r = -1 → Q (some (kI (-1000011))) (kg L) (kx_up μ 77 3 1)) (t2 : 0 ≤ μ 79 r → ¬ (0 ≤ i ∧ i + n ≤ μ 79 r) → Q (some (kI (-1000012))) (kg L) (kx_up μ 77 3 2)) (t0 : 0 ≤ i → i + n ≤ μ 79 r → Q (some (kI 0)) (kg L) μ) : kx_cx (ke (d + 2)) 170 [kR 77, kI r, kI i, kI n] (kg L) μ Q := by
  refine ke_start (tb := kt_M_lacks) (ls := [some (kR 77), some (kI r), some (kI i), some (kI n)]) rfl rfl ?_
  obtain ⟨_, _⟩ := hi
  refine ks_aload_n rfl rfl ?_
  refine ks_getr (b := 79) rfl rfl rfl rfl (by decide) ?_
  refine ks_iload_n rfl rfl ?_
  refine ks_iaload rfl rfl (by omega) (by omega) (by (try simp only [kx_up_at, kx_row_at, up1_at, Nat.reduceEqDiff, Int.reduceEq, Int.reduceNeg, and_true, true_and, and_false, false_and, and_self, reduceIte, Nat.add_left_cancel_iff, Nat.add_eq_left, Nat.left_eq_add, Nat.reduceAdd, Int.add_left_inj, Int.add_right_inj]); rfl) ?_
  -- at 6: if ge -> 15 else 9 st [None]
  refine ks_if_ge rfl ⟨by omega, by omega⟩ (fun c => ?_) (fun c => ?_)
  · refine ks_aload_n rfl rfl ?_
    refine ks_iconst rfl ?_
    refine ks_callv_2 rfl rfl rfl (Nat.le_of_ble_eq_true rfl) ?_
    -- at 11: call M_find st []
    refine r_find ?_
    show kx_wx _ _ _ _ _ (_ :: _) _ _
    refine ks_ireturn rfl ?_
    -- at 14: ret  st [None]
    exact t1 (by omega)
  · refine ks_iload_n rfl rfl ?_
    refine ks_i2l rfl ⟨by omega, by omega⟩ ?_
    refine ks_lconst rfl ?_
    refine ks_aload_n rfl rfl ?_
    refine ks_getr (b := 79) rfl rfl rfl rfl (by decide) ?_
    refine ks_iload_n rfl rfl ?_
    refine ks_iaload rfl rfl (by omega) (by omega) (by (try simp only [kx_up_at, kx_row_at, up1_at, Nat.reduceEqDiff, Int.reduceEq, Int.reduceNeg, and_true, true_and, and_false, false_and, and_self, reduceIte, Nat.add_left_cancel_iff, Nat.add_eq_left, Nat.left_eq_add, Nat.reduceAdd, Int.add_left_inj, Int.add_right_inj]); rfl) ?_
    refine ks_iload_n rfl rfl ?_
    refine ks_isub rfl ?_
    refine ks_i2l rfl ⟨by omega, by omega⟩ ?_
    refine ks_calls_3 rfl (Nat.le_of_ble_eq_true rfl) ?_
    -- at 27: call M_in st []
    refine r_in ⟨by omega, by omega⟩ ⟨by omega, by omega⟩ ⟨by omega, by omega⟩ (fun c2 => ?_) (fun c2 => ?_)
    · show kx_wx _ _ _ _ _ (_ :: _) _ _
      refine ks_if_eq_1 rfl ?_
      refine ks_iconst rfl ?_
      refine ks_goto rfl ?_
      refine ks_ireturn rfl ?_
      -- at 42: ret  st ['0']
      exact t0 (by omega) (by omega)
    · show kx_wx _ _ _ _ _ (_ :: _) _ _
      refine ks_if_eq_0 rfl ?_
      refine ks_aload_n rfl rfl ?_
      refine ks_iconst rfl ?_
      refine ks_callv_2 rfl rfl rfl (Nat.le_of_ble_eq_true rfl) ?_
      -- at 39: call M_find st []
      refine r_find ?_
      show kx_wx _ _ _ _ _ (_ :: _) _ _
      refine ks_ireturn rfl ?_
      -- at 42: ret  st [None]
      exact t2 (by omega) (by omega)
theorem l_Mseen {l i w : Int} {n : Nat} {f : Int → Int} {X : Int × Int} (hw : kx_in w) (l0 : 0 ≤ l) (l1 : l ≤ 7) (i0 : 0 ≤ i) (i1 : i + n ≤ 40) (n1 : n ≤ 16) (hf : ∀ k, f k = μ 80 (40 * l + i + k)) (hi : ∀ k, 0 ≤ k → k < 320 → kx_in (μ 80 k)) (hs : μ 81 = s) (W : tw_W 999 s) (Z : tw_Z s) (t : ∀ μ', FrQ μ μ' → Q (some (kI (if w = 0 then X.1 else X.2))) (kg L) (kx_up μ' 77 3 0)) : ∀ (r : Nat) (a b : Int) (μ1 : kx_M) (x9 : Option kx_V), r ≤ (s 1).toNat → q_se s f n r a b = X → μ1 81 = s → AS μ1 s → FrI μ μ1 → kx_wx (ke (d + 4)) kt_M_seen Q 81 [some (kR 77), some (kI l), some (kI i), some (kI n), some (kI w), some (kI 0), some (kI a), some (kI b), some (kI (r - 1)), x9] [] (kg L) μ1 := by
  obtain ⟨_, _⟩ := hw
  have w1 := W.1
  intro r
  induction r with
  | zero =>
    intro a b μ1 x9 hr q e A F
    simp only [q_se] at q
    subst q
    refine ks_iload rfl rfl ?_
    -- at 83: if lt -> 140 else 86 st [None]
    refine ks_if_lt rfl ⟨by omega, by omega⟩ (fun c => ?_) (fun c => absurd c (by omega))
    refine ks_aload_n rfl rfl ?_
    refine ks_iload rfl rfl ?_
    -- at 143: if ne -> 151 else 146 st [None, '77']
    refine ks_if_ne rfl ⟨by omega, by omega⟩ (fun c2 => ?_) (fun c2 => ?_)
    · refine ks_iload rfl rfl ?_
      refine ks_goto rfl ?_
      refine ks_callv_2 rfl rfl rfl (Nat.le_of_ble_eq_true rfl) ?_
      -- at 153: call M_well st []
      refine r_well ?_
      show kx_wx _ _ _ _ _ (_ :: _) _ _
      refine ks_ireturn rfl ?_
      -- at 156: ret  st [None]
      simp only [if_pos c2] at t
      exact t _ (FrQ_of F hs e)
    · refine ks_iload rfl rfl ?_
      refine ks_callv_2 rfl rfl rfl (Nat.le_of_ble_eq_true rfl) ?_
      -- at 153: call M_well st []
      refine r_well ?_
      show kx_wx _ _ _ _ _ (_ :: _) _ _
      refine ks_ireturn rfl ?_
      -- at 156: ret  st [None]
      simp only [if_neg c2] at t
      exact t _ (FrQ_of F hs e)
  | succ r ih =>
    intro a b μ1 x9 hr q e A F
    have er : ((r + 1 : Nat) : Int) - 1 = r := by omega
    rw [er]
    rw [q_se] at q
    refine ks_iload rfl rfl ?_
    -- at 83: if lt -> 140 else 86 st [None]
    refine ks_if_lt rfl ⟨by omega, by omega⟩ (fun c => absurd c (by omega)) (fun c => ?_)
    refine ks_aload_n rfl rfl ?_
    refine ks_iload rfl rfl ?_
    refine ks_callv_2 rfl rfl rfl (Nat.le_of_ble_eq_true rfl) ?_
    -- at 89: call M_giveTo st []
    refine r_giveTo ?_
    have e3 : kx_row μ1 81 (up1 (up1 (μ1 81) 4 r) 5 0) 81 = tw_gv s r := by rw [kx_row_self, e]; rfl
    have F3 : Fr81 μ1 (kx_row μ1 81 (up1 (up1 (μ1 81) 4 r) 5 0)) := Fr81_row _ _
    generalize kx_row μ1 81 (up1 (up1 (μ1 81) 4 r) 5 0) = μ3 at *
    show kx_wx _ _ _ _ _ _ _ _
    refine ks_aload_n rfl rfl ?_
    refine ks_bipush rfl ?_
    refine ks_iload_n rfl rfl ?_
    refine ks_imul rfl ?_
    refine ks_iload_n rfl rfl ?_
    refine ks_iadd rfl ?_
    refine ks_iload_n rfl rfl ?_
    refine ks_callv_3 rfl rfl rfl (Nat.le_of_ble_eq_true rfl) ?_
    -- at 100: call M_goesSo st []
    have W3 : tw_W 999 (tw_gv s r) := tw_W_give W (by omega) (by omega)
    have e80 : μ3 80 = μ 80 := by rw [F3 80 (by omega), F 80 (by omega) (by omega) (by omega)]
    refine r_goesSo (f := f) (s0 := s) (by omega) (by omega) n1 (fun k => by rw [e80]; exact hf k) (fun k a b => by rw [e80]; exact hi k a b) e3 (AS_fr A F3) W3 (tw_Z_gv Z) Z (fun D μ4 e4 F4 => ?_) (fun D μ4 e4 F4 => ?_)
    · have F5 := Fr81_tr F3 F4
      rw [if_pos D] at q
      show kx_wx _ _ _ _ _ (_ :: _) _ _
      refine ks_istore_9 rfl rfl ?_
      refine ks_iload rfl rfl ?_
      refine ks_iload rfl rfl ?_
      refine ks_if_eq_1 rfl ?_
      refine ks_iconst rfl ?_
      refine ks_goto rfl ?_
      refine ks_iadd rfl ?_
      refine ks_istore_6 rfl rfl ?_
      refine ks_iload rfl rfl ?_
      refine ks_if_eq_1 rfl ?_
      refine ks_iload rfl rfl ?_
      refine ks_goto rfl ?_
      refine ks_istore_7 rfl rfl ?_
      refine ks_iinc_8 rfl rfl ?_
      refine ks_goto rfl ?_
      -- at 81: stop  st []
      exact ih _ _ μ4 _ (by omega) q e4 (AS_fr A F5) (FrI_81 F F5)
    · have F5 := Fr81_tr F3 F4
      rw [if_neg D] at q
      show kx_wx _ _ _ _ _ (_ :: _) _ _
      refine ks_istore_9 rfl rfl ?_
      refine ks_iload rfl rfl ?_
      refine ks_iload rfl rfl ?_
      refine ks_if_eq_0 rfl ?_
      refine ks_iconst rfl ?_
      refine ks_iadd rfl ?_
      refine ks_istore_6 rfl rfl ?_
      refine ks_iload rfl rfl ?_
      refine ks_if_eq_0 rfl ?_
      refine ks_iload rfl rfl ?_
      refine ks_istore_7 rfl rfl ?_
      refine ks_iinc_8 rfl rfl ?_
      refine ks_goto rfl ?_
      -- at 81: stop  st []
      rw [Int.add_zero]
      exact ih _ _ μ4 _ (by omega) q e4 (AS_fr A F5) (FrI_81 F F5)
theorem r_Mseen {l i n w : Int} (hl : kx_in l) (hii : kx_in i) (hn : kx_in n) (hw : kx_in w) (hs : μ 81 = s) (N : TN s) (I : IT μ s) (hb : ∀ i, 0 ≤ i → i < 8 → -1 ≤ μ 79 i ∧ μ 79 i ≤ 40) (hi : ∀ k, 0 ≤ k → k < 320 → kx_in (μ 80 k)) (t0 : s 1 = 0 → Q (some (kI (-1000002))) (kg L) μ) (t1 : 1 ≤ s 1 → ¬ ((0 ≤ l ∧ l ≤ 7) ∧ (1 ≤ n ∧ n ≤ 16) ∧ (0 ≤ w ∧ w ≤ 1)) → Q (some (kI (-1000001))) (kg L) μ) (t3 : 1 ≤ s 1 → (0 ≤ l ∧ l ≤ 7) → (1 ≤ n ∧ n ≤ 16) → (0 ≤ w ∧ w ≤ 1) → μ 79 l = -1 → Q (some (kI (-1000011))) (kg L) (kx_up μ 77 3 1)) (t4 : 1 ≤ s 1 → (0 ≤ l ∧ l ≤ 7) → (1 ≤ n ∧ n ≤ 16) → (0 ≤ w ∧ w ≤ 1) → 0 ≤ μ 79 l → ¬ (0 ≤ i ∧ i + n ≤ μ 79 l) → Q (some (kI (-1000012))) (kg L) (kx_up μ 77 3 2)) (t2 : 1 ≤ s 1 → (0 ≤ l ∧ l ≤ 7) → (1 ≤ n ∧ n ≤ 16) → (0 ≤ w ∧ w ≤ 1) → 0 ≤ i → i + n ≤ μ 79 l → ∀ μ', FrQ μ μ' → Q (some (kI (if w = 0 then (q_se s (fun k => μ 80 (40 * l + i + k)) n.toNat (s 1).toNat 0 (-1000000)).1 else (q_se s (fun k => μ 80 (40 * l + i + k)) n.toNat (s 1).toNat 0 (-1000000)).2))) (kg L) (kx_up μ' 77 3 0)) : kx_cx (ke (d + 5)) 172 [kR 77, kI l, kI i, kI n, kI w] (kg L) μ Q := by
  refine ke_start (tb := kt_M_seen) (ls := [some (kR 77), some (kI l), some (kI i), some (kI n), some (kI w), none, none, none, none, none]) rfl rfl ?_
  obtain ⟨i0, i1, i2, i3⟩ := IT_in I
  have hw0 := hw
  obtain ⟨_, _⟩ := hw
  obtain ⟨_, _⟩ := hn
  refine ks_aload_n rfl rfl ?_
  refine ks_geti rfl rfl rfl rfl (by (try simp only [kx_up_at, kx_row_at, up1_at, Nat.reduceEqDiff, Int.reduceEq, Int.reduceNeg, and_true, true_and, and_false, false_and, and_self, reduceIte, Nat.add_left_cancel_iff, Nat.add_eq_left, Nat.left_eq_add, Nat.reduceAdd, Int.add_left_inj, Int.add_right_inj]); rfl) ?_
  -- at 4: if ne -> 10 else 7 st [None]
  refine ks_if_ne rfl ⟨by omega, by omega⟩ (fun c => ?_) (fun c => ?_)
  · refine ks_ldc rfl ?_
    refine ks_ireturn rfl ?_
    -- at 9: ret  st ['-1000002']
    exact t0 (by omega)
  · refine ks_iload_n rfl rfl ?_
    refine ks_calls_1 rfl (Nat.le_of_ble_eq_true rfl) ?_
    -- at 11: call M_isRow st []
    refine r_MisRow hl (fun c2 => ?_) (fun c2 => ?_)
    · show kx_wx _ _ _ _ _ (_ :: _) _ _
      refine ks_if_eq_1 rfl ?_
      refine ks_iload_n rfl rfl ?_
      refine ks_i2l rfl ⟨by omega, by omega⟩ ?_
      refine ks_lconst rfl ?_
      refine ks_ldc2_w rfl ?_
      refine ks_calls_3 rfl (Nat.le_of_ble_eq_true rfl) ?_
      -- at 23: call M_in st []
      refine r_in ⟨by omega, by omega⟩ ⟨by omega, by omega⟩ ⟨by omega, by omega⟩ (fun c3 => ?_) (fun c3 => ?_)
      · show kx_wx _ _ _ _ _ (_ :: _) _ _
        refine ks_if_eq_1 rfl ?_
        refine ks_iload rfl rfl ?_
        refine ks_i2l rfl ⟨by omega, by omega⟩ ?_
        refine ks_lconst rfl ?_
        refine ks_lconst rfl ?_
        refine ks_calls_3 rfl (Nat.le_of_ble_eq_true rfl) ?_
        -- at 34: call M_in st []
        refine r_in ⟨by omega, by omega⟩ ⟨by omega, by omega⟩ ⟨by omega, by omega⟩ (fun c4 => ?_) (fun c4 => ?_)
        · show kx_wx _ _ _ _ _ (_ :: _) _ _
          refine ks_if_ne_1 rfl ?_
          refine ks_aload_n rfl rfl ?_
          refine ks_iload_n rfl rfl ?_
          refine ks_iload_n rfl rfl ?_
          refine ks_iload_n rfl rfl ?_
          refine ks_callv_4 rfl rfl rfl (Nat.le_of_ble_eq_true rfl) ?_
          -- at 47: call M_lacks st []
          have hbl := hb l c2.1 (by omega)
          obtain ⟨W, Z⟩ := TN_W N (by omega)
          have w1 := W.1
          refine r_lacks c2.1 c2.2 hii c3.1 c3.2 hbl (fun q => ?_) (fun q1 q2 => ?_) (fun q1 q2 => ?_)
          · show kx_wx _ _ _ _ _ (_ :: _) _ _
            refine ks_istore_5 rfl rfl ?_
            refine ks_iload rfl rfl ?_
            -- at 54: if ge -> 60 else 57 st [None]
            refine ks_if_ge rfl ⟨by omega, by omega⟩ (fun c5 => ?_) (fun c5 => absurd c5 (by omega))
            refine ks_iload rfl rfl ?_
            refine ks_ireturn rfl ?_
            -- at 59: ret  st [None]
            exact t3 (by omega) c2 c3 c4 q
          · show kx_wx _ _ _ _ _ (_ :: _) _ _
            refine ks_istore_5 rfl rfl ?_
            refine ks_iload rfl rfl ?_
            -- at 54: if ge -> 60 else 57 st [None]
            refine ks_if_ge rfl ⟨by omega, by omega⟩ (fun c5 => ?_) (fun c5 => absurd c5 (by omega))
            refine ks_iload rfl rfl ?_
            refine ks_ireturn rfl ?_
            -- at 59: ret  st [None]
            exact t4 (by omega) c2 c3 c4 q1 q2
          · have ev : n = (n.toNat : Int) := by omega
            generalize n.toNat = m at *
            subst ev
            show kx_wx _ _ _ _ _ (_ :: _) _ _
            refine ks_istore_5 rfl rfl ?_
            refine ks_iload rfl rfl ?_
            -- at 54: if ge -> 60 else 57 st [None]
            refine ks_if_ge rfl ⟨by omega, by omega⟩ (fun c5 => absurd c5 (by omega)) (fun c5 => ?_)
            refine ks_aload_n rfl rfl ?_
            refine ks_callv_1 rfl rfl rfl (Nat.le_of_ble_eq_true rfl) ?_
            -- at 61: call M_putAside st []
            refine r_putAside hs (fun μ1 A1 e1 F1 => ?_)
            show kx_wx _ _ _ _ _ _ _ _
            refine ks_iconst rfl ?_
            refine ks_istore_6 rfl rfl ?_
            refine ks_ldc rfl ?_
            refine ks_istore_7 rfl rfl ?_
            refine ks_aload_n rfl rfl ?_
            refine ks_getr (b := 81) rfl rfl rfl rfl (by decide) ?_
            refine ks_iconst rfl ?_
            refine ks_iaload rfl rfl (by omega) (by omega) (by (try simp only [kx_up_at, kx_row_at, up1_at, Nat.reduceEqDiff, Int.reduceEq, Int.reduceNeg, and_true, true_and, and_false, false_and, and_self, reduceIte, Nat.add_left_cancel_iff, Nat.add_eq_left, Nat.left_eq_add, Nat.reduceAdd, Int.add_left_inj, Int.add_right_inj, e1]); rfl) ?_
            refine ks_iconst rfl ?_
            refine ks_isub rfl ?_
            refine ks_istore_8 rfl rfl ?_
            -- at 81: stop  st []
            have := l_Mseen (d := d) (f := fun k => μ 80 (40 * l + i + k)) hw0 c2.1 c2.2 q1 (by omega) (by omega) (fun _ => rfl) hi hs W Z (t2 (by omega) c2 c3 c4 q1 q2) (s 1).toNat 0 (-1000000) μ1 none (Nat.le_refl _) rfl e1 A1 F1
            rw [show ((s 1).toNat : Int) - 1 = s 1 - 1 by omega] at this
            exact this
        · show kx_wx _ _ _ _ _ (_ :: _) _ _
          refine ks_if_ne_0 rfl ?_
          refine ks_ldc rfl ?_
          refine ks_ireturn rfl ?_
          -- at 42: ret  st ['-1000001']
          exact t1 (by omega) (fun q => c4 q.2.2)
      · show kx_wx _ _ _ _ _ (_ :: _) _ _
        refine ks_if_eq_0 rfl ?_
        refine ks_ldc rfl ?_
        refine ks_ireturn rfl ?_
        -- at 42: ret  st ['-1000001']
        exact t1 (by omega) (fun q => c3 q.2.1)
    · show kx_wx _ _ _ _ _ (_ :: _) _ _
      refine ks_if_eq_0 rfl ?_
      refine ks_ldc rfl ?_
      refine ks_ireturn rfl ?_
      -- at 42: ret  st ['-1000001']
      exact t1 (by omega) (fun q => c2 q.1)
end MG
