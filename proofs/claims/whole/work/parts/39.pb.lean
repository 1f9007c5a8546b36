/-! reading a town, class side -/
def TP (μ : kx_M) (T : Int → Int) (n : Int) : Prop := μ 19 1 = n ∧ μ 20 = T ∧ (∀ i, 0 ≤ T i ∧ T i ≤ 255) ∧ (0 ≤ n ∧ n ≤ 120)
theorem TP_fr {μ μ' : kx_M} {T : Int → Int} {n : Int} (P : TP μ T n) (F : FrP μ μ') : TP μ' T n := by
  obtain ⟨a, b, c, d⟩ := P
  exact ⟨by rw [F.1 1 (by omega)]; exact a, by rw [F.2 20 (by omega) (by omega)]; exact b, c, d⟩
theorem TB_P {μ μ' : kx_M} (B : TB μ) (F : FrP μ μ') : TB μ' := TB_fr B (fun c hc => F.2 c (by omega) (by omega))
theorem adh_eq {s : Int → Int} {k a b : Int} (h1 : 0 ≤ s 1 ∧ s 1 < 6) (h : s (24 + s 1) = 0) : up1 (up1 (up1 (up1 (up1 s (6 + s 1) k) (12 + s 1) a) (18 + s 1) b) (24 + s 1) 0) 1 (s 1 + 1) = adh s k a b := by
  unfold adh
  rw [up1_id (s := up1 (up1 (up1 s (6 + s 1) k) (12 + s 1) a) (18 + s 1) b) (i := 24 + s 1) (by simp (disch := omega) only [up1_ne]; exact h)]
theorem ado_eq {s : Int → Int} {x : Int} (h2 : 0 ≤ s 2 ∧ s 2 < 4) (h : s (38 + s 2) = 0) : up1 (up1 (up1 (up1 s (30 + s 2) x) (34 + s 2) x) (38 + s 2) 0) 2 (s 2 + 1) = ado s x := by
  unfold ado
  rw [up1_id (s := up1 (up1 s (30 + s 2) x) (34 + s 2) x) (i := 38 + s 2) (by simp (disch := omega) only [up1_ne]; exact h)]
theorem ps_num_1 {α : Type} {T : Int → Int} {n p lo hi : Int} {k : Int → Int → PR α} (h1 : ¬ (fg T n p = 0 ∨ 2 < fg T n p)) (h2 : ¬ (nv T p (fg T n p) < lo ∨ hi < nv T p (fg T n p))) : ps_num T n p lo hi k = k (nv T p (fg T n p)) (p + fg T n p) := by unfold ps_num; rw [if_neg h1, if_neg h2]
theorem ps_num_0 {α : Type} {T : Int → Int} {n p lo hi : Int} {k : Int → Int → PR α} (h1 : fg T n p = 0 ∨ 2 < fg T n p) : ps_num T n p lo hi k = .inl (1, p) := by unfold ps_num; rw [if_pos h1]
theorem ps_num_2 {α : Type} {T : Int → Int} {n p lo hi : Int} {k : Int → Int → PR α} (h1 : ¬ (fg T n p = 0 ∨ 2 < fg T n p)) (h2 : nv T p (fg T n p) < lo ∨ hi < nv T p (fg T n p)) : ps_num T n p lo hi k = .inl (2, p) := by unfold ps_num; rw [if_neg h1, if_pos h2]
theorem ps_tk_1 {α : Type} {T : Int → Int} {n p c : Int} {k : PR α} (h : p < n ∧ T p = c) : ps_tk T n p c k = k := by unfold ps_tk; rw [if_pos h]
theorem ps_tk_0 {α : Type} {T : Int → Int} {n p c : Int} {k : PR α} (h : ¬ (p < n ∧ T p = c)) : ps_tk T n p c k = .inl (1, p) := by unfold ps_tk; rw [if_neg h]
section PB
variable {d L : Nat} {G : kx_G} {μ : kx_M} {Q : Option kx_V → kx_G → kx_M → Prop} {s T : Int → Int} {n p c : Int} {R : PR (Int × (Int → Int))}
/-- a fault told: number and place -/
theorem TR19 {μ : kx_M} {i v : Int} {s : Int → Int} {z : Int} (h : TRx μ 21 s z) : TRx (kx_up μ 19 i v) 21 s z := TR_fr h (fun c c0 c1 => kx_up_row (by omega))
theorem r_readLaw (P : TP μ T n) (hp : μ 19 4 = 0) (D : TRx μ 21 (fun _ => 0) 0) (hR : ps_law T n = R) (t1 : ∀ p' s' μ', R = .inr (p', s') → PS s' → s' 1 = 0 → s' 2 = 0 → 0 ≤ p' → p' ≤ n → μ' 19 4 = p' → TRx μ' 21 s' 0 → FrP μ μ' → Q (some (kI 1)) (kg L) μ') (t0 : ∀ f q μ', R = .inl (f, q) → 1 ≤ f → f ≤ 3 → 0 ≤ q → q ≤ n → μ' 19 2 = f → μ' 19 3 = q → FrP μ μ' → Q (some (kI 0)) (kg L) μ') : kx_cx (ke (d + 3)) 42 [kR 19, kR 21] (kg L) μ Q := by
  refine ke_start (tb := kt_Tape_readLaw) (ls := [some (kR 19), some (kR 21)]) rfl rfl ?_
  obtain ⟨P1, P2, P3, P4⟩ := P
  unfold ps_law at hR
  refine ks_aload_n rfl rfl ?_
  refine ks_bipush rfl ?_
  refine ks_callv_2 rfl rfl rfl (Nat.le_of_ble_eq_true rfl) ?_
  -- at 3: call Tape_take st []
  refine r_take P3 P1 hp P2 (by omega) (by omega) (by omega) (by omega) (by omega) (fun c1 => ?_) (fun c1 => ?_)
  · rw [ps_tk_1 c1] at hR
    show kx_wx _ _ _ _ _ (_ :: _) _ _
    refine ks_if_eq_1 rfl ?_
    refine ks_aload_n rfl rfl ?_
    refine ks_iconst rfl ?_
    refine ks_iconst rfl ?_
    refine ks_callv_3 rfl rfl rfl (Nat.le_of_ble_eq_true rfl) ?_
    -- at 12: call Tape_takeNumber st []
    have g1 : kx_up μ 19 4 (0 + 1) 19 1 = n := by rw [kx_up_oth (by omega)]; exact P1
    have g4 : kx_up μ 19 4 (0 + 1) 19 4 = 1 := by rw [kx_up_self]; rfl
    have gT : kx_up μ 19 4 (0 + 1) 20 = T := by rw [kx_up_row (by omega)]; exact P2
    have F1 : FrP μ (kx_up μ 19 4 (0 + 1)) := FrP_up (FrP_rf μ) (by omega)
    have D1 : TRx (kx_up μ 19 4 (0 + 1)) 21 (fun _ => 0) 0 := TR19 D
    generalize kx_up μ 19 4 (0 + 1) = μ1 at *
    have hf := fg_in (T := T) (n := n) (p := 1) (by omega)
    refine r_takeNumber P3 g1 g4 gT (by omega) (by omega) (by omega) (by omega) (by omega) (fun c2 c3 => ?_) (fun c2 => ?_) (fun c2 c3 => ?_)
    · rw [ps_num_1 c2 c3] at hR
      have hv := nv_in (T := T) (n := n) (p := 1) (by omega) (by omega)
      generalize fg T n 1 = f at *
      generalize nv T 1 f = v at *
      have k5 : kx_up (kx_up μ1 19 5 v) 19 4 (1 + f) 19 5 = v := by rw [kx_up_oth (by omega), kx_up_self]
      have k1 : kx_up (kx_up μ1 19 5 v) 19 4 (1 + f) 19 1 = n := by rw [kx_up_oth (by omega), kx_up_oth (by omega)]; exact g1
      have k4 : kx_up (kx_up μ1 19 5 v) 19 4 (1 + f) 19 4 = 1 + f := by rw [kx_up_self]
      have kT : kx_up (kx_up μ1 19 5 v) 19 4 (1 + f) 20 = T := by rw [kx_up_row (by omega), kx_up_row (by omega)]; exact gT
      have F2 : FrP μ (kx_up (kx_up μ1 19 5 v) 19 4 (1 + f)) := FrP_up (FrP_up F1 (by omega)) (by omega)
      have D2 : TRx (kx_up (kx_up μ1 19 5 v) 19 4 (1 + f)) 21 (fun _ => 0) 0 := TR19 (TR19 D1)
      generalize kx_up (kx_up μ1 19 5 v) 19 4 (1 + f) = μ2 at *
      show kx_wx _ _ _ _ _ (_ :: _) _ _
      refine ks_if_ne_1 rfl ?_
      refine ks_aload_n rfl rfl ?_
      refine ks_aload_n rfl rfl ?_
      refine ks_geti rfl rfl rfl rfl (by (try simp only [kx_up_at, kx_row_at, up1_at, Nat.reduceEqDiff, Int.reduceEq, Int.reduceNeg, and_true, true_and, and_false, false_and, and_self, reduceIte, Nat.add_left_cancel_iff, Nat.add_eq_left, Nat.left_eq_add, Nat.reduceAdd, Int.add_left_inj, Int.add_right_inj, k5]); rfl) ?_
      refine ks_puti rfl rfl ?_
      refine ks_aload_n rfl rfl ?_
      refine ks_bipush rfl ?_
      refine ks_callv_2 rfl rfl rfl (Nat.le_of_ble_eq_true rfl) ?_
      -- at 31: call Tape_take st []
      have D3 : TRx (kx_up μ2 21 10 v) 21 (up1 (fun _ => 0) 0 v) 0 := TRx_10 D2
      have F3 : FrP μ (kx_up μ2 21 10 v) := ⟨fun j a => by rw [kx_up_row (by omega)]; exact F2.1 j a, fun c a b => by rw [kx_up_row (by omega)]; exact F2.2 c a b⟩
      have m1 : kx_up μ2 21 10 v 19 1 = n := by rw [kx_up_row (by omega)]; exact k1
      have m4 : kx_up μ2 21 10 v 19 4 = 1 + f := by rw [kx_up_row (by omega)]; exact k4
      have mT : kx_up μ2 21 10 v 20 = T := by rw [kx_up_row (by omega)]; exact kT
      generalize kx_up μ2 21 10 v = μ3 at *
      refine r_take P3 m1 m4 mT (by omega) (by omega) (by omega) (by omega) (by omega) (fun c4 => ?_) (fun c4 => ?_)
      · rw [ps_tk_1 c4] at hR
        show kx_wx _ _ _ _ _ (_ :: _) _ _
        refine ks_zreturn rfl (by omega) ?_
        -- at 34: ret  st ['1']
        refine t1 (1 + f + 1) _ _ hR.symm (PS_wind (by omega) (by omega)) ?_ ?_ (by omega) (by omega) (kx_up_self _ _ _ _) (TR19 D3) (FrP_up F3 (by omega))
        · rw [up1_ne (by omega)]
        · rw [up1_ne (by omega)]
      · rw [ps_tk_0 c4] at hR
        show kx_wx _ _ _ _ _ (_ :: _) _ _
        refine ks_zreturn rfl (by omega) ?_
        -- at 34: ret  st ['0']
        refine t0 1 (1 + f) _ hR.symm (by omega) (by omega) (by omega) (by omega) ?_ (kx_up_self _ _ _ _) (FrP_up (FrP_up F3 (by omega)) (by omega))
        rw [kx_up_oth (by omega), kx_up_self]
    · rw [ps_num_0 c2] at hR
      show kx_wx _ _ _ _ _ (_ :: _) _ _
      refine ks_if_ne_0 rfl ?_
      refine ks_iconst rfl ?_
      refine ks_zreturn rfl (by omega) ?_
      -- at 19: ret  st ['0']
      refine t0 1 1 _ hR.symm (by omega) (by omega) (by omega) (by omega) ?_ (kx_up_self _ _ _ _) (FrP_up (FrP_up F1 (by omega)) (by omega))
      rw [kx_up_oth (by omega), kx_up_self]
    · rw [ps_num_2 c2 c3] at hR
      show kx_wx _ _ _ _ _ (_ :: _) _ _
      refine ks_if_ne_0 rfl ?_
      refine ks_iconst rfl ?_
      refine ks_zreturn rfl (by omega) ?_
      -- at 19: ret  st ['0']
      refine t0 2 1 _ hR.symm (by omega) (by omega) (by omega) (by omega) ?_ (kx_up_self _ _ _ _) (FrP_up (FrP_up F1 (by omega)) (by omega))
      rw [kx_up_oth (by omega), kx_up_self]
  · rw [ps_tk_0 c1] at hR
    show kx_wx _ _ _ _ _ (_ :: _) _ _
    refine ks_if_eq_0 rfl ?_
    refine ks_iconst rfl ?_
    refine ks_zreturn rfl (by omega) ?_
    -- at 19: ret  st ['0']
    refine t0 1 0 _ hR.symm (by omega) (by omega) (by omega) (by omega) ?_ (kx_up_self _ _ _ _) (FrP_up (FrP_up (FrP_rf μ) (by omega)) (by omega))
    rw [kx_up_oth (by omega), kx_up_self]
theorem r_readHead {k : Int} (P : TP μ T n) (p0 : 0 ≤ p) (p1 : p < n) (hp : μ 19 4 = p) (k0 : 1 ≤ k) (k1 : k ≤ 5) (D : TRx μ 21 s 0) (S : PS s) (s2 : s 2 = 0) (hR : ps_head T n k p s = R) (t1 : ∀ p' s' μ', R = .inr (p', s') → PS s' → s' 1 = s 1 + 1 → s' 2 = 0 → 0 ≤ p' → p' ≤ n → μ' 19 4 = p' → TRx μ' 21 s' 0 → FrP μ μ' → Q (some (kI 1)) (kg L) μ') (t0 : ∀ f q μ', R = .inl (f, q) → 1 ≤ f → f ≤ 3 → 0 ≤ q → q ≤ n → μ' 19 2 = f → μ' 19 3 = q → FrP μ μ' → Q (some (kI 0)) (kg L) μ') : kx_cx (ke (d + 3)) 44 [kR 19, kR 21, kI k] (kg L) μ Q := by
  refine ke_start (tb := kt_Tape_readHead) (ls := [some (kR 19), some (kR 21), some (kI k), none]) rfl rfl ?_
  obtain ⟨P1, P2, P3, P4⟩ := P
  have e8 := D.1
  have s1 := S.1
  unfold ps_head at hR
  refine ks_aload_n rfl rfl ?_
  refine ks_geti rfl rfl rfl rfl (by (try simp only [kx_up_at, kx_row_at, up1_at, Nat.reduceEqDiff, Int.reduceEq, Int.reduceNeg, and_true, true_and, and_false, false_and, and_self, reduceIte, Nat.add_left_cancel_iff, Nat.add_eq_left, Nat.left_eq_add, Nat.reduceAdd, Int.add_left_inj, Int.add_right_inj, e8, hp]); rfl) ?_
  refine ks_bipush rfl ?_
  -- at 6: if lt -> 15 else 9 st ['6', None]
  refine ks_icmp_lt rfl ⟨by omega, by omega⟩ ⟨by omega, by omega⟩ (fun c0 => ?_) (fun c0 => ?_)
  · rw [if_neg (by omega)] at hR
    refine ks_aload_n rfl rfl ?_
    refine ks_dupR rfl ?_
    refine ks_geti rfl rfl rfl rfl (by (try simp only [kx_up_at, kx_row_at, up1_at, Nat.reduceEqDiff, Int.reduceEq, Int.reduceNeg, and_true, true_and, and_false, false_and, and_self, reduceIte, Nat.add_left_cancel_iff, Nat.add_eq_left, Nat.left_eq_add, Nat.reduceAdd, Int.add_left_inj, Int.add_right_inj, e8, hp]); rfl) ?_
    refine ks_iconst rfl ?_
    refine ks_iadd rfl ?_
    refine ks_puti rfl rfl ?_
    refine ks_aload_n rfl rfl ?_
    refine ks_iconst rfl ?_
    refine ks_bipush rfl ?_
    refine ks_callv_3 rfl rfl rfl (Nat.le_of_ble_eq_true rfl) ?_
    -- at 29: call Tape_takeNumber st []
    have g1 : kx_up μ 19 4 (p + 1) 19 1 = n := by rw [kx_up_oth (by omega)]; exact P1
    have g4 : kx_up μ 19 4 (p + 1) 19 4 = p + 1 := by rw [kx_up_self]
    have gT : kx_up μ 19 4 (p + 1) 20 = T := by rw [kx_up_row (by omega)]; exact P2
    have F1 : FrP μ (kx_up μ 19 4 (p + 1)) := FrP_up (FrP_rf μ) (by omega)
    have D1 : TRx (kx_up μ 19 4 (p + 1)) 21 s 0 := TR19 D
    generalize kx_up μ 19 4 (p + 1) = μ1 at *
    have hf := fg_in (T := T) (n := n) (p := p + 1) (by omega)
    refine r_takeNumber P3 g1 g4 gT (by omega) (by omega) (by omega) (by omega) (by omega) (fun c2 c3 => ?_) (fun c2 => ?_) (fun c2 c3 => ?_)
    · rw [ps_num_1 c2 c3] at hR
      have hv := nv_in (T := T) (n := n) (p := p + 1) (by omega) (by omega)
      generalize fg T n (p + 1) = f at *
      generalize nv T (p + 1) f = v at *
      have k5 : kx_up (kx_up μ1 19 5 v) 19 4 (p + 1 + f) 19 5 = v := by rw [kx_up_oth (by omega), kx_up_self]
      have k1' : kx_up (kx_up μ1 19 5 v) 19 4 (p + 1 + f) 19 1 = n := by rw [kx_up_oth (by omega), kx_up_oth (by omega)]; exact g1
      have k4 : kx_up (kx_up μ1 19 5 v) 19 4 (p + 1 + f) 19 4 = p + 1 + f := by rw [kx_up_self]
      have kT : kx_up (kx_up μ1 19 5 v) 19 4 (p + 1 + f) 20 = T := by rw [kx_up_row (by omega), kx_up_row (by omega)]; exact gT
      have F2 : FrP μ (kx_up (kx_up μ1 19 5 v) 19 4 (p + 1 + f)) := FrP_up (FrP_up F1 (by omega)) (by omega)
      have D2 : TRx (kx_up (kx_up μ1 19 5 v) 19 4 (p + 1 + f)) 21 s 0 := TR19 (TR19 D1)
      generalize kx_up (kx_up μ1 19 5 v) 19 4 (p + 1 + f) = μ2 at *
      generalize hp2 : p + 1 + f = p2 at *
      show kx_wx _ _ _ _ _ (_ :: _) _ _
      refine ks_if_ne_1 rfl ?_
      refine ks_aload_n rfl rfl ?_
      refine ks_geti rfl rfl rfl rfl (by (try simp only [kx_up_at, kx_row_at, up1_at, Nat.reduceEqDiff, Int.reduceEq, Int.reduceNeg, and_true, true_and, and_false, false_and, and_self, reduceIte, Nat.add_left_cancel_iff, Nat.add_eq_left, Nat.left_eq_add, Nat.reduceAdd, Int.add_left_inj, Int.add_right_inj, k5]); rfl) ?_
      refine ks_istore_n_3 rfl rfl ?_
      refine ks_aload_n rfl rfl ?_
      refine ks_bipush rfl ?_
      refine ks_callv_2 rfl rfl rfl (Nat.le_of_ble_eq_true rfl) ?_
      -- at 45: call Tape_take st []
      refine r_take P3 k1' k4 kT (by omega) (by omega) (by omega) (by omega) (by omega) (fun c4 => ?_) (fun c4 => ?_)
      · rw [ps_tk_1 c4] at hR
        show kx_wx _ _ _ _ _ (_ :: _) _ _
        refine ks_if_eq_1 rfl ?_
        refine ks_aload_n rfl rfl ?_
        refine ks_iconst rfl ?_
        refine ks_bipush rfl ?_
        refine ks_callv_3 rfl rfl rfl (Nat.le_of_ble_eq_true rfl) ?_
        -- at 55: call Tape_takeNumber st []
        have m1 : kx_up μ2 19 4 (p2 + 1) 19 1 = n := by rw [kx_up_oth (by omega)]; exact k1'
        have m4 : kx_up μ2 19 4 (p2 + 1) 19 4 = p2 + 1 := by rw [kx_up_self]
        have mT : kx_up μ2 19 4 (p2 + 1) 20 = T := by rw [kx_up_row (by omega)]; exact kT
        have F3 : FrP μ (kx_up μ2 19 4 (p2 + 1)) := FrP_up F2 (by omega)
        have D3 : TRx (kx_up μ2 19 4 (p2 + 1)) 21 s 0 := TR19 D2
        generalize kx_up μ2 19 4 (p2 + 1) = μ3 at *
        have hf2 := fg_in (T := T) (n := n) (p := p2 + 1) (by omega)
        refine r_takeNumber P3 m1 m4 mT (by omega) (by omega) (by omega) (by omega) (by omega) (fun c5 c6 => ?_) (fun c5 => ?_) (fun c5 c6 => ?_)
        · rw [ps_num_1 c5 c6] at hR
          have hv2 := nv_in (T := T) (n := n) (p := p2 + 1) (by omega) (by omega)
          generalize fg T n (p2 + 1) = f2 at *
          generalize nv T (p2 + 1) f2 = v2 at *
          have q5 : kx_up (kx_up μ3 19 5 v2) 19 4 (p2 + 1 + f2) 19 5 = v2 := by rw [kx_up_oth (by omega), kx_up_self]
          have q1 : kx_up (kx_up μ3 19 5 v2) 19 4 (p2 + 1 + f2) 19 1 = n := by rw [kx_up_oth (by omega), kx_up_oth (by omega)]; exact m1
          have q4 : kx_up (kx_up μ3 19 5 v2) 19 4 (p2 + 1 + f2) 19 4 = p2 + 1 + f2 := by rw [kx_up_self]
          have qT : kx_up (kx_up μ3 19 5 v2) 19 4 (p2 + 1 + f2) 20 = T := by rw [kx_up_row (by omega), kx_up_row (by omega)]; exact mT
          have F4 : FrP μ (kx_up (kx_up μ3 19 5 v2) 19 4 (p2 + 1 + f2)) := FrP_up (FrP_up F3 (by omega)) (by omega)
          have D4 : TRx (kx_up (kx_up μ3 19 5 v2) 19 4 (p2 + 1 + f2)) 21 s 0 := TR19 (TR19 D3)
          generalize kx_up (kx_up μ3 19 5 v2) 19 4 (p2 + 1 + f2) = μ4 at *
          generalize hp3 : p2 + 1 + f2 = p3 at *
          show kx_wx _ _ _ _ _ (_ :: _) _ _
          refine ks_if_ne_1 rfl ?_
          refine ks_aload_n rfl rfl ?_
          refine ks_iload_n rfl rfl ?_
          refine ks_iload_n rfl rfl ?_
          refine ks_aload_n rfl rfl ?_
          refine ks_geti rfl rfl rfl rfl (by (try simp only [kx_up_at, kx_row_at, up1_at, Nat.reduceEqDiff, Int.reduceEq, Int.reduceNeg, and_true, true_and, and_false, false_and, and_self, reduceIte, Nat.add_left_cancel_iff, Nat.add_eq_left, Nat.left_eq_add, Nat.reduceAdd, Int.add_left_inj, Int.add_right_inj, q5]); rfl) ?_
          refine ks_callv_4 rfl rfl rfl (Nat.le_of_ble_eq_true rfl) ?_
          -- at 70: call Town_addHead st []
          refine r_addHead (kg_T21 L) D4 (by omega) s2 (fun μ5 D5 F5 => ?_)
          show kx_wx _ _ _ _ _ _ _ _
          refine ks_aload_n rfl rfl ?_
          refine ks_bipush rfl ?_
          refine ks_callv_2 rfl rfl rfl (Nat.le_of_ble_eq_true rfl) ?_
          -- at 76: call Tape_take st []
          rw [adh_eq (by omega) (S.2.2.2.2.1 (24 + s 1) (by omega))] at D5
          have F6 := FrP_21 F4 F5
          have w1 : μ5 19 1 = n := by rw [F5 19 (by omega)]; exact q1
          have w4 : μ5 19 4 = p3 := by rw [F5 19 (by omega)]; exact q4
          have wT : μ5 20 = T := by rw [F5 20 (by omega)]; exact qT
          obtain ⟨z1, z2, z3⟩ := PS_adh S (by omega) k0 k1 (a := v) (b := v2) (by omega) (by omega) (by omega) (by omega)
          refine r_take P3 w1 w4 wT (by omega) (by omega) (by omega) (by omega) (by omega) (fun c7 => ?_) (fun c7 => ?_)
          · rw [ps_tk_1 c7] at hR
            show kx_wx _ _ _ _ _ (_ :: _) _ _
            refine ks_zreturn rfl (by omega) ?_
            -- at 79: ret  st ['1']
            exact t1 (p3 + 1) _ _ hR.symm z1 z2 (by omega) (by omega) (by omega) (kx_up_self _ _ _ _) (TR19 D5) (FrP_up F6 (by omega))
          · rw [ps_tk_0 c7] at hR
            show kx_wx _ _ _ _ _ (_ :: _) _ _
            refine ks_zreturn rfl (by omega) ?_
            -- at 79: ret  st ['0']
            refine t0 1 p3 _ hR.symm (by omega) (by omega) (by omega) (by omega) ?_ (kx_up_self _ _ _ _) (FrP_up (FrP_up F6 (by omega)) (by omega))
            rw [kx_up_oth (by omega), kx_up_self]
        · rw [ps_num_0 c5] at hR
          show kx_wx _ _ _ _ _ (_ :: _) _ _
          refine ks_if_ne_0 rfl ?_
          refine ks_iconst rfl ?_
          refine ks_zreturn rfl (by omega) ?_
          -- at 62: ret  st ['0']
          refine t0 1 (p2 + 1) _ hR.symm (by omega) (by omega) (by omega) (by omega) ?_ (kx_up_self _ _ _ _) (FrP_up (FrP_up F3 (by omega)) (by omega))
          rw [kx_up_oth (by omega), kx_up_self]
        · rw [ps_num_2 c5 c6] at hR
          show kx_wx _ _ _ _ _ (_ :: _) _ _
          refine ks_if_ne_0 rfl ?_
          refine ks_iconst rfl ?_
          refine ks_zreturn rfl (by omega) ?_
          -- at 62: ret  st ['0']
          refine t0 2 (p2 + 1) _ hR.symm (by omega) (by omega) (by omega) (by omega) ?_ (kx_up_self _ _ _ _) (FrP_up (FrP_up F3 (by omega)) (by omega))
          rw [kx_up_oth (by omega), kx_up_self]
      · rw [ps_tk_0 c4] at hR
        show kx_wx _ _ _ _ _ (_ :: _) _ _
        refine ks_if_eq_0 rfl ?_
        refine ks_iconst rfl ?_
        refine ks_zreturn rfl (by omega) ?_
        -- at 62: ret  st ['0']
        refine t0 1 p2 _ hR.symm (by omega) (by omega) (by omega) (by omega) ?_ (kx_up_self _ _ _ _) (FrP_up (FrP_up F2 (by omega)) (by omega))
        rw [kx_up_oth (by omega), kx_up_self]
    · rw [ps_num_0 c2] at hR
      show kx_wx _ _ _ _ _ (_ :: _) _ _
      refine ks_if_ne_0 rfl ?_
      refine ks_iconst rfl ?_
      refine ks_zreturn rfl (by omega) ?_
      -- at 36: ret  st ['0']
      refine t0 1 (p + 1) _ hR.symm (by omega) (by omega) (by omega) (by omega) ?_ (kx_up_self _ _ _ _) (FrP_up (FrP_up F1 (by omega)) (by omega))
      rw [kx_up_oth (by omega), kx_up_self]
    · rw [ps_num_2 c2 c3] at hR
      show kx_wx _ _ _ _ _ (_ :: _) _ _
      refine ks_if_ne_0 rfl ?_
      refine ks_iconst rfl ?_
      refine ks_zreturn rfl (by omega) ?_
      -- at 36: ret  st ['0']
      refine t0 2 (p + 1) _ hR.symm (by omega) (by omega) (by omega) (by omega) ?_ (kx_up_self _ _ _ _) (FrP_up (FrP_up F1 (by omega)) (by omega))
      rw [kx_up_oth (by omega), kx_up_self]
  · rw [if_pos (by omega)] at hR
    refine ks_aload_n rfl rfl ?_
    refine ks_iconst rfl ?_
    refine ks_callv_2 rfl rfl rfl (Nat.le_of_ble_eq_true rfl) ?_
    -- at 11: call Tape_refuse st []
    refine r_refuse hp ?_
    show kx_wx _ _ _ _ _ (_ :: _) _ _
    refine ks_zreturn rfl (by omega) ?_
    -- at 14: ret  st [None]
    refine t0 3 p _ hR.symm (by omega) (by omega) (by omega) (by omega) ?_ (kx_up_self _ _ _ _) (FrP_up (FrP_up (FrP_rf μ) (by omega)) (by omega))
    rw [kx_up_oth (by omega), kx_up_self]
theorem r_readOrder (P : TP μ T n) (p0 : 0 ≤ p) (p1 : p < n) (hp : μ 19 4 = p) (D : TRx μ 21 s 0) (S : PS s) (hR : ps_order T n p s = R) (t1 : ∀ p' s' μ', R = .inr (p', s') → PS s' → s' 1 = s 1 → s' 2 = s 2 + 1 → 0 ≤ p' → p' ≤ n → μ' 19 4 = p' → TRx μ' 21 s' 0 → FrP μ μ' → Q (some (kI 1)) (kg L) μ') (t0 : ∀ f q μ', R = .inl (f, q) → 1 ≤ f → f ≤ 3 → 0 ≤ q → q ≤ n → μ' 19 2 = f → μ' 19 3 = q → FrP μ μ' → Q (some (kI 0)) (kg L) μ') : kx_cx (ke (d + 3)) 46 [kR 19, kR 21] (kg L) μ Q := by
  refine ke_start (tb := kt_Tape_readOrder) (ls := [some (kR 19), some (kR 21)]) rfl rfl ?_
  obtain ⟨P1, P2, P3, P4⟩ := P
  have e9 := D.2.1
  have s2 := S.2.1
  have s1 := S.1
  have hx := nx_in (n := n) (p := p) P3
  have hxc := nx_c (T := T) (n := n) (p := p) (c := 111) (by omega)
  unfold ps_order at hR
  have main : ¬ ((p < n ∧ T p = 111) ∧ 4 ≤ s 2) → kx_wx (ke (d + 2)) kt_Tape_readOrder Q 23 [some (kR 19), some (kR 21)] [] (kg L) μ := by
    intro c0
    rw [if_neg c0] at hR
    refine ks_aload_n rfl rfl ?_
    refine ks_bipush rfl ?_
    refine ks_callv_2 rfl rfl rfl (Nat.le_of_ble_eq_true rfl) ?_
    -- at 26: call Tape_take st []
    refine r_take P3 P1 hp P2 (by omega) (by omega) (by omega) (by omega) (by omega) (fun c1 => ?_) (fun c1 => ?_)
    · rw [ps_tk_1 c1] at hR
      show kx_wx _ _ _ _ _ (_ :: _) _ _
      refine ks_if_eq_1 rfl ?_
      refine ks_aload_n rfl rfl ?_
      refine ks_iconst rfl ?_
      refine ks_bipush rfl ?_
      refine ks_callv_3 rfl rfl rfl (Nat.le_of_ble_eq_true rfl) ?_
      -- at 36: call Tape_takeNumber st []
      have g1 : kx_up μ 19 4 (p + 1) 19 1 = n := by rw [kx_up_oth (by omega)]; exact P1
      have g4 : kx_up μ 19 4 (p + 1) 19 4 = p + 1 := by rw [kx_up_self]
      have gT : kx_up μ 19 4 (p + 1) 20 = T := by rw [kx_up_row (by omega)]; exact P2
      have F1 : FrP μ (kx_up μ 19 4 (p + 1)) := FrP_up (FrP_rf μ) (by omega)
      have D1 : TRx (kx_up μ 19 4 (p + 1)) 21 s 0 := TR19 D
      generalize kx_up μ 19 4 (p + 1) = μ1 at *
      have hf := fg_in (T := T) (n := n) (p := p + 1) (by omega)
      refine r_takeNumber P3 g1 g4 gT (by omega) (by omega) (by omega) (by omega) (by omega) (fun c2 c3 => ?_) (fun c2 => ?_) (fun c2 c3 => ?_)
      · rw [ps_num_1 c2 c3] at hR
        have hv := nv_in (T := T) (n := n) (p := p + 1) (by omega) (by omega)
        generalize fg T n (p + 1) = f at *
        generalize nv T (p + 1) f = v at *
        have k5 : kx_up (kx_up μ1 19 5 v) 19 4 (p + 1 + f) 19 5 = v := by rw [kx_up_oth (by omega), kx_up_self]
        have k1' : kx_up (kx_up μ1 19 5 v) 19 4 (p + 1 + f) 19 1 = n := by rw [kx_up_oth (by omega), kx_up_oth (by omega)]; exact g1
        have k4 : kx_up (kx_up μ1 19 5 v) 19 4 (p + 1 + f) 19 4 = p + 1 + f := by rw [kx_up_self]
        have kT : kx_up (kx_up μ1 19 5 v) 19 4 (p + 1 + f) 20 = T := by rw [kx_up_row (by omega), kx_up_row (by omega)]; exact gT
        have F2 : FrP μ (kx_up (kx_up μ1 19 5 v) 19 4 (p + 1 + f)) := FrP_up (FrP_up F1 (by omega)) (by omega)
        have D2 : TRx (kx_up (kx_up μ1 19 5 v) 19 4 (p + 1 + f)) 21 s 0 := TR19 (TR19 D1)
        generalize kx_up (kx_up μ1 19 5 v) 19 4 (p + 1 + f) = μ2 at *
        generalize hp2 : p + 1 + f = p2 at *
        show kx_wx _ _ _ _ _ (_ :: _) _ _
        refine ks_if_ne_1 rfl ?_
        refine ks_aload_n rfl rfl ?_
        refine ks_aload_n rfl rfl ?_
        refine ks_geti rfl rfl rfl rfl (by (try simp only [kx_up_at, kx_row_at, up1_at, Nat.reduceEqDiff, Int.reduceEq, Int.reduceNeg, and_true, true_and, and_false, false_and, and_self, reduceIte, Nat.add_left_cancel_iff, Nat.add_eq_left, Nat.left_eq_add, Nat.reduceAdd, Int.add_left_inj, Int.add_right_inj, k5]); rfl) ?_
        refine ks_callv_2 rfl rfl rfl (Nat.le_of_ble_eq_true rfl) ?_
        -- at 49: call Town_addOrder st []
        have c01 : s 2 < 4 := by omega
        refine r_addOrder (kg_T21 L) D2 (by omega) (by omega) (fun μ5 D5 F5 => ?_)
        show kx_wx _ _ _ _ _ (_ :: _) _ _
        refine ks_pop rfl ?_
        refine ks_aload_n rfl rfl ?_
        refine ks_bipush rfl ?_
        refine ks_callv_2 rfl rfl rfl (Nat.le_of_ble_eq_true rfl) ?_
        -- at 56: call Tape_take st []
        rw [ado_eq (by omega) (S.2.2.2.2.1 (38 + s 2) (by omega))] at D5
        have F6 := FrP_21 F2 F5
        have w1 : μ5 19 1 = n := by rw [F5 19 (by omega)]; exact k1'
        have w4 : μ5 19 4 = p2 := by rw [F5 19 (by omega)]; exact k4
        have wT : μ5 20 = T := by rw [F5 20 (by omega)]; exact kT
        obtain ⟨z1, z2, z3⟩ := PS_ado S c01 (x := v) (by omega) (by omega)
        refine r_take P3 w1 w4 wT (by omega) (by omega) (by omega) (by omega) (by omega) (fun c7 => ?_) (fun c7 => ?_)
        · rw [ps_tk_1 c7] at hR
          show kx_wx _ _ _ _ _ (_ :: _) _ _
          refine ks_zreturn rfl (by omega) ?_
          -- at 59: ret  st ['1']
          exact t1 (p2 + 1) _ _ hR.symm z1 z2 z3 (by omega) (by omega) (kx_up_self _ _ _ _) (TR19 D5) (FrP_up F6 (by omega))
        · rw [ps_tk_0 c7] at hR
          show kx_wx _ _ _ _ _ (_ :: _) _ _
          refine ks_zreturn rfl (by omega) ?_
          -- at 59: ret  st ['0']
          refine t0 1 p2 _ hR.symm (by omega) (by omega) (by omega) (by omega) ?_ (kx_up_self _ _ _ _) (FrP_up (FrP_up F6 (by omega)) (by omega))
          rw [kx_up_oth (by omega), kx_up_self]
      · rw [ps_num_0 c2] at hR
        show kx_wx _ _ _ _ _ (_ :: _) _ _
        refine ks_if_ne_0 rfl ?_
        refine ks_iconst rfl ?_
        refine ks_zreturn rfl (by omega) ?_
        -- at 43: ret  st ['0']
        refine t0 1 (p + 1) _ hR.symm (by omega) (by omega) (by omega) (by omega) ?_ (kx_up_self _ _ _ _) (FrP_up (FrP_up F1 (by omega)) (by omega))
        rw [kx_up_oth (by omega), kx_up_self]
      · rw [ps_num_2 c2 c3] at hR
        show kx_wx _ _ _ _ _ (_ :: _) _ _
        refine ks_if_ne_0 rfl ?_
        refine ks_iconst rfl ?_
        refine ks_zreturn rfl (by omega) ?_
        -- at 43: ret  st ['0']
        refine t0 2 (p + 1) _ hR.symm (by omega) (by omega) (by omega) (by omega) ?_ (kx_up_self _ _ _ _) (FrP_up (FrP_up F1 (by omega)) (by omega))
        rw [kx_up_oth (by omega), kx_up_self]
    · rw [ps_tk_0 c1] at hR
      show kx_wx _ _ _ _ _ (_ :: _) _ _
      refine ks_if_eq_0 rfl ?_
      refine ks_iconst rfl ?_
      refine ks_zreturn rfl (by omega) ?_
      -- at 43: ret  st ['0']
      refine t0 1 p _ hR.symm (by omega) (by omega) (by omega) (by omega) ?_ (kx_up_self _ _ _ _) (FrP_up (FrP_up (FrP_rf μ) (by omega)) (by omega))
      rw [kx_up_oth (by omega), kx_up_self]
  refine ks_aload_n rfl rfl ?_
  refine ks_callv_1 rfl rfl rfl (Nat.le_of_ble_eq_true rfl) ?_
  -- at 1: call Tape_next st []
  refine r_next P1 hp P2 (by omega) (by omega) (by omega) ?_
  show kx_wx _ _ _ _ _ (_ :: _) _ _
  refine ks_bipush rfl ?_
  -- at 6: if ne -> 23 else 9 st ['111', None]
  refine ks_icmp_ne rfl ⟨by omega, by omega⟩ ⟨by omega, by omega⟩ (fun q => ?_) (fun q => ?_)
  · refine ks_aload_n rfl rfl ?_
    refine ks_geti rfl rfl rfl rfl (by (try simp only [kx_up_at, kx_row_at, up1_at, Nat.reduceEqDiff, Int.reduceEq, Int.reduceNeg, and_true, true_and, and_false, false_and, and_self, reduceIte, Nat.add_left_cancel_iff, Nat.add_eq_left, Nat.left_eq_add, Nat.reduceAdd, Int.add_left_inj, Int.add_right_inj, e9]); rfl) ?_
    refine ks_iconst rfl ?_
    -- at 14: if lt -> 23 else 17 st ['4', None]
    refine ks_icmp_lt rfl ⟨by omega, by omega⟩ ⟨by omega, by omega⟩ (fun q2 => ?_) (fun q2 => ?_)
    · exact main (by omega)
      -- at 23: stop
    · have c0 : (p < n ∧ T p = 111) ∧ 4 ≤ s 2 := ⟨hxc.mp q, by omega⟩
      rw [if_pos c0] at hR
      refine ks_aload_n rfl rfl ?_
      refine ks_iconst rfl ?_
      refine ks_callv_2 rfl rfl rfl (Nat.le_of_ble_eq_true rfl) ?_
      -- at 19: call Tape_refuse st []
      refine r_refuse hp ?_
      show kx_wx _ _ _ _ _ (_ :: _) _ _
      refine ks_zreturn rfl (by omega) ?_
      -- at 22: ret  st [None]
      refine t0 3 p _ hR.symm (by omega) (by omega) (by omega) (by omega) ?_ (kx_up_self _ _ _ _) (FrP_up (FrP_up (FrP_rf μ) (by omega)) (by omega))
      rw [kx_up_oth (by omega), kx_up_self]
  · exact main (fun w => q (hxc.mpr w.1))
    -- at 23: stop
end PB
