/-! reading a town, class side, whole -/
theorem kdo_nx {T : Int → Int} {n p : Int} (h : kdo (nx T n p) ≠ 0) : p < n ∧ nx T n p = T p := by
  by_cases c : p < n
  · refine ⟨c, ?_⟩; unfold nx; rw [if_pos c]
  · exfalso
    apply h
    have e : nx T n p = -1 := by unfold nx; rw [if_neg c]
    rw [e]; rfl
section PC
variable {d L : Nat} {G : kx_G} {μ : kx_M} {Q : Option kx_V → kx_G → kx_M → Prop} {s T : Int → Int} {n p c : Int} {R : PR (Int × (Int → Int))}
theorem l_readHeads (B : TB μ) (P : TP μ T n) (t1 : ∀ p' s' μ', R = .inr (p', s') → PS s' → 1 ≤ s' 1 → s' 2 = 0 → 0 ≤ p' → p' ≤ n → μ' 19 4 = p' → TRx μ' 21 s' 0 → FrP μ μ' → Q (some (kI 1)) (kg L) μ') (t0 : ∀ f q μ', R = .inl (f, q) → 1 ≤ f → f ≤ 3 → 0 ≤ q → q ≤ n → μ' 19 2 = f → μ' 19 3 = q → FrP μ μ' → Q (some (kI 0)) (kg L) μ') : ∀ (r : Nat) (p i : Int) (s : Int → Int) (μ1 : kx_M) (x3 : Option kx_V), r + s 1 = 7 → i = s 1 → PS s → s 2 = 0 → ps_heads T n r p s = R → 0 ≤ p → p ≤ n → μ1 19 4 = p → TRx μ1 21 s 0 → FrP μ μ1 → kx_wx (ke (d + 5)) kt_Tape_readHeads Q 2 [some (kR 19), some (kR 21), some (kI i), x3] [] (kg L) μ1 := by
  intro r
  induction r with
  | zero =>
    intro p i s μ1 x3 hr hi S s2 hR p0 p1 hp D F
    have := S.1
    omega
  | succ r ih =>
    intro p i s μ1 x3 hr hi S s2 hR p0 p1 hp D F
    subst hi
    have s1 := S.1
    have P' := TP_fr P F
    obtain ⟨P1, P2, P3, P4⟩ := TP_fr P F
    have hx := nx_in (n := n) (p := p) P3
    have hk := kdo_in (nx T n p)
    rw [ps_heads] at hR
    refine ks_iload_n rfl rfl ?_
    refine ks_bipush rfl ?_
    -- at 5: if gt -> 55 else 8 st ['6', None]
    refine ks_icmp_gt rfl ⟨by omega, by omega⟩ ⟨by omega, by omega⟩ (fun c => absurd c (by omega)) (fun c => ?_)
    refine ks_aload_n rfl rfl ?_
    refine ks_callv_1 rfl rfl rfl (Nat.le_of_ble_eq_true rfl) ?_
    -- at 9: call Tape_next st []
    refine r_next P1 hp P2 (by omega) p0 p1 ?_
    show kx_wx _ _ _ _ _ (_ :: _) _ _
    refine ks_calls_1 rfl (Nat.le_of_ble_eq_true rfl) ?_
    -- at 12: call Kinds_told st []
    refine r_told (TB_P B F) hx.1 hx.2 ?_
    show kx_wx _ _ _ _ _ (_ :: _) _ _
    refine ks_istore_n_3 rfl rfl ?_
    refine ks_iload_n rfl rfl ?_
    -- at 17: if ne -> 38 else 20 st [None]
    refine ks_if_ne rfl ⟨by omega, by omega⟩ (fun c2 => ?_) (fun c2 => ?_)
    · rw [if_pos c2] at hR
      refine ks_iload_n rfl rfl ?_
      -- at 21: if gt -> 32 else 24 st [None]
      refine ks_if_gt rfl ⟨by omega, by omega⟩ (fun c3 => ?_) (fun c3 => ?_)
      · rw [if_neg (by omega)] at hR
        refine ks_iconst rfl ?_
        refine ks_goto rfl ?_
        refine ks_zreturn rfl (by omega) ?_
        -- at 37: ret  st ['1']
        exact t1 p s _ hR.symm S (by omega) s2 p0 p1 hp D F
      · rw [if_pos (by omega)] at hR
        refine ks_aload_n rfl rfl ?_
        refine ks_iconst rfl ?_
        refine ks_callv_2 rfl rfl rfl (Nat.le_of_ble_eq_true rfl) ?_
        -- at 26: call Tape_refuse st []
        refine r_refuse hp ?_
        show kx_wx _ _ _ _ _ (_ :: _) _ _
        refine ks_if_eq_0 rfl ?_
        refine ks_iconst rfl ?_
        refine ks_zreturn rfl (by omega) ?_
        -- at 37: ret  st ['0']
        refine t0 1 p _ hR.symm (by omega) (by omega) p0 p1 ?_ (kx_up_self _ _ _ _) (FrP_up (FrP_up F (by omega)) (by omega))
        rw [kx_up_oth (by omega), kx_up_self]
    · rw [if_neg c2] at hR
      have hpn := (kdo_nx c2).1
      refine ks_aload_n rfl rfl ?_
      refine ks_aload_n rfl rfl ?_
      refine ks_iload_n rfl rfl ?_
      refine ks_callv_3 rfl rfl rfl (Nat.le_of_ble_eq_true rfl) ?_
      -- at 41: call Tape_readHead st []
      refine r_readHead (k := kdo (nx T n p)) P' p0 hpn hp (by omega) (by omega) D S s2 rfl (fun p' s' μ2 hR2 S2 e1 e2 p0' p1' hp' D2 F2 => ?_) (fun f q μ2 hR2 f0 f1 q0 q1 h2 h3 F2 => ?_)
      · rw [hR2] at hR
        show kx_wx _ _ _ _ _ (_ :: _) _ _
        refine ks_if_ne_1 rfl ?_
        refine ks_iinc_2 rfl rfl ?_
        refine ks_goto rfl ?_
        -- at 2: stop  st []
        exact ih p' (s 1 + 1) s' μ2 _ (by omega) (by omega) S2 e2 hR p0' p1' hp' D2 (FrP_tr F F2)
      · rw [hR2] at hR
        show kx_wx _ _ _ _ _ (_ :: _) _ _
        refine ks_if_ne_0 rfl ?_
        refine ks_iconst rfl ?_
        refine ks_zreturn rfl (by omega) ?_
        -- at 48: ret  st ['0']
        exact t0 f q _ hR.symm f0 f1 q0 q1 h2 h3 (FrP_tr F F2)
theorem r_readHeads (B : TB μ) (P : TP μ T n) (p0 : 0 ≤ p) (p1 : p ≤ n) (hp : μ 19 4 = p) (D : TRx μ 21 s 0) (S : PS s) (s1 : s 1 = 0) (s2 : s 2 = 0) (hR : ps_heads T n 7 p s = R) (t1 : ∀ p' s' μ', R = .inr (p', s') → PS s' → 1 ≤ s' 1 → s' 2 = 0 → 0 ≤ p' → p' ≤ n → μ' 19 4 = p' → TRx μ' 21 s' 0 → FrP μ μ' → Q (some (kI 1)) (kg L) μ') (t0 : ∀ f q μ', R = .inl (f, q) → 1 ≤ f → f ≤ 3 → 0 ≤ q → q ≤ n → μ' 19 2 = f → μ' 19 3 = q → FrP μ μ' → Q (some (kI 0)) (kg L) μ') : kx_cx (ke (d + 6)) 43 [kR 19, kR 21] (kg L) μ Q := by
  refine ke_start (tb := kt_Tape_readHeads) (ls := [some (kR 19), some (kR 21), none, none]) rfl rfl ?_
  refine ks_iconst rfl ?_
  refine ks_istore_n_2 rfl rfl ?_
  -- at 2: stop  st []
  exact l_readHeads (μ := μ) B P t1 t0 7 p 0 s μ _ (by omega) s1.symm S s2 hR p0 p1 hp D (FrP_rf μ)
theorem l_readOrders (P : TP μ T n) (t1 : ∀ p' s' μ', R = .inr (p', s') → PS s' → 1 ≤ s' 1 → μ' 19 4 = p' → TRx μ' 21 s' 0 → FrP μ μ' → Q (some (kI 1)) (kg L) μ') (t0 : ∀ f q μ', R = .inl (f, q) → 1 ≤ f → f ≤ 3 → 0 ≤ q → q ≤ n → μ' 19 2 = f → μ' 19 3 = q → FrP μ μ' → Q (some (kI 0)) (kg L) μ') : ∀ (r : Nat) (p i : Int) (s : Int → Int) (μ1 : kx_M), r + s 2 = 5 → i = s 2 → PS s → 1 ≤ s 1 → ps_orders T n r p s = R → 0 ≤ p → p ≤ n → μ1 19 4 = p → TRx μ1 21 s 0 → FrP μ μ1 → kx_wx (ke (d + 3)) kt_Tape_readOrders Q 2 [some (kR 19), some (kR 21), some (kI i)] [] (kg L) μ1 := by
  intro r
  induction r with
  | zero =>
    intro p i s μ1 hr hi S s1 hR p0 p1 hp D F
    have := S.2.1
    omega
  | succ r ih =>
    intro p i s μ1 hr hi S s1 hR p0 p1 hp D F
    subst hi
    have s2 := S.2.1
    have P' := TP_fr P F
    obtain ⟨P1, P2, P3, P4⟩ := TP_fr P F
    have hx := nx_in (n := n) (p := p) P3
    have hb := P3 p
    rw [ps_orders] at hR
    refine ks_iload_n rfl rfl ?_
    refine ks_iconst rfl ?_
    -- at 4: if gt -> 33 else 7 st ['4', None]
    refine ks_icmp_gt rfl ⟨by omega, by omega⟩ ⟨by omega, by omega⟩ (fun c => absurd c (by omega)) (fun c => ?_)
    refine ks_aload_n rfl rfl ?_
    refine ks_callv_1 rfl rfl rfl (Nat.le_of_ble_eq_true rfl) ?_
    -- at 8: call Tape_next st []
    refine r_next P1 hp P2 (by omega) p0 p1 ?_
    show kx_wx _ _ _ _ _ (_ :: _) _ _
    refine ks_iconst rfl ?_
    -- at 12: if ne -> 17 else 15 st ['-1', None]
    refine ks_icmp_ne rfl ⟨by omega, by omega⟩ ⟨by omega, by omega⟩ (fun c2 => ?_) (fun c2 => ?_)
    · have e : n ≤ p := by
        by_cases h : p < n
        · unfold nx at c2; rw [if_pos h] at c2; omega
        · omega
      rw [if_pos e] at hR
      refine ks_iconst rfl ?_
      refine ks_zreturn rfl (by omega) ?_
      -- at 16: ret  st ['1']
      exact t1 p s _ hR.symm S s1 hp D F
    · have e : ¬ n ≤ p := by
        intro h
        unfold nx at c2; rw [if_neg (by omega)] at c2; omega
      rw [if_neg e] at hR
      refine ks_aload_n rfl rfl ?_
      refine ks_aload_n rfl rfl ?_
      refine ks_callv_2 rfl rfl rfl (Nat.le_of_ble_eq_true rfl) ?_
      -- at 19: call Tape_readOrder st []
      refine r_readOrder P' p0 (by omega) hp D S rfl (fun p' s' μ2 hR2 S2 e1 e2 p0' p1' hp' D2 F2 => ?_) (fun f q μ2 hR2 f0 f1 q0 q1 h2 h3 F2 => ?_)
      · rw [hR2] at hR
        show kx_wx _ _ _ _ _ (_ :: _) _ _
        refine ks_if_ne_1 rfl ?_
        refine ks_iinc_2 rfl rfl ?_
        refine ks_goto rfl ?_
        -- at 2: stop  st []
        exact ih p' (s 2 + 1) s' μ2 (by omega) (by omega) S2 (by omega) hR p0' p1' hp' D2 (FrP_tr F F2)
      · rw [hR2] at hR
        show kx_wx _ _ _ _ _ (_ :: _) _ _
        refine ks_if_ne_0 rfl ?_
        refine ks_iconst rfl ?_
        refine ks_zreturn rfl (by omega) ?_
        -- at 26: ret  st ['0']
        exact t0 f q _ hR.symm f0 f1 q0 q1 h2 h3 (FrP_tr F F2)
theorem r_readOrders (P : TP μ T n) (p0 : 0 ≤ p) (p1 : p ≤ n) (hp : μ 19 4 = p) (D : TRx μ 21 s 0) (S : PS s) (s1 : 1 ≤ s 1) (s2 : s 2 = 0) (hR : ps_orders T n 5 p s = R) (t1 : ∀ p' s' μ', R = .inr (p', s') → PS s' → 1 ≤ s' 1 → μ' 19 4 = p' → TRx μ' 21 s' 0 → FrP μ μ' → Q (some (kI 1)) (kg L) μ') (t0 : ∀ f q μ', R = .inl (f, q) → 1 ≤ f → f ≤ 3 → 0 ≤ q → q ≤ n → μ' 19 2 = f → μ' 19 3 = q → FrP μ μ' → Q (some (kI 0)) (kg L) μ') : kx_cx (ke (d + 4)) 45 [kR 19, kR 21] (kg L) μ Q := by
  refine ke_start (tb := kt_Tape_readOrders) (ls := [some (kR 19), some (kR 21), none]) rfl rfl ?_
  refine ks_iconst rfl ?_
  refine ks_istore_n_2 rfl rfl ?_
  -- at 2: stop  st []
  exact l_readOrders (μ := μ) P t1 t0 5 p 0 s μ (by omega) s2.symm S s1 hR p0 p1 hp D (FrP_rf μ)
theorem r_readInto (B : TB μ) (P : TP μ T n) (hR : ps_town T n = R) (t1 : ∀ p' s' μ', R = .inr (p', s') → PS s' → 1 ≤ s' 1 → TRx μ' 21 s' 0 → FrP μ μ' → Q (some (kI 1)) (kg L) μ') (t0 : ∀ f q μ', R = .inl (f, q) → 1 ≤ f → f ≤ 3 → 0 ≤ q → q ≤ n → μ' 19 2 = f → μ' 19 3 = q → FrP μ μ' → Q (some (kI 0)) (kg L) μ') : kx_cx (ke (d + 7)) 41 [kR 19, kR 21] (kg L) μ Q := by
  refine ke_start (tb := kt_Tape_readInto) (ls := [some (kR 19), some (kR 21)]) rfl rfl ?_
  unfold ps_town at hR
  have P4 := P.2.2.2
  refine ks_aload_n rfl rfl ?_
  refine ks_callv_1 rfl rfl rfl (Nat.le_of_ble_eq_true rfl) ?_
  -- at 1: call Town_clear st []
  refine r_clear (kg_T21 L) (fun μ1 z D1 F1 => ?_)
  show kx_wx _ _ _ _ _ _ _ _
  refine ks_aload_n rfl rfl ?_
  refine ks_iconst rfl ?_
  refine ks_puti rfl rfl ?_
  refine ks_aload_n rfl rfl ?_
  refine ks_aload_n rfl rfl ?_
  refine ks_callv_2 rfl rfl rfl (Nat.le_of_ble_eq_true rfl) ?_
  -- at 11: call Tape_readLaw st []
  have F1' : FrP μ μ1 := FrP_21 (FrP_rf μ) F1
  have F2 : FrP μ (kx_up μ1 19 4 0) := FrP_up F1' (by omega)
  have D2 : TRx (kx_up μ1 19 4 0) 21 (fun _ => 0) 0 := TR19 D1
  have h4 : kx_up μ1 19 4 0 19 4 = 0 := kx_up_self _ _ _ _
  generalize kx_up μ1 19 4 0 = μ2 at *
  refine r_readLaw (TP_fr P F2) h4 D2 rfl (fun p s μ3 hR3 S3 e1 e2 p0 p1 hp D3 F3 => ?_) (fun f q μ3 hR3 f0 f1 q0 q1 h2 h3 F3 => ?_)
  · rw [hR3] at hR
    have F4 := FrP_tr F2 F3
    show kx_wx _ _ _ _ _ (_ :: _) _ _
    refine ks_if_eq_1 rfl ?_
    refine ks_aload_n rfl rfl ?_
    refine ks_aload_n rfl rfl ?_
    refine ks_callv_2 rfl rfl rfl (Nat.le_of_ble_eq_true rfl) ?_
    -- at 19: call Tape_readHeads st []
    refine r_readHeads (TB_P B F4) (TP_fr P F4) p0 p1 hp D3 S3 e1 e2 rfl (fun p' s' μ5 hR5 S5 e5 e6 p0' p1' hp' D5 F5 => ?_) (fun f q μ5 hR5 f0 f1 q0 q1 h2 h3 F5 => ?_)
    · have F6 := FrP_tr F4 F5
      have hR' : ps_orders T n 5 p' s' = R := by simp only [hR5] at hR; exact hR
      show kx_wx _ _ _ _ _ (_ :: _) _ _
      refine ks_if_eq_1 rfl ?_
      refine ks_aload_n rfl rfl ?_
      refine ks_aload_n rfl rfl ?_
      refine ks_callv_2 rfl rfl rfl (Nat.le_of_ble_eq_true rfl) ?_
      -- at 27: call Tape_readOrders st []
      refine r_readOrders (TP_fr P F6) p0' p1' hp' D5 S5 e5 e6 hR' (fun p'' s'' μ7 hR7 S7 e7 hp7 D7 F7 => ?_) (fun f q μ7 hR7 f0 f1 q0 q1 h2 h3 F7 => ?_)
      · show kx_wx _ _ _ _ _ (_ :: _) _ _
        refine ks_if_eq_1 rfl ?_
        refine ks_iconst rfl ?_
        refine ks_goto rfl ?_
        refine ks_zreturn rfl (by omega) ?_
        -- at 38: ret  st ['1']
        exact t1 _ _ _ hR7 S7 e7 D7 (FrP_tr F6 F7)
      · show kx_wx _ _ _ _ _ (_ :: _) _ _
        refine ks_if_eq_0 rfl ?_
        refine ks_iconst rfl ?_
        refine ks_zreturn rfl (by omega) ?_
        -- at 38: ret  st ['0']
        exact t0 _ _ _ hR7 f0 f1 q0 q1 h2 h3 (FrP_tr F6 F7)
    · have hR' : (Sum.inl (f, q) : PR (Int × (Int → Int))) = R := by simp only [hR5] at hR; exact hR
      show kx_wx _ _ _ _ _ (_ :: _) _ _
      refine ks_if_eq_0 rfl ?_
      refine ks_iconst rfl ?_
      refine ks_zreturn rfl (by omega) ?_
      -- at 38: ret  st ['0']
      exact t0 _ _ _ hR'.symm f0 f1 q0 q1 h2 h3 (FrP_tr F4 F5)
  · rw [hR3] at hR
    show kx_wx _ _ _ _ _ (_ :: _) _ _
    refine ks_if_eq_0 rfl ?_
    refine ks_iconst rfl ?_
    refine ks_zreturn rfl (by omega) ?_
    -- at 38: ret  st ['0']
    exact t0 _ _ _ hR.symm f0 f1 q0 q1 h2 h3 (FrP_tr F2 F3)
theorem r_Xtown (B : TB μ) (P : TP μ T n) (hR : ps_town T n = R) (t1 : ∀ p' s' μ', R = .inr (p', s') → PS s' → 1 ≤ s' 1 → TR μ' 30 s' → μ' 39 5 = 0 → μ' 39 4 = μ 39 4 → μ' 19 1 = 0 → (∀ c, c < 19 ∨ c = 20 ∨ 39 < c → μ' c = μ c) → Q (some (kI (s' 1))) (kg L) μ') (t0 : ∀ f q μ', R = .inl (f, q) → 1 ≤ f → f ≤ 3 → 0 ≤ q → q ≤ n → μ' 1 9 = f → (∀ j, j ≠ 9 → μ' 1 j = μ 1 j) → μ' 19 1 = 0 → (∀ c, c ≠ 1 → c < 19 ∨ c = 20 ∨ 29 < c → μ' c = μ c) → Q (some (kI (-1000100 - q))) (kg L) μ') : kx_cx (ke (d + 8)) 74 [kR 1] (kg L) μ Q := by
  refine ke_start (tb := kt_X_town) (ls := [some (kR 1), none]) rfl rfl ?_
  refine ks_aload_n rfl rfl ?_
  refine ks_getr (b := 19) rfl rfl rfl rfl (by decide) ?_
  refine ks_aload_n rfl rfl ?_
  refine ks_getr (b := 21) rfl rfl rfl rfl (by decide) ?_
  refine ks_callv_2 rfl rfl rfl (Nat.le_of_ble_eq_true rfl) ?_
  -- at 8: call Tape_readInto st []
  refine r_readInto B P hR (fun p' s' μ1 hR1 S1 e1 D1 F1 => ?_) (fun f q μ1 hR1 f0 f1 q0 q1 h2 h3 F1 => ?_)
  · have S1' := S1
    have s1 := S1.1
    have s2 := S1.2.1
    have s3 := S1.2.2.2.1.1
    show kx_wx _ _ _ _ _ (_ :: _) _ _
    refine ks_istore_n_1 rfl rfl ?_
    refine ks_aload_n rfl rfl ?_
    refine ks_getr (b := 19) rfl rfl rfl rfl (by decide) ?_
    refine ks_callv_1 rfl rfl rfl (Nat.le_of_ble_eq_true rfl) ?_
    -- at 16: call Tape_empty st []
    refine ke_start (m := 40) (tb := kt_Tape_empty) (ls := [some (kR 19)]) rfl rfl ?_
    refine ks_aload_n rfl rfl ?_
    refine ks_iconst rfl ?_
    refine ks_puti rfl rfl ?_
    refine ks_return rfl ?_
    -- at 5: ret  st []
    show kx_wx _ _ _ _ _ _ _ _
    refine ks_iload_n rfl rfl ?_
    refine ks_if_ne_1 rfl ?_
    refine ks_aload_n rfl rfl ?_
    refine ks_getr (b := 30) rfl rfl rfl rfl (by decide) ?_
    refine ks_aload_n rfl rfl ?_
    refine ks_getr (b := 21) rfl rfl rfl rfl (by decide) ?_
    refine ks_callv_2 rfl rfl rfl (Nat.le_of_ble_eq_true rfl) ?_
    -- at 53: call Town_becomeLike st []
    refine r_becomeLike (kg_T30 L) (kg_T21 L) (by omega) (TR_fr D1 (fun c c0 c1 => kx_up_row (by omega))) s1.2 s2.2 (fun μ2 T2 F2 => ?_)
    show kx_wx _ _ _ _ _ _ _ _
    refine ks_aload_n rfl rfl ?_
    refine ks_getr (b := 39) rfl rfl rfl rfl (by decide) ?_
    refine ks_callv_1 rfl rfl rfl (Nat.le_of_ble_eq_true rfl) ?_
    -- at 60: call Acts_forgetAll st []
    refine r_forgetAll ?_
    have T3 : TRx (kx_up μ2 39 5 0) 30 s' 0 := TR_fr T2 (fun c c0 c1 => kx_up_row (by omega))
    have e8 := T2.1
    show kx_wx _ _ _ _ _ _ _ _
    refine ks_aload_n rfl rfl ?_
    refine ks_getr (b := 30) rfl rfl rfl rfl (by decide) ?_
    refine ks_geti rfl rfl rfl rfl (by (try simp only [kx_up_at, kx_row_at, up1_at, Nat.reduceEqDiff, Int.reduceEq, Int.reduceNeg, and_true, true_and, and_false, false_and, and_self, reduceIte, Nat.add_left_cancel_iff, Nat.add_eq_left, Nat.left_eq_add, Nat.reduceAdd, Int.add_left_inj, Int.add_right_inj, e8]); rfl) ?_
    refine ks_ireturn rfl ?_
    -- at 70: ret  st [None]
    refine t1 p' s' _ hR1 S1' e1 ?_ (kx_up_self _ _ _ _) ?_ ?_ (fun c hc => ?_)
    · unfold TR; rw [s3]; exact T3
    · rw [kx_up_oth (by omega), F2 39 (by omega), kx_up_row (by omega), F1.2 39 (by omega) (by omega)]
    · rw [kx_up_row (by omega), F2 19 (by omega), kx_up_self]
    · by_cases e : c = 20
      · subst e; rw [kx_up_row (by omega), F2 20 (by omega), kx_up_row (by omega), F1.2 20 (by omega) (by omega)]
      · rw [kx_up_row (by omega), F2 c (by omega), kx_up_row (by omega), F1.2 c (by omega) (by omega)]
  · show kx_wx _ _ _ _ _ (_ :: _) _ _
    refine ks_istore_n_1 rfl rfl ?_
    refine ks_aload_n rfl rfl ?_
    refine ks_getr (b := 19) rfl rfl rfl rfl (by decide) ?_
    refine ks_callv_1 rfl rfl rfl (Nat.le_of_ble_eq_true rfl) ?_
    -- at 16: call Tape_empty st []
    refine ke_start (m := 40) (tb := kt_Tape_empty) (ls := [some (kR 19)]) rfl rfl ?_
    refine ks_aload_n rfl rfl ?_
    refine ks_iconst rfl ?_
    refine ks_puti rfl rfl ?_
    refine ks_return rfl ?_
    -- at 5: ret  st []
    show kx_wx _ _ _ _ _ _ _ _
    refine ks_iload_n rfl rfl ?_
    refine ks_if_ne_0 rfl ?_
    refine ks_aload_n rfl rfl ?_
    refine ks_aload_n rfl rfl ?_
    refine ks_getr (b := 19) rfl rfl rfl rfl (by decide) ?_
    refine ks_geti rfl rfl rfl rfl (by (try simp only [kx_up_at, kx_row_at, up1_at, Nat.reduceEqDiff, Int.reduceEq, Int.reduceNeg, and_true, true_and, and_false, false_and, and_self, reduceIte, Nat.add_left_cancel_iff, Nat.add_eq_left, Nat.left_eq_add, Nat.reduceAdd, Int.add_left_inj, Int.add_right_inj, h2, h3]); rfl) ?_
    refine ks_puti rfl rfl ?_
    refine ks_ldc rfl ?_
    refine ks_aload_n rfl rfl ?_
    refine ks_getr (b := 19) rfl rfl rfl rfl (by decide) ?_
    refine ks_geti rfl rfl rfl rfl (by (try simp only [kx_up_at, kx_row_at, up1_at, Nat.reduceEqDiff, Int.reduceEq, Int.reduceNeg, and_true, true_and, and_false, false_and, and_self, reduceIte, Nat.add_left_cancel_iff, Nat.add_eq_left, Nat.left_eq_add, Nat.reduceAdd, Int.add_left_inj, Int.add_right_inj, h2, h3]); rfl) ?_
    refine ks_isub rfl ?_
    refine ks_ireturn rfl ?_
    -- at 44: ret  st [None]
    refine t0 f q _ hR1 f0 f1 q0 q1 ?_ (fun j hj => ?_) ?_ (fun c c0 c1 => ?_)
    · rw [kx_up_self]
    · rw [kx_up_oth hj, kx_up_row (by omega), F1.2 1 (by omega) (by omega)]
    · rw [kx_up_row (by omega), kx_up_self]
    · rw [kx_up_row c0, kx_up_row (by omega), F1.2 c (by omega) (by omega)]
end PC
