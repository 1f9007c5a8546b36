/-! reading a town, the reference, to its end -/
def rh (T : Int → Int) (n p : Int) (s : Int → Int) : PR (Int × (Int → Int)) := match ps_heads T n (7 - s 1).toNat p s with
  | .inl q => .inl q
  | .inr (p', s') => ps_orders T n 5 p' s'
def ro (T : Int → Int) (n p : Int) (s : Int → Int) : PR (Int × (Int → Int)) := ps_orders T n (5 - s 2).toNat p s
theorem rh_0 {T : Int → Int} {n p : Int} {s : Int → Int} (h1 : 0 ≤ s 1 ∧ s 1 ≤ 6) (hk : kdo (nx T n p) = 0) (h0 : s 1 ≠ 0) : rh T n p s = ps_orders T n 5 p s := by
  unfold rh
  obtain ⟨r, hr⟩ : ∃ r, (7 - s 1).toNat = r + 1 := ⟨(6 - s 1).toNat, by omega⟩
  rw [hr, ps_heads, if_pos hk, if_neg h0]
theorem rh_bad {T : Int → Int} {n p : Int} {s : Int → Int} (hk : kdo (nx T n p) = 0) (h0 : s 1 = 0) : rh T n p s = .inl (1, p) := by
  unfold rh
  obtain ⟨r, hr⟩ : ∃ r, (7 - s 1).toNat = r + 1 := ⟨(6 - s 1).toNat, by omega⟩
  rw [hr, ps_heads, if_pos hk, if_pos h0]
theorem rh_h0 {T : Int → Int} {n p : Int} {s : Int → Int} {q : Int × Int} (h1 : 0 ≤ s 1 ∧ s 1 ≤ 6) (hk : kdo (nx T n p) ≠ 0) (h : ps_head T n (kdo (nx T n p)) p s = .inl q) : rh T n p s = .inl q := by
  unfold rh
  obtain ⟨r, hr⟩ : ∃ r, (7 - s 1).toNat = r + 1 := ⟨(6 - s 1).toNat, by omega⟩
  rw [hr, ps_heads, if_neg hk, h]
theorem rh_h1 {T : Int → Int} {n p p' : Int} {s s' : Int → Int} (h1 : 0 ≤ s 1 ∧ s 1 ≤ 6) (hk : kdo (nx T n p) ≠ 0) (h : ps_head T n (kdo (nx T n p)) p s = .inr (p', s')) (e : s' 1 = s 1 + 1) : rh T n p s = rh T n p' s' := by
  unfold rh
  obtain ⟨r, hr⟩ : ∃ r, (7 - s 1).toNat = r + 1 := ⟨(6 - s 1).toNat, by omega⟩
  have hr2 : (7 - s' 1).toNat = r := by omega
  rw [hr, hr2, ps_heads, if_neg hk, h]
theorem ro_end {T : Int → Int} {n p : Int} {s : Int → Int} (h2 : 0 ≤ s 2 ∧ s 2 ≤ 4) (h : n ≤ p) : ro T n p s = .inr (p, s) := by
  unfold ro
  obtain ⟨r, hr⟩ : ∃ r, (5 - s 2).toNat = r + 1 := ⟨(4 - s 2).toNat, by omega⟩
  rw [hr, ps_orders, if_pos h]
theorem ro_0 {T : Int → Int} {n p : Int} {s : Int → Int} {q : Int × Int} (h2 : 0 ≤ s 2 ∧ s 2 ≤ 4) (hp : p < n) (h : ps_order T n p s = .inl q) : ro T n p s = .inl q := by
  unfold ro
  obtain ⟨r, hr⟩ : ∃ r, (5 - s 2).toNat = r + 1 := ⟨(4 - s 2).toNat, by omega⟩
  rw [hr, ps_orders, if_neg (by omega), h]
theorem ro_1 {T : Int → Int} {n p p' : Int} {s s' : Int → Int} (h2 : 0 ≤ s 2 ∧ s 2 ≤ 4) (hp : p < n) (h : ps_order T n p s = .inr (p', s')) (e : s' 2 = s 2 + 1) : ro T n p s = ro T n p' s' := by
  unfold ro
  obtain ⟨r, hr⟩ : ∃ r, (5 - s 2).toNat = r + 1 := ⟨(4 - s 2).toNat, by omega⟩
  have hr2 : (5 - s' 2).toNat = r := by omega
  rw [hr, hr2, ps_orders, if_neg (by omega), h]
theorem ro_bad {T : Int → Int} {n p : Int} {s : Int → Int} (h2 : 0 ≤ s 2 ∧ s 2 ≤ 4) (hp : p < n) (h : T p ≠ 111) : ro T n p s = .inl (1, p) := by
  refine ro_0 h2 hp ?_
  unfold ps_order
  rw [if_neg (fun q => h q.1.2), ps_tk_0 (fun q => h q.2)]
theorem ro_5 {T : Int → Int} {n p : Int} {s : Int → Int} (h2 : s 2 = 0) : ps_orders T n 5 p s = ro T n p s := by
  unfold ro
  rw [h2]; rfl
theorem kdo_l {c k : Int} (h : kdo c = k) (hk : k ≠ 0) : isl c ∧ c ≠ 111 := by
  unfold kdo at h
  unfold isl
  by_cases c1 : c = 102
  · omega
  by_cases c2 : c = 115
  · omega
  by_cases c3 : c = 116
  · omega
  by_cases c4 : c = 119
  · omega
  by_cases c5 : c = 98
  · omega
  rw [if_neg c1, if_neg c2, if_neg c3, if_neg c4, if_neg c5] at h
  omega
section PF
variable {d L : Nat} {G : kx_G} {μ : kx_M} {Q : Option kx_V → kx_G → kx_M → Prop} {s T : Int → Int} {n p c : Int} {R : PR (Int × (Int → Int))}
theorem l_readTown (P : RP μ T n) (t1 : ∀ p' s' μ', R = .inr (p', s') → PS s' → μ' 84 = s' → FrR μ μ' → Q (some (kI 1)) (kg L) μ') (t0 : ∀ f q μ', R = .inl (f, q) → μ' 77 14 = f → μ' 77 13 = q → FrR μ μ' → Q (some (kI 0)) (kg L) μ') : ∀ (m : Nat) (p : Int) (s : Int → Int) (μ1 : kx_M) (x2 : Option kx_V), m + s 1 + s 2 = 12 → PS s → TK μ1 T n p → μ1 84 = s → FrR μ μ1 → (s 2 = 0 ∧ rh T n p s = R ∨ 1 ≤ s 1 ∧ 1 ≤ s 2 ∧ ro T n p s = R) → kx_wx (ke (d + 5)) kt_M_readTown Q 55 [some (kR 77), some (kI 1), x2] [] (kg L) μ1 := by
  have flt : ∀ f q μ' x2, R = .inl (f, q) → μ' 77 14 = f → μ' 77 13 = q → FrR μ μ' → kx_wx (ke (d + 5)) kt_M_readTown Q 185 [some (kR 77), some (kI 1), x2] [kI 0] (kg L) μ' := by
    intro f q μ' x2 h h1 h2 F
    refine ks_istore_n_1 rfl rfl ?_
    refine ks_goto rfl ?_
    refine ks_iload_n rfl rfl ?_
    refine ks_if_eq_0 rfl ?_
    refine ks_iload_n rfl rfl ?_
    refine ks_zreturn rfl (by omega) ?_
    -- at 190: ret  st ['0']
    exact t0 f q _ h h1 h2 F
  have bad : ∀ p μ1 x2, R = .inl (1, p) → TK μ1 T n p → FrR μ μ1 → kx_wx (ke (d + 5)) kt_M_readTown Q 180 [some (kR 77), some (kI 1), x2] [] (kg L) μ1 := by
    intro p μ1 x2 h K F
    refine ks_aload_n rfl rfl ?_
    refine ks_iconst rfl ?_
    refine ks_callv_2 rfl rfl rfl (Nat.le_of_ble_eq_true rfl) ?_
    -- at 182: call M_faults st []
    refine r_faults ?_
    show kx_wx _ _ _ _ _ (_ :: _) _ _
    refine flt 1 p _ _ h (kx_up_self _ _ _ _) ?_ (FrR_14 F)
    rw [kx_up_oth (by omega)]; exact K.1
  intro m
  induction m with
  | zero =>
    intro p s μ1 x2 hm S
    have s1 := S.1
    have s2 := S.2.1
    omega
  | succ m ih =>
    intro p s μ1 x2 hm S K hs F H
    have s1 := S.1
    have s2 := S.2.1
    have P1 := RP_fr P F
    have hb := P.2.2.1 p
    have K2 := K.2.1
    obtain ⟨y1, y2, y3⟩ := TK_t K
    have ok : ∀ p' s' μ' x2, PS s' → TK μ' T n p' → μ' 84 = s' → FrR μ μ' → s' 1 + s' 2 = s 1 + s 2 + 1 → (s' 2 = 0 ∧ rh T n p' s' = R ∨ 1 ≤ s' 1 ∧ 1 ≤ s' 2 ∧ ro T n p' s' = R) → kx_wx (ke (d + 5)) kt_M_readTown Q 185 [some (kR 77), some (kI 1), x2] [kI 1] (kg L) μ' := by
      intro p' s' μ' x2 S' K' hs' F' e H'
      refine ks_istore_n_1 rfl rfl ?_
      refine ks_goto rfl ?_
      -- at 55: stop  st []
      exact ih p' s' μ' _ (by omega) S' K' hs' F' H'
    have headk : ∀ k, 1 ≤ k → k ≤ 5 → p < n → kdo (T p) = k → kx_wx (ke (d + 5)) kt_M_readTown Q 142 [some (kR 77), some (kI 1), x2] [kI k] (kg L) μ1 := by
      intro k k0 k1 hpn hk
      have hl := kdo_l hk (by omega)
      have hnx : nx T n p = T p := by unfold nx; rw [if_pos hpn]
      refine ks_istore_n_2 rfl rfl ?_
      refine ks_iload_n rfl rfl ?_
      -- at 144: if le -> 155 else 147 st [None]
      refine ks_if_le rfl ⟨by omega, by omega⟩ (fun c => ?_) (fun c => absurd c (by omega))
      refine ks_aload_n rfl rfl ?_
      refine ks_iload_n rfl rfl ?_
      refine ks_callv_2 rfl rfl rfl (Nat.le_of_ble_eq_true rfl) ?_
      -- at 149: call M_readHead st []
      rcases H with ⟨z2, hR⟩ | ⟨z1, z2, hR⟩
      · refine r_MreadHead P1 K hpn hl.1 k0 k1 hs S z2 rfl (fun p' s' μ2 hR2 S2 e1 e2 K3 hs2 F2 => ?_) (fun f q μ2 hR2 h14 h13 F2 => ?_)
        · show kx_wx _ _ _ _ _ (_ :: _) _ _
          refine ks_goto rfl ?_
          refine ok p' s' μ2 _ S2 K3 hs2 (FrR_tr F F2) (by omega) (Or.inl ⟨e2, ?_⟩)
          rw [← hR, rh_h1 s1 (by rw [hnx, hk]; omega) (by rw [hnx, hk]; exact hR2) e1]
        · show kx_wx _ _ _ _ _ (_ :: _) _ _
          refine ks_goto rfl ?_
          refine flt f q μ2 _ ?_ h14 h13 (FrR_tr F F2)
          rw [← hR, rh_h0 s1 (by rw [hnx, hk]; omega) (by rw [hnx, hk]; exact hR2)]
      · refine r_MreadHead2 P1 K hs S z2 ?_
        show kx_wx _ _ _ _ _ (_ :: _) _ _
        refine ks_goto rfl ?_
        refine flt 1 p _ _ ?_ (kx_up_self _ _ _ _) ?_ (FrR_14 F)
        · rw [← hR, ro_bad s2 hpn hl.2]
        · rw [kx_up_oth (by omega)]; exact K.1
    have none0 : (p < n → kdo (T p) = 0) → (p = n → s 1 = 0) → kx_wx (ke (d + 5)) kt_M_readTown Q 142 [some (kR 77), some (kI 1), x2] [kI 0] (kg L) μ1 := by
      intro hk hend
      have hnx : kdo (nx T n p) = 0 := by
        by_cases h : p < n
        · unfold nx; rw [if_pos h]; exact hk h
        · unfold nx; rw [if_neg h]; rfl
      refine ks_istore_n_2 rfl rfl ?_
      refine ks_iload_n rfl rfl ?_
      refine ks_if_le_0 rfl ?_
      refine ks_aload_n rfl rfl ?_
      refine ks_bipush rfl ?_
      refine ks_callv_2 rfl rfl rfl (Nat.le_of_ble_eq_true rfl) ?_
      -- at 158: call M_isLetter st []
      refine r_isLetter P1 K (by unfold isl; omega) (fun q => ?_) (fun q => ?_)
      · have q1 := q.1
        show kx_wx _ _ _ _ _ (_ :: _) _ _
        refine ks_if_eq_1 rfl ?_
        refine ks_aload_n rfl rfl ?_
        refine ks_getr (b := 84) rfl rfl rfl rfl (by decide) ?_
        refine ks_iconst rfl ?_
        refine ks_iaload rfl rfl (by omega) (by omega) (by (try simp only [kx_up_at, kx_row_at, up1_at, Nat.reduceEqDiff, Int.reduceEq, Int.reduceNeg, and_true, true_and, and_false, false_and, and_self, reduceIte, Nat.add_left_cancel_iff, Nat.add_eq_left, Nat.left_eq_add, Nat.reduceAdd, Int.add_left_inj, Int.add_right_inj, hs]); rfl) ?_
        -- at 170: if le -> 180 else 173 st [None]
        refine ks_if_le rfl ⟨by omega, by omega⟩ (fun c2 => ?_) (fun c2 => ?_)
        · have hR' : ro T n p s = R := by
            rcases H with ⟨z2, hR⟩ | ⟨z1, z2, hR⟩
            · rw [← hR, rh_0 s1 hnx (by omega), ro_5 z2]
            · exact hR
          refine ks_aload_n rfl rfl ?_
          refine ks_callv_1 rfl rfl rfl (Nat.le_of_ble_eq_true rfl) ?_
          -- at 174: call M_readOrder st []
          refine r_MreadOrder P1 K q1 q.2 hs S rfl (fun p' s' μ2 hR2 S2 e1 e2 K3 hs2 F2 => ?_) (fun f q μ2 hR2 h14 h13 F2 => ?_)
          · show kx_wx _ _ _ _ _ (_ :: _) _ _
            refine ks_goto rfl ?_
            refine ok p' s' μ2 _ S2 K3 hs2 (FrR_tr F F2) (by omega) (Or.inr ⟨by omega, by omega, ?_⟩)
            rw [← hR', ro_1 s2 q1 hR2 e2]
          · show kx_wx _ _ _ _ _ (_ :: _) _ _
            refine ks_goto rfl ?_
            refine flt f _ μ2 _ ?_ h14 h13 (FrR_tr F F2)
            rw [← hR', ro_0 s2 q1 hR2]
        · have hR' : R = .inl (1, p) := by
            rcases H with ⟨z2, hR⟩ | ⟨z1, z2, hR⟩
            · rw [← hR, rh_bad hnx (by omega)]
            · omega
          exact bad p μ1 _ hR' K F
      · show kx_wx _ _ _ _ _ (_ :: _) _ _
        refine ks_if_eq_0 rfl ?_
        -- at 180: stop  st []
        have hR' : R = .inl (1, p) := by
          rcases H with ⟨z2, hR⟩ | ⟨z1, z2, hR⟩
          · by_cases e1 : s 1 = 0
            · rw [← hR, rh_bad hnx e1]
            · have hpn : p < n := by
                by_cases h : p = n
                · exact absurd (hend h) e1
                · omega
              rw [← hR, rh_0 s1 hnx e1, ro_5 z2, ro_bad s2 hpn (fun w => q ⟨hpn, w⟩)]
          · have hpn : p < n := by
              by_cases h : p = n
              · have := hend h; omega
              · omega
            rw [← hR, ro_bad s2 hpn (fun w => q ⟨hpn, w⟩)]
        exact bad p μ1 _ hR' K F
    have main : (p = n → s 1 = 0) → kx_wx (ke (d + 5)) kt_M_readTown Q 76 [some (kR 77), some (kI 1), x2] [] (kg L) μ1 := by
      intro hend
      refine ks_aload_n rfl rfl ?_
      refine ks_bipush rfl ?_
      refine ks_callv_2 rfl rfl rfl (Nat.le_of_ble_eq_true rfl) ?_
      -- at 79: call M_isLetter st []
      refine r_isLetter P1 K (by unfold isl; omega) (fun q1 => ?_) (fun q1 => ?_)
      · show kx_wx _ _ _ _ _ (_ :: _) _ _
        refine ks_if_eq_1 rfl ?_
        refine ks_iconst rfl ?_
        refine ks_goto rfl ?_
        -- at 142: stop  st ['1']
        exact headk 1 (by omega) (by omega) q1.1 (by rw [q1.2]; rfl)
      · show kx_wx _ _ _ _ _ (_ :: _) _ _
        refine ks_if_eq_0 rfl ?_
        refine ks_aload_n rfl rfl ?_
        refine ks_bipush rfl ?_
        refine ks_callv_2 rfl rfl rfl (Nat.le_of_ble_eq_true rfl) ?_
        -- at 92: call M_isLetter st []
        refine r_isLetter P1 K (by unfold isl; omega) (fun q2 => ?_) (fun q2 => ?_)
        · show kx_wx _ _ _ _ _ (_ :: _) _ _
          refine ks_if_eq_1 rfl ?_
          refine ks_iconst rfl ?_
          refine ks_goto rfl ?_
          -- at 142: stop  st ['2']
          exact headk 2 (by omega) (by omega) q2.1 (by rw [q2.2]; rfl)
        · show kx_wx _ _ _ _ _ (_ :: _) _ _
          refine ks_if_eq_0 rfl ?_
          refine ks_aload_n rfl rfl ?_
          refine ks_bipush rfl ?_
          refine ks_callv_2 rfl rfl rfl (Nat.le_of_ble_eq_true rfl) ?_
          -- at 105: call M_isLetter st []
          refine r_isLetter P1 K (by unfold isl; omega) (fun q3 => ?_) (fun q3 => ?_)
          · show kx_wx _ _ _ _ _ (_ :: _) _ _
            refine ks_if_eq_1 rfl ?_
            refine ks_iconst rfl ?_
            refine ks_goto rfl ?_
            -- at 142: stop  st ['3']
            exact headk 3 (by omega) (by omega) q3.1 (by rw [q3.2]; rfl)
          · show kx_wx _ _ _ _ _ (_ :: _) _ _
            refine ks_if_eq_0 rfl ?_
            refine ks_aload_n rfl rfl ?_
            refine ks_bipush rfl ?_
            refine ks_callv_2 rfl rfl rfl (Nat.le_of_ble_eq_true rfl) ?_
            -- at 118: call M_isLetter st []
            refine r_isLetter P1 K (by unfold isl; omega) (fun q4 => ?_) (fun q4 => ?_)
            · show kx_wx _ _ _ _ _ (_ :: _) _ _
              refine ks_if_eq_1 rfl ?_
              refine ks_iconst rfl ?_
              refine ks_goto rfl ?_
              -- at 142: stop  st ['4']
              exact headk 4 (by omega) (by omega) q4.1 (by rw [q4.2]; rfl)
            · show kx_wx _ _ _ _ _ (_ :: _) _ _
              refine ks_if_eq_0 rfl ?_
              refine ks_aload_n rfl rfl ?_
              refine ks_bipush rfl ?_
              refine ks_callv_2 rfl rfl rfl (Nat.le_of_ble_eq_true rfl) ?_
              -- at 131: call M_isLetter st []
              refine r_isLetter P1 K (by unfold isl; omega) (fun q5 => ?_) (fun q5 => ?_)
              · show kx_wx _ _ _ _ _ (_ :: _) _ _
                refine ks_if_eq_1 rfl ?_
                refine ks_iconst rfl ?_
                refine ks_goto rfl ?_
                -- at 142: stop  st ['5']
                exact headk 5 (by omega) (by omega) q5.1 (by rw [q5.2]; rfl)
              · show kx_wx _ _ _ _ _ (_ :: _) _ _
                refine ks_if_eq_0 rfl ?_
                refine ks_iconst rfl ?_
                -- at 142: stop  st ['0']
                refine none0 (fun h => ?_) hend
                unfold kdo
                rw [if_neg (fun w => q1 ⟨h, w⟩), if_neg (fun w => q2 ⟨h, w⟩), if_neg (fun w => q3 ⟨h, w⟩), if_neg (fun w => q4 ⟨h, w⟩), if_neg (fun w => q5 ⟨h, w⟩)]
    refine ks_iload_n rfl rfl ?_
    refine ks_if_eq_1 rfl ?_
    refine ks_aload_n rfl rfl ?_
    refine ks_geti rfl rfl rfl rfl (by (try simp only [kx_up_at, kx_row_at, up1_at, Nat.reduceEqDiff, Int.reduceEq, Int.reduceNeg, and_true, true_and, and_false, false_and, and_self, reduceIte, Nat.add_left_cancel_iff, Nat.add_eq_left, Nat.left_eq_add, Nat.reduceAdd, Int.add_left_inj, Int.add_right_inj, hs]); rfl) ?_
    refine ks_iconst rfl ?_
    -- at 64: if ne -> 76 else 67 st ['3', None]
    refine ks_icmp_ne rfl ⟨by omega, by omega⟩ ⟨by omega, by omega⟩ (fun c => ?_) (fun c => ?_)
    · refine ks_aload_n rfl rfl ?_
      refine ks_getr (b := 84) rfl rfl rfl rfl (by decide) ?_
      refine ks_iconst rfl ?_
      refine ks_iaload rfl rfl (by omega) (by omega) (by (try simp only [kx_up_at, kx_row_at, up1_at, Nat.reduceEqDiff, Int.reduceEq, Int.reduceNeg, and_true, true_and, and_false, false_and, and_self, reduceIte, Nat.add_left_cancel_iff, Nat.add_eq_left, Nat.left_eq_add, Nat.reduceAdd, Int.add_left_inj, Int.add_right_inj, hs]); rfl) ?_
      -- at 73: if ne -> 189 else 76 st [None]
      refine ks_if_ne rfl ⟨by omega, by omega⟩ (fun c2 => ?_) (fun c2 => ?_)
      · exact main (fun _ => c2)
      · refine ks_iload_n rfl rfl ?_
        refine ks_zreturn rfl (by omega) ?_
        -- at 190: ret  st ['1']
        have epn : p = n := y3.mp c
        have hR' : R = .inr (p, s) := by
          rcases H with ⟨z2, hR⟩ | ⟨z1, z2, hR⟩
          · have hnx : kdo (nx T n p) = 0 := by unfold nx; rw [if_neg (by omega)]; rfl
            rw [← hR, rh_0 s1 hnx c2, ro_5 z2, ro_end s2 (by omega)]
          · rw [← hR, ro_end s2 (by omega)]
        exact t1 p s _ hR' S hs F
    · exact main (fun h => absurd (y3.mpr h) c)
theorem l_readTown0 (t : ∀ μ' x1, μ' 84 = (fun _ => 0) → μ' 77 10 = 0 → FrR μ μ' → kx_wx (ke d) kt_M_readTown Q 26 [some (kR 77), x1, none] [] (kg L) μ') (hz : tw_Z (μ 84)) : ∀ (r j : Nat) (μ1 : kx_M), j + r = 46 → (∀ k : Int, 0 ≤ k → k < j → μ1 84 k = 0) → μ1 77 10 = 0 → FrR μ μ1 → kx_wx (ke d) kt_M_readTown Q 7 [some (kR 77), some (kI j), none] [] (kg L) μ1 := by
  intro r
  induction r with
  | zero =>
    intro j μ1 hj h1 h10 F
    rw [Nat.add_zero] at hj
    subst hj
    refine ks_iload_n rfl rfl ?_
    refine ks_bipush rfl ?_
    -- at 10: if ge -> 26 else 13 st ['46', None]
    refine ks_icmp_ge rfl ⟨by omega, by omega⟩ ⟨by omega, by omega⟩ (fun c => absurd c (by omega)) (fun c => ?_)
    refine t μ1 _ ?_ h10 F
    funext k
    by_cases e : 0 ≤ k ∧ k < 46
    · exact h1 k e.1 e.2
    · rw [F.2.2 k (by omega)]; exact hz k (by omega)
  | succ r ih =>
    intro j μ1 hj h1 h10 F
    refine ks_iload_n rfl rfl ?_
    refine ks_bipush rfl ?_
    -- at 10: if ge -> 26 else 13 st ['46', None]
    refine ks_icmp_ge rfl ⟨by omega, by omega⟩ ⟨by omega, by omega⟩ (fun c => ?_) (fun c => absurd c (by omega))
    refine ks_aload_n rfl rfl ?_
    refine ks_getr (b := 84) rfl rfl rfl rfl (by decide) ?_
    refine ks_iload_n rfl rfl ?_
    refine ks_iconst rfl ?_
    refine ks_iastore rfl rfl (by omega) (by omega) ?_
    refine ks_iinc_1 rfl rfl ?_
    refine ks_goto rfl ?_
    -- at 7: stop  st []
    refine ih (j + 1) _ (by omega) (fun k k0 k1 => ?_) (by rw [kx_up_row (by omega)]; exact h10) (FrR_84 F (by omega) (by omega))
    by_cases e : k = j
    · subst e; rw [kx_up_self]
    · rw [kx_up_oth e]; exact h1 k k0 (by omega)
theorem r_readTown (P : RP μ T n) (hz : tw_Z (μ 84)) (hR : ps_town T n = R) (t1 : ∀ p' s' μ', R = .inr (p', s') → PS s' → μ' 84 = s' → FrR μ μ' → Q (some (kI 1)) (kg L) μ') (t0 : ∀ f q μ', R = .inl (f, q) → μ' 77 14 = f → μ' 77 13 = q → FrR μ μ' → Q (some (kI 0)) (kg L) μ') : kx_cx (ke (d + 6)) 134 [kR 77] (kg L) μ Q := by
  refine ke_start (tb := kt_M_readTown) (ls := [some (kR 77), none, none]) rfl rfl ?_
  have P4 := P.2.2.2
  refine ks_aload_n rfl rfl ?_
  refine ks_iconst rfl ?_
  refine ks_puti rfl rfl ?_
  refine ks_iconst rfl ?_
  refine ks_istore_n_1 rfl rfl ?_
  -- at 7: stop  st []
  have F0 : FrR μ (kx_up μ 77 10 0) := FrN_R (FrN_up (FrN_rf μ) (by omega))
  refine l_readTown0 (μ := μ) (fun μ1 x1 r84 h10 F1 => ?_) hz 46 0 _ (by omega) (fun k a b => absurd b (by omega)) (kx_up_self _ _ _ _) F0
  refine ks_aload_n rfl rfl ?_
  refine ks_callv_1 rfl rfl rfl (Nat.le_of_ble_eq_true rfl) ?_
  -- at 27: call M_nextToken st []
  refine r_nextToken (RP_fr P F1) (by omega) (by omega) h10 (fun μ2 K2 F2 => ?_)
  show kx_wx _ _ _ _ _ _ _ _
  refine ks_aload_n rfl rfl ?_
  refine ks_bipush rfl ?_
  refine ks_callv_2 rfl rfl rfl (Nat.le_of_ble_eq_true rfl) ?_
  -- at 33: call M_takes st []
  have F3 := FrR_tr F1 (FrN_R F2)
  have r2 : μ2 84 = (fun _ => 0) := by rw [F2.2 84 (by omega)]; exact r84
  unfold ps_town ps_law at hR
  refine r_takes (RP_fr P F3) K2 (by unfold isl; omega) (fun q1 μ3 K3 F4 => ?_) (fun q1 => ?_)
  · rw [ps_tk_1 q1] at hR
    have F5 := FrR_tr F3 (FrN_R F4)
    have r3 : μ3 84 = (fun _ => 0) := by rw [F4.2 84 (by omega)]; exact r2
    have K3' : TK μ3 T n 1 := K3
    show kx_wx _ _ _ _ _ (_ :: _) _ _
    refine ks_if_eq_1 rfl ?_
    refine ks_aload_n rfl rfl ?_
    refine ks_iconst rfl ?_
    refine ks_iconst rfl ?_
    refine ks_iconst rfl ?_
    refine ks_bipush rfl ?_
    refine ks_callv_5 rfl rfl rfl (Nat.le_of_ble_eq_true rfl) ?_
    -- at 45: call M_takesNumber st []
    refine r_takesNumber (at' := 0) (RP_fr P F5) K3' isl_59 (by omega) (by omega) (by omega) (by omega) rfl (fun p' a μ4 hR4 a0 a1 K4 r4 F6 => ?_) (fun f q μ4 hR4 h14 h13 F6 => ?_)
    · rw [ps_nt1 (K := fun v p1 => .inr (p1, up1 (fun _ => 0) 0 v)) hR4] at hR
      have F7 := FrR_tr F5 F6
      have S4 : PS (up1 (fun _ => 0) 0 a) := PS_wind a0 a1
      rw [r3] at r4
      show kx_wx _ _ _ _ _ (_ :: _) _ _
      refine ks_if_ne_1 rfl ?_
      refine ks_iconst rfl ?_
      refine ks_istore_n_1 rfl rfl ?_
      -- at 55: stop  st []
      refine l_readTown (μ := μ) P t1 t0 12 p' _ μ4 _ ?_ S4 K4 r4 F7 (Or.inl ⟨?_, ?_⟩)
      · rw [up1_ne (by omega), up1_ne (by omega)]; omega
      · rw [up1_ne (by omega)]
      · rw [← hR]
        have e7 : (7 - up1 (fun _ => (0 : Int)) 0 a 1).toNat = 7 := rfl
        unfold rh
        rw [e7]
        rfl
    · rw [ps_nt0 (K := fun v p1 => .inr (p1, up1 (fun _ => 0) 0 v)) hR4] at hR
      show kx_wx _ _ _ _ _ (_ :: _) _ _
      refine ks_if_ne_0 rfl ?_
      refine ks_iconst rfl ?_
      refine ks_zreturn rfl (by omega) ?_
      -- at 52: ret  st ['0']
      exact t0 f q _ hR.symm h14 h13 (FrR_tr F5 F6)
  · rw [ps_tk_0 q1] at hR
    show kx_wx _ _ _ _ _ (_ :: _) _ _
    refine ks_if_eq_0 rfl ?_
    refine ks_iconst rfl ?_
    refine ks_zreturn rfl (by omega) ?_
    -- at 52: ret  st ['0']
    refine t0 1 0 _ hR.symm (kx_up_self _ _ _ _) ?_ (FrR_14 F3)
    rw [kx_up_oth (by omega)]; exact K2.1
theorem l_Mtown {s' : Int → Int} (hs : μ 84 = s') (hz : tw_Z s') (hz1 : tw_Z (μ 81)) (t : ∀ μ', μ' 81 = s' → μ' 77 4 = 1 → μ' 77 17 = 0 → (∀ j, j ≠ 4 → j ≠ 17 → μ' 77 j = μ 77 j) → (∀ c, c ≠ 77 → c ≠ 81 → μ' c = μ c) → Q (some (kI (s' 1))) (kg L) μ') : ∀ (r j : Nat) (μ1 : kx_M), j + r = 46 → (∀ k : Int, 0 ≤ k → k < j → μ1 81 k = s' k) → (∀ k, k < 0 ∨ 46 ≤ k → μ1 81 k = μ 81 k) → (∀ c, c ≠ 81 → μ1 c = μ c) → kx_wx (ke d) kt_M_town Q 32 [some (kR 77), some (kI 1), some (kI j)] [] (kg L) μ1 := by
  intro r
  induction r with
  | zero =>
    intro j μ1 hj h1 h2 h3
    rw [Nat.add_zero] at hj
    subst hj
    have e : μ1 81 = s' := by
      funext k
      by_cases e : 0 ≤ k ∧ k < 46
      · exact h1 k e.1 e.2
      · rw [h2 k (by omega), hz1 k (by omega), hz k (by omega)]
    refine ks_iload_n rfl rfl ?_
    refine ks_bipush rfl ?_
    -- at 35: if ge -> 56 else 38 st ['46', None]
    refine ks_icmp_ge rfl ⟨by omega, by omega⟩ ⟨by omega, by omega⟩ (fun c => absurd c (by omega)) (fun c => ?_)
    refine ks_aload_n rfl rfl ?_
    refine ks_iconst rfl ?_
    refine ks_putz rfl rfl (by omega) ?_
    refine ks_aload_n rfl rfl ?_
    refine ks_iconst rfl ?_
    refine ks_puti rfl rfl ?_
    refine ks_aload_n rfl rfl ?_
    refine ks_getr (b := 81) rfl rfl rfl rfl (by decide) ?_
    refine ks_iconst rfl ?_
    refine ks_iaload rfl rfl (by omega) (by omega) (by (try simp only [kx_up_at, kx_row_at, up1_at, Nat.reduceEqDiff, Int.reduceEq, Int.reduceNeg, and_true, true_and, and_false, false_and, and_self, reduceIte, Nat.add_left_cancel_iff, Nat.add_eq_left, Nat.left_eq_add, Nat.reduceAdd, Int.add_left_inj, Int.add_right_inj, e]); rfl) ?_
    refine ks_ireturn rfl ?_
    -- at 72: ret  st [None]
    refine t _ ?_ ?_ (kx_up_self _ _ _ _) (fun j a b => ?_) (fun c a b => ?_)
    · rw [kx_up_row (by omega), kx_up_row (by omega)]; exact e
    · rw [kx_up_oth (by omega), kx_up_self]
    · rw [kx_up_oth b, kx_up_oth a, h3 77 (by omega)]
    · rw [kx_up_row a, kx_up_row a]; exact h3 c b
  | succ r ih =>
    intro j μ1 hj h1 h2 h3
    have e84 : μ1 84 = s' := by rw [h3 84 (by omega)]; exact hs
    refine ks_iload_n rfl rfl ?_
    refine ks_bipush rfl ?_
    -- at 35: if ge -> 56 else 38 st ['46', None]
    refine ks_icmp_ge rfl ⟨by omega, by omega⟩ ⟨by omega, by omega⟩ (fun c => ?_) (fun c => absurd c (by omega))
    refine ks_aload_n rfl rfl ?_
    refine ks_getr (b := 81) rfl rfl rfl rfl (by decide) ?_
    refine ks_iload_n rfl rfl ?_
    refine ks_aload_n rfl rfl ?_
    refine ks_getr (b := 84) rfl rfl rfl rfl (by decide) ?_
    refine ks_iload_n rfl rfl ?_
    refine ks_iaload rfl rfl (by omega) (by omega) (by (try simp only [kx_up_at, kx_row_at, up1_at, Nat.reduceEqDiff, Int.reduceEq, Int.reduceNeg, and_true, true_and, and_false, false_and, and_self, reduceIte, Nat.add_left_cancel_iff, Nat.add_eq_left, Nat.left_eq_add, Nat.reduceAdd, Int.add_left_inj, Int.add_right_inj, e84]); rfl) ?_
    refine ks_iastore rfl rfl (by omega) (by omega) ?_
    refine ks_iinc_2 rfl rfl ?_
    refine ks_goto rfl ?_
    -- at 32: stop  st []
    refine ih (j + 1) _ (by omega) (fun k k0 k1 => ?_) (fun k hk => by rw [kx_up_oth (by omega)]; exact h2 k hk) (fun c hc => by rw [kx_up_row hc]; exact h3 c hc)
    by_cases e : k = j
    · subst e; rw [kx_up_self]
    · rw [kx_up_oth e]; exact h1 k k0 (by omega)
/-- what the reference's reading of a town leaves as it was -/
def FrW (μ μ' : kx_M) : Prop := (∀ c, c ≠ 77 → c ≠ 81 → c ≠ 84 → μ' c = μ c) ∧ (∀ k, k < 0 ∨ 46 ≤ k → μ' 84 k = μ 84 k)
theorem r_Mtown (P : RP μ T n) (hz : tw_Z (μ 84)) (hz1 : tw_Z (μ 81)) (hR : ps_town T n = R) (t1 : ∀ p' s' μ', R = .inr (p', s') → μ' 81 = s' → μ' 77 4 = 1 → μ' 77 17 = 0 → μ' 77 8 = 0 → (∀ j, j < 4 ∨ j = 9 ∨ 17 < j → μ' 77 j = μ 77 j) → FrW μ μ' → Q (some (kI (s' 1))) (kg L) μ') (t0 : ∀ f q μ', R = .inl (f, q) → μ' 77 9 = f → μ' 77 8 = 0 → (∀ j, j < 8 ∨ 14 < j → μ' 77 j = μ 77 j) → μ' 81 = μ 81 → FrW μ μ' → Q (some (kI (-1000100 - q))) (kg L) μ') : kx_cx (ke (d + 7)) 135 [kR 77] (kg L) μ Q := by
  refine ke_start (tb := kt_M_town) (ls := [some (kR 77), none, none]) rfl rfl ?_
  refine ks_aload_n rfl rfl ?_
  refine ks_callv_1 rfl rfl rfl (Nat.le_of_ble_eq_true rfl) ?_
  -- at 1: call M_readTown st []
  refine r_readTown P hz hR (fun p' s' μ1 hR1 S1 r1 F1 => ?_) (fun f q μ1 hR1 h14 h13 F1 => ?_)
  · show kx_wx _ _ _ _ _ (_ :: _) _ _
    refine ks_istore_n_1 rfl rfl ?_
    refine ks_aload_n rfl rfl ?_
    refine ks_iconst rfl ?_
    refine ks_puti rfl rfl ?_
    refine ks_iload_n rfl rfl ?_
    refine ks_if_ne_1 rfl ?_
    refine ks_iconst rfl ?_
    refine ks_istore_n_2 rfl rfl ?_
    -- at 32: stop  st []
    have zs : tw_Z s' := fun k hk => S1.2.2.2.2.1 k (by omega)
    refine l_Mtown (μ := kx_up μ1 77 8 0) (s' := s') (by rw [kx_up_row (by omega)]; exact r1) zs (by rw [kx_up_row (by omega), F1.2.1 81 (by omega) (by omega)]; exact hz1) (fun μ2 h1 h2 h3 h4 h5 => ?_) 46 0 _ (by omega) (fun k a b => absurd b (by omega)) (fun _ _ => rfl) (fun _ _ => rfl)
    refine t1 p' s' μ2 hR1 h1 h2 h3 ?_ (fun j hj => ?_) ⟨fun c a b g => ?_, fun k hk => ?_⟩
    · rw [h4 8 (by omega) (by omega), kx_up_self]
    · rw [h4 j (by omega) (by omega), kx_up_oth (by omega), F1.1 j (by omega)]
    · rw [h5 c a b, kx_up_row a, F1.2.1 c a g]
    · rw [h5 84 (by omega) (by omega), kx_up_row (by omega), F1.2.2 k hk]
  · show kx_wx _ _ _ _ _ (_ :: _) _ _
    refine ks_istore_n_1 rfl rfl ?_
    refine ks_aload_n rfl rfl ?_
    refine ks_iconst rfl ?_
    refine ks_puti rfl rfl ?_
    refine ks_iload_n rfl rfl ?_
    refine ks_if_ne_0 rfl ?_
    refine ks_aload_n rfl rfl ?_
    refine ks_aload_n rfl rfl ?_
    refine ks_geti rfl rfl rfl rfl (by (try simp only [kx_up_at, kx_row_at, up1_at, Nat.reduceEqDiff, Int.reduceEq, Int.reduceNeg, and_true, true_and, and_false, false_and, and_self, reduceIte, Nat.add_left_cancel_iff, Nat.add_eq_left, Nat.left_eq_add, Nat.reduceAdd, Int.add_left_inj, Int.add_right_inj, h14, h13]); rfl) ?_
    refine ks_puti rfl rfl ?_
    refine ks_ldc rfl ?_
    refine ks_aload_n rfl rfl ?_
    refine ks_geti rfl rfl rfl rfl (by (try simp only [kx_up_at, kx_row_at, up1_at, Nat.reduceEqDiff, Int.reduceEq, Int.reduceNeg, and_true, true_and, and_false, false_and, and_self, reduceIte, Nat.add_left_cancel_iff, Nat.add_eq_left, Nat.left_eq_add, Nat.reduceAdd, Int.add_left_inj, Int.add_right_inj, h14, h13]); rfl) ?_
    refine ks_isub rfl ?_
    refine ks_ireturn rfl ?_
    -- at 29: ret  st [None]
    refine t0 f q _ hR1 (kx_up_self _ _ _ _) ?_ (fun j hj => ?_) ?_ ⟨fun c a b g => ?_, fun k hk => ?_⟩
    · rw [kx_up_oth (by omega), kx_up_self]
    · rw [kx_up_oth (by omega), kx_up_oth (by omega), F1.1 j (by omega)]
    · rw [kx_up_row (by omega), kx_up_row (by omega), F1.2.1 81 (by omega) (by omega)]
    · rw [kx_up_row a, kx_up_row a, F1.2.1 c a g]
    · rw [kx_up_row (by omega), kx_up_row (by omega), F1.2.2 k hk]
end PF
