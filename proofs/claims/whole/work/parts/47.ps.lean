/-! acts, images, towns, of both -/
theorem IT_X {μ μ' : kx_M} {s : Int → Int} (h : IT μ s) (F : FrX μ μ') : IT μ' s := by unfold IT at *; rw [F 77 (by omega)]; exact h
theorem RM_X {μ μ' : kx_M} {m : Int} {h : Int → Int → Int} (R : RM μ m h) (F : FrX μ μ') : RM μ' m h := RM_fr R (by rw [F 77 (by omega)]) (F 85 (by omega))
theorem TN_Z {s : Int → Int} (N : TN s) : tw_Z s := by
  rcases N with q | q
  · exact fun k _ => q k
  · exact q.2
section PS
variable {L : Nat} {sc : Int → Int} {a b v w l i n j r x : Int}
theorem p_wind (hv : kx_in v) : PA L sc 77 144 [kI v] := by
  intro μ I
  have I0 := I
  obtain ⟨i1, i2, i3, i4, ⟨N, T, IT0⟩, i6, i7, i8, i9, i10, i11⟩ := I
  obtain ⟨n1, n2, n3⟩ := TN_in N
  obtain ⟨j1, h, C, M⟩ := i6
  refine r_Xwind hv N C T (fun a1 => ⟨rfl, i11, ?_⟩) (fun a1 a2 => ⟨rfl, i11, ?_⟩) (fun a1 a2 a3 μ1 C1 T1 F1 => ⟨rfl, by rw [F1 104 (by omega)]; exact i11, ?_⟩)
  · exact r_Mwind hv rfl N IT0 M (fun _ => ⟨_, kx_c2, rfl, rfl, rfl, I0⟩) (fun q1 q2 => False.elim (by omega)) (fun q1 q2 q3 μ2 M2 e2 K => False.elim (by omega))
  · exact r_Mwind hv rfl N IT0 M (fun q1 => False.elim (by omega)) (fun q1 q2 => ⟨_, kx_c1, rfl, rfl, rfl, I0⟩) (fun q1 q2 q3 μ2 M2 e2 K => False.elim (by omega))
  · obtain ⟨W, Z⟩ := TN_W N (Or.inl (by omega))
    have w4 := W.2.2.2.1
    exact r_Mwind (s := μ 81) hv (F1 81 (by omega)) N (IT_X IT0 F1) (RM_X M F1) (fun q1 => False.elim (by omega)) (fun q1 q2 => False.elim (by omega)) (fun q1 q2 q3 μ2 M2 e2 K => ⟨_, ⟨by omega, by omega⟩, rfl, rfl, rfl, Inv_act I0 F1 K (tw_W_wind W q2 q3) (tw_Z_up Z (by omega)) q1 e2 T1 C1 M2⟩)
theorem p_give (hv : kx_in v) : PA L sc 78 146 [kI v] := by
  intro μ I
  have I0 := I
  obtain ⟨i1, i2, i3, i4, ⟨N, T, IT0⟩, i6, i7, i8, i9, i10, i11⟩ := I
  obtain ⟨n1, n2, n3⟩ := TN_in N
  obtain ⟨j1, h, C, M⟩ := i6
  refine r_Xgive hv N C T (fun a1 => ⟨rfl, i11, ?_⟩) (fun a1 a2 μ1 C1 T1 F1 => ⟨rfl, by rw [F1 104 (by omega)]; exact i11, ?_⟩)
  · exact r_Mgive hv rfl N M (fun _ => ⟨_, kx_c1, rfl, rfl, rfl, I0⟩) (fun q1 q2 μ2 M2 e2 K => False.elim (by omega))
  · obtain ⟨W, Z⟩ := TN_W N (Or.inl (by omega))
    have w3 := W.2.2.1
    exact r_Mgive (s := μ 81) hv (F1 81 (by omega)) N (RM_X M F1) (fun q1 => False.elim (by omega)) (fun q1 q2 μ2 M2 e2 K => ⟨_, ⟨by omega, by omega⟩, rfl, rfl, rfl, Inv_act I0 F1 K (tw_W_give W q1 q2) (tw_Z_up (tw_Z_up Z (by omega)) (by omega)) (by omega) e2 T1 C1 M2⟩)
theorem p_order (hv : kx_in v) : PA L sc 79 147 [kI v] := by
  intro μ I
  have I0 := I
  obtain ⟨i1, i2, i3, i4, ⟨N, T, IT0⟩, i6, i7, i8, i9, i10, i11⟩ := I
  obtain ⟨n1, n2, n3⟩ := TN_in N
  obtain ⟨j1, h, C, M⟩ := i6
  refine r_Xorder hv N C T (fun a1 => ⟨rfl, i11, ?_⟩) (fun a1 a2 => ⟨rfl, i11, ?_⟩) (fun a1 a2 a3 a4 => ⟨rfl, i11, ?_⟩) (fun a1 a2 a3 a4 μ1 C1 T1 F1 => ⟨rfl, by rw [F1 104 (by omega)]; exact i11, ?_⟩)
  · exact r_Morder hv rfl N IT0 M (fun _ => ⟨_, kx_c2, rfl, rfl, rfl, I0⟩) (fun q1 q2 => False.elim (by omega)) (fun q1 q2 q3 q4 => False.elim (by omega)) (fun q1 q2 q3 q4 μ2 M2 e2 K => False.elim (by omega))
  · exact r_Morder hv rfl N IT0 M (fun q1 => False.elim (by omega)) (fun q1 q2 => ⟨_, kx_c1, rfl, rfl, rfl, I0⟩) (fun q1 q2 q3 q4 => False.elim (by omega)) (fun q1 q2 q3 q4 μ2 M2 e2 K => False.elim (by omega))
  · exact r_Morder hv rfl N IT0 M (fun q1 => False.elim (by omega)) (fun q1 q2 => False.elim (by omega)) (fun q1 q2 q3 q4 => ⟨_, kx_c3, rfl, rfl, rfl, I0⟩) (fun q1 q2 q3 q4 μ2 M2 e2 K => False.elim (by omega))
  · obtain ⟨W, Z⟩ := TN_W N (Or.inl (by omega))
    exact r_Morder (s := μ 81) hv (F1 81 (by omega)) N (IT_X IT0 F1) (RM_X M F1) (fun q1 => False.elim (by omega)) (fun q1 q2 => False.elim (by omega)) (fun q1 q2 q3 q4 => False.elim (by omega)) (fun q1 q2 q3 q4 μ2 M2 e2 K => ⟨_, ⟨by omega, by omega⟩, rfl, rfl, rfl, Inv_act I0 F1 K (tw_W_told W q2 q3 q4) (tw_Z_told Z n2.1 q4) q1 e2 T1 C1 M2⟩)
theorem p_back (hv : kx_in v) : PA L sc 80 148 [kI v] := by
  intro μ I
  have I0 := I
  obtain ⟨i1, i2, i3, i4, ⟨N, T, IT0⟩, i6, i7, i8, i9, i10, i11⟩ := I
  obtain ⟨n1, n2, n3⟩ := TN_in N
  obtain ⟨j1, h, C, M⟩ := i6
  refine r_Xback hv N C T (fun a1 => ⟨rfl, i11, ?_⟩) (fun a1 a2 a3 => ⟨rfl, i11, ?_⟩) (fun a1 a2 a3 μ1 C1 T1 F1 => ⟨rfl, by rw [F1 104 (by omega)]; exact i11, ?_⟩)
  · exact r_Mback hv rfl N M (fun _ => ⟨_, kx_c1, rfl, rfl, rfl, I0⟩) (fun q1 q2 q3 => False.elim (by omega)) (fun q1 q2 q3 μ2 M2 e2 K => False.elim (by omega))
  · exact r_Mback hv rfl N M (fun q1 => False.elim (by omega)) (fun q1 q2 q3 => ⟨_, kx_c2, rfl, rfl, rfl, I0⟩) (fun q1 q2 q3 μ2 M2 e2 K => False.elim (by omega))
  · obtain ⟨W, Z⟩ := TN_W N (Or.inr (by omega))
    have w1 := W.1
    have w8 := W.2.2.2.2.2.2.2 v a1 a2
    exact r_Mback (s := μ 81) hv (F1 81 (by omega)) N (RM_X M F1) (fun q1 => False.elim (by omega)) (fun q1 q2 q3 => False.elim (by omega)) (fun q1 q2 q3 μ2 M2 e2 K => ⟨_, ⟨by omega, by omega⟩, rfl, rfl, rfl, Inv_act I0 F1 K (tw_W_back W q1 q2) (tw_Z_up Z (by omega)) (by omega) e2 T1 C1 M2⟩)
theorem p_steps (hv : kx_in v) : PA L sc 76 143 [kI v] := by
  intro μ I
  have I0 := I
  obtain ⟨i1, i2, i3, i4, ⟨N, T, IT0⟩, i6, i7, i8, i9, i10, i11⟩ := I
  obtain ⟨n1, n2, n3⟩ := TN_in N
  obtain ⟨j1, h, C, M⟩ := i6
  refine r_Xsteps hv N C T (fun a1 => ⟨rfl, i11, ?_⟩) (fun a1 a2 => ⟨rfl, i11, ?_⟩) (fun a1 a2 a3 a4 => ⟨rfl, i11, ?_⟩) (fun a1 a2 a3 a4 μ1 C1 T1 F1 => ⟨rfl, by rw [F1 104 (by omega)]; exact i11, ?_⟩)
  · exact r_Msteps hv rfl N IT0 M (fun _ => ⟨_, kx_c2, rfl, rfl, rfl, I0⟩) (fun q1 q2 => False.elim (by omega)) (fun q1 q2 q3 q4 => False.elim (by omega)) (fun q1 q2 q3 q4 μ2 M2 e2 K => False.elim (by omega))
  · exact r_Msteps hv rfl N IT0 M (fun q1 => False.elim (by omega)) (fun q1 q2 => ⟨_, kx_c1, rfl, rfl, rfl, I0⟩) (fun q1 q2 q3 q4 => False.elim (by omega)) (fun q1 q2 q3 q4 μ2 M2 e2 K => False.elim (by omega))
  · exact r_Msteps hv rfl N IT0 M (fun q1 => False.elim (by omega)) (fun q1 q2 => False.elim (by omega)) (fun q1 q2 q3 q4 => ⟨_, kx_c3, rfl, rfl, rfl, I0⟩) (fun q1 q2 q3 q4 μ2 M2 e2 K => False.elim (by omega))
  · obtain ⟨W, Z⟩ := TN_W N (Or.inl (by omega))
    have Wn := tw_W_mono (tw_W_go (tw_W_self W) v.toNat) (C := 999) (by omega)
    have b3 := Wn.2.2.1
    have b1 := Wn.1
    exact r_Msteps (s := μ 81) hv (F1 81 (by omega)) N (IT_X IT0 F1) (RM_X M F1) (fun q1 => False.elim (by omega)) (fun q1 q2 => False.elim (by omega)) (fun q1 q2 q3 q4 => False.elim (by omega)) (fun q1 q2 q3 q4 μ2 M2 e2 K => ⟨_, ⟨by omega, by omega⟩, rfl, rfl, rfl, Inv_act I0 F1 K Wn (tw_Z_go W Z _) q1 e2 T1 C1 M2⟩)
theorem l_Mundo2 {d : Nat} {μ : kx_M} {Q : Option kx_V → kx_G → kx_M → Prop} {m : Int} (m0 : 0 ≤ m) (m1 : m < 24) (hm : μ 77 17 = m) (t : ∀ μ', (∀ k : Int, 0 ≤ k → k < 46 → μ' 81 k = μ 85 (46 * m + k)) → (∀ k, k < 0 ∨ 46 ≤ k → μ' 81 k = μ 81 k) → (∀ c, c ≠ 81 → μ' c = μ c) → Q (some (kI m)) (kg L) μ') : ∀ (r j : Nat) (μ1 : kx_M), j + r = 46 → (∀ k : Int, 0 ≤ k → k < j → μ1 81 k = μ 85 (46 * m + k)) → (∀ k, k < 0 ∨ 46 ≤ k → μ1 81 k = μ 81 k) → (∀ c, c ≠ 81 → μ1 c = μ c) → kx_wx (ke d) kt_M_undo Q 22 [some (kR 77), some (kI j)] [] (kg L) μ1 := by
  intro r
  induction r with
  | zero =>
    intro j μ1 hj h1 h2 h3
    rw [Nat.add_zero] at hj
    subst hj
    have hm1 : μ1 77 17 = m := by rw [h3 77 (by omega)]; exact hm
    refine ks_iload_n rfl rfl ?_
    refine ks_bipush rfl ?_
    -- at 25: if ge -> 54 else 28 st ['46', None]
    refine ks_icmp_ge rfl ⟨by omega, by omega⟩ ⟨by omega, by omega⟩ (fun c => absurd c (by omega)) (fun c => ?_)
    refine ks_aload_n rfl rfl ?_
    refine ks_geti rfl rfl rfl rfl (by (try simp only [kx_up_at, kx_row_at, up1_at, Nat.reduceEqDiff, Int.reduceEq, Int.reduceNeg, and_true, true_and, and_false, false_and, and_self, reduceIte, Nat.add_left_cancel_iff, Nat.add_eq_left, Nat.left_eq_add, Nat.reduceAdd, Int.add_left_inj, Int.add_right_inj, hm1]); rfl) ?_
    refine ks_ireturn rfl ?_
    -- at 58: ret  st [None]
    exact t _ h1 h2 h3
  | succ r ih =>
    intro j μ1 hj h1 h2 h3
    have hm1 : μ1 77 17 = m := by rw [h3 77 (by omega)]; exact hm
    refine ks_iload_n rfl rfl ?_
    refine ks_bipush rfl ?_
    -- at 25: if ge -> 54 else 28 st ['46', None]
    refine ks_icmp_ge rfl ⟨by omega, by omega⟩ ⟨by omega, by omega⟩ (fun c => ?_) (fun c => absurd c (by omega))
    refine ks_aload_n rfl rfl ?_
    refine ks_getr (b := 81) rfl rfl rfl rfl (by decide) ?_
    refine ks_iload_n rfl rfl ?_
    refine ks_aload_n rfl rfl ?_
    refine ks_getr (b := 85) rfl rfl rfl rfl (by decide) ?_
    refine ks_bipush rfl ?_
    refine ks_aload_n rfl rfl ?_
    refine ks_geti rfl rfl rfl rfl (by (try simp only [kx_up_at, kx_row_at, up1_at, Nat.reduceEqDiff, Int.reduceEq, Int.reduceNeg, and_true, true_and, and_false, false_and, and_self, reduceIte, Nat.add_left_cancel_iff, Nat.add_eq_left, Nat.left_eq_add, Nat.reduceAdd, Int.add_left_inj, Int.add_right_inj, hm1]); rfl) ?_
    refine ks_imul rfl ?_
    refine ks_iload_n rfl rfl ?_
    refine ks_iadd rfl ?_
    refine ks_iaload rfl rfl (by omega) (by omega) (by (try simp only [kx_up_at, kx_row_at, up1_at, Nat.reduceEqDiff, Int.reduceEq, Int.reduceNeg, and_true, true_and, and_false, false_and, and_self, reduceIte, Nat.add_left_cancel_iff, Nat.add_eq_left, Nat.left_eq_add, Nat.reduceAdd, Int.add_left_inj, Int.add_right_inj, hm1]); rfl) ?_
    refine ks_iastore rfl rfl (by omega) (by omega) ?_
    refine ks_iinc_1 rfl rfl ?_
    refine ks_goto rfl ?_
    -- at 22: stop  st []
    refine ih (j + 1) _ (by omega) (fun x x0 x1 => ?_) (fun k hk => by rw [kx_up_oth (by omega)]; exact h2 k hk) (fun c hc => ?_)
    · by_cases e : x = j
      · subst e; rw [kx_up_self, h3 85 (by omega)]
      · rw [kx_up_oth (by omega)]; exact h1 x x0 (by omega)
    · rw [kx_up_row hc]; exact h3 c hc
theorem r_Mundo2 {d : Nat} {μ : kx_M} {Q : Option kx_V → kx_G → kx_M → Prop} {m : Int} (m0 : 0 ≤ m) (m1 : m ≤ 24) (hm : μ 77 17 = m) (t0 : m = 0 → Q (some (kI (-1000002))) (kg L) μ) (t : 1 ≤ m → ∀ μ', (∀ k : Int, 0 ≤ k → k < 46 → μ' 81 k = μ 85 (46 * (m - 1) + k)) → (∀ k, k < 0 ∨ 46 ≤ k → μ' 81 k = μ 81 k) → μ' 77 17 = m - 1 → (∀ j, j ≠ 17 → μ' 77 j = μ 77 j) → (∀ c, c ≠ 81 → c ≠ 77 → μ' c = μ c) → Q (some (kI (m - 1))) (kg L) μ') : kx_cx (ke (d + 1)) 149 [kR 77] (kg L) μ Q := by
  refine ke_start (tb := kt_M_undo) (ls := [some (kR 77), none]) rfl rfl ?_
  refine ks_aload_n rfl rfl ?_
  refine ks_geti rfl rfl rfl rfl (by (try simp only [kx_up_at, kx_row_at, up1_at, Nat.reduceEqDiff, Int.reduceEq, Int.reduceNeg, and_true, true_and, and_false, false_and, and_self, reduceIte, Nat.add_left_cancel_iff, Nat.add_eq_left, Nat.left_eq_add, Nat.reduceAdd, Int.add_left_inj, Int.add_right_inj, hm]); rfl) ?_
  -- at 4: if ne -> 10 else 7 st [None]
  refine ks_if_ne rfl ⟨by omega, by omega⟩ (fun h => ?_) (fun h => ?_)
  · refine ks_ldc rfl ?_
    refine ks_ireturn rfl ?_
    -- at 9: ret  st ['-1000002']
    exact t0 h
  · refine ks_aload_n rfl rfl ?_
    refine ks_dupR rfl ?_
    refine ks_geti rfl rfl rfl rfl (by (try simp only [kx_up_at, kx_row_at, up1_at, Nat.reduceEqDiff, Int.reduceEq, Int.reduceNeg, and_true, true_and, and_false, false_and, and_self, reduceIte, Nat.add_left_cancel_iff, Nat.add_eq_left, Nat.left_eq_add, Nat.reduceAdd, Int.add_left_inj, Int.add_right_inj, hm]); rfl) ?_
    refine ks_iconst rfl ?_
    refine ks_isub rfl ?_
    refine ks_puti rfl rfl ?_
    refine ks_iconst rfl ?_
    refine ks_istore_n_1 rfl rfl ?_
    -- at 22: stop  st []
    refine l_Mundo2 (μ := kx_up μ 77 17 (m - 1)) (m := m - 1) (by omega) (by omega) (kx_up_self _ _ _ _) (fun μ2 k1 k3 k2 => ?_) 46 0 _ (by omega) (fun x x0 x1 => absurd x1 (by omega)) (fun _ _ => rfl) (fun _ _ => rfl)
    refine t (by omega) μ2 (fun k k0 kk => ?_) (fun k hk => ?_) ?_ (fun j hj => ?_) (fun c c0 c1 => ?_)
    · rw [k1 k k0 kk, kx_up_row (by omega)]
    · rw [k3 k hk, kx_up_row (by omega)]
    · rw [k2 77 (by omega), kx_up_self]
    · rw [k2 77 (by omega), kx_up_oth hj]
    · rw [k2 c c0, kx_up_row c1]
theorem p_undo : PA L sc 81 149 [] := by
  intro μ I
  have I0 := I
  obtain ⟨i1, i2, i3, i4, ⟨N, T, IT0⟩, i6, i7, i8, i9, i10, i11⟩ := I
  obtain ⟨n1, n2, n3⟩ := TN_in N
  obtain ⟨j1, h, C, M⟩ := i6
  have mb := C.2.1
  refine r_Xundo C T (fun a1 => ⟨rfl, i11, ?_⟩) (fun a1 μ1 C1 T1 F1 => ⟨rfl, by rw [F1 104 (by omega)]; exact i11, ?_⟩)
  · exact r_Mundo2 mb.1 mb.2 rfl (fun _ => ⟨_, kx_c2, rfl, rfl, rfl, I0⟩) (fun q1 μ2 z1 z2 z3 z4 z5 => False.elim (by omega))
  · have e17 : μ1 77 17 = μ 77 17 := by rw [F1 77 (by omega)]
    refine r_Mundo2 mb.1 mb.2 e17 (fun q1 => False.elim (by omega)) (fun q1 μ2 z1 z2 z3 z4 z5 => ⟨_, ⟨by omega, by omega⟩, rfl, rfl, rfl, ?_⟩)
    have WZ := (C.2.2.2 (μ 77 17 - 1) (by omega) (by omega)).1
    have e81 : μ2 81 = h (μ 77 17 - 1) := by
      funext k
      by_cases e : 0 ≤ k ∧ k < 46
      · rw [z1 k e.1 e.2, F1 85 (by omega), M.2.2 (μ 77 17 - 1) (by omega) (by omega) k e.1 e.2]
      · rw [z2 k (by omega), F1 81 (by omega), TN_Z N k (by omega), WZ.2 k (by omega)]
    refine Inv_act I0 (fun c hc => F1 c (by omega)) ⟨z4, fun c c1 c2 c3 => z5 c c2 c1⟩ WZ.1 WZ.2 (by omega) e81 T1 C1 ⟨z3, by omega, fun j j0 j1 k k0 k1 => ?_⟩
    rw [z5 85 (by omega) (by omega), F1 85 (by omega)]
    exact M.2.2 j j0 (by omega) k k0 k1
theorem p_image (hv : kx_in v) : PA L sc 97 174 [kI v] := by
  intro μ I
  have I0 := I
  obtain ⟨i1, i2, i3, i4, ⟨N, T, IT0⟩, i6, i7, i8, i9, i10, i11⟩ := I
  obtain ⟨n1, n2, n3⟩ := TN_in N
  refine r_Ximage hv T N (fun a1 => ⟨rfl, i11, ?_⟩) (fun a1 a2 a3 => ⟨rfl, i11, ?_⟩) (fun a1 a2 a3 μ1 T1 e76 F1 => ⟨rfl, by rw [F1 104 (by omega) (by omega)]; exact i11, ?_⟩)
  · exact r_Mimage hv IT0 (fun _ => ⟨_, kx_c1, rfl, rfl, rfl, I0⟩) (fun q1 q2 q3 => False.elim (by omega)) (fun q1 q2 q3 μ2 z1 z2 z3 z4 => False.elim (by omega))
  · exact r_Mimage hv IT0 (fun q1 => False.elim (by omega)) (fun q1 q2 q3 => ⟨_, kx_c2, rfl, rfl, rfl, I0⟩) (fun q1 q2 q3 μ2 z1 z2 z3 z4 => False.elim (by omega))
  · obtain ⟨W, Z⟩ := TN_W N (Or.inl (by omega))
    have IT1 : IT μ1 (μ 81) := by unfold IT at *; rw [F1 77 (by omega) (by omega)]; exact IT0
    refine r_Mimage hv IT1 (fun q1 => False.elim (by omega)) (fun q1 q2 q3 => False.elim (by omega)) (fun q1 q2 q3 μ2 z1 z2 z3 z4 => ⟨_, ⟨by omega, by omega⟩, rfl, rfl, rfl, ?_⟩)
    have i4' : μ 77 4 = 1 := by unfold IT at IT0; omega
    generalize hg : 58 + 9 * v.toNat = g at *
    have f : ∀ c, c ≠ 76 ∧ (c < g ∨ g + 8 < c) ∧ c ≠ 88 ∧ c ≠ 89 → μ2 c = μ c := fun c hc => by rw [z4 c (by omega) (by omega), F1 c (by omega) (by omega)]
    refine ⟨?_, ?_, ?_, ?_, ?_, ?_, ?_, ?_, ?_, ?_, ?_⟩
    · exact I_rw_fr i1 (fun c hc => f c (by omega))
    · unfold I_st at *; rw [f 1 (by omega), f 77 (by omega)]; exact i2
    · exact I_tp_fr i3 (by rw [f 19 (by omega)]) (by rw [f 77 (by omega)]) (f 20 (by omega)) (f 83 (by omega))
    · unfold I_ft at *; rw [f 1 (by omega), f 77 (by omega)]; exact i4
    · exact I_tw_fr ⟨N, T, IT0⟩ (f 81 (by omega)) (by rw [f 77 (by omega)]) (fun c a b => f c (by omega))
    · exact I_ac_fr i6 (f 81 (by omega)) (by rw [f 77 (by omega)]) (f 85 (by omega)) (fun c a b => f c (by omega))
    · intro k k0 k1
      have hk := i7 k k0 k1
      have e88 : μ2 88 = up1 (μ 88) v 1 := by rw [z3, F1 88 (by omega) (by omega)]
      have e76' : μ2 76 = up1 (μ 76) v 1 := by rw [z4 76 (by omega) (by omega), e76]
      have e74 : μ2 77 4 = 1 := by rw [f 77 (by omega)]; exact i4'
      rw [e88, e76']
      by_cases e : k = v
      · subst e
        have ei : im μ2 k = μ 81 := by
          funext j
          unfold im
          by_cases hj : 0 ≤ j ∧ j < 46
          · rw [if_pos hj, z1 j hj.1 hj.2, F1 81 (by omega) (by omega)]
          · rw [if_neg hj, Z j (by omega)]
        rw [up1_self, up1_self, ei, hg]
        exact ⟨rfl, by omega, fun _ => ⟨⟨W, TR_fr T1 (fun c c0 c1 => z4 c (by omega) (by omega))⟩, e74⟩⟩
      · have ei : im μ2 k = im μ k := by
          funext j
          unfold im
          by_cases hj : 0 ≤ j ∧ j < 46
          · rw [if_pos hj, if_pos hj, z2 _ (by omega), F1 89 (by omega) (by omega)]
          · rw [if_neg hj, if_neg hj]
        rw [up1_ne e, up1_ne e, ei]
        exact ⟨hk.1, hk.2.1, fun q => ⟨⟨(hk.2.2 q).1.1, TR_fr (hk.2.2 q).1.2 (fun c c0 c1 => f c (by omega))⟩, e74⟩⟩
    · exact I_tr_fr i8 (f 55 (by omega)) (by rw [f 77 (by omega)]) (f 56 (by omega)) (f 90 (by omega))
    · exact TB_fr i9 (fun c hc => f c (by omega))
    · rw [f 84 (by omega)]; exact i10
    · rw [f 104 (by omega)]; exact i11
theorem p_restore (hv : kx_in v) : PA L sc 98 175 [kI v] := by
  intro μ I
  have I0 := I
  obtain ⟨i1, i2, i3, i4, ⟨N, T, IT0⟩, i6, i7, i8, i9, i10, i11⟩ := I
  obtain ⟨n1, n2, n3⟩ := TN_in N
  obtain ⟨j1, h, C, M⟩ := i6
  have hz : ∀ k, tw_Z (im μ k) := fun k j hj => by unfold im; rw [if_neg (by omega)]
  refine r_Xrestore (s := im μ v) hv (fun a1 a2 => by rw [(i7 v a1 a2).1]; exact (i7 v a1 a2).2.1) (fun a1 a2 a3 => ?_) (fun a1 => ⟨rfl, i11, ?_⟩) (fun a1 a2 a3 => ⟨rfl, i11, ?_⟩) (fun a1 a2 a3 μ1 T1 e5 e4 F1 => ⟨rfl, by rw [F1 104 (by omega)]; exact i11, ?_⟩)
  · rw [(i7 v a1 a2).1] at a3
    have := (i7 v a1 a2).2.2 a3
    exact ⟨this.1.2, this.1.1.1.2, this.1.1.2.1.2⟩
  · exact r_Mrestore hv (fun q1 q2 => (i7 v q1 q2).2.1) (fun _ => ⟨_, kx_c1, rfl, rfl, rfl, I0⟩) (fun q1 q2 q3 => False.elim (by omega)) (fun q1 q2 q3 μ2 z1 z2 z3 z4 z5 => False.elim (by omega))
  · rw [(i7 v a1 a2).1] at a3
    exact r_Mrestore hv (fun q1 q2 => (i7 v q1 q2).2.1) (fun q1 => False.elim (by omega)) (fun q1 q2 q3 => ⟨_, kx_c2, rfl, rfl, rfl, I0⟩) (fun q1 q2 q3 μ2 z1 z2 z3 z4 z5 => False.elim (by omega))
  · rw [(i7 v a1 a2).1] at a3
    have hk := (i7 v a1 a2).2.2 a3
    have g88 : μ1 88 = μ 88 := F1 88 (by omega)
    refine r_Mrestore hv (fun q1 q2 => by rw [g88]; exact (i7 v q1 q2).2.1) (fun q1 => False.elim (by omega)) (fun q1 q2 q3 => by rw [g88] at q3; omega) (fun q1 q2 q3 μ2 z1 z2 z3 z4 z5 => ⟨_, ⟨by omega, by omega⟩, rfl, rfl, rfl, ?_⟩)
    have e81 : μ2 81 = im μ v := by
      funext k
      by_cases e : 0 ≤ k ∧ k < 46
      · rw [z1 k e.1 e.2, F1 89 (by omega)]; unfold im; rw [if_pos e]
      · rw [z2 k (by omega), F1 81 (by omega), TN_Z N k (by omega), hz v k (by omega)]
    have w1 := hk.1.1.1
    have f : ∀ c, (c < 30 ∨ 39 < c) ∧ c ≠ 77 ∧ c ≠ 81 → μ2 c = μ c := fun c hc => by rw [z5 c (by omega) (by omega), F1 c (by omega)]
    have f7 : ∀ j, j ≠ 17 → μ2 77 j = μ 77 j := fun j hj => by rw [z4 j hj, F1 77 (by omega)]
    have g39 : μ2 39 = μ1 39 := z5 39 (by omega) (by omega)
    refine ⟨?_, ?_, ?_, ?_, ?_, ?_, ?_, ?_, ?_, ?_, ?_⟩
    · exact I_rw_fr i1 (fun c hc => f c (by omega))
    · unfold I_st at *; rw [f 1 (by omega), f7 3 (by omega)]; exact i2
    · exact I_tp_fr i3 (by rw [f 19 (by omega)]) (f7 8 (by omega)) (f 20 (by omega)) (f 83 (by omega))
    · unfold I_ft at *; rw [f 1 (by omega), f7 9 (by omega)]; exact i4
    · refine ⟨by rw [e81]; exact Or.inr ⟨hk.1.1, hz v⟩, ?_, ?_⟩
      · rw [e81]; exact TR_fr T1 (fun c c0 c1 => z5 c (by omega) (by omega))
      · unfold IT; rw [e81, f7 4 (by omega)]; exact Or.inr ⟨hk.2, w1.1⟩
    · refine ⟨fun _ => z3, h, ?_, ?_⟩
      · rw [z3]
        exact ⟨by rw [g39]; exact e5, by omega, by rw [g39, e4]; exact C.2.2.1, fun j j0 j1 => by omega⟩
      · rw [z3]
        exact ⟨z3, by omega, fun j j0 j1 => by omega⟩
    · exact I_im_fr i7 (f 88 (by omega)) (f 89 (by omega)) (f7 4 (by omega)) (fun c a b => f c (by omega))
    · exact I_tr_fr i8 (f 55 (by omega)) (f7 23 (by omega)) (f 56 (by omega)) (f 90 (by omega))
    · exact TB_fr i9 (fun c hc => f c (by omega))
    · rw [f 84 (by omega)]; exact i10
    · rw [f 104 (by omega)]; exact i11
theorem p_town : PA L sc 74 135 [] := by
  intro μ I
  have I0 := I
  obtain ⟨i1, i2, i3, i4, ⟨N, T, IT0⟩, i6, i7, i8, i9, i10, i11⟩ := I
  obtain ⟨n1, n2, n3⟩ := TN_in N
  obtain ⟨j1, h, C, M⟩ := i6
  obtain ⟨y1, y2, y3, y4⟩ := i3
  have P0 : TP μ (μ 83) (μ 77 8) := ⟨y1, y3, y4, y2⟩
  refine r_Xtown (R := ps_town (μ 83) (μ 77 8)) i9 P0 rfl (fun p s' μ1 hR S1 e1 T1 e5 e4 e19 F1 => ⟨rfl, by rw [F1 104 (by omega)]; exact i11, ?_⟩) (fun f0 q μ1 hR b1 b2 b3 b4 e9 F9 e19 F1 => ⟨rfl, by rw [F1 104 (by omega) (by omega)]; exact i11, ?_⟩)
  · have P1 : RP μ1 (μ 83) (μ 77 8) := ⟨by rw [F1 77 (by omega)], F1 83 (by omega), y4, y2⟩
    obtain ⟨W, Z⟩ := PS_W S1 e1
    refine r_Mtown (R := ps_town (μ 83) (μ 77 8)) P1 (by rw [F1 84 (by omega)]; exact i10) (by rw [F1 81 (by omega)]; exact TN_Z N) rfl (fun p2 s2 μ2 hR2 e81 z4 z17 z8 z9 K => ?_) (fun f0 q μ2 hR2 => by rw [hR] at hR2; cases hR2)
    rw [hR] at hR2
    cases hR2
    have w1 := W.1
    refine ⟨s' 1, ⟨by omega, by omega⟩, rfl, rfl, rfl, ?_⟩
    have f : ∀ c, (c < 19 ∨ c = 20 ∨ 39 < c) ∧ c ≠ 77 ∧ c ≠ 81 ∧ c ≠ 84 → μ2 c = μ c := fun c hc => by rw [K.1 c (by omega) (by omega) (by omega), F1 c (by omega)]
    have f7 : ∀ j, j < 4 ∨ j = 9 ∨ 17 < j → μ2 77 j = μ 77 j := fun j hj => by rw [z9 j hj, F1 77 (by omega)]
    have g39 : μ2 39 = μ1 39 := K.1 39 (by omega) (by omega) (by omega)
    have i3 : I_tp μ := ⟨y1, y2, y3, y4⟩
    refine ⟨?_, ?_, ?_, ?_, ?_, ?_, ?_, ?_, ?_, ?_, ?_⟩
    · exact I_rw_fr i1 (fun c hc => f c (by omega))
    · unfold I_st at *; rw [f 1 (by omega), f7 3 (by omega)]; exact i2
    · refine ⟨by rw [K.1 19 (by omega) (by omega) (by omega), e19, z8], by rw [z8]; omega, by rw [f 20 (by omega), f 83 (by omega)]; exact y3, fun u => by rw [f 83 (by omega)]; exact y4 u⟩
    · unfold I_ft at *; rw [f 1 (by omega), f7 9 (by omega)]; exact i4
    · refine ⟨by rw [e81]; exact Or.inr ⟨W, Z⟩, ?_, ?_⟩
      · rw [e81]; exact TR_fr T1 (fun c c0 c1 => K.1 c (by omega) (by omega) (by omega))
      · unfold IT; rw [e81, z4]; exact Or.inr ⟨rfl, e1⟩
    · refine ⟨fun _ => z17, h, ?_, ?_⟩
      · rw [z17]
        exact ⟨by rw [g39]; exact e5, by omega, by rw [g39, e4]; exact C.2.2.1, fun j j0 j1 => by omega⟩
      · rw [z17]
        exact ⟨z17, by omega, fun j j0 j1 => by omega⟩
    · intro k k0 k1
      have hk := i7 k k0 k1
      have ei : im μ2 k = im μ k := by unfold im; rw [f 89 (by omega)]
      rw [ei, f 88 (by omega), f 76 (by omega), z4]
      exact ⟨hk.1, hk.2.1, fun q => ⟨⟨(hk.2.2 q).1.1, TR_fr (hk.2.2 q).1.2 (fun c c0 c1 => f c (by omega))⟩, rfl⟩⟩
    · exact I_tr_fr i8 (f 55 (by omega)) (f7 23 (by omega)) (f 56 (by omega)) (f 90 (by omega))
    · exact TB_fr i9 (fun c hc => f c (by omega))
    · intro k hk; rw [K.2 k hk, F1 84 (by omega)]; exact i10 k hk
    · rw [f 104 (by omega)]; exact i11
  · have P1 : RP μ1 (μ 83) (μ 77 8) := ⟨by rw [F1 77 (by omega) (by omega)], F1 83 (by omega) (by omega), y4, y2⟩
    refine r_Mtown (R := ps_town (μ 83) (μ 77 8)) P1 (by rw [F1 84 (by omega) (by omega)]; exact i10) (by rw [F1 81 (by omega) (by omega)]; exact TN_Z N) rfl (fun p2 s2 μ2 hR2 => by rw [hR] at hR2; cases hR2) (fun f2 q2 μ2 hR2 z9 z8 f7' e81 K => ?_)
    rw [hR] at hR2
    cases hR2
    refine ⟨-1000100 - q, ⟨by omega, by omega⟩, rfl, rfl, rfl, ?_⟩
    have f : ∀ c, c ≠ 1 ∧ (c < 19 ∨ c = 20 ∨ 29 < c) ∧ c ≠ 77 ∧ c ≠ 84 → μ2 c = μ c := fun c hc => by
      by_cases e : c = 81
      · subst e; rw [e81, F1 81 (by omega) (by omega)]
      · rw [K.1 c (by omega) e (by omega), F1 c (by omega) (by omega)]
    have f1 : ∀ j, j ≠ 9 → μ2 1 j = μ 1 j := fun j hj => by rw [K.1 1 (by omega) (by omega) (by omega), F9 j hj]
    have f7 : ∀ j, j < 8 ∨ 14 < j → μ2 77 j = μ 77 j := fun j hj => by rw [f7' j hj, F1 77 (by omega) (by omega)]
    have i6 : I_ac μ := ⟨j1, h, C, M⟩
    refine ⟨?_, ?_, ?_, ?_, ?_, ?_, ?_, ?_, ?_, ?_, ?_⟩
    · exact I_rw_fr i1 (fun c hc => f c (by omega))
    · unfold I_st at *; rw [f1 10 (by omega), f7 3 (by omega)]; exact i2
    · refine ⟨by rw [K.1 19 (by omega) (by omega) (by omega), e19, z8], by rw [z8]; omega, by rw [f 20 (by omega), f 83 (by omega)]; exact y3, fun u => by rw [f 83 (by omega)]; exact y4 u⟩
    · exact ⟨by rw [K.1 1 (by omega) (by omega) (by omega), e9, z9], by rw [z9]; exact ⟨by omega, by omega⟩⟩
    · exact I_tw_fr ⟨N, T, IT0⟩ (f 81 (by omega)) (f7 4 (by omega)) (fun c a b => f c (by omega))
    · exact I_ac_fr i6 (f 81 (by omega)) (f7 17 (by omega)) (f 85 (by omega)) (fun c a b => f c (by omega))
    · exact I_im_fr i7 (f 88 (by omega)) (f 89 (by omega)) (f7 4 (by omega)) (fun c a b => f c (by omega))
    · exact I_tr_fr i8 (f 55 (by omega)) (f7 23 (by omega)) (f 56 (by omega)) (f 90 (by omega))
    · exact TB_fr i9 (fun c hc => f c (by omega))
    · intro k hk; rw [K.2 k hk, F1 84 (by omega) (by omega)]; exact i10 k hk
    · rw [f 104 (by omega)]; exact i11
end PS
