/-! the law -/
/-- the law's table, closed -/
def kt_LawW (pc : Nat) : kx_E := if pc < 1208 then kt_Law_law pc else (.nop, 1, 0, 0, 0, [])
theorem Inv_0 (xs : Nat → Int32) : Inv (kg_m xs 104) (muM xs) := by
  refine ⟨?_, ⟨rfl, (by decide : kx_in 0)⟩, ⟨rfl, (by decide : (0 : Int) ≤ 0 ∧ (0 : Int) ≤ 120), rfl, fun i => ⟨Int.le_refl 0, (by decide : (0 : Int) ≤ 255)⟩⟩, ⟨rfl, (by decide : kx_in 0)⟩, ⟨Or.inl (fun k => rfl), ?_, Or.inl ⟨rfl, rfl⟩⟩, ⟨fun _ => rfl, fun _ _ => 0, ?_, ?_⟩, ?_, ?_, ⟨rfl, rfl, rfl, rfl⟩, fun k _ => rfl, rfl⟩
  · intro r hr
    match r, hr with
    | 0, _ => exact ⟨⟨rfl, rfl⟩, ⟨Int.le_refl 0, (by decide : (0 : Int) ≤ 2)⟩, ⟨Int.le_refl (-1), (by decide : (-1 : Int) ≤ 40)⟩, fun i _ _ => ⟨rfl, (by decide : kx_in 0)⟩⟩
    | 1, _ => exact ⟨⟨rfl, rfl⟩, ⟨Int.le_refl 0, (by decide : (0 : Int) ≤ 2)⟩, ⟨Int.le_refl (-1), (by decide : (-1 : Int) ≤ 40)⟩, fun i _ _ => ⟨rfl, (by decide : kx_in 0)⟩⟩
    | 2, _ => exact ⟨⟨rfl, rfl⟩, ⟨Int.le_refl 0, (by decide : (0 : Int) ≤ 2)⟩, ⟨Int.le_refl (-1), (by decide : (-1 : Int) ≤ 40)⟩, fun i _ _ => ⟨rfl, (by decide : kx_in 0)⟩⟩
    | 3, _ => exact ⟨⟨rfl, rfl⟩, ⟨Int.le_refl 0, (by decide : (0 : Int) ≤ 2)⟩, ⟨Int.le_refl (-1), (by decide : (-1 : Int) ≤ 40)⟩, fun i _ _ => ⟨rfl, (by decide : kx_in 0)⟩⟩
    | 4, _ => exact ⟨⟨rfl, rfl⟩, ⟨Int.le_refl 0, (by decide : (0 : Int) ≤ 2)⟩, ⟨Int.le_refl (-1), (by decide : (-1 : Int) ≤ 40)⟩, fun i _ _ => ⟨rfl, (by decide : kx_in 0)⟩⟩
    | 5, _ => exact ⟨⟨rfl, rfl⟩, ⟨Int.le_refl 0, (by decide : (0 : Int) ≤ 2)⟩, ⟨Int.le_refl (-1), (by decide : (-1 : Int) ≤ 40)⟩, fun i _ _ => ⟨rfl, (by decide : kx_in 0)⟩⟩
    | 6, _ => exact ⟨⟨rfl, rfl⟩, ⟨Int.le_refl 0, (by decide : (0 : Int) ≤ 2)⟩, ⟨Int.le_refl (-1), (by decide : (-1 : Int) ≤ 40)⟩, fun i _ _ => ⟨rfl, (by decide : kx_in 0)⟩⟩
    | 7, _ => exact ⟨⟨rfl, rfl⟩, ⟨Int.le_refl 0, (by decide : (0 : Int) ≤ 2)⟩, ⟨Int.le_refl (-1), (by decide : (-1 : Int) ≤ 40)⟩, fun i _ _ => ⟨rfl, (by decide : kx_in 0)⟩⟩
    | k + 8, h => exact absurd h (by omega)
  · exact ⟨rfl, rfl, rfl, rfl, rfl, rfl, fun i i0 i1 => absurd (show i < 0 from i1) (by omega), fun k k0 k1 => absurd (show k < 0 from k1) (by omega)⟩
  · exact ⟨rfl, ⟨Int.le_refl 0, (by decide : (0 : Int) ≤ 24)⟩, ⟨Int.le_refl 0, (by decide : (0 : Int) < 24)⟩, fun j j0 j1 => absurd (show j < 0 from j1) (by omega)⟩
  · exact ⟨rfl, ⟨Int.le_refl 0, (by decide : (0 : Int) ≤ 24)⟩, fun j j0 j1 => absurd (show j < 0 from j1) (by omega)⟩
  · intro k k0 k1
    exact ⟨rfl, ⟨Int.le_refl 0, (by decide : (0 : Int) ≤ 1)⟩, fun q => absurd (show (0 : Int) = 1 from q) (by omega)⟩
  · exact ⟨rfl, ⟨Int.le_refl 0, (by decide : (0 : Int) ≤ 16)⟩, fun i i0 i1 => absurd (show i < 0 from i1) (by omega)⟩
section LW
variable {L : Nat} {sc : Int → Int} {μ : kx_M} {Q : Option kx_V → kx_G → kx_M → Prop} {i : Int}
set_option maxRecDepth 20000 in
theorem law_0 (hL : L ≤ 384) (hsc : ∀ j, kx_in (sc j)) (i0 : 0 ≤ i) (i1 : i + 6 ≤ L) (I : Inv sc μ) (t : ∀ μ', Inv sc μ' → kx_wx (ke 30) kt_LawW Q 1200 [some (kR 104), some (kR 1), some (kR 77), some (kI i)] [] (kg L) μ') : kx_wx (ke 30) kt_LawW Q 192 [some (kR 104), some (kR 1), some (kR 77), some (kI i)] [] (kg L) μ := by
  have h104 : μ 104 = sc := I.2.2.2.2.2.2.2.2.2.2
  obtain ⟨v1, G1, μ1, E1, hG, h1, v2, G2, μ2, E2, x, hx, hv1, hv2, hG2, I2⟩ := p_row (hsc (i + 1)) (hsc (i + 2)) (hsc (i + 3)) (L := L) μ I
  subst hG hv1 hv2 hG2
  refine ks_aload_n rfl rfl ?_
  refine ks_aload_n rfl rfl ?_
  refine ks_iload_n rfl rfl ?_
  refine ks_iconst rfl ?_
  refine ks_iadd rfl ?_
  refine ks_iaload7 rfl rfl (by omega) (by omega) (by (try simp only [kx_up_at, kx_row_at, up1_at, Nat.reduceEqDiff, Int.reduceEq, Int.reduceNeg, and_true, true_and, and_false, false_and, and_self, reduceIte, Nat.add_left_cancel_iff, Nat.add_eq_left, Nat.left_eq_add, Nat.reduceAdd, Int.add_left_inj, Int.add_right_inj, h104]); rfl) ?_
  refine ks_aload_n rfl rfl ?_
  refine ks_iload_n rfl rfl ?_
  refine ks_iconst rfl ?_
  refine ks_iadd rfl ?_
  refine ks_iaload7 rfl rfl (by omega) (by omega) (by (try simp only [kx_up_at, kx_row_at, up1_at, Nat.reduceEqDiff, Int.reduceEq, Int.reduceNeg, and_true, true_and, and_false, false_and, and_self, reduceIte, Nat.add_left_cancel_iff, Nat.add_eq_left, Nat.left_eq_add, Nat.reduceAdd, Int.add_left_inj, Int.add_right_inj, h104]); rfl) ?_
  refine ks_aload_n rfl rfl ?_
  refine ks_iload_n rfl rfl ?_
  refine ks_iconst rfl ?_
  refine ks_iadd rfl ?_
  refine ks_iaload7 rfl rfl (by omega) (by omega) (by (try simp only [kx_up_at, kx_row_at, up1_at, Nat.reduceEqDiff, Int.reduceEq, Int.reduceNeg, and_true, true_and, and_false, false_and, and_self, reduceIte, Nat.add_left_cancel_iff, Nat.add_eq_left, Nat.left_eq_add, Nat.reduceAdd, Int.add_left_inj, Int.add_right_inj, h104]); rfl) ?_
  refine ks_callv_4 rfl rfl rfl (Nat.le_of_ble_eq_true rfl) ?_
  -- at 208: call X_row st []
  refine ⟨_, _, _, E1, ?_⟩
  show kx_wx _ _ _ _ _ (_ :: _) _ _
  refine ks_aload_n rfl rfl ?_
  refine ks_aload_n rfl rfl ?_
  refine ks_iload_n rfl rfl ?_
  refine ks_iconst rfl ?_
  refine ks_iadd rfl ?_
  refine ks_iaload7 rfl rfl (by omega) (by omega) (by (try simp only [kx_up_at, kx_row_at, up1_at, Nat.reduceEqDiff, Int.reduceEq, Int.reduceNeg, and_true, true_and, and_false, false_and, and_self, reduceIte, Nat.add_left_cancel_iff, Nat.add_eq_left, Nat.left_eq_add, Nat.reduceAdd, Int.add_left_inj, Int.add_right_inj, h1]); rfl) ?_
  refine ks_aload_n rfl rfl ?_
  refine ks_iload_n rfl rfl ?_
  refine ks_iconst rfl ?_
  refine ks_iadd rfl ?_
  refine ks_iaload7 rfl rfl (by omega) (by omega) (by (try simp only [kx_up_at, kx_row_at, up1_at, Nat.reduceEqDiff, Int.reduceEq, Int.reduceNeg, and_true, true_and, and_false, false_and, and_self, reduceIte, Nat.add_left_cancel_iff, Nat.add_eq_left, Nat.left_eq_add, Nat.reduceAdd, Int.add_left_inj, Int.add_right_inj, h1]); rfl) ?_
  refine ks_aload_n rfl rfl ?_
  refine ks_iload_n rfl rfl ?_
  refine ks_iconst rfl ?_
  refine ks_iadd rfl ?_
  refine ks_iaload7 rfl rfl (by omega) (by omega) (by (try simp only [kx_up_at, kx_row_at, up1_at, Nat.reduceEqDiff, Int.reduceEq, Int.reduceNeg, and_true, true_and, and_false, false_and, and_self, reduceIte, Nat.add_left_cancel_iff, Nat.add_eq_left, Nat.left_eq_add, Nat.reduceAdd, Int.add_left_inj, Int.add_right_inj, h1]); rfl) ?_
  refine ks_callv_4 rfl rfl rfl (Nat.le_of_ble_eq_true rfl) ?_
  -- at 227: call M_row st [None]
  refine ⟨_, _, _, E2, ?_⟩
  show kx_wx _ _ _ _ _ (_ :: _) _ _
  refine ks_icmp_eq rfl hx hx (fun _ => ?_) (fun q => absurd rfl q)
  exact t _ I2
set_option maxRecDepth 20000 in
theorem law_1 (hL : L ≤ 384) (hsc : ∀ j, kx_in (sc j)) (i0 : 0 ≤ i) (i1 : i + 6 ≤ L) (I : Inv sc μ) (t : ∀ μ', Inv sc μ' → kx_wx (ke 30) kt_LawW Q 1200 [some (kR 104), some (kR 1), some (kR 77), some (kI i)] [] (kg L) μ') : kx_wx (ke 30) kt_LawW Q 235 [some (kR 104), some (kR 1), some (kR 77), some (kI i)] [] (kg L) μ := by
  have h104 : μ 104 = sc := I.2.2.2.2.2.2.2.2.2.2
  obtain ⟨v1, G1, μ1, E1, hG, h1, v2, G2, μ2, E2, x, hx, hv1, hv2, hG2, I2⟩ := p_set (hsc (i + 1)) (hsc (i + 2)) (hsc (i + 3)) (L := L) μ I
  subst hG hv1 hv2 hG2
  refine ks_aload_n rfl rfl ?_
  refine ks_aload_n rfl rfl ?_
  refine ks_iload_n rfl rfl ?_
  refine ks_iconst rfl ?_
  refine ks_iadd rfl ?_
  refine ks_iaload7 rfl rfl (by omega) (by omega) (by (try simp only [kx_up_at, kx_row_at, up1_at, Nat.reduceEqDiff, Int.reduceEq, Int.reduceNeg, and_true, true_and, and_false, false_and, and_self, reduceIte, Nat.add_left_cancel_iff, Nat.add_eq_left, Nat.left_eq_add, Nat.reduceAdd, Int.add_left_inj, Int.add_right_inj, h104]); rfl) ?_
  refine ks_aload_n rfl rfl ?_
  refine ks_iload_n rfl rfl ?_
  refine ks_iconst rfl ?_
  refine ks_iadd rfl ?_
  refine ks_iaload7 rfl rfl (by omega) (by omega) (by (try simp only [kx_up_at, kx_row_at, up1_at, Nat.reduceEqDiff, Int.reduceEq, Int.reduceNeg, and_true, true_and, and_false, false_and, and_self, reduceIte, Nat.add_left_cancel_iff, Nat.add_eq_left, Nat.left_eq_add, Nat.reduceAdd, Int.add_left_inj, Int.add_right_inj, h104]); rfl) ?_
  refine ks_aload_n rfl rfl ?_
  refine ks_iload_n rfl rfl ?_
  refine ks_iconst rfl ?_
  refine ks_iadd rfl ?_
  refine ks_iaload7 rfl rfl (by omega) (by omega) (by (try simp only [kx_up_at, kx_row_at, up1_at, Nat.reduceEqDiff, Int.reduceEq, Int.reduceNeg, and_true, true_and, and_false, false_and, and_self, reduceIte, Nat.add_left_cancel_iff, Nat.add_eq_left, Nat.left_eq_add, Nat.reduceAdd, Int.add_left_inj, Int.add_right_inj, h104]); rfl) ?_
  refine ks_callv_4 rfl rfl rfl (Nat.le_of_ble_eq_true rfl) ?_
  -- at 251: call X_set st []
  refine ⟨_, _, _, E1, ?_⟩
  show kx_wx _ _ _ _ _ (_ :: _) _ _
  refine ks_aload_n rfl rfl ?_
  refine ks_aload_n rfl rfl ?_
  refine ks_iload_n rfl rfl ?_
  refine ks_iconst rfl ?_
  refine ks_iadd rfl ?_
  refine ks_iaload7 rfl rfl (by omega) (by omega) (by (try simp only [kx_up_at, kx_row_at, up1_at, Nat.reduceEqDiff, Int.reduceEq, Int.reduceNeg, and_true, true_and, and_false, false_and, and_self, reduceIte, Nat.add_left_cancel_iff, Nat.add_eq_left, Nat.left_eq_add, Nat.reduceAdd, Int.add_left_inj, Int.add_right_inj, h1]); rfl) ?_
  refine ks_aload_n rfl rfl ?_
  refine ks_iload_n rfl rfl ?_
  refine ks_iconst rfl ?_
  refine ks_iadd rfl ?_
  refine ks_iaload7 rfl rfl (by omega) (by omega) (by (try simp only [kx_up_at, kx_row_at, up1_at, Nat.reduceEqDiff, Int.reduceEq, Int.reduceNeg, and_true, true_and, and_false, false_and, and_self, reduceIte, Nat.add_left_cancel_iff, Nat.add_eq_left, Nat.left_eq_add, Nat.reduceAdd, Int.add_left_inj, Int.add_right_inj, h1]); rfl) ?_
  refine ks_aload_n rfl rfl ?_
  refine ks_iload_n rfl rfl ?_
  refine ks_iconst rfl ?_
  refine ks_iadd rfl ?_
  refine ks_iaload7 rfl rfl (by omega) (by omega) (by (try simp only [kx_up_at, kx_row_at, up1_at, Nat.reduceEqDiff, Int.reduceEq, Int.reduceNeg, and_true, true_and, and_false, false_and, and_self, reduceIte, Nat.add_left_cancel_iff, Nat.add_eq_left, Nat.left_eq_add, Nat.reduceAdd, Int.add_left_inj, Int.add_right_inj, h1]); rfl) ?_
  refine ks_callv_4 rfl rfl rfl (Nat.le_of_ble_eq_true rfl) ?_
  -- at 270: call M_set st [None]
  refine ⟨_, _, _, E2, ?_⟩
  show kx_wx _ _ _ _ _ (_ :: _) _ _
  refine ks_icmp_eq rfl hx hx (fun _ => ?_) (fun q => absurd rfl q)
  exact t _ I2
set_option maxRecDepth 20000 in
theorem law_2 (hL : L ≤ 384) (hsc : ∀ j, kx_in (sc j)) (i0 : 0 ≤ i) (i1 : i + 6 ≤ L) (I : Inv sc μ) (t : ∀ μ', Inv sc μ' → kx_wx (ke 30) kt_LawW Q 1200 [some (kR 104), some (kR 1), some (kR 77), some (kI i)] [] (kg L) μ') : kx_wx (ke 30) kt_LawW Q 278 [some (kR 104), some (kR 1), some (kR 77), some (kI i)] [] (kg L) μ := by
  have h104 : μ 104 = sc := I.2.2.2.2.2.2.2.2.2.2
  obtain ⟨v1, G1, μ1, E1, hG, h1, v2, G2, μ2, E2, x, hx, hv1, hv2, hG2, I2⟩ := p_copy (hsc (i + 1)) (hsc (i + 2)) (hsc (i + 3)) (hsc (i + 4)) (hsc (i + 5)) (L := L) μ I
  subst hG hv1 hv2 hG2
  refine ks_aload_n rfl rfl ?_
  refine ks_aload_n rfl rfl ?_
  refine ks_iload_n rfl rfl ?_
  refine ks_iconst rfl ?_
  refine ks_iadd rfl ?_
  refine ks_iaload7 rfl rfl (by omega) (by omega) (by (try simp only [kx_up_at, kx_row_at, up1_at, Nat.reduceEqDiff, Int.reduceEq, Int.reduceNeg, and_true, true_and, and_false, false_and, and_self, reduceIte, Nat.add_left_cancel_iff, Nat.add_eq_left, Nat.left_eq_add, Nat.reduceAdd, Int.add_left_inj, Int.add_right_inj, h104]); rfl) ?_
  refine ks_aload_n rfl rfl ?_
  refine ks_iload_n rfl rfl ?_
  refine ks_iconst rfl ?_
  refine ks_iadd rfl ?_
  refine ks_iaload7 rfl rfl (by omega) (by omega) (by (try simp only [kx_up_at, kx_row_at, up1_at, Nat.reduceEqDiff, Int.reduceEq, Int.reduceNeg, and_true, true_and, and_false, false_and, and_self, reduceIte, Nat.add_left_cancel_iff, Nat.add_eq_left, Nat.left_eq_add, Nat.reduceAdd, Int.add_left_inj, Int.add_right_inj, h104]); rfl) ?_
  refine ks_aload_n rfl rfl ?_
  refine ks_iload_n rfl rfl ?_
  refine ks_iconst rfl ?_
  refine ks_iadd rfl ?_
  refine ks_iaload7 rfl rfl (by omega) (by omega) (by (try simp only [kx_up_at, kx_row_at, up1_at, Nat.reduceEqDiff, Int.reduceEq, Int.reduceNeg, and_true, true_and, and_false, false_and, and_self, reduceIte, Nat.add_left_cancel_iff, Nat.add_eq_left, Nat.left_eq_add, Nat.reduceAdd, Int.add_left_inj, Int.add_right_inj, h104]); rfl) ?_
  refine ks_aload_n rfl rfl ?_
  refine ks_iload_n rfl rfl ?_
  refine ks_iconst rfl ?_
  refine ks_iadd rfl ?_
  refine ks_iaload7 rfl rfl (by omega) (by omega) (by (try simp only [kx_up_at, kx_row_at, up1_at, Nat.reduceEqDiff, Int.reduceEq, Int.reduceNeg, and_true, true_and, and_false, false_and, and_self, reduceIte, Nat.add_left_cancel_iff, Nat.add_eq_left, Nat.left_eq_add, Nat.reduceAdd, Int.add_left_inj, Int.add_right_inj, h104]); rfl) ?_
  refine ks_aload_n rfl rfl ?_
  refine ks_iload_n rfl rfl ?_
  refine ks_iconst rfl ?_
  refine ks_iadd rfl ?_
  refine ks_iaload7 rfl rfl (by omega) (by omega) (by (try simp only [kx_up_at, kx_row_at, up1_at, Nat.reduceEqDiff, Int.reduceEq, Int.reduceNeg, and_true, true_and, and_false, false_and, and_self, reduceIte, Nat.add_left_cancel_iff, Nat.add_eq_left, Nat.left_eq_add, Nat.reduceAdd, Int.add_left_inj, Int.add_right_inj, h104]); rfl) ?_
  refine ks_callv_6 rfl rfl rfl (Nat.le_of_ble_eq_true rfl) ?_
  -- at 304: call X_copy st []
  refine ⟨_, _, _, E1, ?_⟩
  show kx_wx _ _ _ _ _ (_ :: _) _ _
  refine ks_aload_n rfl rfl ?_
  refine ks_aload_n rfl rfl ?_
  refine ks_iload_n rfl rfl ?_
  refine ks_iconst rfl ?_
  refine ks_iadd rfl ?_
  refine ks_iaload7 rfl rfl (by omega) (by omega) (by (try simp only [kx_up_at, kx_row_at, up1_at, Nat.reduceEqDiff, Int.reduceEq, Int.reduceNeg, and_true, true_and, and_false, false_and, and_self, reduceIte, Nat.add_left_cancel_iff, Nat.add_eq_left, Nat.left_eq_add, Nat.reduceAdd, Int.add_left_inj, Int.add_right_inj, h1]); rfl) ?_
  refine ks_aload_n rfl rfl ?_
  refine ks_iload_n rfl rfl ?_
  refine ks_iconst rfl ?_
  refine ks_iadd rfl ?_
  refine ks_iaload7 rfl rfl (by omega) (by omega) (by (try simp only [kx_up_at, kx_row_at, up1_at, Nat.reduceEqDiff, Int.reduceEq, Int.reduceNeg, and_true, true_and, and_false, false_and, and_self, reduceIte, Nat.add_left_cancel_iff, Nat.add_eq_left, Nat.left_eq_add, Nat.reduceAdd, Int.add_left_inj, Int.add_right_inj, h1]); rfl) ?_
  refine ks_aload_n rfl rfl ?_
  refine ks_iload_n rfl rfl ?_
  refine ks_iconst rfl ?_
  refine ks_iadd rfl ?_
  refine ks_iaload7 rfl rfl (by omega) (by omega) (by (try simp only [kx_up_at, kx_row_at, up1_at, Nat.reduceEqDiff, Int.reduceEq, Int.reduceNeg, and_true, true_and, and_false, false_and, and_self, reduceIte, Nat.add_left_cancel_iff, Nat.add_eq_left, Nat.left_eq_add, Nat.reduceAdd, Int.add_left_inj, Int.add_right_inj, h1]); rfl) ?_
  refine ks_aload_n rfl rfl ?_
  refine ks_iload_n rfl rfl ?_
  refine ks_iconst rfl ?_
  refine ks_iadd rfl ?_
  refine ks_iaload7 rfl rfl (by omega) (by omega) (by (try simp only [kx_up_at, kx_row_at, up1_at, Nat.reduceEqDiff, Int.reduceEq, Int.reduceNeg, and_true, true_and, and_false, false_and, and_self, reduceIte, Nat.add_left_cancel_iff, Nat.add_eq_left, Nat.left_eq_add, Nat.reduceAdd, Int.add_left_inj, Int.add_right_inj, h1]); rfl) ?_
  refine ks_aload_n rfl rfl ?_
  refine ks_iload_n rfl rfl ?_
  refine ks_iconst rfl ?_
  refine ks_iadd rfl ?_
  refine ks_iaload7 rfl rfl (by omega) (by omega) (by (try simp only [kx_up_at, kx_row_at, up1_at, Nat.reduceEqDiff, Int.reduceEq, Int.reduceNeg, and_true, true_and, and_false, false_and, and_self, reduceIte, Nat.add_left_cancel_iff, Nat.add_eq_left, Nat.left_eq_add, Nat.reduceAdd, Int.add_left_inj, Int.add_right_inj, h1]); rfl) ?_
  refine ks_callv_6 rfl rfl rfl (Nat.le_of_ble_eq_true rfl) ?_
  -- at 333: call M_copy st [None]
  refine ⟨_, _, _, E2, ?_⟩
  show kx_wx _ _ _ _ _ (_ :: _) _ _
  refine ks_icmp_eq rfl hx hx (fun _ => ?_) (fun q => absurd rfl q)
  exact t _ I2
set_option maxRecDepth 20000 in
theorem law_3 (hL : L ≤ 384) (hsc : ∀ j, kx_in (sc j)) (i0 : 0 ≤ i) (i1 : i + 6 ≤ L) (I : Inv sc μ) (t : ∀ μ', Inv sc μ' → kx_wx (ke 30) kt_LawW Q 1200 [some (kR 104), some (kR 1), some (kR 77), some (kI i)] [] (kg L) μ') : kx_wx (ke 30) kt_LawW Q 341 [some (kR 104), some (kR 1), some (kR 77), some (kI i)] [] (kg L) μ := by
  have h104 : μ 104 = sc := I.2.2.2.2.2.2.2.2.2.2
  obtain ⟨v1, G1, μ1, E1, hG, h1, v2, G2, μ2, E2, x, hx, hv1, hv2, hG2, I2⟩ := p_drop (hsc (i + 1)) (L := L) μ I
  subst hG hv1 hv2 hG2
  refine ks_aload_n rfl rfl ?_
  refine ks_aload_n rfl rfl ?_
  refine ks_iload_n rfl rfl ?_
  refine ks_iconst rfl ?_
  refine ks_iadd rfl ?_
  refine ks_iaload7 rfl rfl (by omega) (by omega) (by (try simp only [kx_up_at, kx_row_at, up1_at, Nat.reduceEqDiff, Int.reduceEq, Int.reduceNeg, and_true, true_and, and_false, false_and, and_self, reduceIte, Nat.add_left_cancel_iff, Nat.add_eq_left, Nat.left_eq_add, Nat.reduceAdd, Int.add_left_inj, Int.add_right_inj, h104]); rfl) ?_
  refine ks_callv_2 rfl rfl rfl (Nat.le_of_ble_eq_true rfl) ?_
  -- at 347: call X_drop st []
  refine ⟨_, _, _, E1, ?_⟩
  show kx_wx _ _ _ _ _ (_ :: _) _ _
  refine ks_aload_n rfl rfl ?_
  refine ks_aload_n rfl rfl ?_
  refine ks_iload_n rfl rfl ?_
  refine ks_iconst rfl ?_
  refine ks_iadd rfl ?_
  refine ks_iaload7 rfl rfl (by omega) (by omega) (by (try simp only [kx_up_at, kx_row_at, up1_at, Nat.reduceEqDiff, Int.reduceEq, Int.reduceNeg, and_true, true_and, and_false, false_and, and_self, reduceIte, Nat.add_left_cancel_iff, Nat.add_eq_left, Nat.left_eq_add, Nat.reduceAdd, Int.add_left_inj, Int.add_right_inj, h1]); rfl) ?_
  refine ks_callv_2 rfl rfl rfl (Nat.le_of_ble_eq_true rfl) ?_
  -- at 356: call M_drop st [None]
  refine ⟨_, _, _, E2, ?_⟩
  show kx_wx _ _ _ _ _ (_ :: _) _ _
  refine ks_icmp_eq rfl hx hx (fun _ => ?_) (fun q => absurd rfl q)
  exact t _ I2
set_option maxRecDepth 20000 in
theorem law_4 (hL : L ≤ 384) (hsc : ∀ j, kx_in (sc j)) (i0 : 0 ≤ i) (i1 : i + 6 ≤ L) (I : Inv sc μ) (t : ∀ μ', Inv sc μ' → kx_wx (ke 30) kt_LawW Q 1200 [some (kR 104), some (kR 1), some (kR 77), some (kI i)] [] (kg L) μ') : kx_wx (ke 30) kt_LawW Q 364 [some (kR 104), some (kR 1), some (kR 77), some (kI i)] [] (kg L) μ := by
  have h104 : μ 104 = sc := I.2.2.2.2.2.2.2.2.2.2
  obtain ⟨v1, G1, μ1, E1, hG, h1, v2, G2, μ2, E2, x, hx, hv1, hv2, hG2, I2⟩ := p_feed (hsc (i + 1)) (L := L) μ I
  subst hG hv1 hv2 hG2
  refine ks_aload_n rfl rfl ?_
  refine ks_aload_n rfl rfl ?_
  refine ks_iload_n rfl rfl ?_
  refine ks_iconst rfl ?_
  refine ks_iadd rfl ?_
  refine ks_iaload7 rfl rfl (by omega) (by omega) (by (try simp only [kx_up_at, kx_row_at, up1_at, Nat.reduceEqDiff, Int.reduceEq, Int.reduceNeg, and_true, true_and, and_false, false_and, and_self, reduceIte, Nat.add_left_cancel_iff, Nat.add_eq_left, Nat.left_eq_add, Nat.reduceAdd, Int.add_left_inj, Int.add_right_inj, h104]); rfl) ?_
  refine ks_callv_2 rfl rfl rfl (Nat.le_of_ble_eq_true rfl) ?_
  -- at 370: call X_feed st []
  refine ⟨_, _, _, E1, ?_⟩
  show kx_wx _ _ _ _ _ (_ :: _) _ _
  refine ks_aload_n rfl rfl ?_
  refine ks_aload_n rfl rfl ?_
  refine ks_iload_n rfl rfl ?_
  refine ks_iconst rfl ?_
  refine ks_iadd rfl ?_
  refine ks_iaload7 rfl rfl (by omega) (by omega) (by (try simp only [kx_up_at, kx_row_at, up1_at, Nat.reduceEqDiff, Int.reduceEq, Int.reduceNeg, and_true, true_and, and_false, false_and, and_self, reduceIte, Nat.add_left_cancel_iff, Nat.add_eq_left, Nat.left_eq_add, Nat.reduceAdd, Int.add_left_inj, Int.add_right_inj, h1]); rfl) ?_
  refine ks_callv_2 rfl rfl rfl (Nat.le_of_ble_eq_true rfl) ?_
  -- at 379: call M_feed st [None]
  refine ⟨_, _, _, E2, ?_⟩
  show kx_wx _ _ _ _ _ (_ :: _) _ _
  refine ks_icmp_eq rfl hx hx (fun _ => ?_) (fun q => absurd rfl q)
  exact t _ I2
set_option maxRecDepth 20000 in
theorem law_5 (hL : L ≤ 384) (hsc : ∀ j, kx_in (sc j)) (i0 : 0 ≤ i) (i1 : i + 6 ≤ L) (I : Inv sc μ) (t : ∀ μ', Inv sc μ' → kx_wx (ke 30) kt_LawW Q 1200 [some (kR 104), some (kR 1), some (kR 77), some (kI i)] [] (kg L) μ') : kx_wx (ke 30) kt_LawW Q 387 [some (kR 104), some (kR 1), some (kR 77), some (kI i)] [] (kg L) μ := by
  have h104 : μ 104 = sc := I.2.2.2.2.2.2.2.2.2.2
  obtain ⟨v1, G1, μ1, E1, hG, h1, v2, G2, μ2, E2, x, hx, hv1, hv2, hG2, I2⟩ := p_town  (L := L) μ I
  subst hG hv1 hv2 hG2
  refine ks_aload_n rfl rfl ?_
  refine ks_callv_1 rfl rfl rfl (Nat.le_of_ble_eq_true rfl) ?_
  -- at 388: call X_town st []
  refine ⟨_, _, _, E1, ?_⟩
  show kx_wx _ _ _ _ _ (_ :: _) _ _
  refine ks_aload_n rfl rfl ?_
  refine ks_callv_1 rfl rfl rfl (Nat.le_of_ble_eq_true rfl) ?_
  -- at 392: call M_town st [None]
  refine ⟨_, _, _, E2, ?_⟩
  show kx_wx _ _ _ _ _ (_ :: _) _ _
  refine ks_icmp_eq rfl hx hx (fun _ => ?_) (fun q => absurd rfl q)
  exact t _ I2
set_option maxRecDepth 20000 in
theorem law_6 (hL : L ≤ 384) (hsc : ∀ j, kx_in (sc j)) (i0 : 0 ≤ i) (i1 : i + 6 ≤ L) (I : Inv sc μ) (t : ∀ μ', Inv sc μ' → kx_wx (ke 30) kt_LawW Q 1200 [some (kR 104), some (kR 1), some (kR 77), some (kI i)] [] (kg L) μ') : kx_wx (ke 30) kt_LawW Q 400 [some (kR 104), some (kR 1), some (kR 77), some (kI i)] [] (kg L) μ := by
  have h104 : μ 104 = sc := I.2.2.2.2.2.2.2.2.2.2
  obtain ⟨v1, G1, μ1, E1, hG, h1, v2, G2, μ2, E2, x, hx, hv1, hv2, hG2, I2⟩ := p_fault  (L := L) μ I
  subst hG hv1 hv2 hG2
  refine ks_aload_n rfl rfl ?_
  refine ks_callv_1 rfl rfl rfl (Nat.le_of_ble_eq_true rfl) ?_
  -- at 401: call X_fault st []
  refine ⟨_, _, _, E1, ?_⟩
  show kx_wx _ _ _ _ _ (_ :: _) _ _
  refine ks_aload_n rfl rfl ?_
  refine ks_callv_1 rfl rfl rfl (Nat.le_of_ble_eq_true rfl) ?_
  -- at 405: call M_fault st [None]
  refine ⟨_, _, _, E2, ?_⟩
  show kx_wx _ _ _ _ _ (_ :: _) _ _
  refine ks_icmp_eq rfl hx hx (fun _ => ?_) (fun q => absurd rfl q)
  exact t _ I2
set_option maxRecDepth 20000 in
theorem law_7 (hL : L ≤ 384) (hsc : ∀ j, kx_in (sc j)) (i0 : 0 ≤ i) (i1 : i + 6 ≤ L) (I : Inv sc μ) (t : ∀ μ', Inv sc μ' → kx_wx (ke 30) kt_LawW Q 1200 [some (kR 104), some (kR 1), some (kR 77), some (kI i)] [] (kg L) μ') : kx_wx (ke 30) kt_LawW Q 413 [some (kR 104), some (kR 1), some (kR 77), some (kI i)] [] (kg L) μ := by
  have h104 : μ 104 = sc := I.2.2.2.2.2.2.2.2.2.2
  obtain ⟨v1, G1, μ1, E1, hG, h1, v2, G2, μ2, E2, x, hx, hv1, hv2, hG2, I2⟩ := p_steps (hsc (i + 1)) (L := L) μ I
  subst hG hv1 hv2 hG2
  refine ks_aload_n rfl rfl ?_
  refine ks_aload_n rfl rfl ?_
  refine ks_iload_n rfl rfl ?_
  refine ks_iconst rfl ?_
  refine ks_iadd rfl ?_
  refine ks_iaload7 rfl rfl (by omega) (by omega) (by (try simp only [kx_up_at, kx_row_at, up1_at, Nat.reduceEqDiff, Int.reduceEq, Int.reduceNeg, and_true, true_and, and_false, false_and, and_self, reduceIte, Nat.add_left_cancel_iff, Nat.add_eq_left, Nat.left_eq_add, Nat.reduceAdd, Int.add_left_inj, Int.add_right_inj, h104]); rfl) ?_
  refine ks_callv_2 rfl rfl rfl (Nat.le_of_ble_eq_true rfl) ?_
  -- at 419: call X_steps st []
  refine ⟨_, _, _, E1, ?_⟩
  show kx_wx _ _ _ _ _ (_ :: _) _ _
  refine ks_aload_n rfl rfl ?_
  refine ks_aload_n rfl rfl ?_
  refine ks_iload_n rfl rfl ?_
  refine ks_iconst rfl ?_
  refine ks_iadd rfl ?_
  refine ks_iaload7 rfl rfl (by omega) (by omega) (by (try simp only [kx_up_at, kx_row_at, up1_at, Nat.reduceEqDiff, Int.reduceEq, Int.reduceNeg, and_true, true_and, and_false, false_and, and_self, reduceIte, Nat.add_left_cancel_iff, Nat.add_eq_left, Nat.left_eq_add, Nat.reduceAdd, Int.add_left_inj, Int.add_right_inj, h1]); rfl) ?_
  refine ks_callv_2 rfl rfl rfl (Nat.le_of_ble_eq_true rfl) ?_
  -- at 428: call M_steps st [None]
  refine ⟨_, _, _, E2, ?_⟩
  show kx_wx _ _ _ _ _ (_ :: _) _ _
  refine ks_icmp_eq rfl hx hx (fun _ => ?_) (fun q => absurd rfl q)
  exact t _ I2
set_option maxRecDepth 20000 in
theorem law_8 (hL : L ≤ 384) (hsc : ∀ j, kx_in (sc j)) (i0 : 0 ≤ i) (i1 : i + 6 ≤ L) (I : Inv sc μ) (t : ∀ μ', Inv sc μ' → kx_wx (ke 30) kt_LawW Q 1200 [some (kR 104), some (kR 1), some (kR 77), some (kI i)] [] (kg L) μ') : kx_wx (ke 30) kt_LawW Q 436 [some (kR 104), some (kR 1), some (kR 77), some (kI i)] [] (kg L) μ := by
  have h104 : μ 104 = sc := I.2.2.2.2.2.2.2.2.2.2
  obtain ⟨v1, G1, μ1, E1, hG, h1, v2, G2, μ2, E2, x, hx, hv1, hv2, hG2, I2⟩ := p_wind (hsc (i + 1)) (L := L) μ I
  subst hG hv1 hv2 hG2
  refine ks_aload_n rfl rfl ?_
  refine ks_aload_n rfl rfl ?_
  refine ks_iload_n rfl rfl ?_
  refine ks_iconst rfl ?_
  refine ks_iadd rfl ?_
  refine ks_iaload7 rfl rfl (by omega) (by omega) (by (try simp only [kx_up_at, kx_row_at, up1_at, Nat.reduceEqDiff, Int.reduceEq, Int.reduceNeg, and_true, true_and, and_false, false_and, and_self, reduceIte, Nat.add_left_cancel_iff, Nat.add_eq_left, Nat.left_eq_add, Nat.reduceAdd, Int.add_left_inj, Int.add_right_inj, h104]); rfl) ?_
  refine ks_callv_2 rfl rfl rfl (Nat.le_of_ble_eq_true rfl) ?_
  -- at 442: call X_wind st []
  refine ⟨_, _, _, E1, ?_⟩
  show kx_wx _ _ _ _ _ (_ :: _) _ _
  refine ks_aload_n rfl rfl ?_
  refine ks_aload_n rfl rfl ?_
  refine ks_iload_n rfl rfl ?_
  refine ks_iconst rfl ?_
  refine ks_iadd rfl ?_
  refine ks_iaload7 rfl rfl (by omega) (by omega) (by (try simp only [kx_up_at, kx_row_at, up1_at, Nat.reduceEqDiff, Int.reduceEq, Int.reduceNeg, and_true, true_and, and_false, false_and, and_self, reduceIte, Nat.add_left_cancel_iff, Nat.add_eq_left, Nat.left_eq_add, Nat.reduceAdd, Int.add_left_inj, Int.add_right_inj, h1]); rfl) ?_
  refine ks_callv_2 rfl rfl rfl (Nat.le_of_ble_eq_true rfl) ?_
  -- at 451: call M_wind st [None]
  refine ⟨_, _, _, E2, ?_⟩
  show kx_wx _ _ _ _ _ (_ :: _) _ _
  refine ks_icmp_eq rfl hx hx (fun _ => ?_) (fun q => absurd rfl q)
  exact t _ I2
set_option maxRecDepth 20000 in
theorem law_9 (hL : L ≤ 384) (hsc : ∀ j, kx_in (sc j)) (i0 : 0 ≤ i) (i1 : i + 6 ≤ L) (I : Inv sc μ) (t : ∀ μ', Inv sc μ' → kx_wx (ke 30) kt_LawW Q 1200 [some (kR 104), some (kR 1), some (kR 77), some (kI i)] [] (kg L) μ') : kx_wx (ke 30) kt_LawW Q 459 [some (kR 104), some (kR 1), some (kR 77), some (kI i)] [] (kg L) μ := by
  have h104 : μ 104 = sc := I.2.2.2.2.2.2.2.2.2.2
  obtain ⟨v1, G1, μ1, E1, hG, h1, v2, G2, μ2, E2, x, hx, hv1, hv2, hG2, I2⟩ := p_give (hsc (i + 1)) (L := L) μ I
  subst hG hv1 hv2 hG2
  refine ks_aload_n rfl rfl ?_
  refine ks_aload_n rfl rfl ?_
  refine ks_iload_n rfl rfl ?_
  refine ks_iconst rfl ?_
  refine ks_iadd rfl ?_
  refine ks_iaload7 rfl rfl (by omega) (by omega) (by (try simp only [kx_up_at, kx_row_at, up1_at, Nat.reduceEqDiff, Int.reduceEq, Int.reduceNeg, and_true, true_and, and_false, false_and, and_self, reduceIte, Nat.add_left_cancel_iff, Nat.add_eq_left, Nat.left_eq_add, Nat.reduceAdd, Int.add_left_inj, Int.add_right_inj, h104]); rfl) ?_
  refine ks_callv_2 rfl rfl rfl (Nat.le_of_ble_eq_true rfl) ?_
  -- at 465: call X_give st []
  refine ⟨_, _, _, E1, ?_⟩
  show kx_wx _ _ _ _ _ (_ :: _) _ _
  refine ks_aload_n rfl rfl ?_
  refine ks_aload_n rfl rfl ?_
  refine ks_iload_n rfl rfl ?_
  refine ks_iconst rfl ?_
  refine ks_iadd rfl ?_
  refine ks_iaload7 rfl rfl (by omega) (by omega) (by (try simp only [kx_up_at, kx_row_at, up1_at, Nat.reduceEqDiff, Int.reduceEq, Int.reduceNeg, and_true, true_and, and_false, false_and, and_self, reduceIte, Nat.add_left_cancel_iff, Nat.add_eq_left, Nat.left_eq_add, Nat.reduceAdd, Int.add_left_inj, Int.add_right_inj, h1]); rfl) ?_
  refine ks_callv_2 rfl rfl rfl (Nat.le_of_ble_eq_true rfl) ?_
  -- at 474: call M_give st [None]
  refine ⟨_, _, _, E2, ?_⟩
  show kx_wx _ _ _ _ _ (_ :: _) _ _
  refine ks_icmp_eq rfl hx hx (fun _ => ?_) (fun q => absurd rfl q)
  exact t _ I2
set_option maxRecDepth 20000 in
theorem law_10 (hL : L ≤ 384) (hsc : ∀ j, kx_in (sc j)) (i0 : 0 ≤ i) (i1 : i + 6 ≤ L) (I : Inv sc μ) (t : ∀ μ', Inv sc μ' → kx_wx (ke 30) kt_LawW Q 1200 [some (kR 104), some (kR 1), some (kR 77), some (kI i)] [] (kg L) μ') : kx_wx (ke 30) kt_LawW Q 482 [some (kR 104), some (kR 1), some (kR 77), some (kI i)] [] (kg L) μ := by
  have h104 : μ 104 = sc := I.2.2.2.2.2.2.2.2.2.2
  obtain ⟨v1, G1, μ1, E1, hG, h1, v2, G2, μ2, E2, x, hx, hv1, hv2, hG2, I2⟩ := p_order (hsc (i + 1)) (L := L) μ I
  subst hG hv1 hv2 hG2
  refine ks_aload_n rfl rfl ?_
  refine ks_aload_n rfl rfl ?_
  refine ks_iload_n rfl rfl ?_
  refine ks_iconst rfl ?_
  refine ks_iadd rfl ?_
  refine ks_iaload7 rfl rfl (by omega) (by omega) (by (try simp only [kx_up_at, kx_row_at, up1_at, Nat.reduceEqDiff, Int.reduceEq, Int.reduceNeg, and_true, true_and, and_false, false_and, and_self, reduceIte, Nat.add_left_cancel_iff, Nat.add_eq_left, Nat.left_eq_add, Nat.reduceAdd, Int.add_left_inj, Int.add_right_inj, h104]); rfl) ?_
  refine ks_callv_2 rfl rfl rfl (Nat.le_of_ble_eq_true rfl) ?_
  -- at 488: call X_order st []
  refine ⟨_, _, _, E1, ?_⟩
  show kx_wx _ _ _ _ _ (_ :: _) _ _
  refine ks_aload_n rfl rfl ?_
  refine ks_aload_n rfl rfl ?_
  refine ks_iload_n rfl rfl ?_
  refine ks_iconst rfl ?_
  refine ks_iadd rfl ?_
  refine ks_iaload7 rfl rfl (by omega) (by omega) (by (try simp only [kx_up_at, kx_row_at, up1_at, Nat.reduceEqDiff, Int.reduceEq, Int.reduceNeg, and_true, true_and, and_false, false_and, and_self, reduceIte, Nat.add_left_cancel_iff, Nat.add_eq_left, Nat.left_eq_add, Nat.reduceAdd, Int.add_left_inj, Int.add_right_inj, h1]); rfl) ?_
  refine ks_callv_2 rfl rfl rfl (Nat.le_of_ble_eq_true rfl) ?_
  -- at 497: call M_order st [None]
  refine ⟨_, _, _, E2, ?_⟩
  show kx_wx _ _ _ _ _ (_ :: _) _ _
  refine ks_icmp_eq rfl hx hx (fun _ => ?_) (fun q => absurd rfl q)
  exact t _ I2
set_option maxRecDepth 20000 in
theorem law_11 (hL : L ≤ 384) (hsc : ∀ j, kx_in (sc j)) (i0 : 0 ≤ i) (i1 : i + 6 ≤ L) (I : Inv sc μ) (t : ∀ μ', Inv sc μ' → kx_wx (ke 30) kt_LawW Q 1200 [some (kR 104), some (kR 1), some (kR 77), some (kI i)] [] (kg L) μ') : kx_wx (ke 30) kt_LawW Q 505 [some (kR 104), some (kR 1), some (kR 77), some (kI i)] [] (kg L) μ := by
  have h104 : μ 104 = sc := I.2.2.2.2.2.2.2.2.2.2
  obtain ⟨v1, G1, μ1, E1, hG, h1, v2, G2, μ2, E2, x, hx, hv1, hv2, hG2, I2⟩ := p_back (hsc (i + 1)) (L := L) μ I
  subst hG hv1 hv2 hG2
  refine ks_aload_n rfl rfl ?_
  refine ks_aload_n rfl rfl ?_
  refine ks_iload_n rfl rfl ?_
  refine ks_iconst rfl ?_
  refine ks_iadd rfl ?_
  refine ks_iaload7 rfl rfl (by omega) (by omega) (by (try simp only [kx_up_at, kx_row_at, up1_at, Nat.reduceEqDiff, Int.reduceEq, Int.reduceNeg, and_true, true_and, and_false, false_and, and_self, reduceIte, Nat.add_left_cancel_iff, Nat.add_eq_left, Nat.left_eq_add, Nat.reduceAdd, Int.add_left_inj, Int.add_right_inj, h104]); rfl) ?_
  refine ks_callv_2 rfl rfl rfl (Nat.le_of_ble_eq_true rfl) ?_
  -- at 511: call X_back st []
  refine ⟨_, _, _, E1, ?_⟩
  show kx_wx _ _ _ _ _ (_ :: _) _ _
  refine ks_aload_n rfl rfl ?_
  refine ks_aload_n rfl rfl ?_
  refine ks_iload_n rfl rfl ?_
  refine ks_iconst rfl ?_
  refine ks_iadd rfl ?_
  refine ks_iaload7 rfl rfl (by omega) (by omega) (by (try simp only [kx_up_at, kx_row_at, up1_at, Nat.reduceEqDiff, Int.reduceEq, Int.reduceNeg, and_true, true_and, and_false, false_and, and_self, reduceIte, Nat.add_left_cancel_iff, Nat.add_eq_left, Nat.left_eq_add, Nat.reduceAdd, Int.add_left_inj, Int.add_right_inj, h1]); rfl) ?_
  refine ks_callv_2 rfl rfl rfl (Nat.le_of_ble_eq_true rfl) ?_
  -- at 520: call M_back st [None]
  refine ⟨_, _, _, E2, ?_⟩
  show kx_wx _ _ _ _ _ (_ :: _) _ _
  refine ks_icmp_eq rfl hx hx (fun _ => ?_) (fun q => absurd rfl q)
  exact t _ I2
set_option maxRecDepth 20000 in
theorem law_12 (hL : L ≤ 384) (hsc : ∀ j, kx_in (sc j)) (i0 : 0 ≤ i) (i1 : i + 6 ≤ L) (I : Inv sc μ) (t : ∀ μ', Inv sc μ' → kx_wx (ke 30) kt_LawW Q 1200 [some (kR 104), some (kR 1), some (kR 77), some (kI i)] [] (kg L) μ') : kx_wx (ke 30) kt_LawW Q 528 [some (kR 104), some (kR 1), some (kR 77), some (kI i)] [] (kg L) μ := by
  have h104 : μ 104 = sc := I.2.2.2.2.2.2.2.2.2.2
  obtain ⟨v1, G1, μ1, E1, hG, h1, v2, G2, μ2, E2, x, hx, hv1, hv2, hG2, I2⟩ := p_undo  (L := L) μ I
  subst hG hv1 hv2 hG2
  refine ks_aload_n rfl rfl ?_
  refine ks_callv_1 rfl rfl rfl (Nat.le_of_ble_eq_true rfl) ?_
  -- at 529: call X_undo st []
  refine ⟨_, _, _, E1, ?_⟩
  show kx_wx _ _ _ _ _ (_ :: _) _ _
  refine ks_aload_n rfl rfl ?_
  refine ks_callv_1 rfl rfl rfl (Nat.le_of_ble_eq_true rfl) ?_
  -- at 533: call M_undo st [None]
  refine ⟨_, _, _, E2, ?_⟩
  show kx_wx _ _ _ _ _ (_ :: _) _ _
  refine ks_icmp_eq rfl hx hx (fun _ => ?_) (fun q => absurd rfl q)
  exact t _ I2
set_option maxRecDepth 20000 in
theorem law_13 (hL : L ≤ 384) (hsc : ∀ j, kx_in (sc j)) (i0 : 0 ≤ i) (i1 : i + 6 ≤ L) (I : Inv sc μ) (t : ∀ μ', Inv sc μ' → kx_wx (ke 30) kt_LawW Q 1200 [some (kR 104), some (kR 1), some (kR 77), some (kI i)] [] (kg L) μ') : kx_wx (ke 30) kt_LawW Q 541 [some (kR 104), some (kR 1), some (kR 77), some (kI i)] [] (kg L) μ := by
  have h104 : μ 104 = sc := I.2.2.2.2.2.2.2.2.2.2
  obtain ⟨v1, G1, μ1, E1, hG, h1, v2, G2, μ2, E2, x, hx, hv1, hv2, hG2, I2⟩ := p_head (hsc (i + 1)) (hsc (i + 2)) (L := L) μ I
  subst hG hv1 hv2 hG2
  refine ks_aload_n rfl rfl ?_
  refine ks_aload_n rfl rfl ?_
  refine ks_iload_n rfl rfl ?_
  refine ks_iconst rfl ?_
  refine ks_iadd rfl ?_
  refine ks_iaload7 rfl rfl (by omega) (by omega) (by (try simp only [kx_up_at, kx_row_at, up1_at, Nat.reduceEqDiff, Int.reduceEq, Int.reduceNeg, and_true, true_and, and_false, false_and, and_self, reduceIte, Nat.add_left_cancel_iff, Nat.add_eq_left, Nat.left_eq_add, Nat.reduceAdd, Int.add_left_inj, Int.add_right_inj, h104]); rfl) ?_
  refine ks_aload_n rfl rfl ?_
  refine ks_iload_n rfl rfl ?_
  refine ks_iconst rfl ?_
  refine ks_iadd rfl ?_
  refine ks_iaload7 rfl rfl (by omega) (by omega) (by (try simp only [kx_up_at, kx_row_at, up1_at, Nat.reduceEqDiff, Int.reduceEq, Int.reduceNeg, and_true, true_and, and_false, false_and, and_self, reduceIte, Nat.add_left_cancel_iff, Nat.add_eq_left, Nat.left_eq_add, Nat.reduceAdd, Int.add_left_inj, Int.add_right_inj, h104]); rfl) ?_
  refine ks_callv_3 rfl rfl rfl (Nat.le_of_ble_eq_true rfl) ?_
  -- at 552: call X_head st []
  refine ⟨_, _, _, E1, ?_⟩
  show kx_wx _ _ _ _ _ (_ :: _) _ _
  refine ks_aload_n rfl rfl ?_
  refine ks_aload_n rfl rfl ?_
  refine ks_iload_n rfl rfl ?_
  refine ks_iconst rfl ?_
  refine ks_iadd rfl ?_
  refine ks_iaload7 rfl rfl (by omega) (by omega) (by (try simp only [kx_up_at, kx_row_at, up1_at, Nat.reduceEqDiff, Int.reduceEq, Int.reduceNeg, and_true, true_and, and_false, false_and, and_self, reduceIte, Nat.add_left_cancel_iff, Nat.add_eq_left, Nat.left_eq_add, Nat.reduceAdd, Int.add_left_inj, Int.add_right_inj, h1]); rfl) ?_
  refine ks_aload_n rfl rfl ?_
  refine ks_iload_n rfl rfl ?_
  refine ks_iconst rfl ?_
  refine ks_iadd rfl ?_
  refine ks_iaload7 rfl rfl (by omega) (by omega) (by (try simp only [kx_up_at, kx_row_at, up1_at, Nat.reduceEqDiff, Int.reduceEq, Int.reduceNeg, and_true, true_and, and_false, false_and, and_self, reduceIte, Nat.add_left_cancel_iff, Nat.add_eq_left, Nat.left_eq_add, Nat.reduceAdd, Int.add_left_inj, Int.add_right_inj, h1]); rfl) ?_
  refine ks_callv_3 rfl rfl rfl (Nat.le_of_ble_eq_true rfl) ?_
  -- at 566: call M_head st [None]
  refine ⟨_, _, _, E2, ?_⟩
  show kx_wx _ _ _ _ _ (_ :: _) _ _
  refine ks_icmp_eq rfl hx hx (fun _ => ?_) (fun q => absurd rfl q)
  exact t _ I2
set_option maxRecDepth 20000 in
theorem law_14 (hL : L ≤ 384) (hsc : ∀ j, kx_in (sc j)) (i0 : 0 ≤ i) (i1 : i + 6 ≤ L) (I : Inv sc μ) (t : ∀ μ', Inv sc μ' → kx_wx (ke 30) kt_LawW Q 1200 [some (kR 104), some (kR 1), some (kR 77), some (kI i)] [] (kg L) μ') : kx_wx (ke 30) kt_LawW Q 574 [some (kR 104), some (kR 1), some (kR 77), some (kI i)] [] (kg L) μ := by
  have h104 : μ 104 = sc := I.2.2.2.2.2.2.2.2.2.2
  obtain ⟨v1, G1, μ1, E1, hG, h1, v2, G2, μ2, E2, x, hx, hv1, hv2, hG2, I2⟩ := p_orderHas (hsc (i + 1)) (hsc (i + 2)) (L := L) μ I
  subst hG hv1 hv2 hG2
  refine ks_aload_n rfl rfl ?_
  refine ks_aload_n rfl rfl ?_
  refine ks_iload_n rfl rfl ?_
  refine ks_iconst rfl ?_
  refine ks_iadd rfl ?_
  refine ks_iaload7 rfl rfl (by omega) (by omega) (by (try simp only [kx_up_at, kx_row_at, up1_at, Nat.reduceEqDiff, Int.reduceEq, Int.reduceNeg, and_true, true_and, and_false, false_and, and_self, reduceIte, Nat.add_left_cancel_iff, Nat.add_eq_left, Nat.left_eq_add, Nat.reduceAdd, Int.add_left_inj, Int.add_right_inj, h104]); rfl) ?_
  refine ks_aload_n rfl rfl ?_
  refine ks_iload_n rfl rfl ?_
  refine ks_iconst rfl ?_
  refine ks_iadd rfl ?_
  refine ks_iaload7 rfl rfl (by omega) (by omega) (by (try simp only [kx_up_at, kx_row_at, up1_at, Nat.reduceEqDiff, Int.reduceEq, Int.reduceNeg, and_true, true_and, and_false, false_and, and_self, reduceIte, Nat.add_left_cancel_iff, Nat.add_eq_left, Nat.left_eq_add, Nat.reduceAdd, Int.add_left_inj, Int.add_right_inj, h104]); rfl) ?_
  refine ks_callv_3 rfl rfl rfl (Nat.le_of_ble_eq_true rfl) ?_
  -- at 585: call X_orderHas st []
  refine ⟨_, _, _, E1, ?_⟩
  show kx_wx _ _ _ _ _ (_ :: _) _ _
  refine ks_aload_n rfl rfl ?_
  refine ks_aload_n rfl rfl ?_
  refine ks_iload_n rfl rfl ?_
  refine ks_iconst rfl ?_
  refine ks_iadd rfl ?_
  refine ks_iaload7 rfl rfl (by omega) (by omega) (by (try simp only [kx_up_at, kx_row_at, up1_at, Nat.reduceEqDiff, Int.reduceEq, Int.reduceNeg, and_true, true_and, and_false, false_and, and_self, reduceIte, Nat.add_left_cancel_iff, Nat.add_eq_left, Nat.left_eq_add, Nat.reduceAdd, Int.add_left_inj, Int.add_right_inj, h1]); rfl) ?_
  refine ks_aload_n rfl rfl ?_
  refine ks_iload_n rfl rfl ?_
  refine ks_iconst rfl ?_
  refine ks_iadd rfl ?_
  refine ks_iaload7 rfl rfl (by omega) (by omega) (by (try simp only [kx_up_at, kx_row_at, up1_at, Nat.reduceEqDiff, Int.reduceEq, Int.reduceNeg, and_true, true_and, and_false, false_and, and_self, reduceIte, Nat.add_left_cancel_iff, Nat.add_eq_left, Nat.left_eq_add, Nat.reduceAdd, Int.add_left_inj, Int.add_right_inj, h1]); rfl) ?_
  refine ks_callv_3 rfl rfl rfl (Nat.le_of_ble_eq_true rfl) ?_
  -- at 599: call M_orderHas st [None]
  refine ⟨_, _, _, E2, ?_⟩
  show kx_wx _ _ _ _ _ (_ :: _) _ _
  refine ks_icmp_eq rfl hx hx (fun _ => ?_) (fun q => absurd rfl q)
  exact t _ I2
set_option maxRecDepth 20000 in
theorem law_15 (hL : L ≤ 384) (hsc : ∀ j, kx_in (sc j)) (i0 : 0 ≤ i) (i1 : i + 6 ≤ L) (I : Inv sc μ) (t : ∀ μ', Inv sc μ' → kx_wx (ke 30) kt_LawW Q 1200 [some (kR 104), some (kR 1), some (kR 77), some (kI i)] [] (kg L) μ') : kx_wx (ke 30) kt_LawW Q 607 [some (kR 104), some (kR 1), some (kR 77), some (kI i)] [] (kg L) μ := by
  have h104 : μ 104 = sc := I.2.2.2.2.2.2.2.2.2.2
  obtain ⟨v1, G1, μ1, E1, hG, h1, v2, G2, μ2, E2, x, hx, hv1, hv2, hG2, I2⟩ := p_hat (hsc (i + 1)) (L := L) μ I
  subst hG hv1 hv2 hG2
  refine ks_aload_n rfl rfl ?_
  refine ks_aload_n rfl rfl ?_
  refine ks_iload_n rfl rfl ?_
  refine ks_iconst rfl ?_
  refine ks_iadd rfl ?_
  refine ks_iaload7 rfl rfl (by omega) (by omega) (by (try simp only [kx_up_at, kx_row_at, up1_at, Nat.reduceEqDiff, Int.reduceEq, Int.reduceNeg, and_true, true_and, and_false, false_and, and_self, reduceIte, Nat.add_left_cancel_iff, Nat.add_eq_left, Nat.left_eq_add, Nat.reduceAdd, Int.add_left_inj, Int.add_right_inj, h104]); rfl) ?_
  refine ks_callv_2 rfl rfl rfl (Nat.le_of_ble_eq_true rfl) ?_
  -- at 613: call X_hat st []
  refine ⟨_, _, _, E1, ?_⟩
  show kx_wx _ _ _ _ _ (_ :: _) _ _
  refine ks_aload_n rfl rfl ?_
  refine ks_aload_n rfl rfl ?_
  refine ks_iload_n rfl rfl ?_
  refine ks_iconst rfl ?_
  refine ks_iadd rfl ?_
  refine ks_iaload7 rfl rfl (by omega) (by omega) (by (try simp only [kx_up_at, kx_row_at, up1_at, Nat.reduceEqDiff, Int.reduceEq, Int.reduceNeg, and_true, true_and, and_false, false_and, and_self, reduceIte, Nat.add_left_cancel_iff, Nat.add_eq_left, Nat.left_eq_add, Nat.reduceAdd, Int.add_left_inj, Int.add_right_inj, h1]); rfl) ?_
  refine ks_callv_2 rfl rfl rfl (Nat.le_of_ble_eq_true rfl) ?_
  -- at 622: call M_hat st [None]
  refine ⟨_, _, _, E2, ?_⟩
  show kx_wx _ _ _ _ _ (_ :: _) _ _
  refine ks_icmp_eq rfl hx hx (fun _ => ?_) (fun q => absurd rfl q)
  exact t _ I2
set_option maxRecDepth 20000 in
theorem law_16 (hL : L ≤ 384) (hsc : ∀ j, kx_in (sc j)) (i0 : 0 ≤ i) (i1 : i + 6 ≤ L) (I : Inv sc μ) (t : ∀ μ', Inv sc μ' → kx_wx (ke 30) kt_LawW Q 1200 [some (kR 104), some (kR 1), some (kR 77), some (kI i)] [] (kg L) μ') : kx_wx (ke 30) kt_LawW Q 630 [some (kR 104), some (kR 1), some (kR 77), some (kI i)] [] (kg L) μ := by
  have h104 : μ 104 = sc := I.2.2.2.2.2.2.2.2.2.2
  obtain ⟨v1, G1, μ1, E1, hG, h1, v2, G2, μ2, E2, x, hx, hv1, hv2, hG2, I2⟩ := p_who (hsc (i + 1)) (L := L) μ I
  subst hG hv1 hv2 hG2
  refine ks_aload_n rfl rfl ?_
  refine ks_aload_n rfl rfl ?_
  refine ks_iload_n rfl rfl ?_
  refine ks_iconst rfl ?_
  refine ks_iadd rfl ?_
  refine ks_iaload7 rfl rfl (by omega) (by omega) (by (try simp only [kx_up_at, kx_row_at, up1_at, Nat.reduceEqDiff, Int.reduceEq, Int.reduceNeg, and_true, true_and, and_false, false_and, and_self, reduceIte, Nat.add_left_cancel_iff, Nat.add_eq_left, Nat.left_eq_add, Nat.reduceAdd, Int.add_left_inj, Int.add_right_inj, h104]); rfl) ?_
  refine ks_callv_2 rfl rfl rfl (Nat.le_of_ble_eq_true rfl) ?_
  -- at 636: call X_who st []
  refine ⟨_, _, _, E1, ?_⟩
  show kx_wx _ _ _ _ _ (_ :: _) _ _
  refine ks_aload_n rfl rfl ?_
  refine ks_aload_n rfl rfl ?_
  refine ks_iload_n rfl rfl ?_
  refine ks_iconst rfl ?_
  refine ks_iadd rfl ?_
  refine ks_iaload7 rfl rfl (by omega) (by omega) (by (try simp only [kx_up_at, kx_row_at, up1_at, Nat.reduceEqDiff, Int.reduceEq, Int.reduceNeg, and_true, true_and, and_false, false_and, and_self, reduceIte, Nat.add_left_cancel_iff, Nat.add_eq_left, Nat.left_eq_add, Nat.reduceAdd, Int.add_left_inj, Int.add_right_inj, h1]); rfl) ?_
  refine ks_callv_2 rfl rfl rfl (Nat.le_of_ble_eq_true rfl) ?_
  -- at 645: call M_who st [None]
  refine ⟨_, _, _, E2, ?_⟩
  show kx_wx _ _ _ _ _ (_ :: _) _ _
  refine ks_icmp_eq rfl hx hx (fun _ => ?_) (fun q => absurd rfl q)
  exact t _ I2
set_option maxRecDepth 20000 in
theorem law_17 (hL : L ≤ 384) (hsc : ∀ j, kx_in (sc j)) (i0 : 0 ≤ i) (i1 : i + 6 ≤ L) (I : Inv sc μ) (t : ∀ μ', Inv sc μ' → kx_wx (ke 30) kt_LawW Q 1200 [some (kR 104), some (kR 1), some (kR 77), some (kI i)] [] (kg L) μ') : kx_wx (ke 30) kt_LawW Q 653 [some (kR 104), some (kR 1), some (kR 77), some (kI i)] [] (kg L) μ := by
  have h104 : μ 104 = sc := I.2.2.2.2.2.2.2.2.2.2
  obtain ⟨v1, G1, μ1, E1, hG, h1, v2, G2, μ2, E2, x, hx, hv1, hv2, hG2, I2⟩ := p_gets (hsc (i + 1)) (L := L) μ I
  subst hG hv1 hv2 hG2
  refine ks_aload_n rfl rfl ?_
  refine ks_aload_n rfl rfl ?_
  refine ks_iload_n rfl rfl ?_
  refine ks_iconst rfl ?_
  refine ks_iadd rfl ?_
  refine ks_iaload7 rfl rfl (by omega) (by omega) (by (try simp only [kx_up_at, kx_row_at, up1_at, Nat.reduceEqDiff, Int.reduceEq, Int.reduceNeg, and_true, true_and, and_false, false_and, and_self, reduceIte, Nat.add_left_cancel_iff, Nat.add_eq_left, Nat.left_eq_add, Nat.reduceAdd, Int.add_left_inj, Int.add_right_inj, h104]); rfl) ?_
  refine ks_callv_2 rfl rfl rfl (Nat.le_of_ble_eq_true rfl) ?_
  -- at 659: call X_gets st []
  refine ⟨_, _, _, E1, ?_⟩
  show kx_wx _ _ _ _ _ (_ :: _) _ _
  refine ks_aload_n rfl rfl ?_
  refine ks_aload_n rfl rfl ?_
  refine ks_iload_n rfl rfl ?_
  refine ks_iconst rfl ?_
  refine ks_iadd rfl ?_
  refine ks_iaload7 rfl rfl (by omega) (by omega) (by (try simp only [kx_up_at, kx_row_at, up1_at, Nat.reduceEqDiff, Int.reduceEq, Int.reduceNeg, and_true, true_and, and_false, false_and, and_self, reduceIte, Nat.add_left_cancel_iff, Nat.add_eq_left, Nat.left_eq_add, Nat.reduceAdd, Int.add_left_inj, Int.add_right_inj, h1]); rfl) ?_
  refine ks_callv_2 rfl rfl rfl (Nat.le_of_ble_eq_true rfl) ?_
  -- at 668: call M_gets st [None]
  refine ⟨_, _, _, E2, ?_⟩
  show kx_wx _ _ _ _ _ (_ :: _) _ _
  refine ks_icmp_eq rfl hx hx (fun _ => ?_) (fun q => absurd rfl q)
  exact t _ I2
set_option maxRecDepth 20000 in
theorem law_18 (hL : L ≤ 384) (hsc : ∀ j, kx_in (sc j)) (i0 : 0 ≤ i) (i1 : i + 6 ≤ L) (I : Inv sc μ) (t : ∀ μ', Inv sc μ' → kx_wx (ke 30) kt_LawW Q 1200 [some (kR 104), some (kR 1), some (kR 77), some (kI i)] [] (kg L) μ') : kx_wx (ke 30) kt_LawW Q 676 [some (kR 104), some (kR 1), some (kR 77), some (kI i)] [] (kg L) μ := by
  have h104 : μ 104 = sc := I.2.2.2.2.2.2.2.2.2.2
  obtain ⟨v1, G1, μ1, E1, hG, h1, v2, G2, μ2, E2, x, hx, hv1, hv2, hG2, I2⟩ := p_ever (hsc (i + 1)) (L := L) μ I
  subst hG hv1 hv2 hG2
  refine ks_aload_n rfl rfl ?_
  refine ks_aload_n rfl rfl ?_
  refine ks_iload_n rfl rfl ?_
  refine ks_iconst rfl ?_
  refine ks_iadd rfl ?_
  refine ks_iaload7 rfl rfl (by omega) (by omega) (by (try simp only [kx_up_at, kx_row_at, up1_at, Nat.reduceEqDiff, Int.reduceEq, Int.reduceNeg, and_true, true_and, and_false, false_and, and_self, reduceIte, Nat.add_left_cancel_iff, Nat.add_eq_left, Nat.left_eq_add, Nat.reduceAdd, Int.add_left_inj, Int.add_right_inj, h104]); rfl) ?_
  refine ks_callv_2 rfl rfl rfl (Nat.le_of_ble_eq_true rfl) ?_
  -- at 682: call X_ever st []
  refine ⟨_, _, _, E1, ?_⟩
  show kx_wx _ _ _ _ _ (_ :: _) _ _
  refine ks_aload_n rfl rfl ?_
  refine ks_aload_n rfl rfl ?_
  refine ks_iload_n rfl rfl ?_
  refine ks_iconst rfl ?_
  refine ks_iadd rfl ?_
  refine ks_iaload7 rfl rfl (by omega) (by omega) (by (try simp only [kx_up_at, kx_row_at, up1_at, Nat.reduceEqDiff, Int.reduceEq, Int.reduceNeg, and_true, true_and, and_false, false_and, and_self, reduceIte, Nat.add_left_cancel_iff, Nat.add_eq_left, Nat.left_eq_add, Nat.reduceAdd, Int.add_left_inj, Int.add_right_inj, h1]); rfl) ?_
  refine ks_callv_2 rfl rfl rfl (Nat.le_of_ble_eq_true rfl) ?_
  -- at 691: call M_ever st [None]
  refine ⟨_, _, _, E2, ?_⟩
  show kx_wx _ _ _ _ _ (_ :: _) _ _
  refine ks_icmp_eq rfl hx hx (fun _ => ?_) (fun q => absurd rfl q)
  exact t _ I2
set_option maxRecDepth 20000 in
theorem law_19 (hL : L ≤ 384) (hsc : ∀ j, kx_in (sc j)) (i0 : 0 ≤ i) (i1 : i + 6 ≤ L) (I : Inv sc μ) (t : ∀ μ', Inv sc μ' → kx_wx (ke 30) kt_LawW Q 1200 [some (kR 104), some (kR 1), some (kR 77), some (kI i)] [] (kg L) μ') : kx_wx (ke 30) kt_LawW Q 699 [some (kR 104), some (kR 1), some (kR 77), some (kI i)] [] (kg L) μ := by
  have h104 : μ 104 = sc := I.2.2.2.2.2.2.2.2.2.2
  obtain ⟨v1, G1, μ1, E1, hG, h1, v2, G2, μ2, E2, x, hx, hv1, hv2, hG2, I2⟩ := p_round (hsc (i + 1)) (L := L) μ I
  subst hG hv1 hv2 hG2
  refine ks_aload_n rfl rfl ?_
  refine ks_aload_n rfl rfl ?_
  refine ks_iload_n rfl rfl ?_
  refine ks_iconst rfl ?_
  refine ks_iadd rfl ?_
  refine ks_iaload7 rfl rfl (by omega) (by omega) (by (try simp only [kx_up_at, kx_row_at, up1_at, Nat.reduceEqDiff, Int.reduceEq, Int.reduceNeg, and_true, true_and, and_false, false_and, and_self, reduceIte, Nat.add_left_cancel_iff, Nat.add_eq_left, Nat.left_eq_add, Nat.reduceAdd, Int.add_left_inj, Int.add_right_inj, h104]); rfl) ?_
  refine ks_callv_2 rfl rfl rfl (Nat.le_of_ble_eq_true rfl) ?_
  -- at 705: call X_round st []
  refine ⟨_, _, _, E1, ?_⟩
  show kx_wx _ _ _ _ _ (_ :: _) _ _
  refine ks_aload_n rfl rfl ?_
  refine ks_aload_n rfl rfl ?_
  refine ks_iload_n rfl rfl ?_
  refine ks_iconst rfl ?_
  refine ks_iadd rfl ?_
  refine ks_iaload7 rfl rfl (by omega) (by omega) (by (try simp only [kx_up_at, kx_row_at, up1_at, Nat.reduceEqDiff, Int.reduceEq, Int.reduceNeg, and_true, true_and, and_false, false_and, and_self, reduceIte, Nat.add_left_cancel_iff, Nat.add_eq_left, Nat.left_eq_add, Nat.reduceAdd, Int.add_left_inj, Int.add_right_inj, h1]); rfl) ?_
  refine ks_callv_2 rfl rfl rfl (Nat.le_of_ble_eq_true rfl) ?_
  -- at 714: call M_round st [None]
  refine ⟨_, _, _, E2, ?_⟩
  show kx_wx _ _ _ _ _ (_ :: _) _ _
  refine ks_icmp_eq rfl hx hx (fun _ => ?_) (fun q => absurd rfl q)
  exact t _ I2
set_option maxRecDepth 20000 in
theorem law_20 (hL : L ≤ 384) (hsc : ∀ j, kx_in (sc j)) (i0 : 0 ≤ i) (i1 : i + 6 ≤ L) (I : Inv sc μ) (t : ∀ μ', Inv sc μ' → kx_wx (ke 30) kt_LawW Q 1200 [some (kR 104), some (kR 1), some (kR 77), some (kI i)] [] (kg L) μ') : kx_wx (ke 30) kt_LawW Q 722 [some (kR 104), some (kR 1), some (kR 77), some (kI i)] [] (kg L) μ := by
  have h104 : μ 104 = sc := I.2.2.2.2.2.2.2.2.2.2
  obtain ⟨v1, G1, μ1, E1, hG, h1, v2, G2, μ2, E2, x, hx, hv1, hv2, hG2, I2⟩ := p_done (hsc (i + 1)) (L := L) μ I
  subst hG hv1 hv2 hG2
  refine ks_aload_n rfl rfl ?_
  refine ks_aload_n rfl rfl ?_
  refine ks_iload_n rfl rfl ?_
  refine ks_iconst rfl ?_
  refine ks_iadd rfl ?_
  refine ks_iaload7 rfl rfl (by omega) (by omega) (by (try simp only [kx_up_at, kx_row_at, up1_at, Nat.reduceEqDiff, Int.reduceEq, Int.reduceNeg, and_true, true_and, and_false, false_and, and_self, reduceIte, Nat.add_left_cancel_iff, Nat.add_eq_left, Nat.left_eq_add, Nat.reduceAdd, Int.add_left_inj, Int.add_right_inj, h104]); rfl) ?_
  refine ks_callv_2 rfl rfl rfl (Nat.le_of_ble_eq_true rfl) ?_
  -- at 728: call X_done st []
  refine ⟨_, _, _, E1, ?_⟩
  show kx_wx _ _ _ _ _ (_ :: _) _ _
  refine ks_aload_n rfl rfl ?_
  refine ks_aload_n rfl rfl ?_
  refine ks_iload_n rfl rfl ?_
  refine ks_iconst rfl ?_
  refine ks_iadd rfl ?_
  refine ks_iaload7 rfl rfl (by omega) (by omega) (by (try simp only [kx_up_at, kx_row_at, up1_at, Nat.reduceEqDiff, Int.reduceEq, Int.reduceNeg, and_true, true_and, and_false, false_and, and_self, reduceIte, Nat.add_left_cancel_iff, Nat.add_eq_left, Nat.left_eq_add, Nat.reduceAdd, Int.add_left_inj, Int.add_right_inj, h1]); rfl) ?_
  refine ks_callv_2 rfl rfl rfl (Nat.le_of_ble_eq_true rfl) ?_
  -- at 737: call M_done st [None]
  refine ⟨_, _, _, E2, ?_⟩
  show kx_wx _ _ _ _ _ (_ :: _) _ _
  refine ks_icmp_eq rfl hx hx (fun _ => ?_) (fun q => absurd rfl q)
  exact t _ I2
set_option maxRecDepth 20000 in
theorem law_21 (hL : L ≤ 384) (hsc : ∀ j, kx_in (sc j)) (i0 : 0 ≤ i) (i1 : i + 6 ≤ L) (I : Inv sc μ) (t : ∀ μ', Inv sc μ' → kx_wx (ke 30) kt_LawW Q 1200 [some (kR 104), some (kR 1), some (kR 77), some (kI i)] [] (kg L) μ') : kx_wx (ke 30) kt_LawW Q 745 [some (kR 104), some (kR 1), some (kR 77), some (kI i)] [] (kg L) μ := by
  have h104 : μ 104 = sc := I.2.2.2.2.2.2.2.2.2.2
  obtain ⟨v1, G1, μ1, E1, hG, h1, v2, G2, μ2, E2, x, hx, hv1, hv2, hG2, I2⟩ := p_first  (L := L) μ I
  subst hG hv1 hv2 hG2
  refine ks_aload_n rfl rfl ?_
  refine ks_callv_1 rfl rfl rfl (Nat.le_of_ble_eq_true rfl) ?_
  -- at 746: call X_first st []
  refine ⟨_, _, _, E1, ?_⟩
  show kx_wx _ _ _ _ _ (_ :: _) _ _
  refine ks_aload_n rfl rfl ?_
  refine ks_callv_1 rfl rfl rfl (Nat.le_of_ble_eq_true rfl) ?_
  -- at 750: call M_first st [None]
  refine ⟨_, _, _, E2, ?_⟩
  show kx_wx _ _ _ _ _ (_ :: _) _ _
  refine ks_icmp_eq rfl hx hx (fun _ => ?_) (fun q => absurd rfl q)
  exact t _ I2
set_option maxRecDepth 20000 in
theorem law_22 (hL : L ≤ 384) (hsc : ∀ j, kx_in (sc j)) (i0 : 0 ≤ i) (i1 : i + 6 ≤ L) (I : Inv sc μ) (t : ∀ μ', Inv sc μ' → kx_wx (ke 30) kt_LawW Q 1200 [some (kR 104), some (kR 1), some (kR 77), some (kI i)] [] (kg L) μ') : kx_wx (ke 30) kt_LawW Q 758 [some (kR 104), some (kR 1), some (kR 77), some (kI i)] [] (kg L) μ := by
  have h104 : μ 104 = sc := I.2.2.2.2.2.2.2.2.2.2
  obtain ⟨v1, G1, μ1, E1, hG, h1, v2, G2, μ2, E2, x, hx, hv1, hv2, hG2, I2⟩ := p_by (hsc (i + 1)) (hsc (i + 2)) (L := L) μ I
  subst hG hv1 hv2 hG2
  refine ks_aload_n rfl rfl ?_
  refine ks_aload_n rfl rfl ?_
  refine ks_iload_n rfl rfl ?_
  refine ks_iconst rfl ?_
  refine ks_iadd rfl ?_
  refine ks_iaload7 rfl rfl (by omega) (by omega) (by (try simp only [kx_up_at, kx_row_at, up1_at, Nat.reduceEqDiff, Int.reduceEq, Int.reduceNeg, and_true, true_and, and_false, false_and, and_self, reduceIte, Nat.add_left_cancel_iff, Nat.add_eq_left, Nat.left_eq_add, Nat.reduceAdd, Int.add_left_inj, Int.add_right_inj, h104]); rfl) ?_
  refine ks_aload_n rfl rfl ?_
  refine ks_iload_n rfl rfl ?_
  refine ks_iconst rfl ?_
  refine ks_iadd rfl ?_
  refine ks_iaload7 rfl rfl (by omega) (by omega) (by (try simp only [kx_up_at, kx_row_at, up1_at, Nat.reduceEqDiff, Int.reduceEq, Int.reduceNeg, and_true, true_and, and_false, false_and, and_self, reduceIte, Nat.add_left_cancel_iff, Nat.add_eq_left, Nat.left_eq_add, Nat.reduceAdd, Int.add_left_inj, Int.add_right_inj, h104]); rfl) ?_
  refine ks_callv_3 rfl rfl rfl (Nat.le_of_ble_eq_true rfl) ?_
  -- at 769: call X_by st []
  refine ⟨_, _, _, E1, ?_⟩
  show kx_wx _ _ _ _ _ (_ :: _) _ _
  refine ks_aload_n rfl rfl ?_
  refine ks_aload_n rfl rfl ?_
  refine ks_iload_n rfl rfl ?_
  refine ks_iconst rfl ?_
  refine ks_iadd rfl ?_
  refine ks_iaload7 rfl rfl (by omega) (by omega) (by (try simp only [kx_up_at, kx_row_at, up1_at, Nat.reduceEqDiff, Int.reduceEq, Int.reduceNeg, and_true, true_and, and_false, false_and, and_self, reduceIte, Nat.add_left_cancel_iff, Nat.add_eq_left, Nat.left_eq_add, Nat.reduceAdd, Int.add_left_inj, Int.add_right_inj, h1]); rfl) ?_
  refine ks_aload_n rfl rfl ?_
  refine ks_iload_n rfl rfl ?_
  refine ks_iconst rfl ?_
  refine ks_iadd rfl ?_
  refine ks_iaload7 rfl rfl (by omega) (by omega) (by (try simp only [kx_up_at, kx_row_at, up1_at, Nat.reduceEqDiff, Int.reduceEq, Int.reduceNeg, and_true, true_and, and_false, false_and, and_self, reduceIte, Nat.add_left_cancel_iff, Nat.add_eq_left, Nat.left_eq_add, Nat.reduceAdd, Int.add_left_inj, Int.add_right_inj, h1]); rfl) ?_
  refine ks_callv_3 rfl rfl rfl (Nat.le_of_ble_eq_true rfl) ?_
  -- at 783: call M_by st [None]
  refine ⟨_, _, _, E2, ?_⟩
  show kx_wx _ _ _ _ _ (_ :: _) _ _
  refine ks_icmp_eq rfl hx hx (fun _ => ?_) (fun q => absurd rfl q)
  exact t _ I2
set_option maxRecDepth 20000 in
theorem law_23 (hL : L ≤ 384) (hsc : ∀ j, kx_in (sc j)) (i0 : 0 ≤ i) (i1 : i + 6 ≤ L) (I : Inv sc μ) (t : ∀ μ', Inv sc μ' → kx_wx (ke 30) kt_LawW Q 1200 [some (kR 104), some (kR 1), some (kR 77), some (kI i)] [] (kg L) μ') : kx_wx (ke 30) kt_LawW Q 791 [some (kR 104), some (kR 1), some (kR 77), some (kI i)] [] (kg L) μ := by
  have h104 : μ 104 = sc := I.2.2.2.2.2.2.2.2.2.2
  obtain ⟨v1, G1, μ1, E1, hG, h1, v2, G2, μ2, E2, x, hx, hv1, hv2, hG2, I2⟩ := p_toGive (hsc (i + 1)) (hsc (i + 2)) (L := L) μ I
  subst hG hv1 hv2 hG2
  refine ks_aload_n rfl rfl ?_
  refine ks_aload_n rfl rfl ?_
  refine ks_iload_n rfl rfl ?_
  refine ks_iconst rfl ?_
  refine ks_iadd rfl ?_
  refine ks_iaload7 rfl rfl (by omega) (by omega) (by (try simp only [kx_up_at, kx_row_at, up1_at, Nat.reduceEqDiff, Int.reduceEq, Int.reduceNeg, and_true, true_and, and_false, false_and, and_self, reduceIte, Nat.add_left_cancel_iff, Nat.add_eq_left, Nat.left_eq_add, Nat.reduceAdd, Int.add_left_inj, Int.add_right_inj, h104]); rfl) ?_
  refine ks_aload_n rfl rfl ?_
  refine ks_iload_n rfl rfl ?_
  refine ks_iconst rfl ?_
  refine ks_iadd rfl ?_
  refine ks_iaload7 rfl rfl (by omega) (by omega) (by (try simp only [kx_up_at, kx_row_at, up1_at, Nat.reduceEqDiff, Int.reduceEq, Int.reduceNeg, and_true, true_and, and_false, false_and, and_self, reduceIte, Nat.add_left_cancel_iff, Nat.add_eq_left, Nat.left_eq_add, Nat.reduceAdd, Int.add_left_inj, Int.add_right_inj, h104]); rfl) ?_
  refine ks_callv_3 rfl rfl rfl (Nat.le_of_ble_eq_true rfl) ?_
  -- at 802: call X_toGive st []
  refine ⟨_, _, _, E1, ?_⟩
  show kx_wx _ _ _ _ _ (_ :: _) _ _
  refine ks_aload_n rfl rfl ?_
  refine ks_aload_n rfl rfl ?_
  refine ks_iload_n rfl rfl ?_
  refine ks_iconst rfl ?_
  refine ks_iadd rfl ?_
  refine ks_iaload7 rfl rfl (by omega) (by omega) (by (try simp only [kx_up_at, kx_row_at, up1_at, Nat.reduceEqDiff, Int.reduceEq, Int.reduceNeg, and_true, true_and, and_false, false_and, and_self, reduceIte, Nat.add_left_cancel_iff, Nat.add_eq_left, Nat.left_eq_add, Nat.reduceAdd, Int.add_left_inj, Int.add_right_inj, h1]); rfl) ?_
  refine ks_aload_n rfl rfl ?_
  refine ks_iload_n rfl rfl ?_
  refine ks_iconst rfl ?_
  refine ks_iadd rfl ?_
  refine ks_iaload7 rfl rfl (by omega) (by omega) (by (try simp only [kx_up_at, kx_row_at, up1_at, Nat.reduceEqDiff, Int.reduceEq, Int.reduceNeg, and_true, true_and, and_false, false_and, and_self, reduceIte, Nat.add_left_cancel_iff, Nat.add_eq_left, Nat.left_eq_add, Nat.reduceAdd, Int.add_left_inj, Int.add_right_inj, h1]); rfl) ?_
  refine ks_callv_3 rfl rfl rfl (Nat.le_of_ble_eq_true rfl) ?_
  -- at 816: call M_toGive st [None]
  refine ⟨_, _, _, E2, ?_⟩
  show kx_wx _ _ _ _ _ (_ :: _) _ _
  refine ks_icmp_eq rfl hx hx (fun _ => ?_) (fun q => absurd rfl q)
  exact t _ I2
set_option maxRecDepth 20000 in
theorem law_24 (hL : L ≤ 384) (hsc : ∀ j, kx_in (sc j)) (i0 : 0 ≤ i) (i1 : i + 6 ≤ L) (I : Inv sc μ) (t : ∀ μ', Inv sc μ' → kx_wx (ke 30) kt_LawW Q 1200 [some (kR 104), some (kR 1), some (kR 77), some (kI i)] [] (kg L) μ') : kx_wx (ke 30) kt_LawW Q 824 [some (kR 104), some (kR 1), some (kR 77), some (kI i)] [] (kg L) μ := by
  have h104 : μ 104 = sc := I.2.2.2.2.2.2.2.2.2.2
  obtain ⟨v1, G1, μ1, E1, hG, h1, v2, G2, μ2, E2, x, hx, hv1, hv2, hG2, I2⟩ := p_winds (hsc (i + 1)) (hsc (i + 2)) (L := L) μ I
  subst hG hv1 hv2 hG2
  refine ks_aload_n rfl rfl ?_
  refine ks_aload_n rfl rfl ?_
  refine ks_iload_n rfl rfl ?_
  refine ks_iconst rfl ?_
  refine ks_iadd rfl ?_
  refine ks_iaload7 rfl rfl (by omega) (by omega) (by (try simp only [kx_up_at, kx_row_at, up1_at, Nat.reduceEqDiff, Int.reduceEq, Int.reduceNeg, and_true, true_and, and_false, false_and, and_self, reduceIte, Nat.add_left_cancel_iff, Nat.add_eq_left, Nat.left_eq_add, Nat.reduceAdd, Int.add_left_inj, Int.add_right_inj, h104]); rfl) ?_
  refine ks_aload_n rfl rfl ?_
  refine ks_iload_n rfl rfl ?_
  refine ks_iconst rfl ?_
  refine ks_iadd rfl ?_
  refine ks_iaload7 rfl rfl (by omega) (by omega) (by (try simp only [kx_up_at, kx_row_at, up1_at, Nat.reduceEqDiff, Int.reduceEq, Int.reduceNeg, and_true, true_and, and_false, false_and, and_self, reduceIte, Nat.add_left_cancel_iff, Nat.add_eq_left, Nat.left_eq_add, Nat.reduceAdd, Int.add_left_inj, Int.add_right_inj, h104]); rfl) ?_
  refine ks_callv_3 rfl rfl rfl (Nat.le_of_ble_eq_true rfl) ?_
  -- at 835: call X_winds st []
  refine ⟨_, _, _, E1, ?_⟩
  show kx_wx _ _ _ _ _ (_ :: _) _ _
  refine ks_aload_n rfl rfl ?_
  refine ks_aload_n rfl rfl ?_
  refine ks_iload_n rfl rfl ?_
  refine ks_iconst rfl ?_
  refine ks_iadd rfl ?_
  refine ks_iaload7 rfl rfl (by omega) (by omega) (by (try simp only [kx_up_at, kx_row_at, up1_at, Nat.reduceEqDiff, Int.reduceEq, Int.reduceNeg, and_true, true_and, and_false, false_and, and_self, reduceIte, Nat.add_left_cancel_iff, Nat.add_eq_left, Nat.left_eq_add, Nat.reduceAdd, Int.add_left_inj, Int.add_right_inj, h1]); rfl) ?_
  refine ks_aload_n rfl rfl ?_
  refine ks_iload_n rfl rfl ?_
  refine ks_iconst rfl ?_
  refine ks_iadd rfl ?_
  refine ks_iaload7 rfl rfl (by omega) (by omega) (by (try simp only [kx_up_at, kx_row_at, up1_at, Nat.reduceEqDiff, Int.reduceEq, Int.reduceNeg, and_true, true_and, and_false, false_and, and_self, reduceIte, Nat.add_left_cancel_iff, Nat.add_eq_left, Nat.left_eq_add, Nat.reduceAdd, Int.add_left_inj, Int.add_right_inj, h1]); rfl) ?_
  refine ks_callv_3 rfl rfl rfl (Nat.le_of_ble_eq_true rfl) ?_
  -- at 849: call M_winds st [None]
  refine ⟨_, _, _, E2, ?_⟩
  show kx_wx _ _ _ _ _ (_ :: _) _ _
  refine ks_icmp_eq rfl hx hx (fun _ => ?_) (fun q => absurd rfl q)
  exact t _ I2
set_option maxRecDepth 20000 in
theorem law_25 (hL : L ≤ 384) (hsc : ∀ j, kx_in (sc j)) (i0 : 0 ≤ i) (i1 : i + 6 ≤ L) (I : Inv sc μ) (t : ∀ μ', Inv sc μ' → kx_wx (ke 30) kt_LawW Q 1200 [some (kR 104), some (kR 1), some (kR 77), some (kI i)] [] (kg L) μ') : kx_wx (ke 30) kt_LawW Q 857 [some (kR 104), some (kR 1), some (kR 77), some (kI i)] [] (kg L) μ := by
  have h104 : μ 104 = sc := I.2.2.2.2.2.2.2.2.2.2
  obtain ⟨v1, G1, μ1, E1, hG, h1, v2, G2, μ2, E2, x, hx, hv1, hv2, hG2, I2⟩ := p_lot (hsc (i + 1)) (hsc (i + 2)) (hsc (i + 3)) (L := L) μ I
  subst hG hv1 hv2 hG2
  refine ks_aload_n rfl rfl ?_
  refine ks_aload_n rfl rfl ?_
  refine ks_iload_n rfl rfl ?_
  refine ks_iconst rfl ?_
  refine ks_iadd rfl ?_
  refine ks_iaload7 rfl rfl (by omega) (by omega) (by (try simp only [kx_up_at, kx_row_at, up1_at, Nat.reduceEqDiff, Int.reduceEq, Int.reduceNeg, and_true, true_and, and_false, false_and, and_self, reduceIte, Nat.add_left_cancel_iff, Nat.add_eq_left, Nat.left_eq_add, Nat.reduceAdd, Int.add_left_inj, Int.add_right_inj, h104]); rfl) ?_
  refine ks_aload_n rfl rfl ?_
  refine ks_iload_n rfl rfl ?_
  refine ks_iconst rfl ?_
  refine ks_iadd rfl ?_
  refine ks_iaload7 rfl rfl (by omega) (by omega) (by (try simp only [kx_up_at, kx_row_at, up1_at, Nat.reduceEqDiff, Int.reduceEq, Int.reduceNeg, and_true, true_and, and_false, false_and, and_self, reduceIte, Nat.add_left_cancel_iff, Nat.add_eq_left, Nat.left_eq_add, Nat.reduceAdd, Int.add_left_inj, Int.add_right_inj, h104]); rfl) ?_
  refine ks_aload_n rfl rfl ?_
  refine ks_iload_n rfl rfl ?_
  refine ks_iconst rfl ?_
  refine ks_iadd rfl ?_
  refine ks_iaload7 rfl rfl (by omega) (by omega) (by (try simp only [kx_up_at, kx_row_at, up1_at, Nat.reduceEqDiff, Int.reduceEq, Int.reduceNeg, and_true, true_and, and_false, false_and, and_self, reduceIte, Nat.add_left_cancel_iff, Nat.add_eq_left, Nat.left_eq_add, Nat.reduceAdd, Int.add_left_inj, Int.add_right_inj, h104]); rfl) ?_
  refine ks_callv_4 rfl rfl rfl (Nat.le_of_ble_eq_true rfl) ?_
  -- at 873: call X_lot st []
  refine ⟨_, _, _, E1, ?_⟩
  show kx_wx _ _ _ _ _ (_ :: _) _ _
  refine ks_aload_n rfl rfl ?_
  refine ks_aload_n rfl rfl ?_
  refine ks_iload_n rfl rfl ?_
  refine ks_iconst rfl ?_
  refine ks_iadd rfl ?_
  refine ks_iaload7 rfl rfl (by omega) (by omega) (by (try simp only [kx_up_at, kx_row_at, up1_at, Nat.reduceEqDiff, Int.reduceEq, Int.reduceNeg, and_true, true_and, and_false, false_and, and_self, reduceIte, Nat.add_left_cancel_iff, Nat.add_eq_left, Nat.left_eq_add, Nat.reduceAdd, Int.add_left_inj, Int.add_right_inj, h1]); rfl) ?_
  refine ks_aload_n rfl rfl ?_
  refine ks_iload_n rfl rfl ?_
  refine ks_iconst rfl ?_
  refine ks_iadd rfl ?_
  refine ks_iaload7 rfl rfl (by omega) (by omega) (by (try simp only [kx_up_at, kx_row_at, up1_at, Nat.reduceEqDiff, Int.reduceEq, Int.reduceNeg, and_true, true_and, and_false, false_and, and_self, reduceIte, Nat.add_left_cancel_iff, Nat.add_eq_left, Nat.left_eq_add, Nat.reduceAdd, Int.add_left_inj, Int.add_right_inj, h1]); rfl) ?_
  refine ks_aload_n rfl rfl ?_
  refine ks_iload_n rfl rfl ?_
  refine ks_iconst rfl ?_
  refine ks_iadd rfl ?_
  refine ks_iaload7 rfl rfl (by omega) (by omega) (by (try simp only [kx_up_at, kx_row_at, up1_at, Nat.reduceEqDiff, Int.reduceEq, Int.reduceNeg, and_true, true_and, and_false, false_and, and_self, reduceIte, Nat.add_left_cancel_iff, Nat.add_eq_left, Nat.left_eq_add, Nat.reduceAdd, Int.add_left_inj, Int.add_right_inj, h1]); rfl) ?_
  refine ks_callv_4 rfl rfl rfl (Nat.le_of_ble_eq_true rfl) ?_
  -- at 892: call M_lot st [None]
  refine ⟨_, _, _, E2, ?_⟩
  show kx_wx _ _ _ _ _ (_ :: _) _ _
  refine ks_icmp_eq rfl hx hx (fun _ => ?_) (fun q => absurd rfl q)
  exact t _ I2
set_option maxRecDepth 20000 in
theorem law_26 (hL : L ≤ 384) (hsc : ∀ j, kx_in (sc j)) (i0 : 0 ≤ i) (i1 : i + 6 ≤ L) (I : Inv sc μ) (t : ∀ μ', Inv sc μ' → kx_wx (ke 30) kt_LawW Q 1200 [some (kR 104), some (kR 1), some (kR 77), some (kI i)] [] (kg L) μ') : kx_wx (ke 30) kt_LawW Q 900 [some (kR 104), some (kR 1), some (kR 77), some (kI i)] [] (kg L) μ := by
  have h104 : μ 104 = sc := I.2.2.2.2.2.2.2.2.2.2
  obtain ⟨v1, G1, μ1, E1, hG, h1, v2, G2, μ2, E2, x, hx, hv1, hv2, hG2, I2⟩ := p_seen (hsc (i + 1)) (hsc (i + 2)) (hsc (i + 3)) (hsc (i + 4)) (L := L) μ I
  subst hG hv1 hv2 hG2
  refine ks_aload_n rfl rfl ?_
  refine ks_aload_n rfl rfl ?_
  refine ks_iload_n rfl rfl ?_
  refine ks_iconst rfl ?_
  refine ks_iadd rfl ?_
  refine ks_iaload7 rfl rfl (by omega) (by omega) (by (try simp only [kx_up_at, kx_row_at, up1_at, Nat.reduceEqDiff, Int.reduceEq, Int.reduceNeg, and_true, true_and, and_false, false_and, and_self, reduceIte, Nat.add_left_cancel_iff, Nat.add_eq_left, Nat.left_eq_add, Nat.reduceAdd, Int.add_left_inj, Int.add_right_inj, h104]); rfl) ?_
  refine ks_aload_n rfl rfl ?_
  refine ks_iload_n rfl rfl ?_
  refine ks_iconst rfl ?_
  refine ks_iadd rfl ?_
  refine ks_iaload7 rfl rfl (by omega) (by omega) (by (try simp only [kx_up_at, kx_row_at, up1_at, Nat.reduceEqDiff, Int.reduceEq, Int.reduceNeg, and_true, true_and, and_false, false_and, and_self, reduceIte, Nat.add_left_cancel_iff, Nat.add_eq_left, Nat.left_eq_add, Nat.reduceAdd, Int.add_left_inj, Int.add_right_inj, h104]); rfl) ?_
  refine ks_aload_n rfl rfl ?_
  refine ks_iload_n rfl rfl ?_
  refine ks_iconst rfl ?_
  refine ks_iadd rfl ?_
  refine ks_iaload7 rfl rfl (by omega) (by omega) (by (try simp only [kx_up_at, kx_row_at, up1_at, Nat.reduceEqDiff, Int.reduceEq, Int.reduceNeg, and_true, true_and, and_false, false_and, and_self, reduceIte, Nat.add_left_cancel_iff, Nat.add_eq_left, Nat.left_eq_add, Nat.reduceAdd, Int.add_left_inj, Int.add_right_inj, h104]); rfl) ?_
  refine ks_aload_n rfl rfl ?_
  refine ks_iload_n rfl rfl ?_
  refine ks_iconst rfl ?_
  refine ks_iadd rfl ?_
  refine ks_iaload7 rfl rfl (by omega) (by omega) (by (try simp only [kx_up_at, kx_row_at, up1_at, Nat.reduceEqDiff, Int.reduceEq, Int.reduceNeg, and_true, true_and, and_false, false_and, and_self, reduceIte, Nat.add_left_cancel_iff, Nat.add_eq_left, Nat.left_eq_add, Nat.reduceAdd, Int.add_left_inj, Int.add_right_inj, h104]); rfl) ?_
  refine ks_callv_5 rfl rfl rfl (Nat.le_of_ble_eq_true rfl) ?_
  -- at 921: call X_seen st []
  refine ⟨_, _, _, E1, ?_⟩
  show kx_wx _ _ _ _ _ (_ :: _) _ _
  refine ks_aload_n rfl rfl ?_
  refine ks_aload_n rfl rfl ?_
  refine ks_iload_n rfl rfl ?_
  refine ks_iconst rfl ?_
  refine ks_iadd rfl ?_
  refine ks_iaload7 rfl rfl (by omega) (by omega) (by (try simp only [kx_up_at, kx_row_at, up1_at, Nat.reduceEqDiff, Int.reduceEq, Int.reduceNeg, and_true, true_and, and_false, false_and, and_self, reduceIte, Nat.add_left_cancel_iff, Nat.add_eq_left, Nat.left_eq_add, Nat.reduceAdd, Int.add_left_inj, Int.add_right_inj, h1]); rfl) ?_
  refine ks_aload_n rfl rfl ?_
  refine ks_iload_n rfl rfl ?_
  refine ks_iconst rfl ?_
  refine ks_iadd rfl ?_
  refine ks_iaload7 rfl rfl (by omega) (by omega) (by (try simp only [kx_up_at, kx_row_at, up1_at, Nat.reduceEqDiff, Int.reduceEq, Int.reduceNeg, and_true, true_and, and_false, false_and, and_self, reduceIte, Nat.add_left_cancel_iff, Nat.add_eq_left, Nat.left_eq_add, Nat.reduceAdd, Int.add_left_inj, Int.add_right_inj, h1]); rfl) ?_
  refine ks_aload_n rfl rfl ?_
  refine ks_iload_n rfl rfl ?_
  refine ks_iconst rfl ?_
  refine ks_iadd rfl ?_
  refine ks_iaload7 rfl rfl (by omega) (by omega) (by (try simp only [kx_up_at, kx_row_at, up1_at, Nat.reduceEqDiff, Int.reduceEq, Int.reduceNeg, and_true, true_and, and_false, false_and, and_self, reduceIte, Nat.add_left_cancel_iff, Nat.add_eq_left, Nat.left_eq_add, Nat.reduceAdd, Int.add_left_inj, Int.add_right_inj, h1]); rfl) ?_
  refine ks_aload_n rfl rfl ?_
  refine ks_iload_n rfl rfl ?_
  refine ks_iconst rfl ?_
  refine ks_iadd rfl ?_
  refine ks_iaload7 rfl rfl (by omega) (by omega) (by (try simp only [kx_up_at, kx_row_at, up1_at, Nat.reduceEqDiff, Int.reduceEq, Int.reduceNeg, and_true, true_and, and_false, false_and, and_self, reduceIte, Nat.add_left_cancel_iff, Nat.add_eq_left, Nat.left_eq_add, Nat.reduceAdd, Int.add_left_inj, Int.add_right_inj, h1]); rfl) ?_
  refine ks_callv_5 rfl rfl rfl (Nat.le_of_ble_eq_true rfl) ?_
  -- at 945: call M_seen st [None]
  refine ⟨_, _, _, E2, ?_⟩
  show kx_wx _ _ _ _ _ (_ :: _) _ _
  refine ks_icmp_eq rfl hx hx (fun _ => ?_) (fun q => absurd rfl q)
  exact t _ I2
set_option maxRecDepth 20000 in
theorem law_27 (hL : L ≤ 384) (hsc : ∀ j, kx_in (sc j)) (i0 : 0 ≤ i) (i1 : i + 6 ≤ L) (I : Inv sc μ) (t : ∀ μ', Inv sc μ' → kx_wx (ke 30) kt_LawW Q 1200 [some (kR 104), some (kR 1), some (kR 77), some (kI i)] [] (kg L) μ') : kx_wx (ke 30) kt_LawW Q 953 [some (kR 104), some (kR 1), some (kR 77), some (kI i)] [] (kg L) μ := by
  have h104 : μ 104 = sc := I.2.2.2.2.2.2.2.2.2.2
  obtain ⟨v1, G1, μ1, E1, hG, h1, v2, G2, μ2, E2, x, hx, hv1, hv2, hG2, I2⟩ := p_keeps (hsc (i + 1)) (hsc (i + 2)) (hsc (i + 3)) (hsc (i + 4)) (L := L) μ I
  subst hG hv1 hv2 hG2
  refine ks_aload_n rfl rfl ?_
  refine ks_aload_n rfl rfl ?_
  refine ks_iload_n rfl rfl ?_
  refine ks_iconst rfl ?_
  refine ks_iadd rfl ?_
  refine ks_iaload7 rfl rfl (by omega) (by omega) (by (try simp only [kx_up_at, kx_row_at, up1_at, Nat.reduceEqDiff, Int.reduceEq, Int.reduceNeg, and_true, true_and, and_false, false_and, and_self, reduceIte, Nat.add_left_cancel_iff, Nat.add_eq_left, Nat.left_eq_add, Nat.reduceAdd, Int.add_left_inj, Int.add_right_inj, h104]); rfl) ?_
  refine ks_aload_n rfl rfl ?_
  refine ks_iload_n rfl rfl ?_
  refine ks_iconst rfl ?_
  refine ks_iadd rfl ?_
  refine ks_iaload7 rfl rfl (by omega) (by omega) (by (try simp only [kx_up_at, kx_row_at, up1_at, Nat.reduceEqDiff, Int.reduceEq, Int.reduceNeg, and_true, true_and, and_false, false_and, and_self, reduceIte, Nat.add_left_cancel_iff, Nat.add_eq_left, Nat.left_eq_add, Nat.reduceAdd, Int.add_left_inj, Int.add_right_inj, h104]); rfl) ?_
  refine ks_aload_n rfl rfl ?_
  refine ks_iload_n rfl rfl ?_
  refine ks_iconst rfl ?_
  refine ks_iadd rfl ?_
  refine ks_iaload7 rfl rfl (by omega) (by omega) (by (try simp only [kx_up_at, kx_row_at, up1_at, Nat.reduceEqDiff, Int.reduceEq, Int.reduceNeg, and_true, true_and, and_false, false_and, and_self, reduceIte, Nat.add_left_cancel_iff, Nat.add_eq_left, Nat.left_eq_add, Nat.reduceAdd, Int.add_left_inj, Int.add_right_inj, h104]); rfl) ?_
  refine ks_aload_n rfl rfl ?_
  refine ks_iload_n rfl rfl ?_
  refine ks_iconst rfl ?_
  refine ks_iadd rfl ?_
  refine ks_iaload7 rfl rfl (by omega) (by omega) (by (try simp only [kx_up_at, kx_row_at, up1_at, Nat.reduceEqDiff, Int.reduceEq, Int.reduceNeg, and_true, true_and, and_false, false_and, and_self, reduceIte, Nat.add_left_cancel_iff, Nat.add_eq_left, Nat.left_eq_add, Nat.reduceAdd, Int.add_left_inj, Int.add_right_inj, h104]); rfl) ?_
  refine ks_callv_5 rfl rfl rfl (Nat.le_of_ble_eq_true rfl) ?_
  -- at 974: call X_keeps st []
  refine ⟨_, _, _, E1, ?_⟩
  show kx_wx _ _ _ _ _ (_ :: _) _ _
  refine ks_aload_n rfl rfl ?_
  refine ks_aload_n rfl rfl ?_
  refine ks_iload_n rfl rfl ?_
  refine ks_iconst rfl ?_
  refine ks_iadd rfl ?_
  refine ks_iaload7 rfl rfl (by omega) (by omega) (by (try simp only [kx_up_at, kx_row_at, up1_at, Nat.reduceEqDiff, Int.reduceEq, Int.reduceNeg, and_true, true_and, and_false, false_and, and_self, reduceIte, Nat.add_left_cancel_iff, Nat.add_eq_left, Nat.left_eq_add, Nat.reduceAdd, Int.add_left_inj, Int.add_right_inj, h1]); rfl) ?_
  refine ks_aload_n rfl rfl ?_
  refine ks_iload_n rfl rfl ?_
  refine ks_iconst rfl ?_
  refine ks_iadd rfl ?_
  refine ks_iaload7 rfl rfl (by omega) (by omega) (by (try simp only [kx_up_at, kx_row_at, up1_at, Nat.reduceEqDiff, Int.reduceEq, Int.reduceNeg, and_true, true_and, and_false, false_and, and_self, reduceIte, Nat.add_left_cancel_iff, Nat.add_eq_left, Nat.left_eq_add, Nat.reduceAdd, Int.add_left_inj, Int.add_right_inj, h1]); rfl) ?_
  refine ks_aload_n rfl rfl ?_
  refine ks_iload_n rfl rfl ?_
  refine ks_iconst rfl ?_
  refine ks_iadd rfl ?_
  refine ks_iaload7 rfl rfl (by omega) (by omega) (by (try simp only [kx_up_at, kx_row_at, up1_at, Nat.reduceEqDiff, Int.reduceEq, Int.reduceNeg, and_true, true_and, and_false, false_and, and_self, reduceIte, Nat.add_left_cancel_iff, Nat.add_eq_left, Nat.left_eq_add, Nat.reduceAdd, Int.add_left_inj, Int.add_right_inj, h1]); rfl) ?_
  refine ks_aload_n rfl rfl ?_
  refine ks_iload_n rfl rfl ?_
  refine ks_iconst rfl ?_
  refine ks_iadd rfl ?_
  refine ks_iaload7 rfl rfl (by omega) (by omega) (by (try simp only [kx_up_at, kx_row_at, up1_at, Nat.reduceEqDiff, Int.reduceEq, Int.reduceNeg, and_true, true_and, and_false, false_and, and_self, reduceIte, Nat.add_left_cancel_iff, Nat.add_eq_left, Nat.left_eq_add, Nat.reduceAdd, Int.add_left_inj, Int.add_right_inj, h1]); rfl) ?_
  refine ks_callv_5 rfl rfl rfl (Nat.le_of_ble_eq_true rfl) ?_
  -- at 998: call M_keeps st [None]
  refine ⟨_, _, _, E2, ?_⟩
  show kx_wx _ _ _ _ _ (_ :: _) _ _
  refine ks_icmp_eq rfl hx hx (fun _ => ?_) (fun q => absurd rfl q)
  exact t _ I2
set_option maxRecDepth 20000 in
theorem law_28 (hL : L ≤ 384) (hsc : ∀ j, kx_in (sc j)) (i0 : 0 ≤ i) (i1 : i + 6 ≤ L) (I : Inv sc μ) (t : ∀ μ', Inv sc μ' → kx_wx (ke 30) kt_LawW Q 1200 [some (kR 104), some (kR 1), some (kR 77), some (kI i)] [] (kg L) μ') : kx_wx (ke 30) kt_LawW Q 1006 [some (kR 104), some (kR 1), some (kR 77), some (kI i)] [] (kg L) μ := by
  have h104 : μ 104 = sc := I.2.2.2.2.2.2.2.2.2.2
  obtain ⟨v1, G1, μ1, E1, hG, h1, v2, G2, μ2, E2, x, hx, hv1, hv2, hG2, I2⟩ := p_image (hsc (i + 1)) (L := L) μ I
  subst hG hv1 hv2 hG2
  refine ks_aload_n rfl rfl ?_
  refine ks_aload_n rfl rfl ?_
  refine ks_iload_n rfl rfl ?_
  refine ks_iconst rfl ?_
  refine ks_iadd rfl ?_
  refine ks_iaload7 rfl rfl (by omega) (by omega) (by (try simp only [kx_up_at, kx_row_at, up1_at, Nat.reduceEqDiff, Int.reduceEq, Int.reduceNeg, and_true, true_and, and_false, false_and, and_self, reduceIte, Nat.add_left_cancel_iff, Nat.add_eq_left, Nat.left_eq_add, Nat.reduceAdd, Int.add_left_inj, Int.add_right_inj, h104]); rfl) ?_
  refine ks_callv_2 rfl rfl rfl (Nat.le_of_ble_eq_true rfl) ?_
  -- at 1012: call X_image st []
  refine ⟨_, _, _, E1, ?_⟩
  show kx_wx _ _ _ _ _ (_ :: _) _ _
  refine ks_aload_n rfl rfl ?_
  refine ks_aload_n rfl rfl ?_
  refine ks_iload_n rfl rfl ?_
  refine ks_iconst rfl ?_
  refine ks_iadd rfl ?_
  refine ks_iaload7 rfl rfl (by omega) (by omega) (by (try simp only [kx_up_at, kx_row_at, up1_at, Nat.reduceEqDiff, Int.reduceEq, Int.reduceNeg, and_true, true_and, and_false, false_and, and_self, reduceIte, Nat.add_left_cancel_iff, Nat.add_eq_left, Nat.left_eq_add, Nat.reduceAdd, Int.add_left_inj, Int.add_right_inj, h1]); rfl) ?_
  refine ks_callv_2 rfl rfl rfl (Nat.le_of_ble_eq_true rfl) ?_
  -- at 1021: call M_image st [None]
  refine ⟨_, _, _, E2, ?_⟩
  show kx_wx _ _ _ _ _ (_ :: _) _ _
  refine ks_icmp_eq rfl hx hx (fun _ => ?_) (fun q => absurd rfl q)
  exact t _ I2
set_option maxRecDepth 20000 in
theorem law_29 (hL : L ≤ 384) (hsc : ∀ j, kx_in (sc j)) (i0 : 0 ≤ i) (i1 : i + 6 ≤ L) (I : Inv sc μ) (t : ∀ μ', Inv sc μ' → kx_wx (ke 30) kt_LawW Q 1200 [some (kR 104), some (kR 1), some (kR 77), some (kI i)] [] (kg L) μ') : kx_wx (ke 30) kt_LawW Q 1029 [some (kR 104), some (kR 1), some (kR 77), some (kI i)] [] (kg L) μ := by
  have h104 : μ 104 = sc := I.2.2.2.2.2.2.2.2.2.2
  obtain ⟨v1, G1, μ1, E1, hG, h1, v2, G2, μ2, E2, x, hx, hv1, hv2, hG2, I2⟩ := p_restore (hsc (i + 1)) (L := L) μ I
  subst hG hv1 hv2 hG2
  refine ks_aload_n rfl rfl ?_
  refine ks_aload_n rfl rfl ?_
  refine ks_iload_n rfl rfl ?_
  refine ks_iconst rfl ?_
  refine ks_iadd rfl ?_
  refine ks_iaload7 rfl rfl (by omega) (by omega) (by (try simp only [kx_up_at, kx_row_at, up1_at, Nat.reduceEqDiff, Int.reduceEq, Int.reduceNeg, and_true, true_and, and_false, false_and, and_self, reduceIte, Nat.add_left_cancel_iff, Nat.add_eq_left, Nat.left_eq_add, Nat.reduceAdd, Int.add_left_inj, Int.add_right_inj, h104]); rfl) ?_
  refine ks_callv_2 rfl rfl rfl (Nat.le_of_ble_eq_true rfl) ?_
  -- at 1035: call X_restore st []
  refine ⟨_, _, _, E1, ?_⟩
  show kx_wx _ _ _ _ _ (_ :: _) _ _
  refine ks_aload_n rfl rfl ?_
  refine ks_aload_n rfl rfl ?_
  refine ks_iload_n rfl rfl ?_
  refine ks_iconst rfl ?_
  refine ks_iadd rfl ?_
  refine ks_iaload7 rfl rfl (by omega) (by omega) (by (try simp only [kx_up_at, kx_row_at, up1_at, Nat.reduceEqDiff, Int.reduceEq, Int.reduceNeg, and_true, true_and, and_false, false_and, and_self, reduceIte, Nat.add_left_cancel_iff, Nat.add_eq_left, Nat.left_eq_add, Nat.reduceAdd, Int.add_left_inj, Int.add_right_inj, h1]); rfl) ?_
  refine ks_callv_2 rfl rfl rfl (Nat.le_of_ble_eq_true rfl) ?_
  -- at 1044: call M_restore st [None]
  refine ⟨_, _, _, E2, ?_⟩
  show kx_wx _ _ _ _ _ (_ :: _) _ _
  refine ks_icmp_eq rfl hx hx (fun _ => ?_) (fun q => absurd rfl q)
  exact t _ I2
set_option maxRecDepth 20000 in
theorem law_30 (hL : L ≤ 384) (hsc : ∀ j, kx_in (sc j)) (i0 : 0 ≤ i) (i1 : i + 6 ≤ L) (I : Inv sc μ) (t : ∀ μ', Inv sc μ' → kx_wx (ke 30) kt_LawW Q 1200 [some (kR 104), some (kR 1), some (kR 77), some (kI i)] [] (kg L) μ') : kx_wx (ke 30) kt_LawW Q 1052 [some (kR 104), some (kR 1), some (kR 77), some (kI i)] [] (kg L) μ := by
  have h104 : μ 104 = sc := I.2.2.2.2.2.2.2.2.2.2
  obtain ⟨v1, G1, μ1, E1, hG, h1, v2, G2, μ2, E2, x, hx, hv1, hv2, hG2, I2⟩ := p_kind (hsc (i + 1)) (L := L) μ I
  subst hG hv1 hv2 hG2
  refine ks_aload_n rfl rfl ?_
  refine ks_aload_n rfl rfl ?_
  refine ks_iload_n rfl rfl ?_
  refine ks_iconst rfl ?_
  refine ks_iadd rfl ?_
  refine ks_iaload7 rfl rfl (by omega) (by omega) (by (try simp only [kx_up_at, kx_row_at, up1_at, Nat.reduceEqDiff, Int.reduceEq, Int.reduceNeg, and_true, true_and, and_false, false_and, and_self, reduceIte, Nat.add_left_cancel_iff, Nat.add_eq_left, Nat.left_eq_add, Nat.reduceAdd, Int.add_left_inj, Int.add_right_inj, h104]); rfl) ?_
  refine ks_callv_2 rfl rfl rfl (Nat.le_of_ble_eq_true rfl) ?_
  -- at 1058: call X_kind st []
  refine ⟨_, _, _, E1, ?_⟩
  show kx_wx _ _ _ _ _ (_ :: _) _ _
  refine ks_aload_n rfl rfl ?_
  refine ks_aload_n rfl rfl ?_
  refine ks_iload_n rfl rfl ?_
  refine ks_iconst rfl ?_
  refine ks_iadd rfl ?_
  refine ks_iaload7 rfl rfl (by omega) (by omega) (by (try simp only [kx_up_at, kx_row_at, up1_at, Nat.reduceEqDiff, Int.reduceEq, Int.reduceNeg, and_true, true_and, and_false, false_and, and_self, reduceIte, Nat.add_left_cancel_iff, Nat.add_eq_left, Nat.left_eq_add, Nat.reduceAdd, Int.add_left_inj, Int.add_right_inj, h1]); rfl) ?_
  refine ks_callv_2 rfl rfl rfl (Nat.le_of_ble_eq_true rfl) ?_
  -- at 1067: call M_kind st [None]
  refine ⟨_, _, _, E2, ?_⟩
  show kx_wx _ _ _ _ _ (_ :: _) _ _
  refine ks_icmp_eq rfl hx hx (fun _ => ?_) (fun q => absurd rfl q)
  exact t _ I2
set_option maxRecDepth 20000 in
theorem law_31 (hL : L ≤ 384) (hsc : ∀ j, kx_in (sc j)) (i0 : 0 ≤ i) (i1 : i + 6 ≤ L) (I : Inv sc μ) (t : ∀ μ', Inv sc μ' → kx_wx (ke 30) kt_LawW Q 1200 [some (kR 104), some (kR 1), some (kR 77), some (kI i)] [] (kg L) μ') : kx_wx (ke 30) kt_LawW Q 1075 [some (kR 104), some (kR 1), some (kR 77), some (kI i)] [] (kg L) μ := by
  have h104 : μ 104 = sc := I.2.2.2.2.2.2.2.2.2.2
  obtain ⟨v1, G1, μ1, E1, hG, h1, v2, G2, μ2, E2, x, hx, hv1, hv2, hG2, I2⟩ := p_as (hsc (i + 1)) (hsc (i + 2)) (L := L) μ I
  subst hG hv1 hv2 hG2
  refine ks_aload_n rfl rfl ?_
  refine ks_aload_n rfl rfl ?_
  refine ks_iload_n rfl rfl ?_
  refine ks_iconst rfl ?_
  refine ks_iadd rfl ?_
  refine ks_iaload7 rfl rfl (by omega) (by omega) (by (try simp only [kx_up_at, kx_row_at, up1_at, Nat.reduceEqDiff, Int.reduceEq, Int.reduceNeg, and_true, true_and, and_false, false_and, and_self, reduceIte, Nat.add_left_cancel_iff, Nat.add_eq_left, Nat.left_eq_add, Nat.reduceAdd, Int.add_left_inj, Int.add_right_inj, h104]); rfl) ?_
  refine ks_aload_n rfl rfl ?_
  refine ks_iload_n rfl rfl ?_
  refine ks_iconst rfl ?_
  refine ks_iadd rfl ?_
  refine ks_iaload7 rfl rfl (by omega) (by omega) (by (try simp only [kx_up_at, kx_row_at, up1_at, Nat.reduceEqDiff, Int.reduceEq, Int.reduceNeg, and_true, true_and, and_false, false_and, and_self, reduceIte, Nat.add_left_cancel_iff, Nat.add_eq_left, Nat.left_eq_add, Nat.reduceAdd, Int.add_left_inj, Int.add_right_inj, h104]); rfl) ?_
  refine ks_callv_3 rfl rfl rfl (Nat.le_of_ble_eq_true rfl) ?_
  -- at 1086: call X_as st []
  refine ⟨_, _, _, E1, ?_⟩
  show kx_wx _ _ _ _ _ (_ :: _) _ _
  refine ks_aload_n rfl rfl ?_
  refine ks_aload_n rfl rfl ?_
  refine ks_iload_n rfl rfl ?_
  refine ks_iconst rfl ?_
  refine ks_iadd rfl ?_
  refine ks_iaload7 rfl rfl (by omega) (by omega) (by (try simp only [kx_up_at, kx_row_at, up1_at, Nat.reduceEqDiff, Int.reduceEq, Int.reduceNeg, and_true, true_and, and_false, false_and, and_self, reduceIte, Nat.add_left_cancel_iff, Nat.add_eq_left, Nat.left_eq_add, Nat.reduceAdd, Int.add_left_inj, Int.add_right_inj, h1]); rfl) ?_
  refine ks_aload_n rfl rfl ?_
  refine ks_iload_n rfl rfl ?_
  refine ks_iconst rfl ?_
  refine ks_iadd rfl ?_
  refine ks_iaload7 rfl rfl (by omega) (by omega) (by (try simp only [kx_up_at, kx_row_at, up1_at, Nat.reduceEqDiff, Int.reduceEq, Int.reduceNeg, and_true, true_and, and_false, false_and, and_self, reduceIte, Nat.add_left_cancel_iff, Nat.add_eq_left, Nat.left_eq_add, Nat.reduceAdd, Int.add_left_inj, Int.add_right_inj, h1]); rfl) ?_
  refine ks_callv_3 rfl rfl rfl (Nat.le_of_ble_eq_true rfl) ?_
  -- at 1100: call M_as st [None]
  refine ⟨_, _, _, E2, ?_⟩
  show kx_wx _ _ _ _ _ (_ :: _) _ _
  refine ks_icmp_eq rfl hx hx (fun _ => ?_) (fun q => absurd rfl q)
  exact t _ I2
set_option maxRecDepth 20000 in
theorem law_32 (hL : L ≤ 384) (hsc : ∀ j, kx_in (sc j)) (i0 : 0 ≤ i) (i1 : i + 6 ≤ L) (I : Inv sc μ) (t : ∀ μ', Inv sc μ' → kx_wx (ke 30) kt_LawW Q 1200 [some (kR 104), some (kR 1), some (kR 77), some (kI i)] [] (kg L) μ') : kx_wx (ke 30) kt_LawW Q 1108 [some (kR 104), some (kR 1), some (kR 77), some (kI i)] [] (kg L) μ := by
  have h104 : μ 104 = sc := I.2.2.2.2.2.2.2.2.2.2
  obtain ⟨v1, G1, μ1, E1, hG, h1, v2, G2, μ2, E2, x, hx, hv1, hv2, hG2, I2⟩ := p_ask (hsc (i + 1)) (hsc (i + 2)) (L := L) μ I
  subst hG hv1 hv2 hG2
  refine ks_aload_n rfl rfl ?_
  refine ks_aload_n rfl rfl ?_
  refine ks_iload_n rfl rfl ?_
  refine ks_iconst rfl ?_
  refine ks_iadd rfl ?_
  refine ks_iaload7 rfl rfl (by omega) (by omega) (by (try simp only [kx_up_at, kx_row_at, up1_at, Nat.reduceEqDiff, Int.reduceEq, Int.reduceNeg, and_true, true_and, and_false, false_and, and_self, reduceIte, Nat.add_left_cancel_iff, Nat.add_eq_left, Nat.left_eq_add, Nat.reduceAdd, Int.add_left_inj, Int.add_right_inj, h104]); rfl) ?_
  refine ks_aload_n rfl rfl ?_
  refine ks_iload_n rfl rfl ?_
  refine ks_iconst rfl ?_
  refine ks_iadd rfl ?_
  refine ks_iaload7 rfl rfl (by omega) (by omega) (by (try simp only [kx_up_at, kx_row_at, up1_at, Nat.reduceEqDiff, Int.reduceEq, Int.reduceNeg, and_true, true_and, and_false, false_and, and_self, reduceIte, Nat.add_left_cancel_iff, Nat.add_eq_left, Nat.left_eq_add, Nat.reduceAdd, Int.add_left_inj, Int.add_right_inj, h104]); rfl) ?_
  refine ks_callv_3 rfl rfl rfl (Nat.le_of_ble_eq_true rfl) ?_
  -- at 1119: call X_ask st []
  refine ⟨_, _, _, E1, ?_⟩
  show kx_wx _ _ _ _ _ (_ :: _) _ _
  refine ks_aload_n rfl rfl ?_
  refine ks_aload_n rfl rfl ?_
  refine ks_iload_n rfl rfl ?_
  refine ks_iconst rfl ?_
  refine ks_iadd rfl ?_
  refine ks_iaload7 rfl rfl (by omega) (by omega) (by (try simp only [kx_up_at, kx_row_at, up1_at, Nat.reduceEqDiff, Int.reduceEq, Int.reduceNeg, and_true, true_and, and_false, false_and, and_self, reduceIte, Nat.add_left_cancel_iff, Nat.add_eq_left, Nat.left_eq_add, Nat.reduceAdd, Int.add_left_inj, Int.add_right_inj, h1]); rfl) ?_
  refine ks_aload_n rfl rfl ?_
  refine ks_iload_n rfl rfl ?_
  refine ks_iconst rfl ?_
  refine ks_iadd rfl ?_
  refine ks_iaload7 rfl rfl (by omega) (by omega) (by (try simp only [kx_up_at, kx_row_at, up1_at, Nat.reduceEqDiff, Int.reduceEq, Int.reduceNeg, and_true, true_and, and_false, false_and, and_self, reduceIte, Nat.add_left_cancel_iff, Nat.add_eq_left, Nat.left_eq_add, Nat.reduceAdd, Int.add_left_inj, Int.add_right_inj, h1]); rfl) ?_
  refine ks_callv_3 rfl rfl rfl (Nat.le_of_ble_eq_true rfl) ?_
  -- at 1133: call M_ask st [None]
  refine ⟨_, _, _, E2, ?_⟩
  show kx_wx _ _ _ _ _ (_ :: _) _ _
  refine ks_icmp_eq rfl hx hx (fun _ => ?_) (fun q => absurd rfl q)
  exact t _ I2
set_option maxRecDepth 20000 in
theorem law_33 (hL : L ≤ 384) (hsc : ∀ j, kx_in (sc j)) (i0 : 0 ≤ i) (i1 : i + 6 ≤ L) (I : Inv sc μ) (t : ∀ μ', Inv sc μ' → kx_wx (ke 30) kt_LawW Q 1200 [some (kR 104), some (kR 1), some (kR 77), some (kI i)] [] (kg L) μ') : kx_wx (ke 30) kt_LawW Q 1141 [some (kR 104), some (kR 1), some (kR 77), some (kI i)] [] (kg L) μ := by
  have h104 : μ 104 = sc := I.2.2.2.2.2.2.2.2.2.2
  obtain ⟨v1, G1, μ1, E1, hG, h1, v2, G2, μ2, E2, x, hx, hv1, hv2, hG2, I2⟩ := p_trace (hsc (i + 1)) (L := L) μ I
  subst hG hv1 hv2 hG2
  refine ks_aload_n rfl rfl ?_
  refine ks_aload_n rfl rfl ?_
  refine ks_iload_n rfl rfl ?_
  refine ks_iconst rfl ?_
  refine ks_iadd rfl ?_
  refine ks_iaload7 rfl rfl (by omega) (by omega) (by (try simp only [kx_up_at, kx_row_at, up1_at, Nat.reduceEqDiff, Int.reduceEq, Int.reduceNeg, and_true, true_and, and_false, false_and, and_self, reduceIte, Nat.add_left_cancel_iff, Nat.add_eq_left, Nat.left_eq_add, Nat.reduceAdd, Int.add_left_inj, Int.add_right_inj, h104]); rfl) ?_
  refine ks_callv_2 rfl rfl rfl (Nat.le_of_ble_eq_true rfl) ?_
  -- at 1147: call X_trace st []
  refine ⟨_, _, _, E1, ?_⟩
  show kx_wx _ _ _ _ _ (_ :: _) _ _
  refine ks_aload_n rfl rfl ?_
  refine ks_aload_n rfl rfl ?_
  refine ks_iload_n rfl rfl ?_
  refine ks_iconst rfl ?_
  refine ks_iadd rfl ?_
  refine ks_iaload7 rfl rfl (by omega) (by omega) (by (try simp only [kx_up_at, kx_row_at, up1_at, Nat.reduceEqDiff, Int.reduceEq, Int.reduceNeg, and_true, true_and, and_false, false_and, and_self, reduceIte, Nat.add_left_cancel_iff, Nat.add_eq_left, Nat.left_eq_add, Nat.reduceAdd, Int.add_left_inj, Int.add_right_inj, h1]); rfl) ?_
  refine ks_callv_2 rfl rfl rfl (Nat.le_of_ble_eq_true rfl) ?_
  -- at 1156: call M_trace st [None]
  refine ⟨_, _, _, E2, ?_⟩
  show kx_wx _ _ _ _ _ (_ :: _) _ _
  refine ks_icmp_eq rfl hx hx (fun _ => ?_) (fun q => absurd rfl q)
  exact t _ I2
set_option maxRecDepth 20000 in
theorem law_34 (hL : L ≤ 384) (hsc : ∀ j, kx_in (sc j)) (i0 : 0 ≤ i) (i1 : i + 6 ≤ L) (I : Inv sc μ) (t : ∀ μ', Inv sc μ' → kx_wx (ke 30) kt_LawW Q 1200 [some (kR 104), some (kR 1), some (kR 77), some (kI i)] [] (kg L) μ') : kx_wx (ke 30) kt_LawW Q 1164 [some (kR 104), some (kR 1), some (kR 77), some (kI i)] [] (kg L) μ := by
  have h104 : μ 104 = sc := I.2.2.2.2.2.2.2.2.2.2
  obtain ⟨v1, G1, μ1, E1, hG, h1, v2, G2, μ2, E2, x, hx, hv1, hv2, hG2, I2⟩ := p_count (hsc (i + 1)) (L := L) μ I
  subst hG hv1 hv2 hG2
  refine ks_aload_n rfl rfl ?_
  refine ks_aload_n rfl rfl ?_
  refine ks_iload_n rfl rfl ?_
  refine ks_iconst rfl ?_
  refine ks_iadd rfl ?_
  refine ks_iaload7 rfl rfl (by omega) (by omega) (by (try simp only [kx_up_at, kx_row_at, up1_at, Nat.reduceEqDiff, Int.reduceEq, Int.reduceNeg, and_true, true_and, and_false, false_and, and_self, reduceIte, Nat.add_left_cancel_iff, Nat.add_eq_left, Nat.left_eq_add, Nat.reduceAdd, Int.add_left_inj, Int.add_right_inj, h104]); rfl) ?_
  refine ks_callv_2 rfl rfl rfl (Nat.le_of_ble_eq_true rfl) ?_
  -- at 1170: call X_count st []
  refine ⟨_, _, _, E1, ?_⟩
  show kx_wx _ _ _ _ _ (_ :: _) _ _
  refine ks_aload_n rfl rfl ?_
  refine ks_aload_n rfl rfl ?_
  refine ks_iload_n rfl rfl ?_
  refine ks_iconst rfl ?_
  refine ks_iadd rfl ?_
  refine ks_iaload7 rfl rfl (by omega) (by omega) (by (try simp only [kx_up_at, kx_row_at, up1_at, Nat.reduceEqDiff, Int.reduceEq, Int.reduceNeg, and_true, true_and, and_false, false_and, and_self, reduceIte, Nat.add_left_cancel_iff, Nat.add_eq_left, Nat.left_eq_add, Nat.reduceAdd, Int.add_left_inj, Int.add_right_inj, h1]); rfl) ?_
  refine ks_callv_2 rfl rfl rfl (Nat.le_of_ble_eq_true rfl) ?_
  -- at 1179: call M_count st [None]
  refine ⟨_, _, _, E2, ?_⟩
  show kx_wx _ _ _ _ _ (_ :: _) _ _
  refine ks_icmp_eq rfl hx hx (fun _ => ?_) (fun q => absurd rfl q)
  exact t _ I2
set_option maxRecDepth 20000 in
theorem law_35 (hL : L ≤ 384) (hsc : ∀ j, kx_in (sc j)) (i0 : 0 ≤ i) (i1 : i + 6 ≤ L) (I : Inv sc μ) (t : ∀ μ', Inv sc μ' → kx_wx (ke 30) kt_LawW Q 1200 [some (kR 104), some (kR 1), some (kR 77), some (kI i)] [] (kg L) μ') : kx_wx (ke 30) kt_LawW Q 1187 [some (kR 104), some (kR 1), some (kR 77), some (kI i)] [] (kg L) μ := by
  have h104 : μ 104 = sc := I.2.2.2.2.2.2.2.2.2.2
  obtain ⟨v1, G1, μ1, E1, hG, h1, v2, G2, μ2, E2, x, hx, hv1, hv2, hG2, I2⟩ := p_status  (L := L) μ I
  subst hG hv1 hv2 hG2
  refine ks_aload_n rfl rfl ?_
  refine ks_callv_1 rfl rfl rfl (Nat.le_of_ble_eq_true rfl) ?_
  -- at 1188: call X_status st []
  refine ⟨_, _, _, E1, ?_⟩
  show kx_wx _ _ _ _ _ (_ :: _) _ _
  refine ks_aload_n rfl rfl ?_
  refine ks_callv_1 rfl rfl rfl (Nat.le_of_ble_eq_true rfl) ?_
  -- at 1192: call M_status st [None]
  refine ⟨_, _, _, E2, ?_⟩
  show kx_wx _ _ _ _ _ (_ :: _) _ _
  refine ks_icmp_eq rfl hx hx (fun _ => ?_) (fun q => absurd rfl q)
  exact t _ I2
set_option maxRecDepth 20000 in
theorem law_loop (hL : L ≤ 384) (hsc : ∀ j, kx_in (sc j)) (t : ∀ μ', Q (some (kI 1)) (kg L) μ') : ∀ (N : Nat) (i : Int) (μ : kx_M), 0 ≤ i → i ≤ 400 → L - i < N → Inv sc μ → kx_wx (ke 30) kt_LawW Q 18 [some (kR 104), some (kR 1), some (kR 77), some (kI i)] [] (kg L) μ := by
  have fin : ∀ (i : Int) (μ : kx_M), (L : Int) - 6 < i → 0 ≤ i → i ≤ 400 → kx_wx (ke 30) kt_LawW Q 18 [some (kR 104), some (kR 1), some (kR 77), some (kI i)] [] (kg L) μ := by
    intro i μ h h0 h4
    refine ks_iload_n rfl rfl ?_
    refine ks_aload_n rfl rfl ?_
    refine ks_arraylength7 rfl rfl ?_
    refine ks_bipush rfl ?_
    refine ks_isub rfl ?_
    -- at 24: if gt -> 1206 else 27 st [None, None]
    refine ks_icmp_gt rfl ⟨by omega, by omega⟩ ⟨by omega, by omega⟩ (fun c => ?_) (fun c => absurd c (by omega))
    refine ks_iconst rfl ?_
    refine ks_zreturn rfl (by omega) ?_
    -- at 1207: ret  st ['1']
    exact t _
  intro N
  induction N with
  | zero =>
    intro i μ i0 i4 hN I
    exact fin i μ (by omega) i0 i4
  | succ N ih =>
    intro i μ i0 i4 hN I
    by_cases hi : (L : Int) - 6 < i
    · exact fin i μ hi i0 i4
    · have h104 : μ 104 = sc := I.2.2.2.2.2.2.2.2.2.2
      have nxt : ∀ μ', Inv sc μ' → kx_wx (ke 30) kt_LawW Q 1200 [some (kR 104), some (kR 1), some (kR 77), some (kI i)] [] (kg L) μ' := by
        intro μ' I'
        refine ks_iinc_3 rfl rfl ?_
        refine ks_goto rfl ?_
        -- at 18: stop  st []
        exact ih (i + 6) μ' (by omega) (by omega) (by omega) I'
      refine ks_iload_n rfl rfl ?_
      refine ks_aload_n rfl rfl ?_
      refine ks_arraylength7 rfl rfl ?_
      refine ks_bipush rfl ?_
      refine ks_isub rfl ?_
      -- at 24: if gt -> 1206 else 27 st [None, None]
      refine ks_icmp_gt rfl ⟨by omega, by omega⟩ ⟨by omega, by omega⟩ (fun c => absurd c (by omega)) (fun c => ?_)
      refine ks_aload_n rfl rfl ?_
      refine ks_iload_n rfl rfl ?_
      refine ks_iaload7 rfl rfl (by omega) (by omega) (by (try simp only [kx_up_at, kx_row_at, up1_at, Nat.reduceEqDiff, Int.reduceEq, Int.reduceNeg, and_true, true_and, and_false, false_and, and_self, reduceIte, Nat.add_left_cancel_iff, Nat.add_eq_left, Nat.left_eq_add, Nat.reduceAdd, Int.add_left_inj, Int.add_right_inj, h104]); rfl) ?_
      refine ks_bipush rfl ?_
      refine ks_iand rfl ?_
      -- at 33: sw  st [None]
      obtain ⟨_, _⟩ := kx_and_in (sc i) 63
      refine ks_tsw rfl ⟨by omega, by omega⟩ ?_
      simp only [kx_sw, Int.reduceAdd]
      refine kx_ifs (fun g0 => ?_) (fun g0 => ?_)
      · exact law_0 hL hsc i0 (by omega) I nxt
      refine kx_ifs (fun g1 => ?_) (fun g1 => ?_)
      · exact law_1 hL hsc i0 (by omega) I nxt
      refine kx_ifs (fun g2 => ?_) (fun g2 => ?_)
      · exact law_2 hL hsc i0 (by omega) I nxt
      refine kx_ifs (fun g3 => ?_) (fun g3 => ?_)
      · exact law_3 hL hsc i0 (by omega) I nxt
      refine kx_ifs (fun g4 => ?_) (fun g4 => ?_)
      · exact law_4 hL hsc i0 (by omega) I nxt
      refine kx_ifs (fun g5 => ?_) (fun g5 => ?_)
      · exact law_5 hL hsc i0 (by omega) I nxt
      refine kx_ifs (fun g6 => ?_) (fun g6 => ?_)
      · exact law_6 hL hsc i0 (by omega) I nxt
      refine kx_ifs (fun g7 => ?_) (fun g7 => ?_)
      · exact law_7 hL hsc i0 (by omega) I nxt
      refine kx_ifs (fun g8 => ?_) (fun g8 => ?_)
      · exact law_8 hL hsc i0 (by omega) I nxt
      refine kx_ifs (fun g9 => ?_) (fun g9 => ?_)
      · exact law_9 hL hsc i0 (by omega) I nxt
      refine kx_ifs (fun g10 => ?_) (fun g10 => ?_)
      · exact law_10 hL hsc i0 (by omega) I nxt
      refine kx_ifs (fun g11 => ?_) (fun g11 => ?_)
      · exact law_11 hL hsc i0 (by omega) I nxt
      refine kx_ifs (fun g12 => ?_) (fun g12 => ?_)
      · exact law_12 hL hsc i0 (by omega) I nxt
      refine kx_ifs (fun g13 => ?_) (fun g13 => ?_)
      · exact law_13 hL hsc i0 (by omega) I nxt
      refine kx_ifs (fun g14 => ?_) (fun g14 => ?_)
      · exact law_14 hL hsc i0 (by omega) I nxt
      refine kx_ifs (fun g15 => ?_) (fun g15 => ?_)
      · exact law_15 hL hsc i0 (by omega) I nxt
      refine kx_ifs (fun g16 => ?_) (fun g16 => ?_)
      · exact law_16 hL hsc i0 (by omega) I nxt
      refine kx_ifs (fun g17 => ?_) (fun g17 => ?_)
      · exact law_17 hL hsc i0 (by omega) I nxt
      refine kx_ifs (fun g18 => ?_) (fun g18 => ?_)
      · exact law_18 hL hsc i0 (by omega) I nxt
      refine kx_ifs (fun g19 => ?_) (fun g19 => ?_)
      · exact law_19 hL hsc i0 (by omega) I nxt
      refine kx_ifs (fun g20 => ?_) (fun g20 => ?_)
      · exact law_20 hL hsc i0 (by omega) I nxt
      refine kx_ifs (fun g21 => ?_) (fun g21 => ?_)
      · exact law_21 hL hsc i0 (by omega) I nxt
      refine kx_ifs (fun g22 => ?_) (fun g22 => ?_)
      · exact law_22 hL hsc i0 (by omega) I nxt
      refine kx_ifs (fun g23 => ?_) (fun g23 => ?_)
      · exact law_23 hL hsc i0 (by omega) I nxt
      refine kx_ifs (fun g24 => ?_) (fun g24 => ?_)
      · exact law_24 hL hsc i0 (by omega) I nxt
      refine kx_ifs (fun g25 => ?_) (fun g25 => ?_)
      · exact law_25 hL hsc i0 (by omega) I nxt
      refine kx_ifs (fun g26 => ?_) (fun g26 => ?_)
      · exact law_26 hL hsc i0 (by omega) I nxt
      refine kx_ifs (fun g27 => ?_) (fun g27 => ?_)
      · exact law_27 hL hsc i0 (by omega) I nxt
      refine kx_ifs (fun g28 => ?_) (fun g28 => ?_)
      · exact law_28 hL hsc i0 (by omega) I nxt
      refine kx_ifs (fun g29 => ?_) (fun g29 => ?_)
      · exact law_29 hL hsc i0 (by omega) I nxt
      refine kx_ifs (fun g30 => ?_) (fun g30 => ?_)
      · exact law_30 hL hsc i0 (by omega) I nxt
      refine kx_ifs (fun g31 => ?_) (fun g31 => ?_)
      · exact law_31 hL hsc i0 (by omega) I nxt
      refine kx_ifs (fun g32 => ?_) (fun g32 => ?_)
      · exact law_32 hL hsc i0 (by omega) I nxt
      refine kx_ifs (fun g33 => ?_) (fun g33 => ?_)
      · exact law_33 hL hsc i0 (by omega) I nxt
      refine kx_ifs (fun g34 => ?_) (fun g34 => ?_)
      · exact law_34 hL hsc i0 (by omega) I nxt
      refine kx_ifs (fun g35 => ?_) (fun g35 => ?_)
      · exact law_35 hL hsc i0 (by omega) I nxt
      exact nxt μ I
end LW
