/-! asks of the reference, and small questions on both sides -/
section AT
variable {d L : Nat} {G : kx_G} {μ : kx_M} {Q : Option kx_V → kx_G → kx_M → Prop} {s : Int → Int} {h b e v w : Int} {l : List Int}
theorem FrT_81 {μ μ' : kx_M} {s : Int → Int} (hs : μ 81 = s) (F : FrT μ μ') : μ' 81 = s := by rw [F.2 81 (by omega) (by omega)]; exact hs
theorem r_lent10 (hs : μ 81 = s) (h0 : 0 ≤ h) (h1 : h < 6) (A : AK μ 90 77 23 l) (hl : l.length < 16) (t : ∀ μ', AK μ' 90 77 23 (l ++ [10]) → FrT μ μ' → Q (some (kI (s (12 + h)))) (kg L) μ') : kx_cx (ke (d + 2)) 180 [kR 77, kI h, kI 10] (kg L) μ Q := by
  refine ke_start (tb := kt_M_lent) (ls := [some (kR 77), some (kI h), some (kI 10)]) rfl rfl ?_
  refine ks_aload_n rfl rfl ?_
  refine ks_iload_n rfl rfl ?_
  refine ks_callv_2 rfl rfl rfl (Nat.le_of_ble_eq_true rfl) ?_
  -- at 2: call M_begin st []
  refine r_begin A hl (fun μ1 A1 F1 => ?_)
  have e1 := FrT_81 hs F1
  show kx_wx _ _ _ _ _ _ _ _
  refine ks_iload_n rfl rfl ?_
  refine ks_bipush rfl ?_
  -- at 8: if ne -> 23 else 11 st ['10', None]
  refine ks_icmp_ne rfl ⟨by omega, by omega⟩ ⟨by omega, by omega⟩ (fun c => ?_) (fun c => absurd c (by omega))
  refine ks_aload_n rfl rfl ?_
  refine ks_getr (b := 81) rfl rfl rfl rfl (by decide) ?_
  refine ks_bipush rfl ?_
  refine ks_iload_n rfl rfl ?_
  refine ks_iadd rfl ?_
  refine ks_iaload rfl rfl (by omega) (by omega) (by (try simp only [kx_up_at, kx_row_at, up1_at, Nat.reduceEqDiff, Int.reduceEq, Int.reduceNeg, and_true, true_and, and_false, false_and, and_self, reduceIte, Nat.add_left_cancel_iff, Nat.add_eq_left, Nat.left_eq_add, Nat.reduceAdd, Int.add_left_inj, Int.add_right_inj, e1]); rfl) ?_
  refine ks_goto rfl ?_
  refine ks_ireturn rfl ?_
  -- at 24: ret  st [None]
  exact t _ A1 F1
theorem r_lent20 (A : AK μ 90 77 23 l) (hl : l.length < 16) (t : ∀ μ', AK μ' 90 77 23 (l ++ [20]) → FrT μ μ' → Q (some (kI h)) (kg L) μ') : kx_cx (ke (d + 2)) 180 [kR 77, kI h, kI 20] (kg L) μ Q := by
  refine ke_start (tb := kt_M_lent) (ls := [some (kR 77), some (kI h), some (kI 20)]) rfl rfl ?_
  refine ks_aload_n rfl rfl ?_
  refine ks_iload_n rfl rfl ?_
  refine ks_callv_2 rfl rfl rfl (Nat.le_of_ble_eq_true rfl) ?_
  -- at 2: call M_begin st []
  refine r_begin A hl (fun μ1 A1 F1 => ?_)
  show kx_wx _ _ _ _ _ _ _ _
  refine ks_iload_n rfl rfl ?_
  refine ks_bipush rfl ?_
  -- at 8: if ne -> 23 else 11 st ['10', None]
  refine ks_icmp_ne rfl ⟨by omega, by omega⟩ ⟨by omega, by omega⟩ (fun c => absurd c (by omega)) (fun c => ?_)
  refine ks_iload_n rfl rfl ?_
  refine ks_ireturn rfl ?_
  -- at 24: ret  st [None]
  exact t _ A1 F1
theorem r_firmMark (hs : μ 81 = s) (h0 : 0 ≤ h) (h1 : h < 6) (A : AK μ 90 77 23 l) (hl : l.length < 15) (t : ∀ μ', AK μ' 90 77 23 (l ++ [21, 20]) → FrT μ μ' → Q (some (kI (h + s (24 + h)))) (kg L) μ') : kx_cx (ke (d + 3)) 181 [kR 77, kI h] (kg L) μ Q := by
  refine ke_start (tb := kt_M_firmMark) (ls := [some (kR 77), some (kI h)]) rfl rfl ?_
  refine ks_aload_n rfl rfl ?_
  refine ks_bipush rfl ?_
  refine ks_callv_2 rfl rfl rfl (Nat.le_of_ble_eq_true rfl) ?_
  -- at 3: call M_begin st []
  refine r_begin A (by omega) (fun μ1 A1 F1 => ?_)
  show kx_wx _ _ _ _ _ _ _ _
  refine ks_aload_n rfl rfl ?_
  refine ks_iload_n rfl rfl ?_
  refine ks_bipush rfl ?_
  refine ks_callv_3 rfl rfl rfl (Nat.le_of_ble_eq_true rfl) ?_
  -- at 10: call M_lent st []
  refine r_lent20 A1 (by rw [List.length_append]; show l.length + 1 < 16; omega) (fun μ2 A2 F2 => ?_)
  have e1 := FrT_81 hs (FrT_tr F1 F2)
  show kx_wx _ _ _ _ _ (_ :: _) _ _
  refine ks_aload_n rfl rfl ?_
  refine ks_getr (b := 81) rfl rfl rfl rfl (by decide) ?_
  refine ks_bipush rfl ?_
  refine ks_iload_n rfl rfl ?_
  refine ks_iadd rfl ?_
  refine ks_iaload rfl rfl (by omega) (by omega) (by (try simp only [kx_up_at, kx_row_at, up1_at, Nat.reduceEqDiff, Int.reduceEq, Int.reduceNeg, and_true, true_and, and_false, false_and, and_self, reduceIte, Nat.add_left_cancel_iff, Nat.add_eq_left, Nat.left_eq_add, Nat.reduceAdd, Int.add_left_inj, Int.add_right_inj, e1]); rfl) ?_
  refine ks_iadd rfl ?_
  refine ks_ireturn rfl ?_
  -- at 23: ret  st [None]
  rw [List.append_assoc] at A2
  exact t _ A2 (FrT_tr F1 F2)
theorem r_windySize (hs : μ 81 = s) (h0 : 0 ≤ h) (h1 : h < 6) (A : AK μ 90 77 23 l) (hl : l.length < 15) (t : ∀ μ', AK μ' 90 77 23 (l ++ [13, 10]) → FrT μ μ' → Q (some (kI (s (12 + h) - 100))) (kg L) μ') : kx_cx (ke (d + 3)) 182 [kR 77, kI h] (kg L) μ Q := by
  refine ke_start (tb := kt_M_windySize) (ls := [some (kR 77), some (kI h)]) rfl rfl ?_
  refine ks_aload_n rfl rfl ?_
  refine ks_bipush rfl ?_
  refine ks_callv_2 rfl rfl rfl (Nat.le_of_ble_eq_true rfl) ?_
  -- at 3: call M_begin st []
  refine r_begin A (by omega) (fun μ1 A1 F1 => ?_)
  show kx_wx _ _ _ _ _ _ _ _
  refine ks_aload_n rfl rfl ?_
  refine ks_iload_n rfl rfl ?_
  refine ks_bipush rfl ?_
  refine ks_callv_3 rfl rfl rfl (Nat.le_of_ble_eq_true rfl) ?_
  -- at 10: call M_lent st []
  refine r_lent10 (FrT_81 hs F1) h0 h1 A1 (by rw [List.length_append]; show l.length + 1 < 16; omega) (fun μ2 A2 F2 => ?_)
  show kx_wx _ _ _ _ _ (_ :: _) _ _
  refine ks_bipush rfl ?_
  refine ks_isub rfl ?_
  refine ks_ireturn rfl ?_
  -- at 16: ret  st [None]
  rw [List.append_assoc] at A2
  exact t _ A2 (FrT_tr F1 F2)
theorem r_sizeOfWindy {k : Int} (hs : μ 81 = s) (h0 : 0 ≤ h) (h1 : h < 6) (hk : s (6 + h) = k) (k0 : 4 ≤ k) (k1 : k ≤ 5) (A : AK μ 90 77 23 l) (hl : l.length < 14) (t : ∀ μ', AK μ' 90 77 23 (l ++ q_sl k) → FrT μ μ' → Q (some (kI (q_sv s h))) (kg L) μ') : kx_cx (ke (d + 4)) 183 [kR 77, kI h] (kg L) μ Q := by
  refine ke_start (tb := kt_M_sizeOfWindy) (ls := [some (kR 77), some (kI h)]) rfl rfl ?_
  unfold q_sv at t
  rw [hk] at t
  refine ks_aload_n rfl rfl ?_
  refine ks_getr (b := 81) rfl rfl rfl rfl (by decide) ?_
  refine ks_bipush rfl ?_
  refine ks_iload_n rfl rfl ?_
  refine ks_iadd rfl ?_
  refine ks_iaload rfl rfl (by omega) (by omega) (by (try simp only [kx_up_at, kx_row_at, up1_at, Nat.reduceEqDiff, Int.reduceEq, Int.reduceNeg, and_true, true_and, and_false, false_and, and_self, reduceIte, Nat.add_left_cancel_iff, Nat.add_eq_left, Nat.left_eq_add, Nat.reduceAdd, Int.add_left_inj, Int.add_right_inj, hs, hk]); rfl) ?_
  refine ks_iconst rfl ?_
  -- at 10: if ne -> 27 else 13 st ['5', None]
  refine ks_icmp_ne rfl ⟨by omega, by omega⟩ ⟨by omega, by omega⟩ (fun c => ?_) (fun c => ?_)
  · subst c
    refine ks_aload_n rfl rfl ?_
    refine ks_bipush rfl ?_
    refine ks_callv_2 rfl rfl rfl (Nat.le_of_ble_eq_true rfl) ?_
    -- at 16: call M_begin st []
    refine r_begin A (by omega) (fun μ1 A1 F1 => ?_)
    show kx_wx _ _ _ _ _ _ _ _
    refine ks_iconst rfl ?_
    refine ks_aload_n rfl rfl ?_
    refine ks_iload_n rfl rfl ?_
    refine ks_callv_2 rfl rfl rfl (Nat.le_of_ble_eq_true rfl) ?_
    -- at 22: call M_windySize st ['2']
    refine r_windySize (FrT_81 hs F1) h0 h1 A1 (by rw [List.length_append]; show l.length + 1 < 15; omega) (fun μ2 A2 F2 => ?_)
    show kx_wx _ _ _ _ _ (_ :: _) _ _
    refine ks_imul rfl ?_
    refine ks_ireturn rfl ?_
    -- at 26: ret  st [None]
    rw [List.append_assoc] at A2
    exact t _ A2 (FrT_tr F1 F2)
  · have e4 : k = 4 := by omega
    subst e4
    refine ks_aload_n rfl rfl ?_
    refine ks_iload_n rfl rfl ?_
    refine ks_callv_2 rfl rfl rfl (Nat.le_of_ble_eq_true rfl) ?_
    -- at 29: call M_windySize st []
    refine r_windySize hs h0 h1 A (by omega) (fun μ2 A2 F2 => ?_)
    show kx_wx _ _ _ _ _ (_ :: _) _ _
    refine ks_ireturn rfl ?_
    -- at 32: ret  st [None]
    exact t _ A2 F2
theorem r_markOf {k : Int} (hs : μ 81 = s) (h0 : 0 ≤ h) (h1 : h < 6) (hk : s (6 + h) = k) (k0 : 1 ≤ k) (k1 : k ≤ 5) (A : AK μ 90 77 23 l) (hl : l.length < 11) (t : ∀ μ', AK μ' 90 77 23 (l ++ q_ml k) → FrT μ μ' → Q (some (kI (q_mv s h))) (kg L) μ') : kx_cx (ke (d + 5)) 184 [kR 77, kI h] (kg L) μ Q := by
  refine ke_start (tb := kt_M_markOf) (ls := [some (kR 77), some (kI h), none, none]) rfl rfl ?_
  have em : 4 ≤ k → q_mv s h = h - q_sv s h ∧ q_ml k = [23, 20] ++ q_sl k := by
    intro k4
    unfold q_sv q_mv
    rw [hk]
    have hc : k = 4 ∨ k = 5 := by omega
    rcases hc with g | g <;> subst g <;> exact ⟨rfl, rfl⟩
  refine ks_aload_n rfl rfl ?_
  refine ks_getr (b := 81) rfl rfl rfl rfl (by decide) ?_
  refine ks_bipush rfl ?_
  refine ks_iload_n rfl rfl ?_
  refine ks_iadd rfl ?_
  refine ks_iaload rfl rfl (by omega) (by omega) (by (try simp only [kx_up_at, kx_row_at, up1_at, Nat.reduceEqDiff, Int.reduceEq, Int.reduceNeg, and_true, true_and, and_false, false_and, and_self, reduceIte, Nat.add_left_cancel_iff, Nat.add_eq_left, Nat.left_eq_add, Nat.reduceAdd, Int.add_left_inj, Int.add_right_inj, hs, hk]); rfl) ?_
  refine ks_istore_n_2 rfl rfl ?_
  refine ks_iload_n rfl rfl ?_
  refine ks_iconst rfl ?_
  -- at 12: if ne -> 29 else 15 st ['2', None]
  refine ks_icmp_ne rfl ⟨by omega, by omega⟩ ⟨by omega, by omega⟩ (fun c => ?_) (fun c => ?_)
  · subst c
    refine ks_aload_n rfl rfl ?_
    refine ks_bipush rfl ?_
    refine ks_callv_2 rfl rfl rfl (Nat.le_of_ble_eq_true rfl) ?_
    -- at 18: call M_begin st []
    refine r_begin A (by omega) (fun μ1 A1 F1 => ?_)
    show kx_wx _ _ _ _ _ _ _ _
    refine ks_iconst rfl ?_
    refine ks_aload_n rfl rfl ?_
    refine ks_iload_n rfl rfl ?_
    refine ks_callv_2 rfl rfl rfl (Nat.le_of_ble_eq_true rfl) ?_
    -- at 24: call M_firmMark st ['2']
    refine r_firmMark (FrT_81 hs F1) h0 h1 A1 (by rw [List.length_append]; show l.length + 1 < 15; omega) (fun μ2 A2 F2 => ?_)
    show kx_wx _ _ _ _ _ (_ :: _) _ _
    refine ks_imul rfl ?_
    refine ks_ireturn rfl ?_
    -- at 28: ret  st [None]
    rw [List.append_assoc] at A2
    unfold q_mv at t
    rw [hk] at t
    exact t _ A2 (FrT_tr F1 F2)
  · refine ks_iload_n rfl rfl ?_
    refine ks_iconst rfl ?_
    -- at 31: if ne -> 50 else 34 st ['3', None]
    refine ks_icmp_ne rfl ⟨by omega, by omega⟩ ⟨by omega, by omega⟩ (fun c2 => ?_) (fun c2 => ?_)
    · subst c2
      refine ks_aload_n rfl rfl ?_
      refine ks_bipush rfl ?_
      refine ks_callv_2 rfl rfl rfl (Nat.le_of_ble_eq_true rfl) ?_
      -- at 37: call M_begin st []
      refine r_begin A (by omega) (fun μ1 A1 F1 => ?_)
      show kx_wx _ _ _ _ _ _ _ _
      refine ks_aload_n rfl rfl ?_
      refine ks_iload_n rfl rfl ?_
      refine ks_callv_2 rfl rfl rfl (Nat.le_of_ble_eq_true rfl) ?_
      -- at 42: call M_firmMark st []
      refine r_firmMark (FrT_81 hs F1) h0 h1 A1 (by rw [List.length_append]; show l.length + 1 < 15; omega) (fun μ2 A2 F2 => ?_)
      show kx_wx _ _ _ _ _ (_ :: _) _ _
      refine ks_sipush rfl ?_
      refine ks_isub rfl ?_
      refine ks_ireturn rfl ?_
      -- at 49: ret  st [None]
      rw [List.append_assoc] at A2
      unfold q_mv at t
      rw [hk] at t
      exact t _ A2 (FrT_tr F1 F2)
    · refine ks_iload_n rfl rfl ?_
      refine ks_iconst rfl ?_
      -- at 52: if ne -> 61 else 55 st ['1', None]
      refine ks_icmp_ne rfl ⟨by omega, by omega⟩ ⟨by omega, by omega⟩ (fun c3 => ?_) (fun c3 => ?_)
      · subst c3
        refine ks_aload_n rfl rfl ?_
        refine ks_iload_n rfl rfl ?_
        refine ks_callv_2 rfl rfl rfl (Nat.le_of_ble_eq_true rfl) ?_
        -- at 57: call M_firmMark st []
        refine r_firmMark hs h0 h1 A (by omega) (fun μ2 A2 F2 => ?_)
        show kx_wx _ _ _ _ _ (_ :: _) _ _
        refine ks_ireturn rfl ?_
        -- at 60: ret  st [None]
        unfold q_mv at t
        rw [hk] at t
        exact t _ A2 F2
      · obtain ⟨m1, m2⟩ := em (by omega)
        rw [m1, m2] at t
        refine ks_aload_n rfl rfl ?_
        refine ks_bipush rfl ?_
        refine ks_callv_2 rfl rfl rfl (Nat.le_of_ble_eq_true rfl) ?_
        -- at 64: call M_begin st []
        refine r_begin A (by omega) (fun μ1 A1 F1 => ?_)
        show kx_wx _ _ _ _ _ _ _ _
        refine ks_aload_n rfl rfl ?_
        refine ks_iload_n rfl rfl ?_
        refine ks_bipush rfl ?_
        refine ks_callv_3 rfl rfl rfl (Nat.le_of_ble_eq_true rfl) ?_
        -- at 71: call M_lent st []
        refine r_lent20 A1 (by rw [List.length_append]; show l.length + 1 < 16; omega) (fun μ2 A2 F2 => ?_)
        show kx_wx _ _ _ _ _ (_ :: _) _ _
        refine ks_istore_n_3 rfl rfl ?_
        refine ks_iload_n rfl rfl ?_
        refine ks_aload_n rfl rfl ?_
        refine ks_iload_n rfl rfl ?_
        refine ks_callv_2 rfl rfl rfl (Nat.le_of_ble_eq_true rfl) ?_
        -- at 78: call M_sizeOfWindy st [None]
        rw [List.append_assoc] at A2
        have F3 := FrT_tr F1 F2
        refine r_sizeOfWindy (FrT_81 hs F3) h0 h1 hk (by omega) (by omega) A2 (by rw [List.length_append]; show l.length + 2 < 14; omega) (fun μ4 A4 F4 => ?_)
        show kx_wx _ _ _ _ _ (_ :: _) _ _
        refine ks_isub rfl ?_
        refine ks_ireturn rfl ?_
        -- at 82: ret  st [None]
        rw [List.append_assoc] at A4
        exact t _ A4 (FrT_tr F3 F4)
theorem r_firmSize {k : Int} (hs : μ 81 = s) (h0 : 0 ≤ h) (h1 : h < 6) (hk : s (6 + h) = k) (k0 : 1 ≤ k) (k1 : k ≤ 5) (A : AK μ 90 77 23 l) (hl : l.length < 9) (t : ∀ μ', AK μ' 90 77 23 (l ++ ([11, 10] ++ q_ml k)) → FrT μ μ' → Q (some (kI (s (12 + h) + q_mv s h))) (kg L) μ') : kx_cx (ke (d + 6)) 185 [kR 77, kI h] (kg L) μ Q := by
  refine ke_start (tb := kt_M_firmSize) (ls := [some (kR 77), some (kI h), none]) rfl rfl ?_
  refine ks_aload_n rfl rfl ?_
  refine ks_bipush rfl ?_
  refine ks_callv_2 rfl rfl rfl (Nat.le_of_ble_eq_true rfl) ?_
  -- at 3: call M_begin st []
  refine r_begin A (by omega) (fun μ1 A1 F1 => ?_)
  show kx_wx _ _ _ _ _ _ _ _
  refine ks_aload_n rfl rfl ?_
  refine ks_iload_n rfl rfl ?_
  refine ks_bipush rfl ?_
  refine ks_callv_3 rfl rfl rfl (Nat.le_of_ble_eq_true rfl) ?_
  -- at 10: call M_lent st []
  refine r_lent10 (FrT_81 hs F1) h0 h1 A1 (by rw [List.length_append]; show l.length + 1 < 16; omega) (fun μ2 A2 F2 => ?_)
  show kx_wx _ _ _ _ _ (_ :: _) _ _
  refine ks_istore_n_2 rfl rfl ?_
  refine ks_iload_n rfl rfl ?_
  refine ks_aload_n rfl rfl ?_
  refine ks_iload_n rfl rfl ?_
  refine ks_callv_2 rfl rfl rfl (Nat.le_of_ble_eq_true rfl) ?_
  -- at 17: call M_markOf st [None]
  rw [List.append_assoc] at A2
  have F3 := FrT_tr F1 F2
  refine r_markOf (FrT_81 hs F3) h0 h1 hk k0 k1 A2 (by rw [List.length_append]; show l.length + 2 < 11; omega) (fun μ4 A4 F4 => ?_)
  show kx_wx _ _ _ _ _ (_ :: _) _ _
  refine ks_iadd rfl ?_
  refine ks_ireturn rfl ?_
  -- at 21: ret  st [None]
  rw [List.append_assoc] at A4
  exact t _ A4 (FrT_tr F3 F4)
theorem r_sizeOf {k : Int} (hs : μ 81 = s) (h0 : 0 ≤ h) (h1 : h < 6) (hk : s (6 + h) = k) (k0 : 1 ≤ k) (k1 : k ≤ 5) (A : AK μ 90 77 23 []) (t : ∀ μ', AK μ' 90 77 23 (q_sl k) → FrT μ μ' → Q (some (kI (q_sv s h))) (kg L) μ') : kx_cx (ke (d + 7)) 186 [kR 77, kI h] (kg L) μ Q := by
  refine ke_start (tb := kt_M_sizeOf) (ls := [some (kR 77), some (kI h), none]) rfl rfl ?_
  refine ks_aload_n rfl rfl ?_
  refine ks_getr (b := 81) rfl rfl rfl rfl (by decide) ?_
  refine ks_bipush rfl ?_
  refine ks_iload_n rfl rfl ?_
  refine ks_iadd rfl ?_
  refine ks_iaload rfl rfl (by omega) (by omega) (by (try simp only [kx_up_at, kx_row_at, up1_at, Nat.reduceEqDiff, Int.reduceEq, Int.reduceNeg, and_true, true_and, and_false, false_and, and_self, reduceIte, Nat.add_left_cancel_iff, Nat.add_eq_left, Nat.left_eq_add, Nat.reduceAdd, Int.add_left_inj, Int.add_right_inj, hs, hk]); rfl) ?_
  refine ks_istore_n_2 rfl rfl ?_
  refine ks_iload_n rfl rfl ?_
  refine ks_iconst rfl ?_
  -- at 12: if ne -> 28 else 15 st ['2', None]
  refine ks_icmp_ne rfl ⟨by omega, by omega⟩ ⟨by omega, by omega⟩ (fun c => ?_) (fun c => ?_)
  · subst c
    refine ks_aload_n rfl rfl ?_
    refine ks_bipush rfl ?_
    refine ks_callv_2 rfl rfl rfl (Nat.le_of_ble_eq_true rfl) ?_
    -- at 18: call M_begin st []
    refine r_begin A (by show 0 < 16; omega) (fun μ1 A1 F1 => ?_)
    show kx_wx _ _ _ _ _ _ _ _
    refine ks_aload_n rfl rfl ?_
    refine ks_iload_n rfl rfl ?_
    refine ks_callv_2 rfl rfl rfl (Nat.le_of_ble_eq_true rfl) ?_
    -- at 23: call M_firmSize st []
    refine r_firmSize (FrT_81 hs F1) h0 h1 hk k0 k1 A1 (by show 1 < 9; omega) (fun μ2 A2 F2 => ?_)
    show kx_wx _ _ _ _ _ (_ :: _) _ _
    refine ks_ineg rfl ?_
    refine ks_ireturn rfl ?_
    -- at 27: ret  st [None]
    have e1 : q_sv s h = -(s (12 + h) + q_mv s h) := by unfold q_sv q_mv; rw [hk]; rfl
    rw [e1] at t
    exact t _ A2 (FrT_tr F1 F2)
  · refine ks_iload_n rfl rfl ?_
    refine ks_iconst rfl ?_
    -- at 30: if lt -> 41 else 33 st ['4', None]
    refine ks_icmp_lt rfl ⟨by omega, by omega⟩ ⟨by omega, by omega⟩ (fun c2 => ?_) (fun c2 => ?_)
    · refine ks_aload_n rfl rfl ?_
      refine ks_iload_n rfl rfl ?_
      refine ks_callv_2 rfl rfl rfl (Nat.le_of_ble_eq_true rfl) ?_
      -- at 43: call M_firmSize st []
      refine r_firmSize hs h0 h1 hk k0 k1 A (by show 0 < 9; omega) (fun μ2 A2 F2 => ?_)
      show kx_wx _ _ _ _ _ (_ :: _) _ _
      refine ks_ireturn rfl ?_
      -- at 46: ret  st [None]
      have e1 : q_sv s h = s (12 + h) + q_mv s h := by unfold q_sv; rw [hk, if_neg c, if_neg (by omega), if_neg (by omega)]
      have e3 : q_sl k = [] ++ ([11, 10] ++ q_ml k) := by
        have hc : k = 1 ∨ k = 3 := by omega
        rcases hc with g | g <;> subst g <;> rfl
      rw [e1, e3] at t
      exact t _ A2 F2
    · refine ks_aload_n rfl rfl ?_
      refine ks_iload_n rfl rfl ?_
      refine ks_callv_2 rfl rfl rfl (Nat.le_of_ble_eq_true rfl) ?_
      -- at 35: call M_sizeOfWindy st []
      refine r_sizeOfWindy hs h0 h1 hk (by omega) k1 A (by show 0 < 14; omega) (fun μ2 A2 F2 => ?_)
      show kx_wx _ _ _ _ _ (_ :: _) _ _
      refine ks_goto rfl ?_
      refine ks_ireturn rfl ?_
      -- at 46: ret  st [None]
      exact t _ A2 F2
theorem r_Mask (hh : kx_in h) (hw : kx_in w) (hs : μ 81 = s) (N : TN s) (t1 : ¬ ((0 ≤ h ∧ h < s 1) ∧ (0 ≤ w ∧ w ≤ 1)) → Q (some (kI (-1000001))) (kg L) μ) (t2 : 0 ≤ h → h < s 1 → 0 ≤ w → w ≤ 1 → ∀ μ', AK μ' 90 77 23 (if w = 0 then q_sl (s (6 + h)) else q_ml (s (6 + h))) → FrT μ μ' → Q (some (kI (if w = 0 then q_sv s h else q_mv s h))) (kg L) μ') : kx_cx (ke (d + 8)) 187 [kR 77, kI h, kI w] (kg L) μ Q := by
  refine ke_start (tb := kt_M_ask) (ls := [some (kR 77), some (kI h), some (kI w)]) rfl rfl ?_
  obtain ⟨n1, n2, n3⟩ := TN_in N
  obtain ⟨_, _⟩ := hw
  refine ks_aload_n rfl rfl ?_
  refine ks_iload_n rfl rfl ?_
  refine ks_callv_2 rfl rfl rfl (Nat.le_of_ble_eq_true rfl) ?_
  -- at 2: call M_isHead st []
  refine r_isHead hh (by rw [hs]; exact ⟨by omega, by omega⟩) (fun c => ?_) (fun c => ?_)
  · rw [hs] at c
    show kx_wx _ _ _ _ _ (_ :: _) _ _
    refine ks_if_eq_1 rfl ?_
    refine ks_iload_n rfl rfl ?_
    refine ks_i2l rfl ⟨by omega, by omega⟩ ?_
    refine ks_lconst rfl ?_
    refine ks_lconst rfl ?_
    refine ks_calls_3 rfl (Nat.le_of_ble_eq_true rfl) ?_
    -- at 12: call M_in st []
    refine r_in ⟨by omega, by omega⟩ ⟨by omega, by omega⟩ ⟨by omega, by omega⟩ (fun c2 => ?_) (fun c2 => ?_)
    · obtain ⟨W, Z⟩ := TN_W N (by omega)
      have w7 := W.2.2.2.2.2.2.1 h c.1 c.2
      have t3 := t2 c.1 c.2 c2.1 c2.2
      show kx_wx _ _ _ _ _ (_ :: _) _ _
      refine ks_if_ne_1 rfl ?_
      refine ks_aload_n rfl rfl ?_
      refine ks_iconst rfl ?_
      refine ks_puti rfl rfl ?_
      refine ks_iload_n rfl rfl ?_
      -- at 27: if ne -> 38 else 30 st [None]
      have A0 : AK (kx_up μ 77 23 0) 90 77 23 [] := ⟨kx_up_self _ _ _ _, fun i hi => absurd hi (Nat.not_lt_zero i)⟩
      have F0 : FrT μ (kx_up μ 77 23 0) := ⟨fun j hj => kx_up_oth hj, fun c a b => kx_up_row a⟩
      have hs0 : kx_up μ 77 23 0 81 = s := by rw [kx_up_row (by omega)]; exact hs
      generalize kx_up μ 77 23 0 = μ0 at *
      refine ks_if_ne rfl ⟨by omega, by omega⟩ (fun c3 => ?_) (fun c3 => ?_)
      · refine ks_aload_n rfl rfl ?_
        refine ks_iload_n rfl rfl ?_
        refine ks_callv_2 rfl rfl rfl (Nat.le_of_ble_eq_true rfl) ?_
        -- at 32: call M_sizeOf st []
        rw [if_pos c3] at t3
        rw [if_pos c3] at t3
        refine r_sizeOf hs0 c.1 (by omega) rfl w7.1.1 w7.1.2 A0 (fun μ1 A1 F1 => ?_)
        show kx_wx _ _ _ _ _ (_ :: _) _ _
        refine ks_goto rfl ?_
        refine ks_ireturn rfl ?_
        -- at 43: ret  st [None]
        exact t3 _ A1 (FrT_tr F0 F1)
      · refine ks_aload_n rfl rfl ?_
        refine ks_iload_n rfl rfl ?_
        refine ks_callv_2 rfl rfl rfl (Nat.le_of_ble_eq_true rfl) ?_
        -- at 40: call M_markOf st []
        rw [if_neg c3] at t3
        rw [if_neg c3] at t3
        refine r_markOf hs0 c.1 (by omega) rfl w7.1.1 w7.1.2 A0 (by show 0 < 11; omega) (fun μ1 A1 F1 => ?_)
        show kx_wx _ _ _ _ _ (_ :: _) _ _
        refine ks_ireturn rfl ?_
        -- at 43: ret  st [None]
        exact t3 _ A1 (FrT_tr F0 F1)
    · show kx_wx _ _ _ _ _ (_ :: _) _ _
      refine ks_if_ne_0 rfl ?_
      refine ks_ldc rfl ?_
      refine ks_ireturn rfl ?_
      -- at 20: ret  st ['-1000001']
      exact t1 (fun q => c2 q.2)
  · rw [hs] at c
    show kx_wx _ _ _ _ _ (_ :: _) _ _
    refine ks_if_eq_0 rfl ?_
    refine ks_ldc rfl ?_
    refine ks_ireturn rfl ?_
    -- at 20: ret  st ['-1000001']
    exact t1 (fun q => c q.1)
theorem r_Xask (hh : kx_in h) (hw : kx_in w) (B : TB μ) (T : TR μ 30 s) (N : TN s) (t1 : ¬ ((0 ≤ h ∧ h < s 1) ∧ (0 ≤ w ∧ w ≤ 1)) → Q (some (kI (-1000001))) (kg L) μ) (t2 : 0 ≤ h → h < s 1 → 0 ≤ w → w ≤ 1 → ∀ μ', AK μ' 56 55 1 (if w = 0 then q_sl (s (6 + h)) else q_ml (s (6 + h))) → FrC μ μ' → Q (some (kI (if w = 0 then q_sv s h else q_mv s h))) (kg L) μ') : kx_cx (ke (d + 10)) 101 [kR 1, kI h, kI w] (kg L) μ Q := by
  refine ke_start (tb := kt_X_ask) (ls := [some (kR 1), some (kI h), some (kI w)]) rfl rfl ?_
  obtain ⟨n1, n2, n3⟩ := TN_in N
  have e8 := T.1
  refine ks_aload_n rfl rfl ?_
  refine ks_getr (b := 30) rfl rfl rfl rfl (by decide) ?_
  refine ks_iload_n rfl rfl ?_
  refine ks_callv_2 rfl rfl rfl (Nat.le_of_ble_eq_true rfl) ?_
  -- at 5: call Town_hasHead st []
  refine r_hasHead (kg_T30 L) hh ⟨by omega, by omega⟩ (fun c => ?_) (fun c => ?_)
  · show kx_wx _ _ _ _ _ (_ :: _) _ _
    refine ks_if_eq_1 rfl ?_
    refine ks_iload_n rfl rfl ?_
    refine ks_iconst rfl ?_
    refine ks_iconst rfl ?_
    refine ks_calls_3 rfl (Nat.le_of_ble_eq_true rfl) ?_
    -- at 14: call X_isBetween st []
    refine r_isBetween hw ⟨by omega, by omega⟩ ⟨by omega, by omega⟩ (fun c2 => ?_) (fun c2 => ?_)
    · obtain ⟨W, Z⟩ := TN_W N (by omega)
      have t3 := t2 c.1 (by omega) c2.1 c2.2
      show kx_wx _ _ _ _ _ (_ :: _) _ _
      refine ks_if_ne_1 rfl ?_
      refine ks_aload_n rfl rfl ?_
      refine ks_getr (b := 55) rfl rfl rfl rfl (by decide) ?_
      refine ks_aload_n rfl rfl ?_
      refine ks_getr (b := 30) rfl rfl rfl rfl (by decide) ?_
      refine ks_iload_n rfl rfl ?_
      refine ks_iload_n rfl rfl ?_
      refine ks_callv_4 rfl rfl rfl (Nat.le_of_ble_eq_true rfl) ?_
      -- at 33: call Asker_answer st []
      refine ke_start (m := 6) (tb := kt_Asker_answer) (ls := [some (kR 55), some (kR 30), some (kI h), some (kI w)]) rfl rfl ?_
      have A0 : AK (kx_up μ 55 1 0) 56 55 1 [] := ⟨kx_up_self _ _ _ _, fun i hi => absurd hi (Nat.not_lt_zero i)⟩
      have F0 : FrC μ (kx_up μ 55 1 0) := fun c a b => kx_up_row a
      refine ks_aload_n rfl rfl ?_
      refine ks_iconst rfl ?_
      refine ks_puti rfl rfl ?_
      refine ks_aload_n rfl rfl ?_
      refine ks_iload_n rfl rfl ?_
      refine ks_aload_n rfl rfl ?_
      refine ks_iload_n rfl rfl ?_
      refine ks_iconst rfl ?_
      refine ks_callv_5 rfl rfl rfl (Nat.le_of_ble_eq_true rfl) ?_
      -- at 10: call Asker_askAnew st []
      generalize kx_up μ 55 1 0 = μ0 at *
      refine r_askAnew (TB_C B F0) (TR_C T F0) W c.1 (by omega) c2.1 c2.2 A0 (fun μ1 A1 F1 => ?_)
      show kx_wx _ _ _ _ _ (_ :: _) _ _
      refine ks_ireturn rfl ?_
      -- at 13: ret  st [None]
      show kx_wx _ _ _ _ _ (_ :: _) _ _
      refine ks_ireturn rfl ?_
      -- at 36: ret  st [None]
      exact t3 _ A1 (FrC_tr F0 F1)
    · show kx_wx _ _ _ _ _ (_ :: _) _ _
      refine ks_if_ne_0 rfl ?_
      refine ks_ldc rfl ?_
      refine ks_ireturn rfl ?_
      -- at 22: ret  st ['-1000001']
      exact t1 (fun q => c2 q.2)
  · show kx_wx _ _ _ _ _ (_ :: _) _ _
    refine ks_if_eq_0 rfl ?_
    refine ks_ldc rfl ?_
    refine ks_ireturn rfl ?_
    -- at 22: ret  st ['-1000001']
    exact t1 (fun q => c (by omega))
theorem r_Xtrace (hv : kx_in v) (hm : 0 ≤ μ 55 1 ∧ μ 55 1 ≤ 16) (t0 : ¬ (0 ≤ v ∧ v < μ 55 1) → Q (some (kI (-1000000))) (kg L) μ) (t1 : 0 ≤ v → v < μ 55 1 → Q (some (kI (μ 56 v))) (kg L) μ) : kx_cx (ke (d + 2)) 102 [kR 1, kI v] (kg L) μ Q := by
  refine ke_start (tb := kt_X_trace) (ls := [some (kR 1), some (kI v)]) rfl rfl ?_
  obtain ⟨_, _⟩ := hv
  refine ks_aload_n rfl rfl ?_
  refine ks_getr (b := 55) rfl rfl rfl rfl (by decide) ?_
  refine ks_iload_n rfl rfl ?_
  refine ks_callv_2 rfl rfl rfl (Nat.le_of_ble_eq_true rfl) ?_
  -- at 5: call Asker_numberAt st []
  refine ke_start (m := 5) (tb := kt_Asker_numberAt) (ls := [some (kR 55), some (kI v)]) rfl rfl ?_
  refine ks_iconst rfl ?_
  refine ks_iload_n rfl rfl ?_
  -- at 2: if gt -> 22 else 5 st [None, '0']
  refine ks_icmp_gt rfl ⟨by omega, by omega⟩ ⟨by omega, by omega⟩ (fun c => ?_) (fun c => ?_)
  · refine ks_ldc rfl ?_
    refine ks_ireturn rfl ?_
    -- at 24: ret  st ['-1000000']
    show kx_wx _ _ _ _ _ (_ :: _) _ _
    refine ks_ireturn rfl ?_
    -- at 8: ret  st [None]
    exact t0 (by omega)
  · refine ks_iload_n rfl rfl ?_
    refine ks_aload_n rfl rfl ?_
    refine ks_geti rfl rfl rfl rfl (by (try simp only [kx_up_at, kx_row_at, up1_at, Nat.reduceEqDiff, Int.reduceEq, Int.reduceNeg, and_true, true_and, and_false, false_and, and_self, reduceIte, Nat.add_left_cancel_iff, Nat.add_eq_left, Nat.left_eq_add, Nat.reduceAdd, Int.add_left_inj, Int.add_right_inj]); rfl) ?_
    -- at 10: if ge -> 22 else 13 st [None, None]
    refine ks_icmp_ge rfl ⟨by omega, by omega⟩ ⟨by omega, by omega⟩ (fun c2 => ?_) (fun c2 => ?_)
    · refine ks_aload_n rfl rfl ?_
      refine ks_getr (b := 56) rfl rfl rfl rfl (by decide) ?_
      refine ks_iload_n rfl rfl ?_
      refine ks_iaload rfl rfl (by omega) (by omega) (by (try simp only [kx_up_at, kx_row_at, up1_at, Nat.reduceEqDiff, Int.reduceEq, Int.reduceNeg, and_true, true_and, and_false, false_and, and_self, reduceIte, Nat.add_left_cancel_iff, Nat.add_eq_left, Nat.left_eq_add, Nat.reduceAdd, Int.add_left_inj, Int.add_right_inj]); rfl) ?_
      refine ks_goto rfl ?_
      refine ks_ireturn rfl ?_
      -- at 24: ret  st [None]
      show kx_wx _ _ _ _ _ (_ :: _) _ _
      refine ks_ireturn rfl ?_
      -- at 8: ret  st [None]
      exact t1 (by omega) c2
    · refine ks_ldc rfl ?_
      refine ks_ireturn rfl ?_
      -- at 24: ret  st ['-1000000']
      show kx_wx _ _ _ _ _ (_ :: _) _ _
      refine ks_ireturn rfl ?_
      -- at 8: ret  st [None]
      exact t0 (by omega)
theorem r_Mtrace (hv : kx_in v) (hm : 0 ≤ μ 77 23 ∧ μ 77 23 ≤ 16) (t0 : ¬ (0 ≤ v ∧ v < μ 77 23) → Q (some (kI (-1000000))) (kg L) μ) (t1 : 0 ≤ v → v < μ 77 23 → Q (some (kI (μ 90 v))) (kg L) μ) : kx_cx (ke (d + 2)) 188 [kR 77, kI v] (kg L) μ Q := by
  refine ke_start (tb := kt_M_trace) (ls := [some (kR 77), some (kI v)]) rfl rfl ?_
  obtain ⟨_, _⟩ := hv
  refine ks_iload_n rfl rfl ?_
  refine ks_i2l rfl ⟨by omega, by omega⟩ ?_
  refine ks_lconst rfl ?_
  refine ks_aload_n rfl rfl ?_
  refine ks_geti rfl rfl rfl rfl (by (try simp only [kx_up_at, kx_row_at, up1_at, Nat.reduceEqDiff, Int.reduceEq, Int.reduceNeg, and_true, true_and, and_false, false_and, and_self, reduceIte, Nat.add_left_cancel_iff, Nat.add_eq_left, Nat.left_eq_add, Nat.reduceAdd, Int.add_left_inj, Int.add_right_inj]); rfl) ?_
  refine ks_iconst rfl ?_
  refine ks_isub rfl ?_
  refine ks_i2l rfl ⟨by omega, by omega⟩ ?_
  refine ks_calls_3 rfl (Nat.le_of_ble_eq_true rfl) ?_
  -- at 10: call M_in st []
  refine r_in ⟨by omega, by omega⟩ ⟨by omega, by omega⟩ ⟨by omega, by omega⟩ (fun c => ?_) (fun c => ?_)
  · show kx_wx _ _ _ _ _ (_ :: _) _ _
    refine ks_if_eq_1 rfl ?_
    refine ks_aload_n rfl rfl ?_
    refine ks_getr (b := 90) rfl rfl rfl rfl (by decide) ?_
    refine ks_iload_n rfl rfl ?_
    refine ks_iaload rfl rfl (by omega) (by omega) (by (try simp only [kx_up_at, kx_row_at, up1_at, Nat.reduceEqDiff, Int.reduceEq, Int.reduceNeg, and_true, true_and, and_false, false_and, and_self, reduceIte, Nat.add_left_cancel_iff, Nat.add_eq_left, Nat.left_eq_add, Nat.reduceAdd, Int.add_left_inj, Int.add_right_inj]); rfl) ?_
    refine ks_goto rfl ?_
    refine ks_ireturn rfl ?_
    -- at 27: ret  st [None]
    exact t1 (by omega) (by omega)
  · show kx_wx _ _ _ _ _ (_ :: _) _ _
    refine ks_if_eq_0 rfl ?_
    refine ks_ldc rfl ?_
    refine ks_ireturn rfl ?_
    -- at 27: ret  st ['-1000000']
    exact t0 (by omega)
theorem r_Xkind (hv : kx_in v) (T : TR μ 30 s) (N : TN s) (t0 : ¬ (0 ≤ v ∧ v < s 1) → Q (some (kI (-1000001))) (kg L) μ) (t1 : 0 ≤ v → v < s 1 → Q (some (kI (s (6 + v)))) (kg L) μ) : kx_cx (ke (d + 2)) 99 [kR 1, kI v] (kg L) μ Q := by
  refine ke_start (tb := kt_X_kind) (ls := [some (kR 1), some (kI v)]) rfl rfl ?_
  obtain ⟨n1, n2, n3⟩ := TN_in N
  have e8 := T.1
  refine ks_aload_n rfl rfl ?_
  refine ks_getr (b := 30) rfl rfl rfl rfl (by decide) ?_
  refine ks_iload_n rfl rfl ?_
  refine ks_callv_2 rfl rfl rfl (Nat.le_of_ble_eq_true rfl) ?_
  -- at 5: call Town_hasHead st []
  refine r_hasHead (kg_T30 L) hv ⟨by omega, by omega⟩ (fun c => ?_) (fun c => ?_)
  · have k := (T.2.2.2.2.2.2.1 v c.1 (by omega)).1
    show kx_wx _ _ _ _ _ (_ :: _) _ _
    refine ks_if_eq_1 rfl ?_
    refine ks_aload_n rfl rfl ?_
    refine ks_getr (b := 30) rfl rfl rfl rfl (by decide) ?_
    refine ks_getr (b := 31) rfl rfl rfl rfl (by decide) ?_
    refine ks_iload_n rfl rfl ?_
    refine ks_iaload rfl rfl (by omega) (by omega) (by (try simp only [kx_up_at, kx_row_at, up1_at, Nat.reduceEqDiff, Int.reduceEq, Int.reduceNeg, and_true, true_and, and_false, false_and, and_self, reduceIte, Nat.add_left_cancel_iff, Nat.add_eq_left, Nat.left_eq_add, Nat.reduceAdd, Int.add_left_inj, Int.add_right_inj, k]); rfl) ?_
    refine ks_goto rfl ?_
    refine ks_ireturn rfl ?_
    -- at 25: ret  st [None]
    exact t1 c.1 (by omega)
  · show kx_wx _ _ _ _ _ (_ :: _) _ _
    refine ks_if_eq_0 rfl ?_
    refine ks_ldc rfl ?_
    refine ks_ireturn rfl ?_
    -- at 25: ret  st ['-1000001']
    exact t0 (by omega)
theorem r_Mkind (hv : kx_in v) (hs : μ 81 = s) (N : TN s) (t0 : ¬ (0 ≤ v ∧ v < s 1) → Q (some (kI (-1000001))) (kg L) μ) (t1 : 0 ≤ v → v < s 1 → Q (some (kI (s (6 + v)))) (kg L) μ) : kx_cx (ke (d + 3)) 176 [kR 77, kI v] (kg L) μ Q := by
  refine ke_start (tb := kt_M_kind) (ls := [some (kR 77), some (kI v)]) rfl rfl ?_
  obtain ⟨n1, n2, n3⟩ := TN_in N
  refine ks_aload_n rfl rfl ?_
  refine ks_iload_n rfl rfl ?_
  refine ks_callv_2 rfl rfl rfl (Nat.le_of_ble_eq_true rfl) ?_
  -- at 2: call M_isHead st []
  refine r_isHead hv (by rw [hs]; exact ⟨by omega, by omega⟩) (fun c => ?_) (fun c => ?_)
  · rw [hs] at c
    show kx_wx _ _ _ _ _ (_ :: _) _ _
    refine ks_if_eq_1 rfl ?_
    refine ks_aload_n rfl rfl ?_
    refine ks_getr (b := 81) rfl rfl rfl rfl (by decide) ?_
    refine ks_bipush rfl ?_
    refine ks_iload_n rfl rfl ?_
    refine ks_iadd rfl ?_
    refine ks_iaload rfl rfl (by omega) (by omega) (by (try simp only [kx_up_at, kx_row_at, up1_at, Nat.reduceEqDiff, Int.reduceEq, Int.reduceNeg, and_true, true_and, and_false, false_and, and_self, reduceIte, Nat.add_left_cancel_iff, Nat.add_eq_left, Nat.left_eq_add, Nat.reduceAdd, Int.add_left_inj, Int.add_right_inj, hs]); rfl) ?_
    refine ks_goto rfl ?_
    refine ks_ireturn rfl ?_
    -- at 22: ret  st [None]
    exact t1 c.1 c.2
  · rw [hs] at c
    show kx_wx _ _ _ _ _ (_ :: _) _ _
    refine ks_if_eq_0 rfl ?_
    refine ks_ldc rfl ?_
    refine ks_ireturn rfl ?_
    -- at 22: ret  st ['-1000001']
    exact t0 c
/-- k is one of kind a -/
def q_is (k a : Int) : Prop := a = 0 ∨ k = a ∨ (a = 1 ∧ k < 4) ∨ (a = 4 ∧ k = 5)
theorem r_isKind {k a : Int} (k0 : 1 ≤ k) (k1 : k ≤ 5) (a0 : 0 ≤ a) (a1 : a ≤ 5) (t1 : q_is k a → Q (some (kI 1)) G μ) (t0 : ¬ q_is k a → Q (some (kI 0)) G μ) : kx_cx (ke (d + 1)) 177 [kI k, kI a] G μ Q := by
  refine ke_start (tb := kt_M_isKind) (ls := [some (kI k), some (kI a)]) rfl rfl ?_
  unfold q_is at t1 t0
  refine ks_iload_n rfl rfl ?_
  refine ks_if_eq rfl ⟨by omega, by omega⟩ (fun h1 => ?_) (fun h1 => ?_)
  · refine ks_iconst rfl ?_
    refine ks_goto rfl ?_
    refine ks_zreturn rfl (by omega) ?_
    first | exact t1 (by omega) | exact t0 (by omega)
  · refine ks_iload_n rfl rfl ?_
    refine ks_iload_n rfl rfl ?_
    refine ks_icmp_eq rfl ⟨by omega, by omega⟩ ⟨by omega, by omega⟩ (fun h2 => ?_) (fun h2 => ?_)
    · refine ks_iconst rfl ?_
      refine ks_goto rfl ?_
      refine ks_zreturn rfl (by omega) ?_
      first | exact t1 (by omega) | exact t0 (by omega)
    · refine ks_iload_n rfl rfl ?_
      refine ks_iconst rfl ?_
      refine ks_icmp_ne rfl ⟨by omega, by omega⟩ ⟨by omega, by omega⟩ (fun h3 => ?_) (fun h3 => ?_)
      · refine ks_iload_n rfl rfl ?_
        refine ks_iconst rfl ?_
        refine ks_icmp_lt rfl ⟨by omega, by omega⟩ ⟨by omega, by omega⟩ (fun h4 => ?_) (fun h4 => ?_)
        · refine ks_iconst rfl ?_
          refine ks_goto rfl ?_
          refine ks_zreturn rfl (by omega) ?_
          first | exact t1 (by omega) | exact t0 (by omega)
        · refine ks_iload_n rfl rfl ?_
          refine ks_iconst rfl ?_
          refine ks_icmp_ne rfl ⟨by omega, by omega⟩ ⟨by omega, by omega⟩ (fun h5 => ?_) (fun h5 => ?_)
          · refine ks_iload_n rfl rfl ?_
            refine ks_iconst rfl ?_
            refine ks_icmp_ne rfl ⟨by omega, by omega⟩ ⟨by omega, by omega⟩ (fun h6 => ?_) (fun h6 => ?_)
            · refine ks_iconst rfl ?_
              refine ks_goto rfl ?_
              refine ks_zreturn rfl (by omega) ?_
              first | exact t1 (by omega) | exact t0 (by omega)
            · refine ks_iconst rfl ?_
              refine ks_zreturn rfl (by omega) ?_
              first | exact t1 (by omega) | exact t0 (by omega)
          · refine ks_iconst rfl ?_
            refine ks_zreturn rfl (by omega) ?_
            first | exact t1 (by omega) | exact t0 (by omega)
      · refine ks_iload_n rfl rfl ?_
        refine ks_iconst rfl ?_
        refine ks_icmp_ne rfl ⟨by omega, by omega⟩ ⟨by omega, by omega⟩ (fun h7 => ?_) (fun h7 => ?_)
        · refine ks_iload_n rfl rfl ?_
          refine ks_iconst rfl ?_
          refine ks_icmp_ne rfl ⟨by omega, by omega⟩ ⟨by omega, by omega⟩ (fun h8 => ?_) (fun h8 => ?_)
          · refine ks_iconst rfl ?_
            refine ks_goto rfl ?_
            refine ks_zreturn rfl (by omega) ?_
            first | exact t1 (by omega) | exact t0 (by omega)
          · refine ks_iconst rfl ?_
            refine ks_zreturn rfl (by omega) ?_
            first | exact t1 (by omega) | exact t0 (by omega)
        · refine ks_iconst rfl ?_
          refine ks_zreturn rfl (by omega) ?_
          first | exact t1 (by omega) | exact t0 (by omega)
theorem l_isOne {K k j k' a : Int} (a0 : 0 ≤ a) (a1 : a ≤ 5) (k0 : 0 ≤ k) (k1 : k ≤ 5) (j0 : 0 ≤ j) (j1 : j ≤ 5) (hk : μ 101 k = k') (t1 : k = a → Q (some (kI 1)) (kg L) μ) (t0 : k ≠ a → kx_wx (ke d) kt_Kinds_isOne Q 4 [some (kI K), some (kI a), some (kI k'), some (kI (j + 1))] [] (kg L) μ) : kx_wx (ke d) kt_Kinds_isOne Q 4 [some (kI K), some (kI a), some (kI k), some (kI j)] [] (kg L) μ := by
  refine ks_iload_n rfl rfl ?_
  refine ks_bipush rfl ?_
  -- at 7: if ge -> 29 else 10 st ['6', None]
  refine ks_icmp_ge rfl ⟨by omega, by omega⟩ ⟨by omega, by omega⟩ (fun c => ?_) (fun c => absurd c (by omega))
  refine ks_iload_n rfl rfl ?_
  refine ks_iload_n rfl rfl ?_
  -- at 12: if ne -> 17 else 15 st [None, None]
  refine ks_icmp_ne rfl ⟨by omega, by omega⟩ ⟨by omega, by omega⟩ (fun c2 => ?_) (fun c2 => ?_)
  · refine ks_iconst rfl ?_
    refine ks_zreturn rfl (by omega) ?_
    -- at 16: ret  st ['1']
    exact t1 c2
  · refine ks_getstatic rfl ?_
    refine ks_iload_n rfl rfl ?_
    refine ks_iaload7 rfl rfl (by omega) (by omega) (by (try simp only [kx_up_at, kx_row_at, up1_at, Nat.reduceEqDiff, Int.reduceEq, Int.reduceNeg, and_true, true_and, and_false, false_and, and_self, reduceIte, Nat.add_left_cancel_iff, Nat.add_eq_left, Nat.left_eq_add, Nat.reduceAdd, Int.add_left_inj, Int.add_right_inj, hk]); rfl) ?_
    refine ks_istore_n_2 rfl rfl ?_
    refine ks_iinc_3 rfl rfl ?_
    refine ks_goto rfl ?_
    -- at 4: stop  st []
    exact t0 c2
theorem e_isOne {K k a : Int} (t : Q (some (kI 0)) (kg L) μ) : kx_wx (ke d) kt_Kinds_isOne Q 4 [some (kI K), some (kI a), some (kI k), some (kI (0 + 1 + 1 + 1 + 1 + 1 + 1))] [] (kg L) μ := by
  refine ks_iload_n rfl rfl ?_
  refine ks_bipush rfl ?_
  -- at 7: if ge -> 29 else 10 st ['6', None]
  refine ks_icmp_ge rfl ⟨by omega, by omega⟩ ⟨by omega, by omega⟩ (fun c => absurd c (by omega)) (fun c => ?_)
  refine ks_iconst rfl ?_
  refine ks_zreturn rfl (by omega) ?_
  -- at 30: ret  st ['0']
  exact t
theorem r_isOne {k a : Int} (B : TB μ) (k0 : 1 ≤ k) (k1 : k ≤ 5) (a0 : 0 ≤ a) (a1 : a ≤ 5) (t1 : q_is k a → Q (some (kI 1)) (kg L) μ) (t0 : ¬ q_is k a → Q (some (kI 0)) (kg L) μ) : kx_cx (ke (d + 1)) 28 [kI k, kI a] (kg L) μ Q := by
  refine ke_start (tb := kt_Kinds_isOne) (ls := [some (kI k), some (kI a), none, none]) rfl rfl ?_
  obtain ⟨b1, b2, b3, b4⟩ := B
  unfold q_is at t1 t0
  have z0 : μ 101 0 = 0 := by rw [b1]; rfl
  have z1 : μ 101 1 = 0 := by rw [b1]; rfl
  have z2 : μ 101 2 = 1 := by rw [b1]; rfl
  have z3 : μ 101 3 = 1 := by rw [b1]; rfl
  have z4 : μ 101 4 = 0 := by rw [b1]; rfl
  have z5 : μ 101 5 = 4 := by rw [b1]; rfl
  refine ks_iload_n rfl rfl ?_
  refine ks_istore_n_2 rfl rfl ?_
  refine ks_iconst rfl ?_
  refine ks_istore_n_3 rfl rfl ?_
  -- at 4: stop  st []
  have hc : k = 1 ∨ k = 2 ∨ k = 3 ∨ k = 4 ∨ k = 5 := by omega
  rcases hc with g | g | g | g | g
  · subst g
    refine l_isOne a0 a1 (by omega) (by omega) (by omega) (by omega) z1 (fun q => t1 (by omega)) (fun q1 => ?_)
    refine l_isOne a0 a1 (by omega) (by omega) (by omega) (by omega) z0 (fun q => t1 (by omega)) (fun q2 => ?_)
    refine l_isOne a0 a1 (by omega) (by omega) (by omega) (by omega) z0 (fun q => t1 (by omega)) (fun q3 => ?_)
    refine l_isOne a0 a1 (by omega) (by omega) (by omega) (by omega) z0 (fun q => t1 (by omega)) (fun q4 => ?_)
    refine l_isOne a0 a1 (by omega) (by omega) (by omega) (by omega) z0 (fun q => t1 (by omega)) (fun q5 => ?_)
    refine l_isOne a0 a1 (by omega) (by omega) (by omega) (by omega) z0 (fun q => t1 (by omega)) (fun q6 => ?_)
    exact e_isOne (t0 (by omega))
  · subst g
    refine l_isOne a0 a1 (by omega) (by omega) (by omega) (by omega) z2 (fun q => t1 (by omega)) (fun q1 => ?_)
    refine l_isOne a0 a1 (by omega) (by omega) (by omega) (by omega) z1 (fun q => t1 (by omega)) (fun q2 => ?_)
    refine l_isOne a0 a1 (by omega) (by omega) (by omega) (by omega) z0 (fun q => t1 (by omega)) (fun q3 => ?_)
    refine l_isOne a0 a1 (by omega) (by omega) (by omega) (by omega) z0 (fun q => t1 (by omega)) (fun q4 => ?_)
    refine l_isOne a0 a1 (by omega) (by omega) (by omega) (by omega) z0 (fun q => t1 (by omega)) (fun q5 => ?_)
    refine l_isOne a0 a1 (by omega) (by omega) (by omega) (by omega) z0 (fun q => t1 (by omega)) (fun q6 => ?_)
    exact e_isOne (t0 (by omega))
  · subst g
    refine l_isOne a0 a1 (by omega) (by omega) (by omega) (by omega) z3 (fun q => t1 (by omega)) (fun q1 => ?_)
    refine l_isOne a0 a1 (by omega) (by omega) (by omega) (by omega) z1 (fun q => t1 (by omega)) (fun q2 => ?_)
    refine l_isOne a0 a1 (by omega) (by omega) (by omega) (by omega) z0 (fun q => t1 (by omega)) (fun q3 => ?_)
    refine l_isOne a0 a1 (by omega) (by omega) (by omega) (by omega) z0 (fun q => t1 (by omega)) (fun q4 => ?_)
    refine l_isOne a0 a1 (by omega) (by omega) (by omega) (by omega) z0 (fun q => t1 (by omega)) (fun q5 => ?_)
    refine l_isOne a0 a1 (by omega) (by omega) (by omega) (by omega) z0 (fun q => t1 (by omega)) (fun q6 => ?_)
    exact e_isOne (t0 (by omega))
  · subst g
    refine l_isOne a0 a1 (by omega) (by omega) (by omega) (by omega) z4 (fun q => t1 (by omega)) (fun q1 => ?_)
    refine l_isOne a0 a1 (by omega) (by omega) (by omega) (by omega) z0 (fun q => t1 (by omega)) (fun q2 => ?_)
    refine l_isOne a0 a1 (by omega) (by omega) (by omega) (by omega) z0 (fun q => t1 (by omega)) (fun q3 => ?_)
    refine l_isOne a0 a1 (by omega) (by omega) (by omega) (by omega) z0 (fun q => t1 (by omega)) (fun q4 => ?_)
    refine l_isOne a0 a1 (by omega) (by omega) (by omega) (by omega) z0 (fun q => t1 (by omega)) (fun q5 => ?_)
    refine l_isOne a0 a1 (by omega) (by omega) (by omega) (by omega) z0 (fun q => t1 (by omega)) (fun q6 => ?_)
    exact e_isOne (t0 (by omega))
  · subst g
    refine l_isOne a0 a1 (by omega) (by omega) (by omega) (by omega) z5 (fun q => t1 (by omega)) (fun q1 => ?_)
    refine l_isOne a0 a1 (by omega) (by omega) (by omega) (by omega) z4 (fun q => t1 (by omega)) (fun q2 => ?_)
    refine l_isOne a0 a1 (by omega) (by omega) (by omega) (by omega) z0 (fun q => t1 (by omega)) (fun q3 => ?_)
    refine l_isOne a0 a1 (by omega) (by omega) (by omega) (by omega) z0 (fun q => t1 (by omega)) (fun q4 => ?_)
    refine l_isOne a0 a1 (by omega) (by omega) (by omega) (by omega) z0 (fun q => t1 (by omega)) (fun q5 => ?_)
    refine l_isOne a0 a1 (by omega) (by omega) (by omega) (by omega) z0 (fun q => t1 (by omega)) (fun q6 => ?_)
    exact e_isOne (t0 (by omega))
theorem r_Xas (hv : kx_in v) (hw : kx_in w) (B : TB μ) (T : TR μ 30 s) (N : TN s) (t1 : ¬ ((0 ≤ v ∧ v < s 1) ∧ (0 ≤ w ∧ w ≤ 5)) → Q (some (kI (-1000001))) (kg L) μ) (t3 : 0 ≤ v → v < s 1 → 0 ≤ w → w ≤ 5 → ¬ q_is (s (6 + v)) w → Q (some (kI (-1000013))) (kg L) (kx_up μ 1 10 3)) (t2 : 0 ≤ v → v < s 1 → 0 ≤ w → w ≤ 5 → q_is (s (6 + v)) w → Q (some (kI v)) (kg L) (kx_up μ 1 10 0)) : kx_cx (ke (d + 2)) 100 [kR 1, kI v, kI w] (kg L) μ Q := by
  refine ke_start (tb := kt_X_as) (ls := [some (kR 1), some (kI v), some (kI w)]) rfl rfl ?_
  obtain ⟨n1, n2, n3⟩ := TN_in N
  have e8 := T.1
  refine ks_aload_n rfl rfl ?_
  refine ks_getr (b := 30) rfl rfl rfl rfl (by decide) ?_
  refine ks_iload_n rfl rfl ?_
  refine ks_callv_2 rfl rfl rfl (Nat.le_of_ble_eq_true rfl) ?_
  -- at 5: call Town_hasHead st []
  refine r_hasHead (kg_T30 L) hv ⟨by omega, by omega⟩ (fun c => ?_) (fun c => ?_)
  · show kx_wx _ _ _ _ _ (_ :: _) _ _
    refine ks_if_eq_1 rfl ?_
    refine ks_iload_n rfl rfl ?_
    refine ks_iconst rfl ?_
    refine ks_iconst rfl ?_
    refine ks_calls_3 rfl (Nat.le_of_ble_eq_true rfl) ?_
    -- at 14: call X_isBetween st []
    refine r_isBetween hw ⟨by omega, by omega⟩ ⟨by omega, by omega⟩ (fun c2 => ?_) (fun c2 => ?_)
    · obtain ⟨W, Z⟩ := TN_W N (by omega)
      have w7 := W.2.2.2.2.2.2.1 v c.1 (by omega)
      have k := (T.2.2.2.2.2.2.1 v c.1 (by omega)).1
      show kx_wx _ _ _ _ _ (_ :: _) _ _
      refine ks_if_ne_1 rfl ?_
      refine ks_aload_n rfl rfl ?_
      refine ks_getr (b := 30) rfl rfl rfl rfl (by decide) ?_
      refine ks_getr (b := 31) rfl rfl rfl rfl (by decide) ?_
      refine ks_iload_n rfl rfl ?_
      refine ks_iaload rfl rfl (by omega) (by omega) (by (try simp only [kx_up_at, kx_row_at, up1_at, Nat.reduceEqDiff, Int.reduceEq, Int.reduceNeg, and_true, true_and, and_false, false_and, and_self, reduceIte, Nat.add_left_cancel_iff, Nat.add_eq_left, Nat.left_eq_add, Nat.reduceAdd, Int.add_left_inj, Int.add_right_inj, k]); rfl) ?_
      refine ks_iload_n rfl rfl ?_
      refine ks_calls_2 rfl (Nat.le_of_ble_eq_true rfl) ?_
      -- at 33: call Kinds_isOne st []
      refine r_isOne B w7.1.1 w7.1.2 c2.1 c2.2 (fun c3 => ?_) (fun c3 => ?_)
      · show kx_wx _ _ _ _ _ (_ :: _) _ _
        refine ks_if_ne_1 rfl ?_
        refine ks_aload_n rfl rfl ?_
        refine ks_iload_n rfl rfl ?_
        refine ks_callv_2 rfl rfl rfl (Nat.le_of_ble_eq_true rfl) ?_
        -- at 47: call X_noFinding st []
        refine r_noFinding ?_
        show kx_wx _ _ _ _ _ (_ :: _) _ _
        refine ks_ireturn rfl ?_
        -- at 50: ret  st [None]
        exact t2 c.1 (by omega) c2.1 c2.2 c3
      · show kx_wx _ _ _ _ _ (_ :: _) _ _
        refine ks_if_ne_0 rfl ?_
        refine ks_aload_n rfl rfl ?_
        refine ks_iconst rfl ?_
        refine ks_callv_2 rfl rfl rfl (Nat.le_of_ble_eq_true rfl) ?_
        -- at 41: call X_finding st []
        refine r_finding ?_
        show kx_wx _ _ _ _ _ (_ :: _) _ _
        refine ks_ireturn rfl ?_
        -- at 44: ret  st [None]
        exact t3 c.1 (by omega) c2.1 c2.2 c3
    · show kx_wx _ _ _ _ _ (_ :: _) _ _
      refine ks_if_ne_0 rfl ?_
      refine ks_ldc rfl ?_
      refine ks_ireturn rfl ?_
      -- at 22: ret  st ['-1000001']
      exact t1 (fun q => c2 q.2)
  · show kx_wx _ _ _ _ _ (_ :: _) _ _
    refine ks_if_eq_0 rfl ?_
    refine ks_ldc rfl ?_
    refine ks_ireturn rfl ?_
    -- at 22: ret  st ['-1000001']
    exact t1 (fun q => c (by omega))
theorem r_Mas (hv : kx_in v) (hw : kx_in w) (hs : μ 81 = s) (N : TN s) (t1 : ¬ ((0 ≤ v ∧ v < s 1) ∧ (0 ≤ w ∧ w ≤ 5)) → Q (some (kI (-1000001))) (kg L) μ) (t3 : 0 ≤ v → v < s 1 → 0 ≤ w → w ≤ 5 → ¬ q_is (s (6 + v)) w → Q (some (kI (-1000013))) (kg L) (kx_up μ 77 3 3)) (t2 : 0 ≤ v → v < s 1 → 0 ≤ w → w ≤ 5 → q_is (s (6 + v)) w → Q (some (kI v)) (kg L) (kx_up μ 77 3 0)) : kx_cx (ke (d + 3)) 178 [kR 77, kI v, kI w] (kg L) μ Q := by
  refine ke_start (tb := kt_M_as) (ls := [some (kR 77), some (kI v), some (kI w)]) rfl rfl ?_
  obtain ⟨n1, n2, n3⟩ := TN_in N
  obtain ⟨_, _⟩ := hw
  refine ks_aload_n rfl rfl ?_
  refine ks_iload_n rfl rfl ?_
  refine ks_callv_2 rfl rfl rfl (Nat.le_of_ble_eq_true rfl) ?_
  -- at 2: call M_isHead st []
  refine r_isHead hv (by rw [hs]; exact ⟨by omega, by omega⟩) (fun c => ?_) (fun c => ?_)
  · rw [hs] at c
    show kx_wx _ _ _ _ _ (_ :: _) _ _
    refine ks_if_eq_1 rfl ?_
    refine ks_iload_n rfl rfl ?_
    refine ks_i2l rfl ⟨by omega, by omega⟩ ?_
    refine ks_lconst rfl ?_
    refine ks_ldc2_w rfl ?_
    refine ks_calls_3 rfl (Nat.le_of_ble_eq_true rfl) ?_
    -- at 14: call M_in st []
    refine r_in ⟨by omega, by omega⟩ ⟨by omega, by omega⟩ ⟨by omega, by omega⟩ (fun c2 => ?_) (fun c2 => ?_)
    · obtain ⟨W, Z⟩ := TN_W N (by omega)
      have w7 := W.2.2.2.2.2.2.1 v c.1 c.2
      show kx_wx _ _ _ _ _ (_ :: _) _ _
      refine ks_if_ne_1 rfl ?_
      refine ks_aload_n rfl rfl ?_
      refine ks_getr (b := 81) rfl rfl rfl rfl (by decide) ?_
      refine ks_bipush rfl ?_
      refine ks_iload_n rfl rfl ?_
      refine ks_iadd rfl ?_
      refine ks_iaload rfl rfl (by omega) (by omega) (by (try simp only [kx_up_at, kx_row_at, up1_at, Nat.reduceEqDiff, Int.reduceEq, Int.reduceNeg, and_true, true_and, and_false, false_and, and_self, reduceIte, Nat.add_left_cancel_iff, Nat.add_eq_left, Nat.left_eq_add, Nat.reduceAdd, Int.add_left_inj, Int.add_right_inj, hs]); rfl) ?_
      refine ks_iload_n rfl rfl ?_
      refine ks_calls_2 rfl (Nat.le_of_ble_eq_true rfl) ?_
      -- at 33: call M_isKind st []
      refine r_isKind w7.1.1 w7.1.2 c2.1 c2.2 (fun c3 => ?_) (fun c3 => ?_)
      · show kx_wx _ _ _ _ _ (_ :: _) _ _
        refine ks_if_eq_1 rfl ?_
        refine ks_aload_n rfl rfl ?_
        refine ks_iload_n rfl rfl ?_
        refine ks_callv_2 rfl rfl rfl (Nat.le_of_ble_eq_true rfl) ?_
        -- at 41: call M_well st []
        refine r_well ?_
        show kx_wx _ _ _ _ _ (_ :: _) _ _
        refine ks_goto rfl ?_
        refine ks_ireturn rfl ?_
        -- at 52: ret  st [None]
        exact t2 c.1 c.2 c2.1 c2.2 c3
      · show kx_wx _ _ _ _ _ (_ :: _) _ _
        refine ks_if_eq_0 rfl ?_
        refine ks_aload_n rfl rfl ?_
        refine ks_iconst rfl ?_
        refine ks_callv_2 rfl rfl rfl (Nat.le_of_ble_eq_true rfl) ?_
        -- at 49: call M_find st []
        refine r_find ?_
        show kx_wx _ _ _ _ _ (_ :: _) _ _
        refine ks_ireturn rfl ?_
        -- at 52: ret  st [None]
        exact t3 c.1 c.2 c2.1 c2.2 c3
    · show kx_wx _ _ _ _ _ (_ :: _) _ _
      refine ks_if_ne_0 rfl ?_
      refine ks_ldc rfl ?_
      refine ks_ireturn rfl ?_
      -- at 22: ret  st ['-1000001']
      exact t1 (fun q => c2 q.2)
  · rw [hs] at c
    show kx_wx _ _ _ _ _ (_ :: _) _ _
    refine ks_if_eq_0 rfl ?_
    refine ks_ldc rfl ?_
    refine ks_ireturn rfl ?_
    -- at 22: ret  st ['-1000001']
    exact t1 (fun q => c q.1)
end AT
