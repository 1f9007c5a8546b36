/-! asks -/
/-- the trace: its length in field f of cell a, its numbers in cell c -/
def AK (μ : kx_M) (c a : Nat) (f : Int) (l : List Int) : Prop := μ a f = (l.length : Nat) ∧ ∀ i : Nat, i < l.length → μ c i = l.getD i 0
def FrC (μ μ' : kx_M) : Prop := ∀ c, c ≠ 55 → c ≠ 56 → μ' c = μ c
def FrT (μ μ' : kx_M) : Prop := (∀ j, j ≠ 23 → μ' 77 j = μ 77 j) ∧ ∀ c, c ≠ 77 → c ≠ 90 → μ' c = μ c
theorem FrC_tr {μ μ1 μ2 : kx_M} (h : FrC μ μ1) (k : FrC μ1 μ2) : FrC μ μ2 := fun c a b => (k c a b).trans (h c a b)
theorem FrT_tr {μ μ1 μ2 : kx_M} (h : FrT μ μ1) (k : FrT μ1 μ2) : FrT μ μ2 := ⟨fun j a => (k.1 j a).trans (h.1 j a), fun c a b => (k.2 c a b).trans (h.2 c a b)⟩
theorem AK_push {μ : kx_M} {c a : Nat} {f b : Int} {l : List Int} (hca : c ≠ a) (A : AK μ c a f l) : AK (kx_up (kx_up μ c l.length b) a f (l.length + 1)) c a f (l ++ [b]) := by
  refine ⟨?_, fun i hi => ?_⟩
  · rw [kx_up_self, List.length_append]; rfl
  · rw [kx_up_row hca]
    rw [List.length_append] at hi
    have hi2 : i < l.length + 1 := hi
    by_cases e : i = l.length
    · subst e
      rw [kx_up_self]
      simp
    · rw [kx_up_oth (by omega), A.2 i (by omega)]
      simp only [List.getD_eq_getElem?_getD]
      rw [List.getElem?_append_left (by omega)]
theorem TR_C {μ μ' : kx_M} {s : Int → Int} {z : Int} (T : TRx μ 30 s z) (F : FrC μ μ') : TRx μ' 30 s z := TR_fr T (fun c c0 c1 => F c (by omega) (by omega))
section ASK
variable {d L : Nat} {G : kx_G} {μ : kx_M} {Q : Option kx_V → kx_G → kx_M → Prop} {s : Int → Int} {h b e : Int} {l : List Int}
theorem r_leaveNumber (A : AK μ 56 55 1 l) (hl : l.length < 16) (t : ∀ μ', AK μ' 56 55 1 (l ++ [b]) → FrC μ μ' → Q none (kg L) μ') : kx_cx (ke (d + 1)) 9 [kR 55, kI b] (kg L) μ Q := by
  refine ke_start (tb := kt_Asker_leaveNumber) (ls := [some (kR 55), some (kI b)]) rfl rfl ?_
  have a1 := A.1
  refine ks_aload_n rfl rfl ?_
  refine ks_geti rfl rfl rfl rfl (by (try simp only [kx_up_at, kx_row_at, up1_at, Nat.reduceEqDiff, Int.reduceEq, Int.reduceNeg, and_true, true_and, and_false, false_and, and_self, reduceIte, Nat.add_left_cancel_iff, Nat.add_eq_left, Nat.left_eq_add, Nat.reduceAdd, Int.add_left_inj, Int.add_right_inj, a1]); rfl) ?_
  refine ks_bipush rfl ?_
  -- at 6: if ge -> 29 else 9 st ['16', None]
  refine ks_icmp_ge rfl ⟨by omega, by omega⟩ ⟨by omega, by omega⟩ (fun c => ?_) (fun c => absurd c (by omega))
  refine ks_aload_n rfl rfl ?_
  refine ks_getr (b := 56) rfl rfl rfl rfl (by decide) ?_
  refine ks_aload_n rfl rfl ?_
  refine ks_geti rfl rfl rfl rfl (by (try simp only [kx_up_at, kx_row_at, up1_at, Nat.reduceEqDiff, Int.reduceEq, Int.reduceNeg, and_true, true_and, and_false, false_and, and_self, reduceIte, Nat.add_left_cancel_iff, Nat.add_eq_left, Nat.left_eq_add, Nat.reduceAdd, Int.add_left_inj, Int.add_right_inj, a1]); rfl) ?_
  refine ks_iload_n rfl rfl ?_
  refine ks_iastore rfl rfl (by omega) (by omega) ?_
  refine ks_aload_n rfl rfl ?_
  refine ks_dupR rfl ?_
  refine ks_geti rfl rfl rfl rfl (by (try simp only [kx_up_at, kx_row_at, up1_at, Nat.reduceEqDiff, Int.reduceEq, Int.reduceNeg, and_true, true_and, and_false, false_and, and_self, reduceIte, Nat.add_left_cancel_iff, Nat.add_eq_left, Nat.left_eq_add, Nat.reduceAdd, Int.add_left_inj, Int.add_right_inj, a1]); rfl) ?_
  refine ks_iconst rfl ?_
  refine ks_iadd rfl ?_
  refine ks_puti rfl rfl ?_
  refine ks_return rfl ?_
  -- at 29: ret  st []
  refine t _ (AK_push (by omega) A) (fun c c0 c1 => ?_)
  rw [kx_up_row c0, kx_up_row c1]
theorem r_begin (A : AK μ 90 77 23 l) (hl : l.length < 16) (t : ∀ μ', AK μ' 90 77 23 (l ++ [b]) → FrT μ μ' → Q none (kg L) μ') : kx_cx (ke (d + 1)) 179 [kR 77, kI b] (kg L) μ Q := by
  refine ke_start (tb := kt_M_begin) (ls := [some (kR 77), some (kI b)]) rfl rfl ?_
  have a1 := A.1
  refine ks_aload_n rfl rfl ?_
  refine ks_geti rfl rfl rfl rfl (by (try simp only [kx_up_at, kx_row_at, up1_at, Nat.reduceEqDiff, Int.reduceEq, Int.reduceNeg, and_true, true_and, and_false, false_and, and_self, reduceIte, Nat.add_left_cancel_iff, Nat.add_eq_left, Nat.left_eq_add, Nat.reduceAdd, Int.add_left_inj, Int.add_right_inj, a1]); rfl) ?_
  refine ks_bipush rfl ?_
  -- at 6: if ge -> 29 else 9 st ['16', None]
  refine ks_icmp_ge rfl ⟨by omega, by omega⟩ ⟨by omega, by omega⟩ (fun c => ?_) (fun c => absurd c (by omega))
  refine ks_aload_n rfl rfl ?_
  refine ks_getr (b := 90) rfl rfl rfl rfl (by decide) ?_
  refine ks_aload_n rfl rfl ?_
  refine ks_geti rfl rfl rfl rfl (by (try simp only [kx_up_at, kx_row_at, up1_at, Nat.reduceEqDiff, Int.reduceEq, Int.reduceNeg, and_true, true_and, and_false, false_and, and_self, reduceIte, Nat.add_left_cancel_iff, Nat.add_eq_left, Nat.left_eq_add, Nat.reduceAdd, Int.add_left_inj, Int.add_right_inj, a1]); rfl) ?_
  refine ks_iload_n rfl rfl ?_
  refine ks_iastore rfl rfl (by omega) (by omega) ?_
  refine ks_aload_n rfl rfl ?_
  refine ks_dupR rfl ?_
  refine ks_geti rfl rfl rfl rfl (by (try simp only [kx_up_at, kx_row_at, up1_at, Nat.reduceEqDiff, Int.reduceEq, Int.reduceNeg, and_true, true_and, and_false, false_and, and_self, reduceIte, Nat.add_left_cancel_iff, Nat.add_eq_left, Nat.left_eq_add, Nat.reduceAdd, Int.add_left_inj, Int.add_right_inj, a1]); rfl) ?_
  refine ks_iconst rfl ?_
  refine ks_iadd rfl ?_
  refine ks_puti rfl rfl ?_
  refine ks_return rfl ?_
  -- at 29: ret  st []
  refine t _ (AK_push (by omega) A) ⟨fun j hj => ?_, fun c c0 c1 => ?_⟩
  · rw [kx_up_oth hj, kx_up_row (by omega)]
  · rw [kx_up_row c0, kx_up_row c1]
theorem r_rb10 (T : TR μ 30 s) (W : tw_W 999 s) (h0 : 0 ≤ h) (h1 : h < s 1) (e0 : 0 ≤ e) (e1 : e < 12) (A : AK μ 56 55 1 l) (hl : l.length < 16) (t : ∀ μ', AK μ' 56 55 1 (l ++ [10]) → FrC μ μ' → Q (some (kI (s (12 + h)))) (kg L) μ') : kx_cx (ke (d + 2)) 7 [kR 55, kI 10, kR 30, kI h, kI e] (kg L) μ Q := by
  refine ke_start (tb := kt_Asker_runBody) (ls := [some (kR 55), some (kI 10), some (kR 30), some (kI h), some (kI e), none]) rfl rfl ?_
  have w1 := W.1
  refine ks_iload rfl rfl ?_
  refine ks_bipush rfl ?_
  -- at 4: if lt -> 9 else 7 st ['12', None]
  refine ks_icmp_lt rfl ⟨by omega, by omega⟩ ⟨by omega, by omega⟩ (fun c => ?_) (fun c => absurd c (by omega))
  refine ks_aload_n rfl rfl ?_
  refine ks_iload_n rfl rfl ?_
  refine ks_callv_2 rfl rfl rfl (Nat.le_of_ble_eq_true rfl) ?_
  -- at 11: call Asker_leaveNumber st []
  refine r_leaveNumber A hl (fun μ1 A1 F1 => ?_)
  have k := ((TR_C T F1).2.2.2.2.2.2.1 h h0 h1).2.1
  show kx_wx _ _ _ _ _ _ _ _
  refine ks_iload rfl rfl ?_
  refine ks_iconst rfl ?_
  refine ks_iadd rfl ?_
  refine ks_istore_5 rfl rfl ?_
  refine ks_iload_n rfl rfl ?_
  -- at 21: sw  st [None]
  refine ks_tsw rfl ⟨by omega, by omega⟩ ?_
  simp only [kx_sw, Int.reduceAdd, reduceIte, Int.reduceEq]
  refine ks_aload_n rfl rfl ?_
  refine ks_getr (b := 32) rfl rfl rfl rfl (by decide) ?_
  refine ks_iload_n rfl rfl ?_
  refine ks_iaload rfl rfl (by omega) (by omega) (by (try simp only [kx_up_at, kx_row_at, up1_at, Nat.reduceEqDiff, Int.reduceEq, Int.reduceNeg, and_true, true_and, and_false, false_and, and_self, reduceIte, Nat.add_left_cancel_iff, Nat.add_eq_left, Nat.left_eq_add, Nat.reduceAdd, Int.add_left_inj, Int.add_right_inj, k]); rfl) ?_
  refine ks_ireturn rfl ?_
  -- at 102: ret  st [None]
  exact t _ A1 F1
theorem r_rb20 (T : TR μ 30 s) (W : tw_W 999 s) (h0 : 0 ≤ h) (h1 : h < s 1) (e0 : 0 ≤ e) (e1 : e < 12) (A : AK μ 56 55 1 l) (hl : l.length < 16) (t : ∀ μ', AK μ' 56 55 1 (l ++ [20]) → FrC μ μ' → Q (some (kI h)) (kg L) μ') : kx_cx (ke (d + 2)) 7 [kR 55, kI 20, kR 30, kI h, kI e] (kg L) μ Q := by
  refine ke_start (tb := kt_Asker_runBody) (ls := [some (kR 55), some (kI 20), some (kR 30), some (kI h), some (kI e), none]) rfl rfl ?_
  refine ks_iload rfl rfl ?_
  refine ks_bipush rfl ?_
  -- at 4: if lt -> 9 else 7 st ['12', None]
  refine ks_icmp_lt rfl ⟨by omega, by omega⟩ ⟨by omega, by omega⟩ (fun c => ?_) (fun c => absurd c (by omega))
  refine ks_aload_n rfl rfl ?_
  refine ks_iload_n rfl rfl ?_
  refine ks_callv_2 rfl rfl rfl (Nat.le_of_ble_eq_true rfl) ?_
  -- at 11: call Asker_leaveNumber st []
  refine r_leaveNumber A hl (fun μ1 A1 F1 => ?_)
  show kx_wx _ _ _ _ _ _ _ _
  refine ks_iload rfl rfl ?_
  refine ks_iconst rfl ?_
  refine ks_iadd rfl ?_
  refine ks_istore_5 rfl rfl ?_
  refine ks_iload_n rfl rfl ?_
  -- at 21: sw  st [None]
  refine ks_tsw rfl ⟨by omega, by omega⟩ ?_
  simp only [kx_sw, Int.reduceAdd, reduceIte, Int.reduceEq]
  refine ks_iload_n rfl rfl ?_
  refine ks_ireturn rfl ?_
  -- at 164: ret  st [None]
  exact t _ A1 F1
theorem r_rb21 (T : TR μ 30 s) (W : tw_W 999 s) (h0 : 0 ≤ h) (h1 : h < s 1) (e0 : 0 ≤ e) (e1 : e < 11) (A : AK μ 56 55 1 l) (hl : l.length < 15) (t : ∀ μ', AK μ' 56 55 1 (l ++ [21, 20]) → FrC μ μ' → Q (some (kI (h + s (24 + h)))) (kg L) μ') : kx_cx (ke (d + 3)) 7 [kR 55, kI 21, kR 30, kI h, kI e] (kg L) μ Q := by
  refine ke_start (tb := kt_Asker_runBody) (ls := [some (kR 55), some (kI 21), some (kR 30), some (kI h), some (kI e), none]) rfl rfl ?_
  have w1 := W.1
  refine ks_iload rfl rfl ?_
  refine ks_bipush rfl ?_
  -- at 4: if lt -> 9 else 7 st ['12', None]
  refine ks_icmp_lt rfl ⟨by omega, by omega⟩ ⟨by omega, by omega⟩ (fun c => ?_) (fun c => absurd c (by omega))
  refine ks_aload_n rfl rfl ?_
  refine ks_iload_n rfl rfl ?_
  refine ks_callv_2 rfl rfl rfl (Nat.le_of_ble_eq_true rfl) ?_
  -- at 11: call Asker_leaveNumber st []
  refine r_leaveNumber A (by omega) (fun μ1 A1 F1 => ?_)
  show kx_wx _ _ _ _ _ _ _ _
  refine ks_iload rfl rfl ?_
  refine ks_iconst rfl ?_
  refine ks_iadd rfl ?_
  refine ks_istore_5 rfl rfl ?_
  refine ks_iload_n rfl rfl ?_
  -- at 21: sw  st [None]
  refine ks_tsw rfl ⟨by omega, by omega⟩ ?_
  simp only [kx_sw, Int.reduceAdd, reduceIte, Int.reduceEq]
  refine ks_aload_n rfl rfl ?_
  refine ks_bipush rfl ?_
  refine ks_aload_n rfl rfl ?_
  refine ks_iload_n rfl rfl ?_
  refine ks_iload rfl rfl ?_
  refine ks_callv_5 rfl rfl rfl (Nat.le_of_ble_eq_true rfl) ?_
  -- at 172: call Asker_runBody st []
  refine r_rb20 (TR_C T F1) W h0 h1 (by omega) (by omega) A1 (by rw [List.length_append]; show l.length + 1 < 16; omega) (fun μ2 A2 F2 => ?_)
  have k := ((TR_C T (FrC_tr F1 F2)).2.2.2.2.2.2.1 h h0 h1).2.2.2
  show kx_wx _ _ _ _ _ (_ :: _) _ _
  refine ks_aload_n rfl rfl ?_
  refine ks_getr (b := 34) rfl rfl rfl rfl (by decide) ?_
  refine ks_iload_n rfl rfl ?_
  refine ks_iaload rfl rfl (by omega) (by omega) (by (try simp only [kx_up_at, kx_row_at, up1_at, Nat.reduceEqDiff, Int.reduceEq, Int.reduceNeg, and_true, true_and, and_false, false_and, and_self, reduceIte, Nat.add_left_cancel_iff, Nat.add_eq_left, Nat.left_eq_add, Nat.reduceAdd, Int.add_left_inj, Int.add_right_inj, k]); rfl) ?_
  refine ks_iadd rfl ?_
  refine ks_ireturn rfl ?_
  -- at 182: ret  st [None]
  rw [List.append_assoc] at A2
  exact t _ A2 (FrC_tr F1 F2)
theorem r_rb22 (T : TR μ 30 s) (W : tw_W 999 s) (h0 : 0 ≤ h) (h1 : h < s 1) (e0 : 0 ≤ e) (e1 : e < 10) (A : AK μ 56 55 1 l) (hl : l.length < 14) (t : ∀ μ', AK μ' 56 55 1 (l ++ [22, 21, 20]) → FrC μ μ' → Q (some (kI (h + s (24 + h) - 1000))) (kg L) μ') : kx_cx (ke (d + 4)) 7 [kR 55, kI 22, kR 30, kI h, kI e] (kg L) μ Q := by
  refine ke_start (tb := kt_Asker_runBody) (ls := [some (kR 55), some (kI 22), some (kR 30), some (kI h), some (kI e), none]) rfl rfl ?_
  refine ks_iload rfl rfl ?_
  refine ks_bipush rfl ?_
  -- at 4: if lt -> 9 else 7 st ['12', None]
  refine ks_icmp_lt rfl ⟨by omega, by omega⟩ ⟨by omega, by omega⟩ (fun c => ?_) (fun c => absurd c (by omega))
  refine ks_aload_n rfl rfl ?_
  refine ks_iload_n rfl rfl ?_
  refine ks_callv_2 rfl rfl rfl (Nat.le_of_ble_eq_true rfl) ?_
  -- at 11: call Asker_leaveNumber st []
  refine r_leaveNumber A (by omega) (fun μ1 A1 F1 => ?_)
  show kx_wx _ _ _ _ _ _ _ _
  refine ks_iload rfl rfl ?_
  refine ks_iconst rfl ?_
  refine ks_iadd rfl ?_
  refine ks_istore_5 rfl rfl ?_
  refine ks_iload_n rfl rfl ?_
  -- at 21: sw  st [None]
  refine ks_tsw rfl ⟨by omega, by omega⟩ ?_
  simp only [kx_sw, Int.reduceAdd, reduceIte, Int.reduceEq]
  refine ks_aload_n rfl rfl ?_
  refine ks_bipush rfl ?_
  refine ks_aload_n rfl rfl ?_
  refine ks_iload_n rfl rfl ?_
  refine ks_iload rfl rfl ?_
  refine ks_callv_5 rfl rfl rfl (Nat.le_of_ble_eq_true rfl) ?_
  -- at 190: call Asker_runBody st []
  refine r_rb21 (TR_C T F1) W h0 h1 (by omega) (by omega) A1 (by rw [List.length_append]; show l.length + 1 < 15; omega) (fun μ2 A2 F2 => ?_)
  show kx_wx _ _ _ _ _ (_ :: _) _ _
  refine ks_sipush rfl ?_
  refine ks_isub rfl ?_
  refine ks_ireturn rfl ?_
  -- at 197: ret  st [None]
  rw [List.append_assoc] at A2
  exact t _ A2 (FrC_tr F1 F2)
theorem r_rb24 (T : TR μ 30 s) (W : tw_W 999 s) (h0 : 0 ≤ h) (h1 : h < s 1) (e0 : 0 ≤ e) (e1 : e < 10) (A : AK μ 56 55 1 l) (hl : l.length < 14) (t : ∀ μ', AK μ' 56 55 1 (l ++ [24, 21, 20]) → FrC μ μ' → Q (some (kI (2 * (h + s (24 + h))))) (kg L) μ') : kx_cx (ke (d + 4)) 7 [kR 55, kI 24, kR 30, kI h, kI e] (kg L) μ Q := by
  refine ke_start (tb := kt_Asker_runBody) (ls := [some (kR 55), some (kI 24), some (kR 30), some (kI h), some (kI e), none]) rfl rfl ?_
  refine ks_iload rfl rfl ?_
  refine ks_bipush rfl ?_
  -- at 4: if lt -> 9 else 7 st ['12', None]
  refine ks_icmp_lt rfl ⟨by omega, by omega⟩ ⟨by omega, by omega⟩ (fun c => ?_) (fun c => absurd c (by omega))
  refine ks_aload_n rfl rfl ?_
  refine ks_iload_n rfl rfl ?_
  refine ks_callv_2 rfl rfl rfl (Nat.le_of_ble_eq_true rfl) ?_
  -- at 11: call Asker_leaveNumber st []
  refine r_leaveNumber A (by omega) (fun μ1 A1 F1 => ?_)
  show kx_wx _ _ _ _ _ _ _ _
  refine ks_iload rfl rfl ?_
  refine ks_iconst rfl ?_
  refine ks_iadd rfl ?_
  refine ks_istore_5 rfl rfl ?_
  refine ks_iload_n rfl rfl ?_
  -- at 21: sw  st [None]
  refine ks_tsw rfl ⟨by omega, by omega⟩ ?_
  simp only [kx_sw, Int.reduceAdd, reduceIte, Int.reduceEq]
  refine ks_iconst rfl ?_
  refine ks_aload_n rfl rfl ?_
  refine ks_bipush rfl ?_
  refine ks_aload_n rfl rfl ?_
  refine ks_iload_n rfl rfl ?_
  refine ks_iload rfl rfl ?_
  refine ks_callv_5 rfl rfl rfl (Nat.le_of_ble_eq_true rfl) ?_
  -- at 227: call Asker_runBody st ['2']
  refine r_rb21 (TR_C T F1) W h0 h1 (by omega) (by omega) A1 (by rw [List.length_append]; show l.length + 1 < 15; omega) (fun μ2 A2 F2 => ?_)
  show kx_wx _ _ _ _ _ (_ :: _) _ _
  refine ks_imul rfl ?_
  refine ks_ireturn rfl ?_
  -- at 231: ret  st [None]
  rw [List.append_assoc] at A2
  exact t _ A2 (FrC_tr F1 F2)
theorem r_rb13 (T : TR μ 30 s) (W : tw_W 999 s) (h0 : 0 ≤ h) (h1 : h < s 1) (e0 : 0 ≤ e) (e1 : e < 11) (A : AK μ 56 55 1 l) (hl : l.length < 15) (t : ∀ μ', AK μ' 56 55 1 (l ++ [13, 10]) → FrC μ μ' → Q (some (kI (s (12 + h) - 100))) (kg L) μ') : kx_cx (ke (d + 3)) 7 [kR 55, kI 13, kR 30, kI h, kI e] (kg L) μ Q := by
  refine ke_start (tb := kt_Asker_runBody) (ls := [some (kR 55), some (kI 13), some (kR 30), some (kI h), some (kI e), none]) rfl rfl ?_
  refine ks_iload rfl rfl ?_
  refine ks_bipush rfl ?_
  -- at 4: if lt -> 9 else 7 st ['12', None]
  refine ks_icmp_lt rfl ⟨by omega, by omega⟩ ⟨by omega, by omega⟩ (fun c => ?_) (fun c => absurd c (by omega))
  refine ks_aload_n rfl rfl ?_
  refine ks_iload_n rfl rfl ?_
  refine ks_callv_2 rfl rfl rfl (Nat.le_of_ble_eq_true rfl) ?_
  -- at 11: call Asker_leaveNumber st []
  refine r_leaveNumber A (by omega) (fun μ1 A1 F1 => ?_)
  show kx_wx _ _ _ _ _ _ _ _
  refine ks_iload rfl rfl ?_
  refine ks_iconst rfl ?_
  refine ks_iadd rfl ?_
  refine ks_istore_5 rfl rfl ?_
  refine ks_iload_n rfl rfl ?_
  -- at 21: sw  st [None]
  refine ks_tsw rfl ⟨by omega, by omega⟩ ?_
  simp only [kx_sw, Int.reduceAdd, reduceIte, Int.reduceEq]
  refine ks_aload_n rfl rfl ?_
  refine ks_bipush rfl ?_
  refine ks_aload_n rfl rfl ?_
  refine ks_iload_n rfl rfl ?_
  refine ks_iload rfl rfl ?_
  refine ks_callv_5 rfl rfl rfl (Nat.le_of_ble_eq_true rfl) ?_
  -- at 143: call Asker_runBody st []
  refine r_rb10 (TR_C T F1) W h0 h1 (by omega) (by omega) A1 (by rw [List.length_append]; show l.length + 1 < 16; omega) (fun μ2 A2 F2 => ?_)
  show kx_wx _ _ _ _ _ (_ :: _) _ _
  refine ks_bipush rfl ?_
  refine ks_isub rfl ?_
  refine ks_ireturn rfl ?_
  -- at 149: ret  st [None]
  rw [List.append_assoc] at A2
  exact t _ A2 (FrC_tr F1 F2)
theorem r_rb14 (T : TR μ 30 s) (W : tw_W 999 s) (h0 : 0 ≤ h) (h1 : h < s 1) (e0 : 0 ≤ e) (e1 : e < 10) (A : AK μ 56 55 1 l) (hl : l.length < 14) (t : ∀ μ', AK μ' 56 55 1 (l ++ [14, 13, 10]) → FrC μ μ' → Q (some (kI (2 * (s (12 + h) - 100)))) (kg L) μ') : kx_cx (ke (d + 4)) 7 [kR 55, kI 14, kR 30, kI h, kI e] (kg L) μ Q := by
  refine ke_start (tb := kt_Asker_runBody) (ls := [some (kR 55), some (kI 14), some (kR 30), some (kI h), some (kI e), none]) rfl rfl ?_
  refine ks_iload rfl rfl ?_
  refine ks_bipush rfl ?_
  -- at 4: if lt -> 9 else 7 st ['12', None]
  refine ks_icmp_lt rfl ⟨by omega, by omega⟩ ⟨by omega, by omega⟩ (fun c => ?_) (fun c => absurd c (by omega))
  refine ks_aload_n rfl rfl ?_
  refine ks_iload_n rfl rfl ?_
  refine ks_callv_2 rfl rfl rfl (Nat.le_of_ble_eq_true rfl) ?_
  -- at 11: call Asker_leaveNumber st []
  refine r_leaveNumber A (by omega) (fun μ1 A1 F1 => ?_)
  show kx_wx _ _ _ _ _ _ _ _
  refine ks_iload rfl rfl ?_
  refine ks_iconst rfl ?_
  refine ks_iadd rfl ?_
  refine ks_istore_5 rfl rfl ?_
  refine ks_iload_n rfl rfl ?_
  -- at 21: sw  st [None]
  refine ks_tsw rfl ⟨by omega, by omega⟩ ?_
  simp only [kx_sw, Int.reduceAdd, reduceIte, Int.reduceEq]
  refine ks_iconst rfl ?_
  refine ks_aload_n rfl rfl ?_
  refine ks_bipush rfl ?_
  refine ks_aload_n rfl rfl ?_
  refine ks_iload_n rfl rfl ?_
  refine ks_iload rfl rfl ?_
  refine ks_callv_5 rfl rfl rfl (Nat.le_of_ble_eq_true rfl) ?_
  -- at 158: call Asker_runBody st ['2']
  refine r_rb13 (TR_C T F1) W h0 h1 (by omega) (by omega) A1 (by rw [List.length_append]; show l.length + 1 < 15; omega) (fun μ2 A2 F2 => ?_)
  show kx_wx _ _ _ _ _ (_ :: _) _ _
  refine ks_imul rfl ?_
  refine ks_ireturn rfl ?_
  -- at 162: ret  st [None]
  rw [List.append_assoc] at A2
  exact t _ A2 (FrC_tr F1 F2)
/-- the tables, and the text of the sorts -/
def TB (μ : kx_M) : Prop := μ 101 = (fun j => ([0, 0, 1, 1, 0, 4] : List Int).getD j.toNat 0) ∧ μ 102 = (fun j => ([10, 11, 12, 0, 13, 14] : List Int).getD j.toNat 0) ∧ μ 103 = (fun j => ([20, 21, 24, 22, 23, 0] : List Int).getD j.toNat 0) ∧ μ 106 = (fun j => ([102, 115, 116, 119, 98] : List Int).getD j.toNat 0)
theorem TB_fr {μ μ' : kx_M} (T : TB μ) (f : ∀ c, 100 < c → μ' c = μ c) : TB μ' := by
  unfold TB at *
  rw [f 101 (by omega), f 102 (by omega), f 103 (by omega), f 106 (by omega)]
  exact T
def q_bo (k w : Int) : Int := if w = 0 then (if k = 1 then 11 else if k = 2 then 12 else if k = 3 then 11 else if k = 4 then 13 else 14) else (if k = 1 then 21 else if k = 2 then 24 else if k = 3 then 22 else 23)
theorem r_bodyOf {k w : Int} (B : TB μ) (k0 : 1 ≤ k) (k1 : k ≤ 5) (w0 : 0 ≤ w) (w1 : w ≤ 1) (t : Q (some (kI (q_bo k w))) (kg L) μ) : kx_cx (ke (d + 1)) 29 [kI k, kI w] (kg L) μ Q := by
  refine ke_start (tb := kt_Kinds_bodyOf) (ls := [some (kI k), some (kI w), none, none, none]) rfl rfl ?_
  obtain ⟨b1, b2, b3, b4⟩ := B
  have b13 : μ 101 3 = 1 := by rw [b1]; rfl
  have b15 : μ 101 5 = 4 := by rw [b1]; rfl
  refine ks_iload_n rfl rfl ?_
  -- at 1: if ne -> 10 else 4 st [None]
  refine ks_if_ne rfl ⟨by omega, by omega⟩ (fun c => ?_) (fun c => ?_)
  · subst c
    have c1 : μ 102 1 = 11 := by rw [b2]; rfl
    have c2 : μ 102 2 = 12 := by rw [b2]; rfl
    have c3 : μ 102 3 = 0 := by rw [b2]; rfl
    have c4 : μ 102 4 = 13 := by rw [b2]; rfl
    have c5 : μ 102 5 = 14 := by rw [b2]; rfl
    have hk : k = 1 ∨ k = 2 ∨ k = 3 ∨ k = 4 ∨ k = 5 := by omega
    rcases hk with e | e | e | e | e
    · subst e
      refine ks_getstatic rfl ?_
      refine ks_goto rfl ?_
      refine ks_astore_n_2 rfl rfl ?_
      refine ks_iload_n rfl rfl ?_
      refine ks_istore_n_3 rfl rfl ?_
      refine ks_iconst rfl ?_
      refine ks_istore_4 rfl rfl ?_
      refine ks_iload rfl rfl ?_
      refine ks_bipush rfl ?_
      -- at 23: if ge -> 48 else 26 st ['6', '0']
      refine ks_icmp_ge rfl ⟨by omega, by omega⟩ ⟨by omega, by omega⟩ (fun q => ?_) (fun q => absurd q (by omega))
      refine ks_aload_n rfl rfl ?_
      refine ks_iload_n rfl rfl ?_
      refine ks_iaload7 rfl rfl (by omega) (by omega) (by (try simp only [kx_up_at, kx_row_at, up1_at, Nat.reduceEqDiff, Int.reduceEq, Int.reduceNeg, and_true, true_and, and_false, false_and, and_self, reduceIte, Nat.add_left_cancel_iff, Nat.add_eq_left, Nat.left_eq_add, Nat.reduceAdd, Int.add_left_inj, Int.add_right_inj, c1]); rfl) ?_
      -- at 29: if eq -> 36 else 32 st [None]
      refine ks_if_eq rfl ⟨by omega, by omega⟩ (fun q2 => absurd q2 (by omega)) (fun q2 => ?_)
      refine ks_aload_n rfl rfl ?_
      refine ks_iload_n rfl rfl ?_
      refine ks_iaload7 rfl rfl (by omega) (by omega) (by (try simp only [kx_up_at, kx_row_at, up1_at, Nat.reduceEqDiff, Int.reduceEq, Int.reduceNeg, and_true, true_and, and_false, false_and, and_self, reduceIte, Nat.add_left_cancel_iff, Nat.add_eq_left, Nat.left_eq_add, Nat.reduceAdd, Int.add_left_inj, Int.add_right_inj, c1]); rfl) ?_
      refine ks_ireturn rfl ?_
      -- at 35: ret  st [None]
      exact t
    · subst e
      refine ks_getstatic rfl ?_
      refine ks_goto rfl ?_
      refine ks_astore_n_2 rfl rfl ?_
      refine ks_iload_n rfl rfl ?_
      refine ks_istore_n_3 rfl rfl ?_
      refine ks_iconst rfl ?_
      refine ks_istore_4 rfl rfl ?_
      refine ks_iload rfl rfl ?_
      refine ks_bipush rfl ?_
      -- at 23: if ge -> 48 else 26 st ['6', '0']
      refine ks_icmp_ge rfl ⟨by omega, by omega⟩ ⟨by omega, by omega⟩ (fun q => ?_) (fun q => absurd q (by omega))
      refine ks_aload_n rfl rfl ?_
      refine ks_iload_n rfl rfl ?_
      refine ks_iaload7 rfl rfl (by omega) (by omega) (by (try simp only [kx_up_at, kx_row_at, up1_at, Nat.reduceEqDiff, Int.reduceEq, Int.reduceNeg, and_true, true_and, and_false, false_and, and_self, reduceIte, Nat.add_left_cancel_iff, Nat.add_eq_left, Nat.left_eq_add, Nat.reduceAdd, Int.add_left_inj, Int.add_right_inj, c2]); rfl) ?_
      -- at 29: if eq -> 36 else 32 st [None]
      refine ks_if_eq rfl ⟨by omega, by omega⟩ (fun q2 => absurd q2 (by omega)) (fun q2 => ?_)
      refine ks_aload_n rfl rfl ?_
      refine ks_iload_n rfl rfl ?_
      refine ks_iaload7 rfl rfl (by omega) (by omega) (by (try simp only [kx_up_at, kx_row_at, up1_at, Nat.reduceEqDiff, Int.reduceEq, Int.reduceNeg, and_true, true_and, and_false, false_and, and_self, reduceIte, Nat.add_left_cancel_iff, Nat.add_eq_left, Nat.left_eq_add, Nat.reduceAdd, Int.add_left_inj, Int.add_right_inj, c2]); rfl) ?_
      refine ks_ireturn rfl ?_
      -- at 35: ret  st [None]
      exact t
    · subst e
      refine ks_getstatic rfl ?_
      refine ks_goto rfl ?_
      refine ks_astore_n_2 rfl rfl ?_
      refine ks_iload_n rfl rfl ?_
      refine ks_istore_n_3 rfl rfl ?_
      refine ks_iconst rfl ?_
      refine ks_istore_4 rfl rfl ?_
      refine ks_iload rfl rfl ?_
      refine ks_bipush rfl ?_
      -- at 23: if ge -> 48 else 26 st ['6', '0']
      refine ks_icmp_ge rfl ⟨by omega, by omega⟩ ⟨by omega, by omega⟩ (fun q => ?_) (fun q => absurd q (by omega))
      refine ks_aload_n rfl rfl ?_
      refine ks_iload_n rfl rfl ?_
      refine ks_iaload7 rfl rfl (by omega) (by omega) (by (try simp only [kx_up_at, kx_row_at, up1_at, Nat.reduceEqDiff, Int.reduceEq, Int.reduceNeg, and_true, true_and, and_false, false_and, and_self, reduceIte, Nat.add_left_cancel_iff, Nat.add_eq_left, Nat.left_eq_add, Nat.reduceAdd, Int.add_left_inj, Int.add_right_inj, c3]); rfl) ?_
      -- at 29: if eq -> 36 else 32 st [None]
      refine ks_if_eq rfl ⟨by omega, by omega⟩ (fun q2 => ?_) (fun q2 => absurd q2 (by omega))
      refine ks_getstatic rfl ?_
      refine ks_iload_n rfl rfl ?_
      refine ks_iaload7 rfl rfl (by omega) (by omega) (by (try simp only [kx_up_at, kx_row_at, up1_at, Nat.reduceEqDiff, Int.reduceEq, Int.reduceNeg, and_true, true_and, and_false, false_and, and_self, reduceIte, Nat.add_left_cancel_iff, Nat.add_eq_left, Nat.left_eq_add, Nat.reduceAdd, Int.add_left_inj, Int.add_right_inj, b13]); rfl) ?_
      refine ks_istore_n_3 rfl rfl ?_
      refine ks_iinc_4 rfl rfl ?_
      refine ks_goto rfl ?_
      refine ks_iload rfl rfl ?_
      refine ks_bipush rfl ?_
      -- at 23: if ge -> 48 else 26 st ['6', None]
      refine ks_icmp_ge rfl ⟨by omega, by omega⟩ ⟨by omega, by omega⟩ (fun q3 => ?_) (fun q3 => absurd q3 (by omega))
      refine ks_aload_n rfl rfl ?_
      refine ks_iload_n rfl rfl ?_
      refine ks_iaload7 rfl rfl (by omega) (by omega) (by (try simp only [kx_up_at, kx_row_at, up1_at, Nat.reduceEqDiff, Int.reduceEq, Int.reduceNeg, and_true, true_and, and_false, false_and, and_self, reduceIte, Nat.add_left_cancel_iff, Nat.add_eq_left, Nat.left_eq_add, Nat.reduceAdd, Int.add_left_inj, Int.add_right_inj, c1]); rfl) ?_
      -- at 29: if eq -> 36 else 32 st [None]
      refine ks_if_eq rfl ⟨by omega, by omega⟩ (fun q4 => absurd q4 (by omega)) (fun q4 => ?_)
      refine ks_aload_n rfl rfl ?_
      refine ks_iload_n rfl rfl ?_
      refine ks_iaload7 rfl rfl (by omega) (by omega) (by (try simp only [kx_up_at, kx_row_at, up1_at, Nat.reduceEqDiff, Int.reduceEq, Int.reduceNeg, and_true, true_and, and_false, false_and, and_self, reduceIte, Nat.add_left_cancel_iff, Nat.add_eq_left, Nat.left_eq_add, Nat.reduceAdd, Int.add_left_inj, Int.add_right_inj, c1]); rfl) ?_
      refine ks_ireturn rfl ?_
      -- at 35: ret  st [None]
      exact t
    · subst e
      refine ks_getstatic rfl ?_
      refine ks_goto rfl ?_
      refine ks_astore_n_2 rfl rfl ?_
      refine ks_iload_n rfl rfl ?_
      refine ks_istore_n_3 rfl rfl ?_
      refine ks_iconst rfl ?_
      refine ks_istore_4 rfl rfl ?_
      refine ks_iload rfl rfl ?_
      refine ks_bipush rfl ?_
      -- at 23: if ge -> 48 else 26 st ['6', '0']
      refine ks_icmp_ge rfl ⟨by omega, by omega⟩ ⟨by omega, by omega⟩ (fun q => ?_) (fun q => absurd q (by omega))
      refine ks_aload_n rfl rfl ?_
      refine ks_iload_n rfl rfl ?_
      refine ks_iaload7 rfl rfl (by omega) (by omega) (by (try simp only [kx_up_at, kx_row_at, up1_at, Nat.reduceEqDiff, Int.reduceEq, Int.reduceNeg, and_true, true_and, and_false, false_and, and_self, reduceIte, Nat.add_left_cancel_iff, Nat.add_eq_left, Nat.left_eq_add, Nat.reduceAdd, Int.add_left_inj, Int.add_right_inj, c4]); rfl) ?_
      -- at 29: if eq -> 36 else 32 st [None]
      refine ks_if_eq rfl ⟨by omega, by omega⟩ (fun q2 => absurd q2 (by omega)) (fun q2 => ?_)
      refine ks_aload_n rfl rfl ?_
      refine ks_iload_n rfl rfl ?_
      refine ks_iaload7 rfl rfl (by omega) (by omega) (by (try simp only [kx_up_at, kx_row_at, up1_at, Nat.reduceEqDiff, Int.reduceEq, Int.reduceNeg, and_true, true_and, and_false, false_and, and_self, reduceIte, Nat.add_left_cancel_iff, Nat.add_eq_left, Nat.left_eq_add, Nat.reduceAdd, Int.add_left_inj, Int.add_right_inj, c4]); rfl) ?_
      refine ks_ireturn rfl ?_
      -- at 35: ret  st [None]
      exact t
    · subst e
      refine ks_getstatic rfl ?_
      refine ks_goto rfl ?_
      refine ks_astore_n_2 rfl rfl ?_
      refine ks_iload_n rfl rfl ?_
      refine ks_istore_n_3 rfl rfl ?_
      refine ks_iconst rfl ?_
      refine ks_istore_4 rfl rfl ?_
      refine ks_iload rfl rfl ?_
      refine ks_bipush rfl ?_
      -- at 23: if ge -> 48 else 26 st ['6', '0']
      refine ks_icmp_ge rfl ⟨by omega, by omega⟩ ⟨by omega, by omega⟩ (fun q => ?_) (fun q => absurd q (by omega))
      refine ks_aload_n rfl rfl ?_
      refine ks_iload_n rfl rfl ?_
      refine ks_iaload7 rfl rfl (by omega) (by omega) (by (try simp only [kx_up_at, kx_row_at, up1_at, Nat.reduceEqDiff, Int.reduceEq, Int.reduceNeg, and_true, true_and, and_false, false_and, and_self, reduceIte, Nat.add_left_cancel_iff, Nat.add_eq_left, Nat.left_eq_add, Nat.reduceAdd, Int.add_left_inj, Int.add_right_inj, c5]); rfl) ?_
      -- at 29: if eq -> 36 else 32 st [None]
      refine ks_if_eq rfl ⟨by omega, by omega⟩ (fun q2 => absurd q2 (by omega)) (fun q2 => ?_)
      refine ks_aload_n rfl rfl ?_
      refine ks_iload_n rfl rfl ?_
      refine ks_iaload7 rfl rfl (by omega) (by omega) (by (try simp only [kx_up_at, kx_row_at, up1_at, Nat.reduceEqDiff, Int.reduceEq, Int.reduceNeg, and_true, true_and, and_false, false_and, and_self, reduceIte, Nat.add_left_cancel_iff, Nat.add_eq_left, Nat.left_eq_add, Nat.reduceAdd, Int.add_left_inj, Int.add_right_inj, c5]); rfl) ?_
      refine ks_ireturn rfl ?_
      -- at 35: ret  st [None]
      exact t
  · have ew : w = 1 := by omega
    subst ew
    have c1 : μ 103 1 = 21 := by rw [b3]; rfl
    have c2 : μ 103 2 = 24 := by rw [b3]; rfl
    have c3 : μ 103 3 = 22 := by rw [b3]; rfl
    have c4 : μ 103 4 = 23 := by rw [b3]; rfl
    have c5 : μ 103 5 = 0 := by rw [b3]; rfl
    have hk : k = 1 ∨ k = 2 ∨ k = 3 ∨ k = 4 ∨ k = 5 := by omega
    rcases hk with e | e | e | e | e
    · subst e
      refine ks_getstatic rfl ?_
      refine ks_astore_n_2 rfl rfl ?_
      refine ks_iload_n rfl rfl ?_
      refine ks_istore_n_3 rfl rfl ?_
      refine ks_iconst rfl ?_
      refine ks_istore_4 rfl rfl ?_
      refine ks_iload rfl rfl ?_
      refine ks_bipush rfl ?_
      -- at 23: if ge -> 48 else 26 st ['6', '0']
      refine ks_icmp_ge rfl ⟨by omega, by omega⟩ ⟨by omega, by omega⟩ (fun q => ?_) (fun q => absurd q (by omega))
      refine ks_aload_n rfl rfl ?_
      refine ks_iload_n rfl rfl ?_
      refine ks_iaload7 rfl rfl (by omega) (by omega) (by (try simp only [kx_up_at, kx_row_at, up1_at, Nat.reduceEqDiff, Int.reduceEq, Int.reduceNeg, and_true, true_and, and_false, false_and, and_self, reduceIte, Nat.add_left_cancel_iff, Nat.add_eq_left, Nat.left_eq_add, Nat.reduceAdd, Int.add_left_inj, Int.add_right_inj, c1]); rfl) ?_
      -- at 29: if eq -> 36 else 32 st [None]
      refine ks_if_eq rfl ⟨by omega, by omega⟩ (fun q2 => absurd q2 (by omega)) (fun q2 => ?_)
      refine ks_aload_n rfl rfl ?_
      refine ks_iload_n rfl rfl ?_
      refine ks_iaload7 rfl rfl (by omega) (by omega) (by (try simp only [kx_up_at, kx_row_at, up1_at, Nat.reduceEqDiff, Int.reduceEq, Int.reduceNeg, and_true, true_and, and_false, false_and, and_self, reduceIte, Nat.add_left_cancel_iff, Nat.add_eq_left, Nat.left_eq_add, Nat.reduceAdd, Int.add_left_inj, Int.add_right_inj, c1]); rfl) ?_
      refine ks_ireturn rfl ?_
      -- at 35: ret  st [None]
      exact t
    · subst e
      refine ks_getstatic rfl ?_
      refine ks_astore_n_2 rfl rfl ?_
      refine ks_iload_n rfl rfl ?_
      refine ks_istore_n_3 rfl rfl ?_
      refine ks_iconst rfl ?_
      refine ks_istore_4 rfl rfl ?_
      refine ks_iload rfl rfl ?_
      refine ks_bipush rfl ?_
      -- at 23: if ge -> 48 else 26 st ['6', '0']
      refine ks_icmp_ge rfl ⟨by omega, by omega⟩ ⟨by omega, by omega⟩ (fun q => ?_) (fun q => absurd q (by omega))
      refine ks_aload_n rfl rfl ?_
      refine ks_iload_n rfl rfl ?_
      refine ks_iaload7 rfl rfl (by omega) (by omega) (by (try simp only [kx_up_at, kx_row_at, up1_at, Nat.reduceEqDiff, Int.reduceEq, Int.reduceNeg, and_true, true_and, and_false, false_and, and_self, reduceIte, Nat.add_left_cancel_iff, Nat.add_eq_left, Nat.left_eq_add, Nat.reduceAdd, Int.add_left_inj, Int.add_right_inj, c2]); rfl) ?_
      -- at 29: if eq -> 36 else 32 st [None]
      refine ks_if_eq rfl ⟨by omega, by omega⟩ (fun q2 => absurd q2 (by omega)) (fun q2 => ?_)
      refine ks_aload_n rfl rfl ?_
      refine ks_iload_n rfl rfl ?_
      refine ks_iaload7 rfl rfl (by omega) (by omega) (by (try simp only [kx_up_at, kx_row_at, up1_at, Nat.reduceEqDiff, Int.reduceEq, Int.reduceNeg, and_true, true_and, and_false, false_and, and_self, reduceIte, Nat.add_left_cancel_iff, Nat.add_eq_left, Nat.left_eq_add, Nat.reduceAdd, Int.add_left_inj, Int.add_right_inj, c2]); rfl) ?_
      refine ks_ireturn rfl ?_
      -- at 35: ret  st [None]
      exact t
    · subst e
      refine ks_getstatic rfl ?_
      refine ks_astore_n_2 rfl rfl ?_
      refine ks_iload_n rfl rfl ?_
      refine ks_istore_n_3 rfl rfl ?_
      refine ks_iconst rfl ?_
      refine ks_istore_4 rfl rfl ?_
      refine ks_iload rfl rfl ?_
      refine ks_bipush rfl ?_
      -- at 23: if ge -> 48 else 26 st ['6', '0']
      refine ks_icmp_ge rfl ⟨by omega, by omega⟩ ⟨by omega, by omega⟩ (fun q => ?_) (fun q => absurd q (by omega))
      refine ks_aload_n rfl rfl ?_
      refine ks_iload_n rfl rfl ?_
      refine ks_iaload7 rfl rfl (by omega) (by omega) (by (try simp only [kx_up_at, kx_row_at, up1_at, Nat.reduceEqDiff, Int.reduceEq, Int.reduceNeg, and_true, true_and, and_false, false_and, and_self, reduceIte, Nat.add_left_cancel_iff, Nat.add_eq_left, Nat.left_eq_add, Nat.reduceAdd, Int.add_left_inj, Int.add_right_inj, c3]); rfl) ?_
      -- at 29: if eq -> 36 else 32 st [None]
      refine ks_if_eq rfl ⟨by omega, by omega⟩ (fun q2 => absurd q2 (by omega)) (fun q2 => ?_)
      refine ks_aload_n rfl rfl ?_
      refine ks_iload_n rfl rfl ?_
      refine ks_iaload7 rfl rfl (by omega) (by omega) (by (try simp only [kx_up_at, kx_row_at, up1_at, Nat.reduceEqDiff, Int.reduceEq, Int.reduceNeg, and_true, true_and, and_false, false_and, and_self, reduceIte, Nat.add_left_cancel_iff, Nat.add_eq_left, Nat.left_eq_add, Nat.reduceAdd, Int.add_left_inj, Int.add_right_inj, c3]); rfl) ?_
      refine ks_ireturn rfl ?_
      -- at 35: ret  st [None]
      exact t
    · subst e
      refine ks_getstatic rfl ?_
      refine ks_astore_n_2 rfl rfl ?_
      refine ks_iload_n rfl rfl ?_
      refine ks_istore_n_3 rfl rfl ?_
      refine ks_iconst rfl ?_
      refine ks_istore_4 rfl rfl ?_
      refine ks_iload rfl rfl ?_
      refine ks_bipush rfl ?_
      -- at 23: if ge -> 48 else 26 st ['6', '0']
      refine ks_icmp_ge rfl ⟨by omega, by omega⟩ ⟨by omega, by omega⟩ (fun q => ?_) (fun q => absurd q (by omega))
      refine ks_aload_n rfl rfl ?_
      refine ks_iload_n rfl rfl ?_
      refine ks_iaload7 rfl rfl (by omega) (by omega) (by (try simp only [kx_up_at, kx_row_at, up1_at, Nat.reduceEqDiff, Int.reduceEq, Int.reduceNeg, and_true, true_and, and_false, false_and, and_self, reduceIte, Nat.add_left_cancel_iff, Nat.add_eq_left, Nat.left_eq_add, Nat.reduceAdd, Int.add_left_inj, Int.add_right_inj, c4]); rfl) ?_
      -- at 29: if eq -> 36 else 32 st [None]
      refine ks_if_eq rfl ⟨by omega, by omega⟩ (fun q2 => absurd q2 (by omega)) (fun q2 => ?_)
      refine ks_aload_n rfl rfl ?_
      refine ks_iload_n rfl rfl ?_
      refine ks_iaload7 rfl rfl (by omega) (by omega) (by (try simp only [kx_up_at, kx_row_at, up1_at, Nat.reduceEqDiff, Int.reduceEq, Int.reduceNeg, and_true, true_and, and_false, false_and, and_self, reduceIte, Nat.add_left_cancel_iff, Nat.add_eq_left, Nat.left_eq_add, Nat.reduceAdd, Int.add_left_inj, Int.add_right_inj, c4]); rfl) ?_
      refine ks_ireturn rfl ?_
      -- at 35: ret  st [None]
      exact t
    · subst e
      refine ks_getstatic rfl ?_
      refine ks_astore_n_2 rfl rfl ?_
      refine ks_iload_n rfl rfl ?_
      refine ks_istore_n_3 rfl rfl ?_
      refine ks_iconst rfl ?_
      refine ks_istore_4 rfl rfl ?_
      refine ks_iload rfl rfl ?_
      refine ks_bipush rfl ?_
      -- at 23: if ge -> 48 else 26 st ['6', '0']
      refine ks_icmp_ge rfl ⟨by omega, by omega⟩ ⟨by omega, by omega⟩ (fun q => ?_) (fun q => absurd q (by omega))
      refine ks_aload_n rfl rfl ?_
      refine ks_iload_n rfl rfl ?_
      refine ks_iaload7 rfl rfl (by omega) (by omega) (by (try simp only [kx_up_at, kx_row_at, up1_at, Nat.reduceEqDiff, Int.reduceEq, Int.reduceNeg, and_true, true_and, and_false, false_and, and_self, reduceIte, Nat.add_left_cancel_iff, Nat.add_eq_left, Nat.left_eq_add, Nat.reduceAdd, Int.add_left_inj, Int.add_right_inj, c5]); rfl) ?_
      -- at 29: if eq -> 36 else 32 st [None]
      refine ks_if_eq rfl ⟨by omega, by omega⟩ (fun q2 => ?_) (fun q2 => absurd q2 (by omega))
      refine ks_getstatic rfl ?_
      refine ks_iload_n rfl rfl ?_
      refine ks_iaload7 rfl rfl (by omega) (by omega) (by (try simp only [kx_up_at, kx_row_at, up1_at, Nat.reduceEqDiff, Int.reduceEq, Int.reduceNeg, and_true, true_and, and_false, false_and, and_self, reduceIte, Nat.add_left_cancel_iff, Nat.add_eq_left, Nat.left_eq_add, Nat.reduceAdd, Int.add_left_inj, Int.add_right_inj, b15]); rfl) ?_
      refine ks_istore_n_3 rfl rfl ?_
      refine ks_iinc_4 rfl rfl ?_
      refine ks_goto rfl ?_
      refine ks_iload rfl rfl ?_
      refine ks_bipush rfl ?_
      -- at 23: if ge -> 48 else 26 st ['6', None]
      refine ks_icmp_ge rfl ⟨by omega, by omega⟩ ⟨by omega, by omega⟩ (fun q3 => ?_) (fun q3 => absurd q3 (by omega))
      refine ks_aload_n rfl rfl ?_
      refine ks_iload_n rfl rfl ?_
      refine ks_iaload7 rfl rfl (by omega) (by omega) (by (try simp only [kx_up_at, kx_row_at, up1_at, Nat.reduceEqDiff, Int.reduceEq, Int.reduceNeg, and_true, true_and, and_false, false_and, and_self, reduceIte, Nat.add_left_cancel_iff, Nat.add_eq_left, Nat.left_eq_add, Nat.reduceAdd, Int.add_left_inj, Int.add_right_inj, c4]); rfl) ?_
      -- at 29: if eq -> 36 else 32 st [None]
      refine ks_if_eq rfl ⟨by omega, by omega⟩ (fun q4 => absurd q4 (by omega)) (fun q4 => ?_)
      refine ks_aload_n rfl rfl ?_
      refine ks_iload_n rfl rfl ?_
      refine ks_iaload7 rfl rfl (by omega) (by omega) (by (try simp only [kx_up_at, kx_row_at, up1_at, Nat.reduceEqDiff, Int.reduceEq, Int.reduceNeg, and_true, true_and, and_false, false_and, and_self, reduceIte, Nat.add_left_cancel_iff, Nat.add_eq_left, Nat.left_eq_add, Nat.reduceAdd, Int.add_left_inj, Int.add_right_inj, c4]); rfl) ?_
      refine ks_ireturn rfl ?_
      -- at 35: ret  st [None]
      exact t
/-- what is asked, of a kind: the answer, and the bodies -/
def q_mv (s : Int → Int) (h : Int) : Int := if s (6 + h) = 1 then h + s (24 + h) else if s (6 + h) = 2 then 2 * (h + s (24 + h)) else if s (6 + h) = 3 then h + s (24 + h) - 1000 else if s (6 + h) = 4 then h - (s (12 + h) - 100) else h - 2 * (s (12 + h) - 100)
def q_ml (k : Int) : List Int := if k = 1 then [21, 20] else if k = 2 then [24, 21, 20] else if k = 3 then [22, 21, 20] else if k = 4 then [23, 20, 13, 10] else [23, 20, 14, 13, 10]
def q_sv (s : Int → Int) (h : Int) : Int := if s (6 + h) = 2 then -(s (12 + h) + 2 * (h + s (24 + h))) else if s (6 + h) = 4 then s (12 + h) - 100 else if s (6 + h) = 5 then 2 * (s (12 + h) - 100) else s (12 + h) + q_mv s h
def q_sl (k : Int) : List Int := if k = 2 then [12, 11, 10, 24, 21, 20] else if k = 4 then [13, 10] else if k = 5 then [14, 13, 10] else if k = 1 then [11, 10, 21, 20] else [11, 10, 22, 21, 20]
theorem TB_C {μ μ' : kx_M} (B : TB μ) (F : FrC μ μ') : TB μ' := TB_fr B (fun c hc => F c (by omega) (by omega))
/-- MARK of firm ones -/
theorem r_aa1 {k : Int} (B : TB μ) (T : TR μ 30 s) (W : tw_W 999 s) (h0 : 0 ≤ h) (h1 : h < s 1) (hk : s (6 + h) = k) (k1 : k ≤ 3) (e0 : 0 ≤ e) (e1 : e < 10) (A : AK μ 56 55 1 l) (hl : l.length < 14) (t : ∀ μ', AK μ' 56 55 1 (l ++ q_ml k) → FrC μ μ' → Q (some (kI (q_mv s h))) (kg L) μ') : kx_cx (ke (d + 5)) 8 [kR 55, kI 1, kR 30, kI h, kI e] (kg L) μ Q := by
  refine ke_start (tb := kt_Asker_askAnew) (ls := [some (kR 55), some (kI 1), some (kR 30), some (kI h), some (kI e)]) rfl rfl ?_
  have w1 := W.1
  have w7 := W.2.2.2.2.2.2.1 h h0 h1
  have c7 := (T.2.2.2.2.2.2.1 h h0 h1).1
  refine ks_aload_n rfl rfl ?_
  refine ks_aload_n rfl rfl ?_
  refine ks_getr (b := 31) rfl rfl rfl rfl (by decide) ?_
  refine ks_iload_n rfl rfl ?_
  refine ks_iaload rfl rfl (by omega) (by omega) (by (try simp only [kx_up_at, kx_row_at, up1_at, Nat.reduceEqDiff, Int.reduceEq, Int.reduceNeg, and_true, true_and, and_false, false_and, and_self, reduceIte, Nat.add_left_cancel_iff, Nat.add_eq_left, Nat.left_eq_add, Nat.reduceAdd, Int.add_left_inj, Int.add_right_inj, c7]); rfl) ?_
  refine ks_iload_n rfl rfl ?_
  refine ks_calls_2 rfl (Nat.le_of_ble_eq_true rfl) ?_
  -- at 8: call Kinds_bodyOf st ['55']
  have hc : k = 1 ∨ k = 2 ∨ k = 3 := by omega
  unfold q_mv at t
  rw [hk] at t ⊢
  refine r_bodyOf B (by omega) (by omega) (by omega) (by omega) ?_
  rcases hc with g | g | g
  · subst g
    have eb : q_bo 1 1 = 21 := rfl
    rw [eb]
    show kx_wx _ _ _ _ _ (_ :: _) _ _
    refine ks_aload_n rfl rfl ?_
    refine ks_iload_n rfl rfl ?_
    refine ks_iload rfl rfl ?_
    refine ks_callv_5 rfl rfl rfl (Nat.le_of_ble_eq_true rfl) ?_
    -- at 15: call Asker_runBody st []
    refine r_rb21 T W h0 h1 e0 (by omega) A (by omega) (fun μ1 A1 F1 => ?_)
    show kx_wx _ _ _ _ _ (_ :: _) _ _
    refine ks_ireturn rfl ?_
    -- at 18: ret  st [None]
    exact t _ A1 F1
  · subst g
    have eb : q_bo 2 1 = 24 := rfl
    rw [eb]
    show kx_wx _ _ _ _ _ (_ :: _) _ _
    refine ks_aload_n rfl rfl ?_
    refine ks_iload_n rfl rfl ?_
    refine ks_iload rfl rfl ?_
    refine ks_callv_5 rfl rfl rfl (Nat.le_of_ble_eq_true rfl) ?_
    -- at 15: call Asker_runBody st []
    refine r_rb24 T W h0 h1 e0 (by omega) A (by omega) (fun μ1 A1 F1 => ?_)
    show kx_wx _ _ _ _ _ (_ :: _) _ _
    refine ks_ireturn rfl ?_
    -- at 18: ret  st [None]
    exact t _ A1 F1
  · subst g
    have eb : q_bo 3 1 = 22 := rfl
    rw [eb]
    show kx_wx _ _ _ _ _ (_ :: _) _ _
    refine ks_aload_n rfl rfl ?_
    refine ks_iload_n rfl rfl ?_
    refine ks_iload rfl rfl ?_
    refine ks_callv_5 rfl rfl rfl (Nat.le_of_ble_eq_true rfl) ?_
    -- at 15: call Asker_runBody st []
    refine r_rb22 T W h0 h1 e0 (by omega) A (by omega) (fun μ1 A1 F1 => ?_)
    show kx_wx _ _ _ _ _ (_ :: _) _ _
    refine ks_ireturn rfl ?_
    -- at 18: ret  st [None]
    exact t _ A1 F1
/-- SIZE of windy ones -/
theorem r_aa0 {k : Int} (B : TB μ) (T : TR μ 30 s) (W : tw_W 999 s) (h0 : 0 ≤ h) (h1 : h < s 1) (hk : s (6 + h) = k) (k1 : 4 ≤ k) (e0 : 0 ≤ e) (e1 : e < 10) (A : AK μ 56 55 1 l) (hl : l.length < 14) (t : ∀ μ', AK μ' 56 55 1 (l ++ q_sl k) → FrC μ μ' → Q (some (kI (q_sv s h))) (kg L) μ') : kx_cx (ke (d + 5)) 8 [kR 55, kI 0, kR 30, kI h, kI e] (kg L) μ Q := by
  refine ke_start (tb := kt_Asker_askAnew) (ls := [some (kR 55), some (kI 0), some (kR 30), some (kI h), some (kI e)]) rfl rfl ?_
  have w1 := W.1
  have w7 := W.2.2.2.2.2.2.1 h h0 h1
  have c7 := (T.2.2.2.2.2.2.1 h h0 h1).1
  refine ks_aload_n rfl rfl ?_
  refine ks_aload_n rfl rfl ?_
  refine ks_getr (b := 31) rfl rfl rfl rfl (by decide) ?_
  refine ks_iload_n rfl rfl ?_
  refine ks_iaload rfl rfl (by omega) (by omega) (by (try simp only [kx_up_at, kx_row_at, up1_at, Nat.reduceEqDiff, Int.reduceEq, Int.reduceNeg, and_true, true_and, and_false, false_and, and_self, reduceIte, Nat.add_left_cancel_iff, Nat.add_eq_left, Nat.left_eq_add, Nat.reduceAdd, Int.add_left_inj, Int.add_right_inj, c7]); rfl) ?_
  refine ks_iload_n rfl rfl ?_
  refine ks_calls_2 rfl (Nat.le_of_ble_eq_true rfl) ?_
  -- at 8: call Kinds_bodyOf st ['55']
  have hc : k = 4 ∨ k = 5 := by omega
  unfold q_sv at t
  rw [hk] at t ⊢
  refine r_bodyOf B (by omega) (by omega) (by omega) (by omega) ?_
  rcases hc with g | g
  · subst g
    have eb : q_bo 4 0 = 13 := rfl
    rw [eb]
    show kx_wx _ _ _ _ _ (_ :: _) _ _
    refine ks_aload_n rfl rfl ?_
    refine ks_iload_n rfl rfl ?_
    refine ks_iload rfl rfl ?_
    refine ks_callv_5 rfl rfl rfl (Nat.le_of_ble_eq_true rfl) ?_
    -- at 15: call Asker_runBody st []
    refine r_rb13 T W h0 h1 e0 (by omega) A (by omega) (fun μ1 A1 F1 => ?_)
    show kx_wx _ _ _ _ _ (_ :: _) _ _
    refine ks_ireturn rfl ?_
    -- at 18: ret  st [None]
    exact t _ A1 F1
  · subst g
    have eb : q_bo 5 0 = 14 := rfl
    rw [eb]
    show kx_wx _ _ _ _ _ (_ :: _) _ _
    refine ks_aload_n rfl rfl ?_
    refine ks_iload_n rfl rfl ?_
    refine ks_iload rfl rfl ?_
    refine ks_callv_5 rfl rfl rfl (Nat.le_of_ble_eq_true rfl) ?_
    -- at 15: call Asker_runBody st []
    refine r_rb14 T W h0 h1 e0 (by omega) A (by omega) (fun μ1 A1 F1 => ?_)
    show kx_wx _ _ _ _ _ (_ :: _) _ _
    refine ks_ireturn rfl ?_
    -- at 18: ret  st [None]
    exact t _ A1 F1
theorem r_rb11 {k : Int} (B : TB μ) (T : TR μ 30 s) (W : tw_W 999 s) (h0 : 0 ≤ h) (h1 : h < s 1) (hk : s (6 + h) = k) (k1 : k ≤ 3) (e0 : 0 ≤ e) (e1 : e < 9) (A : AK μ 56 55 1 l) (hl : l.length < 11) (t : ∀ μ', AK μ' 56 55 1 (l ++ ([11, 10] ++ q_ml k)) → FrC μ μ' → Q (some (kI (s (12 + h) + q_mv s h))) (kg L) μ') : kx_cx (ke (d + 6)) 7 [kR 55, kI 11, kR 30, kI h, kI e] (kg L) μ Q := by
  refine ke_start (tb := kt_Asker_runBody) (ls := [some (kR 55), some (kI 11), some (kR 30), some (kI h), some (kI e), none]) rfl rfl ?_
  refine ks_iload rfl rfl ?_
  refine ks_bipush rfl ?_
  -- at 4: if lt -> 9 else 7 st ['12', None]
  refine ks_icmp_lt rfl ⟨by omega, by omega⟩ ⟨by omega, by omega⟩ (fun c => ?_) (fun c => absurd c (by omega))
  refine ks_aload_n rfl rfl ?_
  refine ks_iload_n rfl rfl ?_
  refine ks_callv_2 rfl rfl rfl (Nat.le_of_ble_eq_true rfl) ?_
  -- at 11: call Asker_leaveNumber st []
  refine r_leaveNumber A (by omega) (fun μ1 A1 F1 => ?_)
  show kx_wx _ _ _ _ _ _ _ _
  refine ks_iload rfl rfl ?_
  refine ks_iconst rfl ?_
  refine ks_iadd rfl ?_
  refine ks_istore_5 rfl rfl ?_
  refine ks_iload_n rfl rfl ?_
  -- at 21: sw  st [None]
  refine ks_tsw rfl ⟨by omega, by omega⟩ ?_
  simp only [kx_sw, Int.reduceAdd, reduceIte, Int.reduceEq]
  refine ks_aload_n rfl rfl ?_
  refine ks_bipush rfl ?_
  refine ks_aload_n rfl rfl ?_
  refine ks_iload_n rfl rfl ?_
  refine ks_iload rfl rfl ?_
  refine ks_callv_5 rfl rfl rfl (Nat.le_of_ble_eq_true rfl) ?_
  -- at 110: call Asker_runBody st []
  refine r_rb10 (TR_C T F1) W h0 h1 (by omega) (by omega) A1 (by rw [List.length_append]; show l.length + 1 < 16; omega) (fun μ2 A2 F2 => ?_)
  show kx_wx _ _ _ _ _ (_ :: _) _ _
  refine ks_aload_n rfl rfl ?_
  refine ks_iconst rfl ?_
  refine ks_aload_n rfl rfl ?_
  refine ks_iload_n rfl rfl ?_
  refine ks_iload rfl rfl ?_
  refine ks_callv_5 rfl rfl rfl (Nat.le_of_ble_eq_true rfl) ?_
  -- at 119: call Asker_askAnew st [None]
  rw [List.append_assoc] at A2
  have F3 := FrC_tr F1 F2
  refine r_aa1 (TB_C B F3) (TR_C T F3) W h0 h1 hk k1 (by omega) (by omega) A2 (by rw [List.length_append]; show l.length + 2 < 14; omega) (fun μ4 A4 F4 => ?_)
  show kx_wx _ _ _ _ _ (_ :: _) _ _
  refine ks_iadd rfl ?_
  refine ks_ireturn rfl ?_
  -- at 123: ret  st [None]
  rw [List.append_assoc] at A4
  exact t _ A4 (FrC_tr F3 F4)
theorem r_rb12 (B : TB μ) (T : TR μ 30 s) (W : tw_W 999 s) (h0 : 0 ≤ h) (h1 : h < s 1) (hk : s (6 + h) = 2) (e0 : 0 ≤ e) (e1 : e < 8) (A : AK μ 56 55 1 l) (hl : l.length < 10) (t : ∀ μ', AK μ' 56 55 1 (l ++ [12, 11, 10, 24, 21, 20]) → FrC μ μ' → Q (some (kI (-(s (12 + h) + q_mv s h)))) (kg L) μ') : kx_cx (ke (d + 7)) 7 [kR 55, kI 12, kR 30, kI h, kI e] (kg L) μ Q := by
  refine ke_start (tb := kt_Asker_runBody) (ls := [some (kR 55), some (kI 12), some (kR 30), some (kI h), some (kI e), none]) rfl rfl ?_
  refine ks_iload rfl rfl ?_
  refine ks_bipush rfl ?_
  -- at 4: if lt -> 9 else 7 st ['12', None]
  refine ks_icmp_lt rfl ⟨by omega, by omega⟩ ⟨by omega, by omega⟩ (fun c => ?_) (fun c => absurd c (by omega))
  refine ks_aload_n rfl rfl ?_
  refine ks_iload_n rfl rfl ?_
  refine ks_callv_2 rfl rfl rfl (Nat.le_of_ble_eq_true rfl) ?_
  -- at 11: call Asker_leaveNumber st []
  refine r_leaveNumber A (by omega) (fun μ1 A1 F1 => ?_)
  show kx_wx _ _ _ _ _ _ _ _
  refine ks_iload rfl rfl ?_
  refine ks_iconst rfl ?_
  refine ks_iadd rfl ?_
  refine ks_istore_5 rfl rfl ?_
  refine ks_iload_n rfl rfl ?_
  -- at 21: sw  st [None]
  refine ks_tsw rfl ⟨by omega, by omega⟩ ?_
  simp only [kx_sw, Int.reduceAdd, reduceIte, Int.reduceEq]
  refine ks_aload_n rfl rfl ?_
  refine ks_bipush rfl ?_
  refine ks_aload_n rfl rfl ?_
  refine ks_iload_n rfl rfl ?_
  refine ks_iload rfl rfl ?_
  refine ks_callv_5 rfl rfl rfl (Nat.le_of_ble_eq_true rfl) ?_
  -- at 131: call Asker_runBody st []
  refine r_rb11 (TB_C B F1) (TR_C T F1) W h0 h1 hk (by omega) (by omega) (by omega) A1 (by rw [List.length_append]; show l.length + 1 < 11; omega) (fun μ2 A2 F2 => ?_)
  show kx_wx _ _ _ _ _ (_ :: _) _ _
  refine ks_ineg rfl ?_
  refine ks_ireturn rfl ?_
  -- at 135: ret  st [None]
  rw [List.append_assoc] at A2
  exact t _ A2 (FrC_tr F1 F2)
theorem r_rb23 {k : Int} (B : TB μ) (T : TR μ 30 s) (W : tw_W 999 s) (h0 : 0 ≤ h) (h1 : h < s 1) (hk : s (6 + h) = k) (k1 : 4 ≤ k) (e0 : 0 ≤ e) (e1 : e < 9) (A : AK μ 56 55 1 l) (hl : l.length < 11) (t : ∀ μ', AK μ' 56 55 1 (l ++ ([23, 20] ++ q_sl k)) → FrC μ μ' → Q (some (kI (h - q_sv s h))) (kg L) μ') : kx_cx (ke (d + 6)) 7 [kR 55, kI 23, kR 30, kI h, kI e] (kg L) μ Q := by
  refine ke_start (tb := kt_Asker_runBody) (ls := [some (kR 55), some (kI 23), some (kR 30), some (kI h), some (kI e), none]) rfl rfl ?_
  refine ks_iload rfl rfl ?_
  refine ks_bipush rfl ?_
  -- at 4: if lt -> 9 else 7 st ['12', None]
  refine ks_icmp_lt rfl ⟨by omega, by omega⟩ ⟨by omega, by omega⟩ (fun c => ?_) (fun c => absurd c (by omega))
  refine ks_aload_n rfl rfl ?_
  refine ks_iload_n rfl rfl ?_
  refine ks_callv_2 rfl rfl rfl (Nat.le_of_ble_eq_true rfl) ?_
  -- at 11: call Asker_leaveNumber st []
  refine r_leaveNumber A (by omega) (fun μ1 A1 F1 => ?_)
  show kx_wx _ _ _ _ _ _ _ _
  refine ks_iload rfl rfl ?_
  refine ks_iconst rfl ?_
  refine ks_iadd rfl ?_
  refine ks_istore_5 rfl rfl ?_
  refine ks_iload_n rfl rfl ?_
  -- at 21: sw  st [None]
  refine ks_tsw rfl ⟨by omega, by omega⟩ ?_
  simp only [kx_sw, Int.reduceAdd, reduceIte, Int.reduceEq]
  refine ks_aload_n rfl rfl ?_
  refine ks_bipush rfl ?_
  refine ks_aload_n rfl rfl ?_
  refine ks_iload_n rfl rfl ?_
  refine ks_iload rfl rfl ?_
  refine ks_callv_5 rfl rfl rfl (Nat.le_of_ble_eq_true rfl) ?_
  -- at 205: call Asker_runBody st []
  refine r_rb20 (TR_C T F1) W h0 h1 (by omega) (by omega) A1 (by rw [List.length_append]; show l.length + 1 < 16; omega) (fun μ2 A2 F2 => ?_)
  show kx_wx _ _ _ _ _ (_ :: _) _ _
  refine ks_aload_n rfl rfl ?_
  refine ks_iconst rfl ?_
  refine ks_aload_n rfl rfl ?_
  refine ks_iload_n rfl rfl ?_
  refine ks_iload rfl rfl ?_
  refine ks_callv_5 rfl rfl rfl (Nat.le_of_ble_eq_true rfl) ?_
  -- at 214: call Asker_askAnew st [None]
  rw [List.append_assoc] at A2
  have F3 := FrC_tr F1 F2
  refine r_aa0 (TB_C B F3) (TR_C T F3) W h0 h1 hk k1 (by omega) (by omega) A2 (by rw [List.length_append]; show l.length + 2 < 14; omega) (fun μ4 A4 F4 => ?_)
  show kx_wx _ _ _ _ _ (_ :: _) _ _
  refine ks_isub rfl ?_
  refine ks_ireturn rfl ?_
  -- at 218: ret  st [None]
  rw [List.append_assoc] at A4
  exact t _ A4 (FrC_tr F3 F4)
/-- an ask, by the class -/
theorem r_askAnew {w : Int} (B : TB μ) (T : TR μ 30 s) (W : tw_W 999 s) (h0 : 0 ≤ h) (h1 : h < s 1) (w0 : 0 ≤ w) (w1 : w ≤ 1) (A : AK μ 56 55 1 []) (t : ∀ μ', AK μ' 56 55 1 (if w = 0 then q_sl (s (6 + h)) else q_ml (s (6 + h))) → FrC μ μ' → Q (some (kI (if w = 0 then q_sv s h else q_mv s h))) (kg L) μ') : kx_cx (ke (d + 8)) 8 [kR 55, kI w, kR 30, kI h, kI 0] (kg L) μ Q := by
  have x1 := W.1
  have w7 := W.2.2.2.2.2.2.1 h h0 h1
  have c7 := (T.2.2.2.2.2.2.1 h h0 h1).1
  generalize hk : s (6 + h) = k at *
  by_cases ew : w = 0
  · subst ew
    rw [if_pos rfl] at t
    rw [if_pos rfl] at t
    by_cases k4 : 4 ≤ k
    · exact r_aa0 B T W h0 h1 hk k4 (by omega) (by omega) A (by show 0 < 14; omega) t
    · refine ke_start (tb := kt_Asker_askAnew) (ls := [some (kR 55), some (kI 0), some (kR 30), some (kI h), some (kI 0)]) rfl rfl ?_
      refine ks_aload_n rfl rfl ?_
      refine ks_aload_n rfl rfl ?_
      refine ks_getr (b := 31) rfl rfl rfl rfl (by decide) ?_
      refine ks_iload_n rfl rfl ?_
      refine ks_iaload rfl rfl (by omega) (by omega) (by (try simp only [kx_up_at, kx_row_at, up1_at, Nat.reduceEqDiff, Int.reduceEq, Int.reduceNeg, and_true, true_and, and_false, false_and, and_self, reduceIte, Nat.add_left_cancel_iff, Nat.add_eq_left, Nat.left_eq_add, Nat.reduceAdd, Int.add_left_inj, Int.add_right_inj, c7]); rfl) ?_
      refine ks_iload_n rfl rfl ?_
      refine ks_calls_2 rfl (Nat.le_of_ble_eq_true rfl) ?_
      -- at 8: call Kinds_bodyOf st ['55']
      refine r_bodyOf B (by omega) (by omega) (by omega) (by omega) ?_
      by_cases e2 : k = 2
      · subst e2
        have eb : q_bo 2 0 = 12 := rfl
        rw [eb]
        show kx_wx _ _ _ _ _ (_ :: _) _ _
        refine ks_aload_n rfl rfl ?_
        refine ks_iload_n rfl rfl ?_
        refine ks_iload rfl rfl ?_
        refine ks_callv_5 rfl rfl rfl (Nat.le_of_ble_eq_true rfl) ?_
        -- at 15: call Asker_runBody st []
        refine r_rb12 B T W h0 h1 hk (by omega) (by omega) A (by show 0 < 10; omega) (fun μ1 A1 F1 => ?_)
        show kx_wx _ _ _ _ _ (_ :: _) _ _
        refine ks_ireturn rfl ?_
        -- at 18: ret  st [None]
        have e1 : q_sv s h = -(s (12 + h) + q_mv s h) := by unfold q_sv q_mv; rw [hk]; rfl
        rw [e1] at t
        exact t _ A1 F1
      · have eb : q_bo k 0 = 11 := by
          have hc : k = 1 ∨ k = 3 := by omega
          rcases hc with g | g <;> subst g <;> rfl
        rw [eb]
        show kx_wx _ _ _ _ _ (_ :: _) _ _
        refine ks_aload_n rfl rfl ?_
        refine ks_iload_n rfl rfl ?_
        refine ks_iload rfl rfl ?_
        refine ks_callv_5 rfl rfl rfl (Nat.le_of_ble_eq_true rfl) ?_
        -- at 15: call Asker_runBody st []
        refine r_rb11 B T W h0 h1 hk (by omega) (by omega) (by omega) A (by show 0 < 11; omega) (fun μ1 A1 F1 => ?_)
        show kx_wx _ _ _ _ _ (_ :: _) _ _
        refine ks_ireturn rfl ?_
        -- at 18: ret  st [None]
        have e1 : q_sv s h = s (12 + h) + q_mv s h := by unfold q_sv; rw [hk, if_neg e2, if_neg (by omega), if_neg (by omega)]
        have e3 : q_sl k = [] ++ ([11, 10] ++ q_ml k) := by
          have hc : k = 1 ∨ k = 3 := by omega
          rcases hc with g | g <;> subst g <;> rfl
        rw [e1, e3] at t
        exact t _ A1 F1
  · have e1 : w = 1 := by omega
    subst e1
    rw [if_neg ew] at t
    rw [if_neg ew] at t
    by_cases k4 : 4 ≤ k
    · refine ke_start (tb := kt_Asker_askAnew) (ls := [some (kR 55), some (kI 1), some (kR 30), some (kI h), some (kI 0)]) rfl rfl ?_
      refine ks_aload_n rfl rfl ?_
      refine ks_aload_n rfl rfl ?_
      refine ks_getr (b := 31) rfl rfl rfl rfl (by decide) ?_
      refine ks_iload_n rfl rfl ?_
      refine ks_iaload rfl rfl (by omega) (by omega) (by (try simp only [kx_up_at, kx_row_at, up1_at, Nat.reduceEqDiff, Int.reduceEq, Int.reduceNeg, and_true, true_and, and_false, false_and, and_self, reduceIte, Nat.add_left_cancel_iff, Nat.add_eq_left, Nat.left_eq_add, Nat.reduceAdd, Int.add_left_inj, Int.add_right_inj, c7]); rfl) ?_
      refine ks_iload_n rfl rfl ?_
      refine ks_calls_2 rfl (Nat.le_of_ble_eq_true rfl) ?_
      -- at 8: call Kinds_bodyOf st ['55']
      refine r_bodyOf B (by omega) (by omega) (by omega) (by omega) ?_
      have eb : q_bo k 1 = 23 := by
        have hc : k = 4 ∨ k = 5 := by omega
        rcases hc with g | g <;> subst g <;> rfl
      rw [eb]
      show kx_wx _ _ _ _ _ (_ :: _) _ _
      refine ks_aload_n rfl rfl ?_
      refine ks_iload_n rfl rfl ?_
      refine ks_iload rfl rfl ?_
      refine ks_callv_5 rfl rfl rfl (Nat.le_of_ble_eq_true rfl) ?_
      -- at 15: call Asker_runBody st []
      refine r_rb23 B T W h0 h1 hk k4 (by omega) (by omega) A (by show 0 < 11; omega) (fun μ1 A1 F1 => ?_)
      show kx_wx _ _ _ _ _ (_ :: _) _ _
      refine ks_ireturn rfl ?_
      -- at 18: ret  st [None]
      have e1 : q_mv s h = h - q_sv s h := by
        unfold q_sv q_mv
        rw [hk]
        have hc : k = 4 ∨ k = 5 := by omega
        rcases hc with g | g <;> subst g <;> rfl
      have e3 : q_ml k = [] ++ ([23, 20] ++ q_sl k) := by
        have hc : k = 4 ∨ k = 5 := by omega
        rcases hc with g | g <;> subst g <;> rfl
      rw [e1, e3] at t
      exact t _ A1 F1
    · exact r_aa1 B T W h0 h1 hk (by omega) (by omega) (by omega) A (by show 0 < 14; omega) t
end ASK
