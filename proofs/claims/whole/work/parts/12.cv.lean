/-! a step of the class's town is a step of the reference's -/
theorem up1_ne {f : Int → Int} {i v j : Int} (h : j ≠ i) : up1 f i v j = f j := by rw [up1_at, if_neg h]
theorem TRx_13 {μ : kx_M} {a : Nat} {s : Int → Int} {z v : Int} (h : TRx μ a s z) : TRx (kx_up μ a 13 v) a s v := by
  obtain ⟨e8, e9, e10, e11, e12, e13, eh, eo⟩ := h
  refine ⟨by simp [kx_up_at]; exact e8, by simp [kx_up_at]; exact e9, by simp [kx_up_at]; exact e10, by simp [kx_up_at]; exact e11, by simp [kx_up_at]; exact e12, by simp [kx_up_at], fun i i0 i1 => ?_, fun k k0 k1 => ?_⟩
  · have := eh i i0 i1
    simpa [kx_up_at] using this
  · have := eo k k0 k1
    rw [kx_up_row (by omega), kx_up_row (by omega), kx_up_row (by omega), kx_up_row (by omega)]; exact this
theorem TRx_12 {μ : kx_M} {a : Nat} {s : Int → Int} {z v : Int} (h : TRx μ a s z) (h1 : s 1 ≤ 6) : TRx (kx_up μ a 12 v) a (up1 s 5 v) z := by
  obtain ⟨e8, e9, e10, e11, e12, e13, eh, eo⟩ := h
  refine ⟨by simp [kx_up_at, up1_at]; exact e8, by simp [kx_up_at, up1_at]; exact e9, by simp [kx_up_at, up1_at]; exact e10, by simp [kx_up_at, up1_at]; exact e11, by simp [kx_up_at, up1_at], by simp [kx_up_at]; exact e13, fun i i0 i1 => ?_, fun k k0 k1 => ?_⟩
  · have := eh i i0 i1
    rw [kx_up_row (by omega), kx_up_row (by omega), kx_up_row (by omega), kx_up_row (by omega)]
    rw [up1_ne (by omega), up1_ne (by omega), up1_ne (by omega), up1_ne (by omega)]; exact this
  · have := eo k k0 k1
    rw [kx_up_row (by omega), kx_up_row (by omega), kx_up_row (by omega), kx_up_row (by omega)]
    rw [up1_ne (by omega), up1_ne (by omega), up1_ne (by omega), up1_ne (by omega)]; exact this
theorem TRx_11 {μ : kx_M} {a : Nat} {s : Int → Int} {z v : Int} (h : TRx μ a s z) : TRx (kx_up μ a 11 v) a (up1 s 4 v) z := by
  obtain ⟨e8, e9, e10, e11, e12, e13, eh, eo⟩ := h
  refine ⟨by simp [kx_up_at, up1_at]; exact e8, by simp [kx_up_at, up1_at]; exact e9, by simp [kx_up_at, up1_at]; exact e10, by simp [kx_up_at, up1_at], by simp [kx_up_at, up1_at]; exact e12, by simp [kx_up_at]; exact e13, fun i i0 i1 => ?_, fun k k0 k1 => ?_⟩
  · have := eh i i0 i1
    rw [kx_up_row (by omega), kx_up_row (by omega), kx_up_row (by omega), kx_up_row (by omega)]
    rw [up1_ne (by omega), up1_ne (by omega), up1_ne (by omega), up1_ne (by omega)]; exact this
  · have := eo k k0 k1
    rw [kx_up_row (by omega), kx_up_row (by omega), kx_up_row (by omega), kx_up_row (by omega)]
    rw [up1_ne (by omega), up1_ne (by omega), up1_ne (by omega), up1_ne (by omega)]; exact this
theorem TRx_10 {μ : kx_M} {a : Nat} {s : Int → Int} {z v : Int} (h : TRx μ a s z) : TRx (kx_up μ a 10 v) a (up1 s 0 v) z := by
  obtain ⟨e8, e9, e10, e11, e12, e13, eh, eo⟩ := h
  refine ⟨by simp [kx_up_at, up1_at]; exact e8, by simp [kx_up_at, up1_at]; exact e9, by simp [kx_up_at, up1_at], by simp [kx_up_at, up1_at]; exact e11, by simp [kx_up_at, up1_at]; exact e12, by simp [kx_up_at]; exact e13, fun i i0 i1 => ?_, fun k k0 k1 => ?_⟩
  · have := eh i i0 i1
    rw [kx_up_row (by omega), kx_up_row (by omega), kx_up_row (by omega), kx_up_row (by omega)]
    rw [up1_ne (by omega), up1_ne (by omega), up1_ne (by omega), up1_ne (by omega)]; exact this
  · have := eo k k0 k1
    rw [kx_up_row (by omega), kx_up_row (by omega), kx_up_row (by omega), kx_up_row (by omega)]
    rw [up1_ne (by omega), up1_ne (by omega), up1_ne (by omega), up1_ne (by omega)]; exact this
/-- the step's number is not seen -/
theorem TRx_s3 {μ : kx_M} {a : Nat} {s : Int → Int} {z v : Int} (h : TRx μ a s z) : TRx μ a (up1 s 3 v) z := by
  obtain ⟨e8, e9, e10, e11, e12, e13, eh, eo⟩ := h
  refine ⟨e8, e9, e10, e11, e12, e13, fun i i0 i1 => ?_, fun k k0 k1 => ?_⟩
  · have := eh i i0 i1
    rw [up1_ne (by omega), up1_ne (by omega), up1_ne (by omega), up1_ne (by omega)]; exact this
  · have := eo k k0 k1
    rw [up1_ne (by omega), up1_ne (by omega), up1_ne (by omega), up1_ne (by omega)]; exact this
section CV
variable {d L : Nat} {G : kx_G} {μ : kx_M} {Q : Option kx_V → kx_G → kx_M → Prop} {a : Nat} {s : Int → Int} {B z : Int}
theorem r_takeStep (hB : B ≤ 100000) (hK : kg_T L a) (hT : TR μ a s) (hw : tw_W B s) (t : ∀ μ', TR μ' a (tw_step s) → Fr a μ μ' → Q (some (kI (tw_found s (s 4)))) (kg L) μ') : kx_cx (ke (d + 3)) 61 [kR a] (kg L) μ Q := by
  refine ke_start (tb := kt_Town_takeStep) (ls := [some (kR a), none]) rfl rfl ?_
  have hK0 := hK
  have hw0 := hw
  obtain ⟨g0, g1, g2, g3, g4, g5, g6, g7, g8, g9, g10, g11, g12, g13, g14, g15, g16⟩ := hK
  have e13 : μ a 13 = s 3 := hT.2.2.2.2.2.1
  obtain ⟨w1, w2, w3, w4, w5, w6, w7, w8⟩ := hw
  have hfi := tw_found_in s (s 4)
  refine ks_aload_n rfl rfl ?_
  refine ks_dupR rfl ?_
  refine ks_geti rfl rfl (by assumption) rfl (by (try simp only [kx_up_at, kx_row_at, up1_at, Nat.reduceEqDiff, Int.reduceEq, Int.reduceNeg, and_true, true_and, and_false, false_and, and_self, reduceIte, Nat.add_left_cancel_iff, Nat.add_eq_left, Nat.left_eq_add, Nat.reduceAdd, Int.add_left_inj, Int.add_right_inj, e13]); rfl) ?_
  refine ks_iconst rfl ?_
  refine ks_iadd rfl ?_
  refine ks_puti rfl (by assumption) ?_
  refine ks_aload_n rfl rfl ?_
  refine ks_callv_1 rfl rfl (by assumption) (Nat.le_of_ble_eq_true rfl) ?_
  -- at 11: call Town_orderToWorkOn st []
  have hT1 : TRx (kx_up μ a 13 (s 3 + 1)) a s (s 3 + 1) := TRx_13 hT
  have F1 : Fr a μ (kx_up μ a 13 (s 3 + 1)) := Fr_up (Fr_rf a μ) (by omega)
  generalize kx_up μ a 13 (s 3 + 1) = μ1 at *
  refine r_orderToWorkOn hK0 hT1 hw0 ?_
  show kx_wx _ _ _ _ _ (_ :: _) _ _
  have key : ∀ μ2, TRx μ2 a (tw_work s (s 4) (tw_found s (s 4))) (s 3 + 1) → Fr a μ μ2 → kx_wx (ke (d + 2)) kt_Town_takeStep Q 25 [some (kR a), some (kI (tw_found s (s 4)))] [] (kg L) μ2 := by
    intro μ2 T2 F2
    unfold tw_step at t
    have hlo : ∀ j : Int, j < 24 ∨ 30 ≤ j ∧ j < 34 → tw_work s (s 4) (tw_found s (s 4)) j = s j := fun j hj => tw_work_lo (by omega) (by omega) hj
    have hho : ∀ k : Int, 0 ≤ k → k < s 2 → 0 ≤ tw_work s (s 4) (tw_found s (s 4)) (38 + k) ∧ tw_work s (s 4) (tw_found s (s 4)) (38 + k) ≤ 2 := fun k a b => tw_work_how hw0 w3 (by omega) a b
    generalize tw_work s (s 4) (tw_found s (s 4)) = s1 at *
    have e12 : μ2 a 12 = s 5 := by rw [← hlo 5 (by omega)]; exact T2.2.2.2.2.1
    have T3 : TRx (kx_up μ2 a 12 (s 5 + 1)) a (tw_tick s1) (s 3 + 1) := by
      have := TRx_s3 (v := s1 3 + 1) (TRx_12 (v := s1 5 + 1) T2 (by rw [hlo 1 (by omega)]; omega))
      rw [hlo 5 (by omega)] at this
      unfold tw_tick
      rw [hlo 5 (by omega)]
      exact this
    have a3 : tw_tick s1 3 = s 3 + 1 := by rw [← hlo 3 (by omega)]; rfl
    have a5 : tw_tick s1 5 = s 5 + 1 := by rw [← hlo 5 (by omega)]; rfl
    have ao : ∀ j : Int, j ≠ 5 ∧ j ≠ 3 → tw_tick s1 j = s1 j := fun j hj => tw_tick_at hj
    have a4 : tw_tick s1 4 = s 4 := by rw [ao 4 (by omega), hlo 4 (by omega)]
    have a1 : tw_tick s1 1 = s 1 := by rw [ao 1 (by omega), hlo 1 (by omega)]
    have U : tw_U (tw_tick s1) := by
      refine ⟨?_, ?_, ?_, ?_, ?_, ?_⟩
      · omega
      · rw [ao 2 (by omega), hlo 2 (by omega)]; exact w2
      · rw [a4, a1]; exact w3
      · rw [ao 0 (by omega), hlo 0 (by omega)]; exact w4
      · intro i i0 i1
        rw [a1] at i1
        have := w7 i i0 i1
        rw [ao (6 + i) (by omega), hlo (6 + i) (by omega), ao (12 + i) (by omega), hlo (12 + i) (by omega)]
        omega
      · intro k k0 k1
        rw [ao 2 (by omega), hlo 2 (by omega)] at k1
        rw [ao (38 + k) (by omega)]
        exact hho k k0 k1
    have F3 : Fr a μ (kx_up μ2 a 12 (s 5 + 1)) := Fr_up F2 (by omega)
    refine ks_aload_n rfl rfl ?_
    refine ks_dupR rfl ?_
    refine ks_geti rfl rfl (by assumption) rfl (by (try simp only [kx_up_at, kx_row_at, up1_at, Nat.reduceEqDiff, Int.reduceEq, Int.reduceNeg, and_true, true_and, and_false, false_and, and_self, reduceIte, Nat.add_left_cancel_iff, Nat.add_eq_left, Nat.left_eq_add, Nat.reduceAdd, Int.add_left_inj, Int.add_right_inj, e12]); rfl) ?_
    refine ks_iconst rfl ?_
    refine ks_iadd rfl ?_
    refine ks_puti rfl (by assumption) ?_
    refine ks_aload_n rfl rfl ?_
    refine ks_geti rfl rfl (by assumption) rfl (by (try simp only [kx_up_at, kx_row_at, up1_at, Nat.reduceEqDiff, Int.reduceEq, Int.reduceNeg, and_true, true_and, and_false, false_and, and_self, reduceIte, Nat.add_left_cancel_iff, Nat.add_eq_left, Nat.left_eq_add, Nat.reduceAdd, Int.add_left_inj, Int.add_right_inj, e12]); rfl) ?_
    refine ks_aload_n rfl rfl ?_
    refine ks_callv_1 rfl rfl (by assumption) (Nat.le_of_ble_eq_true rfl) ?_
    -- at 40: call Town_patience st [None]
    generalize tw_tick s1 = s2 at *
    generalize kx_up μ2 a 12 (s 5 + 1) = μ3 at *
    have ou := tw_oc_in s2 (s2 2).toNat
    have ou' : tw_oc s2 (s2 2).toNat = tw_out s2 := rfl
    refine r_patience hK0 T3 U ?_
    show kx_wx _ _ _ _ _ (_ :: _) _ _
    have e11 : μ3 a 11 = s 4 := by rw [T3.2.2.2.1, a4]
    have q7 := U.2.2.2.2.1 (s 4) w3.1 (by omega)
    unfold tw_goes at t
    rw [a4]
    have hpb : 0 ≤ s2 (12 + s 4) + (if s2 (6 + s 4) = 3 then tw_out s2 else 0) ∧ s2 (12 + s 4) + (if s2 (6 + s 4) = 3 then tw_out s2 else 0) ≤ 100 := by
      have := U.2.1
      split <;> omega
    generalize hp : s2 (12 + s 4) + (if s2 (6 + s 4) = 3 then tw_out s2 else 0) = pz at *
    refine ks_icmp_lt rfl ⟨by omega, by omega⟩ ⟨by omega, by omega⟩ (fun c1 => ?_) (fun c1 => ?_)
    · refine ks_iload_n rfl rfl ?_
      refine ks_ireturn rfl ?_
      -- at 64: ret  st [None]
      rw [a5, if_pos c1] at t
      refine t _ ?_ F3
      unfold TR
      rw [a3]
      exact T3
    · rw [a5, if_neg c1] at t
      refine ks_aload_n rfl rfl ?_
      refine ks_aload_n rfl rfl ?_
      refine ks_aload_n rfl rfl ?_
      refine ks_geti rfl rfl (by assumption) rfl (by (try simp only [kx_up_at, kx_row_at, up1_at, Nat.reduceEqDiff, Int.reduceEq, Int.reduceNeg, and_true, true_and, and_false, false_and, and_self, reduceIte, Nat.add_left_cancel_iff, Nat.add_eq_left, Nat.left_eq_add, Nat.reduceAdd, Int.add_left_inj, Int.add_right_inj, e11]); rfl) ?_
      refine ks_aload_n rfl rfl ?_
      refine ks_callv_1 rfl rfl (by assumption) (Nat.le_of_ble_eq_true rfl) ?_
      -- at 53: call Town_stride st [None, 'a', 'a']
      refine r_stride hK0 T3 U ?_
      intro v v0 v1 vv
      show kx_wx _ _ _ _ _ (_ :: _) _ _
      rw [a4] at vv
      refine ks_iadd rfl ?_
      refine ks_callv_2 rfl rfl (by assumption) (Nat.le_of_ble_eq_true rfl) ?_
      -- at 57: call Town_seat st ['a']
      refine r_seat (s := s2) (by omega) (by omega) hK0 T3.1 U.1 ?_
      show kx_wx _ _ _ _ _ (_ :: _) _ _
      rw [vv]
      refine ks_callv_2 rfl rfl (by assumption) (Nat.le_of_ble_eq_true rfl) ?_
      -- at 60: call Town_handTo st []
      refine r_handTo hK0 ?_
      show kx_wx _ _ _ _ _ _ _ _
      refine ks_iload_n rfl rfl ?_
      refine ks_ireturn rfl ?_
      -- at 64: ret  st [None]
      refine t _ ?_ (Fr_up (Fr_up F3 (by omega)) (by omega))
      unfold TR
      have := TRx_12 (v := 0) (TRx_11 (v := tw_on s2 (s 4)) T3) (by rw [up1_ne (by omega)]; omega)
      rw [up1_ne (by omega), up1_ne (by omega), a3]
      exact this
  refine ks_istore_n_1 rfl rfl ?_
  refine ks_iload_n rfl rfl ?_
  refine ks_iconst rfl ?_
  -- at 17: if eq -> 25 else 20 st ['-1', None]
  refine ks_icmp_eq rfl ⟨by omega, by omega⟩ ⟨by omega, by omega⟩ (fun c1 => ?_) (fun c1 => ?_)
  · refine key _ ?_ F1
    unfold tw_work
    rw [if_pos (by omega)]
    exact hT1
  · obtain ⟨f0, f1, f2⟩ := hfi.resolve_left c1
    refine ks_aload_n rfl rfl ?_
    refine ks_iload_n rfl rfl ?_
    refine ks_callv_2 rfl rfl (by assumption) (Nat.le_of_ble_eq_true rfl) ?_
    -- at 22: call Town_workOn st []
    refine r_workOn hB hK0 hT1 hw0 ⟨f0, f1⟩ f2.1 (fun μ2 T2 F2 => ?_)
    show kx_wx _ _ _ _ _ _ _ _
    exact key μ2 T2 (Fr_tr F1 F2)
end CV
