/-! foretold, class side -/
theorem Fr_30 {μ μ' : kx_M} {s : Int → Int} {z : Int} (T : TRx μ 30 s z) (F : Fr 45 μ μ') : TRx μ' 30 s z := TR_fr T (fun c c0 c1 => F c (by omega))
theorem tw_W_go60 {s : Int → Int} (W : tw_W 999 s) {n : Nat} (hn : n ≤ 61) : tw_W 2000 (tw_go s n) := tw_W_mono (tw_W_go W n) (by omega)
/-- order o is done behind n steps, and not before -/
def DN (s : Int → Int) (o : Int) (n : Nat) : Prop := tw_go s n (38 + o) = 1 ∧ ∀ i, i < n → tw_go s i (38 + o) = 0
theorem tw_go_12 {B : Int} {s : Int → Int} (W : tw_W B s) (n : Nat) : tw_go s n 1 = s 1 ∧ tw_go s n 2 = s 2 := by
  induction n with
  | zero => exact ⟨rfl, rfl⟩
  | succ n ih =>
    have Wn := tw_W_go W n
    have hfi := tw_found_in (tw_go s n) (tw_go s n 4)
    have w2 := Wn.2.1
    have w1 := Wn.1
    have w3 := Wn.2.2.1
    constructor
    · rw [← ih.1]; show tw_step (tw_go s n) 1 = _
      rw [tw_step_at (by omega), tw_work_lo (by omega) (by omega) (by omega)]
    · rw [← ih.2]; show tw_step (tw_go s n) 2 = _
      rw [tw_step_at (by omega), tw_work_lo (by omega) (by omega) (by omega)]
theorem tw_go_3 {B : Int} {s : Int → Int} (W : tw_W B s) (n : Nat) : tw_go s n 3 = s 3 + n := by
  induction n with
  | zero => simp [tw_go]
  | succ n ih =>
    show tw_step (tw_go s n) 3 = _
    rw [tw_step_3 (tw_W_go W n), ih]; omega
/-- how an order may change in a step -/
theorem tw_step_o {B : Int} {s : Int → Int} (W : tw_W B s) {o : Int} (o0 : 0 ≤ o) (o1 : o < s 2) : (o ≠ tw_found s (s 4) → tw_step s (38 + o) = s (38 + o) ∧ tw_step s (42 + o) = s (42 + o)) ∧ (o = tw_found s (s 4) → s (38 + o) = 0 ∧ (tw_step s (38 + o) = 0 ∨ tw_step s (38 + o) = 1 ∧ tw_step s (42 + o) = s 3 + 1)) := by
  have hfi := tw_found_in s (s 4)
  have w1 := W.1
  have w2 := W.2.1
  have w3 := W.2.2.1
  rw [tw_step_at (by omega), tw_step_at (by omega)]
  generalize tw_found s (s 4) = f at *
  constructor
  · intro e
    unfold tw_work
    split
    · exact ⟨rfl, rfl⟩
    · split
      · simp (disch := omega) only [up1_ne]
        simp
      · simp (disch := omega) only [up1_ne]
        simp
  · intro e
    subst e
    have f2 := (hfi.resolve_left (by omega)).2.2.1
    refine ⟨f2, ?_⟩
    unfold tw_work
    rw [if_neg (by omega)]
    split
    · right
      simp (disch := omega) only [up1_ne, up1_self]
      simp
    · left
      simp (disch := omega) only [up1_ne]
      exact f2
theorem dn_01 {B : Int} {s : Int → Int} (W : tw_W B s) {o : Int} (o0 : 0 ≤ o) (o1 : o < s 2) {n : Nat} (h : tw_go s n (38 + o) = 0) : tw_go s (n + 1) (38 + o) = 0 ∨ (tw_go s (n + 1) (38 + o) = 1 ∧ tw_go s (n + 1) (42 + o) = s 3 + (n + 1 : Nat)) := by
  have e := (tw_go_12 W n).2
  have e3 := tw_go_3 W n
  obtain ⟨k1, k2⟩ := tw_step_o (tw_W_go W n) o0 (by omega)
  show tw_step (tw_go s n) (38 + o) = 0 ∨ (tw_step (tw_go s n) (38 + o) = 1 ∧ tw_step (tw_go s n) (42 + o) = _)
  by_cases e : o = tw_found (tw_go s n) (tw_go s n 4)
  · rcases (k2 e).2 with q | ⟨q1, q2⟩
    · exact Or.inl q
    · exact Or.inr ⟨q1, by rw [q2]; omega⟩
  · rw [(k1 e).1, h]; exact Or.inl rfl
theorem dn_uniq {s : Int → Int} {o : Int} {n m : Nat} (h : DN s o n) (k : DN s o m) : n = m := by
  rcases Nat.lt_trichotomy n m with q | q | q
  · have := k.2 n q; rw [h.1] at this; omega
  · exact q
  · have := h.2 m q; rw [k.1] at this; omega
theorem dn_no {s : Int → Int} {o : Int} {n N : Nat} (h : DN s o n) (k : ∀ i, i ≤ N → tw_go s i (38 + o) = 0) : N < n := by
  rcases Nat.lt_or_ge N n with q | q
  · exact q
  · have := k n q; rw [h.1] at this; omega
section FO
variable {d L : Nat} {G : kx_G} {μ : kx_M} {Q : Option kx_V → kx_G → kx_M → Prop} {s : Int → Int} {z : Int}
theorem r_try (T : TR μ 30 s) (W : tw_W 999 s) (t : ∀ μ', TR μ' 45 s → Fr 45 μ μ' → Q none (kg L) μ') : kx_cx (ke (d + 1)) 54 [kR 45, kR 30] (kg L) μ Q :=
  r_becomeLike (kg_T45 L) (kg_T30 L) (by omega) T W.1.2 W.2.1.2 t
theorem l_go {n : Nat} (hn : n ≤ 60) (W : tw_W 999 s) (t : ∀ μ', TR μ' 45 (tw_go s n) → Fr 45 μ μ' → Q none (kg L) μ') : ∀ (r j : Nat) (μ1 : kx_M), j + r = n → TR μ1 45 (tw_go s j) → Fr 45 μ μ1 → kx_wx (ke (d + 3)) kt_Fore_go Q 2 [some (kR 44), some (kI n), some (kI j)] [] (kg L) μ1 := by
  intro r
  induction r with
  | zero =>
    intro j μ1 hj T F
    rw [Nat.add_zero] at hj
    subst hj
    refine ks_iload_n rfl rfl ?_
    refine ks_iload_n rfl rfl ?_
    -- at 4: if ge -> 21 else 7 st [None, None]
    refine ks_icmp_ge rfl ⟨by omega, by omega⟩ ⟨by omega, by omega⟩ (fun c => absurd c (by omega)) (fun c => ?_)
    refine ks_return rfl ?_
    -- at 21: ret  st []
    exact t _ T F
  | succ r ih =>
    intro j μ1 hj T F
    refine ks_iload_n rfl rfl ?_
    refine ks_iload_n rfl rfl ?_
    -- at 4: if ge -> 21 else 7 st [None, None]
    refine ks_icmp_ge rfl ⟨by omega, by omega⟩ ⟨by omega, by omega⟩ (fun c => ?_) (fun c => absurd c (by omega))
    refine ks_aload_n rfl rfl ?_
    refine ks_getr (b := 45) rfl rfl rfl rfl (by decide) ?_
    refine ks_callv_1 rfl rfl rfl (Nat.le_of_ble_eq_true rfl) ?_
    -- at 11: call Town_takeStep st []
    refine r_takeStep (B := 2000) (by omega) (kg_T45 L) T (tw_W_go60 W (by omega)) (fun μ2 T2 F2 => ?_)
    show kx_wx _ _ _ _ _ (_ :: _) _ _
    refine ks_pop rfl ?_
    refine ks_iinc_2 rfl rfl ?_
    refine ks_goto rfl ?_
    -- at 2: stop  st []
    exact ih (j + 1) μ2 (by omega) T2 (Fr_tr F F2)
theorem r_go {n : Nat} (hn : n ≤ 60) (W : tw_W 999 s) (T : TR μ 45 s) (t : ∀ μ', TR μ' 45 (tw_go s n) → Fr 45 μ μ' → Q none (kg L) μ') : kx_cx (ke (d + 4)) 22 [kR 44, kI n] (kg L) μ Q := by
  refine ke_start (tb := kt_Fore_go) (ls := [some (kR 44), some (kI n), none]) rfl rfl ?_
  refine ks_iconst rfl ?_
  refine ks_istore_n_2 rfl rfl ?_
  -- at 2: stop  st []
  exact l_go hn W t n 0 μ (by omega) T (Fr_rf _ _)
theorem r_holderBehind {n : Nat} (hn : n ≤ 60) (W : tw_W 999 s) (T : TR μ 30 s) (t : ∀ μ', Fr 45 μ μ' → Q (some (kI (tw_go s n 4))) (kg L) μ') : kx_cx (ke (d + 5)) 11 [kR 44, kR 30, kI n] (kg L) μ Q := by
  refine ke_start (tb := kt_Fore_holderBehind) (ls := [some (kR 44), some (kR 30), some (kI n)]) rfl rfl ?_
  refine ks_aload_n rfl rfl ?_
  refine ks_getr (b := 45) rfl rfl rfl rfl (by decide) ?_
  refine ks_aload_n rfl rfl ?_
  refine ks_callv_2 rfl rfl rfl (Nat.le_of_ble_eq_true rfl) ?_
  -- at 5: call Town_becomeLike st []
  refine r_try T W (fun μ1 T1 F1 => ?_)
  show kx_wx _ _ _ _ _ _ _ _
  refine ks_aload_n rfl rfl ?_
  refine ks_iload_n rfl rfl ?_
  refine ks_callv_2 rfl rfl rfl (Nat.le_of_ble_eq_true rfl) ?_
  -- at 10: call Fore_go st []
  refine r_go hn W T1 (fun μ2 T2 F2 => ?_)
  have e11 := T2.2.2.2.1
  show kx_wx _ _ _ _ _ _ _ _
  refine ks_aload_n rfl rfl ?_
  refine ks_getr (b := 45) rfl rfl rfl rfl (by decide) ?_
  refine ks_geti rfl rfl rfl rfl (by (try simp only [kx_up_at, kx_row_at, up1_at, Nat.reduceEqDiff, Int.reduceEq, Int.reduceNeg, and_true, true_and, and_false, false_and, and_self, reduceIte, Nat.add_left_cancel_iff, Nat.add_eq_left, Nat.left_eq_add, Nat.reduceAdd, Int.add_left_inj, Int.add_right_inj, e11]); rfl) ?_
  refine ks_ireturn rfl ?_
  -- at 20: ret  st [None]
  exact t _ (Fr_tr F1 F2)
theorem r_workWithin {n : Nat} {h : Int} (hn : n ≤ 60) (h0 : 0 ≤ h) (h1 : h < s 1) (W : tw_W 999 s) (T : TR μ 30 s) (t : ∀ μ', Fr 45 μ μ' → Q (some (kI (tw_go s n (24 + h) - s (24 + h)))) (kg L) μ') : kx_cx (ke (d + 5)) 17 [kR 44, kR 30, kI h, kI n] (kg L) μ Q := by
  refine ke_start (tb := kt_Fore_workWithin) (ls := [some (kR 44), some (kR 30), some (kI h), some (kI n)]) rfl rfl ?_
  have w1 := W.1
  refine ks_aload_n rfl rfl ?_
  refine ks_getr (b := 45) rfl rfl rfl rfl (by decide) ?_
  refine ks_aload_n rfl rfl ?_
  refine ks_callv_2 rfl rfl rfl (Nat.le_of_ble_eq_true rfl) ?_
  -- at 5: call Town_becomeLike st []
  refine r_try T W (fun μ1 T1 F1 => ?_)
  show kx_wx _ _ _ _ _ _ _ _
  refine ks_aload_n rfl rfl ?_
  refine ks_iload_n rfl rfl ?_
  refine ks_callv_2 rfl rfl rfl (Nat.le_of_ble_eq_true rfl) ?_
  -- at 10: call Fore_go st []
  refine r_go hn W T1 (fun μ2 T2 F2 => ?_)
  have e := (T2.2.2.2.2.2.2.1 h h0 (by rw [(tw_go_12 W n).1]; exact h1)).2.2.2
  have e2 := ((Fr_30 T (Fr_tr F1 F2)).2.2.2.2.2.2.1 h h0 h1).2.2.2
  show kx_wx _ _ _ _ _ _ _ _
  refine ks_aload_n rfl rfl ?_
  refine ks_getr (b := 45) rfl rfl rfl rfl (by decide) ?_
  refine ks_getr (b := 49) rfl rfl rfl rfl (by decide) ?_
  refine ks_iload_n rfl rfl ?_
  refine ks_iaload rfl rfl (by omega) (by omega) (by (try simp only [kx_up_at, kx_row_at, up1_at, Nat.reduceEqDiff, Int.reduceEq, Int.reduceNeg, and_true, true_and, and_false, false_and, and_self, reduceIte, Nat.add_left_cancel_iff, Nat.add_eq_left, Nat.left_eq_add, Nat.reduceAdd, Int.add_left_inj, Int.add_right_inj, e, e2]); rfl) ?_
  refine ks_aload_n rfl rfl ?_
  refine ks_getr (b := 34) rfl rfl rfl rfl (by decide) ?_
  refine ks_iload_n rfl rfl ?_
  refine ks_iaload rfl rfl (by omega) (by omega) (by (try simp only [kx_up_at, kx_row_at, up1_at, Nat.reduceEqDiff, Int.reduceEq, Int.reduceNeg, and_true, true_and, and_false, false_and, and_self, reduceIte, Nat.add_left_cancel_iff, Nat.add_eq_left, Nat.left_eq_add, Nat.reduceAdd, Int.add_left_inj, Int.add_right_inj, e, e2]); rfl) ?_
  refine ks_isub rfl ?_
  refine ks_ireturn rfl ?_
  -- at 29: ret  st [None]
  exact t _ (Fr_tr F1 F2)
def q_gets (s : Int → Int) (h : Int) : Nat → Nat → Int
  | 0, _ => -1000000
  | r + 1, n => if tw_go s n 4 = h then n else q_gets s h r (n + 1)
theorem l_stepsUntilHolder {h : Int} (h0 : 0 ≤ h) (h1 : h < s 1) (W : tw_W 999 s) (t : ∀ μ', Fr 45 μ μ' → Q (some (kI (q_gets s h 61 0))) (kg L) μ') : ∀ (r j : Nat) (μ1 : kx_M), j + r = 61 → q_gets s h r j = q_gets s h 61 0 → TR μ1 45 (tw_go s j) → Fr 45 μ μ1 → kx_wx (ke (d + 3)) kt_Fore_stepsUntilHolder Q 10 [some (kR 44), some (kR 30), some (kI h), some (kI j)] [] (kg L) μ1 := by
  have w1 := W.1
  intro r
  induction r with
  | zero =>
    intro j μ1 hj q T F
    refine ks_iload_n rfl rfl ?_
    refine ks_bipush rfl ?_
    -- at 13: if gt -> 43 else 16 st ['60', None]
    refine ks_icmp_gt rfl ⟨by omega, by omega⟩ ⟨by omega, by omega⟩ (fun c => ?_) (fun c => absurd c (by omega))
    refine ks_ldc rfl ?_
    refine ks_ireturn rfl ?_
    -- at 45: ret  st ['-1000000']
    rw [← q] at t
    exact t _ F
  | succ r ih =>
    intro j μ1 hj q T F
    have Wj := tw_W_go60 W (n := j) (by omega)
    have w3 := Wj.2.2.1
    have w1' := Wj.1
    have e11 := T.2.2.2.1
    refine ks_iload_n rfl rfl ?_
    refine ks_bipush rfl ?_
    -- at 13: if gt -> 43 else 16 st ['60', None]
    refine ks_icmp_gt rfl ⟨by omega, by omega⟩ ⟨by omega, by omega⟩ (fun c => absurd c (by omega)) (fun c => ?_)
    refine ks_aload_n rfl rfl ?_
    refine ks_getr (b := 45) rfl rfl rfl rfl (by decide) ?_
    refine ks_geti rfl rfl rfl rfl (by (try simp only [kx_up_at, kx_row_at, up1_at, Nat.reduceEqDiff, Int.reduceEq, Int.reduceNeg, and_true, true_and, and_false, false_and, and_self, reduceIte, Nat.add_left_cancel_iff, Nat.add_eq_left, Nat.left_eq_add, Nat.reduceAdd, Int.add_left_inj, Int.add_right_inj, e11]); rfl) ?_
    refine ks_iload_n rfl rfl ?_
    -- at 24: if ne -> 29 else 27 st [None, None]
    refine ks_icmp_ne rfl ⟨by omega, by omega⟩ ⟨by omega, by omega⟩ (fun c2 => ?_) (fun c2 => ?_)
    · refine ks_iload_n rfl rfl ?_
      refine ks_ireturn rfl ?_
      -- at 28: ret  st [None]
      rw [← q] at t
      simp only [q_gets] at t
      rw [if_pos c2] at t
      exact t _ F
    · refine ks_aload_n rfl rfl ?_
      refine ks_getr (b := 45) rfl rfl rfl rfl (by decide) ?_
      refine ks_callv_1 rfl rfl rfl (Nat.le_of_ble_eq_true rfl) ?_
      -- at 33: call Town_takeStep st []
      simp only [q_gets] at q
      rw [if_neg c2] at q
      refine r_takeStep (B := 2000) (by omega) (kg_T45 L) T Wj (fun μ2 T2 F2 => ?_)
      show kx_wx _ _ _ _ _ (_ :: _) _ _
      refine ks_pop rfl ?_
      refine ks_iinc_3 rfl rfl ?_
      refine ks_goto rfl ?_
      -- at 10: stop  st []
      exact ih (j + 1) μ2 (by omega) q T2 (Fr_tr F F2)
theorem r_stepsUntilHolder {h : Int} (h0 : 0 ≤ h) (h1 : h < s 1) (W : tw_W 999 s) (T : TR μ 30 s) (t : ∀ μ', Fr 45 μ μ' → Q (some (kI (q_gets s h 61 0))) (kg L) μ') : kx_cx (ke (d + 5)) 12 [kR 44, kR 30, kI h] (kg L) μ Q := by
  refine ke_start (tb := kt_Fore_stepsUntilHolder) (ls := [some (kR 44), some (kR 30), some (kI h), none]) rfl rfl ?_
  refine ks_aload_n rfl rfl ?_
  refine ks_getr (b := 45) rfl rfl rfl rfl (by decide) ?_
  refine ks_aload_n rfl rfl ?_
  refine ks_callv_2 rfl rfl rfl (Nat.le_of_ble_eq_true rfl) ?_
  -- at 5: call Town_becomeLike st []
  refine r_try T W (fun μ1 T1 F1 => ?_)
  show kx_wx _ _ _ _ _ _ _ _
  refine ks_iconst rfl ?_
  refine ks_istore_n_3 rfl rfl ?_
  -- at 10: stop  st []
  exact l_stepsUntilHolder (μ := μ) h0 h1 W t 61 0 μ1 (by omega) rfl T1 F1
def q_ever (s : Int → Int) : Nat → Int
  | 0 => 1 * 2 ^ (s 4).toNat
  | n + 1 => kx_or (q_ever s n) (1 * 2 ^ (tw_go s (n + 1) 4).toNat)
theorem l_holdersWithin {n : Nat} (hn : n ≤ 60) (W : tw_W 999 s) (t : ∀ μ', Fr 45 μ μ' → Q (some (kI (q_ever s n))) (kg L) μ') : ∀ (r j : Nat) (μ1 : kx_M), j + r = n → TR μ1 45 (tw_go s j) → Fr 45 μ μ1 → kx_wx (ke (d + 3)) kt_Fore_holdersWithin Q 21 [some (kR 44), some (kR 30), some (kI n), some (kI (q_ever s j)), some (kI j)] [] (kg L) μ1 := by
  intro r
  induction r with
  | zero =>
    intro j μ1 hj T F
    rw [Nat.add_zero] at hj
    subst hj
    refine ks_iload rfl rfl ?_
    refine ks_iload_n rfl rfl ?_
    -- at 24: if ge -> 53 else 27 st [None, None]
    refine ks_icmp_ge rfl ⟨by omega, by omega⟩ ⟨by omega, by omega⟩ (fun c => absurd c (by omega)) (fun c => ?_)
    refine ks_iload_n rfl rfl ?_
    refine ks_ireturn rfl ?_
    -- at 54: ret  st [None]
    exact t _ F
  | succ r ih =>
    intro j μ1 hj T F
    refine ks_iload rfl rfl ?_
    refine ks_iload_n rfl rfl ?_
    -- at 24: if ge -> 53 else 27 st [None, None]
    refine ks_icmp_ge rfl ⟨by omega, by omega⟩ ⟨by omega, by omega⟩ (fun c => ?_) (fun c => absurd c (by omega))
    refine ks_aload_n rfl rfl ?_
    refine ks_getr (b := 45) rfl rfl rfl rfl (by decide) ?_
    refine ks_callv_1 rfl rfl rfl (Nat.le_of_ble_eq_true rfl) ?_
    -- at 31: call Town_takeStep st []
    refine r_takeStep (B := 2000) (by omega) (kg_T45 L) T (tw_W_go60 W (by omega)) (fun μ2 T2 F2 => ?_)
    have W2 := tw_W_go60 W (n := j + 1) (by omega)
    have w3 : 0 ≤ tw_step (tw_go s j) 4 ∧ tw_step (tw_go s j) 4 < tw_step (tw_go s j) 1 := W2.2.2.1
    have w1 : 1 ≤ tw_step (tw_go s j) 1 ∧ tw_step (tw_go s j) 1 ≤ 6 := W2.1
    have e11 := T2.2.2.2.1
    show kx_wx _ _ _ _ _ (_ :: _) _ _
    refine ks_pop rfl ?_
    refine ks_iload_n rfl rfl ?_
    refine ks_iconst rfl ?_
    refine ks_aload_n rfl rfl ?_
    refine ks_getr (b := 45) rfl rfl rfl rfl (by decide) ?_
    refine ks_geti rfl rfl rfl rfl (by (try simp only [kx_up_at, kx_row_at, up1_at, Nat.reduceEqDiff, Int.reduceEq, Int.reduceNeg, and_true, true_and, and_false, false_and, and_self, reduceIte, Nat.add_left_cancel_iff, Nat.add_eq_left, Nat.left_eq_add, Nat.reduceAdd, Int.add_left_inj, Int.add_right_inj, e11]); rfl) ?_
    refine ks_ishl rfl (by omega) (by omega) ?_
    refine ks_ior rfl ?_
    refine ks_istore_n_3 rfl rfl ?_
    refine ks_iinc_4 rfl rfl ?_
    refine ks_goto rfl ?_
    -- at 21: stop  st []
    exact ih (j + 1) μ2 (by omega) T2 (Fr_tr F F2)
theorem r_holdersWithin {n : Nat} (hn : n ≤ 60) (W : tw_W 999 s) (T : TR μ 30 s) (t : ∀ μ', Fr 45 μ μ' → Q (some (kI (q_ever s n))) (kg L) μ') : kx_cx (ke (d + 5)) 13 [kR 44, kR 30, kI n] (kg L) μ Q := by
  refine ke_start (tb := kt_Fore_holdersWithin) (ls := [some (kR 44), some (kR 30), some (kI n), none, none]) rfl rfl ?_
  have w3 := W.2.2.1
  have w1 := W.1
  refine ks_aload_n rfl rfl ?_
  refine ks_getr (b := 45) rfl rfl rfl rfl (by decide) ?_
  refine ks_aload_n rfl rfl ?_
  refine ks_callv_2 rfl rfl rfl (Nat.le_of_ble_eq_true rfl) ?_
  -- at 5: call Town_becomeLike st []
  refine r_try T W (fun μ1 T1 F1 => ?_)
  have e11 := T1.2.2.2.1
  show kx_wx _ _ _ _ _ _ _ _
  refine ks_iconst rfl ?_
  refine ks_aload_n rfl rfl ?_
  refine ks_getr (b := 45) rfl rfl rfl rfl (by decide) ?_
  refine ks_geti rfl rfl rfl rfl (by (try simp only [kx_up_at, kx_row_at, up1_at, Nat.reduceEqDiff, Int.reduceEq, Int.reduceNeg, and_true, true_and, and_false, false_and, and_self, reduceIte, Nat.add_left_cancel_iff, Nat.add_eq_left, Nat.left_eq_add, Nat.reduceAdd, Int.add_left_inj, Int.add_right_inj, e11]); rfl) ?_
  refine ks_ishl rfl (by omega) (by omega) ?_
  refine ks_istore_n_3 rfl rfl ?_
  refine ks_iconst rfl ?_
  refine ks_istore_4 rfl rfl ?_
  -- at 21: stop  st []
  exact l_holdersWithin (μ := μ) hn W t n 0 μ1 (by omega) T1 F1
theorem l_stepsUntilDone {o : Int} {m : Nat} (hm : m ≤ 60) (o0 : 0 ≤ o) (o1 : o < s 2) (W : tw_W 999 s) (t1 : ∀ n μ', 1 ≤ n → n ≤ m → DN s o n → TR μ' 45 (tw_go s n) → Fr 45 μ μ' → Q (some (kI (n : Nat))) (kg L) μ') (t0 : ∀ μ', (∀ i, i ≤ m → tw_go s i (38 + o) = 0) → TR μ' 45 (tw_go s m) → Fr 45 μ μ' → Q (some (kI 61)) (kg L) μ') : ∀ (r j : Nat) (μ1 : kx_M), j + r = m → (∀ i, i ≤ j → tw_go s i (38 + o) = 0) → TR μ1 45 (tw_go s j) → Fr 45 μ μ1 → kx_wx (ke (d + 3)) kt_Fore_stepsUntilDone Q 2 [some (kR 44), some (kI o), some (kI m), some (kI (j + 1))] [] (kg L) μ1 := by
  have w2 := W.2.1
  intro r
  induction r with
  | zero =>
    intro j μ1 hj h T F
    rw [Nat.add_zero] at hj
    subst hj
    refine ks_iload_n rfl rfl ?_
    refine ks_iload_n rfl rfl ?_
    -- at 4: if gt -> 36 else 7 st [None, None]
    refine ks_icmp_gt rfl ⟨by omega, by omega⟩ ⟨by omega, by omega⟩ (fun c => ?_) (fun c => absurd c (by omega))
    refine ks_bipush rfl ?_
    refine ks_ireturn rfl ?_
    -- at 38: ret  st ['61']
    exact t0 _ h T F
  | succ r ih =>
    intro j μ1 hj h T F
    refine ks_iload_n rfl rfl ?_
    refine ks_iload_n rfl rfl ?_
    -- at 4: if gt -> 36 else 7 st [None, None]
    refine ks_icmp_gt rfl ⟨by omega, by omega⟩ ⟨by omega, by omega⟩ (fun c => absurd c (by omega)) (fun c => ?_)
    refine ks_aload_n rfl rfl ?_
    refine ks_getr (b := 45) rfl rfl rfl rfl (by decide) ?_
    refine ks_callv_1 rfl rfl rfl (Nat.le_of_ble_eq_true rfl) ?_
    -- at 11: call Town_takeStep st []
    refine r_takeStep (B := 2000) (by omega) (kg_T45 L) T (tw_W_go60 W (by omega)) (fun μ2 T2 F2 => ?_)
    have e := (T2.2.2.2.2.2.2.2 o o0 (by show o < tw_go s (j + 1) 2; rw [(tw_go_12 W (j + 1)).2]; exact o1)).2.2.1
    have q := dn_01 W o0 o1 (h j (Nat.le_refl j))
    have e' : tw_step (tw_go s j) (38 + o) = tw_go s (j + 1) (38 + o) := rfl
    rw [e'] at e
    show kx_wx _ _ _ _ _ (_ :: _) _ _
    refine ks_pop rfl ?_
    refine ks_aload_n rfl rfl ?_
    refine ks_getr (b := 45) rfl rfl rfl rfl (by decide) ?_
    refine ks_getr (b := 52) rfl rfl rfl rfl (by decide) ?_
    refine ks_iload_n rfl rfl ?_
    refine ks_iaload rfl rfl (by omega) (by omega) (by (try simp only [kx_up_at, kx_row_at, up1_at, Nat.reduceEqDiff, Int.reduceEq, Int.reduceNeg, and_true, true_and, and_false, false_and, and_self, reduceIte, Nat.add_left_cancel_iff, Nat.add_eq_left, Nat.left_eq_add, Nat.reduceAdd, Int.add_left_inj, Int.add_right_inj, e]); rfl) ?_
    refine ks_iconst rfl ?_
    -- at 25: if ne -> 30 else 28 st ['1', None]
    refine ks_icmp_ne rfl ⟨by omega, by omega⟩ ⟨by omega, by omega⟩ (fun c2 => ?_) (fun c2 => ?_)
    · refine ks_iload_n rfl rfl ?_
      refine ks_ireturn rfl ?_
      -- at 29: ret  st [None]
      refine t1 (j + 1) μ2 (by omega) (by omega) ⟨c2, fun i hi => h i (by omega)⟩ T2 (Fr_tr F F2)
    · refine ks_iinc_3 rfl rfl ?_
      refine ks_goto rfl ?_
      -- at 2: stop  st []
      refine ih (j + 1) μ2 (by omega) (fun i hi => ?_) T2 (Fr_tr F F2)
      by_cases e : i = j + 1
      · subst e; omega
      · exact h i (by omega)
theorem r_stepsUntilDone {o : Int} {m : Nat} (hm : m ≤ 60) (o0 : 0 ≤ o) (o1 : o < s 2) (W : tw_W 999 s) (hz : s (38 + o) = 0) (T : TR μ 45 s) (t1 : ∀ n μ', 1 ≤ n → n ≤ m → DN s o n → TR μ' 45 (tw_go s n) → Fr 45 μ μ' → Q (some (kI (n : Nat))) (kg L) μ') (t0 : ∀ μ', (∀ i, i ≤ m → tw_go s i (38 + o) = 0) → TR μ' 45 (tw_go s m) → Fr 45 μ μ' → Q (some (kI 61)) (kg L) μ') : kx_cx (ke (d + 4)) 23 [kR 44, kI o, kI m] (kg L) μ Q := by
  refine ke_start (tb := kt_Fore_stepsUntilDone) (ls := [some (kR 44), some (kI o), some (kI m), none]) rfl rfl ?_
  refine ks_iconst rfl ?_
  refine ks_istore_n_3 rfl rfl ?_
  -- at 2: stop  st []
  refine l_stepsUntilDone hm o0 o1 W t1 t0 m 0 μ (by omega) (fun i hi => ?_) T (Fr_rf _ _)
  rw [Nat.le_zero.mp hi]; exact hz
/-- on which step an order is done, by 60 more -/
def q_done (s : Int → Int) (o x : Int) : Prop := (s (38 + o) = 1 ∧ x = s (42 + o)) ∨ (s (38 + o) = 2 ∧ x = -1000000) ∨ (s (38 + o) = 0 ∧ ∃ n : Nat, n ≤ 60 ∧ DN s o n ∧ x = s 3 + n) ∨ (s (38 + o) = 0 ∧ (∀ i, i ≤ 60 → tw_go s i (38 + o) = 0) ∧ x = -1000000)
theorem q_done_u {s : Int → Int} {o x y : Int} (h : q_done s o x) (k : q_done s o y) : x = y := by
  rcases h with ⟨a1, a2⟩ | ⟨a1, a2⟩ | ⟨a1, n, a2, a3, a4⟩ | ⟨a1, a2, a3⟩ <;> rcases k with ⟨b1, b2⟩ | ⟨b1, b2⟩ | ⟨b1, m, b2, b3, b4⟩ | ⟨b1, b2, b3⟩ <;> try omega
  · have := dn_uniq a3 b3; subst this; omega
  · have := dn_no a3 b2; omega
  · have := dn_no b3 a2; omega
theorem r_stepOfDone {o : Int} (o0 : 0 ≤ o) (o1 : o < s 2) (W : tw_W 999 s) (T : TR μ 30 s) (t : ∀ x μ', q_done s o x → Fr 45 μ μ' → Q (some (kI x)) (kg L) μ') : kx_cx (ke (d + 5)) 15 [kR 44, kR 30, kI o] (kg L) μ Q := by
  refine ke_start (tb := kt_Fore_stepOfDone) (ls := [some (kR 44), some (kR 30), some (kI o)]) rfl rfl ?_
  have w2 := W.2.1
  have w8 := W.2.2.2.2.2.2.2 o o0 o1
  obtain ⟨k1, k2, k3, k4⟩ := T.2.2.2.2.2.2.2 o o0 o1
  refine ks_aload_n rfl rfl ?_
  refine ks_getr (b := 37) rfl rfl rfl rfl (by decide) ?_
  refine ks_iload_n rfl rfl ?_
  refine ks_iaload rfl rfl (by omega) (by omega) (by (try simp only [kx_up_at, kx_row_at, up1_at, Nat.reduceEqDiff, Int.reduceEq, Int.reduceNeg, and_true, true_and, and_false, false_and, and_self, reduceIte, Nat.add_left_cancel_iff, Nat.add_eq_left, Nat.left_eq_add, Nat.reduceAdd, Int.add_left_inj, Int.add_right_inj, k3]); rfl) ?_
  -- at 6: if ne -> 35 else 9 st [None]
  refine ks_if_ne rfl ⟨by omega, by omega⟩ (fun c => ?_) (fun c => ?_)
  · refine ks_aload_n rfl rfl ?_
    refine ks_getr (b := 45) rfl rfl rfl rfl (by decide) ?_
    refine ks_aload_n rfl rfl ?_
    refine ks_callv_2 rfl rfl rfl (Nat.le_of_ble_eq_true rfl) ?_
    -- at 14: call Town_becomeLike st []
    refine r_try T W (fun μ1 T1 F1 => ?_)
    show kx_wx _ _ _ _ _ _ _ _
    refine ks_aload_n rfl rfl ?_
    refine ks_iload_n rfl rfl ?_
    refine ks_bipush rfl ?_
    refine ks_callv_3 rfl rfl rfl (Nat.le_of_ble_eq_true rfl) ?_
    -- at 21: call Fore_stepsUntilDone st []
    refine r_stepsUntilDone (m := 60) (by omega) o0 o1 W c T1 (fun n μ2 n0 n1 D T2 F2 => ?_) (fun μ2 D T2 F2 => ?_)
    · have e := (T2.2.2.2.2.2.2.2 o o0 (by rw [(tw_go_12 W n).2]; exact o1)).2.2.2
      rw [if_pos D.1] at e
      have e' : tw_go s n (42 + o) = s 3 + n := by
        obtain ⟨j, rfl⟩ : ∃ j, n = j + 1 := ⟨n - 1, by omega⟩
        rcases dn_01 W o0 o1 (D.2 j (by omega)) with q | q
        · have := D.1; omega
        · exact q.2
      rw [e'] at e
      show kx_wx _ _ _ _ _ (_ :: _) _ _
      refine ks_pop rfl ?_
      refine ks_aload_n rfl rfl ?_
      refine ks_getr (b := 45) rfl rfl rfl rfl (by decide) ?_
      refine ks_getr (b := 53) rfl rfl rfl rfl (by decide) ?_
      refine ks_iload_n rfl rfl ?_
      refine ks_iaload rfl rfl (by omega) (by omega) (by (try simp only [kx_up_at, kx_row_at, up1_at, Nat.reduceEqDiff, Int.reduceEq, Int.reduceNeg, and_true, true_and, and_false, false_and, and_self, reduceIte, Nat.add_left_cancel_iff, Nat.add_eq_left, Nat.left_eq_add, Nat.reduceAdd, Int.add_left_inj, Int.add_right_inj, e]); rfl) ?_
      refine ks_ireturn rfl ?_
      -- at 34: ret  st [None]
      exact t _ _ (Or.inr (Or.inr (Or.inl ⟨c, n, n1, D, rfl⟩))) (Fr_tr F1 F2)
    · have e := (T2.2.2.2.2.2.2.2 o o0 (by rw [(tw_go_12 W 60).2]; exact o1)).2.2.2
      rw [if_neg (by rw [D 60 (Nat.le_refl _)]; omega)] at e
      refine ks_pop rfl ?_
      refine ks_aload_n rfl rfl ?_
      refine ks_getr (b := 45) rfl rfl rfl rfl (by decide) ?_
      refine ks_getr (b := 53) rfl rfl rfl rfl (by decide) ?_
      refine ks_iload_n rfl rfl ?_
      refine ks_iaload rfl rfl (by omega) (by omega) (by (try simp only [kx_up_at, kx_row_at, up1_at, Nat.reduceEqDiff, Int.reduceEq, Int.reduceNeg, and_true, true_and, and_false, false_and, and_self, reduceIte, Nat.add_left_cancel_iff, Nat.add_eq_left, Nat.left_eq_add, Nat.reduceAdd, Int.add_left_inj, Int.add_right_inj, e]); rfl) ?_
      refine ks_ireturn rfl ?_
      -- at 34: ret  st [None]
      exact t _ _ (Or.inr (Or.inr (Or.inr ⟨c, D, rfl⟩))) (Fr_tr F1 F2)
  · refine ks_aload_n rfl rfl ?_
    refine ks_getr (b := 38) rfl rfl rfl rfl (by decide) ?_
    refine ks_iload_n rfl rfl ?_
    refine ks_iaload rfl rfl (by omega) (by omega) (by (try simp only [kx_up_at, kx_row_at, up1_at, Nat.reduceEqDiff, Int.reduceEq, Int.reduceNeg, and_true, true_and, and_false, false_and, and_self, reduceIte, Nat.add_left_cancel_iff, Nat.add_eq_left, Nat.left_eq_add, Nat.reduceAdd, Int.add_left_inj, Int.add_right_inj, k4]); rfl) ?_
    refine ks_ireturn rfl ?_
    -- at 41: ret  st [None]
    refine t _ _ ?_ (Fr_rf _ _)
    by_cases e : s (38 + o) = 1
    · rw [if_pos e]; exact Or.inl ⟨e, rfl⟩
    · rw [if_neg e]; exact Or.inr (Or.inl ⟨by omega, rfl⟩)
end FO
