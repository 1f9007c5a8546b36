/-! the class's town takes a step -/
/-- how many of the first n orders stand in state x -/
def tw_ox (s : Int → Int) (x : Int) : Nat → Int
  | 0 => 0
  | n + 1 => tw_ox s x n + (if s (38 + n) = x then 1 else 0)
theorem tw_ox_in (s : Int → Int) (x : Int) : ∀ n : Nat, 0 ≤ tw_ox s x n ∧ tw_ox s x n ≤ n := by
  intro n
  induction n with
  | zero => exact ⟨Int.le_refl 0, Int.le_refl 0⟩
  | succ n ih => simp only [tw_ox]; split <;> omega
theorem tw_ox_oc (s : Int → Int) : ∀ n : Nat, tw_ox s 0 n = tw_oc s n := by
  intro n
  induction n with
  | zero => rfl
  | succ n ih => simp only [tw_ox, tw_oc]; rw [ih]
/-- what the small questions of a town rest on -/
def tw_U (s : Int → Int) : Prop := (1 ≤ s 1 ∧ s 1 ≤ 6) ∧ (0 ≤ s 2 ∧ s 2 ≤ 4) ∧ (0 ≤ s 4 ∧ s 4 < s 1) ∧ (0 ≤ s 0 ∧ s 0 ≤ 5) ∧ (∀ i, 0 ≤ i → i < s 1 → (1 ≤ s (6 + i) ∧ s (6 + i) ≤ 5) ∧ (1 ≤ s (12 + i) ∧ s (12 + i) ≤ 9)) ∧ (∀ k, 0 ≤ k → k < s 2 → 0 ≤ s (38 + k) ∧ s (38 + k) ≤ 2)
theorem tw_U_of {B : Int} {s : Int → Int} (h : tw_W B s) : tw_U s := by
  obtain ⟨w1, w2, w3, w4, w5, w6, w7, w8⟩ := h
  exact ⟨w1, w2, w3, w4, fun i a b => ⟨(w7 i a b).1, (w7 i a b).2.1⟩, fun k a b => (w8 k a b).2.2.1⟩
section CU
variable {d L : Nat} {G : kx_G} {μ : kx_M} {Q : Option kx_V → kx_G → kx_M → Prop} {a : Nat} {s : Int → Int} {B z : Int}
theorem l_ordersThatAre {x : Int} (hx : 0 ≤ x ∧ x ≤ 2) (hK : kg_T L a) (hT : TRx μ a s z) (hw : tw_U s) (t : Q (some (kI (tw_ox s x (s 2).toNat))) (kg L) μ) : ∀ (r j : Nat), j + r = (s 2).toNat → kx_wx (ke d) kt_Town_ordersThatAre Q 4 [some (kR a), some (kI x), some (kI (tw_ox s x j)), some (kI j)] [] (kg L) μ := by
  obtain ⟨g0, g1, g2, g3, g4, g5, g6, g7, g8, g9, g10, g11, g12, g13, g14, g15, g16⟩ := hK
  obtain ⟨e8, e9, e10, e11, e12, e13, eh, eo⟩ := hT
  obtain ⟨w1, w2, w3, w4, w7, w8⟩ := hw
  intro r
  induction r with
  | zero =>
    intro j hj
    refine ks_iload_n rfl rfl ?_
    refine ks_aload_n rfl rfl ?_
    refine ks_geti rfl rfl (by assumption) rfl (by (try simp only [kx_up_at, kx_row_at, up1_at, Nat.reduceEqDiff, Int.reduceEq, Int.reduceNeg, and_true, true_and, and_false, false_and, and_self, reduceIte, Nat.add_left_cancel_iff, Nat.add_eq_left, Nat.left_eq_add, Nat.reduceAdd, Int.add_left_inj, Int.add_right_inj, e9]); rfl) ?_
    -- at 9: if ge -> 31 else 12 st [None, None]
    refine ks_icmp_ge rfl ⟨by omega, by omega⟩ ⟨by omega, by omega⟩ (fun h => absurd h (by omega)) (fun h => ?_)
    refine ks_iload_n rfl rfl ?_
    refine ks_ireturn rfl ?_
    -- at 32: ret  st [None]
    rw [Nat.add_zero] at hj
    rw [← hj] at t
    exact t
  | succ r ih =>
    intro j hj
    have q8 := w8 j (by omega) (by omega)
    have eok := (eo j (by omega) (by omega)).2.2.1
    have ob := tw_ox_in s x j
    refine ks_iload_n rfl rfl ?_
    refine ks_aload_n rfl rfl ?_
    refine ks_geti rfl rfl (by assumption) rfl (by (try simp only [kx_up_at, kx_row_at, up1_at, Nat.reduceEqDiff, Int.reduceEq, Int.reduceNeg, and_true, true_and, and_false, false_and, and_self, reduceIte, Nat.add_left_cancel_iff, Nat.add_eq_left, Nat.left_eq_add, Nat.reduceAdd, Int.add_left_inj, Int.add_right_inj, e9]); rfl) ?_
    -- at 9: if ge -> 31 else 12 st [None, None]
    refine ks_icmp_ge rfl ⟨by omega, by omega⟩ ⟨by omega, by omega⟩ (fun h => ?_) (fun h => absurd h (by omega))
    refine ks_aload_n rfl rfl ?_
    refine ks_getr (b := a + 7) rfl rfl (by assumption) (by assumption) (Nat.succ_ne_zero _) ?_
    refine ks_iload_n rfl rfl ?_
    refine ks_iaload rfl (by assumption) (by omega) (by omega) (by (try simp only [kx_up_at, kx_row_at, up1_at, Nat.reduceEqDiff, Int.reduceEq, Int.reduceNeg, and_true, true_and, and_false, false_and, and_self, reduceIte, Nat.add_left_cancel_iff, Nat.add_eq_left, Nat.left_eq_add, Nat.reduceAdd, Int.add_left_inj, Int.add_right_inj, eok]); rfl) ?_
    refine ks_iload_n rfl rfl ?_
    -- at 19: if ne -> 25 else 22 st [None, None]
    refine ks_icmp_ne rfl ⟨by omega, by omega⟩ ⟨by omega, by omega⟩ (fun h1 => ?_) (fun h1 => ?_)
    · refine ks_iinc_2 rfl rfl ?_
      refine ks_iinc_3 rfl rfl ?_
      refine ks_goto rfl ?_
      -- at 4: stop  st []
      have e : tw_ox s x j + 1 = tw_ox s x (j + 1) := by simp only [tw_ox]; rw [if_pos h1]
      rw [e]
      exact ih (j + 1) (by omega)
    · refine ks_iinc_3 rfl rfl ?_
      refine ks_goto rfl ?_
      -- at 4: stop  st []
      have e : tw_ox s x j = tw_ox s x (j + 1) := by simp only [tw_ox]; rw [if_neg h1, Int.add_zero]
      rw [e]
      exact ih (j + 1) (by omega)
theorem r_ordersThatAre {x : Int} (hx : 0 ≤ x ∧ x ≤ 2) (hK : kg_T L a) (hT : TRx μ a s z) (hw : tw_U s) (t : Q (some (kI (tw_ox s x (s 2).toNat))) (kg L) μ) : kx_cx (ke (d + 1)) 59 [kR a, kI x] (kg L) μ Q := by
  refine ke_start (tb := kt_Town_ordersThatAre) (ls := [some (kR a), some (kI x), none, none]) rfl rfl ?_
  refine ks_iconst rfl ?_
  refine ks_istore_n_2 rfl rfl ?_
  refine ks_iconst rfl ?_
  refine ks_istore_n_3 rfl rfl ?_
  -- at 4: stop  st []
  have w2 := hw.2.1
  exact l_ordersThatAre hx hK hT hw t (s 2).toNat 0 (by omega)
theorem r_patience (hK : kg_T L a) (hT : TRx μ a s z) (hw : tw_U s) (t : Q (some (kI (s (12 + s 4) + if s (6 + s 4) = 3 then tw_out s else 0))) (kg L) μ) : kx_cx (ke (d + 2)) 65 [kR a] (kg L) μ Q := by
  refine ke_start (tb := kt_Town_patience) (ls := [some (kR a), none]) rfl rfl ?_
  have hK0 := hK
  have hT0 := hT
  have hw0 := hw
  obtain ⟨g0, g1, g2, g3, g4, g5, g6, g7, g8, g9, g10, g11, g12, g13, g14, g15, g16⟩ := hK
  obtain ⟨e8, e9, e10, e11, e12, e13, eh, eo⟩ := hT
  obtain ⟨w1, w2, w3, w4, w7, w8⟩ := hw
  have q7 := w7 (s 4) w3.1 w3.2
  obtain ⟨ek, ep, el, ew⟩ := eh (s 4) w3.1 w3.2
  have ob := tw_ox_in s 0 (s 2).toNat
  refine ks_aload_n rfl rfl ?_
  refine ks_getr (b := a + 1) rfl rfl (by assumption) (by assumption) (Nat.succ_ne_zero _) ?_
  refine ks_aload_n rfl rfl ?_
  refine ks_geti rfl rfl (by assumption) rfl (by (try simp only [kx_up_at, kx_row_at, up1_at, Nat.reduceEqDiff, Int.reduceEq, Int.reduceNeg, and_true, true_and, and_false, false_and, and_self, reduceIte, Nat.add_left_cancel_iff, Nat.add_eq_left, Nat.left_eq_add, Nat.reduceAdd, Int.add_left_inj, Int.add_right_inj, e11, ek]); rfl) ?_
  refine ks_iaload rfl (by assumption) (by omega) (by omega) (by (try simp only [kx_up_at, kx_row_at, up1_at, Nat.reduceEqDiff, Int.reduceEq, Int.reduceNeg, and_true, true_and, and_false, false_and, and_self, reduceIte, Nat.add_left_cancel_iff, Nat.add_eq_left, Nat.left_eq_add, Nat.reduceAdd, Int.add_left_inj, Int.add_right_inj, e11, ek]); rfl) ?_
  refine ks_iconst rfl ?_
  -- at 10: if ne -> 21 else 13 st ['3', None]
  refine ks_icmp_ne rfl ⟨by omega, by omega⟩ ⟨by omega, by omega⟩ (fun h1 => ?_) (fun h1 => ?_)
  · refine ks_aload_n rfl rfl ?_
    refine ks_iconst rfl ?_
    refine ks_callv_2 rfl rfl (by assumption) (Nat.le_of_ble_eq_true rfl) ?_
    -- at 15: call Town_ordersThatAre st []
    refine r_ordersThatAre (by omega) hK0 hT0 hw0 ?_
    show kx_wx _ _ _ _ _ (_ :: _) _ _
    refine ks_goto rfl ?_
    refine ks_istore_n_1 rfl rfl ?_
    refine ks_aload_n rfl rfl ?_
    refine ks_getr (b := a + 2) rfl rfl (by assumption) (by assumption) (Nat.succ_ne_zero _) ?_
    refine ks_aload_n rfl rfl ?_
    refine ks_geti rfl rfl (by assumption) rfl (by (try simp only [kx_up_at, kx_row_at, up1_at, Nat.reduceEqDiff, Int.reduceEq, Int.reduceNeg, and_true, true_and, and_false, false_and, and_self, reduceIte, Nat.add_left_cancel_iff, Nat.add_eq_left, Nat.left_eq_add, Nat.reduceAdd, Int.add_left_inj, Int.add_right_inj, e11, ep]); rfl) ?_
    refine ks_iaload rfl (by assumption) (by omega) (by omega) (by (try simp only [kx_up_at, kx_row_at, up1_at, Nat.reduceEqDiff, Int.reduceEq, Int.reduceNeg, and_true, true_and, and_false, false_and, and_self, reduceIte, Nat.add_left_cancel_iff, Nat.add_eq_left, Nat.left_eq_add, Nat.reduceAdd, Int.add_left_inj, Int.add_right_inj, e11, ep]); rfl) ?_
    refine ks_iload_n rfl rfl ?_
    refine ks_iadd rfl ?_
    refine ks_ireturn rfl ?_
    -- at 34: ret  st [None]
    rw [if_pos h1] at t
    rw [tw_ox_oc]
    exact t
  · refine ks_iconst rfl ?_
    refine ks_istore_n_1 rfl rfl ?_
    refine ks_aload_n rfl rfl ?_
    refine ks_getr (b := a + 2) rfl rfl (by assumption) (by assumption) (Nat.succ_ne_zero _) ?_
    refine ks_aload_n rfl rfl ?_
    refine ks_geti rfl rfl (by assumption) rfl (by (try simp only [kx_up_at, kx_row_at, up1_at, Nat.reduceEqDiff, Int.reduceEq, Int.reduceNeg, and_true, true_and, and_false, false_and, and_self, reduceIte, Nat.add_left_cancel_iff, Nat.add_eq_left, Nat.left_eq_add, Nat.reduceAdd, Int.add_left_inj, Int.add_right_inj, e11, ep]); rfl) ?_
    refine ks_iaload rfl (by assumption) (by omega) (by omega) (by (try simp only [kx_up_at, kx_row_at, up1_at, Nat.reduceEqDiff, Int.reduceEq, Int.reduceNeg, and_true, true_and, and_false, false_and, and_self, reduceIte, Nat.add_left_cancel_iff, Nat.add_eq_left, Nat.left_eq_add, Nat.reduceAdd, Int.add_left_inj, Int.add_right_inj, e11, ep]); rfl) ?_
    refine ks_iload_n rfl rfl ?_
    refine ks_iadd rfl ?_
    refine ks_ireturn rfl ?_
    -- at 34: ret  st [None]
    rw [if_neg h1] at t
    exact t
theorem r_stride (hK : kg_T L a) (hT : TRx μ a s z) (hw : tw_U s) (t : ∀ v : Int, -5 ≤ v → v ≤ 5 → (s 4 + v) % s 1 = tw_on s (s 4) → Q (some (kI v)) (kg L) μ) : kx_cx (ke (d + 1)) 66 [kR a] (kg L) μ Q := by
  refine ke_start (tb := kt_Town_stride) (ls := [some (kR a)]) rfl rfl ?_
  obtain ⟨g0, g1, g2, g3, g4, g5, g6, g7, g8, g9, g10, g11, g12, g13, g14, g15, g16⟩ := hK
  obtain ⟨e8, e9, e10, e11, e12, e13, eh, eo⟩ := hT
  obtain ⟨w1, w2, w3, w4, w7, w8⟩ := hw
  have q7 := w7 (s 4) w3.1 w3.2
  obtain ⟨ek, ep, el, ew⟩ := eh (s 4) w3.1 w3.2
  unfold tw_on at t
  refine ks_aload_n rfl rfl ?_
  refine ks_getr (b := a + 1) rfl rfl (by assumption) (by assumption) (Nat.succ_ne_zero _) ?_
  refine ks_aload_n rfl rfl ?_
  refine ks_geti rfl rfl (by assumption) rfl (by (try simp only [kx_up_at, kx_row_at, up1_at, Nat.reduceEqDiff, Int.reduceEq, Int.reduceNeg, and_true, true_and, and_false, false_and, and_self, reduceIte, Nat.add_left_cancel_iff, Nat.add_eq_left, Nat.left_eq_add, Nat.reduceAdd, Int.add_left_inj, Int.add_right_inj, e11, ek]); rfl) ?_
  refine ks_iaload rfl (by assumption) (by omega) (by omega) (by (try simp only [kx_up_at, kx_row_at, up1_at, Nat.reduceEqDiff, Int.reduceEq, Int.reduceNeg, and_true, true_and, and_false, false_and, and_self, reduceIte, Nat.add_left_cancel_iff, Nat.add_eq_left, Nat.left_eq_add, Nat.reduceAdd, Int.add_left_inj, Int.add_right_inj, e11, ek]); rfl) ?_
  -- at 9: sw  st [None]
  refine ks_tsw rfl ⟨by omega, by omega⟩ ?_
  simp only [kx_sw, Int.reduceAdd]
  refine kx_ifs (fun h1 => ?_) (fun h1 => ?_)
  · refine ks_iconst rfl ?_
    refine ks_ireturn rfl ?_
    -- at 41: ret  st ['2']
    exact t 2 (by omega) (by omega) (by rw [if_pos h1])
  refine kx_ifs (fun h2 => ?_) (fun h2 => ?_)
  · refine ks_iconst rfl ?_
    refine ks_ireturn rfl ?_
    -- at 54: ret  st ['1']
    exact t 1 (by omega) (by omega) (by rw [if_neg h1, if_neg (by omega), if_neg (by omega)])
  refine kx_ifs (fun h3 => ?_) (fun h3 => ?_)
  · refine ks_aload_n rfl rfl ?_
    refine ks_geti rfl rfl (by assumption) rfl (by (try simp only [kx_up_at, kx_row_at, up1_at, Nat.reduceEqDiff, Int.reduceEq, Int.reduceNeg, and_true, true_and, and_false, false_and, and_self, reduceIte, Nat.add_left_cancel_iff, Nat.add_eq_left, Nat.left_eq_add, Nat.reduceAdd, Int.add_left_inj, Int.add_right_inj, e10]); rfl) ?_
    refine ks_ireturn rfl ?_
    -- at 46: ret  st [None]
    exact t (s 0) (by omega) (by omega) (by rw [if_neg h1, if_pos h3])
  refine kx_ifs (fun h4 => ?_) (fun h4 => ?_)
  · refine ks_aload_n rfl rfl ?_
    refine ks_geti rfl rfl (by assumption) rfl (by (try simp only [kx_up_at, kx_row_at, up1_at, Nat.reduceEqDiff, Int.reduceEq, Int.reduceNeg, and_true, true_and, and_false, false_and, and_self, reduceIte, Nat.add_left_cancel_iff, Nat.add_eq_left, Nat.left_eq_add, Nat.reduceAdd, Int.add_left_inj, Int.add_right_inj, e10]); rfl) ?_
    refine ks_ineg rfl ?_
    refine ks_ireturn rfl ?_
    -- at 52: ret  st [None]
    exact t (- s 0) (by omega) (by omega) (by rw [if_neg h1, if_neg h3, if_pos h4, ← Int.sub_eq_add_neg])
  · refine ks_iconst rfl ?_
    refine ks_ireturn rfl ?_
    -- at 54: ret  st ['1']
    exact t 1 (by omega) (by omega) (by rw [if_neg h1, if_neg (by omega), if_neg (by omega)])
theorem r_seat {x : Int} (h0 : -6 ≤ x) (h1 : x ≤ 12) (hK : kg_T L a) (e8 : μ a 8 = s 1) (w1 : 1 ≤ s 1 ∧ s 1 ≤ 6) (t : Q (some (kI (x % s 1))) (kg L) μ) : kx_cx (ke (d + 2)) 67 [kR a, kI x] (kg L) μ Q := by
  refine ke_start (tb := kt_Town_seat) (ls := [some (kR a), some (kI x)]) rfl rfl ?_
  obtain ⟨g0, g1, g2, g3, g4, g5, g6, g7, g8, g9, g10, g11, g12, g13, g14, g15, g16⟩ := hK
  refine ks_aload_n rfl rfl ?_
  refine ks_geti rfl rfl (by assumption) rfl (by (try simp only [kx_up_at, kx_row_at, up1_at, Nat.reduceEqDiff, Int.reduceEq, Int.reduceNeg, and_true, true_and, and_false, false_and, and_self, reduceIte, Nat.add_left_cancel_iff, Nat.add_eq_left, Nat.left_eq_add, Nat.reduceAdd, Int.add_left_inj, Int.add_right_inj, e8]); rfl) ?_
  -- at 4: if le -> 18 else 7 st [None]
  refine ks_if_le rfl ⟨by omega, by omega⟩ (fun c1 => ?_) (fun c1 => absurd c1 (by omega))
  refine ks_iload_n rfl rfl ?_
  refine ks_aload_n rfl rfl ?_
  refine ks_geti rfl rfl (by assumption) rfl (by (try simp only [kx_up_at, kx_row_at, up1_at, Nat.reduceEqDiff, Int.reduceEq, Int.reduceNeg, and_true, true_and, and_false, false_and, and_self, reduceIte, Nat.add_left_cancel_iff, Nat.add_eq_left, Nat.left_eq_add, Nat.reduceAdd, Int.add_left_inj, Int.add_right_inj, e8]); rfl) ?_
  refine ks_calls_2 rfl (Nat.le_of_ble_eq_true rfl) ?_
  -- at 12: call Math_floorMod st []
  refine r_floorMod h0 h1 w1.1 w1.2 ?_
  show kx_wx _ _ _ _ _ (_ :: _) _ _
  refine ks_goto rfl ?_
  refine ks_ireturn rfl ?_
  -- at 19: ret  st [None]
  exact t
theorem r_handTo {h : Int} (hK : kg_T L a) (t : Q none (kg L) (kx_up (kx_up μ a 11 h) a 12 0)) : kx_cx (ke (d + 1)) 60 [kR a, kI h] (kg L) μ Q := by
  refine ke_start (tb := kt_Town_handTo) (ls := [some (kR a), some (kI h)]) rfl rfl ?_
  obtain ⟨g0, g1, g2, g3, g4, g5, g6, g7, g8, g9, g10, g11, g12, g13, g14, g15, g16⟩ := hK
  refine ks_aload_n rfl rfl ?_
  refine ks_iload_n rfl rfl ?_
  refine ks_puti rfl (by assumption) ?_
  refine ks_aload_n rfl rfl ?_
  refine ks_iconst rfl ?_
  refine ks_puti rfl (by assumption) ?_
  refine ks_return rfl ?_
  -- at 10: ret  st []
  exact t
theorem r_workOn {f : Int} (hB : B ≤ 100000) (hK : kg_T L a) (hT : TRx μ a s (s 3 + 1)) (hw : tw_W B s) (hf : 0 ≤ f ∧ f < s 2) (hz : s (38 + f) = 0) (t : ∀ μ', TRx μ' a (tw_work s (s 4) f) (s 3 + 1) → Fr a μ μ' → Q none (kg L) μ') : kx_cx (ke (d + 1)) 64 [kR a, kI f] (kg L) μ Q := by
  refine ke_start (tb := kt_Town_workOn) (ls := [some (kR a), some (kI f)]) rfl rfl ?_
  obtain ⟨g0, g1, g2, g3, g4, g5, g6, g7, g8, g9, g10, g11, g12, g13, g14, g15, g16⟩ := hK
  obtain ⟨e8, e9, e10, e11, e12, e13, eh, eo⟩ := hT
  obtain ⟨w1, w2, w3, w4, w5, w6, w7, w8⟩ := hw
  have q7 := w7 (s 4) w3.1 w3.2
  have q8 := w8 f hf.1 hf.2
  obtain ⟨ek, ep, el, ew⟩ := eh (s 4) w3.1 w3.2
  obtain ⟨on, ol, os, od⟩ := eo f hf.1 hf.2
  have f0 : ¬ f < 0 := by omega
  have lo : ∀ j : Int, j < 24 ∨ 30 ≤ j ∧ j < 34 → tw_work s (s 4) f j = s j := fun j hj => tw_work_lo (by omega) (by omega) hj
  refine ks_aload_n rfl rfl ?_
  refine ks_getr (b := a + 6) rfl rfl (by assumption) (by assumption) (Nat.succ_ne_zero _) ?_
  refine ks_iload_n rfl rfl ?_
  refine ks_dup2 rfl ?_
  refine ks_iaload rfl (by assumption) (by omega) (by omega) (by (try simp only [kx_up_at, kx_row_at, up1_at, Nat.reduceEqDiff, Int.reduceEq, Int.reduceNeg, and_true, true_and, and_false, false_and, and_self, reduceIte, Nat.add_left_cancel_iff, Nat.add_eq_left, Nat.left_eq_add, Nat.reduceAdd, Int.add_left_inj, Int.add_right_inj, e11, ol, ew]); rfl) ?_
  refine ks_iconst rfl ?_
  refine ks_isub rfl ?_
  refine ks_iastore rfl (by assumption) (by omega) (by omega) ?_
  refine ks_aload_n rfl rfl ?_
  refine ks_getr (b := a + 4) rfl rfl (by assumption) (by assumption) (Nat.succ_ne_zero _) ?_
  refine ks_aload_n rfl rfl ?_
  refine ks_geti rfl rfl (by assumption) rfl (by (try simp only [kx_up_at, kx_row_at, up1_at, Nat.reduceEqDiff, Int.reduceEq, Int.reduceNeg, and_true, true_and, and_false, false_and, and_self, reduceIte, Nat.add_left_cancel_iff, Nat.add_eq_left, Nat.left_eq_add, Nat.reduceAdd, Int.add_left_inj, Int.add_right_inj, e11, ol, ew]); rfl) ?_
  refine ks_dup2 rfl ?_
  refine ks_iaload rfl (by assumption) (by omega) (by omega) (by (try simp only [kx_up_at, kx_row_at, up1_at, Nat.reduceEqDiff, Int.reduceEq, Int.reduceNeg, and_true, true_and, and_false, false_and, and_self, reduceIte, Nat.add_left_cancel_iff, Nat.add_eq_left, Nat.left_eq_add, Nat.reduceAdd, Int.add_left_inj, Int.add_right_inj, e11, ol, ew]); rfl) ?_
  refine ks_iconst rfl ?_
  refine ks_iadd rfl ?_
  refine ks_iastore rfl (by assumption) (by omega) (by omega) ?_
  refine ks_aload_n rfl rfl ?_
  refine ks_getr (b := a + 6) rfl rfl (by assumption) (by assumption) (Nat.succ_ne_zero _) ?_
  refine ks_iload_n rfl rfl ?_
  refine ks_iaload rfl (by assumption) (by omega) (by omega) (by (try simp only [kx_up_at, kx_row_at, up1_at, Nat.reduceEqDiff, Int.reduceEq, Int.reduceNeg, and_true, true_and, and_false, false_and, and_self, reduceIte, Nat.add_left_cancel_iff, Nat.add_eq_left, Nat.left_eq_add, Nat.reduceAdd, Int.add_left_inj, Int.add_right_inj, e11, ol, ew]); rfl) ?_
  -- at 29: if ne -> 49 else 32 st [None]
  refine ks_if_ne rfl ⟨by omega, by omega⟩ (fun h1 => ?_) (fun h1 => ?_)
  · refine ks_aload_n rfl rfl ?_
    refine ks_getr (b := a + 7) rfl rfl (by assumption) (by assumption) (Nat.succ_ne_zero _) ?_
    refine ks_iload_n rfl rfl ?_
    refine ks_iconst rfl ?_
    refine ks_iastore rfl (by assumption) (by omega) (by omega) ?_
    refine ks_aload_n rfl rfl ?_
    refine ks_getr (b := a + 8) rfl rfl (by assumption) (by assumption) (Nat.succ_ne_zero _) ?_
    refine ks_iload_n rfl rfl ?_
    refine ks_aload_n rfl rfl ?_
    refine ks_geti rfl rfl (by assumption) rfl (by (try simp only [kx_up_at, kx_row_at, up1_at, Nat.reduceEqDiff, Int.reduceEq, Int.reduceNeg, and_true, true_and, and_false, false_and, and_self, reduceIte, Nat.add_left_cancel_iff, Nat.add_eq_left, Nat.left_eq_add, Nat.reduceAdd, Int.add_left_inj, Int.add_right_inj, e13]); rfl) ?_
    refine ks_iastore rfl (by assumption) (by omega) (by omega) ?_
    refine ks_return rfl ?_
    -- at 49: ret  st []
    refine t _ ?_ ?_
    · refine ⟨?_, ?_, ?_, ?_, ?_, ?_, ?_, ?_⟩
      · rw [lo 1 (by omega)]; simp [kx_up_at]; exact e8
      · rw [lo 2 (by omega)]; simp [kx_up_at]; exact e9
      · rw [lo 0 (by omega)]; simp [kx_up_at]; exact e10
      · rw [lo 4 (by omega)]; simp [kx_up_at]; exact e11
      · rw [lo 5 (by omega)]; simp [kx_up_at]; exact e12
      · simp [kx_up_at]; exact e13
      · intro i i0 i1
        rw [lo 1 (by omega)] at i1
        obtain ⟨b1, b2, b3, b4⟩ := eh i i0 i1
        rw [lo (6 + i) (by omega), lo (12 + i) (by omega), lo (18 + i) (by omega)]
        refine ⟨by simp [kx_up_at]; exact b1, by simp [kx_up_at]; exact b2, by simp [kx_up_at]; exact b3, ?_⟩
        unfold tw_work
        rw [if_neg f0, if_pos h1]
        have m1 : ¬ (24 + i = 42 + f) := by omega
        have m2 : ¬ (24 + i = 38 + f) := by omega
        have m3 : ¬ (24 + i = 34 + f) := by omega
        have m4 : (24 + i = 24 + s 4) = (i = s 4) := by simp only [eq_iff_iff]; omega
        simp only [kx_up_at, up1_at, Nat.add_left_cancel_iff, Nat.reduceEqDiff, false_and, true_and, and_false, and_true, if_false, if_true, m1, m2, m3, m4]
        by_cases e : i = s 4
        · rw [if_pos e, if_pos e]
        · rw [if_neg e, if_neg e]; exact b4
      · intro k k0 k1
        rw [lo 2 (by omega)] at k1
        obtain ⟨b1, b2, b3, b4⟩ := eo k k0 k1
        rw [lo (30 + k) (by omega)]
        refine ⟨by simp [kx_up_at]; exact b1, ?_⟩
        unfold tw_work
        rw [if_neg f0, if_pos h1]
        have m2 : ¬ (34 + k = 42 + f) := by omega
        have m3 : ¬ (34 + k = 38 + f) := by omega
        have m4 : ¬ (34 + k = 24 + s 4) := by omega
        have m5 : ¬ (38 + k = 42 + f) := by omega
        have m6 : ¬ (38 + k = 24 + s 4) := by omega
        have m7 : ¬ (38 + k = 34 + f) := by omega
        have m8 : ¬ (42 + k = 38 + f) := by omega
        have m9 : ¬ (42 + k = 24 + s 4) := by omega
        have m10 : ¬ (42 + k = 34 + f) := by omega
        have c1 : (34 + k = 34 + f) = (k = f) := by simp only [eq_iff_iff]; omega
        have c2 : (38 + k = 38 + f) = (k = f) := by simp only [eq_iff_iff]; omega
        have c3 : (42 + k = 42 + f) = (k = f) := by simp only [eq_iff_iff]; omega
        simp only [kx_up_at, up1_at, Nat.add_left_cancel_iff, Nat.reduceEqDiff, false_and, true_and, and_false, and_true, if_false, if_true, m2, m3, m4, m5, m6, m7, m8, m9, m10, c1, c2, c3]
        by_cases e : k = f
        · subst e
          simp_all
        · simp only [if_neg e]
          exact ⟨b2, b3, b4⟩
    · exact Fr_up (Fr_up (Fr_up (Fr_up (Fr_rf a μ) (by omega)) (by omega)) (by omega)) (by omega)
  · refine ks_return rfl ?_
    -- at 49: ret  st []
    refine t _ ?_ ?_
    · refine ⟨?_, ?_, ?_, ?_, ?_, ?_, ?_, ?_⟩
      · rw [lo 1 (by omega)]; simp [kx_up_at]; exact e8
      · rw [lo 2 (by omega)]; simp [kx_up_at]; exact e9
      · rw [lo 0 (by omega)]; simp [kx_up_at]; exact e10
      · rw [lo 4 (by omega)]; simp [kx_up_at]; exact e11
      · rw [lo 5 (by omega)]; simp [kx_up_at]; exact e12
      · simp [kx_up_at]; exact e13
      · intro i i0 i1
        rw [lo 1 (by omega)] at i1
        obtain ⟨b1, b2, b3, b4⟩ := eh i i0 i1
        rw [lo (6 + i) (by omega), lo (12 + i) (by omega), lo (18 + i) (by omega)]
        refine ⟨by simp [kx_up_at]; exact b1, by simp [kx_up_at]; exact b2, by simp [kx_up_at]; exact b3, ?_⟩
        unfold tw_work
        rw [if_neg f0, if_neg h1]
        have m1 : ¬ (24 + i = 42 + f) := by omega
        have m2 : ¬ (24 + i = 38 + f) := by omega
        have m3 : ¬ (24 + i = 34 + f) := by omega
        have m4 : (24 + i = 24 + s 4) = (i = s 4) := by simp only [eq_iff_iff]; omega
        simp only [kx_up_at, up1_at, Nat.add_left_cancel_iff, Nat.reduceEqDiff, false_and, true_and, and_false, and_true, if_false, if_true, m1, m2, m3, m4]
        by_cases e : i = s 4
        · rw [if_pos e, if_pos e]
        · rw [if_neg e, if_neg e]; exact b4
      · intro k k0 k1
        rw [lo 2 (by omega)] at k1
        obtain ⟨b1, b2, b3, b4⟩ := eo k k0 k1
        rw [lo (30 + k) (by omega)]
        refine ⟨by simp [kx_up_at]; exact b1, ?_⟩
        unfold tw_work
        rw [if_neg f0, if_neg h1]
        have m2 : ¬ (34 + k = 42 + f) := by omega
        have m3 : ¬ (34 + k = 38 + f) := by omega
        have m4 : ¬ (34 + k = 24 + s 4) := by omega
        have m5 : ¬ (38 + k = 42 + f) := by omega
        have m6 : ¬ (38 + k = 24 + s 4) := by omega
        have m7 : ¬ (38 + k = 34 + f) := by omega
        have m8 : ¬ (42 + k = 38 + f) := by omega
        have m9 : ¬ (42 + k = 24 + s 4) := by omega
        have m10 : ¬ (42 + k = 34 + f) := by omega
        have c1 : (34 + k = 34 + f) = (k = f) := by simp only [eq_iff_iff]; omega
        have c2 : (38 + k = 38 + f) = (k = f) := by simp only [eq_iff_iff]; omega
        have c3 : (42 + k = 42 + f) = (k = f) := by simp only [eq_iff_iff]; omega
        simp only [kx_up_at, up1_at, Nat.add_left_cancel_iff, Nat.reduceEqDiff, false_and, true_and, and_false, and_true, if_false, if_true, m2, m3, m4, m5, m6, m7, m8, m9, m10, c1, c2, c3]
        by_cases e : k = f
        · subst e
          simp_all
        · simp only [if_neg e]
          exact ⟨b2, b3, b4⟩
    · exact Fr_up (Fr_up (Fr_rf a μ) (by omega)) (by omega)
end CU
