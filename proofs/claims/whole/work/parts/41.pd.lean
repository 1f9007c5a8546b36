/-! reading a town, the reference -/
def isl (c : Int) : Prop := (97 ≤ c ∧ c ≤ 122) ∨ c = 44 ∨ c = 59
/-- the token that begins at p -/
def TK (μ : kx_M) (T : Int → Int) (n p : Int) : Prop := μ 77 13 = p ∧ (0 ≤ p ∧ p ≤ n) ∧
  ((p = n ∧ μ 77 11 = 3 ∧ μ 77 10 = n) ∨
   (p < n ∧ 1 ≤ fg T n p ∧ fg T n p ≤ 2 ∧ μ 77 11 = 2 ∧ μ 77 12 = nv T p (fg T n p) ∧ μ 77 10 = p + fg T n p) ∨
   (p < n ∧ 2 < fg T n p ∧ μ 77 11 = 0 ∧ μ 77 10 = p + fg T n p) ∨
   (p < n ∧ fg T n p = 0 ∧ μ 77 10 = p + 1 ∧ ((isl (T p) ∧ μ 77 11 = 1 ∧ μ 77 12 = T p) ∨ (¬ isl (T p) ∧ μ 77 11 = 0))))
def RP (μ : kx_M) (T : Int → Int) (n : Int) : Prop := μ 77 8 = n ∧ μ 83 = T ∧ (∀ i, 0 ≤ T i ∧ T i ≤ 255) ∧ (0 ≤ n ∧ n ≤ 120)
def FrR (μ μ' : kx_M) : Prop := (∀ j, j < 10 ∨ 14 < j → μ' 77 j = μ 77 j) ∧ (∀ c, c ≠ 77 → c ≠ 84 → μ' c = μ c) ∧ ∀ k, k < 0 ∨ 46 ≤ k → μ' 84 k = μ 84 k
def FrN (μ μ' : kx_M) : Prop := (∀ j, j < 10 ∨ 13 < j → μ' 77 j = μ 77 j) ∧ ∀ c, c ≠ 77 → μ' c = μ c
theorem FrR_rf (μ : kx_M) : FrR μ μ := ⟨fun _ _ => rfl, fun _ _ _ => rfl, fun _ _ => rfl⟩
theorem FrR_tr {μ μ1 μ2 : kx_M} (h : FrR μ μ1) (k : FrR μ1 μ2) : FrR μ μ2 := ⟨fun j a => (k.1 j a).trans (h.1 j a), fun c a b => (k.2.1 c a b).trans (h.2.1 c a b), fun i a => (k.2.2 i a).trans (h.2.2 i a)⟩
theorem FrN_R {μ μ1 : kx_M} (h : FrN μ μ1) : FrR μ μ1 := ⟨fun j a => h.1 j (by omega), fun c a _ => h.2 c a, fun k _ => by rw [h.2 84 (by omega)]⟩
theorem FrN_rf (μ : kx_M) : FrN μ μ := ⟨fun _ _ => rfl, fun _ _ => rfl⟩
theorem FrN_up {μ μ1 : kx_M} {i v : Int} (h : FrN μ μ1) (hi : 10 ≤ i ∧ i ≤ 13) : FrN μ (kx_up μ1 77 i v) := ⟨fun j a => by rw [kx_up_oth (by omega)]; exact h.1 j a, fun c a => by rw [kx_up_row a]; exact h.2 c a⟩
theorem FrR_84 {μ μ1 : kx_M} {i v : Int} (h : FrR μ μ1) (h0 : 0 ≤ i) (h1 : i < 46) : FrR μ (kx_up μ1 84 i v) := ⟨fun j a => by rw [kx_up_row (by omega)]; exact h.1 j a, fun c a b => by rw [kx_up_row b]; exact h.2.1 c a b, fun k a => by rw [kx_up_oth (by omega)]; exact h.2.2 k a⟩
theorem FrR_14 {μ μ1 : kx_M} {v : Int} (h : FrR μ μ1) : FrR μ (kx_up μ1 77 14 v) := ⟨fun j a => by rw [kx_up_oth (by omega)]; exact h.1 j a, fun c a b => by rw [kx_up_row a]; exact h.2.1 c a b, fun k a => by rw [kx_up_row (by omega)]; exact h.2.2 k a⟩
theorem RP_fr {μ μ' : kx_M} {T : Int → Int} {n : Int} (P : RP μ T n) (F : FrR μ μ') : RP μ' T n := by
  obtain ⟨a, b, c, d⟩ := P
  exact ⟨by rw [F.1 8 (by omega)]; exact a, by rw [F.2.1 83 (by omega) (by omega)]; exact b, c, d⟩
theorem TK_fr {μ μ' : kx_M} {T : Int → Int} {n p : Int} (K : TK μ T n p) (h : ∀ j, 10 ≤ j → j ≤ 13 → μ' 77 j = μ 77 j) : TK μ' T n p := by
  unfold TK at *
  rw [h 13 (by omega) (by omega), h 12 (by omega) (by omega), h 11 (by omega) (by omega), h 10 (by omega) (by omega)]
  exact K
theorem fg_dig {T : Int → Int} {n p : Int} (h : p < n) (hd : ¬ (48 ≤ T p ∧ T p ≤ 57)) : fg T n p = 0 := by
  unfold fg
  obtain ⟨r, hr⟩ : ∃ r, (n - p).toNat = r + 1 := ⟨(n - p).toNat - 1, by omega⟩
  rw [hr, fgr, if_neg hd]
theorem TK_let {μ : kx_M} {T : Int → Int} {n p : Int} (K : TK μ T n p) (h : p < n) (hl : isl (T p)) : μ 77 10 = p + 1 := by
  have hz : fg T n p = 0 := fg_dig h (by unfold isl at hl; omega)
  obtain ⟨a, b, c⟩ := K
  rcases c with c | c | c | c
  · omega
  · omega
  · omega
  · exact c.2.2.1
theorem ps_nt1 {α : Type} {T : Int → Int} {n p lo hi c p' a : Int} {K : Int → Int → PR α} (h : ps_num T n p lo hi (fun v p1 => ps_tk T n p1 c ((.inr (p1 + 1, v) : PR (Int × Int)))) = .inr (p', a)) : ps_num T n p lo hi (fun v p1 => ps_tk T n p1 c (K v (p1 + 1))) = K a p' := by
  unfold ps_num ps_tk at *
  split at h
  · cases h
  · rename_i h1
    rw [if_neg h1]
    split at h
    · cases h
    · rename_i h2
      rw [if_neg h2]
      dsimp only at h ⊢
      split at h
      · rename_i h3
        rw [if_pos h3]
        cases h
        rfl
      · cases h
theorem ps_nt0 {α : Type} {T : Int → Int} {n p lo hi c : Int} {q : Int × Int} {K : Int → Int → PR α} (h : ps_num T n p lo hi (fun v p1 => ps_tk T n p1 c ((.inr (p1 + 1, v) : PR (Int × Int)))) = .inl q) : ps_num T n p lo hi (fun v p1 => ps_tk T n p1 c (K v (p1 + 1))) = .inl q := by
  unfold ps_num ps_tk at *
  split at h
  · rename_i h1
    rw [if_pos h1]
    cases h
    rfl
  · rename_i h1
    rw [if_neg h1]
    split at h
    · rename_i h2
      rw [if_pos h2]
      cases h
      rfl
    · rename_i h2
      rw [if_neg h2]
      dsimp only at h ⊢
      split at h
      · cases h
      · rename_i h3
        rw [if_neg h3]
        cases h
        rfl
section PD
variable {d L : Nat} {G : kx_G} {μ : kx_M} {Q : Option kx_V → kx_G → kx_M → Prop} {s T : Int → Int} {n p c : Int}
theorem l_nextToken (P : RP μ T n) (p0 : 0 ≤ p) (p1 : p ≤ n) (t : ∀ μ', TK μ' T n p → FrN μ μ' → Q none (kg L) μ') : ∀ (r : Nat) (q v : Int) (μ1 : kx_M), r = (n - q).toNat → p ≤ q → q ≤ n → q - p + fgr T r q = fg T n p → μ1 77 13 = p → μ1 77 10 = q → μ1 77 11 = (if p = n then 3 else 0) → μ1 77 12 = v → (0 ≤ v ∧ v ≤ 999) → (p < q → 48 ≤ T p ∧ T p ≤ 57) → (q = p → v = 0) → (q = p + 1 → v = T p - 48) → (q = p + 2 → v = 10 * (T p - 48) + T (p + 1) - 48) → FrN μ μ1 → kx_wx (ke (d + 1)) kt_M_nextToken Q 33 [some (kR 77)] [] (kg L) μ1 := by
  have fin : ∀ (v : Int) (μ1 : kx_M), μ1 77 13 = p → μ1 77 10 = p + fg T n p → μ1 77 11 = (if p = n then 3 else 0) → μ1 77 12 = v → (fg T n p = 1 → v = T p - 48) → (fg T n p = 2 → v = 10 * (T p - 48) + T (p + 1) - 48) → FrN μ μ1 → kx_wx (ke (d + 1)) kt_M_nextToken Q 119 [some (kR 77)] [] (kg L) μ1 := by
    intro v μ1 e13 e10 e11 e12 h1 h2 F
    have hf := fg_in (T := T) p1
    have P4 := P.2.2.2
    have hT : μ1 83 = T := by rw [F.2 83 (by omega)]; exact P.2.1
    have hb := P.2.2.1 p
    refine ks_aload_n rfl rfl ?_
    refine ks_geti rfl rfl rfl rfl (by (try simp only [kx_up_at, kx_row_at, up1_at, Nat.reduceEqDiff, Int.reduceEq, Int.reduceNeg, and_true, true_and, and_false, false_and, and_self, reduceIte, Nat.add_left_cancel_iff, Nat.add_eq_left, Nat.left_eq_add, Nat.reduceAdd, Int.add_left_inj, Int.add_right_inj, e10, e13]); rfl) ?_
    refine ks_aload_n rfl rfl ?_
    refine ks_geti rfl rfl rfl rfl (by (try simp only [kx_up_at, kx_row_at, up1_at, Nat.reduceEqDiff, Int.reduceEq, Int.reduceNeg, and_true, true_and, and_false, false_and, and_self, reduceIte, Nat.add_left_cancel_iff, Nat.add_eq_left, Nat.left_eq_add, Nat.reduceAdd, Int.add_left_inj, Int.add_right_inj, e10, e13]); rfl) ?_
    -- at 127: if le -> 155 else 130 st [None, None]
    refine ks_icmp_le rfl ⟨by omega, by omega⟩ ⟨by omega, by omega⟩ (fun c1 => ?_) (fun c1 => ?_)
    · have hpn : p < n := by omega
      refine ks_aload_n rfl rfl ?_
      refine ks_aload_n rfl rfl ?_
      refine ks_geti rfl rfl rfl rfl (by (try simp only [kx_up_at, kx_row_at, up1_at, Nat.reduceEqDiff, Int.reduceEq, Int.reduceNeg, and_true, true_and, and_false, false_and, and_self, reduceIte, Nat.add_left_cancel_iff, Nat.add_eq_left, Nat.left_eq_add, Nat.reduceAdd, Int.add_left_inj, Int.add_right_inj, e10, e13]); rfl) ?_
      refine ks_aload_n rfl rfl ?_
      refine ks_geti rfl rfl rfl rfl (by (try simp only [kx_up_at, kx_row_at, up1_at, Nat.reduceEqDiff, Int.reduceEq, Int.reduceNeg, and_true, true_and, and_false, false_and, and_self, reduceIte, Nat.add_left_cancel_iff, Nat.add_eq_left, Nat.left_eq_add, Nat.reduceAdd, Int.add_left_inj, Int.add_right_inj, e10, e13]); rfl) ?_
      refine ks_isub rfl ?_
      refine ks_iconst rfl ?_
      -- at 141: if le -> 148 else 144 st ['2', None, '77']
      refine ks_icmp_le rfl ⟨by omega, by omega⟩ ⟨by omega, by omega⟩ (fun c2 => ?_) (fun c2 => ?_)
      · refine ks_iconst rfl ?_
        refine ks_goto rfl ?_
        refine ks_puti rfl rfl ?_
        refine ks_goto rfl ?_
        refine ks_return rfl ?_
        -- at 229: ret  st []
        refine t _ ⟨?_, by omega, Or.inr (Or.inr (Or.inl ⟨hpn, by omega, ?_, ?_⟩))⟩ (FrN_up F (by omega))
        · rw [kx_up_oth (by omega)]; exact e13
        · rw [kx_up_self]
        · rw [kx_up_oth (by omega)]; exact e10
      · refine ks_iconst rfl ?_
        refine ks_puti rfl rfl ?_
        refine ks_goto rfl ?_
        refine ks_return rfl ?_
        -- at 229: ret  st []
        refine t _ ⟨?_, by omega, Or.inr (Or.inl ⟨hpn, by omega, by omega, ?_, ?_, ?_⟩)⟩ (FrN_up F (by omega))
        · rw [kx_up_oth (by omega)]; exact e13
        · rw [kx_up_self]
        · rw [kx_up_oth (by omega), e12]
          unfold nv
          by_cases e1 : fg T n p = 1
          · rw [if_pos e1]; exact h1 e1
          · rw [if_neg e1]; exact h2 (by omega)
        · rw [kx_up_oth (by omega)]; exact e10
    · have hz : fg T n p = 0 := by omega
      by_cases epn : p = n
      · rw [if_pos epn] at e11
        refine ks_aload_n rfl rfl ?_
        refine ks_geti rfl rfl rfl rfl (by (try simp only [kx_up_at, kx_row_at, up1_at, Nat.reduceEqDiff, Int.reduceEq, Int.reduceNeg, and_true, true_and, and_false, false_and, and_self, reduceIte, Nat.add_left_cancel_iff, Nat.add_eq_left, Nat.left_eq_add, Nat.reduceAdd, Int.add_left_inj, Int.add_right_inj, e11]); rfl) ?_
        -- at 159: if ne -> 229 else 162 st [None]
        refine ks_if_ne rfl ⟨by omega, by omega⟩ (fun c2 => absurd c2 (by omega)) (fun c2 => ?_)
        refine ks_return rfl ?_
        -- at 229: ret  st []
        refine t _ ⟨e13, by omega, Or.inl ⟨epn, e11, by omega⟩⟩ F
      · rw [if_neg epn] at e11
        rw [hz, Int.add_zero] at e10
        have hpn : p < n := by omega
        refine ks_aload_n rfl rfl ?_
        refine ks_geti rfl rfl rfl rfl (by (try simp only [kx_up_at, kx_row_at, up1_at, Nat.reduceEqDiff, Int.reduceEq, Int.reduceNeg, and_true, true_and, and_false, false_and, and_self, reduceIte, Nat.add_left_cancel_iff, Nat.add_eq_left, Nat.left_eq_add, Nat.reduceAdd, Int.add_left_inj, Int.add_right_inj, e11, e10, hT]); rfl) ?_
        -- at 159: if ne -> 229 else 162 st [None]
        refine ks_if_ne rfl ⟨by omega, by omega⟩ (fun c2 => ?_) (fun c2 => absurd c2 (by omega))
        refine ks_aload_n rfl rfl ?_
        refine ks_aload_n rfl rfl ?_
        refine ks_getr (b := 83) rfl rfl rfl rfl (by decide) ?_
        refine ks_aload_n rfl rfl ?_
        refine ks_geti rfl rfl rfl rfl (by (try simp only [kx_up_at, kx_row_at, up1_at, Nat.reduceEqDiff, Int.reduceEq, Int.reduceNeg, and_true, true_and, and_false, false_and, and_self, reduceIte, Nat.add_left_cancel_iff, Nat.add_eq_left, Nat.left_eq_add, Nat.reduceAdd, Int.add_left_inj, Int.add_right_inj, e11, e10, hT]); rfl) ?_
        refine ks_iaload rfl rfl (by omega) (by omega) (by (try simp only [kx_up_at, kx_row_at, up1_at, Nat.reduceEqDiff, Int.reduceEq, Int.reduceNeg, and_true, true_and, and_false, false_and, and_self, reduceIte, Nat.add_left_cancel_iff, Nat.add_eq_left, Nat.left_eq_add, Nat.reduceAdd, Int.add_left_inj, Int.add_right_inj, e11, e10, hT]); rfl) ?_
        refine ks_puti rfl rfl ?_
        refine ks_aload_n rfl rfl ?_
        refine ks_aload_n rfl rfl ?_
        refine ks_geti rfl rfl rfl rfl (by (try simp only [kx_up_at, kx_row_at, up1_at, Nat.reduceEqDiff, Int.reduceEq, Int.reduceNeg, and_true, true_and, and_false, false_and, and_self, reduceIte, Nat.add_left_cancel_iff, Nat.add_eq_left, Nat.left_eq_add, Nat.reduceAdd, Int.add_left_inj, Int.add_right_inj, e11, e10, hT]); rfl) ?_
        refine ks_i2l rfl ⟨by omega, by omega⟩ ?_
        refine ks_ldc2_w rfl ?_
        refine ks_ldc2_w rfl ?_
        refine ks_calls_3 rfl (Nat.le_of_ble_eq_true rfl) ?_
        -- at 187: call M_in st ['77']
        have fin2 : ∀ k, (isl (T p) ∧ k = 1 ∨ ¬ isl (T p) ∧ k = 0) → kx_wx (ke (d + 1)) kt_M_nextToken Q 216 [some (kR 77)] [kI k, kR 77] (kg L) (kx_up μ1 77 12 (T p)) := by
          intro k hk
          refine ks_puti rfl rfl ?_
          refine ks_aload_n rfl rfl ?_
          refine ks_dupR rfl ?_
          refine ks_geti rfl rfl rfl rfl (by (try simp only [kx_up_at, kx_row_at, up1_at, Nat.reduceEqDiff, Int.reduceEq, Int.reduceNeg, and_true, true_and, and_false, false_and, and_self, reduceIte, Nat.add_left_cancel_iff, Nat.add_eq_left, Nat.left_eq_add, Nat.reduceAdd, Int.add_left_inj, Int.add_right_inj, e10]); rfl) ?_
          refine ks_iconst rfl ?_
          refine ks_iadd rfl ?_
          refine ks_puti rfl rfl ?_
          refine ks_return rfl ?_
          -- at 229: ret  st []
          refine t _ ⟨?_, by omega, Or.inr (Or.inr (Or.inr ⟨hpn, hz, ?_, ?_⟩))⟩ (FrN_up (FrN_up (FrN_up F (by omega)) (by omega)) (by omega))
          · rw [kx_up_oth (by omega), kx_up_oth (by omega), kx_up_oth (by omega)]; exact e13
          · rw [kx_up_self]
          · rw [kx_up_oth (by omega), kx_up_self, kx_up_oth (by omega), kx_up_oth (by omega), kx_up_self]
            rcases hk with ⟨a, b⟩ | ⟨a, b⟩
            · exact Or.inl ⟨a, b, rfl⟩
            · exact Or.inr ⟨a, b⟩
        have fin3 : isl (T p) → kx_wx (ke (d + 1)) kt_M_nextToken Q 211 [some (kR 77)] [kR 77] (kg L) (kx_up μ1 77 12 (T p)) := by
          intro hk
          refine ks_iconst rfl ?_
          refine ks_goto rfl ?_
          -- at 216: stop  st ['1', '77']
          exact fin2 1 (Or.inl ⟨hk, rfl⟩)
        refine r_in ⟨by omega, by omega⟩ ⟨by omega, by omega⟩ ⟨by omega, by omega⟩ (fun c3 => ?_) (fun c3 => ?_)
        · show kx_wx _ _ _ _ _ (_ :: _) _ _
          refine ks_if_ne_1 rfl ?_
          -- at 211: stop  st ['77']
          exact fin3 (Or.inl c3)
        · show kx_wx _ _ _ _ _ (_ :: _) _ _
          refine ks_if_ne_0 rfl ?_
          refine ks_aload_n rfl rfl ?_
          refine ks_geti rfl rfl rfl rfl (by (try simp only [kx_up_at, kx_row_at, up1_at, Nat.reduceEqDiff, Int.reduceEq, Int.reduceNeg, and_true, true_and, and_false, false_and, and_self, reduceIte, Nat.add_left_cancel_iff, Nat.add_eq_left, Nat.left_eq_add, Nat.reduceAdd, Int.add_left_inj, Int.add_right_inj, e11, e10, hT]); rfl) ?_
          refine ks_bipush rfl ?_
          -- at 199: if eq -> 211 else 202 st ['44', None, '77']
          refine ks_icmp_eq rfl ⟨by omega, by omega⟩ ⟨by omega, by omega⟩ (fun c4 => ?_) (fun c4 => ?_)
          · exact fin3 (Or.inr (Or.inl c4))
            -- at 211: stop
          · refine ks_aload_n rfl rfl ?_
            refine ks_geti rfl rfl rfl rfl (by (try simp only [kx_up_at, kx_row_at, up1_at, Nat.reduceEqDiff, Int.reduceEq, Int.reduceNeg, and_true, true_and, and_false, false_and, and_self, reduceIte, Nat.add_left_cancel_iff, Nat.add_eq_left, Nat.left_eq_add, Nat.reduceAdd, Int.add_left_inj, Int.add_right_inj, e11, e10, hT]); rfl) ?_
            refine ks_bipush rfl ?_
            -- at 208: if ne -> 215 else 211 st ['59', None, '77']
            refine ks_icmp_ne rfl ⟨by omega, by omega⟩ ⟨by omega, by omega⟩ (fun c5 => ?_) (fun c5 => ?_)
            · exact fin3 (Or.inr (Or.inr c5))
              -- at 211: stop
            · refine ks_iconst rfl ?_
              -- at 216: stop  st ['0', '77']
              exact fin2 0 (Or.inr ⟨by unfold isl; omega, rfl⟩)
  intro r
  induction r with
  | zero =>
    intro q v μ1 hr q0 q1 hq e13 e10 e11 e12 hv dg v0 v1 v2 F
    have P4 := P.2.2.2
    have e8 : μ1 77 8 = n := by rw [F.1 8 (by omega)]; exact P.1
    simp only [fgr] at hq
    refine ks_aload_n rfl rfl ?_
    refine ks_geti rfl rfl rfl rfl (by (try simp only [kx_up_at, kx_row_at, up1_at, Nat.reduceEqDiff, Int.reduceEq, Int.reduceNeg, and_true, true_and, and_false, false_and, and_self, reduceIte, Nat.add_left_cancel_iff, Nat.add_eq_left, Nat.left_eq_add, Nat.reduceAdd, Int.add_left_inj, Int.add_right_inj, e10, e8]); rfl) ?_
    refine ks_aload_n rfl rfl ?_
    refine ks_geti rfl rfl rfl rfl (by (try simp only [kx_up_at, kx_row_at, up1_at, Nat.reduceEqDiff, Int.reduceEq, Int.reduceNeg, and_true, true_and, and_false, false_and, and_self, reduceIte, Nat.add_left_cancel_iff, Nat.add_eq_left, Nat.left_eq_add, Nat.reduceAdd, Int.add_left_inj, Int.add_right_inj, e10, e8]); rfl) ?_
    -- at 41: if ge -> 119 else 44 st [None, None]
    refine ks_icmp_ge rfl ⟨by omega, by omega⟩ ⟨by omega, by omega⟩ (fun c => absurd c (by omega)) (fun c => ?_)
    exact fin v μ1 e13 (by omega) e11 e12 (fun h => v1 (by omega)) (fun h => v2 (by omega)) F
  | succ r ih =>
    intro q v μ1 hr q0 q1 hq e13 e10 e11 e12 hv dg v0 v1 v2 F
    have P4 := P.2.2.2
    have e8 : μ1 77 8 = n := by rw [F.1 8 (by omega)]; exact P.1
    have hT : μ1 83 = T := by rw [F.2 83 (by omega)]; exact P.2.1
    have hb := P.2.2.1 q
    rw [fgr] at hq
    refine ks_aload_n rfl rfl ?_
    refine ks_geti rfl rfl rfl rfl (by (try simp only [kx_up_at, kx_row_at, up1_at, Nat.reduceEqDiff, Int.reduceEq, Int.reduceNeg, and_true, true_and, and_false, false_and, and_self, reduceIte, Nat.add_left_cancel_iff, Nat.add_eq_left, Nat.left_eq_add, Nat.reduceAdd, Int.add_left_inj, Int.add_right_inj, e10, e8, hT, e12]); rfl) ?_
    refine ks_aload_n rfl rfl ?_
    refine ks_geti rfl rfl rfl rfl (by (try simp only [kx_up_at, kx_row_at, up1_at, Nat.reduceEqDiff, Int.reduceEq, Int.reduceNeg, and_true, true_and, and_false, false_and, and_self, reduceIte, Nat.add_left_cancel_iff, Nat.add_eq_left, Nat.left_eq_add, Nat.reduceAdd, Int.add_left_inj, Int.add_right_inj, e10, e8, hT, e12]); rfl) ?_
    -- at 41: if ge -> 119 else 44 st [None, None]
    refine ks_icmp_ge rfl ⟨by omega, by omega⟩ ⟨by omega, by omega⟩ (fun c => ?_) (fun c => absurd c (by omega))
    refine ks_aload_n rfl rfl ?_
    refine ks_getr (b := 83) rfl rfl rfl rfl (by decide) ?_
    refine ks_aload_n rfl rfl ?_
    refine ks_geti rfl rfl rfl rfl (by (try simp only [kx_up_at, kx_row_at, up1_at, Nat.reduceEqDiff, Int.reduceEq, Int.reduceNeg, and_true, true_and, and_false, false_and, and_self, reduceIte, Nat.add_left_cancel_iff, Nat.add_eq_left, Nat.left_eq_add, Nat.reduceAdd, Int.add_left_inj, Int.add_right_inj, e10, e8, hT, e12]); rfl) ?_
    refine ks_iaload rfl rfl (by omega) (by omega) (by (try simp only [kx_up_at, kx_row_at, up1_at, Nat.reduceEqDiff, Int.reduceEq, Int.reduceNeg, and_true, true_and, and_false, false_and, and_self, reduceIte, Nat.add_left_cancel_iff, Nat.add_eq_left, Nat.left_eq_add, Nat.reduceAdd, Int.add_left_inj, Int.add_right_inj, e10, e8, hT, e12]); rfl) ?_
    refine ks_i2l rfl ⟨by omega, by omega⟩ ?_
    refine ks_ldc2_w rfl ?_
    refine ks_ldc2_w rfl ?_
    refine ks_calls_3 rfl (Nat.le_of_ble_eq_true rfl) ?_
    -- at 60: call M_in st []
    refine r_in ⟨by omega, by omega⟩ ⟨by omega, by omega⟩ ⟨by omega, by omega⟩ (fun c2 => ?_) (fun c2 => ?_)
    · rw [if_pos c2] at hq
      show kx_wx _ _ _ _ _ (_ :: _) _ _
      refine ks_if_eq_1 rfl ?_
      refine ks_aload_n rfl rfl ?_
      refine ks_aload_n rfl rfl ?_
      refine ks_geti rfl rfl rfl rfl (by (try simp only [kx_up_at, kx_row_at, up1_at, Nat.reduceEqDiff, Int.reduceEq, Int.reduceNeg, and_true, true_and, and_false, false_and, and_self, reduceIte, Nat.add_left_cancel_iff, Nat.add_eq_left, Nat.left_eq_add, Nat.reduceAdd, Int.add_left_inj, Int.add_right_inj, e10, e8, hT, e12]); rfl) ?_
      refine ks_bipush rfl ?_
      -- at 73: if le -> 83 else 76 st ['99', None, '77']
      have next : ∀ v', (0 ≤ v' ∧ v' ≤ 999) → (q + 1 = p + 1 → v' = T p - 48) → (q + 1 = p + 2 → v' = 10 * (T p - 48) + T (p + 1) - 48) → kx_wx (ke (d + 1)) kt_M_nextToken Q 103 [some (kR 77)] [kI v', kR 77] (kg L) μ1 := by
        intro v' hv' h1 h2
        refine ks_puti rfl rfl ?_
        refine ks_aload_n rfl rfl ?_
        refine ks_dupR rfl ?_
        refine ks_geti rfl rfl rfl rfl (by (try simp only [kx_up_at, kx_row_at, up1_at, Nat.reduceEqDiff, Int.reduceEq, Int.reduceNeg, and_true, true_and, and_false, false_and, and_self, reduceIte, Nat.add_left_cancel_iff, Nat.add_eq_left, Nat.left_eq_add, Nat.reduceAdd, Int.add_left_inj, Int.add_right_inj, e10]); rfl) ?_
        refine ks_iconst rfl ?_
        refine ks_iadd rfl ?_
        refine ks_puti rfl rfl ?_
        refine ks_goto rfl ?_
        -- at 33: stop  st []
        refine ih (q + 1) v' _ (by omega) (by omega) (by omega) (by omega) ?_ (kx_up_self _ _ _ _) ?_ ?_ hv' (fun h => ?_) (fun h => by omega) h1 h2 (FrN_up (FrN_up F (by omega)) (by omega))
        · rw [kx_up_oth (by omega), kx_up_oth (by omega)]; exact e13
        · rw [kx_up_oth (by omega), kx_up_oth (by omega)]; exact e11
        · rw [kx_up_oth (by omega), kx_up_self]
        · by_cases eqp : q = p
          · rw [← eqp]; exact c2
          · exact dg (by omega)
      refine ks_icmp_le rfl ⟨by omega, by omega⟩ ⟨by omega, by omega⟩ (fun c3 => ?_) (fun c3 => ?_)
      · refine ks_aload_n rfl rfl ?_
        refine ks_geti rfl rfl rfl rfl (by (try simp only [kx_up_at, kx_row_at, up1_at, Nat.reduceEqDiff, Int.reduceEq, Int.reduceNeg, and_true, true_and, and_false, false_and, and_self, reduceIte, Nat.add_left_cancel_iff, Nat.add_eq_left, Nat.left_eq_add, Nat.reduceAdd, Int.add_left_inj, Int.add_right_inj, e10, e8, hT, e12]); rfl) ?_
        refine ks_goto rfl ?_
        -- at 103: stop  st [None, '77']
        exact next v hv (fun h => by have := v0 (by omega); omega) (fun h => by have := v1 (by omega); have := dg (by omega); omega)
      · refine ks_bipush rfl ?_
        refine ks_aload_n rfl rfl ?_
        refine ks_geti rfl rfl rfl rfl (by (try simp only [kx_up_at, kx_row_at, up1_at, Nat.reduceEqDiff, Int.reduceEq, Int.reduceNeg, and_true, true_and, and_false, false_and, and_self, reduceIte, Nat.add_left_cancel_iff, Nat.add_eq_left, Nat.left_eq_add, Nat.reduceAdd, Int.add_left_inj, Int.add_right_inj, e10, e8, hT, e12]); rfl) ?_
        refine ks_imul rfl ?_
        refine ks_aload_n rfl rfl ?_
        refine ks_getr (b := 83) rfl rfl rfl rfl (by decide) ?_
        refine ks_aload_n rfl rfl ?_
        refine ks_geti rfl rfl rfl rfl (by (try simp only [kx_up_at, kx_row_at, up1_at, Nat.reduceEqDiff, Int.reduceEq, Int.reduceNeg, and_true, true_and, and_false, false_and, and_self, reduceIte, Nat.add_left_cancel_iff, Nat.add_eq_left, Nat.left_eq_add, Nat.reduceAdd, Int.add_left_inj, Int.add_right_inj, e10, e8, hT, e12]); rfl) ?_
        refine ks_iaload rfl rfl (by omega) (by omega) (by (try simp only [kx_up_at, kx_row_at, up1_at, Nat.reduceEqDiff, Int.reduceEq, Int.reduceNeg, and_true, true_and, and_false, false_and, and_self, reduceIte, Nat.add_left_cancel_iff, Nat.add_eq_left, Nat.left_eq_add, Nat.reduceAdd, Int.add_left_inj, Int.add_right_inj, e10, e8, hT, e12]); rfl) ?_
        refine ks_iadd rfl ?_
        refine ks_bipush rfl ?_
        refine ks_isub rfl ?_
        -- at 103: stop  st [None, '77']
        refine next _ (by omega) (fun h => ?_) (fun h => ?_)
        · have eq : q = p := by omega
          subst eq
          have := v0 rfl
          omega
        · have eq : q = p + 1 := by omega
          subst eq
          have := v1 rfl
          omega
    · rw [if_neg c2] at hq
      show kx_wx _ _ _ _ _ (_ :: _) _ _
      refine ks_if_eq_0 rfl ?_
      -- at 119: stop  st []
      exact fin v μ1 e13 (by omega) e11 e12 (fun h => v1 (by omega)) (fun h => v2 (by omega)) F
theorem r_nextToken (P : RP μ T n) (p0 : 0 ≤ p) (p1 : p ≤ n) (hp : μ 77 10 = p) (t : ∀ μ', TK μ' T n p → FrN μ μ' → Q none (kg L) μ') : kx_cx (ke (d + 2)) 127 [kR 77] (kg L) μ Q := by
  refine ke_start (tb := kt_M_nextToken) (ls := [some (kR 77)]) rfl rfl ?_
  have e8 := P.1
  have P4 := P.2.2.2
  have fin : ∀ k, k = (if p = n then 3 else 0) → kx_wx (ke (d + 1)) kt_M_nextToken Q 25 [some (kR 77)] [kI k, kR 77] (kg L) (kx_up μ 77 13 p) := by
    intro k hk
    refine ks_puti rfl rfl ?_
    refine ks_aload_n rfl rfl ?_
    refine ks_iconst rfl ?_
    refine ks_puti rfl rfl ?_
    -- at 33: stop  st []
    refine l_nextToken (μ := μ) P p0 p1 t (n - p).toNat p 0 _ rfl (Int.le_refl p) p1 (by unfold fg; omega) ?_ ?_ ?_ (kx_up_self _ _ _ _) (by omega) (fun h => by omega) (fun _ => rfl) (fun h => by omega) (fun h => by omega) (FrN_up (FrN_up (FrN_up (FrN_rf μ) (by omega)) (by omega)) (by omega))
    · rw [kx_up_oth (by omega), kx_up_oth (by omega), kx_up_self]
    · rw [kx_up_oth (by omega), kx_up_oth (by omega), kx_up_oth (by omega)]; exact hp
    · rw [kx_up_oth (by omega), kx_up_self]; exact hk
  refine ks_aload_n rfl rfl ?_
  refine ks_aload_n rfl rfl ?_
  refine ks_geti rfl rfl rfl rfl (by (try simp only [kx_up_at, kx_row_at, up1_at, Nat.reduceEqDiff, Int.reduceEq, Int.reduceNeg, and_true, true_and, and_false, false_and, and_self, reduceIte, Nat.add_left_cancel_iff, Nat.add_eq_left, Nat.left_eq_add, Nat.reduceAdd, Int.add_left_inj, Int.add_right_inj, hp, e8]); rfl) ?_
  refine ks_puti rfl rfl ?_
  refine ks_aload_n rfl rfl ?_
  refine ks_aload_n rfl rfl ?_
  refine ks_geti rfl rfl rfl rfl (by (try simp only [kx_up_at, kx_row_at, up1_at, Nat.reduceEqDiff, Int.reduceEq, Int.reduceNeg, and_true, true_and, and_false, false_and, and_self, reduceIte, Nat.add_left_cancel_iff, Nat.add_eq_left, Nat.left_eq_add, Nat.reduceAdd, Int.add_left_inj, Int.add_right_inj, hp, e8]); rfl) ?_
  refine ks_aload_n rfl rfl ?_
  refine ks_geti rfl rfl rfl rfl (by (try simp only [kx_up_at, kx_row_at, up1_at, Nat.reduceEqDiff, Int.reduceEq, Int.reduceNeg, and_true, true_and, and_false, false_and, and_self, reduceIte, Nat.add_left_cancel_iff, Nat.add_eq_left, Nat.left_eq_add, Nat.reduceAdd, Int.add_left_inj, Int.add_right_inj, hp, e8]); rfl) ?_
  -- at 17: if ne -> 24 else 20 st [None, None, '77']
  refine ks_icmp_ne rfl ⟨by omega, by omega⟩ ⟨by omega, by omega⟩ (fun c => ?_) (fun c => ?_)
  · refine ks_iconst rfl ?_
    refine ks_goto rfl ?_
    -- at 25: stop  st ['3', '77']
    exact fin 3 (by rw [if_pos c])
  · refine ks_iconst rfl ?_
    -- at 25: stop  st ['0', '77']
    exact fin 0 (by rw [if_neg c])
end PD
