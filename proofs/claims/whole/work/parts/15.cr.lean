/-! rows, and small ones of the platform -/
section CR
variable {d L : Nat} {G : kx_G} {μ : kx_M} {Q : Option kx_V → kx_G → kx_M → Prop} {a : Nat}
theorem r_min {x y : Int} (hx : kx_in x) (hy : kx_in y) (t : Q (some (kI (min x y))) G μ) : kx_cx (ke (d + 1)) 193 [kI x, kI y] G μ Q := by
  refine ke_start (tb := kt_Math_min) (ls := [some (kI x), some (kI y)]) rfl rfl ?_
  refine ks_iload_n rfl rfl ?_
  refine ks_iload_n rfl rfl ?_
  -- at 2: if gt -> 9 else 5 st [None, None]
  refine ks_icmp_gt rfl hx hy (fun h => ?_) (fun h => ?_)
  · refine ks_iload_n rfl rfl ?_
    refine ks_ireturn rfl ?_
    -- at 10: ret  st [None]
    rw [show min x y = y by omega] at t
    exact t
  · refine ks_iload_n rfl rfl ?_
    refine ks_goto rfl ?_
    refine ks_ireturn rfl ?_
    -- at 10: ret  st [None]
    rw [show min x y = x by omega] at t
    exact t
theorem r_max {x y : Int} (hx : kx_in x) (hy : kx_in y) (t : Q (some (kI (max x y))) G μ) : kx_cx (ke (d + 1)) 195 [kI x, kI y] G μ Q := by
  refine ke_start (tb := kt_Math_max) (ls := [some (kI x), some (kI y)]) rfl rfl ?_
  refine ks_iload_n rfl rfl ?_
  refine ks_iload_n rfl rfl ?_
  -- at 2: if lt -> 9 else 5 st [None, None]
  refine ks_icmp_lt rfl hx hy (fun h => ?_) (fun h => ?_)
  · refine ks_iload_n rfl rfl ?_
    refine ks_ireturn rfl ?_
    -- at 10: ret  st [None]
    rw [show max x y = y by omega] at t
    exact t
  · refine ks_iload_n rfl rfl ?_
    refine ks_goto rfl ?_
    refine ks_ireturn rfl ?_
    -- at 10: ret  st [None]
    rw [show max x y = x by omega] at t
    exact t
theorem l_fill {n : Nat} {v : Int} (hn : n ≤ 2000) (hs : (kg L).1 a = (2, n)) (t : ∀ μ', (∀ i : Int, 0 ≤ i → i < n → μ' a i = v) → (∀ c, c ≠ a → μ' c = μ c) → Q none (kg L) μ') : ∀ (r j : Nat) (μ1 : kx_M), j + r = n → (∀ i : Int, 0 ≤ i → i < j → μ1 a i = v) → (∀ c, c ≠ a → μ1 c = μ c) → kx_wx (ke d) kt_Arrays_fill Q 5 [some (kR a), some (kI v), some (kI j), some (kI n)] [] (kg L) μ1 := by
  intro r
  induction r with
  | zero =>
    intro j μ1 hj h1 h2
    refine ks_iload_n rfl rfl ?_
    refine ks_iload_n rfl rfl ?_
    -- at 7: if ge -> 20 else 10 st [None, None]
    refine ks_icmp_ge rfl ⟨by omega, by omega⟩ ⟨by omega, by omega⟩ (fun h => absurd h (by omega)) (fun h => ?_)
    refine ks_return rfl ?_
    -- at 20: ret  st []
    exact t μ1 (fun i i0 i1 => h1 i i0 (by omega)) h2
  | succ r ih =>
    intro j μ1 hj h1 h2
    refine ks_iload_n rfl rfl ?_
    refine ks_iload_n rfl rfl ?_
    -- at 7: if ge -> 20 else 10 st [None, None]
    refine ks_icmp_ge rfl ⟨by omega, by omega⟩ ⟨by omega, by omega⟩ (fun h => ?_) (fun h => absurd h (by omega))
    refine ks_aload_n rfl rfl ?_
    refine ks_iload_n rfl rfl ?_
    refine ks_iload_n rfl rfl ?_
    refine ks_iastore rfl (by assumption) (by omega) (by omega) ?_
    refine ks_iinc_2 rfl rfl ?_
    refine ks_goto rfl ?_
    -- at 5: stop  st []
    refine ih (j + 1) _ (by omega) (fun i i0 i1 => ?_) (fun c hc => ?_)
    · by_cases e : i = j
      · subst e; exact kx_up_self _ _ _ _
      · rw [kx_up_oth e]; exact h1 i i0 (by omega)
    · rw [kx_up_row hc]; exact h2 c hc
theorem r_fill {n : Nat} {v : Int} (hn : n ≤ 2000) (hs : (kg L).1 a = (2, n)) (t : ∀ μ', (∀ i : Int, 0 ≤ i → i < n → μ' a i = v) → (∀ c, c ≠ a → μ' c = μ c) → Q none (kg L) μ') : kx_cx (ke (d + 1)) 194 [kR a, kI v] (kg L) μ Q := by
  refine ke_start (tb := kt_Arrays_fill) (ls := [some (kR a), some (kI v), none, none]) rfl rfl ?_
  refine ks_iconst rfl ?_
  refine ks_istore_n_2 rfl rfl ?_
  refine ks_aload_n rfl rfl ?_
  refine ks_arraylength rfl (by assumption) ?_
  refine ks_istore_n_3 rfl rfl ?_
  -- at 5: stop  st []
  exact l_fill hn hs t n 0 μ (by omega) (fun i i0 i1 => absurd i1 (by omega)) (fun _ _ => rfl)
theorem r_remove (hR : kg_R L a) (t : Q (some (kI (μ a 2))) (kg L) (kx_up μ a 2 (-1))) : kx_cx (ke (d + 1)) 33 [kR a] (kg L) μ Q := by
  refine ke_start (tb := kt_Row_remove) (ls := [some (kR a), none]) rfl rfl ?_
  obtain ⟨g0, g1, g2⟩ := hR
  refine ks_aload_n rfl rfl ?_
  refine ks_geti rfl rfl (by assumption) rfl (by (try simp only [kx_up_at, kx_row_at, up1_at, Nat.reduceEqDiff, Int.reduceEq, Int.reduceNeg, and_true, true_and, and_false, false_and, and_self, reduceIte, Nat.add_left_cancel_iff, Nat.add_eq_left, Nat.left_eq_add, Nat.reduceAdd, Int.add_left_inj, Int.add_right_inj]); rfl) ?_
  refine ks_istore_n_1 rfl rfl ?_
  refine ks_aload_n rfl rfl ?_
  refine ks_iconst rfl ?_
  refine ks_puti rfl (by assumption) ?_
  refine ks_iload_n rfl rfl ?_
  refine ks_ireturn rfl ?_
  -- at 11: ret  st [None]
  exact t
theorem r_lay {l n : Int} (hR : kg_R L a) (t : ∀ μ', μ' a 1 = l → μ' a 2 = n → (∀ i, 0 ≤ i → i < 40 → μ' (a + 1) i = 0) → (∀ c, c ≠ a → c ≠ a + 1 → μ' c = μ c) → Q none (kg L) μ') : kx_cx (ke (d + 2)) 32 [kR a, kI l, kI n] (kg L) μ Q := by
  refine ke_start (tb := kt_Row_lay) (ls := [some (kR a), some (kI l), some (kI n)]) rfl rfl ?_
  obtain ⟨g0, g1, g2⟩ := hR
  refine ks_aload_n rfl rfl ?_
  refine ks_getr (b := a + 1) rfl rfl (by assumption) (by assumption) (Nat.succ_ne_zero _) ?_
  refine ks_iconst rfl ?_
  refine ks_calls_2 rfl (Nat.le_of_ble_eq_true rfl) ?_
  -- at 5: call Arrays_fill st []
  refine r_fill (n := 40) (by omega) g2 (fun μ1 h1 h2 => ?_)
  show kx_wx _ _ _ _ _ _ _ _
  refine ks_aload_n rfl rfl ?_
  refine ks_iload_n rfl rfl ?_
  refine ks_puti rfl (by assumption) ?_
  refine ks_aload_n rfl rfl ?_
  refine ks_iload_n rfl rfl ?_
  refine ks_puti rfl (by assumption) ?_
  refine ks_return rfl ?_
  -- at 18: ret  st []
  refine t _ ?_ ?_ (fun i i0 i1 => ?_) (fun c c0 c1 => ?_)
  · simp (disch := omega) only [kx_up_self, kx_up_oth]
  · simp (disch := omega) only [kx_up_self, kx_up_oth]
  · simp (disch := omega) only [kx_up_row]; exact h1 i i0 i1
  · simp (disch := omega) only [kx_up_row]; exact h2 c c1
/-- a number cut to a lane -/
def ln_cut (l x : Int) : Int := if l = 0 then x.bmod 256 else if l = 1 then x.bmod 65536 else x
theorem ln_cut_in {l x : Int} (hx : kx_in x) : kx_in (ln_cut l x) := by
  obtain ⟨h0, h1⟩ := hx
  unfold ln_cut
  split
  · rw [Int.bmod_def]; constructor <;> split <;> omega
  · split
    · rw [Int.bmod_def]; constructor <;> split <;> omega
    · exact ⟨h0, h1⟩
theorem ln_24 (x : Int) : (x * 2 ^ (24 : Int).toNat).bmod 4294967296 / 2 ^ (24 : Int).toNat = x.bmod 256 := by
  have e : (2 : Int) ^ (24 : Int).toNat = 16777216 := by decide
  rw [e, Int.bmod_def, Int.bmod_def]
  split <;> split <;> omega
theorem ln_16 (x : Int) : (x * 2 ^ (16 : Int).toNat).bmod 4294967296 / 2 ^ (16 : Int).toNat = x.bmod 65536 := by
  have e : (2 : Int) ^ (16 : Int).toNat = 65536 := by decide
  rw [e, Int.bmod_def, Int.bmod_def]
  split <;> split <;> omega
theorem r_cutToLane {x : Int} (hR : kg_R L a) (hl : kx_in (μ a 1)) (t : Q (some (kI (ln_cut (μ a 1) x))) (kg L) μ) : kx_cx (ke (d + 1)) 36 [kR a, kI x] (kg L) μ Q := by
  refine ke_start (tb := kt_Row_cutToLane) (ls := [some (kR a), some (kI x)]) rfl rfl ?_
  obtain ⟨g0, g1, g2⟩ := hR
  unfold ln_cut at t
  refine ks_aload_n rfl rfl ?_
  refine ks_geti rfl rfl (by assumption) rfl (by (try simp only [kx_up_at, kx_row_at, up1_at, Nat.reduceEqDiff, Int.reduceEq, Int.reduceNeg, and_true, true_and, and_false, false_and, and_self, reduceIte, Nat.add_left_cancel_iff, Nat.add_eq_left, Nat.left_eq_add, Nat.reduceAdd, Int.add_left_inj, Int.add_right_inj]); rfl) ?_
  -- at 4: sw  st [None]
  refine ks_lsw rfl hl ?_
  simp only [kx_sw, Int.reduceAdd]
  refine kx_ifs (fun h => ?_) (fun h => ?_)
  · rw [if_pos h] at t
    refine ks_iload_n rfl rfl ?_
    refine ks_i2b rfl ?_
    refine ks_ireturn rfl ?_
    -- at 34: ret  st [None]
    exact t
  refine kx_ifs (fun h1 => ?_) (fun h1 => ?_)
  · rw [if_neg h, if_pos h1] at t
    refine ks_iload_n rfl rfl ?_
    refine ks_i2s rfl ?_
    refine ks_ireturn rfl ?_
    -- at 37: ret  st [None]
    exact t
  · rw [if_neg h, if_neg h1] at t
    refine ks_iload_n rfl rfl ?_
    refine ks_ireturn rfl ?_
    -- at 39: ret  st [None]
    exact t
theorem r_asLane {l x : Int} (hl : kx_in l) (hx : kx_in x) (t : Q (some (kI (ln_cut l x))) G μ) : kx_cx (ke (d + 1)) 122 [kI l, kI x] G μ Q := by
  refine ke_start (tb := kt_M_asLane) (ls := [some (kI l), some (kI x)]) rfl rfl ?_
  unfold ln_cut at t
  refine ks_iload_n rfl rfl ?_
  -- at 1: if ne -> 14 else 4 st [None]
  refine ks_if_ne rfl hl (fun h => ?_) (fun h => ?_)
  · rw [if_pos h] at t
    refine ks_iload_n rfl rfl ?_
    refine ks_bipush rfl ?_
    refine ks_ishl rfl (by omega) (by omega) ?_
    refine ks_bipush rfl ?_
    refine ks_ishr rfl (by omega) (by omega) ?_
    refine ks_goto rfl ?_
    refine ks_ireturn rfl ?_
    -- at 30: ret  st [None]
    rw [ln_24]
    exact t
  · rw [if_neg h] at t
    refine ks_iload_n rfl rfl ?_
    refine ks_iconst rfl ?_
    -- at 16: if ne -> 29 else 19 st ['1', None]
    refine ks_icmp_ne rfl hl ⟨by omega, by omega⟩ (fun h1 => ?_) (fun h1 => ?_)
    · rw [if_pos h1] at t
      refine ks_iload_n rfl rfl ?_
      refine ks_bipush rfl ?_
      refine ks_ishl rfl (by omega) (by omega) ?_
      refine ks_bipush rfl ?_
      refine ks_ishr rfl (by omega) (by omega) ?_
      refine ks_goto rfl ?_
      refine ks_ireturn rfl ?_
      -- at 30: ret  st [None]
      rw [ln_16]
      exact t
    · rw [if_neg h1] at t
      refine ks_iload_n rfl rfl ?_
      refine ks_ireturn rfl ?_
      -- at 30: ret  st [None]
      exact t
end CR
