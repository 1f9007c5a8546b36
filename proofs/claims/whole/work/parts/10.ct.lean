/-! the class's town -/
/-- the town at cell a shows s on its visible places; its step is z -/
def TRx (μ : kx_M) (a : Nat) (s : Int → Int) (z : Int) : Prop := μ a 8 = s 1 ∧ μ a 9 = s 2 ∧ μ a 10 = s 0 ∧ μ a 11 = s 4 ∧ μ a 12 = s 5 ∧ μ a 13 = z ∧
  (∀ i, 0 ≤ i → i < s 1 → μ (a + 1) i = s (6 + i) ∧ μ (a + 2) i = s (12 + i) ∧ μ (a + 3) i = s (18 + i) ∧ μ (a + 4) i = s (24 + i)) ∧
  (∀ k, 0 ≤ k → k < s 2 → μ (a + 5) k = s (30 + k) ∧ μ (a + 6) k = s (34 + k) ∧ μ (a + 7) k = s (38 + k) ∧ μ (a + 8) k = if s (38 + k) = 1 then s (42 + k) else -1000000)
def TR (μ : kx_M) (a : Nat) (s : Int → Int) : Prop := TRx μ a s (s 3)
/-- nothing but the town at a is written -/
def Fr (a : Nat) (μ μ' : kx_M) : Prop := ∀ c, c < a ∨ a + 8 < c → μ' c = μ c
theorem Fr_rf (a : Nat) (μ : kx_M) : Fr a μ μ := fun _ _ => rfl
theorem Fr_tr {a : Nat} {μ μ1 μ2 : kx_M} (h : Fr a μ μ1) (k : Fr a μ1 μ2) : Fr a μ μ2 := fun c hc => (k c hc).trans (h c hc)
theorem Fr_up {a b : Nat} {μ μ1 : kx_M} {i v : Int} (h : Fr a μ μ1) (hb : a ≤ b ∧ b ≤ a + 8) : Fr a μ (kx_up μ1 b i v) := fun c hc => by rw [kx_up_row (by omega)]; exact h c hc
theorem tw_f_none {s : Int → Int} {h : Int} : ∀ (n : Nat) (f : Int), (∀ j : Nat, j < n → ¬ tw_P s h j) → tw_f s h n f = f := by
  intro n
  induction n with
  | zero => intro f _; rfl
  | succ n ih =>
    intro f hn
    have hq := hn n (by omega)
    simp only [tw_f]
    unfold tw_P tw_has at hq
    rw [if_neg hq]
    exact ih f (fun j hj => hn j (by omega))
theorem tw_f_first {s : Int → Int} {h : Int} {k : Nat} : ∀ (n : Nat) (f : Int), k < n → tw_P s h k → (∀ j : Nat, j < k → ¬ tw_P s h j) → tw_f s h n f = k := by
  intro n
  induction n with
  | zero => intro f hk; omega
  | succ n ih =>
    intro f hk hp hn
    simp only [tw_f]
    by_cases e : k = n
    · subst e
      have hq := hp
      unfold tw_P tw_has at hq
      rw [if_pos hq]
      exact tw_f_none _ _ hn
    · exact ih _ (by omega) hp hn
theorem kx_xor_neg {x n : Int} (h0 : -6 ≤ x) (h1 : x ≤ 12) (h2 : 1 ≤ n) (h3 : n ≤ 6) : (kx_xor x n < 0 ↔ x < 0) ∧ kx_in (kx_xor x n) := by
  have key : ∀ i : Nat, i < 19 → ∀ j : Nat, j < 6 → (kx_xor ((i : Int) - 6) ((j : Int) + 1) < 0 ↔ (i : Int) - 6 < 0) ∧ kx_in (kx_xor ((i : Int) - 6) ((j : Int) + 1)) := by decide
  have := key (x + 6).toNat (by omega) (n - 1).toNat (by omega)
  rw [show (((x + 6).toNat : Nat) : Int) - 6 = x by omega, show (((n - 1).toNat : Nat) : Int) + 1 = n by omega] at this
  exact this
section CT
variable {d L : Nat} {G : kx_G} {μ : kx_M} {Q : Option kx_V → kx_G → kx_M → Prop} {a : Nat} {s : Int → Int} {B z : Int}
theorem r_floorMod {x n : Int} (h0 : -6 ≤ x) (h1 : x ≤ 12) (h2 : 1 ≤ n) (h3 : n ≤ 6) (t : Q (some (kI (x % n))) G μ) : kx_cx (ke (d + 1)) 192 [kI x, kI n] G μ Q := by
  refine ke_start (tb := kt_Math_floorMod) (ls := [some (kI x), some (kI n), none]) rfl rfl ?_
  obtain ⟨k1, k2⟩ := kx_xor_neg h0 h1 h2 h3
  obtain ⟨_, _⟩ := k2
  have hm : x.tmod n = x % n ∧ 0 ≤ x ∨ x < 0 ∧ x.tmod n = 0 ∧ x % n = 0 ∨ x < 0 ∧ x.tmod n ≠ 0 ∧ x.tmod n + n = x % n := by
    have key : ∀ i : Nat, i < 19 → ∀ j : Nat, j < 6 → (((i : Int) - 6).tmod ((j : Int) + 1) = ((i : Int) - 6) % ((j : Int) + 1) ∧ 0 ≤ ((i : Int) - 6) ∨ ((i : Int) - 6) < 0 ∧ ((i : Int) - 6).tmod ((j : Int) + 1) = 0 ∧ ((i : Int) - 6) % ((j : Int) + 1) = 0 ∨ ((i : Int) - 6) < 0 ∧ ((i : Int) - 6).tmod ((j : Int) + 1) ≠ 0 ∧ ((i : Int) - 6).tmod ((j : Int) + 1) + ((j : Int) + 1) = ((i : Int) - 6) % ((j : Int) + 1)) := by decide
    have := key (x + 6).toNat (by omega) (n - 1).toNat (by omega)
    rw [show (((x + 6).toNat : Nat) : Int) - 6 = x by omega, show (((n - 1).toNat : Nat) : Int) + 1 = n by omega] at this
    exact this
  have hb : -6 ≤ x.tmod n ∧ x.tmod n ≤ 12 := by
    have a1 := Int.tmod_lt_of_pos x (show 0 < n by omega)
    have a2 := Int.lt_tmod_of_pos x (show 0 < n by omega)
    omega
  refine ks_iload_n rfl rfl ?_
  refine ks_iload_n rfl rfl ?_
  refine ks_irem rfl ⟨by omega, by omega⟩ ⟨by omega, by omega⟩ (by omega) ?_
  refine ks_istore_n_2 rfl rfl ?_
  refine ks_iload_n rfl rfl ?_
  refine ks_iload_n rfl rfl ?_
  refine ks_ixor rfl ?_
  -- at 7: if ge -> 18 else 10 st [None]
  refine ks_if_ge rfl ⟨by omega, by omega⟩ (fun c1 => ?_) (fun c1 => ?_)
  · refine ks_iload_n rfl rfl ?_
    -- at 11: if eq -> 18 else 14 st [None]
    refine ks_if_eq rfl ⟨by omega, by omega⟩ (fun c2 => ?_) (fun c2 => ?_)
    · refine ks_iload_n rfl rfl ?_
      refine ks_ireturn rfl ?_
      -- at 19: ret  st [None]
      rw [show x.tmod n = x % n by omega]
      exact t
    · refine ks_iload_n rfl rfl ?_
      refine ks_iload_n rfl rfl ?_
      refine ks_iadd rfl ?_
      refine ks_ireturn rfl ?_
      -- at 17: ret  st [None]
      rw [show x.tmod n + n = x % n by omega]
      exact t
  · refine ks_iload_n rfl rfl ?_
    refine ks_ireturn rfl ?_
    -- at 19: ret  st [None]
    rw [show x.tmod n = x % n by omega]
    exact t
theorem l_orderToWorkOn (hK : kg_T L a) (hT : TRx μ a s z) (hw : tw_W B s) (t : Q (some (kI (tw_found s (s 4)))) (kg L) μ) : ∀ (r j : Nat), j + r = (s 2).toNat → (∀ i : Nat, i < j → ¬ tw_P s (s 4) i) → kx_wx (ke d) kt_Town_orderToWorkOn Q 2 [some (kR a), some (kI j)] [] (kg L) μ := by
  obtain ⟨g0, g1, g2, g3, g4, g5, g6, g7, g8, g9, g10, g11, g12, g13, g14, g15, g16⟩ := hK
  obtain ⟨e8, e9, e10, e11, e12, e13, eh, eo⟩ := hT
  obtain ⟨w1, w2, w3, w4, w5, w6, w7, w8⟩ := hw
  have q7 := w7 (s 4) w3.1 w3.2
  have eh4 := (eh (s 4) w3.1 w3.2).2.2.1
  intro r
  induction r with
  | zero =>
    intro j hj hn
    refine ks_iload_n rfl rfl ?_
    refine ks_aload_n rfl rfl ?_
    refine ks_geti rfl rfl (by assumption) rfl (by (try simp only [kx_up_at, kx_row_at, up1_at, Nat.reduceEqDiff, Int.reduceEq, Int.reduceNeg, and_true, true_and, and_false, false_and, and_self, reduceIte, Nat.add_left_cancel_iff, Nat.add_eq_left, Nat.left_eq_add, Nat.reduceAdd, Int.add_left_inj, Int.add_right_inj, e9]); rfl) ?_
    -- at 7: if ge -> 44 else 10 st [None, None]
    refine ks_icmp_ge rfl ⟨by omega, by omega⟩ ⟨by omega, by omega⟩ (fun h => absurd h (by omega)) (fun h => ?_)
    refine ks_iconst rfl ?_
    refine ks_ireturn rfl ?_
    -- at 45: ret  st ['-1']
    unfold tw_found at t
    rw [Nat.add_zero] at hj
    rw [← hj, tw_f_none _ _ hn] at t
    exact t
  | succ r ih =>
    intro j hj hn
    have q8 := w8 j (by omega) (by omega)
    have eok := (eo j (by omega) (by omega)).2.2.1
    refine ks_iload_n rfl rfl ?_
    refine ks_aload_n rfl rfl ?_
    refine ks_geti rfl rfl (by assumption) rfl (by (try simp only [kx_up_at, kx_row_at, up1_at, Nat.reduceEqDiff, Int.reduceEq, Int.reduceNeg, and_true, true_and, and_false, false_and, and_self, reduceIte, Nat.add_left_cancel_iff, Nat.add_eq_left, Nat.left_eq_add, Nat.reduceAdd, Int.add_left_inj, Int.add_right_inj, e9]); rfl) ?_
    -- at 7: if ge -> 44 else 10 st [None, None]
    refine ks_icmp_ge rfl ⟨by omega, by omega⟩ ⟨by omega, by omega⟩ (fun h => ?_) (fun h => absurd h (by omega))
    refine ks_aload_n rfl rfl ?_
    refine ks_getr (b := a + 7) rfl rfl (by assumption) (by assumption) (Nat.succ_ne_zero _) ?_
    refine ks_iload_n rfl rfl ?_
    refine ks_iaload rfl (by assumption) (by omega) (by omega) (by (try simp only [kx_up_at, kx_row_at, up1_at, Nat.reduceEqDiff, Int.reduceEq, Int.reduceNeg, and_true, true_and, and_false, false_and, and_self, reduceIte, Nat.add_left_cancel_iff, Nat.add_eq_left, Nat.left_eq_add, Nat.reduceAdd, Int.add_left_inj, Int.add_right_inj, eok]); rfl) ?_
    -- at 16: if ne -> 38 else 19 st [None]
    refine ks_if_ne rfl ⟨by omega, by omega⟩ (fun h1 => ?_) (fun h1 => ?_)
    · obtain ⟨_, _⟩ := kx_and_in ((s (18 + s 4)).bmod 4294967296 / 2 ^ (j : Int).toNat) 1
      refine ks_aload_n rfl rfl ?_
      refine ks_getr (b := a + 3) rfl rfl (by assumption) (by assumption) (Nat.succ_ne_zero _) ?_
      refine ks_aload_n rfl rfl ?_
      refine ks_geti rfl rfl (by assumption) rfl (by (try simp only [kx_up_at, kx_row_at, up1_at, Nat.reduceEqDiff, Int.reduceEq, Int.reduceNeg, and_true, true_and, and_false, false_and, and_self, reduceIte, Nat.add_left_cancel_iff, Nat.add_eq_left, Nat.left_eq_add, Nat.reduceAdd, Int.add_left_inj, Int.add_right_inj, e11, eh4]); rfl) ?_
      refine ks_iaload rfl (by assumption) (by omega) (by omega) (by (try simp only [kx_up_at, kx_row_at, up1_at, Nat.reduceEqDiff, Int.reduceEq, Int.reduceNeg, and_true, true_and, and_false, false_and, and_self, reduceIte, Nat.add_left_cancel_iff, Nat.add_eq_left, Nat.left_eq_add, Nat.reduceAdd, Int.add_left_inj, Int.add_right_inj, e11, eh4]); rfl) ?_
      refine ks_iload_n rfl rfl ?_
      refine ks_ishr rfl (by omega) (by omega) ?_
      refine ks_iconst rfl ?_
      refine ks_iand rfl ?_
      refine ks_iconst rfl ?_
      -- at 33: if ne -> 38 else 36 st ['1', None]
      refine ks_icmp_ne rfl ⟨by omega, by omega⟩ ⟨by omega, by omega⟩ (fun h2 => ?_) (fun h2 => ?_)
      · refine ks_iload_n rfl rfl ?_
        refine ks_ireturn rfl ?_
        -- at 37: ret  st [None]
        unfold tw_found at t
        rw [tw_f_first (k := j) _ _ (by omega) ⟨h1, h2⟩ hn] at t
        exact t
      · refine ks_iinc_1 rfl rfl ?_
        refine ks_goto rfl ?_
        -- at 2: stop  st []
        exact ih (j + 1) (by omega) (fun i hi => by
          by_cases e : i = j
          · subst e; exact fun q => h2 q.2
          · exact hn i (by omega))
    · refine ks_iinc_1 rfl rfl ?_
      refine ks_goto rfl ?_
      -- at 2: stop  st []
      exact ih (j + 1) (by omega) (fun i hi => by
        by_cases e : i = j
        · subst e; exact fun q => h1 q.1
        · exact hn i (by omega))
theorem r_orderToWorkOn (hK : kg_T L a) (hT : TRx μ a s z) (hw : tw_W B s) (t : Q (some (kI (tw_found s (s 4)))) (kg L) μ) : kx_cx (ke (d + 1)) 63 [kR a] (kg L) μ Q := by
  refine ke_start (tb := kt_Town_orderToWorkOn) (ls := [some (kR a), none]) rfl rfl ?_
  refine ks_iconst rfl ?_
  refine ks_istore_n_1 rfl rfl ?_
  -- at 2: stop  st []
  have w2 := hw.2.1
  exact l_orderToWorkOn hK hT hw t (s 2).toNat 0 (by omega) (fun i hi => by omega)
end CT
