/-! foretold, the reference: keeps, round, lot; and lots of the class -/
theorem kx_or_64 {a b : Int} (a0 : 0 ≤ a) (a1 : a < 64) (b0 : 0 ≤ b) (b1 : b < 64) : 0 ≤ kx_or a b ∧ kx_or a b < 64 := by
  obtain ⟨m, rfl⟩ := Int.eq_ofNat_of_zero_le a0
  obtain ⟨n, rfl⟩ := Int.eq_ofNat_of_zero_le b0
  have h : m ||| n < 2 ^ 6 := Nat.or_lt_two_pow (by omega) (by omega)
  have e : kx_or (m : Int) (n : Int) = (BitVec.ofInt 32 (m : Int) ||| BitVec.ofInt 32 (n : Int)).toInt := rfl
  rw [e]
  have e1 : (BitVec.ofInt 32 (m : Int)).toNat = m := by rw [BitVec.toNat_ofInt]; omega
  have e2 : (BitVec.ofInt 32 (n : Int)).toNat = n := by rw [BitVec.toNat_ofInt]; omega
  have e3 : (BitVec.ofInt 32 (m : Int) ||| BitVec.ofInt 32 (n : Int)).toNat = m ||| n := by rw [BitVec.toNat_or, e1, e2]
  rw [BitVec.toInt_eq_toNat_of_lt (by rw [e3]; omega), e3]
  omega
theorem q_wi_in {s : Int → Int} {h : Int} {n : Nat} : ∀ (r : Nat) (w a : Int), 0 ≤ w → w + r ≤ 6 → 0 ≤ a → a < 64 → 0 ≤ q_wi s h n r w a ∧ q_wi s h n r w a < 64 := by
  intro r
  induction r with
  | zero => intro w a _ _ a0 a1; exact ⟨a0, a1⟩
  | succ r ih =>
    intro w a w0 w1 a0 a1
    rw [q_wi]
    have hp : 0 ≤ (if tw_go (up1 s 0 w) n 4 = h then 1 * 2 ^ w.toNat else (0 : Int)) ∧ (if tw_go (up1 s 0 w) n 4 = h then 1 * 2 ^ w.toNat else (0 : Int)) < 64 := by
      split
      · have hc : w = 0 ∨ w = 1 ∨ w = 2 ∨ w = 3 ∨ w = 4 ∨ w = 5 := by omega
        rcases hc with e | e | e | e | e | e <;> subst e <;> decide
      · omega
    have := kx_or_64 a0 a1 hp.1 hp.2
    exact ih (w + 1) _ (by omega) (by omega) this.1 this.2
def q_pc (x : Int) : Int := x % 2 + x / 2 % 2 + x / 4 % 2 + x / 8 % 2 + x / 16 % 2 + x / 32 % 2
theorem q_pc_and {x : Int} (h0 : 1 ≤ x) (h1 : x < 64) : 0 ≤ kx_and x (x - 1) ∧ kx_and x (x - 1) < x ∧ q_pc (kx_and x (x - 1)) + 1 = q_pc x := by
  have key : ∀ i : Nat, i < 63 → 0 ≤ kx_and ((i : Int) + 1) ((i : Int) + 1 - 1) ∧ kx_and ((i : Int) + 1) ((i : Int) + 1 - 1) < (i : Int) + 1 ∧ q_pc (kx_and ((i : Int) + 1) ((i : Int) + 1 - 1)) + 1 = q_pc ((i : Int) + 1) := by decide +kernel
  have := key (x - 1).toNat (by omega)
  rw [show (((x - 1).toNat : Nat) : Int) + 1 = x by omega] at this
  exact this
theorem q_pc_in {x : Int} (h0 : 0 ≤ x) (h1 : x < 64) : 0 ≤ q_pc x ∧ q_pc x ≤ 6 := by unfold q_pc; omega
def bc1 (x : Int) : Int := x - kx_and (x / 2 ^ (1 : Int).toNat) 1431655765
def bc2 (y : Int) : Int := kx_and y 858993459 + kx_and (y / 2 ^ (2 : Int).toNat) 858993459
def bc3 (y : Int) : Int := kx_and (y + y / 2 ^ (4 : Int).toNat) 252645135
def bc4 (y : Int) : Int := y + y / 2 ^ (8 : Int).toNat
def bc5 (y : Int) : Int := y + y / 2 ^ (16 : Int).toNat
theorem bc_all {x : Int} (h0 : 0 ≤ x) (h1 : x < 64) : (0 ≤ bc1 x ∧ bc1 x ≤ 1000) ∧ (0 ≤ bc2 (bc1 x) ∧ bc2 (bc1 x) ≤ 1000) ∧ (0 ≤ bc3 (bc2 (bc1 x)) ∧ bc3 (bc2 (bc1 x)) ≤ 1000) ∧ (0 ≤ bc4 (bc3 (bc2 (bc1 x))) ∧ bc4 (bc3 (bc2 (bc1 x))) ≤ 1000) ∧ kx_and (bc5 (bc4 (bc3 (bc2 (bc1 x))))) 63 = q_pc x := by
  have key : ∀ i : Nat, i < 64 → (0 ≤ bc1 i ∧ bc1 i ≤ 1000) ∧ (0 ≤ bc2 (bc1 i) ∧ bc2 (bc1 i) ≤ 1000) ∧ (0 ≤ bc3 (bc2 (bc1 i)) ∧ bc3 (bc2 (bc1 i)) ≤ 1000) ∧ (0 ≤ bc4 (bc3 (bc2 (bc1 i))) ∧ bc4 (bc3 (bc2 (bc1 i))) ≤ 1000) ∧ kx_and (bc5 (bc4 (bc3 (bc2 (bc1 i))))) 63 = q_pc i := by decide +kernel
  have := key x.toNat (by omega)
  rw [show ((x.toNat : Nat) : Int) = x by omega] at this
  exact this
def q_g (a : Int) : Int := if a = 0 then 6 else if a % 6 = 0 then 6 else if a % 3 = 0 then 3 else if a % 2 = 0 then 2 else 1
def wy (s : Int → Int) (i : Nat) (c : Int) : Int := if c = 0 then tw_go s i 4 else if c = 1 then tw_go s i 5 else if c - 2 < s 2 then tw_go s i (32 + c) else 0
theorem tw_mk_eq {B C : Int} {s t : Int → Int} (W : tw_W B s) (V : tw_W C t) (e : s 2 = t 2) : ∀ n : Nat, n ≤ (s 2).toNat → (tw_mk s n = tw_mk t n ↔ (s 4 = t 4 ∧ s 5 = t 5 ∧ ∀ k : Nat, k < n → s (34 + k) = t (34 + k))) := by
  obtain ⟨w1, w2, w3, w4, w5, w6, w7, w8⟩ := W
  obtain ⟨v1, v2, v3, v4, v5, v6, v7, v8⟩ := V
  intro n
  induction n with
  | zero =>
    intro _
    simp only [tw_mk]
    constructor
    · intro h; exact ⟨by omega, by omega, fun k hk => absurd hk (by omega)⟩
    · intro h; omega
  | succ n ih =>
    intro hn
    have i1 := ih (by omega)
    have q1 := w8 n (by omega) (by omega)
    have q2 := v8 n (by omega) (by omega)
    simp only [tw_mk]
    constructor
    · intro h
      have a1 : tw_mk s n = tw_mk t n := by omega
      have a2 : s (34 + n) = t (34 + n) := by omega
      obtain ⟨b1, b2, b3⟩ := i1.mp a1
      refine ⟨b1, b2, fun k hk => ?_⟩
      by_cases ek : k = n
      · subst ek; exact a2
      · exact b3 k (by omega)
    · intro h
      have a1 := i1.mpr ⟨h.1, h.2.1, fun k hk => h.2.2 k (by omega)⟩
      have a2 := h.2.2 n (by omega)
      omega
theorem wy_mk {s : Int → Int} (W : tw_W 999 s) (a b : Nat) : (∀ c, 0 ≤ c → c < 6 → wy s a c = wy s b c) ↔ q_mk s a = q_mk s b := by
  have ea := (tw_go_12 W a).2
  have eb := (tw_go_12 W b).2
  have w2 := W.2.1
  have key := tw_mk_eq (tw_W_go W a) (tw_W_go W b) (by omega) (s 2).toNat (by omega)
  unfold q_mk
  rw [key]
  constructor
  · intro h
    refine ⟨h 0 (by omega) (by omega), h 1 (by omega) (by omega), fun k hk => ?_⟩
    have := h (2 + k) (by omega) (by omega)
    unfold wy at this
    rw [if_neg (by omega), if_neg (by omega), if_pos (by omega), if_neg (by omega), if_neg (by omega), if_pos (by omega), show (32 : Int) + (2 + k) = 34 + k by omega] at this
    exact this
  · intro h c c0 c1
    unfold wy
    by_cases e0 : c = 0
    · rw [if_pos e0, if_pos e0]; exact h.1
    · rw [if_neg e0, if_neg e0]
      by_cases e1 : c = 1
      · rw [if_pos e1, if_pos e1]; exact h.2.1
      · rw [if_neg e1, if_neg e1]
        by_cases e2 : c - 2 < s 2
        · rw [if_pos e2, if_pos e2]
          have := h.2.2 (c - 2).toNat (by omega)
          rw [show (34 : Int) + ((c - 2).toNat : Int) = 32 + c by omega] at this
          exact this
        · rw [if_neg e2, if_neg e2]
section MH
variable {d L : Nat} {G : kx_G} {μ : kx_M} {Q : Option kx_V → kx_G → kx_M → Prop} {s s0 : Int → Int} {z v : Int}
theorem l_Mkeeps {h l i X : Int} {n : Nat} {f : Int → Int} (h0 : 0 ≤ h) (h1 : h < s 1) (l0 : 0 ≤ l) (l1 : l ≤ 7) (i0 : 0 ≤ i) (i1 : i + n ≤ 40) (n1 : n ≤ 16) (hf : ∀ k, f k = μ 80 (40 * l + i + k)) (hi : ∀ k, 0 ≤ k → k < 320 → kx_in (μ 80 k)) (hs : μ 81 = s) (W : tw_W 999 s) (Z : tw_Z s) (t : ∀ μ', FrQ μ μ' → Q (some (kI X)) (kg L) (kx_up μ' 77 3 0)) : ∀ (r j : Nat) (a : Int) (μ1 : kx_M), j + r = 10 → 1 ≤ j → q_ke s f h n r j a = X → μ1 81 = s → AS μ1 s → FrI μ μ1 → kx_wx (ke (d + 4)) kt_M_keeps Q 59 [some (kR 77), some (kI h), some (kI l), some (kI i), some (kI n), some (kI 0), some (kI a), some (kI j)] [] (kg L) μ1 := by
  have w1 := W.1
  intro r
  induction r with
  | zero =>
    intro j a μ1 hj j1 q e A F
    simp only [q_ke] at q
    subst q
    refine ks_iload rfl rfl ?_
    refine ks_bipush rfl ?_
    -- at 63: if gt -> 113 else 66 st ['9', None]
    refine ks_icmp_gt rfl ⟨by omega, by omega⟩ ⟨by omega, by omega⟩ (fun c => ?_) (fun c => absurd c (by omega))
    refine ks_aload_n rfl rfl ?_
    refine ks_iload rfl rfl ?_
    refine ks_callv_2 rfl rfl rfl (Nat.le_of_ble_eq_true rfl) ?_
    -- at 116: call M_well st []
    refine r_well ?_
    show kx_wx _ _ _ _ _ (_ :: _) _ _
    refine ks_ireturn rfl ?_
    -- at 119: ret  st [None]
    exact t _ (FrQ_of F hs e)
  | succ r ih =>
    intro j a μ1 hj j1 q e A F
    rw [q_ke] at q
    refine ks_iload rfl rfl ?_
    refine ks_bipush rfl ?_
    -- at 63: if gt -> 113 else 66 st ['9', None]
    refine ks_icmp_gt rfl ⟨by omega, by omega⟩ ⟨by omega, by omega⟩ (fun c => absurd c (by omega)) (fun c => ?_)
    refine ks_aload_n rfl rfl ?_
    refine ks_getr (b := 81) rfl rfl rfl rfl (by decide) ?_
    refine ks_bipush rfl ?_
    refine ks_iload_n rfl rfl ?_
    refine ks_iadd rfl ?_
    refine ks_iload rfl rfl ?_
    refine ks_iastore rfl rfl (by omega) (by omega) ?_
    refine ks_iload rfl rfl ?_
    refine ks_aload_n rfl rfl ?_
    refine ks_bipush rfl ?_
    refine ks_iload_n rfl rfl ?_
    refine ks_imul rfl ?_
    refine ks_iload_n rfl rfl ?_
    refine ks_iadd rfl ?_
    refine ks_iload rfl rfl ?_
    refine ks_callv_3 rfl rfl rfl (Nat.le_of_ble_eq_true rfl) ?_
    -- at 88: call M_goesSo st [None]
    have e3 : kx_up μ1 81 (12 + h) j 81 = up1 s (12 + h) j := by rw [kx_up_up1, kx_row_self, e]
    have F3 : Fr81 μ1 (kx_up μ1 81 (12 + h) j) := fun c hc => kx_up_row hc
    generalize kx_up μ1 81 (12 + h) j = μ3 at *
    have W3 : tw_W 999 (up1 s (12 + h) j) := tw_W_keep W h0 h1 (by omega) (by omega)
    have e80 : μ3 80 = μ 80 := by rw [F3 80 (by omega), F 80 (by omega) (by omega) (by omega)]
    refine r_goesSo (f := f) (s0 := s) (by omega) (by omega) n1 (fun k => by rw [e80]; exact hf k) (fun k a b => by rw [e80]; exact hi k a b) e3 (AS_fr A F3) W3 (tw_Z_up Z (by omega)) Z (fun D μ4 e4 F4 => ?_) (fun D μ4 e4 F4 => ?_)
    · have F5 := Fr81_tr F3 F4
      rw [if_pos D] at q
      show kx_wx _ _ _ _ _ (_ :: _) _ _
      refine ks_if_eq_1 rfl ?_
      refine ks_iconst rfl ?_
      refine ks_iload rfl rfl ?_
      refine ks_iconst rfl ?_
      refine ks_isub rfl ?_
      refine ks_ishl rfl (by omega) (by omega) ?_
      refine ks_goto rfl ?_
      refine ks_ior rfl ?_
      refine ks_istore_6 rfl rfl ?_
      refine ks_iinc_7 rfl rfl ?_
      refine ks_goto rfl ?_
      -- at 59: stop  st []
      exact ih (j + 1) _ μ4 (by omega) (by omega) q e4 (AS_fr A F5) (FrI_81 F F5)
    · have F5 := Fr81_tr F3 F4
      rw [if_neg D] at q
      show kx_wx _ _ _ _ _ (_ :: _) _ _
      refine ks_if_eq_0 rfl ?_
      refine ks_iconst rfl ?_
      refine ks_ior rfl ?_
      refine ks_istore_6 rfl rfl ?_
      refine ks_iinc_7 rfl rfl ?_
      refine ks_goto rfl ?_
      -- at 59: stop  st []
      exact ih (j + 1) _ μ4 (by omega) (by omega) q e4 (AS_fr A F5) (FrI_81 F F5)
theorem r_Mkeeps {h l i n : Int} (hh : kx_in h) (hl : kx_in l) (hii : kx_in i) (hn : kx_in n) (hs : μ 81 = s) (N : TN s) (hb : ∀ i, 0 ≤ i → i < 8 → -1 ≤ μ 79 i ∧ μ 79 i ≤ 40) (hi : ∀ k, 0 ≤ k → k < 320 → kx_in (μ 80 k)) (t1 : ¬ ((0 ≤ h ∧ h < s 1) ∧ (0 ≤ l ∧ l ≤ 7) ∧ (1 ≤ n ∧ n ≤ 16)) → Q (some (kI (-1000001))) (kg L) μ) (t3 : (0 ≤ h ∧ h < s 1) → (0 ≤ l ∧ l ≤ 7) → (1 ≤ n ∧ n ≤ 16) → μ 79 l = -1 → Q (some (kI (-1000011))) (kg L) (kx_up μ 77 3 1)) (t4 : (0 ≤ h ∧ h < s 1) → (0 ≤ l ∧ l ≤ 7) → (1 ≤ n ∧ n ≤ 16) → 0 ≤ μ 79 l → ¬ (0 ≤ i ∧ i + n ≤ μ 79 l) → Q (some (kI (-1000012))) (kg L) (kx_up μ 77 3 2)) (t2 : (0 ≤ h ∧ h < s 1) → (0 ≤ l ∧ l ≤ 7) → (1 ≤ n ∧ n ≤ 16) → 0 ≤ i → i + n ≤ μ 79 l → ∀ μ', FrQ μ μ' → Q (some (kI (q_ke s (fun k => μ 80 (40 * l + i + k)) h n.toNat 9 1 0))) (kg L) (kx_up μ' 77 3 0)) : kx_cx (ke (d + 5)) 173 [kR 77, kI h, kI l, kI i, kI n] (kg L) μ Q := by
  refine ke_start (tb := kt_M_keeps) (ls := [some (kR 77), some (kI h), some (kI l), some (kI i), some (kI n), none, none, none]) rfl rfl ?_
  obtain ⟨n1, n2, n3⟩ := TN_in N
  obtain ⟨_, _⟩ := hn
  refine ks_aload_n rfl rfl ?_
  refine ks_iload_n rfl rfl ?_
  refine ks_callv_2 rfl rfl rfl (Nat.le_of_ble_eq_true rfl) ?_
  -- at 2: call M_isHead st []
  refine r_isHead hh (by rw [hs]; exact ⟨by omega, by omega⟩) (fun c => ?_) (fun c => ?_)
  · rw [hs] at c
    show kx_wx _ _ _ _ _ (_ :: _) _ _
    refine ks_if_eq_1 rfl ?_
    refine ks_iload_n rfl rfl ?_
    refine ks_calls_1 rfl (Nat.le_of_ble_eq_true rfl) ?_
    -- at 9: call M_isRow st []
    refine r_MisRow hl (fun c2 => ?_) (fun c2 => ?_)
    · show kx_wx _ _ _ _ _ (_ :: _) _ _
      refine ks_if_eq_1 rfl ?_
      refine ks_iload rfl rfl ?_
      refine ks_i2l rfl ⟨by omega, by omega⟩ ?_
      refine ks_lconst rfl ?_
      refine ks_ldc2_w rfl ?_
      refine ks_calls_3 rfl (Nat.le_of_ble_eq_true rfl) ?_
      -- at 22: call M_in st []
      refine r_in ⟨by omega, by omega⟩ ⟨by omega, by omega⟩ ⟨by omega, by omega⟩ (fun c3 => ?_) (fun c3 => ?_)
      · show kx_wx _ _ _ _ _ (_ :: _) _ _
        refine ks_if_ne_1 rfl ?_
        refine ks_aload_n rfl rfl ?_
        refine ks_iload_n rfl rfl ?_
        refine ks_iload_n rfl rfl ?_
        refine ks_iload rfl rfl ?_
        refine ks_callv_4 rfl rfl rfl (Nat.le_of_ble_eq_true rfl) ?_
        -- at 36: call M_lacks st []
        have hbl := hb l c2.1 (by omega)
        obtain ⟨W, Z⟩ := TN_W N (by omega)
        refine r_lacks c2.1 c2.2 hii c3.1 c3.2 hbl (fun q => ?_) (fun q1 q2 => ?_) (fun q1 q2 => ?_)
        · show kx_wx _ _ _ _ _ (_ :: _) _ _
          refine ks_istore_5 rfl rfl ?_
          refine ks_iload rfl rfl ?_
          -- at 43: if ge -> 49 else 46 st [None]
          refine ks_if_ge rfl ⟨by omega, by omega⟩ (fun c5 => ?_) (fun c5 => absurd c5 (by omega))
          refine ks_iload rfl rfl ?_
          refine ks_ireturn rfl ?_
          -- at 48: ret  st [None]
          exact t3 c c2 c3 q
        · show kx_wx _ _ _ _ _ (_ :: _) _ _
          refine ks_istore_5 rfl rfl ?_
          refine ks_iload rfl rfl ?_
          -- at 43: if ge -> 49 else 46 st [None]
          refine ks_if_ge rfl ⟨by omega, by omega⟩ (fun c5 => ?_) (fun c5 => absurd c5 (by omega))
          refine ks_iload rfl rfl ?_
          refine ks_ireturn rfl ?_
          -- at 48: ret  st [None]
          exact t4 c c2 c3 q1 q2
        · have ev : n = (n.toNat : Int) := by omega
          generalize n.toNat = m at *
          subst ev
          show kx_wx _ _ _ _ _ (_ :: _) _ _
          refine ks_istore_5 rfl rfl ?_
          refine ks_iload rfl rfl ?_
          -- at 43: if ge -> 49 else 46 st [None]
          refine ks_if_ge rfl ⟨by omega, by omega⟩ (fun c5 => absurd c5 (by omega)) (fun c5 => ?_)
          refine ks_aload_n rfl rfl ?_
          refine ks_callv_1 rfl rfl rfl (Nat.le_of_ble_eq_true rfl) ?_
          -- at 50: call M_putAside st []
          refine r_putAside hs (fun μ1 A1 e1 F1 => ?_)
          show kx_wx _ _ _ _ _ _ _ _
          refine ks_iconst rfl ?_
          refine ks_istore_6 rfl rfl ?_
          refine ks_iconst rfl ?_
          refine ks_istore_7 rfl rfl ?_
          -- at 59: stop  st []
          exact l_Mkeeps (d := d) (f := fun k => μ 80 (40 * l + i + k)) (X := q_ke s (fun k => μ 80 (40 * l + i + k)) h m 9 1 0) c.1 c.2 c2.1 c2.2 q1 (by omega) (by omega) (fun _ => rfl) hi hs W Z (t2 c c2 c3 q1 q2) 9 1 0 μ1 (by omega) (by omega) rfl e1 A1 F1
      · show kx_wx _ _ _ _ _ (_ :: _) _ _
        refine ks_if_ne_0 rfl ?_
        refine ks_ldc rfl ?_
        refine ks_ireturn rfl ?_
        -- at 30: ret  st ['-1000001']
        exact t1 (fun q => c3 q.2.2)
    · show kx_wx _ _ _ _ _ (_ :: _) _ _
      refine ks_if_eq_0 rfl ?_
      refine ks_ldc rfl ?_
      refine ks_ireturn rfl ?_
      -- at 30: ret  st ['-1000001']
      exact t1 (fun q => c2 q.2.1)
  · rw [hs] at c
    show kx_wx _ _ _ _ _ (_ :: _) _ _
    refine ks_if_eq_0 rfl ?_
    refine ks_ldc rfl ?_
    refine ks_ireturn rfl ?_
    -- at 30: ret  st ['-1000001']
    exact t1 (fun q => c q.1)
theorem l_isAlike {a b : Nat} (ha : a ≤ 60) (hb : b ≤ 60) (hi : ∀ k, 0 ≤ k → k < 366 → kx_in (μ 87 k)) (t1 : (∀ c, 0 ≤ c → c < 6 → μ 87 (6 * a + c) = μ 87 (6 * b + c)) → Q (some (kI 1)) (kg L) μ) (t0 : ¬ (∀ c, 0 ≤ c → c < 6 → μ 87 (6 * a + c) = μ 87 (6 * b + c)) → Q (some (kI 0)) (kg L) μ) : ∀ (r j : Nat) (x : Int), j + r = 6 → (x = 1 ∧ (∀ c : Int, 0 ≤ c → c < j → μ 87 (6 * a + c) = μ 87 (6 * b + c)) ∨ x = 0 ∧ ¬ (∀ c, 0 ≤ c → c < 6 → μ 87 (6 * a + c) = μ 87 (6 * b + c))) → kx_wx (ke d) kt_M_isAlike Q 5 [some (kR 77), some (kI a), some (kI b), some (kI x), some (kI j)] [] (kg L) μ := by
  intro r
  induction r with
  | zero =>
    intro j x hj q
    refine ks_iload rfl rfl ?_
    refine ks_bipush rfl ?_
    -- at 9: if ge -> 55 else 12 st ['6', None]
    refine ks_icmp_ge rfl ⟨by omega, by omega⟩ ⟨by omega, by omega⟩ (fun c => absurd c (by omega)) (fun c => ?_)
    refine ks_iload_n rfl rfl ?_
    refine ks_zreturn rfl (by omega) ?_
    -- at 56: ret  st [None]
    rcases q with ⟨q1, q2⟩ | ⟨q1, q2⟩
    · subst q1; exact t1 (fun c c0 c1 => q2 c c0 (by omega))
    · subst q1; exact t0 q2
  | succ r ih =>
    intro j x hj q
    obtain ⟨_, _⟩ := hi (6 * a + j) (by omega) (by omega)
    obtain ⟨_, _⟩ := hi (6 * b + j) (by omega) (by omega)
    refine ks_iload rfl rfl ?_
    refine ks_bipush rfl ?_
    -- at 9: if ge -> 55 else 12 st ['6', None]
    refine ks_icmp_ge rfl ⟨by omega, by omega⟩ ⟨by omega, by omega⟩ (fun c => ?_) (fun c => absurd c (by omega))
    rcases q with ⟨q1, q2⟩ | ⟨q1, q2⟩
    · subst q1
      refine ks_iload_n rfl rfl ?_
      refine ks_if_eq_1 rfl ?_
      refine ks_aload_n rfl rfl ?_
      refine ks_getr (b := 87) rfl rfl rfl rfl (by decide) ?_
      refine ks_bipush rfl ?_
      refine ks_iload_n rfl rfl ?_
      refine ks_imul rfl ?_
      refine ks_iload rfl rfl ?_
      refine ks_iadd rfl ?_
      refine ks_iaload rfl rfl (by omega) (by omega) (by (try simp only [kx_up_at, kx_row_at, up1_at, Nat.reduceEqDiff, Int.reduceEq, Int.reduceNeg, and_true, true_and, and_false, false_and, and_self, reduceIte, Nat.add_left_cancel_iff, Nat.add_eq_left, Nat.left_eq_add, Nat.reduceAdd, Int.add_left_inj, Int.add_right_inj]); rfl) ?_
      refine ks_aload_n rfl rfl ?_
      refine ks_getr (b := 87) rfl rfl rfl rfl (by decide) ?_
      refine ks_bipush rfl ?_
      refine ks_iload_n rfl rfl ?_
      refine ks_imul rfl ?_
      refine ks_iload rfl rfl ?_
      refine ks_iadd rfl ?_
      refine ks_iaload rfl rfl (by omega) (by omega) (by (try simp only [kx_up_at, kx_row_at, up1_at, Nat.reduceEqDiff, Int.reduceEq, Int.reduceNeg, and_true, true_and, and_false, false_and, and_self, reduceIte, Nat.add_left_cancel_iff, Nat.add_eq_left, Nat.left_eq_add, Nat.reduceAdd, Int.add_left_inj, Int.add_right_inj]); rfl) ?_
      -- at 40: if ne -> 47 else 43 st [None, None]
      refine ks_icmp_ne rfl ⟨by omega, by omega⟩ ⟨by omega, by omega⟩ (fun c1 => ?_) (fun c1 => ?_)
      · refine ks_iconst rfl ?_
        refine ks_goto rfl ?_
        refine ks_istore_n_3 rfl rfl ?_
        refine ks_iinc_4 rfl rfl ?_
        refine ks_goto rfl ?_
        -- at 5: stop  st []
        refine ih (j + 1) 1 (by omega) (Or.inl ⟨rfl, fun c c0 c1 => ?_⟩)
        by_cases e : c = j
        · subst e; assumption
        · exact q2 c c0 (by omega)
      · refine ks_iconst rfl ?_
        refine ks_istore_n_3 rfl rfl ?_
        refine ks_iinc_4 rfl rfl ?_
        refine ks_goto rfl ?_
        -- at 5: stop  st []
        exact ih (j + 1) 0 (by omega) (Or.inr ⟨rfl, fun q => c1 (q j (by omega) (by omega))⟩)
    · subst q1
      refine ks_iload_n rfl rfl ?_
      refine ks_if_eq_0 rfl ?_
      refine ks_iconst rfl ?_
      refine ks_istore_n_3 rfl rfl ?_
      refine ks_iinc_4 rfl rfl ?_
      refine ks_goto rfl ?_
      -- at 5: stop  st []
      exact ih (j + 1) 0 (by omega) (Or.inr ⟨rfl, q2⟩)
theorem r_isAlike {a b : Nat} (ha : a ≤ 60) (hb : b ≤ 60) (hi : ∀ k, 0 ≤ k → k < 366 → kx_in (μ 87 k)) (t1 : (∀ c, 0 ≤ c → c < 6 → μ 87 (6 * a + c) = μ 87 (6 * b + c)) → Q (some (kI 1)) (kg L) μ) (t0 : ¬ (∀ c, 0 ≤ c → c < 6 → μ 87 (6 * a + c) = μ 87 (6 * b + c)) → Q (some (kI 0)) (kg L) μ) : kx_cx (ke (d + 1)) 160 [kR 77, kI a, kI b] (kg L) μ Q := by
  refine ke_start (tb := kt_M_isAlike) (ls := [some (kR 77), some (kI a), some (kI b), none, none]) rfl rfl ?_
  refine ks_iconst rfl ?_
  refine ks_istore_n_3 rfl rfl ?_
  refine ks_iconst rfl ?_
  refine ks_istore_4 rfl rfl ?_
  -- at 5: stop  st []
  exact l_isAlike ha hb hi t1 t0 6 0 1 (by omega) (Or.inl ⟨rfl, fun c c0 c1 => absurd c1 (by omega)⟩)
/-- the search among all ways -/
theorem l_Mround2 {w X : Int} (hw : kx_in w) (W : tw_W 999 s) (hm : ∀ i : Nat, i ≤ 60 → ∀ c, 0 ≤ c → c < 6 → μ 87 (6 * i + c) = wy s i c) (hi : ∀ k, 0 ≤ k → k < 366 → kx_in (μ 87 k)) (t : Q (some (kI X)) (kg L) μ) : ∀ (r n : Nat) (x3 : Option kx_V), n + r = 61 → 1 ≤ n → q_ro (q_mk s) w r n = X → kx_wx (ke (d + 1)) kt_M_round Q 132 [some (kR 77), some (kI w), some (kI n), x3] [] (kg L) μ := by
  obtain ⟨_, _⟩ := hw
  intro r
  induction r with
  | zero =>
    intro n x3 hn n1 q
    simp only [q_ro] at q
    subst q
    refine ks_iload_n rfl rfl ?_
    refine ks_bipush rfl ?_
    -- at 135: if gt -> 176 else 138 st ['60', None]
    refine ks_icmp_gt rfl ⟨by omega, by omega⟩ ⟨by omega, by omega⟩ (fun c => ?_) (fun c => absurd c (by omega))
    refine ks_ldc rfl ?_
    refine ks_ireturn rfl ?_
    -- at 178: ret  st ['-1000000']
    exact t
  | succ r ih =>
    intro n x3 hn n1 q
    rw [q_ro] at q
    have inner : ∀ (r2 k : Nat), k + r2 = n → q_ea (q_mk s) n r2 k = q_ea (q_mk s) n n 0 → kx_wx (ke (d + 1)) kt_M_round Q 140 [some (kR 77), some (kI w), some (kI n), some (kI k)] [] (kg L) μ := by
      intro r2
      induction r2 with
      | zero =>
        intro k hk qe
        simp only [q_ea] at qe
        rw [← qe, if_neg (by omega)] at q
        refine ks_iload_n rfl rfl ?_
        refine ks_iload_n rfl rfl ?_
        -- at 142: if ge -> 170 else 145 st [None, None]
        refine ks_icmp_ge rfl ⟨by omega, by omega⟩ ⟨by omega, by omega⟩ (fun c => absurd c (by omega)) (fun c => ?_)
        refine ks_iinc_2 rfl rfl ?_
        refine ks_goto rfl ?_
        -- at 132: stop  st []
        exact ih (n + 1) _ (by omega) (by omega) q
      | succ r2 ih2 =>
        intro k hk qe
        rw [q_ea] at qe
        refine ks_iload_n rfl rfl ?_
        refine ks_iload_n rfl rfl ?_
        -- at 142: if ge -> 170 else 145 st [None, None]
        refine ks_icmp_ge rfl ⟨by omega, by omega⟩ ⟨by omega, by omega⟩ (fun c => ?_) (fun c => absurd c (by omega))
        refine ks_aload_n rfl rfl ?_
        refine ks_iload_n rfl rfl ?_
        refine ks_iload_n rfl rfl ?_
        refine ks_callv_3 rfl rfl rfl (Nat.le_of_ble_eq_true rfl) ?_
        -- at 148: call M_isAlike st []
        refine r_isAlike (a := k) (b := n) (by omega) (by omega) hi (fun D => ?_) (fun D => ?_)
        · have hd : q_mk s k = q_mk s n := (wy_mk W k n).mp (fun c c0 c1 => by rw [← hm k (by omega) c c0 c1, ← hm n (by omega) c c0 c1]; exact D c c0 c1)
          rw [if_pos hd] at qe
          rw [← qe, if_pos (by omega)] at q
          show kx_wx _ _ _ _ _ (_ :: _) _ _
          refine ks_if_eq_1 rfl ?_
          refine ks_iload_n rfl rfl ?_
          -- at 155: if ne -> 162 else 158 st [None]
          refine ks_if_ne rfl ⟨by omega, by omega⟩ (fun c3 => ?_) (fun c3 => ?_)
          · refine ks_iload_n rfl rfl ?_
            refine ks_goto rfl ?_
            refine ks_ireturn rfl ?_
            -- at 163: ret  st [None]
            rw [if_pos c3] at q
            subst q
            exact t
          · refine ks_iload_n rfl rfl ?_
            refine ks_ireturn rfl ?_
            -- at 163: ret  st [None]
            rw [if_neg c3] at q
            subst q
            exact t
        · have hd : ¬ q_mk s k = q_mk s n := fun hd => D (fun c c0 c1 => by rw [hm k (by omega) c c0 c1, hm n (by omega) c c0 c1]; exact (wy_mk W k n).mpr hd c c0 c1)
          rw [if_neg hd] at qe
          show kx_wx _ _ _ _ _ (_ :: _) _ _
          refine ks_if_eq_0 rfl ?_
          refine ks_iinc_3 rfl rfl ?_
          refine ks_goto rfl ?_
          -- at 140: stop  st []
          exact ih2 (k + 1) (by omega) qe
    refine ks_iload_n rfl rfl ?_
    refine ks_bipush rfl ?_
    -- at 135: if gt -> 176 else 138 st ['60', None]
    refine ks_icmp_gt rfl ⟨by omega, by omega⟩ ⟨by omega, by omega⟩ (fun c => absurd c (by omega)) (fun c => ?_)
    refine ks_iconst rfl ?_
    refine ks_istore_n_3 rfl rfl ?_
    -- at 140: stop  st []
    exact inner n 0 (by omega) rfl
theorem l_Mround1 {w X : Int} (hw : kx_in w) (hs : μ 81 = s) (W : tw_W 999 s) (Z : tw_Z s) (hX : q_ro (q_mk s) w 60 1 = X) (t : ∀ μ', FrQ μ μ' → Q (some (kI X)) (kg L) μ') : ∀ (r j : Nat) (μ1 : kx_M) (x3 : Option kx_V), j + r = 61 → (∀ i : Nat, i < j → ∀ c, 0 ≤ c → c < 6 → μ1 87 (6 * i + c) = wy s i c) → μ1 81 = tw_go s j → AS μ1 s → FrI μ μ1 → kx_wx (ke (d + 3)) kt_M_round Q 29 [some (kR 77), some (kI w), some (kI j), x3] [] (kg L) μ1 := by
  have w2 := W.2.1
  intro r
  induction r with
  | zero =>
    intro j μ1 x3 hj hm e A F
    refine ks_iload_n rfl rfl ?_
    refine ks_bipush rfl ?_
    -- at 32: if gt -> 126 else 35 st ['60', None]
    refine ks_icmp_gt rfl ⟨by omega, by omega⟩ ⟨by omega, by omega⟩ (fun c => ?_) (fun c => absurd c (by omega))
    refine ks_aload_n rfl rfl ?_
    refine ks_callv_1 rfl rfl rfl (Nat.le_of_ble_eq_true rfl) ?_
    -- at 127: call M_takeBack st []
    refine r_takeBack A Z (by rw [e]; exact tw_Z_go W Z j) (fun μ3 e3 F3 => ?_)
    show kx_wx _ _ _ _ _ _ _ _
    refine ks_iconst rfl ?_
    refine ks_istore_n_2 rfl rfl ?_
    -- at 132: stop  st []
    have hm3 : ∀ i : Nat, i ≤ 60 → ∀ c, 0 ≤ c → c < 6 → μ3 87 (6 * i + c) = wy s i c := fun i i1 c c0 c1 => by rw [F3 87 (by omega)]; exact hm i (by omega) c c0 c1
    refine l_Mround2 (s := s) hw W hm3 (fun k k0 k1 => ?_) (t _ (FrQ_of (FrI_81 F F3) hs e3)) 60 1 _ (by omega) (by omega) hX
    have := hm3 (k / 6).toNat (by omega) (k % 6) (by omega) (by omega)
    rw [show (6 : Int) * ((k / 6).toNat : Int) + k % 6 = k by omega] at this
    rw [this]
    have Wk := tw_W_go60 W (n := (k / 6).toNat) (by omega)
    have ek := (tw_go_12 W (k / 6).toNat).2
    obtain ⟨v1, v2, v3, v4, v5, v6, v7, v8⟩ := Wk
    unfold wy
    split
    · exact ⟨by omega, by omega⟩
    · split
      · exact ⟨by omega, by omega⟩
      · split
        · have := v8 (k % 6 - 2) (by omega) (by omega)
          rw [show (34 : Int) + (k % 6 - 2) = 32 + k % 6 by omega] at this
          exact ⟨by omega, by omega⟩
        · exact ⟨by omega, by omega⟩
  | succ r ih =>
    intro j μ1 x3 hj hm e A F
    have e2 := (tw_go_12 W j).2
    have inner : ∀ (r2 k : Nat) (μ2 : kx_M), k + r2 = 4 → (∀ i : Nat, i < j → ∀ c, 0 ≤ c → c < 6 → μ2 87 (6 * i + c) = wy s i c) → (∀ c : Int, 0 ≤ c → c < 2 + k → μ2 87 (6 * j + c) = wy s j c) → μ2 81 = tw_go s j → AS μ2 s → FrI μ μ2 → kx_wx (ke (d + 3)) kt_M_round Q 69 [some (kR 77), some (kI w), some (kI j), some (kI k)] [] (kg L) μ2 := by
      intro r2
      induction r2 with
      | zero =>
        intro k μ2 hk hm2 hc e' A' F'
        refine ks_iload_n rfl rfl ?_
        refine ks_iconst rfl ?_
        -- at 71: if ge -> 116 else 74 st ['4', None]
        refine ks_icmp_ge rfl ⟨by omega, by omega⟩ ⟨by omega, by omega⟩ (fun c => absurd c (by omega)) (fun c => ?_)
        refine ks_aload_n rfl rfl ?_
        refine ks_callv_1 rfl rfl rfl (Nat.le_of_ble_eq_true rfl) ?_
        -- at 117: call M_oneStep st []
        refine r_oneStep (B := 2000) (by omega) e' (tw_W_go60 W (by omega)) ?_
        show kx_wx _ _ _ _ _ _ _ _
        refine ks_iinc_2 rfl rfl ?_
        refine ks_goto rfl ?_
        -- at 29: stop  st []
        refine ih (j + 1) _ _ (by omega) (fun i hi c c0 c1 => ?_) (kx_row_self _ _ _) (AS_fr A' (Fr81_row _ _)) (FrI_81 F' (Fr81_row _ _))
        rw [kx_row_ne (by omega)]
        by_cases ei : i = j
        · subst ei; exact hc c c0 (by omega)
        · exact hm2 i (by omega) c c0 c1
      | succ r2 ih2 =>
        intro k μ2 hk hm2 hc e' A' F'
        have ek : wy s j (2 + k) = if (k : Int) < s 2 then tw_go s j (34 + k) else 0 := by
          unfold wy
          rw [if_neg (by omega), if_neg (by omega), show (32 : Int) + (2 + k) = 34 + k by omega, show (2 : Int) + k - 2 = k by omega]
        have fin : ∀ y, y = wy s j (2 + k) → kx_wx (ke (d + 3)) kt_M_round Q 109 [some (kR 77), some (kI w), some (kI j), some (kI k)] [kI y, kI (6 * j + 2 + k), kR 87] (kg L) μ2 := by
          intro y hy
          refine ks_iastore rfl rfl (by omega) (by omega) ?_
          refine ks_iinc_3 rfl rfl ?_
          refine ks_goto rfl ?_
          -- at 69: stop  st []
          refine ih2 (k + 1) _ (by omega) (fun i hi c c0 c1 => ?_) (fun c c0 c1 => ?_) ?_ (fun q a b => ?_) (fun c a b g => ?_)
          · rw [kx_up_oth (by omega)]; exact hm2 i hi c c0 c1
          · by_cases ec : c = 2 + k
            · subst ec
              rw [show (6 : Int) * j + (2 + k) = 6 * j + 2 + k by omega, kx_up_self]; exact hy
            · rw [kx_up_oth (by omega)]; exact hc c c0 (by omega)
          · rw [kx_up_row (by omega)]; exact e'
          · rw [kx_up_row (by omega)]; exact A' q a b
          · rw [kx_up_row g]; exact F' c a b g
        refine ks_iload_n rfl rfl ?_
        refine ks_iconst rfl ?_
        -- at 71: if ge -> 116 else 74 st ['4', None]
        refine ks_icmp_ge rfl ⟨by omega, by omega⟩ ⟨by omega, by omega⟩ (fun c => ?_) (fun c => absurd c (by omega))
        refine ks_aload_n rfl rfl ?_
        refine ks_getr (b := 87) rfl rfl rfl rfl (by decide) ?_
        refine ks_bipush rfl ?_
        refine ks_iload_n rfl rfl ?_
        refine ks_imul rfl ?_
        refine ks_iconst rfl ?_
        refine ks_iadd rfl ?_
        refine ks_iload_n rfl rfl ?_
        refine ks_iadd rfl ?_
        refine ks_iload_n rfl rfl ?_
        refine ks_aload_n rfl rfl ?_
        refine ks_getr (b := 81) rfl rfl rfl rfl (by decide) ?_
        refine ks_iconst rfl ?_
        refine ks_iaload rfl rfl (by omega) (by omega) (by (try simp only [kx_up_at, kx_row_at, up1_at, Nat.reduceEqDiff, Int.reduceEq, Int.reduceNeg, and_true, true_and, and_false, false_and, and_self, reduceIte, Nat.add_left_cancel_iff, Nat.add_eq_left, Nat.left_eq_add, Nat.reduceAdd, Int.add_left_inj, Int.add_right_inj, e', e2]); rfl) ?_
        -- at 93: if ge -> 108 else 96 st [None, None, None, '87']
        refine ks_icmp_ge rfl ⟨by omega, by omega⟩ ⟨by omega, by omega⟩ (fun c2 => ?_) (fun c2 => ?_)
        · refine ks_aload_n rfl rfl ?_
          refine ks_getr (b := 81) rfl rfl rfl rfl (by decide) ?_
          refine ks_bipush rfl ?_
          refine ks_iload_n rfl rfl ?_
          refine ks_iadd rfl ?_
          refine ks_iaload rfl rfl (by omega) (by omega) (by (try simp only [kx_up_at, kx_row_at, up1_at, Nat.reduceEqDiff, Int.reduceEq, Int.reduceNeg, and_true, true_and, and_false, false_and, and_self, reduceIte, Nat.add_left_cancel_iff, Nat.add_eq_left, Nat.left_eq_add, Nat.reduceAdd, Int.add_left_inj, Int.add_right_inj, e', e2]); rfl) ?_
          refine ks_goto rfl ?_
          -- at 109: stop  st [None, None, '87']
          refine fin _ ?_
          rw [ek, if_pos c2]
        · refine ks_iconst rfl ?_
          -- at 109: stop  st ['0', None, '87']
          refine fin _ ?_
          rw [ek, if_neg c2]
    refine ks_iload_n rfl rfl ?_
    refine ks_bipush rfl ?_
    -- at 32: if gt -> 126 else 35 st ['60', None]
    refine ks_icmp_gt rfl ⟨by omega, by omega⟩ ⟨by omega, by omega⟩ (fun c => absurd c (by omega)) (fun c => ?_)
    refine ks_aload_n rfl rfl ?_
    refine ks_getr (b := 87) rfl rfl rfl rfl (by decide) ?_
    refine ks_bipush rfl ?_
    refine ks_iload_n rfl rfl ?_
    refine ks_imul rfl ?_
    refine ks_aload_n rfl rfl ?_
    refine ks_getr (b := 81) rfl rfl rfl rfl (by decide) ?_
    refine ks_iconst rfl ?_
    refine ks_iaload rfl rfl (by omega) (by omega) (by (try simp only [kx_up_at, kx_row_at, up1_at, Nat.reduceEqDiff, Int.reduceEq, Int.reduceNeg, and_true, true_and, and_false, false_and, and_self, reduceIte, Nat.add_left_cancel_iff, Nat.add_eq_left, Nat.left_eq_add, Nat.reduceAdd, Int.add_left_inj, Int.add_right_inj, e]); rfl) ?_
    refine ks_iastore rfl rfl (by omega) (by omega) ?_
    refine ks_aload_n rfl rfl ?_
    refine ks_getr (b := 87) rfl rfl rfl rfl (by decide) ?_
    refine ks_bipush rfl ?_
    refine ks_iload_n rfl rfl ?_
    refine ks_imul rfl ?_
    refine ks_iconst rfl ?_
    refine ks_iadd rfl ?_
    refine ks_aload_n rfl rfl ?_
    refine ks_getr (b := 81) rfl rfl rfl rfl (by decide) ?_
    refine ks_iconst rfl ?_
    refine ks_iaload rfl rfl (by omega) (by omega) (by (try simp only [kx_up_at, kx_row_at, up1_at, Nat.reduceEqDiff, Int.reduceEq, Int.reduceNeg, and_true, true_and, and_false, false_and, and_self, reduceIte, Nat.add_left_cancel_iff, Nat.add_eq_left, Nat.left_eq_add, Nat.reduceAdd, Int.add_left_inj, Int.add_right_inj, e]); rfl) ?_
    refine ks_iastore rfl rfl (by omega) (by omega) ?_
    refine ks_iconst rfl ?_
    refine ks_istore_n_3 rfl rfl ?_
    -- at 69: stop  st []
    refine inner 4 0 _ (by omega) (fun i hi c c0 c1 => ?_) (fun c c0 c1 => ?_) ?_ (fun q a b => ?_) (fun c a b g => ?_)
    · rw [kx_up_oth (by omega), kx_up_oth (by omega)]; exact hm i hi c c0 c1
    · have hc : c = 0 ∨ c = 1 := by omega
      rcases hc with ec | ec
      · subst ec; rw [Int.add_zero, kx_up_oth (by omega), kx_up_self]; rfl
      · subst ec; rw [kx_up_self]; rfl
    · rw [kx_up_row (by omega), kx_up_row (by omega)]; exact e
    · rw [kx_up_row (by omega), kx_up_row (by omega)]; exact A q a b
    · rw [kx_up_row g, kx_up_row g]; exact F c a b g
theorem r_Mround (hv : kx_in v) (hs : μ 81 = s) (N : TN s) (I : IT μ s) (t0 : s 1 = 0 → Q (some (kI (-1000002))) (kg L) μ) (t1 : 1 ≤ s 1 → ¬ (0 ≤ v ∧ v ≤ 1) → Q (some (kI (-1000001))) (kg L) μ) (t2 : 1 ≤ s 1 → 0 ≤ v → v ≤ 1 → ∀ μ', FrQ μ μ' → Q (some (kI (q_ro (q_mk s) v 60 1))) (kg L) μ') : kx_cx (ke (d + 4)) 161 [kR 77, kI v] (kg L) μ Q := by
  refine ke_start (tb := kt_M_round) (ls := [some (kR 77), some (kI v), none, none]) rfl rfl ?_
  obtain ⟨i0, i1, i2, i3⟩ := IT_in I
  have hv0 := hv
  obtain ⟨_, _⟩ := hv
  refine ks_aload_n rfl rfl ?_
  refine ks_geti rfl rfl rfl rfl (by (try simp only [kx_up_at, kx_row_at, up1_at, Nat.reduceEqDiff, Int.reduceEq, Int.reduceNeg, and_true, true_and, and_false, false_and, and_self, reduceIte, Nat.add_left_cancel_iff, Nat.add_eq_left, Nat.left_eq_add, Nat.reduceAdd, Int.add_left_inj, Int.add_right_inj]); rfl) ?_
  -- at 4: if ne -> 10 else 7 st [None]
  refine ks_if_ne rfl ⟨by omega, by omega⟩ (fun c => ?_) (fun c => ?_)
  · refine ks_ldc rfl ?_
    refine ks_ireturn rfl ?_
    -- at 9: ret  st ['-1000002']
    exact t0 (by omega)
  · refine ks_iload_n rfl rfl ?_
    refine ks_i2l rfl ⟨by omega, by omega⟩ ?_
    refine ks_lconst rfl ?_
    refine ks_lconst rfl ?_
    refine ks_calls_3 rfl (Nat.le_of_ble_eq_true rfl) ?_
    -- at 14: call M_in st []
    refine r_in ⟨by omega, by omega⟩ ⟨by omega, by omega⟩ ⟨by omega, by omega⟩ (fun c2 => ?_) (fun c2 => ?_)
    · obtain ⟨W, Z⟩ := TN_W N (by omega)
      show kx_wx _ _ _ _ _ (_ :: _) _ _
      refine ks_if_ne_1 rfl ?_
      refine ks_aload_n rfl rfl ?_
      refine ks_callv_1 rfl rfl rfl (Nat.le_of_ble_eq_true rfl) ?_
      -- at 24: call M_putAside st []
      refine r_putAside hs (fun μ1 A1 e1 F1 => ?_)
      show kx_wx _ _ _ _ _ _ _ _
      refine ks_iconst rfl ?_
      refine ks_istore_n_2 rfl rfl ?_
      -- at 29: stop  st []
      exact l_Mround1 (μ := μ) (X := q_ro (q_mk s) v 60 1) hv0 hs W Z rfl (t2 (by omega) c2.1 c2.2) 61 0 μ1 _ (by omega) (fun i hi => absurd hi (by omega)) e1 A1 F1
    · show kx_wx _ _ _ _ _ (_ :: _) _ _
      refine ks_if_ne_0 rfl ?_
      refine ks_ldc rfl ?_
      refine ks_ireturn rfl ?_
      -- at 22: ret  st ['-1000001']
      exact t1 (by omega) c2
theorem r_bitCount {x : Int} (h0 : 0 ≤ x) (h1 : x < 64) (t : Q (some (kI (q_pc x))) G μ) : kx_cx (ke (d + 1)) 191 [kI x] G μ Q := by
  refine ke_start (tb := kt_Integer_bitCount) (ls := [some (kI x)]) rfl rfl ?_
  obtain ⟨b1, b2, b3, b4, b5⟩ := bc_all h0 h1
  rw [← b5] at t
  refine ks_iload_n rfl rfl ?_
  refine ks_iload_n rfl rfl ?_
  refine ks_iconst rfl ?_
  refine ks_iushr rfl (by omega) (by omega) (by omega) (by omega) ?_
  refine ks_ldc_w rfl ?_
  refine ks_iand rfl ?_
  refine ks_isub rfl ?_
  refine ks_istore_n_0 rfl ?_
  -- at 10: stop  st []
  show kx_wx _ _ _ _ [some (kI (bc1 x))] _ _ _
  generalize bc1 x = x1 at *
  refine ks_iload_n rfl rfl ?_
  refine ks_ldc_w rfl ?_
  refine ks_iand rfl ?_
  refine ks_iload_n rfl rfl ?_
  refine ks_iconst rfl ?_
  refine ks_iushr rfl (by omega) (by omega) (by omega) (by omega) ?_
  refine ks_ldc_w rfl ?_
  refine ks_iand rfl ?_
  refine ks_iadd rfl ?_
  refine ks_istore_n_0 rfl ?_
  -- at 24: stop  st []
  show kx_wx _ _ _ _ [some (kI (bc2 x1))] _ _ _
  generalize bc2 x1 = x2 at *
  refine ks_iload_n rfl rfl ?_
  refine ks_iload_n rfl rfl ?_
  refine ks_iconst rfl ?_
  refine ks_iushr rfl (by omega) (by omega) (by omega) (by omega) ?_
  refine ks_iadd rfl ?_
  refine ks_ldc_w rfl ?_
  refine ks_iand rfl ?_
  refine ks_istore_n_0 rfl ?_
  -- at 34: stop  st []
  show kx_wx _ _ _ _ [some (kI (bc3 x2))] _ _ _
  generalize bc3 x2 = x3 at *
  refine ks_iload_n rfl rfl ?_
  refine ks_iload_n rfl rfl ?_
  refine ks_bipush rfl ?_
  refine ks_iushr rfl (by omega) (by omega) (by omega) (by omega) ?_
  refine ks_iadd rfl ?_
  refine ks_istore_n_0 rfl ?_
  -- at 41: stop  st []
  show kx_wx _ _ _ _ [some (kI (bc4 x3))] _ _ _
  generalize bc4 x3 = x4 at *
  refine ks_iload_n rfl rfl ?_
  refine ks_iload_n rfl rfl ?_
  refine ks_bipush rfl ?_
  refine ks_iushr rfl (by omega) (by omega) (by omega) (by omega) ?_
  refine ks_iadd rfl ?_
  refine ks_istore_n_0 rfl ?_
  refine ks_iload_n rfl rfl ?_
  refine ks_bipush rfl ?_
  refine ks_iand rfl ?_
  refine ks_ireturn rfl ?_
  -- at 52: ret  st [None]
  exact t
theorem l_low {p a k k' : Int} (hk : k + -1 = k') (hp : kx_in p) (a0 : 0 ≤ a) (a1 : a ≤ 6) (k0 : 2 ≤ k) (k1 : k ≤ 6) (t1 : a % k = 0 → 6 % k = 0 → Q (some (kI (p.tdiv k))) G μ) (t0 : ¬ (a % k = 0 ∧ 6 % k = 0) → kx_wx (ke d) kt_X_inLowestTerms Q 2 [some (kI p), some (kI a), some (kI 6), some (kI k')] [] G μ) : kx_wx (ke d) kt_X_inLowestTerms Q 2 [some (kI p), some (kI a), some (kI 6), some (kI k)] [] G μ := by
  subst hk
  have e1 : a.tmod k = a % k := Int.tmod_eq_emod_of_nonneg a0
  have e2 : (6 : Int).tmod k = 6 % k := Int.tmod_eq_emod_of_nonneg (by omega)
  have m1 : 0 ≤ a % k ∧ a % k < k := ⟨Int.emod_nonneg _ (by omega), Int.emod_lt_of_pos _ (by omega)⟩
  have m2 : 0 ≤ 6 % k ∧ 6 % k < k := ⟨Int.emod_nonneg _ (by omega), Int.emod_lt_of_pos _ (by omega)⟩
  obtain ⟨_, _⟩ := hp
  refine ks_iload_n rfl rfl ?_
  refine ks_iconst rfl ?_
  -- at 4: if le -> 29 else 7 st ['1', None]
  refine ks_icmp_le rfl ⟨by omega, by omega⟩ ⟨by omega, by omega⟩ (fun c => ?_) (fun c => absurd c (by omega))
  refine ks_iload_n rfl rfl ?_
  refine ks_iload_n rfl rfl ?_
  refine ks_irem rfl ⟨by omega, by omega⟩ ⟨by omega, by omega⟩ (by omega) ?_
  -- at 10: if ne -> 23 else 13 st [None]
  rw [e1]
  refine ks_if_ne rfl ⟨by omega, by omega⟩ (fun c1 => ?_) (fun c1 => ?_)
  · refine ks_iload_n rfl rfl ?_
    refine ks_iload_n rfl rfl ?_
    refine ks_irem rfl ⟨by omega, by omega⟩ ⟨by omega, by omega⟩ (by omega) ?_
    -- at 16: if ne -> 23 else 19 st [None]
    rw [e2]
    refine ks_if_ne rfl ⟨by omega, by omega⟩ (fun c2 => ?_) (fun c2 => ?_)
    · refine ks_iload_n rfl rfl ?_
      refine ks_iload_n rfl rfl ?_
      refine ks_idiv rfl ⟨by omega, by omega⟩ ⟨by omega, by omega⟩ (by omega) ?_
      refine ks_ireturn rfl ?_
      -- at 22: ret  st [None]
      exact t1 c1 c2
    · refine ks_iinc_3 rfl rfl ?_
      refine ks_goto rfl ?_
      -- at 2: stop  st []
      exact t0 (fun q => c2 q.2)
  · refine ks_iinc_3 rfl rfl ?_
    refine ks_goto rfl ?_
    -- at 2: stop  st []
    exact t0 (fun q => c1 q.1)
theorem r_low {p a : Int} (hp : kx_in p) (a0 : 0 ≤ a) (a1 : a ≤ 6) (t : Q (some (kI (p.tdiv (q_g a)))) G μ) : kx_cx (ke (d + 1)) 114 [kI p, kI a, kI 6] G μ Q := by
  refine ke_start (tb := kt_X_inLowestTerms) (ls := [some (kI p), some (kI a), some (kI 6), none]) rfl rfl ?_
  refine ks_iload_n rfl rfl ?_
  refine ks_istore_n_3 rfl rfl ?_
  -- at 2: stop  st []
  refine l_low (k := 6) (k' := 5) rfl hp a0 a1 (by omega) (by omega) (fun q1 q2 => ?_) (fun q1 => ?_)
  · have e : q_g a = 6 := by unfold q_g; rw [if_pos q1]; split <;> rfl
    rw [e] at t
    exact t
  refine l_low (k := 5) (k' := 4) rfl hp a0 a1 (by omega) (by omega) (fun q1 q2 => absurd q2 (by decide)) (fun q2 => ?_)
  refine l_low (k := 4) (k' := 3) rfl hp a0 a1 (by omega) (by omega) (fun q1 q2 => absurd q2 (by decide)) (fun q3 => ?_)
  refine l_low (k := 3) (k' := 2) rfl hp a0 a1 (by omega) (by omega) (fun q4 q5 => ?_) (fun q4 => ?_)
  · have e : q_g a = 3 := by unfold q_g; rw [if_neg (by omega), if_neg (by omega), if_pos (by omega)]
    rw [e] at t
    exact t
  refine l_low (k := 2) (k' := 1) rfl hp a0 a1 (by omega) (by omega) (fun q5 q6 => ?_) (fun q5 => ?_)
  · have e : q_g a = 2 := by unfold q_g; rw [if_neg (by omega), if_neg (by omega), if_neg (by omega), if_pos (by omega)]
    rw [e] at t
    exact t
  · have e : q_g a = 1 := by unfold q_g; rw [if_neg (by omega), if_neg (by omega), if_neg (by omega), if_neg (by omega)]
    rw [e, Int.tdiv_one] at t
    refine ks_iload_n rfl rfl ?_
    refine ks_iconst rfl ?_
    -- at 4: if le -> 29 else 7 st ['1', None]
    refine ks_icmp_le rfl ⟨by omega, by omega⟩ ⟨by omega, by omega⟩ (fun c => absurd c (by omega)) (fun c => ?_)
    refine ks_iload_n rfl rfl ?_
    refine ks_ireturn rfl ?_
    -- at 30: ret  st [None]
    exact t
theorem l_Mlot {h n w : Int} (hw : kx_in w) (t : Q (some (kI (if w = 0 then n.tdiv (q_g n) else (6 : Int).tdiv (q_g n)))) (kg L) μ) (n0 : 0 ≤ n) (n1 : n ≤ 6) : ∀ (N : Nat) (x y : Int), 0 ≤ x → x < 64 → x < N → y + q_pc x = n → 0 ≤ y → kx_wx (ke d) kt_M_lot Q 39 [some (kR 77), some (kI h), some (kI v), some (kI w), some (kI y), some (kI x)] [] (kg L) μ := by
  obtain ⟨_, _⟩ := hw
  intro N
  induction N with
  | zero => intro x y x0 x1 x2; omega
  | succ N ih =>
    intro x y x0 x1 x2 hy y0
    refine ks_iload rfl rfl ?_
    -- at 41: if eq -> 59 else 44 st [None]
    refine ks_if_eq rfl ⟨by omega, by omega⟩ (fun c => ?_) (fun c => ?_)
    · subst c
      have e : y = n := by rw [← hy]; show y = y + 0; omega
      subst e
      have fin : ∀ g, q_g y = g → 1 ≤ g → g ≤ 6 → kx_wx (ke d) kt_M_lot Q 105 [some (kR 77), some (kI h), some (kI v), some (kI w), some (kI y), some (kI 0)] [kI g] (kg L) μ := by
        intro g hg g0 g1
        rw [hg] at t
        refine ks_istore_5 rfl rfl ?_
        refine ks_iload_n rfl rfl ?_
        -- at 108: if ne -> 119 else 111 st [None]
        refine ks_if_ne rfl ⟨by omega, by omega⟩ (fun c => ?_) (fun c => ?_)
        · rw [if_pos c] at t
          refine ks_iload rfl rfl ?_
          refine ks_iload rfl rfl ?_
          refine ks_idiv rfl ⟨by omega, by omega⟩ ⟨by omega, by omega⟩ (by omega) ?_
          refine ks_goto rfl ?_
          refine ks_ireturn rfl ?_
          -- at 124: ret  st [None]
          exact t
        · rw [if_neg c] at t
          refine ks_bipush rfl ?_
          refine ks_iload rfl rfl ?_
          refine ks_idiv rfl ⟨by omega, by omega⟩ ⟨by omega, by omega⟩ (by omega) ?_
          refine ks_ireturn rfl ?_
          -- at 124: ret  st [None]
          exact t
      have e6 : y.tmod 6 = y % 6 := Int.tmod_eq_emod_of_nonneg n0
      have e3 : y.tmod 3 = y % 3 := Int.tmod_eq_emod_of_nonneg n0
      have e2 : y.tmod 2 = y % 2 := Int.tmod_eq_emod_of_nonneg n0
      refine ks_iload rfl rfl ?_
      -- at 61: if ne -> 69 else 64 st [None]
      refine ks_if_ne rfl ⟨by omega, by omega⟩ (fun c1 => ?_) (fun c1 => ?_)
      · refine ks_bipush rfl ?_
        refine ks_goto rfl ?_
        -- at 105: stop  st ['6']
        exact fin 6 (by unfold q_g; rw [if_pos c1]) (by omega) (by omega)
      · refine ks_iload rfl rfl ?_
        refine ks_bipush rfl ?_
        refine ks_irem rfl ⟨by omega, by omega⟩ ⟨by omega, by omega⟩ (by omega) ?_
        -- at 74: if ne -> 82 else 77 st [None]
        rw [e6]
        refine ks_if_ne rfl ⟨by omega, by omega⟩ (fun c2 => ?_) (fun c2 => ?_)
        · refine ks_bipush rfl ?_
          refine ks_goto rfl ?_
          -- at 105: stop  st ['6']
          exact fin 6 (by unfold q_g; rw [if_neg c1, if_pos c2]) (by omega) (by omega)
        · refine ks_iload rfl rfl ?_
          refine ks_iconst rfl ?_
          refine ks_irem rfl ⟨by omega, by omega⟩ ⟨by omega, by omega⟩ (by omega) ?_
          -- at 86: if ne -> 93 else 89 st [None]
          rw [e3]
          refine ks_if_ne rfl ⟨by omega, by omega⟩ (fun c3 => ?_) (fun c3 => ?_)
          · refine ks_iconst rfl ?_
            refine ks_goto rfl ?_
            -- at 105: stop  st ['3']
            exact fin 3 (by unfold q_g; rw [if_neg c1, if_neg c2, if_pos c3]) (by omega) (by omega)
          · refine ks_iload rfl rfl ?_
            refine ks_iconst rfl ?_
            refine ks_irem rfl ⟨by omega, by omega⟩ ⟨by omega, by omega⟩ (by omega) ?_
            -- at 97: if ne -> 104 else 100 st [None]
            rw [e2]
            refine ks_if_ne rfl ⟨by omega, by omega⟩ (fun c4 => ?_) (fun c4 => ?_)
            · refine ks_iconst rfl ?_
              refine ks_goto rfl ?_
              -- at 105: stop  st ['2']
              exact fin 2 (by unfold q_g; rw [if_neg c1, if_neg c2, if_neg c3, if_pos c4]) (by omega) (by omega)
            · refine ks_iconst rfl ?_
              -- at 105: stop  st ['1']
              exact fin 1 (by unfold q_g; rw [if_neg c1, if_neg c2, if_neg c3, if_neg c4]) (by omega) (by omega)
    · obtain ⟨k1, k2, k3⟩ := q_pc_and (x := x) (by omega) x1
      refine ks_iinc_4 rfl rfl ?_
      refine ks_iload rfl rfl ?_
      refine ks_iload rfl rfl ?_
      refine ks_iconst rfl ?_
      refine ks_isub rfl ?_
      refine ks_iand rfl ?_
      refine ks_istore_5 rfl rfl ?_
      refine ks_goto rfl ?_
      -- at 39: stop  st []
      exact ih _ _ k1 (by omega) (by omega) (by omega) (by omega)
theorem r_Mlot {h w : Int} (hv : kx_in v) (hh : kx_in h) (hw : kx_in w) (hs : μ 81 = s) (N : TN s) (t1 : ¬ ((0 ≤ h ∧ h < s 1) ∧ (0 ≤ v ∧ v ≤ 60) ∧ (0 ≤ w ∧ w ≤ 1)) → Q (some (kI (-1000001))) (kg L) μ) (t2 : 0 ≤ h → h < s 1 → 0 ≤ v → v ≤ 60 → 0 ≤ w → w ≤ 1 → ∀ μ', FrQ μ μ' → Q (some (kI (if w = 0 then (q_pc (q_wi s h v.toNat 6 0 0)).tdiv (q_g (q_pc (q_wi s h v.toNat 6 0 0))) else (6 : Int).tdiv (q_g (q_pc (q_wi s h v.toNat 6 0 0)))))) (kg L) μ') : kx_cx (ke (d + 6)) 169 [kR 77, kI h, kI v, kI w] (kg L) μ Q := by
  refine ke_start (tb := kt_M_lot) (ls := [some (kR 77), some (kI h), some (kI v), some (kI w), none, none]) rfl rfl ?_
  obtain ⟨n1, n2, n3⟩ := TN_in N
  have hw0 := hw
  obtain ⟨_, _⟩ := hw
  refine ks_aload_n rfl rfl ?_
  refine ks_iload_n rfl rfl ?_
  refine ks_callv_2 rfl rfl rfl (Nat.le_of_ble_eq_true rfl) ?_
  -- at 2: call M_isHead st []
  refine r_isHead hh (by rw [hs]; exact ⟨by omega, by omega⟩) (fun c => ?_) (fun c => ?_)
  · rw [hs] at c
    show kx_wx _ _ _ _ _ (_ :: _) _ _
    refine ks_if_eq_1 rfl ?_
    refine ks_iload_n rfl rfl ?_
    refine ks_calls_1 rfl (Nat.le_of_ble_eq_true rfl) ?_
    -- at 9: call M_isFar st []
    refine r_isFar hv (fun c2 => ?_) (fun c2 => ?_)
    · show kx_wx _ _ _ _ _ (_ :: _) _ _
      refine ks_if_eq_1 rfl ?_
      refine ks_iload_n rfl rfl ?_
      refine ks_i2l rfl ⟨by omega, by omega⟩ ?_
      refine ks_lconst rfl ?_
      refine ks_lconst rfl ?_
      refine ks_calls_3 rfl (Nat.le_of_ble_eq_true rfl) ?_
      -- at 19: call M_in st []
      refine r_in ⟨by omega, by omega⟩ ⟨by omega, by omega⟩ ⟨by omega, by omega⟩ (fun c3 => ?_) (fun c3 => ?_)
      · obtain ⟨W, Z⟩ := TN_W N (by omega)
        have ev : v = (v.toNat : Int) := by omega
        generalize v.toNat = n at *
        subst ev
        show kx_wx _ _ _ _ _ (_ :: _) _ _
        refine ks_if_ne_1 rfl ?_
        refine ks_iconst rfl ?_
        refine ks_istore_4 rfl rfl ?_
        refine ks_aload_n rfl rfl ?_
        refine ks_iload_n rfl rfl ?_
        refine ks_iload_n rfl rfl ?_
        refine ks_callv_3 rfl rfl rfl (Nat.le_of_ble_eq_true rfl) ?_
        -- at 34: call M_windsBy st []
        refine r_windsBy (by omega) hh hs W Z (fun μ1 F1 => ?_)
        show kx_wx _ _ _ _ _ (_ :: _) _ _
        refine ks_istore_5 rfl rfl ?_
        -- at 39: stop  st []
        have t3 := t2 c.1 c.2 (by omega) (by omega) c3.1 c3.2 μ1 F1
        have hx := q_wi_in (s := s) (h := h) (n := n) 6 0 0 (by omega) (by omega) (by omega) (by omega)
        generalize q_wi s h n 6 0 0 = x at *
        have hp := q_pc_in hx.1 hx.2
        exact l_Mlot hw0 t3 hp.1 hp.2 64 x 0 hx.1 hx.2 (by omega) (by omega) (by omega)
      · show kx_wx _ _ _ _ _ (_ :: _) _ _
        refine ks_if_ne_0 rfl ?_
        refine ks_ldc rfl ?_
        refine ks_ireturn rfl ?_
        -- at 27: ret  st ['-1000001']
        exact t1 (fun q => c3 q.2.2)
    · show kx_wx _ _ _ _ _ (_ :: _) _ _
      refine ks_if_eq_0 rfl ?_
      refine ks_ldc rfl ?_
      refine ks_ireturn rfl ?_
      -- at 27: ret  st ['-1000001']
      exact t1 (fun q => c2 q.2.1)
  · rw [hs] at c
    show kx_wx _ _ _ _ _ (_ :: _) _ _
    refine ks_if_eq_0 rfl ?_
    refine ks_ldc rfl ?_
    refine ks_ireturn rfl ?_
    -- at 27: ret  st ['-1000001']
    exact t1 (fun q => c q.1)
end MH
