/-! foretold, class side, rows seen, and the round -/
theorem lor_add {a b : Int} {k : Nat} (a0 : 0 ≤ a) (b0 : 0 ≤ b) (b1 : b < 2 ^ k) (h : a * 2 ^ k + b < 4611686018427387904) : kx_lor (a * 2 ^ k) b = a * 2 ^ k + b := by
  obtain ⟨m, rfl⟩ := Int.eq_ofNat_of_zero_le a0
  obtain ⟨n, rfl⟩ := Int.eq_ofNat_of_zero_le b0
  have hn : n < 2 ^ k := by exact_mod_cast b1
  have e0 : ((m : Int) * 2 ^ k) = ((m * 2 ^ k : Nat) : Int) := by push_cast; rfl
  rw [e0] at h ⊢
  have ho : m * 2 ^ k ||| n = m * 2 ^ k + n := by
    rw [← Nat.shiftLeft_eq, Nat.shiftLeft_add_eq_or_of_lt hn]
  generalize m * 2 ^ k = X at *
  have hX : X + n < 4611686018427387904 := by omega
  show (BitVec.ofInt 64 (X : Int) ||| BitVec.ofInt 64 (n : Int)).toInt = _
  have e1 : (BitVec.ofInt 64 (X : Int)).toNat = X := by rw [BitVec.toNat_ofInt]; omega
  have e2 : (BitVec.ofInt 64 (n : Int)).toNat = n := by rw [BitVec.toNat_ofInt]; omega
  have e3 : (BitVec.ofInt 64 (X : Int) ||| BitVec.ofInt 64 (n : Int)).toNat = X + n := by rw [BitVec.toNat_or, e1, e2, ho]
  rw [BitVec.toInt_eq_toNat_of_lt (by rw [e3]; omega), e3]
  omega
def tw_mk (s : Int → Int) : Nat → Int
  | 0 => s 5 * 8 + s 4
  | n + 1 => tw_mk s n * 64 + s (34 + n)
theorem tw_mk_in {B : Int} {s : Int → Int} (W : tw_W B s) : ∀ n : Nat, n ≤ (s 2).toNat → 0 ≤ tw_mk s n ∧ tw_mk s n < 128 * 64 ^ n ∧ (64 : Int) ^ n ≤ 16777216 := by
  obtain ⟨w1, w2, w3, w4, w5, w6, w7, w8⟩ := W
  intro n
  induction n with
  | zero => intro _; simp only [tw_mk]; refine ⟨by omega, by omega, by decide⟩
  | succ n ih =>
    intro hn
    obtain ⟨i1, i2, i3⟩ := ih (by omega)
    have q := w8 n (by omega) (by omega)
    simp only [tw_mk]
    have hp : (64 : Int) ^ (n + 1) ≤ 16777216 := by
      have hc : n = 0 ∨ n = 1 ∨ n = 2 ∨ n = 3 := by omega
      rcases hc with e | e | e | e <;> subst e <;> decide
    rw [Int.pow_succ] at hp ⊢
    generalize (64 : Int) ^ n = X at *
    refine ⟨by omega, by omega, hp⟩
/-- the mark of the town behind n steps -/
def q_mk (s : Int → Int) (n : Nat) : Int := tw_mk (tw_go s n) (s 2).toNat
theorem q_mk_in {s : Int → Int} (W : tw_W 999 s) (n : Nat) : 0 ≤ q_mk s n ∧ q_mk s n < 2147483648 := by
  have e := (tw_go_12 W n).2
  have := tw_mk_in (tw_W_go W n) (s 2).toNat (by rw [e]; exact Nat.le_refl _)
  unfold q_mk
  omega
def q_ea (g : Nat → Int) (n : Nat) : Nat → Nat → Nat
  | 0, _ => n
  | r + 1, k => if g k = g n then k else q_ea g n r (k + 1)
def q_ro (g : Nat → Int) (w : Int) : Nat → Nat → Int
  | 0, _ => -1000000
  | r + 1, n => if q_ea g n n 0 < n then (if w = 0 then (n : Int) else (q_ea g n n 0 : Nat)) else q_ro g w r (n + 1)
theorem q_ea_le {g : Nat → Int} {n : Nat} : ∀ r k, k + r = n → q_ea g n r k ≤ n := by
  intro r
  induction r with
  | zero => intro k _; exact Nat.le_refl _
  | succ r ih => intro k hk; simp only [q_ea]; split; omega; exact ih (k + 1) (by omega)
def F54 (μ μ' : kx_M) : Prop := ∀ c, c < 45 ∨ 54 < c → μ' c = μ c
section FQ
variable {d L : Nat} {G : kx_G} {μ : kx_M} {Q : Option kx_V → kx_G → kx_M → Prop} {s : Int → Int} {z : Int}
theorem l_giftsThatGoAs {w : Nat} {i v : Int} {n : Nat} {f : Int → Int} (hv : kx_in v) (hw : w + 1 < 45) (hR : kg_R L w) (i0 : 0 ≤ i) (i1 : i + n ≤ 40) (n1 : n ≤ 16) (hf : ∀ k, f k = μ (w + 1) (i + k)) (hi : ∀ k, 0 ≤ k → k < 40 → kx_in (μ (w + 1) k)) (W : tw_W 999 s) (t : ∀ μ', Fr 45 μ μ' → Q (some (kI (if v = 0 then (q_se s f n (s 1).toNat 0 (-1000000)).1 else (q_se s f n (s 1).toNat 0 (-1000000)).2))) (kg L) μ') : ∀ (r : Nat) (a b : Int) (μ1 : kx_M), r ≤ (s 1).toNat → q_se s f n r a b = q_se s f n (s 1).toNat 0 (-1000000) → TR μ1 30 s → Fr 45 μ μ1 → kx_wx (ke (d + 4)) kt_Fore_giftsThatGoAs Q 15 [some (kR 44), some (kR 30), some (kR w), some (kI i), some (kI n), some (kI v), some (kI a), some (kI b), some (kI (r - 1))] [] (kg L) μ1 := by
  obtain ⟨_, _⟩ := hv
  have w1 := W.1
  have hR0 := hR
  intro r
  induction r with
  | zero =>
    intro a b μ1 hr q T F
    rw [← q] at t
    simp only [q_se] at t
    refine ks_iload rfl rfl ?_
    -- at 17: if lt -> 61 else 20 st [None]
    refine ks_if_lt rfl ⟨by omega, by omega⟩ (fun c => ?_) (fun c => absurd c (by omega))
    refine ks_iload rfl rfl ?_
    -- at 63: if ne -> 71 else 66 st [None]
    refine ks_if_ne rfl ⟨by omega, by omega⟩ (fun c2 => ?_) (fun c2 => ?_)
    · refine ks_iload rfl rfl ?_
      refine ks_goto rfl ?_
      refine ks_ireturn rfl ?_
      -- at 73: ret  st [None]
      rw [if_pos c2] at t
      exact t _ F
    · refine ks_iload rfl rfl ?_
      refine ks_ireturn rfl ?_
      -- at 73: ret  st [None]
      rw [if_neg c2] at t
      exact t _ F
  | succ r ih =>
    intro a b μ1 hr q T F
    have e : ((r + 1 : Nat) : Int) - 1 = r := by omega
    rw [e]
    refine ks_iload rfl rfl ?_
    -- at 17: if lt -> 61 else 20 st [None]
    refine ks_if_lt rfl ⟨by omega, by omega⟩ (fun c => absurd c (by omega)) (fun c => ?_)
    refine ks_aload_n rfl rfl ?_
    refine ks_getr (b := 45) rfl rfl rfl rfl (by decide) ?_
    refine ks_aload_n rfl rfl ?_
    refine ks_callv_2 rfl rfl rfl (Nat.le_of_ble_eq_true rfl) ?_
    -- at 25: call Town_becomeLike st []
    refine r_try T W (fun μ2 T2 F2 => ?_)
    show kx_wx _ _ _ _ _ _ _ _
    refine ks_aload_n rfl rfl ?_
    refine ks_getr (b := 45) rfl rfl rfl rfl (by decide) ?_
    refine ks_iload rfl rfl ?_
    refine ks_callv_2 rfl rfl rfl (Nat.le_of_ble_eq_true rfl) ?_
    -- at 34: call Town_handTo st []
    refine r_handTo (kg_T45 L) ?_
    have T3 : TR (kx_up (kx_up μ2 45 11 r) 45 12 0) 45 (tw_gv s r) := by
      have := TRx_12 (v := 0) (TRx_11 (v := r) T2) (by rw [up1_ne (by omega)]; omega)
      unfold TR tw_gv
      rw [up1_ne (by omega), up1_ne (by omega)]
      exact this
    have F3 : Fr 45 μ (kx_up (kx_up μ2 45 11 r) 45 12 0) := Fr_up (Fr_up (Fr_tr F F2) (by omega)) (by omega)
    generalize kx_up (kx_up μ2 45 11 r) 45 12 0 = μ3 at *
    show kx_wx _ _ _ _ _ _ _ _
    refine ks_aload_n rfl rfl ?_
    refine ks_aload_n rfl rfl ?_
    refine ks_iload_n rfl rfl ?_
    refine ks_iload rfl rfl ?_
    refine ks_callv_4 rfl rfl rfl (Nat.le_of_ble_eq_true rfl) ?_
    -- at 42: call Fore_goesAs st []
    have W3 : tw_W 999 (tw_gv s r) := tw_W_give W (by omega) (by omega)
    simp only [q_se] at q
    refine r_goesAs (f := f) hw hR0 i0 i1 n1 (fun k => by rw [F3 (w + 1) (by omega)]; exact hf k) (fun k a b => by rw [F3 (w + 1) (by omega)]; exact hi k a b) W3 T3 (fun D μ4 F4 => ?_) (fun D μ4 F4 => ?_)
    · have F5 := Fr_tr F3 F4
      show kx_wx _ _ _ _ _ (_ :: _) _ _
      refine ks_if_eq_1 rfl ?_
      refine ks_iinc_6 rfl rfl ?_
      refine ks_iload rfl rfl ?_
      refine ks_istore_7 rfl rfl ?_
      refine ks_iinc_8 rfl rfl ?_
      refine ks_goto rfl ?_
      -- at 15: stop  st []
      rw [if_pos D] at q
      exact ih _ _ μ4 (by omega) q (TR_fr T (fun c c0 c1 => by rw [F5 c (by omega), F c (by omega)])) F5
    · have F5 := Fr_tr F3 F4
      show kx_wx _ _ _ _ _ (_ :: _) _ _
      refine ks_if_eq_0 rfl ?_
      refine ks_iinc_8 rfl rfl ?_
      refine ks_goto rfl ?_
      -- at 15: stop  st []
      rw [if_neg D] at q
      exact ih _ _ μ4 (by omega) q (TR_fr T (fun c c0 c1 => by rw [F5 c (by omega), F c (by omega)])) F5
theorem r_giftsThatGoAs {w : Nat} {i v : Int} {n : Nat} {f : Int → Int} (hv : kx_in v) (hw : w + 1 < 45) (hR : kg_R L w) (i0 : 0 ≤ i) (i1 : i + n ≤ 40) (n1 : n ≤ 16) (hf : ∀ k, f k = μ (w + 1) (i + k)) (hi : ∀ k, 0 ≤ k → k < 40 → kx_in (μ (w + 1) k)) (W : tw_W 999 s) (T : TR μ 30 s) (t : ∀ μ', Fr 45 μ μ' → Q (some (kI (if v = 0 then (q_se s f n (s 1).toNat 0 (-1000000)).1 else (q_se s f n (s 1).toNat 0 (-1000000)).2))) (kg L) μ') : kx_cx (ke (d + 5)) 20 [kR 44, kR 30, kR w, kI i, kI n, kI v] (kg L) μ Q := by
  refine ke_start (tb := kt_Fore_giftsThatGoAs) (ls := [some (kR 44), some (kR 30), some (kR w), some (kI i), some (kI n), some (kI v), none, none, none]) rfl rfl ?_
  have w1 := W.1
  have e8 := T.1
  refine ks_iconst rfl ?_
  refine ks_istore_6 rfl rfl ?_
  refine ks_ldc rfl ?_
  refine ks_istore_7 rfl rfl ?_
  refine ks_aload_n rfl rfl ?_
  refine ks_geti rfl rfl rfl rfl (by (try simp only [kx_up_at, kx_row_at, up1_at, Nat.reduceEqDiff, Int.reduceEq, Int.reduceNeg, and_true, true_and, and_false, false_and, and_self, reduceIte, Nat.add_left_cancel_iff, Nat.add_eq_left, Nat.left_eq_add, Nat.reduceAdd, Int.add_left_inj, Int.add_right_inj, e8]); rfl) ?_
  refine ks_iconst rfl ?_
  refine ks_isub rfl ?_
  refine ks_istore_8 rfl rfl ?_
  -- at 15: stop  st []
  have := l_giftsThatGoAs (d := d) hv hw hR i0 i1 n1 hf hi W t (s 1).toNat 0 (-1000000) μ (Nat.le_refl _) rfl T (Fr_rf _ _)
  rw [show ((s 1).toNat : Int) - 1 = s 1 - 1 by omega] at this
  exact this
theorem l_keepsThatGoAs {w : Nat} {h i : Int} {n : Nat} {f : Int → Int} (h0 : 0 ≤ h) (h1 : h < s 1) (hw : w + 1 < 45) (hR : kg_R L w) (i0 : 0 ≤ i) (i1 : i + n ≤ 40) (n1 : n ≤ 16) (hf : ∀ k, f k = μ (w + 1) (i + k)) (hi : ∀ k, 0 ≤ k → k < 40 → kx_in (μ (w + 1) k)) (W : tw_W 999 s) (t : ∀ μ', Fr 45 μ μ' → Q (some (kI (q_ke s f h n 9 1 0))) (kg L) μ') : ∀ (r j : Nat) (a : Int) (μ1 : kx_M), j + r = 10 → 1 ≤ j → kx_in a → q_ke s f h n r j a = q_ke s f h n 9 1 0 → TR μ1 30 s → Fr 45 μ μ1 → kx_wx (ke (d + 4)) kt_Fore_keepsThatGoAs Q 6 [some (kR 44), some (kR 30), some (kI h), some (kR w), some (kI i), some (kI n), some (kI a), some (kI j)] [] (kg L) μ1 := by
  have w1 := W.1
  have hR0 := hR
  intro r
  induction r with
  | zero =>
    intro j a μ1 hj j1 ha q T F
    rw [← q] at t
    simp only [q_ke] at t
    refine ks_iload rfl rfl ?_
    refine ks_bipush rfl ?_
    -- at 10: if gt -> 61 else 13 st ['9', None]
    refine ks_icmp_gt rfl ⟨by omega, by omega⟩ ⟨by omega, by omega⟩ (fun c => ?_) (fun c => absurd c (by omega))
    refine ks_iload rfl rfl ?_
    refine ks_ireturn rfl ?_
    -- at 63: ret  st [None]
    exact t _ F
  | succ r ih =>
    intro j a μ1 hj j1 ha q T F
    refine ks_iload rfl rfl ?_
    refine ks_bipush rfl ?_
    -- at 10: if gt -> 61 else 13 st ['9', None]
    refine ks_icmp_gt rfl ⟨by omega, by omega⟩ ⟨by omega, by omega⟩ (fun c => absurd c (by omega)) (fun c => ?_)
    refine ks_aload_n rfl rfl ?_
    refine ks_getr (b := 45) rfl rfl rfl rfl (by decide) ?_
    refine ks_aload_n rfl rfl ?_
    refine ks_callv_2 rfl rfl rfl (Nat.le_of_ble_eq_true rfl) ?_
    -- at 18: call Town_becomeLike st []
    refine r_try T W (fun μ2 T2 F2 => ?_)
    show kx_wx _ _ _ _ _ _ _ _
    refine ks_aload_n rfl rfl ?_
    refine ks_getr (b := 45) rfl rfl rfl rfl (by decide) ?_
    refine ks_getr (b := 47) rfl rfl rfl rfl (by decide) ?_
    refine ks_iload_n rfl rfl ?_
    refine ks_iload rfl rfl ?_
    refine ks_iastore rfl rfl (by omega) (by omega) ?_
    refine ks_aload_n rfl rfl ?_
    refine ks_aload_n rfl rfl ?_
    refine ks_iload rfl rfl ?_
    refine ks_iload rfl rfl ?_
    refine ks_callv_4 rfl rfl rfl (Nat.le_of_ble_eq_true rfl) ?_
    -- at 38: call Fore_goesAs st []
    have T3 : TR (kx_up μ2 47 h j) 45 (up1 s (12 + h) j) := TR_keep (a := 45) W T2 h0 h1
    have F3 : Fr 45 μ (kx_up μ2 47 h j) := Fr_up (Fr_tr F F2) (by omega)
    generalize kx_up μ2 47 h j = μ3 at *
    have W3 : tw_W 999 (up1 s (12 + h) j) := tw_W_keep W h0 h1 (by omega) (by omega)
    simp only [q_ke] at q
    refine r_goesAs (f := f) hw hR0 i0 i1 n1 (fun k => by rw [F3 (w + 1) (by omega)]; exact hf k) (fun k a b => by rw [F3 (w + 1) (by omega)]; exact hi k a b) W3 T3 (fun D μ4 F4 => ?_) (fun D μ4 F4 => ?_)
    · have F5 := Fr_tr F3 F4
      show kx_wx _ _ _ _ _ (_ :: _) _ _
      refine ks_if_eq_1 rfl ?_
      refine ks_iload rfl rfl ?_
      refine ks_iconst rfl ?_
      refine ks_iload rfl rfl ?_
      refine ks_iconst rfl ?_
      refine ks_isub rfl ?_
      refine ks_ishl rfl (by omega) (by omega) ?_
      refine ks_ior rfl ?_
      refine ks_istore_6 rfl rfl ?_
      refine ks_iinc_7 rfl rfl ?_
      refine ks_goto rfl ?_
      -- at 6: stop  st []
      rw [if_pos D] at q
      exact ih (j + 1) _ μ4 (by omega) (by omega) (kx_or_in _ _) q (TR_fr T (fun c c0 c1 => by rw [F5 c (by omega), F c (by omega)])) F5
    · have F5 := Fr_tr F3 F4
      show kx_wx _ _ _ _ _ (_ :: _) _ _
      refine ks_if_eq_0 rfl ?_
      refine ks_iinc_7 rfl rfl ?_
      refine ks_goto rfl ?_
      -- at 6: stop  st []
      rw [if_neg D, kx_or_0 ha] at q
      exact ih (j + 1) _ μ4 (by omega) (by omega) ha q (TR_fr T (fun c c0 c1 => by rw [F5 c (by omega), F c (by omega)])) F5
theorem r_keepsThatGoAs {w : Nat} {h i : Int} {n : Nat} {f : Int → Int} (h0 : 0 ≤ h) (h1 : h < s 1) (hw : w + 1 < 45) (hR : kg_R L w) (i0 : 0 ≤ i) (i1 : i + n ≤ 40) (n1 : n ≤ 16) (hf : ∀ k, f k = μ (w + 1) (i + k)) (hi : ∀ k, 0 ≤ k → k < 40 → kx_in (μ (w + 1) k)) (W : tw_W 999 s) (T : TR μ 30 s) (t : ∀ μ', Fr 45 μ μ' → Q (some (kI (q_ke s f h n 9 1 0))) (kg L) μ') : kx_cx (ke (d + 5)) 21 [kR 44, kR 30, kI h, kR w, kI i, kI n] (kg L) μ Q := by
  refine ke_start (tb := kt_Fore_keepsThatGoAs) (ls := [some (kR 44), some (kR 30), some (kI h), some (kR w), some (kI i), some (kI n), none, none]) rfl rfl ?_
  refine ks_iconst rfl ?_
  refine ks_istore_6 rfl rfl ?_
  refine ks_iconst rfl ?_
  refine ks_istore_7 rfl rfl ?_
  -- at 6: stop  st []
  exact l_keepsThatGoAs (d := d) h0 h1 hw hR i0 i1 n1 hf hi W t 9 1 0 μ (by omega) (by omega) ⟨by omega, by omega⟩ rfl T (Fr_rf _ _)
theorem l_markOfTrial {B : Int} (T : TR μ 45 s) (W : tw_W B s) (t : Q (some (kL (tw_mk s (s 2).toNat))) (kg L) μ) : ∀ (r j : Nat), j + r = (s 2).toNat → kx_wx (ke d) kt_Fore_markOfTrial Q 24 [some (kR 44), some (kL (tw_mk s j)), none, some (kI j)] [] (kg L) μ := by
  have W0 := W
  obtain ⟨w1, w2, w3, w4, w5, w6, w7, w8⟩ := W
  have e9 := T.2.1
  intro r
  induction r with
  | zero =>
    intro j hj
    rw [Nat.add_zero] at hj
    rw [← hj] at t
    refine ks_iload_n rfl rfl ?_
    refine ks_aload_n rfl rfl ?_
    refine ks_getr (b := 45) rfl rfl rfl rfl (by decide) ?_
    refine ks_geti rfl rfl rfl rfl (by (try simp only [kx_up_at, kx_row_at, up1_at, Nat.reduceEqDiff, Int.reduceEq, Int.reduceNeg, and_true, true_and, and_false, false_and, and_self, reduceIte, Nat.add_left_cancel_iff, Nat.add_eq_left, Nat.left_eq_add, Nat.reduceAdd, Int.add_left_inj, Int.add_right_inj, e9]); rfl) ?_
    -- at 32: if ge -> 57 else 35 st [None, None]
    refine ks_icmp_ge rfl ⟨by omega, by omega⟩ ⟨by omega, by omega⟩ (fun c => absurd c (by omega)) (fun c => ?_)
    refine ks_lload_n rfl rfl ?_
    refine ks_lreturn rfl ?_
    -- at 58: ret  st [None]
    exact t
  | succ r ih =>
    intro j hj
    have q8 := w8 j (by omega) (by omega)
    have e6 := (T.2.2.2.2.2.2.2 j (by omega) (by omega)).2.1
    obtain ⟨m1, m2, m3⟩ := tw_mk_in W0 j (by omega)
    refine ks_iload_n rfl rfl ?_
    refine ks_aload_n rfl rfl ?_
    refine ks_getr (b := 45) rfl rfl rfl rfl (by decide) ?_
    refine ks_geti rfl rfl rfl rfl (by (try simp only [kx_up_at, kx_row_at, up1_at, Nat.reduceEqDiff, Int.reduceEq, Int.reduceNeg, and_true, true_and, and_false, false_and, and_self, reduceIte, Nat.add_left_cancel_iff, Nat.add_eq_left, Nat.left_eq_add, Nat.reduceAdd, Int.add_left_inj, Int.add_right_inj, e9, e6]); rfl) ?_
    -- at 32: if ge -> 57 else 35 st [None, None]
    refine ks_icmp_ge rfl ⟨by omega, by omega⟩ ⟨by omega, by omega⟩ (fun c => ?_) (fun c => absurd c (by omega))
    refine ks_lload_n rfl rfl ?_
    refine ks_bipush rfl ?_
    refine ks_lshl rfl (by omega) (by omega) ?_
    refine ks_aload_n rfl rfl ?_
    refine ks_getr (b := 45) rfl rfl rfl rfl (by decide) ?_
    refine ks_getr (b := 51) rfl rfl rfl rfl (by decide) ?_
    refine ks_iload_n rfl rfl ?_
    refine ks_iaload rfl rfl (by omega) (by omega) (by (try simp only [kx_up_at, kx_row_at, up1_at, Nat.reduceEqDiff, Int.reduceEq, Int.reduceNeg, and_true, true_and, and_false, false_and, and_self, reduceIte, Nat.add_left_cancel_iff, Nat.add_eq_left, Nat.left_eq_add, Nat.reduceAdd, Int.add_left_inj, Int.add_right_inj, e9, e6]); rfl) ?_
    refine ks_i2l rfl ⟨by omega, by omega⟩ ?_
    refine ks_lor rfl ?_
    refine ks_lstore_n_1 rfl rfl ?_
    refine ks_iinc_3 rfl rfl ?_
    refine ks_goto rfl ?_
    -- at 24: stop  st []
    have e : kx_lor (tw_mk s j * 2 ^ (6 : Int).toNat) (s (34 + j)) = tw_mk s (j + 1) := by
      have p : (2 : Int) ^ (6 : Int).toNat = 64 := by decide
      have := lor_add (a := tw_mk s j) (b := s (34 + j)) (k := (6 : Int).toNat) m1 (by omega) (by rw [p]; omega) (by rw [p]; omega)
      rw [this, p]; rfl
    rw [e]
    exact ih (j + 1) (by omega)
theorem r_markOfTrial {B : Int} (T : TR μ 45 s) (W : tw_W B s) (t : Q (some (kL (tw_mk s (s 2).toNat))) (kg L) μ) : kx_cx (ke (d + 1)) 25 [kR 44] (kg L) μ Q := by
  refine ke_start (tb := kt_Fore_markOfTrial) (ls := [some (kR 44), none, none, none]) rfl rfl ?_
  have W0 := W
  obtain ⟨w1, w2, w3, w4, w5, w6, w7, w8⟩ := W
  have e11 := T.2.2.2.1
  have e12 := T.2.2.2.2.1
  refine ks_aload_n rfl rfl ?_
  refine ks_getr (b := 45) rfl rfl rfl rfl (by decide) ?_
  refine ks_geti rfl rfl rfl rfl (by (try simp only [kx_up_at, kx_row_at, up1_at, Nat.reduceEqDiff, Int.reduceEq, Int.reduceNeg, and_true, true_and, and_false, false_and, and_self, reduceIte, Nat.add_left_cancel_iff, Nat.add_eq_left, Nat.left_eq_add, Nat.reduceAdd, Int.add_left_inj, Int.add_right_inj, e11, e12]); rfl) ?_
  refine ks_i2l rfl ⟨by omega, by omega⟩ ?_
  refine ks_lstore_n_1 rfl rfl ?_
  refine ks_lload_n rfl rfl ?_
  refine ks_iconst rfl ?_
  refine ks_lshl rfl (by omega) (by omega) ?_
  refine ks_aload_n rfl rfl ?_
  refine ks_getr (b := 45) rfl rfl rfl rfl (by decide) ?_
  refine ks_geti rfl rfl rfl rfl (by (try simp only [kx_up_at, kx_row_at, up1_at, Nat.reduceEqDiff, Int.reduceEq, Int.reduceNeg, and_true, true_and, and_false, false_and, and_self, reduceIte, Nat.add_left_cancel_iff, Nat.add_eq_left, Nat.left_eq_add, Nat.reduceAdd, Int.add_left_inj, Int.add_right_inj, e11, e12]); rfl) ?_
  refine ks_i2l rfl ⟨by omega, by omega⟩ ?_
  refine ks_lor rfl ?_
  refine ks_lstore_n_1 rfl rfl ?_
  refine ks_iconst rfl ?_
  refine ks_istore_n_3 rfl rfl ?_
  -- at 24: stop  st []
  have e : kx_lor (s 5 * 2 ^ (3 : Int).toNat) (s 4) = tw_mk s 0 := by
    have p : (2 : Int) ^ (3 : Int).toNat = 8 := by decide
    have := lor_add (a := s 5) (b := s 4) (k := (3 : Int).toNat) (by omega) (by omega) (by rw [p]; omega) (by rw [p]; omega)
    rw [this, p]; rfl
  rw [e]
  exact l_markOfTrial T W0 t (s 2).toNat 0 (by omega)
theorem l_earliest {g : Nat → Int} {n : Nat} (hn : n ≤ 60) (hg : ∀ k : Nat, k ≤ n → μ 54 k = g k) (hb : ∀ k, 0 ≤ g k ∧ g k < 2147483648) (t : Q (some (kI (q_ea g n n 0 : Nat))) (kg L) μ) : ∀ (r j : Nat), j + r = n → q_ea g n r j = q_ea g n n 0 → kx_wx (ke d) kt_Fore_earliestWithMarkOf Q 2 [some (kR 44), some (kI n), some (kI j)] [] (kg L) μ := by
  intro r
  induction r with
  | zero =>
    intro j hj q
    rw [← q] at t
    refine ks_iload_n rfl rfl ?_
    refine ks_iload_n rfl rfl ?_
    -- at 4: if ge -> 31 else 7 st [None, None]
    refine ks_icmp_ge rfl ⟨by omega, by omega⟩ ⟨by omega, by omega⟩ (fun c => absurd c (by omega)) (fun c => ?_)
    refine ks_iload_n rfl rfl ?_
    refine ks_ireturn rfl ?_
    -- at 32: ret  st [None]
    exact t
  | succ r ih =>
    intro j hj q
    have b1 := hb j
    have b2 := hb n
    have e1 := hg j (by omega)
    have e2 := hg n (Nat.le_refl n)
    simp only [q_ea] at q
    refine ks_iload_n rfl rfl ?_
    refine ks_iload_n rfl rfl ?_
    -- at 4: if ge -> 31 else 7 st [None, None]
    refine ks_icmp_ge rfl ⟨by omega, by omega⟩ ⟨by omega, by omega⟩ (fun c => ?_) (fun c => absurd c (by omega))
    refine ks_aload_n rfl rfl ?_
    refine ks_getr (b := 54) rfl rfl rfl rfl (by decide) ?_
    refine ks_iload_n rfl rfl ?_
    refine ks_laload rfl rfl (by omega) (by omega) (by (try simp only [kx_up_at, kx_row_at, up1_at, Nat.reduceEqDiff, Int.reduceEq, Int.reduceNeg, and_true, true_and, and_false, false_and, and_self, reduceIte, Nat.add_left_cancel_iff, Nat.add_eq_left, Nat.left_eq_add, Nat.reduceAdd, Int.add_left_inj, Int.add_right_inj, e1, e2]); rfl) ?_
    refine ks_aload_n rfl rfl ?_
    refine ks_getr (b := 54) rfl rfl rfl rfl (by decide) ?_
    refine ks_iload_n rfl rfl ?_
    refine ks_laload rfl rfl (by omega) (by omega) (by (try simp only [kx_up_at, kx_row_at, up1_at, Nat.reduceEqDiff, Int.reduceEq, Int.reduceNeg, and_true, true_and, and_false, false_and, and_self, reduceIte, Nat.add_left_cancel_iff, Nat.add_eq_left, Nat.left_eq_add, Nat.reduceAdd, Int.add_left_inj, Int.add_right_inj, e1, e2]); rfl) ?_
    -- at 19: lcmp  st [None, None]
    refine ks_lcmp rfl ⟨by omega, by omega⟩ ⟨by omega, by omega⟩ (fun hl => ?_) (fun hl => ?_) (fun hl => ?_)
    · rw [if_neg (by omega)] at q
      refine ks_if_ne_m rfl ?_
      refine ks_iinc_2 rfl rfl ?_
      refine ks_goto rfl ?_
      -- at 2: stop  st []
      exact ih (j + 1) (by omega) q
    · rw [if_pos (by omega)] at q
      rw [← q] at t
      refine ks_if_ne_0 rfl ?_
      refine ks_iload_n rfl rfl ?_
      refine ks_ireturn rfl ?_
      -- at 24: ret  st [None]
      exact t
    · rw [if_neg (by omega)] at q
      refine ks_if_ne_1 rfl ?_
      refine ks_iinc_2 rfl rfl ?_
      refine ks_goto rfl ?_
      -- at 2: stop  st []
      exact ih (j + 1) (by omega) q
theorem r_earliest {g : Nat → Int} {n : Nat} (hn : n ≤ 60) (hg : ∀ k : Nat, k ≤ n → μ 54 k = g k) (hb : ∀ k, 0 ≤ g k ∧ g k < 2147483648) (t : Q (some (kI (q_ea g n n 0 : Nat))) (kg L) μ) : kx_cx (ke (d + 1)) 26 [kR 44, kI n] (kg L) μ Q := by
  refine ke_start (tb := kt_Fore_earliestWithMarkOf) (ls := [some (kR 44), some (kI n), none]) rfl rfl ?_
  refine ks_iconst rfl ?_
  refine ks_istore_n_2 rfl rfl ?_
  -- at 2: stop  st []
  exact l_earliest hn hg hb t n 0 (by omega) rfl
theorem l_repetition {w X : Int} (hw : kx_in w) (W : tw_W 999 s) (t : ∀ μ', F54 μ μ' → Q (some (kI X)) (kg L) μ') : ∀ (r j : Nat) (μ1 : kx_M) (x3 : Option kx_V), j + r = 60 → q_ro (q_mk s) w r (j + 1) = X → (∀ k : Nat, k ≤ j → μ1 54 k = q_mk s k) → TR μ1 45 (tw_go s j) → F54 μ μ1 → kx_wx (ke (d + 3)) kt_Fore_repetition Q 20 [some (kR 44), some (kR 30), some (kI w), some (kI (j + 1 : Nat)), x3] [] (kg L) μ1 := by
  obtain ⟨_, _⟩ := hw
  intro r
  induction r with
  | zero =>
    intro j μ1 x3 hj q hm T F
    rw [← q] at t
    simp only [q_ro] at t
    refine ks_iload_n rfl rfl ?_
    refine ks_bipush rfl ?_
    -- at 23: if gt -> 74 else 26 st ['60', None]
    refine ks_icmp_gt rfl ⟨by omega, by omega⟩ ⟨by omega, by omega⟩ (fun c => ?_) (fun c => absurd c (by omega))
    refine ks_ldc rfl ?_
    refine ks_ireturn rfl ?_
    -- at 76: ret  st ['-1000000']
    exact t _ F
  | succ r ih =>
    intro j μ1 x3 hj q hm T F
    simp only [q_ro] at q
    refine ks_iload_n rfl rfl ?_
    refine ks_bipush rfl ?_
    -- at 23: if gt -> 74 else 26 st ['60', None]
    refine ks_icmp_gt rfl ⟨by omega, by omega⟩ ⟨by omega, by omega⟩ (fun c => absurd c (by omega)) (fun c => ?_)
    refine ks_aload_n rfl rfl ?_
    refine ks_getr (b := 45) rfl rfl rfl rfl (by decide) ?_
    refine ks_callv_1 rfl rfl rfl (Nat.le_of_ble_eq_true rfl) ?_
    -- at 30: call Town_takeStep st []
    refine r_takeStep (B := 2000) (by omega) (kg_T45 L) T (tw_W_go60 W (by omega)) (fun μ2 T2 F2 => ?_)
    show kx_wx _ _ _ _ _ (_ :: _) _ _
    refine ks_pop rfl ?_
    refine ks_aload_n rfl rfl ?_
    refine ks_getr (b := 54) rfl rfl rfl rfl (by decide) ?_
    refine ks_iload_n rfl rfl ?_
    refine ks_aload_n rfl rfl ?_
    refine ks_callv_1 rfl rfl rfl (Nat.le_of_ble_eq_true rfl) ?_
    -- at 40: call Fore_markOfTrial st [None, '54']
    have T2' : TR μ2 45 (tw_go s (j + 1)) := T2
    refine r_markOfTrial T2' (tw_W_go60 W (n := j + 1) (by omega)) ?_
    have e2 : tw_mk (tw_go s (j + 1)) (tw_go s (j + 1) 2).toNat = q_mk s (j + 1) := by unfold q_mk; rw [(tw_go_12 W (j + 1)).2]
    rw [e2]
    show kx_wx _ _ _ _ _ (_ :: _) _ _
    refine ks_lastore rfl rfl (by omega) (by omega) ?_
    refine ks_aload_n rfl rfl ?_
    refine ks_iload_n rfl rfl ?_
    refine ks_callv_2 rfl rfl rfl (Nat.le_of_ble_eq_true rfl) ?_
    -- at 46: call Fore_earliestWithMarkOf st []
    have hm2 : ∀ k : Nat, k ≤ j + 1 → kx_up μ2 54 ((j + 1 : Nat) : Int) (q_mk s (j + 1)) 54 k = q_mk s k := by
      intro k hk
      by_cases e : k = j + 1
      · subst e; rw [kx_up_self]
      · rw [kx_up_oth (by omega), F2 54 (by omega)]; exact hm k (by omega)
    have T3 : TR (kx_up μ2 54 ((j + 1 : Nat) : Int) (q_mk s (j + 1))) 45 (tw_go s (j + 1)) := TR_fr T2' (fun c c0 c1 => kx_up_row (by omega))
    have F3 : F54 μ (kx_up μ2 54 ((j + 1 : Nat) : Int) (q_mk s (j + 1))) := fun c hc => by rw [kx_up_row (by omega), F2 c (by omega), F c hc]
    generalize kx_up μ2 54 ((j + 1 : Nat) : Int) (q_mk s (j + 1)) = μ3 at *
    have le := q_ea_le (g := q_mk s) (n := j + 1) (j + 1) 0 (by omega)
    refine r_earliest (n := j + 1) (by omega) hm2 (q_mk_in W) ?_
    show kx_wx _ _ _ _ _ (_ :: _) _ _
    refine ks_istore_4 rfl rfl ?_
    refine ks_iload rfl rfl ?_
    refine ks_iload_n rfl rfl ?_
    -- at 54: if ge -> 68 else 57 st [None, None]
    generalize q_ea (q_mk s) (j + 1) (j + 1) 0 = e at *
    refine ks_icmp_ge rfl ⟨by omega, by omega⟩ ⟨by omega, by omega⟩ (fun c2 => ?_) (fun c2 => ?_)
    · rw [if_pos (by omega)] at q
      refine ks_iload_n rfl rfl ?_
      -- at 58: if ne -> 65 else 61 st [None]
      refine ks_if_ne rfl ⟨by omega, by omega⟩ (fun c3 => ?_) (fun c3 => ?_)
      · rw [if_pos c3] at q
        rw [← q] at t
        refine ks_iload_n rfl rfl ?_
        refine ks_goto rfl ?_
        refine ks_ireturn rfl ?_
        -- at 67: ret  st [None]
        exact t _ F3
      · rw [if_neg c3] at q
        rw [← q] at t
        refine ks_iload rfl rfl ?_
        refine ks_ireturn rfl ?_
        -- at 67: ret  st [None]
        exact t _ F3
    · rw [if_neg (by omega)] at q
      refine ks_iinc_3 rfl rfl ?_
      refine ks_goto rfl ?_
      -- at 20: stop  st []
      exact ih (j + 1) μ3 _ (by omega) q hm2 T3 F3
theorem r_repetition {w : Int} (hw : kx_in w) (W : tw_W 999 s) (T : TR μ 30 s) (t : ∀ μ', F54 μ μ' → Q (some (kI (q_ro (q_mk s) w 60 1))) (kg L) μ') : kx_cx (ke (d + 5)) 14 [kR 44, kR 30, kI w] (kg L) μ Q := by
  refine ke_start (tb := kt_Fore_repetition) (ls := [some (kR 44), some (kR 30), some (kI w), none, none]) rfl rfl ?_
  refine ks_aload_n rfl rfl ?_
  refine ks_getr (b := 45) rfl rfl rfl rfl (by decide) ?_
  refine ks_aload_n rfl rfl ?_
  refine ks_callv_2 rfl rfl rfl (Nat.le_of_ble_eq_true rfl) ?_
  -- at 5: call Town_becomeLike st []
  refine r_try T W (fun μ1 T1 F1 => ?_)
  show kx_wx _ _ _ _ _ _ _ _
  refine ks_aload_n rfl rfl ?_
  refine ks_getr (b := 54) rfl rfl rfl rfl (by decide) ?_
  refine ks_iconst rfl ?_
  refine ks_aload_n rfl rfl ?_
  refine ks_callv_1 rfl rfl rfl (Nat.le_of_ble_eq_true rfl) ?_
  -- at 14: call Fore_markOfTrial st ['0', '54']
  refine r_markOfTrial T1 W ?_
  show kx_wx _ _ _ _ _ (_ :: _) _ _
  refine ks_lastore rfl rfl (by omega) (by omega) ?_
  refine ks_iconst rfl ?_
  refine ks_istore_n_3 rfl rfl ?_
  -- at 20: stop  st []
  refine l_repetition (μ := μ) hw W t 60 0 _ _ (by omega) rfl (fun k hk => ?_) (TR_fr T1 (fun c c0 c1 => kx_up_row (by omega))) (fun c hc => by rw [kx_up_row (by omega), F1 c (by omega)])
  rw [Nat.le_zero.mp hk]
  exact kx_up_self _ _ _ _
end FQ
