/-! foretold, class side, more -/
theorem kx_or_0 {a : Int} (h : kx_in a) : kx_or a 0 = a := by
  unfold kx_or
  have e : Int32.ofInt 0 = 0 := rfl
  rw [e, Int32.or_zero, Int32.toInt_ofInt_of_le (by have := h.1; omega) (by have := h.2; omega)]
/-- the least of those that come to it soonest, and when -/
def q_min (P : Int → Nat → Prop) (N best least : Int) : Prop := (best = -1000000 ∧ ∀ k n, 0 ≤ k → k < N → n ≤ 60 → ¬ P k n) ∨ (0 ≤ best ∧ best < N ∧ ∃ l : Nat, least = l ∧ 1 ≤ l ∧ l ≤ 60 ∧ P best l ∧ ∀ k n, 0 ≤ k → k < N → n ≤ 60 → P k n → l < n ∨ (l = n ∧ best ≤ k))
theorem q_min_u {P : Int → Nat → Prop} {N b1 b2 l1 l2 : Int} (h : q_min P N b1 l1) (k : q_min P N b2 l2) : b1 = b2 ∧ (b1 ≠ -1000000 → l1 = l2) := by
  rcases h with ⟨a1, a2⟩ | ⟨a1, a2, n, a3, a4, a5, a6, a7⟩ <;> rcases k with ⟨c1, c2⟩ | ⟨c1, c2, m, c3, c4, c5, c6, c7⟩
  · exact ⟨by omega, fun q => absurd a1 q⟩
  · exact absurd c6 (a2 _ _ c1 c2 c5)
  · exact absurd a6 (c2 _ _ a1 a2 a5)
  · have p1 := a7 _ _ c1 c2 c5 c6
    have p2 := c7 _ _ a1 a2 a5 a6
    omega
theorem q_min_0 {P : Int → Nat → Prop} {l : Int} : q_min P 0 (-1000000) l := Or.inl ⟨rfl, fun k n a b => by omega⟩
theorem q_min_hit {P : Int → Nat → Prop} {N best least : Int} {n : Nat} (h : q_min P N best least) (h0 : 0 ≤ N) (hp : P N n) (n0 : 1 ≤ n) (n1 : n ≤ 60) (hb : best = -1000000 ∨ (n : Int) < least) (hu : ∀ m, P N m → m = n) : q_min P (N + 1) N n := by
  refine Or.inr ⟨h0, by omega, n, rfl, n0, n1, hp, fun k m k0 k1 m1 hk => ?_⟩
  by_cases e : k = N
  · subst e; have := hu m hk; omega
  · rcases h with ⟨a1, a2⟩ | ⟨a1, a2, l, a3, a4, a5, a6, a7⟩
    · exact absurd hk (a2 k m k0 (by omega) m1)
    · have := a7 k m k0 (by omega) m1 hk; omega
theorem q_min_miss {P : Int → Nat → Prop} {N best least : Int} (h : q_min P N best least) (h0 : 0 ≤ N) (hm : ∀ n, n ≤ 60 → P N n → best ≠ -1000000 ∧ least ≤ n) : q_min P (N + 1) best least := by
  rcases h with ⟨a1, a2⟩ | ⟨a1, a2, l, a3, a4, a5, a6, a7⟩
  · refine Or.inl ⟨a1, fun k n k0 k1 n1 hp => ?_⟩
    by_cases e : k = N
    · subst e; exact (hm n n1 hp).1 a1
    · exact a2 k n k0 (by omega) n1 hp
  · refine Or.inr ⟨a1, by omega, l, a3, a4, a5, a6, fun k n k0 k1 n1 hp => ?_⟩
    by_cases e : k = N
    · subst e; have := hm n n1 hp; omega
    · exact a7 k n k0 (by omega) n1 hp
theorem tw_how_stays {B : Int} {s : Int → Int} (W : tw_W B s) {o : Int} (o0 : 0 ≤ o) (o1 : o < s 2) (h : s (38 + o) ≠ 0) (n : Nat) : tw_go s n (38 + o) = s (38 + o) := by
  induction n with
  | zero => rfl
  | succ n ih =>
    have e := (tw_go_12 W n).2
    obtain ⟨k1, k2⟩ := tw_step_o (tw_W_go W n) o0 (by omega)
    show tw_step (tw_go s n) (38 + o) = _
    by_cases e : o = tw_found (tw_go s n) (tw_go s n 4)
    · have := (k2 e).1; omega
    · rw [(k1 e).1, ih]
def q_P (s : Int → Int) (k : Int) (n : Nat) : Prop := s (38 + k) = 0 ∧ DN s k n
def tw_gv (s : Int → Int) (h : Int) : Int → Int := up1 (up1 s 4 h) 5 0
def q_T (s : Int → Int) (o : Int) (h : Int) (n : Nat) : Prop := DN (tw_gv s h) o n
/-- items f tell where the hat goes -/
def q_ga (s f : Int → Int) : Nat → Bool
  | 0 => true
  | n + 1 => q_ga s f n && (decide (f n = -1) || decide (f n = tw_go s (n + 1) 4))
theorem q_ga_no {s f : Int → Int} {j n : Nat} (h : q_ga s f j = false) (hj : j ≤ n) : q_ga s f n = false := by
  induction n with
  | zero => rw [Nat.le_zero.mp hj] at h; exact h
  | succ n ih =>
    by_cases e : j = n + 1
    · rw [← e]; exact h
    · simp only [q_ga]; rw [ih (by omega)]; rfl
def q_wi (s : Int → Int) (h : Int) (n : Nat) : Nat → Int → Int → Int
  | 0, _, a => a
  | r + 1, w, a => q_wi s h n r (w + 1) (kx_or a (if tw_go (up1 s 0 w) n 4 = h then 1 * 2 ^ w.toNat else 0))
def q_se (s f : Int → Int) (n : Nat) : Nat → Int → Int → Int × Int
  | 0, a, b => (a, b)
  | r + 1, a, b => if q_ga (tw_gv s r) f n = true then q_se s f n r (a + 1) r else q_se s f n r a b
def q_ke (s f : Int → Int) (h : Int) (n : Nat) : Nat → Int → Int → Int
  | 0, _, a => a
  | r + 1, k, a => q_ke s f h n r (k + 1) (kx_or a (if q_ga (up1 s (12 + h) k) f n = true then 1 * 2 ^ (k - 1).toNat else 0))
theorem tw_W_keep {B v h : Int} {s : Int → Int} (W : tw_W B s) (h0 : 0 ≤ h) (h1 : h < s 1) (v0 : 1 ≤ v) (v1 : v ≤ 9) : tw_W B (up1 s (12 + h) v) := by
  obtain ⟨w1, w2, w3, w4, w5, w6, w7, w8⟩ := W
  refine ⟨?_, ?_, ?_, ?_, ?_, ?_, fun i i0 i1 => ?_, fun k k0 k1 => ?_⟩
  · simp (disch := omega) only [up1_ne]; exact w1
  · simp (disch := omega) only [up1_ne]; exact w2
  · simp (disch := omega) only [up1_ne]; exact w3
  · simp (disch := omega) only [up1_ne]; exact w4
  · simp (disch := omega) only [up1_ne]; exact w5
  · simp (disch := omega) only [up1_ne]; exact w6
  · simp (disch := omega) only [up1_ne] at i1
    have := w7 i i0 i1
    by_cases e : i = h
    · subst e
      simp (disch := omega) only [up1_ne, up1_self]
      omega
    · simp (disch := omega) only [up1_ne]; exact this
  · simp (disch := omega) only [up1_ne] at k1; simp (disch := omega) only [up1_ne]; exact w8 k k0 k1
theorem TR_keep {μ : kx_M} {a : Nat} {B v h : Int} {s : Int → Int} (W : tw_W B s) (T : TR μ a s) (h0 : 0 ≤ h) (h1 : h < s 1) : TR (kx_up μ (a + 2) h v) a (up1 s (12 + h) v) := by
  obtain ⟨w1, w2, w3, w4, w5, w6, w7, w8⟩ := W
  obtain ⟨e8, e9, e10, e11, e12, e13, eh, eo⟩ := T
  refine ⟨?_, ?_, ?_, ?_, ?_, ?_, fun i i0 i1 => ?_, fun k k0 k1 => ?_⟩
  · simp (disch := omega) only [up1_ne, kx_up_row]; exact e8
  · simp (disch := omega) only [up1_ne, kx_up_row]; exact e9
  · simp (disch := omega) only [up1_ne, kx_up_row]; exact e10
  · simp (disch := omega) only [up1_ne, kx_up_row]; exact e11
  · simp (disch := omega) only [up1_ne, kx_up_row]; exact e12
  · simp (disch := omega) only [up1_ne, kx_up_row]; exact e13
  · simp (disch := omega) only [up1_ne] at i1
    have := eh i i0 i1
    by_cases e : i = h
    · subst e
      simp (disch := omega) only [up1_ne, kx_up_row, kx_up_self, up1_self]
      exact ⟨this.1, trivial, this.2.2⟩
    · simp (disch := omega) only [up1_ne, kx_up_row, kx_up_oth]; exact this
  · simp (disch := omega) only [up1_ne] at k1
    have := eo k k0 k1
    rw [up1_ne (i := 12 + h) (j := 38 + k) (by omega)]
    simp (disch := omega) only [up1_ne, kx_up_row]; exact this
section FP
variable {d L : Nat} {G : kx_G} {μ : kx_M} {Q : Option kx_V → kx_G → kx_M → Prop} {s : Int → Int} {z : Int}
theorem l_orderDoneFirst (W : tw_W 999 s) (t : ∀ x l μ', q_min (q_P s) (s 2) x l → Fr 45 μ μ' → Q (some (kI x)) (kg L) μ') : ∀ (r j : Nat) (μ1 : kx_M) (x2 : Option kx_V), j + r = 60 → (∀ k, 0 ≤ k → k < s 2 → s (38 + k) = 0 → ∀ i, i ≤ j → tw_go s i (38 + k) = 0) → TR μ1 45 (tw_go s j) → Fr 45 μ μ1 → kx_wx (ke (d + 3)) kt_Fore_orderDoneFirst Q 10 [some (kR 44), some (kR 30), some (kI j), x2] [] (kg L) μ1 := by
  have w2 := W.2.1
  intro r
  induction r with
  | zero =>
    intro j μ1 x2 hj h T F
    rw [Nat.add_zero] at hj
    subst hj
    refine ks_iload_n rfl rfl ?_
    refine ks_bipush rfl ?_
    -- at 13: if ge -> 50 else 16 st ['60', None]
    refine ks_icmp_ge rfl ⟨by omega, by omega⟩ ⟨by omega, by omega⟩ (fun c => absurd c (by omega)) (fun c => ?_)
    refine ks_ldc rfl ?_
    refine ks_ireturn rfl ?_
    -- at 52: ret  st ['-1000000']
    refine t _ 0 _ (Or.inl ⟨rfl, fun k n k0 k1 n1 hp => ?_⟩) F
    have := dn_no hp.2 (h k k0 k1 hp.1)
    omega
  | succ r ih =>
    intro j μ1 x2 hj h T F
    have e2 := (tw_go_12 W j).2
    have e2' := (tw_go_12 W (j + 1)).2
    have hfi := tw_found_in (tw_go s j) (tw_go s j 4)
    have W1 := tw_W_go60 W (n := j + 1) (by omega)
    refine ks_iload_n rfl rfl ?_
    refine ks_bipush rfl ?_
    -- at 13: if ge -> 50 else 16 st ['60', None]
    refine ks_icmp_ge rfl ⟨by omega, by omega⟩ ⟨by omega, by omega⟩ (fun c => ?_) (fun c => absurd c (by omega))
    refine ks_aload_n rfl rfl ?_
    refine ks_getr (b := 45) rfl rfl rfl rfl (by decide) ?_
    refine ks_callv_1 rfl rfl rfl (Nat.le_of_ble_eq_true rfl) ?_
    -- at 20: call Town_takeStep st []
    refine r_takeStep (B := 2000) (by omega) (kg_T45 L) T (tw_W_go60 W (by omega)) (fun μ2 T2 F2 => ?_)
    have old : ∀ k, 0 ≤ k → k < s 2 → k ≠ tw_found (tw_go s j) (tw_go s j 4) → tw_go s (j + 1) (38 + k) = tw_go s j (38 + k) := fun k k0 k1 kf => ((tw_step_o (tw_W_go W j) k0 (by omega)).1 kf).1
    generalize hf : tw_found (tw_go s j) (tw_go s j 4) = f at *
    have next : ∀ x, (0 ≤ f → tw_go s (j + 1) (38 + f) ≠ 1) → kx_wx (ke (d + 3)) kt_Fore_orderDoneFirst Q 44 [some (kR 44), some (kR 30), some (kI j), x] [] (kg L) μ2 := by
      intro x hx
      refine ks_iinc_2 rfl rfl ?_
      refine ks_goto rfl ?_
      -- at 10: stop  st []
      refine ih (j + 1) μ2 _ (by omega) (fun k k0 k1 kz i hi => ?_) T2 (Fr_tr F F2)
      by_cases e : i = j + 1
      · subst e
        have z0 := h k k0 k1 kz j (Nat.le_refl j)
        by_cases ef : k = f
        · subst ef
          rcases dn_01 W k0 k1 z0 with q | q
          · exact q
          · exact absurd q.1 (hx k0)
        · rw [old k k0 k1 ef]; exact z0
      · exact h k k0 k1 kz i (by omega)
    show kx_wx _ _ _ _ _ (_ :: _) _ _
    refine ks_istore_n_3 rfl rfl ?_
    refine ks_iload_n rfl rfl ?_
    refine ks_iconst rfl ?_
    -- at 26: if eq -> 44 else 29 st ['-1', None]
    refine ks_icmp_eq rfl ⟨by omega, by omega⟩ ⟨by omega, by omega⟩ (fun c1 => ?_) (fun c1 => ?_)
    · refine next _ (by omega)
      -- at 44: stop
    · obtain ⟨f0, f1, f2⟩ := hfi.resolve_left c1
      have w8 := W1.2.2.2.2.2.2.2 f f0 (by omega)
      have e := (T2.2.2.2.2.2.2.2 f f0 (by show f < tw_go s (j + 1) 2; omega)).2.2.1
      have e' : tw_step (tw_go s j) (38 + f) = tw_go s (j + 1) (38 + f) := rfl
      rw [e'] at e
      refine ks_aload_n rfl rfl ?_
      refine ks_getr (b := 45) rfl rfl rfl rfl (by decide) ?_
      refine ks_getr (b := 52) rfl rfl rfl rfl (by decide) ?_
      refine ks_iload_n rfl rfl ?_
      refine ks_iaload rfl rfl (by omega) (by omega) (by (try simp only [kx_up_at, kx_row_at, up1_at, Nat.reduceEqDiff, Int.reduceEq, Int.reduceNeg, and_true, true_and, and_false, false_and, and_self, reduceIte, Nat.add_left_cancel_iff, Nat.add_eq_left, Nat.left_eq_add, Nat.reduceAdd, Int.add_left_inj, Int.add_right_inj, e]); rfl) ?_
      refine ks_iconst rfl ?_
      -- at 39: if ne -> 44 else 42 st ['1', None]
      refine ks_icmp_ne rfl ⟨by omega, by omega⟩ ⟨by omega, by omega⟩ (fun c3 => ?_) (fun c3 => ?_)
      · refine ks_iload_n rfl rfl ?_
        refine ks_ireturn rfl ?_
        -- at 43: ret  st [None]
        have hz : s (38 + f) = 0 := by
          by_cases e0 : s (38 + f) = 0
          · exact e0
          · have := tw_how_stays W f0 (by omega) e0 j
            have := f2.1
            omega
        refine t _ (j + 1 : Nat) _ (Or.inr ⟨f0, by omega, j + 1, rfl, by omega, by omega, ⟨hz, c3, fun i hi => h f f0 (by omega) hz i (by omega)⟩, fun k n k0 k1 n1 hp => ?_⟩) (Fr_tr F F2)
        have n2 := dn_no hp.2 (h k k0 k1 hp.1)
        by_cases en : n = j + 1
        · subst en
          by_cases ef : k = f
          · omega
          · have a1 := old k k0 k1 ef
            have a2 := h k k0 k1 hp.1 j (Nat.le_refl j)
            have a3 := hp.2.1
            omega
        · omega
      · refine next _ (fun _ => c3)
        -- at 44: stop
theorem r_orderDoneFirst (W : tw_W 999 s) (T : TR μ 30 s) (t : ∀ x l μ', q_min (q_P s) (s 2) x l → Fr 45 μ μ' → Q (some (kI x)) (kg L) μ') : kx_cx (ke (d + 5)) 16 [kR 44, kR 30] (kg L) μ Q := by
  refine ke_start (tb := kt_Fore_orderDoneFirst) (ls := [some (kR 44), some (kR 30), none, none]) rfl rfl ?_
  refine ks_aload_n rfl rfl ?_
  refine ks_getr (b := 45) rfl rfl rfl rfl (by decide) ?_
  refine ks_aload_n rfl rfl ?_
  refine ks_callv_2 rfl rfl rfl (Nat.le_of_ble_eq_true rfl) ?_
  -- at 5: call Town_becomeLike st []
  refine r_try T W (fun μ1 T1 F1 => ?_)
  show kx_wx _ _ _ _ _ _ _ _
  refine ks_iconst rfl ?_
  refine ks_istore_n_2 rfl rfl ?_
  -- at 10: stop  st []
  refine l_orderDoneFirst (μ := μ) W t 60 0 μ1 _ (by omega) (fun k k0 k1 kz i hi => ?_) T1 F1
  rw [Nat.le_zero.mp hi]; exact kz
def q_tg (s : Int → Int) (o w x : Int) : Prop := ∃ b l, q_min (q_T s o) (s 1) b l ∧ x = if b = -1000000 then b else if w = 0 then b else l
theorem l_bestGift {o w : Int} (o0 : 0 ≤ o) (o1 : o < s 2) (hw : kx_in w) (hz : s (38 + o) = 0) (W : tw_W 999 s) (t : ∀ x μ', q_tg s o w x → Fr 45 μ μ' → Q (some (kI x)) (kg L) μ') : ∀ (r j : Nat) (b l : Int) (μ1 : kx_M) (x6 : Option kx_V), j + r = (s 1).toNat → q_min (q_T s o) j b l → (b = -1000000 → l = 61) → 1 ≤ l → l ≤ 61 → TR μ1 30 s → Fr 45 μ μ1 → kx_wx (ke (d + 4)) kt_Fore_bestGift Q 11 [some (kR 44), some (kR 30), some (kI o), some (kI w), some (kI l), some (kI b), some (kI j), x6] [] (kg L) μ1 := by
  have w1 := W.1
  have w2 := W.2.1
  have hb : ∀ (j : Nat) b l, j ≤ (s 1).toNat → q_min (q_T s o) j b l → -1000000 ≤ b ∧ b ≤ 6 := by
    intro j b l hj hm
    rcases hm with ⟨a1, a2⟩ | ⟨a1, a2, _⟩ <;> omega
  intro r
  induction r with
  | zero =>
    intro j b l μ1 x6 hj hm hl l0 l1 T F
    have e8 := T.1
    have hbb := hb j b l (by omega) hm
    refine ks_iload rfl rfl ?_
    refine ks_aload_n rfl rfl ?_
    refine ks_geti rfl rfl rfl rfl (by (try simp only [kx_up_at, kx_row_at, up1_at, Nat.reduceEqDiff, Int.reduceEq, Int.reduceNeg, and_true, true_and, and_false, false_and, and_self, reduceIte, Nat.add_left_cancel_iff, Nat.add_eq_left, Nat.left_eq_add, Nat.reduceAdd, Int.add_left_inj, Int.add_right_inj, e8]); rfl) ?_
    -- at 17: if ge -> 69 else 20 st [None, None]
    refine ks_icmp_ge rfl ⟨by omega, by omega⟩ ⟨by omega, by omega⟩ (fun c => absurd c (by omega)) (fun c => ?_)
    refine ks_iload rfl rfl ?_
    refine ks_ldc rfl ?_
    -- at 73: if ne -> 79 else 76 st ['-1000000', None]
    have ej : (j : Int) = s 1 := by omega
    rw [ej] at hm
    refine ks_icmp_ne rfl ⟨by omega, by omega⟩ ⟨by omega, by omega⟩ (fun c1 => ?_) (fun c1 => ?_)
    · refine ks_ldc rfl ?_
      refine ks_ireturn rfl ?_
      -- at 78: ret  st ['-1000000']
      exact t _ _ ⟨b, l, hm, by rw [if_pos c1, c1]⟩ F
    · refine ks_iload_n rfl rfl ?_
      -- at 80: if ne -> 88 else 83 st [None]
      obtain ⟨_, _⟩ := hw
      refine ks_if_ne rfl ⟨by omega, by omega⟩ (fun c2 => ?_) (fun c2 => ?_)
      · refine ks_iload rfl rfl ?_
        refine ks_goto rfl ?_
        refine ks_ireturn rfl ?_
        -- at 90: ret  st [None]
        exact t _ _ ⟨b, l, hm, by rw [if_neg c1, if_pos c2]⟩ F
      · refine ks_iload rfl rfl ?_
        refine ks_ireturn rfl ?_
        -- at 90: ret  st [None]
        exact t _ _ ⟨b, l, hm, by rw [if_neg c1, if_neg c2]⟩ F
  | succ r ih =>
    intro j b l μ1 x6 hj hm hl l0 l1 T F
    have e8 := T.1
    have hbb := hb j b l (by omega) hm
    refine ks_iload rfl rfl ?_
    refine ks_aload_n rfl rfl ?_
    refine ks_geti rfl rfl rfl rfl (by (try simp only [kx_up_at, kx_row_at, up1_at, Nat.reduceEqDiff, Int.reduceEq, Int.reduceNeg, and_true, true_and, and_false, false_and, and_self, reduceIte, Nat.add_left_cancel_iff, Nat.add_eq_left, Nat.left_eq_add, Nat.reduceAdd, Int.add_left_inj, Int.add_right_inj, e8]); rfl) ?_
    -- at 17: if ge -> 69 else 20 st [None, None]
    refine ks_icmp_ge rfl ⟨by omega, by omega⟩ ⟨by omega, by omega⟩ (fun c => ?_) (fun c => absurd c (by omega))
    refine ks_aload_n rfl rfl ?_
    refine ks_getr (b := 45) rfl rfl rfl rfl (by decide) ?_
    refine ks_aload_n rfl rfl ?_
    refine ks_callv_2 rfl rfl rfl (Nat.le_of_ble_eq_true rfl) ?_
    -- at 25: call Town_becomeLike st []
    refine r_try T W (fun μ2 T2 F2 => ?_)
    show kx_wx _ _ _ _ _ _ _ _
    refine ks_aload_n rfl rfl ?_
    refine ks_getr (b := 45) rfl rfl rfl rfl (by decide) ?_
    refine ks_iload rfl rfl ?_
    refine ks_callv_2 rfl rfl rfl (Nat.le_of_ble_eq_true rfl) ?_
    -- at 34: call Town_handTo st []
    refine r_handTo (kg_T45 L) ?_
    have T3 : TR (kx_up (kx_up μ2 45 11 j) 45 12 0) 45 (tw_gv s j) := by
      have := TRx_12 (v := 0) (TRx_11 (v := j) T2) (by rw [up1_ne (by omega)]; omega)
      unfold TR tw_gv
      rw [up1_ne (by omega), up1_ne (by omega)]
      exact this
    have F3 : Fr 45 μ (kx_up (kx_up μ2 45 11 j) 45 12 0) := Fr_up (Fr_up (Fr_tr F F2) (by omega)) (by omega)
    generalize kx_up (kx_up μ2 45 11 j) 45 12 0 = μ3 at *
    show kx_wx _ _ _ _ _ _ _ _
    refine ks_aload_n rfl rfl ?_
    refine ks_iload_n rfl rfl ?_
    refine ks_iload rfl rfl ?_
    refine ks_iconst rfl ?_
    refine ks_isub rfl ?_
    refine ks_callv_3 rfl rfl rfl (Nat.le_of_ble_eq_true rfl) ?_
    -- at 43: call Fore_stepsUntilDone st []
    have W3 : tw_W 999 (tw_gv s j) := tw_W_give W (by omega) (by omega)
    have o3 : o < tw_gv s j 2 := by unfold tw_gv; rw [up1_ne (by omega), up1_ne (by omega)]; exact o1
    have z3 : tw_gv s j (38 + o) = 0 := by unfold tw_gv; rw [up1_ne (by omega), up1_ne (by omega)]; exact hz
    obtain ⟨m, hm1⟩ : ∃ m : Nat, l - 1 = m := ⟨(l - 1).toNat, by omega⟩
    rw [hm1]
    have en : ((j + 1 : Nat) : Int) = (j : Int) + 1 := by omega
    refine r_stepsUntilDone (m := m) (by omega) o0 o3 W3 z3 T3 (fun n μ4 n0 n1 D T4 F4 => ?_) (fun μ4 D T4 F4 => ?_)
    · show kx_wx _ _ _ _ _ (_ :: _) _ _
      refine ks_istore_7 rfl rfl ?_
      refine ks_iload rfl rfl ?_
      refine ks_iload rfl rfl ?_
      -- at 52: if ge -> 63 else 55 st [None, None]
      have F5 := Fr_tr F3 F4
      refine ks_icmp_ge rfl ⟨by omega, by omega⟩ ⟨by omega, by omega⟩ (fun c3 => ?_) (fun c3 => absurd c3 (by omega))
      refine ks_iload rfl rfl ?_
      refine ks_istore_4 rfl rfl ?_
      refine ks_iload rfl rfl ?_
      refine ks_istore_5 rfl rfl ?_
      refine ks_iinc_6 rfl rfl ?_
      refine ks_goto rfl ?_
      -- at 11: stop  st []
      have hh := q_min_hit (n := n) hm (by omega) D n0 (by omega) (by omega) (fun k hk => dn_uniq hk D)
      rw [← en] at hh
      exact ih (j + 1) j n μ4 _ (by omega) hh (by omega) (by omega) (by omega) (TR_fr T (fun c c0 c1 => by rw [F5 c (by omega), F c (by omega)])) F5
    · have F5 := Fr_tr F3 F4
      refine ks_istore_7 rfl rfl ?_
      refine ks_iload rfl rfl ?_
      refine ks_iload rfl rfl ?_
      -- at 52: if ge -> 63 else 55 st [None, None]
      refine ks_icmp_ge rfl ⟨by omega, by omega⟩ ⟨by omega, by omega⟩ (fun c3 => absurd c3 (by omega)) (fun c3 => ?_)
      refine ks_iinc_6 rfl rfl ?_
      refine ks_goto rfl ?_
      -- at 11: stop  st []
      have hh := q_min_miss hm (by omega) (fun n n1 hp => by
        have := dn_no hp D
        by_cases eb : b = -1000000
        · have := hl eb; omega
        · exact ⟨eb, by omega⟩)
      rw [← en] at hh
      exact ih (j + 1) b l μ4 _ (by omega) hh hl l0 l1 (TR_fr T (fun c c0 c1 => by rw [F5 c (by omega), F c (by omega)])) F5
theorem r_bestGift {o w : Int} (o0 : 0 ≤ o) (o1 : o < s 2) (hw : kx_in w) (hz : s (38 + o) = 0) (W : tw_W 999 s) (T : TR μ 30 s) (t : ∀ x μ', q_tg s o w x → Fr 45 μ μ' → Q (some (kI x)) (kg L) μ') : kx_cx (ke (d + 5)) 18 [kR 44, kR 30, kI o, kI w] (kg L) μ Q := by
  refine ke_start (tb := kt_Fore_bestGift) (ls := [some (kR 44), some (kR 30), some (kI o), some (kI w), none, none, none, none]) rfl rfl ?_
  have w1 := W.1
  refine ks_bipush rfl ?_
  refine ks_istore_4 rfl rfl ?_
  refine ks_ldc rfl ?_
  refine ks_istore_5 rfl rfl ?_
  refine ks_iconst rfl ?_
  refine ks_istore_6 rfl rfl ?_
  -- at 11: stop  st []
  exact l_bestGift (μ := μ) o0 o1 hw hz W t (s 1).toNat 0 _ 61 μ _ (by omega) q_min_0 (fun _ => rfl) (by omega) (by omega) T (Fr_rf _ _)
theorem l_windsThatBring {h : Int} {n : Nat} (hn : n ≤ 60) (hh : kx_in h) (W : tw_W 999 s) (t : ∀ μ', Fr 45 μ μ' → Q (some (kI (q_wi s h n 6 0 0))) (kg L) μ') : ∀ (r j : Nat) (a : Int) (μ1 : kx_M), j + r = 6 → kx_in a → q_wi s h n r j a = q_wi s h n 6 0 0 → TR μ1 30 s → Fr 45 μ μ1 → kx_wx (ke (d + 4)) kt_Fore_windsThatBring Q 6 [some (kR 44), some (kR 30), some (kI h), some (kI n), some (kI a), some (kI j)] [] (kg L) μ1 := by
  obtain ⟨_, _⟩ := hh
  intro r
  induction r with
  | zero =>
    intro j a μ1 hj ha q T F
    refine ks_iload rfl rfl ?_
    refine ks_iconst rfl ?_
    -- at 9: if gt -> 60 else 12 st ['5', None]
    refine ks_icmp_gt rfl ⟨by omega, by omega⟩ ⟨by omega, by omega⟩ (fun c => ?_) (fun c => absurd c (by omega))
    refine ks_iload rfl rfl ?_
    refine ks_ireturn rfl ?_
    -- at 62: ret  st [None]
    rw [← q] at t
    exact t _ F
  | succ r ih =>
    intro j a μ1 hj ha q T F
    refine ks_iload rfl rfl ?_
    refine ks_iconst rfl ?_
    -- at 9: if gt -> 60 else 12 st ['5', None]
    refine ks_icmp_gt rfl ⟨by omega, by omega⟩ ⟨by omega, by omega⟩ (fun c => absurd c (by omega)) (fun c => ?_)
    refine ks_aload_n rfl rfl ?_
    refine ks_getr (b := 45) rfl rfl rfl rfl (by decide) ?_
    refine ks_aload_n rfl rfl ?_
    refine ks_callv_2 rfl rfl rfl (Nat.le_of_ble_eq_true rfl) ?_
    -- at 17: call Town_becomeLike st []
    refine r_try T W (fun μ2 T2 F2 => ?_)
    show kx_wx _ _ _ _ _ _ _ _
    refine ks_aload_n rfl rfl ?_
    refine ks_getr (b := 45) rfl rfl rfl rfl (by decide) ?_
    refine ks_iload rfl rfl ?_
    refine ks_puti rfl rfl ?_
    refine ks_aload_n rfl rfl ?_
    refine ks_iload_n rfl rfl ?_
    refine ks_callv_2 rfl rfl rfl (Nat.le_of_ble_eq_true rfl) ?_
    -- at 31: call Fore_go st []
    have T3 : TR (kx_up μ2 45 10 j) 45 (up1 s 0 j) := by
      have := TRx_10 (v := j) T2
      unfold TR
      rw [up1_ne (by omega)]
      exact this
    have F3 : Fr 45 μ (kx_up μ2 45 10 j) := Fr_up (Fr_tr F F2) (by omega)
    generalize kx_up μ2 45 10 j = μ3 at *
    have W3 := tw_W_wind (v := j) W (by omega) (by omega)
    refine r_go hn W3 T3 (fun μ4 T4 F4 => ?_)
    have W4 := tw_W_go60 W3 (n := n) (by omega)
    have w3 := W4.2.2.1
    have w1 := W4.1
    have e11 := T4.2.2.2.1
    have F5 := Fr_tr F3 F4
    have T5 : TR μ4 30 s := TR_fr T (fun c c0 c1 => by rw [F5 c (by omega), F c (by omega)])
    simp only [q_wi] at q
    show kx_wx _ _ _ _ _ _ _ _
    refine ks_aload_n rfl rfl ?_
    refine ks_getr (b := 45) rfl rfl rfl rfl (by decide) ?_
    refine ks_geti rfl rfl rfl rfl (by (try simp only [kx_up_at, kx_row_at, up1_at, Nat.reduceEqDiff, Int.reduceEq, Int.reduceNeg, and_true, true_and, and_false, false_and, and_self, reduceIte, Nat.add_left_cancel_iff, Nat.add_eq_left, Nat.left_eq_add, Nat.reduceAdd, Int.add_left_inj, Int.add_right_inj, e11]); rfl) ?_
    refine ks_iload_n rfl rfl ?_
    -- at 42: if ne -> 54 else 45 st [None, None]
    refine ks_icmp_ne rfl ⟨by omega, by omega⟩ ⟨by omega, by omega⟩ (fun c2 => ?_) (fun c2 => ?_)
    · refine ks_iload rfl rfl ?_
      refine ks_iconst rfl ?_
      refine ks_iload rfl rfl ?_
      refine ks_ishl rfl (by omega) (by omega) ?_
      refine ks_ior rfl ?_
      refine ks_istore_4 rfl rfl ?_
      refine ks_iinc_5 rfl rfl ?_
      refine ks_goto rfl ?_
      -- at 6: stop  st []
      rw [if_pos c2] at q
      exact ih (j + 1) _ μ4 (by omega) (kx_or_in _ _) q T5 F5
    · refine ks_iinc_5 rfl rfl ?_
      refine ks_goto rfl ?_
      -- at 6: stop  st []
      rw [if_neg c2, kx_or_0 ha] at q
      exact ih (j + 1) _ μ4 (by omega) ha q T5 F5
theorem r_windsThatBring {h : Int} {n : Nat} (hn : n ≤ 60) (hh : kx_in h) (W : tw_W 999 s) (T : TR μ 30 s) (t : ∀ μ', Fr 45 μ μ' → Q (some (kI (q_wi s h n 6 0 0))) (kg L) μ') : kx_cx (ke (d + 5)) 19 [kR 44, kR 30, kI h, kI n] (kg L) μ Q := by
  refine ke_start (tb := kt_Fore_windsThatBring) (ls := [some (kR 44), some (kR 30), some (kI h), some (kI n), none, none]) rfl rfl ?_
  refine ks_iconst rfl ?_
  refine ks_istore_4 rfl rfl ?_
  refine ks_iconst rfl ?_
  refine ks_istore_5 rfl rfl ?_
  -- at 6: stop  st []
  exact l_windsThatBring (μ := μ) hn hh W t 6 0 0 μ (by omega) ⟨by omega, by omega⟩ rfl T (Fr_rf _ _)
theorem l_goesAs {w : Nat} {i : Int} {n : Nat} {f : Int → Int} (hw : w + 1 < 45) (hR : kg_R L w) (i0 : 0 ≤ i) (i1 : i + n ≤ 40) (n1 : n ≤ 16) (hf : ∀ k, f k = μ (w + 1) (i + k)) (hi : ∀ k, 0 ≤ k → k < 40 → kx_in (μ (w + 1) k)) (W : tw_W 999 s) (t1 : q_ga s f n = true → ∀ μ', Fr 45 μ μ' → Q (some (kI 1)) (kg L) μ') (t0 : ¬ q_ga s f n = true → ∀ μ', Fr 45 μ μ' → Q (some (kI 0)) (kg L) μ') : ∀ (r j : Nat) (μ1 : kx_M), j + r = n → q_ga s f j = true → TR μ1 45 (tw_go s j) → Fr 45 μ μ1 → kx_wx (ke (d + 3)) kt_Fore_goesAs Q 3 [some (kR 44), some (kR w), some (kI i), some (kI n), some (kI (i + j))] [] (kg L) μ1 := by
  obtain ⟨g0, g1, g2⟩ := hR
  intro r
  induction r with
  | zero =>
    intro j μ1 hj q T F
    rw [Nat.add_zero] at hj
    subst hj
    refine ks_iload rfl rfl ?_
    refine ks_iload_n rfl rfl ?_
    refine ks_iload_n rfl rfl ?_
    refine ks_iadd rfl ?_
    -- at 8: if ge -> 55 else 11 st [None, None]
    refine ks_icmp_ge rfl ⟨by omega, by omega⟩ ⟨by omega, by omega⟩ (fun c => absurd c (by omega)) (fun c => ?_)
    refine ks_iconst rfl ?_
    refine ks_zreturn rfl (by omega) ?_
    -- at 56: ret  st ['1']
    exact t1 q _ F
  | succ r ih =>
    intro j μ1 hj q T F
    refine ks_iload rfl rfl ?_
    refine ks_iload_n rfl rfl ?_
    refine ks_iload_n rfl rfl ?_
    refine ks_iadd rfl ?_
    -- at 8: if ge -> 55 else 11 st [None, None]
    refine ks_icmp_ge rfl ⟨by omega, by omega⟩ ⟨by omega, by omega⟩ (fun c => ?_) (fun c => absurd c (by omega))
    refine ks_aload_n rfl rfl ?_
    refine ks_getr (b := 45) rfl rfl rfl rfl (by decide) ?_
    refine ks_callv_1 rfl rfl rfl (Nat.le_of_ble_eq_true rfl) ?_
    -- at 15: call Town_takeStep st []
    refine r_takeStep (B := 2000) (by omega) (kg_T45 L) T (tw_W_go60 W (by omega)) (fun μ2 T2 F2 => ?_)
    have F3 := Fr_tr F F2
    have W2 := tw_W_go60 W (n := j + 1) (by omega)
    have w3 : 0 ≤ tw_go s (j + 1) 4 ∧ tw_go s (j + 1) 4 < tw_go s (j + 1) 1 := W2.2.2.1
    have w1 : 1 ≤ tw_go s (j + 1) 1 ∧ tw_go s (j + 1) 1 ≤ 6 := W2.1
    have e11 : μ2 45 11 = tw_go s (j + 1) 4 := T2.2.2.2.1
    have ei : μ2 (w + 1) (i + j) = f j := by rw [F3 (w + 1) (by omega), hf]
    obtain ⟨b0, b1⟩ := hi (i + j) (by omega) (by omega)
    rw [← hf] at b0 b1
    have ej : i + (j : Int) + 1 = i + ((j + 1 : Nat) : Int) := by omega
    have qs : q_ga s f (j + 1) = (decide (f j = -1) || decide (f j = tw_go s (j + 1) 4)) := by simp only [q_ga]; rw [q]; rfl
    show kx_wx _ _ _ _ _ (_ :: _) _ _
    refine ks_pop rfl ?_
    refine ks_aload_n rfl rfl ?_
    refine ks_getr (b := w + 1) rfl rfl (by assumption) (by assumption) (Nat.succ_ne_zero _) ?_
    refine ks_iload rfl rfl ?_
    refine ks_iaload rfl (by assumption) (by omega) (by omega) (by (try simp only [kx_up_at, kx_row_at, up1_at, Nat.reduceEqDiff, Int.reduceEq, Int.reduceNeg, and_true, true_and, and_false, false_and, and_self, reduceIte, Nat.add_left_cancel_iff, Nat.add_eq_left, Nat.left_eq_add, Nat.reduceAdd, Int.add_left_inj, Int.add_right_inj, e11, ei]); rfl) ?_
    refine ks_iconst rfl ?_
    -- at 27: if eq -> 49 else 30 st ['-1', None]
    refine ks_icmp_eq rfl ⟨by omega, by omega⟩ ⟨by omega, by omega⟩ (fun c1 => ?_) (fun c1 => ?_)
    · refine ks_iinc_4 rfl rfl ?_
      refine ks_goto rfl ?_
      -- at 3: stop  st []
      rw [ej]
      exact ih (j + 1) μ2 (by omega) (by rw [qs, decide_eq_true c1]; rfl) T2 F3
    · refine ks_aload_n rfl rfl ?_
      refine ks_getr (b := w + 1) rfl rfl (by assumption) (by assumption) (Nat.succ_ne_zero _) ?_
      refine ks_iload rfl rfl ?_
      refine ks_iaload rfl (by assumption) (by omega) (by omega) (by (try simp only [kx_up_at, kx_row_at, up1_at, Nat.reduceEqDiff, Int.reduceEq, Int.reduceNeg, and_true, true_and, and_false, false_and, and_self, reduceIte, Nat.add_left_cancel_iff, Nat.add_eq_left, Nat.left_eq_add, Nat.reduceAdd, Int.add_left_inj, Int.add_right_inj, e11, ei]); rfl) ?_
      refine ks_aload_n rfl rfl ?_
      refine ks_getr (b := 45) rfl rfl rfl rfl (by decide) ?_
      refine ks_geti rfl rfl rfl rfl (by (try simp only [kx_up_at, kx_row_at, up1_at, Nat.reduceEqDiff, Int.reduceEq, Int.reduceNeg, and_true, true_and, and_false, false_and, and_self, reduceIte, Nat.add_left_cancel_iff, Nat.add_eq_left, Nat.left_eq_add, Nat.reduceAdd, Int.add_left_inj, Int.add_right_inj, e11, ei]); rfl) ?_
      -- at 44: if eq -> 49 else 47 st [None, None]
      refine ks_icmp_eq rfl ⟨by omega, by omega⟩ ⟨by omega, by omega⟩ (fun c2 => ?_) (fun c2 => ?_)
      · refine ks_iinc_4 rfl rfl ?_
        refine ks_goto rfl ?_
        -- at 3: stop  st []
        rw [ej]
        exact ih (j + 1) μ2 (by omega) (by rw [qs, decide_eq_true c2, Bool.or_true]) T2 F3
      · refine ks_iconst rfl ?_
        refine ks_zreturn rfl (by omega) ?_
        -- at 48: ret  st ['0']
        refine t0 ?_ _ F3
        rw [q_ga_no (j := j + 1) (by rw [qs, decide_eq_false c1, decide_eq_false c2]; rfl) (by omega)]
        exact Bool.false_ne_true
theorem r_goesAs {w : Nat} {i : Int} {n : Nat} {f : Int → Int} (hw : w + 1 < 45) (hR : kg_R L w) (i0 : 0 ≤ i) (i1 : i + n ≤ 40) (n1 : n ≤ 16) (hf : ∀ k, f k = μ (w + 1) (i + k)) (hi : ∀ k, 0 ≤ k → k < 40 → kx_in (μ (w + 1) k)) (W : tw_W 999 s) (T : TR μ 45 s) (t1 : q_ga s f n = true → ∀ μ', Fr 45 μ μ' → Q (some (kI 1)) (kg L) μ') (t0 : ¬ q_ga s f n = true → ∀ μ', Fr 45 μ μ' → Q (some (kI 0)) (kg L) μ') : kx_cx (ke (d + 4)) 24 [kR 44, kR w, kI i, kI n] (kg L) μ Q := by
  refine ke_start (tb := kt_Fore_goesAs) (ls := [some (kR 44), some (kR w), some (kI i), some (kI n), none]) rfl rfl ?_
  refine ks_iload_n rfl rfl ?_
  refine ks_istore_4 rfl rfl ?_
  -- at 3: stop  st []
  have := l_goesAs (μ := μ) (d := d) hw hR i0 i1 n1 hf hi W t1 t0 n 0 μ (by omega) rfl T (Fr_rf _ _)
  rw [show i + ((0 : Nat) : Int) = i by omega] at this
  exact this
end FP
