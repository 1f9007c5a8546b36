/-! reading a town: what is read, as functions; the class's tape -/
/-- how many figures stand at p, of r bytes -/
def fgr (T : Int → Int) : Nat → Int → Int
  | 0, _ => 0
  | r + 1, p => if 48 ≤ T p ∧ T p ≤ 57 then 1 + fgr T r (p + 1) else 0
def fg (T : Int → Int) (n p : Int) : Int := fgr T (n - p).toNat p
def nv (T : Int → Int) (p f : Int) : Int := if f = 1 then T p - 48 else 10 * (T p - 48) + T (p + 1) - 48
theorem fgr_in (T : Int → Int) : ∀ (r : Nat) (p : Int), 0 ≤ fgr T r p ∧ fgr T r p ≤ r := by
  intro r
  induction r with
  | zero => intro p; exact ⟨Int.le_refl 0, Int.le_refl 0⟩
  | succ r ih => intro p; simp only [fgr]; have := ih (p + 1); split <;> omega
theorem fg_in {T : Int → Int} {n p : Int} (h : p ≤ n) : 0 ≤ fg T n p ∧ p + fg T n p ≤ n := by
  have := fgr_in T (n - p).toNat p
  unfold fg
  omega
theorem fg_fig {T : Int → Int} : ∀ (r : Nat) (p i : Int), 0 ≤ i → i < fgr T r p → 48 ≤ T (p + i) ∧ T (p + i) ≤ 57 := by
  intro r
  induction r with
  | zero => intro p i i0 i1; simp only [fgr] at i1; omega
  | succ r ih =>
    intro p i i0 i1
    simp only [fgr] at i1
    by_cases c : 48 ≤ T p ∧ T p ≤ 57
    · rw [if_pos c] at i1
      by_cases e : i = 0
      · subst e; rw [Int.add_zero]; exact c
      · have := ih (p + 1) (i - 1) (by omega) (by omega)
        rw [show p + 1 + (i - 1) = p + i by omega] at this
        exact this
    · rw [if_neg c] at i1; omega
theorem nv_in {T : Int → Int} {n p : Int} (h1 : 1 ≤ fg T n p) (h2 : fg T n p ≤ 2) : 0 ≤ nv T p (fg T n p) ∧ nv T p (fg T n p) ≤ 99 := by
  have a := fg_fig (T := T) (n - p).toNat p 0 (Int.le_refl 0) (by unfold fg at h1; omega)
  rw [Int.add_zero] at a
  unfold nv
  by_cases c : fg T n p = 1
  · rw [if_pos c]; omega
  · rw [if_neg c]
    have b := fg_fig (T := T) (n - p).toNat p 1 (by omega) (by unfold fg at h1 h2 c; omega)
    omega
def kdo (c : Int) : Int := if c = 102 then 1 else if c = 115 then 2 else if c = 116 then 3 else if c = 119 then 4 else if c = 98 then 5 else 0
theorem kdo_in (c : Int) : 0 ≤ kdo c ∧ kdo c ≤ 5 := by unfold kdo; repeat (first | omega | split)
abbrev PR (α : Type) : Type := (Int × Int) ⊕ α
def ps_num {α : Type} (T : Int → Int) (n p lo hi : Int) (k : Int → Int → PR α) : PR α := if fg T n p = 0 ∨ 2 < fg T n p then .inl (1, p) else if nv T p (fg T n p) < lo ∨ hi < nv T p (fg T n p) then .inl (2, p) else k (nv T p (fg T n p)) (p + fg T n p)
def ps_tk {α : Type} (T : Int → Int) (n p c : Int) (k : PR α) : PR α := if p < n ∧ T p = c then k else .inl (1, p)
def adh (s : Int → Int) (k a b : Int) : Int → Int := up1 (up1 (up1 (up1 s (6 + s 1) k) (12 + s 1) a) (18 + s 1) b) 1 (s 1 + 1)
def ado (s : Int → Int) (x : Int) : Int → Int := up1 (up1 (up1 s (30 + s 2) x) (34 + s 2) x) 2 (s 2 + 1)
def ps_head (T : Int → Int) (n k p : Int) (s : Int → Int) : PR (Int × (Int → Int)) := if 6 ≤ s 1 then .inl (3, p) else ps_num T n (p + 1) 1 9 (fun a p1 => ps_tk T n p1 44 (ps_num T n (p1 + 1) 0 15 (fun b p2 => ps_tk T n p2 59 (.inr (p2 + 1, adh s k a b)))))
def ps_order (T : Int → Int) (n p : Int) (s : Int → Int) : PR (Int × (Int → Int)) := if (p < n ∧ T p = 111) ∧ 4 ≤ s 2 then .inl (3, p) else ps_tk T n p 111 (ps_num T n (p + 1) 1 40 (fun x p1 => ps_tk T n p1 59 (.inr (p1 + 1, ado s x))))
def ps_orders (T : Int → Int) (n : Int) : Nat → Int → (Int → Int) → PR (Int × (Int → Int))
  | 0, p, _ => .inl (3, p)
  | r + 1, p, s => if n ≤ p then .inr (p, s) else match ps_order T n p s with
    | .inl q => .inl q
    | .inr (p', s') => ps_orders T n r p' s'
/-- what stands at p: -1 at the end -/
def nx (T : Int → Int) (n p : Int) : Int := if p < n then T p else -1
def ps_heads (T : Int → Int) (n : Int) : Nat → Int → (Int → Int) → PR (Int × (Int → Int))
  | 0, p, _ => .inl (3, p)
  | r + 1, p, s => if kdo (nx T n p) = 0 then (if s 1 = 0 then .inl (1, p) else .inr (p, s)) else match ps_head T n (kdo (nx T n p)) p s with
    | .inl q => .inl q
    | .inr (p', s') => ps_heads T n r p' s'
def ps_law (T : Int → Int) (n : Int) : PR (Int × (Int → Int)) := ps_tk T n 0 104 (ps_num T n 1 0 5 (fun v p1 => ps_tk T n p1 59 (.inr (p1 + 1, up1 (fun _ => 0) 0 v))))
def ps_town (T : Int → Int) (n : Int) : PR (Int × (Int → Int)) := match ps_law T n with
  | .inl q => .inl q
  | .inr (p, s) => match ps_heads T n 7 p s with
    | .inl q => .inl q
    | .inr (p', s') => ps_orders T n 5 p' s'
/-- a town on the way -/
def PS (s : Int → Int) : Prop := (0 ≤ s 1 ∧ s 1 ≤ 6) ∧ (0 ≤ s 2 ∧ s 2 ≤ 4) ∧ (0 ≤ s 0 ∧ s 0 ≤ 5) ∧ (s 3 = 0 ∧ s 4 = 0 ∧ s 5 = 0) ∧ (∀ k, k < 0 ∨ 24 ≤ k ∧ k < 30 ∨ 38 ≤ k → s k = 0) ∧
  (∀ i, 0 ≤ i → i < s 1 → (1 ≤ s (6 + i) ∧ s (6 + i) ≤ 5) ∧ (1 ≤ s (12 + i) ∧ s (12 + i) ≤ 9) ∧ (0 ≤ s (18 + i) ∧ s (18 + i) ≤ 15)) ∧
  (∀ k, 0 ≤ k → k < s 2 → (1 ≤ s (30 + k) ∧ s (30 + k) ≤ 40) ∧ (1 ≤ s (34 + k) ∧ s (34 + k) ≤ 40))
theorem PS_W {s : Int → Int} (h : PS s) (h1 : 1 ≤ s 1) : tw_W 999 s ∧ tw_Z s := by
  obtain ⟨a1, a2, a3, a4, a5, a6, a7⟩ := h
  refine ⟨⟨by omega, by omega, by omega, by omega, by omega, by omega, fun i i0 i1 => ?_, fun k k0 k1 => ?_⟩, fun k hk => a5 k (by omega)⟩
  · have := a6 i i0 i1
    have z := a5 (24 + i) (by omega)
    omega
  · have := a7 k k0 k1
    have z := a5 (38 + k) (by omega)
    omega
theorem PS_wind {v : Int} (h0 : 0 ≤ v) (h1 : v ≤ 5) : PS (up1 (fun _ => 0) 0 v) := by
  refine ⟨?_, ?_, ?_, ?_, fun k hk => ?_, fun i i0 i1 => ?_, fun k k0 k1 => ?_⟩
  · rw [up1_ne (by omega)]; omega
  · rw [up1_ne (by omega)]; omega
  · rw [up1_self]; omega
  · exact ⟨by rw [up1_ne (by omega)], by rw [up1_ne (by omega)], by rw [up1_ne (by omega)]⟩
  · rw [up1_ne (by omega)]
  · rw [up1_ne (by omega)] at i1; omega
  · rw [up1_ne (by omega)] at k1; omega
theorem PS_adh {s : Int → Int} {k a b : Int} (h : PS s) (h2 : s 1 < 6) (k0 : 1 ≤ k) (k1 : k ≤ 5) (a0 : 1 ≤ a) (a1 : a ≤ 9) (b0 : 0 ≤ b) (b1 : b ≤ 15) : PS (adh s k a b) ∧ adh s k a b 1 = s 1 + 1 ∧ adh s k a b 2 = s 2 := by
  obtain ⟨c1, c2, c3, c4, c5, c6, c7⟩ := h
  unfold adh
  refine ⟨⟨?_, ?_, ?_, ?_, fun k hk => ?_, fun i i0 i1 => ?_, fun k k0 k1 => ?_⟩, by rw [up1_self], by simp (disch := omega) only [up1_ne]⟩
  · rw [up1_self]; omega
  · simp (disch := omega) only [up1_ne]; exact c2
  · simp (disch := omega) only [up1_ne]; exact c3
  · simp (disch := omega) only [up1_ne]; exact c4
  · simp (disch := omega) only [up1_ne]; exact c5 k hk
  · rw [up1_self] at i1
    by_cases e : i = s 1
    · subst e
      simp (disch := omega) only [up1_ne, up1_self]
      omega
    · simp (disch := omega) only [up1_ne]; exact c6 i i0 (by omega)
  · simp (disch := omega) only [up1_ne] at k1
    simp (disch := omega) only [up1_ne]; exact c7 k k0 k1
theorem PS_ado {s : Int → Int} {x : Int} (h : PS s) (h2 : s 2 < 4) (x0 : 1 ≤ x) (x1 : x ≤ 40) : PS (ado s x) ∧ ado s x 1 = s 1 ∧ ado s x 2 = s 2 + 1 := by
  obtain ⟨c1, c2, c3, c4, c5, c6, c7⟩ := h
  unfold ado
  refine ⟨⟨?_, ?_, ?_, ?_, fun k hk => ?_, fun i i0 i1 => ?_, fun k k0 k1 => ?_⟩, by simp (disch := omega) only [up1_ne], by rw [up1_self]⟩
  · simp (disch := omega) only [up1_ne]; exact c1
  · rw [up1_self]; omega
  · simp (disch := omega) only [up1_ne]; exact c3
  · simp (disch := omega) only [up1_ne]; exact c4
  · simp (disch := omega) only [up1_ne]; exact c5 k hk
  · simp (disch := omega) only [up1_ne] at i1
    simp (disch := omega) only [up1_ne]; exact c6 i i0 i1
  · rw [up1_self] at k1
    by_cases e : k = s 2
    · subst e
      simp (disch := omega) only [up1_ne, up1_self]
      omega
    · simp (disch := omega) only [up1_ne]; exact c7 k k0 (by omega)
theorem up1_id {s : Int → Int} {i v : Int} (h : s i = v) : up1 s i v = s := by
  funext j
  by_cases e : j = i
  · subst e; rw [up1_self, h]
  · rw [up1_ne e]
def FrP (μ μ' : kx_M) : Prop := (∀ j, j < 2 ∨ 5 < j → μ' 19 j = μ 19 j) ∧ ∀ c, c ≠ 19 → c < 21 ∨ 29 < c → μ' c = μ c
theorem FrP_rf (μ : kx_M) : FrP μ μ := ⟨fun _ _ => rfl, fun _ _ _ => rfl⟩
theorem FrP_tr {μ μ1 μ2 : kx_M} (h : FrP μ μ1) (k : FrP μ1 μ2) : FrP μ μ2 := ⟨fun j a => (k.1 j a).trans (h.1 j a), fun c a b => (k.2 c a b).trans (h.2 c a b)⟩
theorem FrP_up {μ μ1 : kx_M} {i v : Int} (h : FrP μ μ1) (hi : 2 ≤ i ∧ i ≤ 5) : FrP μ (kx_up μ1 19 i v) := ⟨fun j a => by rw [kx_up_oth (by omega)]; exact h.1 j a, fun c a b => by rw [kx_up_row a]; exact h.2 c a b⟩
theorem FrP_21 {μ μ1 μ2 : kx_M} (h : FrP μ μ1) (k : Fr 21 μ1 μ2) : FrP μ μ2 := ⟨fun j a => by rw [k 19 (by omega)]; exact h.1 j a, fun c a b => by rw [k c (by omega)]; exact h.2 c a b⟩
section PA
variable {d L : Nat} {G : kx_G} {μ : kx_M} {Q : Option kx_V → kx_G → kx_M → Prop} {s T : Int → Int} {n p c : Int}
theorem l_ioc {c i x : Int} (hx : μ 106 i = x) (i0 : 0 ≤ i) (i1 : i < 5) (c0 : 97 ≤ c) (c1 : c ≤ 122) (hb : 0 ≤ x ∧ x ≤ 127) (t1 : x = c → Q (some (kI i)) (kg L) μ) (t0 : x ≠ c → kx_wx (ke d) kt_SL1_indexOfChar Q 7 [some (kR 106), some (kI c), some (kI 0), some (kI 5), some (kI c), some (kI (i + 1))] [] (kg L) μ) : kx_wx (ke d) kt_SL1_indexOfChar Q 7 [some (kR 106), some (kI c), some (kI 0), some (kI 5), some (kI c), some (kI i)] [] (kg L) μ := by
  refine ks_iload rfl rfl ?_
  refine ks_iload_n rfl rfl ?_
  -- at 10: if ge -> 31 else 13 st [None, None]
  refine ks_icmp_ge rfl ⟨by omega, by omega⟩ ⟨by omega, by omega⟩ (fun q => ?_) (fun q => absurd q (by omega))
  refine ks_aload_n rfl rfl ?_
  refine ks_iload rfl rfl ?_
  refine ks_baload10 rfl (by show (0 : Nat) ≠ 4; decide) (by omega) (by omega) (by (try simp only [kx_up_at, kx_row_at, up1_at, Nat.reduceEqDiff, Int.reduceEq, Int.reduceNeg, and_true, true_and, and_false, false_and, and_self, reduceIte, Nat.add_left_cancel_iff, Nat.add_eq_left, Nat.left_eq_add, Nat.reduceAdd, Int.add_left_inj, Int.add_right_inj]); rfl) ?_
  refine ks_iload rfl rfl ?_
  -- at 19: if ne -> 25 else 22 st [None, None]
  rw [hx]
  refine ks_icmp_ne rfl ⟨by omega, by omega⟩ ⟨by omega, by omega⟩ (fun q2 => ?_) (fun q2 => ?_)
  · refine ks_iload rfl rfl ?_
    refine ks_ireturn rfl ?_
    -- at 24: ret  st [None]
    exact t1 q2
  · refine ks_iinc_5 rfl rfl ?_
    refine ks_goto rfl ?_
    -- at 7: stop  st []
    exact t0 q2
theorem r_ioc (B : TB μ) (c0 : 97 ≤ c) (c1 : c ≤ 122) (t : Q (some (kI (kdo c - 1))) (kg L) μ) : kx_cx (ke (d + 1)) 203 [kR 106, kI c, kI 0, kI 5] (kg L) μ Q := by
  refine ke_start (tb := kt_SL1_indexOfChar) (ls := [some (kR 106), some (kI c), some (kI 0), some (kI 5), none, none]) rfl rfl ?_
  obtain ⟨b1, b2, b3, b4⟩ := B
  have z0 : μ 106 0 = 102 := by rw [b4]; rfl
  have z1 : μ 106 1 = 115 := by rw [b4]; rfl
  have z2 : μ 106 2 = 116 := by rw [b4]; rfl
  have z3 : μ 106 3 = 119 := by rw [b4]; rfl
  have z4 : μ 106 4 = 98 := by rw [b4]; rfl
  have em : c.bmod 256 = c := by rw [Int.bmod_def]; split <;> omega
  unfold kdo at t
  refine ks_iload_n rfl rfl ?_
  refine ks_i2b rfl ?_
  refine ks_istore_4 rfl rfl ?_
  refine ks_iload_n rfl rfl ?_
  refine ks_istore_5 rfl rfl ?_
  -- at 7: stop  st []
  rw [em]
  refine l_ioc (i := 0) z0 (by omega) (by omega) c0 c1 (by omega) (fun q => ?_) (fun q1 => ?_)
  · rw [if_pos q.symm] at t; exact t
  refine l_ioc (i := 0 + 1) z1 (by omega) (by omega) c0 c1 (by omega) (fun q => ?_) (fun q2 => ?_)
  · rw [if_neg (by omega), if_pos q.symm] at t; exact t
  refine l_ioc (i := 0 + 1 + 1) z2 (by omega) (by omega) c0 c1 (by omega) (fun q => ?_) (fun q3 => ?_)
  · rw [if_neg (by omega), if_neg (by omega), if_pos q.symm] at t; exact t
  refine l_ioc (i := 0 + 1 + 1 + 1) z3 (by omega) (by omega) c0 c1 (by omega) (fun q => ?_) (fun q4 => ?_)
  · rw [if_neg (by omega), if_neg (by omega), if_neg (by omega), if_pos q.symm] at t; exact t
  refine l_ioc (i := 0 + 1 + 1 + 1 + 1) z4 (by omega) (by omega) c0 c1 (by omega) (fun q => ?_) (fun q5 => ?_)
  · rw [if_neg (by omega), if_neg (by omega), if_neg (by omega), if_neg (by omega), if_pos q.symm] at t; exact t
  · rw [if_neg (by omega), if_neg (by omega), if_neg (by omega), if_neg (by omega), if_neg (by omega)] at t
    refine ks_iload rfl rfl ?_
    refine ks_iload_n rfl rfl ?_
    -- at 10: if ge -> 31 else 13 st [None, None]
    refine ks_icmp_ge rfl ⟨by omega, by omega⟩ ⟨by omega, by omega⟩ (fun q => absurd q (by omega)) (fun q => ?_)
    refine ks_iconst rfl ?_
    refine ks_ireturn rfl ?_
    -- at 32: ret  st ['-1']
    exact t
theorem r_sl1 (B : TB μ) (c0 : 97 ≤ c) (c1 : c ≤ 122) (t : Q (some (kI (kdo c - 1))) (kg L) μ) : kx_cx (ke (d + 2)) 202 [kR 106, kI c, kI 0, kI 5] (kg L) μ Q := by
  refine ke_start (tb := kt_SL1_indexOf) (ls := [some (kR 106), some (kI c), some (kI 0), some (kI 5)]) rfl rfl ?_
  refine ks_iload_n rfl rfl ?_
  refine ks_calls_1 rfl (Nat.le_of_ble_eq_true rfl) ?_
  -- at 1: call SL1_canEncode st []
  refine ke_start (m := 201) (tb := kt_SL1_canEncode) (ls := [some (kI c)]) rfl rfl ?_
  refine ks_iload_n rfl rfl ?_
  -- at 1: if lt -> 15 else 4 st [None]
  refine ks_if_lt rfl ⟨by omega, by omega⟩ (fun q => absurd q (by omega)) (fun q => ?_)
  refine ks_iload_n rfl rfl ?_
  refine ks_sipush rfl ?_
  -- at 8: if gt -> 15 else 11 st ['255', None]
  refine ks_icmp_gt rfl ⟨by omega, by omega⟩ ⟨by omega, by omega⟩ (fun q2 => absurd q2 (by omega)) (fun q2 => ?_)
  refine ks_iconst rfl ?_
  refine ks_goto rfl ?_
  refine ks_zreturn rfl (by omega) ?_
  -- at 16: ret  st ['1']
  show kx_wx _ _ _ _ _ (_ :: _) _ _
  refine ks_if_ne_1 rfl ?_
  refine ks_iload_n rfl rfl ?_
  refine ks_iconst rfl ?_
  refine ks_calls_2 rfl (Nat.le_of_ble_eq_true rfl) ?_
  -- at 11: call Math_max st []
  refine r_max ⟨by omega, by omega⟩ ⟨by omega, by omega⟩ ?_
  show kx_wx _ _ _ _ _ (_ :: _) _ _
  refine ks_istore_n_2 rfl rfl ?_
  refine ks_iload_n rfl rfl ?_
  refine ks_aload_n rfl rfl ?_
  refine ks_arraylength10 rfl (by show (0 : Nat) ≠ 2; decide) ?_
  refine ks_calls_2 rfl (Nat.le_of_ble_eq_true rfl) ?_
  -- at 18: call Math_min st []
  refine r_min ⟨by omega, by omega⟩ ⟨by omega, by omega⟩ ?_
  show kx_wx _ _ _ _ _ (_ :: _) _ _
  refine ks_istore_n_3 rfl rfl ?_
  refine ks_iload_n rfl rfl ?_
  refine ks_iload_n rfl rfl ?_
  -- at 24: if lt -> 29 else 27 st [None, None]
  rw [show max (0 : Int) 0 = 0 from rfl, show min (5 : Int) 5 = 5 from rfl]
  refine ks_icmp_lt rfl ⟨by omega, by omega⟩ ⟨by omega, by omega⟩ (fun q3 => ?_) (fun q3 => absurd q3 (by omega))
  refine ks_aload_n rfl rfl ?_
  refine ks_iload_n rfl rfl ?_
  refine ks_iload_n rfl rfl ?_
  refine ks_iload_n rfl rfl ?_
  refine ks_calls_4 rfl (Nat.le_of_ble_eq_true rfl) ?_
  -- at 33: call SL1_indexOfChar st []
  refine r_ioc B c0 c1 ?_
  show kx_wx _ _ _ _ _ (_ :: _) _ _
  refine ks_ireturn rfl ?_
  -- at 36: ret  st [None]
  exact t
theorem r_strLen (t : Q (some (kI 5)) (kg L) μ) : kx_cx (ke (d + 2)) 196 [kR 105] (kg L) μ Q := by
  refine ke_start (tb := kt_Str_length) (ls := [some (kR 105)]) rfl rfl ?_
  refine ks_aload_n rfl rfl ?_
  refine ks_getSr rfl ?_
  refine ks_arraylength10 rfl (by show (0 : Nat) ≠ 2; decide) ?_
  refine ks_aload_n rfl rfl ?_
  refine ks_callvS_1 rfl (Nat.le_of_ble_eq_true rfl) ?_
  -- at 6: call Str_coder st ['5']
  refine ke_start (m := 199) (tb := kt_Str_coder) (ls := [some (kR 105)]) rfl rfl ?_
  refine ks_getstaticI rfl ?_
  refine ks_if_eq_1 rfl ?_
  refine ks_aload_n rfl rfl ?_
  refine ks_getSi rfl ?_
  refine ks_goto rfl ?_
  refine ks_zreturn rfl (by omega) ?_
  -- at 14: ret  st ['0']
  show kx_wx _ _ _ _ _ (_ :: _) _ _
  refine ks_ishr rfl (by omega) (by omega) ?_
  refine ks_ireturn rfl ?_
  -- at 10: ret  st [None]
  have e : (5 : Int).bmod 4294967296 / 2 ^ (0 : Int).toNat = 5 := by decide
  rw [e]
  exact t
theorem r_indexOf2 (B : TB μ) (c0 : 97 ≤ c) (c1 : c ≤ 122) (t : Q (some (kI (kdo c - 1))) (kg L) μ) : kx_cx (ke (d + 3)) 198 [kR 105, kI c, kI 0] (kg L) μ Q := by
  refine ke_start (tb := kt_Str_indexOf2) (ls := [some (kR 105), some (kI c), some (kI 0)]) rfl rfl ?_
  refine ks_aload_n rfl rfl ?_
  refine ks_callvS_1 rfl (Nat.le_of_ble_eq_true rfl) ?_
  -- at 1: call Str_isLatin1 st []
  refine ke_start (m := 200) (tb := kt_Str_isLatin1) (ls := [some (kR 105)]) rfl rfl ?_
  refine ks_getstaticI rfl ?_
  refine ks_if_eq_1 rfl ?_
  refine ks_aload_n rfl rfl ?_
  refine ks_getSi rfl ?_
  refine ks_if_ne_0 rfl ?_
  refine ks_iconst rfl ?_
  refine ks_goto rfl ?_
  refine ks_zreturn rfl (by omega) ?_
  -- at 18: ret  st ['1']
  show kx_wx _ _ _ _ _ (_ :: _) _ _
  refine ks_if_eq_1 rfl ?_
  refine ks_aload_n rfl rfl ?_
  refine ks_getSr rfl ?_
  refine ks_iload_n rfl rfl ?_
  refine ks_iload_n rfl rfl ?_
  refine ks_aload_n rfl rfl ?_
  refine ks_callvS_1 rfl (Nat.le_of_ble_eq_true rfl) ?_
  -- at 14: call Str_length st [None, None, '106']
  refine r_strLen ?_
  show kx_wx _ _ _ _ _ (_ :: _) _ _
  refine ks_calls_4 rfl (Nat.le_of_ble_eq_true rfl) ?_
  -- at 17: call SL1_indexOf st []
  refine r_sl1 B c0 c1 ?_
  show kx_wx _ _ _ _ _ (_ :: _) _ _
  refine ks_goto rfl ?_
  refine ks_ireturn rfl ?_
  -- at 36: ret  st [None]
  exact t
theorem r_told (B : TB μ) (c0 : -1 ≤ c) (c1 : c ≤ 255) (t : Q (some (kI (kdo c))) (kg L) μ) : kx_cx (ke (d + 5)) 27 [kI c] (kg L) μ Q := by
  refine ke_start (tb := kt_Kinds_told) (ls := [some (kI c), none]) rfl rfl ?_
  refine ks_bipush rfl ?_
  refine ks_iload_n rfl rfl ?_
  -- at 3: if gt -> 16 else 6 st [None, '97']
  refine ks_icmp_gt rfl ⟨by omega, by omega⟩ ⟨by omega, by omega⟩ (fun q => ?_) (fun q => ?_)
  · have e : kdo c = 0 := by unfold kdo; rw [if_neg (by omega), if_neg (by omega), if_neg (by omega), if_neg (by omega), if_neg (by omega)]
    rw [e] at t
    refine ks_iconst rfl ?_
    refine ks_istore_n_1 rfl rfl ?_
    refine ks_iload_n rfl rfl ?_
    refine ks_if_eq_0 rfl ?_
    refine ks_iconst rfl ?_
    refine ks_ireturn rfl ?_
    -- at 35: ret  st ['0']
    exact t
  · refine ks_iload_n rfl rfl ?_
    refine ks_bipush rfl ?_
    -- at 9: if gt -> 16 else 12 st ['122', None]
    refine ks_icmp_gt rfl ⟨by omega, by omega⟩ ⟨by omega, by omega⟩ (fun q2 => ?_) (fun q2 => ?_)
    · have e : kdo c = 0 := by unfold kdo; rw [if_neg (by omega), if_neg (by omega), if_neg (by omega), if_neg (by omega), if_neg (by omega)]
      rw [e] at t
      refine ks_iconst rfl ?_
      refine ks_istore_n_1 rfl rfl ?_
      refine ks_iload_n rfl rfl ?_
      refine ks_if_eq_0 rfl ?_
      refine ks_iconst rfl ?_
      refine ks_ireturn rfl ?_
      -- at 35: ret  st ['0']
      exact t
    · refine ks_iconst rfl ?_
      refine ks_goto rfl ?_
      refine ks_istore_n_1 rfl rfl ?_
      refine ks_iload_n rfl rfl ?_
      refine ks_if_eq_1 rfl ?_
      refine ks_ldcS rfl ?_
      refine ks_iload_n rfl rfl ?_
      refine ks_i2c rfl ?_
      refine ks_callvS_2 rfl (Nat.le_of_ble_eq_true rfl) ?_
      -- at 26: call Str_indexOf st []
      have em : c % 65536 = c := by omega
      rw [em]
      refine ke_start (m := 197) (tb := kt_Str_indexOf) (ls := [some (kR 105), some (kI c)]) rfl rfl ?_
      refine ks_aload_n rfl rfl ?_
      refine ks_iload_n rfl rfl ?_
      refine ks_iconst rfl ?_
      refine ks_callvS_3 rfl (Nat.le_of_ble_eq_true rfl) ?_
      -- at 3: call Str_indexOf2 st []
      refine r_indexOf2 B (by omega) (by omega) ?_
      show kx_wx _ _ _ _ _ (_ :: _) _ _
      refine ks_ireturn rfl ?_
      -- at 6: ret  st [None]
      show kx_wx _ _ _ _ _ (_ :: _) _ _
      refine ks_iconst rfl ?_
      refine ks_iadd rfl ?_
      refine ks_goto rfl ?_
      refine ks_ireturn rfl ?_
      -- at 35: ret  st [None]
      rw [show kdo c - 1 + 1 = kdo c by omega]
      exact t
theorem r_next (hn : μ 19 1 = n) (hp : μ 19 4 = p) (hT : μ 20 = T) (n1 : n ≤ 120) (p0 : 0 ≤ p) (p1 : p ≤ n) (t : Q (some (kI (nx T n p))) (kg L) μ) : kx_cx (ke (d + 1)) 50 [kR 19] (kg L) μ Q := by
  refine ke_start (tb := kt_Tape_next) (ls := [some (kR 19)]) rfl rfl ?_
  unfold nx at t
  refine ks_aload_n rfl rfl ?_
  refine ks_geti rfl rfl rfl rfl (by (try simp only [kx_up_at, kx_row_at, up1_at, Nat.reduceEqDiff, Int.reduceEq, Int.reduceNeg, and_true, true_and, and_false, false_and, and_self, reduceIte, Nat.add_left_cancel_iff, Nat.add_eq_left, Nat.left_eq_add, Nat.reduceAdd, Int.add_left_inj, Int.add_right_inj, hn, hp, hT]); rfl) ?_
  refine ks_aload_n rfl rfl ?_
  refine ks_geti rfl rfl rfl rfl (by (try simp only [kx_up_at, kx_row_at, up1_at, Nat.reduceEqDiff, Int.reduceEq, Int.reduceNeg, and_true, true_and, and_false, false_and, and_self, reduceIte, Nat.add_left_cancel_iff, Nat.add_eq_left, Nat.left_eq_add, Nat.reduceAdd, Int.add_left_inj, Int.add_right_inj, hn, hp, hT]); rfl) ?_
  -- at 8: if ge -> 23 else 11 st [None, None]
  refine ks_icmp_ge rfl ⟨by omega, by omega⟩ ⟨by omega, by omega⟩ (fun q => ?_) (fun q => ?_)
  · rw [if_pos q] at t
    refine ks_aload_n rfl rfl ?_
    refine ks_getr (b := 20) rfl rfl rfl rfl (by decide) ?_
    refine ks_aload_n rfl rfl ?_
    refine ks_geti rfl rfl rfl rfl (by (try simp only [kx_up_at, kx_row_at, up1_at, Nat.reduceEqDiff, Int.reduceEq, Int.reduceNeg, and_true, true_and, and_false, false_and, and_self, reduceIte, Nat.add_left_cancel_iff, Nat.add_eq_left, Nat.left_eq_add, Nat.reduceAdd, Int.add_left_inj, Int.add_right_inj, hn, hp, hT]); rfl) ?_
    refine ks_iaload rfl rfl (by omega) (by omega) (by (try simp only [kx_up_at, kx_row_at, up1_at, Nat.reduceEqDiff, Int.reduceEq, Int.reduceNeg, and_true, true_and, and_false, false_and, and_self, reduceIte, Nat.add_left_cancel_iff, Nat.add_eq_left, Nat.left_eq_add, Nat.reduceAdd, Int.add_left_inj, Int.add_right_inj, hn, hp, hT]); rfl) ?_
    refine ks_goto rfl ?_
    refine ks_ireturn rfl ?_
    -- at 24: ret  st [None]
    exact t
  · rw [if_neg q] at t
    refine ks_iconst rfl ?_
    refine ks_ireturn rfl ?_
    -- at 24: ret  st ['-1']
    exact t
theorem r_refuse {f : Int} (hp : μ 19 4 = p) (t : Q (some (kI 0)) (kg L) (kx_up (kx_up μ 19 2 f) 19 3 p)) : kx_cx (ke (d + 1)) 51 [kR 19, kI f] (kg L) μ Q := by
  refine ke_start (tb := kt_Tape_refuse) (ls := [some (kR 19), some (kI f)]) rfl rfl ?_
  refine ks_aload_n rfl rfl ?_
  refine ks_iload_n rfl rfl ?_
  refine ks_puti rfl rfl ?_
  refine ks_aload_n rfl rfl ?_
  refine ks_aload_n rfl rfl ?_
  refine ks_geti rfl rfl rfl rfl (by (try simp only [kx_up_at, kx_row_at, up1_at, Nat.reduceEqDiff, Int.reduceEq, Int.reduceNeg, and_true, true_and, and_false, false_and, and_self, reduceIte, Nat.add_left_cancel_iff, Nat.add_eq_left, Nat.left_eq_add, Nat.reduceAdd, Int.add_left_inj, Int.add_right_inj, hp]); rfl) ?_
  refine ks_puti rfl rfl ?_
  refine ks_iconst rfl ?_
  refine ks_zreturn rfl (by omega) ?_
  -- at 14: ret  st ['0']
  exact t
theorem nx_in (hb : ∀ i, 0 ≤ T i ∧ T i ≤ 255) : -1 ≤ nx T n p ∧ nx T n p ≤ 255 := by
  have := hb p
  unfold nx
  split <;> omega
theorem nx_c (c0 : 0 ≤ c) : nx T n p = c ↔ (p < n ∧ T p = c) := by
  unfold nx
  by_cases h : p < n
  · rw [if_pos h]; exact ⟨fun q => ⟨h, q⟩, fun q => q.2⟩
  · rw [if_neg h]; exact ⟨fun q => by omega, fun q => absurd q.1 h⟩
theorem r_take (hb : ∀ i, 0 ≤ T i ∧ T i ≤ 255) (hn : μ 19 1 = n) (hp : μ 19 4 = p) (hT : μ 20 = T) (n1 : n ≤ 120) (p0 : 0 ≤ p) (p1 : p ≤ n) (c0 : 0 ≤ c) (c1 : c ≤ 255) (t1 : p < n ∧ T p = c → Q (some (kI 1)) (kg L) (kx_up μ 19 4 (p + 1))) (t0 : ¬ (p < n ∧ T p = c) → Q (some (kI 0)) (kg L) (kx_up (kx_up μ 19 2 1) 19 3 p)) : kx_cx (ke (d + 2)) 47 [kR 19, kI c] (kg L) μ Q := by
  refine ke_start (tb := kt_Tape_take) (ls := [some (kR 19), some (kI c)]) rfl rfl ?_
  have hx := nx_in (n := n) (p := p) hb
  refine ks_aload_n rfl rfl ?_
  refine ks_callv_1 rfl rfl rfl (Nat.le_of_ble_eq_true rfl) ?_
  -- at 1: call Tape_next st []
  refine r_next hn hp hT n1 p0 p1 ?_
  show kx_wx _ _ _ _ _ (_ :: _) _ _
  refine ks_iload_n rfl rfl ?_
  -- at 5: if eq -> 14 else 8 st [None, None]
  refine ks_icmp_eq rfl ⟨by omega, by omega⟩ ⟨by omega, by omega⟩ (fun q => ?_) (fun q => ?_)
  · refine ks_aload_n rfl rfl ?_
    refine ks_dupR rfl ?_
    refine ks_geti rfl rfl rfl rfl (by (try simp only [kx_up_at, kx_row_at, up1_at, Nat.reduceEqDiff, Int.reduceEq, Int.reduceNeg, and_true, true_and, and_false, false_and, and_self, reduceIte, Nat.add_left_cancel_iff, Nat.add_eq_left, Nat.left_eq_add, Nat.reduceAdd, Int.add_left_inj, Int.add_right_inj, hp]); rfl) ?_
    refine ks_iconst rfl ?_
    refine ks_iadd rfl ?_
    refine ks_puti rfl rfl ?_
    refine ks_iconst rfl ?_
    refine ks_zreturn rfl (by omega) ?_
    -- at 25: ret  st ['1']
    exact t1 ((nx_c c0).mp q)
  · refine ks_aload_n rfl rfl ?_
    refine ks_iconst rfl ?_
    refine ks_callv_2 rfl rfl rfl (Nat.le_of_ble_eq_true rfl) ?_
    -- at 10: call Tape_refuse st []
    refine r_refuse hp ?_
    show kx_wx _ _ _ _ _ (_ :: _) _ _
    refine ks_zreturn rfl (by omega) ?_
    -- at 13: ret  st [None]
    exact t0 (fun w => q ((nx_c c0).mpr w))
theorem l_figs (hb : ∀ i, 0 ≤ T i ∧ T i ≤ 255) (hn : μ 19 1 = n) (hp : μ 19 4 = p) (hT : μ 20 = T) (n1 : n ≤ 120) (p0 : 0 ≤ p) (t : Q (some (kI (fg T n p))) (kg L) μ) : ∀ (r : Nat) (q : Int), r = (n - q).toNat → p ≤ q → q ≤ n → q - p + fgr T r q = fg T n p → kx_wx (ke d) kt_Tape_figuresAhead Q 5 [some (kR 19), some (kI q)] [] (kg L) μ := by
  intro r
  induction r with
  | zero =>
    intro q hr q0 q1 hq
    simp only [fgr] at hq
    refine ks_iload_n rfl rfl ?_
    refine ks_aload_n rfl rfl ?_
    refine ks_geti rfl rfl rfl rfl (by (try simp only [kx_up_at, kx_row_at, up1_at, Nat.reduceEqDiff, Int.reduceEq, Int.reduceNeg, and_true, true_and, and_false, false_and, and_self, reduceIte, Nat.add_left_cancel_iff, Nat.add_eq_left, Nat.left_eq_add, Nat.reduceAdd, Int.add_left_inj, Int.add_right_inj, hn, hp, hT]); rfl) ?_
    -- at 10: if ge -> 41 else 13 st [None, None]
    refine ks_icmp_ge rfl ⟨by omega, by omega⟩ ⟨by omega, by omega⟩ (fun c => absurd c (by omega)) (fun c => ?_)
    refine ks_iload_n rfl rfl ?_
    refine ks_aload_n rfl rfl ?_
    refine ks_geti rfl rfl rfl rfl (by (try simp only [kx_up_at, kx_row_at, up1_at, Nat.reduceEqDiff, Int.reduceEq, Int.reduceNeg, and_true, true_and, and_false, false_and, and_self, reduceIte, Nat.add_left_cancel_iff, Nat.add_eq_left, Nat.left_eq_add, Nat.reduceAdd, Int.add_left_inj, Int.add_right_inj, hn, hp, hT]); rfl) ?_
    refine ks_isub rfl ?_
    refine ks_ireturn rfl ?_
    -- at 47: ret  st [None]
    rw [← hq, Int.add_zero] at t
    exact t
  | succ r ih =>
    intro q hr q0 q1 hq
    have b := hb q
    rw [fgr] at hq
    refine ks_iload_n rfl rfl ?_
    refine ks_aload_n rfl rfl ?_
    refine ks_geti rfl rfl rfl rfl (by (try simp only [kx_up_at, kx_row_at, up1_at, Nat.reduceEqDiff, Int.reduceEq, Int.reduceNeg, and_true, true_and, and_false, false_and, and_self, reduceIte, Nat.add_left_cancel_iff, Nat.add_eq_left, Nat.left_eq_add, Nat.reduceAdd, Int.add_left_inj, Int.add_right_inj, hn, hp, hT]); rfl) ?_
    -- at 10: if ge -> 41 else 13 st [None, None]
    refine ks_icmp_ge rfl ⟨by omega, by omega⟩ ⟨by omega, by omega⟩ (fun c => ?_) (fun c => absurd c (by omega))
    refine ks_aload_n rfl rfl ?_
    refine ks_getr (b := 20) rfl rfl rfl rfl (by decide) ?_
    refine ks_iload_n rfl rfl ?_
    refine ks_iaload rfl rfl (by omega) (by omega) (by (try simp only [kx_up_at, kx_row_at, up1_at, Nat.reduceEqDiff, Int.reduceEq, Int.reduceNeg, and_true, true_and, and_false, false_and, and_self, reduceIte, Nat.add_left_cancel_iff, Nat.add_eq_left, Nat.left_eq_add, Nat.reduceAdd, Int.add_left_inj, Int.add_right_inj, hn, hp, hT]); rfl) ?_
    refine ks_bipush rfl ?_
    -- at 21: if lt -> 41 else 24 st ['48', None]
    refine ks_icmp_lt rfl ⟨by omega, by omega⟩ ⟨by omega, by omega⟩ (fun c2 => ?_) (fun c2 => ?_)
    · refine ks_iload_n rfl rfl ?_
      refine ks_aload_n rfl rfl ?_
      refine ks_geti rfl rfl rfl rfl (by (try simp only [kx_up_at, kx_row_at, up1_at, Nat.reduceEqDiff, Int.reduceEq, Int.reduceNeg, and_true, true_and, and_false, false_and, and_self, reduceIte, Nat.add_left_cancel_iff, Nat.add_eq_left, Nat.left_eq_add, Nat.reduceAdd, Int.add_left_inj, Int.add_right_inj, hn, hp, hT]); rfl) ?_
      refine ks_isub rfl ?_
      refine ks_ireturn rfl ?_
      -- at 47: ret  st [None]
      rw [if_neg (by omega)] at hq
      rw [← hq, Int.add_zero] at t
      exact t
    · refine ks_aload_n rfl rfl ?_
      refine ks_getr (b := 20) rfl rfl rfl rfl (by decide) ?_
      refine ks_iload_n rfl rfl ?_
      refine ks_iaload rfl rfl (by omega) (by omega) (by (try simp only [kx_up_at, kx_row_at, up1_at, Nat.reduceEqDiff, Int.reduceEq, Int.reduceNeg, and_true, true_and, and_false, false_and, and_self, reduceIte, Nat.add_left_cancel_iff, Nat.add_eq_left, Nat.left_eq_add, Nat.reduceAdd, Int.add_left_inj, Int.add_right_inj, hn, hp, hT]); rfl) ?_
      refine ks_bipush rfl ?_
      -- at 32: if gt -> 41 else 35 st ['57', None]
      refine ks_icmp_gt rfl ⟨by omega, by omega⟩ ⟨by omega, by omega⟩ (fun c3 => ?_) (fun c3 => ?_)
      · refine ks_iload_n rfl rfl ?_
        refine ks_aload_n rfl rfl ?_
        refine ks_geti rfl rfl rfl rfl (by (try simp only [kx_up_at, kx_row_at, up1_at, Nat.reduceEqDiff, Int.reduceEq, Int.reduceNeg, and_true, true_and, and_false, false_and, and_self, reduceIte, Nat.add_left_cancel_iff, Nat.add_eq_left, Nat.left_eq_add, Nat.reduceAdd, Int.add_left_inj, Int.add_right_inj, hn, hp, hT]); rfl) ?_
        refine ks_isub rfl ?_
        refine ks_ireturn rfl ?_
        -- at 47: ret  st [None]
        rw [if_neg (by omega)] at hq
        rw [← hq, Int.add_zero] at t
        exact t
      · refine ks_iinc_1 rfl rfl ?_
        refine ks_goto rfl ?_
        -- at 5: stop  st []
        rw [if_pos (by omega)] at hq
        exact ih (q + 1) (by omega) (by omega) (by omega) (by omega)
theorem r_figs (hb : ∀ i, 0 ≤ T i ∧ T i ≤ 255) (hn : μ 19 1 = n) (hp : μ 19 4 = p) (hT : μ 20 = T) (n1 : n ≤ 120) (p0 : 0 ≤ p) (p1 : p ≤ n) (t : Q (some (kI (fg T n p))) (kg L) μ) : kx_cx (ke (d + 1)) 49 [kR 19] (kg L) μ Q := by
  refine ke_start (tb := kt_Tape_figuresAhead) (ls := [some (kR 19), none]) rfl rfl ?_
  refine ks_aload_n rfl rfl ?_
  refine ks_geti rfl rfl rfl rfl (by (try simp only [kx_up_at, kx_row_at, up1_at, Nat.reduceEqDiff, Int.reduceEq, Int.reduceNeg, and_true, true_and, and_false, false_and, and_self, reduceIte, Nat.add_left_cancel_iff, Nat.add_eq_left, Nat.left_eq_add, Nat.reduceAdd, Int.add_left_inj, Int.add_right_inj, hp]); rfl) ?_
  refine ks_istore_n_1 rfl rfl ?_
  -- at 5: stop  st []
  exact l_figs hb hn hp hT n1 p0 t (n - p).toNat p rfl (Int.le_refl p) p1 (by unfold fg; omega)
theorem r_takeNumber {lo hi : Int} (hb : ∀ i, 0 ≤ T i ∧ T i ≤ 255) (hn : μ 19 1 = n) (hp : μ 19 4 = p) (hT : μ 20 = T) (n1 : n ≤ 120) (p0 : 0 ≤ p) (p1 : p ≤ n) (l0 : 0 ≤ lo ∧ lo ≤ 100) (l1 : 0 ≤ hi ∧ hi ≤ 100) (t1 : ¬ (fg T n p = 0 ∨ 2 < fg T n p) → ¬ (nv T p (fg T n p) < lo ∨ hi < nv T p (fg T n p)) → Q (some (kI 1)) (kg L) (kx_up (kx_up μ 19 5 (nv T p (fg T n p))) 19 4 (p + fg T n p))) (t0 : (fg T n p = 0 ∨ 2 < fg T n p) → Q (some (kI 0)) (kg L) (kx_up (kx_up μ 19 2 1) 19 3 p)) (t2 : ¬ (fg T n p = 0 ∨ 2 < fg T n p) → (nv T p (fg T n p) < lo ∨ hi < nv T p (fg T n p)) → Q (some (kI 0)) (kg L) (kx_up (kx_up μ 19 2 2) 19 3 p)) : kx_cx (ke (d + 2)) 48 [kR 19, kI lo, kI hi] (kg L) μ Q := by
  refine ke_start (tb := kt_Tape_takeNumber) (ls := [some (kR 19), some (kI lo), some (kI hi), none, none, none]) rfl rfl ?_
  have hf := fg_in (T := T) p1
  refine ks_aload_n rfl rfl ?_
  refine ks_callv_1 rfl rfl rfl (Nat.le_of_ble_eq_true rfl) ?_
  -- at 1: call Tape_figuresAhead st []
  refine r_figs hb hn hp hT n1 p0 p1 ?_
  show kx_wx _ _ _ _ _ (_ :: _) _ _
  refine ks_istore_n_3 rfl rfl ?_
  refine ks_iload_n rfl rfl ?_
  -- at 6: if eq -> 14 else 9 st [None]
  have fin : ∀ x5, ¬ (fg T n p = 0 ∨ 2 < fg T n p) → kx_wx (ke (d + 1)) kt_Tape_takeNumber Q 61 [some (kR 19), some (kI lo), some (kI hi), some (kI (fg T n p)), some (kI (nv T p (fg T n p))), x5] [] (kg L) μ := by
    intro x5 q
    have hv := nv_in (T := T) (n := n) (p := p) (by omega) (by omega)
    refine ks_iload rfl rfl ?_
    refine ks_iload_n rfl rfl ?_
    -- at 64: if lt -> 73 else 67 st [None, None]
    refine ks_icmp_lt rfl ⟨by omega, by omega⟩ ⟨by omega, by omega⟩ (fun q2 => ?_) (fun q2 => ?_)
    · refine ks_aload_n rfl rfl ?_
      refine ks_iconst rfl ?_
      refine ks_callv_2 rfl rfl rfl (Nat.le_of_ble_eq_true rfl) ?_
      -- at 75: call Tape_refuse st []
      refine r_refuse hp ?_
      show kx_wx _ _ _ _ _ (_ :: _) _ _
      refine ks_zreturn rfl (by omega) ?_
      -- at 78: ret  st [None]
      exact t2 q (Or.inl q2)
    · refine ks_iload rfl rfl ?_
      refine ks_iload_n rfl rfl ?_
      -- at 70: if le -> 79 else 73 st [None, None]
      refine ks_icmp_le rfl ⟨by omega, by omega⟩ ⟨by omega, by omega⟩ (fun q3 => ?_) (fun q3 => ?_)
      · refine ks_aload_n rfl rfl ?_
        refine ks_iconst rfl ?_
        refine ks_callv_2 rfl rfl rfl (Nat.le_of_ble_eq_true rfl) ?_
        -- at 75: call Tape_refuse st []
        refine r_refuse hp ?_
        show kx_wx _ _ _ _ _ (_ :: _) _ _
        refine ks_zreturn rfl (by omega) ?_
        -- at 78: ret  st [None]
        exact t2 q (Or.inr q3)
      · refine ks_aload_n rfl rfl ?_
        refine ks_iload rfl rfl ?_
        refine ks_puti rfl rfl ?_
        refine ks_aload_n rfl rfl ?_
        refine ks_dupR rfl ?_
        refine ks_geti rfl rfl rfl rfl (by (try simp only [kx_up_at, kx_row_at, up1_at, Nat.reduceEqDiff, Int.reduceEq, Int.reduceNeg, and_true, true_and, and_false, false_and, and_self, reduceIte, Nat.add_left_cancel_iff, Nat.add_eq_left, Nat.left_eq_add, Nat.reduceAdd, Int.add_left_inj, Int.add_right_inj, hp]); rfl) ?_
        refine ks_iload_n rfl rfl ?_
        refine ks_iadd rfl ?_
        refine ks_puti rfl rfl ?_
        refine ks_iconst rfl ?_
        refine ks_zreturn rfl (by omega) ?_
        -- at 96: ret  st ['1']
        exact t1 q (by omega)
  refine ks_if_eq rfl ⟨by omega, by omega⟩ (fun q => ?_) (fun q => ?_)
  · refine ks_aload_n rfl rfl ?_
    refine ks_iconst rfl ?_
    refine ks_callv_2 rfl rfl rfl (Nat.le_of_ble_eq_true rfl) ?_
    -- at 16: call Tape_refuse st []
    refine r_refuse hp ?_
    show kx_wx _ _ _ _ _ (_ :: _) _ _
    refine ks_zreturn rfl (by omega) ?_
    -- at 19: ret  st [None]
    exact t0 (Or.inl q)
  · refine ks_iload_n rfl rfl ?_
    refine ks_iconst rfl ?_
    -- at 11: if le -> 20 else 14 st ['2', None]
    refine ks_icmp_le rfl ⟨by omega, by omega⟩ ⟨by omega, by omega⟩ (fun q2 => ?_) (fun q2 => ?_)
    · refine ks_aload_n rfl rfl ?_
      refine ks_iconst rfl ?_
      refine ks_callv_2 rfl rfl rfl (Nat.le_of_ble_eq_true rfl) ?_
      -- at 16: call Tape_refuse st []
      refine r_refuse hp ?_
      show kx_wx _ _ _ _ _ (_ :: _) _ _
      refine ks_zreturn rfl (by omega) ?_
      -- at 19: ret  st [None]
      exact t0 (Or.inr q2)
    · have fin2 := fin
      have a := fg_fig (T := T) (n - p).toNat p 0 (Int.le_refl 0) (by unfold fg at q hf; omega)
      rw [Int.add_zero] at a
      generalize hfg : fg T n p = f at *
      have hc : f = 1 ∨ f = 2 := by omega
      rcases hc with g | g
      · subst g
        refine ks_iconst rfl ?_
        refine ks_istore_4 rfl rfl ?_
        refine ks_iconst rfl ?_
        refine ks_istore_5 rfl rfl ?_
        refine ks_iload rfl rfl ?_
        refine ks_iload_n rfl rfl ?_
        -- at 29: if ge -> 61 else 32 st [None, '0']
        refine ks_icmp_ge rfl ⟨by omega, by omega⟩ ⟨by omega, by omega⟩ (fun q3 => ?_) (fun q3 => absurd q3 (by omega))
        refine ks_bipush rfl ?_
        refine ks_iload rfl rfl ?_
        refine ks_imul rfl ?_
        refine ks_aload_n rfl rfl ?_
        refine ks_getr (b := 20) rfl rfl rfl rfl (by decide) ?_
        refine ks_aload_n rfl rfl ?_
        refine ks_geti rfl rfl rfl rfl (by (try simp only [kx_up_at, kx_row_at, up1_at, Nat.reduceEqDiff, Int.reduceEq, Int.reduceNeg, and_true, true_and, and_false, false_and, and_self, reduceIte, Nat.add_left_cancel_iff, Nat.add_eq_left, Nat.left_eq_add, Nat.reduceAdd, Int.add_left_inj, Int.add_right_inj, hp, hT]); rfl) ?_
        refine ks_iload rfl rfl ?_
        refine ks_iadd rfl ?_
        refine ks_iaload rfl rfl (by omega) (by omega) (by (try simp only [kx_up_at, kx_row_at, up1_at, Nat.reduceEqDiff, Int.reduceEq, Int.reduceNeg, and_true, true_and, and_false, false_and, and_self, reduceIte, Nat.add_left_cancel_iff, Nat.add_eq_left, Nat.left_eq_add, Nat.reduceAdd, Int.add_left_inj, Int.add_right_inj, hp, hT]); rfl) ?_
        refine ks_iadd rfl ?_
        refine ks_bipush rfl ?_
        refine ks_isub rfl ?_
        refine ks_istore_4 rfl rfl ?_
        refine ks_iinc_5 rfl rfl ?_
        refine ks_goto rfl ?_
        refine ks_iload rfl rfl ?_
        refine ks_iload_n rfl rfl ?_
        -- at 29: if ge -> 61 else 32 st [None, None]
        refine ks_icmp_ge rfl ⟨by omega, by omega⟩ ⟨by omega, by omega⟩ (fun q4 => absurd q4 (by omega)) (fun q4 => ?_)
        -- at 61: stop
        have e : 10 * 0 + T (p + 0) - 48 = nv T p 1 := by unfold nv; rw [if_pos rfl, Int.add_zero]; omega
        rw [e]
        exact fin2 _ (by omega)
      · subst g
        refine ks_iconst rfl ?_
        refine ks_istore_4 rfl rfl ?_
        refine ks_iconst rfl ?_
        refine ks_istore_5 rfl rfl ?_
        refine ks_iload rfl rfl ?_
        refine ks_iload_n rfl rfl ?_
        -- at 29: if ge -> 61 else 32 st [None, '0']
        refine ks_icmp_ge rfl ⟨by omega, by omega⟩ ⟨by omega, by omega⟩ (fun q3 => ?_) (fun q3 => absurd q3 (by omega))
        refine ks_bipush rfl ?_
        refine ks_iload rfl rfl ?_
        refine ks_imul rfl ?_
        refine ks_aload_n rfl rfl ?_
        refine ks_getr (b := 20) rfl rfl rfl rfl (by decide) ?_
        refine ks_aload_n rfl rfl ?_
        refine ks_geti rfl rfl rfl rfl (by (try simp only [kx_up_at, kx_row_at, up1_at, Nat.reduceEqDiff, Int.reduceEq, Int.reduceNeg, and_true, true_and, and_false, false_and, and_self, reduceIte, Nat.add_left_cancel_iff, Nat.add_eq_left, Nat.left_eq_add, Nat.reduceAdd, Int.add_left_inj, Int.add_right_inj, hp, hT]); rfl) ?_
        refine ks_iload rfl rfl ?_
        refine ks_iadd rfl ?_
        refine ks_iaload rfl rfl (by omega) (by omega) (by (try simp only [kx_up_at, kx_row_at, up1_at, Nat.reduceEqDiff, Int.reduceEq, Int.reduceNeg, and_true, true_and, and_false, false_and, and_self, reduceIte, Nat.add_left_cancel_iff, Nat.add_eq_left, Nat.left_eq_add, Nat.reduceAdd, Int.add_left_inj, Int.add_right_inj, hp, hT]); rfl) ?_
        refine ks_iadd rfl ?_
        refine ks_bipush rfl ?_
        refine ks_isub rfl ?_
        refine ks_istore_4 rfl rfl ?_
        refine ks_iinc_5 rfl rfl ?_
        refine ks_goto rfl ?_
        refine ks_iload rfl rfl ?_
        refine ks_iload_n rfl rfl ?_
        -- at 29: if ge -> 61 else 32 st [None, None]
        refine ks_icmp_ge rfl ⟨by omega, by omega⟩ ⟨by omega, by omega⟩ (fun q4 => ?_) (fun q4 => absurd q4 (by omega))
        refine ks_bipush rfl ?_
        refine ks_iload rfl rfl ?_
        refine ks_imul rfl ?_
        refine ks_aload_n rfl rfl ?_
        refine ks_getr (b := 20) rfl rfl rfl rfl (by decide) ?_
        refine ks_aload_n rfl rfl ?_
        refine ks_geti rfl rfl rfl rfl (by (try simp only [kx_up_at, kx_row_at, up1_at, Nat.reduceEqDiff, Int.reduceEq, Int.reduceNeg, and_true, true_and, and_false, false_and, and_self, reduceIte, Nat.add_left_cancel_iff, Nat.add_eq_left, Nat.left_eq_add, Nat.reduceAdd, Int.add_left_inj, Int.add_right_inj, hp, hT]); rfl) ?_
        refine ks_iload rfl rfl ?_
        refine ks_iadd rfl ?_
        refine ks_iaload rfl rfl (by omega) (by omega) (by (try simp only [kx_up_at, kx_row_at, up1_at, Nat.reduceEqDiff, Int.reduceEq, Int.reduceNeg, and_true, true_and, and_false, false_and, and_self, reduceIte, Nat.add_left_cancel_iff, Nat.add_eq_left, Nat.left_eq_add, Nat.reduceAdd, Int.add_left_inj, Int.add_right_inj, hp, hT]); rfl) ?_
        refine ks_iadd rfl ?_
        refine ks_bipush rfl ?_
        refine ks_isub rfl ?_
        refine ks_istore_4 rfl rfl ?_
        refine ks_iinc_5 rfl rfl ?_
        refine ks_goto rfl ?_
        refine ks_iload rfl rfl ?_
        refine ks_iload_n rfl rfl ?_
        -- at 29: if ge -> 61 else 32 st [None, None]
        refine ks_icmp_ge rfl ⟨by omega, by omega⟩ ⟨by omega, by omega⟩ (fun q5 => absurd q5 (by omega)) (fun q5 => ?_)
        -- at 61: stop
        have e : 10 * (10 * 0 + T (p + 0) - 48) + T (p + (0 + 1)) - 48 = nv T p 2 := by unfold nv; rw [if_neg (by omega), Int.add_zero, Int.zero_add]; omega
        rw [e]
        exact fin2 _ (by omega)
end PA
