/-! acts kept, on both sides: snapshots h of towns, m of them, then the town s -/
/-- nothing outside the 46 places -/
def tw_Z (s : Int → Int) : Prop := ∀ k, k < 0 ∨ 46 ≤ k → s k = 0
/-- what is noted of an act (sort, who had it, for how long, detail) that makes s' out of s -/
def ac_R (x y w v : Int) (s s' : Int → Int) : Prop :=
  (x = 0 ∧ y = s 4 ∧ w = s 5 ∧ v = tw_found s (s 4) ∧ s' = tw_step s) ∨
  (x = 1 ∧ v = s 0 ∧ ∃ u, s' = up1 s 0 u) ∨
  (x = 2 ∧ y = s 4 ∧ w = s 5 ∧ ∃ u, s' = up1 (up1 s 4 u) 5 0) ∨
  (x = 3 ∧ v = s 2 ∧ s 2 < 4 ∧ ∃ u, s' = up1 (up1 (up1 (up1 (up1 s (30 + s 2) u) (34 + s 2) u) (38 + s 2) 0) (42 + s 2) 0) 2 (s 2 + 1)) ∨
  (x = 4 ∧ 0 ≤ v ∧ v < s 2 ∧ s (38 + v) = 0 ∧ s' = up1 s (38 + v) 2)
def hx (m : Int) (h : Int → Int → Int) (s : Int → Int) (j : Int) : Int → Int := if j = m then s else h j
theorem hx_m {m : Int} {h : Int → Int → Int} {s : Int → Int} : hx m h s m = s := by unfold hx; rw [if_pos rfl]
theorem hx_ne {m j : Int} {h : Int → Int → Int} {s : Int → Int} (e : j ≠ m) : hx m h s j = h j := by unfold hx; rw [if_neg e]
def hs_len (m : Int) : Int := if m = 24 then 24 else m + 1
def hs_push (m : Int) (h : Int → Int → Int) (s : Int → Int) (j : Int) : Int → Int := if m = 24 then (if j = 23 then s else h (j + 1)) else (if j = m then s else h j)
theorem hp_a {h : Int → Int → Int} {s : Int → Int} : hs_push 24 h s 23 = s := by unfold hs_push; rw [if_pos rfl, if_pos rfl]
theorem hp_b {j : Int} {h : Int → Int → Int} {s : Int → Int} (e : j ≠ 23) : hs_push 24 h s j = h (j + 1) := by unfold hs_push; rw [if_pos rfl, if_neg e]
theorem hp_c {m : Int} {h : Int → Int → Int} {s : Int → Int} (c : m ≠ 24) : hs_push m h s m = s := by unfold hs_push; rw [if_neg c, if_pos rfl]
theorem hp_d {m j : Int} {h : Int → Int → Int} {s : Int → Int} (c : m ≠ 24) (e : j ≠ m) : hs_push m h s j = h j := by unfold hs_push; rw [if_neg c, if_neg e]
/-- the class's ring -/
def RC (μ : kx_M) (m : Int) (h : Int → Int → Int) (s : Int → Int) : Prop := μ 39 5 = m ∧ (0 ≤ m ∧ m ≤ 24) ∧ (0 ≤ μ 39 4 ∧ μ 39 4 < 24) ∧
  ∀ j, 0 ≤ j → j < m → (tw_W 999 (h j) ∧ tw_Z (h j)) ∧ ac_R (μ 40 ((μ 39 4 - m + j) % 24)) (μ 41 ((μ 39 4 - m + j) % 24)) (μ 42 ((μ 39 4 - m + j) % 24)) (μ 43 ((μ 39 4 - m + j) % 24)) (h j) (hx m h s (j + 1))
/-- the reference's notes -/
def RM (μ : kx_M) (m : Int) (h : Int → Int → Int) : Prop := μ 77 17 = m ∧ (0 ≤ m ∧ m ≤ 24) ∧ ∀ j, 0 ≤ j → j < m → ∀ k, 0 ≤ k → k < 46 → μ 85 (46 * j + k) = h j k
theorem RC_fr {μ μ' : kx_M} {m : Int} {h : Int → Int → Int} {s : Int → Int} (R : RC μ m h s) (f : ∀ c, 39 ≤ c → c ≤ 43 → μ' c = μ c) : RC μ' m h s := by
  unfold RC at *
  rw [f 39 (by omega) (by omega), f 40 (by omega) (by omega), f 41 (by omega) (by omega), f 42 (by omega) (by omega), f 43 (by omega) (by omega)]
  exact R
theorem RM_fr {μ μ' : kx_M} {m : Int} {h : Int → Int → Int} (R : RM μ m h) (f7 : μ' 77 17 = μ 77 17) (f : μ' 85 = μ 85) : RM μ' m h := by
  unfold RM at *
  rw [f7, f]
  exact R
theorem RC_keep {μ μ' : kx_M} {m x y w v p : Int} {h : Int → Int → Int} {s s' : Int → Int} (R : RC μ m h s) (hp : μ 39 4 = p) (W : tw_W 999 s) (Z : tw_Z s) (A : ac_R x y w v s s') (k4 : μ' 39 4 = (p + 1) % 24) (k5 : μ' 39 5 = min (m + 1) 24) (k40 : μ' 40 = up1 (μ 40) p x) (k41 : μ' 41 = up1 (μ 41) p y) (k42 : μ' 42 = up1 (μ 42) p w) (k43 : μ' 43 = up1 (μ 43) p v) : RC μ' (hs_len m) (hs_push m h s) s' := by
  obtain ⟨r1, r2, r3, r4⟩ := R
  rw [hp] at r3 r4
  by_cases c : m = 24
  · subst c
    have e : hs_len 24 = 24 := rfl
    rw [e]
    refine ⟨by omega, by omega, by omega, fun j j0 j1 => ?_⟩
    rw [k4, k40, k41, k42, k43]
    by_cases e : j = 23
    · subst e
      have q : ((p + 1) % 24 - 24 + 23) % 24 = p := by omega
      have q3 : (23 : Int) + 1 = 24 := rfl
      rw [q, q3, hx_m, hp_a, up1_self, up1_self, up1_self, up1_self]
      exact ⟨⟨W, Z⟩, A⟩
    · have q : ((p + 1) % 24 - 24 + j) % 24 = (p - 24 + (j + 1)) % 24 := by omega
      have q2 : (p - 24 + (j + 1)) % 24 ≠ p := by omega
      have := r4 (j + 1) (by omega) (by omega)
      rw [q, up1_ne q2, up1_ne q2, up1_ne q2, up1_ne q2, hx_ne (by omega), hp_b e]
      by_cases e2 : j = 22
      · subst e2
        have q3 : (22 : Int) + 1 = 23 := rfl
        have q4 : (23 : Int) + 1 = 24 := rfl
        rw [q3, hp_a]
        rw [q3, q4, hx_m] at this
        exact this
      · rw [hp_b (by omega)]
        rw [hx_ne (by omega)] at this
        exact this
  · have e : hs_len m = m + 1 := by unfold hs_len; rw [if_neg c]
    rw [e]
    refine ⟨by omega, by omega, by omega, fun j j0 j1 => ?_⟩
    rw [k4, k40, k41, k42, k43]
    by_cases e : j = m
    · subst e
      have q : ((p + 1) % 24 - (j + 1) + j) % 24 = p := by omega
      rw [q, hx_m, hp_c c, up1_self, up1_self, up1_self, up1_self]
      exact ⟨⟨W, Z⟩, A⟩
    · have q : ((p + 1) % 24 - (m + 1) + j) % 24 = (p - m + j) % 24 := by omega
      have q2 : (p - m + j) % 24 ≠ p := by omega
      have := r4 j (by omega) (by omega)
      rw [q, up1_ne q2, up1_ne q2, up1_ne q2, up1_ne q2, hx_ne (by omega), hp_d c e]
      by_cases e2 : j + 1 = m
      · rw [e2, hp_c c]
        rw [e2, hx_m] at this
        exact this
      · rw [hp_d c e2]
        rw [hx_ne e2] at this
        exact this
theorem TR_fr {μ μ' : kx_M} {a : Nat} {s : Int → Int} {z : Int} (T : TRx μ a s z) (f : ∀ c, a ≤ c → c ≤ a + 8 → μ' c = μ c) : TRx μ' a s z := by
  unfold TRx at *
  rw [f a (by omega) (by omega), f (a + 1) (by omega) (by omega), f (a + 2) (by omega) (by omega), f (a + 3) (by omega) (by omega), f (a + 4) (by omega) (by omega), f (a + 5) (by omega) (by omega), f (a + 6) (by omega) (by omega), f (a + 7) (by omega) (by omega), f (a + 8) (by omega) (by omega)]
  exact T
theorem up1_back (s : Int → Int) (i v : Int) : up1 (up1 s i v) i (s i) = s := by
  funext j
  by_cases e : j = i
  · subst e; rw [up1_self]
  · rw [up1_ne e, up1_ne e]
theorem up1_up1 (s : Int → Int) (i v w : Int) : up1 (up1 s i v) i w = up1 s i w := by
  funext j
  by_cases e : j = i
  · subst e; rw [up1_self, up1_self]
  · rw [up1_ne e, up1_ne e, up1_ne e]
theorem up1_comm {s : Int → Int} {i j v w : Int} (h : i ≠ j) : up1 (up1 s i v) j w = up1 (up1 s j w) i v := by
  funext k
  by_cases e : k = j
  · subst e; rw [up1_self, up1_ne (fun q => h q.symm), up1_self]
  · rw [up1_ne e]
    by_cases e2 : k = i
    · subst e2; rw [up1_self, up1_self]
    · rw [up1_ne e2, up1_ne e2, up1_ne e]
theorem TR_b3 {μ : kx_M} {s : Int → Int} {u : Int} {B : Int} (W : tw_W B s) (h4 : s 2 < 4) (T : TR μ 30 (up1 (up1 (up1 (up1 (up1 s (30 + s 2) u) (34 + s 2) u) (38 + s 2) 0) (42 + s 2) 0) 2 (s 2 + 1))) : TR (kx_up μ 30 9 (s 2)) 30 s := by
  obtain ⟨w1, w2, w3, w4, w5, w6, w7, w8⟩ := W
  obtain ⟨e8, e9, e10, e11, e12, e13, eh, eo⟩ := T
  simp (disch := omega) only [up1_ne, up1_self] at e8 e9 e10 e11 e12 e13 eh eo
  refine ⟨?_, ?_, ?_, ?_, ?_, ?_, fun i i0 i1 => ?_, fun k k0 k1 => ?_⟩
  · simp (disch := omega) only [kx_up_self, kx_up_oth]; exact e8
  · simp (disch := omega) only [kx_up_self, kx_up_oth]
  · simp (disch := omega) only [kx_up_self, kx_up_oth]; exact e10
  · simp (disch := omega) only [kx_up_self, kx_up_oth]; exact e11
  · simp (disch := omega) only [kx_up_self, kx_up_oth]; exact e12
  · simp (disch := omega) only [kx_up_self, kx_up_oth]; exact e13
  · have := eh i i0 i1
    simp (disch := omega) only [up1_ne] at this
    simp (disch := omega) only [kx_up_row]; exact this
  · have := eo k k0 (by omega)
    rw [up1_ne (i := 2) (j := 38 + k) (by omega), up1_ne (i := 42 + s 2) (j := 38 + k) (by omega), up1_ne (i := 38 + s 2) (j := 38 + k) (by omega), up1_ne (i := 34 + s 2) (j := 38 + k) (by omega), up1_ne (i := 30 + s 2) (j := 38 + k) (by omega)] at this
    simp (disch := omega) only [up1_ne] at this
    simp (disch := omega) only [kx_up_row]; exact this
theorem TR_b4 {μ : kx_M} {s : Int → Int} {v : Int} {B : Int} (W : tw_W B s) (v0 : 0 ≤ v) (v1 : v < s 2) (hz : s (38 + v) = 0) (T : TR μ 30 (up1 s (38 + v) 2)) : TR (kx_up μ 37 v 0) 30 s := by
  obtain ⟨w1, w2, w3, w4, w5, w6, w7, w8⟩ := W
  obtain ⟨e8, e9, e10, e11, e12, e13, eh, eo⟩ := T
  simp (disch := omega) only [up1_ne, up1_self] at e8 e9 e10 e11 e12 e13 eh eo
  refine ⟨?_, ?_, ?_, ?_, ?_, ?_, fun i i0 i1 => ?_, fun k k0 k1 => ?_⟩
  · simp (disch := omega) only [kx_up_row]; exact e8
  · simp (disch := omega) only [kx_up_row]; exact e9
  · simp (disch := omega) only [kx_up_row]; exact e10
  · simp (disch := omega) only [kx_up_row]; exact e11
  · simp (disch := omega) only [kx_up_row]; exact e12
  · simp (disch := omega) only [kx_up_row]; exact e13
  · have := eh i i0 i1
    simp (disch := omega) only [up1_ne] at this
    simp (disch := omega) only [kx_up_row]; exact this
  · have := eo k k0 k1
    by_cases e : k = v
    · subst e
      rw [up1_self, if_neg (by omega)] at this
      simp (disch := omega) only [up1_ne] at this
      simp (disch := omega) only [kx_up_row, kx_up_self]
      rw [hz, if_neg (by omega)]
      exact ⟨this.1, this.2.1, rfl, this.2.2.2⟩
    · rw [up1_ne (i := 38 + v) (j := 38 + k) (by omega)] at this
      simp (disch := omega) only [up1_ne] at this
      simp (disch := omega) only [kx_up_row, kx_up_oth]; exact this
section AC
variable {d L : Nat} {G : kx_G} {μ : kx_M} {Q : Option kx_V → kx_G → kx_M → Prop} {m : Int} {h : Int → Int → Int} {s : Int → Int}
theorem r_note2 (R : RM μ m h) (t : ∀ μ', RM μ' (hs_len m) (hs_push m h (μ 81)) → (∀ j, j ≠ 17 → μ' 77 j = μ 77 j) → (∀ c, c ≠ 85 → c ≠ 77 → μ' c = μ c) → Q none (kg L) μ') : kx_cx (ke (d + 1)) 142 [kR 77] (kg L) μ Q := by
  obtain ⟨r1, r2, r3⟩ := R
  refine r_note r2.1 r2.2 r1 (fun μ1 n hn k1 k2 k3 k4 k5 => t μ1 ?_ k4 k5)
  by_cases c : m = 24
  · subst c
    rw [if_pos rfl] at hn
    simp only [reduceIte] at k2
    subst hn
    refine ⟨k3, by unfold hs_len; rw [if_pos rfl]; omega, fun j j0 j1 k k0 kk => ?_⟩
    have j2 : j < 24 := j1
    by_cases e : j = 23
    · subst e; rw [hp_a, k1 k k0 kk]
    · rw [hp_b e, k2 _ (by omega) (by omega), show 46 * j + k + 46 = 46 * (j + 1) + k by omega, r3 (j + 1) (by omega) (by omega) k k0 kk]
  · rw [if_neg c] at hn
    simp only [if_neg c] at k2
    rw [hn] at k1 k2 k3
    have el : hs_len m = m + 1 := by unfold hs_len; rw [if_neg c]
    rw [el]
    refine ⟨k3, by omega, fun j j0 j1 k k0 kk => ?_⟩
    by_cases e : j = m
    · subst e; rw [hp_c c, k1 k k0 kk]
    · rw [hp_d c e, k2 _ (by omega) (by omega), r3 j j0 (by omega) k k0 kk]
theorem r_keep2 {x y w v : Int} {s s' : Int → Int} (R : RC μ m h s) (W : tw_W 999 s) (Z : tw_Z s) (A : ac_R x y w v s s') (t : ∀ μ', RC μ' (hs_len m) (hs_push m h s) s' → (∀ c, c < 39 ∨ 43 < c → μ' c = μ c) → Q none (kg L) μ') : kx_cx (ke (d + 2)) 2 [kR 39, kI x, kI y, kI w, kI v] (kg L) μ Q := by
  have R0 := R
  obtain ⟨r1, r2, r3, r4⟩ := R
  refine r_keep rfl r1 r3.1 r3.2 r2.1 r2.2 (t _ (RC_keep (p := μ 39 4) R0 rfl W Z A ?_ ?_ ?_ ?_ ?_ ?_) ?_)
  · rw [kx_up_oth (by omega), kx_up_self]
  · rw [kx_up_self]
  · simp (disch := omega) only [kx_up_row]; rw [kx_up_up1, kx_row_self]
  · simp (disch := omega) only [kx_up_row]; rw [kx_up_up1, kx_row_self]; simp (disch := omega) only [kx_up_row]
  · simp (disch := omega) only [kx_up_row]; rw [kx_up_up1, kx_row_self]; simp (disch := omega) only [kx_up_row]
  · simp (disch := omega) only [kx_up_row]; rw [kx_up_up1, kx_row_self]; simp (disch := omega) only [kx_up_row]
  · intro c hc
    simp (disch := omega) only [kx_up_row]
end AC
