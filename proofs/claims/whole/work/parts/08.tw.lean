/-! rows of numbers, and what a town does, as functions -/
/-- bit k of x, as both programs look at it -/
def tw_has (x k : Int) : Prop := kx_and (x.bmod 4294967296 / 2 ^ k.toNat) 1 = 1
/-- order k can be worked on by head h -/
def tw_P (s : Int → Int) (h k : Int) : Prop := s (38 + k) = 0 ∧ tw_has (s (18 + h)) k
def tw_dec (s : Int → Int) (h k : Int) : Decidable (tw_P s h k) := by unfold tw_P tw_has; exact inferInstanceAs (Decidable (_ ∧ _))
/-- the order that is found among the first n, from the last down -/
def tw_f (s : Int → Int) (h : Int) : Nat → Int → Int
  | 0, f => f
  | n + 1, f => tw_f s h n (if s (38 + n) = 0 ∧ kx_and ((s (18 + h)).bmod 4294967296 / 2 ^ (n : Int).toNat) 1 = 1 then n else f)
def tw_found (s : Int → Int) (h : Int) : Int := tw_f s h (s 2).toNat (-1)
/-- how many of the first n are out -/
def tw_oc (s : Int → Int) : Nat → Int
  | 0 => 0
  | n + 1 => tw_oc s n + (if s (38 + n) = 0 then 1 else 0)
def tw_out (s : Int → Int) : Int := tw_oc s (s 2).toNat
/-- head h does 1 of order f -/
def tw_work (s : Int → Int) (h f : Int) : Int → Int :=
  if f < 0 then s else
  if s (34 + f) - 1 = 0 then up1 (up1 (up1 (up1 s (34 + f) (s (34 + f) - 1)) (24 + h) (s (24 + h) + 1)) (38 + f) 1) (42 + f) (s 3 + 1)
  else up1 (up1 s (34 + f) (s (34 + f) - 1)) (24 + h) (s (24 + h) + 1)
def tw_on (s : Int → Int) (h : Int) : Int :=
  if s (6 + h) = 2 then (h + 2) % s 1 else if s (6 + h) = 4 then (h + s 0) % s 1 else if s (6 + h) = 5 then (h - s 0) % s 1 else (h + 1) % s 1
/-- one step more of time -/
def tw_tick (s : Int → Int) : Int → Int := up1 (up1 s 5 (s 5 + 1)) 3 (s 3 + 1)
def tw_goes (s : Int → Int) (h : Int) : Int → Int :=
  if s 5 < s (12 + h) + (if s (6 + h) = 3 then tw_out s else 0) then s else up1 (up1 s 4 (tw_on s h)) 5 0
def tw_step (s : Int → Int) : Int → Int := tw_goes (tw_tick (tw_work s (s 4) (tw_found s (s 4)))) (s 4)
def tw_go (s : Int → Int) : Nat → Int → Int
  | 0 => s
  | n + 1 => tw_step (tw_go s n)
/-- a town as it must be; its step is at most B -/
def tw_W (B : Int) (s : Int → Int) : Prop := (1 ≤ s 1 ∧ s 1 ≤ 6) ∧ (0 ≤ s 2 ∧ s 2 ≤ 4) ∧ (0 ≤ s 4 ∧ s 4 < s 1) ∧ (0 ≤ s 0 ∧ s 0 ≤ 5) ∧ (0 ≤ s 3 ∧ s 3 ≤ B) ∧ (0 ≤ s 5 ∧ s 5 ≤ 13) ∧
  (∀ i, 0 ≤ i → i < s 1 → (1 ≤ s (6 + i) ∧ s (6 + i) ≤ 5) ∧ (1 ≤ s (12 + i) ∧ s (12 + i) ≤ 9) ∧ (0 ≤ s (18 + i) ∧ s (18 + i) ≤ 15) ∧ (0 ≤ s (24 + i) ∧ s (24 + i) ≤ s 3)) ∧
  (∀ k, 0 ≤ k → k < s 2 → (1 ≤ s (30 + k) ∧ s (30 + k) ≤ 40) ∧ (0 ≤ s (34 + k) ∧ s (34 + k) ≤ 40) ∧ (0 ≤ s (38 + k) ∧ s (38 + k) ≤ 2) ∧ (s (38 + k) = 0 → 1 ≤ s (34 + k)) ∧ (s (38 + k) = 1 → 1 ≤ s (42 + k) ∧ s (42 + k) ≤ s 3))
theorem tw_f_in (s : Int → Int) (h : Int) : ∀ (n : Nat) (f : Int), tw_f s h n f = f ∨ ∃ k : Nat, k < n ∧ tw_f s h n f = k ∧ tw_P s h k := by
  intro n
  induction n with
  | zero => intro f; exact Or.inl rfl
  | succ n ih =>
    intro f
    simp only [tw_f]
    by_cases hc : s (38 + n) = 0 ∧ kx_and ((s (18 + h)).bmod 4294967296 / 2 ^ (n : Int).toNat) 1 = 1
    · rw [if_pos hc]
      rcases ih n with q | ⟨k, q1, q2, q3⟩
      · exact Or.inr ⟨n, by omega, q, hc⟩
      · exact Or.inr ⟨k, by omega, q2, q3⟩
    · rw [if_neg hc]
      rcases ih f with q | ⟨k, q1, q2, q3⟩
      · exact Or.inl q
      · exact Or.inr ⟨k, by omega, q2, q3⟩
theorem tw_found_in (s : Int → Int) (h : Int) : tw_found s h = -1 ∨ (0 ≤ tw_found s h ∧ tw_found s h < s 2 ∧ tw_P s h (tw_found s h)) := by
  rcases tw_f_in s h (s 2).toNat (-1) with q | ⟨k, q1, q2, q3⟩
  · exact Or.inl q
  · refine Or.inr ?_
    unfold tw_found
    rw [q2]
    exact ⟨by omega, by omega, q3⟩
theorem tw_oc_in (s : Int → Int) : ∀ n : Nat, 0 ≤ tw_oc s n ∧ tw_oc s n ≤ n := by
  intro n
  induction n with
  | zero => exact ⟨Int.le_refl 0, Int.le_refl 0⟩
  | succ n ih => simp only [tw_oc]; split <;> omega
theorem tw_oc_congr {s t : Int → Int} : ∀ n : Nat, (∀ k : Nat, k < n → (s (38 + k) = 0 ↔ t (38 + k) = 0)) → tw_oc s n = tw_oc t n := by
  intro n
  induction n with
  | zero => intro _; rfl
  | succ n ih =>
    intro h
    simp only [tw_oc]
    rw [ih (fun k hk => h k (by omega))]
    have := h n (by omega)
    by_cases e : s (38 + n) = 0
    · rw [if_pos e, if_pos (this.mp e)]
    · rw [if_neg e, if_neg (fun q => e (this.mpr q))]
theorem tw_work_lo {s : Int → Int} {h f : Int} (hh : 0 ≤ h ∧ h < 6) (hf : f < 4) {j : Int} (hj : j < 24 ∨ 30 ≤ j ∧ j < 34) : tw_work s h f j = s j := by
  unfold tw_work
  split
  · rfl
  · split
    · simp only [up1_at]
      rw [if_neg (by omega), if_neg (by omega), if_neg (by omega), if_neg (by omega)]
    · simp only [up1_at]
      rw [if_neg (by omega), if_neg (by omega)]
theorem tw_work_how {s : Int → Int} {B h f : Int} (hw : tw_W B s) (hh : 0 ≤ h ∧ h < s 1) (hf : f = -1 ∨ 0 ≤ f ∧ f < s 2) {k : Int} (h0 : 0 ≤ k) (h1 : k < s 2) : 0 ≤ tw_work s h f (38 + k) ∧ tw_work s h f (38 + k) ≤ 2 := by
  obtain ⟨w1, w2, w3, w4, w5, w6, w7, w8⟩ := hw
  have := w8 k h0 h1
  unfold tw_work
  split
  · omega
  · split
    · simp only [up1_at]
      rw [if_neg (by omega)]
      split
      · omega
      · rw [if_neg (by omega), if_neg (by omega)]; omega
    · simp only [up1_at]
      rw [if_neg (by omega), if_neg (by omega)]; omega
theorem tw_tick_at {s : Int → Int} {j : Int} (h : j ≠ 5 ∧ j ≠ 3) : tw_tick s j = s j := by
  unfold tw_tick
  simp only [up1_at]
  rw [if_neg h.2, if_neg h.1]
theorem tw_mod {x n : Int} (h0 : 0 ≤ x) (hn : 0 < n) : x.tmod n = x % n := by rw [Int.tmod_eq_emod_of_nonneg h0]
