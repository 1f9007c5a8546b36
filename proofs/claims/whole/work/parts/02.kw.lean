section KW
/-- where one instruction goes, as a thing -/
abbrev kx_Lf : Type := (Nat × kx_L × List kx_V × kx_G × kx_M) ⊕ ((Option kx_V × kx_G × kx_M) ⊕ (Nat × List kx_V × kx_G × kx_M × Nat × kx_L × List kx_V))
def kx_lf (tb : Nat → kx_E) (pc : Nat) (ls : kx_L) (st : List kx_V) (G : kx_G) (μ : kx_M) : Option kx_Lf :=
  kx_st tb none (fun pc ls st G μ => some (.inl (pc, ls, st, G, μ))) (fun v G μ => some (.inr (.inl (v, G, μ)))) (fun m as G μ pc ls rest => some (.inr (.inr (m, as, G, μ, pc, ls, rest)))) pc ls st G μ
theorem kx_br_nat {α β : Type} (h : α → β) (c : Jvm.ClassFile.Cond) (a b : Int) (t f : α) : h (kx_br c a b t f) = kx_br c a b (h t) (h f) := by
  cases c <;> simp only [kx_br] <;> split <;> rfl
theorem kx_sw_nat {α β : Type} (h : α → β) (x : Int) (f : Nat → α) (d : Nat) : ∀ (ts : List Nat) (lo : Int), h (kx_sw x lo f d ts) = kx_sw x lo (fun t => h (f t)) d ts := by
  intro ts
  induction ts with
  | nil => intro lo; rfl
  | cons t ts ih => intro lo; simp only [kx_sw]; split <;> first | rfl | exact ih _
theorem kx_load_nat {α β : Type} (h : α → β) (w : Nat) (dead : α) (k : kx_V → α) (ls : kx_L) (i : Nat) : h (kx_load w dead k ls i) = kx_load w (h dead) (fun v => h (k v)) ls i := by
  unfold kx_load
  split <;> first | rfl | (split <;> rfl)
set_option maxHeartbeats 4000000 in
theorem kx_do_nat {α β : Type} (h : α → β) (i : Instr) (nx r1 r2 : Nat) (r3 : Int) (tg : List Nat) (dead : α) (k : Nat → kx_L → List kx_V → kx_G → kx_M → α) (ret : Option kx_V → kx_G → kx_M → α) (call : Nat → List kx_V → kx_G → kx_M → Nat → kx_L → List kx_V → α) (ls : kx_L) (st : List kx_V) (G : kx_G) (μ : kx_M) :
    h (kx_do i nx r1 r2 r3 tg dead k ret call ls st G μ) = kx_do i nx r1 r2 r3 tg (h dead) (fun pc ls st G μ => h (k pc ls st G μ)) (fun v G μ => h (ret v G μ)) (fun m as G μ pc ls rest => h (call m as G μ pc ls rest)) ls st G μ := by
  cases i <;> simp only [kx_do] <;> first
    | rfl
    | exact kx_load_nat h _ _ _ _ _
    | (repeat' (first | rfl | exact kx_br_nat h _ _ _ _ _ | exact kx_sw_nat h _ _ _ _ _ | split))
theorem kx_st_nat {α β : Type} (h : α → β) (tb : Nat → kx_E) (dead : α) (k : Nat → kx_L → List kx_V → kx_G → kx_M → α) (ret : Option kx_V → kx_G → kx_M → α) (call : Nat → List kx_V → kx_G → kx_M → Nat → kx_L → List kx_V → α) (pc : Nat) (ls : kx_L) (st : List kx_V) (G : kx_G) (μ : kx_M) :
    h (kx_st tb dead k ret call pc ls st G μ) = kx_st tb (h dead) (fun pc ls st G μ => h (k pc ls st G μ)) (fun v G μ => h (ret v G μ)) (fun m as G μ pc ls rest => h (call m as G μ pc ls rest)) pc ls st G μ := by
  unfold kx_st
  exact kx_do_nat h _ _ _ _ _ _ _ _ _ _ _ _ _ _
/-- one instruction, by the thing that it is -/
theorem kx_st_lf (tb : Nat → kx_E) (K : Nat → kx_L → List kx_V → kx_G → kx_M → Prop) (R : Option kx_V → kx_G → kx_M → Prop) (C : Nat → List kx_V → kx_G → kx_M → Nat → kx_L → List kx_V → Prop) (pc : Nat) (ls : kx_L) (st : List kx_V) (G : kx_G) (μ : kx_M) :
    kx_st tb False K R C pc ls st G μ = (match kx_lf tb pc ls st G μ with
      | some (.inl (pc, ls, st, G, μ)) => K pc ls st G μ
      | some (.inr (.inl (v, G, μ))) => R v G μ
      | some (.inr (.inr (m, as, G, μ, pc, ls, rest))) => C m as G μ pc ls rest
      | none => False) := by
  unfold kx_lf
  exact (kx_st_nat (fun o : Option kx_Lf => match o with
      | some (.inl (pc, ls, st, G, μ)) => K pc ls st G μ
      | some (.inr (.inl (v, G, μ))) => R v G μ
      | some (.inr (.inr (m, as, G, μ, pc, ls, rest))) => C m as G μ pc ls rest
      | none => False) tb none (fun pc ls st G μ => some (.inl (pc, ls, st, G, μ))) (fun v G μ => some (.inr (.inl (v, G, μ)))) (fun m as G μ pc ls rest => some (.inr (.inr (m, as, G, μ, pc, ls, rest)))) pc ls st G μ).symm
variable {E : Nat → List kx_V → kx_G → kx_M → Option kx_V → kx_G → kx_M → Prop}
def kx_wx (E : Nat → List kx_V → kx_G → kx_M → Option kx_V → kx_G → kx_M → Prop) (tb : Nat → kx_E) (Q : Option kx_V → kx_G → kx_M → Prop) (pc : Nat) (ls : kx_L) (st : List kx_V) (G : kx_G) (μ : kx_M) : Prop :=
  ∃ (n : Nat) (v : Option kx_V) (G' : kx_G) (μ' : kx_M), kx_run E tb v G' μ' n pc ls st G μ ∧ Q v G' μ'
def kx_cx (E : Nat → List kx_V → kx_G → kx_M → Option kx_V → kx_G → kx_M → Prop) (m : Nat) (as : List kx_V) (G : kx_G) (μ : kx_M) (Q : Option kx_V → kx_G → kx_M → Prop) : Prop :=
  ∃ (v : Option kx_V) (G' : kx_G) (μ' : kx_M), E m as G μ v G' μ' ∧ Q v G' μ'
theorem kx_cx_mono {m : Nat} {as : List kx_V} {G : kx_G} {μ : kx_M} {Q Q' : Option kx_V → kx_G → kx_M → Prop} (h : kx_cx E m as G μ Q) (hq : ∀ v G' μ', Q v G' μ' → Q' v G' μ') : kx_cx E m as G μ Q' := by
  obtain ⟨v, G', μ', h1, h2⟩ := h
  exact ⟨v, G', μ', h1, hq _ _ _ h2⟩
theorem kx_wx_mono {tb : Nat → kx_E} {Q Q' : Option kx_V → kx_G → kx_M → Prop} {pc : Nat} {ls : kx_L} {st : List kx_V} {G : kx_G} {μ : kx_M} (h : kx_wx E tb Q pc ls st G μ) (hq : ∀ v G' μ', Q v G' μ' → Q' v G' μ') : kx_wx E tb Q' pc ls st G μ := by
  obtain ⟨n, v, G', μ', h1, h2⟩ := h
  exact ⟨n, v, G', μ', h1, hq _ _ _ h2⟩
/-- one instruction -/
theorem kx_wx_step {tb : Nat → kx_E} {Q : Option kx_V → kx_G → kx_M → Prop} {pc : Nat} {ls : kx_L} {st : List kx_V} {G : kx_G} {μ : kx_M}
    (h : kx_st tb False (kx_wx E tb Q) Q (fun m as G μ pc' ls' rest => kx_cx E m as G μ (fun v G' μ' => kx_wx E tb Q pc' ls' (v.toList ++ rest) G' μ')) pc ls st G μ) : kx_wx E tb Q pc ls st G μ := by
  rw [kx_st_lf] at h
  have key : ∀ (n : Nat) (v : Option kx_V) (G' : kx_G) (μ' : kx_M), kx_run E tb v G' μ' (n + 1) pc ls st G μ = _ := fun n v G' μ' => (kx_st_lf tb (kx_run E tb v G' μ' n) (fun v1 G1 μ1 => v1 = v ∧ G1 = G' ∧ μ1 = μ') (fun m as G1 μ1 pc' ls' rest => ∃ (v1 : Option kx_V) (G2 : kx_G) (μ2 : kx_M), E m as G1 μ1 v1 G2 μ2 ∧ kx_run E tb v G' μ' n pc' ls' (v1.toList ++ rest) G2 μ2) pc ls st G μ)
  cases hl : kx_lf tb pc ls st G μ with
  | none => rw [hl] at h; exact h.elim
  | some x =>
    rw [hl] at h
    match x, hl, h with
    | .inl (pc1, ls1, st1, G1, μ1), hl, h =>
      obtain ⟨n, v, G', μ', h1, h2⟩ := h
      refine ⟨n + 1, v, G', μ', ?_, h2⟩
      rw [key, hl]; exact h1
    | .inr (.inl (v, G1, μ1)), hl, h =>
      refine ⟨1, v, G1, μ1, ?_, h⟩
      rw [key, hl]; exact ⟨rfl, rfl, rfl⟩
    | .inr (.inr (m, as, G1, μ1, pc1, ls1, rest)), hl, h =>
      obtain ⟨v1, G2, μ2, h1, n, v, G', μ', h2, h3⟩ := h
      refine ⟨n + 1, v, G', μ', ?_, h3⟩
      rw [key, hl]; exact ⟨v1, G2, μ2, h1, h2⟩
/-- many instructions, up to places named, calls, and returns -/
def kx_cut (E : Nat → List kx_V → kx_G → kx_M → Option kx_V → kx_G → kx_M → Prop) (tb : Nat → kx_E) (Q : Option kx_V → kx_G → kx_M → Prop) (stops : List Nat) : Nat → Nat → kx_L → List kx_V → kx_G → kx_M → Prop
  | 0, pc, ls, st, G, μ => kx_wx E tb Q pc ls st G μ
  | n + 1, pc, ls, st, G, μ => kx_st tb False (fun pc ls st G μ => if pc ∈ stops then kx_wx E tb Q pc ls st G μ else kx_cut E tb Q stops n pc ls st G μ) Q (fun m as G μ pc' ls' rest => kx_cx E m as G μ (fun v G' μ' => kx_wx E tb Q pc' ls' (v.toList ++ rest) G' μ')) pc ls st G μ
theorem kx_wx_cut {tb : Nat → kx_E} {Q : Option kx_V → kx_G → kx_M → Prop} (stops : List Nat) : ∀ (n : Nat) {pc : Nat} {ls : kx_L} {st : List kx_V} {G : kx_G} {μ : kx_M}, kx_cut E tb Q stops n pc ls st G μ → kx_wx E tb Q pc ls st G μ := by
  intro n
  induction n with
  | zero => intro pc ls st G μ h; exact h
  | succ n ih =>
    intro pc ls st G μ h
    refine kx_wx_step ?_
    unfold kx_cut at h
    rw [kx_st_lf] at h ⊢
    cases hl : kx_lf tb pc ls st G μ with
    | none => rw [hl] at h; exact h
    | some x =>
      rw [hl] at h
      match x, hl, h with
      | .inl (pc1, ls1, st1, G1, μ1), hl, h =>
        by_cases hs : pc1 ∈ stops
        · simp only [hs, if_true] at h; exact h
        · simp only [hs, if_false] at h; exact ih h
      | .inr (.inl (v, G1, μ1)), hl, h => exact h
      | .inr (.inr (m, as, G1, μ1, pc1, ls1, rest)), hl, h => exact h
theorem kx_iteF {c A : Prop} [Decidable c] : (if c then A else False) = (c ∧ A) := by
  by_cases h : c <;> simp [h]
theorem kx_iteB {c A B : Prop} [Decidable c] : (if c then A else B) = ((c → A) ∧ (¬ c → B)) := by
  by_cases h : c <;> simp [h]
end KW
