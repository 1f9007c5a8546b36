/-! the small machine's memory and the kit's heap. Z: the heap's size before (less 1), the outer cells' addresses, the array classes' numbers -/
abbrev sx_Z : Type := Nat × (Nat → Nat) × (Nat → ClassId)
def sx_ad (Z : sx_Z) (k : Nat) : Nat := if k ≤ 100 then Z.1 + k else Z.2.1 k
def sx_c (Z : sx_Z) (v : kx_V) : Value := match v with
  | .inl x => .int (Int32.ofInt x)
  | .inr (.inl x) => .long (Int64.ofInt x)
  | .inr (.inr a) => .ref (sx_ad Z a)
theorem sx_cI (Z : sx_Z) (x : Int) : sx_c Z (Sum.inl x) = .int (Int32.ofInt x) := rfl
theorem sx_cL (Z : sx_Z) (x : Int) : sx_c Z (Sum.inr (Sum.inl x)) = .long (Int64.ofInt x) := rfl
theorem sx_cR (Z : sx_Z) (a : Nat) : sx_c Z (Sum.inr (Sum.inr a)) = .ref (sx_ad Z a) := rfl
def sx_rv (Z : sx_Z) (r : Nat) : Option Nat := if r = 0 then none else some (sx_ad Z r)
def sx_fv (Z : sx_Z) (G : kx_G) (μ : kx_M) (ci k j : Nat) : Value := if sx_tag ci j = 1 then va_rf (sx_rv Z (G.2.2 k j)) else .int (Int32.ofInt (μ k j))
def sx_E (Z : sx_Z) (G : kx_G) (μ : kx_M) (k : Nat) : va_E := match (G.1 k).1 with
  | 1 => .inr ((G.1 k).2, (List.range (sx_nf (G.1 k).2)).map (fun j => sx_fv Z G μ (G.1 k).2 k j))
  | 2 => .inl (Z.2.2 2, (G.1 k).2, .inl (fun j => Int32.ofInt (μ k j)))
  | 3 => .inl (Z.2.2 3, (G.1 k).2, .inr (.inl (fun j => Int64.ofInt (μ k j))))
  | 4 => .inl (Z.2.2 4, (G.1 k).2, .inl (fun j => Int32.ofInt (μ k j)))
  | 5 => .inl (Z.2.2 5, (G.1 k).2, .inr (.inr (.inr (.inr (fun j => sx_rv Z (G.2.2 k j))))))
  | 6 => .inl (Z.2.2 6, (G.1 k).2, .inr (.inr (.inr (.inr (fun j => sx_rv Z (G.2.2 k j))))))
  | _ => .inl (Z.2.2 2, 0, .inl (fun _ => 0))
def sx_ws (Z : sx_Z) (G : kx_G) (μ : kx_M) : va_W := (List.range (G.2.1 - 1)).map (fun i => (Z.1 + (i + 1), sx_E Z G μ (i + 1)))
def sx_size (q : Nat × Nat) : Nat := if q.1 = 1 then sx_nf q.2 else q.2
def sx_sl (G : kx_G) : Nat := ((List.range (G.2.1 - 1)).map (fun i => sx_size (G.1 (i + 1)))).sum
def sx_wf (L : Nat) (G : kx_G) : Prop := 1 ≤ G.2.1 ∧ G.2.1 ≤ 100 ∧ (∀ k, 1 ≤ (G.1 k).1 → (G.1 k).1 ≤ 6 → 1 ≤ k ∧ k < G.2.1) ∧ (∀ k, (G.1 k).1 = 1 → (G.1 k).2 < 8) ∧ (∀ k, (G.1 k).1 = 7 → k = 101 ∨ k = 102 ∨ k = 103 ∨ k = 104) ∧ G.1 101 = (7, 6) ∧ G.1 102 = (7, 6) ∧ G.1 103 = (7, 6) ∧ G.1 104 = (7, L) ∧ (∀ k, 2 ≤ (G.1 k).1 → (G.1 k).1 ≤ 6 → (G.1 k).2 ≤ 5000)
def sx_rel (Z : sx_Z) (D : va_G) (L : Nat) (μ0 : kx_M) (G : kx_G) (μ : kx_M) (H : Heap) : Prop := sx_wf L G ∧ (G.2.1 < 91 → H.size = Z.1 + G.2.1) ∧ va_P D sx_cls (sx_ws Z G μ) H ∧ ∀ k, 101 ≤ k → μ k = μ0 k
theorem sx_ws_at {Z : sx_Z} {G : kx_G} {μ : kx_M} {k : Nat} (h1 : 1 ≤ k) (h2 : k < G.2.1) : (sx_ws Z G μ)[k - 1]? = some (Z.1 + k, sx_E Z G μ k) := by
  unfold sx_ws
  rw [List.getElem?_map, List.getElem?_range (by omega)]
  have e : k - 1 + 1 = k := by omega
  simp only [Option.map_some, e]
theorem sx_ws_len {Z : sx_Z} {G : kx_G} {μ : kx_M} : (sx_ws Z G μ).length = G.2.1 - 1 := by simp [sx_ws]
theorem sx_ws_inv {Z : sx_Z} {G : kx_G} {μ : kx_M} {i : Nat} {q : Nat × va_E} (h : (sx_ws Z G μ)[i]? = some q) : i + 1 < G.2.1 ∧ q = (Z.1 + (i + 1), sx_E Z G μ (i + 1)) := by
  have hl : i < G.2.1 - 1 := by
    have := (List.getElem?_eq_some_iff.mp h).1
    rwa [sx_ws_len] at this
  have h2 := sx_ws_at (Z := Z) (μ := μ) (k := i + 1) (by omega) (show i + 1 < G.2.1 by omega)
  rw [show i + 1 - 1 = i from rfl, h] at h2
  exact ⟨by omega, Option.some.inj h2⟩
theorem sx_D (Z : sx_Z) (G : kx_G) (μ : kx_M) : va_D (fun q => Z.1 < q) (sx_ws Z G μ) := by
  refine ⟨fun i j p q hp hq h => ?_, fun k q hk => ?_⟩
  · obtain ⟨-, rfl⟩ := sx_ws_inv hp
    obtain ⟨-, rfl⟩ := sx_ws_inv hq
    simp only at h
    omega
  · obtain ⟨-, rfl⟩ := sx_ws_inv hk
    show Z.1 < Z.1 + (k + 1)
    omega
theorem sx_E_congr {Z : sx_Z} {G G' : kx_G} {μ μ' : kx_M} {k : Nat} (hG : G'.1 k = G.1 k) (hr : ∀ j, G'.2.2 k j = G.2.2 k j) (h : ∀ j, μ' k j = μ k j) : sx_E Z G' μ' k = sx_E Z G μ k := by
  have e1 : μ' k = μ k := funext h
  have e2 : G'.2.2 k = G.2.2 k := funext hr
  unfold sx_E sx_fv
  rw [hG, e1, e2]
/-- a cell is written -/
theorem sx_ws_set {Z : sx_Z} {G G' : kx_G} {μ μ' : kx_M} {a : Nat} {x : va_E} (hn : G'.2.1 = G.2.1) (h1 : 1 ≤ a) (h2 : a < G.2.1) (hx : sx_E Z G' μ' a = x) (ho : ∀ b, b ≠ a → sx_E Z G' μ' b = sx_E Z G μ b) : (sx_ws Z G μ).set (a - 1) (Z.1 + a, x) = sx_ws Z G' μ' := by
  apply List.ext_getElem?
  intro i
  by_cases hi : i + 1 < G.2.1
  · have e1 := sx_ws_at (Z := Z) (G := G') (μ := μ') (k := i + 1) (by omega) (by rw [hn]; exact hi)
    have e0 := sx_ws_at (Z := Z) (G := G) (μ := μ) (k := i + 1) (by omega) hi
    rw [show i + 1 - 1 = i from rfl] at e1 e0
    rw [e1]
    by_cases hia : a - 1 = i
    · subst hia
      have e : a - 1 + 1 = a := by omega
      rw [List.getElem?_set_self (by rw [sx_ws_len]; omega), e, hx]
    · rw [List.getElem?_set_ne hia, e0, ho (i + 1) (by omega)]
  · rw [List.getElem?_eq_none (by rw [List.length_set, sx_ws_len]; omega), List.getElem?_eq_none (by rw [sx_ws_len, hn]; omega)]
theorem sx_ws_push {Z : sx_Z} {G : kx_G} {μ : kx_M} (q : Nat × Nat) (h1 : 1 ≤ G.2.1) : sx_ws Z (kx_new G q) (kx_zero μ G.2.1) = sx_ws Z G μ ++ [(Z.1 + G.2.1, sx_E Z (kx_new G q) (kx_zero μ G.2.1) G.2.1)] := by
  have e : (kx_new G q).2.1 - 1 = (G.2.1 - 1) + 1 := by
    show G.2.1 + 1 - 1 = _
    omega
  unfold sx_ws
  rw [e, List.range_succ, List.map_append]
  congr 1
  · apply List.map_congr_left
    intro i hi
    have hi' := List.mem_range.mp hi
    rw [sx_E_congr (G := G) (μ := μ)]
    · simp only [kx_new, kx_shp]
      rw [if_neg (by omega)]
    · intro j
      simp only [kx_new, kx_zeror]
      rw [if_neg (by omega)]
    · intro j
      simp only [kx_zero]
      rw [if_neg (by omega)]
  · simp only [List.map_cons, List.map_nil]
    rw [show G.2.1 - 1 + 1 = G.2.1 by omega]
theorem sx_sl_push {G : kx_G} (q : Nat × Nat) (h1 : 1 ≤ G.2.1) : sx_sl (kx_new G q) = sx_sl G + sx_size q := by
  have e : (kx_new G q).2.1 - 1 = (G.2.1 - 1) + 1 := by
    show G.2.1 + 1 - 1 = _
    omega
  unfold sx_sl
  rw [e, List.range_succ, List.map_append, List.sum_append]
  congr 1
  · congr 1
    apply List.map_congr_left
    intro i hi
    have hi' := List.mem_range.mp hi
    simp only [kx_new, kx_shp]
    rw [if_neg (by omega)]
  · simp only [List.map_cons, List.map_nil, List.sum_cons, List.sum_nil, Nat.add_zero]
    rw [show G.2.1 - 1 + 1 = G.2.1 by omega]
    simp [kx_new, kx_shp]
theorem sx_wf_new {L : Nat} {G : kx_G} {q : Nat × Nat} (h : sx_wf L G) (hn : G.2.1 + 1 ≤ 100) (hk : 1 ≤ q.1 ∧ q.1 ≤ 6) (hc : q.1 = 1 → q.2 < 8) (hl : 2 ≤ q.1 → q.2 ≤ 5000) : sx_wf L (kx_new G q) := by
  obtain ⟨a1, a2, a3, a4, a5, a6, a7, a8, a9, a10⟩ := h
  have key : ∀ k, (kx_new G q).1 k = if k = G.2.1 then q else G.1 k := fun k => rfl
  refine ⟨?_, ?_, ?_, ?_, ?_, ?_, ?_, ?_, ?_, ?_⟩
  · show 1 ≤ G.2.1 + 1; omega
  · exact hn
  · intro k h1 h2
    show 1 ≤ k ∧ k < G.2.1 + 1
    rw [key] at h1 h2
    by_cases e : k = G.2.1
    · omega
    · rw [if_neg e] at h1 h2; have := a3 k h1 h2; omega
  · intro k h1
    rw [key] at h1 ⊢
    by_cases e : k = G.2.1
    · rw [if_pos e] at h1 ⊢; exact hc h1
    · rw [if_neg e] at h1 ⊢; exact a4 k h1
  · intro k h1
    rw [key] at h1
    by_cases e : k = G.2.1
    · rw [if_pos e] at h1; omega
    · rw [if_neg e] at h1; exact a5 k h1
  · rw [key, if_neg (by omega)]; exact a6
  · rw [key, if_neg (by omega)]; exact a7
  · rw [key, if_neg (by omega)]; exact a8
  · rw [key, if_neg (by omega)]; exact a9
  · intro k h1 h2
    rw [key] at h1 h2 ⊢
    by_cases e : k = G.2.1
    · rw [if_pos e] at h1 h2 ⊢; exact hl h1
    · rw [if_neg e] at h1 h2 ⊢; exact a10 k h1 h2
/-- a cell of a kind is there -/
theorem sx_cell {Z : sx_Z} {D : va_G} {L : Nat} {μ0 : kx_M} {G : kx_G} {μ : kx_M} {H : Heap} (h : sx_rel Z D L μ0 G μ H) {a : Nat} (h1 : 1 ≤ (G.1 a).1) (h6 : (G.1 a).1 ≤ 6) : 1 ≤ a ∧ a < G.2.1 ∧ sx_ad Z a = Z.1 + a ∧ (sx_ws Z G μ)[a - 1]? = some (sx_ad Z a, sx_E Z G μ a) := by
  obtain ⟨⟨b1, b2, b3, -⟩, -⟩ := h
  obtain ⟨c1, c2⟩ := b3 a h1 h6
  have e : sx_ad Z a = Z.1 + a := by unfold sx_ad; rw [if_pos (by omega)]
  exact ⟨c1, c2, e, by rw [e]; exact sx_ws_at c1 c2⟩
