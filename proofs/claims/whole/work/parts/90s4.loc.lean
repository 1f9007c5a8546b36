/-! locals -/
theorem kx_get_put (ls : kx_L) (i : Nat) (v : Option kx_V) (j : Nat) : kx_get (kx_put ls i v) j = if j = i ∧ i < ls.length then v else kx_get ls j := by
  induction ls generalizing i j with
  | nil => simp [kx_put, kx_get]
  | cons x l ih =>
    cases i with
    | zero => cases j with
      | zero => simp [kx_put, kx_get]
      | succ j => simp [kx_put, kx_get]
    | succ i => cases j with
      | zero => simp [kx_put, kx_get]
      | succ j =>
        simp only [kx_put, kx_get]
        rw [ih]
        simp
theorem kx_put_len (ls : kx_L) (i : Nat) (v : Option kx_V) : (kx_put ls i v).length = ls.length := by
  induction ls generalizing i with
  | nil => rfl
  | cons x l ih => cases i with
    | zero => rfl
    | succ i => simp [kx_put, ih]
theorem kx_clr_len (ls : kx_L) (i : Nat) : (kx_clr ls i).length = ls.length := by
  unfold kx_clr
  split
  · rfl
  · split
    · exact kx_put_len _ _ _
    · rfl
theorem kx_get_len {ls : kx_L} {i : Nat} {v : kx_V} (h : kx_get ls i = some v) : i < ls.length := by
  induction ls generalizing i with
  | nil => simp [kx_get] at h
  | cons x l ih => cases i with
    | zero => simp
    | succ i => simp only [kx_get] at h; have := ih h; simp; omega
/-- what is held behind the clearing ahead of place i: all but a long at i - 1 -/
theorem kx_get_clr {ls : kx_L} {i j : Nat} {w : kx_V} (h : kx_get (kx_clr ls i) j = some w) : kx_get ls j = some w ∧ ¬ (j + 1 = i ∧ kx_cat w = 2) := by
  unfold kx_clr at h
  split at h
  · exact ⟨h, fun q => by omega⟩
  · rename_i k
    split at h
    · rename_i x hx
      rw [kx_get_put] at h
      by_cases e : j = k ∧ k < ls.length
      · rw [if_pos e] at h; cases h
      · rw [if_neg e] at h
        refine ⟨h, fun q => e ⟨by omega, kx_get_len hx⟩⟩
    · rename_i hx
      refine ⟨h, fun q => ?_⟩
      have : j = k := by omega
      subst this
      match w, h, q with
      | .inr (.inl x), h, _ => exact hx x h
      | .inl _, _, q => simp [kx_cat] at q
      | .inr (.inr _), _, q => simp [kx_cat] at q
theorem sx_cat (Z : sx_Z) (v : kx_V) : (sx_c Z v).category = kx_cat v := by
  match v with
  | .inl _ => rfl
  | .inr (.inl _) => rfl
  | .inr (.inr _) => rfl
def sx_lv (Z : sx_Z) (lsA : Array Slot) (nL : Nat) (ls : kx_L) : Prop := ls.length = nL ∧ lsA.size = nL ∧ lv_wf lsA ∧ ∀ i v, kx_get ls i = some v → lsA[i]? = some (.val (sx_c Z v))
def sx_ll (Z : sx_Z) (ls : kx_L) : List (Nat × Value) := (List.range ls.length).filterMap (fun i => (kx_get ls i).map (fun v => (i, sx_c Z v)))
theorem sx_ll_mem {Z : sx_Z} {ls : kx_L} {q : Nat × Value} : q ∈ sx_ll Z ls ↔ ∃ v, kx_get ls q.1 = some v ∧ q.2 = sx_c Z v := by
  unfold sx_ll
  rw [List.mem_filterMap]
  constructor
  · rintro ⟨i, -, h⟩
    cases hg : kx_get ls i with
    | none => rw [hg] at h; cases h
    | some v => rw [hg] at h; cases h; exact ⟨v, hg, rfl⟩
  · rintro ⟨v, h1, h2⟩
    refine ⟨q.1, List.mem_range.mpr (kx_get_len h1), ?_⟩
    rw [h1]
    show some (q.1, sx_c Z v) = some q
    rw [← h2]
theorem sx_lv_has {Z : sx_Z} {lsA : Array Slot} {nL : Nat} {ls : kx_L} (h : sx_lv Z lsA nL ls) : lv_has lsA nL (sx_ll Z ls) := by
  refine ⟨h.2.1, h.2.2.1, fun q hq => ?_⟩
  obtain ⟨v, h1, h2⟩ := sx_ll_mem.mp hq
  rw [h2]
  exact h.2.2.2 _ _ h1
theorem sx_lv_set1 {Z : sx_Z} {lsA : Array Slot} {nL : Nat} {ls : kx_L} {i : Nat} {v : kx_V} (hl : ls.length = nL) (hi : i < nL) (h : lv_has lsA nL ((i, sx_c Z v) :: (sx_ll Z ls).filter (fun q => !(q.1 == i) && !(q.1 + 1 == i && q.2.category == 2)))) : sx_lv Z lsA nL (kx_set1 ls i v) := by
  refine ⟨?_, h.1, h.2.1, fun j w hw => ?_⟩
  · unfold kx_set1; rw [kx_put_len, kx_clr_len]; exact hl
  · unfold kx_set1 at hw
    rw [kx_get_put] at hw
    by_cases e : j = i ∧ i < (kx_clr ls i).length
    · rw [if_pos e] at hw
      cases hw
      rw [e.1]
      exact h.2.2 (i, sx_c Z v) List.mem_cons_self
    · rw [if_neg e] at hw
      have hne : ¬ j = i := fun q => e ⟨q, by rw [kx_clr_len, hl]; exact hi⟩
      obtain ⟨g1, g2⟩ := kx_get_clr hw
      refine h.2.2 (j, sx_c Z w) (List.mem_cons_of_mem _ (List.mem_filter.mpr ⟨sx_ll_mem.mpr ⟨w, g1, rfl⟩, ?_⟩))
      simp only [sx_cat]
      simp only [Bool.and_eq_true, Bool.not_eq_true', beq_eq_false_iff_ne, ne_eq, Bool.and_eq_false_iff]
      refine ⟨hne, ?_⟩
      by_cases z : j + 1 = i
      · exact Or.inr (fun q => g2 ⟨z, q⟩)
      · exact Or.inl z
theorem sx_lv_set2 {Z : sx_Z} {lsA : Array Slot} {nL : Nat} {ls : kx_L} {i : Nat} {v : kx_V} (hl : ls.length = nL) (hi : i + 1 < nL) (h : lv_has lsA nL ((i, sx_c Z v) :: (sx_ll Z ls).filter (fun q => !(q.1 == i) && (!(q.1 == i + 1) && !(q.1 + 1 == i && q.2.category == 2))))) : sx_lv Z lsA nL (kx_set2 ls i v) := by
  refine ⟨?_, h.1, h.2.1, fun j w hw => ?_⟩
  · unfold kx_set2; rw [kx_put_len, kx_put_len, kx_clr_len]; exact hl
  · unfold kx_set2 at hw
    rw [kx_get_put, kx_get_put, kx_put_len, kx_clr_len] at hw
    by_cases e1 : j = i + 1 ∧ i + 1 < ls.length
    · rw [if_pos e1] at hw; cases hw
    · rw [if_neg e1] at hw
      have hne1 : ¬ j = i + 1 := fun q => e1 ⟨q, by omega⟩
      by_cases e : j = i ∧ i < ls.length
      · rw [if_pos e] at hw
        cases hw
        rw [e.1]
        exact h.2.2 (i, sx_c Z v) List.mem_cons_self
      · rw [if_neg e] at hw
        have hne : ¬ j = i := fun q => e ⟨q, by omega⟩
        obtain ⟨g1, g2⟩ := kx_get_clr hw
        refine h.2.2 (j, sx_c Z w) (List.mem_cons_of_mem _ (List.mem_filter.mpr ⟨sx_ll_mem.mpr ⟨w, g1, rfl⟩, ?_⟩))
        simp only [sx_cat]
        simp only [Bool.and_eq_true, Bool.not_eq_true', beq_eq_false_iff_ne, ne_eq, Bool.and_eq_false_iff]
        refine ⟨hne, hne1, ?_⟩
        by_cases z : j + 1 = i
        · exact Or.inr (fun q => g2 ⟨z, q⟩)
        · exact Or.inl z
theorem sx_cats (Z : sx_Z) (st : List kx_V) : ((st.map (sx_c Z)).map fun v => v.category).sum = kx_cats st := by
  induction st with
  | nil => rfl
  | cons v l ih => simp only [List.map_cons, List.sum_cons, kx_cats, ih, sx_cat]
/-- the locals at a method's start -/
theorem sx_ent (Z : sx_Z) : ∀ (as : List kx_V) (k : Nat), ∀ i v, kx_get (kx_ent as) i = some v → (k + i, sx_c Z v) ∈ lv_args k (as.map (sx_c Z)) := by
  intro as
  induction as with
  | nil => intro k i v h; simp [kx_ent, kx_get] at h
  | cons w l ih =>
    intro k i v h
    simp only [kx_ent] at h
    simp only [List.map_cons, lv_args, sx_cat]
    by_cases hc : kx_cat w = 2
    · rw [if_pos hc] at h
      rw [if_pos hc]
      match i, h with
      | 0, h => simp only [kx_get] at h; cases h; exact List.mem_cons_self
      | 1, h => simp [kx_get] at h
      | i + 2, h =>
        simp only [kx_get] at h
        have := ih (k + 2) i v h
        rw [show k + (i + 2) = k + 2 + i by omega]
        exact List.mem_cons_of_mem _ this
    · rw [if_neg hc] at h
      rw [if_neg hc]
      match i, h with
      | 0, h => simp only [kx_get] at h; cases h; exact List.mem_cons_self
      | i + 1, h =>
        simp only [kx_get] at h
        have := ih (k + 1) i v h
        rw [show k + (i + 1) = k + 1 + i by omega]
        exact List.mem_cons_of_mem _ this
theorem sx_ent_len (Z : sx_Z) (as : List kx_V) : (kx_ent as).length = (lg_sl (as.map (sx_c Z))).length := by
  induction as with
  | nil => rfl
  | cons w l ih =>
    simp only [kx_ent, List.map_cons, lg_sl, List.flatMap_cons, List.length_append, sx_cat]
    unfold lg_sl at ih
    by_cases hc : kx_cat w = 2
    · rw [if_pos hc]; simp [hc, ih]; omega
    · rw [if_neg hc]; simp [hc, ih]; omega
theorem kx_get_none : ∀ (k i : Nat), kx_get (List.replicate k none) i = none := by
  intro k
  induction k with
  | zero => intro i; rfl
  | succ k ihk => intro i; cases i with
    | zero => rfl
    | succ i => exact ihk i
theorem kx_get_app (l : kx_L) (k i : Nat) {v : kx_V} (h : kx_get (l ++ List.replicate k none) i = some v) : kx_get l i = some v := by
  induction l generalizing i with
  | nil => rw [List.nil_append, kx_get_none] at h; cases h
  | cons x l ih =>
    cases i with
    | zero => exact h
    | succ i => exact ih i h
theorem kx_get_pad (l : kx_L) (n i : Nat) {v : kx_V} (h : kx_get (kx_pad l n) i = some v) : kx_get l i = some v := kx_get_app l _ i h
theorem sx_lv_ent {Z : sx_Z} {as : List kx_V} {n : Nat} (h : (kx_ent as).length ≤ n) : sx_lv Z ((lg_sl (as.map (sx_c Z)) ++ List.replicate (n - (lg_sl (as.map (sx_c Z))).length) Slot.unset).toArray) n (kx_pad (kx_ent as) n) := by
  have hl := lv_entry (as.map (sx_c Z)) (n := n) (by rw [← sx_ent_len Z]; exact h)
  refine ⟨?_, hl.1, hl.2.1, fun i v hv => ?_⟩
  · simp [kx_pad]; omega
  · have := sx_ent Z as 0 i v (kx_get_pad _ _ _ hv)
    rw [Nat.zero_add] at this
    exact hl.2.2 _ this
