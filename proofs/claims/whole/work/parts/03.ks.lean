def kx_nl (o : Option kx_V) : Bool := match o with
  | some (.inr (.inl _)) => false
  | _ => true
theorem kx_get_nl {ls : kx_L} {j : Nat} (h : kx_nl (kx_get ls j) = true) (i : Nat) (hi : i = j + 1) : kx_clr ls i = ls := by
  subst hi
  simp only [kx_clr]
  split
  · rename_i q; rw [q] at h; simp [kx_nl] at h
  · rfl
theorem kx_set1_nl {ls : kx_L} {j : Nat} {v : kx_V} (h : kx_nl (kx_get ls j) = true) : kx_set1 ls (j + 1) v = kx_put ls (j + 1) (some v) := by
  unfold kx_set1
  rw [kx_get_nl h _ rfl]
theorem kx_set2_nl {ls : kx_L} {j : Nat} {v : kx_V} (h : kx_nl (kx_get ls j) = true) : kx_set2 ls (j + 1) v = kx_put (kx_put ls (j + 1) (some v)) (j + 1 + 1) none := by
  unfold kx_set2
  rw [kx_get_nl h _ rfl]
section KS
variable {E : Nat → List kx_V → kx_G → kx_M → Option kx_V → kx_G → kx_M → Prop} {tb : Nat → kx_E} {Q : Option kx_V → kx_G → kx_M → Prop} {pc nx r1 r2 : Nat} {r3 : Int} {tg : List Nat} {ls : kx_L} {st : List kx_V} {G : kx_G} {μ : kx_M}
theorem ks_iload_n {i : Fin 4} {x : Int} (ht : tb pc = (.iload_n i, nx, r1, r2, r3, tg)) (hg : kx_get ls r1 = some (kI x)) (h : kx_wx E tb Q nx ls (kI x :: st) G μ) : kx_wx E tb Q pc ls st G μ := by
  refine kx_wx_step ?_
  unfold kx_st
  rw [ht]
  simp only [kx_do, kx_load, hg]; exact h
theorem ks_iload {i : Nat} {x : Int} (ht : tb pc = (.iload i, nx, r1, r2, r3, tg)) (hg : kx_get ls r1 = some (kI x)) (h : kx_wx E tb Q nx ls (kI x :: st) G μ) : kx_wx E tb Q pc ls st G μ := by
  refine kx_wx_step ?_
  unfold kx_st
  rw [ht]
  simp only [kx_do, kx_load, hg]; exact h
theorem ks_lload_n {i : Fin 4} {x : Int} (ht : tb pc = (.lload_n i, nx, r1, r2, r3, tg)) (hg : kx_get ls r1 = some (kL x)) (h : kx_wx E tb Q nx ls (kL x :: st) G μ) : kx_wx E tb Q pc ls st G μ := by
  refine kx_wx_step ?_
  unfold kx_st
  rw [ht]
  simp only [kx_do, kx_load, hg]; exact h
theorem ks_lload {i : Nat} {x : Int} (ht : tb pc = (.lload i, nx, r1, r2, r3, tg)) (hg : kx_get ls r1 = some (kL x)) (h : kx_wx E tb Q nx ls (kL x :: st) G μ) : kx_wx E tb Q pc ls st G μ := by
  refine kx_wx_step ?_
  unfold kx_st
  rw [ht]
  simp only [kx_do, kx_load, hg]; exact h
theorem ks_aload_n {i : Fin 4} {x : Nat} (ht : tb pc = (.aload_n i, nx, r1, r2, r3, tg)) (hg : kx_get ls r1 = some (kR x)) (h : kx_wx E tb Q nx ls (kR x :: st) G μ) : kx_wx E tb Q pc ls st G μ := by
  refine kx_wx_step ?_
  unfold kx_st
  rw [ht]
  simp only [kx_do, kx_load, hg]; exact h
theorem ks_aload {i : Nat} {x : Nat} (ht : tb pc = (.aload i, nx, r1, r2, r3, tg)) (hg : kx_get ls r1 = some (kR x)) (h : kx_wx E tb Q nx ls (kR x :: st) G μ) : kx_wx E tb Q pc ls st G μ := by
  refine kx_wx_step ?_
  unfold kx_st
  rw [ht]
  simp only [kx_do, kx_load, hg]; exact h
theorem ks_istore_n_0 {i : Fin 4} {x : Int} {l : kx_L} {o : Option kx_V} (ht : tb pc = (.istore_n i, nx, 0, r2, r3, tg)) (h : kx_wx E tb Q nx (some (kI x) :: l) st G μ) : kx_wx E tb Q pc (o :: l) (kI x :: st) G μ := by
  refine kx_wx_step ?_
  unfold kx_st
  rw [ht]
  exact h
theorem ks_istore_n_1 {i : Fin 4} {x : Int} {l : kx_L} {o a0 : Option kx_V} (ht : tb pc = (.istore_n i, nx, 1, r2, r3, tg)) (hn : kx_nl a0 = true) (h : kx_wx E tb Q nx (a0 :: some (kI x) :: l) st G μ) : kx_wx E tb Q pc (a0 :: o :: l) (kI x :: st) G μ := by
  refine kx_wx_step ?_
  unfold kx_st
  rw [ht]
  simp only [kx_do]
  rw [kx_set1_nl (by exact hn)]
  exact h
theorem ks_istore_n_2 {i : Fin 4} {x : Int} {l : kx_L} {o a0 a1 : Option kx_V} (ht : tb pc = (.istore_n i, nx, 2, r2, r3, tg)) (hn : kx_nl a1 = true) (h : kx_wx E tb Q nx (a0 :: a1 :: some (kI x) :: l) st G μ) : kx_wx E tb Q pc (a0 :: a1 :: o :: l) (kI x :: st) G μ := by
  refine kx_wx_step ?_
  unfold kx_st
  rw [ht]
  simp only [kx_do]
  rw [kx_set1_nl (by exact hn)]
  exact h
theorem ks_istore_n_3 {i : Fin 4} {x : Int} {l : kx_L} {o a0 a1 a2 : Option kx_V} (ht : tb pc = (.istore_n i, nx, 3, r2, r3, tg)) (hn : kx_nl a2 = true) (h : kx_wx E tb Q nx (a0 :: a1 :: a2 :: some (kI x) :: l) st G μ) : kx_wx E tb Q pc (a0 :: a1 :: a2 :: o :: l) (kI x :: st) G μ := by
  refine kx_wx_step ?_
  unfold kx_st
  rw [ht]
  simp only [kx_do]
  rw [kx_set1_nl (by exact hn)]
  exact h
theorem ks_istore_4 {i : Nat} {x : Int} {l : kx_L} {o a0 a1 a2 a3 : Option kx_V} (ht : tb pc = (.istore i, nx, 4, r2, r3, tg)) (hn : kx_nl a3 = true) (h : kx_wx E tb Q nx (a0 :: a1 :: a2 :: a3 :: some (kI x) :: l) st G μ) : kx_wx E tb Q pc (a0 :: a1 :: a2 :: a3 :: o :: l) (kI x :: st) G μ := by
  refine kx_wx_step ?_
  unfold kx_st
  rw [ht]
  simp only [kx_do]
  rw [kx_set1_nl (by exact hn)]
  exact h
theorem ks_istore_5 {i : Nat} {x : Int} {l : kx_L} {o a0 a1 a2 a3 a4 : Option kx_V} (ht : tb pc = (.istore i, nx, 5, r2, r3, tg)) (hn : kx_nl a4 = true) (h : kx_wx E tb Q nx (a0 :: a1 :: a2 :: a3 :: a4 :: some (kI x) :: l) st G μ) : kx_wx E tb Q pc (a0 :: a1 :: a2 :: a3 :: a4 :: o :: l) (kI x :: st) G μ := by
  refine kx_wx_step ?_
  unfold kx_st
  rw [ht]
  simp only [kx_do]
  rw [kx_set1_nl (by exact hn)]
  exact h
theorem ks_istore_6 {i : Nat} {x : Int} {l : kx_L} {o a0 a1 a2 a3 a4 a5 : Option kx_V} (ht : tb pc = (.istore i, nx, 6, r2, r3, tg)) (hn : kx_nl a5 = true) (h : kx_wx E tb Q nx (a0 :: a1 :: a2 :: a3 :: a4 :: a5 :: some (kI x) :: l) st G μ) : kx_wx E tb Q pc (a0 :: a1 :: a2 :: a3 :: a4 :: a5 :: o :: l) (kI x :: st) G μ := by
  refine kx_wx_step ?_
  unfold kx_st
  rw [ht]
  simp only [kx_do]
  rw [kx_set1_nl (by exact hn)]
  exact h
theorem ks_istore_7 {i : Nat} {x : Int} {l : kx_L} {o a0 a1 a2 a3 a4 a5 a6 : Option kx_V} (ht : tb pc = (.istore i, nx, 7, r2, r3, tg)) (hn : kx_nl a6 = true) (h : kx_wx E tb Q nx (a0 :: a1 :: a2 :: a3 :: a4 :: a5 :: a6 :: some (kI x) :: l) st G μ) : kx_wx E tb Q pc (a0 :: a1 :: a2 :: a3 :: a4 :: a5 :: a6 :: o :: l) (kI x :: st) G μ := by
  refine kx_wx_step ?_
  unfold kx_st
  rw [ht]
  simp only [kx_do]
  rw [kx_set1_nl (by exact hn)]
  exact h
theorem ks_istore_8 {i : Nat} {x : Int} {l : kx_L} {o a0 a1 a2 a3 a4 a5 a6 a7 : Option kx_V} (ht : tb pc = (.istore i, nx, 8, r2, r3, tg)) (hn : kx_nl a7 = true) (h : kx_wx E tb Q nx (a0 :: a1 :: a2 :: a3 :: a4 :: a5 :: a6 :: a7 :: some (kI x) :: l) st G μ) : kx_wx E tb Q pc (a0 :: a1 :: a2 :: a3 :: a4 :: a5 :: a6 :: a7 :: o :: l) (kI x :: st) G μ := by
  refine kx_wx_step ?_
  unfold kx_st
  rw [ht]
  simp only [kx_do]
  rw [kx_set1_nl (by exact hn)]
  exact h
theorem ks_istore_9 {i : Nat} {x : Int} {l : kx_L} {o a0 a1 a2 a3 a4 a5 a6 a7 a8 : Option kx_V} (ht : tb pc = (.istore i, nx, 9, r2, r3, tg)) (hn : kx_nl a8 = true) (h : kx_wx E tb Q nx (a0 :: a1 :: a2 :: a3 :: a4 :: a5 :: a6 :: a7 :: a8 :: some (kI x) :: l) st G μ) : kx_wx E tb Q pc (a0 :: a1 :: a2 :: a3 :: a4 :: a5 :: a6 :: a7 :: a8 :: o :: l) (kI x :: st) G μ := by
  refine kx_wx_step ?_
  unfold kx_st
  rw [ht]
  simp only [kx_do]
  rw [kx_set1_nl (by exact hn)]
  exact h
theorem ks_istore_10 {i : Nat} {x : Int} {l : kx_L} {o a0 a1 a2 a3 a4 a5 a6 a7 a8 a9 : Option kx_V} (ht : tb pc = (.istore i, nx, 10, r2, r3, tg)) (hn : kx_nl a9 = true) (h : kx_wx E tb Q nx (a0 :: a1 :: a2 :: a3 :: a4 :: a5 :: a6 :: a7 :: a8 :: a9 :: some (kI x) :: l) st G μ) : kx_wx E tb Q pc (a0 :: a1 :: a2 :: a3 :: a4 :: a5 :: a6 :: a7 :: a8 :: a9 :: o :: l) (kI x :: st) G μ := by
  refine kx_wx_step ?_
  unfold kx_st
  rw [ht]
  simp only [kx_do]
  rw [kx_set1_nl (by exact hn)]
  exact h
theorem ks_istore_11 {i : Nat} {x : Int} {l : kx_L} {o a0 a1 a2 a3 a4 a5 a6 a7 a8 a9 a10 : Option kx_V} (ht : tb pc = (.istore i, nx, 11, r2, r3, tg)) (hn : kx_nl a10 = true) (h : kx_wx E tb Q nx (a0 :: a1 :: a2 :: a3 :: a4 :: a5 :: a6 :: a7 :: a8 :: a9 :: a10 :: some (kI x) :: l) st G μ) : kx_wx E tb Q pc (a0 :: a1 :: a2 :: a3 :: a4 :: a5 :: a6 :: a7 :: a8 :: a9 :: a10 :: o :: l) (kI x :: st) G μ := by
  refine kx_wx_step ?_
  unfold kx_st
  rw [ht]
  simp only [kx_do]
  rw [kx_set1_nl (by exact hn)]
  exact h
theorem ks_istore_12 {i : Nat} {x : Int} {l : kx_L} {o a0 a1 a2 a3 a4 a5 a6 a7 a8 a9 a10 a11 : Option kx_V} (ht : tb pc = (.istore i, nx, 12, r2, r3, tg)) (hn : kx_nl a11 = true) (h : kx_wx E tb Q nx (a0 :: a1 :: a2 :: a3 :: a4 :: a5 :: a6 :: a7 :: a8 :: a9 :: a10 :: a11 :: some (kI x) :: l) st G μ) : kx_wx E tb Q pc (a0 :: a1 :: a2 :: a3 :: a4 :: a5 :: a6 :: a7 :: a8 :: a9 :: a10 :: a11 :: o :: l) (kI x :: st) G μ := by
  refine kx_wx_step ?_
  unfold kx_st
  rw [ht]
  simp only [kx_do]
  rw [kx_set1_nl (by exact hn)]
  exact h
theorem ks_istore_13 {i : Nat} {x : Int} {l : kx_L} {o a0 a1 a2 a3 a4 a5 a6 a7 a8 a9 a10 a11 a12 : Option kx_V} (ht : tb pc = (.istore i, nx, 13, r2, r3, tg)) (hn : kx_nl a12 = true) (h : kx_wx E tb Q nx (a0 :: a1 :: a2 :: a3 :: a4 :: a5 :: a6 :: a7 :: a8 :: a9 :: a10 :: a11 :: a12 :: some (kI x) :: l) st G μ) : kx_wx E tb Q pc (a0 :: a1 :: a2 :: a3 :: a4 :: a5 :: a6 :: a7 :: a8 :: a9 :: a10 :: a11 :: a12 :: o :: l) (kI x :: st) G μ := by
  refine kx_wx_step ?_
  unfold kx_st
  rw [ht]
  simp only [kx_do]
  rw [kx_set1_nl (by exact hn)]
  exact h
theorem ks_astore_n_0 {i : Fin 4} {x : Nat} {l : kx_L} {o : Option kx_V} (ht : tb pc = (.astore_n i, nx, 0, r2, r3, tg)) (h : kx_wx E tb Q nx (some (kR x) :: l) st G μ) : kx_wx E tb Q pc (o :: l) (kR x :: st) G μ := by
  refine kx_wx_step ?_
  unfold kx_st
  rw [ht]
  exact h
theorem ks_astore_n_1 {i : Fin 4} {x : Nat} {l : kx_L} {o a0 : Option kx_V} (ht : tb pc = (.astore_n i, nx, 1, r2, r3, tg)) (hn : kx_nl a0 = true) (h : kx_wx E tb Q nx (a0 :: some (kR x) :: l) st G μ) : kx_wx E tb Q pc (a0 :: o :: l) (kR x :: st) G μ := by
  refine kx_wx_step ?_
  unfold kx_st
  rw [ht]
  simp only [kx_do]
  rw [kx_set1_nl (by exact hn)]
  exact h
theorem ks_astore_n_2 {i : Fin 4} {x : Nat} {l : kx_L} {o a0 a1 : Option kx_V} (ht : tb pc = (.astore_n i, nx, 2, r2, r3, tg)) (hn : kx_nl a1 = true) (h : kx_wx E tb Q nx (a0 :: a1 :: some (kR x) :: l) st G μ) : kx_wx E tb Q pc (a0 :: a1 :: o :: l) (kR x :: st) G μ := by
  refine kx_wx_step ?_
  unfold kx_st
  rw [ht]
  simp only [kx_do]
  rw [kx_set1_nl (by exact hn)]
  exact h
theorem ks_astore_n_3 {i : Fin 4} {x : Nat} {l : kx_L} {o a0 a1 a2 : Option kx_V} (ht : tb pc = (.astore_n i, nx, 3, r2, r3, tg)) (hn : kx_nl a2 = true) (h : kx_wx E tb Q nx (a0 :: a1 :: a2 :: some (kR x) :: l) st G μ) : kx_wx E tb Q pc (a0 :: a1 :: a2 :: o :: l) (kR x :: st) G μ := by
  refine kx_wx_step ?_
  unfold kx_st
  rw [ht]
  simp only [kx_do]
  rw [kx_set1_nl (by exact hn)]
  exact h
theorem ks_astore_4 {i : Nat} {x : Nat} {l : kx_L} {o a0 a1 a2 a3 : Option kx_V} (ht : tb pc = (.astore i, nx, 4, r2, r3, tg)) (hn : kx_nl a3 = true) (h : kx_wx E tb Q nx (a0 :: a1 :: a2 :: a3 :: some (kR x) :: l) st G μ) : kx_wx E tb Q pc (a0 :: a1 :: a2 :: a3 :: o :: l) (kR x :: st) G μ := by
  refine kx_wx_step ?_
  unfold kx_st
  rw [ht]
  simp only [kx_do]
  rw [kx_set1_nl (by exact hn)]
  exact h
theorem ks_astore_5 {i : Nat} {x : Nat} {l : kx_L} {o a0 a1 a2 a3 a4 : Option kx_V} (ht : tb pc = (.astore i, nx, 5, r2, r3, tg)) (hn : kx_nl a4 = true) (h : kx_wx E tb Q nx (a0 :: a1 :: a2 :: a3 :: a4 :: some (kR x) :: l) st G μ) : kx_wx E tb Q pc (a0 :: a1 :: a2 :: a3 :: a4 :: o :: l) (kR x :: st) G μ := by
  refine kx_wx_step ?_
  unfold kx_st
  rw [ht]
  simp only [kx_do]
  rw [kx_set1_nl (by exact hn)]
  exact h
theorem ks_astore_6 {i : Nat} {x : Nat} {l : kx_L} {o a0 a1 a2 a3 a4 a5 : Option kx_V} (ht : tb pc = (.astore i, nx, 6, r2, r3, tg)) (hn : kx_nl a5 = true) (h : kx_wx E tb Q nx (a0 :: a1 :: a2 :: a3 :: a4 :: a5 :: some (kR x) :: l) st G μ) : kx_wx E tb Q pc (a0 :: a1 :: a2 :: a3 :: a4 :: a5 :: o :: l) (kR x :: st) G μ := by
  refine kx_wx_step ?_
  unfold kx_st
  rw [ht]
  simp only [kx_do]
  rw [kx_set1_nl (by exact hn)]
  exact h
theorem ks_astore_7 {i : Nat} {x : Nat} {l : kx_L} {o a0 a1 a2 a3 a4 a5 a6 : Option kx_V} (ht : tb pc = (.astore i, nx, 7, r2, r3, tg)) (hn : kx_nl a6 = true) (h : kx_wx E tb Q nx (a0 :: a1 :: a2 :: a3 :: a4 :: a5 :: a6 :: some (kR x) :: l) st G μ) : kx_wx E tb Q pc (a0 :: a1 :: a2 :: a3 :: a4 :: a5 :: a6 :: o :: l) (kR x :: st) G μ := by
  refine kx_wx_step ?_
  unfold kx_st
  rw [ht]
  simp only [kx_do]
  rw [kx_set1_nl (by exact hn)]
  exact h
theorem ks_astore_8 {i : Nat} {x : Nat} {l : kx_L} {o a0 a1 a2 a3 a4 a5 a6 a7 : Option kx_V} (ht : tb pc = (.astore i, nx, 8, r2, r3, tg)) (hn : kx_nl a7 = true) (h : kx_wx E tb Q nx (a0 :: a1 :: a2 :: a3 :: a4 :: a5 :: a6 :: a7 :: some (kR x) :: l) st G μ) : kx_wx E tb Q pc (a0 :: a1 :: a2 :: a3 :: a4 :: a5 :: a6 :: a7 :: o :: l) (kR x :: st) G μ := by
  refine kx_wx_step ?_
  unfold kx_st
  rw [ht]
  simp only [kx_do]
  rw [kx_set1_nl (by exact hn)]
  exact h
theorem ks_astore_9 {i : Nat} {x : Nat} {l : kx_L} {o a0 a1 a2 a3 a4 a5 a6 a7 a8 : Option kx_V} (ht : tb pc = (.astore i, nx, 9, r2, r3, tg)) (hn : kx_nl a8 = true) (h : kx_wx E tb Q nx (a0 :: a1 :: a2 :: a3 :: a4 :: a5 :: a6 :: a7 :: a8 :: some (kR x) :: l) st G μ) : kx_wx E tb Q pc (a0 :: a1 :: a2 :: a3 :: a4 :: a5 :: a6 :: a7 :: a8 :: o :: l) (kR x :: st) G μ := by
  refine kx_wx_step ?_
  unfold kx_st
  rw [ht]
  simp only [kx_do]
  rw [kx_set1_nl (by exact hn)]
  exact h
theorem ks_astore_10 {i : Nat} {x : Nat} {l : kx_L} {o a0 a1 a2 a3 a4 a5 a6 a7 a8 a9 : Option kx_V} (ht : tb pc = (.astore i, nx, 10, r2, r3, tg)) (hn : kx_nl a9 = true) (h : kx_wx E tb Q nx (a0 :: a1 :: a2 :: a3 :: a4 :: a5 :: a6 :: a7 :: a8 :: a9 :: some (kR x) :: l) st G μ) : kx_wx E tb Q pc (a0 :: a1 :: a2 :: a3 :: a4 :: a5 :: a6 :: a7 :: a8 :: a9 :: o :: l) (kR x :: st) G μ := by
  refine kx_wx_step ?_
  unfold kx_st
  rw [ht]
  simp only [kx_do]
  rw [kx_set1_nl (by exact hn)]
  exact h
theorem ks_astore_11 {i : Nat} {x : Nat} {l : kx_L} {o a0 a1 a2 a3 a4 a5 a6 a7 a8 a9 a10 : Option kx_V} (ht : tb pc = (.astore i, nx, 11, r2, r3, tg)) (hn : kx_nl a10 = true) (h : kx_wx E tb Q nx (a0 :: a1 :: a2 :: a3 :: a4 :: a5 :: a6 :: a7 :: a8 :: a9 :: a10 :: some (kR x) :: l) st G μ) : kx_wx E tb Q pc (a0 :: a1 :: a2 :: a3 :: a4 :: a5 :: a6 :: a7 :: a8 :: a9 :: a10 :: o :: l) (kR x :: st) G μ := by
  refine kx_wx_step ?_
  unfold kx_st
  rw [ht]
  simp only [kx_do]
  rw [kx_set1_nl (by exact hn)]
  exact h
theorem ks_astore_12 {i : Nat} {x : Nat} {l : kx_L} {o a0 a1 a2 a3 a4 a5 a6 a7 a8 a9 a10 a11 : Option kx_V} (ht : tb pc = (.astore i, nx, 12, r2, r3, tg)) (hn : kx_nl a11 = true) (h : kx_wx E tb Q nx (a0 :: a1 :: a2 :: a3 :: a4 :: a5 :: a6 :: a7 :: a8 :: a9 :: a10 :: a11 :: some (kR x) :: l) st G μ) : kx_wx E tb Q pc (a0 :: a1 :: a2 :: a3 :: a4 :: a5 :: a6 :: a7 :: a8 :: a9 :: a10 :: a11 :: o :: l) (kR x :: st) G μ := by
  refine kx_wx_step ?_
  unfold kx_st
  rw [ht]
  simp only [kx_do]
  rw [kx_set1_nl (by exact hn)]
  exact h
theorem ks_astore_13 {i : Nat} {x : Nat} {l : kx_L} {o a0 a1 a2 a3 a4 a5 a6 a7 a8 a9 a10 a11 a12 : Option kx_V} (ht : tb pc = (.astore i, nx, 13, r2, r3, tg)) (hn : kx_nl a12 = true) (h : kx_wx E tb Q nx (a0 :: a1 :: a2 :: a3 :: a4 :: a5 :: a6 :: a7 :: a8 :: a9 :: a10 :: a11 :: a12 :: some (kR x) :: l) st G μ) : kx_wx E tb Q pc (a0 :: a1 :: a2 :: a3 :: a4 :: a5 :: a6 :: a7 :: a8 :: a9 :: a10 :: a11 :: a12 :: o :: l) (kR x :: st) G μ := by
  refine kx_wx_step ?_
  unfold kx_st
  rw [ht]
  simp only [kx_do]
  rw [kx_set1_nl (by exact hn)]
  exact h
theorem ks_iinc_0 {i : Nat} {c : Int} {x : Int} {l : kx_L} (ht : tb pc = (.iinc i c, nx, 0, r2, r3, tg)) (h : kx_wx E tb Q nx (some (kI (x + r3)) :: l) st G μ) : kx_wx E tb Q pc (some (kI x) :: l) st G μ := by
  refine kx_wx_step ?_
  unfold kx_st
  rw [ht]
  simp only [kx_do, kx_get]
  exact h
theorem ks_iinc_1 {i : Nat} {c : Int} {x : Int} {l : kx_L} {a0 : Option kx_V} (ht : tb pc = (.iinc i c, nx, 1, r2, r3, tg)) (hn : kx_nl a0 = true) (h : kx_wx E tb Q nx (a0 :: some (kI (x + r3)) :: l) st G μ) : kx_wx E tb Q pc (a0 :: some (kI x) :: l) st G μ := by
  refine kx_wx_step ?_
  unfold kx_st
  rw [ht]
  simp only [kx_do, kx_get]
  rw [kx_set1_nl (by exact hn)]
  exact h
theorem ks_iinc_2 {i : Nat} {c : Int} {x : Int} {l : kx_L} {a0 a1 : Option kx_V} (ht : tb pc = (.iinc i c, nx, 2, r2, r3, tg)) (hn : kx_nl a1 = true) (h : kx_wx E tb Q nx (a0 :: a1 :: some (kI (x + r3)) :: l) st G μ) : kx_wx E tb Q pc (a0 :: a1 :: some (kI x) :: l) st G μ := by
  refine kx_wx_step ?_
  unfold kx_st
  rw [ht]
  simp only [kx_do, kx_get]
  rw [kx_set1_nl (by exact hn)]
  exact h
theorem ks_iinc_3 {i : Nat} {c : Int} {x : Int} {l : kx_L} {a0 a1 a2 : Option kx_V} (ht : tb pc = (.iinc i c, nx, 3, r2, r3, tg)) (hn : kx_nl a2 = true) (h : kx_wx E tb Q nx (a0 :: a1 :: a2 :: some (kI (x + r3)) :: l) st G μ) : kx_wx E tb Q pc (a0 :: a1 :: a2 :: some (kI x) :: l) st G μ := by
  refine kx_wx_step ?_
  unfold kx_st
  rw [ht]
  simp only [kx_do, kx_get]
  rw [kx_set1_nl (by exact hn)]
  exact h
theorem ks_iinc_4 {i : Nat} {c : Int} {x : Int} {l : kx_L} {a0 a1 a2 a3 : Option kx_V} (ht : tb pc = (.iinc i c, nx, 4, r2, r3, tg)) (hn : kx_nl a3 = true) (h : kx_wx E tb Q nx (a0 :: a1 :: a2 :: a3 :: some (kI (x + r3)) :: l) st G μ) : kx_wx E tb Q pc (a0 :: a1 :: a2 :: a3 :: some (kI x) :: l) st G μ := by
  refine kx_wx_step ?_
  unfold kx_st
  rw [ht]
  simp only [kx_do, kx_get]
  rw [kx_set1_nl (by exact hn)]
  exact h
theorem ks_iinc_5 {i : Nat} {c : Int} {x : Int} {l : kx_L} {a0 a1 a2 a3 a4 : Option kx_V} (ht : tb pc = (.iinc i c, nx, 5, r2, r3, tg)) (hn : kx_nl a4 = true) (h : kx_wx E tb Q nx (a0 :: a1 :: a2 :: a3 :: a4 :: some (kI (x + r3)) :: l) st G μ) : kx_wx E tb Q pc (a0 :: a1 :: a2 :: a3 :: a4 :: some (kI x) :: l) st G μ := by
  refine kx_wx_step ?_
  unfold kx_st
  rw [ht]
  simp only [kx_do, kx_get]
  rw [kx_set1_nl (by exact hn)]
  exact h
theorem ks_iinc_6 {i : Nat} {c : Int} {x : Int} {l : kx_L} {a0 a1 a2 a3 a4 a5 : Option kx_V} (ht : tb pc = (.iinc i c, nx, 6, r2, r3, tg)) (hn : kx_nl a5 = true) (h : kx_wx E tb Q nx (a0 :: a1 :: a2 :: a3 :: a4 :: a5 :: some (kI (x + r3)) :: l) st G μ) : kx_wx E tb Q pc (a0 :: a1 :: a2 :: a3 :: a4 :: a5 :: some (kI x) :: l) st G μ := by
  refine kx_wx_step ?_
  unfold kx_st
  rw [ht]
  simp only [kx_do, kx_get]
  rw [kx_set1_nl (by exact hn)]
  exact h
theorem ks_iinc_7 {i : Nat} {c : Int} {x : Int} {l : kx_L} {a0 a1 a2 a3 a4 a5 a6 : Option kx_V} (ht : tb pc = (.iinc i c, nx, 7, r2, r3, tg)) (hn : kx_nl a6 = true) (h : kx_wx E tb Q nx (a0 :: a1 :: a2 :: a3 :: a4 :: a5 :: a6 :: some (kI (x + r3)) :: l) st G μ) : kx_wx E tb Q pc (a0 :: a1 :: a2 :: a3 :: a4 :: a5 :: a6 :: some (kI x) :: l) st G μ := by
  refine kx_wx_step ?_
  unfold kx_st
  rw [ht]
  simp only [kx_do, kx_get]
  rw [kx_set1_nl (by exact hn)]
  exact h
theorem ks_iinc_8 {i : Nat} {c : Int} {x : Int} {l : kx_L} {a0 a1 a2 a3 a4 a5 a6 a7 : Option kx_V} (ht : tb pc = (.iinc i c, nx, 8, r2, r3, tg)) (hn : kx_nl a7 = true) (h : kx_wx E tb Q nx (a0 :: a1 :: a2 :: a3 :: a4 :: a5 :: a6 :: a7 :: some (kI (x + r3)) :: l) st G μ) : kx_wx E tb Q pc (a0 :: a1 :: a2 :: a3 :: a4 :: a5 :: a6 :: a7 :: some (kI x) :: l) st G μ := by
  refine kx_wx_step ?_
  unfold kx_st
  rw [ht]
  simp only [kx_do, kx_get]
  rw [kx_set1_nl (by exact hn)]
  exact h
theorem ks_iinc_9 {i : Nat} {c : Int} {x : Int} {l : kx_L} {a0 a1 a2 a3 a4 a5 a6 a7 a8 : Option kx_V} (ht : tb pc = (.iinc i c, nx, 9, r2, r3, tg)) (hn : kx_nl a8 = true) (h : kx_wx E tb Q nx (a0 :: a1 :: a2 :: a3 :: a4 :: a5 :: a6 :: a7 :: a8 :: some (kI (x + r3)) :: l) st G μ) : kx_wx E tb Q pc (a0 :: a1 :: a2 :: a3 :: a4 :: a5 :: a6 :: a7 :: a8 :: some (kI x) :: l) st G μ := by
  refine kx_wx_step ?_
  unfold kx_st
  rw [ht]
  simp only [kx_do, kx_get]
  rw [kx_set1_nl (by exact hn)]
  exact h
theorem ks_iinc_10 {i : Nat} {c : Int} {x : Int} {l : kx_L} {a0 a1 a2 a3 a4 a5 a6 a7 a8 a9 : Option kx_V} (ht : tb pc = (.iinc i c, nx, 10, r2, r3, tg)) (hn : kx_nl a9 = true) (h : kx_wx E tb Q nx (a0 :: a1 :: a2 :: a3 :: a4 :: a5 :: a6 :: a7 :: a8 :: a9 :: some (kI (x + r3)) :: l) st G μ) : kx_wx E tb Q pc (a0 :: a1 :: a2 :: a3 :: a4 :: a5 :: a6 :: a7 :: a8 :: a9 :: some (kI x) :: l) st G μ := by
  refine kx_wx_step ?_
  unfold kx_st
  rw [ht]
  simp only [kx_do, kx_get]
  rw [kx_set1_nl (by exact hn)]
  exact h
theorem ks_iinc_11 {i : Nat} {c : Int} {x : Int} {l : kx_L} {a0 a1 a2 a3 a4 a5 a6 a7 a8 a9 a10 : Option kx_V} (ht : tb pc = (.iinc i c, nx, 11, r2, r3, tg)) (hn : kx_nl a10 = true) (h : kx_wx E tb Q nx (a0 :: a1 :: a2 :: a3 :: a4 :: a5 :: a6 :: a7 :: a8 :: a9 :: a10 :: some (kI (x + r3)) :: l) st G μ) : kx_wx E tb Q pc (a0 :: a1 :: a2 :: a3 :: a4 :: a5 :: a6 :: a7 :: a8 :: a9 :: a10 :: some (kI x) :: l) st G μ := by
  refine kx_wx_step ?_
  unfold kx_st
  rw [ht]
  simp only [kx_do, kx_get]
  rw [kx_set1_nl (by exact hn)]
  exact h
theorem ks_iinc_12 {i : Nat} {c : Int} {x : Int} {l : kx_L} {a0 a1 a2 a3 a4 a5 a6 a7 a8 a9 a10 a11 : Option kx_V} (ht : tb pc = (.iinc i c, nx, 12, r2, r3, tg)) (hn : kx_nl a11 = true) (h : kx_wx E tb Q nx (a0 :: a1 :: a2 :: a3 :: a4 :: a5 :: a6 :: a7 :: a8 :: a9 :: a10 :: a11 :: some (kI (x + r3)) :: l) st G μ) : kx_wx E tb Q pc (a0 :: a1 :: a2 :: a3 :: a4 :: a5 :: a6 :: a7 :: a8 :: a9 :: a10 :: a11 :: some (kI x) :: l) st G μ := by
  refine kx_wx_step ?_
  unfold kx_st
  rw [ht]
  simp only [kx_do, kx_get]
  rw [kx_set1_nl (by exact hn)]
  exact h
theorem ks_iinc_13 {i : Nat} {c : Int} {x : Int} {l : kx_L} {a0 a1 a2 a3 a4 a5 a6 a7 a8 a9 a10 a11 a12 : Option kx_V} (ht : tb pc = (.iinc i c, nx, 13, r2, r3, tg)) (hn : kx_nl a12 = true) (h : kx_wx E tb Q nx (a0 :: a1 :: a2 :: a3 :: a4 :: a5 :: a6 :: a7 :: a8 :: a9 :: a10 :: a11 :: a12 :: some (kI (x + r3)) :: l) st G μ) : kx_wx E tb Q pc (a0 :: a1 :: a2 :: a3 :: a4 :: a5 :: a6 :: a7 :: a8 :: a9 :: a10 :: a11 :: a12 :: some (kI x) :: l) st G μ := by
  refine kx_wx_step ?_
  unfold kx_st
  rw [ht]
  simp only [kx_do, kx_get]
  rw [kx_set1_nl (by exact hn)]
  exact h
theorem ks_lstore_n_0 {i : Fin 4} {x : Int} {l : kx_L} {o o1 : Option kx_V} (ht : tb pc = (.lstore_n i, nx, 0, r2, r3, tg)) (h : kx_wx E tb Q nx (some (kL x) :: none :: l) st G μ) : kx_wx E tb Q pc (o :: o1 :: l) (kL x :: st) G μ := by
  refine kx_wx_step ?_
  unfold kx_st
  rw [ht]
  exact h
theorem ks_lstore_n_1 {i : Fin 4} {x : Int} {l : kx_L} {o o1 a0 : Option kx_V} (ht : tb pc = (.lstore_n i, nx, 1, r2, r3, tg)) (hn : kx_nl a0 = true) (h : kx_wx E tb Q nx (a0 :: some (kL x) :: none :: l) st G μ) : kx_wx E tb Q pc (a0 :: o :: o1 :: l) (kL x :: st) G μ := by
  refine kx_wx_step ?_
  unfold kx_st
  rw [ht]
  simp only [kx_do]
  rw [kx_set2_nl (by exact hn)]
  exact h
theorem ks_lstore_n_2 {i : Fin 4} {x : Int} {l : kx_L} {o o1 a0 a1 : Option kx_V} (ht : tb pc = (.lstore_n i, nx, 2, r2, r3, tg)) (hn : kx_nl a1 = true) (h : kx_wx E tb Q nx (a0 :: a1 :: some (kL x) :: none :: l) st G μ) : kx_wx E tb Q pc (a0 :: a1 :: o :: o1 :: l) (kL x :: st) G μ := by
  refine kx_wx_step ?_
  unfold kx_st
  rw [ht]
  simp only [kx_do]
  rw [kx_set2_nl (by exact hn)]
  exact h
theorem ks_lstore_n_3 {i : Fin 4} {x : Int} {l : kx_L} {o o1 a0 a1 a2 : Option kx_V} (ht : tb pc = (.lstore_n i, nx, 3, r2, r3, tg)) (hn : kx_nl a2 = true) (h : kx_wx E tb Q nx (a0 :: a1 :: a2 :: some (kL x) :: none :: l) st G μ) : kx_wx E tb Q pc (a0 :: a1 :: a2 :: o :: o1 :: l) (kL x :: st) G μ := by
  refine kx_wx_step ?_
  unfold kx_st
  rw [ht]
  simp only [kx_do]
  rw [kx_set2_nl (by exact hn)]
  exact h
theorem ks_iconst {i : Int} (ht : tb pc = (.iconst i, nx, r1, r2, r3, tg)) (h : kx_wx E tb Q nx ls (kI r3 :: st) G μ) : kx_wx E tb Q pc ls st G μ := by
  refine kx_wx_step ?_
  unfold kx_st
  rw [ht]
  exact h
theorem ks_bipush {i : Int} (ht : tb pc = (.bipush i, nx, r1, r2, r3, tg)) (h : kx_wx E tb Q nx ls (kI r3 :: st) G μ) : kx_wx E tb Q pc ls st G μ := by
  refine kx_wx_step ?_
  unfold kx_st
  rw [ht]
  exact h
theorem ks_sipush {i : Int} (ht : tb pc = (.sipush i, nx, r1, r2, r3, tg)) (h : kx_wx E tb Q nx ls (kI r3 :: st) G μ) : kx_wx E tb Q pc ls st G μ := by
  refine kx_wx_step ?_
  unfold kx_st
  rw [ht]
  exact h
theorem ks_lconst {i : Fin 2} (ht : tb pc = (.lconst i, nx, r1, r2, r3, tg)) (h : kx_wx E tb Q nx ls (kL r3 :: st) G μ) : kx_wx E tb Q pc ls st G μ := by
  refine kx_wx_step ?_
  unfold kx_st
  rw [ht]
  exact h
theorem ks_ldc_w {i : Nat} (ht : tb pc = (.ldc_w i, nx, r1, r2, r3, tg)) (h : kx_wx E tb Q nx ls (kI r3 :: st) G μ) : kx_wx E tb Q pc ls st G μ := by
  refine kx_wx_step ?_
  unfold kx_st
  rw [ht]
  exact h
theorem ks_ldc2_w {i : Nat} (ht : tb pc = (.ldc2_w i, nx, r1, r2, r3, tg)) (h : kx_wx E tb Q nx ls (kL r3 :: st) G μ) : kx_wx E tb Q pc ls st G μ := by
  refine kx_wx_step ?_
  unfold kx_st
  rw [ht]
  exact h
theorem ks_getstatic {i : Nat} (ht : tb pc = (.getstatic i, nx, 0, r2, r3, tg)) (h : kx_wx E tb Q nx ls (kR r2 :: st) G μ) : kx_wx E tb Q pc ls st G μ := by
  refine kx_wx_step ?_
  unfold kx_st
  rw [ht]
  simp only [kx_do, if_true]; exact h
theorem ks_getstaticI {i : Nat} (ht : tb pc = (.getstatic i, nx, 1, r2, r3, tg)) (h : kx_wx E tb Q nx ls (kI r3 :: st) G μ) : kx_wx E tb Q pc ls st G μ := by
  refine kx_wx_step ?_
  unfold kx_st
  rw [ht]
  simp only [kx_do]; exact h
theorem ks_getSr {i : Nat} (ht : tb pc = (.getfield i, nx, 8, 1, r3, tg)) (h : kx_wx E tb Q nx ls (kR 106 :: st) G μ) : kx_wx E tb Q pc ls (kR 105 :: st) G μ := by
  refine kx_wx_step ?_
  unfold kx_st
  rw [ht]
  simp only [kx_do, if_true]; exact h
theorem ks_getSi {i : Nat} (ht : tb pc = (.getfield i, nx, 8, 0, r3, tg)) (h : kx_wx E tb Q nx ls (kI 0 :: st) G μ) : kx_wx E tb Q pc ls (kR 105 :: st) G μ := by
  refine kx_wx_step ?_
  unfold kx_st
  rw [ht]
  simp only [kx_do, if_true]; exact h
theorem ks_ldc {i : Nat} (ht : tb pc = (.ldc i, nx, 0, r2, r3, tg)) (h : kx_wx E tb Q nx ls (kI r3 :: st) G μ) : kx_wx E tb Q pc ls st G μ := by
  refine kx_wx_step ?_
  unfold kx_st
  rw [ht]
  simp only [kx_do, if_true]; exact h
theorem ks_ldcS {i : Nat} (ht : tb pc = (.ldc i, nx, 1, r2, r3, tg)) (h : kx_wx E tb Q nx ls (kR r2 :: st) G μ) : kx_wx E tb Q pc ls st G μ := by
  refine kx_wx_step ?_
  unfold kx_st
  rw [ht]
  simp only [kx_do]; exact h
theorem ks_getr {i a b : Nat} (ht : tb pc = (.getfield i, nx, r1, 1, r3, tg)) (h8 : (r1 == 8) = false) (hs : G.1 a = (1, r1)) (hr : G.2.2 a r3 = b) (hb : b ≠ 0) (h : kx_wx E tb Q nx ls (kR b :: st) G μ) : kx_wx E tb Q pc ls (kR a :: st) G μ := by
  refine kx_wx_step ?_
  unfold kx_st
  rw [ht]
  simp only [kx_do]
  rw [if_neg (by simpa using h8), if_pos hs, if_pos trivial, hr, if_neg hb]; exact h
theorem ks_geti {i a : Nat} {v : Int} (ht : tb pc = (.getfield i, nx, r1, r2, r3, tg)) (h8 : (r1 == 8) = false) (hs : G.1 a = (1, r1)) (hr : (r2 == 1) = false) (hv : μ a r3 = v) (h : kx_wx E tb Q nx ls (kI v :: st) G μ) : kx_wx E tb Q pc ls (kR a :: st) G μ := by
  refine kx_wx_step ?_
  unfold kx_st
  rw [ht]
  simp only [kx_do]
  rw [if_neg (by simpa using h8), if_pos hs, if_neg (by simpa using hr), hv]; exact h
theorem ks_puti {i a : Nat} {v : Int} (ht : tb pc = (.putfield i, nx, r1, 0, r3, tg)) (hs : G.1 a = (1, r1)) (h : kx_wx E tb Q nx ls st G (kx_up μ a r3 v)) : kx_wx E tb Q pc ls (kI v :: kR a :: st) G μ := by
  refine kx_wx_step ?_
  unfold kx_st
  rw [ht]
  simp only [kx_do]
  rw [if_pos ⟨hs, Or.inl trivial⟩]; exact h
theorem ks_putz {i a : Nat} {v : Int} (ht : tb pc = (.putfield i, nx, r1, 2, r3, tg)) (hs : G.1 a = (1, r1)) (hz : v = 0 ∨ v = 1) (h : kx_wx E tb Q nx ls st G (kx_up μ a r3 v)) : kx_wx E tb Q pc ls (kI v :: kR a :: st) G μ := by
  refine kx_wx_step ?_
  unfold kx_st
  rw [ht]
  simp only [kx_do]
  rw [if_pos ⟨hs, Or.inr ⟨trivial, hz⟩⟩]; exact h
theorem ks_iaload {a n : Nat} {i v : Int} (ht : tb pc = (.iaload, nx, r1, r2, r3, tg)) (hs : G.1 a = (2, n)) (h0 : 0 ≤ i) (h1 : i < n) (hv : μ a i = v) (h : kx_wx E tb Q nx ls (kI v :: st) G μ) : kx_wx E tb Q pc ls (kI i :: kR a :: st) G μ := by
  refine kx_wx_step ?_
  unfold kx_st
  rw [ht]
  simp only [kx_do]
  rw [if_pos ⟨Or.inl (by rw [hs]), h0, by rw [hs]; exact h1⟩, hv]; exact h
theorem ks_laload {a n : Nat} {i v : Int} (ht : tb pc = (.laload, nx, r1, r2, r3, tg)) (hs : G.1 a = (3, n)) (h0 : 0 ≤ i) (h1 : i < n) (hv : μ a i = v) (h : kx_wx E tb Q nx ls (kL v :: st) G μ) : kx_wx E tb Q pc ls (kI i :: kR a :: st) G μ := by
  refine kx_wx_step ?_
  unfold kx_st
  rw [ht]
  simp only [kx_do]
  rw [if_pos ⟨by rw [hs], h0, by rw [hs]; exact h1⟩, hv]; exact h
theorem ks_baload {a n : Nat} {i v : Int} (ht : tb pc = (.baload, nx, r1, r2, r3, tg)) (hs : G.1 a = (4, n)) (h0 : 0 ≤ i) (h1 : i < n) (hv : μ a i = v) (h : kx_wx E tb Q nx ls (kI v :: st) G μ) : kx_wx E tb Q pc ls (kI i :: kR a :: st) G μ := by
  refine kx_wx_step ?_
  unfold kx_st
  rw [ht]
  simp only [kx_do]
  rw [if_pos ⟨by rw [hs], h0, by rw [hs]; exact h1⟩, hv]; exact h
theorem ks_iaload7 {a n : Nat} {i v : Int} (ht : tb pc = (.iaload, nx, r1, r2, r3, tg)) (hs : G.1 a = (7, n)) (h0 : 0 ≤ i) (h1 : i < n) (hv : μ a i = v) (h : kx_wx E tb Q nx ls (kI v :: st) G μ) : kx_wx E tb Q pc ls (kI i :: kR a :: st) G μ := by
  refine kx_wx_step ?_
  unfold kx_st
  rw [ht]
  simp only [kx_do]
  rw [if_pos ⟨Or.inr (by rw [hs]), h0, by rw [hs]; exact h1⟩, hv]; exact h
theorem ks_baload10 {i v : Int} (ht : tb pc = (.baload, nx, r1, r2, r3, tg)) (hs : (G.1 106).1 ≠ 4) (h0 : 0 ≤ i) (h1 : i < 5) (hv : μ 106 i = v) (h : kx_wx E tb Q nx ls (kI v :: st) G μ) : kx_wx E tb Q pc ls (kI i :: kR 106 :: st) G μ := by
  refine kx_wx_step ?_
  unfold kx_st
  rw [ht]
  simp only [kx_do]
  rw [if_neg (fun q => hs q.1), if_pos ⟨trivial, h0, h1⟩, hv]; exact h
theorem ks_aaload {a n b k : Nat} {i : Int} (ht : tb pc = (.aaload, nx, r1, r2, r3, tg)) (hs : G.1 a = (k, n)) (hk : k = 5 ∨ k = 6) (h0 : 0 ≤ i) (h1 : i < n) (hr : G.2.2 a i = b) (hb : b ≠ 0) (h : kx_wx E tb Q nx ls (kR b :: st) G μ) : kx_wx E tb Q pc ls (kI i :: kR a :: st) G μ := by
  refine kx_wx_step ?_
  unfold kx_st
  rw [ht]
  simp only [kx_do]
  rw [if_pos ⟨by rw [hs]; exact hk, h0, by rw [hs]; exact h1, by rw [hr]; exact hb⟩, hr]; exact h
theorem ks_iastore {a n : Nat} {i v : Int} (ht : tb pc = (.iastore, nx, r1, r2, r3, tg)) (hs : G.1 a = (2, n)) (h0 : 0 ≤ i) (h1 : i < n) (h : kx_wx E tb Q nx ls st G (kx_up μ a i v)) : kx_wx E tb Q pc ls (kI v :: kI i :: kR a :: st) G μ := by
  refine kx_wx_step ?_
  unfold kx_st
  rw [ht]
  simp only [kx_do]
  rw [if_pos ⟨by rw [hs], h0, by rw [hs]; exact h1⟩]; exact h
theorem ks_lastore {a n : Nat} {i v : Int} (ht : tb pc = (.lastore, nx, r1, r2, r3, tg)) (hs : G.1 a = (3, n)) (h0 : 0 ≤ i) (h1 : i < n) (h : kx_wx E tb Q nx ls st G (kx_up μ a i v)) : kx_wx E tb Q pc ls (kL v :: kI i :: kR a :: st) G μ := by
  refine kx_wx_step ?_
  unfold kx_st
  rw [ht]
  simp only [kx_do]
  rw [if_pos ⟨by rw [hs], h0, by rw [hs]; exact h1⟩]; exact h
theorem ks_bastore {a n : Nat} {i v : Int} (ht : tb pc = (.bastore, nx, r1, r2, r3, tg)) (hs : G.1 a = (4, n)) (h0 : 0 ≤ i) (h1 : i < n) (hz : v = 0 ∨ v = 1) (h : kx_wx E tb Q nx ls st G (kx_up μ a i v)) : kx_wx E tb Q pc ls (kI v :: kI i :: kR a :: st) G μ := by
  refine kx_wx_step ?_
  unfold kx_st
  rw [ht]
  simp only [kx_do]
  rw [if_pos ⟨by rw [hs], h0, by rw [hs]; exact h1, hz⟩]; exact h
theorem ks_arraylength {a n : Nat} (ht : tb pc = (.arraylength, nx, r1, r2, r3, tg)) (hs : G.1 a = (2, n)) (h : kx_wx E tb Q nx ls (kI n :: st) G μ) : kx_wx E tb Q pc ls (kR a :: st) G μ := by
  refine kx_wx_step ?_
  unfold kx_st
  rw [ht]
  simp only [kx_do]
  rw [if_pos (Or.inl (by rw [hs])), hs]; exact h
theorem ks_arraylength7 {n : Nat} (ht : tb pc = (.arraylength, nx, r1, r2, r3, tg)) (hs : G.1 104 = (7, n)) (h : kx_wx E tb Q nx ls (kI n :: st) G μ) : kx_wx E tb Q pc ls (kR 104 :: st) G μ := by
  refine kx_wx_step ?_
  unfold kx_st
  rw [ht]
  simp only [kx_do]
  rw [if_pos (Or.inr ⟨by rw [hs], trivial⟩), hs]; exact h
theorem ks_arraylength10 (ht : tb pc = (.arraylength, nx, r1, r2, r3, tg)) (hs : (G.1 106).1 ≠ 2) (h : kx_wx E tb Q nx ls (kI 5 :: st) G μ) : kx_wx E tb Q pc ls (kR 106 :: st) G μ := by
  refine kx_wx_step ?_
  unfold kx_st
  rw [ht]
  simp only [kx_do]
  rw [if_neg (fun q => by rcases q with q | q; exact hs q; exact absurd q.2 (by decide)), if_pos trivial]; exact h
theorem ks_dup {x : Int} (ht : tb pc = (.dup, nx, r1, r2, r3, tg)) (h : kx_wx E tb Q nx ls (kI x :: kI x :: st) G μ) : kx_wx E tb Q pc ls (kI x :: st) G μ := by
  refine kx_wx_step ?_
  unfold kx_st
  rw [ht]
  exact h
theorem ks_dupR {x : Nat} (ht : tb pc = (.dup, nx, r1, r2, r3, tg)) (h : kx_wx E tb Q nx ls (kR x :: kR x :: st) G μ) : kx_wx E tb Q pc ls (kR x :: st) G μ := by
  refine kx_wx_step ?_
  unfold kx_st
  rw [ht]
  exact h
theorem ks_dup2 {y : Int} {x : Nat} (ht : tb pc = (.dup2, nx, r1, r2, r3, tg)) (h : kx_wx E tb Q nx ls (kI y :: kR x :: kI y :: kR x :: st) G μ) : kx_wx E tb Q pc ls (kI y :: kR x :: st) G μ := by
  refine kx_wx_step ?_
  unfold kx_st
  rw [ht]
  exact h
theorem ks_pop {x : Int} (ht : tb pc = (.pop, nx, r1, r2, r3, tg)) (h : kx_wx E tb Q nx ls st G μ) : kx_wx E tb Q pc ls (kI x :: st) G μ := by
  refine kx_wx_step ?_
  unfold kx_st
  rw [ht]
  exact h
theorem ks_iadd {a b : Int} (ht : tb pc = (.iadd, nx, r1, r2, r3, tg)) (h : kx_wx E tb Q nx ls (kI (a + b) :: st) G μ) : kx_wx E tb Q pc ls (kI b :: kI a :: st) G μ := by
  refine kx_wx_step ?_
  unfold kx_st
  rw [ht]
  exact h
theorem ks_isub {a b : Int} (ht : tb pc = (.isub, nx, r1, r2, r3, tg)) (h : kx_wx E tb Q nx ls (kI (a - b) :: st) G μ) : kx_wx E tb Q pc ls (kI b :: kI a :: st) G μ := by
  refine kx_wx_step ?_
  unfold kx_st
  rw [ht]
  exact h
theorem ks_imul {a b : Int} (ht : tb pc = (.imul, nx, r1, r2, r3, tg)) (h : kx_wx E tb Q nx ls (kI (a * b) :: st) G μ) : kx_wx E tb Q pc ls (kI b :: kI a :: st) G μ := by
  refine kx_wx_step ?_
  unfold kx_st
  rw [ht]
  exact h
theorem ks_iand {a b : Int} (ht : tb pc = (.iand, nx, r1, r2, r3, tg)) (h : kx_wx E tb Q nx ls (kI (kx_and a b) :: st) G μ) : kx_wx E tb Q pc ls (kI b :: kI a :: st) G μ := by
  refine kx_wx_step ?_
  unfold kx_st
  rw [ht]
  exact h
theorem ks_ior {a b : Int} (ht : tb pc = (.ior, nx, r1, r2, r3, tg)) (h : kx_wx E tb Q nx ls (kI (kx_or a b) :: st) G μ) : kx_wx E tb Q pc ls (kI b :: kI a :: st) G μ := by
  refine kx_wx_step ?_
  unfold kx_st
  rw [ht]
  exact h
theorem ks_ixor {a b : Int} (ht : tb pc = (.ixor, nx, r1, r2, r3, tg)) (h : kx_wx E tb Q nx ls (kI (kx_xor a b) :: st) G μ) : kx_wx E tb Q pc ls (kI b :: kI a :: st) G μ := by
  refine kx_wx_step ?_
  unfold kx_st
  rw [ht]
  exact h
theorem ks_ladd {a b : Int} (ht : tb pc = (.ladd, nx, r1, r2, r3, tg)) (h : kx_wx E tb Q nx ls (kL (a + b) :: st) G μ) : kx_wx E tb Q pc ls (kL b :: kL a :: st) G μ := by
  refine kx_wx_step ?_
  unfold kx_st
  rw [ht]
  exact h
theorem ks_lsub {a b : Int} (ht : tb pc = (.lsub, nx, r1, r2, r3, tg)) (h : kx_wx E tb Q nx ls (kL (a - b) :: st) G μ) : kx_wx E tb Q pc ls (kL b :: kL a :: st) G μ := by
  refine kx_wx_step ?_
  unfold kx_st
  rw [ht]
  exact h
theorem ks_lor {a b : Int} (ht : tb pc = (.lor, nx, r1, r2, r3, tg)) (h : kx_wx E tb Q nx ls (kL (kx_lor a b) :: st) G μ) : kx_wx E tb Q pc ls (kL b :: kL a :: st) G μ := by
  refine kx_wx_step ?_
  unfold kx_st
  rw [ht]
  exact h
theorem ks_idiv {a b : Int} (ht : tb pc = (.idiv, nx, r1, r2, r3, tg)) (ha : kx_in a) (hb : kx_in b) (hz : b ≠ 0) (h : kx_wx E tb Q nx ls (kI (a.tdiv b) :: st) G μ) : kx_wx E tb Q pc ls (kI b :: kI a :: st) G μ := by
  refine kx_wx_step ?_
  unfold kx_st
  rw [ht]
  simp only [kx_do]
  rw [if_pos ⟨ha, hb, hz⟩]; exact h
theorem ks_irem {a b : Int} (ht : tb pc = (.irem, nx, r1, r2, r3, tg)) (ha : kx_in a) (hb : kx_in b) (hz : b ≠ 0) (h : kx_wx E tb Q nx ls (kI (a.tmod b) :: st) G μ) : kx_wx E tb Q pc ls (kI b :: kI a :: st) G μ := by
  refine kx_wx_step ?_
  unfold kx_st
  rw [ht]
  simp only [kx_do]
  rw [if_pos ⟨ha, hb, hz⟩]; exact h
theorem ks_ineg {a : Int} (ht : tb pc = (.ineg, nx, r1, r2, r3, tg)) (h : kx_wx E tb Q nx ls (kI (-a) :: st) G μ) : kx_wx E tb Q pc ls (kI a :: st) G μ := by
  refine kx_wx_step ?_
  unfold kx_st
  rw [ht]
  exact h
theorem ks_ishl {a b : Int} (ht : tb pc = (.ishl, nx, r1, r2, r3, tg)) (h0 : 0 ≤ b) (h1 : b < 32) (h : kx_wx E tb Q nx ls (kI (a * 2 ^ b.toNat) :: st) G μ) : kx_wx E tb Q pc ls (kI b :: kI a :: st) G μ := by
  refine kx_wx_step ?_
  unfold kx_st
  rw [ht]
  simp only [kx_do]
  rw [if_pos ⟨h0, h1⟩]; exact h
theorem ks_ishr {a b : Int} (ht : tb pc = (.ishr, nx, r1, r2, r3, tg)) (h0 : 0 ≤ b) (h1 : b < 32) (h : kx_wx E tb Q nx ls (kI (a.bmod 4294967296 / 2 ^ b.toNat) :: st) G μ) : kx_wx E tb Q pc ls (kI b :: kI a :: st) G μ := by
  refine kx_wx_step ?_
  unfold kx_st
  rw [ht]
  simp only [kx_do]
  rw [if_pos ⟨h0, h1⟩]; exact h
theorem ks_iushr {a b : Int} (ht : tb pc = (.iushr, nx, r1, r2, r3, tg)) (h0 : 0 ≤ b) (h1 : b < 32) (h2 : 0 ≤ a) (h3 : a ≤ 2147483647) (h : kx_wx E tb Q nx ls (kI (a / 2 ^ b.toNat) :: st) G μ) : kx_wx E tb Q pc ls (kI b :: kI a :: st) G μ := by
  refine kx_wx_step ?_
  unfold kx_st
  rw [ht]
  simp only [kx_do]
  rw [if_pos ⟨h0, h1, h2, h3⟩]; exact h
theorem ks_lshl {a b : Int} (ht : tb pc = (.lshl, nx, r1, r2, r3, tg)) (h0 : 0 ≤ b) (h1 : b < 64) (h : kx_wx E tb Q nx ls (kL (a * 2 ^ b.toNat) :: st) G μ) : kx_wx E tb Q pc ls (kI b :: kL a :: st) G μ := by
  refine kx_wx_step ?_
  unfold kx_st
  rw [ht]
  simp only [kx_do]
  rw [if_pos ⟨h0, h1⟩]; exact h
theorem ks_lcmp {a b : Int} (ht : tb pc = (.lcmp, nx, r1, r2, r3, tg)) (ha : kx_inL a) (hb : kx_inL b) (h1 : a < b → kx_wx E tb Q nx ls (kI (-1) :: st) G μ) (h2 : a = b → kx_wx E tb Q nx ls (kI 0 :: st) G μ) (h3 : b < a → kx_wx E tb Q nx ls (kI 1 :: st) G μ) : kx_wx E tb Q pc ls (kL b :: kL a :: st) G μ := by
  refine kx_wx_step ?_
  unfold kx_st
  rw [ht]
  simp only [kx_do]
  rw [if_pos ⟨ha, hb⟩]
  split
  · exact h1 ‹_›
  · split
    · exact h2 ‹_›
    · exact h3 (by omega)
theorem ks_i2l {a : Int} (ht : tb pc = (.i2l, nx, r1, r2, r3, tg)) (ha : kx_in a) (h : kx_wx E tb Q nx ls (kL a :: st) G μ) : kx_wx E tb Q pc ls (kI a :: st) G μ := by
  refine kx_wx_step ?_
  unfold kx_st
  rw [ht]
  simp only [kx_do]
  rw [if_pos ha]; exact h
theorem ks_i2b {a : Int} (ht : tb pc = (.i2b, nx, r1, r2, r3, tg)) (h : kx_wx E tb Q nx ls (kI (a.bmod 256) :: st) G μ) : kx_wx E tb Q pc ls (kI a :: st) G μ := by
  refine kx_wx_step ?_
  unfold kx_st
  rw [ht]
  exact h
theorem ks_i2s {a : Int} (ht : tb pc = (.i2s, nx, r1, r2, r3, tg)) (h : kx_wx E tb Q nx ls (kI (a.bmod 65536) :: st) G μ) : kx_wx E tb Q pc ls (kI a :: st) G μ := by
  refine kx_wx_step ?_
  unfold kx_st
  rw [ht]
  exact h
theorem ks_i2c {a : Int} (ht : tb pc = (.i2c, nx, r1, r2, r3, tg)) (h : kx_wx E tb Q nx ls (kI (a % 65536) :: st) G μ) : kx_wx E tb Q pc ls (kI a :: st) G μ := by
  refine kx_wx_step ?_
  unfold kx_st
  rw [ht]
  exact h
theorem ks_icmp_eq {i a b : Int} (ht : tb pc = (.if_icmp .eq i, nx, r1, r2, r3, tg)) (ha : kx_in a) (hb : kx_in b) (h1 : a = b → kx_wx E tb Q r1 ls st G μ) (h0 : ¬ a = b → kx_wx E tb Q nx ls st G μ) : kx_wx E tb Q pc ls (kI b :: kI a :: st) G μ := by
  refine kx_wx_step ?_
  unfold kx_st
  rw [ht]
  simp only [kx_do]
  rw [if_pos ⟨ha, hb⟩]
  simp only [kx_br]
  split
  · exact h1 ‹_›
  · exact h0 ‹_›
theorem ks_if_eq {i a : Int} (ht : tb pc = (.ifCond .eq i, nx, r1, r2, r3, tg)) (ha : kx_in a) (h1 : a = 0 → kx_wx E tb Q r1 ls st G μ) (h0 : ¬ a = 0 → kx_wx E tb Q nx ls st G μ) : kx_wx E tb Q pc ls (kI a :: st) G μ := by
  refine kx_wx_step ?_
  unfold kx_st
  rw [ht]
  simp only [kx_do]
  rw [if_pos ha]
  simp only [kx_br]
  split
  · exact h1 ‹_›
  · exact h0 ‹_›
theorem ks_if_eq_0 {i : Int} (ht : tb pc = (.ifCond .eq i, nx, r1, r2, r3, tg)) (h : kx_wx E tb Q r1 ls st G μ) : kx_wx E tb Q pc ls (kI 0 :: st) G μ := by
  refine kx_wx_step ?_
  unfold kx_st
  rw [ht]
  simp only [kx_do]
  rw [if_pos (by decide)]
  simp only [kx_br]
  rw [if_pos (by decide)]
  exact h
theorem ks_if_eq_1 {i : Int} (ht : tb pc = (.ifCond .eq i, nx, r1, r2, r3, tg)) (h : kx_wx E tb Q nx ls st G μ) : kx_wx E tb Q pc ls (kI 1 :: st) G μ := by
  refine kx_wx_step ?_
  unfold kx_st
  rw [ht]
  simp only [kx_do]
  rw [if_pos (by decide)]
  simp only [kx_br]
  rw [if_neg (by decide)]
  exact h
theorem ks_if_eq_m {i : Int} (ht : tb pc = (.ifCond .eq i, nx, r1, r2, r3, tg)) (h : kx_wx E tb Q nx ls st G μ) : kx_wx E tb Q pc ls (kI (-1) :: st) G μ := by
  refine kx_wx_step ?_
  unfold kx_st
  rw [ht]
  simp only [kx_do]
  rw [if_pos (by decide)]
  simp only [kx_br]
  rw [if_neg (by decide)]
  exact h
theorem ks_icmp_ne {i a b : Int} (ht : tb pc = (.if_icmp .ne i, nx, r1, r2, r3, tg)) (ha : kx_in a) (hb : kx_in b) (h1 : a = b → kx_wx E tb Q nx ls st G μ) (h0 : ¬ a = b → kx_wx E tb Q r1 ls st G μ) : kx_wx E tb Q pc ls (kI b :: kI a :: st) G μ := by
  refine kx_wx_step ?_
  unfold kx_st
  rw [ht]
  simp only [kx_do]
  rw [if_pos ⟨ha, hb⟩]
  simp only [kx_br]
  split
  · exact h1 ‹_›
  · exact h0 ‹_›
theorem ks_if_ne {i a : Int} (ht : tb pc = (.ifCond .ne i, nx, r1, r2, r3, tg)) (ha : kx_in a) (h1 : a = 0 → kx_wx E tb Q nx ls st G μ) (h0 : ¬ a = 0 → kx_wx E tb Q r1 ls st G μ) : kx_wx E tb Q pc ls (kI a :: st) G μ := by
  refine kx_wx_step ?_
  unfold kx_st
  rw [ht]
  simp only [kx_do]
  rw [if_pos ha]
  simp only [kx_br]
  split
  · exact h1 ‹_›
  · exact h0 ‹_›
theorem ks_if_ne_0 {i : Int} (ht : tb pc = (.ifCond .ne i, nx, r1, r2, r3, tg)) (h : kx_wx E tb Q nx ls st G μ) : kx_wx E tb Q pc ls (kI 0 :: st) G μ := by
  refine kx_wx_step ?_
  unfold kx_st
  rw [ht]
  simp only [kx_do]
  rw [if_pos (by decide)]
  simp only [kx_br]
  rw [if_pos (by decide)]
  exact h
theorem ks_if_ne_1 {i : Int} (ht : tb pc = (.ifCond .ne i, nx, r1, r2, r3, tg)) (h : kx_wx E tb Q r1 ls st G μ) : kx_wx E tb Q pc ls (kI 1 :: st) G μ := by
  refine kx_wx_step ?_
  unfold kx_st
  rw [ht]
  simp only [kx_do]
  rw [if_pos (by decide)]
  simp only [kx_br]
  rw [if_neg (by decide)]
  exact h
theorem ks_if_ne_m {i : Int} (ht : tb pc = (.ifCond .ne i, nx, r1, r2, r3, tg)) (h : kx_wx E tb Q r1 ls st G μ) : kx_wx E tb Q pc ls (kI (-1) :: st) G μ := by
  refine kx_wx_step ?_
  unfold kx_st
  rw [ht]
  simp only [kx_do]
  rw [if_pos (by decide)]
  simp only [kx_br]
  rw [if_neg (by decide)]
  exact h
theorem ks_icmp_lt {i a b : Int} (ht : tb pc = (.if_icmp .lt i, nx, r1, r2, r3, tg)) (ha : kx_in a) (hb : kx_in b) (h1 : a < b → kx_wx E tb Q r1 ls st G μ) (h0 : ¬ a < b → kx_wx E tb Q nx ls st G μ) : kx_wx E tb Q pc ls (kI b :: kI a :: st) G μ := by
  refine kx_wx_step ?_
  unfold kx_st
  rw [ht]
  simp only [kx_do]
  rw [if_pos ⟨ha, hb⟩]
  simp only [kx_br]
  split
  · exact h1 ‹_›
  · exact h0 ‹_›
theorem ks_if_lt {i a : Int} (ht : tb pc = (.ifCond .lt i, nx, r1, r2, r3, tg)) (ha : kx_in a) (h1 : a < 0 → kx_wx E tb Q r1 ls st G μ) (h0 : ¬ a < 0 → kx_wx E tb Q nx ls st G μ) : kx_wx E tb Q pc ls (kI a :: st) G μ := by
  refine kx_wx_step ?_
  unfold kx_st
  rw [ht]
  simp only [kx_do]
  rw [if_pos ha]
  simp only [kx_br]
  split
  · exact h1 ‹_›
  · exact h0 ‹_›
theorem ks_if_lt_0 {i : Int} (ht : tb pc = (.ifCond .lt i, nx, r1, r2, r3, tg)) (h : kx_wx E tb Q nx ls st G μ) : kx_wx E tb Q pc ls (kI 0 :: st) G μ := by
  refine kx_wx_step ?_
  unfold kx_st
  rw [ht]
  simp only [kx_do]
  rw [if_pos (by decide)]
  simp only [kx_br]
  rw [if_neg (by decide)]
  exact h
theorem ks_if_lt_1 {i : Int} (ht : tb pc = (.ifCond .lt i, nx, r1, r2, r3, tg)) (h : kx_wx E tb Q nx ls st G μ) : kx_wx E tb Q pc ls (kI 1 :: st) G μ := by
  refine kx_wx_step ?_
  unfold kx_st
  rw [ht]
  simp only [kx_do]
  rw [if_pos (by decide)]
  simp only [kx_br]
  rw [if_neg (by decide)]
  exact h
theorem ks_if_lt_m {i : Int} (ht : tb pc = (.ifCond .lt i, nx, r1, r2, r3, tg)) (h : kx_wx E tb Q r1 ls st G μ) : kx_wx E tb Q pc ls (kI (-1) :: st) G μ := by
  refine kx_wx_step ?_
  unfold kx_st
  rw [ht]
  simp only [kx_do]
  rw [if_pos (by decide)]
  simp only [kx_br]
  rw [if_pos (by decide)]
  exact h
theorem ks_icmp_ge {i a b : Int} (ht : tb pc = (.if_icmp .ge i, nx, r1, r2, r3, tg)) (ha : kx_in a) (hb : kx_in b) (h1 : a < b → kx_wx E tb Q nx ls st G μ) (h0 : ¬ a < b → kx_wx E tb Q r1 ls st G μ) : kx_wx E tb Q pc ls (kI b :: kI a :: st) G μ := by
  refine kx_wx_step ?_
  unfold kx_st
  rw [ht]
  simp only [kx_do]
  rw [if_pos ⟨ha, hb⟩]
  simp only [kx_br]
  split
  · exact h1 ‹_›
  · exact h0 ‹_›
theorem ks_if_ge {i a : Int} (ht : tb pc = (.ifCond .ge i, nx, r1, r2, r3, tg)) (ha : kx_in a) (h1 : a < 0 → kx_wx E tb Q nx ls st G μ) (h0 : ¬ a < 0 → kx_wx E tb Q r1 ls st G μ) : kx_wx E tb Q pc ls (kI a :: st) G μ := by
  refine kx_wx_step ?_
  unfold kx_st
  rw [ht]
  simp only [kx_do]
  rw [if_pos ha]
  simp only [kx_br]
  split
  · exact h1 ‹_›
  · exact h0 ‹_›
theorem ks_if_ge_0 {i : Int} (ht : tb pc = (.ifCond .ge i, nx, r1, r2, r3, tg)) (h : kx_wx E tb Q r1 ls st G μ) : kx_wx E tb Q pc ls (kI 0 :: st) G μ := by
  refine kx_wx_step ?_
  unfold kx_st
  rw [ht]
  simp only [kx_do]
  rw [if_pos (by decide)]
  simp only [kx_br]
  rw [if_neg (by decide)]
  exact h
theorem ks_if_ge_1 {i : Int} (ht : tb pc = (.ifCond .ge i, nx, r1, r2, r3, tg)) (h : kx_wx E tb Q r1 ls st G μ) : kx_wx E tb Q pc ls (kI 1 :: st) G μ := by
  refine kx_wx_step ?_
  unfold kx_st
  rw [ht]
  simp only [kx_do]
  rw [if_pos (by decide)]
  simp only [kx_br]
  rw [if_neg (by decide)]
  exact h
theorem ks_if_ge_m {i : Int} (ht : tb pc = (.ifCond .ge i, nx, r1, r2, r3, tg)) (h : kx_wx E tb Q nx ls st G μ) : kx_wx E tb Q pc ls (kI (-1) :: st) G μ := by
  refine kx_wx_step ?_
  unfold kx_st
  rw [ht]
  simp only [kx_do]
  rw [if_pos (by decide)]
  simp only [kx_br]
  rw [if_pos (by decide)]
  exact h
theorem ks_icmp_gt {i a b : Int} (ht : tb pc = (.if_icmp .gt i, nx, r1, r2, r3, tg)) (ha : kx_in a) (hb : kx_in b) (h1 : b < a → kx_wx E tb Q r1 ls st G μ) (h0 : ¬ b < a → kx_wx E tb Q nx ls st G μ) : kx_wx E tb Q pc ls (kI b :: kI a :: st) G μ := by
  refine kx_wx_step ?_
  unfold kx_st
  rw [ht]
  simp only [kx_do]
  rw [if_pos ⟨ha, hb⟩]
  simp only [kx_br]
  split
  · exact h1 ‹_›
  · exact h0 ‹_›
theorem ks_if_gt {i a : Int} (ht : tb pc = (.ifCond .gt i, nx, r1, r2, r3, tg)) (ha : kx_in a) (h1 : 0 < a → kx_wx E tb Q r1 ls st G μ) (h0 : ¬ 0 < a → kx_wx E tb Q nx ls st G μ) : kx_wx E tb Q pc ls (kI a :: st) G μ := by
  refine kx_wx_step ?_
  unfold kx_st
  rw [ht]
  simp only [kx_do]
  rw [if_pos ha]
  simp only [kx_br]
  split
  · exact h1 ‹_›
  · exact h0 ‹_›
theorem ks_if_gt_0 {i : Int} (ht : tb pc = (.ifCond .gt i, nx, r1, r2, r3, tg)) (h : kx_wx E tb Q nx ls st G μ) : kx_wx E tb Q pc ls (kI 0 :: st) G μ := by
  refine kx_wx_step ?_
  unfold kx_st
  rw [ht]
  simp only [kx_do]
  rw [if_pos (by decide)]
  simp only [kx_br]
  rw [if_neg (by decide)]
  exact h
theorem ks_if_gt_1 {i : Int} (ht : tb pc = (.ifCond .gt i, nx, r1, r2, r3, tg)) (h : kx_wx E tb Q r1 ls st G μ) : kx_wx E tb Q pc ls (kI 1 :: st) G μ := by
  refine kx_wx_step ?_
  unfold kx_st
  rw [ht]
  simp only [kx_do]
  rw [if_pos (by decide)]
  simp only [kx_br]
  rw [if_pos (by decide)]
  exact h
theorem ks_if_gt_m {i : Int} (ht : tb pc = (.ifCond .gt i, nx, r1, r2, r3, tg)) (h : kx_wx E tb Q nx ls st G μ) : kx_wx E tb Q pc ls (kI (-1) :: st) G μ := by
  refine kx_wx_step ?_
  unfold kx_st
  rw [ht]
  simp only [kx_do]
  rw [if_pos (by decide)]
  simp only [kx_br]
  rw [if_neg (by decide)]
  exact h
theorem ks_icmp_le {i a b : Int} (ht : tb pc = (.if_icmp .le i, nx, r1, r2, r3, tg)) (ha : kx_in a) (hb : kx_in b) (h1 : b < a → kx_wx E tb Q nx ls st G μ) (h0 : ¬ b < a → kx_wx E tb Q r1 ls st G μ) : kx_wx E tb Q pc ls (kI b :: kI a :: st) G μ := by
  refine kx_wx_step ?_
  unfold kx_st
  rw [ht]
  simp only [kx_do]
  rw [if_pos ⟨ha, hb⟩]
  simp only [kx_br]
  split
  · exact h1 ‹_›
  · exact h0 ‹_›
theorem ks_if_le {i a : Int} (ht : tb pc = (.ifCond .le i, nx, r1, r2, r3, tg)) (ha : kx_in a) (h1 : 0 < a → kx_wx E tb Q nx ls st G μ) (h0 : ¬ 0 < a → kx_wx E tb Q r1 ls st G μ) : kx_wx E tb Q pc ls (kI a :: st) G μ := by
  refine kx_wx_step ?_
  unfold kx_st
  rw [ht]
  simp only [kx_do]
  rw [if_pos ha]
  simp only [kx_br]
  split
  · exact h1 ‹_›
  · exact h0 ‹_›
theorem ks_if_le_0 {i : Int} (ht : tb pc = (.ifCond .le i, nx, r1, r2, r3, tg)) (h : kx_wx E tb Q r1 ls st G μ) : kx_wx E tb Q pc ls (kI 0 :: st) G μ := by
  refine kx_wx_step ?_
  unfold kx_st
  rw [ht]
  simp only [kx_do]
  rw [if_pos (by decide)]
  simp only [kx_br]
  rw [if_neg (by decide)]
  exact h
theorem ks_if_le_1 {i : Int} (ht : tb pc = (.ifCond .le i, nx, r1, r2, r3, tg)) (h : kx_wx E tb Q nx ls st G μ) : kx_wx E tb Q pc ls (kI 1 :: st) G μ := by
  refine kx_wx_step ?_
  unfold kx_st
  rw [ht]
  simp only [kx_do]
  rw [if_pos (by decide)]
  simp only [kx_br]
  rw [if_pos (by decide)]
  exact h
theorem ks_if_le_m {i : Int} (ht : tb pc = (.ifCond .le i, nx, r1, r2, r3, tg)) (h : kx_wx E tb Q r1 ls st G μ) : kx_wx E tb Q pc ls (kI (-1) :: st) G μ := by
  refine kx_wx_step ?_
  unfold kx_st
  rw [ht]
  simp only [kx_do]
  rw [if_pos (by decide)]
  simp only [kx_br]
  rw [if_neg (by decide)]
  exact h
theorem ks_goto {i : Int} (ht : tb pc = (.goto i, nx, r1, r2, r3, tg)) (h : kx_wx E tb Q r1 ls st G μ) : kx_wx E tb Q pc ls st G μ := by
  refine kx_wx_step ?_
  unfold kx_st
  rw [ht]
  exact h
theorem ks_tsw {i1 i2 i3 : Int} {i4 : Array Int} {x : Int} (ht : tb pc = (.tableswitch i1 i2 i3 i4, nx, r1, r2, r3, tg)) (hx : kx_in x) (h : kx_sw x r3 (fun t => kx_wx E tb Q t ls st G μ) r1 tg) : kx_wx E tb Q pc ls (kI x :: st) G μ := by
  refine kx_wx_step ?_
  unfold kx_st
  rw [ht]
  simp only [kx_do]
  rw [if_pos hx]; exact h
theorem ks_lsw {i1 : Int} {i4 : Array (Int × Int)} {x : Int} (ht : tb pc = (.lookupswitch i1 i4, nx, r1, r2, r3, tg)) (hx : kx_in x) (h : kx_sw x r3 (fun t => kx_wx E tb Q t ls st G μ) r1 tg) : kx_wx E tb Q pc ls (kI x :: st) G μ := by
  refine kx_wx_step ?_
  unfold kx_st
  rw [ht]
  simp only [kx_do]
  rw [if_pos hx]; exact h
theorem ks_ireturn {x : Int} (ht : tb pc = (.ireturn, nx, 0, r2, r3, tg)) (h : Q (some (kI x)) G μ) : kx_wx E tb Q pc ls [kI x] G μ := by
  refine kx_wx_step ?_
  unfold kx_st
  rw [ht]
  simp only [kx_do]
  rw [if_pos (Or.inl trivial)]; exact h
theorem ks_zreturn {x : Int} (ht : tb pc = (.ireturn, nx, 1, r2, r3, tg)) (hx : x = 0 ∨ x = 1) (h : Q (some (kI x)) G μ) : kx_wx E tb Q pc ls [kI x] G μ := by
  refine kx_wx_step ?_
  unfold kx_st
  rw [ht]
  simp only [kx_do]
  rw [if_pos (Or.inr hx)]; exact h
theorem ks_lreturn {x : Int} (ht : tb pc = (.lreturn, nx, r1, r2, r3, tg)) (h : Q (some (kL x)) G μ) : kx_wx E tb Q pc ls [kL x] G μ := by
  refine kx_wx_step ?_
  unfold kx_st
  rw [ht]
  exact h
theorem ks_return (ht : tb pc = (.return_, nx, r1, r2, r3, tg)) (h : Q none G μ) : kx_wx E tb Q pc ls [] G μ := by
  refine kx_wx_step ?_
  unfold kx_st
  rw [ht]
  exact h
theorem ks_acopy {i s d n0 n1 : Nat} {sp dp n : Int} (ht : tb pc = (.invokestatic i, nx, r1, r2, 2, tg)) (h9 : 91 ≤ G.2.1) (hs : G.1 s = (2, n0)) (hd : G.1 d = (2, n1)) (h1 : 0 ≤ sp) (h2 : 0 ≤ dp) (h3 : 0 ≤ n) (h4 : sp + n ≤ n0) (h5 : dp + n ≤ n1) (hc : kx_cats st ≤ 8) (h : kx_wx E tb Q nx ls st G (kx_cpy μ s sp d dp n)) : kx_wx E tb Q pc ls (kI n :: kI dp :: kR d :: kI sp :: kR s :: st) G μ := by
  refine kx_wx_step ?_
  unfold kx_st
  rw [ht]
  simp only [kx_do]
  rw [if_pos trivial, if_pos ⟨h9, by rw [hs], by rw [hd], h1, h2, h3, by rw [hs]; exact h4, by rw [hd]; exact h5, hc⟩]; exact h
theorem ks_objinit {i a : Nat} (ht : tb pc = (.invokespecial i, nx, r1, r2, 1, tg)) (hc : kx_cats st ≤ 8) (h : kx_wx E tb Q nx ls st G μ) : kx_wx E tb Q pc ls (kR a :: st) G μ := by
  refine kx_wx_step ?_
  unfold kx_st
  rw [ht]
  simp only [kx_do]
  rw [if_pos trivial, if_pos hc]; exact h
theorem ks_calls_0 {i : Nat} (ht : tb pc = (.invokestatic i, nx, r1, 0, 0, tg)) (hc : kx_cats st ≤ 8) (h : kx_cx E r1 [] G μ (fun v G' μ' => kx_wx E tb Q nx ls (v.toList ++ st) G' μ')) : kx_wx E tb Q pc ls (st) G μ := by
  refine kx_wx_step ?_
  unfold kx_st
  rw [ht]
  simp only [kx_do]
  rw [if_neg (by decide), if_pos ⟨by simp, by simpa using hc⟩]; exact h
theorem ks_calls_1 {i : Nat} {v0 : kx_V} (ht : tb pc = (.invokestatic i, nx, r1, 1, 0, tg)) (hc : kx_cats st ≤ 8) (h : kx_cx E r1 [v0] G μ (fun v G' μ' => kx_wx E tb Q nx ls (v.toList ++ st) G' μ')) : kx_wx E tb Q pc ls (v0 :: st) G μ := by
  refine kx_wx_step ?_
  unfold kx_st
  rw [ht]
  simp only [kx_do]
  rw [if_neg (by decide), if_pos ⟨by simp, by simpa using hc⟩]; exact h
theorem ks_callp_1 {i a : Nat} (ht : tb pc = (.invokespecial i, nx, r1, 1, 0, tg)) (hc : kx_cats st ≤ 8) (h : kx_cx E r1 [kR a] G μ (fun v G' μ' => kx_wx E tb Q nx ls (v.toList ++ st) G' μ')) : kx_wx E tb Q pc ls (kR a :: st) G μ := by
  refine kx_wx_step ?_
  unfold kx_st
  rw [ht]
  simp only [kx_do]
  rw [if_neg (by decide)]
  simp only [List.take_succ_cons, List.take_zero, List.drop_succ_cons, List.drop_zero, List.reverse_cons, List.reverse_nil, List.nil_append, List.cons_append]
  rw [if_pos ⟨by simp, hc⟩]; exact h
theorem ks_callv_1 {i a c : Nat} (ht : tb pc = (.invokevirtual i, nx, r1, 1, 0, [c])) (h8 : (c == 8) = false) (hs : G.1 a = (1, c)) (hc : kx_cats st ≤ 8) (h : kx_cx E r1 [kR a] G μ (fun v G' μ' => kx_wx E tb Q nx ls (v.toList ++ st) G' μ')) : kx_wx E tb Q pc ls (kR a :: st) G μ := by
  refine kx_wx_step ?_
  unfold kx_st
  rw [ht]
  simp only [kx_do]
  simp only [List.take_succ_cons, List.take_zero, List.drop_succ_cons, List.drop_zero, List.reverse_cons, List.reverse_nil, List.nil_append, List.cons_append]
  rw [if_pos ⟨by show (if c = 8 then a = 105 else G.1 a = (1, c)); rw [if_neg (by simpa using h8)]; exact hs, by simp, hc⟩]; exact h
theorem ks_callvS_1 {i : Nat} (ht : tb pc = (.invokevirtual i, nx, r1, 1, 0, [8])) (hc : kx_cats st ≤ 8) (h : kx_cx E r1 [kR 105] G μ (fun v G' μ' => kx_wx E tb Q nx ls (v.toList ++ st) G' μ')) : kx_wx E tb Q pc ls (kR 105 :: st) G μ := by
  refine kx_wx_step ?_
  unfold kx_st
  rw [ht]
  simp only [kx_do]
  simp only [List.take_succ_cons, List.take_zero, List.drop_succ_cons, List.drop_zero, List.reverse_cons, List.reverse_nil, List.nil_append, List.cons_append]
  rw [if_pos ⟨by simp, by simp, hc⟩]; exact h
theorem ks_calls_2 {i : Nat} {v0 v1 : kx_V} (ht : tb pc = (.invokestatic i, nx, r1, 2, 0, tg)) (hc : kx_cats st ≤ 8) (h : kx_cx E r1 [v0, v1] G μ (fun v G' μ' => kx_wx E tb Q nx ls (v.toList ++ st) G' μ')) : kx_wx E tb Q pc ls (v1 :: v0 :: st) G μ := by
  refine kx_wx_step ?_
  unfold kx_st
  rw [ht]
  simp only [kx_do]
  rw [if_neg (by decide), if_pos ⟨by simp, by simpa using hc⟩]; exact h
theorem ks_callp_2 {i a : Nat} {v1 : kx_V} (ht : tb pc = (.invokespecial i, nx, r1, 2, 0, tg)) (hc : kx_cats st ≤ 8) (h : kx_cx E r1 [kR a, v1] G μ (fun v G' μ' => kx_wx E tb Q nx ls (v.toList ++ st) G' μ')) : kx_wx E tb Q pc ls (v1 :: kR a :: st) G μ := by
  refine kx_wx_step ?_
  unfold kx_st
  rw [ht]
  simp only [kx_do]
  rw [if_neg (by decide)]
  simp only [List.take_succ_cons, List.take_zero, List.drop_succ_cons, List.drop_zero, List.reverse_cons, List.reverse_nil, List.nil_append, List.cons_append]
  rw [if_pos ⟨by simp, hc⟩]; exact h
theorem ks_callv_2 {i a c : Nat} {v1 : kx_V} (ht : tb pc = (.invokevirtual i, nx, r1, 2, 0, [c])) (h8 : (c == 8) = false) (hs : G.1 a = (1, c)) (hc : kx_cats st ≤ 8) (h : kx_cx E r1 [kR a, v1] G μ (fun v G' μ' => kx_wx E tb Q nx ls (v.toList ++ st) G' μ')) : kx_wx E tb Q pc ls (v1 :: kR a :: st) G μ := by
  refine kx_wx_step ?_
  unfold kx_st
  rw [ht]
  simp only [kx_do]
  simp only [List.take_succ_cons, List.take_zero, List.drop_succ_cons, List.drop_zero, List.reverse_cons, List.reverse_nil, List.nil_append, List.cons_append]
  rw [if_pos ⟨by show (if c = 8 then a = 105 else G.1 a = (1, c)); rw [if_neg (by simpa using h8)]; exact hs, by simp, hc⟩]; exact h
theorem ks_callvS_2 {i : Nat} {v1 : kx_V} (ht : tb pc = (.invokevirtual i, nx, r1, 2, 0, [8])) (hc : kx_cats st ≤ 8) (h : kx_cx E r1 [kR 105, v1] G μ (fun v G' μ' => kx_wx E tb Q nx ls (v.toList ++ st) G' μ')) : kx_wx E tb Q pc ls (v1 :: kR 105 :: st) G μ := by
  refine kx_wx_step ?_
  unfold kx_st
  rw [ht]
  simp only [kx_do]
  simp only [List.take_succ_cons, List.take_zero, List.drop_succ_cons, List.drop_zero, List.reverse_cons, List.reverse_nil, List.nil_append, List.cons_append]
  rw [if_pos ⟨by simp, by simp, hc⟩]; exact h
theorem ks_calls_3 {i : Nat} {v0 v1 v2 : kx_V} (ht : tb pc = (.invokestatic i, nx, r1, 3, 0, tg)) (hc : kx_cats st ≤ 8) (h : kx_cx E r1 [v0, v1, v2] G μ (fun v G' μ' => kx_wx E tb Q nx ls (v.toList ++ st) G' μ')) : kx_wx E tb Q pc ls (v2 :: v1 :: v0 :: st) G μ := by
  refine kx_wx_step ?_
  unfold kx_st
  rw [ht]
  simp only [kx_do]
  rw [if_neg (by decide), if_pos ⟨by simp, by simpa using hc⟩]; exact h
theorem ks_callp_3 {i a : Nat} {v1 v2 : kx_V} (ht : tb pc = (.invokespecial i, nx, r1, 3, 0, tg)) (hc : kx_cats st ≤ 8) (h : kx_cx E r1 [kR a, v1, v2] G μ (fun v G' μ' => kx_wx E tb Q nx ls (v.toList ++ st) G' μ')) : kx_wx E tb Q pc ls (v2 :: v1 :: kR a :: st) G μ := by
  refine kx_wx_step ?_
  unfold kx_st
  rw [ht]
  simp only [kx_do]
  rw [if_neg (by decide)]
  simp only [List.take_succ_cons, List.take_zero, List.drop_succ_cons, List.drop_zero, List.reverse_cons, List.reverse_nil, List.nil_append, List.cons_append]
  rw [if_pos ⟨by simp, hc⟩]; exact h
theorem ks_callv_3 {i a c : Nat} {v1 v2 : kx_V} (ht : tb pc = (.invokevirtual i, nx, r1, 3, 0, [c])) (h8 : (c == 8) = false) (hs : G.1 a = (1, c)) (hc : kx_cats st ≤ 8) (h : kx_cx E r1 [kR a, v1, v2] G μ (fun v G' μ' => kx_wx E tb Q nx ls (v.toList ++ st) G' μ')) : kx_wx E tb Q pc ls (v2 :: v1 :: kR a :: st) G μ := by
  refine kx_wx_step ?_
  unfold kx_st
  rw [ht]
  simp only [kx_do]
  simp only [List.take_succ_cons, List.take_zero, List.drop_succ_cons, List.drop_zero, List.reverse_cons, List.reverse_nil, List.nil_append, List.cons_append]
  rw [if_pos ⟨by show (if c = 8 then a = 105 else G.1 a = (1, c)); rw [if_neg (by simpa using h8)]; exact hs, by simp, hc⟩]; exact h
theorem ks_callvS_3 {i : Nat} {v1 v2 : kx_V} (ht : tb pc = (.invokevirtual i, nx, r1, 3, 0, [8])) (hc : kx_cats st ≤ 8) (h : kx_cx E r1 [kR 105, v1, v2] G μ (fun v G' μ' => kx_wx E tb Q nx ls (v.toList ++ st) G' μ')) : kx_wx E tb Q pc ls (v2 :: v1 :: kR 105 :: st) G μ := by
  refine kx_wx_step ?_
  unfold kx_st
  rw [ht]
  simp only [kx_do]
  simp only [List.take_succ_cons, List.take_zero, List.drop_succ_cons, List.drop_zero, List.reverse_cons, List.reverse_nil, List.nil_append, List.cons_append]
  rw [if_pos ⟨by simp, by simp, hc⟩]; exact h
theorem ks_calls_4 {i : Nat} {v0 v1 v2 v3 : kx_V} (ht : tb pc = (.invokestatic i, nx, r1, 4, 0, tg)) (hc : kx_cats st ≤ 8) (h : kx_cx E r1 [v0, v1, v2, v3] G μ (fun v G' μ' => kx_wx E tb Q nx ls (v.toList ++ st) G' μ')) : kx_wx E tb Q pc ls (v3 :: v2 :: v1 :: v0 :: st) G μ := by
  refine kx_wx_step ?_
  unfold kx_st
  rw [ht]
  simp only [kx_do]
  rw [if_neg (by decide), if_pos ⟨by simp, by simpa using hc⟩]; exact h
theorem ks_callp_4 {i a : Nat} {v1 v2 v3 : kx_V} (ht : tb pc = (.invokespecial i, nx, r1, 4, 0, tg)) (hc : kx_cats st ≤ 8) (h : kx_cx E r1 [kR a, v1, v2, v3] G μ (fun v G' μ' => kx_wx E tb Q nx ls (v.toList ++ st) G' μ')) : kx_wx E tb Q pc ls (v3 :: v2 :: v1 :: kR a :: st) G μ := by
  refine kx_wx_step ?_
  unfold kx_st
  rw [ht]
  simp only [kx_do]
  rw [if_neg (by decide)]
  simp only [List.take_succ_cons, List.take_zero, List.drop_succ_cons, List.drop_zero, List.reverse_cons, List.reverse_nil, List.nil_append, List.cons_append]
  rw [if_pos ⟨by simp, hc⟩]; exact h
theorem ks_callv_4 {i a c : Nat} {v1 v2 v3 : kx_V} (ht : tb pc = (.invokevirtual i, nx, r1, 4, 0, [c])) (h8 : (c == 8) = false) (hs : G.1 a = (1, c)) (hc : kx_cats st ≤ 8) (h : kx_cx E r1 [kR a, v1, v2, v3] G μ (fun v G' μ' => kx_wx E tb Q nx ls (v.toList ++ st) G' μ')) : kx_wx E tb Q pc ls (v3 :: v2 :: v1 :: kR a :: st) G μ := by
  refine kx_wx_step ?_
  unfold kx_st
  rw [ht]
  simp only [kx_do]
  simp only [List.take_succ_cons, List.take_zero, List.drop_succ_cons, List.drop_zero, List.reverse_cons, List.reverse_nil, List.nil_append, List.cons_append]
  rw [if_pos ⟨by show (if c = 8 then a = 105 else G.1 a = (1, c)); rw [if_neg (by simpa using h8)]; exact hs, by simp, hc⟩]; exact h
theorem ks_callvS_4 {i : Nat} {v1 v2 v3 : kx_V} (ht : tb pc = (.invokevirtual i, nx, r1, 4, 0, [8])) (hc : kx_cats st ≤ 8) (h : kx_cx E r1 [kR 105, v1, v2, v3] G μ (fun v G' μ' => kx_wx E tb Q nx ls (v.toList ++ st) G' μ')) : kx_wx E tb Q pc ls (v3 :: v2 :: v1 :: kR 105 :: st) G μ := by
  refine kx_wx_step ?_
  unfold kx_st
  rw [ht]
  simp only [kx_do]
  simp only [List.take_succ_cons, List.take_zero, List.drop_succ_cons, List.drop_zero, List.reverse_cons, List.reverse_nil, List.nil_append, List.cons_append]
  rw [if_pos ⟨by simp, by simp, hc⟩]; exact h
theorem ks_calls_5 {i : Nat} {v0 v1 v2 v3 v4 : kx_V} (ht : tb pc = (.invokestatic i, nx, r1, 5, 0, tg)) (hc : kx_cats st ≤ 8) (h : kx_cx E r1 [v0, v1, v2, v3, v4] G μ (fun v G' μ' => kx_wx E tb Q nx ls (v.toList ++ st) G' μ')) : kx_wx E tb Q pc ls (v4 :: v3 :: v2 :: v1 :: v0 :: st) G μ := by
  refine kx_wx_step ?_
  unfold kx_st
  rw [ht]
  simp only [kx_do]
  rw [if_neg (by decide), if_pos ⟨by simp, by simpa using hc⟩]; exact h
theorem ks_callp_5 {i a : Nat} {v1 v2 v3 v4 : kx_V} (ht : tb pc = (.invokespecial i, nx, r1, 5, 0, tg)) (hc : kx_cats st ≤ 8) (h : kx_cx E r1 [kR a, v1, v2, v3, v4] G μ (fun v G' μ' => kx_wx E tb Q nx ls (v.toList ++ st) G' μ')) : kx_wx E tb Q pc ls (v4 :: v3 :: v2 :: v1 :: kR a :: st) G μ := by
  refine kx_wx_step ?_
  unfold kx_st
  rw [ht]
  simp only [kx_do]
  rw [if_neg (by decide)]
  simp only [List.take_succ_cons, List.take_zero, List.drop_succ_cons, List.drop_zero, List.reverse_cons, List.reverse_nil, List.nil_append, List.cons_append]
  rw [if_pos ⟨by simp, hc⟩]; exact h
theorem ks_callv_5 {i a c : Nat} {v1 v2 v3 v4 : kx_V} (ht : tb pc = (.invokevirtual i, nx, r1, 5, 0, [c])) (h8 : (c == 8) = false) (hs : G.1 a = (1, c)) (hc : kx_cats st ≤ 8) (h : kx_cx E r1 [kR a, v1, v2, v3, v4] G μ (fun v G' μ' => kx_wx E tb Q nx ls (v.toList ++ st) G' μ')) : kx_wx E tb Q pc ls (v4 :: v3 :: v2 :: v1 :: kR a :: st) G μ := by
  refine kx_wx_step ?_
  unfold kx_st
  rw [ht]
  simp only [kx_do]
  simp only [List.take_succ_cons, List.take_zero, List.drop_succ_cons, List.drop_zero, List.reverse_cons, List.reverse_nil, List.nil_append, List.cons_append]
  rw [if_pos ⟨by show (if c = 8 then a = 105 else G.1 a = (1, c)); rw [if_neg (by simpa using h8)]; exact hs, by simp, hc⟩]; exact h
theorem ks_callvS_5 {i : Nat} {v1 v2 v3 v4 : kx_V} (ht : tb pc = (.invokevirtual i, nx, r1, 5, 0, [8])) (hc : kx_cats st ≤ 8) (h : kx_cx E r1 [kR 105, v1, v2, v3, v4] G μ (fun v G' μ' => kx_wx E tb Q nx ls (v.toList ++ st) G' μ')) : kx_wx E tb Q pc ls (v4 :: v3 :: v2 :: v1 :: kR 105 :: st) G μ := by
  refine kx_wx_step ?_
  unfold kx_st
  rw [ht]
  simp only [kx_do]
  simp only [List.take_succ_cons, List.take_zero, List.drop_succ_cons, List.drop_zero, List.reverse_cons, List.reverse_nil, List.nil_append, List.cons_append]
  rw [if_pos ⟨by simp, by simp, hc⟩]; exact h
end KS
