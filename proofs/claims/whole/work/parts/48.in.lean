/-! the objects are made -/
def RFl (rl : Nat → List Nat) : Nat → Int → Nat := fun a i => if 0 ≤ i then (rl a).getD i.toNat 0 else 0
def rll (rl : Nat → List Nat) (a : Nat) (l : List Nat) : Nat → List Nat := fun b => if b = a then l else rl b
theorem rep_0 : ∀ (k i : Nat), (List.replicate k 0).getD i 0 = 0 := by
  intro k
  induction k with
  | zero => intro i; rfl
  | succ k ih => intro i; cases i with
    | zero => rfl
    | succ i => exact ih i
theorem cn_zer (rl : Nat → List Nat) (n k : Nat) : kx_zeror (RFl rl) n = RFl (rll rl n (List.replicate k 0)) := by
  funext b j
  by_cases e : b = n
  · subst e
    simp only [kx_zeror, RFl, rll, if_true]
    split
    · rw [rep_0]
    · rfl
  · simp only [kx_zeror, RFl, rll, if_neg e]
theorem cn_upr {rl : Nat → List Nat} {a v : Nat} {i : Int} (h0 : 0 ≤ i) (h : i.toNat < (rl a).length) : kx_upr (RFl rl) a i v = RFl (rll rl a ((rl a).set i.toNat v)) := by
  funext b j
  by_cases e : b = a
  · subst e
    simp only [kx_upr, RFl, rll, if_true, true_and]
    by_cases ej : j = i
    · subst ej
      rw [if_pos rfl, if_pos h0, List.getD_eq_getElem?_getD, List.getElem?_set_self h]
      rfl
    · rw [if_neg ej]
      by_cases j0 : 0 ≤ j
      · rw [if_pos j0, if_pos j0, List.getD_eq_getElem?_getD, List.getD_eq_getElem?_getD, List.getElem?_set_ne (by omega)]
      · rw [if_neg j0, if_neg j0]
  · simp only [kx_upr, RFl, rll, if_neg e, e, false_and, if_false]
theorem cn_z {μ : kx_M} {n : Nat} (h : ∀ j, μ n j = 0) : kx_zero μ n = μ := by
  funext b j
  unfold kx_zero
  by_cases e : b = n
  · subst e; rw [if_pos rfl, h j]
  · rw [if_neg e]
theorem cn_u0 {μ : kx_M} {a : Nat} {i : Int} (h : μ a i = 0) : kx_up μ a i 0 = μ := by
  funext b j
  rw [kx_up_at]
  by_cases e : b = a ∧ j = i
  · rw [if_pos e, e.1, e.2, h]
  · rw [if_neg e]
section CN
variable {E : Nat → List kx_V → kx_G → kx_M → Option kx_V → kx_G → kx_M → Prop} {tb : Nat → kx_E} {Q : Option kx_V → kx_G → kx_M → Prop} {pc nx r1 r2 : Nat} {r3 : Int} {tg : List Nat} {ls : kx_L} {st : List kx_V} {G : kx_G} {μ : kx_M} {sh : Nat → Nat × Nat} {rl : Nat → List Nat} {n n' : Nat}
theorem cn_new {i k : Nat} (ht : tb pc = (.new i, nx, r1, r2, r3, tg)) (hn : n + 1 = n') (hz : ∀ j, μ n j = 0) (h : kx_wx E tb Q nx ls (kR n :: st) (kx_shp sh n (1, r1), n', RFl (rll rl n (List.replicate k 0))) μ) : kx_wx E tb Q pc ls st (sh, n, RFl rl) μ := by
  refine kx_wx_step ?_
  unfold kx_st
  rw [ht]
  simp only [kx_do, kx_new]
  rw [cn_z hz, cn_zer rl n k, hn]
  exact h
theorem cn_newarray {ty : Jvm.ClassFile.ArrayType} {c : Int} {q : Nat} (ht : tb pc = (.newarray ty, nx, r1, r2, r3, tg)) (h0 : 0 ≤ c) (h1 : c ≤ 5000) (hn : n + 1 = n') (hq : c.toNat = q) (hz : ∀ j, μ n j = 0) (h : kx_wx E tb Q nx ls (kR n :: st) (kx_shp sh n (r1, q), n', RFl (rll rl n [])) μ) : kx_wx E tb Q pc ls (kI c :: st) (sh, n, RFl rl) μ := by
  refine kx_wx_step ?_
  unfold kx_st
  rw [ht]
  simp only [kx_do, kx_new]
  rw [if_pos ⟨h0, h1⟩, cn_z hz, cn_zer rl n 0, hn, hq]
  exact h
theorem cn_anewarray {i k : Nat} {c : Int} {q : Nat} (ht : tb pc = (.anewarray i, nx, r1, r2, r3, tg)) (h0 : 0 ≤ c) (h1 : c ≤ 5000) (hn : n + 1 = n') (hq : c.toNat = q) (hz : ∀ j, μ n j = 0) (h : kx_wx E tb Q nx ls (kR n :: st) (kx_shp sh n (r1, q), n', RFl (rll rl n (List.replicate k 0))) μ) : kx_wx E tb Q pc ls (kI c :: st) (sh, n, RFl rl) μ := by
  refine kx_wx_step ?_
  unfold kx_st
  rw [ht]
  simp only [kx_do, kx_new]
  rw [if_pos ⟨h0, h1⟩, cn_z hz, cn_zer rl n k, hn, hq]
  exact h
theorem cn_putr {i a v : Nat} {l : List Nat} (ht : tb pc = (.putfield i, nx, r1, 1, r3, tg)) (hs : sh a = (1, r1)) (hv : v ≠ 0) (h0 : 0 ≤ r3) (hl : r3.toNat < (rl a).length) (hl2 : (rl a).set r3.toNat v = l) (h : kx_wx E tb Q nx ls st (sh, n, RFl (rll rl a l)) μ) : kx_wx E tb Q pc ls (kR v :: kR a :: st) (sh, n, RFl rl) μ := by
  refine kx_wx_step ?_
  unfold kx_st
  rw [ht]
  simp only [kx_do]
  rw [if_pos ⟨hs, trivial, hv⟩, cn_upr h0 hl, hl2]
  exact h
theorem cn_aastore {a v q : Nat} {i : Int} {l : List Nat} (ht : tb pc = (.aastore, nx, r1, r2, r3, tg)) (hk : (sh a).1 = 5 ∧ sh v = (1, 3) ∨ (sh a).1 = 6 ∧ sh v = (1, 5)) (h0 : 0 ≤ i) (hq : (sh a).2 = q) (h1 : i < q) (hv : v ≠ 0) (hl : i.toNat < (rl a).length) (hl2 : (rl a).set i.toNat v = l) (h : kx_wx E tb Q nx ls st (sh, n, RFl (rll rl a l)) μ) : kx_wx E tb Q pc ls (kR v :: kI i :: kR a :: st) (sh, n, RFl rl) μ := by
  refine kx_wx_step ?_
  unfold kx_st
  rw [ht]
  simp only [kx_do]
  rw [if_pos ⟨hk, h0, by rw [hq]; exact h1, hv⟩, cn_upr h0 hl, hl2]
  exact h
theorem cn_put0 {i a : Nat} (ht : tb pc = (.putfield i, nx, r1, 0, r3, tg)) (hs : G.1 a = (1, r1)) (hz : μ a r3 = 0) (h : kx_wx E tb Q nx ls st G μ) : kx_wx E tb Q pc ls (kI 0 :: kR a :: st) G μ := by
  refine ks_puti ht hs ?_
  rw [cn_u0 hz]
  exact h
theorem cn_iinc_1 {i : Nat} {k : Int} {x y : Int} {l : kx_L} {a0 : Option kx_V} (ht : tb pc = (.iinc i k, nx, 1, r2, r3, tg)) (hn : kx_nl a0 = true) (hy : x + r3 = y) (h : kx_wx E tb Q nx (a0 :: some (kI y) :: l) st G μ) : kx_wx E tb Q pc (a0 :: some (kI x) :: l) st G μ := by
  refine ks_iinc_1 ht hn ?_
  rw [hy]
  exact h
theorem cn_eq {v : Option kx_V} {G G' : kx_G} {μ μ' : kx_M} (h1 : G = G') (h2 : μ = μ') (t : Q v G' μ') : Q v G μ := by rw [h1, h2]; exact t
end CN
theorem kx_shp_ne {sh : Nat → Nat × Nat} {a b : Nat} {q : Nat × Nat} (h : b ≠ a) : kx_shp sh a q b = sh b := by unfold kx_shp; rw [if_neg h]
theorem rll_ne {rl : Nat → List Nat} {a b : Nat} {l : List Nat} (h : b ≠ a) : rll rl a l b = rl b := by unfold rll; rw [if_neg h]
theorem kg_ish_hi {L c : Nat} (h : 107 ≤ c) : kg_ish L c = (0, 0) := by
  unfold kg_ish
  split <;> first | omega | rfl
theorem kg_sh_hi {L c : Nat} (h : 107 ≤ c) : kg_sh L c = (0, 0) := by
  unfold kg_sh
  split <;> first | omega | rfl
theorem kg_rl_hi {c : Nat} (h : 107 ≤ c) : kg_rl c = [] := by
  unfold kg_rl
  split <;> first | omega | rfl
def shX (L c : Nat) : Nat × Nat := if c < 77 then kg_sh L c else kg_ish L c
def rlX (c : Nat) : List Nat := if c < 77 then kg_rl c else []
def muX (xs : Nat → Int32) : kx_M := (kx_up (kx_up (kx_up (kx_up (kx_up (kx_up (kx_up (kx_up (kg_m xs) 3 2 (-1)) 5 2 (-1)) 7 2 (-1)) 9 2 (-1)) 11 2 (-1)) 13 2 (-1)) 15 2 (-1)) 17 2 (-1))
def muM (xs : Nat → Int32) : kx_M := (kx_up (kx_up (kx_up (kx_up (kx_up (kx_up (kx_up (kx_up (muX xs) 79 0 (-1)) 79 1 (-1)) 79 2 (-1)) 79 3 (-1)) 79 4 (-1)) 79 5 (-1)) 79 6 (-1)) 79 7 (-1))
set_option maxRecDepth 4000 in
set_option maxHeartbeats 4000000 in
theorem r_Xinit {d L : Nat} {xs : Nat → Int32} {Q : Option kx_V → kx_G → kx_M → Prop} (t : Q none (shX L, 77, RFl rlX) (muX xs)) : kx_cx (ke (d + 3)) 68 [kR 1] (kx_shp (kg_ish L) 1 (1, 6), 2, RFl (rll (fun _ => []) 1 (List.replicate 9 0))) (kg_m xs) Q := by
  refine ke_start (tb := kt_X_init) (ls := [some (kR 1), none]) rfl rfl ?_
  refine ks_aload_n rfl rfl ?_
  refine ks_objinit rfl (Nat.le_of_ble_eq_true rfl) ?_
  refine ks_aload_n rfl rfl ?_
  refine ks_bipush rfl ?_
  refine cn_anewarray (k := 8) (n' := 3) (q := 8) rfl (by omega) (by omega) rfl rfl (fun j => rfl) ?_
  refine cn_putr (l := [2, 0, 0, 0, 0, 0, 0, 0, 0]) rfl rfl (by decide) (by decide) (Nat.le_of_ble_eq_true rfl) rfl ?_
  refine ks_iconst rfl ?_
  refine ks_istore_n_1 rfl rfl ?_
  refine ks_iload_n rfl rfl ?_
  refine ks_bipush rfl ?_
  refine ks_icmp_ge rfl ⟨by omega, by omega⟩ ⟨by omega, by omega⟩ (fun c => ?_) (fun c => absurd c (by omega))
  refine ks_aload_n rfl rfl ?_
  refine ks_getr (b := 2) rfl rfl rfl rfl (by decide) ?_
  refine ks_iload_n rfl rfl ?_
  refine cn_new (k := 1) (n' := 4) rfl rfl (fun j => rfl) ?_
  refine ks_dupR rfl ?_
  refine ks_callp_1 rfl (Nat.le_of_ble_eq_true rfl) ?_
  refine ke_start (tb := kt_Row_init) (ls := [some (kR 3)]) rfl rfl ?_
  refine ks_aload_n rfl rfl ?_
  refine ks_objinit rfl (Nat.le_of_ble_eq_true rfl) ?_
  refine ks_aload_n rfl rfl ?_
  refine ks_bipush rfl ?_
  refine cn_newarray (n' := 5) (q := 40) rfl (by omega) (by omega) rfl rfl (fun j => rfl) ?_
  refine cn_putr (l := [4]) rfl rfl (by decide) (by decide) (Nat.le_of_ble_eq_true rfl) rfl ?_
  refine ks_aload_n rfl rfl ?_
  refine ks_iconst rfl ?_
  refine cn_put0 rfl rfl rfl ?_
  refine ks_aload_n rfl rfl ?_
  refine ks_iconst rfl ?_
  refine ks_puti rfl rfl ?_
  refine ks_return rfl ?_
  show kx_wx _ _ _ _ _ _ _ _
  refine cn_aastore (l := [3, 0, 0, 0, 0, 0, 0, 0]) (q := 8) rfl (Or.inl ⟨rfl, rfl⟩) (by omega) rfl (by omega) (by decide) (Nat.le_of_ble_eq_true rfl) rfl ?_
  refine cn_iinc_1 (y := 1) rfl rfl rfl ?_
  refine ks_goto rfl ?_
  refine ks_iload_n rfl rfl ?_
  refine ks_bipush rfl ?_
  refine ks_icmp_ge rfl ⟨by omega, by omega⟩ ⟨by omega, by omega⟩ (fun c => ?_) (fun c => absurd c (by omega))
  refine ks_aload_n rfl rfl ?_
  refine ks_getr (b := 2) rfl rfl rfl rfl (by decide) ?_
  refine ks_iload_n rfl rfl ?_
  refine cn_new (k := 1) (n' := 6) rfl rfl (fun j => rfl) ?_
  refine ks_dupR rfl ?_
  refine ks_callp_1 rfl (Nat.le_of_ble_eq_true rfl) ?_
  refine ke_start (tb := kt_Row_init) (ls := [some (kR 5)]) rfl rfl ?_
  refine ks_aload_n rfl rfl ?_
  refine ks_objinit rfl (Nat.le_of_ble_eq_true rfl) ?_
  refine ks_aload_n rfl rfl ?_
  refine ks_bipush rfl ?_
  refine cn_newarray (n' := 7) (q := 40) rfl (by omega) (by omega) rfl rfl (fun j => rfl) ?_
  refine cn_putr (l := [6]) rfl rfl (by decide) (by decide) (Nat.le_of_ble_eq_true rfl) rfl ?_
  refine ks_aload_n rfl rfl ?_
  refine ks_iconst rfl ?_
  refine cn_put0 rfl rfl rfl ?_
  refine ks_aload_n rfl rfl ?_
  refine ks_iconst rfl ?_
  refine ks_puti rfl rfl ?_
  refine ks_return rfl ?_
  show kx_wx _ _ _ _ _ _ _ _
  refine cn_aastore (l := [3, 5, 0, 0, 0, 0, 0, 0]) (q := 8) rfl (Or.inl ⟨rfl, rfl⟩) (by omega) rfl (by omega) (by decide) (Nat.le_of_ble_eq_true rfl) rfl ?_
  refine cn_iinc_1 (y := 2) rfl rfl rfl ?_
  refine ks_goto rfl ?_
  refine ks_iload_n rfl rfl ?_
  refine ks_bipush rfl ?_
  refine ks_icmp_ge rfl ⟨by omega, by omega⟩ ⟨by omega, by omega⟩ (fun c => ?_) (fun c => absurd c (by omega))
  refine ks_aload_n rfl rfl ?_
  refine ks_getr (b := 2) rfl rfl rfl rfl (by decide) ?_
  refine ks_iload_n rfl rfl ?_
  refine cn_new (k := 1) (n' := 8) rfl rfl (fun j => rfl) ?_
  refine ks_dupR rfl ?_
  refine ks_callp_1 rfl (Nat.le_of_ble_eq_true rfl) ?_
  refine ke_start (tb := kt_Row_init) (ls := [some (kR 7)]) rfl rfl ?_
  refine ks_aload_n rfl rfl ?_
  refine ks_objinit rfl (Nat.le_of_ble_eq_true rfl) ?_
  refine ks_aload_n rfl rfl ?_
  refine ks_bipush rfl ?_
  refine cn_newarray (n' := 9) (q := 40) rfl (by omega) (by omega) rfl rfl (fun j => rfl) ?_
  refine cn_putr (l := [8]) rfl rfl (by decide) (by decide) (Nat.le_of_ble_eq_true rfl) rfl ?_
  refine ks_aload_n rfl rfl ?_
  refine ks_iconst rfl ?_
  refine cn_put0 rfl rfl rfl ?_
  refine ks_aload_n rfl rfl ?_
  refine ks_iconst rfl ?_
  refine ks_puti rfl rfl ?_
  refine ks_return rfl ?_
  show kx_wx _ _ _ _ _ _ _ _
  refine cn_aastore (l := [3, 5, 7, 0, 0, 0, 0, 0]) (q := 8) rfl (Or.inl ⟨rfl, rfl⟩) (by omega) rfl (by omega) (by decide) (Nat.le_of_ble_eq_true rfl) rfl ?_
  refine cn_iinc_1 (y := 3) rfl rfl rfl ?_
  refine ks_goto rfl ?_
  refine ks_iload_n rfl rfl ?_
  refine ks_bipush rfl ?_
  refine ks_icmp_ge rfl ⟨by omega, by omega⟩ ⟨by omega, by omega⟩ (fun c => ?_) (fun c => absurd c (by omega))
  refine ks_aload_n rfl rfl ?_
  refine ks_getr (b := 2) rfl rfl rfl rfl (by decide) ?_
  refine ks_iload_n rfl rfl ?_
  refine cn_new (k := 1) (n' := 10) rfl rfl (fun j => rfl) ?_
  refine ks_dupR rfl ?_
  refine ks_callp_1 rfl (Nat.le_of_ble_eq_true rfl) ?_
  refine ke_start (tb := kt_Row_init) (ls := [some (kR 9)]) rfl rfl ?_
  refine ks_aload_n rfl rfl ?_
  refine ks_objinit rfl (Nat.le_of_ble_eq_true rfl) ?_
  refine ks_aload_n rfl rfl ?_
  refine ks_bipush rfl ?_
  refine cn_newarray (n' := 11) (q := 40) rfl (by omega) (by omega) rfl rfl (fun j => rfl) ?_
  refine cn_putr (l := [10]) rfl rfl (by decide) (by decide) (Nat.le_of_ble_eq_true rfl) rfl ?_
  refine ks_aload_n rfl rfl ?_
  refine ks_iconst rfl ?_
  refine cn_put0 rfl rfl rfl ?_
  refine ks_aload_n rfl rfl ?_
  refine ks_iconst rfl ?_
  refine ks_puti rfl rfl ?_
  refine ks_return rfl ?_
  show kx_wx _ _ _ _ _ _ _ _
  refine cn_aastore (l := [3, 5, 7, 9, 0, 0, 0, 0]) (q := 8) rfl (Or.inl ⟨rfl, rfl⟩) (by omega) rfl (by omega) (by decide) (Nat.le_of_ble_eq_true rfl) rfl ?_
  refine cn_iinc_1 (y := 4) rfl rfl rfl ?_
  refine ks_goto rfl ?_
  refine ks_iload_n rfl rfl ?_
  refine ks_bipush rfl ?_
  refine ks_icmp_ge rfl ⟨by omega, by omega⟩ ⟨by omega, by omega⟩ (fun c => ?_) (fun c => absurd c (by omega))
  refine ks_aload_n rfl rfl ?_
  refine ks_getr (b := 2) rfl rfl rfl rfl (by decide) ?_
  refine ks_iload_n rfl rfl ?_
  refine cn_new (k := 1) (n' := 12) rfl rfl (fun j => rfl) ?_
  refine ks_dupR rfl ?_
  refine ks_callp_1 rfl (Nat.le_of_ble_eq_true rfl) ?_
  refine ke_start (tb := kt_Row_init) (ls := [some (kR 11)]) rfl rfl ?_
  refine ks_aload_n rfl rfl ?_
  refine ks_objinit rfl (Nat.le_of_ble_eq_true rfl) ?_
  refine ks_aload_n rfl rfl ?_
  refine ks_bipush rfl ?_
  refine cn_newarray (n' := 13) (q := 40) rfl (by omega) (by omega) rfl rfl (fun j => rfl) ?_
  refine cn_putr (l := [12]) rfl rfl (by decide) (by decide) (Nat.le_of_ble_eq_true rfl) rfl ?_
  refine ks_aload_n rfl rfl ?_
  refine ks_iconst rfl ?_
  refine cn_put0 rfl rfl rfl ?_
  refine ks_aload_n rfl rfl ?_
  refine ks_iconst rfl ?_
  refine ks_puti rfl rfl ?_
  refine ks_return rfl ?_
  show kx_wx _ _ _ _ _ _ _ _
  refine cn_aastore (l := [3, 5, 7, 9, 11, 0, 0, 0]) (q := 8) rfl (Or.inl ⟨rfl, rfl⟩) (by omega) rfl (by omega) (by decide) (Nat.le_of_ble_eq_true rfl) rfl ?_
  refine cn_iinc_1 (y := 5) rfl rfl rfl ?_
  refine ks_goto rfl ?_
  refine ks_iload_n rfl rfl ?_
  refine ks_bipush rfl ?_
  refine ks_icmp_ge rfl ⟨by omega, by omega⟩ ⟨by omega, by omega⟩ (fun c => ?_) (fun c => absurd c (by omega))
  refine ks_aload_n rfl rfl ?_
  refine ks_getr (b := 2) rfl rfl rfl rfl (by decide) ?_
  refine ks_iload_n rfl rfl ?_
  refine cn_new (k := 1) (n' := 14) rfl rfl (fun j => rfl) ?_
  refine ks_dupR rfl ?_
  refine ks_callp_1 rfl (Nat.le_of_ble_eq_true rfl) ?_
  refine ke_start (tb := kt_Row_init) (ls := [some (kR 13)]) rfl rfl ?_
  refine ks_aload_n rfl rfl ?_
  refine ks_objinit rfl (Nat.le_of_ble_eq_true rfl) ?_
  refine ks_aload_n rfl rfl ?_
  refine ks_bipush rfl ?_
  refine cn_newarray (n' := 15) (q := 40) rfl (by omega) (by omega) rfl rfl (fun j => rfl) ?_
  refine cn_putr (l := [14]) rfl rfl (by decide) (by decide) (Nat.le_of_ble_eq_true rfl) rfl ?_
  refine ks_aload_n rfl rfl ?_
  refine ks_iconst rfl ?_
  refine cn_put0 rfl rfl rfl ?_
  refine ks_aload_n rfl rfl ?_
  refine ks_iconst rfl ?_
  refine ks_puti rfl rfl ?_
  refine ks_return rfl ?_
  show kx_wx _ _ _ _ _ _ _ _
  refine cn_aastore (l := [3, 5, 7, 9, 11, 13, 0, 0]) (q := 8) rfl (Or.inl ⟨rfl, rfl⟩) (by omega) rfl (by omega) (by decide) (Nat.le_of_ble_eq_true rfl) rfl ?_
  refine cn_iinc_1 (y := 6) rfl rfl rfl ?_
  refine ks_goto rfl ?_
  refine ks_iload_n rfl rfl ?_
  refine ks_bipush rfl ?_
  refine ks_icmp_ge rfl ⟨by omega, by omega⟩ ⟨by omega, by omega⟩ (fun c => ?_) (fun c => absurd c (by omega))
  refine ks_aload_n rfl rfl ?_
  refine ks_getr (b := 2) rfl rfl rfl rfl (by decide) ?_
  refine ks_iload_n rfl rfl ?_
  refine cn_new (k := 1) (n' := 16) rfl rfl (fun j => rfl) ?_
  refine ks_dupR rfl ?_
  refine ks_callp_1 rfl (Nat.le_of_ble_eq_true rfl) ?_
  refine ke_start (tb := kt_Row_init) (ls := [some (kR 15)]) rfl rfl ?_
  refine ks_aload_n rfl rfl ?_
  refine ks_objinit rfl (Nat.le_of_ble_eq_true rfl) ?_
  refine ks_aload_n rfl rfl ?_
  refine ks_bipush rfl ?_
  refine cn_newarray (n' := 17) (q := 40) rfl (by omega) (by omega) rfl rfl (fun j => rfl) ?_
  refine cn_putr (l := [16]) rfl rfl (by decide) (by decide) (Nat.le_of_ble_eq_true rfl) rfl ?_
  refine ks_aload_n rfl rfl ?_
  refine ks_iconst rfl ?_
  refine cn_put0 rfl rfl rfl ?_
  refine ks_aload_n rfl rfl ?_
  refine ks_iconst rfl ?_
  refine ks_puti rfl rfl ?_
  refine ks_return rfl ?_
  show kx_wx _ _ _ _ _ _ _ _
  refine cn_aastore (l := [3, 5, 7, 9, 11, 13, 15, 0]) (q := 8) rfl (Or.inl ⟨rfl, rfl⟩) (by omega) rfl (by omega) (by decide) (Nat.le_of_ble_eq_true rfl) rfl ?_
  refine cn_iinc_1 (y := 7) rfl rfl rfl ?_
  refine ks_goto rfl ?_
  refine ks_iload_n rfl rfl ?_
  refine ks_bipush rfl ?_
  refine ks_icmp_ge rfl ⟨by omega, by omega⟩ ⟨by omega, by omega⟩ (fun c => ?_) (fun c => absurd c (by omega))
  refine ks_aload_n rfl rfl ?_
  refine ks_getr (b := 2) rfl rfl rfl rfl (by decide) ?_
  refine ks_iload_n rfl rfl ?_
  refine cn_new (k := 1) (n' := 18) rfl rfl (fun j => rfl) ?_
  refine ks_dupR rfl ?_
  refine ks_callp_1 rfl (Nat.le_of_ble_eq_true rfl) ?_
  refine ke_start (tb := kt_Row_init) (ls := [some (kR 17)]) rfl rfl ?_
  refine ks_aload_n rfl rfl ?_
  refine ks_objinit rfl (Nat.le_of_ble_eq_true rfl) ?_
  refine ks_aload_n rfl rfl ?_
  refine ks_bipush rfl ?_
  refine cn_newarray (n' := 19) (q := 40) rfl (by omega) (by omega) rfl rfl (fun j => rfl) ?_
  refine cn_putr (l := [18]) rfl rfl (by decide) (by decide) (Nat.le_of_ble_eq_true rfl) rfl ?_
  refine ks_aload_n rfl rfl ?_
  refine ks_iconst rfl ?_
  refine cn_put0 rfl rfl rfl ?_
  refine ks_aload_n rfl rfl ?_
  refine ks_iconst rfl ?_
  refine ks_puti rfl rfl ?_
  refine ks_return rfl ?_
  show kx_wx _ _ _ _ _ _ _ _
  refine cn_aastore (l := [3, 5, 7, 9, 11, 13, 15, 17]) (q := 8) rfl (Or.inl ⟨rfl, rfl⟩) (by omega) rfl (by omega) (by decide) (Nat.le_of_ble_eq_true rfl) rfl ?_
  refine cn_iinc_1 (y := 8) rfl rfl rfl ?_
  refine ks_goto rfl ?_
  refine ks_iload_n rfl rfl ?_
  refine ks_bipush rfl ?_
  refine ks_icmp_ge rfl ⟨by omega, by omega⟩ ⟨by omega, by omega⟩ (fun c => absurd c (by omega)) (fun c => ?_)
  refine ks_aload_n rfl rfl ?_
  refine cn_new (k := 1) (n' := 20) rfl rfl (fun j => rfl) ?_
  refine ks_dupR rfl ?_
  refine ks_callp_1 rfl (Nat.le_of_ble_eq_true rfl) ?_
  refine ke_start (tb := kt_Tape_init) (ls := [some (kR 19)]) rfl rfl ?_
  refine ks_aload_n rfl rfl ?_
  refine ks_objinit rfl (Nat.le_of_ble_eq_true rfl) ?_
  refine ks_aload_n rfl rfl ?_
  refine ks_bipush rfl ?_
  refine cn_newarray (n' := 21) (q := 120) rfl (by omega) (by omega) rfl rfl (fun j => rfl) ?_
  refine cn_putr (l := [20]) rfl rfl (by decide) (by decide) (Nat.le_of_ble_eq_true rfl) rfl ?_
  refine ks_return rfl ?_
  show kx_wx _ _ _ _ _ _ _ _
  refine cn_putr (l := [2, 19, 0, 0, 0, 0, 0, 0, 0]) rfl rfl (by decide) (by decide) (Nat.le_of_ble_eq_true rfl) rfl ?_
  refine ks_aload_n rfl rfl ?_
  refine cn_new (k := 8) (n' := 22) rfl rfl (fun j => rfl) ?_
  refine ks_dupR rfl ?_
  refine ks_callp_1 rfl (Nat.le_of_ble_eq_true rfl) ?_
  refine ke_start (tb := kt_Town_init) (ls := [some (kR 21)]) rfl rfl ?_
  refine ks_aload_n rfl rfl ?_
  refine ks_objinit rfl (Nat.le_of_ble_eq_true rfl) ?_
  refine ks_aload_n rfl rfl ?_
  refine ks_bipush rfl ?_
  refine cn_newarray (n' := 23) (q := 6) rfl (by omega) (by omega) rfl rfl (fun j => rfl) ?_
  refine cn_putr (l := [22, 0, 0, 0, 0, 0, 0, 0]) rfl rfl (by decide) (by decide) (Nat.le_of_ble_eq_true rfl) rfl ?_
  refine ks_aload_n rfl rfl ?_
  refine ks_bipush rfl ?_
  refine cn_newarray (n' := 24) (q := 6) rfl (by omega) (by omega) rfl rfl (fun j => rfl) ?_
  refine cn_putr (l := [22, 23, 0, 0, 0, 0, 0, 0]) rfl rfl (by decide) (by decide) (Nat.le_of_ble_eq_true rfl) rfl ?_
  refine ks_aload_n rfl rfl ?_
  refine ks_bipush rfl ?_
  refine cn_newarray (n' := 25) (q := 6) rfl (by omega) (by omega) rfl rfl (fun j => rfl) ?_
  refine cn_putr (l := [22, 23, 24, 0, 0, 0, 0, 0]) rfl rfl (by decide) (by decide) (Nat.le_of_ble_eq_true rfl) rfl ?_
  refine ks_aload_n rfl rfl ?_
  refine ks_bipush rfl ?_
  refine cn_newarray (n' := 26) (q := 6) rfl (by omega) (by omega) rfl rfl (fun j => rfl) ?_
  refine cn_putr (l := [22, 23, 24, 25, 0, 0, 0, 0]) rfl rfl (by decide) (by decide) (Nat.le_of_ble_eq_true rfl) rfl ?_
  refine ks_aload_n rfl rfl ?_
  refine ks_iconst rfl ?_
  refine cn_newarray (n' := 27) (q := 4) rfl (by omega) (by omega) rfl rfl (fun j => rfl) ?_
  refine cn_putr (l := [22, 23, 24, 25, 26, 0, 0, 0]) rfl rfl (by decide) (by decide) (Nat.le_of_ble_eq_true rfl) rfl ?_
  refine ks_aload_n rfl rfl ?_
  refine ks_iconst rfl ?_
  refine cn_newarray (n' := 28) (q := 4) rfl (by omega) (by omega) rfl rfl (fun j => rfl) ?_
  refine cn_putr (l := [22, 23, 24, 25, 26, 27, 0, 0]) rfl rfl (by decide) (by decide) (Nat.le_of_ble_eq_true rfl) rfl ?_
  refine ks_aload_n rfl rfl ?_
  refine ks_iconst rfl ?_
  refine cn_newarray (n' := 29) (q := 4) rfl (by omega) (by omega) rfl rfl (fun j => rfl) ?_
  refine cn_putr (l := [22, 23, 24, 25, 26, 27, 28, 0]) rfl rfl (by decide) (by decide) (Nat.le_of_ble_eq_true rfl) rfl ?_
  refine ks_aload_n rfl rfl ?_
  refine ks_iconst rfl ?_
  refine cn_newarray (n' := 30) (q := 4) rfl (by omega) (by omega) rfl rfl (fun j => rfl) ?_
  refine cn_putr (l := [22, 23, 24, 25, 26, 27, 28, 29]) rfl rfl (by decide) (by decide) (Nat.le_of_ble_eq_true rfl) rfl ?_
  refine ks_return rfl ?_
  show kx_wx _ _ _ _ _ _ _ _
  refine cn_putr (l := [2, 19, 21, 0, 0, 0, 0, 0, 0]) rfl rfl (by decide) (by decide) (Nat.le_of_ble_eq_true rfl) rfl ?_
  refine ks_aload_n rfl rfl ?_
  refine cn_new (k := 8) (n' := 31) rfl rfl (fun j => rfl) ?_
  refine ks_dupR rfl ?_
  refine ks_callp_1 rfl (Nat.le_of_ble_eq_true rfl) ?_
  refine ke_start (tb := kt_Town_init) (ls := [some (kR 30)]) rfl rfl ?_
  refine ks_aload_n rfl rfl ?_
  refine ks_objinit rfl (Nat.le_of_ble_eq_true rfl) ?_
  refine ks_aload_n rfl rfl ?_
  refine ks_bipush rfl ?_
  refine cn_newarray (n' := 32) (q := 6) rfl (by omega) (by omega) rfl rfl (fun j => rfl) ?_
  refine cn_putr (l := [31, 0, 0, 0, 0, 0, 0, 0]) rfl rfl (by decide) (by decide) (Nat.le_of_ble_eq_true rfl) rfl ?_
  refine ks_aload_n rfl rfl ?_
  refine ks_bipush rfl ?_
  refine cn_newarray (n' := 33) (q := 6) rfl (by omega) (by omega) rfl rfl (fun j => rfl) ?_
  refine cn_putr (l := [31, 32, 0, 0, 0, 0, 0, 0]) rfl rfl (by decide) (by decide) (Nat.le_of_ble_eq_true rfl) rfl ?_
  refine ks_aload_n rfl rfl ?_
  refine ks_bipush rfl ?_
  refine cn_newarray (n' := 34) (q := 6) rfl (by omega) (by omega) rfl rfl (fun j => rfl) ?_
  refine cn_putr (l := [31, 32, 33, 0, 0, 0, 0, 0]) rfl rfl (by decide) (by decide) (Nat.le_of_ble_eq_true rfl) rfl ?_
  refine ks_aload_n rfl rfl ?_
  refine ks_bipush rfl ?_
  refine cn_newarray (n' := 35) (q := 6) rfl (by omega) (by omega) rfl rfl (fun j => rfl) ?_
  refine cn_putr (l := [31, 32, 33, 34, 0, 0, 0, 0]) rfl rfl (by decide) (by decide) (Nat.le_of_ble_eq_true rfl) rfl ?_
  refine ks_aload_n rfl rfl ?_
  refine ks_iconst rfl ?_
  refine cn_newarray (n' := 36) (q := 4) rfl (by omega) (by omega) rfl rfl (fun j => rfl) ?_
  refine cn_putr (l := [31, 32, 33, 34, 35, 0, 0, 0]) rfl rfl (by decide) (by decide) (Nat.le_of_ble_eq_true rfl) rfl ?_
  refine ks_aload_n rfl rfl ?_
  refine ks_iconst rfl ?_
  refine cn_newarray (n' := 37) (q := 4) rfl (by omega) (by omega) rfl rfl (fun j => rfl) ?_
  refine cn_putr (l := [31, 32, 33, 34, 35, 36, 0, 0]) rfl rfl (by decide) (by decide) (Nat.le_of_ble_eq_true rfl) rfl ?_
  refine ks_aload_n rfl rfl ?_
  refine ks_iconst rfl ?_
  refine cn_newarray (n' := 38) (q := 4) rfl (by omega) (by omega) rfl rfl (fun j => rfl) ?_
  refine cn_putr (l := [31, 32, 33, 34, 35, 36, 37, 0]) rfl rfl (by decide) (by decide) (Nat.le_of_ble_eq_true rfl) rfl ?_
  refine ks_aload_n rfl rfl ?_
  refine ks_iconst rfl ?_
  refine cn_newarray (n' := 39) (q := 4) rfl (by omega) (by omega) rfl rfl (fun j => rfl) ?_
  refine cn_putr (l := [31, 32, 33, 34, 35, 36, 37, 38]) rfl rfl (by decide) (by decide) (Nat.le_of_ble_eq_true rfl) rfl ?_
  refine ks_return rfl ?_
  show kx_wx _ _ _ _ _ _ _ _
  refine cn_putr (l := [2, 19, 21, 30, 0, 0, 0, 0, 0]) rfl rfl (by decide) (by decide) (Nat.le_of_ble_eq_true rfl) rfl ?_
  refine ks_aload_n rfl rfl ?_
  refine cn_new (k := 4) (n' := 40) rfl rfl (fun j => rfl) ?_
  refine ks_dupR rfl ?_
  refine ks_callp_1 rfl (Nat.le_of_ble_eq_true rfl) ?_
  refine ke_start (tb := kt_Acts_init) (ls := [some (kR 39)]) rfl rfl ?_
  refine ks_aload_n rfl rfl ?_
  refine ks_objinit rfl (Nat.le_of_ble_eq_true rfl) ?_
  refine ks_aload_n rfl rfl ?_
  refine ks_bipush rfl ?_
  refine cn_newarray (n' := 41) (q := 24) rfl (by omega) (by omega) rfl rfl (fun j => rfl) ?_
  refine cn_putr (l := [40, 0, 0, 0]) rfl rfl (by decide) (by decide) (Nat.le_of_ble_eq_true rfl) rfl ?_
  refine ks_aload_n rfl rfl ?_
  refine ks_bipush rfl ?_
  refine cn_newarray (n' := 42) (q := 24) rfl (by omega) (by omega) rfl rfl (fun j => rfl) ?_
  refine cn_putr (l := [40, 41, 0, 0]) rfl rfl (by decide) (by decide) (Nat.le_of_ble_eq_true rfl) rfl ?_
  refine ks_aload_n rfl rfl ?_
  refine ks_bipush rfl ?_
  refine cn_newarray (n' := 43) (q := 24) rfl (by omega) (by omega) rfl rfl (fun j => rfl) ?_
  refine cn_putr (l := [40, 41, 42, 0]) rfl rfl (by decide) (by decide) (Nat.le_of_ble_eq_true rfl) rfl ?_
  refine ks_aload_n rfl rfl ?_
  refine ks_bipush rfl ?_
  refine cn_newarray (n' := 44) (q := 24) rfl (by omega) (by omega) rfl rfl (fun j => rfl) ?_
  refine cn_putr (l := [40, 41, 42, 43]) rfl rfl (by decide) (by decide) (Nat.le_of_ble_eq_true rfl) rfl ?_
  refine ks_return rfl ?_
  show kx_wx _ _ _ _ _ _ _ _
  refine cn_putr (l := [2, 19, 21, 30, 39, 0, 0, 0, 0]) rfl rfl (by decide) (by decide) (Nat.le_of_ble_eq_true rfl) rfl ?_
  refine ks_aload_n rfl rfl ?_
  refine cn_new (k := 2) (n' := 45) rfl rfl (fun j => rfl) ?_
  refine ks_dupR rfl ?_
  refine ks_callp_1 rfl (Nat.le_of_ble_eq_true rfl) ?_
  refine ke_start (tb := kt_Fore_init) (ls := [some (kR 44)]) rfl rfl ?_
  refine ks_aload_n rfl rfl ?_
  refine ks_objinit rfl (Nat.le_of_ble_eq_true rfl) ?_
  refine ks_aload_n rfl rfl ?_
  refine cn_new (k := 8) (n' := 46) rfl rfl (fun j => rfl) ?_
  refine ks_dupR rfl ?_
  refine ks_callp_1 rfl (Nat.le_of_ble_eq_true rfl) ?_
  refine ke_start (tb := kt_Town_init) (ls := [some (kR 45)]) rfl rfl ?_
  refine ks_aload_n rfl rfl ?_
  refine ks_objinit rfl (Nat.le_of_ble_eq_true rfl) ?_
  refine ks_aload_n rfl rfl ?_
  refine ks_bipush rfl ?_
  refine cn_newarray (n' := 47) (q := 6) rfl (by omega) (by omega) rfl rfl (fun j => rfl) ?_
  refine cn_putr (l := [46, 0, 0, 0, 0, 0, 0, 0]) rfl rfl (by decide) (by decide) (Nat.le_of_ble_eq_true rfl) rfl ?_
  refine ks_aload_n rfl rfl ?_
  refine ks_bipush rfl ?_
  refine cn_newarray (n' := 48) (q := 6) rfl (by omega) (by omega) rfl rfl (fun j => rfl) ?_
  refine cn_putr (l := [46, 47, 0, 0, 0, 0, 0, 0]) rfl rfl (by decide) (by decide) (Nat.le_of_ble_eq_true rfl) rfl ?_
  refine ks_aload_n rfl rfl ?_
  refine ks_bipush rfl ?_
  refine cn_newarray (n' := 49) (q := 6) rfl (by omega) (by omega) rfl rfl (fun j => rfl) ?_
  refine cn_putr (l := [46, 47, 48, 0, 0, 0, 0, 0]) rfl rfl (by decide) (by decide) (Nat.le_of_ble_eq_true rfl) rfl ?_
  refine ks_aload_n rfl rfl ?_
  refine ks_bipush rfl ?_
  refine cn_newarray (n' := 50) (q := 6) rfl (by omega) (by omega) rfl rfl (fun j => rfl) ?_
  refine cn_putr (l := [46, 47, 48, 49, 0, 0, 0, 0]) rfl rfl (by decide) (by decide) (Nat.le_of_ble_eq_true rfl) rfl ?_
  refine ks_aload_n rfl rfl ?_
  refine ks_iconst rfl ?_
  refine cn_newarray (n' := 51) (q := 4) rfl (by omega) (by omega) rfl rfl (fun j => rfl) ?_
  refine cn_putr (l := [46, 47, 48, 49, 50, 0, 0, 0]) rfl rfl (by decide) (by decide) (Nat.le_of_ble_eq_true rfl) rfl ?_
  refine ks_aload_n rfl rfl ?_
  refine ks_iconst rfl ?_
  refine cn_newarray (n' := 52) (q := 4) rfl (by omega) (by omega) rfl rfl (fun j => rfl) ?_
  refine cn_putr (l := [46, 47, 48, 49, 50, 51, 0, 0]) rfl rfl (by decide) (by decide) (Nat.le_of_ble_eq_true rfl) rfl ?_
  refine ks_aload_n rfl rfl ?_
  refine ks_iconst rfl ?_
  refine cn_newarray (n' := 53) (q := 4) rfl (by omega) (by omega) rfl rfl (fun j => rfl) ?_
  refine cn_putr (l := [46, 47, 48, 49, 50, 51, 52, 0]) rfl rfl (by decide) (by decide) (Nat.le_of_ble_eq_true rfl) rfl ?_
  refine ks_aload_n rfl rfl ?_
  refine ks_iconst rfl ?_
  refine cn_newarray (n' := 54) (q := 4) rfl (by omega) (by omega) rfl rfl (fun j => rfl) ?_
  refine cn_putr (l := [46, 47, 48, 49, 50, 51, 52, 53]) rfl rfl (by decide) (by decide) (Nat.le_of_ble_eq_true rfl) rfl ?_
  refine ks_return rfl ?_
  show kx_wx _ _ _ _ _ _ _ _
  refine cn_putr (l := [45, 0]) rfl rfl (by decide) (by decide) (Nat.le_of_ble_eq_true rfl) rfl ?_
  refine ks_aload_n rfl rfl ?_
  refine ks_bipush rfl ?_
  refine cn_newarray (n' := 55) (q := 61) rfl (by omega) (by omega) rfl rfl (fun j => rfl) ?_
  refine cn_putr (l := [45, 54]) rfl rfl (by decide) (by decide) (Nat.le_of_ble_eq_true rfl) rfl ?_
  refine ks_return rfl ?_
  show kx_wx _ _ _ _ _ _ _ _
  refine cn_putr (l := [2, 19, 21, 30, 39, 44, 0, 0, 0]) rfl rfl (by decide) (by decide) (Nat.le_of_ble_eq_true rfl) rfl ?_
  refine ks_aload_n rfl rfl ?_
  refine cn_new (k := 1) (n' := 56) rfl rfl (fun j => rfl) ?_
  refine ks_dupR rfl ?_
  refine ks_callp_1 rfl (Nat.le_of_ble_eq_true rfl) ?_
  refine ke_start (tb := kt_Asker_init) (ls := [some (kR 55)]) rfl rfl ?_
  refine ks_aload_n rfl rfl ?_
  refine ks_objinit rfl (Nat.le_of_ble_eq_true rfl) ?_
  refine ks_aload_n rfl rfl ?_
  refine ks_bipush rfl ?_
  refine cn_newarray (n' := 57) (q := 16) rfl (by omega) (by omega) rfl rfl (fun j => rfl) ?_
  refine cn_putr (l := [56]) rfl rfl (by decide) (by decide) (Nat.le_of_ble_eq_true rfl) rfl ?_
  refine ks_return rfl ?_
  show kx_wx _ _ _ _ _ _ _ _
  refine cn_putr (l := [2, 19, 21, 30, 39, 44, 55, 0, 0]) rfl rfl (by decide) (by decide) (Nat.le_of_ble_eq_true rfl) rfl ?_
  refine ks_aload_n rfl rfl ?_
  refine ks_iconst rfl ?_
  refine cn_anewarray (k := 2) (n' := 58) (q := 2) rfl (by omega) (by omega) rfl rfl (fun j => rfl) ?_
  refine cn_putr (l := [2, 19, 21, 30, 39, 44, 55, 57, 0]) rfl rfl (by decide) (by decide) (Nat.le_of_ble_eq_true rfl) rfl ?_
  refine ks_iconst rfl ?_
  refine ks_istore_n_1 rfl rfl ?_
  refine ks_iload_n rfl rfl ?_
  refine ks_iconst rfl ?_
  refine ks_icmp_ge rfl ⟨by omega, by omega⟩ ⟨by omega, by omega⟩ (fun c => ?_) (fun c => absurd c (by omega))
  refine ks_aload_n rfl rfl ?_
  refine ks_getr (b := 57) rfl rfl rfl rfl (by decide) ?_
  refine ks_iload_n rfl rfl ?_
  refine cn_new (k := 8) (n' := 59) rfl rfl (fun j => rfl) ?_
  refine ks_dupR rfl ?_
  refine ks_callp_1 rfl (Nat.le_of_ble_eq_true rfl) ?_
  refine ke_start (tb := kt_Town_init) (ls := [some (kR 58)]) rfl rfl ?_
  refine ks_aload_n rfl rfl ?_
  refine ks_objinit rfl (Nat.le_of_ble_eq_true rfl) ?_
  refine ks_aload_n rfl rfl ?_
  refine ks_bipush rfl ?_
  refine cn_newarray (n' := 60) (q := 6) rfl (by omega) (by omega) rfl rfl (fun j => rfl) ?_
  refine cn_putr (l := [59, 0, 0, 0, 0, 0, 0, 0]) rfl rfl (by decide) (by decide) (Nat.le_of_ble_eq_true rfl) rfl ?_
  refine ks_aload_n rfl rfl ?_
  refine ks_bipush rfl ?_
  refine cn_newarray (n' := 61) (q := 6) rfl (by omega) (by omega) rfl rfl (fun j => rfl) ?_
  refine cn_putr (l := [59, 60, 0, 0, 0, 0, 0, 0]) rfl rfl (by decide) (by decide) (Nat.le_of_ble_eq_true rfl) rfl ?_
  refine ks_aload_n rfl rfl ?_
  refine ks_bipush rfl ?_
  refine cn_newarray (n' := 62) (q := 6) rfl (by omega) (by omega) rfl rfl (fun j => rfl) ?_
  refine cn_putr (l := [59, 60, 61, 0, 0, 0, 0, 0]) rfl rfl (by decide) (by decide) (Nat.le_of_ble_eq_true rfl) rfl ?_
  refine ks_aload_n rfl rfl ?_
  refine ks_bipush rfl ?_
  refine cn_newarray (n' := 63) (q := 6) rfl (by omega) (by omega) rfl rfl (fun j => rfl) ?_
  refine cn_putr (l := [59, 60, 61, 62, 0, 0, 0, 0]) rfl rfl (by decide) (by decide) (Nat.le_of_ble_eq_true rfl) rfl ?_
  refine ks_aload_n rfl rfl ?_
  refine ks_iconst rfl ?_
  refine cn_newarray (n' := 64) (q := 4) rfl (by omega) (by omega) rfl rfl (fun j => rfl) ?_
  refine cn_putr (l := [59, 60, 61, 62, 63, 0, 0, 0]) rfl rfl (by decide) (by decide) (Nat.le_of_ble_eq_true rfl) rfl ?_
  refine ks_aload_n rfl rfl ?_
  refine ks_iconst rfl ?_
  refine cn_newarray (n' := 65) (q := 4) rfl (by omega) (by omega) rfl rfl (fun j => rfl) ?_
  refine cn_putr (l := [59, 60, 61, 62, 63, 64, 0, 0]) rfl rfl (by decide) (by decide) (Nat.le_of_ble_eq_true rfl) rfl ?_
  refine ks_aload_n rfl rfl ?_
  refine ks_iconst rfl ?_
  refine cn_newarray (n' := 66) (q := 4) rfl (by omega) (by omega) rfl rfl (fun j => rfl) ?_
  refine cn_putr (l := [59, 60, 61, 62, 63, 64, 65, 0]) rfl rfl (by decide) (by decide) (Nat.le_of_ble_eq_true rfl) rfl ?_
  refine ks_aload_n rfl rfl ?_
  refine ks_iconst rfl ?_
  refine cn_newarray (n' := 67) (q := 4) rfl (by omega) (by omega) rfl rfl (fun j => rfl) ?_
  refine cn_putr (l := [59, 60, 61, 62, 63, 64, 65, 66]) rfl rfl (by decide) (by decide) (Nat.le_of_ble_eq_true rfl) rfl ?_
  refine ks_return rfl ?_
  show kx_wx _ _ _ _ _ _ _ _
  refine cn_aastore (l := [58, 0]) (q := 2) rfl (Or.inr ⟨rfl, rfl⟩) (by omega) rfl (by omega) (by decide) (Nat.le_of_ble_eq_true rfl) rfl ?_
  refine cn_iinc_1 (y := 1) rfl rfl rfl ?_
  refine ks_goto rfl ?_
  refine ks_iload_n rfl rfl ?_
  refine ks_iconst rfl ?_
  refine ks_icmp_ge rfl ⟨by omega, by omega⟩ ⟨by omega, by omega⟩ (fun c => ?_) (fun c => absurd c (by omega))
  refine ks_aload_n rfl rfl ?_
  refine ks_getr (b := 57) rfl rfl rfl rfl (by decide) ?_
  refine ks_iload_n rfl rfl ?_
  refine cn_new (k := 8) (n' := 68) rfl rfl (fun j => rfl) ?_
  refine ks_dupR rfl ?_
  refine ks_callp_1 rfl (Nat.le_of_ble_eq_true rfl) ?_
  refine ke_start (tb := kt_Town_init) (ls := [some (kR 67)]) rfl rfl ?_
  refine ks_aload_n rfl rfl ?_
  refine ks_objinit rfl (Nat.le_of_ble_eq_true rfl) ?_
  refine ks_aload_n rfl rfl ?_
  refine ks_bipush rfl ?_
  refine cn_newarray (n' := 69) (q := 6) rfl (by omega) (by omega) rfl rfl (fun j => rfl) ?_
  refine cn_putr (l := [68, 0, 0, 0, 0, 0, 0, 0]) rfl rfl (by decide) (by decide) (Nat.le_of_ble_eq_true rfl) rfl ?_
  refine ks_aload_n rfl rfl ?_
  refine ks_bipush rfl ?_
  refine cn_newarray (n' := 70) (q := 6) rfl (by omega) (by omega) rfl rfl (fun j => rfl) ?_
  refine cn_putr (l := [68, 69, 0, 0, 0, 0, 0, 0]) rfl rfl (by decide) (by decide) (Nat.le_of_ble_eq_true rfl) rfl ?_
  refine ks_aload_n rfl rfl ?_
  refine ks_bipush rfl ?_
  refine cn_newarray (n' := 71) (q := 6) rfl (by omega) (by omega) rfl rfl (fun j => rfl) ?_
  refine cn_putr (l := [68, 69, 70, 0, 0, 0, 0, 0]) rfl rfl (by decide) (by decide) (Nat.le_of_ble_eq_true rfl) rfl ?_
  refine ks_aload_n rfl rfl ?_
  refine ks_bipush rfl ?_
  refine cn_newarray (n' := 72) (q := 6) rfl (by omega) (by omega) rfl rfl (fun j => rfl) ?_
  refine cn_putr (l := [68, 69, 70, 71, 0, 0, 0, 0]) rfl rfl (by decide) (by decide) (Nat.le_of_ble_eq_true rfl) rfl ?_
  refine ks_aload_n rfl rfl ?_
  refine ks_iconst rfl ?_
  refine cn_newarray (n' := 73) (q := 4) rfl (by omega) (by omega) rfl rfl (fun j => rfl) ?_
  refine cn_putr (l := [68, 69, 70, 71, 72, 0, 0, 0]) rfl rfl (by decide) (by decide) (Nat.le_of_ble_eq_true rfl) rfl ?_
  refine ks_aload_n rfl rfl ?_
  refine ks_iconst rfl ?_
  refine cn_newarray (n' := 74) (q := 4) rfl (by omega) (by omega) rfl rfl (fun j => rfl) ?_
  refine cn_putr (l := [68, 69, 70, 71, 72, 73, 0, 0]) rfl rfl (by decide) (by decide) (Nat.le_of_ble_eq_true rfl) rfl ?_
  refine ks_aload_n rfl rfl ?_
  refine ks_iconst rfl ?_
  refine cn_newarray (n' := 75) (q := 4) rfl (by omega) (by omega) rfl rfl (fun j => rfl) ?_
  refine cn_putr (l := [68, 69, 70, 71, 72, 73, 74, 0]) rfl rfl (by decide) (by decide) (Nat.le_of_ble_eq_true rfl) rfl ?_
  refine ks_aload_n rfl rfl ?_
  refine ks_iconst rfl ?_
  refine cn_newarray (n' := 76) (q := 4) rfl (by omega) (by omega) rfl rfl (fun j => rfl) ?_
  refine cn_putr (l := [68, 69, 70, 71, 72, 73, 74, 75]) rfl rfl (by decide) (by decide) (Nat.le_of_ble_eq_true rfl) rfl ?_
  refine ks_return rfl ?_
  show kx_wx _ _ _ _ _ _ _ _
  refine cn_aastore (l := [58, 67]) (q := 2) rfl (Or.inr ⟨rfl, rfl⟩) (by omega) rfl (by omega) (by decide) (Nat.le_of_ble_eq_true rfl) rfl ?_
  refine cn_iinc_1 (y := 2) rfl rfl rfl ?_
  refine ks_goto rfl ?_
  refine ks_iload_n rfl rfl ?_
  refine ks_iconst rfl ?_
  refine ks_icmp_ge rfl ⟨by omega, by omega⟩ ⟨by omega, by omega⟩ (fun c => absurd c (by omega)) (fun c => ?_)
  refine ks_aload_n rfl rfl ?_
  refine ks_iconst rfl ?_
  refine cn_newarray (n' := 77) (q := 2) rfl (by omega) (by omega) rfl rfl (fun j => rfl) ?_
  refine cn_putr (l := [2, 19, 21, 30, 39, 44, 55, 57, 76]) rfl rfl (by decide) (by decide) (Nat.le_of_ble_eq_true rfl) rfl ?_
  refine ks_aload_n rfl rfl ?_
  refine ks_iconst rfl ?_
  refine cn_put0 rfl rfl rfl ?_
  refine ks_aload_n rfl rfl ?_
  refine ks_iconst rfl ?_
  refine cn_put0 rfl rfl rfl ?_
  refine ks_return rfl ?_
  refine cn_eq (G' := (shX L, 77, RFl rlX)) (μ' := muX xs) ?_ rfl t
  refine Prod.ext (funext fun c => ?_) (Prod.ext rfl (congrArg RFl (funext fun c => ?_)))
  · by_cases hc : c < 107
    · match c, hc with
      | 0, _ => rfl
      | 1, _ => rfl
      | 2, _ => rfl
      | 3, _ => rfl
      | 4, _ => rfl
      | 5, _ => rfl
      | 6, _ => rfl
      | 7, _ => rfl
      | 8, _ => rfl
      | 9, _ => rfl
      | 10, _ => rfl
      | 11, _ => rfl
      | 12, _ => rfl
      | 13, _ => rfl
      | 14, _ => rfl
      | 15, _ => rfl
      | 16, _ => rfl
      | 17, _ => rfl
      | 18, _ => rfl
      | 19, _ => rfl
      | 20, _ => rfl
      | 21, _ => rfl
      | 22, _ => rfl
      | 23, _ => rfl
      | 24, _ => rfl
      | 25, _ => rfl
      | 26, _ => rfl
      | 27, _ => rfl
      | 28, _ => rfl
      | 29, _ => rfl
      | 30, _ => rfl
      | 31, _ => rfl
      | 32, _ => rfl
      | 33, _ => rfl
      | 34, _ => rfl
      | 35, _ => rfl
      | 36, _ => rfl
      | 37, _ => rfl
      | 38, _ => rfl
      | 39, _ => rfl
      | 40, _ => rfl
      | 41, _ => rfl
      | 42, _ => rfl
      | 43, _ => rfl
      | 44, _ => rfl
      | 45, _ => rfl
      | 46, _ => rfl
      | 47, _ => rfl
      | 48, _ => rfl
      | 49, _ => rfl
      | 50, _ => rfl
      | 51, _ => rfl
      | 52, _ => rfl
      | 53, _ => rfl
      | 54, _ => rfl
      | 55, _ => rfl
      | 56, _ => rfl
      | 57, _ => rfl
      | 58, _ => rfl
      | 59, _ => rfl
      | 60, _ => rfl
      | 61, _ => rfl
      | 62, _ => rfl
      | 63, _ => rfl
      | 64, _ => rfl
      | 65, _ => rfl
      | 66, _ => rfl
      | 67, _ => rfl
      | 68, _ => rfl
      | 69, _ => rfl
      | 70, _ => rfl
      | 71, _ => rfl
      | 72, _ => rfl
      | 73, _ => rfl
      | 74, _ => rfl
      | 75, _ => rfl
      | 76, _ => rfl
      | 77, _ => rfl
      | 78, _ => rfl
      | 79, _ => rfl
      | 80, _ => rfl
      | 81, _ => rfl
      | 82, _ => rfl
      | 83, _ => rfl
      | 84, _ => rfl
      | 85, _ => rfl
      | 86, _ => rfl
      | 87, _ => rfl
      | 88, _ => rfl
      | 89, _ => rfl
      | 90, _ => rfl
      | 91, _ => rfl
      | 92, _ => rfl
      | 93, _ => rfl
      | 94, _ => rfl
      | 95, _ => rfl
      | 96, _ => rfl
      | 97, _ => rfl
      | 98, _ => rfl
      | 99, _ => rfl
      | 100, _ => rfl
      | 101, _ => rfl
      | 102, _ => rfl
      | 103, _ => rfl
      | 104, _ => rfl
      | 105, _ => rfl
      | 106, _ => rfl
      | k + 107, h => exact absurd h (by omega)
    · simp (disch := omega) only [kx_shp_ne]
      unfold shX
      rw [if_neg (by omega)]
  · by_cases hc : c < 107
    · match c, hc with
      | 0, _ => rfl
      | 1, _ => rfl
      | 2, _ => rfl
      | 3, _ => rfl
      | 4, _ => rfl
      | 5, _ => rfl
      | 6, _ => rfl
      | 7, _ => rfl
      | 8, _ => rfl
      | 9, _ => rfl
      | 10, _ => rfl
      | 11, _ => rfl
      | 12, _ => rfl
      | 13, _ => rfl
      | 14, _ => rfl
      | 15, _ => rfl
      | 16, _ => rfl
      | 17, _ => rfl
      | 18, _ => rfl
      | 19, _ => rfl
      | 20, _ => rfl
      | 21, _ => rfl
      | 22, _ => rfl
      | 23, _ => rfl
      | 24, _ => rfl
      | 25, _ => rfl
      | 26, _ => rfl
      | 27, _ => rfl
      | 28, _ => rfl
      | 29, _ => rfl
      | 30, _ => rfl
      | 31, _ => rfl
      | 32, _ => rfl
      | 33, _ => rfl
      | 34, _ => rfl
      | 35, _ => rfl
      | 36, _ => rfl
      | 37, _ => rfl
      | 38, _ => rfl
      | 39, _ => rfl
      | 40, _ => rfl
      | 41, _ => rfl
      | 42, _ => rfl
      | 43, _ => rfl
      | 44, _ => rfl
      | 45, _ => rfl
      | 46, _ => rfl
      | 47, _ => rfl
      | 48, _ => rfl
      | 49, _ => rfl
      | 50, _ => rfl
      | 51, _ => rfl
      | 52, _ => rfl
      | 53, _ => rfl
      | 54, _ => rfl
      | 55, _ => rfl
      | 56, _ => rfl
      | 57, _ => rfl
      | 58, _ => rfl
      | 59, _ => rfl
      | 60, _ => rfl
      | 61, _ => rfl
      | 62, _ => rfl
      | 63, _ => rfl
      | 64, _ => rfl
      | 65, _ => rfl
      | 66, _ => rfl
      | 67, _ => rfl
      | 68, _ => rfl
      | 69, _ => rfl
      | 70, _ => rfl
      | 71, _ => rfl
      | 72, _ => rfl
      | 73, _ => rfl
      | 74, _ => rfl
      | 75, _ => rfl
      | 76, _ => rfl
      | 77, _ => rfl
      | 78, _ => rfl
      | 79, _ => rfl
      | 80, _ => rfl
      | 81, _ => rfl
      | 82, _ => rfl
      | 83, _ => rfl
      | 84, _ => rfl
      | 85, _ => rfl
      | 86, _ => rfl
      | 87, _ => rfl
      | 88, _ => rfl
      | 89, _ => rfl
      | 90, _ => rfl
      | 91, _ => rfl
      | 92, _ => rfl
      | 93, _ => rfl
      | 94, _ => rfl
      | 95, _ => rfl
      | 96, _ => rfl
      | 97, _ => rfl
      | 98, _ => rfl
      | 99, _ => rfl
      | 100, _ => rfl
      | 101, _ => rfl
      | 102, _ => rfl
      | 103, _ => rfl
      | 104, _ => rfl
      | 105, _ => rfl
      | 106, _ => rfl
      | k + 107, h => exact absurd h (by omega)
    · simp (disch := omega) only [rll_ne]
      unfold rlX
      rw [if_neg (by omega)]
set_option maxRecDepth 4000 in
set_option maxHeartbeats 4000000 in
theorem r_Minit {d L : Nat} {xs : Nat → Int32} {Q : Option kx_V → kx_G → kx_M → Prop} (t : Q none (kg L) (muM xs)) : kx_cx (ke (d + 1)) 115 [kR 77] (kx_shp (shX L) 77 (1, 7), 78, RFl (rll rlX 77 (List.replicate 24 0))) (muX xs) Q := by
  refine ke_start (tb := kt_M_init) (ls := [some (kR 77), none]) rfl rfl ?_
  refine ks_aload_n rfl rfl ?_
  refine ks_objinit rfl (Nat.le_of_ble_eq_true rfl) ?_
  refine ks_aload_n rfl rfl ?_
  refine ks_bipush rfl ?_
  refine cn_newarray (n' := 79) (q := 8) rfl (by omega) (by omega) rfl rfl (fun j => rfl) ?_
  refine cn_putr (l := [78, 0, 0, 0, 0, 0, 0, 0, 0, 0, 0, 0, 0, 0, 0, 0, 0, 0, 0, 0, 0, 0, 0, 0]) rfl rfl (by decide) (by decide) (Nat.le_of_ble_eq_true rfl) rfl ?_
  refine ks_aload_n rfl rfl ?_
  refine ks_bipush rfl ?_
  refine cn_newarray (n' := 80) (q := 8) rfl (by omega) (by omega) rfl rfl (fun j => rfl) ?_
  refine cn_putr (l := [78, 79, 0, 0, 0, 0, 0, 0, 0, 0, 0, 0, 0, 0, 0, 0, 0, 0, 0, 0, 0, 0, 0, 0]) rfl rfl (by decide) (by decide) (Nat.le_of_ble_eq_true rfl) rfl ?_
  refine ks_aload_n rfl rfl ?_
  refine ks_sipush rfl ?_
  refine cn_newarray (n' := 81) (q := 320) rfl (by omega) (by omega) rfl rfl (fun j => rfl) ?_
  refine cn_putr (l := [78, 79, 80, 0, 0, 0, 0, 0, 0, 0, 0, 0, 0, 0, 0, 0, 0, 0, 0, 0, 0, 0, 0, 0]) rfl rfl (by decide) (by decide) (Nat.le_of_ble_eq_true rfl) rfl ?_
  refine ks_aload_n rfl rfl ?_
  refine ks_bipush rfl ?_
  refine cn_newarray (n' := 82) (q := 46) rfl (by omega) (by omega) rfl rfl (fun j => rfl) ?_
  refine cn_putr (l := [78, 79, 80, 0, 0, 81, 0, 0, 0, 0, 0, 0, 0, 0, 0, 0, 0, 0, 0, 0, 0, 0, 0, 0]) rfl rfl (by decide) (by decide) (Nat.le_of_ble_eq_true rfl) rfl ?_
  refine ks_aload_n rfl rfl ?_
  refine ks_bipush rfl ?_
  refine cn_newarray (n' := 83) (q := 40) rfl (by omega) (by omega) rfl rfl (fun j => rfl) ?_
  refine cn_putr (l := [78, 79, 80, 0, 0, 81, 82, 0, 0, 0, 0, 0, 0, 0, 0, 0, 0, 0, 0, 0, 0, 0, 0, 0]) rfl rfl (by decide) (by decide) (Nat.le_of_ble_eq_true rfl) rfl ?_
  refine ks_aload_n rfl rfl ?_
  refine ks_bipush rfl ?_
  refine cn_newarray (n' := 84) (q := 120) rfl (by omega) (by omega) rfl rfl (fun j => rfl) ?_
  refine cn_putr (l := [78, 79, 80, 0, 0, 81, 82, 83, 0, 0, 0, 0, 0, 0, 0, 0, 0, 0, 0, 0, 0, 0, 0, 0]) rfl rfl (by decide) (by decide) (Nat.le_of_ble_eq_true rfl) rfl ?_
  refine ks_aload_n rfl rfl ?_
  refine ks_bipush rfl ?_
  refine cn_newarray (n' := 85) (q := 46) rfl (by omega) (by omega) rfl rfl (fun j => rfl) ?_
  refine cn_putr (l := [78, 79, 80, 0, 0, 81, 82, 83, 0, 0, 0, 0, 0, 0, 0, 84, 0, 0, 0, 0, 0, 0, 0, 0]) rfl rfl (by decide) (by decide) (Nat.le_of_ble_eq_true rfl) rfl ?_
  refine ks_aload_n rfl rfl ?_
  refine ks_sipush rfl ?_
  refine cn_newarray (n' := 86) (q := 1104) rfl (by omega) (by omega) rfl rfl (fun j => rfl) ?_
  refine cn_putr (l := [78, 79, 80, 0, 0, 81, 82, 83, 0, 0, 0, 0, 0, 0, 0, 84, 85, 0, 0, 0, 0, 0, 0, 0]) rfl rfl (by decide) (by decide) (Nat.le_of_ble_eq_true rfl) rfl ?_
  refine ks_aload_n rfl rfl ?_
  refine ks_bipush rfl ?_
  refine cn_newarray (n' := 87) (q := 46) rfl (by omega) (by omega) rfl rfl (fun j => rfl) ?_
  refine cn_putr (l := [78, 79, 80, 0, 0, 81, 82, 83, 0, 0, 0, 0, 0, 0, 0, 84, 85, 0, 86, 0, 0, 0, 0, 0]) rfl rfl (by decide) (by decide) (Nat.le_of_ble_eq_true rfl) rfl ?_
  refine ks_aload_n rfl rfl ?_
  refine ks_sipush rfl ?_
  refine cn_newarray (n' := 88) (q := 366) rfl (by omega) (by omega) rfl rfl (fun j => rfl) ?_
  refine cn_putr (l := [78, 79, 80, 0, 0, 81, 82, 83, 0, 0, 0, 0, 0, 0, 0, 84, 85, 0, 86, 87, 0, 0, 0, 0]) rfl rfl (by decide) (by decide) (Nat.le_of_ble_eq_true rfl) rfl ?_
  refine ks_aload_n rfl rfl ?_
  refine ks_iconst rfl ?_
  refine cn_newarray (n' := 89) (q := 2) rfl (by omega) (by omega) rfl rfl (fun j => rfl) ?_
  refine cn_putr (l := [78, 79, 80, 0, 0, 81, 82, 83, 0, 0, 0, 0, 0, 0, 0, 84, 85, 0, 86, 87, 88, 0, 0, 0]) rfl rfl (by decide) (by decide) (Nat.le_of_ble_eq_true rfl) rfl ?_
  refine ks_aload_n rfl rfl ?_
  refine ks_bipush rfl ?_
  refine cn_newarray (n' := 90) (q := 92) rfl (by omega) (by omega) rfl rfl (fun j => rfl) ?_
  refine cn_putr (l := [78, 79, 80, 0, 0, 81, 82, 83, 0, 0, 0, 0, 0, 0, 0, 84, 85, 0, 86, 87, 88, 89, 0, 0]) rfl rfl (by decide) (by decide) (Nat.le_of_ble_eq_true rfl) rfl ?_
  refine ks_aload_n rfl rfl ?_
  refine ks_bipush rfl ?_
  refine cn_newarray (n' := 91) (q := 16) rfl (by omega) (by omega) rfl rfl (fun j => rfl) ?_
  refine cn_putr (l := [78, 79, 80, 0, 0, 81, 82, 83, 0, 0, 0, 0, 0, 0, 0, 84, 85, 0, 86, 87, 88, 89, 90, 0]) rfl rfl (by decide) (by decide) (Nat.le_of_ble_eq_true rfl) rfl ?_
  refine ks_iconst rfl ?_
  refine ks_istore_n_1 rfl rfl ?_
  refine ks_iload_n rfl rfl ?_
  refine ks_bipush rfl ?_
  refine ks_icmp_ge rfl ⟨by omega, by omega⟩ ⟨by omega, by omega⟩ (fun c => ?_) (fun c => absurd c (by omega))
  refine ks_aload_n rfl rfl ?_
  refine ks_getr (b := 79) rfl rfl rfl rfl (by decide) ?_
  refine ks_iload_n rfl rfl ?_
  refine ks_iconst rfl ?_
  refine ks_iastore rfl rfl (by omega) (by omega) ?_
  refine cn_iinc_1 (y := 1) rfl rfl rfl ?_
  refine ks_goto rfl ?_
  refine ks_iload_n rfl rfl ?_
  refine ks_bipush rfl ?_
  refine ks_icmp_ge rfl ⟨by omega, by omega⟩ ⟨by omega, by omega⟩ (fun c => ?_) (fun c => absurd c (by omega))
  refine ks_aload_n rfl rfl ?_
  refine ks_getr (b := 79) rfl rfl rfl rfl (by decide) ?_
  refine ks_iload_n rfl rfl ?_
  refine ks_iconst rfl ?_
  refine ks_iastore rfl rfl (by omega) (by omega) ?_
  refine cn_iinc_1 (y := 2) rfl rfl rfl ?_
  refine ks_goto rfl ?_
  refine ks_iload_n rfl rfl ?_
  refine ks_bipush rfl ?_
  refine ks_icmp_ge rfl ⟨by omega, by omega⟩ ⟨by omega, by omega⟩ (fun c => ?_) (fun c => absurd c (by omega))
  refine ks_aload_n rfl rfl ?_
  refine ks_getr (b := 79) rfl rfl rfl rfl (by decide) ?_
  refine ks_iload_n rfl rfl ?_
  refine ks_iconst rfl ?_
  refine ks_iastore rfl rfl (by omega) (by omega) ?_
  refine cn_iinc_1 (y := 3) rfl rfl rfl ?_
  refine ks_goto rfl ?_
  refine ks_iload_n rfl rfl ?_
  refine ks_bipush rfl ?_
  refine ks_icmp_ge rfl ⟨by omega, by omega⟩ ⟨by omega, by omega⟩ (fun c => ?_) (fun c => absurd c (by omega))
  refine ks_aload_n rfl rfl ?_
  refine ks_getr (b := 79) rfl rfl rfl rfl (by decide) ?_
  refine ks_iload_n rfl rfl ?_
  refine ks_iconst rfl ?_
  refine ks_iastore rfl rfl (by omega) (by omega) ?_
  refine cn_iinc_1 (y := 4) rfl rfl rfl ?_
  refine ks_goto rfl ?_
  refine ks_iload_n rfl rfl ?_
  refine ks_bipush rfl ?_
  refine ks_icmp_ge rfl ⟨by omega, by omega⟩ ⟨by omega, by omega⟩ (fun c => ?_) (fun c => absurd c (by omega))
  refine ks_aload_n rfl rfl ?_
  refine ks_getr (b := 79) rfl rfl rfl rfl (by decide) ?_
  refine ks_iload_n rfl rfl ?_
  refine ks_iconst rfl ?_
  refine ks_iastore rfl rfl (by omega) (by omega) ?_
  refine cn_iinc_1 (y := 5) rfl rfl rfl ?_
  refine ks_goto rfl ?_
  refine ks_iload_n rfl rfl ?_
  refine ks_bipush rfl ?_
  refine ks_icmp_ge rfl ⟨by omega, by omega⟩ ⟨by omega, by omega⟩ (fun c => ?_) (fun c => absurd c (by omega))
  refine ks_aload_n rfl rfl ?_
  refine ks_getr (b := 79) rfl rfl rfl rfl (by decide) ?_
  refine ks_iload_n rfl rfl ?_
  refine ks_iconst rfl ?_
  refine ks_iastore rfl rfl (by omega) (by omega) ?_
  refine cn_iinc_1 (y := 6) rfl rfl rfl ?_
  refine ks_goto rfl ?_
  refine ks_iload_n rfl rfl ?_
  refine ks_bipush rfl ?_
  refine ks_icmp_ge rfl ⟨by omega, by omega⟩ ⟨by omega, by omega⟩ (fun c => ?_) (fun c => absurd c (by omega))
  refine ks_aload_n rfl rfl ?_
  refine ks_getr (b := 79) rfl rfl rfl rfl (by decide) ?_
  refine ks_iload_n rfl rfl ?_
  refine ks_iconst rfl ?_
  refine ks_iastore rfl rfl (by omega) (by omega) ?_
  refine cn_iinc_1 (y := 7) rfl rfl rfl ?_
  refine ks_goto rfl ?_
  refine ks_iload_n rfl rfl ?_
  refine ks_bipush rfl ?_
  refine ks_icmp_ge rfl ⟨by omega, by omega⟩ ⟨by omega, by omega⟩ (fun c => ?_) (fun c => absurd c (by omega))
  refine ks_aload_n rfl rfl ?_
  refine ks_getr (b := 79) rfl rfl rfl rfl (by decide) ?_
  refine ks_iload_n rfl rfl ?_
  refine ks_iconst rfl ?_
  refine ks_iastore rfl rfl (by omega) (by omega) ?_
  refine cn_iinc_1 (y := 8) rfl rfl rfl ?_
  refine ks_goto rfl ?_
  refine ks_iload_n rfl rfl ?_
  refine ks_bipush rfl ?_
  refine ks_icmp_ge rfl ⟨by omega, by omega⟩ ⟨by omega, by omega⟩ (fun c => absurd c (by omega)) (fun c => ?_)
  refine ks_return rfl ?_
  refine cn_eq (G' := kg L) (μ' := muM xs) ?_ rfl t
  refine Prod.ext (funext fun c => ?_) (Prod.ext rfl ?_)
  · show _ = kg_sh L c
    by_cases hc : c < 107
    · match c, hc with
      | 0, _ => rfl
      | 1, _ => rfl
      | 2, _ => rfl
      | 3, _ => rfl
      | 4, _ => rfl
      | 5, _ => rfl
      | 6, _ => rfl
      | 7, _ => rfl
      | 8, _ => rfl
      | 9, _ => rfl
      | 10, _ => rfl
      | 11, _ => rfl
      | 12, _ => rfl
      | 13, _ => rfl
      | 14, _ => rfl
      | 15, _ => rfl
      | 16, _ => rfl
      | 17, _ => rfl
      | 18, _ => rfl
      | 19, _ => rfl
      | 20, _ => rfl
      | 21, _ => rfl
      | 22, _ => rfl
      | 23, _ => rfl
      | 24, _ => rfl
      | 25, _ => rfl
      | 26, _ => rfl
      | 27, _ => rfl
      | 28, _ => rfl
      | 29, _ => rfl
      | 30, _ => rfl
      | 31, _ => rfl
      | 32, _ => rfl
      | 33, _ => rfl
      | 34, _ => rfl
      | 35, _ => rfl
      | 36, _ => rfl
      | 37, _ => rfl
      | 38, _ => rfl
      | 39, _ => rfl
      | 40, _ => rfl
      | 41, _ => rfl
      | 42, _ => rfl
      | 43, _ => rfl
      | 44, _ => rfl
      | 45, _ => rfl
      | 46, _ => rfl
      | 47, _ => rfl
      | 48, _ => rfl
      | 49, _ => rfl
      | 50, _ => rfl
      | 51, _ => rfl
      | 52, _ => rfl
      | 53, _ => rfl
      | 54, _ => rfl
      | 55, _ => rfl
      | 56, _ => rfl
      | 57, _ => rfl
      | 58, _ => rfl
      | 59, _ => rfl
      | 60, _ => rfl
      | 61, _ => rfl
      | 62, _ => rfl
      | 63, _ => rfl
      | 64, _ => rfl
      | 65, _ => rfl
      | 66, _ => rfl
      | 67, _ => rfl
      | 68, _ => rfl
      | 69, _ => rfl
      | 70, _ => rfl
      | 71, _ => rfl
      | 72, _ => rfl
      | 73, _ => rfl
      | 74, _ => rfl
      | 75, _ => rfl
      | 76, _ => rfl
      | 77, _ => rfl
      | 78, _ => rfl
      | 79, _ => rfl
      | 80, _ => rfl
      | 81, _ => rfl
      | 82, _ => rfl
      | 83, _ => rfl
      | 84, _ => rfl
      | 85, _ => rfl
      | 86, _ => rfl
      | 87, _ => rfl
      | 88, _ => rfl
      | 89, _ => rfl
      | 90, _ => rfl
      | 91, _ => rfl
      | 92, _ => rfl
      | 93, _ => rfl
      | 94, _ => rfl
      | 95, _ => rfl
      | 96, _ => rfl
      | 97, _ => rfl
      | 98, _ => rfl
      | 99, _ => rfl
      | 100, _ => rfl
      | 101, _ => rfl
      | 102, _ => rfl
      | 103, _ => rfl
      | 104, _ => rfl
      | 105, _ => rfl
      | 106, _ => rfl
      | k + 107, h => exact absurd h (by omega)
    · simp (disch := omega) only [kx_shp_ne]
      unfold shX
      rw [if_neg (by omega), kg_ish_hi (by omega), kg_sh_hi (by omega)]
  · show RFl _ = RFl kg_rl
    refine congrArg RFl (funext fun c => ?_)
    by_cases hc : c < 107
    · match c, hc with
      | 0, _ => rfl
      | 1, _ => rfl
      | 2, _ => rfl
      | 3, _ => rfl
      | 4, _ => rfl
      | 5, _ => rfl
      | 6, _ => rfl
      | 7, _ => rfl
      | 8, _ => rfl
      | 9, _ => rfl
      | 10, _ => rfl
      | 11, _ => rfl
      | 12, _ => rfl
      | 13, _ => rfl
      | 14, _ => rfl
      | 15, _ => rfl
      | 16, _ => rfl
      | 17, _ => rfl
      | 18, _ => rfl
      | 19, _ => rfl
      | 20, _ => rfl
      | 21, _ => rfl
      | 22, _ => rfl
      | 23, _ => rfl
      | 24, _ => rfl
      | 25, _ => rfl
      | 26, _ => rfl
      | 27, _ => rfl
      | 28, _ => rfl
      | 29, _ => rfl
      | 30, _ => rfl
      | 31, _ => rfl
      | 32, _ => rfl
      | 33, _ => rfl
      | 34, _ => rfl
      | 35, _ => rfl
      | 36, _ => rfl
      | 37, _ => rfl
      | 38, _ => rfl
      | 39, _ => rfl
      | 40, _ => rfl
      | 41, _ => rfl
      | 42, _ => rfl
      | 43, _ => rfl
      | 44, _ => rfl
      | 45, _ => rfl
      | 46, _ => rfl
      | 47, _ => rfl
      | 48, _ => rfl
      | 49, _ => rfl
      | 50, _ => rfl
      | 51, _ => rfl
      | 52, _ => rfl
      | 53, _ => rfl
      | 54, _ => rfl
      | 55, _ => rfl
      | 56, _ => rfl
      | 57, _ => rfl
      | 58, _ => rfl
      | 59, _ => rfl
      | 60, _ => rfl
      | 61, _ => rfl
      | 62, _ => rfl
      | 63, _ => rfl
      | 64, _ => rfl
      | 65, _ => rfl
      | 66, _ => rfl
      | 67, _ => rfl
      | 68, _ => rfl
      | 69, _ => rfl
      | 70, _ => rfl
      | 71, _ => rfl
      | 72, _ => rfl
      | 73, _ => rfl
      | 74, _ => rfl
      | 75, _ => rfl
      | 76, _ => rfl
      | 77, _ => rfl
      | 78, _ => rfl
      | 79, _ => rfl
      | 80, _ => rfl
      | 81, _ => rfl
      | 82, _ => rfl
      | 83, _ => rfl
      | 84, _ => rfl
      | 85, _ => rfl
      | 86, _ => rfl
      | 87, _ => rfl
      | 88, _ => rfl
      | 89, _ => rfl
      | 90, _ => rfl
      | 91, _ => rfl
      | 92, _ => rfl
      | 93, _ => rfl
      | 94, _ => rfl
      | 95, _ => rfl
      | 96, _ => rfl
      | 97, _ => rfl
      | 98, _ => rfl
      | 99, _ => rfl
      | 100, _ => rfl
      | 101, _ => rfl
      | 102, _ => rfl
      | 103, _ => rfl
      | 104, _ => rfl
      | 105, _ => rfl
      | 106, _ => rfl
      | k + 107, h => exact absurd h (by omega)
    · simp (disch := omega) only [rll_ne]
      unfold rlX
      rw [if_neg (by omega), kg_rl_hi (by omega)]
