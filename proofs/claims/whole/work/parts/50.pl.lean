/-! the law's run on the small machine, from the empty world -/
section PL
variable {L : Nat} {xs : Nat → Int32} {Q : Option kx_V → kx_G → kx_M → Prop}
set_option maxRecDepth 20000 in
theorem law_run (hL : L ≤ 384) (t : ∀ μ', Q (some (kI 1)) (kg L) μ') : kx_wx (ke 30) kt_LawW Q 0 [some (kR 104), none, none, none] [] (kg_i L) (kg_m xs) := by
  have eG : kg_i L = (kg_ish L, 1, RFl (fun _ => [])) := by
    unfold kg_i
    refine Prod.ext rfl (Prod.ext rfl ?_)
    funext a i
    show (0 : Nat) = if 0 ≤ i then ([] : List Nat).getD i.toNat 0 else 0
    split <;> rfl
  rw [eG]
  refine cn_new (k := 9) (n' := 2) rfl rfl (fun j => rfl) ?_
  refine ks_dupR rfl ?_
  refine ks_callp_1 rfl (Nat.le_of_ble_eq_true rfl) ?_
  refine r_Xinit ?_
  show kx_wx _ _ _ _ _ _ _ _
  refine ks_astore_n_1 rfl rfl ?_
  refine cn_new (k := 24) (n' := 78) rfl rfl (fun j => rfl) ?_
  refine ks_dupR rfl ?_
  refine ks_callp_1 rfl (Nat.le_of_ble_eq_true rfl) ?_
  refine r_Minit ?_
  show kx_wx _ _ _ _ _ _ _ _
  refine ks_astore_n_2 rfl rfl ?_
  refine ks_iconst rfl ?_
  refine ks_istore_n_3 rfl rfl ?_
  have hsc : ∀ j, kx_in (kg_m xs 104 j) := fun j => by
    have h1 := Int32.le_toInt (xs j.toNat)
    have h2 := Int32.toInt_lt (xs j.toNat)
    show kx_in ((xs j.toNat).toInt)
    exact ⟨by omega, by omega⟩
  exact law_loop hL hsc t (L + 1) 0 (muM xs) (by omega) (by omega) (by omega) (Inv_0 xs)
end PL
