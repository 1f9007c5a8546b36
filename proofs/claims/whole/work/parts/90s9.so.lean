section SO
variable {p : Program} {l : Launch} {e : Env} {R : Room} {s : State} {m : MethodId} {args : Array Value} {below : List Frame} {meth : Method} {c : Code} {cc : ByteArray} {nL L n0 s0 : Nat} {own : String} {Z : sx_Z} {D : va_G} {μ0 : kx_M} {Qf : State → Prop} {pc : Nat} {ls : kx_L} {st : List kx_V} {G : kx_G} {μ : kx_M}
theorem sx_rel_new {Z : sx_Z} {D : va_G} {L : Nat} {μ0 : kx_M} {G : kx_G} {μ : kx_M} {H H1 : Heap} {q : Nat × Nat} (hR : sx_rel Z D L μ0 G μ H) (h9 : G.2.1 + 1 ≤ 91) (hk : 1 ≤ q.1 ∧ q.1 ≤ 6) (hc : q.1 = 1 → q.2 < 8) (hl : 2 ≤ q.1 → q.2 ≤ 5000) (hz : H1.size = H.size + 1) (ho : ∀ i, i < H.size → H1[i]? = H[i]?) (hat : va_at D sx_cls (Z.1 + G.2.1, sx_E Z (kx_new G q) (kx_zero μ G.2.1) G.2.1) H1) : sx_rel Z D L μ0 (kx_new G q) (kx_zero μ G.2.1) H1 := by
  obtain ⟨w, z, hP, m⟩ := hR
  have hz0 := z (by omega)
  refine ⟨sx_wf_new w (by omega) hk hc hl, fun _ => by rw [hz, hz0]; rfl, ?_, fun k hk => ?_⟩
  · rw [sx_ws_push q w.1]
    refine va_P.app (hP.kept (fun k x hx => ho x.1 ((hP k x hx).lt))) (fun k x hx => ?_)
    have h1 : k < 1 := (List.getElem?_eq_some_iff.mp hx).1
    have h0 : k = 0 := by omega
    subst h0
    cases hx
    exact hat
  · rw [← m k hk]
    funext j
    simp only [kx_zero]
    rw [if_neg (by omega)]
theorem sx_S_new {A : Nat → Prop} {H0 H H1 : Heap} {locs : List Loc} (hS : va_S A H0 H locs) (hz : H1.size = H.size + 1) (ho : ∀ i, i < H.size → H1[i]? = H[i]?) : va_S A H0 H1 locs :=
  ⟨by have := hS.1; omega, fun q h1 h2 => (ho q (Nat.lt_of_lt_of_le h1 hS.1)).trans (hS.2.1 q h1 h2), hS.2.2⟩
theorem sx_new_sh (G : kx_G) (q : Nat × Nat) : (kx_new G q).1 G.2.1 = q := by simp [kx_new, kx_shp]
theorem sx_new_rf (G : kx_G) (q : Nat × Nat) (j : Int) : (kx_new G q).2.2 G.2.1 j = 0 := by simp [kx_new, kx_zeror]
theorem sx_new_mu (G : kx_G) (μ : kx_M) (j : Int) : kx_zero μ G.2.1 G.2.1 j = 0 := by simp [kx_zero]
theorem si_newa2 {n : Int} (C : sx_C p s m args c cc nL own Z D L μ0) (hd : decode cc pc = .ok (.newarray .int, 2)) (hw : Jvm.Cond.arrayClass .int ∈ sx_tb) (h0 : 0 ≤ n) (h1 : n ≤ 5000) (h9 : G.2.1 + 1 ≤ 91) (hc : G.2.1 + 1 - n0 ≤ R.cells) (hsl : sx_sl (kx_new G (2, n.toNat)) - s0 ≤ R.slots) (h : sx_at p l e R s m args below meth c nL Z D L μ0 n0 s0 Qf (pc + 2) ls (kR G.2.1 :: st) (kx_new G (2, n.toNat)) (kx_zero μ G.2.1)) : sx_at p l e R s m args below meth c nL Z D L μ0 n0 s0 Qf pc ls (kI n :: st) G μ := by
  intro H locs lsA hR hS hl hn hs
  obtain ⟨hx, hb, hml, hown, hts, hE⟩ := C
  have hK := hE.1
  change W p l e R s m args below meth c H locs _ _ Qf (F0 m pc lsA (.int (Int32.ofInt n) :: st.map (sx_c Z)))
  have hz0 := hR.2.1 (by omega)
  have e1 : G.2.1 - n0 + 1 = (kx_new G (2, n.toNat)).2.1 - n0 := by show _ = G.2.1 + 1 - n0; omega
  have e2 : sx_sl G - s0 + n.toNat = sx_sl (kx_new G (2, n.toNat)) - s0 := by rw [sx_sl_push _ hR.1.1]; show _ = sx_sl G + n.toNat - s0; omega
  refine va_newaK (atype := .int) (N := n.toNat) (h := Z.1 + G.2.1) hx hb (hts _ hw) (g := F0 m pc lsA (.int (Int32.ofInt n) :: st.map (sx_c Z))) rfl hd rfl ?_ (sx_cl h0 (by omega)) ?_ (by rw [e1]; exact hc) (by rw [e2]; exact hsl) hz0 (fun H1 cA g1 g2 g3 g4 g5 => ?_)
  · rw [← sx_zero, sx_lt ⟨by omega, by omega⟩ ⟨by omega, by omega⟩]; omega
  · have : componentBytes (newarray.typeOf .int) ≤ 8 := by decide
    exact Nat.le_trans (Nat.mul_le_mul_left _ this) (by omega)
  have hcA : cA = Z.2.2 2 := Option.some.inj (g5.symm.trans (hK.2 0 _ rfl).2)
  subst hcA
  rw [e1, e2]
  have had : Z.1 + G.2.1 = sx_ad Z G.2.1 := by unfold sx_ad; rw [if_pos (by omega)]
  have g := h H1 locs lsA (sx_rel_new hR h9 ⟨Nat.le_of_ble_eq_true rfl, Nat.le_of_ble_eq_true rfl⟩ (fun q => by cases q) (fun _ => by show n.toNat ≤ 5000; omega) (by rw [g2, hz0]) (fun i hi => g3 i (by omega)) ?_) (sx_S_new hS (by rw [g2, hz0]) (fun i hi => g3 i (by omega))) hl (by show n0 ≤ G.2.1 + 1; omega) (by rw [sx_sl_push _ hR.1.1]; omega)
  · rw [had]
    exact g
  · have hEn : sx_E Z (kx_new G (2, n.toNat)) (kx_zero μ G.2.1) G.2.1 = .inl (Z.2.2 2, n.toNat, .inl (fun j => Int32.ofInt 0)) := by simp only [sx_E, sx_new_sh, sx_new_mu]
    rw [hEn]
    show H1[Z.1 + G.2.1]? = some (vp_cell _ _)
    rw [g1]
    rfl
theorem si_newa3 {n : Int} (C : sx_C p s m args c cc nL own Z D L μ0) (hd : decode cc pc = .ok (.newarray .long, 2)) (hw : Jvm.Cond.arrayClass .long ∈ sx_tb) (h0 : 0 ≤ n) (h1 : n ≤ 5000) (h9 : G.2.1 + 1 ≤ 91) (hc : G.2.1 + 1 - n0 ≤ R.cells) (hsl : sx_sl (kx_new G (3, n.toNat)) - s0 ≤ R.slots) (h : sx_at p l e R s m args below meth c nL Z D L μ0 n0 s0 Qf (pc + 2) ls (kR G.2.1 :: st) (kx_new G (3, n.toNat)) (kx_zero μ G.2.1)) : sx_at p l e R s m args below meth c nL Z D L μ0 n0 s0 Qf pc ls (kI n :: st) G μ := by
  intro H locs lsA hR hS hl hn hs
  obtain ⟨hx, hb, hml, hown, hts, hE⟩ := C
  have hK := hE.1
  change W p l e R s m args below meth c H locs _ _ Qf (F0 m pc lsA (.int (Int32.ofInt n) :: st.map (sx_c Z)))
  have hz0 := hR.2.1 (by omega)
  have e1 : G.2.1 - n0 + 1 = (kx_new G (3, n.toNat)).2.1 - n0 := by show _ = G.2.1 + 1 - n0; omega
  have e2 : sx_sl G - s0 + n.toNat = sx_sl (kx_new G (3, n.toNat)) - s0 := by rw [sx_sl_push _ hR.1.1]; show _ = sx_sl G + n.toNat - s0; omega
  refine va_newaK (atype := .long) (N := n.toNat) (h := Z.1 + G.2.1) hx hb (hts _ hw) (g := F0 m pc lsA (.int (Int32.ofInt n) :: st.map (sx_c Z))) rfl hd rfl ?_ (sx_cl h0 (by omega)) ?_ (by rw [e1]; exact hc) (by rw [e2]; exact hsl) hz0 (fun H1 cA g1 g2 g3 g4 g5 => ?_)
  · rw [← sx_zero, sx_lt ⟨by omega, by omega⟩ ⟨by omega, by omega⟩]; omega
  · have : componentBytes (newarray.typeOf .long) ≤ 8 := by decide
    exact Nat.le_trans (Nat.mul_le_mul_left _ this) (by omega)
  have hcA : cA = Z.2.2 3 := Option.some.inj (g5.symm.trans (hK.2 1 _ rfl).2)
  subst hcA
  rw [e1, e2]
  have had : Z.1 + G.2.1 = sx_ad Z G.2.1 := by unfold sx_ad; rw [if_pos (by omega)]
  have g := h H1 locs lsA (sx_rel_new hR h9 ⟨Nat.le_of_ble_eq_true rfl, Nat.le_of_ble_eq_true rfl⟩ (fun q => by cases q) (fun _ => by show n.toNat ≤ 5000; omega) (by rw [g2, hz0]) (fun i hi => g3 i (by omega)) ?_) (sx_S_new hS (by rw [g2, hz0]) (fun i hi => g3 i (by omega))) hl (by show n0 ≤ G.2.1 + 1; omega) (by rw [sx_sl_push _ hR.1.1]; omega)
  · rw [had]
    exact g
  · have hEn : sx_E Z (kx_new G (3, n.toNat)) (kx_zero μ G.2.1) G.2.1 = .inl (Z.2.2 3, n.toNat, .inr (.inl (fun j => Int64.ofInt 0))) := by simp only [sx_E, sx_new_sh, sx_new_mu]
    rw [hEn]
    show H1[Z.1 + G.2.1]? = some (vp_cell _ _)
    rw [g1]
    rfl
theorem si_newa4 {n : Int} (C : sx_C p s m args c cc nL own Z D L μ0) (hd : decode cc pc = .ok (.newarray .boolean, 2)) (hw : Jvm.Cond.arrayClass .boolean ∈ sx_tb) (h0 : 0 ≤ n) (h1 : n ≤ 5000) (h9 : G.2.1 + 1 ≤ 91) (hc : G.2.1 + 1 - n0 ≤ R.cells) (hsl : sx_sl (kx_new G (4, n.toNat)) - s0 ≤ R.slots) (h : sx_at p l e R s m args below meth c nL Z D L μ0 n0 s0 Qf (pc + 2) ls (kR G.2.1 :: st) (kx_new G (4, n.toNat)) (kx_zero μ G.2.1)) : sx_at p l e R s m args below meth c nL Z D L μ0 n0 s0 Qf pc ls (kI n :: st) G μ := by
  intro H locs lsA hR hS hl hn hs
  obtain ⟨hx, hb, hml, hown, hts, hE⟩ := C
  have hK := hE.1
  change W p l e R s m args below meth c H locs _ _ Qf (F0 m pc lsA (.int (Int32.ofInt n) :: st.map (sx_c Z)))
  have hz0 := hR.2.1 (by omega)
  have e1 : G.2.1 - n0 + 1 = (kx_new G (4, n.toNat)).2.1 - n0 := by show _ = G.2.1 + 1 - n0; omega
  have e2 : sx_sl G - s0 + n.toNat = sx_sl (kx_new G (4, n.toNat)) - s0 := by rw [sx_sl_push _ hR.1.1]; show _ = sx_sl G + n.toNat - s0; omega
  refine va_newaK (atype := .boolean) (N := n.toNat) (h := Z.1 + G.2.1) hx hb (hts _ hw) (g := F0 m pc lsA (.int (Int32.ofInt n) :: st.map (sx_c Z))) rfl hd rfl ?_ (sx_cl h0 (by omega)) ?_ (by rw [e1]; exact hc) (by rw [e2]; exact hsl) hz0 (fun H1 cA g1 g2 g3 g4 g5 => ?_)
  · rw [← sx_zero, sx_lt ⟨by omega, by omega⟩ ⟨by omega, by omega⟩]; omega
  · have : componentBytes (newarray.typeOf .boolean) ≤ 8 := by decide
    exact Nat.le_trans (Nat.mul_le_mul_left _ this) (by omega)
  have hcA : cA = Z.2.2 4 := Option.some.inj (g5.symm.trans (hK.2 2 _ rfl).2)
  subst hcA
  rw [e1, e2]
  have had : Z.1 + G.2.1 = sx_ad Z G.2.1 := by unfold sx_ad; rw [if_pos (by omega)]
  have g := h H1 locs lsA (sx_rel_new hR h9 ⟨Nat.le_of_ble_eq_true rfl, Nat.le_of_ble_eq_true rfl⟩ (fun q => by cases q) (fun _ => by show n.toNat ≤ 5000; omega) (by rw [g2, hz0]) (fun i hi => g3 i (by omega)) ?_) (sx_S_new hS (by rw [g2, hz0]) (fun i hi => g3 i (by omega))) hl (by show n0 ≤ G.2.1 + 1; omega) (by rw [sx_sl_push _ hR.1.1]; omega)
  · rw [had]
    exact g
  · have hEn : sx_E Z (kx_new G (4, n.toNat)) (kx_zero μ G.2.1) G.2.1 = .inl (Z.2.2 4, n.toNat, .inl (fun j => Int32.ofInt 0)) := by simp only [sx_E, sx_new_sh, sx_new_mu]
    rw [hEn]
    show H1[Z.1 + G.2.1]? = some (vp_cell _ _)
    rw [g1]
    rfl
theorem si_anewa5 {n : Int} {i : Nat} (C : sx_C p s m args c cc nL own Z D L μ0) (hd : decode cc pc = .ok (.anewarray i, 3)) (hw : Jvm.Cond.classLink own i "HatOrders$Row" ∈ sx_tb) (h0 : 0 ≤ n) (h1 : n ≤ 5000) (h9 : G.2.1 + 1 ≤ 91) (hc : G.2.1 + 1 - n0 ≤ R.cells) (hsl : sx_sl (kx_new G (5, n.toNat)) - s0 ≤ R.slots) (h : sx_at p l e R s m args below meth c nL Z D L μ0 n0 s0 Qf (pc + 3) ls (kR G.2.1 :: st) (kx_new G (5, n.toNat)) (kx_zero μ G.2.1)) : sx_at p l e R s m args below meth c nL Z D L μ0 n0 s0 Qf pc ls (kI n :: st) G μ := by
  intro H locs lsA hR hS hl hn hs
  obtain ⟨hx, hb, hml, hown, hts, hE⟩ := C
  have hK := hE.1
  change W p l e R s m args below meth c H locs _ _ Qf (F0 m pc lsA (.int (Int32.ofInt n) :: st.map (sx_c Z)))
  have hz0 := hR.2.1 (by omega)
  have e1 : G.2.1 - n0 + 1 = (kx_new G (5, n.toNat)).2.1 - n0 := by show _ = G.2.1 + 1 - n0; omega
  have e2 : sx_sl G - s0 + n.toNat = sx_sl (kx_new G (5, n.toNat)) - s0 := by rw [sx_sl_push _ hR.1.1]; show _ = sx_sl G + n.toNat - s0; omega
  have hao : va_AO "HatOrders$Row" s := hE.2.2.2.2.2.2.1
  have hcl := sx_cl h0 (show n < 2147483648 by omega)
  refine W.anew hx hb hown (hts _ hw) (va_AO.use hao) (g := F0 m pc lsA (.int (Int32.ofInt n) :: st.map (sx_c Z))) rfl hd rfl ?_ (by rw [hcl]; omega) (by rw [e1]; exact hc) (by rw [hcl, e2]; exact hsl) (fun cA kA comp f1 f2 f3 f4 => ?_)
  · rw [← sx_zero, sx_lt ⟨by omega, by omega⟩ ⟨by omega, by omega⟩]; omega
  have hcA : cA = Z.2.2 5 := by
    obtain ⟨_, _, _, _, _, g5⟩ := (hK.2 3 _ rfl).2
    exact Option.some.inj (f1.symm.trans g5)
  subst hcA
  rw [hcl, e1, e2]
  have had : H.size = sx_ad Z G.2.1 := by unfold sx_ad; rw [if_pos (by omega), hz0]
  generalize hH1 : H.push ({ cls := Z.2.2 5, slots := Array.replicate n.toNat .null, vm := .none } : Cell) = H1
  have z1 : H1.size = H.size + 1 := by rw [← hH1, Array.size_push]
  have g1 : H1[H.size]? = some (arrV (Z.2.2 5) n.toNat (fun _ => .null)) := by rw [← hH1, Array.getElem?_push_size, ← arrV_new]
  have o1 : ∀ q : Nat, q < H.size → H1[q]? = H[q]? := fun q hq => by rw [← hH1, Array.getElem?_push, if_neg (Nat.ne_of_lt hq)]
  have g := h H1 locs lsA (sx_rel_new hR h9 ⟨Nat.le_of_ble_eq_true rfl, Nat.le_of_ble_eq_true rfl⟩ (fun q => by cases q) (fun _ => by show n.toNat ≤ 5000; omega) z1 o1 ?_) (sx_S_new hS z1 o1) hl (by show n0 ≤ G.2.1 + 1; omega) (by rw [sx_sl_push _ hR.1.1]; omega)
  · rw [had]
    exact g
  · have hEn : sx_E Z (kx_new G (5, n.toNat)) (kx_zero μ G.2.1) G.2.1 = .inl (Z.2.2 5, n.toNat, .inr (.inr (.inr (.inr (fun j => sx_rv Z 0))))) := by simp only [sx_E, sx_new_sh, sx_new_rf]
    rw [hEn]
    show H1[Z.1 + G.2.1]? = some (vp_cell _ _)
    rw [← hz0, g1]
    rfl
theorem si_anewa6 {n : Int} {i : Nat} (C : sx_C p s m args c cc nL own Z D L μ0) (hd : decode cc pc = .ok (.anewarray i, 3)) (hw : Jvm.Cond.classLink own i "HatOrders$Town" ∈ sx_tb) (h0 : 0 ≤ n) (h1 : n ≤ 5000) (h9 : G.2.1 + 1 ≤ 91) (hc : G.2.1 + 1 - n0 ≤ R.cells) (hsl : sx_sl (kx_new G (6, n.toNat)) - s0 ≤ R.slots) (h : sx_at p l e R s m args below meth c nL Z D L μ0 n0 s0 Qf (pc + 3) ls (kR G.2.1 :: st) (kx_new G (6, n.toNat)) (kx_zero μ G.2.1)) : sx_at p l e R s m args below meth c nL Z D L μ0 n0 s0 Qf pc ls (kI n :: st) G μ := by
  intro H locs lsA hR hS hl hn hs
  obtain ⟨hx, hb, hml, hown, hts, hE⟩ := C
  have hK := hE.1
  change W p l e R s m args below meth c H locs _ _ Qf (F0 m pc lsA (.int (Int32.ofInt n) :: st.map (sx_c Z)))
  have hz0 := hR.2.1 (by omega)
  have e1 : G.2.1 - n0 + 1 = (kx_new G (6, n.toNat)).2.1 - n0 := by show _ = G.2.1 + 1 - n0; omega
  have e2 : sx_sl G - s0 + n.toNat = sx_sl (kx_new G (6, n.toNat)) - s0 := by rw [sx_sl_push _ hR.1.1]; show _ = sx_sl G + n.toNat - s0; omega
  have hao : va_AO "HatOrders$Town" s := hE.2.2.2.2.2.2.2.1
  have hcl := sx_cl h0 (show n < 2147483648 by omega)
  refine W.anew hx hb hown (hts _ hw) (va_AO.use hao) (g := F0 m pc lsA (.int (Int32.ofInt n) :: st.map (sx_c Z))) rfl hd rfl ?_ (by rw [hcl]; omega) (by rw [e1]; exact hc) (by rw [hcl, e2]; exact hsl) (fun cA kA comp f1 f2 f3 f4 => ?_)
  · rw [← sx_zero, sx_lt ⟨by omega, by omega⟩ ⟨by omega, by omega⟩]; omega
  have hcA : cA = Z.2.2 6 := by
    obtain ⟨_, _, _, _, _, g5⟩ := (hK.2 4 _ rfl).2
    exact Option.some.inj (f1.symm.trans g5)
  subst hcA
  rw [hcl, e1, e2]
  have had : H.size = sx_ad Z G.2.1 := by unfold sx_ad; rw [if_pos (by omega), hz0]
  generalize hH1 : H.push ({ cls := Z.2.2 6, slots := Array.replicate n.toNat .null, vm := .none } : Cell) = H1
  have z1 : H1.size = H.size + 1 := by rw [← hH1, Array.size_push]
  have g1 : H1[H.size]? = some (arrV (Z.2.2 6) n.toNat (fun _ => .null)) := by rw [← hH1, Array.getElem?_push_size, ← arrV_new]
  have o1 : ∀ q : Nat, q < H.size → H1[q]? = H[q]? := fun q hq => by rw [← hH1, Array.getElem?_push, if_neg (Nat.ne_of_lt hq)]
  have g := h H1 locs lsA (sx_rel_new hR h9 ⟨Nat.le_of_ble_eq_true rfl, Nat.le_of_ble_eq_true rfl⟩ (fun q => by cases q) (fun _ => by show n.toNat ≤ 5000; omega) z1 o1 ?_) (sx_S_new hS z1 o1) hl (by show n0 ≤ G.2.1 + 1; omega) (by rw [sx_sl_push _ hR.1.1]; omega)
  · rw [had]
    exact g
  · have hEn : sx_E Z (kx_new G (6, n.toNat)) (kx_zero μ G.2.1) G.2.1 = .inl (Z.2.2 6, n.toNat, .inr (.inr (.inr (.inr (fun j => sx_rv Z 0))))) := by simp only [sx_E, sx_new_sh, sx_new_rf]
    rw [hEn]
    show H1[Z.1 + G.2.1]? = some (vp_cell _ _)
    rw [← hz0, g1]
    rfl
theorem si_new {i ci : Nat} (C : sx_C p s m args c cc nL own Z D L μ0) (hd : decode cc pc = .ok (.new i, 3)) (hci : ci < 8) (hw : Jvm.Cond.classLink own i (sx_cn ci) ∈ sx_tb) (hw2 : Jvm.Cond.instantiable (sx_cn ci) (sx_nf ci) ∈ sx_tb) (hw3 : Jvm.Cond.initialized (sx_cn ci) ∈ sx_tb) (h9 : G.2.1 + 1 ≤ 91) (hc : G.2.1 + 1 - n0 ≤ R.cells) (hsl : sx_sl (kx_new G (1, ci)) - s0 ≤ R.slots) (h : sx_at p l e R s m args below meth c nL Z D L μ0 n0 s0 Qf (pc + 3) ls (kR G.2.1 :: st) (kx_new G (1, ci)) (kx_zero μ G.2.1)) : sx_at p l e R s m args below meth c nL Z D L μ0 n0 s0 Qf pc ls st G μ := by
  intro H locs lsA hR hS hl hn hs
  obtain ⟨hx, hb, hml, hown, hts, hE⟩ := C
  have hK := hE.1
  have hz0 := hR.2.1 (by omega)
  have e1 : G.2.1 - n0 + 1 = (kx_new G (1, ci)).2.1 - n0 := by show _ = G.2.1 + 1 - n0; omega
  have e2 : sx_sl G - s0 + sx_nf ci = sx_sl (kx_new G (1, ci)) - s0 := by rw [sx_sl_push _ hR.1.1]; show _ = sx_sl G + sx_nf ci - s0; omega
  have hKn := hK.1 ci _ (sx_cls_at hci)
  refine W.newcK (h := Z.1 + G.2.1) hx hb hown (hts _ hw) (hts _ hw2) (hts _ hw3) (g := F0 m pc lsA (st.map (sx_c Z))) rfl hd (by rw [e1]; exact hc) (by rw [e2]; exact hsl) hKn.2.1 hz0 (fun H1 kC hkC g1 z1 o1 => ?_)
  rw [e1, e2]
  have had : Z.1 + G.2.1 = sx_ad Z G.2.1 := by unfold sx_ad; rw [if_pos (by omega)]
  have g := h H1 locs lsA (sx_rel_new hR h9 ⟨Nat.le_of_ble_eq_true rfl, Nat.le_of_ble_eq_true rfl⟩ (fun _ => hci) (fun q => absurd q (by show ¬ 2 ≤ 1; omega)) (by rw [z1, hz0]) (fun i hi => o1 i (by omega)) ?_) (sx_S_new hS (by rw [z1, hz0]) (fun i hi => o1 i (by omega))) hl (by show n0 ≤ G.2.1 + 1; omega) (by rw [sx_sl_push _ hR.1.1]; omega)
  · rw [had]
    exact g
  · have hEn : sx_E Z (kx_new G (1, ci)) (kx_zero μ G.2.1) G.2.1 = .inr (ci, (List.range (sx_nf ci)).map (fun j => if sx_tag ci j = 1 then va_rf (sx_rv Z 0) else .int (Int32.ofInt 0))) := by simp only [sx_E, sx_fv, sx_new_sh, sx_new_rf, sx_new_mu]
    rw [hEn]
    refine ⟨_, sx_cls_at hci, (u_born (sx_y ci) hts (sx_in ci hci) hKn hkC g1 (sx_ty hci)).to (fun j hj => ?_)⟩
    have ht := sx_tag_ok ci hci j hj
    unfold vp_V
    rw [List.getD_eq_getElem?_getD, List.getElem?_map, List.getElem?_range hj]
    show defaultValue (sx_y ci j) = (if sx_tag ci j = 1 then va_rf (sx_rv Z 0) else .int (Int32.ofInt 0))
    by_cases h1 : sx_tag ci j = 1
    · rw [if_pos h1]
      have := ht.2.2.1 h1
      cases hq : sx_y ci j <;> rw [hq] at this <;> first | rfl | cases this
    · rw [if_neg h1]
      have h3 : sx_tag ci j = 0 ∨ sx_tag ci j = 2 := by omega
      rcases h3 with h3 | h3
      · rw [ht.1 h3]; rfl
      · rw [ht.2.1 h3]; rfl
theorem si_acopy {i s0' d n0' n1 : Nat} {sp dp n : Int} (C : sx_C p s m args c cc nL own Z D L μ0) (hd : decode cc pc = .ok (.invokestatic i, 3)) (hw1 : Jvm.Cond.methodLink own i arraycopyName ∈ sx_tb) (hw2 : Jvm.Cond.native arraycopyName ∈ sx_tb) (hw3 : Jvm.Cond.static arraycopyName ∈ sx_tb) (hw4 : Jvm.Cond.initialized "java/lang/System" ∈ sx_tb) (h9 : 91 ≤ G.2.1) (ho : G.1 s0' = (2, n0')) (ho1 : G.1 d = (2, n1)) (h1 : 0 ≤ sp) (h2 : 0 ≤ dp) (h3 : 0 ≤ n) (h4 : sp + n ≤ n0') (h5 : dp + n ≤ n1) (hcat : kx_cats st ≤ 8) (hf : 1 ≤ R.frames) (hlo : 60 ≤ R.locals) (h : sx_at p l e R s m args below meth c nL Z D L μ0 n0 s0 Qf (pc + 3) ls st G (kx_cpy μ s0' sp d dp n)) : sx_at p l e R s m args below meth c nL Z D L μ0 n0 s0 Qf pc ls (kI n :: kI dp :: kR d :: kI sp :: kR s0' :: st) G μ := by
  intro H locs lsA hR hS hl hn hs
  obtain ⟨hx, hb, hml, hown, hts, hE⟩ := C
  have hK := hE.1
  obtain ⟨c1, c2, c3, c4⟩ := sx_cell hR (a := s0') (by rw [ho]; exact Nat.le_of_ble_eq_true rfl) (by rw [ho]; exact Nat.le_of_ble_eq_true rfl)
  have hEa : sx_E Z G μ s0' = .inl (Z.2.2 2, n0', .inl (fun j => Int32.ofInt (μ s0' j))) := by simp only [sx_E, ho]
  rw [hEa] at c4
  obtain ⟨d1, d2, d3, d4⟩ := sx_cell hR (a := d) (by rw [ho1]; exact Nat.le_of_ble_eq_true rfl) (by rw [ho1]; exact Nat.le_of_ble_eq_true rfl)
  have hEd : sx_E Z G μ d = .inl (Z.2.2 2, n1, .inl (fun j => Int32.ofInt (μ d j))) := by simp only [sx_E, ho1]
  rw [hEd] at d4
  have m1 : n0' ≤ 5000 := by have := hR.1.2.2.2.2.2.2.2.2.2 s0' (by rw [ho]; exact Nat.le_of_ble_eq_true rfl) (by rw [ho]; exact Nat.le_of_ble_eq_true rfl); rw [ho] at this; exact this
  have m2 : n1 ≤ 5000 := by have := hR.1.2.2.2.2.2.2.2.2.2 d (by rw [ho1]; exact Nat.le_of_ble_eq_true rfl) (by rw [ho1]; exact Nat.le_of_ble_eq_true rfl); rw [ho1] at this; exact this
  have k0 : kx_in 0 := by decide
  have pos : ∀ x : Int, 0 ≤ x → x ≤ 5000 → ¬ Int32.ofInt x < 0 := fun x q1 q2 => by rw [← sx_zero, sx_lt ⟨by omega, by omega⟩ k0]; omega
  change W p l e R s m args below meth c H locs _ _ Qf (F0 m pc lsA (.int (Int32.ofInt n) :: .int (Int32.ofInt dp) :: .ref (sx_ad Z d) :: .int (Int32.ofInt sp) :: .ref (sx_ad Z s0') :: st.map (sx_c Z)))
  refine va_copyi (ty := .int) hx hb (by rw [hml, hl.2.1]) hown (hts _ hw1) (hts _ hw2) (hts _ hw3) (hts _ hw4) hK hR.2.2.1 (sx_D Z G μ) hS (s0' - 1) (d - 1) 0 0 c4 d4 rfl rfl rfl (pos sp h1 (by omega)) (pos dp h2 (by omega)) (pos n h3 (by omega)) ?_ ?_ (fun _ _ => rfl) hf ?_ hd (fun H1 locs1 hP hDD hS1 => ?_)
  · rw [sx_cl h1 (by omega), sx_cl h3 (by omega)]; omega
  · rw [sx_cl h2 (by omega), sx_cl h3 (by omega)]; omega
  · rw [sx_cats]
    have : nativeFrameWords "java/lang/System" "arraycopy" 5 + 11 ≤ 52 := by decide +kernel
    omega
  · rw [d3, sx_cl h1 (by omega), sx_cl h2 (by omega), sx_cl h3 (by omega)] at hP
    refine h H1 locs1 lsA (sx_rel_put hR ⟨rfl, rfl⟩ d1 d2 ?_ (fun b hb => ⟨fun j => rfl, fun j => ?_⟩) hP (fun q => by omega)) hS1 hl hn hs
    · simp only [sx_E, ho1]
      congr 4
      funext j
      simp only [kx_cpy, va_cpy]
      by_cases e : dp.toNat ≤ j ∧ j < dp.toNat + n.toNat
      · rw [if_pos ⟨trivial, by omega, by omega⟩, if_pos e]
        congr 2
        omega
      · rw [if_neg (fun q => e ⟨by omega, by omega⟩), if_neg e]
    · simp only [kx_cpy]
      rw [if_neg (fun q => hb q.1)]
theorem si_objinit {i a : Nat} (C : sx_C p s m args c cc nL own Z D L μ0) (hd : decode cc pc = .ok (.invokespecial i, 3)) (hw1 : Jvm.Cond.methodLink own i objectInit ∈ sx_tb) (hw2 : Jvm.Cond.instanceMethod objectInit ∈ sx_tb) (hw3 : Jvm.Cond.code objectInit ⟨#[0xb1]⟩ 1 none ∈ sx_tb) (hcat : kx_cats st ≤ 8) (hf : 1 ≤ R.frames) (hlo : 60 ≤ R.locals) (h : sx_at p l e R s m args below meth c nL Z D L μ0 n0 s0 Qf (pc + 3) ls st G μ) : sx_at p l e R s m args below meth c nL Z D L μ0 n0 s0 Qf pc ls (kR a :: st) G μ := by
  intro H locs lsA hR hS hl hn hs
  obtain ⟨hx, hb, hml, hown, hts, hE⟩ := C
  have hK := hE.1
  change W p l e R s m args below meth c H locs _ _ Qf (F0 m pc lsA (.ref (sx_ad Z a) :: st.map (sx_c Z)))
  refine W.objInit hx hb hown (hts _ hw1) (hts _ hw2) (hts _ hw3) (g := F0 m pc lsA (.ref (sx_ad Z a) :: st.map (sx_c Z))) rfl (by rw [hml]; exact hl.2.1) rfl hd hf ?_ (h H locs lsA hR hS hl hn hs)
  show 2 * 0 + _ + 12 ≤ _
  rw [sx_cats]
  omega
theorem sx_ltL {a b : Int} (ha : kx_inL a) (hb : kx_inL b) : Int64.ofInt a < Int64.ofInt b ↔ a < b := by
  rw [Int64.lt_iff_toInt_lt, sx_toL ha, sx_toL hb]
theorem si_lcmp {a b : Int} (C : sx_C p s m args c cc nL own Z D L μ0) (hd : decode cc pc = .ok (.lcmp, 1)) (ha : kx_inL a) (hbb : kx_inL b) (h : if a < b then sx_at p l e R s m args below meth c nL Z D L μ0 n0 s0 Qf (pc + 1) ls (kI (-1) :: st) G μ else if a = b then sx_at p l e R s m args below meth c nL Z D L μ0 n0 s0 Qf (pc + 1) ls (kI 0 :: st) G μ else sx_at p l e R s m args below meth c nL Z D L μ0 n0 s0 Qf (pc + 1) ls (kI 1 :: st) G μ) : sx_at p l e R s m args below meth c nL Z D L μ0 n0 s0 Qf pc ls (kL b :: kL a :: st) G μ := by
  intro H locs lsA hR hS hl hn hs
  obtain ⟨hx, hb, hml, hown, hts, hE⟩ := C
  have hK := hE.1
  change W p l e R s m args below meth c H locs _ _ Qf (F0 m pc lsA (.long (Int64.ofInt b) :: .long (Int64.ofInt a) :: st.map (sx_c Z)))
  refine W.lcmp hx hb hd ?_
  unfold lg_cmp
  by_cases h1 : a < b
  · rw [if_pos h1] at h
    rw [if_neg (show ¬ Int64.ofInt b < Int64.ofInt a by rw [sx_ltL hbb ha]; omega), if_neg (fun q => by have := congrArg Int64.toInt q; rw [sx_toL ha, sx_toL hbb] at this; omega)]
    exact h H locs lsA hR hS hl hn hs
  · rw [if_neg h1] at h
    by_cases h2 : a = b
    · rw [if_pos h2] at h
      rw [if_neg (show ¬ Int64.ofInt b < Int64.ofInt a by rw [sx_ltL hbb ha]; omega), if_pos (by rw [h2])]
      exact h H locs lsA hR hS hl hn hs
    · rw [if_neg h2] at h
      rw [if_pos (show Int64.ofInt b < Int64.ofInt a from (sx_ltL hbb ha).mpr (by omega))]
      exact h H locs lsA hR hS hl hn hs
end SO
