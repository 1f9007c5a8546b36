theorem sx_in : ∀ ci, ci < 8 → ∀ w ∈ u_ws (sx_cn ci) (sx_T ci) (sx_nf ci), w ∈ sx_tb := by decide +kernel
section SM
variable {p : Program} {l : Launch} {e : Env} {R : Room} {s : State} {m : MethodId} {args : Array Value} {below : List Frame} {meth : Method} {c : Code} {cc : ByteArray} {nL L n0 s0 : Nat} {own : String} {Z : sx_Z} {D : va_G} {μ0 : kx_M} {Qf : State → Prop} {pc : Nat} {ls : kx_L} {st : List kx_V} {G : kx_G} {μ : kx_M}
theorem si_geti {i a ci k : Nat} (C : sx_C p s m args c cc nL own Z D L μ0) (hd : decode cc pc = .ok (.getfield i, 3)) (ho : G.1 a = (1, ci)) (hk : k < sx_nf ci) (ht : sx_tag ci k ≠ 1) (hw : Jvm.Cond.fieldLink own i (sx_T ci k).1 (sx_T ci k).2.1 (sx_T ci k).2.2.1 ∈ sx_tb) (h : sx_at p l e R s m args below meth c nL Z D L μ0 n0 s0 Qf (pc + 3) ls (kI (μ a k) :: st) G μ) : sx_at p l e R s m args below meth c nL Z D L μ0 n0 s0 Qf pc ls (kR a :: st) G μ := by
  intro H locs lsA hR hS hl hn hs
  obtain ⟨hx, hb, hml, hown, hts, hE⟩ := C
  have hK := hE.1
  have hci : ci < 8 := by have := hR.1.2.2.2.1 a (by rw [ho]); rw [ho] at this; exact this
  obtain ⟨c1, c2, c3, c4⟩ := sx_cell hR (a := a) (by rw [ho]; exact Nat.le_refl 1) (by rw [ho]; exact Nat.le_of_ble_eq_true rfl)
  have hEa : sx_E Z G μ a = .inr (ci, (List.range (sx_nf ci)).map (fun j => sx_fv Z G μ ci a j)) := by simp only [sx_E, ho]
  rw [hEa] at c4
  change W p l e R s m args below meth c H locs _ _ Qf (F0 m pc lsA (.ref (sx_ad Z a) :: st.map (sx_c Z)))
  refine va_get (v := .int (Int32.ofInt (μ a k))) hx hb hts (sx_in ci hci) hown hK hR.2.2.1 (a - 1) c4 (sx_cls_at hci) k hk (hts _ hw) (fun _ h => h) ?_ hd (h H locs lsA hR hS hl hn hs)
  rw [List.getElem?_map, List.getElem?_range hk]
  show some (sx_fv Z G μ ci a k) = _
  unfold sx_fv
  rw [if_neg ht]
theorem si_getr {i a ci k : Nat} (C : sx_C p s m args c cc nL own Z D L μ0) (hd : decode cc pc = .ok (.getfield i, 3)) (ho : G.1 a = (1, ci)) (hk : k < sx_nf ci) (ht : sx_tag ci k = 1) (hz : G.2.2 a k ≠ 0) (hw : Jvm.Cond.fieldLink own i (sx_T ci k).1 (sx_T ci k).2.1 (sx_T ci k).2.2.1 ∈ sx_tb) (h : sx_at p l e R s m args below meth c nL Z D L μ0 n0 s0 Qf (pc + 3) ls (kR (G.2.2 a k) :: st) G μ) : sx_at p l e R s m args below meth c nL Z D L μ0 n0 s0 Qf pc ls (kR a :: st) G μ := by
  intro H locs lsA hR hS hl hn hs
  obtain ⟨hx, hb, hml, hown, hts, hE⟩ := C
  have hK := hE.1
  have hci : ci < 8 := by have := hR.1.2.2.2.1 a (by rw [ho]); rw [ho] at this; exact this
  obtain ⟨c1, c2, c3, c4⟩ := sx_cell hR (a := a) (by rw [ho]; exact Nat.le_refl 1) (by rw [ho]; exact Nat.le_of_ble_eq_true rfl)
  have hEa : sx_E Z G μ a = .inr (ci, (List.range (sx_nf ci)).map (fun j => sx_fv Z G μ ci a j)) := by simp only [sx_E, ho]
  rw [hEa] at c4
  change W p l e R s m args below meth c H locs _ _ Qf (F0 m pc lsA (.ref (sx_ad Z a) :: st.map (sx_c Z)))
  refine va_get (v := .ref (sx_ad Z (G.2.2 a k))) hx hb hts (sx_in ci hci) hown hK hR.2.2.1 (a - 1) c4 (sx_cls_at hci) k hk (hts _ hw) (fun _ h => h) ?_ hd (h H locs lsA hR hS hl hn hs)
  rw [List.getElem?_map, List.getElem?_range hk]
  show some (sx_fv Z G μ ci a k) = _
  unfold sx_fv
  rw [if_pos ht, sx_rv, if_neg hz]
  rfl
theorem sx_fs_set {Z : sx_Z} {G G' : kx_G} {μ μ' : kx_M} {ci a k : Nat} {v : Value} (hk : k < sx_nf ci) (hv : sx_fv Z G' μ' ci a k = v) (ho : ∀ j, j ≠ k → sx_fv Z G' μ' ci a j = sx_fv Z G μ ci a j) : ((List.range (sx_nf ci)).map (fun j => sx_fv Z G μ ci a j)).set k v = (List.range (sx_nf ci)).map (fun j => sx_fv Z G' μ' ci a j) := by
  apply List.ext_getElem?
  intro j
  by_cases hj : j < sx_nf ci
  · by_cases e : k = j
    · subst e
      rw [List.getElem?_set_self (by simpa using hj), List.getElem?_map, List.getElem?_range hj]
      show some v = some (sx_fv Z G' μ' ci a k)
      rw [hv]
    · rw [List.getElem?_set_ne e, List.getElem?_map, List.getElem?_map, List.getElem?_range hj]
      show some (sx_fv Z G μ ci a j) = some (sx_fv Z G' μ' ci a j)
      rw [ho j (fun q => e q.symm)]
  · rw [List.getElem?_eq_none (by simp; omega), List.getElem?_eq_none (by simp; omega)]
theorem sx_rel_put {Z : sx_Z} {D : va_G} {L : Nat} {μ0 : kx_M} {G G' : kx_G} {μ μ' : kx_M} {H H1 : Heap} {a : Nat} {x : va_E} (hR : sx_rel Z D L μ0 G μ H) (hG : G'.1 = G.1 ∧ G'.2.1 = G.2.1) (h1 : 1 ≤ a) (h2 : a < G.2.1) (hx : sx_E Z G' μ' a = x) (ho : ∀ b, b ≠ a → (∀ j, G'.2.2 b j = G.2.2 b j) ∧ ∀ j, μ' b j = μ b j) (hP : va_P D sx_cls ((sx_ws Z G μ).set (a - 1) (Z.1 + a, x)) H1) (hz : G.2.1 < 91 → H1.size = H.size) : sx_rel Z D L μ0 G' μ' H1 := by
  obtain ⟨w, z, -, m⟩ := hR
  refine ⟨?_, fun h9 => by rw [hG.2] at h9 ⊢; rw [hz h9, z h9], ?_, fun k hk => ?_⟩
  · obtain ⟨a1, a2, a3, a4, a5, a6, a7, a8, a9, a10⟩ := w
    unfold sx_wf
    rw [hG.1, hG.2]
    exact ⟨a1, a2, a3, a4, a5, a6, a7, a8, a9, a10⟩
  · rw [← sx_ws_set (G := G) (μ := μ) hG.2 h1 h2 hx (fun b hb => sx_E_congr (by rw [hG.1]) (ho b hb).1 (ho b hb).2)]
    exact hP
  · rw [← m k hk]
    exact funext (ho k (by have := w.2.1; omega)).2
/-- a field is written: the heap's size stays -/
theorem sx_putW (hx : p.tables.exec = Jvm.exec) (hb : c.code = cc) {Ts : List Jvm.Cond} (hts : ∀ w ∈ Ts, w.before args s = true) {C : String} {T : u_T} {N ci index : Nat} {cl : List vw_C} {tys : List (ClassId × FieldType)} {ws : va_W} {A : Nat → Prop} {H H0 : Heap} {locs : List Loc} {cells slots a : Nat} {rest : List Value} {lsA : Array Slot} (hin : ∀ w ∈ u_ws C T N, w ∈ Ts) (ty0 : Nat → FieldType) (hty : ∀ k, k < N → parseFieldDescriptor (T k).2.2.1 = some (ty0 k)) (hnm : ∀ a, a < N → ∀ b, b < N → a ≠ b → (T a).2.1 ≠ (T b).2.1) (hown : s.vm.findClass own = some m.cls) (hK : va_K D cl tys s) (hP : va_P D cl ws H) (hD : va_D A ws) (hS0 : va_S A H0 H locs) (q0 : Nat) {fs : List Value} (he : ws[q0]? = some (a, .inr (ci, fs))) (hc : cl[ci]? = some (C, T, N)) (k : Nat) (hk : k < N) (hlink : (Jvm.Cond.fieldLink own index (T k).1 (T k).2.1 (T k).2.2.1).before args s = true) (hfin : (T k).2.2.2 = false ∨ meth.name = "<init>" ∧ (T k).1 = own) {ty : FieldType} {v : Value} (hd : parseFieldDescriptor (T k).2.2.1 = some ty) (hn : narrow ty v = v) (hfit : fits ty v = true) (hl : k < fs.length)
    (hdg : decode cc pc = .ok (.putfield index, 3)) (kk : ∀ (H1 : Heap) (locs1 : List Loc), va_P D cl (ws.set q0 (a, .inr (ci, fs.set k v))) H1 → H1.size = H.size → va_S A H0 H1 locs1 → W p l e R s m args below meth c H1 locs1 cells slots Qf (F0 m (pc + 3) lsA rest)) : W p l e R s m args below meth c H locs cells slots Qf (F0 m pc lsA (v :: .ref a :: rest)) := by
  have hap := va_apart (own := own) hts hin ty0 hty hnm hK hc
  obtain ⟨r, h1, cell, q1, q2, q3, q4⟩ := hP q0 _ he
  have hr : r = (C, T, N) := Option.some.inj (h1.symm.trans hc)
  subst hr
  obtain ⟨hS, hfc, kC, hkC, hkind⟩ := hK.1 ci _ hc
  obtain ⟨cf, kf, fi, f, hi, hsl⟩ := hS k hk
  have hlay := hts _ (hin _ (u_in_lay hk))
  have hst := (u_facts hfc hkC (u_lays hts hin hk) hi).1
  unfold u_lay at hlay
  cases hF : (T k).2.2.2 with
  | false =>
    rw [if_neg (by rw [hF]; decide)] at hlay
    have h6 := u_store hfc hkC hkind hlay hi hd hn hfit
    refine W.putK hx hb (f := f) ⟨hown, hlink, ⟨_, _, _, hi⟩, hst⟩ (by rw [q2]; exact h6) q1 q3 (by rw [hsl]; exact k2_hasslot (q4 k hk)) rfl rfl hdg fun H' e1 e2 e3 => ?_
    rw [hsl] at e1 ⊢
    exact kk H' _ (hP.set hD he ⟨_, hc, t_OB.to (V := updV (vp_V fs) k v) ⟨_, e1, q2, q3, t_set q4 hap hk v⟩ (fun j _ => vp_updV_set hl v j)⟩ e3) e2 (hS0.put e2 e3 (hD.2 q0 _ he))
  | true =>
    obtain ⟨hin2, hdecl⟩ : meth.name = "<init>" ∧ (T k).1 = own := by
      rcases hfin with q | q
      · rw [hF] at q; cases q
      · exact q
    rw [if_pos hF] at hlay
    have hcf : m.cls = cf := by
      obtain ⟨_, _, c', _, _, _, -, -, hf', -, -, -, hown2, -⟩ := Cond.laysFinal_spec hlay
      have e1 : c' = cf := by have := hi.symm.trans hf'; simp at this; exact this.1.symm
      rw [hdecl] at hown2
      rw [← e1]; exact Option.some.inj (hown.symm.trans hown2)
    have h6 := u_fits hfc hkC hkind (Or.inr hlay) hi hd hn hfit
    refine W.putFinK hx hb hown hlink hi hst hcf hin2 (by rw [q2]; exact h6) q1 q3 (by rw [hsl]; exact k2_hasslot (q4 k hk)) rfl rfl hdg fun H' e1 e2 e3 => ?_
    rw [hsl] at e1 ⊢
    exact kk H' _ (hP.set hD he ⟨_, hc, t_OB.to (V := updV (vp_V fs) k v) ⟨_, e1, q2, q3, t_set q4 hap hk v⟩ (fun j _ => vp_updV_set hl v j)⟩ e3) e2 (hS0.put e2 e3 (hD.2 q0 _ he))
theorem si_puti {i a ci k : Nat} {v : Int} (C : sx_C p s m args c cc nL own Z D L μ0) (hd : decode cc pc = .ok (.putfield i, 3)) (ho : G.1 a = (1, ci)) (hk : k < sx_nf ci) (ht : sx_tag ci k = 0) (hfin : (sx_T ci k).2.2.2 = false ∨ meth.name = "<init>" ∧ (sx_T ci k).1 = own) (hw : Jvm.Cond.fieldLink own i (sx_T ci k).1 (sx_T ci k).2.1 (sx_T ci k).2.2.1 ∈ sx_tb) (h : sx_at p l e R s m args below meth c nL Z D L μ0 n0 s0 Qf (pc + 3) ls st G (kx_up μ a k v)) : sx_at p l e R s m args below meth c nL Z D L μ0 n0 s0 Qf pc ls (kI v :: kR a :: st) G μ := by
  intro H locs lsA hR hS hl hn hs
  obtain ⟨hx, hb, hml, hown, hts, hE⟩ := C
  have hK := hE.1
  have hci : ci < 8 := by have := hR.1.2.2.2.1 a (by rw [ho]); rw [ho] at this; exact this
  obtain ⟨c1, c2, c3, c4⟩ := sx_cell hR (a := a) (by rw [ho]; exact Nat.le_refl 1) (by rw [ho]; exact Nat.le_of_ble_eq_true rfl)
  have hEa : sx_E Z G μ a = .inr (ci, (List.range (sx_nf ci)).map (fun j => sx_fv Z G μ ci a j)) := by simp only [sx_E, ho]
  rw [hEa] at c4
  change W p l e R s m args below meth c H locs _ _ Qf (F0 m pc lsA (.int (Int32.ofInt v) :: .ref (sx_ad Z a) :: st.map (sx_c Z)))
  refine sx_putW hx hb hts (sx_in ci hci) (sx_y ci) (sx_ty hci) (sx_nm hci) hown hK hR.2.2.1 (sx_D Z G μ) hS (a - 1) c4 (sx_cls_at hci) k hk (hts _ hw) hfin (sx_ty hci k hk) (by rw [((sx_tag_ok ci hci k hk).1 ht)]; rfl) (by rw [((sx_tag_ok ci hci k hk).1 ht)]; rfl) (by simpa using hk) hd (fun H1 locs1 hP hz1 hS1 => ?_)
  rw [c3] at hP
  refine h H1 locs1 lsA (sx_rel_put hR ⟨rfl, rfl⟩ c1 c2 ?_ (fun b hb => ⟨fun j => rfl, fun j => ?_⟩) hP (fun _ => hz1)) hS1 hl hn hs
  · simp only [sx_E, ho]
    congr 2
    refine (sx_fs_set hk ?_ (fun j hj => ?_)).symm
    · unfold sx_fv
      rw [if_neg (by omega)]
      simp only [kx_up]
      rw [if_pos ⟨trivial, trivial⟩]
    · have e : ¬ ((j : Int) = (k : Int)) := by omega
      simp only [sx_fv, kx_up, e, and_false, if_false]
  · simp only [kx_up]
    rw [if_neg (fun q => hb q.1)]
theorem si_putz {i a ci k : Nat} {v : Int} (C : sx_C p s m args c cc nL own Z D L μ0) (hd : decode cc pc = .ok (.putfield i, 3)) (ho : G.1 a = (1, ci)) (hk : k < sx_nf ci) (ht : sx_tag ci k = 2) (hz : v = 0 ∨ v = 1) (hfin : (sx_T ci k).2.2.2 = false ∨ meth.name = "<init>" ∧ (sx_T ci k).1 = own) (hw : Jvm.Cond.fieldLink own i (sx_T ci k).1 (sx_T ci k).2.1 (sx_T ci k).2.2.1 ∈ sx_tb) (h : sx_at p l e R s m args below meth c nL Z D L μ0 n0 s0 Qf (pc + 3) ls st G (kx_up μ a k v)) : sx_at p l e R s m args below meth c nL Z D L μ0 n0 s0 Qf pc ls (kI v :: kR a :: st) G μ := by
  intro H locs lsA hR hS hl hn hs
  obtain ⟨hx, hb, hml, hown, hts, hE⟩ := C
  have hK := hE.1
  have hci : ci < 8 := by have := hR.1.2.2.2.1 a (by rw [ho]); rw [ho] at this; exact this
  obtain ⟨c1, c2, c3, c4⟩ := sx_cell hR (a := a) (by rw [ho]; exact Nat.le_refl 1) (by rw [ho]; exact Nat.le_of_ble_eq_true rfl)
  have hEa : sx_E Z G μ a = .inr (ci, (List.range (sx_nf ci)).map (fun j => sx_fv Z G μ ci a j)) := by simp only [sx_E, ho]
  rw [hEa] at c4
  change W p l e R s m args below meth c H locs _ _ Qf (F0 m pc lsA (.int (Int32.ofInt v) :: .ref (sx_ad Z a) :: st.map (sx_c Z)))
  refine sx_putW hx hb hts (sx_in ci hci) (sx_y ci) (sx_ty hci) (sx_nm hci) hown hK hR.2.2.1 (sx_D Z G μ) hS (a - 1) c4 (sx_cls_at hci) k hk (hts _ hw) hfin (sx_ty hci k hk) (by rw [((sx_tag_ok ci hci k hk).2.1 ht)]; rcases hz with rfl | rfl <;> rfl) (by rw [((sx_tag_ok ci hci k hk).2.1 ht)]; rcases hz with rfl | rfl <;> rfl) (by simpa using hk) hd (fun H1 locs1 hP hz1 hS1 => ?_)
  rw [c3] at hP
  refine h H1 locs1 lsA (sx_rel_put hR ⟨rfl, rfl⟩ c1 c2 ?_ (fun b hb => ⟨fun j => rfl, fun j => ?_⟩) hP (fun _ => hz1)) hS1 hl hn hs
  · simp only [sx_E, ho]
    congr 2
    refine (sx_fs_set hk ?_ (fun j hj => ?_)).symm
    · unfold sx_fv
      rw [if_neg (by omega)]
      simp only [kx_up]
      rw [if_pos ⟨trivial, trivial⟩]
    · have e : ¬ ((j : Int) = (k : Int)) := by omega
      simp only [sx_fv, kx_up, e, and_false, if_false]
  · simp only [kx_up]
    rw [if_neg (fun q => hb q.1)]
theorem si_putr {i a ci k : Nat} {v : Nat} (C : sx_C p s m args c cc nL own Z D L μ0) (hd : decode cc pc = .ok (.putfield i, 3)) (ho : G.1 a = (1, ci)) (hk : k < sx_nf ci) (ht : sx_tag ci k = 1) (hz : v ≠ 0) (hfin : (sx_T ci k).2.2.2 = false ∨ meth.name = "<init>" ∧ (sx_T ci k).1 = own) (hw : Jvm.Cond.fieldLink own i (sx_T ci k).1 (sx_T ci k).2.1 (sx_T ci k).2.2.1 ∈ sx_tb) (h : sx_at p l e R s m args below meth c nL Z D L μ0 n0 s0 Qf (pc + 3) ls st (G.1, G.2.1, kx_upr G.2.2 a k v) μ) : sx_at p l e R s m args below meth c nL Z D L μ0 n0 s0 Qf pc ls (kR v :: kR a :: st) G μ := by
  intro H locs lsA hR hS hl hn hs
  obtain ⟨hx, hb, hml, hown, hts, hE⟩ := C
  have hK := hE.1
  have hci : ci < 8 := by have := hR.1.2.2.2.1 a (by rw [ho]); rw [ho] at this; exact this
  obtain ⟨c1, c2, c3, c4⟩ := sx_cell hR (a := a) (by rw [ho]; exact Nat.le_refl 1) (by rw [ho]; exact Nat.le_of_ble_eq_true rfl)
  have hEa : sx_E Z G μ a = .inr (ci, (List.range (sx_nf ci)).map (fun j => sx_fv Z G μ ci a j)) := by simp only [sx_E, ho]
  rw [hEa] at c4
  change W p l e R s m args below meth c H locs _ _ Qf (F0 m pc lsA (.ref (sx_ad Z v) :: .ref (sx_ad Z a) :: st.map (sx_c Z)))
  refine sx_putW hx hb hts (sx_in ci hci) (sx_y ci) (sx_ty hci) (sx_nm hci) hown hK hR.2.2.1 (sx_D Z G μ) hS (a - 1) c4 (sx_cls_at hci) k hk (hts _ hw) hfin (sx_ty hci k hk) (by have := (sx_tag_ok ci hci k hk).2.2.1 ht; cases hq : sx_y ci k <;> rw [hq] at this <;> first | rfl | cases this) (by have := (sx_tag_ok ci hci k hk).2.2.1 ht; cases hq : sx_y ci k <;> rw [hq] at this <;> first | rfl | cases this) (by simpa using hk) hd (fun H1 locs1 hP hz1 hS1 => ?_)
  rw [c3] at hP
  refine h H1 locs1 lsA (sx_rel_put hR ⟨rfl, rfl⟩ c1 c2 ?_ (fun b hb => ⟨fun j => ?_, fun j => rfl⟩) hP (fun _ => hz1)) hS1 hl hn hs
  · simp only [sx_E, ho]
    congr 2
    refine (sx_fs_set hk ?_ (fun j hj => ?_)).symm
    · unfold sx_fv
      rw [if_pos ht]
      simp only [kx_upr]
      rw [if_pos ⟨trivial, trivial⟩, sx_rv, if_neg hz]
      rfl
    · have e : ¬ ((j : Int) = (k : Int)) := by omega
      simp only [sx_fv, kx_upr, e, and_false, if_false]
  · simp only [kx_upr]
    rw [if_neg (fun q => hb q.1)]
theorem si_iald {a n : Nat} {i : Int} (C : sx_C p s m args c cc nL own Z D L μ0) (hd : decode cc pc = .ok (.iaload, 1)) (ho : G.1 a = (2, n)) (h0 : 0 ≤ i) (h1 : i < n) (h : sx_at p l e R s m args below meth c nL Z D L μ0 n0 s0 Qf (pc + 1) ls (kI (μ a i) :: st) G μ) : sx_at p l e R s m args below meth c nL Z D L μ0 n0 s0 Qf pc ls (kI i :: kR a :: st) G μ := by
  intro H locs lsA hR hS hl hn hs
  obtain ⟨hx, hb, hml, hown, hts, hE⟩ := C
  have hK := hE.1
  obtain ⟨c1, c2, c3, c4⟩ := sx_cell hR (a := a) (by rw [ho]; exact Nat.le_of_ble_eq_true rfl) (by rw [ho]; exact Nat.le_of_ble_eq_true rfl)
  have hEa : sx_E Z G μ a = .inl (Z.2.2 2, n, .inl (fun j => Int32.ofInt (μ a j))) := by simp only [sx_E, ho]
  rw [hEa] at c4
  have hn5 : n ≤ 5000 := by have := hR.1.2.2.2.2.2.2.2.2.2 a (by rw [ho]; exact Nat.le_of_ble_eq_true rfl) (by rw [ho]; exact Nat.le_of_ble_eq_true rfl); rw [ho] at this; exact this
  change W p l e R s m args below meth c H locs _ _ Qf (F0 m pc lsA (.int (Int32.ofInt i) :: .ref (sx_ad Z a) :: st.map (sx_c Z)))
  have h := h H locs lsA hR hS hl hn hs
  change W p l e R s m args below meth c H locs _ _ Qf (F0 m _ lsA (.int (Int32.ofInt (μ a i)) :: st.map (sx_c Z))) at h
  refine va_iald hx hb hK hR.2.2.1 (a - 1) 0 c4 rfl (sx_vp h0 h1 (by omega)) hd ?_
  rw [sx_cl h0 (by omega), Int.toNat_of_nonneg h0]
  exact h
theorem si_lald {a n : Nat} {i : Int} (C : sx_C p s m args c cc nL own Z D L μ0) (hd : decode cc pc = .ok (.laload, 1)) (ho : G.1 a = (3, n)) (h0 : 0 ≤ i) (h1 : i < n) (h : sx_at p l e R s m args below meth c nL Z D L μ0 n0 s0 Qf (pc + 1) ls (kL (μ a i) :: st) G μ) : sx_at p l e R s m args below meth c nL Z D L μ0 n0 s0 Qf pc ls (kI i :: kR a :: st) G μ := by
  intro H locs lsA hR hS hl hn hs
  obtain ⟨hx, hb, hml, hown, hts, hE⟩ := C
  have hK := hE.1
  obtain ⟨c1, c2, c3, c4⟩ := sx_cell hR (a := a) (by rw [ho]; exact Nat.le_of_ble_eq_true rfl) (by rw [ho]; exact Nat.le_of_ble_eq_true rfl)
  have hEa : sx_E Z G μ a = .inl (Z.2.2 3, n, .inr (.inl (fun j => Int64.ofInt (μ a j)))) := by simp only [sx_E, ho]
  rw [hEa] at c4
  have hn5 : n ≤ 5000 := by have := hR.1.2.2.2.2.2.2.2.2.2 a (by rw [ho]; exact Nat.le_of_ble_eq_true rfl) (by rw [ho]; exact Nat.le_of_ble_eq_true rfl); rw [ho] at this; exact this
  change W p l e R s m args below meth c H locs _ _ Qf (F0 m pc lsA (.int (Int32.ofInt i) :: .ref (sx_ad Z a) :: st.map (sx_c Z)))
  have h := h H locs lsA hR hS hl hn hs
  change W p l e R s m args below meth c H locs _ _ Qf (F0 m _ lsA (.long (Int64.ofInt (μ a i)) :: st.map (sx_c Z))) at h
  refine va_lald hx hb hK hR.2.2.1 (a - 1) 1 c4 rfl (sx_vp h0 h1 (by omega)) hd ?_
  rw [sx_cl h0 (by omega), Int.toNat_of_nonneg h0]
  exact h
theorem si_zald {a n : Nat} {i : Int} (C : sx_C p s m args c cc nL own Z D L μ0) (hd : decode cc pc = .ok (.baload, 1)) (ho : G.1 a = (4, n)) (h0 : 0 ≤ i) (h1 : i < n) (h : sx_at p l e R s m args below meth c nL Z D L μ0 n0 s0 Qf (pc + 1) ls (kI (μ a i) :: st) G μ) : sx_at p l e R s m args below meth c nL Z D L μ0 n0 s0 Qf pc ls (kI i :: kR a :: st) G μ := by
  intro H locs lsA hR hS hl hn hs
  obtain ⟨hx, hb, hml, hown, hts, hE⟩ := C
  have hK := hE.1
  obtain ⟨c1, c2, c3, c4⟩ := sx_cell hR (a := a) (by rw [ho]; exact Nat.le_of_ble_eq_true rfl) (by rw [ho]; exact Nat.le_of_ble_eq_true rfl)
  have hEa : sx_E Z G μ a = .inl (Z.2.2 4, n, .inl (fun j => Int32.ofInt (μ a j))) := by simp only [sx_E, ho]
  rw [hEa] at c4
  have hn5 : n ≤ 5000 := by have := hR.1.2.2.2.2.2.2.2.2.2 a (by rw [ho]; exact Nat.le_of_ble_eq_true rfl) (by rw [ho]; exact Nat.le_of_ble_eq_true rfl); rw [ho] at this; exact this
  change W p l e R s m args below meth c H locs _ _ Qf (F0 m pc lsA (.int (Int32.ofInt i) :: .ref (sx_ad Z a) :: st.map (sx_c Z)))
  have h := h H locs lsA hR hS hl hn hs
  change W p l e R s m args below meth c H locs _ _ Qf (F0 m _ lsA (.int (Int32.ofInt (μ a i)) :: st.map (sx_c Z))) at h
  refine va_zald hx hb hK hR.2.2.1 (a - 1) 2 c4 rfl (sx_vp h0 h1 (by omega)) hd ?_
  rw [sx_cl h0 (by omega), Int.toNat_of_nonneg h0]
  exact h
theorem si_aald5 {a n : Nat} {i : Int} (C : sx_C p s m args c cc nL own Z D L μ0) (hd : decode cc pc = .ok (.aaload, 1)) (ho : G.1 a = (5, n)) (h0 : 0 ≤ i) (h1 : i < n) (hz : G.2.2 a i ≠ 0) (h : sx_at p l e R s m args below meth c nL Z D L μ0 n0 s0 Qf (pc + 1) ls (kR (G.2.2 a i) :: st) G μ) : sx_at p l e R s m args below meth c nL Z D L μ0 n0 s0 Qf pc ls (kI i :: kR a :: st) G μ := by
  intro H locs lsA hR hS hl hn hs
  obtain ⟨hx, hb, hml, hown, hts, hE⟩ := C
  have hK := hE.1
  obtain ⟨c1, c2, c3, c4⟩ := sx_cell hR (a := a) (by rw [ho]; exact Nat.le_of_ble_eq_true rfl) (by rw [ho]; exact Nat.le_of_ble_eq_true rfl)
  have hEa : sx_E Z G μ a = .inl (Z.2.2 5, n, .inr (.inr (.inr (.inr (fun j => sx_rv Z (G.2.2 a j)))))) := by simp only [sx_E, ho]
  rw [hEa] at c4
  have hn5 : n ≤ 5000 := by have := hR.1.2.2.2.2.2.2.2.2.2 a (by rw [ho]; exact Nat.le_of_ble_eq_true rfl) (by rw [ho]; exact Nat.le_of_ble_eq_true rfl); rw [ho] at this; exact this
  change W p l e R s m args below meth c H locs _ _ Qf (F0 m pc lsA (.int (Int32.ofInt i) :: .ref (sx_ad Z a) :: st.map (sx_c Z)))
  have h := h H locs lsA hR hS hl hn hs
  change W p l e R s m args below meth c H locs _ _ Qf (F0 m _ lsA (.ref (sx_ad Z (G.2.2 a i)) :: st.map (sx_c Z))) at h
  refine va_aldq hx hb hK hR.2.2.1 (a - 1) 3 c4 rfl (sx_vp h0 h1 (by omega)) hd ?_
  rw [sx_cl h0 (by omega), Int.toNat_of_nonneg h0, sx_rv, if_neg hz]
  exact h
theorem si_aald6 {a n : Nat} {i : Int} (C : sx_C p s m args c cc nL own Z D L μ0) (hd : decode cc pc = .ok (.aaload, 1)) (ho : G.1 a = (6, n)) (h0 : 0 ≤ i) (h1 : i < n) (hz : G.2.2 a i ≠ 0) (h : sx_at p l e R s m args below meth c nL Z D L μ0 n0 s0 Qf (pc + 1) ls (kR (G.2.2 a i) :: st) G μ) : sx_at p l e R s m args below meth c nL Z D L μ0 n0 s0 Qf pc ls (kI i :: kR a :: st) G μ := by
  intro H locs lsA hR hS hl hn hs
  obtain ⟨hx, hb, hml, hown, hts, hE⟩ := C
  have hK := hE.1
  obtain ⟨c1, c2, c3, c4⟩ := sx_cell hR (a := a) (by rw [ho]; exact Nat.le_of_ble_eq_true rfl) (by rw [ho]; exact Nat.le_of_ble_eq_true rfl)
  have hEa : sx_E Z G μ a = .inl (Z.2.2 6, n, .inr (.inr (.inr (.inr (fun j => sx_rv Z (G.2.2 a j)))))) := by simp only [sx_E, ho]
  rw [hEa] at c4
  have hn5 : n ≤ 5000 := by have := hR.1.2.2.2.2.2.2.2.2.2 a (by rw [ho]; exact Nat.le_of_ble_eq_true rfl) (by rw [ho]; exact Nat.le_of_ble_eq_true rfl); rw [ho] at this; exact this
  change W p l e R s m args below meth c H locs _ _ Qf (F0 m pc lsA (.int (Int32.ofInt i) :: .ref (sx_ad Z a) :: st.map (sx_c Z)))
  have h := h H locs lsA hR hS hl hn hs
  change W p l e R s m args below meth c H locs _ _ Qf (F0 m _ lsA (.ref (sx_ad Z (G.2.2 a i)) :: st.map (sx_c Z))) at h
  refine va_aldq hx hb hK hR.2.2.1 (a - 1) 4 c4 rfl (sx_vp h0 h1 (by omega)) hd ?_
  rw [sx_cl h0 (by omega), Int.toNat_of_nonneg h0, sx_rv, if_neg hz]
  exact h
theorem si_iald7 {a n : Nat} {i : Int} (C : sx_C p s m args c cc nL own Z D L μ0) (hd : decode cc pc = .ok (.iaload, 1)) (ho : G.1 a = (7, n)) (h0 : 0 ≤ i) (h1 : i < n) (h : sx_at p l e R s m args below meth c nL Z D L μ0 n0 s0 Qf (pc + 1) ls (kI (μ a i) :: st) G μ) : sx_at p l e R s m args below meth c nL Z D L μ0 n0 s0 Qf pc ls (kI i :: kR a :: st) G μ := by
  intro H locs lsA hR hS hl hn hs
  obtain ⟨hx, hb, hml, hown, hts, hE⟩ := C
  have hK := hE.1
  have h := h H locs lsA hR hS hl hn hs
  change W p l e R s m args below meth c H locs _ _ Qf (F0 m _ lsA (.int (Int32.ofInt (μ a i)) :: st.map (sx_c Z))) at h
  change W p l e R s m args below meth c H locs _ _ Qf (F0 m pc lsA (.int (Int32.ofInt i) :: .ref (sx_ad Z a) :: st.map (sx_c Z)))
  obtain ⟨-, hz, hst, ⟨hX, hXa⟩, hL5, -⟩ := hE
  obtain ⟨-, -, -, -, b5, b6, b7, b8, b9, -⟩ := hR.1
  have hmu := hR.2.2.2
  have had : ∀ k, 101 ≤ k → sx_ad Z k = Z.2.1 k := fun k hk => by unfold sx_ad; rw [if_neg (by omega)]
  have tab : ∀ k, k = 101 ∨ k = 102 ∨ k = 103 → a = k → n = 6 → W p l e R s m args below meth c H locs (G.2.1 - n0) (sx_sl G - s0) Qf (F0 m pc lsA (.int (Int32.ofInt i) :: .ref (sx_ad Z a) :: st.map (sx_c Z))) := by
    intro k hk ea en
    subst ea; subst en
    rw [had a (by omega)]
    refine va_ti hx hb (hst a hk).2 hS (sx_vp h0 h1 (by omega)) rfl hd ?_
    rw [sx_cl h0 (by omega), Int.toNat_of_nonneg h0, ← hmu a (by omega)]
    exact h
  rcases b5 a (by rw [ho]) with ea | ea | ea | ea
  · exact tab 101 (by omega) ea (by rw [ea, b6] at ho; have := congrArg Prod.snd ho; exact this.symm)
  · exact tab 102 (by omega) ea (by rw [ea, b7] at ho; have := congrArg Prod.snd ho; exact this.symm)
  · exact tab 103 (by omega) ea (by rw [ea, b8] at ho; have := congrArg Prod.snd ho; exact this.symm)
  · have en : L = n := by rw [ea, b9] at ho; exact congrArg Prod.snd ho
    subst ea; subst en
    rw [had 104 (by omega)]
    refine va_sld hx hb hX (by omega) (by omega) hS (sx_vp h0 h1 (by omega)) hd ?_
    rw [sx_cl h0 (by omega), Int.toNat_of_nonneg h0, ← hmu 104 (by omega)]
    exact h
theorem si_alen {a n : Nat} (C : sx_C p s m args c cc nL own Z D L μ0) (hd : decode cc pc = .ok (.arraylength, 1)) (ho : G.1 a = (2, n)) (h : sx_at p l e R s m args below meth c nL Z D L μ0 n0 s0 Qf (pc + 1) ls (kI n :: st) G μ) : sx_at p l e R s m args below meth c nL Z D L μ0 n0 s0 Qf pc ls (kR a :: st) G μ := by
  intro H locs lsA hR hS hl hn hs
  obtain ⟨hx, hb, hml, hown, hts, hE⟩ := C
  have hK := hE.1
  obtain ⟨c1, c2, c3, c4⟩ := sx_cell hR (a := a) (by rw [ho]; exact Nat.le_of_ble_eq_true rfl) (by rw [ho]; exact Nat.le_of_ble_eq_true rfl)
  have hEa : sx_E Z G μ a = .inl (Z.2.2 2, n, .inl (fun j => Int32.ofInt (μ a j))) := by simp only [sx_E, ho]
  rw [hEa] at c4
  have hn5 : n ≤ 5000 := by have := hR.1.2.2.2.2.2.2.2.2.2 a (by rw [ho]; exact Nat.le_of_ble_eq_true rfl) (by rw [ho]; exact Nat.le_of_ble_eq_true rfl); rw [ho] at this; exact this
  change W p l e R s m args below meth c H locs _ _ Qf (F0 m pc lsA (.ref (sx_ad Z a) :: st.map (sx_c Z)))
  have h := h H locs lsA hR hS hl hn hs
  exact va_alen hx hb hK hR.2.2.1 (a - 1) 0 c4 rfl (Int32.ofInt_eq_ofNat).symm hd h
theorem si_alen7 {n : Nat} (C : sx_C p s m args c cc nL own Z D L μ0) (hd : decode cc pc = .ok (.arraylength, 1)) (ho : G.1 104 = (7, n)) (h : sx_at p l e R s m args below meth c nL Z D L μ0 n0 s0 Qf (pc + 1) ls (kI n :: st) G μ) : sx_at p l e R s m args below meth c nL Z D L μ0 n0 s0 Qf pc ls (kR 104 :: st) G μ := by
  intro H locs lsA hR hS hl hn hs
  obtain ⟨hx, hb, hml, hown, hts, hE⟩ := C
  have hK := hE.1
  change W p l e R s m args below meth c H locs _ _ Qf (F0 m pc lsA (.ref (sx_ad Z 104) :: st.map (sx_c Z)))
  have h := h H locs lsA hR hS hl hn hs
  obtain ⟨-, hz, hst, ⟨hX, hXa⟩, hL5, -⟩ := hE
  have en : L = n := by have := hR.1.2.2.2.2.2.2.2.2.1; rw [this] at ho; exact congrArg Prod.snd ho
  subst en
  have had : sx_ad Z 104 = Z.2.1 104 := rfl
  rw [had]
  refine va_slen hx hb hX (by omega) (by omega) hS hd ?_
  rw [show Int32.ofNat L = Int32.ofInt L from Int32.ofInt_eq_ofNat.symm]
  exact h
theorem si_getstatic {i k : Nat} (C : sx_C p s m args c cc nL own Z D L μ0) (hd : decode cc pc = .ok (.getstatic i, 3)) (hk : k = 101 ∨ k = 102 ∨ k = 103) (hw : Jvm.Cond.fieldLink own i "HatOrders$Kinds" (sx_stn k) "[I" ∈ sx_tb) (h : sx_at p l e R s m args below meth c nL Z D L μ0 n0 s0 Qf (pc + 3) ls (kR k :: st) G μ) : sx_at p l e R s m args below meth c nL Z D L μ0 n0 s0 Qf pc ls st G μ := by
  intro H locs lsA hR hS hl hn hs
  obtain ⟨hx, hb, hml, hown, hts, hE⟩ := C
  have hK := hE.1
  have h := h H locs lsA hR hS hl hn hs
  have had : sx_ad Z k = Z.2.1 k := by unfold sx_ad; rw [if_neg (by omega)]
  change W p l e R s m args below meth c H locs _ _ Qf (F0 m _ lsA (.ref (sx_ad Z k) :: st.map (sx_c Z))) at h
  rw [had] at h
  exact va_gets hx hb (hE.2.2.1 k hk).1 hS hown (hts _ hw) (fun _ h => h) hd h
theorem si_getstaticI {i : Nat} (C : sx_C p s m args c cc nL own Z D L μ0) (hd : decode cc pc = .ok (.getstatic i, 3)) (hw : Jvm.Cond.fieldLink own i "java/lang/String" "COMPACT_STRINGS" "Z" ∈ sx_tb) (h : sx_at p l e R s m args below meth c nL Z D L μ0 n0 s0 Qf (pc + 3) ls (kI 1 :: st) G μ) : sx_at p l e R s m args below meth c nL Z D L μ0 n0 s0 Qf pc ls st G μ := by
  intro H locs lsA hR hS hl hn hs
  obtain ⟨hx, hb, hml, hown, hts, hE⟩ := C
  have hK := hE.1
  have h := h H locs lsA hR hS hl hn hs
  change W p l e R s m args below meth c H locs _ _ Qf (F0 m _ lsA (.int (Int32.ofInt 1) :: st.map (sx_c Z))) at h
  rw [show Int32.ofInt 1 = 1 by decide] at h
  exact va_gets hx hb hE.2.2.2.2.2.2.2.2.2.2.2.2.2 hS hown (hts _ hw) (fun _ h => h) hd h
theorem si_getSr {i : Nat} (C : sx_C p s m args c cc nL own Z D L μ0) (hd : decode cc pc = .ok (.getfield i, 3)) (hw : Jvm.Cond.fieldLink own i "java/lang/String" "value" "[B" ∈ sx_tb) (h : sx_at p l e R s m args below meth c nL Z D L μ0 n0 s0 Qf (pc + 3) ls (kR 106 :: st) G μ) : sx_at p l e R s m args below meth c nL Z D L μ0 n0 s0 Qf pc ls (kR 105 :: st) G μ := by
  intro H locs lsA hR hS hl hn hs
  obtain ⟨hx, hb, hml, hown, hts, hE⟩ := C
  have hK := hE.1
  exact vk_getf hx hb hE.2.2.2.2.2.2.2.2.2.2.2.1 hS hown (hts _ hw) (fun _ h => h) hd (h H locs lsA hR hS hl hn hs)
theorem si_getSi {i : Nat} (C : sx_C p s m args c cc nL own Z D L μ0) (hd : decode cc pc = .ok (.getfield i, 3)) (hw : Jvm.Cond.fieldLink own i "java/lang/String" "coder" "B" ∈ sx_tb) (h : sx_at p l e R s m args below meth c nL Z D L μ0 n0 s0 Qf (pc + 3) ls (kI 0 :: st) G μ) : sx_at p l e R s m args below meth c nL Z D L μ0 n0 s0 Qf pc ls (kR 105 :: st) G μ := by
  intro H locs lsA hR hS hl hn hs
  obtain ⟨hx, hb, hml, hown, hts, hE⟩ := C
  have hK := hE.1
  have h := h H locs lsA hR hS hl hn hs
  change W p l e R s m args below meth c H locs _ _ Qf (F0 m _ lsA (.int (Int32.ofInt 0) :: st.map (sx_c Z))) at h
  rw [show Int32.ofInt 0 = 0 by decide] at h
  exact vk_getf hx hb hE.2.2.2.2.2.2.2.2.2.2.1 hS hown (hts _ hw) (fun _ h => h) hd h
theorem si_bal10 {i : Int} (C : sx_C p s m args c cc nL own Z D L μ0) (hd : decode cc pc = .ok (.baload, 1)) (h0 : 0 ≤ i) (h1 : i < 5) (h : sx_at p l e R s m args below meth c nL Z D L μ0 n0 s0 Qf (pc + 1) ls (kI (μ 106 i) :: st) G μ) : sx_at p l e R s m args below meth c nL Z D L μ0 n0 s0 Qf pc ls (kI i :: kR 106 :: st) G μ := by
  intro H locs lsA hR hS hl hn hs
  obtain ⟨hx, hb, hml, hown, hts, hE⟩ := C
  have hK := hE.1
  have h := h H locs lsA hR hS hl hn hs
  change W p l e R s m args below meth c H locs _ _ Qf (F0 m _ lsA (.int (Int32.ofInt (μ 106 i)) :: st.map (sx_c Z))) at h
  change W p l e R s m args below meth c H locs _ _ Qf (F0 m pc lsA (.int (Int32.ofInt i) :: .ref (sx_ad Z 106) :: st.map (sx_c Z)))
  refine va_tb hx hb hE.2.2.2.2.2.2.2.2.2.2.2.2.1 hS (sx_vp h0 h1 (by omega)) rfl hd ?_
  rw [sx_cl h0 (by omega), Int.toNat_of_nonneg h0, ← hR.2.2.2 106 (by omega)]
  exact h
theorem si_alen10 (C : sx_C p s m args c cc nL own Z D L μ0) (hd : decode cc pc = .ok (.arraylength, 1)) (h : sx_at p l e R s m args below meth c nL Z D L μ0 n0 s0 Qf (pc + 1) ls (kI 5 :: st) G μ) : sx_at p l e R s m args below meth c nL Z D L μ0 n0 s0 Qf pc ls (kR 106 :: st) G μ := by
  intro H locs lsA hR hS hl hn hs
  obtain ⟨hx, hb, hml, hown, hts, hE⟩ := C
  have hK := hE.1
  exact va_tlen hx hb hE.2.2.2.2.2.2.2.2.2.2.2.2.1 hS (by decide) hd (h H locs lsA hR hS hl hn hs)
theorem si_ldcS (C : sx_C p s m args c cc nL own Z D L μ0) (hd : decode cc pc = .ok (.ldc 9, 2)) (ho : own = "HatOrders$Kinds") (h : sx_at p l e R s m args below meth c nL Z D L μ0 n0 s0 Qf (pc + 2) ls (kR 105 :: st) G μ) : sx_at p l e R s m args below meth c nL Z D L μ0 n0 s0 Qf pc ls st G μ := by
  intro H locs lsA hR hS hl hn hs
  obtain ⟨hx, hb, hml, hown, hts, hE⟩ := C
  have hK := hE.1
  subst ho
  exact va_ldcS hx hb hown hE.2.2.2.2.2.2.2.2.1 hd (h H locs lsA hR hS hl hn hs)
end SM
