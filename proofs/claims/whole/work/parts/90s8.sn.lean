section SN
variable {p : Program} {l : Launch} {e : Env} {R : Room} {s : State} {m : MethodId} {args : Array Value} {below : List Frame} {meth : Method} {c : Code} {cc : ByteArray} {nL L n0 s0 : Nat} {own : String} {Z : sx_Z} {D : va_G} {μ0 : kx_M} {Qf : State → Prop} {pc : Nat} {ls : kx_L} {st : List kx_V} {G : kx_G} {μ : kx_M}
variable {H : Heap} {locs : List Loc} {cells slots : Nat} {lsA : Array Slot} {rest : List Value} {cl : List vw_C} {A : Nat → Prop} {a : Nat} {tys : List (ClassId × FieldType)} {ws : va_W} {H0 : Heap}
theorem sx_iastW (hexec : p.tables.exec = Jvm.exec) (hb : c.code = cc) (hK : va_K D cl tys s) (hP : va_P D cl ws H) (hD : va_D A ws) (hS : va_S A H0 H locs) (q0 t0 : Nat) {cA : ClassId} {n : Nat} {f : Nat → Int32} (ha : ws[q0]? = some (a, .inl (cA, n, .inl f))) (ht : tys[t0]? = some (cA, .int)) {i : Int32} {x : Int32} (hin : vp_in i n) (hdg : decode cc pc = .ok (.iastore, 1))
    (kk : ∀ (H1 : Heap) (locs1 : List Loc), va_P D cl (ws.set q0 (a, .inl (cA, n, .inl (upd f i.toNatClampNeg x)))) H1 → H1.size = H.size → va_S A H0 H1 locs1 → W p l e R s m args below meth c H1 locs1 cells slots Qf (F0 m (pc + 1) lsA rest)) : W p l e R s m args below meth c H locs cells slots Qf (F0 m pc lsA (.int x :: .int i :: .ref a :: rest)) := by
  refine W.iast hexec hb (hP q0 _ ha) ((hK.2 t0 _ ht).1 n (fun j => .int (f j))) (fun q => by cases q) (by show ¬ (i < 0 ∨ (arrV _ _ _).slots.size ≤ _); rw [arrV_size]; exact hin) rfl rfl hdg fun H1 e z oq => ?_
  refine kk H1 _ (hP.set hD ha ?_ oq) z (hS.put z oq (hD.2 q0 _ ha))
  show H1[a]? = some (vp_cell _ _)
  rw [e]
  rw [vp_cell_i, vp_cell_i, arrV_store]
  congr 2
  funext q
  by_cases hq : q = i.toNatClampNeg
  · subst hq
    simp [updV, upd]
    
  · simp [updV, upd, hq]
theorem sx_lastW (hexec : p.tables.exec = Jvm.exec) (hb : c.code = cc) (hK : va_K D cl tys s) (hP : va_P D cl ws H) (hD : va_D A ws) (hS : va_S A H0 H locs) (q0 t0 : Nat) {cA : ClassId} {n : Nat} {f : Nat → Int64} (ha : ws[q0]? = some (a, .inl (cA, n, .inr (.inl f)))) (ht : tys[t0]? = some (cA, .long)) {i : Int32} {x : Int64} (hin : vp_in i n) (hdg : decode cc pc = .ok (.lastore, 1))
    (kk : ∀ (H1 : Heap) (locs1 : List Loc), va_P D cl (ws.set q0 (a, .inl (cA, n, .inr (.inl (vp_updL f i.toNatClampNeg x))))) H1 → H1.size = H.size → va_S A H0 H1 locs1 → W p l e R s m args below meth c H1 locs1 cells slots Qf (F0 m (pc + 1) lsA rest)) : W p l e R s m args below meth c H locs cells slots Qf (F0 m pc lsA (.long x :: .int i :: .ref a :: rest)) := by
  refine W.last hexec hb (hP q0 _ ha) ((hK.2 t0 _ ht).1 n (fun j => .long (f j))) (fun q => by cases q) (by show ¬ (i < 0 ∨ (arrV _ _ _).slots.size ≤ _); rw [arrV_size]; exact hin) rfl rfl hdg fun H1 e z oq => ?_
  refine kk H1 _ (hP.set hD ha ?_ oq) z (hS.put z oq (hD.2 q0 _ ha))
  show H1[a]? = some (vp_cell _ _)
  rw [e]
  rw [vp_cell_l, vp_cell_l, arrV_store]
  congr 2
  funext q
  by_cases hq : q = i.toNatClampNeg
  · subst hq
    simp [updV, vp_updL]
    
  · simp [updV, vp_updL, hq]
theorem sx_zastW (hexec : p.tables.exec = Jvm.exec) (hb : c.code = cc) (hK : va_K D cl tys s) (hP : va_P D cl ws H) (hD : va_D A ws) (hS : va_S A H0 H locs) (q0 t0 : Nat) {cA : ClassId} {n : Nat} {f : Nat → Int32} (ha : ws[q0]? = some (a, .inl (cA, n, .inl f))) (ht : tys[t0]? = some (cA, .boolean)) {i : Int32} {x : Int32} (hin : vp_in i n) (hdg : decode cc pc = .ok (.bastore, 1))
    (kk : ∀ (H1 : Heap) (locs1 : List Loc), va_P D cl (ws.set q0 (a, .inl (cA, n, .inl (upd f i.toNatClampNeg (vp_nar .boolean x))))) H1 → H1.size = H.size → va_S A H0 H1 locs1 → W p l e R s m args below meth c H1 locs1 cells slots Qf (F0 m (pc + 1) lsA rest)) : W p l e R s m args below meth c H locs cells slots Qf (F0 m pc lsA (.int x :: .int i :: .ref a :: rest)) := by
  refine W.zast hexec hb (hP q0 _ ha) ((hK.2 t0 _ ht).1 n (fun j => .int (f j))) (fun q => by cases q) (by show ¬ (i < 0 ∨ (arrV _ _ _).slots.size ≤ _); rw [arrV_size]; exact hin) rfl rfl hdg fun H1 e z oq => ?_
  refine kk H1 _ (hP.set hD ha ?_ oq) z (hS.put z oq (hD.2 q0 _ ha))
  show H1[a]? = some (vp_cell _ _)
  rw [e]
  rw [vp_cell_i, vp_cell_i, arrV_store]
  congr 2
  funext q
  by_cases hq : q = i.toNatClampNeg
  · subst hq
    simp [updV, upd]
    rfl
  · simp [updV, upd, hq]
theorem sx_astqW (hexec : p.tables.exec = Jvm.exec) (hb : c.code = cc) (hK : va_K D cl tys s) (hP : va_P D cl ws H) (hD : va_D A ws) (hS : va_S A H0 H locs) (q0 t0 qk ci : Nat) {cA : ClassId} {r : vw_C} {n v : Nat} {vs : List Value} {f : Nat → Option Nat} (ha : ws[q0]? = some (a, .inl (cA, n, .inr (.inr (.inr (.inr f)))))) (ht : tys[t0]? = some (cA, .object r.1)) (hv : ws[qk]? = some (v, .inr (ci, vs))) (hc : cl[ci]? = some r) {i : Int32} (hin : vp_in i n) (hdg : decode cc pc = .ok (.aastore, 1))
    (kk : ∀ (H1 : Heap) (locs1 : List Loc), va_P D cl (ws.set q0 (a, .inl (cA, n, .inr (.inr (.inr (.inr (va_up f i.toNatClampNeg (some v)))))))) H1 → H1.size = H.size → va_S A H0 H1 locs1 → W p l e R s m args below meth c H1 locs1 cells slots Qf (F0 m (pc + 1) lsA rest)) : W p l e R s m args below meth c H locs cells slots Qf (F0 m pc lsA (.ref v :: .int i :: .ref a :: rest)) := by
  have hlt : i.toNatClampNeg < n := Nat.not_le.mp fun q => hin (Or.inr q)
  have h0 : ¬ i < 0 := fun q => hin (Or.inl q)
  obtain ⟨r', hr', cellV, g1, g2, g3, -⟩ := hP qk _ hv
  have hcls := (hK.1 ci r hc).2
  obtain ⟨kA, comp, k1, k2, k3, -⟩ := (hK.2 t0 _ ht).2
  have hcomp : comp = D.1 ci := Option.some.inj (k3.symm.trans hcls.1)
  subst hcomp
  obtain ⟨kC, hkC, -⟩ := hcls.2
  refine W.aast hexec hb (hP q0 _ ha) (fun q h => by cases h) (fun h => by cases h) k1 k2 rfl hkC ⟨h0, by show _ < (arrV _ _ _).slots.size; rw [arrV_size]; exact hlt⟩ g1 (fun q h => by rw [g3] at h; cases h) (by rw [g2]; exact hkC) (by rw [g2]; exact va_assign hcls) rfl rfl hdg fun H1 e z oq => ?_
  refine kk H1 _ (hP.set hD ha ?_ oq) z (hS.put z oq (hD.2 q0 _ ha))
  show H1[a]? = some (vp_cell _ _)
  rw [e]
  rw [vp_cell_q, vp_cell_q, arrV_store]
  congr 2
  funext q
  by_cases hq : q = i.toNatClampNeg
  · subst hq
    simp [updV, va_up, va_rf]
  · simp [updV, va_up, hq]
theorem si_iast {a n : Nat} {i v : Int} (C : sx_C p s m args c cc nL own Z D L μ0) (hd : decode cc pc = .ok (.iastore, 1)) (ho : G.1 a = (2, n)) (h0 : 0 ≤ i) (h1 : i < n) (h : sx_at p l e R s m args below meth c nL Z D L μ0 n0 s0 Qf (pc + 1) ls st G (kx_up μ a i v)) : sx_at p l e R s m args below meth c nL Z D L μ0 n0 s0 Qf pc ls (kI v :: kI i :: kR a :: st) G μ := by
  intro H locs lsA hR hS hl hn hs
  obtain ⟨hx, hb, hml, hown, hts, hE⟩ := C
  have hK := hE.1
  obtain ⟨c1, c2, c3, c4⟩ := sx_cell hR (a := a) (by rw [ho]; exact Nat.le_of_ble_eq_true rfl) (by rw [ho]; exact Nat.le_of_ble_eq_true rfl)
  have hEa : sx_E Z G μ a = .inl (Z.2.2 2, n, .inl (fun j => Int32.ofInt (μ a j))) := by simp only [sx_E, ho]
  rw [hEa] at c4
  have hn5 : n ≤ 5000 := by have := hR.1.2.2.2.2.2.2.2.2.2 a (by rw [ho]; exact Nat.le_of_ble_eq_true rfl) (by rw [ho]; exact Nat.le_of_ble_eq_true rfl); rw [ho] at this; exact this
  change W p l e R s m args below meth c H locs _ _ Qf (F0 m pc lsA (.int (Int32.ofInt v) :: .int (Int32.ofInt i) :: .ref (sx_ad Z a) :: st.map (sx_c Z)))
  refine sx_iastW hx hb hK hR.2.2.1 (sx_D Z G μ) hS (a - 1) 0 c4 rfl (sx_vp h0 h1 (by omega)) hd (fun H1 locs1 hP hz1 hS1 => ?_)
  rw [c3, sx_cl h0 (by omega)] at hP
  refine h H1 locs1 lsA (sx_rel_put hR ⟨rfl, rfl⟩ c1 c2 ?_ (fun b hb => ⟨fun j => rfl, fun j => ?_⟩) hP (fun _ => hz1)) hS1 hl hn hs
  · simp only [sx_E, ho]
    congr 4
    funext j
    simp only [kx_up, upd]
    by_cases e : (j : Int) = i
    · rw [if_pos ⟨trivial, e⟩, if_pos (by omega)]
    · rw [if_neg (fun q => e q.2), if_neg (by omega)]
  · simp only [kx_up]
    rw [if_neg (fun q => hb q.1)]
theorem si_last {a n : Nat} {i v : Int} (C : sx_C p s m args c cc nL own Z D L μ0) (hd : decode cc pc = .ok (.lastore, 1)) (ho : G.1 a = (3, n)) (h0 : 0 ≤ i) (h1 : i < n) (h : sx_at p l e R s m args below meth c nL Z D L μ0 n0 s0 Qf (pc + 1) ls st G (kx_up μ a i v)) : sx_at p l e R s m args below meth c nL Z D L μ0 n0 s0 Qf pc ls (kL v :: kI i :: kR a :: st) G μ := by
  intro H locs lsA hR hS hl hn hs
  obtain ⟨hx, hb, hml, hown, hts, hE⟩ := C
  have hK := hE.1
  obtain ⟨c1, c2, c3, c4⟩ := sx_cell hR (a := a) (by rw [ho]; exact Nat.le_of_ble_eq_true rfl) (by rw [ho]; exact Nat.le_of_ble_eq_true rfl)
  have hEa : sx_E Z G μ a = .inl (Z.2.2 3, n, .inr (.inl (fun j => Int64.ofInt (μ a j)))) := by simp only [sx_E, ho]
  rw [hEa] at c4
  have hn5 : n ≤ 5000 := by have := hR.1.2.2.2.2.2.2.2.2.2 a (by rw [ho]; exact Nat.le_of_ble_eq_true rfl) (by rw [ho]; exact Nat.le_of_ble_eq_true rfl); rw [ho] at this; exact this
  change W p l e R s m args below meth c H locs _ _ Qf (F0 m pc lsA (.long (Int64.ofInt v) :: .int (Int32.ofInt i) :: .ref (sx_ad Z a) :: st.map (sx_c Z)))
  refine sx_lastW hx hb hK hR.2.2.1 (sx_D Z G μ) hS (a - 1) 1 c4 rfl (sx_vp h0 h1 (by omega)) hd (fun H1 locs1 hP hz1 hS1 => ?_)
  rw [c3, sx_cl h0 (by omega)] at hP
  refine h H1 locs1 lsA (sx_rel_put hR ⟨rfl, rfl⟩ c1 c2 ?_ (fun b hb => ⟨fun j => rfl, fun j => ?_⟩) hP (fun _ => hz1)) hS1 hl hn hs
  · simp only [sx_E, ho]
    congr 5
    funext j
    simp only [kx_up, vp_updL]
    by_cases e : (j : Int) = i
    · rw [if_pos ⟨trivial, e⟩, if_pos (by omega)]
    · rw [if_neg (fun q => e q.2), if_neg (by omega)]
  · simp only [kx_up]
    rw [if_neg (fun q => hb q.1)]
theorem si_zast {a n : Nat} {i v : Int} (C : sx_C p s m args c cc nL own Z D L μ0) (hd : decode cc pc = .ok (.bastore, 1)) (ho : G.1 a = (4, n)) (h0 : 0 ≤ i) (h1 : i < n) (hz : v = 0 ∨ v = 1) (h : sx_at p l e R s m args below meth c nL Z D L μ0 n0 s0 Qf (pc + 1) ls st G (kx_up μ a i v)) : sx_at p l e R s m args below meth c nL Z D L μ0 n0 s0 Qf pc ls (kI v :: kI i :: kR a :: st) G μ := by
  intro H locs lsA hR hS hl hn hs
  obtain ⟨hx, hb, hml, hown, hts, hE⟩ := C
  have hK := hE.1
  obtain ⟨c1, c2, c3, c4⟩ := sx_cell hR (a := a) (by rw [ho]; exact Nat.le_of_ble_eq_true rfl) (by rw [ho]; exact Nat.le_of_ble_eq_true rfl)
  have hEa : sx_E Z G μ a = .inl (Z.2.2 4, n, .inl (fun j => Int32.ofInt (μ a j))) := by simp only [sx_E, ho]
  rw [hEa] at c4
  have hn5 : n ≤ 5000 := by have := hR.1.2.2.2.2.2.2.2.2.2 a (by rw [ho]; exact Nat.le_of_ble_eq_true rfl) (by rw [ho]; exact Nat.le_of_ble_eq_true rfl); rw [ho] at this; exact this
  change W p l e R s m args below meth c H locs _ _ Qf (F0 m pc lsA (.int (Int32.ofInt v) :: .int (Int32.ofInt i) :: .ref (sx_ad Z a) :: st.map (sx_c Z)))
  refine sx_zastW hx hb hK hR.2.2.1 (sx_D Z G μ) hS (a - 1) 2 c4 rfl (sx_vp h0 h1 (by omega)) hd (fun H1 locs1 hP hz1 hS1 => ?_)
  rw [c3, sx_cl h0 (by omega)] at hP
  refine h H1 locs1 lsA (sx_rel_put hR ⟨rfl, rfl⟩ c1 c2 ?_ (fun b hb => ⟨fun j => rfl, fun j => ?_⟩) hP (fun _ => hz1)) hS1 hl hn hs
  · simp only [sx_E, ho]
    congr 4
    funext j
    simp only [kx_up, upd]
    by_cases e : (j : Int) = i
    · rw [if_pos ⟨trivial, e⟩, if_pos (by omega)]
      rcases hz with rfl | rfl <;> rfl
    · rw [if_neg (fun q => e q.2), if_neg (by omega)]
  · simp only [kx_up]
    rw [if_neg (fun q => hb q.1)]
theorem si_aast5 {a n v : Nat} {i : Int} (C : sx_C p s m args c cc nL own Z D L μ0) (hd : decode cc pc = .ok (.aastore, 1)) (ho : G.1 a = (5, n)) (hov : G.1 v = (1, 3)) (h0 : 0 ≤ i) (h1 : i < n) (hz : v ≠ 0) (h : sx_at p l e R s m args below meth c nL Z D L μ0 n0 s0 Qf (pc + 1) ls st (G.1, G.2.1, kx_upr G.2.2 a i v) μ) : sx_at p l e R s m args below meth c nL Z D L μ0 n0 s0 Qf pc ls (kR v :: kI i :: kR a :: st) G μ := by
  intro H locs lsA hR hS hl hn hs
  obtain ⟨hx, hb, hml, hown, hts, hE⟩ := C
  have hK := hE.1
  obtain ⟨c1, c2, c3, c4⟩ := sx_cell hR (a := a) (by rw [ho]; exact Nat.le_of_ble_eq_true rfl) (by rw [ho]; exact Nat.le_of_ble_eq_true rfl)
  have hEa : sx_E Z G μ a = .inl (Z.2.2 5, n, .inr (.inr (.inr (.inr (fun j => sx_rv Z (G.2.2 a j)))))) := by simp only [sx_E, ho]
  rw [hEa] at c4
  have hn5 : n ≤ 5000 := by have := hR.1.2.2.2.2.2.2.2.2.2 a (by rw [ho]; exact Nat.le_of_ble_eq_true rfl) (by rw [ho]; exact Nat.le_of_ble_eq_true rfl); rw [ho] at this; exact this
  obtain ⟨d1, d2, d3, d4⟩ := sx_cell hR (a := v) (by rw [hov]; exact Nat.le_refl 1) (by rw [hov]; exact Nat.le_of_ble_eq_true rfl)
  have hEv : sx_E Z G μ v = .inr (3, (List.range (sx_nf 3)).map (fun j => sx_fv Z G μ 3 v j)) := by simp only [sx_E, hov]
  rw [hEv] at d4
  change W p l e R s m args below meth c H locs _ _ Qf (F0 m pc lsA (.ref (sx_ad Z v) :: .int (Int32.ofInt i) :: .ref (sx_ad Z a) :: st.map (sx_c Z)))
  refine sx_astqW hx hb hK hR.2.2.1 (sx_D Z G μ) hS (a - 1) 3 (v - 1) 3 c4 rfl d4 (sx_cls_at (by decide)) (sx_vp h0 h1 (by omega)) hd (fun H1 locs1 hP hz1 hS1 => ?_)
  rw [c3, sx_cl h0 (by omega)] at hP
  refine h H1 locs1 lsA (sx_rel_put hR ⟨rfl, rfl⟩ c1 c2 ?_ (fun b hb => ⟨fun j => ?_, fun j => rfl⟩) hP (fun _ => hz1)) hS1 hl hn hs
  · simp only [sx_E, ho]
    congr 7
    funext j
    simp only [kx_upr, va_up]
    by_cases e : (j : Int) = i
    · rw [if_pos ⟨trivial, e⟩, if_pos (by omega), sx_rv, if_neg hz]
    · rw [if_neg (fun q => e q.2), if_neg (by omega)]
  · simp only [kx_upr]
    rw [if_neg (fun q => hb q.1)]
theorem si_aast6 {a n v : Nat} {i : Int} (C : sx_C p s m args c cc nL own Z D L μ0) (hd : decode cc pc = .ok (.aastore, 1)) (ho : G.1 a = (6, n)) (hov : G.1 v = (1, 5)) (h0 : 0 ≤ i) (h1 : i < n) (hz : v ≠ 0) (h : sx_at p l e R s m args below meth c nL Z D L μ0 n0 s0 Qf (pc + 1) ls st (G.1, G.2.1, kx_upr G.2.2 a i v) μ) : sx_at p l e R s m args below meth c nL Z D L μ0 n0 s0 Qf pc ls (kR v :: kI i :: kR a :: st) G μ := by
  intro H locs lsA hR hS hl hn hs
  obtain ⟨hx, hb, hml, hown, hts, hE⟩ := C
  have hK := hE.1
  obtain ⟨c1, c2, c3, c4⟩ := sx_cell hR (a := a) (by rw [ho]; exact Nat.le_of_ble_eq_true rfl) (by rw [ho]; exact Nat.le_of_ble_eq_true rfl)
  have hEa : sx_E Z G μ a = .inl (Z.2.2 6, n, .inr (.inr (.inr (.inr (fun j => sx_rv Z (G.2.2 a j)))))) := by simp only [sx_E, ho]
  rw [hEa] at c4
  have hn5 : n ≤ 5000 := by have := hR.1.2.2.2.2.2.2.2.2.2 a (by rw [ho]; exact Nat.le_of_ble_eq_true rfl) (by rw [ho]; exact Nat.le_of_ble_eq_true rfl); rw [ho] at this; exact this
  obtain ⟨d1, d2, d3, d4⟩ := sx_cell hR (a := v) (by rw [hov]; exact Nat.le_refl 1) (by rw [hov]; exact Nat.le_of_ble_eq_true rfl)
  have hEv : sx_E Z G μ v = .inr (5, (List.range (sx_nf 5)).map (fun j => sx_fv Z G μ 5 v j)) := by simp only [sx_E, hov]
  rw [hEv] at d4
  change W p l e R s m args below meth c H locs _ _ Qf (F0 m pc lsA (.ref (sx_ad Z v) :: .int (Int32.ofInt i) :: .ref (sx_ad Z a) :: st.map (sx_c Z)))
  refine sx_astqW hx hb hK hR.2.2.1 (sx_D Z G μ) hS (a - 1) 4 (v - 1) 5 c4 rfl d4 (sx_cls_at (by decide)) (sx_vp h0 h1 (by omega)) hd (fun H1 locs1 hP hz1 hS1 => ?_)
  rw [c3, sx_cl h0 (by omega)] at hP
  refine h H1 locs1 lsA (sx_rel_put hR ⟨rfl, rfl⟩ c1 c2 ?_ (fun b hb => ⟨fun j => ?_, fun j => rfl⟩) hP (fun _ => hz1)) hS1 hl hn hs
  · simp only [sx_E, ho]
    congr 7
    funext j
    simp only [kx_upr, va_up]
    by_cases e : (j : Int) = i
    · rw [if_pos ⟨trivial, e⟩, if_pos (by omega), sx_rv, if_neg hz]
    · rw [if_neg (fun q => e q.2), if_neg (by omega)]
  · simp only [kx_upr]
    rw [if_neg (fun q => hb q.1)]
end SN
