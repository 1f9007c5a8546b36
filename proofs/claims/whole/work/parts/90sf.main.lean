/-! a whole run of a method, and the contract of every method -/
theorem kx_st_imp {tb : Nat → kx_E} {K K' : Nat → kx_L → List kx_V → kx_G → kx_M → Prop} {R R' : Option kx_V → kx_G → kx_M → Prop} {C C' : Nat → List kx_V → kx_G → kx_M → Nat → kx_L → List kx_V → Prop} {pc : Nat} {ls : kx_L} {st : List kx_V} {G : kx_G} {μ : kx_M} (hK : ∀ pc' ls' st' G' μ', sx_gq G G' → K pc' ls' st' G' μ' → K' pc' ls' st' G' μ') (hR : ∀ v μ', R v G μ' → R' v G μ') (hC : ∀ m as μ' pc' ls' rest, C m as G μ' pc' ls' rest → C' m as G μ' pc' ls' rest) (h : kx_st tb False K R C pc ls st G μ) : kx_st tb False K' R' C' pc ls st G μ := by
  have hl := kx_lf_ge tb pc ls st G μ
  rw [kx_st_lf] at h ⊢
  cases hx : kx_lf tb pc ls st G μ with
  | none => rw [hx] at h; exact h.elim
  | some x =>
    rw [hx] at h hl
    match x, h, hl with
    | .inl (pc1, ls1, st1, G1, μ1), h, hl => exact hK _ _ _ _ _ hl h
    | .inr (.inl (v1, G1, μ1)), h, hl =>
      have hl : G1 = G := hl
      subst hl
      exact hR _ _ h
    | .inr (.inr (m1, as1, G1, μ1, pc1, ls1, rest)), h, hl =>
      have hl : G1 = G := hl
      subst hl
      exact hC _ _ _ _ _ _ h
section SF
variable {p : Program} {l : Launch} {e : Env} {R : Room} {s : State} {m : MethodId} {args : Array Value} {below : List Frame} {meth : Method} {c : Code} {cc : ByteArray} {nL L n0 s0 : Nat} {Z : sx_Z} {D : va_G} {μ0 : kx_M} {Qf : State → Prop} {GF : kx_G} {μF : kx_M} {vF : Option kx_V}
theorem sx_runs {d oc : Nat} {ini : Bool} {rt : Option FieldType} {tb : Nat → kx_E} (C : sx_C p s m args c cc nL (sx_on oc) Z D L μ0) (hini : ini = true → meth.name = "<init>")
    (hri : ∀ {pc : Nat} {ls : kx_L} {x : Int}, decode cc pc = .ok (.ireturn, 1) → (rt = some .int ∨ (rt = some .boolean ∨ rt = some .byte) ∧ (x = 0 ∨ x = 1)) → some (kI x) = vF → sx_at p l e R s m args below meth c nL Z D L μ0 n0 s0 Qf pc ls [kI x] GF μF)
    (hrl : ∀ {pc : Nat} {ls : kx_L} {x : Int}, decode cc pc = .ok (.lreturn, 1) → rt = some .long → some (kL x) = vF → sx_at p l e R s m args below meth c nL Z D L μ0 n0 s0 Qf pc ls [kL x] GF μF)
    (hrv : ∀ {pc : Nat} {ls : kx_L}, decode cc pc = .ok (.return_, 1) → rt = none → none = vF → sx_at p l e R s m args below meth c nL Z D L μ0 n0 s0 Qf pc ls [] GF μF)
    (hM : ∀ k as G μ v G2 μ2, k < 204 → kx_ev kt_all kt_ml d k as G μ v G2 μ2 → sx_lq G2 GF → 1 ≤ G.2.1 → sx_Mt l Z D L μ0 d k as G μ v G2 μ2)
    (hRf : d + 2 ≤ R.frames) (hRl : 60 * d + 60 ≤ R.locals) (hRc : GF.2.1 - n0 ≤ R.cells) (hRs : sx_sl GF - s0 ≤ R.slots) (h91 : GF.2.1 ≤ 91)
    (hval : ∀ pc, sx_okE oc cc nL ini rt pc (tb pc) = true) : ∀ n pc ls st G μ, kx_run (kx_ev kt_all kt_ml d) tb vF GF μF n pc ls st G μ → 1 ≤ G.2.1 → sx_at p l e R s m args below meth c nL Z D L μ0 n0 s0 Qf pc ls st G μ := by
  intro n
  induction n with
  | zero => intro pc ls st G μ h; exact h.elim
  | succ n ih =>
    intro pc ls st G μ h h1
    unfold kx_run at h
    have h := kx_st_imp (K' := fun pc' ls' st' G' μ' => sx_lq G' GF ∧ sx_at p l e R s m args below meth c nL Z D L μ0 n0 s0 Qf pc' ls' st' G' μ') (R' := fun v1 G1 μ1 => v1 = vF ∧ G1 = GF ∧ μ1 = μF)
      (C' := fun k as G1 μ1 pc' ls' rest => ∃ (v1 : Option kx_V) (G2 : kx_G) (μ2 : kx_M), (kx_ev kt_all kt_ml d k as G1 μ1 v1 G2 μ2 ∧ 1 ≤ G1.2.1) ∧ sx_lq G1 G2 ∧ sx_lq G2 GF ∧ sx_at p l e R s m args below meth c nL Z D L μ0 n0 s0 Qf pc' ls' (v1.toList ++ rest) G2 μ2)
      (fun pc' ls' st' G' μ' hg q => by
        have h2 : 1 ≤ G'.2.1 := Nat.le_trans h1 (sx_gq_lq hg h1).1
        exact ⟨kx_run_ge (kx_ev_ge kt_all kt_ml d) _ _ _ _ _ _ _ _ _ _ q h2, ih _ _ _ _ _ q h2⟩)
      (fun v μ' q => q)
      (fun k as μ' pc' ls' rest q => by
        obtain ⟨v1, G2, μ2, q1, q2⟩ := q
        have h3 := kx_ev_ge kt_all kt_ml d _ _ _ _ _ _ _ q1 h1
        have h2 : 1 ≤ G2.2.1 := Nat.le_trans h1 h3.1
        exact ⟨v1, G2, μ2, ⟨q1, h1⟩, h3, kx_run_ge (kx_ev_ge kt_all kt_ml d) _ _ _ _ _ _ _ _ _ _ q2 h2, ih _ _ _ _ _ q2 h2⟩) h
    unfold kx_st at h
    have hv := hval pc
    unfold sx_okE at hv
    exact sx_step C hini hri hrl hrv hM hRf hRl hRc hRs h91 hv h
end SF
theorem sx_ofW {l : Launch} {y : MethodName} {ws ws' : List Jvm.Cond} {rm : Room} {Pc : Array Value → State → Prop} {Qc : Array Value → State → Outcome → State → Prop} {mc ms : Nat} {free : Addr → Prop} {cc : ByteArray} {maxL : Nat} {ret : Option FieldType}
    (hy : plainFor y = true) (hw : ws = Jvm.Cond.code y cc maxL ret :: ws')
    (body : ∀ p e s m args below meth c s₁, BodyLoose p l y (headSpec ws rm) cc maxL ret e s m args below meth c s₁ → c.maxLocals = maxL → Pc args s →
      W p l e (headSpec ws rm).room s m args below meth c s.heap [] 0 0 (MQ below Qc args s mc ms free) (entryFrame m args maxL)) : Met l y ws rm Pc Qc mc ms free := by
  refine MetFree.of_bodySF (code := cc) (maxLocals := maxL) (ret := ret) hy ?_ ?_
  · intro args s m h hn
    obtain ⟨meth, c, h1, h2, h3, h4, h5, h6, -, -⟩ := Cond.code_spec hn (atoms_spec (ws := ws) h _ (by rw [hw]; exact List.mem_cons_self))
    exact ⟨meth, c, h1, h2, h3, h4, h5, h6⟩
  · intro p e s m args below meth c s₁ B hml hP _
    have hh0 : s₁.heap = s.heap := by rw [B.state]; rfl
    obtain ⟨t, a1, o, b1, b2, b3⟩ := body p e s m args below meth c s₁ B hml hP s₁ hh0 (Stand.of_body B)
    exact ⟨t, o, a1, b1, b2, ⟨b3.1, b3.2⟩⟩
theorem sx_main (l : Launch) (Z : sx_Z) (D : va_G) (L : Nat) (μ0 : kx_M) : ∀ d k as G μ v G2 μ2, k < 204 → kx_ev kt_all kt_ml d k as G μ v G2 μ2 → 1 ≤ G.2.1 → G2.2.1 ≤ 91 → sx_Mt l Z D L μ0 d k as G μ v G2 μ2 := by
  intro d
  induction d with
  | zero => intro k as G μ v G2 μ2 _ h; exact h.elim
  | succ d ih =>
    intro k as G μ v G2 μ2 hk h h1 h91
    have hle := kx_ev_ge kt_all kt_ml _ _ _ _ _ _ _ _ h h1
    obtain ⟨hfit, n, hrun⟩ := h
    refine sx_ofW (cc := sx_mc k) (maxL := kt_ml k) (ret := sx_mr k) (ws' := sx_tb) (sx_code_ok1 k hk) rfl ?_
    intro p e s m args below meth c s₁ B hml hP
    obtain ⟨rfl, hR, hE⟩ := hP
    have hown : s.vm.findClass (sx_on (sx_mo k)) = some m.cls := by rw [← sx_code_ok4 k hk]; exact findClass_of_methodNamed B.named
    have hts0 : ∀ w ∈ sx_ww k, w.before (as.map (sx_c Z)).toArray s = true := atoms_spec (ws := sx_ww k) B.pre
    have hts : ∀ w ∈ sx_tb, w.before (as.map (sx_c Z)).toArray s = true := fun w hw => hts0 w (List.mem_cons_of_mem _ hw)
    have hnm : meth.name = (sx_my k).name := (name_of_methodNamed B.named B.method).1
    have hlk := B.notSynchronized
    have hrt := B.returns
    have hx := B.exec
    have hb := B.bytes
    have key := sx_runs (R := (headSpec (sx_ww k) (sx_rm (d + 1) G G2)).room) (below := below) (Qf := MQ below (sx_Qc Z D L μ0 v G2 μ2) (as.map (sx_c Z)).toArray s (G2.2.1 - G.2.1) (sx_sl G2 - sx_sl G) (fun q => Z.1 < q)) (n0 := G.2.1) (s0 := sx_sl G) (vF := v) (GF := G2) (μF := μ2) (l := l) (e := e) (meth := meth) (ini := sx_ini k) (rt := sx_mr k) (tb := kt_all k) (d := d)
      (⟨hx, hb, hml, hown, hts, hE⟩ : sx_C p s m (as.map (sx_c Z)).toArray c (sx_mc k) (kt_ml k) (sx_on (sx_mo k)) Z D L μ0)
      (fun q => by rw [hnm]; exact sx_ini_ok k hk q) ?_ ?_ ?_ (fun k' as' G' μ' v' G2' μ2' hk' h' hl' h1' => ih _ _ _ _ _ _ _ hk' h' h1' (Nat.le_trans hl'.1 h91)) (Nat.le_refl (d + 2)) (show 60 * d + 60 ≤ 60 * (d + 1) by omega) (Nat.le_refl _) (Nat.le_refl _) h91 (sv_all k (by omega)) n 0 _ _ _ _ hrun h1
    · rw [lg_entry_eq]
      have := key s.heap [] _ hR va_S.rf (sx_lv_ent hfit) (Nat.le_refl _) (Nat.le_refl _)
      rw [Nat.sub_self, Nat.sub_self] at this
      exact this
    · intro pc ls x hd hr hv H locs lsA hR' hS hl hn hs
      have hq : ∀ t : State, t.heap = H → s.WarmedH t.vm → sx_Qc Z D L μ0 v G2 μ2 (as.map (sx_c Z)).toArray s (.returned (some (.int (Int32.ofInt x)))) t := fun t ht _ => ⟨by rw [← hv]; rfl, by rw [ht]; exact hR', hS.F ht⟩
      rcases hr with hr | ⟨hr | hr, hx01⟩
      · exact W.iret hx hb (by rw [hrt, hr]) hq hS.2.2 hd hlk
      · exact W.zret (ty := .boolean) hx hb (by rw [hrt, hr]) (by rcases hx01 with rfl | rfl <;> rfl) hq hS.2.2 hd hlk
      · exact W.zret (ty := .byte) hx hb (by rw [hrt, hr]) (by rcases hx01 with rfl | rfl <;> rfl) hq hS.2.2 hd hlk
    · intro pc ls x hd hr hv H locs lsA hR' hS hl hn hs
      exact W.lret hx hb (by rw [hrt, hr]) (fun t ht _ => ⟨by rw [← hv]; rfl, by rw [ht]; exact hR', hS.F ht⟩) hS.2.2 hd hlk
    · intro pc ls hd hr hv H locs lsA hR' hS hl hn hs
      exact W.vret hx hb (by rw [hrt, hr]) (fun t ht _ => ⟨by rw [← hv]; rfl, by rw [ht]; exact hR', hS.F ht⟩) hS.2.2 hd hlk
