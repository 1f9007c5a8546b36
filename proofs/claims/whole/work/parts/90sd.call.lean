/-! calls, and a whole method -/
def sx_Pc (Z : sx_Z) (D : va_G) (L : Nat) (μ0 : kx_M) (as : List kx_V) (G : kx_G) (μ : kx_M) : Array Value → State → Prop := fun av U => av = (as.map (sx_c Z)).toArray ∧ sx_rel Z D L μ0 G μ U.heap ∧ sx_ext Z D L μ0 U
def sx_Qc (Z : sx_Z) (D : va_G) (L : Nat) (μ0 : kx_M) (v : Option kx_V) (G2 : kx_G) (μ2 : kx_M) : Array Value → State → Outcome → State → Prop := fun _ st oc t => oc = .returned (v.map (sx_c Z)) ∧ sx_rel Z D L μ0 G2 μ2 t.heap ∧ va_F (fun q => Z.1 < q) st t
def sx_rm (d : Nat) (G G2 : kx_G) : Room := { frames := d + 1, cells := G2.2.1 - G.2.1, slots := sx_sl G2 - sx_sl G, locals := 60 * d }
def sx_ww (k : Nat) : List Jvm.Cond := Jvm.Cond.code (sx_my k) (sx_mc k) (kt_ml k) (sx_mr k) :: sx_tb
def sx_Mt (l : Launch) (Z : sx_Z) (D : va_G) (L : Nat) (μ0 : kx_M) (d k : Nat) (as : List kx_V) (G : kx_G) (μ : kx_M) (v : Option kx_V) (G2 : kx_G) (μ2 : kx_M) : Prop :=
  Met l (sx_my k) (sx_ww k) (sx_rm d G G2) (sx_Pc Z D L μ0 as G μ) (sx_Qc Z D L μ0 v G2 μ2) (G2.2.1 - G.2.1) (sx_sl G2 - sx_sl G) (fun q => Z.1 < q)
theorem sx_nest_tab {w : Jvm.Cond} (hw : w ∈ sx_nests) : w.onTables = true := by
  have h1 := (List.mem_filter.mp hw).2
  cases w <;> first | (simp at h1; done) | rfl
theorem sx_ext_same {Z : sx_Z} {D : va_G} {L : Nat} {μ0 : kx_M} {u U : State} (h : sx_ext Z D L μ0 u) (hv : u.vm = U.vm) (hh : u.heap = U.heap) : sx_ext Z D L μ0 U := by
  obtain ⟨h1, h2, h3, ⟨h4, h5⟩, h6, h7, h8, h9, t1, t2, t3, t4, t5, t6⟩ := h
  have ha : u.vm.Alike U.vm := by rw [hv]; exact Vm.Alike.refl _
  refine ⟨h1.moved ha, by rw [← hh]; exact h2, fun k hk => ?_, ⟨?_, h5⟩, h6, fun w hw => (h7 w hw).same (sx_nest_tab hw) hv, h8.moved ha, h9.moved ha, t1.same hv.symm, by rw [← hh]; exact t2.moved ha, by rw [← hh]; exact t3.moved ha, by rw [← hh]; exact t4.moved ha, by rw [← hh]; exact t5.moved ha, by rw [← hh]; exact t6.moved ha⟩
  · obtain ⟨g1, g2⟩ := h3 k hk
    rw [← hh]
    exact ⟨g1.moved ha, g2.moved ha⟩
  · rw [← hh]
    exact h4.moved ha
theorem sx_blind (Z : sx_Z) (D : va_G) (L : Nat) (μ0 : kx_M) (as : List kx_V) (G : kx_G) (μ : kx_M) : FrameBlind (sx_Pc Z D L μ0 as G μ) := fun _ _ _ _ h => ⟨h.1, h.2.1, sx_ext_same h.2.2 rfl rfl⟩
theorem sx_goodIn (k : Nat) (hk : k < 204) : GoodIn sx_tb (sx_ww k) := by
  intro w hw
  rcases List.mem_cons.mp hw with rfl | hw
  · exact ⟨sx_code_in k hk, good_of_word (sx_good _ (sx_code_in k hk)).2⟩
  · exact ⟨hw, good_of_word (sx_good _ hw).2⟩
theorem sx_goodL_app {a b : List Jvm.Cond} (ha : GoodIn sx_tb a) (hb : GoodIn sx_tb b) : GoodIn sx_tb (a ++ b) := fun w h => (List.mem_append.mp h).elim (ha w) (hb w)
theorem sx_goodL {ws : List Jvm.Cond} (h : ∀ w ∈ ws, w ∈ sx_tb) : GoodIn sx_tb ws := fun w hw => ⟨h w hw, good_of_word (sx_good _ (h w hw)).2⟩
section SD
variable {p : Program} {l : Launch} {e : Env} {R : Room} {s : State} {m : MethodId} {args : Array Value} {below : List Frame} {meth : Method} {c : Code} {cc : ByteArray} {nL L n0 s0 : Nat} {own : String} {Z : sx_Z} {D : va_G} {μ0 : kx_M} {Qf : State → Prop} {pc : Nat} {ls : kx_L} {st : List kx_V} {G : kx_G} {μ : kx_M}
theorem sx_go {H : Heap} {locs : List Loc} {cells slots mc ms : Nat} {lsA : Array Slot} {st0 rest : List Value} {Qa : State → Outcome → State → Prop} {vv : Option Value} {G2 : kx_G} {μ2 : kx_M} (hr : va_Run p l e R s m args below meth c H locs cells slots mc ms (F0 m pc lsA st0) rest Qa (fun q => Z.1 < q)) (hS : va_S (fun q => Z.1 < q) s.heap H locs) (hQ : ∀ st1 oc t, Qa st1 oc t → oc = .returned vv ∧ sx_rel Z D L μ0 G2 μ2 t.heap ∧ va_F (fun q => Z.1 < q) st1 t) (kk : ∀ H1 locs1, sx_rel Z D L μ0 G2 μ2 H1 → va_S (fun q => Z.1 < q) s.heap H1 locs1 → W p l e R s m args below meth c H1 locs1 (cells + mc) (slots + ms) Qf (F0 m (pc + 3) lsA (vv.toList ++ rest))) : W p l e R s m args below meth c H locs cells slots Qf (F0 m pc lsA st0) := by
  intro T hT X
  obtain ⟨v, st₀, t, T', L', h0, X', hL, e1, e2, hq, stp⟩ := hr T hT X
  obtain ⟨hv, hrel, hz, hk⟩ := hQ _ _ _ hq
  cases hv
  rw [h0] at hz hk
  obtain ⟨t2, a1, b1⟩ := kk T'.heap (locs ++ L') (by rw [e1]; exact hrel)
    ⟨Nat.le_trans hS.1 (by rw [e1]; exact hz), fun q h1 h2 => by rw [e1, hk q (Nat.lt_of_lt_of_le h1 hS.1) h2]; exact hS.2.1 q h1 h2, fun q hq => by
      rcases List.mem_append.mp hq with h | h
      · exact hS.2.2 q h
      · exact hL q h⟩ T' rfl X'
  exact ⟨t2, stp t2 a1, b1⟩
/-- what a callee finds -/
theorem sx_found {H : Heap} {locs : List Loc} (hE : sx_ext Z D L μ0 s) (hR : sx_rel Z D L μ0 G μ H) (hS : va_S (fun q => Z.1 < q) s.heap H locs) (as : List kx_V) : ∀ U : State, U.heap = H → s.WarmedH U.vm → sx_Pc Z D L μ0 as G μ (as.map (sx_c Z)).toArray U := fun U hU hW =>
  ⟨rfl, by rw [hU]; exact hR, sx_ext_moved hE hW (by rw [hU]; exact hS.1) (fun q h1 h2 => by rw [hU]; exact hS.2.1 q h1 h2)⟩
theorem sx_len {y : MethodName} {n : Nat} (h : (parseMethodDescriptor y.desc).map (fun d => d.parameters.length + 1) = some n) : (parseMethodDescriptor y.desc).map (fun d => d.parameters.length) = some (n - 1) ∧ 1 ≤ n := by
  cases hp : parseMethodDescriptor y.desc with
  | none => rw [hp] at h; cases h
  | some q => rw [hp] at h; have := Option.some.inj h; subst this; exact ⟨rfl, Nat.le_add_left 1 _⟩
theorem sx_next {H1 : Heap} {locs1 : List Loc} {lsA : Array Slot} {v : Option kx_V} {rest : List kx_V} {G2 : kx_G} {μ2 : kx_M} (hle : sx_lq G G2) (hn : n0 ≤ G.2.1) (hs : s0 ≤ sx_sl G) (h : sx_at p l e R s m args below meth c nL Z D L μ0 n0 s0 Qf (pc + 3) ls (v.toList ++ rest) G2 μ2) (hl : sx_lv Z lsA nL ls) (h1 : sx_rel Z D L μ0 G2 μ2 H1) (h2 : va_S (fun q => Z.1 < q) s.heap H1 locs1) : W p l e R s m args below meth c H1 locs1 (G.2.1 - n0 + (G2.2.1 - G.2.1)) (sx_sl G - s0 + (sx_sl G2 - sx_sl G)) Qf (F0 m (pc + 3) lsA ((v.map (sx_c Z)).toList ++ rest.map (sx_c Z))) := by
  have e1 : G.2.1 - n0 + (G2.2.1 - G.2.1) = G2.2.1 - n0 := by have := hle.1; omega
  have e2 : sx_sl G - s0 + (sx_sl G2 - sx_sl G) = sx_sl G2 - s0 := by have := hle.2; omega
  rw [e1, e2]
  have e3 : (v.map (sx_c Z)).toList ++ rest.map (sx_c Z) = (v.toList ++ rest).map (sx_c Z) := by cases v <;> rfl
  rw [e3]
  exact h H1 locs1 lsA h1 h2 hl (Nat.le_trans hn hle.1) (Nat.le_trans hs hle.2)
theorem sx_stk {n : Nat} {st : List kx_V} (h : n ≤ st.length) : st.map (sx_c Z) = ((st.take n).reverse.map (sx_c Z)).reverse ++ (st.drop n).map (sx_c Z) := by
  rw [List.map_reverse, List.reverse_reverse, ← List.map_append, List.take_append_drop]
theorem si_callS {i k n d : Nat} {v : Option kx_V} {G2 : kx_G} {μ2 : kx_M} {oc : Nat} (C : sx_C p s m args c cc nL (sx_on oc) Z D L μ0) (hd : decode cc pc = .ok (.invokestatic i, 3)) (hq : (oc, i, k, n) ∈ sx_css) (hlen : n ≤ st.length) (hcat : kx_cats (st.drop n) ≤ 8) (hM : sx_Mt l Z D L μ0 d k (st.take n).reverse G μ v G2 μ2) (hle : sx_lq G G2) (hRf : d + 2 ≤ R.frames) (hRl : 60 * d + 60 ≤ R.locals) (hRc : G2.2.1 - n0 ≤ R.cells) (hRs : sx_sl G2 - s0 ≤ R.slots) (h : sx_at p l e R s m args below meth c nL Z D L μ0 n0 s0 Qf (pc + 3) ls (v.toList ++ st.drop n) G2 μ2) : sx_at p l e R s m args below meth c nL Z D L μ0 n0 s0 Qf pc ls st G μ := by
  intro H locs lsA hR hS hl hn hs
  obtain ⟨hx, hb, hml, hown, hts, hE⟩ := C
  obtain ⟨w, h5, h6⟩ := sx_css_ok _ hq
  have hml2 := sx_code_ok3 k h6
  refine sx_go (va_runS (As := (st.take n).reverse.map (sx_c Z)) (rest := (st.drop n).map (sx_c Z)) ⟨hx, hb, hml, hown, hts⟩ hM
    (va_cwS n hts (sx_goodL_app (sx_goodL w) (sx_goodIn k h6)) rfl rfl rfl ⟨(sx_code_ok2 k h6).1, (sx_code_ok2 k h6).2, h5⟩ ⟨hRf, by show 8 + (kt_ml k + 11) + 60 * d ≤ R.locals; omega⟩)
    ⟨sx_blind Z D L μ0 _ G μ, sx_found hE hR hS _⟩ rfl (by simp; omega) hl.2.1 (sx_stk hlen) (by show 2 * 0 + _ ≤ 8; rw [sx_cats]; omega) hd ⟨by have := hle.1; omega, by have := hle.2; omega⟩) hS (fun _ _ _ q => q) (fun H1 locs1 h1 h2 => sx_next hle hn hs h hl h1 h2)
theorem si_callV {i k n d o ci : Nat} {as : List kx_V} {v : Option kx_V} {G2 : kx_G} {μ2 : kx_M} {oc : Nat} (C : sx_C p s m args c cc nL (sx_on oc) Z D L μ0) (hd : decode cc pc = .ok (.invokevirtual i, 3)) (hq : (oc, i, k, n, ci) ∈ sx_cvs) (hst : (st.take n).reverse = kR o :: as) (ho : G.1 o = (1, ci)) (hlen0 : n ≤ st.length) (hcat : kx_cats (st.drop n) ≤ 8) (hM : sx_Mt l Z D L μ0 d k (kR o :: as) G μ v G2 μ2) (hle : sx_lq G G2) (hRf : d + 2 ≤ R.frames) (hRl : 60 * d + 60 ≤ R.locals) (hRc : G2.2.1 - n0 ≤ R.cells) (hRs : sx_sl G2 - s0 ≤ R.slots) (h : sx_at p l e R s m args below meth c nL Z D L μ0 n0 s0 Qf (pc + 3) ls (v.toList ++ st.drop n) G2 μ2) : sx_at p l e R s m args below meth c nL Z D L μ0 n0 s0 Qf pc ls st G μ := by
  intro H locs lsA hR hS hl hn hs
  obtain ⟨hx, hb, hml, hown, hts, hE⟩ := C
  obtain ⟨w, h4, h7, h5, h6⟩ := sx_cvs_ok _ hq
  obtain ⟨h5, h8⟩ := sx_len h5
  have hml2 := sx_code_ok3 k h6
  obtain ⟨c1, c2, c3, c4⟩ := sx_cell hR (a := o) (by rw [ho]; exact Nat.le_refl 1) (by rw [ho]; exact Nat.le_of_ble_eq_true rfl)
  have hEa : sx_E Z G μ o = .inr (ci, (List.range (sx_nf ci)).map (fun j => sx_fv Z G μ ci o j)) := by simp only [sx_E, ho]
  rw [hEa] at c4
  have hlen : (st.take n).length = as.length + 1 := by rw [← List.length_reverse, hst]; rfl
  have hlen2 : n ≤ st.length ∧ as.length = n - 1 := by rw [List.length_take] at hlen; omega
  have hstk : st.map (sx_c Z) = (as.map (sx_c Z)).reverse ++ Value.ref (sx_ad Z o) :: (st.drop n).map (sx_c Z) := by
    rw [sx_stk (Z := Z) hlen2.1, hst]
    simp [sx_c]
  refine sx_go (va_runV (b := sx_ad Z o) (As := as.map (sx_c Z)) (rest := (st.drop n).map (sx_c Z)) ⟨hx, hb, hml, hown, hts⟩ hM
    (cwV (n - 1) hts (sx_goodL_app (sx_goodL w) (sx_goodIn k h6)) rfl rfl rfl ⟨h4, (sx_code_ok2 k h6).1, (sx_code_ok2 k h6).2, h5⟩ ⟨hRf, by show 8 + (kt_ml k + 11) + 60 * d ≤ R.locals; omega⟩)
    ⟨sx_blind Z D L μ0 _ G μ, va_recv hE.1 hR.2.2.1 (sx_cls_at h7) c4, sx_found hE hR hS (kR o :: as)⟩ rfl (by simp; omega) hl.2.1 hstk (by show 2 * 0 + _ ≤ 8; rw [sx_cats]; omega) hd ⟨by have := hle.1; omega, by have := hle.2; omega⟩) hS (fun _ _ _ q => q) (fun H1 locs1 h1 h2 => sx_next hle hn hs h hl h1 h2)
theorem si_callVS {i k n d : Nat} {as : List kx_V} {v : Option kx_V} {G2 : kx_G} {μ2 : kx_M} {oc : Nat} (C : sx_C p s m args c cc nL (sx_on oc) Z D L μ0) (hd : decode cc pc = .ok (.invokevirtual i, 3)) (hq : (oc, i, k, n) ∈ sx_cvt) (hst : (st.take n).reverse = kR 105 :: as) (hlen0 : n ≤ st.length) (hcat : kx_cats (st.drop n) ≤ 8) (hM : sx_Mt l Z D L μ0 d k (kR 105 :: as) G μ v G2 μ2) (hle : sx_lq G G2) (hRf : d + 2 ≤ R.frames) (hRl : 60 * d + 60 ≤ R.locals) (hRc : G2.2.1 - n0 ≤ R.cells) (hRs : sx_sl G2 - s0 ≤ R.slots) (h : sx_at p l e R s m args below meth c nL Z D L μ0 n0 s0 Qf (pc + 3) ls (v.toList ++ st.drop n) G2 μ2) : sx_at p l e R s m args below meth c nL Z D L μ0 n0 s0 Qf pc ls st G μ := by
  intro H locs lsA hR hS hl hn hs
  obtain ⟨hx, hb, hml, hown, hts, hE⟩ := C
  obtain ⟨w, h4, h5, h6⟩ := sx_cvt_ok _ hq
  obtain ⟨h5, h8⟩ := sx_len h5
  have hml2 := sx_code_ok3 k h6
  have hlen : (st.take n).length = as.length + 1 := by rw [← List.length_reverse, hst]; rfl
  have hlen2 : as.length = n - 1 := by rw [List.length_take] at hlen; omega
  have hstk : st.map (sx_c Z) = (as.map (sx_c Z)).reverse ++ Value.ref (sx_ad Z 105) :: (st.drop n).map (sx_c Z) := by
    rw [sx_stk (Z := Z) hlen0, hst]
    simp [sx_c]
  have hrc : ∃ cell : Cell, H[sx_ad Z 105]? = some cell ∧ cell.vm.isStatics = false ∧ s.vm.findClass "java/lang/String" = some cell.cls := by
    obtain ⟨cell, g1, g2, g3, -⟩ := hE.2.2.2.2.2.2.2.2.2.1.kept hS.2.1
    exact ⟨cell, g1, g2, g3⟩
  refine sx_go (va_runV (C := "java/lang/String") (b := sx_ad Z 105) (As := as.map (sx_c Z)) (rest := (st.drop n).map (sx_c Z)) ⟨hx, hb, hml, hown, hts⟩ hM
    (cwV (n - 1) hts (sx_goodL_app (sx_goodL w) (sx_goodIn k h6)) rfl rfl rfl ⟨h4, (sx_code_ok2 k h6).1, (sx_code_ok2 k h6).2, h5⟩ ⟨hRf, by show 8 + (kt_ml k + 11) + 60 * d ≤ R.locals; omega⟩)
    ⟨sx_blind Z D L μ0 _ G μ, hrc, sx_found hE hR hS (kR 105 :: as)⟩ rfl (by simp; omega) hl.2.1 hstk (by show 2 * 0 + _ ≤ 8; rw [sx_cats]; omega) hd ⟨by have := hle.1; omega, by have := hle.2; omega⟩) hS (fun _ _ _ q => q) (fun H1 locs1 h1 h2 => sx_next hle hn hs h hl h1 h2)
theorem si_callI {i k n d o : Nat} {as : List kx_V} {v : Option kx_V} {G2 : kx_G} {μ2 : kx_M} {oc : Nat} (C : sx_C p s m args c cc nL (sx_on oc) Z D L μ0) (hd : decode cc pc = .ok (.invokespecial i, 3)) (hq : (oc, i, k, n) ∈ sx_cis ∨ (oc, i, k, n) ∈ sx_cns) (hst : (st.take n).reverse = kR o :: as) (hlen0 : n ≤ st.length) (hcat : kx_cats (st.drop n) ≤ 8) (hM : sx_Mt l Z D L μ0 d k (kR o :: as) G μ v G2 μ2) (hle : sx_lq G G2) (hRf : d + 2 ≤ R.frames) (hRl : 60 * d + 60 ≤ R.locals) (hRc : G2.2.1 - n0 ≤ R.cells) (hRs : sx_sl G2 - s0 ≤ R.slots) (h : sx_at p l e R s m args below meth c nL Z D L μ0 n0 s0 Qf (pc + 3) ls (v.toList ++ st.drop n) G2 μ2) : sx_at p l e R s m args below meth c nL Z D L μ0 n0 s0 Qf pc ls st G μ := by
  intro H locs lsA hR hS hl hn hs
  obtain ⟨hx, hb, hml, hown, hts, hE⟩ := C
  have hlen : (st.take n).length = as.length + 1 := by rw [← List.length_reverse, hst]; rfl
  have hlen2 : as.length = n - 1 := by rw [List.length_take] at hlen; omega
  have hstk : st.map (sx_c Z) = (as.map (sx_c Z)).reverse ++ Value.ref (sx_ad Z o) :: (st.drop n).map (sx_c Z) := by
    rw [sx_stk (Z := Z) hlen0, hst]
    simp [sx_c]
  have hgo : ∀ {Qa : State → Outcome → State → Prop}, va_Run p l e R s m args below meth c H locs (G.2.1 - n0) (sx_sl G - s0) (G2.2.1 - G.2.1) (sx_sl G2 - sx_sl G) (F0 m pc lsA (st.map (sx_c Z))) ((st.drop n).map (sx_c Z)) (sx_Qc Z D L μ0 v G2 μ2 (Value.ref (sx_ad Z o) :: as.map (sx_c Z)).toArray) (fun q => Z.1 < q) → W p l e R s m args below meth c H locs (G.2.1 - n0) (sx_sl G - s0) Qf (F0 m pc lsA (st.map (sx_c Z))) := fun hr => sx_go hr hS (fun _ _ _ q => q) (fun H1 locs1 h1 h2 => sx_next hle hn hs h hl h1 h2)
  rcases hq with hq | hq
  · obtain ⟨w, h4, h7, h5, h6⟩ := sx_cis_ok _ hq
    obtain ⟨h5, h8⟩ := sx_len h5
    have hml2 := sx_code_ok3 k h6
    refine hgo (Qa := fun _ _ _ => True) (va_runI (b := sx_ad Z o) (As := as.map (sx_c Z)) (rest := (st.drop n).map (sx_c Z)) (bytes := sx_mc k) (maxL := kt_ml k) ⟨hx, hb, hml, hown, hts⟩ hM
      (cwI (n - 1) hts (sx_goodIn k h6) (ws' := sx_tb) (by unfold sx_ww; rw [h7]) rfl rfl (hts _ (w _ (by simp))) (hts _ (w _ (by simp))) (hts _ (w _ (by simp))) h4 ⟨(sx_code_ok2 k h6).1, (sx_code_ok2 k h6).2, h5⟩ ⟨hRf, by show 8 + (kt_ml k + 11) + 60 * d ≤ R.locals; omega⟩)
      ⟨sx_blind Z D L μ0 _ G μ, sx_found hE hR hS (kR o :: as)⟩ rfl (by simp; omega) hl.2.1 hstk (by show 2 * 0 + _ ≤ 8; rw [sx_cats]; omega) hd ⟨by have := hle.1; omega, by have := hle.2; omega⟩)
  · obtain ⟨w, h4, h7, h5, h6⟩ := sx_cns_ok _ hq
    obtain ⟨h5, h8⟩ := sx_len h5
    have hml2 := sx_code_ok3 k h6
    have hnw := hE.2.2.2.2.2.1 _ (sx_cns_nest _ hq)
    refine hgo (Qa := fun _ _ _ => True) (va_runIN (b := sx_ad Z o) (As := as.map (sx_c Z)) (rest := (st.drop n).map (sx_c Z)) (bytes := sx_mc k) (maxL := kt_ml k) ⟨hx, hb, hml, hown, hts⟩ hM
      ⟨va_cnB (n - 1) hts (sx_goodIn k h6) (ws' := sx_tb) (by unfold sx_ww; rw [h7]) rfl rfl hnw (hts _ (w _ (by simp))) ⟨(sx_code_ok2 k h6).1, (sx_code_ok2 k h6).2, h5⟩ ⟨hRf, by show 8 + (kt_ml k + 11) + 60 * d ≤ R.locals; omega⟩, h4, hts _ (w _ (by simp))⟩
      ⟨sx_blind Z D L μ0 _ G μ, sx_found hE hR hS (kR o :: as)⟩ rfl (by simp; omega) hl.2.1 hstk (by show 2 * 0 + _ ≤ 8; rw [sx_cats]; omega) hd ⟨by have := hle.1; omega, by have := hle.2; omega⟩)
end SD
