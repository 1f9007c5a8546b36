/-! shapes only grow -/
def sx_gq (G G' : kx_G) : Prop := (G'.1 = G.1 ∧ G'.2.1 = G.2.1) ∨ ∃ q, G' = kx_new G q
def sx_lq (G G' : kx_G) : Prop := G.2.1 ≤ G'.2.1 ∧ sx_sl G ≤ sx_sl G'
theorem sx_gq_lq {G G' : kx_G} (h : sx_gq G G') (h1 : 1 ≤ G.2.1) : sx_lq G G' := by
  rcases h with ⟨e1, e2⟩ | ⟨q, rfl⟩
  · refine ⟨by omega, ?_⟩
    unfold sx_sl
    rw [e1, e2]
    exact Nat.le_refl _
  · refine ⟨by show G.2.1 ≤ G.2.1 + 1; omega, ?_⟩
    rw [sx_sl_push q h1]
    omega
theorem sx_lq_rf (G : kx_G) : sx_lq G G := ⟨Nat.le_refl _, Nat.le_refl _⟩
theorem sx_lq_tr {A B C : kx_G} (h : sx_lq A B) (k : sx_lq B C) : sx_lq A C := ⟨Nat.le_trans h.1 k.1, Nat.le_trans h.2 k.2⟩
theorem kx_sw_all {x : Int} {f : Nat → Prop} {d : Nat} (h : ∀ t, f t) : ∀ (ts : List Nat) (lo : Int), kx_sw x lo f d ts := by
  intro ts
  induction ts with
  | nil => intro lo; exact h d
  | cons t ts ih => intro lo; simp only [kx_sw]; split; exact h t; exact ih _
theorem kx_br_all {c : Jvm.ClassFile.Cond} {a b : Int} {t f : Prop} (h1 : t) (h2 : f) : kx_br c a b t f := by
  cases c <;> simp only [kx_br] <;> split <;> assumption
set_option maxHeartbeats 4000000 in
theorem kx_do_ge (i : Instr) (nx r1 r2 : Nat) (r3 : Int) (tg : List Nat) (ls : kx_L) (st : List kx_V) (G : kx_G) (μ : kx_M) : @kx_do Prop i nx r1 r2 r3 tg True (fun _ _ _ G' _ => sx_gq G G') (fun _ G' _ => G' = G) (fun _ _ G' _ _ _ _ => G' = G) ls st G μ := by
  have h0 : sx_gq G G := Or.inl ⟨rfl, rfl⟩
  cases i <;> simp only [kx_do, kx_load] <;> (repeat' (first | trivial | exact h0 | exact Or.inr ⟨_, rfl⟩ | exact Or.inl ⟨rfl, rfl⟩ | exact kx_br_all h0 h0 | exact kx_sw_all (fun _ => h0) _ _ | rfl | split))
theorem kx_lf_ge (tb : Nat → kx_E) (pc : Nat) (ls : kx_L) (st : List kx_V) (G : kx_G) (μ : kx_M) : (match kx_lf tb pc ls st G μ with
      | some (.inl (_, _, _, G', _)) => sx_gq G G'
      | some (.inr (.inl (_, G', _))) => G' = G
      | some (.inr (.inr (_, _, G', _, _, _, _))) => G' = G
      | none => True) := by
  have key := kx_st_nat (fun o : Option kx_Lf => (match o with
      | some (.inl (_, _, _, G', _)) => sx_gq G G'
      | some (.inr (.inl (_, G', _))) => G' = G
      | some (.inr (.inr (_, _, G', _, _, _, _))) => G' = G
      | none => True : Prop)) tb none (fun pc ls st G μ => some (.inl (pc, ls, st, G, μ))) (fun v G μ => some (.inr (.inl (v, G, μ)))) (fun m as G μ pc ls rest => some (.inr (.inr (m, as, G, μ, pc, ls, rest)))) pc ls st G μ
  unfold kx_lf
  refine key.mpr ?_
  unfold kx_st
  exact kx_do_ge _ _ _ _ _ _ _ _ _ _
theorem kx_run_ge {E : Nat → List kx_V → kx_G → kx_M → Option kx_V → kx_G → kx_M → Prop} (hE : ∀ m as G μ v G2 μ2, E m as G μ v G2 μ2 → 1 ≤ G.2.1 → sx_lq G G2) (tb : Nat → kx_E) (v : Option kx_V) (GF : kx_G) (μF : kx_M) : ∀ n pc ls st G μ, kx_run E tb v GF μF n pc ls st G μ → 1 ≤ G.2.1 → sx_lq G GF := by
  intro n
  induction n with
  | zero => intro pc ls st G μ h; exact h.elim
  | succ n ih =>
    intro pc ls st G μ h h1
    have hl := kx_lf_ge tb pc ls st G μ
    unfold kx_run at h
    rw [kx_st_lf] at h
    cases hx : kx_lf tb pc ls st G μ with
    | none => rw [hx] at h; exact h.elim
    | some x =>
      rw [hx] at h hl
      match x, h, hl with
      | .inl (pc1, ls1, st1, G1, μ1), h, hl =>
        have := sx_gq_lq hl h1
        exact sx_lq_tr this (ih _ _ _ _ _ h (Nat.le_trans h1 this.1))
      | .inr (.inl (v1, G1, μ1)), h, hl =>
        obtain ⟨-, e, -⟩ := h
        have hl : G1 = G := hl
        rw [← e, hl]
        exact sx_lq_rf G
      | .inr (.inr (m1, as1, G1, μ1, pc1, ls1, rest)), h, hl =>
        obtain ⟨v1, G2, μ2, h2, h3⟩ := h
        have hl : G1 = G := hl
        subst hl
        have := hE _ _ _ _ _ _ _ h2 h1
        exact sx_lq_tr this (ih _ _ _ _ _ h3 (Nat.le_trans h1 this.1))
theorem kx_ev_ge (tbs : Nat → Nat → kx_E) (mls : Nat → Nat) : ∀ d m as G μ v G2 μ2, kx_ev tbs mls d m as G μ v G2 μ2 → 1 ≤ G.2.1 → sx_lq G G2 := by
  intro d
  induction d with
  | zero => intro m as G μ v G2 μ2 h; exact h.elim
  | succ d ih =>
    intro m as G μ v G2 μ2 h h1
    obtain ⟨-, n, h⟩ := h
    exact kx_run_ge ih _ _ _ _ n _ _ _ _ _ h h1
/-! switches -/
theorem kx_sw_in {x : Int} {f : Nat → Prop} {d : Nat} : ∀ (ts : List Nat) (lo : Int), kx_sw x lo f d ts → (∃ k : Nat, k < ts.length ∧ x = lo + k ∧ f (ts.getD k d)) ∨ ((x < lo ∨ lo + ts.length ≤ x) ∧ f d) := by
  intro ts
  induction ts with
  | nil => intro lo h; exact Or.inr ⟨by simp; omega, h⟩
  | cons t ts ih =>
    intro lo h
    simp only [kx_sw] at h
    by_cases e : x = lo
    · rw [if_pos e] at h
      exact Or.inl ⟨0, by simp, by simp [e], h⟩
    · rw [if_neg e] at h
      rcases ih _ h with ⟨k, h1, h2, h3⟩ | ⟨h1, h2⟩
      · exact Or.inl ⟨k + 1, by simp; omega, by rw [h2]; push_cast; omega, h3⟩
      · exact Or.inr ⟨by simp; omega, h2⟩
section SC
variable {p : Program} {l : Launch} {e : Env} {R : Room} {s : State} {m : MethodId} {args : Array Value} {below : List Frame} {meth : Method} {c : Code} {cc : ByteArray} {nL L n0 s0 : Nat} {own : String} {Z : sx_Z} {D : va_G} {μ0 : kx_M} {Qf : State → Prop} {pc : Nat} {ls : kx_L} {st : List kx_V} {G : kx_G} {μ : kx_M}
theorem si_tsw {x df lo hi : Int} {offs : Array Int} {len t0 : Nat} {tg : List Nat} (C : sx_C p s m args c cc nL own Z D L μ0) (hd : decode cc pc = .ok (.tableswitch df lo hi offs, len)) (hdf : (pc : Int) + df = (t0 : Int)) (hlen : hi + 1 = lo + tg.length) (hoff : offs.toList.map (fun q => (pc : Int) + q) = tg.map (fun t : Nat => (t : Int))) (hx0 : kx_in x) (h : kx_sw x lo (fun t => sx_at p l e R s m args below meth c nL Z D L μ0 n0 s0 Qf t ls st G μ) t0 tg) : sx_at p l e R s m args below meth c nL Z D L μ0 n0 s0 Qf pc ls (kI x :: st) G μ := by
  intro H locs lsA hR hS hl hn hs
  obtain ⟨hx, hb, hml, hown, hts, hE⟩ := C
  change W p l e R s m args below meth c H locs _ _ Qf (F0 m pc lsA (.int (Int32.ofInt x) :: st.map (sx_c Z)))
  rcases kx_sw_in tg lo h with ⟨k, h1, h2, h3⟩ | ⟨h1, h2⟩
  · have hk : (offs.toList.map (fun q => (pc : Int) + q))[k]? = some ((tg.getD k t0 : Nat) : Int) := by
      rw [hoff, List.getElem?_map, List.getElem?_eq_getElem h1]
      simp [List.getD_eq_getElem?_getD, h1]
    rw [List.getElem?_map] at hk
    cases ho : offs.toList[k]? with
    | none => rw [ho] at hk; cases hk
    | some off =>
      rw [ho] at hk
      have hk' : (pc : Int) + off = ((tg.getD k t0 : Nat) : Int) := Option.some.inj hk
      refine lv_tableIn hx hb hd (by rw [sx_toI hx0]; omega) (by rw [sx_toI hx0]; omega) (off := off) ?_ hk' (h3 H locs lsA hR hS hl hn hs)
      rw [sx_toI hx0, h2, show (lo + (k : Int) - lo).toNat = k by omega, ← Array.getElem?_toList]
      exact ho
  · refine lv_tableOut hx hb hd (by rw [sx_toI hx0]; omega) hdf (h2 H locs lsA hR hS hl hn hs)
theorem si_lsw {x df a b q1 q2 : Int} {ps : Array (Int × Int)} {len t0 t1 t2 : Nat} (C : sx_C p s m args c cc nL own Z D L μ0) (hd : decode cc pc = .ok (.lookupswitch df ps, len)) (hps : ps.toList = [(a, q1), (b, q2)]) (ha : a = 0) (hbb : b = 1) (hdf : (pc : Int) + df = (t0 : Int)) (h1 : (pc : Int) + q1 = (t1 : Int)) (h2 : (pc : Int) + q2 = (t2 : Int)) (hx0 : kx_in x) (h : kx_sw x 0 (fun t => sx_at p l e R s m args below meth c nL Z D L μ0 n0 s0 Qf t ls st G μ) t0 [t1, t2]) : sx_at p l e R s m args below meth c nL Z D L μ0 n0 s0 Qf pc ls (kI x :: st) G μ := by
  intro H locs lsA hR hS hl hn hs
  obtain ⟨hx, hb, hml, hown, hts, hE⟩ := C
  subst ha; subst hbb
  change W p l e R s m args below meth c H locs _ _ Qf (F0 m pc lsA (.int (Int32.ofInt x) :: st.map (sx_c Z)))
  have hso : (ps.toList.zip (ps.toList.drop 1)).all (fun (a, next) => a.1 < next.1) = true := by rw [hps]; rfl
  simp only [kx_sw] at h
  by_cases e0 : x = 0
  · rw [if_pos e0] at h
    refine lv_lookup hx hb hd hso (off := q1) ?_ h1 (h H locs lsA hR hS hl hn hs)
    rw [hps, sx_toI hx0, Op.lookupswitch.offset_cons, if_pos (by omega)]
  · rw [if_neg e0] at h
    by_cases e1 : x = 0 + 1
    · rw [if_pos e1] at h
      refine lv_lookup hx hb hd hso (off := q2) ?_ h2 (h H locs lsA hR hS hl hn hs)
      rw [hps, sx_toI hx0, Op.lookupswitch.offset_cons, if_neg (by omega), Op.lookupswitch.offset_cons, if_pos (by omega)]
    · rw [if_neg e1] at h
      refine lv_lookup hx hb hd hso (off := df) ?_ hdf (h H locs lsA hR hS hl hn hs)
      rw [hps, sx_toI hx0, Op.lookupswitch.offset_cons, if_neg (by omega), Op.lookupswitch.offset_cons, if_neg (by omega)]
      rfl
end SC
