/-! THE CLAIM OUT OF THE RUN OF THE LAW ON THE SMALL MACHINE -/
/-- what is left to prove, over the small machine alone: on every script of at most 384 numbers the law's run ends with 1 -/
def pure_law : Prop := ∀ (L : Nat) (xs : Nat → Int32), L ≤ 384 → kx_wx (ke 30) kt_LawW (fun v G _ => v = some (kI 1) ∧ G.2.1 ≤ 91 ∧ sx_sl G ≤ 500000) 0 [some (kR 104), none, none, none] [] (kg_i L) (kg_m xs)
theorem start_of_pure (hpure : pure_law) {p : Program} {e : Env} {s : State} {m : MethodId} {below : List Frame} {meth : Method} {c : Code} (l : Launch) {b L : Nat} {xs : Nat → Int32} (hL : L ≤ 384) (C0 : lw_At p s m meth c b L xs) : W p l e room_1 s m #[Value.ref b] below meth c s.heap [] 0 0 (lw_Z below #[Value.ref b] s) (entryFrame m ([Value.ref b] : List Value).toArray 4) := by
  obtain ⟨Z, D, hZ, h104, hE⟩ := sx_begin hL C0
  obtain ⟨n, v, GF, μF, hrun, hv, h91, hsl⟩ := hpure L xs hL
  obtain ⟨hx, hb, hr, hml, hown, hts, hX, hbl, hlocks, hgv⟩ := C0
  have ht2 : ∀ w ∈ sx_tb, w.before #[Value.ref b] s = true := fun w hw => hts w (sx_good w hw).1
  have had : sx_ad Z 104 = b := by unfold sx_ad; rw [if_neg (by decide)]; exact h104
  have key := sx_runs (R := room_1) (below := below) (Qf := lw_Z below #[Value.ref b] s) (n0 := 1) (s0 := 0) (vF := v) (GF := GF) (μF := μF) (l := l) (e := e) (meth := meth) (ini := false) (rt := some .boolean) (tb := kt_LawW) (d := 30) (oc := 9)
    (⟨hx, hb, hml, hown, ht2, hE⟩ : sx_C p s m #[Value.ref b] c code 4 (sx_on 9) Z D L (kg_m xs))
    (fun q => by cases q) ?_ ?_ ?_ (fun k' as' G' μ' v' G2' μ2' hk' h' hl' h1' => sx_main l Z D L (kg_m xs) 30 k' as' G' μ' v' G2' μ2' hk' h' h1' (Nat.le_trans hl'.1 h91)) (show 30 + 2 ≤ 2048 by decide) (show 60 * 30 + 60 ≤ 84000 by decide) (show GF.2.1 - 1 ≤ 600000 by omega) (show sx_sl GF - 0 ≤ 7302250 by omega) h91 sv_law n 0 _ _ _ _ hrun (Nat.le_refl 1)
  · have hlv : sx_lv Z ((lg_sl ([.ref b] : List Value) ++ List.replicate (4 - (lg_sl ([.ref b] : List Value)).length) Slot.unset).toArray) 4 [some (kR 104), none, none, none] := by
      have := sx_lv_ent (Z := Z) (as := [kR 104]) (n := 4) (Nat.le_of_ble_eq_true rfl)
      have e : ([kR 104] : List kx_V).map (sx_c Z) = [.ref b] := by show [Value.ref (sx_ad Z 104)] = _; rw [had]
      rw [e] at this
      exact this
    rw [lg_entry_eq]
    exact key s.heap [] _ (sx_rel_i (by omega)) va_S.rf hlv (Nat.le_refl 1) (Nat.le_refl 0)
  · intro pc ls x hd hr' hv' H locs lsA hR hS hl hn hs
    rw [hv] at hv'
    cases hv'
    refine va_forget (fun q hq => by have := hS.2.2 q hq; omega) ?_
    refine W.widen (k := 600000) (n := 7302250) (by omega) (by omega) ?_
    exact lw_ret hx hb hr hlocks hd
  · intro pc ls x hd hr' hv' H locs lsA hR hS hl hn hs
    cases hr'
  · intro pc ls hd hr' hv' H locs lsA hR hS hl hn hs
    cases hr'
